theorem dX12_valueAt_0 : decode cX12_valueAt 0 = .ok (.sipush 31250, 3) := by decide +kernel
theorem dX12_valueAt_3 : decode cX12_valueAt 3 = .ok (.iload_n 0, 1) := by decide +kernel
theorem dX12_valueAt_4 : decode cX12_valueAt 4 = .ok (.iconst 2, 1) := by decide +kernel
theorem dX12_valueAt_5 : decode cX12_valueAt 5 = .ok (.isub, 1) := by decide +kernel
theorem dX12_valueAt_6 : decode cX12_valueAt 6 = .ok (.imul, 1) := by decide +kernel
theorem dX12_valueAt_7 : decode cX12_valueAt 7 = .ok (.sipush 15625, 3) := by decide +kernel
theorem dX12_valueAt_10 : decode cX12_valueAt 10 = .ok (.iload_n 1, 1) := by decide +kernel
theorem dX12_valueAt_11 : decode cX12_valueAt 11 = .ok (.imul, 1) := by decide +kernel
theorem dX12_valueAt_12 : decode cX12_valueAt 12 = .ok (.iadd, 1) := by decide +kernel
theorem dX12_valueAt_13 : decode cX12_valueAt 13 = .ok (.sipush 625, 3) := by decide +kernel
theorem dX12_valueAt_16 : decode cX12_valueAt 16 = .ok (.iload_n 2, 1) := by decide +kernel
theorem dX12_valueAt_17 : decode cX12_valueAt 17 = .ok (.imul, 1) := by decide +kernel
theorem dX12_valueAt_18 : decode cX12_valueAt 18 = .ok (.iadd, 1) := by decide +kernel
theorem dX12_valueAt_19 : decode cX12_valueAt 19 = .ok (.bipush 25, 2) := by decide +kernel
theorem dX12_valueAt_21 : decode cX12_valueAt 21 = .ok (.iload_n 3, 1) := by decide +kernel
theorem dX12_valueAt_22 : decode cX12_valueAt 22 = .ok (.imul, 1) := by decide +kernel
theorem dX12_valueAt_23 : decode cX12_valueAt 23 = .ok (.iadd, 1) := by decide +kernel
theorem dX12_valueAt_24 : decode cX12_valueAt 24 = .ok (.iload 4, 2) := by decide +kernel
theorem dX12_valueAt_26 : decode cX12_valueAt 26 = .ok (.iadd, 1) := by decide +kernel
theorem dX12_valueAt_27 : decode cX12_valueAt 27 = .ok (.ireturn, 1) := by decide +kernel
theorem dX12_clears_0 : decode cX12_clears 0 = .ok (.iconst 0, 1) := by decide +kernel
theorem dX12_clears_1 : decode cX12_clears 1 = .ok (.istore_n 2, 1) := by decide +kernel
theorem dX12_clears_2 : decode cX12_clears 2 = .ok (.iload_n 2, 1) := by decide +kernel
theorem dX12_clears_3 : decode cX12_clears 3 = .ok (.sipush 31250, 3) := by decide +kernel
theorem dX12_clears_6 : decode cX12_clears 6 = .ok (.if_icmp .ge 25, 3) := by decide +kernel
theorem dX12_clears_9 : decode cX12_clears 9 = .ok (.aload_n 0, 1) := by decide +kernel
theorem dX12_clears_10 : decode cX12_clears 10 = .ok (.getfield 101, 3) := by decide +kernel
theorem dX12_clears_13 : decode cX12_clears 13 = .ok (.sipush 31250, 3) := by decide +kernel
theorem dX12_clears_16 : decode cX12_clears 16 = .ok (.iload_n 1, 1) := by decide +kernel
theorem dX12_clears_17 : decode cX12_clears 17 = .ok (.iconst 2, 1) := by decide +kernel
theorem dX12_clears_18 : decode cX12_clears 18 = .ok (.isub, 1) := by decide +kernel
theorem dX12_clears_19 : decode cX12_clears 19 = .ok (.imul, 1) := by decide +kernel
theorem dX12_clears_20 : decode cX12_clears 20 = .ok (.iload_n 2, 1) := by decide +kernel
theorem dX12_clears_21 : decode cX12_clears 21 = .ok (.iadd, 1) := by decide +kernel
theorem dX12_clears_22 : decode cX12_clears 22 = .ok (.bipush (-2), 2) := by decide +kernel
theorem dX12_clears_24 : decode cX12_clears 24 = .ok (.iastore, 1) := by decide +kernel
theorem dX12_clears_25 : decode cX12_clears 25 = .ok (.iinc 2 1, 3) := by decide +kernel
theorem dX12_clears_28 : decode cX12_clears 28 = .ok (.goto (-26), 3) := by decide +kernel
theorem dX12_clears_31 : decode cX12_clears 31 = .ok (.iconst 0, 1) := by decide +kernel
theorem dX12_clears_32 : decode cX12_clears 32 = .ok (.istore_n 2, 1) := by decide +kernel
theorem dX12_clears_33 : decode cX12_clears 33 = .ok (.iload_n 2, 1) := by decide +kernel
theorem dX12_clears_34 : decode cX12_clears 34 = .ok (.aload_n 0, 1) := by decide +kernel
theorem dX12_clears_35 : decode cX12_clears 35 = .ok (.invokevirtual 113, 3) := by decide +kernel
theorem dX12_clears_38 : decode cX12_clears 38 = .ok (.if_icmp .ge 88, 3) := by decide +kernel
theorem dX12_clears_41 : decode cX12_clears 41 = .ok (.iconst 0, 1) := by decide +kernel
theorem dX12_clears_42 : decode cX12_clears 42 = .ok (.istore_n 3, 1) := by decide +kernel
theorem dX12_clears_43 : decode cX12_clears 43 = .ok (.iload_n 3, 1) := by decide +kernel
theorem dX12_clears_44 : decode cX12_clears 44 = .ok (.aload_n 0, 1) := by decide +kernel
theorem dX12_clears_45 : decode cX12_clears 45 = .ok (.invokevirtual 113, 3) := by decide +kernel
theorem dX12_clears_48 : decode cX12_clears 48 = .ok (.if_icmp .ge 72, 3) := by decide +kernel
theorem dX12_clears_51 : decode cX12_clears 51 = .ok (.iconst 0, 1) := by decide +kernel
theorem dX12_clears_52 : decode cX12_clears 52 = .ok (.istore 4, 2) := by decide +kernel
theorem dX12_clears_54 : decode cX12_clears 54 = .ok (.iload 4, 2) := by decide +kernel
theorem dX12_clears_56 : decode cX12_clears 56 = .ok (.aload_n 0, 1) := by decide +kernel
theorem dX12_clears_57 : decode cX12_clears 57 = .ok (.invokevirtual 113, 3) := by decide +kernel
theorem dX12_clears_60 : decode cX12_clears 60 = .ok (.if_icmp .ge 54, 3) := by decide +kernel
theorem dX12_clears_63 : decode cX12_clears 63 = .ok (.iconst 0, 1) := by decide +kernel
theorem dX12_clears_64 : decode cX12_clears 64 = .ok (.istore 5, 2) := by decide +kernel
theorem dX12_clears_66 : decode cX12_clears 66 = .ok (.iload 5, 2) := by decide +kernel
theorem dX12_clears_68 : decode cX12_clears 68 = .ok (.iconst 2, 1) := by decide +kernel
theorem dX12_clears_69 : decode cX12_clears 69 = .ok (.if_icmp .ge 39, 3) := by decide +kernel
theorem dX12_clears_72 : decode cX12_clears 72 = .ok (.aload_n 0, 1) := by decide +kernel
theorem dX12_clears_73 : decode cX12_clears 73 = .ok (.iload_n 1, 1) := by decide +kernel
theorem dX12_clears_74 : decode cX12_clears 74 = .ok (.iload 5, 2) := by decide +kernel
theorem dX12_clears_76 : decode cX12_clears 76 = .ok (.iload_n 2, 1) := by decide +kernel
theorem dX12_clears_77 : decode cX12_clears 77 = .ok (.iload_n 3, 1) := by decide +kernel
theorem dX12_clears_78 : decode cX12_clears 78 = .ok (.iload 4, 2) := by decide +kernel
theorem dX12_clears_80 : decode cX12_clears 80 = .ok (.invokevirtual 490, 3) := by decide +kernel
theorem dX12_clears_83 : decode cX12_clears 83 = .ok (.ifCond .eq 19, 3) := by decide +kernel
theorem dX12_clears_86 : decode cX12_clears 86 = .ok (.aload_n 0, 1) := by decide +kernel
theorem dX12_clears_87 : decode cX12_clears 87 = .ok (.getfield 101, 3) := by decide +kernel
theorem dX12_clears_90 : decode cX12_clears 90 = .ok (.iload_n 1, 1) := by decide +kernel
theorem dX12_clears_91 : decode cX12_clears 91 = .ok (.iload 5, 2) := by decide +kernel
theorem dX12_clears_93 : decode cX12_clears 93 = .ok (.iload_n 2, 1) := by decide +kernel
theorem dX12_clears_94 : decode cX12_clears 94 = .ok (.iload_n 3, 1) := by decide +kernel
theorem dX12_clears_95 : decode cX12_clears 95 = .ok (.iload 4, 2) := by decide +kernel
theorem dX12_clears_97 : decode cX12_clears 97 = .ok (.invokestatic 483, 3) := by decide +kernel
theorem dX12_clears_100 : decode cX12_clears 100 = .ok (.iconst (-1), 1) := by decide +kernel
theorem dX12_clears_101 : decode cX12_clears 101 = .ok (.iastore, 1) := by decide +kernel
theorem dX12_clears_102 : decode cX12_clears 102 = .ok (.iinc 5 1, 3) := by decide +kernel
theorem dX12_clears_105 : decode cX12_clears 105 = .ok (.goto (-39), 3) := by decide +kernel
theorem dX12_clears_108 : decode cX12_clears 108 = .ok (.iinc 4 1, 3) := by decide +kernel
theorem dX12_clears_111 : decode cX12_clears 111 = .ok (.goto (-57), 3) := by decide +kernel
theorem dX12_clears_114 : decode cX12_clears 114 = .ok (.iinc 3 1, 3) := by decide +kernel
theorem dX12_clears_117 : decode cX12_clears 117 = .ok (.goto (-74), 3) := by decide +kernel
theorem dX12_clears_120 : decode cX12_clears 120 = .ok (.iinc 2 1, 3) := by decide +kernel
theorem dX12_clears_123 : decode cX12_clears 123 = .ok (.goto (-90), 3) := by decide +kernel
theorem dX12_clears_126 : decode cX12_clears 126 = .ok (.return_, 1) := by decide +kernel
theorem dX12_common_0 : decode cX12_common 0 = .ok (.iload_n 0, 1) := by decide +kernel
theorem dX12_common_1 : decode cX12_common 1 = .ok (.istore_n 2, 1) := by decide +kernel
theorem dX12_common_2 : decode cX12_common 2 = .ok (.iload_n 1, 1) := by decide +kernel
theorem dX12_common_3 : decode cX12_common 3 = .ok (.istore_n 3, 1) := by decide +kernel
theorem dX12_common_4 : decode cX12_common 4 = .ok (.iload_n 3, 1) := by decide +kernel
theorem dX12_common_5 : decode cX12_common 5 = .ok (.ifCond .eq 16, 3) := by decide +kernel
theorem dX12_common_8 : decode cX12_common 8 = .ok (.iload_n 2, 1) := by decide +kernel
theorem dX12_common_9 : decode cX12_common 9 = .ok (.iload_n 3, 1) := by decide +kernel
theorem dX12_common_10 : decode cX12_common 10 = .ok (.irem, 1) := by decide +kernel
theorem dX12_common_11 : decode cX12_common 11 = .ok (.istore 4, 2) := by decide +kernel
theorem dX12_common_13 : decode cX12_common 13 = .ok (.iload_n 3, 1) := by decide +kernel
theorem dX12_common_14 : decode cX12_common 14 = .ok (.istore_n 2, 1) := by decide +kernel
theorem dX12_common_15 : decode cX12_common 15 = .ok (.iload 4, 2) := by decide +kernel
theorem dX12_common_17 : decode cX12_common 17 = .ok (.istore_n 3, 1) := by decide +kernel
theorem dX12_common_18 : decode cX12_common 18 = .ok (.goto (-14), 3) := by decide +kernel
theorem dX12_common_21 : decode cX12_common 21 = .ok (.iload_n 2, 1) := by decide +kernel
theorem dX12_common_22 : decode cX12_common 22 = .ok (.ireturn, 1) := by decide +kernel
theorem dX12_continuationAt_0 : decode cX12_continuationAt 0 = .ok (.aload_n 0, 1) := by decide +kernel
theorem dX12_continuationAt_1 : decode cX12_continuationAt 1 = .ok (.iload_n 1, 1) := by decide +kernel
theorem dX12_continuationAt_2 : decode cX12_continuationAt 2 = .ok (.iload_n 2, 1) := by decide +kernel
theorem dX12_continuationAt_3 : decode cX12_continuationAt 3 = .ok (.invokevirtual 452, 3) := by decide +kernel
theorem dX12_continuationAt_6 : decode cX12_continuationAt 6 = .ok (.istore_n 3, 1) := by decide +kernel
theorem dX12_continuationAt_7 : decode cX12_continuationAt 7 = .ok (.iload_n 3, 1) := by decide +kernel
theorem dX12_continuationAt_8 : decode cX12_continuationAt 8 = .ok (.iconst (-1), 1) := by decide +kernel
theorem dX12_continuationAt_9 : decode cX12_continuationAt 9 = .ok (.if_icmp .ne 7, 3) := by decide +kernel
theorem dX12_continuationAt_12 : decode cX12_continuationAt 12 = .ok (.iconst 0, 1) := by decide +kernel
theorem dX12_continuationAt_13 : decode cX12_continuationAt 13 = .ok (.goto 4, 3) := by decide +kernel
theorem dX12_continuationAt_16 : decode cX12_continuationAt 16 = .ok (.iload_n 3, 1) := by decide +kernel
theorem dX12_continuationAt_17 : decode cX12_continuationAt 17 = .ok (.ireturn, 1) := by decide +kernel
theorem dX12_continued_0 : decode cX12_continued 0 = .ok (.iconst 0, 1) := by decide +kernel
theorem dX12_continued_1 : decode cX12_continued 1 = .ok (.istore_n 1, 1) := by decide +kernel
theorem dX12_continued_2 : decode cX12_continued 2 = .ok (.iconst 0, 1) := by decide +kernel
theorem dX12_continued_3 : decode cX12_continued 3 = .ok (.istore_n 2, 1) := by decide +kernel
theorem dX12_continued_4 : decode cX12_continued 4 = .ok (.iload_n 2, 1) := by decide +kernel
theorem dX12_continued_5 : decode cX12_continued 5 = .ok (.aload_n 0, 1) := by decide +kernel
theorem dX12_continued_6 : decode cX12_continued 6 = .ok (.getfield 29, 3) := by decide +kernel
theorem dX12_continued_9 : decode cX12_continued 9 = .ok (.iconst 0, 1) := by decide +kernel
theorem dX12_continued_10 : decode cX12_continued 10 = .ok (.iaload, 1) := by decide +kernel
theorem dX12_continued_11 : decode cX12_continued 11 = .ok (.if_icmp .ge 26, 3) := by decide +kernel
theorem dX12_continued_14 : decode cX12_continued 14 = .ok (.iload_n 1, 1) := by decide +kernel
theorem dX12_continued_15 : decode cX12_continued 15 = .ok (.aload_n 0, 1) := by decide +kernel
theorem dX12_continued_16 : decode cX12_continued 16 = .ok (.getfield 54, 3) := by decide +kernel
theorem dX12_continued_19 : decode cX12_continued 19 = .ok (.iload_n 2, 1) := by decide +kernel
theorem dX12_continued_20 : decode cX12_continued 20 = .ok (.iaload, 1) := by decide +kernel
theorem dX12_continued_21 : decode cX12_continued 21 = .ok (.ifCond .le 7, 3) := by decide +kernel
theorem dX12_continued_24 : decode cX12_continued 24 = .ok (.iconst 1, 1) := by decide +kernel
theorem dX12_continued_25 : decode cX12_continued 25 = .ok (.goto 4, 3) := by decide +kernel
theorem dX12_continued_28 : decode cX12_continued 28 = .ok (.iconst 0, 1) := by decide +kernel
theorem dX12_continued_29 : decode cX12_continued 29 = .ok (.iadd, 1) := by decide +kernel
theorem dX12_continued_30 : decode cX12_continued 30 = .ok (.istore_n 1, 1) := by decide +kernel
theorem dX12_continued_31 : decode cX12_continued 31 = .ok (.iinc 2 1, 3) := by decide +kernel
theorem dX12_continued_34 : decode cX12_continued 34 = .ok (.goto (-30), 3) := by decide +kernel
theorem dX12_continued_37 : decode cX12_continued 37 = .ok (.iload_n 1, 1) := by decide +kernel
theorem dX12_continued_38 : decode cX12_continued 38 = .ok (.ireturn, 1) := by decide +kernel
theorem dX12_continuations_0 : decode cX12_continuations 0 = .ok (.aload_n 0, 1) := by decide +kernel
theorem dX12_continuations_1 : decode cX12_continuations 1 = .ok (.iload_n 1, 1) := by decide +kernel
theorem dX12_continuations_2 : decode cX12_continuations 2 = .ok (.invokestatic 397, 3) := by decide +kernel
theorem dX12_continuations_5 : decode cX12_continuations 5 = .ok (.iconst 1, 1) := by decide +kernel
theorem dX12_continuations_6 : decode cX12_continuations 6 = .ok (.invokevirtual 237, 3) := by decide +kernel
theorem dX12_continuations_9 : decode cX12_continuations 9 = .ok (.ifCond .eq 15, 3) := by decide +kernel
theorem dX12_continuations_12 : decode cX12_continuations 12 = .ok (.aload_n 0, 1) := by decide +kernel
theorem dX12_continuations_13 : decode cX12_continuations 13 = .ok (.aload_n 0, 1) := by decide +kernel
theorem dX12_continuations_14 : decode cX12_continuations 14 = .ok (.invokevirtual 284, 3) := by decide +kernel
theorem dX12_continuations_17 : decode cX12_continuations 17 = .ok (.iconst 2, 1) := by decide +kernel
theorem dX12_continuations_18 : decode cX12_continuations 18 = .ok (.invokevirtual 237, 3) := by decide +kernel
theorem dX12_continuations_21 : decode cX12_continuations 21 = .ok (.ifCond .ne 5, 3) := by decide +kernel
theorem dX12_continuations_24 : decode cX12_continuations 24 = .ok (.iconst 0, 1) := by decide +kernel
theorem dX12_continuations_25 : decode cX12_continuations 25 = .ok (.ireturn, 1) := by decide +kernel
theorem dX12_continuations_26 : decode cX12_continuations 26 = .ok (.aload_n 0, 1) := by decide +kernel
theorem dX12_continuations_27 : decode cX12_continuations 27 = .ok (.iload_n 1, 1) := by decide +kernel
theorem dX12_continuations_28 : decode cX12_continuations 28 = .ok (.invokevirtual 443, 3) := by decide +kernel
theorem dX12_continuations_31 : decode cX12_continuations 31 = .ok (.aload_n 0, 1) := by decide +kernel
theorem dX12_continuations_32 : decode cX12_continuations 32 = .ok (.invokevirtual 446, 3) := by decide +kernel
theorem dX12_continuations_35 : decode cX12_continuations 35 = .ok (.ireturn, 1) := by decide +kernel
theorem dX12_passes_0 : decode cX12_passes 0 = .ok (.iconst 0, 1) := by decide +kernel
theorem dX12_passes_1 : decode cX12_passes 1 = .ok (.istore 5, 2) := by decide +kernel
theorem dX12_passes_3 : decode cX12_passes 3 = .ok (.iload 5, 2) := by decide +kernel
theorem dX12_passes_5 : decode cX12_passes 5 = .ok (.aload_n 0, 1) := by decide +kernel
theorem dX12_passes_6 : decode cX12_passes 6 = .ok (.getfield 79, 3) := by decide +kernel
theorem dX12_passes_9 : decode cX12_passes 9 = .ok (.iload_n 1, 1) := by decide +kernel
theorem dX12_passes_10 : decode cX12_passes 10 = .ok (.iload_n 2, 1) := by decide +kernel
theorem dX12_passes_11 : decode cX12_passes 11 = .ok (.invokestatic 400, 3) := by decide +kernel
theorem dX12_passes_14 : decode cX12_passes 14 = .ok (.iaload, 1) := by decide +kernel
theorem dX12_passes_15 : decode cX12_passes 15 = .ok (.if_icmp .gt 31, 3) := by decide +kernel
theorem dX12_passes_18 : decode cX12_passes 18 = .ok (.aload_n 0, 1) := by decide +kernel
theorem dX12_passes_19 : decode cX12_passes 19 = .ok (.getfield 73, 3) := by decide +kernel
theorem dX12_passes_22 : decode cX12_passes 22 = .ok (.iload_n 1, 1) := by decide +kernel
theorem dX12_passes_23 : decode cX12_passes 23 = .ok (.iload_n 2, 1) := by decide +kernel
theorem dX12_passes_24 : decode cX12_passes 24 = .ok (.iload 5, 2) := by decide +kernel
theorem dX12_passes_26 : decode cX12_passes 26 = .ok (.invokestatic 403, 3) := by decide +kernel
theorem dX12_passes_29 : decode cX12_passes 29 = .ok (.aload_n 3, 1) := by decide +kernel
theorem dX12_passes_30 : decode cX12_passes 30 = .ok (.iload 4, 2) := by decide +kernel
theorem dX12_passes_32 : decode cX12_passes 32 = .ok (.invokestatic 330, 3) := by decide +kernel
theorem dX12_passes_35 : decode cX12_passes 35 = .ok (.ifCond .eq 5, 3) := by decide +kernel
theorem dX12_passes_38 : decode cX12_passes 38 = .ok (.iconst 1, 1) := by decide +kernel
theorem dX12_passes_39 : decode cX12_passes 39 = .ok (.ireturn, 1) := by decide +kernel
theorem dX12_passes_40 : decode cX12_passes 40 = .ok (.iinc 5 1, 3) := by decide +kernel
theorem dX12_passes_43 : decode cX12_passes 43 = .ok (.goto (-40), 3) := by decide +kernel
theorem dX12_passes_46 : decode cX12_passes 46 = .ok (.iconst 0, 1) := by decide +kernel
theorem dX12_passes_47 : decode cX12_passes 47 = .ok (.ireturn, 1) := by decide +kernel
theorem dX12_passesHere_0 : decode cX12_passesHere 0 = .ok (.aload_n 0, 1) := by decide +kernel
theorem dX12_passesHere_1 : decode cX12_passesHere 1 = .ok (.iload_n 1, 1) := by decide +kernel
theorem dX12_passesHere_2 : decode cX12_passesHere 2 = .ok (.iload_n 2, 1) := by decide +kernel
theorem dX12_passesHere_3 : decode cX12_passesHere 3 = .ok (.aload_n 0, 1) := by decide +kernel
theorem dX12_passesHere_4 : decode cX12_passesHere 4 = .ok (.getfield 32, 3) := by decide +kernel
theorem dX12_passesHere_7 : decode cX12_passesHere 7 = .ok (.aload_n 0, 1) := by decide +kernel
theorem dX12_passesHere_8 : decode cX12_passesHere 8 = .ok (.invokevirtual 127, 3) := by decide +kernel
theorem dX12_passesHere_11 : decode cX12_passesHere 11 = .ok (.invokevirtual 410, 3) := by decide +kernel
theorem dX12_passesHere_14 : decode cX12_passesHere 14 = .ok (.ireturn, 1) := by decide +kernel
theorem dX12_gamesHere_0 : decode cX12_gamesHere 0 = .ok (.iconst 0, 1) := by decide +kernel
theorem dX12_gamesHere_1 : decode cX12_gamesHere 1 = .ok (.istore 5, 2) := by decide +kernel
theorem dX12_gamesHere_3 : decode cX12_gamesHere 3 = .ok (.iconst 0, 1) := by decide +kernel
theorem dX12_gamesHere_4 : decode cX12_gamesHere 4 = .ok (.istore 6, 2) := by decide +kernel
theorem dX12_gamesHere_6 : decode cX12_gamesHere 6 = .ok (.iload 6, 2) := by decide +kernel
theorem dX12_gamesHere_8 : decode cX12_gamesHere 8 = .ok (.aload_n 0, 1) := by decide +kernel
theorem dX12_gamesHere_9 : decode cX12_gamesHere 9 = .ok (.getfield 69, 3) := by decide +kernel
theorem dX12_gamesHere_12 : decode cX12_gamesHere 12 = .ok (.iload_n 1, 1) := by decide +kernel
theorem dX12_gamesHere_13 : decode cX12_gamesHere 13 = .ok (.iaload, 1) := by decide +kernel
theorem dX12_gamesHere_14 : decode cX12_gamesHere 14 = .ok (.if_icmp .ge 69, 3) := by decide +kernel
theorem dX12_gamesHere_17 : decode cX12_gamesHere 17 = .ok (.iload_n 1, 1) := by decide +kernel
theorem dX12_gamesHere_18 : decode cX12_gamesHere 18 = .ok (.iload 6, 2) := by decide +kernel
theorem dX12_gamesHere_20 : decode cX12_gamesHere 20 = .ok (.invokestatic 400, 3) := by decide +kernel
theorem dX12_gamesHere_23 : decode cX12_gamesHere 23 = .ok (.istore 7, 2) := by decide +kernel
theorem dX12_gamesHere_25 : decode cX12_gamesHere 25 = .ok (.iload 5, 2) := by decide +kernel
theorem dX12_gamesHere_27 : decode cX12_gamesHere 27 = .ok (.iload_n 2, 1) := by decide +kernel
theorem dX12_gamesHere_28 : decode cX12_gamesHere 28 = .ok (.iconst (-1), 1) := by decide +kernel
theorem dX12_gamesHere_29 : decode cX12_gamesHere 29 = .ok (.if_icmp .eq 14, 3) := by decide +kernel
theorem dX12_gamesHere_32 : decode cX12_gamesHere 32 = .ok (.aload_n 0, 1) := by decide +kernel
theorem dX12_gamesHere_33 : decode cX12_gamesHere 33 = .ok (.getfield 82, 3) := by decide +kernel
theorem dX12_gamesHere_36 : decode cX12_gamesHere 36 = .ok (.iload 7, 2) := by decide +kernel
theorem dX12_gamesHere_38 : decode cX12_gamesHere 38 = .ok (.iaload, 1) := by decide +kernel
theorem dX12_gamesHere_39 : decode cX12_gamesHere 39 = .ok (.iload_n 2, 1) := by decide +kernel
theorem dX12_gamesHere_40 : decode cX12_gamesHere 40 = .ok (.if_icmp .ne 33, 3) := by decide +kernel
theorem dX12_gamesHere_43 : decode cX12_gamesHere 43 = .ok (.aload_n 0, 1) := by decide +kernel
theorem dX12_gamesHere_44 : decode cX12_gamesHere 44 = .ok (.getfield 85, 3) := by decide +kernel
theorem dX12_gamesHere_47 : decode cX12_gamesHere 47 = .ok (.iload 7, 2) := by decide +kernel
theorem dX12_gamesHere_49 : decode cX12_gamesHere 49 = .ok (.iaload, 1) := by decide +kernel
theorem dX12_gamesHere_50 : decode cX12_gamesHere 50 = .ok (.iload_n 3, 1) := by decide +kernel
theorem dX12_gamesHere_51 : decode cX12_gamesHere 51 = .ok (.iload 4, 2) := by decide +kernel
theorem dX12_gamesHere_53 : decode cX12_gamesHere 53 = .ok (.invokestatic 117, 3) := by decide +kernel
theorem dX12_gamesHere_56 : decode cX12_gamesHere 56 = .ok (.ifCond .eq 17, 3) := by decide +kernel
theorem dX12_gamesHere_59 : decode cX12_gamesHere 59 = .ok (.aload_n 0, 1) := by decide +kernel
theorem dX12_gamesHere_60 : decode cX12_gamesHere 60 = .ok (.iload_n 1, 1) := by decide +kernel
theorem dX12_gamesHere_61 : decode cX12_gamesHere 61 = .ok (.iload 6, 2) := by decide +kernel
theorem dX12_gamesHere_63 : decode cX12_gamesHere 63 = .ok (.invokevirtual 424, 3) := by decide +kernel
theorem dX12_gamesHere_66 : decode cX12_gamesHere 66 = .ok (.ifCond .eq 7, 3) := by decide +kernel
theorem dX12_gamesHere_69 : decode cX12_gamesHere 69 = .ok (.iconst 1, 1) := by decide +kernel
theorem dX12_gamesHere_70 : decode cX12_gamesHere 70 = .ok (.goto 4, 3) := by decide +kernel
theorem dX12_gamesHere_73 : decode cX12_gamesHere 73 = .ok (.iconst 0, 1) := by decide +kernel
theorem dX12_gamesHere_74 : decode cX12_gamesHere 74 = .ok (.iadd, 1) := by decide +kernel
theorem dX12_gamesHere_75 : decode cX12_gamesHere 75 = .ok (.istore 5, 2) := by decide +kernel
theorem dX12_gamesHere_77 : decode cX12_gamesHere 77 = .ok (.iinc 6 1, 3) := by decide +kernel
theorem dX12_gamesHere_80 : decode cX12_gamesHere 80 = .ok (.goto (-74), 3) := by decide +kernel
theorem dX12_gamesHere_83 : decode cX12_gamesHere 83 = .ok (.iload 5, 2) := by decide +kernel
theorem dX12_gamesHere_85 : decode cX12_gamesHere 85 = .ok (.ireturn, 1) := by decide +kernel
theorem dX12_count_0 : decode cX12_count 0 = .ok (.aload_n 0, 1) := by decide +kernel
theorem dX12_count_1 : decode cX12_count 1 = .ok (.iload_n 1, 1) := by decide +kernel
theorem dX12_count_2 : decode cX12_count 2 = .ok (.invokestatic 397, 3) := by decide +kernel
theorem dX12_count_5 : decode cX12_count 5 = .ok (.iconst 1, 1) := by decide +kernel
theorem dX12_count_6 : decode cX12_count 6 = .ok (.invokevirtual 237, 3) := by decide +kernel
theorem dX12_count_9 : decode cX12_count 9 = .ok (.ifCond .eq 16, 3) := by decide +kernel
theorem dX12_count_12 : decode cX12_count 12 = .ok (.aload_n 0, 1) := by decide +kernel
theorem dX12_count_13 : decode cX12_count 13 = .ok (.iload_n 1, 1) := by decide +kernel
theorem dX12_count_14 : decode cX12_count 14 = .ok (.iconst (-1), 1) := by decide +kernel
theorem dX12_count_15 : decode cX12_count 15 = .ok (.iconst 0, 1) := by decide +kernel
theorem dX12_count_16 : decode cX12_count 16 = .ok (.sipush 9999, 3) := by decide +kernel
theorem dX12_count_19 : decode cX12_count 19 = .ok (.invokevirtual 427, 3) := by decide +kernel
theorem dX12_count_22 : decode cX12_count 22 = .ok (.goto 4, 3) := by decide +kernel
theorem dX12_count_25 : decode cX12_count 25 = .ok (.iconst 0, 1) := by decide +kernel
theorem dX12_count_26 : decode cX12_count 26 = .ok (.ireturn, 1) := by decide +kernel
theorem dX12_rowsOfTwo_0 : decode cX12_rowsOfTwo 0 = .ok (.iconst 0, 1) := by decide +kernel
theorem dX12_rowsOfTwo_1 : decode cX12_rowsOfTwo 1 = .ok (.istore_n 2, 1) := by decide +kernel
theorem dX12_rowsOfTwo_2 : decode cX12_rowsOfTwo 2 = .ok (.aload_n 0, 1) := by decide +kernel
theorem dX12_rowsOfTwo_3 : decode cX12_rowsOfTwo 3 = .ok (.iload_n 1, 1) := by decide +kernel
theorem dX12_rowsOfTwo_4 : decode cX12_rowsOfTwo 4 = .ok (.invokevirtual 233, 3) := by decide +kernel
theorem dX12_rowsOfTwo_7 : decode cX12_rowsOfTwo 7 = .ok (.iconst 0, 1) := by decide +kernel
theorem dX12_rowsOfTwo_8 : decode cX12_rowsOfTwo 8 = .ok (.istore_n 3, 1) := by decide +kernel
theorem dX12_rowsOfTwo_9 : decode cX12_rowsOfTwo 9 = .ok (.iload_n 3, 1) := by decide +kernel
theorem dX12_rowsOfTwo_10 : decode cX12_rowsOfTwo 10 = .ok (.aload_n 0, 1) := by decide +kernel
theorem dX12_rowsOfTwo_11 : decode cX12_rowsOfTwo 11 = .ok (.getfield 29, 3) := by decide +kernel
theorem dX12_rowsOfTwo_14 : decode cX12_rowsOfTwo 14 = .ok (.iload_n 1, 1) := by decide +kernel
theorem dX12_rowsOfTwo_15 : decode cX12_rowsOfTwo 15 = .ok (.iaload, 1) := by decide +kernel
theorem dX12_rowsOfTwo_16 : decode cX12_rowsOfTwo 16 = .ok (.if_icmp .ge 33, 3) := by decide +kernel
theorem dX12_rowsOfTwo_19 : decode cX12_rowsOfTwo 19 = .ok (.aload_n 0, 1) := by decide +kernel
theorem dX12_rowsOfTwo_20 : decode cX12_rowsOfTwo 20 = .ok (.iload_n 1, 1) := by decide +kernel
theorem dX12_rowsOfTwo_21 : decode cX12_rowsOfTwo 21 = .ok (.iload_n 3, 1) := by decide +kernel
theorem dX12_rowsOfTwo_22 : decode cX12_rowsOfTwo 22 = .ok (.invokevirtual 306, 3) := by decide +kernel
theorem dX12_rowsOfTwo_25 : decode cX12_rowsOfTwo 25 = .ok (.aload_n 0, 1) := by decide +kernel
theorem dX12_rowsOfTwo_26 : decode cX12_rowsOfTwo 26 = .ok (.iload_n 1, 1) := by decide +kernel
theorem dX12_rowsOfTwo_27 : decode cX12_rowsOfTwo 27 = .ok (.iconst 1, 1) := by decide +kernel
theorem dX12_rowsOfTwo_28 : decode cX12_rowsOfTwo 28 = .ok (.iadd, 1) := by decide +kernel
theorem dX12_rowsOfTwo_29 : decode cX12_rowsOfTwo 29 = .ok (.invokevirtual 233, 3) := by decide +kernel
theorem dX12_rowsOfTwo_32 : decode cX12_rowsOfTwo 32 = .ok (.iload_n 2, 1) := by decide +kernel
theorem dX12_rowsOfTwo_33 : decode cX12_rowsOfTwo 33 = .ok (.aload_n 0, 1) := by decide +kernel
theorem dX12_rowsOfTwo_34 : decode cX12_rowsOfTwo 34 = .ok (.getfield 29, 3) := by decide +kernel
theorem dX12_rowsOfTwo_37 : decode cX12_rowsOfTwo 37 = .ok (.iload_n 1, 1) := by decide +kernel
theorem dX12_rowsOfTwo_38 : decode cX12_rowsOfTwo 38 = .ok (.iconst 1, 1) := by decide +kernel
theorem dX12_rowsOfTwo_39 : decode cX12_rowsOfTwo 39 = .ok (.iadd, 1) := by decide +kernel
theorem dX12_rowsOfTwo_40 : decode cX12_rowsOfTwo 40 = .ok (.iaload, 1) := by decide +kernel
theorem dX12_rowsOfTwo_41 : decode cX12_rowsOfTwo 41 = .ok (.iadd, 1) := by decide +kernel
theorem dX12_rowsOfTwo_42 : decode cX12_rowsOfTwo 42 = .ok (.istore_n 2, 1) := by decide +kernel
theorem dX12_rowsOfTwo_43 : decode cX12_rowsOfTwo 43 = .ok (.iinc 3 1, 3) := by decide +kernel
theorem dX12_rowsOfTwo_46 : decode cX12_rowsOfTwo 46 = .ok (.goto (-37), 3) := by decide +kernel
theorem dX12_rowsOfTwo_49 : decode cX12_rowsOfTwo 49 = .ok (.iload_n 2, 1) := by decide +kernel
theorem dX12_rowsOfTwo_50 : decode cX12_rowsOfTwo 50 = .ok (.ireturn, 1) := by decide +kernel
theorem dX12_countMoves_0 : decode cX12_countMoves 0 = .ok (.aload_n 0, 1) := by decide +kernel
theorem dX12_countMoves_1 : decode cX12_countMoves 1 = .ok (.iload_n 1, 1) := by decide +kernel
theorem dX12_countMoves_2 : decode cX12_countMoves 2 = .ok (.iconst 1, 1) := by decide +kernel
theorem dX12_countMoves_3 : decode cX12_countMoves 3 = .ok (.iconst 3, 1) := by decide +kernel
theorem dX12_countMoves_4 : decode cX12_countMoves 4 = .ok (.invokestatic 117, 3) := by decide +kernel
theorem dX12_countMoves_7 : decode cX12_countMoves 7 = .ok (.iconst 1, 1) := by decide +kernel
theorem dX12_countMoves_8 : decode cX12_countMoves 8 = .ok (.invokevirtual 237, 3) := by decide +kernel
theorem dX12_countMoves_11 : decode cX12_countMoves 11 = .ok (.ifCond .eq 15, 3) := by decide +kernel
theorem dX12_countMoves_14 : decode cX12_countMoves 14 = .ok (.aload_n 0, 1) := by decide +kernel
theorem dX12_countMoves_15 : decode cX12_countMoves 15 = .ok (.aload_n 0, 1) := by decide +kernel
theorem dX12_countMoves_16 : decode cX12_countMoves 16 = .ok (.invokevirtual 284, 3) := by decide +kernel
theorem dX12_countMoves_19 : decode cX12_countMoves 19 = .ok (.iconst 2, 1) := by decide +kernel
theorem dX12_countMoves_20 : decode cX12_countMoves 20 = .ok (.invokevirtual 237, 3) := by decide +kernel
theorem dX12_countMoves_23 : decode cX12_countMoves 23 = .ok (.ifCond .ne 5, 3) := by decide +kernel
theorem dX12_countMoves_26 : decode cX12_countMoves 26 = .ok (.iconst 0, 1) := by decide +kernel
theorem dX12_countMoves_27 : decode cX12_countMoves 27 = .ok (.ireturn, 1) := by decide +kernel
theorem dX12_countMoves_28 : decode cX12_countMoves 28 = .ok (.iload_n 1, 1) := by decide +kernel
theorem dX12_countMoves_29 : decode cX12_countMoves 29 = .ok (.iconst 2, 1) := by decide +kernel
theorem dX12_countMoves_30 : decode cX12_countMoves 30 = .ok (.if_icmp .ne 9, 3) := by decide +kernel
theorem dX12_countMoves_33 : decode cX12_countMoves 33 = .ok (.aload_n 0, 1) := by decide +kernel
theorem dX12_countMoves_34 : decode cX12_countMoves 34 = .ok (.iconst 0, 1) := by decide +kernel
theorem dX12_countMoves_35 : decode cX12_countMoves 35 = .ok (.invokevirtual 340, 3) := by decide +kernel
theorem dX12_countMoves_38 : decode cX12_countMoves 38 = .ok (.ireturn, 1) := by decide +kernel
theorem dX12_countMoves_39 : decode cX12_countMoves 39 = .ok (.aload_n 0, 1) := by decide +kernel
theorem dX12_countMoves_40 : decode cX12_countMoves 40 = .ok (.iconst 0, 1) := by decide +kernel
theorem dX12_countMoves_41 : decode cX12_countMoves 41 = .ok (.invokevirtual 233, 3) := by decide +kernel
theorem dX12_countMoves_44 : decode cX12_countMoves 44 = .ok (.iload_n 1, 1) := by decide +kernel
theorem dX12_countMoves_45 : decode cX12_countMoves 45 = .ok (.iconst 1, 1) := by decide +kernel
theorem dX12_countMoves_46 : decode cX12_countMoves 46 = .ok (.if_icmp .ne 12, 3) := by decide +kernel
theorem dX12_countMoves_49 : decode cX12_countMoves 49 = .ok (.aload_n 0, 1) := by decide +kernel
theorem dX12_countMoves_50 : decode cX12_countMoves 50 = .ok (.getfield 29, 3) := by decide +kernel
theorem dX12_countMoves_53 : decode cX12_countMoves 53 = .ok (.iconst 0, 1) := by decide +kernel
theorem dX12_countMoves_54 : decode cX12_countMoves 54 = .ok (.iaload, 1) := by decide +kernel
theorem dX12_countMoves_55 : decode cX12_countMoves 55 = .ok (.goto 4, 3) := by decide +kernel
theorem dX12_countMoves_58 : decode cX12_countMoves 58 = .ok (.iconst 0, 1) := by decide +kernel
theorem dX12_countMoves_59 : decode cX12_countMoves 59 = .ok (.istore_n 3, 1) := by decide +kernel
theorem dX12_countMoves_60 : decode cX12_countMoves 60 = .ok (.iconst 0, 1) := by decide +kernel
theorem dX12_countMoves_61 : decode cX12_countMoves 61 = .ok (.istore 4, 2) := by decide +kernel
theorem dX12_countMoves_63 : decode cX12_countMoves 63 = .ok (.iload 4, 2) := by decide +kernel
theorem dX12_countMoves_65 : decode cX12_countMoves 65 = .ok (.aload_n 0, 1) := by decide +kernel
theorem dX12_countMoves_66 : decode cX12_countMoves 66 = .ok (.getfield 29, 3) := by decide +kernel
theorem dX12_countMoves_69 : decode cX12_countMoves 69 = .ok (.iconst 0, 1) := by decide +kernel
theorem dX12_countMoves_70 : decode cX12_countMoves 70 = .ok (.iaload, 1) := by decide +kernel
theorem dX12_countMoves_71 : decode cX12_countMoves 71 = .ok (.if_icmp .ge 29, 3) := by decide +kernel
theorem dX12_countMoves_74 : decode cX12_countMoves 74 = .ok (.iload_n 1, 1) := by decide +kernel
theorem dX12_countMoves_75 : decode cX12_countMoves 75 = .ok (.iconst 3, 1) := by decide +kernel
theorem dX12_countMoves_76 : decode cX12_countMoves 76 = .ok (.if_icmp .ne 24, 3) := by decide +kernel
theorem dX12_countMoves_79 : decode cX12_countMoves 79 = .ok (.aload_n 0, 1) := by decide +kernel
theorem dX12_countMoves_80 : decode cX12_countMoves 80 = .ok (.iconst 0, 1) := by decide +kernel
theorem dX12_countMoves_81 : decode cX12_countMoves 81 = .ok (.iload 4, 2) := by decide +kernel
theorem dX12_countMoves_83 : decode cX12_countMoves 83 = .ok (.invokevirtual 306, 3) := by decide +kernel
theorem dX12_countMoves_86 : decode cX12_countMoves 86 = .ok (.iload_n 3, 1) := by decide +kernel
theorem dX12_countMoves_87 : decode cX12_countMoves 87 = .ok (.aload_n 0, 1) := by decide +kernel
theorem dX12_countMoves_88 : decode cX12_countMoves 88 = .ok (.iconst 1, 1) := by decide +kernel
theorem dX12_countMoves_89 : decode cX12_countMoves 89 = .ok (.invokevirtual 340, 3) := by decide +kernel
theorem dX12_countMoves_92 : decode cX12_countMoves 92 = .ok (.iadd, 1) := by decide +kernel
theorem dX12_countMoves_93 : decode cX12_countMoves 93 = .ok (.istore_n 3, 1) := by decide +kernel
theorem dX12_countMoves_94 : decode cX12_countMoves 94 = .ok (.iinc 4 1, 3) := by decide +kernel
theorem dX12_countMoves_97 : decode cX12_countMoves 97 = .ok (.goto (-34), 3) := by decide +kernel
theorem dX12_countMoves_100 : decode cX12_countMoves 100 = .ok (.iload_n 3, 1) := by decide +kernel
theorem dX12_countMoves_101 : decode cX12_countMoves 101 = .ok (.ireturn, 1) := by decide +kernel
theorem dX12_countWith_0 : decode cX12_countWith 0 = .ok (.aload_n 0, 1) := by decide +kernel
theorem dX12_countWith_1 : decode cX12_countWith 1 = .ok (.iload_n 1, 1) := by decide +kernel
theorem dX12_countWith_2 : decode cX12_countWith 2 = .ok (.invokestatic 397, 3) := by decide +kernel
theorem dX12_countWith_5 : decode cX12_countWith 5 = .ok (.iconst 1, 1) := by decide +kernel
theorem dX12_countWith_6 : decode cX12_countWith 6 = .ok (.invokevirtual 237, 3) := by decide +kernel
theorem dX12_countWith_9 : decode cX12_countWith 9 = .ok (.ifCond .eq 30, 3) := by decide +kernel
theorem dX12_countWith_12 : decode cX12_countWith 12 = .ok (.aload_n 0, 1) := by decide +kernel
theorem dX12_countWith_13 : decode cX12_countWith 13 = .ok (.iload_n 2, 1) := by decide +kernel
theorem dX12_countWith_14 : decode cX12_countWith 14 = .ok (.iconst 0, 1) := by decide +kernel
theorem dX12_countWith_15 : decode cX12_countWith 15 = .ok (.iconst 2, 1) := by decide +kernel
theorem dX12_countWith_16 : decode cX12_countWith 16 = .ok (.invokestatic 117, 3) := by decide +kernel
theorem dX12_countWith_19 : decode cX12_countWith 19 = .ok (.iconst 2, 1) := by decide +kernel
theorem dX12_countWith_20 : decode cX12_countWith 20 = .ok (.invokevirtual 237, 3) := by decide +kernel
theorem dX12_countWith_23 : decode cX12_countWith 23 = .ok (.ifCond .eq 16, 3) := by decide +kernel
theorem dX12_countWith_26 : decode cX12_countWith 26 = .ok (.aload_n 0, 1) := by decide +kernel
theorem dX12_countWith_27 : decode cX12_countWith 27 = .ok (.iload_n 1, 1) := by decide +kernel
theorem dX12_countWith_28 : decode cX12_countWith 28 = .ok (.iload_n 2, 1) := by decide +kernel
theorem dX12_countWith_29 : decode cX12_countWith 29 = .ok (.iconst 0, 1) := by decide +kernel
theorem dX12_countWith_30 : decode cX12_countWith 30 = .ok (.sipush 9999, 3) := by decide +kernel
theorem dX12_countWith_33 : decode cX12_countWith 33 = .ok (.invokevirtual 427, 3) := by decide +kernel
theorem dX12_countWith_36 : decode cX12_countWith 36 = .ok (.goto 4, 3) := by decide +kernel
theorem dX12_countWith_39 : decode cX12_countWith 39 = .ok (.iconst 0, 1) := by decide +kernel
theorem dX12_countWith_40 : decode cX12_countWith 40 = .ok (.ireturn, 1) := by decide +kernel
theorem dX12_countYears_0 : decode cX12_countYears 0 = .ok (.aload_n 0, 1) := by decide +kernel
theorem dX12_countYears_1 : decode cX12_countYears 1 = .ok (.iload_n 1, 1) := by decide +kernel
theorem dX12_countYears_2 : decode cX12_countYears 2 = .ok (.invokestatic 397, 3) := by decide +kernel
theorem dX12_countYears_5 : decode cX12_countYears 5 = .ok (.iconst 1, 1) := by decide +kernel
theorem dX12_countYears_6 : decode cX12_countYears 6 = .ok (.invokevirtual 237, 3) := by decide +kernel
theorem dX12_countYears_9 : decode cX12_countYears 9 = .ok (.ifCond .eq 32, 3) := by decide +kernel
theorem dX12_countYears_12 : decode cX12_countYears 12 = .ok (.aload_n 0, 1) := by decide +kernel
theorem dX12_countYears_13 : decode cX12_countYears 13 = .ok (.iload_n 2, 1) := by decide +kernel
theorem dX12_countYears_14 : decode cX12_countYears 14 = .ok (.iload_n 3, 1) := by decide +kernel
theorem dX12_countYears_15 : decode cX12_countYears 15 = .ok (.if_icmp .gt 7, 3) := by decide +kernel
theorem dX12_countYears_18 : decode cX12_countYears 18 = .ok (.iconst 1, 1) := by decide +kernel
theorem dX12_countYears_19 : decode cX12_countYears 19 = .ok (.goto 4, 3) := by decide +kernel
theorem dX12_countYears_22 : decode cX12_countYears 22 = .ok (.iconst 0, 1) := by decide +kernel
theorem dX12_countYears_23 : decode cX12_countYears 23 = .ok (.iconst 2, 1) := by decide +kernel
theorem dX12_countYears_24 : decode cX12_countYears 24 = .ok (.invokevirtual 237, 3) := by decide +kernel
theorem dX12_countYears_27 : decode cX12_countYears 27 = .ok (.ifCond .eq 14, 3) := by decide +kernel
theorem dX12_countYears_30 : decode cX12_countYears 30 = .ok (.aload_n 0, 1) := by decide +kernel
theorem dX12_countYears_31 : decode cX12_countYears 31 = .ok (.iload_n 1, 1) := by decide +kernel
theorem dX12_countYears_32 : decode cX12_countYears 32 = .ok (.iconst (-1), 1) := by decide +kernel
theorem dX12_countYears_33 : decode cX12_countYears 33 = .ok (.iload_n 2, 1) := by decide +kernel
theorem dX12_countYears_34 : decode cX12_countYears 34 = .ok (.iload_n 3, 1) := by decide +kernel
theorem dX12_countYears_35 : decode cX12_countYears 35 = .ok (.invokevirtual 427, 3) := by decide +kernel
theorem dX12_countYears_38 : decode cX12_countYears 38 = .ok (.goto 4, 3) := by decide +kernel
theorem dX12_countYears_41 : decode cX12_countYears 41 = .ok (.iconst 0, 1) := by decide +kernel
theorem dX12_countYears_42 : decode cX12_countYears 42 = .ok (.ireturn, 1) := by decide +kernel
theorem dX12_isEndingKind_0 : decode cX12_isEndingKind 0 = .ok (.iload_n 0, 1) := by decide +kernel
theorem dX12_isEndingKind_1 : decode cX12_isEndingKind 1 = .ok (.iconst 2, 1) := by decide +kernel
theorem dX12_isEndingKind_2 : decode cX12_isEndingKind 2 = .ok (.iconst 5, 1) := by decide +kernel
theorem dX12_isEndingKind_3 : decode cX12_isEndingKind 3 = .ok (.invokestatic 117, 3) := by decide +kernel
theorem dX12_isEndingKind_6 : decode cX12_isEndingKind 6 = .ok (.ireturn, 1) := by decide +kernel
theorem dX12_endingHere_0 : decode cX12_endingHere 0 = .ok (.aload_n 0, 1) := by decide +kernel
theorem dX12_endingHere_1 : decode cX12_endingHere 1 = .ok (.invokevirtual 192, 3) := by decide +kernel
theorem dX12_endingHere_4 : decode cX12_endingHere 4 = .ok (.iconst 0, 1) := by decide +kernel
theorem dX12_endingHere_5 : decode cX12_endingHere 5 = .ok (.istore_n 1, 1) := by decide +kernel
theorem dX12_endingHere_6 : decode cX12_endingHere 6 = .ok (.iconst 0, 1) := by decide +kernel
theorem dX12_endingHere_7 : decode cX12_endingHere 7 = .ok (.istore_n 2, 1) := by decide +kernel
theorem dX12_endingHere_8 : decode cX12_endingHere 8 = .ok (.iconst 0, 1) := by decide +kernel
theorem dX12_endingHere_9 : decode cX12_endingHere 9 = .ok (.istore_n 3, 1) := by decide +kernel
theorem dX12_endingHere_10 : decode cX12_endingHere 10 = .ok (.iload_n 3, 1) := by decide +kernel
theorem dX12_endingHere_11 : decode cX12_endingHere 11 = .ok (.aload_n 0, 1) := by decide +kernel
theorem dX12_endingHere_12 : decode cX12_endingHere 12 = .ok (.invokevirtual 113, 3) := by decide +kernel
theorem dX12_endingHere_15 : decode cX12_endingHere 15 = .ok (.if_icmp .ge 49, 3) := by decide +kernel
theorem dX12_endingHere_18 : decode cX12_endingHere 18 = .ok (.iload_n 2, 1) := by decide +kernel
theorem dX12_endingHere_19 : decode cX12_endingHere 19 = .ok (.aload_n 0, 1) := by decide +kernel
theorem dX12_endingHere_20 : decode cX12_endingHere 20 = .ok (.iconst 0, 1) := by decide +kernel
theorem dX12_endingHere_21 : decode cX12_endingHere 21 = .ok (.iload_n 3, 1) := by decide +kernel
theorem dX12_endingHere_22 : decode cX12_endingHere 22 = .ok (.invokevirtual 141, 3) := by decide +kernel
theorem dX12_endingHere_25 : decode cX12_endingHere 25 = .ok (.ifCond .ne 7, 3) := by decide +kernel
theorem dX12_endingHere_28 : decode cX12_endingHere 28 = .ok (.iconst 0, 1) := by decide +kernel
theorem dX12_endingHere_29 : decode cX12_endingHere 29 = .ok (.goto 4, 3) := by decide +kernel
theorem dX12_endingHere_32 : decode cX12_endingHere 32 = .ok (.iconst 1, 1) := by decide +kernel
theorem dX12_endingHere_33 : decode cX12_endingHere 33 = .ok (.iadd, 1) := by decide +kernel
theorem dX12_endingHere_34 : decode cX12_endingHere 34 = .ok (.istore_n 2, 1) := by decide +kernel
theorem dX12_endingHere_35 : decode cX12_endingHere 35 = .ok (.aload_n 0, 1) := by decide +kernel
theorem dX12_endingHere_36 : decode cX12_endingHere 36 = .ok (.iconst 0, 1) := by decide +kernel
theorem dX12_endingHere_37 : decode cX12_endingHere 37 = .ok (.iload_n 3, 1) := by decide +kernel
theorem dX12_endingHere_38 : decode cX12_endingHere 38 = .ok (.invokevirtual 141, 3) := by decide +kernel
theorem dX12_endingHere_41 : decode cX12_endingHere 41 = .ok (.invokestatic 500, 3) := by decide +kernel
theorem dX12_endingHere_44 : decode cX12_endingHere 44 = .ok (.ifCond .eq 12, 3) := by decide +kernel
theorem dX12_endingHere_47 : decode cX12_endingHere 47 = .ok (.aload_n 0, 1) := by decide +kernel
theorem dX12_endingHere_48 : decode cX12_endingHere 48 = .ok (.iconst 0, 1) := by decide +kernel
theorem dX12_endingHere_49 : decode cX12_endingHere 49 = .ok (.iload_n 3, 1) := by decide +kernel
theorem dX12_endingHere_50 : decode cX12_endingHere 50 = .ok (.invokevirtual 141, 3) := by decide +kernel
theorem dX12_endingHere_53 : decode cX12_endingHere 53 = .ok (.goto 4, 3) := by decide +kernel
theorem dX12_endingHere_56 : decode cX12_endingHere 56 = .ok (.iload_n 1, 1) := by decide +kernel
theorem dX12_endingHere_57 : decode cX12_endingHere 57 = .ok (.istore_n 1, 1) := by decide +kernel
theorem dX12_endingHere_58 : decode cX12_endingHere 58 = .ok (.iinc 3 1, 3) := by decide +kernel
theorem dX12_endingHere_61 : decode cX12_endingHere 61 = .ok (.goto (-51), 3) := by decide +kernel
theorem dX12_endingHere_64 : decode cX12_endingHere 64 = .ok (.iload_n 1, 1) := by decide +kernel
theorem dX12_endingHere_65 : decode cX12_endingHere 65 = .ok (.ifCond .eq 48, 3) := by decide +kernel
theorem dX12_endingHere_68 : decode cX12_endingHere 68 = .ok (.iload_n 2, 1) := by decide +kernel
theorem dX12_endingHere_69 : decode cX12_endingHere 69 = .ok (.iconst 3, 1) := by decide +kernel
theorem dX12_endingHere_70 : decode cX12_endingHere 70 = .ok (.if_icmp .ne 43, 3) := by decide +kernel
theorem dX12_endingHere_73 : decode cX12_endingHere 73 = .ok (.aload_n 0, 1) := by decide +kernel
theorem dX12_endingHere_74 : decode cX12_endingHere 74 = .ok (.getfield 104, 3) := by decide +kernel
theorem dX12_endingHere_77 : decode cX12_endingHere 77 = .ok (.iload_n 1, 1) := by decide +kernel
theorem dX12_endingHere_78 : decode cX12_endingHere 78 = .ok (.baload, 1) := by decide +kernel
theorem dX12_endingHere_79 : decode cX12_endingHere 79 = .ok (.ifCond .eq 34, 3) := by decide +kernel
theorem dX12_endingHere_82 : decode cX12_endingHere 82 = .ok (.aload_n 0, 1) := by decide +kernel
theorem dX12_endingHere_83 : decode cX12_endingHere 83 = .ok (.getfield 16, 3) := by decide +kernel
theorem dX12_endingHere_86 : decode cX12_endingHere 86 = .ok (.bipush 65, 2) := by decide +kernel
theorem dX12_endingHere_88 : decode cX12_endingHere 88 = .ok (.iaload, 1) := by decide +kernel
theorem dX12_endingHere_89 : decode cX12_endingHere 89 = .ok (.ifCond .ne 24, 3) := by decide +kernel
theorem dX12_endingHere_92 : decode cX12_endingHere 92 = .ok (.aload_n 0, 1) := by decide +kernel
theorem dX12_endingHere_93 : decode cX12_endingHere 93 = .ok (.iconst 0, 1) := by decide +kernel
theorem dX12_endingHere_94 : decode cX12_endingHere 94 = .ok (.invokevirtual 201, 3) := by decide +kernel
theorem dX12_endingHere_97 : decode cX12_endingHere 97 = .ok (.iconst (-1), 1) := by decide +kernel
theorem dX12_endingHere_98 : decode cX12_endingHere 98 = .ok (.if_icmp .ne 15, 3) := by decide +kernel
theorem dX12_endingHere_101 : decode cX12_endingHere 101 = .ok (.aload_n 0, 1) := by decide +kernel
theorem dX12_endingHere_102 : decode cX12_endingHere 102 = .ok (.iconst 0, 1) := by decide +kernel
theorem dX12_endingHere_103 : decode cX12_endingHere 103 = .ok (.invokevirtual 189, 3) := by decide +kernel
theorem dX12_endingHere_106 : decode cX12_endingHere 106 = .ok (.ifCond .eq 7, 3) := by decide +kernel
theorem dX12_endingHere_109 : decode cX12_endingHere 109 = .ok (.iload_n 1, 1) := by decide +kernel
theorem dX12_endingHere_110 : decode cX12_endingHere 110 = .ok (.goto 4, 3) := by decide +kernel
theorem dX12_endingHere_113 : decode cX12_endingHere 113 = .ok (.iconst 0, 1) := by decide +kernel
theorem dX12_endingHere_114 : decode cX12_endingHere 114 = .ok (.ireturn, 1) := by decide +kernel
theorem dX12_endingValue_0 : decode cX12_endingValue 0 = .ok (.aload_n 0, 1) := by decide +kernel
theorem dX12_endingValue_1 : decode cX12_endingValue 1 = .ok (.invokevirtual 512, 3) := by decide +kernel
theorem dX12_endingValue_4 : decode cX12_endingValue 4 = .ok (.istore_n 1, 1) := by decide +kernel
theorem dX12_endingValue_5 : decode cX12_endingValue 5 = .ok (.aload_n 0, 1) := by decide +kernel
theorem dX12_endingValue_6 : decode cX12_endingValue 6 = .ok (.iload_n 1, 1) := by decide +kernel
theorem dX12_endingValue_7 : decode cX12_endingValue 7 = .ok (.ifCond .eq 7, 3) := by decide +kernel
theorem dX12_endingValue_10 : decode cX12_endingValue 10 = .ok (.iconst 1, 1) := by decide +kernel
theorem dX12_endingValue_11 : decode cX12_endingValue 11 = .ok (.goto 4, 3) := by decide +kernel
theorem dX12_endingValue_14 : decode cX12_endingValue 14 = .ok (.iconst 0, 1) := by decide +kernel
theorem dX12_endingValue_15 : decode cX12_endingValue 15 = .ok (.iconst 1, 1) := by decide +kernel
theorem dX12_endingValue_16 : decode cX12_endingValue 16 = .ok (.invokevirtual 237, 3) := by decide +kernel
theorem dX12_endingValue_19 : decode cX12_endingValue 19 = .ok (.ifCond .ne 5, 3) := by decide +kernel
theorem dX12_endingValue_22 : decode cX12_endingValue 22 = .ok (.iconst 0, 1) := by decide +kernel
theorem dX12_endingValue_23 : decode cX12_endingValue 23 = .ok (.ireturn, 1) := by decide +kernel
theorem dX12_endingValue_24 : decode cX12_endingValue 24 = .ok (.iconst 0, 1) := by decide +kernel
theorem dX12_endingValue_25 : decode cX12_endingValue 25 = .ok (.istore_n 2, 1) := by decide +kernel
theorem dX12_endingValue_26 : decode cX12_endingValue 26 = .ok (.aload_n 0, 1) := by decide +kernel
theorem dX12_endingValue_27 : decode cX12_endingValue 27 = .ok (.iconst 0, 1) := by decide +kernel
theorem dX12_endingValue_28 : decode cX12_endingValue 28 = .ok (.iload_n 2, 1) := by decide +kernel
theorem dX12_endingValue_29 : decode cX12_endingValue 29 = .ok (.invokevirtual 141, 3) := by decide +kernel
theorem dX12_endingValue_32 : decode cX12_endingValue 32 = .ok (.iload_n 1, 1) := by decide +kernel
theorem dX12_endingValue_33 : decode cX12_endingValue 33 = .ok (.if_icmp .eq 9, 3) := by decide +kernel
theorem dX12_endingValue_36 : decode cX12_endingValue 36 = .ok (.iinc 2 1, 3) := by decide +kernel
theorem dX12_endingValue_39 : decode cX12_endingValue 39 = .ok (.goto (-13), 3) := by decide +kernel
theorem dX12_endingValue_42 : decode cX12_endingValue 42 = .ok (.aload_n 0, 1) := by decide +kernel
theorem dX12_endingValue_43 : decode cX12_endingValue 43 = .ok (.getfield 101, 3) := by decide +kernel
theorem dX12_endingValue_46 : decode cX12_endingValue 46 = .ok (.iload_n 1, 1) := by decide +kernel
theorem dX12_endingValue_47 : decode cX12_endingValue 47 = .ok (.iconst 1, 1) := by decide +kernel
theorem dX12_endingValue_48 : decode cX12_endingValue 48 = .ok (.aload_n 0, 1) := by decide +kernel
theorem dX12_endingValue_49 : decode cX12_endingValue 49 = .ok (.iconst 0, 1) := by decide +kernel
theorem dX12_endingValue_50 : decode cX12_endingValue 50 = .ok (.invokevirtual 183, 3) := by decide +kernel
theorem dX12_endingValue_53 : decode cX12_endingValue 53 = .ok (.isub, 1) := by decide +kernel
theorem dX12_endingValue_54 : decode cX12_endingValue 54 = .ok (.aload_n 0, 1) := by decide +kernel
theorem dX12_endingValue_55 : decode cX12_endingValue 55 = .ok (.iconst 0, 1) := by decide +kernel
theorem dX12_endingValue_56 : decode cX12_endingValue 56 = .ok (.iconst 1, 1) := by decide +kernel
theorem dX12_endingValue_57 : decode cX12_endingValue 57 = .ok (.invokevirtual 164, 3) := by decide +kernel
theorem dX12_endingValue_60 : decode cX12_endingValue 60 = .ok (.aload_n 0, 1) := by decide +kernel
theorem dX12_endingValue_61 : decode cX12_endingValue 61 = .ok (.iconst 0, 1) := by decide +kernel
theorem dX12_endingValue_62 : decode cX12_endingValue 62 = .ok (.iconst 0, 1) := by decide +kernel
theorem dX12_endingValue_63 : decode cX12_endingValue 63 = .ok (.invokevirtual 164, 3) := by decide +kernel
theorem dX12_endingValue_66 : decode cX12_endingValue 66 = .ok (.iload_n 2, 1) := by decide +kernel
theorem dX12_endingValue_67 : decode cX12_endingValue 67 = .ok (.invokestatic 483, 3) := by decide +kernel
theorem dX12_endingValue_70 : decode cX12_endingValue 70 = .ok (.iaload, 1) := by decide +kernel
theorem dX12_endingValue_71 : decode cX12_endingValue 71 = .ok (.ireturn, 1) := by decide +kernel
theorem dX12_errors_0 : decode cX12_errors 0 = .ok (.aload_n 0, 1) := by decide +kernel
theorem dX12_errors_1 : decode cX12_errors 1 = .ok (.iconst 0, 1) := by decide +kernel
theorem dX12_errors_2 : decode cX12_errors 2 = .ok (.putfield 110, 3) := by decide +kernel
theorem dX12_errors_5 : decode cX12_errors 5 = .ok (.iconst 0, 1) := by decide +kernel
theorem dX12_errors_6 : decode cX12_errors 6 = .ok (.ireturn, 1) := by decide +kernel
theorem dX12_isBracket_0 : decode cX12_isBracket 0 = .ok (.iload_n 0, 1) := by decide +kernel
theorem dX12_isBracket_1 : decode cX12_isBracket 1 = .ok (.bipush 40, 2) := by decide +kernel
theorem dX12_isBracket_3 : decode cX12_isBracket 3 = .ok (.if_icmp .eq 21, 3) := by decide +kernel
theorem dX12_isBracket_6 : decode cX12_isBracket 6 = .ok (.iload_n 0, 1) := by decide +kernel
theorem dX12_isBracket_7 : decode cX12_isBracket 7 = .ok (.bipush 41, 2) := by decide +kernel
theorem dX12_isBracket_9 : decode cX12_isBracket 9 = .ok (.if_icmp .eq 15, 3) := by decide +kernel
theorem dX12_isBracket_12 : decode cX12_isBracket 12 = .ok (.iload_n 0, 1) := by decide +kernel
theorem dX12_isBracket_13 : decode cX12_isBracket 13 = .ok (.bipush 123, 2) := by decide +kernel
theorem dX12_isBracket_15 : decode cX12_isBracket 15 = .ok (.if_icmp .eq 9, 3) := by decide +kernel
theorem dX12_isBracket_18 : decode cX12_isBracket 18 = .ok (.iload_n 0, 1) := by decide +kernel
theorem dX12_isBracket_19 : decode cX12_isBracket 19 = .ok (.bipush 125, 2) := by decide +kernel
theorem dX12_isBracket_21 : decode cX12_isBracket 21 = .ok (.if_icmp .ne 7, 3) := by decide +kernel
theorem dX12_isBracket_24 : decode cX12_isBracket 24 = .ok (.iconst 1, 1) := by decide +kernel
theorem dX12_isBracket_25 : decode cX12_isBracket 25 = .ok (.goto 4, 3) := by decide +kernel
theorem dX12_isBracket_28 : decode cX12_isBracket 28 = .ok (.iconst 0, 1) := by decide +kernel
theorem dX12_isBracket_29 : decode cX12_isBracket 29 = .ok (.ireturn, 1) := by decide +kernel
theorem dX12_standsBracket_0 : decode cX12_standsBracket 0 = .ok (.aload_n 0, 1) := by decide +kernel
theorem dX12_standsBracket_1 : decode cX12_standsBracket 1 = .ok (.getfield 354, 3) := by decide +kernel
theorem dX12_standsBracket_4 : decode cX12_standsBracket 4 = .ok (.ifCond .ne 28, 3) := by decide +kernel
theorem dX12_standsBracket_7 : decode cX12_standsBracket 7 = .ok (.aload_n 0, 1) := by decide +kernel
theorem dX12_standsBracket_8 : decode cX12_standsBracket 8 = .ok (.getfield 361, 3) := by decide +kernel
theorem dX12_standsBracket_11 : decode cX12_standsBracket 11 = .ok (.ifCond .ne 21, 3) := by decide +kernel
theorem dX12_standsBracket_14 : decode cX12_standsBracket 14 = .ok (.aload_n 0, 1) := by decide +kernel
theorem dX12_standsBracket_15 : decode cX12_standsBracket 15 = .ok (.getfield 63, 3) := by decide +kernel
theorem dX12_standsBracket_18 : decode cX12_standsBracket 18 = .ok (.aload_n 0, 1) := by decide +kernel
theorem dX12_standsBracket_19 : decode cX12_standsBracket 19 = .ok (.getfield 367, 3) := by decide +kernel
theorem dX12_standsBracket_22 : decode cX12_standsBracket 22 = .ok (.iaload, 1) := by decide +kernel
theorem dX12_standsBracket_23 : decode cX12_standsBracket 23 = .ok (.ifCond .eq 9, 3) := by decide +kernel
theorem dX12_standsBracket_26 : decode cX12_standsBracket 26 = .ok (.iload_n 1, 1) := by decide +kernel
theorem dX12_standsBracket_27 : decode cX12_standsBracket 27 = .ok (.bipush 125, 2) := by decide +kernel
theorem dX12_standsBracket_29 : decode cX12_standsBracket 29 = .ok (.if_icmp .ne 5, 3) := by decide +kernel
theorem dX12_standsBracket_32 : decode cX12_standsBracket 32 = .ok (.iconst 0, 1) := by decide +kernel
theorem dX12_standsBracket_33 : decode cX12_standsBracket 33 = .ok (.ireturn, 1) := by decide +kernel
theorem dX12_standsBracket_34 : decode cX12_standsBracket 34 = .ok (.iload_n 1, 1) := by decide +kernel
theorem dX12_standsBracket_35 : decode cX12_standsBracket 35 = .ok (.bipush 41, 2) := by decide +kernel
theorem dX12_standsBracket_37 : decode cX12_standsBracket 37 = .ok (.if_icmp .ne 26, 3) := by decide +kernel
theorem dX12_standsBracket_40 : decode cX12_standsBracket 40 = .ok (.aload_n 0, 1) := by decide +kernel
theorem dX12_standsBracket_41 : decode cX12_standsBracket 41 = .ok (.dup, 1) := by decide +kernel
theorem dX12_standsBracket_42 : decode cX12_standsBracket 42 = .ok (.getfield 367, 3) := by decide +kernel
theorem dX12_standsBracket_45 : decode cX12_standsBracket 45 = .ok (.iconst 1, 1) := by decide +kernel
theorem dX12_standsBracket_46 : decode cX12_standsBracket 46 = .ok (.isub, 1) := by decide +kernel
theorem dX12_standsBracket_47 : decode cX12_standsBracket 47 = .ok (.putfield 367, 3) := by decide +kernel
theorem dX12_standsBracket_50 : decode cX12_standsBracket 50 = .ok (.aload_n 0, 1) := by decide +kernel
theorem dX12_standsBracket_51 : decode cX12_standsBracket 51 = .ok (.getfield 367, 3) := by decide +kernel
theorem dX12_standsBracket_54 : decode cX12_standsBracket 54 = .ok (.ifCond .lt 7, 3) := by decide +kernel
theorem dX12_standsBracket_57 : decode cX12_standsBracket 57 = .ok (.iconst 1, 1) := by decide +kernel
theorem dX12_standsBracket_58 : decode cX12_standsBracket 58 = .ok (.goto 4, 3) := by decide +kernel
theorem dX12_standsBracket_61 : decode cX12_standsBracket 61 = .ok (.iconst 0, 1) := by decide +kernel
theorem dX12_standsBracket_62 : decode cX12_standsBracket 62 = .ok (.ireturn, 1) := by decide +kernel
theorem dX12_standsBracket_63 : decode cX12_standsBracket 63 = .ok (.iload_n 1, 1) := by decide +kernel
theorem dX12_standsBracket_64 : decode cX12_standsBracket 64 = .ok (.bipush 40, 2) := by decide +kernel
theorem dX12_standsBracket_66 : decode cX12_standsBracket 66 = .ok (.if_icmp .ne 62, 3) := by decide +kernel
theorem dX12_standsBracket_69 : decode cX12_standsBracket 69 = .ok (.aload_n 0, 1) := by decide +kernel
theorem dX12_standsBracket_70 : decode cX12_standsBracket 70 = .ok (.getfield 367, 3) := by decide +kernel
theorem dX12_standsBracket_73 : decode cX12_standsBracket 73 = .ok (.iconst 4, 1) := by decide +kernel
theorem dX12_standsBracket_74 : decode cX12_standsBracket 74 = .ok (.if_icmp .ge 54, 3) := by decide +kernel
theorem dX12_standsBracket_77 : decode cX12_standsBracket 77 = .ok (.bipush 67, 2) := by decide +kernel
theorem dX12_standsBracket_79 : decode cX12_standsBracket 79 = .ok (.aload_n 0, 1) := by decide +kernel
theorem dX12_standsBracket_80 : decode cX12_standsBracket 80 = .ok (.getfield 60, 3) := by decide +kernel
theorem dX12_standsBracket_83 : decode cX12_standsBracket 83 = .ok (.bipush 67, 2) := by decide +kernel
theorem dX12_standsBracket_85 : decode cX12_standsBracket 85 = .ok (.aload_n 0, 1) := by decide +kernel
theorem dX12_standsBracket_86 : decode cX12_standsBracket 86 = .ok (.getfield 367, 3) := by decide +kernel
theorem dX12_standsBracket_89 : decode cX12_standsBracket 89 = .ok (.imul, 1) := by decide +kernel
theorem dX12_standsBracket_90 : decode cX12_standsBracket 90 = .ok (.aload_n 0, 1) := by decide +kernel
theorem dX12_standsBracket_91 : decode cX12_standsBracket 91 = .ok (.getfield 57, 3) := by decide +kernel
theorem dX12_standsBracket_94 : decode cX12_standsBracket 94 = .ok (.bipush 67, 2) := by decide +kernel
theorem dX12_standsBracket_96 : decode cX12_standsBracket 96 = .ok (.aload_n 0, 1) := by decide +kernel
theorem dX12_standsBracket_97 : decode cX12_standsBracket 97 = .ok (.getfield 367, 3) := by decide +kernel
theorem dX12_standsBracket_100 : decode cX12_standsBracket 100 = .ok (.iconst 1, 1) := by decide +kernel
theorem dX12_standsBracket_101 : decode cX12_standsBracket 101 = .ok (.iadd, 1) := by decide +kernel
theorem dX12_standsBracket_102 : decode cX12_standsBracket 102 = .ok (.imul, 1) := by decide +kernel
theorem dX12_standsBracket_103 : decode cX12_standsBracket 103 = .ok (.invokestatic 130, 3) := by decide +kernel
theorem dX12_standsBracket_106 : decode cX12_standsBracket 106 = .ok (.aload_n 0, 1) := by decide +kernel
theorem dX12_standsBracket_107 : decode cX12_standsBracket 107 = .ok (.dup, 1) := by decide +kernel
theorem dX12_standsBracket_108 : decode cX12_standsBracket 108 = .ok (.getfield 367, 3) := by decide +kernel
theorem dX12_standsBracket_111 : decode cX12_standsBracket 111 = .ok (.iconst 1, 1) := by decide +kernel
theorem dX12_standsBracket_112 : decode cX12_standsBracket 112 = .ok (.iadd, 1) := by decide +kernel
theorem dX12_standsBracket_113 : decode cX12_standsBracket 113 = .ok (.putfield 367, 3) := by decide +kernel
theorem dX12_standsBracket_116 : decode cX12_standsBracket 116 = .ok (.aload_n 0, 1) := by decide +kernel
theorem dX12_standsBracket_117 : decode cX12_standsBracket 117 = .ok (.getfield 63, 3) := by decide +kernel
theorem dX12_standsBracket_120 : decode cX12_standsBracket 120 = .ok (.aload_n 0, 1) := by decide +kernel
theorem dX12_standsBracket_121 : decode cX12_standsBracket 121 = .ok (.getfield 367, 3) := by decide +kernel
theorem dX12_standsBracket_124 : decode cX12_standsBracket 124 = .ok (.iconst 0, 1) := by decide +kernel
theorem dX12_standsBracket_125 : decode cX12_standsBracket 125 = .ok (.iastore, 1) := by decide +kernel
theorem dX12_standsBracket_126 : decode cX12_standsBracket 126 = .ok (.iconst 1, 1) := by decide +kernel
theorem dX12_standsBracket_127 : decode cX12_standsBracket 127 = .ok (.ireturn, 1) := by decide +kernel
theorem dX12_standsBracket_128 : decode cX12_standsBracket 128 = .ok (.iload_n 1, 1) := by decide +kernel
theorem dX12_standsBracket_129 : decode cX12_standsBracket 129 = .ok (.bipush 123, 2) := by decide +kernel
theorem dX12_standsBracket_131 : decode cX12_standsBracket 131 = .ok (.if_icmp .ne 7, 3) := by decide +kernel
theorem dX12_standsBracket_134 : decode cX12_standsBracket 134 = .ok (.iconst 1, 1) := by decide +kernel
theorem dX12_standsBracket_135 : decode cX12_standsBracket 135 = .ok (.goto 4, 3) := by decide +kernel
theorem dX12_standsBracket_138 : decode cX12_standsBracket 138 = .ok (.iconst 0, 1) := by decide +kernel
theorem dX12_standsBracket_139 : decode cX12_standsBracket 139 = .ok (.ireturn, 1) := by decide +kernel
theorem dX12_isDigit_0 : decode cX12_isDigit 0 = .ok (.iload_n 0, 1) := by decide +kernel
theorem dX12_isDigit_1 : decode cX12_isDigit 1 = .ok (.bipush 48, 2) := by decide +kernel
theorem dX12_isDigit_3 : decode cX12_isDigit 3 = .ok (.bipush 57, 2) := by decide +kernel
theorem dX12_isDigit_5 : decode cX12_isDigit 5 = .ok (.invokestatic 117, 3) := by decide +kernel
theorem dX12_isDigit_8 : decode cX12_isDigit 8 = .ok (.ireturn, 1) := by decide +kernel
theorem dX12_isNumber_0 : decode cX12_isNumber 0 = .ok (.iconst 0, 1) := by decide +kernel
theorem dX12_isNumber_1 : decode cX12_isNumber 1 = .ok (.istore_n 3, 1) := by decide +kernel
theorem dX12_isNumber_2 : decode cX12_isNumber 2 = .ok (.iload_n 1, 1) := by decide +kernel
theorem dX12_isNumber_3 : decode cX12_isNumber 3 = .ok (.iload_n 3, 1) := by decide +kernel
theorem dX12_isNumber_4 : decode cX12_isNumber 4 = .ok (.iadd, 1) := by decide +kernel
theorem dX12_isNumber_5 : decode cX12_isNumber 5 = .ok (.iload_n 2, 1) := by decide +kernel
theorem dX12_isNumber_6 : decode cX12_isNumber 6 = .ok (.if_icmp .ge 23, 3) := by decide +kernel
theorem dX12_isNumber_9 : decode cX12_isNumber 9 = .ok (.aload_n 0, 1) := by decide +kernel
theorem dX12_isNumber_10 : decode cX12_isNumber 10 = .ok (.getfield 42, 3) := by decide +kernel
theorem dX12_isNumber_13 : decode cX12_isNumber 13 = .ok (.iload_n 1, 1) := by decide +kernel
theorem dX12_isNumber_14 : decode cX12_isNumber 14 = .ok (.iload_n 3, 1) := by decide +kernel
theorem dX12_isNumber_15 : decode cX12_isNumber 15 = .ok (.iadd, 1) := by decide +kernel
theorem dX12_isNumber_16 : decode cX12_isNumber 16 = .ok (.iaload, 1) := by decide +kernel
theorem dX12_isNumber_17 : decode cX12_isNumber 17 = .ok (.invokestatic 345, 3) := by decide +kernel
theorem dX12_isNumber_20 : decode cX12_isNumber 20 = .ok (.ifCond .eq 9, 3) := by decide +kernel
theorem dX12_isNumber_23 : decode cX12_isNumber 23 = .ok (.iinc 3 1, 3) := by decide +kernel
theorem dX12_isNumber_26 : decode cX12_isNumber 26 = .ok (.goto (-24), 3) := by decide +kernel
theorem dX12_isNumber_29 : decode cX12_isNumber 29 = .ok (.iconst 0, 1) := by decide +kernel
theorem dX12_isNumber_30 : decode cX12_isNumber 30 = .ok (.istore 4, 2) := by decide +kernel
theorem dX12_isNumber_32 : decode cX12_isNumber 32 = .ok (.iload_n 1, 1) := by decide +kernel
theorem dX12_isNumber_33 : decode cX12_isNumber 33 = .ok (.iload_n 3, 1) := by decide +kernel
theorem dX12_isNumber_34 : decode cX12_isNumber 34 = .ok (.iadd, 1) := by decide +kernel
theorem dX12_isNumber_35 : decode cX12_isNumber 35 = .ok (.iload 4, 2) := by decide +kernel
theorem dX12_isNumber_37 : decode cX12_isNumber 37 = .ok (.iadd, 1) := by decide +kernel
theorem dX12_isNumber_38 : decode cX12_isNumber 38 = .ok (.iload_n 2, 1) := by decide +kernel
theorem dX12_isNumber_39 : decode cX12_isNumber 39 = .ok (.if_icmp .ge 25, 3) := by decide +kernel
theorem dX12_isNumber_42 : decode cX12_isNumber 42 = .ok (.aload_n 0, 1) := by decide +kernel
theorem dX12_isNumber_43 : decode cX12_isNumber 43 = .ok (.getfield 42, 3) := by decide +kernel
theorem dX12_isNumber_46 : decode cX12_isNumber 46 = .ok (.iload_n 1, 1) := by decide +kernel
theorem dX12_isNumber_47 : decode cX12_isNumber 47 = .ok (.iload_n 3, 1) := by decide +kernel
theorem dX12_isNumber_48 : decode cX12_isNumber 48 = .ok (.iadd, 1) := by decide +kernel
theorem dX12_isNumber_49 : decode cX12_isNumber 49 = .ok (.iload 4, 2) := by decide +kernel
theorem dX12_isNumber_51 : decode cX12_isNumber 51 = .ok (.iadd, 1) := by decide +kernel
theorem dX12_isNumber_52 : decode cX12_isNumber 52 = .ok (.iaload, 1) := by decide +kernel
theorem dX12_isNumber_53 : decode cX12_isNumber 53 = .ok (.bipush 46, 2) := by decide +kernel
theorem dX12_isNumber_55 : decode cX12_isNumber 55 = .ok (.if_icmp .ne 9, 3) := by decide +kernel
theorem dX12_isNumber_58 : decode cX12_isNumber 58 = .ok (.iinc 4 1, 3) := by decide +kernel
theorem dX12_isNumber_61 : decode cX12_isNumber 61 = .ok (.goto (-29), 3) := by decide +kernel
theorem dX12_isNumber_64 : decode cX12_isNumber 64 = .ok (.iload_n 3, 1) := by decide +kernel
theorem dX12_isNumber_65 : decode cX12_isNumber 65 = .ok (.iconst 1, 1) := by decide +kernel
theorem dX12_isNumber_66 : decode cX12_isNumber 66 = .ok (.iconst 3, 1) := by decide +kernel
theorem dX12_isNumber_67 : decode cX12_isNumber 67 = .ok (.invokestatic 117, 3) := by decide +kernel
theorem dX12_isNumber_70 : decode cX12_isNumber 70 = .ok (.ifCond .eq 29, 3) := by decide +kernel
theorem dX12_isNumber_73 : decode cX12_isNumber 73 = .ok (.iload 4, 2) := by decide +kernel
theorem dX12_isNumber_75 : decode cX12_isNumber 75 = .ok (.iconst 1, 1) := by decide +kernel
theorem dX12_isNumber_76 : decode cX12_isNumber 76 = .ok (.if_icmp .eq 9, 3) := by decide +kernel
theorem dX12_isNumber_79 : decode cX12_isNumber 79 = .ok (.iload 4, 2) := by decide +kernel
theorem dX12_isNumber_81 : decode cX12_isNumber 81 = .ok (.iconst 3, 1) := by decide +kernel
theorem dX12_isNumber_82 : decode cX12_isNumber 82 = .ok (.if_icmp .ne 17, 3) := by decide +kernel
theorem dX12_isNumber_85 : decode cX12_isNumber 85 = .ok (.iload_n 1, 1) := by decide +kernel
theorem dX12_isNumber_86 : decode cX12_isNumber 86 = .ok (.iload_n 3, 1) := by decide +kernel
theorem dX12_isNumber_87 : decode cX12_isNumber 87 = .ok (.iadd, 1) := by decide +kernel
theorem dX12_isNumber_88 : decode cX12_isNumber 88 = .ok (.iload 4, 2) := by decide +kernel
theorem dX12_isNumber_90 : decode cX12_isNumber 90 = .ok (.iadd, 1) := by decide +kernel
theorem dX12_isNumber_91 : decode cX12_isNumber 91 = .ok (.iload_n 2, 1) := by decide +kernel
theorem dX12_isNumber_92 : decode cX12_isNumber 92 = .ok (.if_icmp .ne 7, 3) := by decide +kernel
theorem dX12_isNumber_95 : decode cX12_isNumber 95 = .ok (.iconst 1, 1) := by decide +kernel
theorem dX12_isNumber_96 : decode cX12_isNumber 96 = .ok (.goto 4, 3) := by decide +kernel
theorem dX12_isNumber_99 : decode cX12_isNumber 99 = .ok (.iconst 0, 1) := by decide +kernel
theorem dX12_isNumber_100 : decode cX12_isNumber 100 = .ok (.ireturn, 1) := by decide +kernel
theorem dX12_isHalf_0 : decode cX12_isHalf 0 = .ok (.aload_n 0, 1) := by decide +kernel
theorem dX12_isHalf_1 : decode cX12_isHalf 1 = .ok (.getfield 42, 3) := by decide +kernel
theorem dX12_isHalf_4 : decode cX12_isHalf 4 = .ok (.iload_n 1, 1) := by decide +kernel
theorem dX12_isHalf_5 : decode cX12_isHalf 5 = .ok (.iaload, 1) := by decide +kernel
theorem dX12_isHalf_6 : decode cX12_isHalf 6 = .ok (.bipush 49, 2) := by decide +kernel
theorem dX12_isHalf_8 : decode cX12_isHalf 8 = .ok (.if_icmp .ne 33, 3) := by decide +kernel
theorem dX12_isHalf_11 : decode cX12_isHalf 11 = .ok (.aload_n 0, 1) := by decide +kernel
theorem dX12_isHalf_12 : decode cX12_isHalf 12 = .ok (.getfield 42, 3) := by decide +kernel
theorem dX12_isHalf_15 : decode cX12_isHalf 15 = .ok (.iload_n 1, 1) := by decide +kernel
theorem dX12_isHalf_16 : decode cX12_isHalf 16 = .ok (.iconst 1, 1) := by decide +kernel
theorem dX12_isHalf_17 : decode cX12_isHalf 17 = .ok (.iadd, 1) := by decide +kernel
theorem dX12_isHalf_18 : decode cX12_isHalf 18 = .ok (.iaload, 1) := by decide +kernel
theorem dX12_isHalf_19 : decode cX12_isHalf 19 = .ok (.bipush 47, 2) := by decide +kernel
theorem dX12_isHalf_21 : decode cX12_isHalf 21 = .ok (.if_icmp .ne 20, 3) := by decide +kernel
theorem dX12_isHalf_24 : decode cX12_isHalf 24 = .ok (.aload_n 0, 1) := by decide +kernel
theorem dX12_isHalf_25 : decode cX12_isHalf 25 = .ok (.getfield 42, 3) := by decide +kernel
theorem dX12_isHalf_28 : decode cX12_isHalf 28 = .ok (.iload_n 1, 1) := by decide +kernel
theorem dX12_isHalf_29 : decode cX12_isHalf 29 = .ok (.iconst 2, 1) := by decide +kernel
theorem dX12_isHalf_30 : decode cX12_isHalf 30 = .ok (.iadd, 1) := by decide +kernel
theorem dX12_isHalf_31 : decode cX12_isHalf 31 = .ok (.iaload, 1) := by decide +kernel
theorem dX12_isHalf_32 : decode cX12_isHalf 32 = .ok (.bipush 50, 2) := by decide +kernel
theorem dX12_isHalf_34 : decode cX12_isHalf 34 = .ok (.if_icmp .ne 7, 3) := by decide +kernel
theorem dX12_isHalf_37 : decode cX12_isHalf 37 = .ok (.iconst 1, 1) := by decide +kernel
theorem dX12_isHalf_38 : decode cX12_isHalf 38 = .ok (.goto 4, 3) := by decide +kernel
theorem dX12_isHalf_41 : decode cX12_isHalf 41 = .ok (.iconst 0, 1) := by decide +kernel
theorem dX12_isHalf_42 : decode cX12_isHalf 42 = .ok (.ireturn, 1) := by decide +kernel
theorem dX12_isResult_0 : decode cX12_isResult 0 = .ok (.iload_n 2, 1) := by decide +kernel
theorem dX12_isResult_1 : decode cX12_isResult 1 = .ok (.iload_n 1, 1) := by decide +kernel
theorem dX12_isResult_2 : decode cX12_isResult 2 = .ok (.isub, 1) := by decide +kernel
theorem dX12_isResult_3 : decode cX12_isResult 3 = .ok (.istore_n 3, 1) := by decide +kernel
theorem dX12_isResult_4 : decode cX12_isResult 4 = .ok (.iload_n 3, 1) := by decide +kernel
theorem dX12_isResult_5 : decode cX12_isResult 5 = .ok (.iconst 1, 1) := by decide +kernel
theorem dX12_isResult_6 : decode cX12_isResult 6 = .ok (.if_icmp .ne 20, 3) := by decide +kernel
theorem dX12_isResult_9 : decode cX12_isResult 9 = .ok (.aload_n 0, 1) := by decide +kernel
theorem dX12_isResult_10 : decode cX12_isResult 10 = .ok (.getfield 42, 3) := by decide +kernel
theorem dX12_isResult_13 : decode cX12_isResult 13 = .ok (.iload_n 1, 1) := by decide +kernel
theorem dX12_isResult_14 : decode cX12_isResult 14 = .ok (.iaload, 1) := by decide +kernel
theorem dX12_isResult_15 : decode cX12_isResult 15 = .ok (.bipush 42, 2) := by decide +kernel
theorem dX12_isResult_17 : decode cX12_isResult 17 = .ok (.if_icmp .ne 7, 3) := by decide +kernel
theorem dX12_isResult_20 : decode cX12_isResult 20 = .ok (.iconst 1, 1) := by decide +kernel
theorem dX12_isResult_21 : decode cX12_isResult 21 = .ok (.goto 4, 3) := by decide +kernel
theorem dX12_isResult_24 : decode cX12_isResult 24 = .ok (.iconst 0, 1) := by decide +kernel
theorem dX12_isResult_25 : decode cX12_isResult 25 = .ok (.ireturn, 1) := by decide +kernel
theorem dX12_isResult_26 : decode cX12_isResult 26 = .ok (.iload_n 3, 1) := by decide +kernel
theorem dX12_isResult_27 : decode cX12_isResult 27 = .ok (.iconst 3, 1) := by decide +kernel
theorem dX12_isResult_28 : decode cX12_isResult 28 = .ok (.if_icmp .ne 70, 3) := by decide +kernel
theorem dX12_isResult_31 : decode cX12_isResult 31 = .ok (.aload_n 0, 1) := by decide +kernel
theorem dX12_isResult_32 : decode cX12_isResult 32 = .ok (.getfield 42, 3) := by decide +kernel
theorem dX12_isResult_35 : decode cX12_isResult 35 = .ok (.iload_n 1, 1) := by decide +kernel
theorem dX12_isResult_36 : decode cX12_isResult 36 = .ok (.iconst 1, 1) := by decide +kernel
theorem dX12_isResult_37 : decode cX12_isResult 37 = .ok (.iadd, 1) := by decide +kernel
theorem dX12_isResult_38 : decode cX12_isResult 38 = .ok (.iaload, 1) := by decide +kernel
theorem dX12_isResult_39 : decode cX12_isResult 39 = .ok (.bipush 45, 2) := by decide +kernel
theorem dX12_isResult_41 : decode cX12_isResult 41 = .ok (.if_icmp .ne 55, 3) := by decide +kernel
theorem dX12_isResult_44 : decode cX12_isResult 44 = .ok (.aload_n 0, 1) := by decide +kernel
theorem dX12_isResult_45 : decode cX12_isResult 45 = .ok (.getfield 42, 3) := by decide +kernel
theorem dX12_isResult_48 : decode cX12_isResult 48 = .ok (.iload_n 1, 1) := by decide +kernel
theorem dX12_isResult_49 : decode cX12_isResult 49 = .ok (.iaload, 1) := by decide +kernel
theorem dX12_isResult_50 : decode cX12_isResult 50 = .ok (.bipush 49, 2) := by decide +kernel
theorem dX12_isResult_52 : decode cX12_isResult 52 = .ok (.if_icmp .ne 16, 3) := by decide +kernel
theorem dX12_isResult_55 : decode cX12_isResult 55 = .ok (.aload_n 0, 1) := by decide +kernel
theorem dX12_isResult_56 : decode cX12_isResult 56 = .ok (.getfield 42, 3) := by decide +kernel
theorem dX12_isResult_59 : decode cX12_isResult 59 = .ok (.iload_n 1, 1) := by decide +kernel
theorem dX12_isResult_60 : decode cX12_isResult 60 = .ok (.iconst 2, 1) := by decide +kernel
theorem dX12_isResult_61 : decode cX12_isResult 61 = .ok (.iadd, 1) := by decide +kernel
theorem dX12_isResult_62 : decode cX12_isResult 62 = .ok (.iaload, 1) := by decide +kernel
theorem dX12_isResult_63 : decode cX12_isResult 63 = .ok (.bipush 48, 2) := by decide +kernel
theorem dX12_isResult_65 : decode cX12_isResult 65 = .ok (.if_icmp .eq 27, 3) := by decide +kernel
theorem dX12_isResult_68 : decode cX12_isResult 68 = .ok (.aload_n 0, 1) := by decide +kernel
theorem dX12_isResult_69 : decode cX12_isResult 69 = .ok (.getfield 42, 3) := by decide +kernel
theorem dX12_isResult_72 : decode cX12_isResult 72 = .ok (.iload_n 1, 1) := by decide +kernel
theorem dX12_isResult_73 : decode cX12_isResult 73 = .ok (.iaload, 1) := by decide +kernel
theorem dX12_isResult_74 : decode cX12_isResult 74 = .ok (.bipush 48, 2) := by decide +kernel
theorem dX12_isResult_76 : decode cX12_isResult 76 = .ok (.if_icmp .ne 20, 3) := by decide +kernel
theorem dX12_isResult_79 : decode cX12_isResult 79 = .ok (.aload_n 0, 1) := by decide +kernel
theorem dX12_isResult_80 : decode cX12_isResult 80 = .ok (.getfield 42, 3) := by decide +kernel
theorem dX12_isResult_83 : decode cX12_isResult 83 = .ok (.iload_n 1, 1) := by decide +kernel
theorem dX12_isResult_84 : decode cX12_isResult 84 = .ok (.iconst 2, 1) := by decide +kernel
theorem dX12_isResult_85 : decode cX12_isResult 85 = .ok (.iadd, 1) := by decide +kernel
theorem dX12_isResult_86 : decode cX12_isResult 86 = .ok (.iaload, 1) := by decide +kernel
theorem dX12_isResult_87 : decode cX12_isResult 87 = .ok (.bipush 49, 2) := by decide +kernel
theorem dX12_isResult_89 : decode cX12_isResult 89 = .ok (.if_icmp .ne 7, 3) := by decide +kernel
theorem dX12_isResult_92 : decode cX12_isResult 92 = .ok (.iconst 1, 1) := by decide +kernel
theorem dX12_isResult_93 : decode cX12_isResult 93 = .ok (.goto 4, 3) := by decide +kernel
theorem dX12_isResult_96 : decode cX12_isResult 96 = .ok (.iconst 0, 1) := by decide +kernel
theorem dX12_isResult_97 : decode cX12_isResult 97 = .ok (.ireturn, 1) := by decide +kernel
theorem dX12_isResult_98 : decode cX12_isResult 98 = .ok (.iload_n 3, 1) := by decide +kernel
theorem dX12_isResult_99 : decode cX12_isResult 99 = .ok (.bipush 7, 2) := by decide +kernel
theorem dX12_isResult_101 : decode cX12_isResult 101 = .ok (.if_icmp .ne 38, 3) := by decide +kernel
theorem dX12_isResult_104 : decode cX12_isResult 104 = .ok (.aload_n 0, 1) := by decide +kernel
theorem dX12_isResult_105 : decode cX12_isResult 105 = .ok (.iload_n 1, 1) := by decide +kernel
theorem dX12_isResult_106 : decode cX12_isResult 106 = .ok (.invokevirtual 348, 3) := by decide +kernel
theorem dX12_isResult_109 : decode cX12_isResult 109 = .ok (.ifCond .eq 30, 3) := by decide +kernel
theorem dX12_isResult_112 : decode cX12_isResult 112 = .ok (.aload_n 0, 1) := by decide +kernel
theorem dX12_isResult_113 : decode cX12_isResult 113 = .ok (.getfield 42, 3) := by decide +kernel
theorem dX12_isResult_116 : decode cX12_isResult 116 = .ok (.iload_n 1, 1) := by decide +kernel
theorem dX12_isResult_117 : decode cX12_isResult 117 = .ok (.iconst 3, 1) := by decide +kernel
theorem dX12_isResult_118 : decode cX12_isResult 118 = .ok (.iadd, 1) := by decide +kernel
theorem dX12_isResult_119 : decode cX12_isResult 119 = .ok (.iaload, 1) := by decide +kernel
theorem dX12_isResult_120 : decode cX12_isResult 120 = .ok (.bipush 45, 2) := by decide +kernel
theorem dX12_isResult_122 : decode cX12_isResult 122 = .ok (.if_icmp .ne 17, 3) := by decide +kernel
theorem dX12_isResult_125 : decode cX12_isResult 125 = .ok (.aload_n 0, 1) := by decide +kernel
theorem dX12_isResult_126 : decode cX12_isResult 126 = .ok (.iload_n 1, 1) := by decide +kernel
theorem dX12_isResult_127 : decode cX12_isResult 127 = .ok (.iconst 4, 1) := by decide +kernel
theorem dX12_isResult_128 : decode cX12_isResult 128 = .ok (.iadd, 1) := by decide +kernel
theorem dX12_isResult_129 : decode cX12_isResult 129 = .ok (.invokevirtual 348, 3) := by decide +kernel
theorem dX12_isResult_132 : decode cX12_isResult 132 = .ok (.ifCond .eq 7, 3) := by decide +kernel
theorem dX12_isResult_135 : decode cX12_isResult 135 = .ok (.iconst 1, 1) := by decide +kernel
theorem dX12_isResult_136 : decode cX12_isResult 136 = .ok (.goto 4, 3) := by decide +kernel
theorem dX12_isResult_139 : decode cX12_isResult 139 = .ok (.iconst 0, 1) := by decide +kernel
theorem dX12_isResult_140 : decode cX12_isResult 140 = .ok (.ireturn, 1) := by decide +kernel
theorem dX12_namedMove_0 : decode cX12_namedMove 0 = .ok (.aload_n 0, 1) := by decide +kernel
theorem dX12_namedMove_1 : decode cX12_namedMove 1 = .ok (.iconst 0, 1) := by decide +kernel
theorem dX12_namedMove_2 : decode cX12_namedMove 2 = .ok (.invokevirtual 233, 3) := by decide +kernel
theorem dX12_namedMove_5 : decode cX12_namedMove 5 = .ok (.iconst 0, 1) := by decide +kernel
theorem dX12_namedMove_6 : decode cX12_namedMove 6 = .ok (.istore_n 3, 1) := by decide +kernel
theorem dX12_namedMove_7 : decode cX12_namedMove 7 = .ok (.iload_n 3, 1) := by decide +kernel
theorem dX12_namedMove_8 : decode cX12_namedMove 8 = .ok (.aload_n 0, 1) := by decide +kernel
theorem dX12_namedMove_9 : decode cX12_namedMove 9 = .ok (.getfield 29, 3) := by decide +kernel
theorem dX12_namedMove_12 : decode cX12_namedMove 12 = .ok (.iconst 0, 1) := by decide +kernel
theorem dX12_namedMove_13 : decode cX12_namedMove 13 = .ok (.iaload, 1) := by decide +kernel
theorem dX12_namedMove_14 : decode cX12_namedMove 14 = .ok (.if_icmp .ge 21, 3) := by decide +kernel
theorem dX12_namedMove_17 : decode cX12_namedMove 17 = .ok (.aload_n 0, 1) := by decide +kernel
theorem dX12_namedMove_18 : decode cX12_namedMove 18 = .ok (.iload_n 3, 1) := by decide +kernel
theorem dX12_namedMove_19 : decode cX12_namedMove 19 = .ok (.iload_n 1, 1) := by decide +kernel
theorem dX12_namedMove_20 : decode cX12_namedMove 20 = .ok (.iload_n 2, 1) := by decide +kernel
theorem dX12_namedMove_21 : decode cX12_namedMove 21 = .ok (.invokevirtual 351, 3) := by decide +kernel
theorem dX12_namedMove_24 : decode cX12_namedMove 24 = .ok (.ifCond .eq 5, 3) := by decide +kernel
theorem dX12_namedMove_27 : decode cX12_namedMove 27 = .ok (.iload_n 3, 1) := by decide +kernel
theorem dX12_namedMove_28 : decode cX12_namedMove 28 = .ok (.ireturn, 1) := by decide +kernel
theorem dX12_namedMove_29 : decode cX12_namedMove 29 = .ok (.iinc 3 1, 3) := by decide +kernel
theorem dX12_namedMove_32 : decode cX12_namedMove 32 = .ok (.goto (-25), 3) := by decide +kernel
theorem dX12_namedMove_35 : decode cX12_namedMove 35 = .ok (.iconst (-1), 1) := by decide +kernel
theorem dX12_namedMove_36 : decode cX12_namedMove 36 = .ok (.ireturn, 1) := by decide +kernel
def wp_X12_valueAt_0 (D : wD) (post : Int32 → wS → Prop)  (S : wS) (x0 : Int32) (x1 : Int32) (x2 : Int32) (x3 : Int32) (x4 : Int32) : Prop :=
post ((((((31250 : Int32) * (x0 - (2 : Int32))) + ((15625 : Int32) * x1)) + ((625 : Int32) * x2)) + ((25 : Int32) * x3)) + x4) S
abbrev r_X12_valueAt : Room := { frames := 0, cells := 0, slots := 0, locals := 0 }
def wp_X12_valueAt (D : wD) (post : Int32 → wS → Prop) (S : wS) (x0 : Int32) (x1 : Int32) (x2 : Int32) (x3 : Int32) (x4 : Int32) : Prop := wp_X12_valueAt_0 D post S x0 x1 x2 x3 x4
set_option maxHeartbeats 4000000 in
set_option maxRecDepth 100000 in
theorem t_X12_valueAt_0 {p : Program} {l : Launch} {e : Env} {s : State} {m : MethodId} {args : Array Value} {below : List Frame} {meth : Method} {c : Code} {D : wD} {cy : Nat → ClassId} {X : va_W} {A : Nat → Prop} {S0 : wS} {post : Int32 → wS → Prop} (F : CallFix p m c cX12_valueAt 5 s args wz_X12_valueAt RX12) (hr : meth.sig.returnType = (some .int)) (hlocks : meth.locks = false) (hK : wK D cy A s) : ∀ {S : wS} {H : Heap} {locs : List Loc} {ls : Array Slot} {x0 : Int32} {x1 : Int32} {x2 : Int32} {x3 : Int32} {x4 : Int32}, wp_X12_valueAt_0 D post S x0 x1 x2 x3 x4 → wO D cy X A s.heap S H locs → wX D S0 S → lv_has ls 5 [(0, .int x0), (1, .int x1), (2, .int x2), (3, .int x3), (4, .int x4)] → W p l e r_X12_valueAt s m args below meth c H locs 0 0 (MQ below (va_Qi (fun r S9 => wX D S0 S9 ∧ post r S9) (wB D cy X A) A) args s 0 0 A) (F0 m 0 ls []) := by
  obtain ⟨hx, hb, hml, hown, hts⟩ := id F
  have hwg : ∀ w ∈ WG, w.before args s = true := fun w h => hts w (List.mem_cons_of_mem _ h)
  intro S H locs ls x0 x1 x2 x3 x4 hp hW hE hl
  unfold wp_X12_valueAt_0 at hp
  refine lv_sipush (v := 31250) hx hb dX12_valueAt_0 (by decide) ?_
  refine lv_iload_n hx hb dX12_valueAt_3 rfl (lv_at hl 0 rfl) ?_
  refine lv_iconst (v := 2) hx hb dX12_valueAt_4 (by decide) ?_
  refine lv_isub hx hb dX12_valueAt_5 ?_
  refine lv_imul hx hb dX12_valueAt_6 ?_
  refine lv_sipush (v := 15625) hx hb dX12_valueAt_7 (by decide) ?_
  refine lv_iload_n hx hb dX12_valueAt_10 rfl (lv_at hl 1 rfl) ?_
  refine lv_imul hx hb dX12_valueAt_11 ?_
  refine lv_iadd hx hb dX12_valueAt_12 ?_
  refine lv_sipush (v := 625) hx hb dX12_valueAt_13 (by decide) ?_
  refine lv_iload_n hx hb dX12_valueAt_16 rfl (lv_at hl 2 rfl) ?_
  refine lv_imul hx hb dX12_valueAt_17 ?_
  refine lv_iadd hx hb dX12_valueAt_18 ?_
  refine lv_bipush (v := 25) hx hb dX12_valueAt_19 (by decide) ?_
  refine lv_iload_n hx hb dX12_valueAt_21 rfl (lv_at hl 3 rfl) ?_
  refine lv_imul hx hb dX12_valueAt_22 ?_
  refine lv_iadd hx hb dX12_valueAt_23 ?_
  refine lv_iload hx hb dX12_valueAt_24 (lv_at hl 4 rfl) ?_
  refine lv_iadd hx hb dX12_valueAt_26 ?_
  exact w_iret hx hb hr hlocks hW ⟨hE, hp⟩ dX12_valueAt_27
set_option maxHeartbeats 4000000 in
set_option maxRecDepth 100000 in
theorem c_X12_valueAt (l : Launch) {D : wD} {cy : Nat → ClassId} {X : va_W} {S0 : wS} {post : Int32 → wS → Prop} {x0 : Int32} {x1 : Int32} {x2 : Int32} {x3 : Int32} {x4 : Int32} (hp : wp_X12_valueAt D post S0 x0 x1 x2 x3 x4) : mI D cy X l yX12_valueAt wz_X12_valueAt r_X12_valueAt [.int x0, .int x1, .int x2, .int x3, .int x4] S0 (fun r S9 => wX D S0 S9 ∧ post r S9) := by
  intro sz
  refine Met.ofW (cc := cX12_valueAt) (maxL := 5) (ret := (some .int)) (by decide) rfl ?_
  intro p e s m args below meth c s₁ B hml hv
  obtain ⟨rfl, hsz, hP, hK, hD0, hRO⟩ := hv
  have hts := atoms_spec (ws := wz_X12_valueAt) B.pre
  have hown : s.vm.findClass RX12 = some m.cls := findClass_of_methodNamed B.named
  subst hsz
  have hD := hD0.self (sz := s.heap.size)
  have F : CallFix p m c cX12_valueAt 5 s _ wz_X12_valueAt RX12 := ⟨B.exec, B.bytes, hml, hown, hts⟩
  have hr := B.returns
  have hlocks := B.notSynchronized
  generalize hAe : va_A (wL cy X S0) s.heap.size = A at hD hK ⊢
  have hA : ∀ q, s.heap.size ≤ q → A q := fun q h => by rw [← hAe]; exact Or.inr h
  have hW : wO D cy X A s.heap S0 s.heap [] := ⟨hP, hD, va_S.rf, hA, hRO⟩
  have hl := lv_entry ([.int x0, .int x1, .int x2, .int x3, .int x4]) (n := 5) (Nat.le_of_ble_eq_true rfl)
  rw [lg_entry_eq]
  generalize (lg_sl ([.int x0, .int x1, .int x2, .int x3, .int x4]) ++ List.replicate (5 - (lg_sl ([.int x0, .int x1, .int x2, .int x3, .int x4])).length) Slot.unset).toArray = ls at hl ⊢
  have hl : lv_has ls 5 [(0, .int x0), (1, .int x1), (2, .int x2), (3, .int x3), (4, .int x4)] := hl
  unfold wp_X12_valueAt at hp
  exact t_X12_valueAt_0 F hr hlocks hK hp hW wX.rf (lv_sub hl [0, 1, 2, 3, 4] rfl)
def wp_X12_clears_102 (D : wD) (post : wS → Prop) (k_33 : wS → Nat → Int32 → Int32 → Prop) (k_43 : wS → Nat → Int32 → Int32 → Int32 → Prop) (k_54 : wS → Nat → Int32 → Int32 → Int32 → Int32 → Prop) (k_66 : wS → Nat → Int32 → Int32 → Int32 → Int32 → Int32 → Prop) (S : wS) (a0 : Nat) (x1 : Int32) (x2 : Int32) (x3 : Int32) (x4 : Int32) (x5 : Int32) : Prop :=
∀ x_1 : Int32, x_1 = x5 + 1 →
k_66 S a0 x1 x2 x3 x4 x_1
def wp_X12_clears_66 (D : wD) (post : wS → Prop) (k_33 : wS → Nat → Int32 → Int32 → Prop) (k_43 : wS → Nat → Int32 → Int32 → Int32 → Prop) (k_54 : wS → Nat → Int32 → Int32 → Int32 → Int32 → Prop) : Nat → wS → Nat → Int32 → Int32 → Int32 → Int32 → Int32 → Prop
  | 0, _, _, _, _, _, _, _ => False
  | n + 1, S, a0, x1, x2, x3, x4, x5 =>
    (((2 : Int32) ≤ x5 → ∀ x_2 : Int32, x_2 = x4 + 1 →
    k_54 S a0 x1 x2 x3 x_2) ∧
     (¬ (2 : Int32) ≤ x5 → wp_X12_isOfEnding D (fun r_3 S_4 => 
    ((r_3 = 0 → wp_X12_clears_102 D post k_33 k_43 k_54 (wp_X12_clears_66 D post k_33 k_43 k_54 n) S_4 a0 x1 x2 x3 x4 x5) ∧
     (¬ r_3 = 0 → ∃ y_6 : Nat, sR S_4 a0 41 = some y_6 ∧ wM D S_4 y_6 ∧ sK S_4 y_6 = 21 ∧
    wp_X12_valueAt D (fun r_7 S_8 => 
    y_6 ∈ sL S_8 ∧ vp_in r_7 (sN S_8 y_6) ∧
    ∀ S_10 : wS, S_10 = uI S_8 y_6 (r_7).toNatClampNeg (-1 : Int32) →
    wp_X12_clears_102 D post k_33 k_43 k_54 (wp_X12_clears_66 D post k_33 k_43 k_54 n) S_10 a0 x1 x2 x3 x4 x5) S_4 x1 x5 x2 x3 x4))) S a0 x1 x5 x2 x3 x4))
def wp_X12_clears_54 (D : wD) (post : wS → Prop) (k_33 : wS → Nat → Int32 → Int32 → Prop) (k_43 : wS → Nat → Int32 → Int32 → Int32 → Prop) : Nat → wS → Nat → Int32 → Int32 → Int32 → Int32 → Prop
  | 0, _, _, _, _, _, _ => False
  | n + 1, S, a0, x1, x2, x3, x4 =>
    wp_X12_squares D (fun r_1 S_2 => 
    ((r_1 ≤ x4 → ∀ x_4 : Int32, x_4 = x3 + 1 →
    k_43 S_2 a0 x1 x2 x_4) ∧
     (¬ r_1 ≤ x4 → ∃ n_5 : Nat, wp_X12_clears_66 D post k_33 k_43 (wp_X12_clears_54 D post k_33 k_43 n) n_5 S_2 a0 x1 x2 x3 x4 (0 : Int32)))) S a0
def wp_X12_clears_43 (D : wD) (post : wS → Prop) (k_33 : wS → Nat → Int32 → Int32 → Prop) : Nat → wS → Nat → Int32 → Int32 → Int32 → Prop
  | 0, _, _, _, _, _ => False
  | n + 1, S, a0, x1, x2, x3 =>
    wp_X12_squares D (fun r_1 S_2 => 
    ((r_1 ≤ x3 → ∀ x_4 : Int32, x_4 = x2 + 1 →
    k_33 S_2 a0 x1 x_4) ∧
     (¬ r_1 ≤ x3 → ∃ n_5 : Nat, wp_X12_clears_54 D post k_33 (wp_X12_clears_43 D post k_33 n) n_5 S_2 a0 x1 x2 x3 (0 : Int32)))) S a0
def wp_X12_clears_33 (D : wD) (post : wS → Prop)  : Nat → wS → Nat → Int32 → Int32 → Prop
  | 0, _, _, _, _ => False
  | n + 1, S, a0, x1, x2 =>
    wp_X12_squares D (fun r_1 S_2 => 
    ((r_1 ≤ x2 → post S_2) ∧
     (¬ r_1 ≤ x2 → ∃ n_4 : Nat, wp_X12_clears_43 D post (wp_X12_clears_33 D post n) n_4 S_2 a0 x1 x2 (0 : Int32)))) S a0
def wp_X12_clears_2 (D : wD) (post : wS → Prop)  : Nat → wS → Nat → Int32 → Int32 → Prop
  | 0, _, _, _, _ => False
  | n + 1, S, a0, x1, x2 =>
    (((31250 : Int32) ≤ x2 → ∃ n_2 : Nat, wp_X12_clears_33 D post n_2 S a0 x1 (0 : Int32)) ∧
     (¬ (31250 : Int32) ≤ x2 → ∃ y_3 : Nat, sR S a0 41 = some y_3 ∧ wM D S y_3 ∧ sK S y_3 = 21 ∧
    y_3 ∈ sL S ∧ vp_in (((31250 : Int32) * (x1 - (2 : Int32))) + x2) (sN S y_3) ∧
    ∀ S_5 : wS, S_5 = uI S y_3 ((((31250 : Int32) * (x1 - (2 : Int32))) + x2)).toNatClampNeg (-2 : Int32) →
    ∀ x_6 : Int32, x_6 = x2 + 1 →
    wp_X12_clears_2 D post n S_5 a0 x1 x_6))
def wp_X12_clears_0 (D : wD) (post : wS → Prop)  (S : wS) (a0 : Nat) (x1 : Int32) : Prop :=
∃ n_1 : Nat, wp_X12_clears_2 D post n_1 S a0 x1 (0 : Int32)
abbrev r_X12_clears : Room := { frames := 3, cells := 0, slots := 0, locals := 78 }
def wp_X12_clears (D : wD) (post : wS → Prop) (S : wS) (a0 : Nat) (x1 : Int32) : Prop := wp_X12_clears_0 D post S a0 x1
set_option maxHeartbeats 4000000 in
set_option maxRecDepth 100000 in
theorem t_X12_clears_102 {p : Program} {l : Launch} {e : Env} {s : State} {m : MethodId} {args : Array Value} {below : List Frame} {meth : Method} {c : Code} {D : wD} {cy : Nat → ClassId} {X : va_W} {A : Nat → Prop} {S0 : wS} {post : wS → Prop} (F : CallFix p m c cX12_clears 6 s args wz_X12_clears RX12) (hr : meth.sig.returnType = none) (hlocks : meth.locks = false) (hK : wK D cy A s) {k_33 : wS → Nat → Int32 → Int32 → Prop} (q_33 : ∀ {S : wS} {H : Heap} {locs : List Loc} {ls : Array Slot} {a0 : Nat} {x1 : Int32} {x2 : Int32}, k_33 S a0 x1 x2 → wO D cy X A s.heap S H locs → wX D S0 S → lv_has ls 6 [(0, .ref a0), (1, .int x1), (2, .int x2)] → wM D S a0 → sK S a0 = 17 → W p l e r_X12_clears s m args below meth c H locs 0 0 (MQ below (va_Qv (fun S9 => wX D S0 S9 ∧ post S9) (wB D cy X A) A) args s 0 0 A) (F0 m 33 ls [])) {k_43 : wS → Nat → Int32 → Int32 → Int32 → Prop} (q_43 : ∀ {S : wS} {H : Heap} {locs : List Loc} {ls : Array Slot} {a0 : Nat} {x1 : Int32} {x2 : Int32} {x3 : Int32}, k_43 S a0 x1 x2 x3 → wO D cy X A s.heap S H locs → wX D S0 S → lv_has ls 6 [(0, .ref a0), (1, .int x1), (2, .int x2), (3, .int x3)] → wM D S a0 → sK S a0 = 17 → W p l e r_X12_clears s m args below meth c H locs 0 0 (MQ below (va_Qv (fun S9 => wX D S0 S9 ∧ post S9) (wB D cy X A) A) args s 0 0 A) (F0 m 43 ls [])) {k_54 : wS → Nat → Int32 → Int32 → Int32 → Int32 → Prop} (q_54 : ∀ {S : wS} {H : Heap} {locs : List Loc} {ls : Array Slot} {a0 : Nat} {x1 : Int32} {x2 : Int32} {x3 : Int32} {x4 : Int32}, k_54 S a0 x1 x2 x3 x4 → wO D cy X A s.heap S H locs → wX D S0 S → lv_has ls 6 [(0, .ref a0), (1, .int x1), (2, .int x2), (3, .int x3), (4, .int x4)] → wM D S a0 → sK S a0 = 17 → W p l e r_X12_clears s m args below meth c H locs 0 0 (MQ below (va_Qv (fun S9 => wX D S0 S9 ∧ post S9) (wB D cy X A) A) args s 0 0 A) (F0 m 54 ls [])) {k_66 : wS → Nat → Int32 → Int32 → Int32 → Int32 → Int32 → Prop} (q_66 : ∀ {S : wS} {H : Heap} {locs : List Loc} {ls : Array Slot} {a0 : Nat} {x1 : Int32} {x2 : Int32} {x3 : Int32} {x4 : Int32} {x5 : Int32}, k_66 S a0 x1 x2 x3 x4 x5 → wO D cy X A s.heap S H locs → wX D S0 S → lv_has ls 6 [(0, .ref a0), (1, .int x1), (2, .int x2), (3, .int x3), (4, .int x4), (5, .int x5)] → wM D S a0 → sK S a0 = 17 → W p l e r_X12_clears s m args below meth c H locs 0 0 (MQ below (va_Qv (fun S9 => wX D S0 S9 ∧ post S9) (wB D cy X A) A) args s 0 0 A) (F0 m 66 ls [])) : ∀ {S : wS} {H : Heap} {locs : List Loc} {ls : Array Slot} {a0 : Nat} {x1 : Int32} {x2 : Int32} {x3 : Int32} {x4 : Int32} {x5 : Int32}, wp_X12_clears_102 D post k_33 k_43 k_54 k_66 S a0 x1 x2 x3 x4 x5 → wO D cy X A s.heap S H locs → wX D S0 S → lv_has ls 6 [(0, .ref a0), (1, .int x1), (2, .int x2), (3, .int x3), (4, .int x4), (5, .int x5)] → wM D S a0 → sK S a0 = 17 → W p l e r_X12_clears s m args below meth c H locs 0 0 (MQ below (va_Qv (fun S9 => wX D S0 S9 ∧ post S9) (wB D cy X A) A) args s 0 0 A) (F0 m 102 ls []) := by
  obtain ⟨hx, hb, hml, hown, hts⟩ := id F
  have hwg : ∀ w ∈ WG, w.before args s = true := fun w h => hts w (List.mem_cons_of_mem _ h)
  intro S H locs ls a0 x1 x2 x3 x4 x5 hp hW hE hl hL_a0 hK_a0
  unfold wp_X12_clears_102 at hp
  obtain ⟨x_1, ex_1⟩ : ∃ z : Int32, z = x5 + 1 := ⟨_, rfl⟩
  replace hp := hp x_1 ex_1
  refine lv_iinc (v := x_1) (lv' := [(5, .int x_1), (0, .ref a0), (1, .int x1), (2, .int x2), (3, .int x3), (4, .int x4)]) hx hb dX12_clears_102 hl (k := 5) rfl (by rw [ex_1]; rfl) (by decide) rfl (fun ls hl => ?_)
  refine lv_goto (tgt := 66) hx hb dX12_clears_105 (by decide) ?_
  exact q_66 hp hW hE (lv_sub hl [1, 2, 3, 4, 5, 0] rfl) hL_a0 hK_a0
set_option maxHeartbeats 4000000 in
set_option maxRecDepth 100000 in
theorem t_X12_clears_66 {p : Program} {l : Launch} {e : Env} {s : State} {m : MethodId} {args : Array Value} {below : List Frame} {meth : Method} {c : Code} {D : wD} {cy : Nat → ClassId} {X : va_W} {A : Nat → Prop} {S0 : wS} {post : wS → Prop} (F : CallFix p m c cX12_clears 6 s args wz_X12_clears RX12) (hr : meth.sig.returnType = none) (hlocks : meth.locks = false) (hK : wK D cy A s) {k_33 : wS → Nat → Int32 → Int32 → Prop} (q_33 : ∀ {S : wS} {H : Heap} {locs : List Loc} {ls : Array Slot} {a0 : Nat} {x1 : Int32} {x2 : Int32}, k_33 S a0 x1 x2 → wO D cy X A s.heap S H locs → wX D S0 S → lv_has ls 6 [(0, .ref a0), (1, .int x1), (2, .int x2)] → wM D S a0 → sK S a0 = 17 → W p l e r_X12_clears s m args below meth c H locs 0 0 (MQ below (va_Qv (fun S9 => wX D S0 S9 ∧ post S9) (wB D cy X A) A) args s 0 0 A) (F0 m 33 ls [])) {k_43 : wS → Nat → Int32 → Int32 → Int32 → Prop} (q_43 : ∀ {S : wS} {H : Heap} {locs : List Loc} {ls : Array Slot} {a0 : Nat} {x1 : Int32} {x2 : Int32} {x3 : Int32}, k_43 S a0 x1 x2 x3 → wO D cy X A s.heap S H locs → wX D S0 S → lv_has ls 6 [(0, .ref a0), (1, .int x1), (2, .int x2), (3, .int x3)] → wM D S a0 → sK S a0 = 17 → W p l e r_X12_clears s m args below meth c H locs 0 0 (MQ below (va_Qv (fun S9 => wX D S0 S9 ∧ post S9) (wB D cy X A) A) args s 0 0 A) (F0 m 43 ls [])) {k_54 : wS → Nat → Int32 → Int32 → Int32 → Int32 → Prop} (q_54 : ∀ {S : wS} {H : Heap} {locs : List Loc} {ls : Array Slot} {a0 : Nat} {x1 : Int32} {x2 : Int32} {x3 : Int32} {x4 : Int32}, k_54 S a0 x1 x2 x3 x4 → wO D cy X A s.heap S H locs → wX D S0 S → lv_has ls 6 [(0, .ref a0), (1, .int x1), (2, .int x2), (3, .int x3), (4, .int x4)] → wM D S a0 → sK S a0 = 17 → W p l e r_X12_clears s m args below meth c H locs 0 0 (MQ below (va_Qv (fun S9 => wX D S0 S9 ∧ post S9) (wB D cy X A) A) args s 0 0 A) (F0 m 54 ls [])) : ∀ (n : Nat) {S : wS} {H : Heap} {locs : List Loc} {ls : Array Slot} {a0 : Nat} {x1 : Int32} {x2 : Int32} {x3 : Int32} {x4 : Int32} {x5 : Int32}, wp_X12_clears_66 D post k_33 k_43 k_54 n S a0 x1 x2 x3 x4 x5 → wO D cy X A s.heap S H locs → wX D S0 S → lv_has ls 6 [(0, .ref a0), (1, .int x1), (2, .int x2), (3, .int x3), (4, .int x4), (5, .int x5)] → wM D S a0 → sK S a0 = 17 → W p l e r_X12_clears s m args below meth c H locs 0 0 (MQ below (va_Qv (fun S9 => wX D S0 S9 ∧ post S9) (wB D cy X A) A) args s 0 0 A) (F0 m 66 ls []) := by
  obtain ⟨hx, hb, hml, hown, hts⟩ := id F
  have hwg : ∀ w ∈ WG, w.before args s = true := fun w h => hts w (List.mem_cons_of_mem _ h)
  have i_17 : ∀ w ∈ u_ws RX12 TX12 43, w ∈ wz_X12_clears := fun w h => List.mem_cons_of_mem _ (wu_17 w h)
  have k_101 := hwg _ wf_RX12_101
  intro n
  induction n with
  | zero =>
    intro S H locs ls a0 x1 x2 x3 x4 x5 hp
    exact hp.elim
  | succ n ih =>
    intro S H locs ls a0 x1 x2 x3 x4 x5 hp hW hE hl hL_a0 hK_a0
    unfold wp_X12_clears_66 at hp
    refine lv_iload hx hb dX12_clears_66 (lv_at hl 5 rfl) ?_
    refine lv_iconst (v := 2) hx hb dX12_clears_68 (by decide) ?_
    refine lv_icmp_ge (tgt := 108) hx hb dX12_clears_69 (by decide) (fun c_1 => ?_) (fun c_1 => ?_)
    · replace hp := hp.1 c_1
      obtain ⟨x_2, ex_2⟩ : ∃ z : Int32, z = x4 + 1 := ⟨_, rfl⟩
      replace hp := hp x_2 ex_2
      refine lv_iinc (v := x_2) (lv' := [(4, .int x_2), (0, .ref a0), (1, .int x1), (2, .int x2), (3, .int x3), (5, .int x5)]) hx hb dX12_clears_108 hl (k := 4) rfl (by rw [ex_2]; rfl) (by decide) rfl (fun ls hl => ?_)
      refine lv_goto (tgt := 54) hx hb dX12_clears_111 (by decide) ?_
      exact q_54 hp hW hE (lv_sub hl [1, 2, 3, 4, 0] rfl) hL_a0 hK_a0
    · replace hp := hp.2 c_1
      refine lv_aload_n hx hb dX12_clears_72 rfl (lv_at hl 0 rfl) ?_
      refine lv_iload_n hx hb dX12_clears_73 rfl (lv_at hl 1 rfl) ?_
      refine lv_iload hx hb dX12_clears_74 (lv_at hl 5 rfl) ?_
      refine lv_iload_n hx hb dX12_clears_76 rfl (lv_at hl 2 rfl) ?_
      refine lv_iload_n hx hb dX12_clears_77 rfl (lv_at hl 3 rfl) ?_
      refine lv_iload hx hb dX12_clears_78 (lv_at hl 4 rfl) ?_
      refine w_callI (va_runV (As := [.int x1, .int x5, .int x2, .int x3, .int x4]) (rest := []) F (c_X12_isOfEnding l hL_a0 hK_a0 hp H.size) (cwV (C := RX12) 5 hts (wg_V wm_RX12_490 wy_X12_isOfEnding) rfl rfl rfl (by decide +kernel) ⟨Nat.le_of_ble_eq_true rfl, Nat.le_of_ble_eq_true rfl⟩) (w_preV hK hW hL_a0 hK_a0 (by decide) rfl) rfl rfl hl.1 rfl (lv_room (Nat.le_of_ble_eq_true rfl)) dX12_clears_80 ⟨Nat.le_of_ble_eq_true rfl, Nat.le_of_ble_eq_true rfl⟩) hW (fun r_3 S_4 H locs hp hW => ?_)
      obtain ⟨hX_S_4, hp⟩ := hp
      refine W.widen (k := 0) (n := 0) (by decide) (by decide) ?_
      have hE := hE.trans hX_S_4
      have hK_a0 : sK S_4 a0 = 17 := (hX_S_4.2 a0 hL_a0).1.trans hK_a0
      have hL_a0 : wM D S_4 a0 := hX_S_4.M hL_a0
      refine lv_if_eq (tgt := 102) hx hb dX12_clears_83 (by decide) (fun c_5 => ?_) (fun c_5 => ?_)
      · replace hp := hp.1 c_5
        exact t_X12_clears_102 F hr hlocks hK q_33 q_43 q_54 ih hp hW hE (lv_sub hl [0, 1, 2, 3, 4, 5] rfl) hL_a0 hK_a0
      · replace hp := hp.2 c_5
        refine lv_aload_n hx hb dX12_clears_86 rfl (lv_at hl 0 rfl) ?_
        obtain ⟨y_6, ey_6, hL_y_6, hK_y_6, hp⟩ := hp
        refine w_get (k := 17) (f := 41) (T := TX12) (v := .ref y_6) F hK hW hL_a0 hK_a0 (by decide) rfl rfl (by decide) i_17 k_101 (by rw [show wv 17 41 S_4 a0 = va_rf (sR S_4 a0 41) from rfl, ey_6]; rfl) dX12_clears_87 ?_
        refine lv_iload_n hx hb dX12_clears_90 rfl (lv_at hl 1 rfl) ?_
        refine lv_iload hx hb dX12_clears_91 (lv_at hl 5 rfl) ?_
        refine lv_iload_n hx hb dX12_clears_93 rfl (lv_at hl 2 rfl) ?_
        refine lv_iload_n hx hb dX12_clears_94 rfl (lv_at hl 3 rfl) ?_
        refine lv_iload hx hb dX12_clears_95 (lv_at hl 4 rfl) ?_
        refine w_callI (va_runS (As := [.int x1, .int x5, .int x2, .int x3, .int x4]) (rest := [.ref y_6]) F (c_X12_valueAt l hp H.size) (va_cwS 5 hts (wg_S wm_RX12_483 wy_X12_valueAt) rfl rfl rfl (by decide +kernel) ⟨Nat.le_of_ble_eq_true rfl, Nat.le_of_ble_eq_true rfl⟩) (w_preS hK hW) rfl rfl hl.1 rfl (lv_room (Nat.le_of_ble_eq_true rfl)) dX12_clears_97 ⟨Nat.le_of_ble_eq_true rfl, Nat.le_of_ble_eq_true rfl⟩) hW (fun r_7 S_8 H locs hp hW => ?_)
        obtain ⟨hX_S_8, hp⟩ := hp
        refine W.widen (k := 0) (n := 0) (by decide) (by decide) ?_
        have hE := hE.trans hX_S_8
        have hK_a0 : sK S_8 a0 = 17 := (hX_S_8.2 a0 hL_a0).1.trans hK_a0
        have hL_a0 : wM D S_8 a0 := hX_S_8.M hL_a0
        have hK_y_6 : sK S_8 y_6 = 21 := (hX_S_8.2 y_6 hL_y_6).1.trans hK_y_6
        have hL_y_6 : wM D S_8 y_6 := hX_S_8.M hL_y_6
        refine lv_iconst (v := (-1)) hx hb dX12_clears_100 (by decide) ?_
        obtain ⟨h_9m, h_9, hp⟩ := hp
        refine w_ist F hK hW h_9m hK_y_6 h_9 dX12_clears_101 (fun H locs hW => ?_)
        obtain ⟨S_10, eS_10⟩ : ∃ z : wS, z = uI S_8 y_6 (r_7).toNatClampNeg (-1 : Int32) := ⟨_, rfl⟩
        rw [← eS_10] at hW
        replace hp := hp S_10 eS_10
        have hX_S_10 : wX D S_8 S_10 := by rw [eS_10]; exact wX_uI
        have hE := hE.trans hX_S_10
        have hK_a0 : sK S_10 a0 = 17 := (hX_S_10.2 a0 hL_a0).1.trans hK_a0
        have hL_a0 : wM D S_10 a0 := hX_S_10.M hL_a0
        exact t_X12_clears_102 F hr hlocks hK q_33 q_43 q_54 ih hp hW hE (lv_sub hl [0, 1, 2, 3, 4, 5] rfl) hL_a0 hK_a0
set_option maxHeartbeats 4000000 in
set_option maxRecDepth 100000 in
theorem t_X12_clears_54 {p : Program} {l : Launch} {e : Env} {s : State} {m : MethodId} {args : Array Value} {below : List Frame} {meth : Method} {c : Code} {D : wD} {cy : Nat → ClassId} {X : va_W} {A : Nat → Prop} {S0 : wS} {post : wS → Prop} (F : CallFix p m c cX12_clears 6 s args wz_X12_clears RX12) (hr : meth.sig.returnType = none) (hlocks : meth.locks = false) (hK : wK D cy A s) {k_33 : wS → Nat → Int32 → Int32 → Prop} (q_33 : ∀ {S : wS} {H : Heap} {locs : List Loc} {ls : Array Slot} {a0 : Nat} {x1 : Int32} {x2 : Int32}, k_33 S a0 x1 x2 → wO D cy X A s.heap S H locs → wX D S0 S → lv_has ls 6 [(0, .ref a0), (1, .int x1), (2, .int x2)] → wM D S a0 → sK S a0 = 17 → W p l e r_X12_clears s m args below meth c H locs 0 0 (MQ below (va_Qv (fun S9 => wX D S0 S9 ∧ post S9) (wB D cy X A) A) args s 0 0 A) (F0 m 33 ls [])) {k_43 : wS → Nat → Int32 → Int32 → Int32 → Prop} (q_43 : ∀ {S : wS} {H : Heap} {locs : List Loc} {ls : Array Slot} {a0 : Nat} {x1 : Int32} {x2 : Int32} {x3 : Int32}, k_43 S a0 x1 x2 x3 → wO D cy X A s.heap S H locs → wX D S0 S → lv_has ls 6 [(0, .ref a0), (1, .int x1), (2, .int x2), (3, .int x3)] → wM D S a0 → sK S a0 = 17 → W p l e r_X12_clears s m args below meth c H locs 0 0 (MQ below (va_Qv (fun S9 => wX D S0 S9 ∧ post S9) (wB D cy X A) A) args s 0 0 A) (F0 m 43 ls [])) : ∀ (n : Nat) {S : wS} {H : Heap} {locs : List Loc} {ls : Array Slot} {a0 : Nat} {x1 : Int32} {x2 : Int32} {x3 : Int32} {x4 : Int32}, wp_X12_clears_54 D post k_33 k_43 n S a0 x1 x2 x3 x4 → wO D cy X A s.heap S H locs → wX D S0 S → lv_has ls 6 [(0, .ref a0), (1, .int x1), (2, .int x2), (3, .int x3), (4, .int x4)] → wM D S a0 → sK S a0 = 17 → W p l e r_X12_clears s m args below meth c H locs 0 0 (MQ below (va_Qv (fun S9 => wX D S0 S9 ∧ post S9) (wB D cy X A) A) args s 0 0 A) (F0 m 54 ls []) := by
  obtain ⟨hx, hb, hml, hown, hts⟩ := id F
  have hwg : ∀ w ∈ WG, w.before args s = true := fun w h => hts w (List.mem_cons_of_mem _ h)
  intro n
  induction n with
  | zero =>
    intro S H locs ls a0 x1 x2 x3 x4 hp
    exact hp.elim
  | succ n ih =>
    intro S H locs ls a0 x1 x2 x3 x4 hp hW hE hl hL_a0 hK_a0
    unfold wp_X12_clears_54 at hp
    refine lv_iload hx hb dX12_clears_54 (lv_at hl 4 rfl) ?_
    refine lv_aload_n hx hb dX12_clears_56 rfl (lv_at hl 0 rfl) ?_
    refine w_callI (va_runV (As := []) (rest := [.int x4]) F (c_X12_squares l hL_a0 hK_a0 hp H.size) (cwV (C := RX12) 0 hts (wg_V wm_RX12_113 wy_X12_squares) rfl rfl rfl (by decide +kernel) ⟨Nat.le_of_ble_eq_true rfl, Nat.le_of_ble_eq_true rfl⟩) (w_preV hK hW hL_a0 hK_a0 (by decide) rfl) rfl rfl hl.1 rfl (lv_room (Nat.le_of_ble_eq_true rfl)) dX12_clears_57 ⟨Nat.le_of_ble_eq_true rfl, Nat.le_of_ble_eq_true rfl⟩) hW (fun r_1 S_2 H locs hp hW => ?_)
    obtain ⟨hX_S_2, hp⟩ := hp
    refine W.widen (k := 0) (n := 0) (by decide) (by decide) ?_
    have hE := hE.trans hX_S_2
    have hK_a0 : sK S_2 a0 = 17 := (hX_S_2.2 a0 hL_a0).1.trans hK_a0
    have hL_a0 : wM D S_2 a0 := hX_S_2.M hL_a0
    refine lv_icmp_ge (tgt := 114) hx hb dX12_clears_60 (by decide) (fun c_3 => ?_) (fun c_3 => ?_)
    · replace hp := hp.1 c_3
      obtain ⟨x_4, ex_4⟩ : ∃ z : Int32, z = x3 + 1 := ⟨_, rfl⟩
      replace hp := hp x_4 ex_4
      refine lv_iinc (v := x_4) (lv' := [(3, .int x_4), (0, .ref a0), (1, .int x1), (2, .int x2), (4, .int x4)]) hx hb dX12_clears_114 hl (k := 3) rfl (by rw [ex_4]; rfl) (by decide) rfl (fun ls hl => ?_)
      refine lv_goto (tgt := 43) hx hb dX12_clears_117 (by decide) ?_
      exact q_43 hp hW hE (lv_sub hl [1, 2, 3, 0] rfl) hL_a0 hK_a0
    · replace hp := hp.2 c_3
      refine lv_iconst (v := 0) hx hb dX12_clears_63 (by decide) ?_
      refine lv_istore (lv' := [(5, .int (0 : Int32)), (0, .ref a0), (1, .int x1), (2, .int x2), (3, .int x3), (4, .int x4)]) hx hb dX12_clears_64 hl (by decide) rfl (fun ls hl => ?_)
      obtain ⟨n_5, hp⟩ := hp
      exact t_X12_clears_66 F hr hlocks hK q_33 q_43 ih n_5 hp hW hE (lv_sub hl [1, 2, 3, 4, 5, 0] rfl) hL_a0 hK_a0
set_option maxHeartbeats 4000000 in
set_option maxRecDepth 100000 in
theorem t_X12_clears_43 {p : Program} {l : Launch} {e : Env} {s : State} {m : MethodId} {args : Array Value} {below : List Frame} {meth : Method} {c : Code} {D : wD} {cy : Nat → ClassId} {X : va_W} {A : Nat → Prop} {S0 : wS} {post : wS → Prop} (F : CallFix p m c cX12_clears 6 s args wz_X12_clears RX12) (hr : meth.sig.returnType = none) (hlocks : meth.locks = false) (hK : wK D cy A s) {k_33 : wS → Nat → Int32 → Int32 → Prop} (q_33 : ∀ {S : wS} {H : Heap} {locs : List Loc} {ls : Array Slot} {a0 : Nat} {x1 : Int32} {x2 : Int32}, k_33 S a0 x1 x2 → wO D cy X A s.heap S H locs → wX D S0 S → lv_has ls 6 [(0, .ref a0), (1, .int x1), (2, .int x2)] → wM D S a0 → sK S a0 = 17 → W p l e r_X12_clears s m args below meth c H locs 0 0 (MQ below (va_Qv (fun S9 => wX D S0 S9 ∧ post S9) (wB D cy X A) A) args s 0 0 A) (F0 m 33 ls [])) : ∀ (n : Nat) {S : wS} {H : Heap} {locs : List Loc} {ls : Array Slot} {a0 : Nat} {x1 : Int32} {x2 : Int32} {x3 : Int32}, wp_X12_clears_43 D post k_33 n S a0 x1 x2 x3 → wO D cy X A s.heap S H locs → wX D S0 S → lv_has ls 6 [(0, .ref a0), (1, .int x1), (2, .int x2), (3, .int x3)] → wM D S a0 → sK S a0 = 17 → W p l e r_X12_clears s m args below meth c H locs 0 0 (MQ below (va_Qv (fun S9 => wX D S0 S9 ∧ post S9) (wB D cy X A) A) args s 0 0 A) (F0 m 43 ls []) := by
  obtain ⟨hx, hb, hml, hown, hts⟩ := id F
  have hwg : ∀ w ∈ WG, w.before args s = true := fun w h => hts w (List.mem_cons_of_mem _ h)
  intro n
  induction n with
  | zero =>
    intro S H locs ls a0 x1 x2 x3 hp
    exact hp.elim
  | succ n ih =>
    intro S H locs ls a0 x1 x2 x3 hp hW hE hl hL_a0 hK_a0
    unfold wp_X12_clears_43 at hp
    refine lv_iload_n hx hb dX12_clears_43 rfl (lv_at hl 3 rfl) ?_
    refine lv_aload_n hx hb dX12_clears_44 rfl (lv_at hl 0 rfl) ?_
    refine w_callI (va_runV (As := []) (rest := [.int x3]) F (c_X12_squares l hL_a0 hK_a0 hp H.size) (cwV (C := RX12) 0 hts (wg_V wm_RX12_113 wy_X12_squares) rfl rfl rfl (by decide +kernel) ⟨Nat.le_of_ble_eq_true rfl, Nat.le_of_ble_eq_true rfl⟩) (w_preV hK hW hL_a0 hK_a0 (by decide) rfl) rfl rfl hl.1 rfl (lv_room (Nat.le_of_ble_eq_true rfl)) dX12_clears_45 ⟨Nat.le_of_ble_eq_true rfl, Nat.le_of_ble_eq_true rfl⟩) hW (fun r_1 S_2 H locs hp hW => ?_)
    obtain ⟨hX_S_2, hp⟩ := hp
    refine W.widen (k := 0) (n := 0) (by decide) (by decide) ?_
    have hE := hE.trans hX_S_2
    have hK_a0 : sK S_2 a0 = 17 := (hX_S_2.2 a0 hL_a0).1.trans hK_a0
    have hL_a0 : wM D S_2 a0 := hX_S_2.M hL_a0
    refine lv_icmp_ge (tgt := 120) hx hb dX12_clears_48 (by decide) (fun c_3 => ?_) (fun c_3 => ?_)
    · replace hp := hp.1 c_3
      obtain ⟨x_4, ex_4⟩ : ∃ z : Int32, z = x2 + 1 := ⟨_, rfl⟩
      replace hp := hp x_4 ex_4
      refine lv_iinc (v := x_4) (lv' := [(2, .int x_4), (0, .ref a0), (1, .int x1), (3, .int x3)]) hx hb dX12_clears_120 hl (k := 2) rfl (by rw [ex_4]; rfl) (by decide) rfl (fun ls hl => ?_)
      refine lv_goto (tgt := 33) hx hb dX12_clears_123 (by decide) ?_
      exact q_33 hp hW hE (lv_sub hl [1, 2, 0] rfl) hL_a0 hK_a0
    · replace hp := hp.2 c_3
      refine lv_iconst (v := 0) hx hb dX12_clears_51 (by decide) ?_
      refine lv_istore (lv' := [(4, .int (0 : Int32)), (0, .ref a0), (1, .int x1), (2, .int x2), (3, .int x3)]) hx hb dX12_clears_52 hl (by decide) rfl (fun ls hl => ?_)
      obtain ⟨n_5, hp⟩ := hp
      exact t_X12_clears_54 F hr hlocks hK q_33 ih n_5 hp hW hE (lv_sub hl [1, 2, 3, 4, 0] rfl) hL_a0 hK_a0
set_option maxHeartbeats 4000000 in
set_option maxRecDepth 100000 in
theorem t_X12_clears_33 {p : Program} {l : Launch} {e : Env} {s : State} {m : MethodId} {args : Array Value} {below : List Frame} {meth : Method} {c : Code} {D : wD} {cy : Nat → ClassId} {X : va_W} {A : Nat → Prop} {S0 : wS} {post : wS → Prop} (F : CallFix p m c cX12_clears 6 s args wz_X12_clears RX12) (hr : meth.sig.returnType = none) (hlocks : meth.locks = false) (hK : wK D cy A s) : ∀ (n : Nat) {S : wS} {H : Heap} {locs : List Loc} {ls : Array Slot} {a0 : Nat} {x1 : Int32} {x2 : Int32}, wp_X12_clears_33 D post n S a0 x1 x2 → wO D cy X A s.heap S H locs → wX D S0 S → lv_has ls 6 [(0, .ref a0), (1, .int x1), (2, .int x2)] → wM D S a0 → sK S a0 = 17 → W p l e r_X12_clears s m args below meth c H locs 0 0 (MQ below (va_Qv (fun S9 => wX D S0 S9 ∧ post S9) (wB D cy X A) A) args s 0 0 A) (F0 m 33 ls []) := by
  obtain ⟨hx, hb, hml, hown, hts⟩ := id F
  have hwg : ∀ w ∈ WG, w.before args s = true := fun w h => hts w (List.mem_cons_of_mem _ h)
  intro n
  induction n with
  | zero =>
    intro S H locs ls a0 x1 x2 hp
    exact hp.elim
  | succ n ih =>
    intro S H locs ls a0 x1 x2 hp hW hE hl hL_a0 hK_a0
    unfold wp_X12_clears_33 at hp
    refine lv_iload_n hx hb dX12_clears_33 rfl (lv_at hl 2 rfl) ?_
    refine lv_aload_n hx hb dX12_clears_34 rfl (lv_at hl 0 rfl) ?_
    refine w_callI (va_runV (As := []) (rest := [.int x2]) F (c_X12_squares l hL_a0 hK_a0 hp H.size) (cwV (C := RX12) 0 hts (wg_V wm_RX12_113 wy_X12_squares) rfl rfl rfl (by decide +kernel) ⟨Nat.le_of_ble_eq_true rfl, Nat.le_of_ble_eq_true rfl⟩) (w_preV hK hW hL_a0 hK_a0 (by decide) rfl) rfl rfl hl.1 rfl (lv_room (Nat.le_of_ble_eq_true rfl)) dX12_clears_35 ⟨Nat.le_of_ble_eq_true rfl, Nat.le_of_ble_eq_true rfl⟩) hW (fun r_1 S_2 H locs hp hW => ?_)
    obtain ⟨hX_S_2, hp⟩ := hp
    refine W.widen (k := 0) (n := 0) (by decide) (by decide) ?_
    have hE := hE.trans hX_S_2
    have hK_a0 : sK S_2 a0 = 17 := (hX_S_2.2 a0 hL_a0).1.trans hK_a0
    have hL_a0 : wM D S_2 a0 := hX_S_2.M hL_a0
    refine lv_icmp_ge (tgt := 126) hx hb dX12_clears_38 (by decide) (fun c_3 => ?_) (fun c_3 => ?_)
    · replace hp := hp.1 c_3
      exact w_vret hx hb hr hlocks hW ⟨hE, hp⟩ dX12_clears_126
    · replace hp := hp.2 c_3
      refine lv_iconst (v := 0) hx hb dX12_clears_41 (by decide) ?_
      refine lv_istore_n (lv' := [(3, .int (0 : Int32)), (0, .ref a0), (1, .int x1), (2, .int x2)]) hx hb dX12_clears_42 rfl hl (by decide) rfl (fun ls hl => ?_)
      obtain ⟨n_4, hp⟩ := hp
      exact t_X12_clears_43 F hr hlocks hK ih n_4 hp hW hE (lv_sub hl [1, 2, 3, 0] rfl) hL_a0 hK_a0
set_option maxHeartbeats 4000000 in
set_option maxRecDepth 100000 in
theorem t_X12_clears_2 {p : Program} {l : Launch} {e : Env} {s : State} {m : MethodId} {args : Array Value} {below : List Frame} {meth : Method} {c : Code} {D : wD} {cy : Nat → ClassId} {X : va_W} {A : Nat → Prop} {S0 : wS} {post : wS → Prop} (F : CallFix p m c cX12_clears 6 s args wz_X12_clears RX12) (hr : meth.sig.returnType = none) (hlocks : meth.locks = false) (hK : wK D cy A s) : ∀ (n : Nat) {S : wS} {H : Heap} {locs : List Loc} {ls : Array Slot} {a0 : Nat} {x1 : Int32} {x2 : Int32}, wp_X12_clears_2 D post n S a0 x1 x2 → wO D cy X A s.heap S H locs → wX D S0 S → lv_has ls 6 [(0, .ref a0), (1, .int x1), (2, .int x2)] → wM D S a0 → sK S a0 = 17 → W p l e r_X12_clears s m args below meth c H locs 0 0 (MQ below (va_Qv (fun S9 => wX D S0 S9 ∧ post S9) (wB D cy X A) A) args s 0 0 A) (F0 m 2 ls []) := by
  obtain ⟨hx, hb, hml, hown, hts⟩ := id F
  have hwg : ∀ w ∈ WG, w.before args s = true := fun w h => hts w (List.mem_cons_of_mem _ h)
  have i_17 : ∀ w ∈ u_ws RX12 TX12 43, w ∈ wz_X12_clears := fun w h => List.mem_cons_of_mem _ (wu_17 w h)
  have k_101 := hwg _ wf_RX12_101
  intro n
  induction n with
  | zero =>
    intro S H locs ls a0 x1 x2 hp
    exact hp.elim
  | succ n ih =>
    intro S H locs ls a0 x1 x2 hp hW hE hl hL_a0 hK_a0
    unfold wp_X12_clears_2 at hp
    refine lv_iload_n hx hb dX12_clears_2 rfl (lv_at hl 2 rfl) ?_
    refine lv_sipush (v := 31250) hx hb dX12_clears_3 (by decide) ?_
    refine lv_icmp_ge (tgt := 31) hx hb dX12_clears_6 (by decide) (fun c_1 => ?_) (fun c_1 => ?_)
    · replace hp := hp.1 c_1
      refine lv_iconst (v := 0) hx hb dX12_clears_31 (by decide) ?_
      refine lv_istore_n (lv' := [(2, .int (0 : Int32)), (0, .ref a0), (1, .int x1)]) hx hb dX12_clears_32 rfl hl (by decide) rfl (fun ls hl => ?_)
      obtain ⟨n_2, hp⟩ := hp
      exact t_X12_clears_33 F hr hlocks hK n_2 hp hW hE (lv_sub hl [1, 2, 0] rfl) hL_a0 hK_a0
    · replace hp := hp.2 c_1
      refine lv_aload_n hx hb dX12_clears_9 rfl (lv_at hl 0 rfl) ?_
      obtain ⟨y_3, ey_3, hL_y_3, hK_y_3, hp⟩ := hp
      refine w_get (k := 17) (f := 41) (T := TX12) (v := .ref y_3) F hK hW hL_a0 hK_a0 (by decide) rfl rfl (by decide) i_17 k_101 (by rw [show wv 17 41 S a0 = va_rf (sR S a0 41) from rfl, ey_3]; rfl) dX12_clears_10 ?_
      refine lv_sipush (v := 31250) hx hb dX12_clears_13 (by decide) ?_
      refine lv_iload_n hx hb dX12_clears_16 rfl (lv_at hl 1 rfl) ?_
      refine lv_iconst (v := 2) hx hb dX12_clears_17 (by decide) ?_
      refine lv_isub hx hb dX12_clears_18 ?_
      refine lv_imul hx hb dX12_clears_19 ?_
      refine lv_iload_n hx hb dX12_clears_20 rfl (lv_at hl 2 rfl) ?_
      refine lv_iadd hx hb dX12_clears_21 ?_
      refine lv_bipush (v := (-2)) hx hb dX12_clears_22 (by decide) ?_
      obtain ⟨h_4m, h_4, hp⟩ := hp
      refine w_ist F hK hW h_4m hK_y_3 h_4 dX12_clears_24 (fun H locs hW => ?_)
      obtain ⟨S_5, eS_5⟩ : ∃ z : wS, z = uI S y_3 ((((31250 : Int32) * (x1 - (2 : Int32))) + x2)).toNatClampNeg (-2 : Int32) := ⟨_, rfl⟩
      rw [← eS_5] at hW
      replace hp := hp S_5 eS_5
      have hX_S_5 : wX D S S_5 := by rw [eS_5]; exact wX_uI
      have hE := hE.trans hX_S_5
      have hK_a0 : sK S_5 a0 = 17 := (hX_S_5.2 a0 hL_a0).1.trans hK_a0
      have hL_a0 : wM D S_5 a0 := hX_S_5.M hL_a0
      obtain ⟨x_6, ex_6⟩ : ∃ z : Int32, z = x2 + 1 := ⟨_, rfl⟩
      replace hp := hp x_6 ex_6
      refine lv_iinc (v := x_6) (lv' := [(2, .int x_6), (0, .ref a0), (1, .int x1)]) hx hb dX12_clears_25 hl (k := 2) rfl (by rw [ex_6]; rfl) (by decide) rfl (fun ls hl => ?_)
      refine lv_goto (tgt := 2) hx hb dX12_clears_28 (by decide) ?_
      exact ih hp hW hE (lv_sub hl [1, 2, 0] rfl) hL_a0 hK_a0
set_option maxHeartbeats 4000000 in
set_option maxRecDepth 100000 in
theorem t_X12_clears_0 {p : Program} {l : Launch} {e : Env} {s : State} {m : MethodId} {args : Array Value} {below : List Frame} {meth : Method} {c : Code} {D : wD} {cy : Nat → ClassId} {X : va_W} {A : Nat → Prop} {S0 : wS} {post : wS → Prop} (F : CallFix p m c cX12_clears 6 s args wz_X12_clears RX12) (hr : meth.sig.returnType = none) (hlocks : meth.locks = false) (hK : wK D cy A s) : ∀ {S : wS} {H : Heap} {locs : List Loc} {ls : Array Slot} {a0 : Nat} {x1 : Int32}, wp_X12_clears_0 D post S a0 x1 → wO D cy X A s.heap S H locs → wX D S0 S → lv_has ls 6 [(0, .ref a0), (1, .int x1)] → wM D S a0 → sK S a0 = 17 → W p l e r_X12_clears s m args below meth c H locs 0 0 (MQ below (va_Qv (fun S9 => wX D S0 S9 ∧ post S9) (wB D cy X A) A) args s 0 0 A) (F0 m 0 ls []) := by
  obtain ⟨hx, hb, hml, hown, hts⟩ := id F
  have hwg : ∀ w ∈ WG, w.before args s = true := fun w h => hts w (List.mem_cons_of_mem _ h)
  intro S H locs ls a0 x1 hp hW hE hl hL_a0 hK_a0
  unfold wp_X12_clears_0 at hp
  refine lv_iconst (v := 0) hx hb dX12_clears_0 (by decide) ?_
  refine lv_istore_n (lv' := [(2, .int (0 : Int32)), (0, .ref a0), (1, .int x1)]) hx hb dX12_clears_1 rfl hl (by decide) rfl (fun ls hl => ?_)
  obtain ⟨n_1, hp⟩ := hp
  exact t_X12_clears_2 F hr hlocks hK n_1 hp hW hE (lv_sub hl [1, 2, 0] rfl) hL_a0 hK_a0
set_option maxHeartbeats 4000000 in
set_option maxRecDepth 100000 in
theorem c_X12_clears (l : Launch) {D : wD} {cy : Nat → ClassId} {X : va_W} {S0 : wS} {post : wS → Prop} {a0 : Nat} {x1 : Int32} (hL_a0 : wM D S0 a0) (hK_a0 : sK S0 a0 = 17) (hp : wp_X12_clears D post S0 a0 x1) : mV D cy X l yX12_clears wz_X12_clears r_X12_clears [.ref a0, .int x1] S0 (fun S9 => wX D S0 S9 ∧ post S9) := by
  intro sz
  refine Met.ofW (cc := cX12_clears) (maxL := 6) (ret := none) (by decide) rfl ?_
  intro p e s m args below meth c s₁ B hml hv
  obtain ⟨rfl, hsz, hP, hK, hD0, hRO⟩ := hv
  have hts := atoms_spec (ws := wz_X12_clears) B.pre
  have hown : s.vm.findClass RX12 = some m.cls := findClass_of_methodNamed B.named
  subst hsz
  have hD := hD0.self (sz := s.heap.size)
  have F : CallFix p m c cX12_clears 6 s _ wz_X12_clears RX12 := ⟨B.exec, B.bytes, hml, hown, hts⟩
  have hr := B.returns
  have hlocks := B.notSynchronized
  generalize hAe : va_A (wL cy X S0) s.heap.size = A at hD hK ⊢
  have hA : ∀ q, s.heap.size ≤ q → A q := fun q h => by rw [← hAe]; exact Or.inr h
  have hW : wO D cy X A s.heap S0 s.heap [] := ⟨hP, hD, va_S.rf, hA, hRO⟩
  have hl := lv_entry ([.ref a0, .int x1]) (n := 6) (Nat.le_of_ble_eq_true rfl)
  rw [lg_entry_eq]
  generalize (lg_sl ([.ref a0, .int x1]) ++ List.replicate (6 - (lg_sl ([.ref a0, .int x1])).length) Slot.unset).toArray = ls at hl ⊢
  have hl : lv_has ls 6 [(0, .ref a0), (1, .int x1)] := hl
  unfold wp_X12_clears at hp
  exact t_X12_clears_0 F hr hlocks hK hp hW wX.rf (lv_sub hl [0, 1] rfl) hL_a0 hK_a0
def wp_X12_common_4 (D : wD) (post : Int32 → wS → Prop)  : Nat → wS → Int32 → Int32 → Prop
  | 0, _, _, _ => False
  | n + 1, S, x2, x3 =>
    ((x3 = 0 → post x2 S) ∧
     (¬ x3 = 0 → ¬ x3 = 0 ∧
    ∀ x_3 : Int32, x_3 = (x2 - x2 / x3 * x3) →
    wp_X12_common_4 D post n S x3 x_3))
def wp_X12_common_0 (D : wD) (post : Int32 → wS → Prop)  (S : wS) (x0 : Int32) (x1 : Int32) : Prop :=
∃ n_1 : Nat, wp_X12_common_4 D post n_1 S x0 x1
abbrev r_X12_common : Room := { frames := 0, cells := 0, slots := 0, locals := 0 }
def wp_X12_common (D : wD) (post : Int32 → wS → Prop) (S : wS) (x0 : Int32) (x1 : Int32) : Prop := wp_X12_common_0 D post S x0 x1
set_option maxHeartbeats 4000000 in
set_option maxRecDepth 100000 in
theorem t_X12_common_4 {p : Program} {l : Launch} {e : Env} {s : State} {m : MethodId} {args : Array Value} {below : List Frame} {meth : Method} {c : Code} {D : wD} {cy : Nat → ClassId} {X : va_W} {A : Nat → Prop} {S0 : wS} {post : Int32 → wS → Prop} (F : CallFix p m c cX12_common 5 s args wz_X12_common RX12) (hr : meth.sig.returnType = (some .int)) (hlocks : meth.locks = false) (hK : wK D cy A s) : ∀ (n : Nat) {S : wS} {H : Heap} {locs : List Loc} {ls : Array Slot} {x2 : Int32} {x3 : Int32}, wp_X12_common_4 D post n S x2 x3 → wO D cy X A s.heap S H locs → wX D S0 S → lv_has ls 5 [(2, .int x2), (3, .int x3)] → W p l e r_X12_common s m args below meth c H locs 0 0 (MQ below (va_Qi (fun r S9 => wX D S0 S9 ∧ post r S9) (wB D cy X A) A) args s 0 0 A) (F0 m 4 ls []) := by
  obtain ⟨hx, hb, hml, hown, hts⟩ := id F
  have hwg : ∀ w ∈ WG, w.before args s = true := fun w h => hts w (List.mem_cons_of_mem _ h)
  intro n
  induction n with
  | zero =>
    intro S H locs ls x2 x3 hp
    exact hp.elim
  | succ n ih =>
    intro S H locs ls x2 x3 hp hW hE hl
    unfold wp_X12_common_4 at hp
    refine lv_iload_n hx hb dX12_common_4 rfl (lv_at hl 1 rfl) ?_
    refine lv_if_eq (tgt := 21) hx hb dX12_common_5 (by decide) (fun c_1 => ?_) (fun c_1 => ?_)
    · replace hp := hp.1 c_1
      refine lv_iload_n hx hb dX12_common_21 rfl (lv_at hl 0 rfl) ?_
      exact w_iret hx hb hr hlocks hW ⟨hE, hp⟩ dX12_common_22
    · replace hp := hp.2 c_1
      refine lv_iload_n hx hb dX12_common_8 rfl (lv_at hl 0 rfl) ?_
      refine lv_iload_n hx hb dX12_common_9 rfl (lv_at hl 1 rfl) ?_
      obtain ⟨h_2, hp⟩ := hp
      refine lv_irem hx hb dX12_common_10 h_2 ?_
      refine lv_topi (fun x_3 ex_3 => ?_)
      replace hp := hp x_3 ex_3
      refine lv_istore (lv' := [(4, .int x_3), (2, .int x2), (3, .int x3)]) hx hb dX12_common_11 hl (by decide) rfl (fun ls hl => ?_)
      refine lv_iload_n hx hb dX12_common_13 rfl (lv_at hl 2 rfl) ?_
      refine lv_istore_n (lv' := [(2, .int x3), (4, .int x_3), (3, .int x3)]) hx hb dX12_common_14 rfl hl (by decide) rfl (fun ls hl => ?_)
      refine lv_iload hx hb dX12_common_15 (lv_at hl 1 rfl) ?_
      refine lv_istore_n (lv' := [(3, .int x_3), (2, .int x3), (4, .int x_3)]) hx hb dX12_common_17 rfl hl (by decide) rfl (fun ls hl => ?_)
      refine lv_goto (tgt := 4) hx hb dX12_common_18 (by decide) ?_
      exact ih hp hW hE (lv_sub hl [1, 0] rfl)
set_option maxHeartbeats 4000000 in
set_option maxRecDepth 100000 in
theorem t_X12_common_0 {p : Program} {l : Launch} {e : Env} {s : State} {m : MethodId} {args : Array Value} {below : List Frame} {meth : Method} {c : Code} {D : wD} {cy : Nat → ClassId} {X : va_W} {A : Nat → Prop} {S0 : wS} {post : Int32 → wS → Prop} (F : CallFix p m c cX12_common 5 s args wz_X12_common RX12) (hr : meth.sig.returnType = (some .int)) (hlocks : meth.locks = false) (hK : wK D cy A s) : ∀ {S : wS} {H : Heap} {locs : List Loc} {ls : Array Slot} {x0 : Int32} {x1 : Int32}, wp_X12_common_0 D post S x0 x1 → wO D cy X A s.heap S H locs → wX D S0 S → lv_has ls 5 [(0, .int x0), (1, .int x1)] → W p l e r_X12_common s m args below meth c H locs 0 0 (MQ below (va_Qi (fun r S9 => wX D S0 S9 ∧ post r S9) (wB D cy X A) A) args s 0 0 A) (F0 m 0 ls []) := by
  obtain ⟨hx, hb, hml, hown, hts⟩ := id F
  have hwg : ∀ w ∈ WG, w.before args s = true := fun w h => hts w (List.mem_cons_of_mem _ h)
  intro S H locs ls x0 x1 hp hW hE hl
  unfold wp_X12_common_0 at hp
  refine lv_iload_n hx hb dX12_common_0 rfl (lv_at hl 0 rfl) ?_
  refine lv_istore_n (lv' := [(2, .int x0), (0, .int x0), (1, .int x1)]) hx hb dX12_common_1 rfl hl (by decide) rfl (fun ls hl => ?_)
  refine lv_iload_n hx hb dX12_common_2 rfl (lv_at hl 2 rfl) ?_
  refine lv_istore_n (lv' := [(3, .int x1), (2, .int x0), (0, .int x0), (1, .int x1)]) hx hb dX12_common_3 rfl hl (by decide) rfl (fun ls hl => ?_)
  obtain ⟨n_1, hp⟩ := hp
  exact t_X12_common_4 F hr hlocks hK n_1 hp hW hE (lv_sub hl [1, 0] rfl)
set_option maxHeartbeats 4000000 in
set_option maxRecDepth 100000 in
theorem c_X12_common (l : Launch) {D : wD} {cy : Nat → ClassId} {X : va_W} {S0 : wS} {post : Int32 → wS → Prop} {x0 : Int32} {x1 : Int32} (hp : wp_X12_common D post S0 x0 x1) : mI D cy X l yX12_common wz_X12_common r_X12_common [.int x0, .int x1] S0 (fun r S9 => wX D S0 S9 ∧ post r S9) := by
  intro sz
  refine Met.ofW (cc := cX12_common) (maxL := 5) (ret := (some .int)) (by decide) rfl ?_
  intro p e s m args below meth c s₁ B hml hv
  obtain ⟨rfl, hsz, hP, hK, hD0, hRO⟩ := hv
  have hts := atoms_spec (ws := wz_X12_common) B.pre
  have hown : s.vm.findClass RX12 = some m.cls := findClass_of_methodNamed B.named
  subst hsz
  have hD := hD0.self (sz := s.heap.size)
  have F : CallFix p m c cX12_common 5 s _ wz_X12_common RX12 := ⟨B.exec, B.bytes, hml, hown, hts⟩
  have hr := B.returns
  have hlocks := B.notSynchronized
  generalize hAe : va_A (wL cy X S0) s.heap.size = A at hD hK ⊢
  have hA : ∀ q, s.heap.size ≤ q → A q := fun q h => by rw [← hAe]; exact Or.inr h
  have hW : wO D cy X A s.heap S0 s.heap [] := ⟨hP, hD, va_S.rf, hA, hRO⟩
  have hl := lv_entry ([.int x0, .int x1]) (n := 5) (Nat.le_of_ble_eq_true rfl)
  rw [lg_entry_eq]
  generalize (lg_sl ([.int x0, .int x1]) ++ List.replicate (5 - (lg_sl ([.int x0, .int x1])).length) Slot.unset).toArray = ls at hl ⊢
  have hl : lv_has ls 5 [(0, .int x0), (1, .int x1)] := hl
  unfold wp_X12_common at hp
  exact t_X12_common_0 F hr hlocks hK hp hW wX.rf (lv_sub hl [0, 1] rfl)
def wp_X12_continuationAt_17 (D : wD) (post : Int32 → wS → Prop)  (S : wS) (t0 : Int32) : Prop :=
post t0 S
def wp_X12_continuationAt_0 (D : wD) (post : Int32 → wS → Prop)  (S : wS) (a0 : Nat) (x1 : Int32) (x2 : Int32) : Prop :=
wp_X12_asksContinuation D (fun r_1 S_2 => 
((¬ r_1 = (-1 : Int32) → wp_X12_continuationAt_17 D post S_2 r_1) ∧
 (r_1 = (-1 : Int32) → wp_X12_continuationAt_17 D post S_2 (0 : Int32)))) S a0 x1 x2
abbrev r_X12_continuationAt : Room := { frames := 12, cells := 0, slots := 0, locals := 287 }
def wp_X12_continuationAt (D : wD) (post : Int32 → wS → Prop) (S : wS) (a0 : Nat) (x1 : Int32) (x2 : Int32) : Prop := wp_X12_continuationAt_0 D post S a0 x1 x2
set_option maxHeartbeats 4000000 in
set_option maxRecDepth 100000 in
theorem t_X12_continuationAt_17 {p : Program} {l : Launch} {e : Env} {s : State} {m : MethodId} {args : Array Value} {below : List Frame} {meth : Method} {c : Code} {D : wD} {cy : Nat → ClassId} {X : va_W} {A : Nat → Prop} {S0 : wS} {post : Int32 → wS → Prop} (F : CallFix p m c cX12_continuationAt 4 s args wz_X12_continuationAt RX12) (hr : meth.sig.returnType = (some .int)) (hlocks : meth.locks = false) (hK : wK D cy A s) : ∀ {S : wS} {H : Heap} {locs : List Loc} {ls : Array Slot} {t0 : Int32}, wp_X12_continuationAt_17 D post S t0 → wO D cy X A s.heap S H locs → wX D S0 S → lv_has ls 4 [] → W p l e r_X12_continuationAt s m args below meth c H locs 0 0 (MQ below (va_Qi (fun r S9 => wX D S0 S9 ∧ post r S9) (wB D cy X A) A) args s 0 0 A) (F0 m 17 ls [.int t0]) := by
  obtain ⟨hx, hb, hml, hown, hts⟩ := id F
  have hwg : ∀ w ∈ WG, w.before args s = true := fun w h => hts w (List.mem_cons_of_mem _ h)
  intro S H locs ls t0 hp hW hE hl
  unfold wp_X12_continuationAt_17 at hp
  exact w_iret hx hb hr hlocks hW ⟨hE, hp⟩ dX12_continuationAt_17
set_option maxHeartbeats 4000000 in
set_option maxRecDepth 100000 in
theorem t_X12_continuationAt_0 {p : Program} {l : Launch} {e : Env} {s : State} {m : MethodId} {args : Array Value} {below : List Frame} {meth : Method} {c : Code} {D : wD} {cy : Nat → ClassId} {X : va_W} {A : Nat → Prop} {S0 : wS} {post : Int32 → wS → Prop} (F : CallFix p m c cX12_continuationAt 4 s args wz_X12_continuationAt RX12) (hr : meth.sig.returnType = (some .int)) (hlocks : meth.locks = false) (hK : wK D cy A s) : ∀ {S : wS} {H : Heap} {locs : List Loc} {ls : Array Slot} {a0 : Nat} {x1 : Int32} {x2 : Int32}, wp_X12_continuationAt_0 D post S a0 x1 x2 → wO D cy X A s.heap S H locs → wX D S0 S → lv_has ls 4 [(0, .ref a0), (1, .int x1), (2, .int x2)] → wM D S a0 → sK S a0 = 17 → W p l e r_X12_continuationAt s m args below meth c H locs 0 0 (MQ below (va_Qi (fun r S9 => wX D S0 S9 ∧ post r S9) (wB D cy X A) A) args s 0 0 A) (F0 m 0 ls []) := by
  obtain ⟨hx, hb, hml, hown, hts⟩ := id F
  have hwg : ∀ w ∈ WG, w.before args s = true := fun w h => hts w (List.mem_cons_of_mem _ h)
  intro S H locs ls a0 x1 x2 hp hW hE hl hL_a0 hK_a0
  unfold wp_X12_continuationAt_0 at hp
  refine lv_aload_n hx hb dX12_continuationAt_0 rfl (lv_at hl 0 rfl) ?_
  refine lv_iload_n hx hb dX12_continuationAt_1 rfl (lv_at hl 1 rfl) ?_
  refine lv_iload_n hx hb dX12_continuationAt_2 rfl (lv_at hl 2 rfl) ?_
  refine w_callI (va_runV (As := [.int x1, .int x2]) (rest := []) F (c_X12_asksContinuation l hL_a0 hK_a0 hp H.size) (cwV (C := RX12) 2 hts (wg_V wm_RX12_452 wy_X12_asksContinuation) rfl rfl rfl (by decide +kernel) ⟨Nat.le_of_ble_eq_true rfl, Nat.le_of_ble_eq_true rfl⟩) (w_preV hK hW hL_a0 hK_a0 (by decide) rfl) rfl rfl hl.1 rfl (lv_room (Nat.le_of_ble_eq_true rfl)) dX12_continuationAt_3 ⟨Nat.le_of_ble_eq_true rfl, Nat.le_of_ble_eq_true rfl⟩) hW (fun r_1 S_2 H locs hp hW => ?_)
  obtain ⟨hX_S_2, hp⟩ := hp
  refine W.widen (k := 0) (n := 0) (by decide) (by decide) ?_
  have hE := hE.trans hX_S_2
  have hK_a0 : sK S_2 a0 = 17 := (hX_S_2.2 a0 hL_a0).1.trans hK_a0
  have hL_a0 : wM D S_2 a0 := hX_S_2.M hL_a0
  refine lv_istore_n (lv' := [(3, .int r_1), (0, .ref a0), (1, .int x1), (2, .int x2)]) hx hb dX12_continuationAt_6 rfl hl (by decide) rfl (fun ls hl => ?_)
  refine lv_iload_n hx hb dX12_continuationAt_7 rfl (lv_at hl 0 rfl) ?_
  refine lv_iconst (v := (-1)) hx hb dX12_continuationAt_8 (by decide) ?_
  refine lv_icmp_ne (tgt := 16) hx hb dX12_continuationAt_9 (by decide) (fun c_3 => ?_) (fun c_3 => ?_)
  · replace hp := hp.1 c_3
    refine lv_iload_n hx hb dX12_continuationAt_16 rfl (lv_at hl 0 rfl) ?_
    exact t_X12_continuationAt_17 F hr hlocks hK hp hW hE (lv_sub hl [] rfl)
  · replace hp := hp.2 c_3
    refine lv_iconst (v := 0) hx hb dX12_continuationAt_12 (by decide) ?_
    refine lv_goto (tgt := 17) hx hb dX12_continuationAt_13 (by decide) ?_
    exact t_X12_continuationAt_17 F hr hlocks hK hp hW hE (lv_sub hl [] rfl)
set_option maxHeartbeats 4000000 in
set_option maxRecDepth 100000 in
theorem c_X12_continuationAt (l : Launch) {D : wD} {cy : Nat → ClassId} {X : va_W} {S0 : wS} {post : Int32 → wS → Prop} {a0 : Nat} {x1 : Int32} {x2 : Int32} (hL_a0 : wM D S0 a0) (hK_a0 : sK S0 a0 = 17) (hp : wp_X12_continuationAt D post S0 a0 x1 x2) : mI D cy X l yX12_continuationAt wz_X12_continuationAt r_X12_continuationAt [.ref a0, .int x1, .int x2] S0 (fun r S9 => wX D S0 S9 ∧ post r S9) := by
  intro sz
  refine Met.ofW (cc := cX12_continuationAt) (maxL := 4) (ret := (some .int)) (by decide) rfl ?_
  intro p e s m args below meth c s₁ B hml hv
  obtain ⟨rfl, hsz, hP, hK, hD0, hRO⟩ := hv
  have hts := atoms_spec (ws := wz_X12_continuationAt) B.pre
  have hown : s.vm.findClass RX12 = some m.cls := findClass_of_methodNamed B.named
  subst hsz
  have hD := hD0.self (sz := s.heap.size)
  have F : CallFix p m c cX12_continuationAt 4 s _ wz_X12_continuationAt RX12 := ⟨B.exec, B.bytes, hml, hown, hts⟩
  have hr := B.returns
  have hlocks := B.notSynchronized
  generalize hAe : va_A (wL cy X S0) s.heap.size = A at hD hK ⊢
  have hA : ∀ q, s.heap.size ≤ q → A q := fun q h => by rw [← hAe]; exact Or.inr h
  have hW : wO D cy X A s.heap S0 s.heap [] := ⟨hP, hD, va_S.rf, hA, hRO⟩
  have hl := lv_entry ([.ref a0, .int x1, .int x2]) (n := 4) (Nat.le_of_ble_eq_true rfl)
  rw [lg_entry_eq]
  generalize (lg_sl ([.ref a0, .int x1, .int x2]) ++ List.replicate (4 - (lg_sl ([.ref a0, .int x1, .int x2])).length) Slot.unset).toArray = ls at hl ⊢
  have hl : lv_has ls 4 [(0, .ref a0), (1, .int x1), (2, .int x2)] := hl
  unfold wp_X12_continuationAt at hp
  exact t_X12_continuationAt_0 F hr hlocks hK hp hW wX.rf (lv_sub hl [0, 1, 2] rfl) hL_a0 hK_a0
def wp_X12_continued_29 (D : wD) (post : Int32 → wS → Prop) (k_4 : wS → Nat → Int32 → Int32 → Prop) (S : wS) (a0 : Nat) (x2 : Int32) (t0 : Int32) (t1 : Int32) : Prop :=
∀ x_1 : Int32, x_1 = (t0 + t1) →
∀ x_2 : Int32, x_2 = x2 + 1 →
k_4 S a0 x_1 x_2
def wp_X12_continued_4 (D : wD) (post : Int32 → wS → Prop)  : Nat → wS → Nat → Int32 → Int32 → Prop
  | 0, _, _, _, _ => False
  | n + 1, S, a0, x1, x2 =>
    ∃ y_1 : Nat, sR S a0 7 = some y_1 ∧ wM D S y_1 ∧ sK S y_1 = 21 ∧
    vp_in (0 : Int32) (sN S y_1) ∧
    (((sI S y_1 ((0 : Int32)).toNatClampNeg) ≤ x2 → post x1 S) ∧
     (¬ (sI S y_1 ((0 : Int32)).toNatClampNeg) ≤ x2 → ∃ y_4 : Nat, sR S a0 19 = some y_4 ∧ wM D S y_4 ∧ sK S y_4 = 21 ∧
    vp_in x2 (sN S y_4) ∧
    (((sI S y_4 (x2).toNatClampNeg) ≤ 0 → wp_X12_continued_29 D post (wp_X12_continued_4 D post n) S a0 x2 x1 (0 : Int32)) ∧
     (¬ (sI S y_4 (x2).toNatClampNeg) ≤ 0 → wp_X12_continued_29 D post (wp_X12_continued_4 D post n) S a0 x2 x1 (1 : Int32)))))
def wp_X12_continued_0 (D : wD) (post : Int32 → wS → Prop)  (S : wS) (a0 : Nat) : Prop :=
∃ n_1 : Nat, wp_X12_continued_4 D post n_1 S a0 (0 : Int32) (0 : Int32)
abbrev r_X12_continued : Room := { frames := 0, cells := 0, slots := 0, locals := 0 }
def wp_X12_continued (D : wD) (post : Int32 → wS → Prop) (S : wS) (a0 : Nat) : Prop := wp_X12_continued_0 D post S a0
set_option maxHeartbeats 4000000 in
set_option maxRecDepth 100000 in
theorem t_X12_continued_29 {p : Program} {l : Launch} {e : Env} {s : State} {m : MethodId} {args : Array Value} {below : List Frame} {meth : Method} {c : Code} {D : wD} {cy : Nat → ClassId} {X : va_W} {A : Nat → Prop} {S0 : wS} {post : Int32 → wS → Prop} (F : CallFix p m c cX12_continued 3 s args wz_X12_continued RX12) (hr : meth.sig.returnType = (some .int)) (hlocks : meth.locks = false) (hK : wK D cy A s) {k_4 : wS → Nat → Int32 → Int32 → Prop} (q_4 : ∀ {S : wS} {H : Heap} {locs : List Loc} {ls : Array Slot} {a0 : Nat} {x1 : Int32} {x2 : Int32}, k_4 S a0 x1 x2 → wO D cy X A s.heap S H locs → wX D S0 S → lv_has ls 3 [(0, .ref a0), (1, .int x1), (2, .int x2)] → wM D S a0 → sK S a0 = 17 → W p l e r_X12_continued s m args below meth c H locs 0 0 (MQ below (va_Qi (fun r S9 => wX D S0 S9 ∧ post r S9) (wB D cy X A) A) args s 0 0 A) (F0 m 4 ls [])) : ∀ {S : wS} {H : Heap} {locs : List Loc} {ls : Array Slot} {a0 : Nat} {x2 : Int32} {t0 : Int32} {t1 : Int32}, wp_X12_continued_29 D post k_4 S a0 x2 t0 t1 → wO D cy X A s.heap S H locs → wX D S0 S → lv_has ls 3 [(0, .ref a0), (2, .int x2)] → wM D S a0 → sK S a0 = 17 → W p l e r_X12_continued s m args below meth c H locs 0 0 (MQ below (va_Qi (fun r S9 => wX D S0 S9 ∧ post r S9) (wB D cy X A) A) args s 0 0 A) (F0 m 29 ls [.int t1, .int t0]) := by
  obtain ⟨hx, hb, hml, hown, hts⟩ := id F
  have hwg : ∀ w ∈ WG, w.before args s = true := fun w h => hts w (List.mem_cons_of_mem _ h)
  intro S H locs ls a0 x2 t0 t1 hp hW hE hl hL_a0 hK_a0
  unfold wp_X12_continued_29 at hp
  refine lv_iadd hx hb dX12_continued_29 ?_
  refine lv_topi (fun x_1 ex_1 => ?_)
  replace hp := hp x_1 ex_1
  refine lv_istore_n (lv' := [(1, .int x_1), (0, .ref a0), (2, .int x2)]) hx hb dX12_continued_30 rfl hl (by decide) rfl (fun ls hl => ?_)
  obtain ⟨x_2, ex_2⟩ : ∃ z : Int32, z = x2 + 1 := ⟨_, rfl⟩
  replace hp := hp x_2 ex_2
  refine lv_iinc (v := x_2) (lv' := [(2, .int x_2), (1, .int x_1), (0, .ref a0)]) hx hb dX12_continued_31 hl (k := 2) rfl (by rw [ex_2]; rfl) (by decide) rfl (fun ls hl => ?_)
  refine lv_goto (tgt := 4) hx hb dX12_continued_34 (by decide) ?_
  exact q_4 hp hW hE (lv_sub hl [2, 1, 0] rfl) hL_a0 hK_a0
set_option maxHeartbeats 4000000 in
set_option maxRecDepth 100000 in
theorem t_X12_continued_4 {p : Program} {l : Launch} {e : Env} {s : State} {m : MethodId} {args : Array Value} {below : List Frame} {meth : Method} {c : Code} {D : wD} {cy : Nat → ClassId} {X : va_W} {A : Nat → Prop} {S0 : wS} {post : Int32 → wS → Prop} (F : CallFix p m c cX12_continued 3 s args wz_X12_continued RX12) (hr : meth.sig.returnType = (some .int)) (hlocks : meth.locks = false) (hK : wK D cy A s) : ∀ (n : Nat) {S : wS} {H : Heap} {locs : List Loc} {ls : Array Slot} {a0 : Nat} {x1 : Int32} {x2 : Int32}, wp_X12_continued_4 D post n S a0 x1 x2 → wO D cy X A s.heap S H locs → wX D S0 S → lv_has ls 3 [(0, .ref a0), (1, .int x1), (2, .int x2)] → wM D S a0 → sK S a0 = 17 → W p l e r_X12_continued s m args below meth c H locs 0 0 (MQ below (va_Qi (fun r S9 => wX D S0 S9 ∧ post r S9) (wB D cy X A) A) args s 0 0 A) (F0 m 4 ls []) := by
  obtain ⟨hx, hb, hml, hown, hts⟩ := id F
  have hwg : ∀ w ∈ WG, w.before args s = true := fun w h => hts w (List.mem_cons_of_mem _ h)
  have i_17 : ∀ w ∈ u_ws RX12 TX12 43, w ∈ wz_X12_continued := fun w h => List.mem_cons_of_mem _ (wu_17 w h)
  have k_29 := hwg _ wf_RX12_29
  have k_54 := hwg _ wf_RX12_54
  intro n
  induction n with
  | zero =>
    intro S H locs ls a0 x1 x2 hp
    exact hp.elim
  | succ n ih =>
    intro S H locs ls a0 x1 x2 hp hW hE hl hL_a0 hK_a0
    unfold wp_X12_continued_4 at hp
    refine lv_iload_n hx hb dX12_continued_4 rfl (lv_at hl 2 rfl) ?_
    refine lv_aload_n hx hb dX12_continued_5 rfl (lv_at hl 0 rfl) ?_
    obtain ⟨y_1, ey_1, hL_y_1, hK_y_1, hp⟩ := hp
    refine w_get (k := 17) (f := 7) (T := TX12) (v := .ref y_1) F hK hW hL_a0 hK_a0 (by decide) rfl rfl (by decide) i_17 k_29 (by rw [show wv 17 7 S a0 = va_rf (sR S a0 7) from rfl, ey_1]; rfl) dX12_continued_6 ?_
    refine lv_iconst (v := 0) hx hb dX12_continued_9 (by decide) ?_
    obtain ⟨h_2, hp⟩ := hp
    refine w_ild F hK hW hL_y_1 hK_y_1 h_2 dX12_continued_10 ?_
    refine lv_icmp_ge (tgt := 37) hx hb dX12_continued_11 (by decide) (fun c_3 => ?_) (fun c_3 => ?_)
    · replace hp := hp.1 c_3
      refine lv_iload_n hx hb dX12_continued_37 rfl (lv_at hl 1 rfl) ?_
      exact w_iret hx hb hr hlocks hW ⟨hE, hp⟩ dX12_continued_38
    · replace hp := hp.2 c_3
      refine lv_iload_n hx hb dX12_continued_14 rfl (lv_at hl 1 rfl) ?_
      refine lv_aload_n hx hb dX12_continued_15 rfl (lv_at hl 0 rfl) ?_
      obtain ⟨y_4, ey_4, hL_y_4, hK_y_4, hp⟩ := hp
      refine w_get (k := 17) (f := 19) (T := TX12) (v := .ref y_4) F hK hW hL_a0 hK_a0 (by decide) rfl rfl (by decide) i_17 k_54 (by rw [show wv 17 19 S a0 = va_rf (sR S a0 19) from rfl, ey_4]; rfl) dX12_continued_16 ?_
      refine lv_iload_n hx hb dX12_continued_19 rfl (lv_at hl 2 rfl) ?_
      obtain ⟨h_5, hp⟩ := hp
      refine w_ild F hK hW hL_y_4 hK_y_4 h_5 dX12_continued_20 ?_
      refine lv_if_le (tgt := 28) hx hb dX12_continued_21 (by decide) (fun c_6 => ?_) (fun c_6 => ?_)
      · replace hp := hp.1 c_6
        refine lv_iconst (v := 0) hx hb dX12_continued_28 (by decide) ?_
        exact t_X12_continued_29 F hr hlocks hK ih hp hW hE (lv_sub hl [0, 2] rfl) hL_a0 hK_a0
      · replace hp := hp.2 c_6
        refine lv_iconst (v := 1) hx hb dX12_continued_24 (by decide) ?_
        refine lv_goto (tgt := 29) hx hb dX12_continued_25 (by decide) ?_
        exact t_X12_continued_29 F hr hlocks hK ih hp hW hE (lv_sub hl [0, 2] rfl) hL_a0 hK_a0
set_option maxHeartbeats 4000000 in
set_option maxRecDepth 100000 in
theorem t_X12_continued_0 {p : Program} {l : Launch} {e : Env} {s : State} {m : MethodId} {args : Array Value} {below : List Frame} {meth : Method} {c : Code} {D : wD} {cy : Nat → ClassId} {X : va_W} {A : Nat → Prop} {S0 : wS} {post : Int32 → wS → Prop} (F : CallFix p m c cX12_continued 3 s args wz_X12_continued RX12) (hr : meth.sig.returnType = (some .int)) (hlocks : meth.locks = false) (hK : wK D cy A s) : ∀ {S : wS} {H : Heap} {locs : List Loc} {ls : Array Slot} {a0 : Nat}, wp_X12_continued_0 D post S a0 → wO D cy X A s.heap S H locs → wX D S0 S → lv_has ls 3 [(0, .ref a0)] → wM D S a0 → sK S a0 = 17 → W p l e r_X12_continued s m args below meth c H locs 0 0 (MQ below (va_Qi (fun r S9 => wX D S0 S9 ∧ post r S9) (wB D cy X A) A) args s 0 0 A) (F0 m 0 ls []) := by
  obtain ⟨hx, hb, hml, hown, hts⟩ := id F
  have hwg : ∀ w ∈ WG, w.before args s = true := fun w h => hts w (List.mem_cons_of_mem _ h)
  intro S H locs ls a0 hp hW hE hl hL_a0 hK_a0
  unfold wp_X12_continued_0 at hp
  refine lv_iconst (v := 0) hx hb dX12_continued_0 (by decide) ?_
  refine lv_istore_n (lv' := [(1, .int (0 : Int32)), (0, .ref a0)]) hx hb dX12_continued_1 rfl hl (by decide) rfl (fun ls hl => ?_)
  refine lv_iconst (v := 0) hx hb dX12_continued_2 (by decide) ?_
  refine lv_istore_n (lv' := [(2, .int (0 : Int32)), (1, .int (0 : Int32)), (0, .ref a0)]) hx hb dX12_continued_3 rfl hl (by decide) rfl (fun ls hl => ?_)
  obtain ⟨n_1, hp⟩ := hp
  exact t_X12_continued_4 F hr hlocks hK n_1 hp hW hE (lv_sub hl [2, 1, 0] rfl) hL_a0 hK_a0
set_option maxHeartbeats 4000000 in
set_option maxRecDepth 100000 in
theorem c_X12_continued (l : Launch) {D : wD} {cy : Nat → ClassId} {X : va_W} {S0 : wS} {post : Int32 → wS → Prop} {a0 : Nat} (hL_a0 : wM D S0 a0) (hK_a0 : sK S0 a0 = 17) (hp : wp_X12_continued D post S0 a0) : mI D cy X l yX12_continued wz_X12_continued r_X12_continued [.ref a0] S0 (fun r S9 => wX D S0 S9 ∧ post r S9) := by
  intro sz
  refine Met.ofW (cc := cX12_continued) (maxL := 3) (ret := (some .int)) (by decide) rfl ?_
  intro p e s m args below meth c s₁ B hml hv
  obtain ⟨rfl, hsz, hP, hK, hD0, hRO⟩ := hv
  have hts := atoms_spec (ws := wz_X12_continued) B.pre
  have hown : s.vm.findClass RX12 = some m.cls := findClass_of_methodNamed B.named
  subst hsz
  have hD := hD0.self (sz := s.heap.size)
  have F : CallFix p m c cX12_continued 3 s _ wz_X12_continued RX12 := ⟨B.exec, B.bytes, hml, hown, hts⟩
  have hr := B.returns
  have hlocks := B.notSynchronized
  generalize hAe : va_A (wL cy X S0) s.heap.size = A at hD hK ⊢
  have hA : ∀ q, s.heap.size ≤ q → A q := fun q h => by rw [← hAe]; exact Or.inr h
  have hW : wO D cy X A s.heap S0 s.heap [] := ⟨hP, hD, va_S.rf, hA, hRO⟩
  have hl := lv_entry ([.ref a0]) (n := 3) (Nat.le_of_ble_eq_true rfl)
  rw [lg_entry_eq]
  generalize (lg_sl ([.ref a0]) ++ List.replicate (3 - (lg_sl ([.ref a0])).length) Slot.unset).toArray = ls at hl ⊢
  have hl : lv_has ls 3 [(0, .ref a0)] := hl
  unfold wp_X12_continued at hp
  exact t_X12_continued_0 F hr hlocks hK hp hW wX.rf (lv_sub hl [0] rfl) hL_a0 hK_a0
def wp_X12_continuations_24 (D : wD) (post : Int32 → wS → Prop)  (S : wS) : Prop :=
post (0 : Int32) S
def wp_X12_continuations_0 (D : wD) (post : Int32 → wS → Prop)  (S : wS) (a0 : Nat) (x1 : Int32) : Prop :=
wp_X12_isShelf D (fun r_1 S_2 => 
wp_X12_can D (fun r_3 S_4 => 
((r_3 = 0 → wp_X12_continuations_24 D post S_4) ∧
 (¬ r_3 = 0 → wp_X12_isAskable D (fun r_6 S_7 => 
wp_X12_can D (fun r_8 S_9 => 
((¬ r_8 = 0 → wp_X12_laysContinuations D (fun S_12 => 
wp_X12_continued D (fun r_13 S_14 => 
post r_13 S_14) S_12 a0) S_9 a0 x1) ∧
 (r_8 = 0 → wp_X12_continuations_24 D post S_9))) S_7 a0 r_6 (2 : Int32)) S_4 a0))) S_2 a0 r_1 (1 : Int32)) S x1
abbrev r_X12_continuations : Room := { frames := 11, cells := 0, slots := 0, locals := 264 }
def wp_X12_continuations (D : wD) (post : Int32 → wS → Prop) (S : wS) (a0 : Nat) (x1 : Int32) : Prop := wp_X12_continuations_0 D post S a0 x1
set_option maxHeartbeats 4000000 in
set_option maxRecDepth 100000 in
theorem t_X12_continuations_24 {p : Program} {l : Launch} {e : Env} {s : State} {m : MethodId} {args : Array Value} {below : List Frame} {meth : Method} {c : Code} {D : wD} {cy : Nat → ClassId} {X : va_W} {A : Nat → Prop} {S0 : wS} {post : Int32 → wS → Prop} (F : CallFix p m c cX12_continuations 2 s args wz_X12_continuations RX12) (hr : meth.sig.returnType = (some .int)) (hlocks : meth.locks = false) (hK : wK D cy A s) : ∀ {S : wS} {H : Heap} {locs : List Loc} {ls : Array Slot}, wp_X12_continuations_24 D post S → wO D cy X A s.heap S H locs → wX D S0 S → lv_has ls 2 [] → W p l e r_X12_continuations s m args below meth c H locs 0 0 (MQ below (va_Qi (fun r S9 => wX D S0 S9 ∧ post r S9) (wB D cy X A) A) args s 0 0 A) (F0 m 24 ls []) := by
  obtain ⟨hx, hb, hml, hown, hts⟩ := id F
  have hwg : ∀ w ∈ WG, w.before args s = true := fun w h => hts w (List.mem_cons_of_mem _ h)
  intro S H locs ls hp hW hE hl
  unfold wp_X12_continuations_24 at hp
  refine lv_iconst (v := 0) hx hb dX12_continuations_24 (by decide) ?_
  exact w_iret hx hb hr hlocks hW ⟨hE, hp⟩ dX12_continuations_25
set_option maxHeartbeats 4000000 in
set_option maxRecDepth 100000 in
theorem t_X12_continuations_0 {p : Program} {l : Launch} {e : Env} {s : State} {m : MethodId} {args : Array Value} {below : List Frame} {meth : Method} {c : Code} {D : wD} {cy : Nat → ClassId} {X : va_W} {A : Nat → Prop} {S0 : wS} {post : Int32 → wS → Prop} (F : CallFix p m c cX12_continuations 2 s args wz_X12_continuations RX12) (hr : meth.sig.returnType = (some .int)) (hlocks : meth.locks = false) (hK : wK D cy A s) : ∀ {S : wS} {H : Heap} {locs : List Loc} {ls : Array Slot} {a0 : Nat} {x1 : Int32}, wp_X12_continuations_0 D post S a0 x1 → wO D cy X A s.heap S H locs → wX D S0 S → lv_has ls 2 [(0, .ref a0), (1, .int x1)] → wM D S a0 → sK S a0 = 17 → W p l e r_X12_continuations s m args below meth c H locs 0 0 (MQ below (va_Qi (fun r S9 => wX D S0 S9 ∧ post r S9) (wB D cy X A) A) args s 0 0 A) (F0 m 0 ls []) := by
  obtain ⟨hx, hb, hml, hown, hts⟩ := id F
  have hwg : ∀ w ∈ WG, w.before args s = true := fun w h => hts w (List.mem_cons_of_mem _ h)
  intro S H locs ls a0 x1 hp hW hE hl hL_a0 hK_a0
  unfold wp_X12_continuations_0 at hp
  refine lv_aload_n hx hb dX12_continuations_0 rfl (lv_at hl 0 rfl) ?_
  refine lv_iload_n hx hb dX12_continuations_1 rfl (lv_at hl 1 rfl) ?_
  refine w_callI (va_runS (As := [.int x1]) (rest := [.ref a0]) F (c_X12_isShelf l hp H.size) (va_cwS 1 hts (wg_S wm_RX12_397 wy_X12_isShelf) rfl rfl rfl (by decide +kernel) ⟨Nat.le_of_ble_eq_true rfl, Nat.le_of_ble_eq_true rfl⟩) (w_preS hK hW) rfl rfl hl.1 rfl (lv_room (Nat.le_of_ble_eq_true rfl)) dX12_continuations_2 ⟨Nat.le_of_ble_eq_true rfl, Nat.le_of_ble_eq_true rfl⟩) hW (fun r_1 S_2 H locs hp hW => ?_)
  obtain ⟨hX_S_2, hp⟩ := hp
  refine W.widen (k := 0) (n := 0) (by decide) (by decide) ?_
  have hE := hE.trans hX_S_2
  have hK_a0 : sK S_2 a0 = 17 := (hX_S_2.2 a0 hL_a0).1.trans hK_a0
  have hL_a0 : wM D S_2 a0 := hX_S_2.M hL_a0
  refine lv_iconst (v := 1) hx hb dX12_continuations_5 (by decide) ?_
  refine w_callI (va_runV (As := [.int r_1, .int (1 : Int32)]) (rest := []) F (c_X12_can l hL_a0 hK_a0 hp H.size) (cwV (C := RX12) 2 hts (wg_V wm_RX12_237 wy_X12_can) rfl rfl rfl (by decide +kernel) ⟨Nat.le_of_ble_eq_true rfl, Nat.le_of_ble_eq_true rfl⟩) (w_preV hK hW hL_a0 hK_a0 (by decide) rfl) rfl rfl hl.1 rfl (lv_room (Nat.le_of_ble_eq_true rfl)) dX12_continuations_6 ⟨Nat.le_of_ble_eq_true rfl, Nat.le_of_ble_eq_true rfl⟩) hW (fun r_3 S_4 H locs hp hW => ?_)
  obtain ⟨hX_S_4, hp⟩ := hp
  refine W.widen (k := 0) (n := 0) (by decide) (by decide) ?_
  have hE := hE.trans hX_S_4
  have hK_a0 : sK S_4 a0 = 17 := (hX_S_4.2 a0 hL_a0).1.trans hK_a0
  have hL_a0 : wM D S_4 a0 := hX_S_4.M hL_a0
  refine lv_if_eq (tgt := 24) hx hb dX12_continuations_9 (by decide) (fun c_5 => ?_) (fun c_5 => ?_)
  · replace hp := hp.1 c_5
    exact t_X12_continuations_24 F hr hlocks hK hp hW hE (lv_sub hl [] rfl)
  · replace hp := hp.2 c_5
    refine lv_aload_n hx hb dX12_continuations_12 rfl (lv_at hl 0 rfl) ?_
    refine lv_aload_n hx hb dX12_continuations_13 rfl (lv_at hl 0 rfl) ?_
    refine w_callI (va_runV (As := []) (rest := [.ref a0]) F (c_X12_isAskable l hL_a0 hK_a0 hp H.size) (cwV (C := RX12) 0 hts (wg_V wm_RX12_284 wy_X12_isAskable) rfl rfl rfl (by decide +kernel) ⟨Nat.le_of_ble_eq_true rfl, Nat.le_of_ble_eq_true rfl⟩) (w_preV hK hW hL_a0 hK_a0 (by decide) rfl) rfl rfl hl.1 rfl (lv_room (Nat.le_of_ble_eq_true rfl)) dX12_continuations_14 ⟨Nat.le_of_ble_eq_true rfl, Nat.le_of_ble_eq_true rfl⟩) hW (fun r_6 S_7 H locs hp hW => ?_)
    obtain ⟨hX_S_7, hp⟩ := hp
    refine W.widen (k := 0) (n := 0) (by decide) (by decide) ?_
    have hE := hE.trans hX_S_7
    have hK_a0 : sK S_7 a0 = 17 := (hX_S_7.2 a0 hL_a0).1.trans hK_a0
    have hL_a0 : wM D S_7 a0 := hX_S_7.M hL_a0
    refine lv_iconst (v := 2) hx hb dX12_continuations_17 (by decide) ?_
    refine w_callI (va_runV (As := [.int r_6, .int (2 : Int32)]) (rest := []) F (c_X12_can l hL_a0 hK_a0 hp H.size) (cwV (C := RX12) 2 hts (wg_V wm_RX12_237 wy_X12_can) rfl rfl rfl (by decide +kernel) ⟨Nat.le_of_ble_eq_true rfl, Nat.le_of_ble_eq_true rfl⟩) (w_preV hK hW hL_a0 hK_a0 (by decide) rfl) rfl rfl hl.1 rfl (lv_room (Nat.le_of_ble_eq_true rfl)) dX12_continuations_18 ⟨Nat.le_of_ble_eq_true rfl, Nat.le_of_ble_eq_true rfl⟩) hW (fun r_8 S_9 H locs hp hW => ?_)
    obtain ⟨hX_S_9, hp⟩ := hp
    refine W.widen (k := 0) (n := 0) (by decide) (by decide) ?_
    have hE := hE.trans hX_S_9
    have hK_a0 : sK S_9 a0 = 17 := (hX_S_9.2 a0 hL_a0).1.trans hK_a0
    have hL_a0 : wM D S_9 a0 := hX_S_9.M hL_a0
    refine lv_if_ne (tgt := 26) hx hb dX12_continuations_21 (by decide) (fun c_10 => ?_) (fun c_10 => ?_)
    · replace hp := hp.1 c_10
      refine lv_aload_n hx hb dX12_continuations_26 rfl (lv_at hl 0 rfl) ?_
      refine lv_iload_n hx hb dX12_continuations_27 rfl (lv_at hl 1 rfl) ?_
      refine w_callV (va_runV (As := [.int x1]) (rest := []) F (c_X12_laysContinuations l hL_a0 hK_a0 hp H.size) (cwV (C := RX12) 1 hts (wg_V wm_RX12_443 wy_X12_laysContinuations) rfl rfl rfl (by decide +kernel) ⟨Nat.le_of_ble_eq_true rfl, Nat.le_of_ble_eq_true rfl⟩) (w_preV hK hW hL_a0 hK_a0 (by decide) rfl) rfl rfl hl.1 rfl (lv_room (Nat.le_of_ble_eq_true rfl)) dX12_continuations_28 ⟨Nat.le_of_ble_eq_true rfl, Nat.le_of_ble_eq_true rfl⟩) hW (fun S_12 H locs hp hW => ?_)
      obtain ⟨hX_S_12, hp⟩ := hp
      refine W.widen (k := 0) (n := 0) (by decide) (by decide) ?_
      have hE := hE.trans hX_S_12
      have hK_a0 : sK S_12 a0 = 17 := (hX_S_12.2 a0 hL_a0).1.trans hK_a0
      have hL_a0 : wM D S_12 a0 := hX_S_12.M hL_a0
      refine lv_aload_n hx hb dX12_continuations_31 rfl (lv_at hl 0 rfl) ?_
      refine w_callI (va_runV (As := []) (rest := []) F (c_X12_continued l hL_a0 hK_a0 hp H.size) (cwV (C := RX12) 0 hts (wg_V wm_RX12_446 wy_X12_continued) rfl rfl rfl (by decide +kernel) ⟨Nat.le_of_ble_eq_true rfl, Nat.le_of_ble_eq_true rfl⟩) (w_preV hK hW hL_a0 hK_a0 (by decide) rfl) rfl rfl hl.1 rfl (lv_room (Nat.le_of_ble_eq_true rfl)) dX12_continuations_32 ⟨Nat.le_of_ble_eq_true rfl, Nat.le_of_ble_eq_true rfl⟩) hW (fun r_13 S_14 H locs hp hW => ?_)
      obtain ⟨hX_S_14, hp⟩ := hp
      refine W.widen (k := 0) (n := 0) (by decide) (by decide) ?_
      have hE := hE.trans hX_S_14
      have hK_a0 : sK S_14 a0 = 17 := (hX_S_14.2 a0 hL_a0).1.trans hK_a0
      have hL_a0 : wM D S_14 a0 := hX_S_14.M hL_a0
      exact w_iret hx hb hr hlocks hW ⟨hE, hp⟩ dX12_continuations_35
    · replace hp := hp.2 c_10
      exact t_X12_continuations_24 F hr hlocks hK hp hW hE (lv_sub hl [] rfl)
set_option maxHeartbeats 4000000 in
set_option maxRecDepth 100000 in
theorem c_X12_continuations (l : Launch) {D : wD} {cy : Nat → ClassId} {X : va_W} {S0 : wS} {post : Int32 → wS → Prop} {a0 : Nat} {x1 : Int32} (hL_a0 : wM D S0 a0) (hK_a0 : sK S0 a0 = 17) (hp : wp_X12_continuations D post S0 a0 x1) : mI D cy X l yX12_continuations wz_X12_continuations r_X12_continuations [.ref a0, .int x1] S0 (fun r S9 => wX D S0 S9 ∧ post r S9) := by
  intro sz
  refine Met.ofW (cc := cX12_continuations) (maxL := 2) (ret := (some .int)) (by decide) rfl ?_
  intro p e s m args below meth c s₁ B hml hv
  obtain ⟨rfl, hsz, hP, hK, hD0, hRO⟩ := hv
  have hts := atoms_spec (ws := wz_X12_continuations) B.pre
  have hown : s.vm.findClass RX12 = some m.cls := findClass_of_methodNamed B.named
  subst hsz
  have hD := hD0.self (sz := s.heap.size)
  have F : CallFix p m c cX12_continuations 2 s _ wz_X12_continuations RX12 := ⟨B.exec, B.bytes, hml, hown, hts⟩
  have hr := B.returns
  have hlocks := B.notSynchronized
  generalize hAe : va_A (wL cy X S0) s.heap.size = A at hD hK ⊢
  have hA : ∀ q, s.heap.size ≤ q → A q := fun q h => by rw [← hAe]; exact Or.inr h
  have hW : wO D cy X A s.heap S0 s.heap [] := ⟨hP, hD, va_S.rf, hA, hRO⟩
  have hl := lv_entry ([.ref a0, .int x1]) (n := 2) (Nat.le_of_ble_eq_true rfl)
  rw [lg_entry_eq]
  generalize (lg_sl ([.ref a0, .int x1]) ++ List.replicate (2 - (lg_sl ([.ref a0, .int x1])).length) Slot.unset).toArray = ls at hl ⊢
  have hl : lv_has ls 2 [(0, .ref a0), (1, .int x1)] := hl
  unfold wp_X12_continuations at hp
  exact t_X12_continuations_0 F hr hlocks hK hp hW wX.rf (lv_sub hl [0, 1] rfl) hL_a0 hK_a0
def wp_X12_passes_3 (D : wD) (post : Int32 → wS → Prop)  : Nat → wS → Nat → Int32 → Int32 → Nat → Int32 → Int32 → Prop
  | 0, _, _, _, _, _, _, _ => False
  | n + 1, S, a0, x1, x2, a3, x4, x5 =>
    ∃ y_1 : Nat, sR S a0 33 = some y_1 ∧ wM D S y_1 ∧ sK S y_1 = 21 ∧
    wp_X12_slot D (fun r_2 S_3 => 
    vp_in r_2 (sN S_3 y_1) ∧
    (((sI S_3 y_1 (r_2).toNatClampNeg) < x5 → narrow .boolean (.int (0 : Int32)) = .int (0 : Int32) ∧ post (0 : Int32) S_3) ∧
     (¬ (sI S_3 y_1 (r_2).toNatClampNeg) < x5 → ∃ y_6 : Nat, sR S_3 a0 31 = some y_6 ∧ wM D S_3 y_6 ∧ sK S_3 y_6 = 21 ∧
    wp_X12_placeOf D (fun r_7 S_8 => 
    wp_X12_isSame D (fun r_9 S_10 => 
    ((r_9 = 0 → ∀ x_12 : Int32, x_12 = x5 + 1 →
    wp_X12_passes_3 D post n S_10 a0 x1 x2 a3 x4 x_12) ∧
     (¬ r_9 = 0 → narrow .boolean (.int (1 : Int32)) = .int (1 : Int32) ∧ post (1 : Int32) S_10))) S_8 y_6 r_7 a3 x4) S_3 x1 x2 x5))) S x1 x2
def wp_X12_passes_0 (D : wD) (post : Int32 → wS → Prop)  (S : wS) (a0 : Nat) (x1 : Int32) (x2 : Int32) (a3 : Nat) (x4 : Int32) : Prop :=
∃ n_1 : Nat, wp_X12_passes_3 D post n_1 S a0 x1 x2 a3 x4 (0 : Int32)
abbrev r_X12_passes : Room := { frames := 1, cells := 0, slots := 0, locals := 24 }
def wp_X12_passes (D : wD) (post : Int32 → wS → Prop) (S : wS) (a0 : Nat) (x1 : Int32) (x2 : Int32) (a3 : Nat) (x4 : Int32) : Prop := wp_X12_passes_0 D post S a0 x1 x2 a3 x4
set_option maxHeartbeats 4000000 in
set_option maxRecDepth 100000 in
theorem t_X12_passes_3 {p : Program} {l : Launch} {e : Env} {s : State} {m : MethodId} {args : Array Value} {below : List Frame} {meth : Method} {c : Code} {D : wD} {cy : Nat → ClassId} {X : va_W} {A : Nat → Prop} {S0 : wS} {post : Int32 → wS → Prop} (F : CallFix p m c cX12_passes 6 s args wz_X12_passes RX12) (hr : meth.sig.returnType = (some .boolean)) (hlocks : meth.locks = false) (hK : wK D cy A s) : ∀ (n : Nat) {S : wS} {H : Heap} {locs : List Loc} {ls : Array Slot} {a0 : Nat} {x1 : Int32} {x2 : Int32} {a3 : Nat} {x4 : Int32} {x5 : Int32}, wp_X12_passes_3 D post n S a0 x1 x2 a3 x4 x5 → wO D cy X A s.heap S H locs → wX D S0 S → lv_has ls 6 [(0, .ref a0), (1, .int x1), (2, .int x2), (3, .ref a3), (4, .int x4), (5, .int x5)] → wM D S a0 → sK S a0 = 17 → wM D S a3 → sK S a3 = 21 → W p l e r_X12_passes s m args below meth c H locs 0 0 (MQ below (va_Qi (fun r S9 => wX D S0 S9 ∧ post r S9) (wB D cy X A) A) args s 0 0 A) (F0 m 3 ls []) := by
  obtain ⟨hx, hb, hml, hown, hts⟩ := id F
  have hwg : ∀ w ∈ WG, w.before args s = true := fun w h => hts w (List.mem_cons_of_mem _ h)
  have i_17 : ∀ w ∈ u_ws RX12 TX12 43, w ∈ wz_X12_passes := fun w h => List.mem_cons_of_mem _ (wu_17 w h)
  have k_73 := hwg _ wf_RX12_73
  have k_79 := hwg _ wf_RX12_79
  intro n
  induction n with
  | zero =>
    intro S H locs ls a0 x1 x2 a3 x4 x5 hp
    exact hp.elim
  | succ n ih =>
    intro S H locs ls a0 x1 x2 a3 x4 x5 hp hW hE hl hL_a0 hK_a0 hL_a3 hK_a3
    unfold wp_X12_passes_3 at hp
    refine lv_iload hx hb dX12_passes_3 (lv_at hl 5 rfl) ?_
    refine lv_aload_n hx hb dX12_passes_5 rfl (lv_at hl 0 rfl) ?_
    obtain ⟨y_1, ey_1, hL_y_1, hK_y_1, hp⟩ := hp
    refine w_get (k := 17) (f := 33) (T := TX12) (v := .ref y_1) F hK hW hL_a0 hK_a0 (by decide) rfl rfl (by decide) i_17 k_79 (by rw [show wv 17 33 S a0 = va_rf (sR S a0 33) from rfl, ey_1]; rfl) dX12_passes_6 ?_
    refine lv_iload_n hx hb dX12_passes_9 rfl (lv_at hl 1 rfl) ?_
    refine lv_iload_n hx hb dX12_passes_10 rfl (lv_at hl 2 rfl) ?_
    refine w_callI (va_runS (As := [.int x1, .int x2]) (rest := [.ref y_1, .int x5]) F (c_X12_slot l hp H.size) (va_cwS 2 hts (wg_S wm_RX12_400 wy_X12_slot) rfl rfl rfl (by decide +kernel) ⟨Nat.le_of_ble_eq_true rfl, Nat.le_of_ble_eq_true rfl⟩) (w_preS hK hW) rfl rfl hl.1 rfl (lv_room (Nat.le_of_ble_eq_true rfl)) dX12_passes_11 ⟨Nat.le_of_ble_eq_true rfl, Nat.le_of_ble_eq_true rfl⟩) hW (fun r_2 S_3 H locs hp hW => ?_)
    obtain ⟨hX_S_3, hp⟩ := hp
    refine W.widen (k := 0) (n := 0) (by decide) (by decide) ?_
    have hE := hE.trans hX_S_3
    have hK_a0 : sK S_3 a0 = 17 := (hX_S_3.2 a0 hL_a0).1.trans hK_a0
    have hL_a0 : wM D S_3 a0 := hX_S_3.M hL_a0
    have hK_a3 : sK S_3 a3 = 21 := (hX_S_3.2 a3 hL_a3).1.trans hK_a3
    have hL_a3 : wM D S_3 a3 := hX_S_3.M hL_a3
    have hK_y_1 : sK S_3 y_1 = 21 := (hX_S_3.2 y_1 hL_y_1).1.trans hK_y_1
    have hL_y_1 : wM D S_3 y_1 := hX_S_3.M hL_y_1
    obtain ⟨h_4, hp⟩ := hp
    refine w_ild F hK hW hL_y_1 hK_y_1 h_4 dX12_passes_14 ?_
    refine lv_icmp_gt (tgt := 46) hx hb dX12_passes_15 (by decide) (fun c_5 => ?_) (fun c_5 => ?_)
    · replace hp := hp.1 c_5
      refine lv_iconst (v := 0) hx hb dX12_passes_46 (by decide) ?_
      exact w_zret hx hb hr hlocks hW hp.1 ⟨hE, hp.2⟩ dX12_passes_47
    · replace hp := hp.2 c_5
      refine lv_aload_n hx hb dX12_passes_18 rfl (lv_at hl 0 rfl) ?_
      obtain ⟨y_6, ey_6, hL_y_6, hK_y_6, hp⟩ := hp
      refine w_get (k := 17) (f := 31) (T := TX12) (v := .ref y_6) F hK hW hL_a0 hK_a0 (by decide) rfl rfl (by decide) i_17 k_73 (by rw [show wv 17 31 S_3 a0 = va_rf (sR S_3 a0 31) from rfl, ey_6]; rfl) dX12_passes_19 ?_
      refine lv_iload_n hx hb dX12_passes_22 rfl (lv_at hl 1 rfl) ?_
      refine lv_iload_n hx hb dX12_passes_23 rfl (lv_at hl 2 rfl) ?_
      refine lv_iload hx hb dX12_passes_24 (lv_at hl 5 rfl) ?_
      refine w_callI (va_runS (As := [.int x1, .int x2, .int x5]) (rest := [.ref y_6]) F (c_X12_placeOf l hp H.size) (va_cwS 3 hts (wg_S wm_RX12_403 wy_X12_placeOf) rfl rfl rfl (by decide +kernel) ⟨Nat.le_of_ble_eq_true rfl, Nat.le_of_ble_eq_true rfl⟩) (w_preS hK hW) rfl rfl hl.1 rfl (lv_room (Nat.le_of_ble_eq_true rfl)) dX12_passes_26 ⟨Nat.le_of_ble_eq_true rfl, Nat.le_of_ble_eq_true rfl⟩) hW (fun r_7 S_8 H locs hp hW => ?_)
      obtain ⟨hX_S_8, hp⟩ := hp
      refine W.widen (k := 0) (n := 0) (by decide) (by decide) ?_
      have hE := hE.trans hX_S_8
      have hK_a0 : sK S_8 a0 = 17 := (hX_S_8.2 a0 hL_a0).1.trans hK_a0
      have hL_a0 : wM D S_8 a0 := hX_S_8.M hL_a0
      have hK_a3 : sK S_8 a3 = 21 := (hX_S_8.2 a3 hL_a3).1.trans hK_a3
      have hL_a3 : wM D S_8 a3 := hX_S_8.M hL_a3
      have hK_y_6 : sK S_8 y_6 = 21 := (hX_S_8.2 y_6 hL_y_6).1.trans hK_y_6
      have hL_y_6 : wM D S_8 y_6 := hX_S_8.M hL_y_6
      refine lv_aload_n hx hb dX12_passes_29 rfl (lv_at hl 3 rfl) ?_
      refine lv_iload hx hb dX12_passes_30 (lv_at hl 4 rfl) ?_
      refine w_callI (va_runS (As := [.ref y_6, .int r_7, .ref a3, .int x4]) (rest := []) F (c_X12_isSame l hL_y_6 hK_y_6 hL_a3 hK_a3 hp H.size) (va_cwS 4 hts (wg_S wm_RX12_330 wy_X12_isSame) rfl rfl rfl (by decide +kernel) ⟨Nat.le_of_ble_eq_true rfl, Nat.le_of_ble_eq_true rfl⟩) (w_preS hK hW) rfl rfl hl.1 rfl (lv_room (Nat.le_of_ble_eq_true rfl)) dX12_passes_32 ⟨Nat.le_of_ble_eq_true rfl, Nat.le_of_ble_eq_true rfl⟩) hW (fun r_9 S_10 H locs hp hW => ?_)
      obtain ⟨hX_S_10, hp⟩ := hp
      refine W.widen (k := 0) (n := 0) (by decide) (by decide) ?_
      have hE := hE.trans hX_S_10
      have hK_a0 : sK S_10 a0 = 17 := (hX_S_10.2 a0 hL_a0).1.trans hK_a0
      have hL_a0 : wM D S_10 a0 := hX_S_10.M hL_a0
      have hK_a3 : sK S_10 a3 = 21 := (hX_S_10.2 a3 hL_a3).1.trans hK_a3
      have hL_a3 : wM D S_10 a3 := hX_S_10.M hL_a3
      refine lv_if_eq (tgt := 40) hx hb dX12_passes_35 (by decide) (fun c_11 => ?_) (fun c_11 => ?_)
      · replace hp := hp.1 c_11
        obtain ⟨x_12, ex_12⟩ : ∃ z : Int32, z = x5 + 1 := ⟨_, rfl⟩
        replace hp := hp x_12 ex_12
        refine lv_iinc (v := x_12) (lv' := [(5, .int x_12), (0, .ref a0), (1, .int x1), (2, .int x2), (3, .ref a3), (4, .int x4)]) hx hb dX12_passes_40 hl (k := 5) rfl (by rw [ex_12]; rfl) (by decide) rfl (fun ls hl => ?_)
        refine lv_goto (tgt := 3) hx hb dX12_passes_43 (by decide) ?_
        exact ih hp hW hE (lv_sub hl [1, 2, 3, 4, 5, 0] rfl) hL_a0 hK_a0 hL_a3 hK_a3
      · replace hp := hp.2 c_11
        refine lv_iconst (v := 1) hx hb dX12_passes_38 (by decide) ?_
        exact w_zret hx hb hr hlocks hW hp.1 ⟨hE, hp.2⟩ dX12_passes_39
set_option maxHeartbeats 4000000 in
set_option maxRecDepth 100000 in
theorem t_X12_passes_0 {p : Program} {l : Launch} {e : Env} {s : State} {m : MethodId} {args : Array Value} {below : List Frame} {meth : Method} {c : Code} {D : wD} {cy : Nat → ClassId} {X : va_W} {A : Nat → Prop} {S0 : wS} {post : Int32 → wS → Prop} (F : CallFix p m c cX12_passes 6 s args wz_X12_passes RX12) (hr : meth.sig.returnType = (some .boolean)) (hlocks : meth.locks = false) (hK : wK D cy A s) : ∀ {S : wS} {H : Heap} {locs : List Loc} {ls : Array Slot} {a0 : Nat} {x1 : Int32} {x2 : Int32} {a3 : Nat} {x4 : Int32}, wp_X12_passes_0 D post S a0 x1 x2 a3 x4 → wO D cy X A s.heap S H locs → wX D S0 S → lv_has ls 6 [(0, .ref a0), (1, .int x1), (2, .int x2), (3, .ref a3), (4, .int x4)] → wM D S a0 → sK S a0 = 17 → wM D S a3 → sK S a3 = 21 → W p l e r_X12_passes s m args below meth c H locs 0 0 (MQ below (va_Qi (fun r S9 => wX D S0 S9 ∧ post r S9) (wB D cy X A) A) args s 0 0 A) (F0 m 0 ls []) := by
  obtain ⟨hx, hb, hml, hown, hts⟩ := id F
  have hwg : ∀ w ∈ WG, w.before args s = true := fun w h => hts w (List.mem_cons_of_mem _ h)
  intro S H locs ls a0 x1 x2 a3 x4 hp hW hE hl hL_a0 hK_a0 hL_a3 hK_a3
  unfold wp_X12_passes_0 at hp
  refine lv_iconst (v := 0) hx hb dX12_passes_0 (by decide) ?_
  refine lv_istore (lv' := [(5, .int (0 : Int32)), (0, .ref a0), (1, .int x1), (2, .int x2), (3, .ref a3), (4, .int x4)]) hx hb dX12_passes_1 hl (by decide) rfl (fun ls hl => ?_)
  obtain ⟨n_1, hp⟩ := hp
  exact t_X12_passes_3 F hr hlocks hK n_1 hp hW hE (lv_sub hl [1, 2, 3, 4, 5, 0] rfl) hL_a0 hK_a0 hL_a3 hK_a3
set_option maxHeartbeats 4000000 in
set_option maxRecDepth 100000 in
theorem c_X12_passes (l : Launch) {D : wD} {cy : Nat → ClassId} {X : va_W} {S0 : wS} {post : Int32 → wS → Prop} {a0 : Nat} {x1 : Int32} {x2 : Int32} {a3 : Nat} {x4 : Int32} (hL_a0 : wM D S0 a0) (hK_a0 : sK S0 a0 = 17) (hL_a3 : wM D S0 a3) (hK_a3 : sK S0 a3 = 21) (hp : wp_X12_passes D post S0 a0 x1 x2 a3 x4) : mI D cy X l yX12_passes wz_X12_passes r_X12_passes [.ref a0, .int x1, .int x2, .ref a3, .int x4] S0 (fun r S9 => wX D S0 S9 ∧ post r S9) := by
  intro sz
  refine Met.ofW (cc := cX12_passes) (maxL := 6) (ret := (some .boolean)) (by decide) rfl ?_
  intro p e s m args below meth c s₁ B hml hv
  obtain ⟨rfl, hsz, hP, hK, hD0, hRO⟩ := hv
  have hts := atoms_spec (ws := wz_X12_passes) B.pre
  have hown : s.vm.findClass RX12 = some m.cls := findClass_of_methodNamed B.named
  subst hsz
  have hD := hD0.self (sz := s.heap.size)
  have F : CallFix p m c cX12_passes 6 s _ wz_X12_passes RX12 := ⟨B.exec, B.bytes, hml, hown, hts⟩
  have hr := B.returns
  have hlocks := B.notSynchronized
  generalize hAe : va_A (wL cy X S0) s.heap.size = A at hD hK ⊢
  have hA : ∀ q, s.heap.size ≤ q → A q := fun q h => by rw [← hAe]; exact Or.inr h
  have hW : wO D cy X A s.heap S0 s.heap [] := ⟨hP, hD, va_S.rf, hA, hRO⟩
  have hl := lv_entry ([.ref a0, .int x1, .int x2, .ref a3, .int x4]) (n := 6) (Nat.le_of_ble_eq_true rfl)
  rw [lg_entry_eq]
  generalize (lg_sl ([.ref a0, .int x1, .int x2, .ref a3, .int x4]) ++ List.replicate (6 - (lg_sl ([.ref a0, .int x1, .int x2, .ref a3, .int x4])).length) Slot.unset).toArray = ls at hl ⊢
  have hl : lv_has ls 6 [(0, .ref a0), (1, .int x1), (2, .int x2), (3, .ref a3), (4, .int x4)] := hl
  unfold wp_X12_passes at hp
  exact t_X12_passes_0 F hr hlocks hK hp hW wX.rf (lv_sub hl [0, 1, 2, 3, 4] rfl) hL_a0 hK_a0 hL_a3 hK_a3
def wp_X12_passesHere_0 (D : wD) (post : Int32 → wS → Prop)  (S : wS) (a0 : Nat) (x1 : Int32) (x2 : Int32) : Prop :=
∃ y_1 : Nat, sR S a0 8 = some y_1 ∧ wM D S y_1 ∧ sK S y_1 = 21 ∧
wp_X12_presentAt D (fun r_2 S_3 => 
wp_X12_passes D (fun r_4 S_5 => 
narrow .boolean (.int r_4) = .int r_4 ∧ post r_4 S_5) S_3 a0 x1 x2 y_1 r_2) S a0
abbrev r_X12_passesHere : Room := { frames := 2, cells := 0, slots := 0, locals := 49 }
def wp_X12_passesHere (D : wD) (post : Int32 → wS → Prop) (S : wS) (a0 : Nat) (x1 : Int32) (x2 : Int32) : Prop := wp_X12_passesHere_0 D post S a0 x1 x2
set_option maxHeartbeats 4000000 in
set_option maxRecDepth 100000 in
theorem t_X12_passesHere_0 {p : Program} {l : Launch} {e : Env} {s : State} {m : MethodId} {args : Array Value} {below : List Frame} {meth : Method} {c : Code} {D : wD} {cy : Nat → ClassId} {X : va_W} {A : Nat → Prop} {S0 : wS} {post : Int32 → wS → Prop} (F : CallFix p m c cX12_passesHere 3 s args wz_X12_passesHere RX12) (hr : meth.sig.returnType = (some .boolean)) (hlocks : meth.locks = false) (hK : wK D cy A s) : ∀ {S : wS} {H : Heap} {locs : List Loc} {ls : Array Slot} {a0 : Nat} {x1 : Int32} {x2 : Int32}, wp_X12_passesHere_0 D post S a0 x1 x2 → wO D cy X A s.heap S H locs → wX D S0 S → lv_has ls 3 [(0, .ref a0), (1, .int x1), (2, .int x2)] → wM D S a0 → sK S a0 = 17 → W p l e r_X12_passesHere s m args below meth c H locs 0 0 (MQ below (va_Qi (fun r S9 => wX D S0 S9 ∧ post r S9) (wB D cy X A) A) args s 0 0 A) (F0 m 0 ls []) := by
  obtain ⟨hx, hb, hml, hown, hts⟩ := id F
  have hwg : ∀ w ∈ WG, w.before args s = true := fun w h => hts w (List.mem_cons_of_mem _ h)
  have i_17 : ∀ w ∈ u_ws RX12 TX12 43, w ∈ wz_X12_passesHere := fun w h => List.mem_cons_of_mem _ (wu_17 w h)
  have k_32 := hwg _ wf_RX12_32
  intro S H locs ls a0 x1 x2 hp hW hE hl hL_a0 hK_a0
  unfold wp_X12_passesHere_0 at hp
  refine lv_aload_n hx hb dX12_passesHere_0 rfl (lv_at hl 0 rfl) ?_
  refine lv_iload_n hx hb dX12_passesHere_1 rfl (lv_at hl 1 rfl) ?_
  refine lv_iload_n hx hb dX12_passesHere_2 rfl (lv_at hl 2 rfl) ?_
  refine lv_aload_n hx hb dX12_passesHere_3 rfl (lv_at hl 0 rfl) ?_
  obtain ⟨y_1, ey_1, hL_y_1, hK_y_1, hp⟩ := hp
  refine w_get (k := 17) (f := 8) (T := TX12) (v := .ref y_1) F hK hW hL_a0 hK_a0 (by decide) rfl rfl (by decide) i_17 k_32 (by rw [show wv 17 8 S a0 = va_rf (sR S a0 8) from rfl, ey_1]; rfl) dX12_passesHere_4 ?_
  refine lv_aload_n hx hb dX12_passesHere_7 rfl (lv_at hl 0 rfl) ?_
  refine w_callI (va_runV (As := []) (rest := [.ref y_1, .int x2, .int x1, .ref a0]) F (c_X12_presentAt l hL_a0 hK_a0 hp H.size) (cwV (C := RX12) 0 hts (wg_V wm_RX12_127 wy_X12_presentAt) rfl rfl rfl (by decide +kernel) ⟨Nat.le_of_ble_eq_true rfl, Nat.le_of_ble_eq_true rfl⟩) (w_preV hK hW hL_a0 hK_a0 (by decide) rfl) rfl rfl hl.1 rfl (lv_room (Nat.le_of_ble_eq_true rfl)) dX12_passesHere_8 ⟨Nat.le_of_ble_eq_true rfl, Nat.le_of_ble_eq_true rfl⟩) hW (fun r_2 S_3 H locs hp hW => ?_)
  obtain ⟨hX_S_3, hp⟩ := hp
  refine W.widen (k := 0) (n := 0) (by decide) (by decide) ?_
  have hE := hE.trans hX_S_3
  have hK_a0 : sK S_3 a0 = 17 := (hX_S_3.2 a0 hL_a0).1.trans hK_a0
  have hL_a0 : wM D S_3 a0 := hX_S_3.M hL_a0
  have hK_y_1 : sK S_3 y_1 = 21 := (hX_S_3.2 y_1 hL_y_1).1.trans hK_y_1
  have hL_y_1 : wM D S_3 y_1 := hX_S_3.M hL_y_1
  refine w_callI (va_runV (As := [.int x1, .int x2, .ref y_1, .int r_2]) (rest := []) F (c_X12_passes l hL_a0 hK_a0 hL_y_1 hK_y_1 hp H.size) (cwV (C := RX12) 4 hts (wg_V wm_RX12_410 wy_X12_passes) rfl rfl rfl (by decide +kernel) ⟨Nat.le_of_ble_eq_true rfl, Nat.le_of_ble_eq_true rfl⟩) (w_preV hK hW hL_a0 hK_a0 (by decide) rfl) rfl rfl hl.1 rfl (lv_room (Nat.le_of_ble_eq_true rfl)) dX12_passesHere_11 ⟨Nat.le_of_ble_eq_true rfl, Nat.le_of_ble_eq_true rfl⟩) hW (fun r_4 S_5 H locs hp hW => ?_)
  obtain ⟨hX_S_5, hp⟩ := hp
  refine W.widen (k := 0) (n := 0) (by decide) (by decide) ?_
  have hE := hE.trans hX_S_5
  have hK_a0 : sK S_5 a0 = 17 := (hX_S_5.2 a0 hL_a0).1.trans hK_a0
  have hL_a0 : wM D S_5 a0 := hX_S_5.M hL_a0
  exact w_zret hx hb hr hlocks hW hp.1 ⟨hE, hp.2⟩ dX12_passesHere_14
set_option maxHeartbeats 4000000 in
set_option maxRecDepth 100000 in
theorem c_X12_passesHere (l : Launch) {D : wD} {cy : Nat → ClassId} {X : va_W} {S0 : wS} {post : Int32 → wS → Prop} {a0 : Nat} {x1 : Int32} {x2 : Int32} (hL_a0 : wM D S0 a0) (hK_a0 : sK S0 a0 = 17) (hp : wp_X12_passesHere D post S0 a0 x1 x2) : mI D cy X l yX12_passesHere wz_X12_passesHere r_X12_passesHere [.ref a0, .int x1, .int x2] S0 (fun r S9 => wX D S0 S9 ∧ post r S9) := by
  intro sz
  refine Met.ofW (cc := cX12_passesHere) (maxL := 3) (ret := (some .boolean)) (by decide) rfl ?_
  intro p e s m args below meth c s₁ B hml hv
  obtain ⟨rfl, hsz, hP, hK, hD0, hRO⟩ := hv
  have hts := atoms_spec (ws := wz_X12_passesHere) B.pre
  have hown : s.vm.findClass RX12 = some m.cls := findClass_of_methodNamed B.named
  subst hsz
  have hD := hD0.self (sz := s.heap.size)
  have F : CallFix p m c cX12_passesHere 3 s _ wz_X12_passesHere RX12 := ⟨B.exec, B.bytes, hml, hown, hts⟩
  have hr := B.returns
  have hlocks := B.notSynchronized
  generalize hAe : va_A (wL cy X S0) s.heap.size = A at hD hK ⊢
  have hA : ∀ q, s.heap.size ≤ q → A q := fun q h => by rw [← hAe]; exact Or.inr h
  have hW : wO D cy X A s.heap S0 s.heap [] := ⟨hP, hD, va_S.rf, hA, hRO⟩
  have hl := lv_entry ([.ref a0, .int x1, .int x2]) (n := 3) (Nat.le_of_ble_eq_true rfl)
  rw [lg_entry_eq]
  generalize (lg_sl ([.ref a0, .int x1, .int x2]) ++ List.replicate (3 - (lg_sl ([.ref a0, .int x1, .int x2])).length) Slot.unset).toArray = ls at hl ⊢
  have hl : lv_has ls 3 [(0, .ref a0), (1, .int x1), (2, .int x2)] := hl
  unfold wp_X12_passesHere at hp
  exact t_X12_passesHere_0 F hr hlocks hK hp hW wX.rf (lv_sub hl [0, 1, 2] rfl) hL_a0 hK_a0
def wp_X12_gamesHere_74 (D : wD) (post : Int32 → wS → Prop) (k_6 : wS → Nat → Int32 → Int32 → Int32 → Int32 → Int32 → Int32 → Prop) (S : wS) (a0 : Nat) (x1 : Int32) (x2 : Int32) (x3 : Int32) (x4 : Int32) (x6 : Int32) (t0 : Int32) (t1 : Int32) : Prop :=
∀ x_1 : Int32, x_1 = (t0 + t1) →
∀ x_2 : Int32, x_2 = x6 + 1 →
k_6 S a0 x1 x2 x3 x4 x_1 x_2
def wp_X12_gamesHere_73 (D : wD) (post : Int32 → wS → Prop) (k_6 : wS → Nat → Int32 → Int32 → Int32 → Int32 → Int32 → Int32 → Prop) (S : wS) (a0 : Nat) (x1 : Int32) (x2 : Int32) (x3 : Int32) (x4 : Int32) (x6 : Int32) (t0 : Int32) : Prop :=
wp_X12_gamesHere_74 D post k_6 S a0 x1 x2 x3 x4 x6 t0 (0 : Int32)
def wp_X12_gamesHere_43 (D : wD) (post : Int32 → wS → Prop) (k_6 : wS → Nat → Int32 → Int32 → Int32 → Int32 → Int32 → Int32 → Prop) (S : wS) (a0 : Nat) (x1 : Int32) (x2 : Int32) (x3 : Int32) (x4 : Int32) (x6 : Int32) (x7 : Int32) (t0 : Int32) : Prop :=
∃ y_1 : Nat, sR S a0 35 = some y_1 ∧ wM D S y_1 ∧ sK S y_1 = 21 ∧
vp_in x7 (sN S y_1) ∧
wp_X12_in D (fun r_3 S_4 => 
((r_3 = 0 → wp_X12_gamesHere_73 D post k_6 S_4 a0 x1 x2 x3 x4 x6 t0) ∧
 (¬ r_3 = 0 → wp_X12_passesHere D (fun r_6 S_7 => 
((r_6 = 0 → wp_X12_gamesHere_73 D post k_6 S_7 a0 x1 x2 x3 x4 x6 t0) ∧
 (¬ r_6 = 0 → wp_X12_gamesHere_74 D post k_6 S_7 a0 x1 x2 x3 x4 x6 t0 (1 : Int32)))) S_4 a0 x1 x6))) S (sI S y_1 (x7).toNatClampNeg) x3 x4
def wp_X12_gamesHere_6 (D : wD) (post : Int32 → wS → Prop)  : Nat → wS → Nat → Int32 → Int32 → Int32 → Int32 → Int32 → Int32 → Prop
  | 0, _, _, _, _, _, _, _, _ => False
  | n + 1, S, a0, x1, x2, x3, x4, x5, x6 =>
    ∃ y_1 : Nat, sR S a0 30 = some y_1 ∧ wM D S y_1 ∧ sK S y_1 = 21 ∧
    vp_in x1 (sN S y_1) ∧
    (((sI S y_1 (x1).toNatClampNeg) ≤ x6 → post x5 S) ∧
     (¬ (sI S y_1 (x1).toNatClampNeg) ≤ x6 → wp_X12_slot D (fun r_4 S_5 => 
    ((x2 = (-1 : Int32) → wp_X12_gamesHere_43 D post (wp_X12_gamesHere_6 D post n) S_5 a0 x1 x2 x3 x4 x6 r_4 x5) ∧
     (¬ x2 = (-1 : Int32) → ∃ y_7 : Nat, sR S_5 a0 34 = some y_7 ∧ wM D S_5 y_7 ∧ sK S_5 y_7 = 21 ∧
    vp_in r_4 (sN S_5 y_7) ∧
    ((¬ (sI S_5 y_7 (r_4).toNatClampNeg) = x2 → wp_X12_gamesHere_73 D post (wp_X12_gamesHere_6 D post n) S_5 a0 x1 x2 x3 x4 x6 x5) ∧
     ((sI S_5 y_7 (r_4).toNatClampNeg) = x2 → wp_X12_gamesHere_43 D post (wp_X12_gamesHere_6 D post n) S_5 a0 x1 x2 x3 x4 x6 r_4 x5))))) S x1 x6))
def wp_X12_gamesHere_0 (D : wD) (post : Int32 → wS → Prop)  (S : wS) (a0 : Nat) (x1 : Int32) (x2 : Int32) (x3 : Int32) (x4 : Int32) : Prop :=
∃ n_1 : Nat, wp_X12_gamesHere_6 D post n_1 S a0 x1 x2 x3 x4 (0 : Int32) (0 : Int32)
abbrev r_X12_gamesHere : Room := { frames := 3, cells := 0, slots := 0, locals := 71 }
def wp_X12_gamesHere (D : wD) (post : Int32 → wS → Prop) (S : wS) (a0 : Nat) (x1 : Int32) (x2 : Int32) (x3 : Int32) (x4 : Int32) : Prop := wp_X12_gamesHere_0 D post S a0 x1 x2 x3 x4
set_option maxHeartbeats 4000000 in
set_option maxRecDepth 100000 in
theorem t_X12_gamesHere_74 {p : Program} {l : Launch} {e : Env} {s : State} {m : MethodId} {args : Array Value} {below : List Frame} {meth : Method} {c : Code} {D : wD} {cy : Nat → ClassId} {X : va_W} {A : Nat → Prop} {S0 : wS} {post : Int32 → wS → Prop} (F : CallFix p m c cX12_gamesHere 8 s args wz_X12_gamesHere RX12) (hr : meth.sig.returnType = (some .int)) (hlocks : meth.locks = false) (hK : wK D cy A s) {k_6 : wS → Nat → Int32 → Int32 → Int32 → Int32 → Int32 → Int32 → Prop} (q_6 : ∀ {S : wS} {H : Heap} {locs : List Loc} {ls : Array Slot} {a0 : Nat} {x1 : Int32} {x2 : Int32} {x3 : Int32} {x4 : Int32} {x5 : Int32} {x6 : Int32}, k_6 S a0 x1 x2 x3 x4 x5 x6 → wO D cy X A s.heap S H locs → wX D S0 S → lv_has ls 8 [(0, .ref a0), (1, .int x1), (2, .int x2), (3, .int x3), (4, .int x4), (5, .int x5), (6, .int x6)] → wM D S a0 → sK S a0 = 17 → W p l e r_X12_gamesHere s m args below meth c H locs 0 0 (MQ below (va_Qi (fun r S9 => wX D S0 S9 ∧ post r S9) (wB D cy X A) A) args s 0 0 A) (F0 m 6 ls [])) : ∀ {S : wS} {H : Heap} {locs : List Loc} {ls : Array Slot} {a0 : Nat} {x1 : Int32} {x2 : Int32} {x3 : Int32} {x4 : Int32} {x6 : Int32} {t0 : Int32} {t1 : Int32}, wp_X12_gamesHere_74 D post k_6 S a0 x1 x2 x3 x4 x6 t0 t1 → wO D cy X A s.heap S H locs → wX D S0 S → lv_has ls 8 [(0, .ref a0), (1, .int x1), (2, .int x2), (3, .int x3), (4, .int x4), (6, .int x6)] → wM D S a0 → sK S a0 = 17 → W p l e r_X12_gamesHere s m args below meth c H locs 0 0 (MQ below (va_Qi (fun r S9 => wX D S0 S9 ∧ post r S9) (wB D cy X A) A) args s 0 0 A) (F0 m 74 ls [.int t1, .int t0]) := by
  obtain ⟨hx, hb, hml, hown, hts⟩ := id F
  have hwg : ∀ w ∈ WG, w.before args s = true := fun w h => hts w (List.mem_cons_of_mem _ h)
  intro S H locs ls a0 x1 x2 x3 x4 x6 t0 t1 hp hW hE hl hL_a0 hK_a0
  unfold wp_X12_gamesHere_74 at hp
  refine lv_iadd hx hb dX12_gamesHere_74 ?_
  refine lv_topi (fun x_1 ex_1 => ?_)
  replace hp := hp x_1 ex_1
  refine lv_istore (lv' := [(5, .int x_1), (0, .ref a0), (1, .int x1), (2, .int x2), (3, .int x3), (4, .int x4), (6, .int x6)]) hx hb dX12_gamesHere_75 hl (by decide) rfl (fun ls hl => ?_)
  obtain ⟨x_2, ex_2⟩ : ∃ z : Int32, z = x6 + 1 := ⟨_, rfl⟩
  replace hp := hp x_2 ex_2
  refine lv_iinc (v := x_2) (lv' := [(6, .int x_2), (5, .int x_1), (0, .ref a0), (1, .int x1), (2, .int x2), (3, .int x3), (4, .int x4)]) hx hb dX12_gamesHere_77 hl (k := 6) rfl (by rw [ex_2]; rfl) (by decide) rfl (fun ls hl => ?_)
  refine lv_goto (tgt := 6) hx hb dX12_gamesHere_80 (by decide) ?_
  exact q_6 hp hW hE (lv_sub hl [2, 3, 4, 5, 6, 1, 0] rfl) hL_a0 hK_a0
set_option maxHeartbeats 4000000 in
set_option maxRecDepth 100000 in
theorem t_X12_gamesHere_73 {p : Program} {l : Launch} {e : Env} {s : State} {m : MethodId} {args : Array Value} {below : List Frame} {meth : Method} {c : Code} {D : wD} {cy : Nat → ClassId} {X : va_W} {A : Nat → Prop} {S0 : wS} {post : Int32 → wS → Prop} (F : CallFix p m c cX12_gamesHere 8 s args wz_X12_gamesHere RX12) (hr : meth.sig.returnType = (some .int)) (hlocks : meth.locks = false) (hK : wK D cy A s) {k_6 : wS → Nat → Int32 → Int32 → Int32 → Int32 → Int32 → Int32 → Prop} (q_6 : ∀ {S : wS} {H : Heap} {locs : List Loc} {ls : Array Slot} {a0 : Nat} {x1 : Int32} {x2 : Int32} {x3 : Int32} {x4 : Int32} {x5 : Int32} {x6 : Int32}, k_6 S a0 x1 x2 x3 x4 x5 x6 → wO D cy X A s.heap S H locs → wX D S0 S → lv_has ls 8 [(0, .ref a0), (1, .int x1), (2, .int x2), (3, .int x3), (4, .int x4), (5, .int x5), (6, .int x6)] → wM D S a0 → sK S a0 = 17 → W p l e r_X12_gamesHere s m args below meth c H locs 0 0 (MQ below (va_Qi (fun r S9 => wX D S0 S9 ∧ post r S9) (wB D cy X A) A) args s 0 0 A) (F0 m 6 ls [])) : ∀ {S : wS} {H : Heap} {locs : List Loc} {ls : Array Slot} {a0 : Nat} {x1 : Int32} {x2 : Int32} {x3 : Int32} {x4 : Int32} {x6 : Int32} {t0 : Int32}, wp_X12_gamesHere_73 D post k_6 S a0 x1 x2 x3 x4 x6 t0 → wO D cy X A s.heap S H locs → wX D S0 S → lv_has ls 8 [(0, .ref a0), (1, .int x1), (2, .int x2), (3, .int x3), (4, .int x4), (6, .int x6)] → wM D S a0 → sK S a0 = 17 → W p l e r_X12_gamesHere s m args below meth c H locs 0 0 (MQ below (va_Qi (fun r S9 => wX D S0 S9 ∧ post r S9) (wB D cy X A) A) args s 0 0 A) (F0 m 73 ls [.int t0]) := by
  obtain ⟨hx, hb, hml, hown, hts⟩ := id F
  have hwg : ∀ w ∈ WG, w.before args s = true := fun w h => hts w (List.mem_cons_of_mem _ h)
  intro S H locs ls a0 x1 x2 x3 x4 x6 t0 hp hW hE hl hL_a0 hK_a0
  unfold wp_X12_gamesHere_73 at hp
  refine lv_iconst (v := 0) hx hb dX12_gamesHere_73 (by decide) ?_
  exact t_X12_gamesHere_74 F hr hlocks hK q_6 hp hW hE (lv_sub hl [0, 1, 2, 3, 4, 5] rfl) hL_a0 hK_a0
set_option maxHeartbeats 4000000 in
set_option maxRecDepth 100000 in
theorem t_X12_gamesHere_43 {p : Program} {l : Launch} {e : Env} {s : State} {m : MethodId} {args : Array Value} {below : List Frame} {meth : Method} {c : Code} {D : wD} {cy : Nat → ClassId} {X : va_W} {A : Nat → Prop} {S0 : wS} {post : Int32 → wS → Prop} (F : CallFix p m c cX12_gamesHere 8 s args wz_X12_gamesHere RX12) (hr : meth.sig.returnType = (some .int)) (hlocks : meth.locks = false) (hK : wK D cy A s) {k_6 : wS → Nat → Int32 → Int32 → Int32 → Int32 → Int32 → Int32 → Prop} (q_6 : ∀ {S : wS} {H : Heap} {locs : List Loc} {ls : Array Slot} {a0 : Nat} {x1 : Int32} {x2 : Int32} {x3 : Int32} {x4 : Int32} {x5 : Int32} {x6 : Int32}, k_6 S a0 x1 x2 x3 x4 x5 x6 → wO D cy X A s.heap S H locs → wX D S0 S → lv_has ls 8 [(0, .ref a0), (1, .int x1), (2, .int x2), (3, .int x3), (4, .int x4), (5, .int x5), (6, .int x6)] → wM D S a0 → sK S a0 = 17 → W p l e r_X12_gamesHere s m args below meth c H locs 0 0 (MQ below (va_Qi (fun r S9 => wX D S0 S9 ∧ post r S9) (wB D cy X A) A) args s 0 0 A) (F0 m 6 ls [])) : ∀ {S : wS} {H : Heap} {locs : List Loc} {ls : Array Slot} {a0 : Nat} {x1 : Int32} {x2 : Int32} {x3 : Int32} {x4 : Int32} {x6 : Int32} {x7 : Int32} {t0 : Int32}, wp_X12_gamesHere_43 D post k_6 S a0 x1 x2 x3 x4 x6 x7 t0 → wO D cy X A s.heap S H locs → wX D S0 S → lv_has ls 8 [(0, .ref a0), (1, .int x1), (2, .int x2), (3, .int x3), (4, .int x4), (6, .int x6), (7, .int x7)] → wM D S a0 → sK S a0 = 17 → W p l e r_X12_gamesHere s m args below meth c H locs 0 0 (MQ below (va_Qi (fun r S9 => wX D S0 S9 ∧ post r S9) (wB D cy X A) A) args s 0 0 A) (F0 m 43 ls [.int t0]) := by
  obtain ⟨hx, hb, hml, hown, hts⟩ := id F
  have hwg : ∀ w ∈ WG, w.before args s = true := fun w h => hts w (List.mem_cons_of_mem _ h)
  have i_17 : ∀ w ∈ u_ws RX12 TX12 43, w ∈ wz_X12_gamesHere := fun w h => List.mem_cons_of_mem _ (wu_17 w h)
  have k_85 := hwg _ wf_RX12_85
  intro S H locs ls a0 x1 x2 x3 x4 x6 x7 t0 hp hW hE hl hL_a0 hK_a0
  unfold wp_X12_gamesHere_43 at hp
  refine lv_aload_n hx hb dX12_gamesHere_43 rfl (lv_at hl 0 rfl) ?_
  obtain ⟨y_1, ey_1, hL_y_1, hK_y_1, hp⟩ := hp
  refine w_get (k := 17) (f := 35) (T := TX12) (v := .ref y_1) F hK hW hL_a0 hK_a0 (by decide) rfl rfl (by decide) i_17 k_85 (by rw [show wv 17 35 S a0 = va_rf (sR S a0 35) from rfl, ey_1]; rfl) dX12_gamesHere_44 ?_
  refine lv_iload hx hb dX12_gamesHere_47 (lv_at hl 6 rfl) ?_
  obtain ⟨h_2, hp⟩ := hp
  refine w_ild F hK hW hL_y_1 hK_y_1 h_2 dX12_gamesHere_49 ?_
  refine lv_iload_n hx hb dX12_gamesHere_50 rfl (lv_at hl 3 rfl) ?_
  refine lv_iload hx hb dX12_gamesHere_51 (lv_at hl 4 rfl) ?_
  refine w_callI (va_runS (As := [.int (sI S y_1 (x7).toNatClampNeg), .int x3, .int x4]) (rest := [.int t0]) F (c_X12_in l hp H.size) (va_cwS 3 hts (wg_S wm_RX12_117 wy_X12_in) rfl rfl rfl (by decide +kernel) ⟨Nat.le_of_ble_eq_true rfl, Nat.le_of_ble_eq_true rfl⟩) (w_preS hK hW) rfl rfl hl.1 rfl (lv_room (Nat.le_of_ble_eq_true rfl)) dX12_gamesHere_53 ⟨Nat.le_of_ble_eq_true rfl, Nat.le_of_ble_eq_true rfl⟩) hW (fun r_3 S_4 H locs hp hW => ?_)
  obtain ⟨hX_S_4, hp⟩ := hp
  refine W.widen (k := 0) (n := 0) (by decide) (by decide) ?_
  have hE := hE.trans hX_S_4
  have hK_a0 : sK S_4 a0 = 17 := (hX_S_4.2 a0 hL_a0).1.trans hK_a0
  have hL_a0 : wM D S_4 a0 := hX_S_4.M hL_a0
  refine lv_if_eq (tgt := 73) hx hb dX12_gamesHere_56 (by decide) (fun c_5 => ?_) (fun c_5 => ?_)
  · replace hp := hp.1 c_5
    exact t_X12_gamesHere_73 F hr hlocks hK q_6 hp hW hE (lv_sub hl [0, 1, 2, 3, 4, 5] rfl) hL_a0 hK_a0
  · replace hp := hp.2 c_5
    refine lv_aload_n hx hb dX12_gamesHere_59 rfl (lv_at hl 0 rfl) ?_
    refine lv_iload_n hx hb dX12_gamesHere_60 rfl (lv_at hl 1 rfl) ?_
    refine lv_iload hx hb dX12_gamesHere_61 (lv_at hl 5 rfl) ?_
    refine w_callI (va_runV (As := [.int x1, .int x6]) (rest := [.int t0]) F (c_X12_passesHere l hL_a0 hK_a0 hp H.size) (cwV (C := RX12) 2 hts (wg_V wm_RX12_424 wy_X12_passesHere) rfl rfl rfl (by decide +kernel) ⟨Nat.le_of_ble_eq_true rfl, Nat.le_of_ble_eq_true rfl⟩) (w_preV hK hW hL_a0 hK_a0 (by decide) rfl) rfl rfl hl.1 rfl (lv_room (Nat.le_of_ble_eq_true rfl)) dX12_gamesHere_63 ⟨Nat.le_of_ble_eq_true rfl, Nat.le_of_ble_eq_true rfl⟩) hW (fun r_6 S_7 H locs hp hW => ?_)
    obtain ⟨hX_S_7, hp⟩ := hp
    refine W.widen (k := 0) (n := 0) (by decide) (by decide) ?_
    have hE := hE.trans hX_S_7
    have hK_a0 : sK S_7 a0 = 17 := (hX_S_7.2 a0 hL_a0).1.trans hK_a0
    have hL_a0 : wM D S_7 a0 := hX_S_7.M hL_a0
    refine lv_if_eq (tgt := 73) hx hb dX12_gamesHere_66 (by decide) (fun c_8 => ?_) (fun c_8 => ?_)
    · replace hp := hp.1 c_8
      exact t_X12_gamesHere_73 F hr hlocks hK q_6 hp hW hE (lv_sub hl [0, 1, 2, 3, 4, 5] rfl) hL_a0 hK_a0
    · replace hp := hp.2 c_8
      refine lv_iconst (v := 1) hx hb dX12_gamesHere_69 (by decide) ?_
      refine lv_goto (tgt := 74) hx hb dX12_gamesHere_70 (by decide) ?_
      exact t_X12_gamesHere_74 F hr hlocks hK q_6 hp hW hE (lv_sub hl [0, 1, 2, 3, 4, 5] rfl) hL_a0 hK_a0
set_option maxHeartbeats 4000000 in
set_option maxRecDepth 100000 in
theorem t_X12_gamesHere_6 {p : Program} {l : Launch} {e : Env} {s : State} {m : MethodId} {args : Array Value} {below : List Frame} {meth : Method} {c : Code} {D : wD} {cy : Nat → ClassId} {X : va_W} {A : Nat → Prop} {S0 : wS} {post : Int32 → wS → Prop} (F : CallFix p m c cX12_gamesHere 8 s args wz_X12_gamesHere RX12) (hr : meth.sig.returnType = (some .int)) (hlocks : meth.locks = false) (hK : wK D cy A s) : ∀ (n : Nat) {S : wS} {H : Heap} {locs : List Loc} {ls : Array Slot} {a0 : Nat} {x1 : Int32} {x2 : Int32} {x3 : Int32} {x4 : Int32} {x5 : Int32} {x6 : Int32}, wp_X12_gamesHere_6 D post n S a0 x1 x2 x3 x4 x5 x6 → wO D cy X A s.heap S H locs → wX D S0 S → lv_has ls 8 [(0, .ref a0), (1, .int x1), (2, .int x2), (3, .int x3), (4, .int x4), (5, .int x5), (6, .int x6)] → wM D S a0 → sK S a0 = 17 → W p l e r_X12_gamesHere s m args below meth c H locs 0 0 (MQ below (va_Qi (fun r S9 => wX D S0 S9 ∧ post r S9) (wB D cy X A) A) args s 0 0 A) (F0 m 6 ls []) := by
  obtain ⟨hx, hb, hml, hown, hts⟩ := id F
  have hwg : ∀ w ∈ WG, w.before args s = true := fun w h => hts w (List.mem_cons_of_mem _ h)
  have i_17 : ∀ w ∈ u_ws RX12 TX12 43, w ∈ wz_X12_gamesHere := fun w h => List.mem_cons_of_mem _ (wu_17 w h)
  have k_69 := hwg _ wf_RX12_69
  have k_82 := hwg _ wf_RX12_82
  intro n
  induction n with
  | zero =>
    intro S H locs ls a0 x1 x2 x3 x4 x5 x6 hp
    exact hp.elim
  | succ n ih =>
    intro S H locs ls a0 x1 x2 x3 x4 x5 x6 hp hW hE hl hL_a0 hK_a0
    unfold wp_X12_gamesHere_6 at hp
    refine lv_iload hx hb dX12_gamesHere_6 (lv_at hl 6 rfl) ?_
    refine lv_aload_n hx hb dX12_gamesHere_8 rfl (lv_at hl 0 rfl) ?_
    obtain ⟨y_1, ey_1, hL_y_1, hK_y_1, hp⟩ := hp
    refine w_get (k := 17) (f := 30) (T := TX12) (v := .ref y_1) F hK hW hL_a0 hK_a0 (by decide) rfl rfl (by decide) i_17 k_69 (by rw [show wv 17 30 S a0 = va_rf (sR S a0 30) from rfl, ey_1]; rfl) dX12_gamesHere_9 ?_
    refine lv_iload_n hx hb dX12_gamesHere_12 rfl (lv_at hl 1 rfl) ?_
    obtain ⟨h_2, hp⟩ := hp
    refine w_ild F hK hW hL_y_1 hK_y_1 h_2 dX12_gamesHere_13 ?_
    refine lv_icmp_ge (tgt := 83) hx hb dX12_gamesHere_14 (by decide) (fun c_3 => ?_) (fun c_3 => ?_)
    · replace hp := hp.1 c_3
      refine lv_iload hx hb dX12_gamesHere_83 (lv_at hl 5 rfl) ?_
      exact w_iret hx hb hr hlocks hW ⟨hE, hp⟩ dX12_gamesHere_85
    · replace hp := hp.2 c_3
      refine lv_iload_n hx hb dX12_gamesHere_17 rfl (lv_at hl 1 rfl) ?_
      refine lv_iload hx hb dX12_gamesHere_18 (lv_at hl 6 rfl) ?_
      refine w_callI (va_runS (As := [.int x1, .int x6]) (rest := []) F (c_X12_slot l hp H.size) (va_cwS 2 hts (wg_S wm_RX12_400 wy_X12_slot) rfl rfl rfl (by decide +kernel) ⟨Nat.le_of_ble_eq_true rfl, Nat.le_of_ble_eq_true rfl⟩) (w_preS hK hW) rfl rfl hl.1 rfl (lv_room (Nat.le_of_ble_eq_true rfl)) dX12_gamesHere_20 ⟨Nat.le_of_ble_eq_true rfl, Nat.le_of_ble_eq_true rfl⟩) hW (fun r_4 S_5 H locs hp hW => ?_)
      obtain ⟨hX_S_5, hp⟩ := hp
      refine W.widen (k := 0) (n := 0) (by decide) (by decide) ?_
      have hE := hE.trans hX_S_5
      have hK_a0 : sK S_5 a0 = 17 := (hX_S_5.2 a0 hL_a0).1.trans hK_a0
      have hL_a0 : wM D S_5 a0 := hX_S_5.M hL_a0
      refine lv_istore (lv' := [(7, .int r_4), (0, .ref a0), (1, .int x1), (2, .int x2), (3, .int x3), (4, .int x4), (5, .int x5), (6, .int x6)]) hx hb dX12_gamesHere_23 hl (by decide) rfl (fun ls hl => ?_)
      refine lv_iload hx hb dX12_gamesHere_25 (lv_at hl 6 rfl) ?_
      refine lv_iload_n hx hb dX12_gamesHere_27 rfl (lv_at hl 3 rfl) ?_
      refine lv_iconst (v := (-1)) hx hb dX12_gamesHere_28 (by decide) ?_
      refine lv_icmp_eq (tgt := 43) hx hb dX12_gamesHere_29 (by decide) (fun c_6 => ?_) (fun c_6 => ?_)
      · replace hp := hp.1 c_6
        exact t_X12_gamesHere_43 F hr hlocks hK ih hp hW hE (lv_sub hl [1, 2, 3, 4, 5, 7, 0] rfl) hL_a0 hK_a0
      · replace hp := hp.2 c_6
        refine lv_aload_n hx hb dX12_gamesHere_32 rfl (lv_at hl 1 rfl) ?_
        obtain ⟨y_7, ey_7, hL_y_7, hK_y_7, hp⟩ := hp
        refine w_get (k := 17) (f := 34) (T := TX12) (v := .ref y_7) F hK hW hL_a0 hK_a0 (by decide) rfl rfl (by decide) i_17 k_82 (by rw [show wv 17 34 S_5 a0 = va_rf (sR S_5 a0 34) from rfl, ey_7]; rfl) dX12_gamesHere_33 ?_
        refine lv_iload hx hb dX12_gamesHere_36 (lv_at hl 0 rfl) ?_
        obtain ⟨h_8, hp⟩ := hp
        refine w_ild F hK hW hL_y_7 hK_y_7 h_8 dX12_gamesHere_38 ?_
        refine lv_iload_n hx hb dX12_gamesHere_39 rfl (lv_at hl 3 rfl) ?_
        refine lv_icmp_ne (tgt := 73) hx hb dX12_gamesHere_40 (by decide) (fun c_9 => ?_) (fun c_9 => ?_)
        · replace hp := hp.1 c_9
          exact t_X12_gamesHere_73 F hr hlocks hK ih hp hW hE (lv_sub hl [1, 2, 3, 4, 5, 7] rfl) hL_a0 hK_a0
        · replace hp := hp.2 c_9
          exact t_X12_gamesHere_43 F hr hlocks hK ih hp hW hE (lv_sub hl [1, 2, 3, 4, 5, 7, 0] rfl) hL_a0 hK_a0
set_option maxHeartbeats 4000000 in
set_option maxRecDepth 100000 in
theorem t_X12_gamesHere_0 {p : Program} {l : Launch} {e : Env} {s : State} {m : MethodId} {args : Array Value} {below : List Frame} {meth : Method} {c : Code} {D : wD} {cy : Nat → ClassId} {X : va_W} {A : Nat → Prop} {S0 : wS} {post : Int32 → wS → Prop} (F : CallFix p m c cX12_gamesHere 8 s args wz_X12_gamesHere RX12) (hr : meth.sig.returnType = (some .int)) (hlocks : meth.locks = false) (hK : wK D cy A s) : ∀ {S : wS} {H : Heap} {locs : List Loc} {ls : Array Slot} {a0 : Nat} {x1 : Int32} {x2 : Int32} {x3 : Int32} {x4 : Int32}, wp_X12_gamesHere_0 D post S a0 x1 x2 x3 x4 → wO D cy X A s.heap S H locs → wX D S0 S → lv_has ls 8 [(0, .ref a0), (1, .int x1), (2, .int x2), (3, .int x3), (4, .int x4)] → wM D S a0 → sK S a0 = 17 → W p l e r_X12_gamesHere s m args below meth c H locs 0 0 (MQ below (va_Qi (fun r S9 => wX D S0 S9 ∧ post r S9) (wB D cy X A) A) args s 0 0 A) (F0 m 0 ls []) := by
  obtain ⟨hx, hb, hml, hown, hts⟩ := id F
  have hwg : ∀ w ∈ WG, w.before args s = true := fun w h => hts w (List.mem_cons_of_mem _ h)
  intro S H locs ls a0 x1 x2 x3 x4 hp hW hE hl hL_a0 hK_a0
  unfold wp_X12_gamesHere_0 at hp
  refine lv_iconst (v := 0) hx hb dX12_gamesHere_0 (by decide) ?_
  refine lv_istore (lv' := [(5, .int (0 : Int32)), (0, .ref a0), (1, .int x1), (2, .int x2), (3, .int x3), (4, .int x4)]) hx hb dX12_gamesHere_1 hl (by decide) rfl (fun ls hl => ?_)
  refine lv_iconst (v := 0) hx hb dX12_gamesHere_3 (by decide) ?_
  refine lv_istore (lv' := [(6, .int (0 : Int32)), (5, .int (0 : Int32)), (0, .ref a0), (1, .int x1), (2, .int x2), (3, .int x3), (4, .int x4)]) hx hb dX12_gamesHere_4 hl (by decide) rfl (fun ls hl => ?_)
  obtain ⟨n_1, hp⟩ := hp
  exact t_X12_gamesHere_6 F hr hlocks hK n_1 hp hW hE (lv_sub hl [2, 3, 4, 5, 6, 1, 0] rfl) hL_a0 hK_a0
set_option maxHeartbeats 4000000 in
set_option maxRecDepth 100000 in
theorem c_X12_gamesHere (l : Launch) {D : wD} {cy : Nat → ClassId} {X : va_W} {S0 : wS} {post : Int32 → wS → Prop} {a0 : Nat} {x1 : Int32} {x2 : Int32} {x3 : Int32} {x4 : Int32} (hL_a0 : wM D S0 a0) (hK_a0 : sK S0 a0 = 17) (hp : wp_X12_gamesHere D post S0 a0 x1 x2 x3 x4) : mI D cy X l yX12_gamesHere wz_X12_gamesHere r_X12_gamesHere [.ref a0, .int x1, .int x2, .int x3, .int x4] S0 (fun r S9 => wX D S0 S9 ∧ post r S9) := by
  intro sz
  refine Met.ofW (cc := cX12_gamesHere) (maxL := 8) (ret := (some .int)) (by decide) rfl ?_
  intro p e s m args below meth c s₁ B hml hv
  obtain ⟨rfl, hsz, hP, hK, hD0, hRO⟩ := hv
  have hts := atoms_spec (ws := wz_X12_gamesHere) B.pre
  have hown : s.vm.findClass RX12 = some m.cls := findClass_of_methodNamed B.named
  subst hsz
  have hD := hD0.self (sz := s.heap.size)
  have F : CallFix p m c cX12_gamesHere 8 s _ wz_X12_gamesHere RX12 := ⟨B.exec, B.bytes, hml, hown, hts⟩
  have hr := B.returns
  have hlocks := B.notSynchronized
  generalize hAe : va_A (wL cy X S0) s.heap.size = A at hD hK ⊢
  have hA : ∀ q, s.heap.size ≤ q → A q := fun q h => by rw [← hAe]; exact Or.inr h
  have hW : wO D cy X A s.heap S0 s.heap [] := ⟨hP, hD, va_S.rf, hA, hRO⟩
  have hl := lv_entry ([.ref a0, .int x1, .int x2, .int x3, .int x4]) (n := 8) (Nat.le_of_ble_eq_true rfl)
  rw [lg_entry_eq]
  generalize (lg_sl ([.ref a0, .int x1, .int x2, .int x3, .int x4]) ++ List.replicate (8 - (lg_sl ([.ref a0, .int x1, .int x2, .int x3, .int x4])).length) Slot.unset).toArray = ls at hl ⊢
  have hl : lv_has ls 8 [(0, .ref a0), (1, .int x1), (2, .int x2), (3, .int x3), (4, .int x4)] := hl
  unfold wp_X12_gamesHere at hp
  exact t_X12_gamesHere_0 F hr hlocks hK hp hW wX.rf (lv_sub hl [0, 1, 2, 3, 4] rfl) hL_a0 hK_a0
def wp_X12_count_26 (D : wD) (post : Int32 → wS → Prop)  (S : wS) (t0 : Int32) : Prop :=
post t0 S
def wp_X12_count_0 (D : wD) (post : Int32 → wS → Prop)  (S : wS) (a0 : Nat) (x1 : Int32) : Prop :=
wp_X12_isShelf D (fun r_1 S_2 => 
wp_X12_can D (fun r_3 S_4 => 
((r_3 = 0 → wp_X12_count_26 D post S_4 (0 : Int32)) ∧
 (¬ r_3 = 0 → wp_X12_gamesHere D (fun r_6 S_7 => 
wp_X12_count_26 D post S_7 r_6) S_4 a0 x1 (-1 : Int32) (0 : Int32) (9999 : Int32)))) S_2 a0 r_1 (1 : Int32)) S x1
abbrev r_X12_count : Room := { frames := 4, cells := 0, slots := 0, locals := 98 }
def wp_X12_count (D : wD) (post : Int32 → wS → Prop) (S : wS) (a0 : Nat) (x1 : Int32) : Prop := wp_X12_count_0 D post S a0 x1
set_option maxHeartbeats 4000000 in
set_option maxRecDepth 100000 in
theorem t_X12_count_26 {p : Program} {l : Launch} {e : Env} {s : State} {m : MethodId} {args : Array Value} {below : List Frame} {meth : Method} {c : Code} {D : wD} {cy : Nat → ClassId} {X : va_W} {A : Nat → Prop} {S0 : wS} {post : Int32 → wS → Prop} (F : CallFix p m c cX12_count 2 s args wz_X12_count RX12) (hr : meth.sig.returnType = (some .int)) (hlocks : meth.locks = false) (hK : wK D cy A s) : ∀ {S : wS} {H : Heap} {locs : List Loc} {ls : Array Slot} {t0 : Int32}, wp_X12_count_26 D post S t0 → wO D cy X A s.heap S H locs → wX D S0 S → lv_has ls 2 [] → W p l e r_X12_count s m args below meth c H locs 0 0 (MQ below (va_Qi (fun r S9 => wX D S0 S9 ∧ post r S9) (wB D cy X A) A) args s 0 0 A) (F0 m 26 ls [.int t0]) := by
  obtain ⟨hx, hb, hml, hown, hts⟩ := id F
  have hwg : ∀ w ∈ WG, w.before args s = true := fun w h => hts w (List.mem_cons_of_mem _ h)
  intro S H locs ls t0 hp hW hE hl
  unfold wp_X12_count_26 at hp
  exact w_iret hx hb hr hlocks hW ⟨hE, hp⟩ dX12_count_26
set_option maxHeartbeats 4000000 in
set_option maxRecDepth 100000 in
theorem t_X12_count_0 {p : Program} {l : Launch} {e : Env} {s : State} {m : MethodId} {args : Array Value} {below : List Frame} {meth : Method} {c : Code} {D : wD} {cy : Nat → ClassId} {X : va_W} {A : Nat → Prop} {S0 : wS} {post : Int32 → wS → Prop} (F : CallFix p m c cX12_count 2 s args wz_X12_count RX12) (hr : meth.sig.returnType = (some .int)) (hlocks : meth.locks = false) (hK : wK D cy A s) : ∀ {S : wS} {H : Heap} {locs : List Loc} {ls : Array Slot} {a0 : Nat} {x1 : Int32}, wp_X12_count_0 D post S a0 x1 → wO D cy X A s.heap S H locs → wX D S0 S → lv_has ls 2 [(0, .ref a0), (1, .int x1)] → wM D S a0 → sK S a0 = 17 → W p l e r_X12_count s m args below meth c H locs 0 0 (MQ below (va_Qi (fun r S9 => wX D S0 S9 ∧ post r S9) (wB D cy X A) A) args s 0 0 A) (F0 m 0 ls []) := by
  obtain ⟨hx, hb, hml, hown, hts⟩ := id F
  have hwg : ∀ w ∈ WG, w.before args s = true := fun w h => hts w (List.mem_cons_of_mem _ h)
  intro S H locs ls a0 x1 hp hW hE hl hL_a0 hK_a0
  unfold wp_X12_count_0 at hp
  refine lv_aload_n hx hb dX12_count_0 rfl (lv_at hl 0 rfl) ?_
  refine lv_iload_n hx hb dX12_count_1 rfl (lv_at hl 1 rfl) ?_
  refine w_callI (va_runS (As := [.int x1]) (rest := [.ref a0]) F (c_X12_isShelf l hp H.size) (va_cwS 1 hts (wg_S wm_RX12_397 wy_X12_isShelf) rfl rfl rfl (by decide +kernel) ⟨Nat.le_of_ble_eq_true rfl, Nat.le_of_ble_eq_true rfl⟩) (w_preS hK hW) rfl rfl hl.1 rfl (lv_room (Nat.le_of_ble_eq_true rfl)) dX12_count_2 ⟨Nat.le_of_ble_eq_true rfl, Nat.le_of_ble_eq_true rfl⟩) hW (fun r_1 S_2 H locs hp hW => ?_)
  obtain ⟨hX_S_2, hp⟩ := hp
  refine W.widen (k := 0) (n := 0) (by decide) (by decide) ?_
  have hE := hE.trans hX_S_2
  have hK_a0 : sK S_2 a0 = 17 := (hX_S_2.2 a0 hL_a0).1.trans hK_a0
  have hL_a0 : wM D S_2 a0 := hX_S_2.M hL_a0
  refine lv_iconst (v := 1) hx hb dX12_count_5 (by decide) ?_
  refine w_callI (va_runV (As := [.int r_1, .int (1 : Int32)]) (rest := []) F (c_X12_can l hL_a0 hK_a0 hp H.size) (cwV (C := RX12) 2 hts (wg_V wm_RX12_237 wy_X12_can) rfl rfl rfl (by decide +kernel) ⟨Nat.le_of_ble_eq_true rfl, Nat.le_of_ble_eq_true rfl⟩) (w_preV hK hW hL_a0 hK_a0 (by decide) rfl) rfl rfl hl.1 rfl (lv_room (Nat.le_of_ble_eq_true rfl)) dX12_count_6 ⟨Nat.le_of_ble_eq_true rfl, Nat.le_of_ble_eq_true rfl⟩) hW (fun r_3 S_4 H locs hp hW => ?_)
  obtain ⟨hX_S_4, hp⟩ := hp
  refine W.widen (k := 0) (n := 0) (by decide) (by decide) ?_
  have hE := hE.trans hX_S_4
  have hK_a0 : sK S_4 a0 = 17 := (hX_S_4.2 a0 hL_a0).1.trans hK_a0
  have hL_a0 : wM D S_4 a0 := hX_S_4.M hL_a0
  refine lv_if_eq (tgt := 25) hx hb dX12_count_9 (by decide) (fun c_5 => ?_) (fun c_5 => ?_)
  · replace hp := hp.1 c_5
    refine lv_iconst (v := 0) hx hb dX12_count_25 (by decide) ?_
    exact t_X12_count_26 F hr hlocks hK hp hW hE (lv_sub hl [] rfl)
  · replace hp := hp.2 c_5
    refine lv_aload_n hx hb dX12_count_12 rfl (lv_at hl 0 rfl) ?_
    refine lv_iload_n hx hb dX12_count_13 rfl (lv_at hl 1 rfl) ?_
    refine lv_iconst (v := (-1)) hx hb dX12_count_14 (by decide) ?_
    refine lv_iconst (v := 0) hx hb dX12_count_15 (by decide) ?_
    refine lv_sipush (v := 9999) hx hb dX12_count_16 (by decide) ?_
    refine w_callI (va_runV (As := [.int x1, .int (-1 : Int32), .int (0 : Int32), .int (9999 : Int32)]) (rest := []) F (c_X12_gamesHere l hL_a0 hK_a0 hp H.size) (cwV (C := RX12) 4 hts (wg_V wm_RX12_427 wy_X12_gamesHere) rfl rfl rfl (by decide +kernel) ⟨Nat.le_of_ble_eq_true rfl, Nat.le_of_ble_eq_true rfl⟩) (w_preV hK hW hL_a0 hK_a0 (by decide) rfl) rfl rfl hl.1 rfl (lv_room (Nat.le_of_ble_eq_true rfl)) dX12_count_19 ⟨Nat.le_of_ble_eq_true rfl, Nat.le_of_ble_eq_true rfl⟩) hW (fun r_6 S_7 H locs hp hW => ?_)
    obtain ⟨hX_S_7, hp⟩ := hp
    refine W.widen (k := 0) (n := 0) (by decide) (by decide) ?_
    have hE := hE.trans hX_S_7
    have hK_a0 : sK S_7 a0 = 17 := (hX_S_7.2 a0 hL_a0).1.trans hK_a0
    have hL_a0 : wM D S_7 a0 := hX_S_7.M hL_a0
    refine lv_goto (tgt := 26) hx hb dX12_count_22 (by decide) ?_
    exact t_X12_count_26 F hr hlocks hK hp hW hE (lv_sub hl [] rfl)
set_option maxHeartbeats 4000000 in
set_option maxRecDepth 100000 in
theorem c_X12_count (l : Launch) {D : wD} {cy : Nat → ClassId} {X : va_W} {S0 : wS} {post : Int32 → wS → Prop} {a0 : Nat} {x1 : Int32} (hL_a0 : wM D S0 a0) (hK_a0 : sK S0 a0 = 17) (hp : wp_X12_count D post S0 a0 x1) : mI D cy X l yX12_count wz_X12_count r_X12_count [.ref a0, .int x1] S0 (fun r S9 => wX D S0 S9 ∧ post r S9) := by
  intro sz
  refine Met.ofW (cc := cX12_count) (maxL := 2) (ret := (some .int)) (by decide) rfl ?_
  intro p e s m args below meth c s₁ B hml hv
  obtain ⟨rfl, hsz, hP, hK, hD0, hRO⟩ := hv
  have hts := atoms_spec (ws := wz_X12_count) B.pre
  have hown : s.vm.findClass RX12 = some m.cls := findClass_of_methodNamed B.named
  subst hsz
  have hD := hD0.self (sz := s.heap.size)
  have F : CallFix p m c cX12_count 2 s _ wz_X12_count RX12 := ⟨B.exec, B.bytes, hml, hown, hts⟩
  have hr := B.returns
  have hlocks := B.notSynchronized
  generalize hAe : va_A (wL cy X S0) s.heap.size = A at hD hK ⊢
  have hA : ∀ q, s.heap.size ≤ q → A q := fun q h => by rw [← hAe]; exact Or.inr h
  have hW : wO D cy X A s.heap S0 s.heap [] := ⟨hP, hD, va_S.rf, hA, hRO⟩
  have hl := lv_entry ([.ref a0, .int x1]) (n := 2) (Nat.le_of_ble_eq_true rfl)
  rw [lg_entry_eq]
  generalize (lg_sl ([.ref a0, .int x1]) ++ List.replicate (2 - (lg_sl ([.ref a0, .int x1])).length) Slot.unset).toArray = ls at hl ⊢
  have hl : lv_has ls 2 [(0, .ref a0), (1, .int x1)] := hl
  unfold wp_X12_count at hp
  exact t_X12_count_0 F hr hlocks hK hp hW wX.rf (lv_sub hl [0, 1] rfl) hL_a0 hK_a0
def wp_X12_rowsOfTwo_9 (D : wD) (post : Int32 → wS → Prop)  : Nat → wS → Nat → Int32 → Int32 → Int32 → Prop
  | 0, _, _, _, _, _ => False
  | n + 1, S, a0, x1, x2, x3 =>
    ∃ y_1 : Nat, sR S a0 7 = some y_1 ∧ wM D S y_1 ∧ sK S y_1 = 21 ∧
    vp_in x1 (sN S y_1) ∧
    (((sI S y_1 (x1).toNatClampNeg) ≤ x3 → post x2 S) ∧
     (¬ (sI S y_1 (x1).toNatClampNeg) ≤ x3 → wp_X12_makesListed D (fun S_5 => 
    wp_X12_moves D (fun S_7 => 
    ∃ y_8 : Nat, sR S_7 a0 7 = some y_8 ∧ wM D S_7 y_8 ∧ sK S_7 y_8 = 21 ∧
    vp_in (x1 + (1 : Int32)) (sN S_7 y_8) ∧
    ∀ x_10 : Int32, x_10 = (x2 + (sI S_7 y_8 ((x1 + (1 : Int32))).toNatClampNeg)) →
    ∀ x_11 : Int32, x_11 = x3 + 1 →
    wp_X12_rowsOfTwo_9 D post n S_7 a0 x1 x_10 x_11) S_5 a0 (x1 + (1 : Int32))) S a0 x1 x3))
def wp_X12_rowsOfTwo_0 (D : wD) (post : Int32 → wS → Prop)  (S : wS) (a0 : Nat) (x1 : Int32) : Prop :=
wp_X12_moves D (fun S_2 => 
∃ n_3 : Nat, wp_X12_rowsOfTwo_9 D post n_3 S_2 a0 x1 (0 : Int32) (0 : Int32)) S a0 x1
abbrev r_X12_rowsOfTwo : Room := { frames := 7, cells := 0, slots := 0, locals := 177 }
def wp_X12_rowsOfTwo (D : wD) (post : Int32 → wS → Prop) (S : wS) (a0 : Nat) (x1 : Int32) : Prop := wp_X12_rowsOfTwo_0 D post S a0 x1
set_option maxHeartbeats 4000000 in
set_option maxRecDepth 100000 in
theorem t_X12_rowsOfTwo_9 {p : Program} {l : Launch} {e : Env} {s : State} {m : MethodId} {args : Array Value} {below : List Frame} {meth : Method} {c : Code} {D : wD} {cy : Nat → ClassId} {X : va_W} {A : Nat → Prop} {S0 : wS} {post : Int32 → wS → Prop} (F : CallFix p m c cX12_rowsOfTwo 4 s args wz_X12_rowsOfTwo RX12) (hr : meth.sig.returnType = (some .int)) (hlocks : meth.locks = false) (hK : wK D cy A s) : ∀ (n : Nat) {S : wS} {H : Heap} {locs : List Loc} {ls : Array Slot} {a0 : Nat} {x1 : Int32} {x2 : Int32} {x3 : Int32}, wp_X12_rowsOfTwo_9 D post n S a0 x1 x2 x3 → wO D cy X A s.heap S H locs → wX D S0 S → lv_has ls 4 [(0, .ref a0), (1, .int x1), (2, .int x2), (3, .int x3)] → wM D S a0 → sK S a0 = 17 → W p l e r_X12_rowsOfTwo s m args below meth c H locs 0 0 (MQ below (va_Qi (fun r S9 => wX D S0 S9 ∧ post r S9) (wB D cy X A) A) args s 0 0 A) (F0 m 9 ls []) := by
  obtain ⟨hx, hb, hml, hown, hts⟩ := id F
  have hwg : ∀ w ∈ WG, w.before args s = true := fun w h => hts w (List.mem_cons_of_mem _ h)
  have i_17 : ∀ w ∈ u_ws RX12 TX12 43, w ∈ wz_X12_rowsOfTwo := fun w h => List.mem_cons_of_mem _ (wu_17 w h)
  have k_29 := hwg _ wf_RX12_29
  intro n
  induction n with
  | zero =>
    intro S H locs ls a0 x1 x2 x3 hp
    exact hp.elim
  | succ n ih =>
    intro S H locs ls a0 x1 x2 x3 hp hW hE hl hL_a0 hK_a0
    unfold wp_X12_rowsOfTwo_9 at hp
    refine lv_iload_n hx hb dX12_rowsOfTwo_9 rfl (lv_at hl 3 rfl) ?_
    refine lv_aload_n hx hb dX12_rowsOfTwo_10 rfl (lv_at hl 0 rfl) ?_
    obtain ⟨y_1, ey_1, hL_y_1, hK_y_1, hp⟩ := hp
    refine w_get (k := 17) (f := 7) (T := TX12) (v := .ref y_1) F hK hW hL_a0 hK_a0 (by decide) rfl rfl (by decide) i_17 k_29 (by rw [show wv 17 7 S a0 = va_rf (sR S a0 7) from rfl, ey_1]; rfl) dX12_rowsOfTwo_11 ?_
    refine lv_iload_n hx hb dX12_rowsOfTwo_14 rfl (lv_at hl 1 rfl) ?_
    obtain ⟨h_2, hp⟩ := hp
    refine w_ild F hK hW hL_y_1 hK_y_1 h_2 dX12_rowsOfTwo_15 ?_
    refine lv_icmp_ge (tgt := 49) hx hb dX12_rowsOfTwo_16 (by decide) (fun c_3 => ?_) (fun c_3 => ?_)
    · replace hp := hp.1 c_3
      refine lv_iload_n hx hb dX12_rowsOfTwo_49 rfl (lv_at hl 2 rfl) ?_
      exact w_iret hx hb hr hlocks hW ⟨hE, hp⟩ dX12_rowsOfTwo_50
    · replace hp := hp.2 c_3
      refine lv_aload_n hx hb dX12_rowsOfTwo_19 rfl (lv_at hl 0 rfl) ?_
      refine lv_iload_n hx hb dX12_rowsOfTwo_20 rfl (lv_at hl 1 rfl) ?_
      refine lv_iload_n hx hb dX12_rowsOfTwo_21 rfl (lv_at hl 3 rfl) ?_
      refine w_callV (va_runV (As := [.int x1, .int x3]) (rest := []) F (c_X12_makesListed l hL_a0 hK_a0 hp H.size) (cwV (C := RX12) 2 hts (wg_V wm_RX12_306 wy_X12_makesListed) rfl rfl rfl (by decide +kernel) ⟨Nat.le_of_ble_eq_true rfl, Nat.le_of_ble_eq_true rfl⟩) (w_preV hK hW hL_a0 hK_a0 (by decide) rfl) rfl rfl hl.1 rfl (lv_room (Nat.le_of_ble_eq_true rfl)) dX12_rowsOfTwo_22 ⟨Nat.le_of_ble_eq_true rfl, Nat.le_of_ble_eq_true rfl⟩) hW (fun S_5 H locs hp hW => ?_)
      obtain ⟨hX_S_5, hp⟩ := hp
      refine W.widen (k := 0) (n := 0) (by decide) (by decide) ?_
      have hE := hE.trans hX_S_5
      have hK_a0 : sK S_5 a0 = 17 := (hX_S_5.2 a0 hL_a0).1.trans hK_a0
      have hL_a0 : wM D S_5 a0 := hX_S_5.M hL_a0
      refine lv_aload_n hx hb dX12_rowsOfTwo_25 rfl (lv_at hl 0 rfl) ?_
      refine lv_iload_n hx hb dX12_rowsOfTwo_26 rfl (lv_at hl 1 rfl) ?_
      refine lv_iconst (v := 1) hx hb dX12_rowsOfTwo_27 (by decide) ?_
      refine lv_iadd hx hb dX12_rowsOfTwo_28 ?_
      refine w_callV (va_runV (As := [.int (x1 + (1 : Int32))]) (rest := []) F (c_X12_moves l hL_a0 hK_a0 hp H.size) (cwV (C := RX12) 1 hts (wg_V wm_RX12_233 wy_X12_moves) rfl rfl rfl (by decide +kernel) ⟨Nat.le_of_ble_eq_true rfl, Nat.le_of_ble_eq_true rfl⟩) (w_preV hK hW hL_a0 hK_a0 (by decide) rfl) rfl rfl hl.1 rfl (lv_room (Nat.le_of_ble_eq_true rfl)) dX12_rowsOfTwo_29 ⟨Nat.le_of_ble_eq_true rfl, Nat.le_of_ble_eq_true rfl⟩) hW (fun S_7 H locs hp hW => ?_)
      obtain ⟨hX_S_7, hp⟩ := hp
      refine W.widen (k := 0) (n := 0) (by decide) (by decide) ?_
      have hE := hE.trans hX_S_7
      have hK_a0 : sK S_7 a0 = 17 := (hX_S_7.2 a0 hL_a0).1.trans hK_a0
      have hL_a0 : wM D S_7 a0 := hX_S_7.M hL_a0
      refine lv_iload_n hx hb dX12_rowsOfTwo_32 rfl (lv_at hl 2 rfl) ?_
      refine lv_aload_n hx hb dX12_rowsOfTwo_33 rfl (lv_at hl 0 rfl) ?_
      obtain ⟨y_8, ey_8, hL_y_8, hK_y_8, hp⟩ := hp
      refine w_get (k := 17) (f := 7) (T := TX12) (v := .ref y_8) F hK hW hL_a0 hK_a0 (by decide) rfl rfl (by decide) i_17 k_29 (by rw [show wv 17 7 S_7 a0 = va_rf (sR S_7 a0 7) from rfl, ey_8]; rfl) dX12_rowsOfTwo_34 ?_
      refine lv_iload_n hx hb dX12_rowsOfTwo_37 rfl (lv_at hl 1 rfl) ?_
      refine lv_iconst (v := 1) hx hb dX12_rowsOfTwo_38 (by decide) ?_
      refine lv_iadd hx hb dX12_rowsOfTwo_39 ?_
      obtain ⟨h_9, hp⟩ := hp
      refine w_ild F hK hW hL_y_8 hK_y_8 h_9 dX12_rowsOfTwo_40 ?_
      refine lv_iadd hx hb dX12_rowsOfTwo_41 ?_
      refine lv_topi (fun x_10 ex_10 => ?_)
      replace hp := hp x_10 ex_10
      refine lv_istore_n (lv' := [(2, .int x_10), (0, .ref a0), (1, .int x1), (3, .int x3)]) hx hb dX12_rowsOfTwo_42 rfl hl (by decide) rfl (fun ls hl => ?_)
      obtain ⟨x_11, ex_11⟩ : ∃ z : Int32, z = x3 + 1 := ⟨_, rfl⟩
      replace hp := hp x_11 ex_11
      refine lv_iinc (v := x_11) (lv' := [(3, .int x_11), (2, .int x_10), (0, .ref a0), (1, .int x1)]) hx hb dX12_rowsOfTwo_43 hl (k := 3) rfl (by rw [ex_11]; rfl) (by decide) rfl (fun ls hl => ?_)
      refine lv_goto (tgt := 9) hx hb dX12_rowsOfTwo_46 (by decide) ?_
      exact ih hp hW hE (lv_sub hl [2, 3, 1, 0] rfl) hL_a0 hK_a0
set_option maxHeartbeats 4000000 in
set_option maxRecDepth 100000 in
theorem t_X12_rowsOfTwo_0 {p : Program} {l : Launch} {e : Env} {s : State} {m : MethodId} {args : Array Value} {below : List Frame} {meth : Method} {c : Code} {D : wD} {cy : Nat → ClassId} {X : va_W} {A : Nat → Prop} {S0 : wS} {post : Int32 → wS → Prop} (F : CallFix p m c cX12_rowsOfTwo 4 s args wz_X12_rowsOfTwo RX12) (hr : meth.sig.returnType = (some .int)) (hlocks : meth.locks = false) (hK : wK D cy A s) : ∀ {S : wS} {H : Heap} {locs : List Loc} {ls : Array Slot} {a0 : Nat} {x1 : Int32}, wp_X12_rowsOfTwo_0 D post S a0 x1 → wO D cy X A s.heap S H locs → wX D S0 S → lv_has ls 4 [(0, .ref a0), (1, .int x1)] → wM D S a0 → sK S a0 = 17 → W p l e r_X12_rowsOfTwo s m args below meth c H locs 0 0 (MQ below (va_Qi (fun r S9 => wX D S0 S9 ∧ post r S9) (wB D cy X A) A) args s 0 0 A) (F0 m 0 ls []) := by
  obtain ⟨hx, hb, hml, hown, hts⟩ := id F
  have hwg : ∀ w ∈ WG, w.before args s = true := fun w h => hts w (List.mem_cons_of_mem _ h)
  intro S H locs ls a0 x1 hp hW hE hl hL_a0 hK_a0
  unfold wp_X12_rowsOfTwo_0 at hp
  refine lv_iconst (v := 0) hx hb dX12_rowsOfTwo_0 (by decide) ?_
  refine lv_istore_n (lv' := [(2, .int (0 : Int32)), (0, .ref a0), (1, .int x1)]) hx hb dX12_rowsOfTwo_1 rfl hl (by decide) rfl (fun ls hl => ?_)
  refine lv_aload_n hx hb dX12_rowsOfTwo_2 rfl (lv_at hl 1 rfl) ?_
  refine lv_iload_n hx hb dX12_rowsOfTwo_3 rfl (lv_at hl 2 rfl) ?_
  refine w_callV (va_runV (As := [.int x1]) (rest := []) F (c_X12_moves l hL_a0 hK_a0 hp H.size) (cwV (C := RX12) 1 hts (wg_V wm_RX12_233 wy_X12_moves) rfl rfl rfl (by decide +kernel) ⟨Nat.le_of_ble_eq_true rfl, Nat.le_of_ble_eq_true rfl⟩) (w_preV hK hW hL_a0 hK_a0 (by decide) rfl) rfl rfl hl.1 rfl (lv_room (Nat.le_of_ble_eq_true rfl)) dX12_rowsOfTwo_4 ⟨Nat.le_of_ble_eq_true rfl, Nat.le_of_ble_eq_true rfl⟩) hW (fun S_2 H locs hp hW => ?_)
  obtain ⟨hX_S_2, hp⟩ := hp
  refine W.widen (k := 0) (n := 0) (by decide) (by decide) ?_
  have hE := hE.trans hX_S_2
  have hK_a0 : sK S_2 a0 = 17 := (hX_S_2.2 a0 hL_a0).1.trans hK_a0
  have hL_a0 : wM D S_2 a0 := hX_S_2.M hL_a0
  refine lv_iconst (v := 0) hx hb dX12_rowsOfTwo_7 (by decide) ?_
  refine lv_istore_n (lv' := [(3, .int (0 : Int32)), (2, .int (0 : Int32)), (0, .ref a0), (1, .int x1)]) hx hb dX12_rowsOfTwo_8 rfl hl (by decide) rfl (fun ls hl => ?_)
  obtain ⟨n_3, hp⟩ := hp
  exact t_X12_rowsOfTwo_9 F hr hlocks hK n_3 hp hW hE (lv_sub hl [2, 3, 1, 0] rfl) hL_a0 hK_a0
set_option maxHeartbeats 4000000 in
set_option maxRecDepth 100000 in
theorem c_X12_rowsOfTwo (l : Launch) {D : wD} {cy : Nat → ClassId} {X : va_W} {S0 : wS} {post : Int32 → wS → Prop} {a0 : Nat} {x1 : Int32} (hL_a0 : wM D S0 a0) (hK_a0 : sK S0 a0 = 17) (hp : wp_X12_rowsOfTwo D post S0 a0 x1) : mI D cy X l yX12_rowsOfTwo wz_X12_rowsOfTwo r_X12_rowsOfTwo [.ref a0, .int x1] S0 (fun r S9 => wX D S0 S9 ∧ post r S9) := by
  intro sz
  refine Met.ofW (cc := cX12_rowsOfTwo) (maxL := 4) (ret := (some .int)) (by decide) rfl ?_
  intro p e s m args below meth c s₁ B hml hv
  obtain ⟨rfl, hsz, hP, hK, hD0, hRO⟩ := hv
  have hts := atoms_spec (ws := wz_X12_rowsOfTwo) B.pre
  have hown : s.vm.findClass RX12 = some m.cls := findClass_of_methodNamed B.named
  subst hsz
  have hD := hD0.self (sz := s.heap.size)
  have F : CallFix p m c cX12_rowsOfTwo 4 s _ wz_X12_rowsOfTwo RX12 := ⟨B.exec, B.bytes, hml, hown, hts⟩
  have hr := B.returns
  have hlocks := B.notSynchronized
  generalize hAe : va_A (wL cy X S0) s.heap.size = A at hD hK ⊢
  have hA : ∀ q, s.heap.size ≤ q → A q := fun q h => by rw [← hAe]; exact Or.inr h
  have hW : wO D cy X A s.heap S0 s.heap [] := ⟨hP, hD, va_S.rf, hA, hRO⟩
  have hl := lv_entry ([.ref a0, .int x1]) (n := 4) (Nat.le_of_ble_eq_true rfl)
  rw [lg_entry_eq]
  generalize (lg_sl ([.ref a0, .int x1]) ++ List.replicate (4 - (lg_sl ([.ref a0, .int x1])).length) Slot.unset).toArray = ls at hl ⊢
  have hl : lv_has ls 4 [(0, .ref a0), (1, .int x1)] := hl
  unfold wp_X12_rowsOfTwo at hp
  exact t_X12_rowsOfTwo_0 F hr hlocks hK hp hW wX.rf (lv_sub hl [0, 1] rfl) hL_a0 hK_a0
def wp_X12_countMoves_100 (D : wD) (post : Int32 → wS → Prop)  (S : wS) (x3 : Int32) : Prop :=
post x3 S
def wp_X12_countMoves_63 (D : wD) (post : Int32 → wS → Prop)  : Nat → wS → Nat → Int32 → Int32 → Int32 → Prop
  | 0, _, _, _, _, _ => False
  | n + 1, S, a0, x1, x3, x4 =>
    ∃ y_1 : Nat, sR S a0 7 = some y_1 ∧ wM D S y_1 ∧ sK S y_1 = 21 ∧
    vp_in (0 : Int32) (sN S y_1) ∧
    (((sI S y_1 ((0 : Int32)).toNatClampNeg) ≤ x4 → wp_X12_countMoves_100 D post S x3) ∧
     (¬ (sI S y_1 ((0 : Int32)).toNatClampNeg) ≤ x4 → ((¬ x1 = (3 : Int32) → wp_X12_countMoves_100 D post S x3) ∧
     (x1 = (3 : Int32) → wp_X12_makesListed D (fun S_6 => 
    wp_X12_rowsOfTwo D (fun r_7 S_8 => 
    ∀ x_9 : Int32, x_9 = (x3 + r_7) →
    ∀ x_10 : Int32, x_10 = x4 + 1 →
    wp_X12_countMoves_63 D post n S_8 a0 x1 x_9 x_10) S_6 a0 (1 : Int32)) S a0 (0 : Int32) x4))))
def wp_X12_countMoves_59 (D : wD) (post : Int32 → wS → Prop)  (S : wS) (a0 : Nat) (x1 : Int32) (t0 : Int32) : Prop :=
∃ n_1 : Nat, wp_X12_countMoves_63 D post n_1 S a0 x1 t0 (0 : Int32)
def wp_X12_countMoves_26 (D : wD) (post : Int32 → wS → Prop)  (S : wS) : Prop :=
post (0 : Int32) S
def wp_X12_countMoves_0 (D : wD) (post : Int32 → wS → Prop)  (S : wS) (a0 : Nat) (x1 : Int32) : Prop :=
wp_X12_in D (fun r_1 S_2 => 
wp_X12_can D (fun r_3 S_4 => 
((r_3 = 0 → wp_X12_countMoves_26 D post S_4) ∧
 (¬ r_3 = 0 → wp_X12_isAskable D (fun r_6 S_7 => 
wp_X12_can D (fun r_8 S_9 => 
((¬ r_8 = 0 → ((¬ x1 = (2 : Int32) → wp_X12_moves D (fun S_13 => 
((¬ x1 = (1 : Int32) → wp_X12_countMoves_59 D post S_13 a0 x1 (0 : Int32)) ∧
 (x1 = (1 : Int32) → ∃ y_15 : Nat, sR S_13 a0 7 = some y_15 ∧ wM D S_13 y_15 ∧ sK S_13 y_15 = 21 ∧
vp_in (0 : Int32) (sN S_13 y_15) ∧
wp_X12_countMoves_59 D post S_13 a0 x1 (sI S_13 y_15 ((0 : Int32)).toNatClampNeg)))) S_9 a0 (0 : Int32)) ∧
 (x1 = (2 : Int32) → wp_X12_rowsOfTwo D (fun r_17 S_18 => 
post r_17 S_18) S_9 a0 (0 : Int32)))) ∧
 (r_8 = 0 → wp_X12_countMoves_26 D post S_9))) S_7 a0 r_6 (2 : Int32)) S_4 a0))) S_2 a0 r_1 (1 : Int32)) S x1 (1 : Int32) (3 : Int32)
abbrev r_X12_countMoves : Room := { frames := 8, cells := 0, slots := 0, locals := 200 }
def wp_X12_countMoves (D : wD) (post : Int32 → wS → Prop) (S : wS) (a0 : Nat) (x1 : Int32) (x2 : Int32) : Prop := wp_X12_countMoves_0 D post S a0 x1
set_option maxHeartbeats 4000000 in
set_option maxRecDepth 100000 in
theorem t_X12_countMoves_100 {p : Program} {l : Launch} {e : Env} {s : State} {m : MethodId} {args : Array Value} {below : List Frame} {meth : Method} {c : Code} {D : wD} {cy : Nat → ClassId} {X : va_W} {A : Nat → Prop} {S0 : wS} {post : Int32 → wS → Prop} (F : CallFix p m c cX12_countMoves 5 s args wz_X12_countMoves RX12) (hr : meth.sig.returnType = (some .int)) (hlocks : meth.locks = false) (hK : wK D cy A s) : ∀ {S : wS} {H : Heap} {locs : List Loc} {ls : Array Slot} {x3 : Int32}, wp_X12_countMoves_100 D post S x3 → wO D cy X A s.heap S H locs → wX D S0 S → lv_has ls 5 [(3, .int x3)] → W p l e r_X12_countMoves s m args below meth c H locs 0 0 (MQ below (va_Qi (fun r S9 => wX D S0 S9 ∧ post r S9) (wB D cy X A) A) args s 0 0 A) (F0 m 100 ls []) := by
  obtain ⟨hx, hb, hml, hown, hts⟩ := id F
  have hwg : ∀ w ∈ WG, w.before args s = true := fun w h => hts w (List.mem_cons_of_mem _ h)
  intro S H locs ls x3 hp hW hE hl
  unfold wp_X12_countMoves_100 at hp
  refine lv_iload_n hx hb dX12_countMoves_100 rfl (lv_at hl 0 rfl) ?_
  exact w_iret hx hb hr hlocks hW ⟨hE, hp⟩ dX12_countMoves_101
set_option maxHeartbeats 4000000 in
set_option maxRecDepth 100000 in
theorem t_X12_countMoves_63 {p : Program} {l : Launch} {e : Env} {s : State} {m : MethodId} {args : Array Value} {below : List Frame} {meth : Method} {c : Code} {D : wD} {cy : Nat → ClassId} {X : va_W} {A : Nat → Prop} {S0 : wS} {post : Int32 → wS → Prop} (F : CallFix p m c cX12_countMoves 5 s args wz_X12_countMoves RX12) (hr : meth.sig.returnType = (some .int)) (hlocks : meth.locks = false) (hK : wK D cy A s) : ∀ (n : Nat) {S : wS} {H : Heap} {locs : List Loc} {ls : Array Slot} {a0 : Nat} {x1 : Int32} {x3 : Int32} {x4 : Int32}, wp_X12_countMoves_63 D post n S a0 x1 x3 x4 → wO D cy X A s.heap S H locs → wX D S0 S → lv_has ls 5 [(0, .ref a0), (1, .int x1), (3, .int x3), (4, .int x4)] → wM D S a0 → sK S a0 = 17 → W p l e r_X12_countMoves s m args below meth c H locs 0 0 (MQ below (va_Qi (fun r S9 => wX D S0 S9 ∧ post r S9) (wB D cy X A) A) args s 0 0 A) (F0 m 63 ls []) := by
  obtain ⟨hx, hb, hml, hown, hts⟩ := id F
  have hwg : ∀ w ∈ WG, w.before args s = true := fun w h => hts w (List.mem_cons_of_mem _ h)
  have i_17 : ∀ w ∈ u_ws RX12 TX12 43, w ∈ wz_X12_countMoves := fun w h => List.mem_cons_of_mem _ (wu_17 w h)
  have k_29 := hwg _ wf_RX12_29
  intro n
  induction n with
  | zero =>
    intro S H locs ls a0 x1 x3 x4 hp
    exact hp.elim
  | succ n ih =>
    intro S H locs ls a0 x1 x3 x4 hp hW hE hl hL_a0 hK_a0
    unfold wp_X12_countMoves_63 at hp
    refine lv_iload hx hb dX12_countMoves_63 (lv_at hl 3 rfl) ?_
    refine lv_aload_n hx hb dX12_countMoves_65 rfl (lv_at hl 0 rfl) ?_
    obtain ⟨y_1, ey_1, hL_y_1, hK_y_1, hp⟩ := hp
    refine w_get (k := 17) (f := 7) (T := TX12) (v := .ref y_1) F hK hW hL_a0 hK_a0 (by decide) rfl rfl (by decide) i_17 k_29 (by rw [show wv 17 7 S a0 = va_rf (sR S a0 7) from rfl, ey_1]; rfl) dX12_countMoves_66 ?_
    refine lv_iconst (v := 0) hx hb dX12_countMoves_69 (by decide) ?_
    obtain ⟨h_2, hp⟩ := hp
    refine w_ild F hK hW hL_y_1 hK_y_1 h_2 dX12_countMoves_70 ?_
    refine lv_icmp_ge (tgt := 100) hx hb dX12_countMoves_71 (by decide) (fun c_3 => ?_) (fun c_3 => ?_)
    · replace hp := hp.1 c_3
      exact t_X12_countMoves_100 F hr hlocks hK hp hW hE (lv_sub hl [2] rfl)
    · replace hp := hp.2 c_3
      refine lv_iload_n hx hb dX12_countMoves_74 rfl (lv_at hl 1 rfl) ?_
      refine lv_iconst (v := 3) hx hb dX12_countMoves_75 (by decide) ?_
      refine lv_icmp_ne (tgt := 100) hx hb dX12_countMoves_76 (by decide) (fun c_4 => ?_) (fun c_4 => ?_)
      · replace hp := hp.1 c_4
        exact t_X12_countMoves_100 F hr hlocks hK hp hW hE (lv_sub hl [2] rfl)
      · replace hp := hp.2 c_4
        refine lv_aload_n hx hb dX12_countMoves_79 rfl (lv_at hl 0 rfl) ?_
        refine lv_iconst (v := 0) hx hb dX12_countMoves_80 (by decide) ?_
        refine lv_iload hx hb dX12_countMoves_81 (lv_at hl 3 rfl) ?_
        refine w_callV (va_runV (As := [.int (0 : Int32), .int x4]) (rest := []) F (c_X12_makesListed l hL_a0 hK_a0 hp H.size) (cwV (C := RX12) 2 hts (wg_V wm_RX12_306 wy_X12_makesListed) rfl rfl rfl (by decide +kernel) ⟨Nat.le_of_ble_eq_true rfl, Nat.le_of_ble_eq_true rfl⟩) (w_preV hK hW hL_a0 hK_a0 (by decide) rfl) rfl rfl hl.1 rfl (lv_room (Nat.le_of_ble_eq_true rfl)) dX12_countMoves_83 ⟨Nat.le_of_ble_eq_true rfl, Nat.le_of_ble_eq_true rfl⟩) hW (fun S_6 H locs hp hW => ?_)
        obtain ⟨hX_S_6, hp⟩ := hp
        refine W.widen (k := 0) (n := 0) (by decide) (by decide) ?_
        have hE := hE.trans hX_S_6
        have hK_a0 : sK S_6 a0 = 17 := (hX_S_6.2 a0 hL_a0).1.trans hK_a0
        have hL_a0 : wM D S_6 a0 := hX_S_6.M hL_a0
        refine lv_iload_n hx hb dX12_countMoves_86 rfl (lv_at hl 2 rfl) ?_
        refine lv_aload_n hx hb dX12_countMoves_87 rfl (lv_at hl 0 rfl) ?_
        refine lv_iconst (v := 1) hx hb dX12_countMoves_88 (by decide) ?_
        refine w_callI (va_runV (As := [.int (1 : Int32)]) (rest := [.int x3]) F (c_X12_rowsOfTwo l hL_a0 hK_a0 hp H.size) (cwV (C := RX12) 1 hts (wg_V wm_RX12_340 wy_X12_rowsOfTwo) rfl rfl rfl (by decide +kernel) ⟨Nat.le_of_ble_eq_true rfl, Nat.le_of_ble_eq_true rfl⟩) (w_preV hK hW hL_a0 hK_a0 (by decide) rfl) rfl rfl hl.1 rfl (lv_room (Nat.le_of_ble_eq_true rfl)) dX12_countMoves_89 ⟨Nat.le_of_ble_eq_true rfl, Nat.le_of_ble_eq_true rfl⟩) hW (fun r_7 S_8 H locs hp hW => ?_)
        obtain ⟨hX_S_8, hp⟩ := hp
        refine W.widen (k := 0) (n := 0) (by decide) (by decide) ?_
        have hE := hE.trans hX_S_8
        have hK_a0 : sK S_8 a0 = 17 := (hX_S_8.2 a0 hL_a0).1.trans hK_a0
        have hL_a0 : wM D S_8 a0 := hX_S_8.M hL_a0
        refine lv_iadd hx hb dX12_countMoves_92 ?_
        refine lv_topi (fun x_9 ex_9 => ?_)
        replace hp := hp x_9 ex_9
        refine lv_istore_n (lv' := [(3, .int x_9), (0, .ref a0), (1, .int x1), (4, .int x4)]) hx hb dX12_countMoves_93 rfl hl (by decide) rfl (fun ls hl => ?_)
        obtain ⟨x_10, ex_10⟩ : ∃ z : Int32, z = x4 + 1 := ⟨_, rfl⟩
        replace hp := hp x_10 ex_10
        refine lv_iinc (v := x_10) (lv' := [(4, .int x_10), (3, .int x_9), (0, .ref a0), (1, .int x1)]) hx hb dX12_countMoves_94 hl (k := 3) rfl (by rw [ex_10]; rfl) (by decide) rfl (fun ls hl => ?_)
        refine lv_goto (tgt := 63) hx hb dX12_countMoves_97 (by decide) ?_
        exact ih hp hW hE (lv_sub hl [2, 3, 1, 0] rfl) hL_a0 hK_a0
set_option maxHeartbeats 4000000 in
set_option maxRecDepth 100000 in
theorem t_X12_countMoves_59 {p : Program} {l : Launch} {e : Env} {s : State} {m : MethodId} {args : Array Value} {below : List Frame} {meth : Method} {c : Code} {D : wD} {cy : Nat → ClassId} {X : va_W} {A : Nat → Prop} {S0 : wS} {post : Int32 → wS → Prop} (F : CallFix p m c cX12_countMoves 5 s args wz_X12_countMoves RX12) (hr : meth.sig.returnType = (some .int)) (hlocks : meth.locks = false) (hK : wK D cy A s) : ∀ {S : wS} {H : Heap} {locs : List Loc} {ls : Array Slot} {a0 : Nat} {x1 : Int32} {t0 : Int32}, wp_X12_countMoves_59 D post S a0 x1 t0 → wO D cy X A s.heap S H locs → wX D S0 S → lv_has ls 5 [(0, .ref a0), (1, .int x1)] → wM D S a0 → sK S a0 = 17 → W p l e r_X12_countMoves s m args below meth c H locs 0 0 (MQ below (va_Qi (fun r S9 => wX D S0 S9 ∧ post r S9) (wB D cy X A) A) args s 0 0 A) (F0 m 59 ls [.int t0]) := by
  obtain ⟨hx, hb, hml, hown, hts⟩ := id F
  have hwg : ∀ w ∈ WG, w.before args s = true := fun w h => hts w (List.mem_cons_of_mem _ h)
  intro S H locs ls a0 x1 t0 hp hW hE hl hL_a0 hK_a0
  unfold wp_X12_countMoves_59 at hp
  refine lv_istore_n (lv' := [(3, .int t0), (0, .ref a0), (1, .int x1)]) hx hb dX12_countMoves_59 rfl hl (by decide) rfl (fun ls hl => ?_)
  refine lv_iconst (v := 0) hx hb dX12_countMoves_60 (by decide) ?_
  refine lv_istore (lv' := [(4, .int (0 : Int32)), (3, .int t0), (0, .ref a0), (1, .int x1)]) hx hb dX12_countMoves_61 hl (by decide) rfl (fun ls hl => ?_)
  obtain ⟨n_1, hp⟩ := hp
  exact t_X12_countMoves_63 F hr hlocks hK n_1 hp hW hE (lv_sub hl [2, 3, 1, 0] rfl) hL_a0 hK_a0
set_option maxHeartbeats 4000000 in
set_option maxRecDepth 100000 in
theorem t_X12_countMoves_26 {p : Program} {l : Launch} {e : Env} {s : State} {m : MethodId} {args : Array Value} {below : List Frame} {meth : Method} {c : Code} {D : wD} {cy : Nat → ClassId} {X : va_W} {A : Nat → Prop} {S0 : wS} {post : Int32 → wS → Prop} (F : CallFix p m c cX12_countMoves 5 s args wz_X12_countMoves RX12) (hr : meth.sig.returnType = (some .int)) (hlocks : meth.locks = false) (hK : wK D cy A s) : ∀ {S : wS} {H : Heap} {locs : List Loc} {ls : Array Slot}, wp_X12_countMoves_26 D post S → wO D cy X A s.heap S H locs → wX D S0 S → lv_has ls 5 [] → W p l e r_X12_countMoves s m args below meth c H locs 0 0 (MQ below (va_Qi (fun r S9 => wX D S0 S9 ∧ post r S9) (wB D cy X A) A) args s 0 0 A) (F0 m 26 ls []) := by
  obtain ⟨hx, hb, hml, hown, hts⟩ := id F
  have hwg : ∀ w ∈ WG, w.before args s = true := fun w h => hts w (List.mem_cons_of_mem _ h)
  intro S H locs ls hp hW hE hl
  unfold wp_X12_countMoves_26 at hp
  refine lv_iconst (v := 0) hx hb dX12_countMoves_26 (by decide) ?_
  exact w_iret hx hb hr hlocks hW ⟨hE, hp⟩ dX12_countMoves_27
set_option maxHeartbeats 4000000 in
set_option maxRecDepth 100000 in
theorem t_X12_countMoves_0 {p : Program} {l : Launch} {e : Env} {s : State} {m : MethodId} {args : Array Value} {below : List Frame} {meth : Method} {c : Code} {D : wD} {cy : Nat → ClassId} {X : va_W} {A : Nat → Prop} {S0 : wS} {post : Int32 → wS → Prop} (F : CallFix p m c cX12_countMoves 5 s args wz_X12_countMoves RX12) (hr : meth.sig.returnType = (some .int)) (hlocks : meth.locks = false) (hK : wK D cy A s) : ∀ {S : wS} {H : Heap} {locs : List Loc} {ls : Array Slot} {a0 : Nat} {x1 : Int32}, wp_X12_countMoves_0 D post S a0 x1 → wO D cy X A s.heap S H locs → wX D S0 S → lv_has ls 5 [(0, .ref a0), (1, .int x1)] → wM D S a0 → sK S a0 = 17 → W p l e r_X12_countMoves s m args below meth c H locs 0 0 (MQ below (va_Qi (fun r S9 => wX D S0 S9 ∧ post r S9) (wB D cy X A) A) args s 0 0 A) (F0 m 0 ls []) := by
  obtain ⟨hx, hb, hml, hown, hts⟩ := id F
  have hwg : ∀ w ∈ WG, w.before args s = true := fun w h => hts w (List.mem_cons_of_mem _ h)
  have i_17 : ∀ w ∈ u_ws RX12 TX12 43, w ∈ wz_X12_countMoves := fun w h => List.mem_cons_of_mem _ (wu_17 w h)
  have k_29 := hwg _ wf_RX12_29
  intro S H locs ls a0 x1 hp hW hE hl hL_a0 hK_a0
  unfold wp_X12_countMoves_0 at hp
  refine lv_aload_n hx hb dX12_countMoves_0 rfl (lv_at hl 0 rfl) ?_
  refine lv_iload_n hx hb dX12_countMoves_1 rfl (lv_at hl 1 rfl) ?_
  refine lv_iconst (v := 1) hx hb dX12_countMoves_2 (by decide) ?_
  refine lv_iconst (v := 3) hx hb dX12_countMoves_3 (by decide) ?_
  refine w_callI (va_runS (As := [.int x1, .int (1 : Int32), .int (3 : Int32)]) (rest := [.ref a0]) F (c_X12_in l hp H.size) (va_cwS 3 hts (wg_S wm_RX12_117 wy_X12_in) rfl rfl rfl (by decide +kernel) ⟨Nat.le_of_ble_eq_true rfl, Nat.le_of_ble_eq_true rfl⟩) (w_preS hK hW) rfl rfl hl.1 rfl (lv_room (Nat.le_of_ble_eq_true rfl)) dX12_countMoves_4 ⟨Nat.le_of_ble_eq_true rfl, Nat.le_of_ble_eq_true rfl⟩) hW (fun r_1 S_2 H locs hp hW => ?_)
  obtain ⟨hX_S_2, hp⟩ := hp
  refine W.widen (k := 0) (n := 0) (by decide) (by decide) ?_
  have hE := hE.trans hX_S_2
  have hK_a0 : sK S_2 a0 = 17 := (hX_S_2.2 a0 hL_a0).1.trans hK_a0
  have hL_a0 : wM D S_2 a0 := hX_S_2.M hL_a0
  refine lv_iconst (v := 1) hx hb dX12_countMoves_7 (by decide) ?_
  refine w_callI (va_runV (As := [.int r_1, .int (1 : Int32)]) (rest := []) F (c_X12_can l hL_a0 hK_a0 hp H.size) (cwV (C := RX12) 2 hts (wg_V wm_RX12_237 wy_X12_can) rfl rfl rfl (by decide +kernel) ⟨Nat.le_of_ble_eq_true rfl, Nat.le_of_ble_eq_true rfl⟩) (w_preV hK hW hL_a0 hK_a0 (by decide) rfl) rfl rfl hl.1 rfl (lv_room (Nat.le_of_ble_eq_true rfl)) dX12_countMoves_8 ⟨Nat.le_of_ble_eq_true rfl, Nat.le_of_ble_eq_true rfl⟩) hW (fun r_3 S_4 H locs hp hW => ?_)
  obtain ⟨hX_S_4, hp⟩ := hp
  refine W.widen (k := 0) (n := 0) (by decide) (by decide) ?_
  have hE := hE.trans hX_S_4
  have hK_a0 : sK S_4 a0 = 17 := (hX_S_4.2 a0 hL_a0).1.trans hK_a0
  have hL_a0 : wM D S_4 a0 := hX_S_4.M hL_a0
  refine lv_if_eq (tgt := 26) hx hb dX12_countMoves_11 (by decide) (fun c_5 => ?_) (fun c_5 => ?_)
  · replace hp := hp.1 c_5
    exact t_X12_countMoves_26 F hr hlocks hK hp hW hE (lv_sub hl [] rfl)
  · replace hp := hp.2 c_5
    refine lv_aload_n hx hb dX12_countMoves_14 rfl (lv_at hl 0 rfl) ?_
    refine lv_aload_n hx hb dX12_countMoves_15 rfl (lv_at hl 0 rfl) ?_
    refine w_callI (va_runV (As := []) (rest := [.ref a0]) F (c_X12_isAskable l hL_a0 hK_a0 hp H.size) (cwV (C := RX12) 0 hts (wg_V wm_RX12_284 wy_X12_isAskable) rfl rfl rfl (by decide +kernel) ⟨Nat.le_of_ble_eq_true rfl, Nat.le_of_ble_eq_true rfl⟩) (w_preV hK hW hL_a0 hK_a0 (by decide) rfl) rfl rfl hl.1 rfl (lv_room (Nat.le_of_ble_eq_true rfl)) dX12_countMoves_16 ⟨Nat.le_of_ble_eq_true rfl, Nat.le_of_ble_eq_true rfl⟩) hW (fun r_6 S_7 H locs hp hW => ?_)
    obtain ⟨hX_S_7, hp⟩ := hp
    refine W.widen (k := 0) (n := 0) (by decide) (by decide) ?_
    have hE := hE.trans hX_S_7
    have hK_a0 : sK S_7 a0 = 17 := (hX_S_7.2 a0 hL_a0).1.trans hK_a0
    have hL_a0 : wM D S_7 a0 := hX_S_7.M hL_a0
    refine lv_iconst (v := 2) hx hb dX12_countMoves_19 (by decide) ?_
    refine w_callI (va_runV (As := [.int r_6, .int (2 : Int32)]) (rest := []) F (c_X12_can l hL_a0 hK_a0 hp H.size) (cwV (C := RX12) 2 hts (wg_V wm_RX12_237 wy_X12_can) rfl rfl rfl (by decide +kernel) ⟨Nat.le_of_ble_eq_true rfl, Nat.le_of_ble_eq_true rfl⟩) (w_preV hK hW hL_a0 hK_a0 (by decide) rfl) rfl rfl hl.1 rfl (lv_room (Nat.le_of_ble_eq_true rfl)) dX12_countMoves_20 ⟨Nat.le_of_ble_eq_true rfl, Nat.le_of_ble_eq_true rfl⟩) hW (fun r_8 S_9 H locs hp hW => ?_)
    obtain ⟨hX_S_9, hp⟩ := hp
    refine W.widen (k := 0) (n := 0) (by decide) (by decide) ?_
    have hE := hE.trans hX_S_9
    have hK_a0 : sK S_9 a0 = 17 := (hX_S_9.2 a0 hL_a0).1.trans hK_a0
    have hL_a0 : wM D S_9 a0 := hX_S_9.M hL_a0
    refine lv_if_ne (tgt := 28) hx hb dX12_countMoves_23 (by decide) (fun c_10 => ?_) (fun c_10 => ?_)
    · replace hp := hp.1 c_10
      refine lv_iload_n hx hb dX12_countMoves_28 rfl (lv_at hl 1 rfl) ?_
      refine lv_iconst (v := 2) hx hb dX12_countMoves_29 (by decide) ?_
      refine lv_icmp_ne (tgt := 39) hx hb dX12_countMoves_30 (by decide) (fun c_11 => ?_) (fun c_11 => ?_)
      · replace hp := hp.1 c_11
        refine lv_aload_n hx hb dX12_countMoves_39 rfl (lv_at hl 0 rfl) ?_
        refine lv_iconst (v := 0) hx hb dX12_countMoves_40 (by decide) ?_
        refine w_callV (va_runV (As := [.int (0 : Int32)]) (rest := []) F (c_X12_moves l hL_a0 hK_a0 hp H.size) (cwV (C := RX12) 1 hts (wg_V wm_RX12_233 wy_X12_moves) rfl rfl rfl (by decide +kernel) ⟨Nat.le_of_ble_eq_true rfl, Nat.le_of_ble_eq_true rfl⟩) (w_preV hK hW hL_a0 hK_a0 (by decide) rfl) rfl rfl hl.1 rfl (lv_room (Nat.le_of_ble_eq_true rfl)) dX12_countMoves_41 ⟨Nat.le_of_ble_eq_true rfl, Nat.le_of_ble_eq_true rfl⟩) hW (fun S_13 H locs hp hW => ?_)
        obtain ⟨hX_S_13, hp⟩ := hp
        refine W.widen (k := 0) (n := 0) (by decide) (by decide) ?_
        have hE := hE.trans hX_S_13
        have hK_a0 : sK S_13 a0 = 17 := (hX_S_13.2 a0 hL_a0).1.trans hK_a0
        have hL_a0 : wM D S_13 a0 := hX_S_13.M hL_a0
        refine lv_iload_n hx hb dX12_countMoves_44 rfl (lv_at hl 1 rfl) ?_
        refine lv_iconst (v := 1) hx hb dX12_countMoves_45 (by decide) ?_
        refine lv_icmp_ne (tgt := 58) hx hb dX12_countMoves_46 (by decide) (fun c_14 => ?_) (fun c_14 => ?_)
        · replace hp := hp.1 c_14
          refine lv_iconst (v := 0) hx hb dX12_countMoves_58 (by decide) ?_
          exact t_X12_countMoves_59 F hr hlocks hK hp hW hE (lv_sub hl [0, 1] rfl) hL_a0 hK_a0
        · replace hp := hp.2 c_14
          refine lv_aload_n hx hb dX12_countMoves_49 rfl (lv_at hl 0 rfl) ?_
          obtain ⟨y_15, ey_15, hL_y_15, hK_y_15, hp⟩ := hp
          refine w_get (k := 17) (f := 7) (T := TX12) (v := .ref y_15) F hK hW hL_a0 hK_a0 (by decide) rfl rfl (by decide) i_17 k_29 (by rw [show wv 17 7 S_13 a0 = va_rf (sR S_13 a0 7) from rfl, ey_15]; rfl) dX12_countMoves_50 ?_
          refine lv_iconst (v := 0) hx hb dX12_countMoves_53 (by decide) ?_
          obtain ⟨h_16, hp⟩ := hp
          refine w_ild F hK hW hL_y_15 hK_y_15 h_16 dX12_countMoves_54 ?_
          refine lv_goto (tgt := 59) hx hb dX12_countMoves_55 (by decide) ?_
          exact t_X12_countMoves_59 F hr hlocks hK hp hW hE (lv_sub hl [0, 1] rfl) hL_a0 hK_a0
      · replace hp := hp.2 c_11
        refine lv_aload_n hx hb dX12_countMoves_33 rfl (lv_at hl 0 rfl) ?_
        refine lv_iconst (v := 0) hx hb dX12_countMoves_34 (by decide) ?_
        refine w_callI (va_runV (As := [.int (0 : Int32)]) (rest := []) F (c_X12_rowsOfTwo l hL_a0 hK_a0 hp H.size) (cwV (C := RX12) 1 hts (wg_V wm_RX12_340 wy_X12_rowsOfTwo) rfl rfl rfl (by decide +kernel) ⟨Nat.le_of_ble_eq_true rfl, Nat.le_of_ble_eq_true rfl⟩) (w_preV hK hW hL_a0 hK_a0 (by decide) rfl) rfl rfl hl.1 rfl (lv_room (Nat.le_of_ble_eq_true rfl)) dX12_countMoves_35 ⟨Nat.le_of_ble_eq_true rfl, Nat.le_of_ble_eq_true rfl⟩) hW (fun r_17 S_18 H locs hp hW => ?_)
        obtain ⟨hX_S_18, hp⟩ := hp
        refine W.widen (k := 0) (n := 0) (by decide) (by decide) ?_
        have hE := hE.trans hX_S_18
        have hK_a0 : sK S_18 a0 = 17 := (hX_S_18.2 a0 hL_a0).1.trans hK_a0
        have hL_a0 : wM D S_18 a0 := hX_S_18.M hL_a0
        exact w_iret hx hb hr hlocks hW ⟨hE, hp⟩ dX12_countMoves_38
    · replace hp := hp.2 c_10
      exact t_X12_countMoves_26 F hr hlocks hK hp hW hE (lv_sub hl [] rfl)
set_option maxHeartbeats 4000000 in
set_option maxRecDepth 100000 in
theorem c_X12_countMoves (l : Launch) {D : wD} {cy : Nat → ClassId} {X : va_W} {S0 : wS} {post : Int32 → wS → Prop} {a0 : Nat} {x1 : Int32} {x2 : Int32} (hL_a0 : wM D S0 a0) (hK_a0 : sK S0 a0 = 17) (hp : wp_X12_countMoves D post S0 a0 x1 x2) : mI D cy X l yX12_countMoves wz_X12_countMoves r_X12_countMoves [.ref a0, .int x1, .int x2] S0 (fun r S9 => wX D S0 S9 ∧ post r S9) := by
  intro sz
  refine Met.ofW (cc := cX12_countMoves) (maxL := 5) (ret := (some .int)) (by decide) rfl ?_
  intro p e s m args below meth c s₁ B hml hv
  obtain ⟨rfl, hsz, hP, hK, hD0, hRO⟩ := hv
  have hts := atoms_spec (ws := wz_X12_countMoves) B.pre
  have hown : s.vm.findClass RX12 = some m.cls := findClass_of_methodNamed B.named
  subst hsz
  have hD := hD0.self (sz := s.heap.size)
  have F : CallFix p m c cX12_countMoves 5 s _ wz_X12_countMoves RX12 := ⟨B.exec, B.bytes, hml, hown, hts⟩
  have hr := B.returns
  have hlocks := B.notSynchronized
  generalize hAe : va_A (wL cy X S0) s.heap.size = A at hD hK ⊢
  have hA : ∀ q, s.heap.size ≤ q → A q := fun q h => by rw [← hAe]; exact Or.inr h
  have hW : wO D cy X A s.heap S0 s.heap [] := ⟨hP, hD, va_S.rf, hA, hRO⟩
  have hl := lv_entry ([.ref a0, .int x1, .int x2]) (n := 5) (Nat.le_of_ble_eq_true rfl)
  rw [lg_entry_eq]
  generalize (lg_sl ([.ref a0, .int x1, .int x2]) ++ List.replicate (5 - (lg_sl ([.ref a0, .int x1, .int x2])).length) Slot.unset).toArray = ls at hl ⊢
  have hl : lv_has ls 5 [(0, .ref a0), (1, .int x1), (2, .int x2)] := hl
  unfold wp_X12_countMoves at hp
  exact t_X12_countMoves_0 F hr hlocks hK hp hW wX.rf (lv_sub hl [0, 1] rfl) hL_a0 hK_a0
def wp_X12_countWith_40 (D : wD) (post : Int32 → wS → Prop)  (S : wS) (t0 : Int32) : Prop :=
post t0 S
def wp_X12_countWith_39 (D : wD) (post : Int32 → wS → Prop)  (S : wS) : Prop :=
wp_X12_countWith_40 D post S (0 : Int32)
def wp_X12_countWith_0 (D : wD) (post : Int32 → wS → Prop)  (S : wS) (a0 : Nat) (x1 : Int32) (x2 : Int32) : Prop :=
wp_X12_isShelf D (fun r_1 S_2 => 
wp_X12_can D (fun r_3 S_4 => 
((r_3 = 0 → wp_X12_countWith_39 D post S_4) ∧
 (¬ r_3 = 0 → wp_X12_in D (fun r_6 S_7 => 
wp_X12_can D (fun r_8 S_9 => 
((r_8 = 0 → wp_X12_countWith_39 D post S_9) ∧
 (¬ r_8 = 0 → wp_X12_gamesHere D (fun r_11 S_12 => 
wp_X12_countWith_40 D post S_12 r_11) S_9 a0 x1 x2 (0 : Int32) (9999 : Int32)))) S_7 a0 r_6 (2 : Int32)) S_4 x2 (0 : Int32) (2 : Int32)))) S_2 a0 r_1 (1 : Int32)) S x1
abbrev r_X12_countWith : Room := { frames := 4, cells := 0, slots := 0, locals := 98 }
def wp_X12_countWith (D : wD) (post : Int32 → wS → Prop) (S : wS) (a0 : Nat) (x1 : Int32) (x2 : Int32) : Prop := wp_X12_countWith_0 D post S a0 x1 x2
set_option maxHeartbeats 4000000 in
set_option maxRecDepth 100000 in
theorem t_X12_countWith_40 {p : Program} {l : Launch} {e : Env} {s : State} {m : MethodId} {args : Array Value} {below : List Frame} {meth : Method} {c : Code} {D : wD} {cy : Nat → ClassId} {X : va_W} {A : Nat → Prop} {S0 : wS} {post : Int32 → wS → Prop} (F : CallFix p m c cX12_countWith 3 s args wz_X12_countWith RX12) (hr : meth.sig.returnType = (some .int)) (hlocks : meth.locks = false) (hK : wK D cy A s) : ∀ {S : wS} {H : Heap} {locs : List Loc} {ls : Array Slot} {t0 : Int32}, wp_X12_countWith_40 D post S t0 → wO D cy X A s.heap S H locs → wX D S0 S → lv_has ls 3 [] → W p l e r_X12_countWith s m args below meth c H locs 0 0 (MQ below (va_Qi (fun r S9 => wX D S0 S9 ∧ post r S9) (wB D cy X A) A) args s 0 0 A) (F0 m 40 ls [.int t0]) := by
  obtain ⟨hx, hb, hml, hown, hts⟩ := id F
  have hwg : ∀ w ∈ WG, w.before args s = true := fun w h => hts w (List.mem_cons_of_mem _ h)
  intro S H locs ls t0 hp hW hE hl
  unfold wp_X12_countWith_40 at hp
  exact w_iret hx hb hr hlocks hW ⟨hE, hp⟩ dX12_countWith_40
set_option maxHeartbeats 4000000 in
set_option maxRecDepth 100000 in
theorem t_X12_countWith_39 {p : Program} {l : Launch} {e : Env} {s : State} {m : MethodId} {args : Array Value} {below : List Frame} {meth : Method} {c : Code} {D : wD} {cy : Nat → ClassId} {X : va_W} {A : Nat → Prop} {S0 : wS} {post : Int32 → wS → Prop} (F : CallFix p m c cX12_countWith 3 s args wz_X12_countWith RX12) (hr : meth.sig.returnType = (some .int)) (hlocks : meth.locks = false) (hK : wK D cy A s) : ∀ {S : wS} {H : Heap} {locs : List Loc} {ls : Array Slot}, wp_X12_countWith_39 D post S → wO D cy X A s.heap S H locs → wX D S0 S → lv_has ls 3 [] → W p l e r_X12_countWith s m args below meth c H locs 0 0 (MQ below (va_Qi (fun r S9 => wX D S0 S9 ∧ post r S9) (wB D cy X A) A) args s 0 0 A) (F0 m 39 ls []) := by
  obtain ⟨hx, hb, hml, hown, hts⟩ := id F
  have hwg : ∀ w ∈ WG, w.before args s = true := fun w h => hts w (List.mem_cons_of_mem _ h)
  intro S H locs ls hp hW hE hl
  unfold wp_X12_countWith_39 at hp
  refine lv_iconst (v := 0) hx hb dX12_countWith_39 (by decide) ?_
  exact t_X12_countWith_40 F hr hlocks hK hp hW hE (lv_sub hl [] rfl)
set_option maxHeartbeats 4000000 in
set_option maxRecDepth 100000 in
theorem t_X12_countWith_0 {p : Program} {l : Launch} {e : Env} {s : State} {m : MethodId} {args : Array Value} {below : List Frame} {meth : Method} {c : Code} {D : wD} {cy : Nat → ClassId} {X : va_W} {A : Nat → Prop} {S0 : wS} {post : Int32 → wS → Prop} (F : CallFix p m c cX12_countWith 3 s args wz_X12_countWith RX12) (hr : meth.sig.returnType = (some .int)) (hlocks : meth.locks = false) (hK : wK D cy A s) : ∀ {S : wS} {H : Heap} {locs : List Loc} {ls : Array Slot} {a0 : Nat} {x1 : Int32} {x2 : Int32}, wp_X12_countWith_0 D post S a0 x1 x2 → wO D cy X A s.heap S H locs → wX D S0 S → lv_has ls 3 [(0, .ref a0), (1, .int x1), (2, .int x2)] → wM D S a0 → sK S a0 = 17 → W p l e r_X12_countWith s m args below meth c H locs 0 0 (MQ below (va_Qi (fun r S9 => wX D S0 S9 ∧ post r S9) (wB D cy X A) A) args s 0 0 A) (F0 m 0 ls []) := by
  obtain ⟨hx, hb, hml, hown, hts⟩ := id F
  have hwg : ∀ w ∈ WG, w.before args s = true := fun w h => hts w (List.mem_cons_of_mem _ h)
  intro S H locs ls a0 x1 x2 hp hW hE hl hL_a0 hK_a0
  unfold wp_X12_countWith_0 at hp
  refine lv_aload_n hx hb dX12_countWith_0 rfl (lv_at hl 0 rfl) ?_
  refine lv_iload_n hx hb dX12_countWith_1 rfl (lv_at hl 1 rfl) ?_
  refine w_callI (va_runS (As := [.int x1]) (rest := [.ref a0]) F (c_X12_isShelf l hp H.size) (va_cwS 1 hts (wg_S wm_RX12_397 wy_X12_isShelf) rfl rfl rfl (by decide +kernel) ⟨Nat.le_of_ble_eq_true rfl, Nat.le_of_ble_eq_true rfl⟩) (w_preS hK hW) rfl rfl hl.1 rfl (lv_room (Nat.le_of_ble_eq_true rfl)) dX12_countWith_2 ⟨Nat.le_of_ble_eq_true rfl, Nat.le_of_ble_eq_true rfl⟩) hW (fun r_1 S_2 H locs hp hW => ?_)
  obtain ⟨hX_S_2, hp⟩ := hp
  refine W.widen (k := 0) (n := 0) (by decide) (by decide) ?_
  have hE := hE.trans hX_S_2
  have hK_a0 : sK S_2 a0 = 17 := (hX_S_2.2 a0 hL_a0).1.trans hK_a0
  have hL_a0 : wM D S_2 a0 := hX_S_2.M hL_a0
  refine lv_iconst (v := 1) hx hb dX12_countWith_5 (by decide) ?_
  refine w_callI (va_runV (As := [.int r_1, .int (1 : Int32)]) (rest := []) F (c_X12_can l hL_a0 hK_a0 hp H.size) (cwV (C := RX12) 2 hts (wg_V wm_RX12_237 wy_X12_can) rfl rfl rfl (by decide +kernel) ⟨Nat.le_of_ble_eq_true rfl, Nat.le_of_ble_eq_true rfl⟩) (w_preV hK hW hL_a0 hK_a0 (by decide) rfl) rfl rfl hl.1 rfl (lv_room (Nat.le_of_ble_eq_true rfl)) dX12_countWith_6 ⟨Nat.le_of_ble_eq_true rfl, Nat.le_of_ble_eq_true rfl⟩) hW (fun r_3 S_4 H locs hp hW => ?_)
  obtain ⟨hX_S_4, hp⟩ := hp
  refine W.widen (k := 0) (n := 0) (by decide) (by decide) ?_
  have hE := hE.trans hX_S_4
  have hK_a0 : sK S_4 a0 = 17 := (hX_S_4.2 a0 hL_a0).1.trans hK_a0
  have hL_a0 : wM D S_4 a0 := hX_S_4.M hL_a0
  refine lv_if_eq (tgt := 39) hx hb dX12_countWith_9 (by decide) (fun c_5 => ?_) (fun c_5 => ?_)
  · replace hp := hp.1 c_5
    exact t_X12_countWith_39 F hr hlocks hK hp hW hE (lv_sub hl [] rfl)
  · replace hp := hp.2 c_5
    refine lv_aload_n hx hb dX12_countWith_12 rfl (lv_at hl 0 rfl) ?_
    refine lv_iload_n hx hb dX12_countWith_13 rfl (lv_at hl 2 rfl) ?_
    refine lv_iconst (v := 0) hx hb dX12_countWith_14 (by decide) ?_
    refine lv_iconst (v := 2) hx hb dX12_countWith_15 (by decide) ?_
    refine w_callI (va_runS (As := [.int x2, .int (0 : Int32), .int (2 : Int32)]) (rest := [.ref a0]) F (c_X12_in l hp H.size) (va_cwS 3 hts (wg_S wm_RX12_117 wy_X12_in) rfl rfl rfl (by decide +kernel) ⟨Nat.le_of_ble_eq_true rfl, Nat.le_of_ble_eq_true rfl⟩) (w_preS hK hW) rfl rfl hl.1 rfl (lv_room (Nat.le_of_ble_eq_true rfl)) dX12_countWith_16 ⟨Nat.le_of_ble_eq_true rfl, Nat.le_of_ble_eq_true rfl⟩) hW (fun r_6 S_7 H locs hp hW => ?_)
    obtain ⟨hX_S_7, hp⟩ := hp
    refine W.widen (k := 0) (n := 0) (by decide) (by decide) ?_
    have hE := hE.trans hX_S_7
    have hK_a0 : sK S_7 a0 = 17 := (hX_S_7.2 a0 hL_a0).1.trans hK_a0
    have hL_a0 : wM D S_7 a0 := hX_S_7.M hL_a0
    refine lv_iconst (v := 2) hx hb dX12_countWith_19 (by decide) ?_
    refine w_callI (va_runV (As := [.int r_6, .int (2 : Int32)]) (rest := []) F (c_X12_can l hL_a0 hK_a0 hp H.size) (cwV (C := RX12) 2 hts (wg_V wm_RX12_237 wy_X12_can) rfl rfl rfl (by decide +kernel) ⟨Nat.le_of_ble_eq_true rfl, Nat.le_of_ble_eq_true rfl⟩) (w_preV hK hW hL_a0 hK_a0 (by decide) rfl) rfl rfl hl.1 rfl (lv_room (Nat.le_of_ble_eq_true rfl)) dX12_countWith_20 ⟨Nat.le_of_ble_eq_true rfl, Nat.le_of_ble_eq_true rfl⟩) hW (fun r_8 S_9 H locs hp hW => ?_)
    obtain ⟨hX_S_9, hp⟩ := hp
    refine W.widen (k := 0) (n := 0) (by decide) (by decide) ?_
    have hE := hE.trans hX_S_9
    have hK_a0 : sK S_9 a0 = 17 := (hX_S_9.2 a0 hL_a0).1.trans hK_a0
    have hL_a0 : wM D S_9 a0 := hX_S_9.M hL_a0
    refine lv_if_eq (tgt := 39) hx hb dX12_countWith_23 (by decide) (fun c_10 => ?_) (fun c_10 => ?_)
    · replace hp := hp.1 c_10
      exact t_X12_countWith_39 F hr hlocks hK hp hW hE (lv_sub hl [] rfl)
    · replace hp := hp.2 c_10
      refine lv_aload_n hx hb dX12_countWith_26 rfl (lv_at hl 0 rfl) ?_
      refine lv_iload_n hx hb dX12_countWith_27 rfl (lv_at hl 1 rfl) ?_
      refine lv_iload_n hx hb dX12_countWith_28 rfl (lv_at hl 2 rfl) ?_
      refine lv_iconst (v := 0) hx hb dX12_countWith_29 (by decide) ?_
      refine lv_sipush (v := 9999) hx hb dX12_countWith_30 (by decide) ?_
      refine w_callI (va_runV (As := [.int x1, .int x2, .int (0 : Int32), .int (9999 : Int32)]) (rest := []) F (c_X12_gamesHere l hL_a0 hK_a0 hp H.size) (cwV (C := RX12) 4 hts (wg_V wm_RX12_427 wy_X12_gamesHere) rfl rfl rfl (by decide +kernel) ⟨Nat.le_of_ble_eq_true rfl, Nat.le_of_ble_eq_true rfl⟩) (w_preV hK hW hL_a0 hK_a0 (by decide) rfl) rfl rfl hl.1 rfl (lv_room (Nat.le_of_ble_eq_true rfl)) dX12_countWith_33 ⟨Nat.le_of_ble_eq_true rfl, Nat.le_of_ble_eq_true rfl⟩) hW (fun r_11 S_12 H locs hp hW => ?_)
      obtain ⟨hX_S_12, hp⟩ := hp
      refine W.widen (k := 0) (n := 0) (by decide) (by decide) ?_
      have hE := hE.trans hX_S_12
      have hK_a0 : sK S_12 a0 = 17 := (hX_S_12.2 a0 hL_a0).1.trans hK_a0
      have hL_a0 : wM D S_12 a0 := hX_S_12.M hL_a0
      refine lv_goto (tgt := 40) hx hb dX12_countWith_36 (by decide) ?_
      exact t_X12_countWith_40 F hr hlocks hK hp hW hE (lv_sub hl [] rfl)
set_option maxHeartbeats 4000000 in
set_option maxRecDepth 100000 in
theorem c_X12_countWith (l : Launch) {D : wD} {cy : Nat → ClassId} {X : va_W} {S0 : wS} {post : Int32 → wS → Prop} {a0 : Nat} {x1 : Int32} {x2 : Int32} (hL_a0 : wM D S0 a0) (hK_a0 : sK S0 a0 = 17) (hp : wp_X12_countWith D post S0 a0 x1 x2) : mI D cy X l yX12_countWith wz_X12_countWith r_X12_countWith [.ref a0, .int x1, .int x2] S0 (fun r S9 => wX D S0 S9 ∧ post r S9) := by
  intro sz
  refine Met.ofW (cc := cX12_countWith) (maxL := 3) (ret := (some .int)) (by decide) rfl ?_
  intro p e s m args below meth c s₁ B hml hv
  obtain ⟨rfl, hsz, hP, hK, hD0, hRO⟩ := hv
  have hts := atoms_spec (ws := wz_X12_countWith) B.pre
  have hown : s.vm.findClass RX12 = some m.cls := findClass_of_methodNamed B.named
  subst hsz
  have hD := hD0.self (sz := s.heap.size)
  have F : CallFix p m c cX12_countWith 3 s _ wz_X12_countWith RX12 := ⟨B.exec, B.bytes, hml, hown, hts⟩
  have hr := B.returns
  have hlocks := B.notSynchronized
  generalize hAe : va_A (wL cy X S0) s.heap.size = A at hD hK ⊢
  have hA : ∀ q, s.heap.size ≤ q → A q := fun q h => by rw [← hAe]; exact Or.inr h
  have hW : wO D cy X A s.heap S0 s.heap [] := ⟨hP, hD, va_S.rf, hA, hRO⟩
  have hl := lv_entry ([.ref a0, .int x1, .int x2]) (n := 3) (Nat.le_of_ble_eq_true rfl)
  rw [lg_entry_eq]
  generalize (lg_sl ([.ref a0, .int x1, .int x2]) ++ List.replicate (3 - (lg_sl ([.ref a0, .int x1, .int x2])).length) Slot.unset).toArray = ls at hl ⊢
  have hl : lv_has ls 3 [(0, .ref a0), (1, .int x1), (2, .int x2)] := hl
  unfold wp_X12_countWith at hp
  exact t_X12_countWith_0 F hr hlocks hK hp hW wX.rf (lv_sub hl [0, 1, 2] rfl) hL_a0 hK_a0
def wp_X12_countYears_42 (D : wD) (post : Int32 → wS → Prop)  (S : wS) (t0 : Int32) : Prop :=
post t0 S
def wp_X12_countYears_41 (D : wD) (post : Int32 → wS → Prop)  (S : wS) : Prop :=
wp_X12_countYears_42 D post S (0 : Int32)
def wp_X12_countYears_23 (D : wD) (post : Int32 → wS → Prop)  (S : wS) (a0 : Nat) (x1 : Int32) (x2 : Int32) (x3 : Int32) (b0 : Nat) (t1 : Int32) : Prop :=
wp_X12_can D (fun r_1 S_2 => 
((r_1 = 0 → wp_X12_countYears_41 D post S_2) ∧
 (¬ r_1 = 0 → wp_X12_gamesHere D (fun r_4 S_5 => 
wp_X12_countYears_42 D post S_5 r_4) S_2 a0 x1 (-1 : Int32) x2 x3))) S b0 t1 (2 : Int32)
def wp_X12_countYears_0 (D : wD) (post : Int32 → wS → Prop)  (S : wS) (a0 : Nat) (x1 : Int32) (x2 : Int32) (x3 : Int32) : Prop :=
wp_X12_isShelf D (fun r_1 S_2 => 
wp_X12_can D (fun r_3 S_4 => 
((r_3 = 0 → wp_X12_countYears_41 D post S_4) ∧
 (¬ r_3 = 0 → ((x3 < x2 → wp_X12_countYears_23 D post S_4 a0 x1 x2 x3 a0 (0 : Int32)) ∧
 (¬ x3 < x2 → wp_X12_countYears_23 D post S_4 a0 x1 x2 x3 a0 (1 : Int32)))))) S_2 a0 r_1 (1 : Int32)) S x1
abbrev r_X12_countYears : Room := { frames := 4, cells := 0, slots := 0, locals := 98 }
def wp_X12_countYears (D : wD) (post : Int32 → wS → Prop) (S : wS) (a0 : Nat) (x1 : Int32) (x2 : Int32) (x3 : Int32) : Prop := wp_X12_countYears_0 D post S a0 x1 x2 x3
set_option maxHeartbeats 4000000 in
set_option maxRecDepth 100000 in
theorem t_X12_countYears_42 {p : Program} {l : Launch} {e : Env} {s : State} {m : MethodId} {args : Array Value} {below : List Frame} {meth : Method} {c : Code} {D : wD} {cy : Nat → ClassId} {X : va_W} {A : Nat → Prop} {S0 : wS} {post : Int32 → wS → Prop} (F : CallFix p m c cX12_countYears 4 s args wz_X12_countYears RX12) (hr : meth.sig.returnType = (some .int)) (hlocks : meth.locks = false) (hK : wK D cy A s) : ∀ {S : wS} {H : Heap} {locs : List Loc} {ls : Array Slot} {t0 : Int32}, wp_X12_countYears_42 D post S t0 → wO D cy X A s.heap S H locs → wX D S0 S → lv_has ls 4 [] → W p l e r_X12_countYears s m args below meth c H locs 0 0 (MQ below (va_Qi (fun r S9 => wX D S0 S9 ∧ post r S9) (wB D cy X A) A) args s 0 0 A) (F0 m 42 ls [.int t0]) := by
  obtain ⟨hx, hb, hml, hown, hts⟩ := id F
  have hwg : ∀ w ∈ WG, w.before args s = true := fun w h => hts w (List.mem_cons_of_mem _ h)
  intro S H locs ls t0 hp hW hE hl
  unfold wp_X12_countYears_42 at hp
  exact w_iret hx hb hr hlocks hW ⟨hE, hp⟩ dX12_countYears_42
set_option maxHeartbeats 4000000 in
set_option maxRecDepth 100000 in
theorem t_X12_countYears_41 {p : Program} {l : Launch} {e : Env} {s : State} {m : MethodId} {args : Array Value} {below : List Frame} {meth : Method} {c : Code} {D : wD} {cy : Nat → ClassId} {X : va_W} {A : Nat → Prop} {S0 : wS} {post : Int32 → wS → Prop} (F : CallFix p m c cX12_countYears 4 s args wz_X12_countYears RX12) (hr : meth.sig.returnType = (some .int)) (hlocks : meth.locks = false) (hK : wK D cy A s) : ∀ {S : wS} {H : Heap} {locs : List Loc} {ls : Array Slot}, wp_X12_countYears_41 D post S → wO D cy X A s.heap S H locs → wX D S0 S → lv_has ls 4 [] → W p l e r_X12_countYears s m args below meth c H locs 0 0 (MQ below (va_Qi (fun r S9 => wX D S0 S9 ∧ post r S9) (wB D cy X A) A) args s 0 0 A) (F0 m 41 ls []) := by
  obtain ⟨hx, hb, hml, hown, hts⟩ := id F
  have hwg : ∀ w ∈ WG, w.before args s = true := fun w h => hts w (List.mem_cons_of_mem _ h)
  intro S H locs ls hp hW hE hl
  unfold wp_X12_countYears_41 at hp
  refine lv_iconst (v := 0) hx hb dX12_countYears_41 (by decide) ?_
  exact t_X12_countYears_42 F hr hlocks hK hp hW hE (lv_sub hl [] rfl)
set_option maxHeartbeats 4000000 in
set_option maxRecDepth 100000 in
theorem t_X12_countYears_23 {p : Program} {l : Launch} {e : Env} {s : State} {m : MethodId} {args : Array Value} {below : List Frame} {meth : Method} {c : Code} {D : wD} {cy : Nat → ClassId} {X : va_W} {A : Nat → Prop} {S0 : wS} {post : Int32 → wS → Prop} (F : CallFix p m c cX12_countYears 4 s args wz_X12_countYears RX12) (hr : meth.sig.returnType = (some .int)) (hlocks : meth.locks = false) (hK : wK D cy A s) : ∀ {S : wS} {H : Heap} {locs : List Loc} {ls : Array Slot} {a0 : Nat} {x1 : Int32} {x2 : Int32} {x3 : Int32} {b0 : Nat} {t1 : Int32}, wp_X12_countYears_23 D post S a0 x1 x2 x3 b0 t1 → wO D cy X A s.heap S H locs → wX D S0 S → lv_has ls 4 [(0, .ref a0), (1, .int x1), (2, .int x2), (3, .int x3)] → wM D S a0 → sK S a0 = 17 → wM D S b0 → sK S b0 = 17 → W p l e r_X12_countYears s m args below meth c H locs 0 0 (MQ below (va_Qi (fun r S9 => wX D S0 S9 ∧ post r S9) (wB D cy X A) A) args s 0 0 A) (F0 m 23 ls [.int t1, .ref b0]) := by
  obtain ⟨hx, hb, hml, hown, hts⟩ := id F
  have hwg : ∀ w ∈ WG, w.before args s = true := fun w h => hts w (List.mem_cons_of_mem _ h)
  intro S H locs ls a0 x1 x2 x3 b0 t1 hp hW hE hl hL_a0 hK_a0 hL_b0 hK_b0
  unfold wp_X12_countYears_23 at hp
  refine lv_iconst (v := 2) hx hb dX12_countYears_23 (by decide) ?_
  refine w_callI (va_runV (As := [.int t1, .int (2 : Int32)]) (rest := []) F (c_X12_can l hL_b0 hK_b0 hp H.size) (cwV (C := RX12) 2 hts (wg_V wm_RX12_237 wy_X12_can) rfl rfl rfl (by decide +kernel) ⟨Nat.le_of_ble_eq_true rfl, Nat.le_of_ble_eq_true rfl⟩) (w_preV hK hW hL_b0 hK_b0 (by decide) rfl) rfl rfl hl.1 rfl (lv_room (Nat.le_of_ble_eq_true rfl)) dX12_countYears_24 ⟨Nat.le_of_ble_eq_true rfl, Nat.le_of_ble_eq_true rfl⟩) hW (fun r_1 S_2 H locs hp hW => ?_)
  obtain ⟨hX_S_2, hp⟩ := hp
  refine W.widen (k := 0) (n := 0) (by decide) (by decide) ?_
  have hE := hE.trans hX_S_2
  have hK_a0 : sK S_2 a0 = 17 := (hX_S_2.2 a0 hL_a0).1.trans hK_a0
  have hL_a0 : wM D S_2 a0 := hX_S_2.M hL_a0
  refine lv_if_eq (tgt := 41) hx hb dX12_countYears_27 (by decide) (fun c_3 => ?_) (fun c_3 => ?_)
  · replace hp := hp.1 c_3
    exact t_X12_countYears_41 F hr hlocks hK hp hW hE (lv_sub hl [] rfl)
  · replace hp := hp.2 c_3
    refine lv_aload_n hx hb dX12_countYears_30 rfl (lv_at hl 0 rfl) ?_
    refine lv_iload_n hx hb dX12_countYears_31 rfl (lv_at hl 1 rfl) ?_
    refine lv_iconst (v := (-1)) hx hb dX12_countYears_32 (by decide) ?_
    refine lv_iload_n hx hb dX12_countYears_33 rfl (lv_at hl 2 rfl) ?_
    refine lv_iload_n hx hb dX12_countYears_34 rfl (lv_at hl 3 rfl) ?_
    refine w_callI (va_runV (As := [.int x1, .int (-1 : Int32), .int x2, .int x3]) (rest := []) F (c_X12_gamesHere l hL_a0 hK_a0 hp H.size) (cwV (C := RX12) 4 hts (wg_V wm_RX12_427 wy_X12_gamesHere) rfl rfl rfl (by decide +kernel) ⟨Nat.le_of_ble_eq_true rfl, Nat.le_of_ble_eq_true rfl⟩) (w_preV hK hW hL_a0 hK_a0 (by decide) rfl) rfl rfl hl.1 rfl (lv_room (Nat.le_of_ble_eq_true rfl)) dX12_countYears_35 ⟨Nat.le_of_ble_eq_true rfl, Nat.le_of_ble_eq_true rfl⟩) hW (fun r_4 S_5 H locs hp hW => ?_)
    obtain ⟨hX_S_5, hp⟩ := hp
    refine W.widen (k := 0) (n := 0) (by decide) (by decide) ?_
    have hE := hE.trans hX_S_5
    have hK_a0 : sK S_5 a0 = 17 := (hX_S_5.2 a0 hL_a0).1.trans hK_a0
    have hL_a0 : wM D S_5 a0 := hX_S_5.M hL_a0
    refine lv_goto (tgt := 42) hx hb dX12_countYears_38 (by decide) ?_
    exact t_X12_countYears_42 F hr hlocks hK hp hW hE (lv_sub hl [] rfl)
set_option maxHeartbeats 4000000 in
set_option maxRecDepth 100000 in
theorem t_X12_countYears_0 {p : Program} {l : Launch} {e : Env} {s : State} {m : MethodId} {args : Array Value} {below : List Frame} {meth : Method} {c : Code} {D : wD} {cy : Nat → ClassId} {X : va_W} {A : Nat → Prop} {S0 : wS} {post : Int32 → wS → Prop} (F : CallFix p m c cX12_countYears 4 s args wz_X12_countYears RX12) (hr : meth.sig.returnType = (some .int)) (hlocks : meth.locks = false) (hK : wK D cy A s) : ∀ {S : wS} {H : Heap} {locs : List Loc} {ls : Array Slot} {a0 : Nat} {x1 : Int32} {x2 : Int32} {x3 : Int32}, wp_X12_countYears_0 D post S a0 x1 x2 x3 → wO D cy X A s.heap S H locs → wX D S0 S → lv_has ls 4 [(0, .ref a0), (1, .int x1), (2, .int x2), (3, .int x3)] → wM D S a0 → sK S a0 = 17 → W p l e r_X12_countYears s m args below meth c H locs 0 0 (MQ below (va_Qi (fun r S9 => wX D S0 S9 ∧ post r S9) (wB D cy X A) A) args s 0 0 A) (F0 m 0 ls []) := by
  obtain ⟨hx, hb, hml, hown, hts⟩ := id F
  have hwg : ∀ w ∈ WG, w.before args s = true := fun w h => hts w (List.mem_cons_of_mem _ h)
  intro S H locs ls a0 x1 x2 x3 hp hW hE hl hL_a0 hK_a0
  unfold wp_X12_countYears_0 at hp
  refine lv_aload_n hx hb dX12_countYears_0 rfl (lv_at hl 0 rfl) ?_
  refine lv_iload_n hx hb dX12_countYears_1 rfl (lv_at hl 1 rfl) ?_
  refine w_callI (va_runS (As := [.int x1]) (rest := [.ref a0]) F (c_X12_isShelf l hp H.size) (va_cwS 1 hts (wg_S wm_RX12_397 wy_X12_isShelf) rfl rfl rfl (by decide +kernel) ⟨Nat.le_of_ble_eq_true rfl, Nat.le_of_ble_eq_true rfl⟩) (w_preS hK hW) rfl rfl hl.1 rfl (lv_room (Nat.le_of_ble_eq_true rfl)) dX12_countYears_2 ⟨Nat.le_of_ble_eq_true rfl, Nat.le_of_ble_eq_true rfl⟩) hW (fun r_1 S_2 H locs hp hW => ?_)
  obtain ⟨hX_S_2, hp⟩ := hp
  refine W.widen (k := 0) (n := 0) (by decide) (by decide) ?_
  have hE := hE.trans hX_S_2
  have hK_a0 : sK S_2 a0 = 17 := (hX_S_2.2 a0 hL_a0).1.trans hK_a0
  have hL_a0 : wM D S_2 a0 := hX_S_2.M hL_a0
  refine lv_iconst (v := 1) hx hb dX12_countYears_5 (by decide) ?_
  refine w_callI (va_runV (As := [.int r_1, .int (1 : Int32)]) (rest := []) F (c_X12_can l hL_a0 hK_a0 hp H.size) (cwV (C := RX12) 2 hts (wg_V wm_RX12_237 wy_X12_can) rfl rfl rfl (by decide +kernel) ⟨Nat.le_of_ble_eq_true rfl, Nat.le_of_ble_eq_true rfl⟩) (w_preV hK hW hL_a0 hK_a0 (by decide) rfl) rfl rfl hl.1 rfl (lv_room (Nat.le_of_ble_eq_true rfl)) dX12_countYears_6 ⟨Nat.le_of_ble_eq_true rfl, Nat.le_of_ble_eq_true rfl⟩) hW (fun r_3 S_4 H locs hp hW => ?_)
  obtain ⟨hX_S_4, hp⟩ := hp
  refine W.widen (k := 0) (n := 0) (by decide) (by decide) ?_
  have hE := hE.trans hX_S_4
  have hK_a0 : sK S_4 a0 = 17 := (hX_S_4.2 a0 hL_a0).1.trans hK_a0
  have hL_a0 : wM D S_4 a0 := hX_S_4.M hL_a0
  refine lv_if_eq (tgt := 41) hx hb dX12_countYears_9 (by decide) (fun c_5 => ?_) (fun c_5 => ?_)
  · replace hp := hp.1 c_5
    exact t_X12_countYears_41 F hr hlocks hK hp hW hE (lv_sub hl [] rfl)
  · replace hp := hp.2 c_5
    refine lv_aload_n hx hb dX12_countYears_12 rfl (lv_at hl 0 rfl) ?_
    refine lv_iload_n hx hb dX12_countYears_13 rfl (lv_at hl 2 rfl) ?_
    refine lv_iload_n hx hb dX12_countYears_14 rfl (lv_at hl 3 rfl) ?_
    refine lv_icmp_gt (tgt := 22) hx hb dX12_countYears_15 (by decide) (fun c_6 => ?_) (fun c_6 => ?_)
    · replace hp := hp.1 c_6
      refine lv_iconst (v := 0) hx hb dX12_countYears_22 (by decide) ?_
      exact t_X12_countYears_23 F hr hlocks hK hp hW hE (lv_sub hl [0, 1, 2, 3] rfl) hL_a0 hK_a0 hL_a0 hK_a0
    · replace hp := hp.2 c_6
      refine lv_iconst (v := 1) hx hb dX12_countYears_18 (by decide) ?_
      refine lv_goto (tgt := 23) hx hb dX12_countYears_19 (by decide) ?_
      exact t_X12_countYears_23 F hr hlocks hK hp hW hE (lv_sub hl [0, 1, 2, 3] rfl) hL_a0 hK_a0 hL_a0 hK_a0
set_option maxHeartbeats 4000000 in
set_option maxRecDepth 100000 in
theorem c_X12_countYears (l : Launch) {D : wD} {cy : Nat → ClassId} {X : va_W} {S0 : wS} {post : Int32 → wS → Prop} {a0 : Nat} {x1 : Int32} {x2 : Int32} {x3 : Int32} (hL_a0 : wM D S0 a0) (hK_a0 : sK S0 a0 = 17) (hp : wp_X12_countYears D post S0 a0 x1 x2 x3) : mI D cy X l yX12_countYears wz_X12_countYears r_X12_countYears [.ref a0, .int x1, .int x2, .int x3] S0 (fun r S9 => wX D S0 S9 ∧ post r S9) := by
  intro sz
  refine Met.ofW (cc := cX12_countYears) (maxL := 4) (ret := (some .int)) (by decide) rfl ?_
  intro p e s m args below meth c s₁ B hml hv
  obtain ⟨rfl, hsz, hP, hK, hD0, hRO⟩ := hv
  have hts := atoms_spec (ws := wz_X12_countYears) B.pre
  have hown : s.vm.findClass RX12 = some m.cls := findClass_of_methodNamed B.named
  subst hsz
  have hD := hD0.self (sz := s.heap.size)
  have F : CallFix p m c cX12_countYears 4 s _ wz_X12_countYears RX12 := ⟨B.exec, B.bytes, hml, hown, hts⟩
  have hr := B.returns
  have hlocks := B.notSynchronized
  generalize hAe : va_A (wL cy X S0) s.heap.size = A at hD hK ⊢
  have hA : ∀ q, s.heap.size ≤ q → A q := fun q h => by rw [← hAe]; exact Or.inr h
  have hW : wO D cy X A s.heap S0 s.heap [] := ⟨hP, hD, va_S.rf, hA, hRO⟩
  have hl := lv_entry ([.ref a0, .int x1, .int x2, .int x3]) (n := 4) (Nat.le_of_ble_eq_true rfl)
  rw [lg_entry_eq]
  generalize (lg_sl ([.ref a0, .int x1, .int x2, .int x3]) ++ List.replicate (4 - (lg_sl ([.ref a0, .int x1, .int x2, .int x3])).length) Slot.unset).toArray = ls at hl ⊢
  have hl : lv_has ls 4 [(0, .ref a0), (1, .int x1), (2, .int x2), (3, .int x3)] := hl
  unfold wp_X12_countYears at hp
  exact t_X12_countYears_0 F hr hlocks hK hp hW wX.rf (lv_sub hl [0, 1, 2, 3] rfl) hL_a0 hK_a0
def wp_X12_isEndingKind_0 (D : wD) (post : Int32 → wS → Prop)  (S : wS) (x0 : Int32) : Prop :=
wp_X12_in D (fun r_1 S_2 => 
narrow .boolean (.int r_1) = .int r_1 ∧ post r_1 S_2) S x0 (2 : Int32) (5 : Int32)
abbrev r_X12_isEndingKind : Room := { frames := 1, cells := 0, slots := 0, locals := 22 }
def wp_X12_isEndingKind (D : wD) (post : Int32 → wS → Prop) (S : wS) (x0 : Int32) : Prop := wp_X12_isEndingKind_0 D post S x0
set_option maxHeartbeats 4000000 in
set_option maxRecDepth 100000 in
theorem t_X12_isEndingKind_0 {p : Program} {l : Launch} {e : Env} {s : State} {m : MethodId} {args : Array Value} {below : List Frame} {meth : Method} {c : Code} {D : wD} {cy : Nat → ClassId} {X : va_W} {A : Nat → Prop} {S0 : wS} {post : Int32 → wS → Prop} (F : CallFix p m c cX12_isEndingKind 1 s args wz_X12_isEndingKind RX12) (hr : meth.sig.returnType = (some .boolean)) (hlocks : meth.locks = false) (hK : wK D cy A s) : ∀ {S : wS} {H : Heap} {locs : List Loc} {ls : Array Slot} {x0 : Int32}, wp_X12_isEndingKind_0 D post S x0 → wO D cy X A s.heap S H locs → wX D S0 S → lv_has ls 1 [(0, .int x0)] → W p l e r_X12_isEndingKind s m args below meth c H locs 0 0 (MQ below (va_Qi (fun r S9 => wX D S0 S9 ∧ post r S9) (wB D cy X A) A) args s 0 0 A) (F0 m 0 ls []) := by
  obtain ⟨hx, hb, hml, hown, hts⟩ := id F
  have hwg : ∀ w ∈ WG, w.before args s = true := fun w h => hts w (List.mem_cons_of_mem _ h)
  intro S H locs ls x0 hp hW hE hl
  unfold wp_X12_isEndingKind_0 at hp
  refine lv_iload_n hx hb dX12_isEndingKind_0 rfl (lv_at hl 0 rfl) ?_
  refine lv_iconst (v := 2) hx hb dX12_isEndingKind_1 (by decide) ?_
  refine lv_iconst (v := 5) hx hb dX12_isEndingKind_2 (by decide) ?_
  refine w_callI (va_runS (As := [.int x0, .int (2 : Int32), .int (5 : Int32)]) (rest := []) F (c_X12_in l hp H.size) (va_cwS 3 hts (wg_S wm_RX12_117 wy_X12_in) rfl rfl rfl (by decide +kernel) ⟨Nat.le_of_ble_eq_true rfl, Nat.le_of_ble_eq_true rfl⟩) (w_preS hK hW) rfl rfl hl.1 rfl (lv_room (Nat.le_of_ble_eq_true rfl)) dX12_isEndingKind_3 ⟨Nat.le_of_ble_eq_true rfl, Nat.le_of_ble_eq_true rfl⟩) hW (fun r_1 S_2 H locs hp hW => ?_)
  obtain ⟨hX_S_2, hp⟩ := hp
  refine W.widen (k := 0) (n := 0) (by decide) (by decide) ?_
  have hE := hE.trans hX_S_2
  exact w_zret hx hb hr hlocks hW hp.1 ⟨hE, hp.2⟩ dX12_isEndingKind_6
set_option maxHeartbeats 4000000 in
set_option maxRecDepth 100000 in
theorem c_X12_isEndingKind (l : Launch) {D : wD} {cy : Nat → ClassId} {X : va_W} {S0 : wS} {post : Int32 → wS → Prop} {x0 : Int32} (hp : wp_X12_isEndingKind D post S0 x0) : mI D cy X l yX12_isEndingKind wz_X12_isEndingKind r_X12_isEndingKind [.int x0] S0 (fun r S9 => wX D S0 S9 ∧ post r S9) := by
  intro sz
  refine Met.ofW (cc := cX12_isEndingKind) (maxL := 1) (ret := (some .boolean)) (by decide) rfl ?_
  intro p e s m args below meth c s₁ B hml hv
  obtain ⟨rfl, hsz, hP, hK, hD0, hRO⟩ := hv
  have hts := atoms_spec (ws := wz_X12_isEndingKind) B.pre
  have hown : s.vm.findClass RX12 = some m.cls := findClass_of_methodNamed B.named
  subst hsz
  have hD := hD0.self (sz := s.heap.size)
  have F : CallFix p m c cX12_isEndingKind 1 s _ wz_X12_isEndingKind RX12 := ⟨B.exec, B.bytes, hml, hown, hts⟩
  have hr := B.returns
  have hlocks := B.notSynchronized
  generalize hAe : va_A (wL cy X S0) s.heap.size = A at hD hK ⊢
  have hA : ∀ q, s.heap.size ≤ q → A q := fun q h => by rw [← hAe]; exact Or.inr h
  have hW : wO D cy X A s.heap S0 s.heap [] := ⟨hP, hD, va_S.rf, hA, hRO⟩
  have hl := lv_entry ([.int x0]) (n := 1) (Nat.le_of_ble_eq_true rfl)
  rw [lg_entry_eq]
  generalize (lg_sl ([.int x0]) ++ List.replicate (1 - (lg_sl ([.int x0])).length) Slot.unset).toArray = ls at hl ⊢
  have hl : lv_has ls 1 [(0, .int x0)] := hl
  unfold wp_X12_isEndingKind at hp
  exact t_X12_isEndingKind_0 F hr hlocks hK hp hW wX.rf (lv_sub hl [0] rfl)
def wp_X12_endingHere_114 (D : wD) (post : Int32 → wS → Prop)  (S : wS) (t0 : Int32) : Prop :=
post t0 S
def wp_X12_endingHere_113 (D : wD) (post : Int32 → wS → Prop)  (S : wS) : Prop :=
wp_X12_endingHere_114 D post S (0 : Int32)
def wp_X12_endingHere_57 (D : wD) (post : Int32 → wS → Prop) (k_10 : wS → Nat → Int32 → Int32 → Int32 → Prop) (S : wS) (a0 : Nat) (x2 : Int32) (x3 : Int32) (t0 : Int32) : Prop :=
∀ x_1 : Int32, x_1 = x3 + 1 →
k_10 S a0 t0 x2 x_1
def wp_X12_endingHere_33 (D : wD) (post : Int32 → wS → Prop) (k_10 : wS → Nat → Int32 → Int32 → Int32 → Prop) (S : wS) (a0 : Nat) (x1 : Int32) (x3 : Int32) (t0 : Int32) (t1 : Int32) : Prop :=
∀ x_1 : Int32, x_1 = (t0 + t1) →
wp_X12_on D (fun r_2 S_3 => 
wp_X12_isEndingKind D (fun r_4 S_5 => 
((r_4 = 0 → wp_X12_endingHere_57 D post k_10 S_5 a0 x_1 x3 x1) ∧
 (¬ r_4 = 0 → wp_X12_on D (fun r_7 S_8 => 
wp_X12_endingHere_57 D post k_10 S_8 a0 x_1 x3 r_7) S_5 a0 (0 : Int32) x3))) S_3 r_2) S a0 (0 : Int32) x3
def wp_X12_endingHere_10 (D : wD) (post : Int32 → wS → Prop)  : Nat → wS → Nat → Int32 → Int32 → Int32 → Prop
  | 0, _, _, _, _, _ => False
  | n + 1, S, a0, x1, x2, x3 =>
    wp_X12_squares D (fun r_1 S_2 => 
    ((r_1 ≤ x3 → ((x1 = 0 → wp_X12_endingHere_113 D post S_2) ∧
     (¬ x1 = 0 → ((¬ x2 = (3 : Int32) → wp_X12_endingHere_113 D post S_2) ∧
     (x2 = (3 : Int32) → ∃ y_6 : Nat, sR S_2 a0 42 = some y_6 ∧ wM D S_2 y_6 ∧ sK S_2 y_6 = 23 ∧
    vp_in x1 (sN S_2 y_6) ∧
    (((sI S_2 y_6 (x1).toNatClampNeg) = 0 → wp_X12_endingHere_113 D post S_2) ∧
     (¬ (sI S_2 y_6 (x1).toNatClampNeg) = 0 → ∃ y_9 : Nat, sR S_2 a0 3 = some y_9 ∧ wM D S_2 y_9 ∧ sK S_2 y_9 = 21 ∧
    vp_in (65 : Int32) (sN S_2 y_9) ∧
    ((¬ (sI S_2 y_9 ((65 : Int32)).toNatClampNeg) = 0 → wp_X12_endingHere_113 D post S_2) ∧
     ((sI S_2 y_9 ((65 : Int32)).toNatClampNeg) = 0 → wp_X12_passing D (fun r_12 S_13 => 
    ((¬ r_12 = (-1 : Int32) → wp_X12_endingHere_113 D post S_13) ∧
     (r_12 = (-1 : Int32) → wp_X12_isProperAt D (fun r_15 S_16 => 
    ((r_15 = 0 → wp_X12_endingHere_113 D post S_16) ∧
     (¬ r_15 = 0 → wp_X12_endingHere_114 D post S_16 x1))) S_13 a0 (0 : Int32)))) S_2 a0 (0 : Int32)))))))))) ∧
     (¬ r_1 ≤ x3 → wp_X12_on D (fun r_18 S_19 => 
    ((¬ r_18 = 0 → wp_X12_endingHere_33 D post (wp_X12_endingHere_10 D post n) S_19 a0 x1 x3 x2 (1 : Int32)) ∧
     (r_18 = 0 → wp_X12_endingHere_33 D post (wp_X12_endingHere_10 D post n) S_19 a0 x1 x3 x2 (0 : Int32)))) S_2 a0 (0 : Int32) x3))) S a0
def wp_X12_endingHere_0 (D : wD) (post : Int32 → wS → Prop)  (S : wS) (a0 : Nat) : Prop :=
wp_X12_loads D (fun S_2 => 
∃ n_3 : Nat, wp_X12_endingHere_10 D post n_3 S_2 a0 (0 : Int32) (0 : Int32) (0 : Int32)) S a0
abbrev r_X12_endingHere : Room := { frames := 6, cells := 0, slots := 0, locals := 143 }
def wp_X12_endingHere (D : wD) (post : Int32 → wS → Prop) (S : wS) (a0 : Nat) : Prop := wp_X12_endingHere_0 D post S a0
set_option maxHeartbeats 4000000 in
set_option maxRecDepth 100000 in
theorem t_X12_endingHere_114 {p : Program} {l : Launch} {e : Env} {s : State} {m : MethodId} {args : Array Value} {below : List Frame} {meth : Method} {c : Code} {D : wD} {cy : Nat → ClassId} {X : va_W} {A : Nat → Prop} {S0 : wS} {post : Int32 → wS → Prop} (F : CallFix p m c cX12_endingHere 4 s args wz_X12_endingHere RX12) (hr : meth.sig.returnType = (some .int)) (hlocks : meth.locks = false) (hK : wK D cy A s) : ∀ {S : wS} {H : Heap} {locs : List Loc} {ls : Array Slot} {t0 : Int32}, wp_X12_endingHere_114 D post S t0 → wO D cy X A s.heap S H locs → wX D S0 S → lv_has ls 4 [] → W p l e r_X12_endingHere s m args below meth c H locs 0 0 (MQ below (va_Qi (fun r S9 => wX D S0 S9 ∧ post r S9) (wB D cy X A) A) args s 0 0 A) (F0 m 114 ls [.int t0]) := by
  obtain ⟨hx, hb, hml, hown, hts⟩ := id F
  have hwg : ∀ w ∈ WG, w.before args s = true := fun w h => hts w (List.mem_cons_of_mem _ h)
  intro S H locs ls t0 hp hW hE hl
  unfold wp_X12_endingHere_114 at hp
  exact w_iret hx hb hr hlocks hW ⟨hE, hp⟩ dX12_endingHere_114
set_option maxHeartbeats 4000000 in
set_option maxRecDepth 100000 in
theorem t_X12_endingHere_113 {p : Program} {l : Launch} {e : Env} {s : State} {m : MethodId} {args : Array Value} {below : List Frame} {meth : Method} {c : Code} {D : wD} {cy : Nat → ClassId} {X : va_W} {A : Nat → Prop} {S0 : wS} {post : Int32 → wS → Prop} (F : CallFix p m c cX12_endingHere 4 s args wz_X12_endingHere RX12) (hr : meth.sig.returnType = (some .int)) (hlocks : meth.locks = false) (hK : wK D cy A s) : ∀ {S : wS} {H : Heap} {locs : List Loc} {ls : Array Slot}, wp_X12_endingHere_113 D post S → wO D cy X A s.heap S H locs → wX D S0 S → lv_has ls 4 [] → W p l e r_X12_endingHere s m args below meth c H locs 0 0 (MQ below (va_Qi (fun r S9 => wX D S0 S9 ∧ post r S9) (wB D cy X A) A) args s 0 0 A) (F0 m 113 ls []) := by
  obtain ⟨hx, hb, hml, hown, hts⟩ := id F
  have hwg : ∀ w ∈ WG, w.before args s = true := fun w h => hts w (List.mem_cons_of_mem _ h)
  intro S H locs ls hp hW hE hl
  unfold wp_X12_endingHere_113 at hp
  refine lv_iconst (v := 0) hx hb dX12_endingHere_113 (by decide) ?_
  exact t_X12_endingHere_114 F hr hlocks hK hp hW hE (lv_sub hl [] rfl)
set_option maxHeartbeats 4000000 in
set_option maxRecDepth 100000 in
theorem t_X12_endingHere_57 {p : Program} {l : Launch} {e : Env} {s : State} {m : MethodId} {args : Array Value} {below : List Frame} {meth : Method} {c : Code} {D : wD} {cy : Nat → ClassId} {X : va_W} {A : Nat → Prop} {S0 : wS} {post : Int32 → wS → Prop} (F : CallFix p m c cX12_endingHere 4 s args wz_X12_endingHere RX12) (hr : meth.sig.returnType = (some .int)) (hlocks : meth.locks = false) (hK : wK D cy A s) {k_10 : wS → Nat → Int32 → Int32 → Int32 → Prop} (q_10 : ∀ {S : wS} {H : Heap} {locs : List Loc} {ls : Array Slot} {a0 : Nat} {x1 : Int32} {x2 : Int32} {x3 : Int32}, k_10 S a0 x1 x2 x3 → wO D cy X A s.heap S H locs → wX D S0 S → lv_has ls 4 [(0, .ref a0), (1, .int x1), (2, .int x2), (3, .int x3)] → wM D S a0 → sK S a0 = 17 → W p l e r_X12_endingHere s m args below meth c H locs 0 0 (MQ below (va_Qi (fun r S9 => wX D S0 S9 ∧ post r S9) (wB D cy X A) A) args s 0 0 A) (F0 m 10 ls [])) : ∀ {S : wS} {H : Heap} {locs : List Loc} {ls : Array Slot} {a0 : Nat} {x2 : Int32} {x3 : Int32} {t0 : Int32}, wp_X12_endingHere_57 D post k_10 S a0 x2 x3 t0 → wO D cy X A s.heap S H locs → wX D S0 S → lv_has ls 4 [(0, .ref a0), (2, .int x2), (3, .int x3)] → wM D S a0 → sK S a0 = 17 → W p l e r_X12_endingHere s m args below meth c H locs 0 0 (MQ below (va_Qi (fun r S9 => wX D S0 S9 ∧ post r S9) (wB D cy X A) A) args s 0 0 A) (F0 m 57 ls [.int t0]) := by
  obtain ⟨hx, hb, hml, hown, hts⟩ := id F
  have hwg : ∀ w ∈ WG, w.before args s = true := fun w h => hts w (List.mem_cons_of_mem _ h)
  intro S H locs ls a0 x2 x3 t0 hp hW hE hl hL_a0 hK_a0
  unfold wp_X12_endingHere_57 at hp
  refine lv_istore_n (lv' := [(1, .int t0), (0, .ref a0), (2, .int x2), (3, .int x3)]) hx hb dX12_endingHere_57 rfl hl (by decide) rfl (fun ls hl => ?_)
  obtain ⟨x_1, ex_1⟩ : ∃ z : Int32, z = x3 + 1 := ⟨_, rfl⟩
  replace hp := hp x_1 ex_1
  refine lv_iinc (v := x_1) (lv' := [(3, .int x_1), (1, .int t0), (0, .ref a0), (2, .int x2)]) hx hb dX12_endingHere_58 hl (k := 3) rfl (by rw [ex_1]; rfl) (by decide) rfl (fun ls hl => ?_)
  refine lv_goto (tgt := 10) hx hb dX12_endingHere_61 (by decide) ?_
  exact q_10 hp hW hE (lv_sub hl [2, 1, 3, 0] rfl) hL_a0 hK_a0
set_option maxHeartbeats 4000000 in
set_option maxRecDepth 100000 in
theorem t_X12_endingHere_33 {p : Program} {l : Launch} {e : Env} {s : State} {m : MethodId} {args : Array Value} {below : List Frame} {meth : Method} {c : Code} {D : wD} {cy : Nat → ClassId} {X : va_W} {A : Nat → Prop} {S0 : wS} {post : Int32 → wS → Prop} (F : CallFix p m c cX12_endingHere 4 s args wz_X12_endingHere RX12) (hr : meth.sig.returnType = (some .int)) (hlocks : meth.locks = false) (hK : wK D cy A s) {k_10 : wS → Nat → Int32 → Int32 → Int32 → Prop} (q_10 : ∀ {S : wS} {H : Heap} {locs : List Loc} {ls : Array Slot} {a0 : Nat} {x1 : Int32} {x2 : Int32} {x3 : Int32}, k_10 S a0 x1 x2 x3 → wO D cy X A s.heap S H locs → wX D S0 S → lv_has ls 4 [(0, .ref a0), (1, .int x1), (2, .int x2), (3, .int x3)] → wM D S a0 → sK S a0 = 17 → W p l e r_X12_endingHere s m args below meth c H locs 0 0 (MQ below (va_Qi (fun r S9 => wX D S0 S9 ∧ post r S9) (wB D cy X A) A) args s 0 0 A) (F0 m 10 ls [])) : ∀ {S : wS} {H : Heap} {locs : List Loc} {ls : Array Slot} {a0 : Nat} {x1 : Int32} {x3 : Int32} {t0 : Int32} {t1 : Int32}, wp_X12_endingHere_33 D post k_10 S a0 x1 x3 t0 t1 → wO D cy X A s.heap S H locs → wX D S0 S → lv_has ls 4 [(0, .ref a0), (1, .int x1), (3, .int x3)] → wM D S a0 → sK S a0 = 17 → W p l e r_X12_endingHere s m args below meth c H locs 0 0 (MQ below (va_Qi (fun r S9 => wX D S0 S9 ∧ post r S9) (wB D cy X A) A) args s 0 0 A) (F0 m 33 ls [.int t1, .int t0]) := by
  obtain ⟨hx, hb, hml, hown, hts⟩ := id F
  have hwg : ∀ w ∈ WG, w.before args s = true := fun w h => hts w (List.mem_cons_of_mem _ h)
  intro S H locs ls a0 x1 x3 t0 t1 hp hW hE hl hL_a0 hK_a0
  unfold wp_X12_endingHere_33 at hp
  refine lv_iadd hx hb dX12_endingHere_33 ?_
  refine lv_topi (fun x_1 ex_1 => ?_)
  replace hp := hp x_1 ex_1
  refine lv_istore_n (lv' := [(2, .int x_1), (0, .ref a0), (1, .int x1), (3, .int x3)]) hx hb dX12_endingHere_34 rfl hl (by decide) rfl (fun ls hl => ?_)
  refine lv_aload_n hx hb dX12_endingHere_35 rfl (lv_at hl 1 rfl) ?_
  refine lv_iconst (v := 0) hx hb dX12_endingHere_36 (by decide) ?_
  refine lv_iload_n hx hb dX12_endingHere_37 rfl (lv_at hl 3 rfl) ?_
  refine w_callI (va_runV (As := [.int (0 : Int32), .int x3]) (rest := []) F (c_X12_on l hL_a0 hK_a0 hp H.size) (cwV (C := RX12) 2 hts (wg_V wm_RX12_141 wy_X12_on) rfl rfl rfl (by decide +kernel) ⟨Nat.le_of_ble_eq_true rfl, Nat.le_of_ble_eq_true rfl⟩) (w_preV hK hW hL_a0 hK_a0 (by decide) rfl) rfl rfl hl.1 rfl (lv_room (Nat.le_of_ble_eq_true rfl)) dX12_endingHere_38 ⟨Nat.le_of_ble_eq_true rfl, Nat.le_of_ble_eq_true rfl⟩) hW (fun r_2 S_3 H locs hp hW => ?_)
  obtain ⟨hX_S_3, hp⟩ := hp
  refine W.widen (k := 0) (n := 0) (by decide) (by decide) ?_
  have hE := hE.trans hX_S_3
  have hK_a0 : sK S_3 a0 = 17 := (hX_S_3.2 a0 hL_a0).1.trans hK_a0
  have hL_a0 : wM D S_3 a0 := hX_S_3.M hL_a0
  refine w_callI (va_runS (As := [.int r_2]) (rest := []) F (c_X12_isEndingKind l hp H.size) (va_cwS 1 hts (wg_S wm_RX12_500 wy_X12_isEndingKind) rfl rfl rfl (by decide +kernel) ⟨Nat.le_of_ble_eq_true rfl, Nat.le_of_ble_eq_true rfl⟩) (w_preS hK hW) rfl rfl hl.1 rfl (lv_room (Nat.le_of_ble_eq_true rfl)) dX12_endingHere_41 ⟨Nat.le_of_ble_eq_true rfl, Nat.le_of_ble_eq_true rfl⟩) hW (fun r_4 S_5 H locs hp hW => ?_)
  obtain ⟨hX_S_5, hp⟩ := hp
  refine W.widen (k := 0) (n := 0) (by decide) (by decide) ?_
  have hE := hE.trans hX_S_5
  have hK_a0 : sK S_5 a0 = 17 := (hX_S_5.2 a0 hL_a0).1.trans hK_a0
  have hL_a0 : wM D S_5 a0 := hX_S_5.M hL_a0
  refine lv_if_eq (tgt := 56) hx hb dX12_endingHere_44 (by decide) (fun c_6 => ?_) (fun c_6 => ?_)
  · replace hp := hp.1 c_6
    refine lv_iload_n hx hb dX12_endingHere_56 rfl (lv_at hl 2 rfl) ?_
    exact t_X12_endingHere_57 F hr hlocks hK q_10 hp hW hE (lv_sub hl [1, 0, 3] rfl) hL_a0 hK_a0
  · replace hp := hp.2 c_6
    refine lv_aload_n hx hb dX12_endingHere_47 rfl (lv_at hl 1 rfl) ?_
    refine lv_iconst (v := 0) hx hb dX12_endingHere_48 (by decide) ?_
    refine lv_iload_n hx hb dX12_endingHere_49 rfl (lv_at hl 3 rfl) ?_
    refine w_callI (va_runV (As := [.int (0 : Int32), .int x3]) (rest := []) F (c_X12_on l hL_a0 hK_a0 hp H.size) (cwV (C := RX12) 2 hts (wg_V wm_RX12_141 wy_X12_on) rfl rfl rfl (by decide +kernel) ⟨Nat.le_of_ble_eq_true rfl, Nat.le_of_ble_eq_true rfl⟩) (w_preV hK hW hL_a0 hK_a0 (by decide) rfl) rfl rfl hl.1 rfl (lv_room (Nat.le_of_ble_eq_true rfl)) dX12_endingHere_50 ⟨Nat.le_of_ble_eq_true rfl, Nat.le_of_ble_eq_true rfl⟩) hW (fun r_7 S_8 H locs hp hW => ?_)
    obtain ⟨hX_S_8, hp⟩ := hp
    refine W.widen (k := 0) (n := 0) (by decide) (by decide) ?_
    have hE := hE.trans hX_S_8
    have hK_a0 : sK S_8 a0 = 17 := (hX_S_8.2 a0 hL_a0).1.trans hK_a0
    have hL_a0 : wM D S_8 a0 := hX_S_8.M hL_a0
    refine lv_goto (tgt := 57) hx hb dX12_endingHere_53 (by decide) ?_
    exact t_X12_endingHere_57 F hr hlocks hK q_10 hp hW hE (lv_sub hl [1, 0, 3] rfl) hL_a0 hK_a0
set_option maxHeartbeats 4000000 in
set_option maxRecDepth 100000 in
theorem t_X12_endingHere_10 {p : Program} {l : Launch} {e : Env} {s : State} {m : MethodId} {args : Array Value} {below : List Frame} {meth : Method} {c : Code} {D : wD} {cy : Nat → ClassId} {X : va_W} {A : Nat → Prop} {S0 : wS} {post : Int32 → wS → Prop} (F : CallFix p m c cX12_endingHere 4 s args wz_X12_endingHere RX12) (hr : meth.sig.returnType = (some .int)) (hlocks : meth.locks = false) (hK : wK D cy A s) : ∀ (n : Nat) {S : wS} {H : Heap} {locs : List Loc} {ls : Array Slot} {a0 : Nat} {x1 : Int32} {x2 : Int32} {x3 : Int32}, wp_X12_endingHere_10 D post n S a0 x1 x2 x3 → wO D cy X A s.heap S H locs → wX D S0 S → lv_has ls 4 [(0, .ref a0), (1, .int x1), (2, .int x2), (3, .int x3)] → wM D S a0 → sK S a0 = 17 → W p l e r_X12_endingHere s m args below meth c H locs 0 0 (MQ below (va_Qi (fun r S9 => wX D S0 S9 ∧ post r S9) (wB D cy X A) A) args s 0 0 A) (F0 m 10 ls []) := by
  obtain ⟨hx, hb, hml, hown, hts⟩ := id F
  have hwg : ∀ w ∈ WG, w.before args s = true := fun w h => hts w (List.mem_cons_of_mem _ h)
  have i_17 : ∀ w ∈ u_ws RX12 TX12 43, w ∈ wz_X12_endingHere := fun w h => List.mem_cons_of_mem _ (wu_17 w h)
  have k_104 := hwg _ wf_RX12_104
  have k_16 := hwg _ wf_RX12_16
  intro n
  induction n with
  | zero =>
    intro S H locs ls a0 x1 x2 x3 hp
    exact hp.elim
  | succ n ih =>
    intro S H locs ls a0 x1 x2 x3 hp hW hE hl hL_a0 hK_a0
    unfold wp_X12_endingHere_10 at hp
    refine lv_iload_n hx hb dX12_endingHere_10 rfl (lv_at hl 3 rfl) ?_
    refine lv_aload_n hx hb dX12_endingHere_11 rfl (lv_at hl 0 rfl) ?_
    refine w_callI (va_runV (As := []) (rest := [.int x3]) F (c_X12_squares l hL_a0 hK_a0 hp H.size) (cwV (C := RX12) 0 hts (wg_V wm_RX12_113 wy_X12_squares) rfl rfl rfl (by decide +kernel) ⟨Nat.le_of_ble_eq_true rfl, Nat.le_of_ble_eq_true rfl⟩) (w_preV hK hW hL_a0 hK_a0 (by decide) rfl) rfl rfl hl.1 rfl (lv_room (Nat.le_of_ble_eq_true rfl)) dX12_endingHere_12 ⟨Nat.le_of_ble_eq_true rfl, Nat.le_of_ble_eq_true rfl⟩) hW (fun r_1 S_2 H locs hp hW => ?_)
    obtain ⟨hX_S_2, hp⟩ := hp
    refine W.widen (k := 0) (n := 0) (by decide) (by decide) ?_
    have hE := hE.trans hX_S_2
    have hK_a0 : sK S_2 a0 = 17 := (hX_S_2.2 a0 hL_a0).1.trans hK_a0
    have hL_a0 : wM D S_2 a0 := hX_S_2.M hL_a0
    refine lv_icmp_ge (tgt := 64) hx hb dX12_endingHere_15 (by decide) (fun c_3 => ?_) (fun c_3 => ?_)
    · replace hp := hp.1 c_3
      refine lv_iload_n hx hb dX12_endingHere_64 rfl (lv_at hl 1 rfl) ?_
      refine lv_if_eq (tgt := 113) hx hb dX12_endingHere_65 (by decide) (fun c_4 => ?_) (fun c_4 => ?_)
      · replace hp := hp.1 c_4
        exact t_X12_endingHere_113 F hr hlocks hK hp hW hE (lv_sub hl [] rfl)
      · replace hp := hp.2 c_4
        refine lv_iload_n hx hb dX12_endingHere_68 rfl (lv_at hl 2 rfl) ?_
        refine lv_iconst (v := 3) hx hb dX12_endingHere_69 (by decide) ?_
        refine lv_icmp_ne (tgt := 113) hx hb dX12_endingHere_70 (by decide) (fun c_5 => ?_) (fun c_5 => ?_)
        · replace hp := hp.1 c_5
          exact t_X12_endingHere_113 F hr hlocks hK hp hW hE (lv_sub hl [] rfl)
        · replace hp := hp.2 c_5
          refine lv_aload_n hx hb dX12_endingHere_73 rfl (lv_at hl 0 rfl) ?_
          obtain ⟨y_6, ey_6, hL_y_6, hK_y_6, hp⟩ := hp
          refine w_get (k := 17) (f := 42) (T := TX12) (v := .ref y_6) F hK hW hL_a0 hK_a0 (by decide) rfl rfl (by decide) i_17 k_104 (by rw [show wv 17 42 S_2 a0 = va_rf (sR S_2 a0 42) from rfl, ey_6]; rfl) dX12_endingHere_74 ?_
          refine lv_iload_n hx hb dX12_endingHere_77 rfl (lv_at hl 1 rfl) ?_
          obtain ⟨h_7, hp⟩ := hp
          refine w_zld F hK hW hL_y_6 hK_y_6 h_7 dX12_endingHere_78 ?_
          refine lv_if_eq (tgt := 113) hx hb dX12_endingHere_79 (by decide) (fun c_8 => ?_) (fun c_8 => ?_)
          · replace hp := hp.1 c_8
            exact t_X12_endingHere_113 F hr hlocks hK hp hW hE (lv_sub hl [] rfl)
          · replace hp := hp.2 c_8
            refine lv_aload_n hx hb dX12_endingHere_82 rfl (lv_at hl 0 rfl) ?_
            obtain ⟨y_9, ey_9, hL_y_9, hK_y_9, hp⟩ := hp
            refine w_get (k := 17) (f := 3) (T := TX12) (v := .ref y_9) F hK hW hL_a0 hK_a0 (by decide) rfl rfl (by decide) i_17 k_16 (by rw [show wv 17 3 S_2 a0 = va_rf (sR S_2 a0 3) from rfl, ey_9]; rfl) dX12_endingHere_83 ?_
            refine lv_bipush (v := 65) hx hb dX12_endingHere_86 (by decide) ?_
            obtain ⟨h_10, hp⟩ := hp
            refine w_ild F hK hW hL_y_9 hK_y_9 h_10 dX12_endingHere_88 ?_
            refine lv_if_ne (tgt := 113) hx hb dX12_endingHere_89 (by decide) (fun c_11 => ?_) (fun c_11 => ?_)
            · replace hp := hp.1 c_11
              exact t_X12_endingHere_113 F hr hlocks hK hp hW hE (lv_sub hl [] rfl)
            · replace hp := hp.2 c_11
              refine lv_aload_n hx hb dX12_endingHere_92 rfl (lv_at hl 0 rfl) ?_
              refine lv_iconst (v := 0) hx hb dX12_endingHere_93 (by decide) ?_
              refine w_callI (va_runV (As := [.int (0 : Int32)]) (rest := []) F (c_X12_passing l hL_a0 hK_a0 hp H.size) (cwV (C := RX12) 1 hts (wg_V wm_RX12_201 wy_X12_passing) rfl rfl rfl (by decide +kernel) ⟨Nat.le_of_ble_eq_true rfl, Nat.le_of_ble_eq_true rfl⟩) (w_preV hK hW hL_a0 hK_a0 (by decide) rfl) rfl rfl hl.1 rfl (lv_room (Nat.le_of_ble_eq_true rfl)) dX12_endingHere_94 ⟨Nat.le_of_ble_eq_true rfl, Nat.le_of_ble_eq_true rfl⟩) hW (fun r_12 S_13 H locs hp hW => ?_)
              obtain ⟨hX_S_13, hp⟩ := hp
              refine W.widen (k := 0) (n := 0) (by decide) (by decide) ?_
              have hE := hE.trans hX_S_13
              have hK_a0 : sK S_13 a0 = 17 := (hX_S_13.2 a0 hL_a0).1.trans hK_a0
              have hL_a0 : wM D S_13 a0 := hX_S_13.M hL_a0
              refine lv_iconst (v := (-1)) hx hb dX12_endingHere_97 (by decide) ?_
              refine lv_icmp_ne (tgt := 113) hx hb dX12_endingHere_98 (by decide) (fun c_14 => ?_) (fun c_14 => ?_)
              · replace hp := hp.1 c_14
                exact t_X12_endingHere_113 F hr hlocks hK hp hW hE (lv_sub hl [] rfl)
              · replace hp := hp.2 c_14
                refine lv_aload_n hx hb dX12_endingHere_101 rfl (lv_at hl 0 rfl) ?_
                refine lv_iconst (v := 0) hx hb dX12_endingHere_102 (by decide) ?_
                refine w_callI (va_runV (As := [.int (0 : Int32)]) (rest := []) F (c_X12_isProperAt l hL_a0 hK_a0 hp H.size) (cwV (C := RX12) 1 hts (wg_V wm_RX12_189 wy_X12_isProperAt) rfl rfl rfl (by decide +kernel) ⟨Nat.le_of_ble_eq_true rfl, Nat.le_of_ble_eq_true rfl⟩) (w_preV hK hW hL_a0 hK_a0 (by decide) rfl) rfl rfl hl.1 rfl (lv_room (Nat.le_of_ble_eq_true rfl)) dX12_endingHere_103 ⟨Nat.le_of_ble_eq_true rfl, Nat.le_of_ble_eq_true rfl⟩) hW (fun r_15 S_16 H locs hp hW => ?_)
                obtain ⟨hX_S_16, hp⟩ := hp
                refine W.widen (k := 0) (n := 0) (by decide) (by decide) ?_
                have hE := hE.trans hX_S_16
                have hK_a0 : sK S_16 a0 = 17 := (hX_S_16.2 a0 hL_a0).1.trans hK_a0
                have hL_a0 : wM D S_16 a0 := hX_S_16.M hL_a0
                refine lv_if_eq (tgt := 113) hx hb dX12_endingHere_106 (by decide) (fun c_17 => ?_) (fun c_17 => ?_)
                · replace hp := hp.1 c_17
                  exact t_X12_endingHere_113 F hr hlocks hK hp hW hE (lv_sub hl [] rfl)
                · replace hp := hp.2 c_17
                  refine lv_iload_n hx hb dX12_endingHere_109 rfl (lv_at hl 1 rfl) ?_
                  refine lv_goto (tgt := 114) hx hb dX12_endingHere_110 (by decide) ?_
                  exact t_X12_endingHere_114 F hr hlocks hK hp hW hE (lv_sub hl [] rfl)
    · replace hp := hp.2 c_3
      refine lv_iload_n hx hb dX12_endingHere_18 rfl (lv_at hl 2 rfl) ?_
      refine lv_aload_n hx hb dX12_endingHere_19 rfl (lv_at hl 0 rfl) ?_
      refine lv_iconst (v := 0) hx hb dX12_endingHere_20 (by decide) ?_
      refine lv_iload_n hx hb dX12_endingHere_21 rfl (lv_at hl 3 rfl) ?_
      refine w_callI (va_runV (As := [.int (0 : Int32), .int x3]) (rest := [.int x2]) F (c_X12_on l hL_a0 hK_a0 hp H.size) (cwV (C := RX12) 2 hts (wg_V wm_RX12_141 wy_X12_on) rfl rfl rfl (by decide +kernel) ⟨Nat.le_of_ble_eq_true rfl, Nat.le_of_ble_eq_true rfl⟩) (w_preV hK hW hL_a0 hK_a0 (by decide) rfl) rfl rfl hl.1 rfl (lv_room (Nat.le_of_ble_eq_true rfl)) dX12_endingHere_22 ⟨Nat.le_of_ble_eq_true rfl, Nat.le_of_ble_eq_true rfl⟩) hW (fun r_18 S_19 H locs hp hW => ?_)
      obtain ⟨hX_S_19, hp⟩ := hp
      refine W.widen (k := 0) (n := 0) (by decide) (by decide) ?_
      have hE := hE.trans hX_S_19
      have hK_a0 : sK S_19 a0 = 17 := (hX_S_19.2 a0 hL_a0).1.trans hK_a0
      have hL_a0 : wM D S_19 a0 := hX_S_19.M hL_a0
      refine lv_if_ne (tgt := 32) hx hb dX12_endingHere_25 (by decide) (fun c_20 => ?_) (fun c_20 => ?_)
      · replace hp := hp.1 c_20
        refine lv_iconst (v := 1) hx hb dX12_endingHere_32 (by decide) ?_
        exact t_X12_endingHere_33 F hr hlocks hK ih hp hW hE (lv_sub hl [0, 1, 3] rfl) hL_a0 hK_a0
      · replace hp := hp.2 c_20
        refine lv_iconst (v := 0) hx hb dX12_endingHere_28 (by decide) ?_
        refine lv_goto (tgt := 33) hx hb dX12_endingHere_29 (by decide) ?_
        exact t_X12_endingHere_33 F hr hlocks hK ih hp hW hE (lv_sub hl [0, 1, 3] rfl) hL_a0 hK_a0
set_option maxHeartbeats 4000000 in
set_option maxRecDepth 100000 in
theorem t_X12_endingHere_0 {p : Program} {l : Launch} {e : Env} {s : State} {m : MethodId} {args : Array Value} {below : List Frame} {meth : Method} {c : Code} {D : wD} {cy : Nat → ClassId} {X : va_W} {A : Nat → Prop} {S0 : wS} {post : Int32 → wS → Prop} (F : CallFix p m c cX12_endingHere 4 s args wz_X12_endingHere RX12) (hr : meth.sig.returnType = (some .int)) (hlocks : meth.locks = false) (hK : wK D cy A s) : ∀ {S : wS} {H : Heap} {locs : List Loc} {ls : Array Slot} {a0 : Nat}, wp_X12_endingHere_0 D post S a0 → wO D cy X A s.heap S H locs → wX D S0 S → lv_has ls 4 [(0, .ref a0)] → wM D S a0 → sK S a0 = 17 → W p l e r_X12_endingHere s m args below meth c H locs 0 0 (MQ below (va_Qi (fun r S9 => wX D S0 S9 ∧ post r S9) (wB D cy X A) A) args s 0 0 A) (F0 m 0 ls []) := by
  obtain ⟨hx, hb, hml, hown, hts⟩ := id F
  have hwg : ∀ w ∈ WG, w.before args s = true := fun w h => hts w (List.mem_cons_of_mem _ h)
  intro S H locs ls a0 hp hW hE hl hL_a0 hK_a0
  unfold wp_X12_endingHere_0 at hp
  refine lv_aload_n hx hb dX12_endingHere_0 rfl (lv_at hl 0 rfl) ?_
  refine w_callV (va_runV (As := []) (rest := []) F (c_X12_loads l hL_a0 hK_a0 hp H.size) (cwV (C := RX12) 0 hts (wg_V wm_RX12_192 wy_X12_loads) rfl rfl rfl (by decide +kernel) ⟨Nat.le_of_ble_eq_true rfl, Nat.le_of_ble_eq_true rfl⟩) (w_preV hK hW hL_a0 hK_a0 (by decide) rfl) rfl rfl hl.1 rfl (lv_room (Nat.le_of_ble_eq_true rfl)) dX12_endingHere_1 ⟨Nat.le_of_ble_eq_true rfl, Nat.le_of_ble_eq_true rfl⟩) hW (fun S_2 H locs hp hW => ?_)
  obtain ⟨hX_S_2, hp⟩ := hp
  refine W.widen (k := 0) (n := 0) (by decide) (by decide) ?_
  have hE := hE.trans hX_S_2
  have hK_a0 : sK S_2 a0 = 17 := (hX_S_2.2 a0 hL_a0).1.trans hK_a0
  have hL_a0 : wM D S_2 a0 := hX_S_2.M hL_a0
  refine lv_iconst (v := 0) hx hb dX12_endingHere_4 (by decide) ?_
  refine lv_istore_n (lv' := [(1, .int (0 : Int32)), (0, .ref a0)]) hx hb dX12_endingHere_5 rfl hl (by decide) rfl (fun ls hl => ?_)
  refine lv_iconst (v := 0) hx hb dX12_endingHere_6 (by decide) ?_
  refine lv_istore_n (lv' := [(2, .int (0 : Int32)), (1, .int (0 : Int32)), (0, .ref a0)]) hx hb dX12_endingHere_7 rfl hl (by decide) rfl (fun ls hl => ?_)
  refine lv_iconst (v := 0) hx hb dX12_endingHere_8 (by decide) ?_
  refine lv_istore_n (lv' := [(3, .int (0 : Int32)), (2, .int (0 : Int32)), (1, .int (0 : Int32)), (0, .ref a0)]) hx hb dX12_endingHere_9 rfl hl (by decide) rfl (fun ls hl => ?_)
  obtain ⟨n_3, hp⟩ := hp
  exact t_X12_endingHere_10 F hr hlocks hK n_3 hp hW hE (lv_sub hl [3, 2, 1, 0] rfl) hL_a0 hK_a0
set_option maxHeartbeats 4000000 in
set_option maxRecDepth 100000 in
theorem c_X12_endingHere (l : Launch) {D : wD} {cy : Nat → ClassId} {X : va_W} {S0 : wS} {post : Int32 → wS → Prop} {a0 : Nat} (hL_a0 : wM D S0 a0) (hK_a0 : sK S0 a0 = 17) (hp : wp_X12_endingHere D post S0 a0) : mI D cy X l yX12_endingHere wz_X12_endingHere r_X12_endingHere [.ref a0] S0 (fun r S9 => wX D S0 S9 ∧ post r S9) := by
  intro sz
  refine Met.ofW (cc := cX12_endingHere) (maxL := 4) (ret := (some .int)) (by decide) rfl ?_
  intro p e s m args below meth c s₁ B hml hv
  obtain ⟨rfl, hsz, hP, hK, hD0, hRO⟩ := hv
  have hts := atoms_spec (ws := wz_X12_endingHere) B.pre
  have hown : s.vm.findClass RX12 = some m.cls := findClass_of_methodNamed B.named
  subst hsz
  have hD := hD0.self (sz := s.heap.size)
  have F : CallFix p m c cX12_endingHere 4 s _ wz_X12_endingHere RX12 := ⟨B.exec, B.bytes, hml, hown, hts⟩
  have hr := B.returns
  have hlocks := B.notSynchronized
  generalize hAe : va_A (wL cy X S0) s.heap.size = A at hD hK ⊢
  have hA : ∀ q, s.heap.size ≤ q → A q := fun q h => by rw [← hAe]; exact Or.inr h
  have hW : wO D cy X A s.heap S0 s.heap [] := ⟨hP, hD, va_S.rf, hA, hRO⟩
  have hl := lv_entry ([.ref a0]) (n := 4) (Nat.le_of_ble_eq_true rfl)
  rw [lg_entry_eq]
  generalize (lg_sl ([.ref a0]) ++ List.replicate (4 - (lg_sl ([.ref a0])).length) Slot.unset).toArray = ls at hl ⊢
  have hl : lv_has ls 4 [(0, .ref a0)] := hl
  unfold wp_X12_endingHere at hp
  exact t_X12_endingHere_0 F hr hlocks hK hp hW wX.rf (lv_sub hl [0] rfl) hL_a0 hK_a0
def wp_X12_endingValue_26 (D : wD) (post : Int32 → wS → Prop)  : Nat → wS → Nat → Int32 → Int32 → Prop
  | 0, _, _, _, _ => False
  | n + 1, S, a0, x1, x2 =>
    wp_X12_on D (fun r_1 S_2 => 
    ((r_1 = x1 → ∃ y_4 : Nat, sR S_2 a0 41 = some y_4 ∧ wM D S_2 y_4 ∧ sK S_2 y_4 = 21 ∧
    wp_X12_side D (fun r_5 S_6 => 
    wp_X12_kingOf D (fun r_7 S_8 => 
    wp_X12_kingOf D (fun r_9 S_10 => 
    wp_X12_valueAt D (fun r_11 S_12 => 
    vp_in r_11 (sN S_12 y_4) ∧
    post (sI S_12 y_4 (r_11).toNatClampNeg) S_12) S_10 x1 ((1 : Int32) - r_5) r_7 r_9 x2) S_8 a0 (0 : Int32) (0 : Int32)) S_6 a0 (0 : Int32) (1 : Int32)) S_2 a0 (0 : Int32)) ∧
     (¬ r_1 = x1 → ∀ x_14 : Int32, x_14 = x2 + 1 →
    wp_X12_endingValue_26 D post n S_2 a0 x1 x_14))) S a0 (0 : Int32) x2
def wp_X12_endingValue_15 (D : wD) (post : Int32 → wS → Prop)  (S : wS) (a0 : Nat) (x1 : Int32) (b0 : Nat) (t1 : Int32) : Prop :=
wp_X12_can D (fun r_1 S_2 => 
((¬ r_1 = 0 → ∃ n_4 : Nat, wp_X12_endingValue_26 D post n_4 S_2 a0 x1 (0 : Int32)) ∧
 (r_1 = 0 → post (0 : Int32) S_2))) S b0 t1 (1 : Int32)
def wp_X12_endingValue_0 (D : wD) (post : Int32 → wS → Prop)  (S : wS) (a0 : Nat) : Prop :=
wp_X12_endingHere D (fun r_1 S_2 => 
((r_1 = 0 → wp_X12_endingValue_15 D post S_2 a0 r_1 a0 (0 : Int32)) ∧
 (¬ r_1 = 0 → wp_X12_endingValue_15 D post S_2 a0 r_1 a0 (1 : Int32)))) S a0
abbrev r_X12_endingValue : Room := { frames := 7, cells := 0, slots := 0, locals := 166 }
def wp_X12_endingValue (D : wD) (post : Int32 → wS → Prop) (S : wS) (a0 : Nat) : Prop := wp_X12_endingValue_0 D post S a0
set_option maxHeartbeats 4000000 in
set_option maxRecDepth 100000 in
theorem t_X12_endingValue_26 {p : Program} {l : Launch} {e : Env} {s : State} {m : MethodId} {args : Array Value} {below : List Frame} {meth : Method} {c : Code} {D : wD} {cy : Nat → ClassId} {X : va_W} {A : Nat → Prop} {S0 : wS} {post : Int32 → wS → Prop} (F : CallFix p m c cX12_endingValue 3 s args wz_X12_endingValue RX12) (hr : meth.sig.returnType = (some .int)) (hlocks : meth.locks = false) (hK : wK D cy A s) : ∀ (n : Nat) {S : wS} {H : Heap} {locs : List Loc} {ls : Array Slot} {a0 : Nat} {x1 : Int32} {x2 : Int32}, wp_X12_endingValue_26 D post n S a0 x1 x2 → wO D cy X A s.heap S H locs → wX D S0 S → lv_has ls 3 [(0, .ref a0), (1, .int x1), (2, .int x2)] → wM D S a0 → sK S a0 = 17 → W p l e r_X12_endingValue s m args below meth c H locs 0 0 (MQ below (va_Qi (fun r S9 => wX D S0 S9 ∧ post r S9) (wB D cy X A) A) args s 0 0 A) (F0 m 26 ls []) := by
  obtain ⟨hx, hb, hml, hown, hts⟩ := id F
  have hwg : ∀ w ∈ WG, w.before args s = true := fun w h => hts w (List.mem_cons_of_mem _ h)
  have i_17 : ∀ w ∈ u_ws RX12 TX12 43, w ∈ wz_X12_endingValue := fun w h => List.mem_cons_of_mem _ (wu_17 w h)
  have k_101 := hwg _ wf_RX12_101
  intro n
  induction n with
  | zero =>
    intro S H locs ls a0 x1 x2 hp
    exact hp.elim
  | succ n ih =>
    intro S H locs ls a0 x1 x2 hp hW hE hl hL_a0 hK_a0
    unfold wp_X12_endingValue_26 at hp
    refine lv_aload_n hx hb dX12_endingValue_26 rfl (lv_at hl 0 rfl) ?_
    refine lv_iconst (v := 0) hx hb dX12_endingValue_27 (by decide) ?_
    refine lv_iload_n hx hb dX12_endingValue_28 rfl (lv_at hl 2 rfl) ?_
    refine w_callI (va_runV (As := [.int (0 : Int32), .int x2]) (rest := []) F (c_X12_on l hL_a0 hK_a0 hp H.size) (cwV (C := RX12) 2 hts (wg_V wm_RX12_141 wy_X12_on) rfl rfl rfl (by decide +kernel) ⟨Nat.le_of_ble_eq_true rfl, Nat.le_of_ble_eq_true rfl⟩) (w_preV hK hW hL_a0 hK_a0 (by decide) rfl) rfl rfl hl.1 rfl (lv_room (Nat.le_of_ble_eq_true rfl)) dX12_endingValue_29 ⟨Nat.le_of_ble_eq_true rfl, Nat.le_of_ble_eq_true rfl⟩) hW (fun r_1 S_2 H locs hp hW => ?_)
    obtain ⟨hX_S_2, hp⟩ := hp
    refine W.widen (k := 0) (n := 0) (by decide) (by decide) ?_
    have hE := hE.trans hX_S_2
    have hK_a0 : sK S_2 a0 = 17 := (hX_S_2.2 a0 hL_a0).1.trans hK_a0
    have hL_a0 : wM D S_2 a0 := hX_S_2.M hL_a0
    refine lv_iload_n hx hb dX12_endingValue_32 rfl (lv_at hl 1 rfl) ?_
    refine lv_icmp_eq (tgt := 42) hx hb dX12_endingValue_33 (by decide) (fun c_3 => ?_) (fun c_3 => ?_)
    · replace hp := hp.1 c_3
      refine lv_aload_n hx hb dX12_endingValue_42 rfl (lv_at hl 0 rfl) ?_
      obtain ⟨y_4, ey_4, hL_y_4, hK_y_4, hp⟩ := hp
      refine w_get (k := 17) (f := 41) (T := TX12) (v := .ref y_4) F hK hW hL_a0 hK_a0 (by decide) rfl rfl (by decide) i_17 k_101 (by rw [show wv 17 41 S_2 a0 = va_rf (sR S_2 a0 41) from rfl, ey_4]; rfl) dX12_endingValue_43 ?_
      refine lv_iload_n hx hb dX12_endingValue_46 rfl (lv_at hl 1 rfl) ?_
      refine lv_iconst (v := 1) hx hb dX12_endingValue_47 (by decide) ?_
      refine lv_aload_n hx hb dX12_endingValue_48 rfl (lv_at hl 0 rfl) ?_
      refine lv_iconst (v := 0) hx hb dX12_endingValue_49 (by decide) ?_
      refine w_callI (va_runV (As := [.int (0 : Int32)]) (rest := [.int (1 : Int32), .int x1, .ref y_4]) F (c_X12_side l hL_a0 hK_a0 hp H.size) (cwV (C := RX12) 1 hts (wg_V wm_RX12_183 wy_X12_side) rfl rfl rfl (by decide +kernel) ⟨Nat.le_of_ble_eq_true rfl, Nat.le_of_ble_eq_true rfl⟩) (w_preV hK hW hL_a0 hK_a0 (by decide) rfl) rfl rfl hl.1 rfl (lv_room (Nat.le_of_ble_eq_true rfl)) dX12_endingValue_50 ⟨Nat.le_of_ble_eq_true rfl, Nat.le_of_ble_eq_true rfl⟩) hW (fun r_5 S_6 H locs hp hW => ?_)
      obtain ⟨hX_S_6, hp⟩ := hp
      refine W.widen (k := 0) (n := 0) (by decide) (by decide) ?_
      have hE := hE.trans hX_S_6
      have hK_a0 : sK S_6 a0 = 17 := (hX_S_6.2 a0 hL_a0).1.trans hK_a0
      have hL_a0 : wM D S_6 a0 := hX_S_6.M hL_a0
      have hK_y_4 : sK S_6 y_4 = 21 := (hX_S_6.2 y_4 hL_y_4).1.trans hK_y_4
      have hL_y_4 : wM D S_6 y_4 := hX_S_6.M hL_y_4
      refine lv_isub hx hb dX12_endingValue_53 ?_
      refine lv_aload_n hx hb dX12_endingValue_54 rfl (lv_at hl 0 rfl) ?_
      refine lv_iconst (v := 0) hx hb dX12_endingValue_55 (by decide) ?_
      refine lv_iconst (v := 1) hx hb dX12_endingValue_56 (by decide) ?_
      refine w_callI (va_runV (As := [.int (0 : Int32), .int (1 : Int32)]) (rest := [.int ((1 : Int32) - r_5), .int x1, .ref y_4]) F (c_X12_kingOf l hL_a0 hK_a0 hp H.size) (cwV (C := RX12) 2 hts (wg_V wm_RX12_164 wy_X12_kingOf) rfl rfl rfl (by decide +kernel) ⟨Nat.le_of_ble_eq_true rfl, Nat.le_of_ble_eq_true rfl⟩) (w_preV hK hW hL_a0 hK_a0 (by decide) rfl) rfl rfl hl.1 rfl (lv_room (Nat.le_of_ble_eq_true rfl)) dX12_endingValue_57 ⟨Nat.le_of_ble_eq_true rfl, Nat.le_of_ble_eq_true rfl⟩) hW (fun r_7 S_8 H locs hp hW => ?_)
      obtain ⟨hX_S_8, hp⟩ := hp
      refine W.widen (k := 0) (n := 0) (by decide) (by decide) ?_
      have hE := hE.trans hX_S_8
      have hK_a0 : sK S_8 a0 = 17 := (hX_S_8.2 a0 hL_a0).1.trans hK_a0
      have hL_a0 : wM D S_8 a0 := hX_S_8.M hL_a0
      have hK_y_4 : sK S_8 y_4 = 21 := (hX_S_8.2 y_4 hL_y_4).1.trans hK_y_4
      have hL_y_4 : wM D S_8 y_4 := hX_S_8.M hL_y_4
      refine lv_aload_n hx hb dX12_endingValue_60 rfl (lv_at hl 0 rfl) ?_
      refine lv_iconst (v := 0) hx hb dX12_endingValue_61 (by decide) ?_
      refine lv_iconst (v := 0) hx hb dX12_endingValue_62 (by decide) ?_
      refine w_callI (va_runV (As := [.int (0 : Int32), .int (0 : Int32)]) (rest := [.int r_7, .int ((1 : Int32) - r_5), .int x1, .ref y_4]) F (c_X12_kingOf l hL_a0 hK_a0 hp H.size) (cwV (C := RX12) 2 hts (wg_V wm_RX12_164 wy_X12_kingOf) rfl rfl rfl (by decide +kernel) ⟨Nat.le_of_ble_eq_true rfl, Nat.le_of_ble_eq_true rfl⟩) (w_preV hK hW hL_a0 hK_a0 (by decide) rfl) rfl rfl hl.1 rfl (lv_room (Nat.le_of_ble_eq_true rfl)) dX12_endingValue_63 ⟨Nat.le_of_ble_eq_true rfl, Nat.le_of_ble_eq_true rfl⟩) hW (fun r_9 S_10 H locs hp hW => ?_)
      obtain ⟨hX_S_10, hp⟩ := hp
      refine W.widen (k := 0) (n := 0) (by decide) (by decide) ?_
      have hE := hE.trans hX_S_10
      have hK_a0 : sK S_10 a0 = 17 := (hX_S_10.2 a0 hL_a0).1.trans hK_a0
      have hL_a0 : wM D S_10 a0 := hX_S_10.M hL_a0
      have hK_y_4 : sK S_10 y_4 = 21 := (hX_S_10.2 y_4 hL_y_4).1.trans hK_y_4
      have hL_y_4 : wM D S_10 y_4 := hX_S_10.M hL_y_4
      refine lv_iload_n hx hb dX12_endingValue_66 rfl (lv_at hl 2 rfl) ?_
      refine w_callI (va_runS (As := [.int x1, .int ((1 : Int32) - r_5), .int r_7, .int r_9, .int x2]) (rest := [.ref y_4]) F (c_X12_valueAt l hp H.size) (va_cwS 5 hts (wg_S wm_RX12_483 wy_X12_valueAt) rfl rfl rfl (by decide +kernel) ⟨Nat.le_of_ble_eq_true rfl, Nat.le_of_ble_eq_true rfl⟩) (w_preS hK hW) rfl rfl hl.1 rfl (lv_room (Nat.le_of_ble_eq_true rfl)) dX12_endingValue_67 ⟨Nat.le_of_ble_eq_true rfl, Nat.le_of_ble_eq_true rfl⟩) hW (fun r_11 S_12 H locs hp hW => ?_)
      obtain ⟨hX_S_12, hp⟩ := hp
      refine W.widen (k := 0) (n := 0) (by decide) (by decide) ?_
      have hE := hE.trans hX_S_12
      have hK_a0 : sK S_12 a0 = 17 := (hX_S_12.2 a0 hL_a0).1.trans hK_a0
      have hL_a0 : wM D S_12 a0 := hX_S_12.M hL_a0
      have hK_y_4 : sK S_12 y_4 = 21 := (hX_S_12.2 y_4 hL_y_4).1.trans hK_y_4
      have hL_y_4 : wM D S_12 y_4 := hX_S_12.M hL_y_4
      obtain ⟨h_13, hp⟩ := hp
      refine w_ild F hK hW hL_y_4 hK_y_4 h_13 dX12_endingValue_70 ?_
      exact w_iret hx hb hr hlocks hW ⟨hE, hp⟩ dX12_endingValue_71
    · replace hp := hp.2 c_3
      obtain ⟨x_14, ex_14⟩ : ∃ z : Int32, z = x2 + 1 := ⟨_, rfl⟩
      replace hp := hp x_14 ex_14
      refine lv_iinc (v := x_14) (lv' := [(2, .int x_14), (0, .ref a0), (1, .int x1)]) hx hb dX12_endingValue_36 hl (k := 2) rfl (by rw [ex_14]; rfl) (by decide) rfl (fun ls hl => ?_)
      refine lv_goto (tgt := 26) hx hb dX12_endingValue_39 (by decide) ?_
      exact ih hp hW hE (lv_sub hl [1, 2, 0] rfl) hL_a0 hK_a0
set_option maxHeartbeats 4000000 in
set_option maxRecDepth 100000 in
theorem t_X12_endingValue_15 {p : Program} {l : Launch} {e : Env} {s : State} {m : MethodId} {args : Array Value} {below : List Frame} {meth : Method} {c : Code} {D : wD} {cy : Nat → ClassId} {X : va_W} {A : Nat → Prop} {S0 : wS} {post : Int32 → wS → Prop} (F : CallFix p m c cX12_endingValue 3 s args wz_X12_endingValue RX12) (hr : meth.sig.returnType = (some .int)) (hlocks : meth.locks = false) (hK : wK D cy A s) : ∀ {S : wS} {H : Heap} {locs : List Loc} {ls : Array Slot} {a0 : Nat} {x1 : Int32} {b0 : Nat} {t1 : Int32}, wp_X12_endingValue_15 D post S a0 x1 b0 t1 → wO D cy X A s.heap S H locs → wX D S0 S → lv_has ls 3 [(0, .ref a0), (1, .int x1)] → wM D S a0 → sK S a0 = 17 → wM D S b0 → sK S b0 = 17 → W p l e r_X12_endingValue s m args below meth c H locs 0 0 (MQ below (va_Qi (fun r S9 => wX D S0 S9 ∧ post r S9) (wB D cy X A) A) args s 0 0 A) (F0 m 15 ls [.int t1, .ref b0]) := by
  obtain ⟨hx, hb, hml, hown, hts⟩ := id F
  have hwg : ∀ w ∈ WG, w.before args s = true := fun w h => hts w (List.mem_cons_of_mem _ h)
  intro S H locs ls a0 x1 b0 t1 hp hW hE hl hL_a0 hK_a0 hL_b0 hK_b0
  unfold wp_X12_endingValue_15 at hp
  refine lv_iconst (v := 1) hx hb dX12_endingValue_15 (by decide) ?_
  refine w_callI (va_runV (As := [.int t1, .int (1 : Int32)]) (rest := []) F (c_X12_can l hL_b0 hK_b0 hp H.size) (cwV (C := RX12) 2 hts (wg_V wm_RX12_237 wy_X12_can) rfl rfl rfl (by decide +kernel) ⟨Nat.le_of_ble_eq_true rfl, Nat.le_of_ble_eq_true rfl⟩) (w_preV hK hW hL_b0 hK_b0 (by decide) rfl) rfl rfl hl.1 rfl (lv_room (Nat.le_of_ble_eq_true rfl)) dX12_endingValue_16 ⟨Nat.le_of_ble_eq_true rfl, Nat.le_of_ble_eq_true rfl⟩) hW (fun r_1 S_2 H locs hp hW => ?_)
  obtain ⟨hX_S_2, hp⟩ := hp
  refine W.widen (k := 0) (n := 0) (by decide) (by decide) ?_
  have hE := hE.trans hX_S_2
  have hK_a0 : sK S_2 a0 = 17 := (hX_S_2.2 a0 hL_a0).1.trans hK_a0
  have hL_a0 : wM D S_2 a0 := hX_S_2.M hL_a0
  refine lv_if_ne (tgt := 24) hx hb dX12_endingValue_19 (by decide) (fun c_3 => ?_) (fun c_3 => ?_)
  · replace hp := hp.1 c_3
    refine lv_iconst (v := 0) hx hb dX12_endingValue_24 (by decide) ?_
    refine lv_istore_n (lv' := [(2, .int (0 : Int32)), (0, .ref a0), (1, .int x1)]) hx hb dX12_endingValue_25 rfl hl (by decide) rfl (fun ls hl => ?_)
    obtain ⟨n_4, hp⟩ := hp
    exact t_X12_endingValue_26 F hr hlocks hK n_4 hp hW hE (lv_sub hl [1, 2, 0] rfl) hL_a0 hK_a0
  · replace hp := hp.2 c_3
    refine lv_iconst (v := 0) hx hb dX12_endingValue_22 (by decide) ?_
    exact w_iret hx hb hr hlocks hW ⟨hE, hp⟩ dX12_endingValue_23
set_option maxHeartbeats 4000000 in
set_option maxRecDepth 100000 in
theorem t_X12_endingValue_0 {p : Program} {l : Launch} {e : Env} {s : State} {m : MethodId} {args : Array Value} {below : List Frame} {meth : Method} {c : Code} {D : wD} {cy : Nat → ClassId} {X : va_W} {A : Nat → Prop} {S0 : wS} {post : Int32 → wS → Prop} (F : CallFix p m c cX12_endingValue 3 s args wz_X12_endingValue RX12) (hr : meth.sig.returnType = (some .int)) (hlocks : meth.locks = false) (hK : wK D cy A s) : ∀ {S : wS} {H : Heap} {locs : List Loc} {ls : Array Slot} {a0 : Nat}, wp_X12_endingValue_0 D post S a0 → wO D cy X A s.heap S H locs → wX D S0 S → lv_has ls 3 [(0, .ref a0)] → wM D S a0 → sK S a0 = 17 → W p l e r_X12_endingValue s m args below meth c H locs 0 0 (MQ below (va_Qi (fun r S9 => wX D S0 S9 ∧ post r S9) (wB D cy X A) A) args s 0 0 A) (F0 m 0 ls []) := by
  obtain ⟨hx, hb, hml, hown, hts⟩ := id F
  have hwg : ∀ w ∈ WG, w.before args s = true := fun w h => hts w (List.mem_cons_of_mem _ h)
  intro S H locs ls a0 hp hW hE hl hL_a0 hK_a0
  unfold wp_X12_endingValue_0 at hp
  refine lv_aload_n hx hb dX12_endingValue_0 rfl (lv_at hl 0 rfl) ?_
  refine w_callI (va_runV (As := []) (rest := []) F (c_X12_endingHere l hL_a0 hK_a0 hp H.size) (cwV (C := RX12) 0 hts (wg_V wm_RX12_512 wy_X12_endingHere) rfl rfl rfl (by decide +kernel) ⟨Nat.le_of_ble_eq_true rfl, Nat.le_of_ble_eq_true rfl⟩) (w_preV hK hW hL_a0 hK_a0 (by decide) rfl) rfl rfl hl.1 rfl (lv_room (Nat.le_of_ble_eq_true rfl)) dX12_endingValue_1 ⟨Nat.le_of_ble_eq_true rfl, Nat.le_of_ble_eq_true rfl⟩) hW (fun r_1 S_2 H locs hp hW => ?_)
  obtain ⟨hX_S_2, hp⟩ := hp
  refine W.widen (k := 0) (n := 0) (by decide) (by decide) ?_
  have hE := hE.trans hX_S_2
  have hK_a0 : sK S_2 a0 = 17 := (hX_S_2.2 a0 hL_a0).1.trans hK_a0
  have hL_a0 : wM D S_2 a0 := hX_S_2.M hL_a0
  refine lv_istore_n (lv' := [(1, .int r_1), (0, .ref a0)]) hx hb dX12_endingValue_4 rfl hl (by decide) rfl (fun ls hl => ?_)
  refine lv_aload_n hx hb dX12_endingValue_5 rfl (lv_at hl 1 rfl) ?_
  refine lv_iload_n hx hb dX12_endingValue_6 rfl (lv_at hl 0 rfl) ?_
  refine lv_if_eq (tgt := 14) hx hb dX12_endingValue_7 (by decide) (fun c_3 => ?_) (fun c_3 => ?_)
  · replace hp := hp.1 c_3
    refine lv_iconst (v := 0) hx hb dX12_endingValue_14 (by decide) ?_
    exact t_X12_endingValue_15 F hr hlocks hK hp hW hE (lv_sub hl [1, 0] rfl) hL_a0 hK_a0 hL_a0 hK_a0
  · replace hp := hp.2 c_3
    refine lv_iconst (v := 1) hx hb dX12_endingValue_10 (by decide) ?_
    refine lv_goto (tgt := 15) hx hb dX12_endingValue_11 (by decide) ?_
    exact t_X12_endingValue_15 F hr hlocks hK hp hW hE (lv_sub hl [1, 0] rfl) hL_a0 hK_a0 hL_a0 hK_a0
set_option maxHeartbeats 4000000 in
set_option maxRecDepth 100000 in
theorem c_X12_endingValue (l : Launch) {D : wD} {cy : Nat → ClassId} {X : va_W} {S0 : wS} {post : Int32 → wS → Prop} {a0 : Nat} (hL_a0 : wM D S0 a0) (hK_a0 : sK S0 a0 = 17) (hp : wp_X12_endingValue D post S0 a0) : mI D cy X l yX12_endingValue wz_X12_endingValue r_X12_endingValue [.ref a0] S0 (fun r S9 => wX D S0 S9 ∧ post r S9) := by
  intro sz
  refine Met.ofW (cc := cX12_endingValue) (maxL := 3) (ret := (some .int)) (by decide) rfl ?_
  intro p e s m args below meth c s₁ B hml hv
  obtain ⟨rfl, hsz, hP, hK, hD0, hRO⟩ := hv
  have hts := atoms_spec (ws := wz_X12_endingValue) B.pre
  have hown : s.vm.findClass RX12 = some m.cls := findClass_of_methodNamed B.named
  subst hsz
  have hD := hD0.self (sz := s.heap.size)
  have F : CallFix p m c cX12_endingValue 3 s _ wz_X12_endingValue RX12 := ⟨B.exec, B.bytes, hml, hown, hts⟩
  have hr := B.returns
  have hlocks := B.notSynchronized
  generalize hAe : va_A (wL cy X S0) s.heap.size = A at hD hK ⊢
  have hA : ∀ q, s.heap.size ≤ q → A q := fun q h => by rw [← hAe]; exact Or.inr h
  have hW : wO D cy X A s.heap S0 s.heap [] := ⟨hP, hD, va_S.rf, hA, hRO⟩
  have hl := lv_entry ([.ref a0]) (n := 3) (Nat.le_of_ble_eq_true rfl)
  rw [lg_entry_eq]
  generalize (lg_sl ([.ref a0]) ++ List.replicate (3 - (lg_sl ([.ref a0])).length) Slot.unset).toArray = ls at hl ⊢
  have hl : lv_has ls 3 [(0, .ref a0)] := hl
  unfold wp_X12_endingValue at hp
  exact t_X12_endingValue_0 F hr hlocks hK hp hW wX.rf (lv_sub hl [0] rfl) hL_a0 hK_a0
def wp_X12_errors_0 (D : wD) (post : Int32 → wS → Prop)  (S : wS) (a0 : Nat) : Prop :=
∀ S_1 : wS, S_1 = uI S a0 0 (0 : Int32) →
post (0 : Int32) S_1
abbrev r_X12_errors : Room := { frames := 0, cells := 0, slots := 0, locals := 0 }
def wp_X12_errors (D : wD) (post : Int32 → wS → Prop) (S : wS) (a0 : Nat) : Prop := wp_X12_errors_0 D post S a0
set_option maxHeartbeats 4000000 in
set_option maxRecDepth 100000 in
theorem t_X12_errors_0 {p : Program} {l : Launch} {e : Env} {s : State} {m : MethodId} {args : Array Value} {below : List Frame} {meth : Method} {c : Code} {D : wD} {cy : Nat → ClassId} {X : va_W} {A : Nat → Prop} {S0 : wS} {post : Int32 → wS → Prop} (F : CallFix p m c cX12_errors 1 s args wz_X12_errors RX12) (hr : meth.sig.returnType = (some .int)) (hlocks : meth.locks = false) (hK : wK D cy A s) : ∀ {S : wS} {H : Heap} {locs : List Loc} {ls : Array Slot} {a0 : Nat}, wp_X12_errors_0 D post S a0 → wO D cy X A s.heap S H locs → wX D S0 S → lv_has ls 1 [(0, .ref a0)] → wM D S a0 → sK S a0 = 17 → W p l e r_X12_errors s m args below meth c H locs 0 0 (MQ below (va_Qi (fun r S9 => wX D S0 S9 ∧ post r S9) (wB D cy X A) A) args s 0 0 A) (F0 m 0 ls []) := by
  obtain ⟨hx, hb, hml, hown, hts⟩ := id F
  have hwg : ∀ w ∈ WG, w.before args s = true := fun w h => hts w (List.mem_cons_of_mem _ h)
  have i_17 : ∀ w ∈ u_ws RX12 TX12 43, w ∈ wz_X12_errors := fun w h => List.mem_cons_of_mem _ (wu_17 w h)
  have k_110 := hwg _ wf_RX12_110
  intro S H locs ls a0 hp hW hE hl hL_a0 hK_a0
  unfold wp_X12_errors_0 at hp
  refine lv_aload_n hx hb dX12_errors_0 rfl (lv_at hl 0 rfl) ?_
  refine lv_iconst (v := 0) hx hb dX12_errors_1 (by decide) ?_
  refine w_putI (k := 17) (f := 0) (T := TX12) F hK hW hL_a0 hK_a0 (by decide) (by decide) rfl rfl (by decide) i_17 tyX12 tyX12_ok nmX12 k_110 rfl rfl (ty := .int) rfl rfl rfl dX12_errors_2 (fun H locs hW => ?_)
  obtain ⟨S_1, eS_1⟩ : ∃ z : wS, z = uI S a0 0 (0 : Int32) := ⟨_, rfl⟩
  rw [← eS_1] at hW
  replace hp := hp S_1 eS_1
  have hX_S_1 : wX D S S_1 := by rw [eS_1]; exact wX_uI
  have hE := hE.trans hX_S_1
  have hK_a0 : sK S_1 a0 = 17 := (hX_S_1.2 a0 hL_a0).1.trans hK_a0
  have hL_a0 : wM D S_1 a0 := hX_S_1.M hL_a0
  refine lv_iconst (v := 0) hx hb dX12_errors_5 (by decide) ?_
  exact w_iret hx hb hr hlocks hW ⟨hE, hp⟩ dX12_errors_6
set_option maxHeartbeats 4000000 in
set_option maxRecDepth 100000 in
theorem c_X12_errors (l : Launch) {D : wD} {cy : Nat → ClassId} {X : va_W} {S0 : wS} {post : Int32 → wS → Prop} {a0 : Nat} (hL_a0 : wM D S0 a0) (hK_a0 : sK S0 a0 = 17) (hp : wp_X12_errors D post S0 a0) : mI D cy X l yX12_errors wz_X12_errors r_X12_errors [.ref a0] S0 (fun r S9 => wX D S0 S9 ∧ post r S9) := by
  intro sz
  refine Met.ofW (cc := cX12_errors) (maxL := 1) (ret := (some .int)) (by decide) rfl ?_
  intro p e s m args below meth c s₁ B hml hv
  obtain ⟨rfl, hsz, hP, hK, hD0, hRO⟩ := hv
  have hts := atoms_spec (ws := wz_X12_errors) B.pre
  have hown : s.vm.findClass RX12 = some m.cls := findClass_of_methodNamed B.named
  subst hsz
  have hD := hD0.self (sz := s.heap.size)
  have F : CallFix p m c cX12_errors 1 s _ wz_X12_errors RX12 := ⟨B.exec, B.bytes, hml, hown, hts⟩
  have hr := B.returns
  have hlocks := B.notSynchronized
  generalize hAe : va_A (wL cy X S0) s.heap.size = A at hD hK ⊢
  have hA : ∀ q, s.heap.size ≤ q → A q := fun q h => by rw [← hAe]; exact Or.inr h
  have hW : wO D cy X A s.heap S0 s.heap [] := ⟨hP, hD, va_S.rf, hA, hRO⟩
  have hl := lv_entry ([.ref a0]) (n := 1) (Nat.le_of_ble_eq_true rfl)
  rw [lg_entry_eq]
  generalize (lg_sl ([.ref a0]) ++ List.replicate (1 - (lg_sl ([.ref a0])).length) Slot.unset).toArray = ls at hl ⊢
  have hl : lv_has ls 1 [(0, .ref a0)] := hl
  unfold wp_X12_errors at hp
  exact t_X12_errors_0 F hr hlocks hK hp hW wX.rf (lv_sub hl [0] rfl) hL_a0 hK_a0
def wp_X12_isBracket_29 (D : wD) (post : Int32 → wS → Prop)  (S : wS) (t0 : Int32) : Prop :=
narrow .boolean (.int t0) = .int t0 ∧ post t0 S
def wp_X12_isBracket_24 (D : wD) (post : Int32 → wS → Prop)  (S : wS) : Prop :=
wp_X12_isBracket_29 D post S (1 : Int32)
def wp_X12_isBracket_0 (D : wD) (post : Int32 → wS → Prop)  (S : wS) (x0 : Int32) : Prop :=
((x0 = (40 : Int32) → wp_X12_isBracket_24 D post S) ∧
 (¬ x0 = (40 : Int32) → ((x0 = (41 : Int32) → wp_X12_isBracket_24 D post S) ∧
 (¬ x0 = (41 : Int32) → ((x0 = (123 : Int32) → wp_X12_isBracket_24 D post S) ∧
 (¬ x0 = (123 : Int32) → ((¬ x0 = (125 : Int32) → wp_X12_isBracket_29 D post S (0 : Int32)) ∧
 (x0 = (125 : Int32) → wp_X12_isBracket_24 D post S))))))))
abbrev r_X12_isBracket : Room := { frames := 0, cells := 0, slots := 0, locals := 0 }
def wp_X12_isBracket (D : wD) (post : Int32 → wS → Prop) (S : wS) (x0 : Int32) : Prop := wp_X12_isBracket_0 D post S x0
set_option maxHeartbeats 4000000 in
set_option maxRecDepth 100000 in
theorem t_X12_isBracket_29 {p : Program} {l : Launch} {e : Env} {s : State} {m : MethodId} {args : Array Value} {below : List Frame} {meth : Method} {c : Code} {D : wD} {cy : Nat → ClassId} {X : va_W} {A : Nat → Prop} {S0 : wS} {post : Int32 → wS → Prop} (F : CallFix p m c cX12_isBracket 1 s args wz_X12_isBracket RX12) (hr : meth.sig.returnType = (some .boolean)) (hlocks : meth.locks = false) (hK : wK D cy A s) : ∀ {S : wS} {H : Heap} {locs : List Loc} {ls : Array Slot} {t0 : Int32}, wp_X12_isBracket_29 D post S t0 → wO D cy X A s.heap S H locs → wX D S0 S → lv_has ls 1 [] → W p l e r_X12_isBracket s m args below meth c H locs 0 0 (MQ below (va_Qi (fun r S9 => wX D S0 S9 ∧ post r S9) (wB D cy X A) A) args s 0 0 A) (F0 m 29 ls [.int t0]) := by
  obtain ⟨hx, hb, hml, hown, hts⟩ := id F
  have hwg : ∀ w ∈ WG, w.before args s = true := fun w h => hts w (List.mem_cons_of_mem _ h)
  intro S H locs ls t0 hp hW hE hl
  unfold wp_X12_isBracket_29 at hp
  exact w_zret hx hb hr hlocks hW hp.1 ⟨hE, hp.2⟩ dX12_isBracket_29
set_option maxHeartbeats 4000000 in
set_option maxRecDepth 100000 in
theorem t_X12_isBracket_24 {p : Program} {l : Launch} {e : Env} {s : State} {m : MethodId} {args : Array Value} {below : List Frame} {meth : Method} {c : Code} {D : wD} {cy : Nat → ClassId} {X : va_W} {A : Nat → Prop} {S0 : wS} {post : Int32 → wS → Prop} (F : CallFix p m c cX12_isBracket 1 s args wz_X12_isBracket RX12) (hr : meth.sig.returnType = (some .boolean)) (hlocks : meth.locks = false) (hK : wK D cy A s) : ∀ {S : wS} {H : Heap} {locs : List Loc} {ls : Array Slot}, wp_X12_isBracket_24 D post S → wO D cy X A s.heap S H locs → wX D S0 S → lv_has ls 1 [] → W p l e r_X12_isBracket s m args below meth c H locs 0 0 (MQ below (va_Qi (fun r S9 => wX D S0 S9 ∧ post r S9) (wB D cy X A) A) args s 0 0 A) (F0 m 24 ls []) := by
  obtain ⟨hx, hb, hml, hown, hts⟩ := id F
  have hwg : ∀ w ∈ WG, w.before args s = true := fun w h => hts w (List.mem_cons_of_mem _ h)
  intro S H locs ls hp hW hE hl
  unfold wp_X12_isBracket_24 at hp
  refine lv_iconst (v := 1) hx hb dX12_isBracket_24 (by decide) ?_
  refine lv_goto (tgt := 29) hx hb dX12_isBracket_25 (by decide) ?_
  exact t_X12_isBracket_29 F hr hlocks hK hp hW hE (lv_sub hl [] rfl)
set_option maxHeartbeats 4000000 in
set_option maxRecDepth 100000 in
theorem t_X12_isBracket_0 {p : Program} {l : Launch} {e : Env} {s : State} {m : MethodId} {args : Array Value} {below : List Frame} {meth : Method} {c : Code} {D : wD} {cy : Nat → ClassId} {X : va_W} {A : Nat → Prop} {S0 : wS} {post : Int32 → wS → Prop} (F : CallFix p m c cX12_isBracket 1 s args wz_X12_isBracket RX12) (hr : meth.sig.returnType = (some .boolean)) (hlocks : meth.locks = false) (hK : wK D cy A s) : ∀ {S : wS} {H : Heap} {locs : List Loc} {ls : Array Slot} {x0 : Int32}, wp_X12_isBracket_0 D post S x0 → wO D cy X A s.heap S H locs → wX D S0 S → lv_has ls 1 [(0, .int x0)] → W p l e r_X12_isBracket s m args below meth c H locs 0 0 (MQ below (va_Qi (fun r S9 => wX D S0 S9 ∧ post r S9) (wB D cy X A) A) args s 0 0 A) (F0 m 0 ls []) := by
  obtain ⟨hx, hb, hml, hown, hts⟩ := id F
  have hwg : ∀ w ∈ WG, w.before args s = true := fun w h => hts w (List.mem_cons_of_mem _ h)
  intro S H locs ls x0 hp hW hE hl
  unfold wp_X12_isBracket_0 at hp
  refine lv_iload_n hx hb dX12_isBracket_0 rfl (lv_at hl 0 rfl) ?_
  refine lv_bipush (v := 40) hx hb dX12_isBracket_1 (by decide) ?_
  refine lv_icmp_eq (tgt := 24) hx hb dX12_isBracket_3 (by decide) (fun c_1 => ?_) (fun c_1 => ?_)
  · replace hp := hp.1 c_1
    exact t_X12_isBracket_24 F hr hlocks hK hp hW hE (lv_sub hl [] rfl)
  · replace hp := hp.2 c_1
    refine lv_iload_n hx hb dX12_isBracket_6 rfl (lv_at hl 0 rfl) ?_
    refine lv_bipush (v := 41) hx hb dX12_isBracket_7 (by decide) ?_
    refine lv_icmp_eq (tgt := 24) hx hb dX12_isBracket_9 (by decide) (fun c_2 => ?_) (fun c_2 => ?_)
    · replace hp := hp.1 c_2
      exact t_X12_isBracket_24 F hr hlocks hK hp hW hE (lv_sub hl [] rfl)
    · replace hp := hp.2 c_2
      refine lv_iload_n hx hb dX12_isBracket_12 rfl (lv_at hl 0 rfl) ?_
      refine lv_bipush (v := 123) hx hb dX12_isBracket_13 (by decide) ?_
      refine lv_icmp_eq (tgt := 24) hx hb dX12_isBracket_15 (by decide) (fun c_3 => ?_) (fun c_3 => ?_)
      · replace hp := hp.1 c_3
        exact t_X12_isBracket_24 F hr hlocks hK hp hW hE (lv_sub hl [] rfl)
      · replace hp := hp.2 c_3
        refine lv_iload_n hx hb dX12_isBracket_18 rfl (lv_at hl 0 rfl) ?_
        refine lv_bipush (v := 125) hx hb dX12_isBracket_19 (by decide) ?_
        refine lv_icmp_ne (tgt := 28) hx hb dX12_isBracket_21 (by decide) (fun c_4 => ?_) (fun c_4 => ?_)
        · replace hp := hp.1 c_4
          refine lv_iconst (v := 0) hx hb dX12_isBracket_28 (by decide) ?_
          exact t_X12_isBracket_29 F hr hlocks hK hp hW hE (lv_sub hl [] rfl)
        · replace hp := hp.2 c_4
          exact t_X12_isBracket_24 F hr hlocks hK hp hW hE (lv_sub hl [] rfl)
set_option maxHeartbeats 4000000 in
set_option maxRecDepth 100000 in
theorem c_X12_isBracket (l : Launch) {D : wD} {cy : Nat → ClassId} {X : va_W} {S0 : wS} {post : Int32 → wS → Prop} {x0 : Int32} (hp : wp_X12_isBracket D post S0 x0) : mI D cy X l yX12_isBracket wz_X12_isBracket r_X12_isBracket [.int x0] S0 (fun r S9 => wX D S0 S9 ∧ post r S9) := by
  intro sz
  refine Met.ofW (cc := cX12_isBracket) (maxL := 1) (ret := (some .boolean)) (by decide) rfl ?_
  intro p e s m args below meth c s₁ B hml hv
  obtain ⟨rfl, hsz, hP, hK, hD0, hRO⟩ := hv
  have hts := atoms_spec (ws := wz_X12_isBracket) B.pre
  have hown : s.vm.findClass RX12 = some m.cls := findClass_of_methodNamed B.named
  subst hsz
  have hD := hD0.self (sz := s.heap.size)
  have F : CallFix p m c cX12_isBracket 1 s _ wz_X12_isBracket RX12 := ⟨B.exec, B.bytes, hml, hown, hts⟩
  have hr := B.returns
  have hlocks := B.notSynchronized
  generalize hAe : va_A (wL cy X S0) s.heap.size = A at hD hK ⊢
  have hA : ∀ q, s.heap.size ≤ q → A q := fun q h => by rw [← hAe]; exact Or.inr h
  have hW : wO D cy X A s.heap S0 s.heap [] := ⟨hP, hD, va_S.rf, hA, hRO⟩
  have hl := lv_entry ([.int x0]) (n := 1) (Nat.le_of_ble_eq_true rfl)
  rw [lg_entry_eq]
  generalize (lg_sl ([.int x0]) ++ List.replicate (1 - (lg_sl ([.int x0])).length) Slot.unset).toArray = ls at hl ⊢
  have hl : lv_has ls 1 [(0, .int x0)] := hl
  unfold wp_X12_isBracket at hp
  exact t_X12_isBracket_0 F hr hlocks hK hp hW wX.rf (lv_sub hl [0] rfl)
def wp_X12_standsBracket_139 (D : wD) (post : Int32 → wS → Prop)  (S : wS) (t0 : Int32) : Prop :=
narrow .boolean (.int t0) = .int t0 ∧ post t0 S
def wp_X12_standsBracket_128 (D : wD) (post : Int32 → wS → Prop)  (S : wS) (x1 : Int32) : Prop :=
((¬ x1 = (123 : Int32) → wp_X12_standsBracket_139 D post S (0 : Int32)) ∧
 (x1 = (123 : Int32) → wp_X12_standsBracket_139 D post S (1 : Int32)))
def wp_X12_standsBracket_62 (D : wD) (post : Int32 → wS → Prop)  (S : wS) (t0 : Int32) : Prop :=
narrow .boolean (.int t0) = .int t0 ∧ post t0 S
def wp_X12_standsBracket_32 (D : wD) (post : Int32 → wS → Prop)  (S : wS) : Prop :=
narrow .boolean (.int (0 : Int32)) = .int (0 : Int32) ∧ post (0 : Int32) S
def wp_X12_standsBracket_0 (D : wD) (post : Int32 → wS → Prop)  (S : wS) (a0 : Nat) (x1 : Int32) : Prop :=
((¬ (sI S a0 29) = 0 → wp_X12_standsBracket_32 D post S) ∧
 ((sI S a0 29) = 0 → ((¬ (sI S a0 28) = 0 → wp_X12_standsBracket_32 D post S) ∧
 ((sI S a0 28) = 0 → ∃ y_3 : Nat, sR S a0 22 = some y_3 ∧ wM D S y_3 ∧ sK S y_3 = 21 ∧
vp_in (sI S a0 27) (sN S y_3) ∧
(((sI S y_3 ((sI S a0 27)).toNatClampNeg) = 0 → wp_X12_standsBracket_32 D post S) ∧
 (¬ (sI S y_3 ((sI S a0 27)).toNatClampNeg) = 0 → ((¬ x1 = (125 : Int32) → ((¬ x1 = (41 : Int32) → ((¬ x1 = (40 : Int32) → wp_X12_standsBracket_128 D post S x1) ∧
 (x1 = (40 : Int32) → (((4 : Int32) ≤ (sI S a0 27) → wp_X12_standsBracket_128 D post S x1) ∧
 (¬ (4 : Int32) ≤ (sI S a0 27) → ∃ y_10 : Nat, sR S a0 21 = some y_10 ∧ wM D S y_10 ∧ sK S y_10 = 21 ∧
∃ y_11 : Nat, sR S a0 20 = some y_11 ∧ wM D S y_11 ∧ sK S y_11 = 21 ∧
wp_X12_copies D (fun S_13 => 
∀ S_14 : wS, S_14 = uI S_13 a0 27 ((sI S_13 a0 27) + (1 : Int32)) →
∃ y_15 : Nat, sR S_14 a0 22 = some y_15 ∧ wM D S_14 y_15 ∧ sK S_14 y_15 = 21 ∧
y_15 ∈ sL S_14 ∧ vp_in (sI S_14 a0 27) (sN S_14 y_15) ∧
∀ S_17 : wS, S_17 = uI S_14 y_15 ((sI S_14 a0 27)).toNatClampNeg (0 : Int32) →
narrow .boolean (.int (1 : Int32)) = .int (1 : Int32) ∧ post (1 : Int32) S_17) S (67 : Int32) y_10 ((67 : Int32) * (sI S a0 27)) y_11 ((67 : Int32) * ((sI S a0 27) + (1 : Int32)))))))) ∧
 (x1 = (41 : Int32) → ∀ S_18 : wS, S_18 = uI S a0 27 ((sI S a0 27) - (1 : Int32)) →
(((sI S_18 a0 27) < 0 → wp_X12_standsBracket_62 D post S_18 (0 : Int32)) ∧
 (¬ (sI S_18 a0 27) < 0 → wp_X12_standsBracket_62 D post S_18 (1 : Int32)))))) ∧
 (x1 = (125 : Int32) → wp_X12_standsBracket_32 D post S))))))))
abbrev r_X12_standsBracket : Room := { frames := 1, cells := 0, slots := 0, locals := 25 }
def wp_X12_standsBracket (D : wD) (post : Int32 → wS → Prop) (S : wS) (a0 : Nat) (x1 : Int32) : Prop := wp_X12_standsBracket_0 D post S a0 x1
set_option maxHeartbeats 4000000 in
set_option maxRecDepth 100000 in
theorem t_X12_standsBracket_139 {p : Program} {l : Launch} {e : Env} {s : State} {m : MethodId} {args : Array Value} {below : List Frame} {meth : Method} {c : Code} {D : wD} {cy : Nat → ClassId} {X : va_W} {A : Nat → Prop} {S0 : wS} {post : Int32 → wS → Prop} (F : CallFix p m c cX12_standsBracket 2 s args wz_X12_standsBracket RX12) (hr : meth.sig.returnType = (some .boolean)) (hlocks : meth.locks = false) (hK : wK D cy A s) : ∀ {S : wS} {H : Heap} {locs : List Loc} {ls : Array Slot} {t0 : Int32}, wp_X12_standsBracket_139 D post S t0 → wO D cy X A s.heap S H locs → wX D S0 S → lv_has ls 2 [] → W p l e r_X12_standsBracket s m args below meth c H locs 0 0 (MQ below (va_Qi (fun r S9 => wX D S0 S9 ∧ post r S9) (wB D cy X A) A) args s 0 0 A) (F0 m 139 ls [.int t0]) := by
  obtain ⟨hx, hb, hml, hown, hts⟩ := id F
  have hwg : ∀ w ∈ WG, w.before args s = true := fun w h => hts w (List.mem_cons_of_mem _ h)
  intro S H locs ls t0 hp hW hE hl
  unfold wp_X12_standsBracket_139 at hp
  exact w_zret hx hb hr hlocks hW hp.1 ⟨hE, hp.2⟩ dX12_standsBracket_139
set_option maxHeartbeats 4000000 in
set_option maxRecDepth 100000 in
theorem t_X12_standsBracket_128 {p : Program} {l : Launch} {e : Env} {s : State} {m : MethodId} {args : Array Value} {below : List Frame} {meth : Method} {c : Code} {D : wD} {cy : Nat → ClassId} {X : va_W} {A : Nat → Prop} {S0 : wS} {post : Int32 → wS → Prop} (F : CallFix p m c cX12_standsBracket 2 s args wz_X12_standsBracket RX12) (hr : meth.sig.returnType = (some .boolean)) (hlocks : meth.locks = false) (hK : wK D cy A s) : ∀ {S : wS} {H : Heap} {locs : List Loc} {ls : Array Slot} {x1 : Int32}, wp_X12_standsBracket_128 D post S x1 → wO D cy X A s.heap S H locs → wX D S0 S → lv_has ls 2 [(1, .int x1)] → W p l e r_X12_standsBracket s m args below meth c H locs 0 0 (MQ below (va_Qi (fun r S9 => wX D S0 S9 ∧ post r S9) (wB D cy X A) A) args s 0 0 A) (F0 m 128 ls []) := by
  obtain ⟨hx, hb, hml, hown, hts⟩ := id F
  have hwg : ∀ w ∈ WG, w.before args s = true := fun w h => hts w (List.mem_cons_of_mem _ h)
  intro S H locs ls x1 hp hW hE hl
  unfold wp_X12_standsBracket_128 at hp
  refine lv_iload_n hx hb dX12_standsBracket_128 rfl (lv_at hl 0 rfl) ?_
  refine lv_bipush (v := 123) hx hb dX12_standsBracket_129 (by decide) ?_
  refine lv_icmp_ne (tgt := 138) hx hb dX12_standsBracket_131 (by decide) (fun c_1 => ?_) (fun c_1 => ?_)
  · replace hp := hp.1 c_1
    refine lv_iconst (v := 0) hx hb dX12_standsBracket_138 (by decide) ?_
    exact t_X12_standsBracket_139 F hr hlocks hK hp hW hE (lv_sub hl [] rfl)
  · replace hp := hp.2 c_1
    refine lv_iconst (v := 1) hx hb dX12_standsBracket_134 (by decide) ?_
    refine lv_goto (tgt := 139) hx hb dX12_standsBracket_135 (by decide) ?_
    exact t_X12_standsBracket_139 F hr hlocks hK hp hW hE (lv_sub hl [] rfl)
set_option maxHeartbeats 4000000 in
set_option maxRecDepth 100000 in
theorem t_X12_standsBracket_62 {p : Program} {l : Launch} {e : Env} {s : State} {m : MethodId} {args : Array Value} {below : List Frame} {meth : Method} {c : Code} {D : wD} {cy : Nat → ClassId} {X : va_W} {A : Nat → Prop} {S0 : wS} {post : Int32 → wS → Prop} (F : CallFix p m c cX12_standsBracket 2 s args wz_X12_standsBracket RX12) (hr : meth.sig.returnType = (some .boolean)) (hlocks : meth.locks = false) (hK : wK D cy A s) : ∀ {S : wS} {H : Heap} {locs : List Loc} {ls : Array Slot} {t0 : Int32}, wp_X12_standsBracket_62 D post S t0 → wO D cy X A s.heap S H locs → wX D S0 S → lv_has ls 2 [] → W p l e r_X12_standsBracket s m args below meth c H locs 0 0 (MQ below (va_Qi (fun r S9 => wX D S0 S9 ∧ post r S9) (wB D cy X A) A) args s 0 0 A) (F0 m 62 ls [.int t0]) := by
  obtain ⟨hx, hb, hml, hown, hts⟩ := id F
  have hwg : ∀ w ∈ WG, w.before args s = true := fun w h => hts w (List.mem_cons_of_mem _ h)
  intro S H locs ls t0 hp hW hE hl
  unfold wp_X12_standsBracket_62 at hp
  exact w_zret hx hb hr hlocks hW hp.1 ⟨hE, hp.2⟩ dX12_standsBracket_62
set_option maxHeartbeats 4000000 in
set_option maxRecDepth 100000 in
theorem t_X12_standsBracket_32 {p : Program} {l : Launch} {e : Env} {s : State} {m : MethodId} {args : Array Value} {below : List Frame} {meth : Method} {c : Code} {D : wD} {cy : Nat → ClassId} {X : va_W} {A : Nat → Prop} {S0 : wS} {post : Int32 → wS → Prop} (F : CallFix p m c cX12_standsBracket 2 s args wz_X12_standsBracket RX12) (hr : meth.sig.returnType = (some .boolean)) (hlocks : meth.locks = false) (hK : wK D cy A s) : ∀ {S : wS} {H : Heap} {locs : List Loc} {ls : Array Slot}, wp_X12_standsBracket_32 D post S → wO D cy X A s.heap S H locs → wX D S0 S → lv_has ls 2 [] → W p l e r_X12_standsBracket s m args below meth c H locs 0 0 (MQ below (va_Qi (fun r S9 => wX D S0 S9 ∧ post r S9) (wB D cy X A) A) args s 0 0 A) (F0 m 32 ls []) := by
  obtain ⟨hx, hb, hml, hown, hts⟩ := id F
  have hwg : ∀ w ∈ WG, w.before args s = true := fun w h => hts w (List.mem_cons_of_mem _ h)
  intro S H locs ls hp hW hE hl
  unfold wp_X12_standsBracket_32 at hp
  refine lv_iconst (v := 0) hx hb dX12_standsBracket_32 (by decide) ?_
  exact w_zret hx hb hr hlocks hW hp.1 ⟨hE, hp.2⟩ dX12_standsBracket_33
set_option maxHeartbeats 4000000 in
set_option maxRecDepth 100000 in
theorem t_X12_standsBracket_0 {p : Program} {l : Launch} {e : Env} {s : State} {m : MethodId} {args : Array Value} {below : List Frame} {meth : Method} {c : Code} {D : wD} {cy : Nat → ClassId} {X : va_W} {A : Nat → Prop} {S0 : wS} {post : Int32 → wS → Prop} (F : CallFix p m c cX12_standsBracket 2 s args wz_X12_standsBracket RX12) (hr : meth.sig.returnType = (some .boolean)) (hlocks : meth.locks = false) (hK : wK D cy A s) : ∀ {S : wS} {H : Heap} {locs : List Loc} {ls : Array Slot} {a0 : Nat} {x1 : Int32}, wp_X12_standsBracket_0 D post S a0 x1 → wO D cy X A s.heap S H locs → wX D S0 S → lv_has ls 2 [(0, .ref a0), (1, .int x1)] → wM D S a0 → sK S a0 = 17 → W p l e r_X12_standsBracket s m args below meth c H locs 0 0 (MQ below (va_Qi (fun r S9 => wX D S0 S9 ∧ post r S9) (wB D cy X A) A) args s 0 0 A) (F0 m 0 ls []) := by
  obtain ⟨hx, hb, hml, hown, hts⟩ := id F
  have hwg : ∀ w ∈ WG, w.before args s = true := fun w h => hts w (List.mem_cons_of_mem _ h)
  have i_17 : ∀ w ∈ u_ws RX12 TX12 43, w ∈ wz_X12_standsBracket := fun w h => List.mem_cons_of_mem _ (wu_17 w h)
  have k_354 := hwg _ wf_RX12_354
  have k_361 := hwg _ wf_RX12_361
  have k_367 := hwg _ wf_RX12_367
  have k_57 := hwg _ wf_RX12_57
  have k_60 := hwg _ wf_RX12_60
  have k_63 := hwg _ wf_RX12_63
  intro S H locs ls a0 x1 hp hW hE hl hL_a0 hK_a0
  unfold wp_X12_standsBracket_0 at hp
  refine lv_aload_n hx hb dX12_standsBracket_0 rfl (lv_at hl 0 rfl) ?_
  refine w_get (k := 17) (f := 29) (T := TX12) (v := .int (sI S a0 29)) F hK hW hL_a0 hK_a0 (by decide) rfl rfl (by decide) i_17 k_354 rfl dX12_standsBracket_1 ?_
  refine lv_if_ne (tgt := 32) hx hb dX12_standsBracket_4 (by decide) (fun c_1 => ?_) (fun c_1 => ?_)
  · replace hp := hp.1 c_1
    exact t_X12_standsBracket_32 F hr hlocks hK hp hW hE (lv_sub hl [] rfl)
  · replace hp := hp.2 c_1
    refine lv_aload_n hx hb dX12_standsBracket_7 rfl (lv_at hl 0 rfl) ?_
    refine w_get (k := 17) (f := 28) (T := TX12) (v := .int (sI S a0 28)) F hK hW hL_a0 hK_a0 (by decide) rfl rfl (by decide) i_17 k_361 rfl dX12_standsBracket_8 ?_
    refine lv_if_ne (tgt := 32) hx hb dX12_standsBracket_11 (by decide) (fun c_2 => ?_) (fun c_2 => ?_)
    · replace hp := hp.1 c_2
      exact t_X12_standsBracket_32 F hr hlocks hK hp hW hE (lv_sub hl [] rfl)
    · replace hp := hp.2 c_2
      refine lv_aload_n hx hb dX12_standsBracket_14 rfl (lv_at hl 0 rfl) ?_
      obtain ⟨y_3, ey_3, hL_y_3, hK_y_3, hp⟩ := hp
      refine w_get (k := 17) (f := 22) (T := TX12) (v := .ref y_3) F hK hW hL_a0 hK_a0 (by decide) rfl rfl (by decide) i_17 k_63 (by rw [show wv 17 22 S a0 = va_rf (sR S a0 22) from rfl, ey_3]; rfl) dX12_standsBracket_15 ?_
      refine lv_aload_n hx hb dX12_standsBracket_18 rfl (lv_at hl 0 rfl) ?_
      refine w_get (k := 17) (f := 27) (T := TX12) (v := .int (sI S a0 27)) F hK hW hL_a0 hK_a0 (by decide) rfl rfl (by decide) i_17 k_367 rfl dX12_standsBracket_19 ?_
      obtain ⟨h_4, hp⟩ := hp
      refine w_ild F hK hW hL_y_3 hK_y_3 h_4 dX12_standsBracket_22 ?_
      refine lv_if_eq (tgt := 32) hx hb dX12_standsBracket_23 (by decide) (fun c_5 => ?_) (fun c_5 => ?_)
      · replace hp := hp.1 c_5
        exact t_X12_standsBracket_32 F hr hlocks hK hp hW hE (lv_sub hl [] rfl)
      · replace hp := hp.2 c_5
        refine lv_iload_n hx hb dX12_standsBracket_26 rfl (lv_at hl 1 rfl) ?_
        refine lv_bipush (v := 125) hx hb dX12_standsBracket_27 (by decide) ?_
        refine lv_icmp_ne (tgt := 34) hx hb dX12_standsBracket_29 (by decide) (fun c_6 => ?_) (fun c_6 => ?_)
        · replace hp := hp.1 c_6
          refine lv_iload_n hx hb dX12_standsBracket_34 rfl (lv_at hl 1 rfl) ?_
          refine lv_bipush (v := 41) hx hb dX12_standsBracket_35 (by decide) ?_
          refine lv_icmp_ne (tgt := 63) hx hb dX12_standsBracket_37 (by decide) (fun c_7 => ?_) (fun c_7 => ?_)
          · replace hp := hp.1 c_7
            refine lv_iload_n hx hb dX12_standsBracket_63 rfl (lv_at hl 1 rfl) ?_
            refine lv_bipush (v := 40) hx hb dX12_standsBracket_64 (by decide) ?_
            refine lv_icmp_ne (tgt := 128) hx hb dX12_standsBracket_66 (by decide) (fun c_8 => ?_) (fun c_8 => ?_)
            · replace hp := hp.1 c_8
              exact t_X12_standsBracket_128 F hr hlocks hK hp hW hE (lv_sub hl [1] rfl)
            · replace hp := hp.2 c_8
              refine lv_aload_n hx hb dX12_standsBracket_69 rfl (lv_at hl 0 rfl) ?_
              refine w_get (k := 17) (f := 27) (T := TX12) (v := .int (sI S a0 27)) F hK hW hL_a0 hK_a0 (by decide) rfl rfl (by decide) i_17 k_367 rfl dX12_standsBracket_70 ?_
              refine lv_iconst (v := 4) hx hb dX12_standsBracket_73 (by decide) ?_
              refine lv_icmp_ge (tgt := 128) hx hb dX12_standsBracket_74 (by decide) (fun c_9 => ?_) (fun c_9 => ?_)
              · replace hp := hp.1 c_9
                exact t_X12_standsBracket_128 F hr hlocks hK hp hW hE (lv_sub hl [1] rfl)
              · replace hp := hp.2 c_9
                refine lv_bipush (v := 67) hx hb dX12_standsBracket_77 (by decide) ?_
                refine lv_aload_n hx hb dX12_standsBracket_79 rfl (lv_at hl 0 rfl) ?_
                obtain ⟨y_10, ey_10, hL_y_10, hK_y_10, hp⟩ := hp
                refine w_get (k := 17) (f := 21) (T := TX12) (v := .ref y_10) F hK hW hL_a0 hK_a0 (by decide) rfl rfl (by decide) i_17 k_60 (by rw [show wv 17 21 S a0 = va_rf (sR S a0 21) from rfl, ey_10]; rfl) dX12_standsBracket_80 ?_
                refine lv_bipush (v := 67) hx hb dX12_standsBracket_83 (by decide) ?_
                refine lv_aload_n hx hb dX12_standsBracket_85 rfl (lv_at hl 0 rfl) ?_
                refine w_get (k := 17) (f := 27) (T := TX12) (v := .int (sI S a0 27)) F hK hW hL_a0 hK_a0 (by decide) rfl rfl (by decide) i_17 k_367 rfl dX12_standsBracket_86 ?_
                refine lv_imul hx hb dX12_standsBracket_89 ?_
                refine lv_aload_n hx hb dX12_standsBracket_90 rfl (lv_at hl 0 rfl) ?_
                obtain ⟨y_11, ey_11, hL_y_11, hK_y_11, hp⟩ := hp
                refine w_get (k := 17) (f := 20) (T := TX12) (v := .ref y_11) F hK hW hL_a0 hK_a0 (by decide) rfl rfl (by decide) i_17 k_57 (by rw [show wv 17 20 S a0 = va_rf (sR S a0 20) from rfl, ey_11]; rfl) dX12_standsBracket_91 ?_
                refine lv_bipush (v := 67) hx hb dX12_standsBracket_94 (by decide) ?_
                refine lv_aload_n hx hb dX12_standsBracket_96 rfl (lv_at hl 0 rfl) ?_
                refine w_get (k := 17) (f := 27) (T := TX12) (v := .int (sI S a0 27)) F hK hW hL_a0 hK_a0 (by decide) rfl rfl (by decide) i_17 k_367 rfl dX12_standsBracket_97 ?_
                refine lv_iconst (v := 1) hx hb dX12_standsBracket_100 (by decide) ?_
                refine lv_iadd hx hb dX12_standsBracket_101 ?_
                refine lv_imul hx hb dX12_standsBracket_102 ?_
                refine w_callV (va_runS (As := [.int (67 : Int32), .ref y_10, .int ((67 : Int32) * (sI S a0 27)), .ref y_11, .int ((67 : Int32) * ((sI S a0 27) + (1 : Int32)))]) (rest := []) F (c_X12_copies l hL_y_10 hK_y_10 hL_y_11 hK_y_11 hp H.size) (va_cwS 5 hts (wg_S wm_RX12_130 wy_X12_copies) rfl rfl rfl (by decide +kernel) ⟨Nat.le_of_ble_eq_true rfl, Nat.le_of_ble_eq_true rfl⟩) (w_preS hK hW) rfl rfl hl.1 rfl (lv_room (Nat.le_of_ble_eq_true rfl)) dX12_standsBracket_103 ⟨Nat.le_of_ble_eq_true rfl, Nat.le_of_ble_eq_true rfl⟩) hW (fun S_13 H locs hp hW => ?_)
                obtain ⟨hX_S_13, hp⟩ := hp
                refine W.widen (k := 0) (n := 0) (by decide) (by decide) ?_
                have hE := hE.trans hX_S_13
                have hK_a0 : sK S_13 a0 = 17 := (hX_S_13.2 a0 hL_a0).1.trans hK_a0
                have hL_a0 : wM D S_13 a0 := hX_S_13.M hL_a0
                refine lv_aload_n hx hb dX12_standsBracket_106 rfl (lv_at hl 0 rfl) ?_
                refine lv_dup hx hb dX12_standsBracket_107 rfl ?_
                refine w_get (k := 17) (f := 27) (T := TX12) (v := .int (sI S_13 a0 27)) F hK hW hL_a0 hK_a0 (by decide) rfl rfl (by decide) i_17 k_367 rfl dX12_standsBracket_108 ?_
                refine lv_iconst (v := 1) hx hb dX12_standsBracket_111 (by decide) ?_
                refine lv_iadd hx hb dX12_standsBracket_112 ?_
                refine w_putI (k := 17) (f := 27) (T := TX12) F hK hW hL_a0 hK_a0 (by decide) (by decide) rfl rfl (by decide) i_17 tyX12 tyX12_ok nmX12 k_367 rfl rfl (ty := .int) rfl rfl rfl dX12_standsBracket_113 (fun H locs hW => ?_)
                obtain ⟨S_14, eS_14⟩ : ∃ z : wS, z = uI S_13 a0 27 ((sI S_13 a0 27) + (1 : Int32)) := ⟨_, rfl⟩
                rw [← eS_14] at hW
                replace hp := hp S_14 eS_14
                have hX_S_14 : wX D S_13 S_14 := by rw [eS_14]; exact wX_uI
                have hE := hE.trans hX_S_14
                have hK_a0 : sK S_14 a0 = 17 := (hX_S_14.2 a0 hL_a0).1.trans hK_a0
                have hL_a0 : wM D S_14 a0 := hX_S_14.M hL_a0
                refine lv_aload_n hx hb dX12_standsBracket_116 rfl (lv_at hl 0 rfl) ?_
                obtain ⟨y_15, ey_15, hL_y_15, hK_y_15, hp⟩ := hp
                refine w_get (k := 17) (f := 22) (T := TX12) (v := .ref y_15) F hK hW hL_a0 hK_a0 (by decide) rfl rfl (by decide) i_17 k_63 (by rw [show wv 17 22 S_14 a0 = va_rf (sR S_14 a0 22) from rfl, ey_15]; rfl) dX12_standsBracket_117 ?_
                refine lv_aload_n hx hb dX12_standsBracket_120 rfl (lv_at hl 0 rfl) ?_
                refine w_get (k := 17) (f := 27) (T := TX12) (v := .int (sI S_14 a0 27)) F hK hW hL_a0 hK_a0 (by decide) rfl rfl (by decide) i_17 k_367 rfl dX12_standsBracket_121 ?_
                refine lv_iconst (v := 0) hx hb dX12_standsBracket_124 (by decide) ?_
                obtain ⟨h_16m, h_16, hp⟩ := hp
                refine w_ist F hK hW h_16m hK_y_15 h_16 dX12_standsBracket_125 (fun H locs hW => ?_)
                obtain ⟨S_17, eS_17⟩ : ∃ z : wS, z = uI S_14 y_15 ((sI S_14 a0 27)).toNatClampNeg (0 : Int32) := ⟨_, rfl⟩
                rw [← eS_17] at hW
                replace hp := hp S_17 eS_17
                have hX_S_17 : wX D S_14 S_17 := by rw [eS_17]; exact wX_uI
                have hE := hE.trans hX_S_17
                have hK_a0 : sK S_17 a0 = 17 := (hX_S_17.2 a0 hL_a0).1.trans hK_a0
                have hL_a0 : wM D S_17 a0 := hX_S_17.M hL_a0
                refine lv_iconst (v := 1) hx hb dX12_standsBracket_126 (by decide) ?_
                exact w_zret hx hb hr hlocks hW hp.1 ⟨hE, hp.2⟩ dX12_standsBracket_127
          · replace hp := hp.2 c_7
            refine lv_aload_n hx hb dX12_standsBracket_40 rfl (lv_at hl 0 rfl) ?_
            refine lv_dup hx hb dX12_standsBracket_41 rfl ?_
            refine w_get (k := 17) (f := 27) (T := TX12) (v := .int (sI S a0 27)) F hK hW hL_a0 hK_a0 (by decide) rfl rfl (by decide) i_17 k_367 rfl dX12_standsBracket_42 ?_
            refine lv_iconst (v := 1) hx hb dX12_standsBracket_45 (by decide) ?_
            refine lv_isub hx hb dX12_standsBracket_46 ?_
            refine w_putI (k := 17) (f := 27) (T := TX12) F hK hW hL_a0 hK_a0 (by decide) (by decide) rfl rfl (by decide) i_17 tyX12 tyX12_ok nmX12 k_367 rfl rfl (ty := .int) rfl rfl rfl dX12_standsBracket_47 (fun H locs hW => ?_)
            obtain ⟨S_18, eS_18⟩ : ∃ z : wS, z = uI S a0 27 ((sI S a0 27) - (1 : Int32)) := ⟨_, rfl⟩
            rw [← eS_18] at hW
            replace hp := hp S_18 eS_18
            have hX_S_18 : wX D S S_18 := by rw [eS_18]; exact wX_uI
            have hE := hE.trans hX_S_18
            have hK_a0 : sK S_18 a0 = 17 := (hX_S_18.2 a0 hL_a0).1.trans hK_a0
            have hL_a0 : wM D S_18 a0 := hX_S_18.M hL_a0
            refine lv_aload_n hx hb dX12_standsBracket_50 rfl (lv_at hl 0 rfl) ?_
            refine w_get (k := 17) (f := 27) (T := TX12) (v := .int (sI S_18 a0 27)) F hK hW hL_a0 hK_a0 (by decide) rfl rfl (by decide) i_17 k_367 rfl dX12_standsBracket_51 ?_
            refine lv_if_lt (tgt := 61) hx hb dX12_standsBracket_54 (by decide) (fun c_19 => ?_) (fun c_19 => ?_)
            · replace hp := hp.1 c_19
              refine lv_iconst (v := 0) hx hb dX12_standsBracket_61 (by decide) ?_
              exact t_X12_standsBracket_62 F hr hlocks hK hp hW hE (lv_sub hl [] rfl)
            · replace hp := hp.2 c_19
              refine lv_iconst (v := 1) hx hb dX12_standsBracket_57 (by decide) ?_
              refine lv_goto (tgt := 62) hx hb dX12_standsBracket_58 (by decide) ?_
              exact t_X12_standsBracket_62 F hr hlocks hK hp hW hE (lv_sub hl [] rfl)
        · replace hp := hp.2 c_6
          exact t_X12_standsBracket_32 F hr hlocks hK hp hW hE (lv_sub hl [] rfl)
set_option maxHeartbeats 4000000 in
set_option maxRecDepth 100000 in
theorem c_X12_standsBracket (l : Launch) {D : wD} {cy : Nat → ClassId} {X : va_W} {S0 : wS} {post : Int32 → wS → Prop} {a0 : Nat} {x1 : Int32} (hL_a0 : wM D S0 a0) (hK_a0 : sK S0 a0 = 17) (hp : wp_X12_standsBracket D post S0 a0 x1) : mI D cy X l yX12_standsBracket wz_X12_standsBracket r_X12_standsBracket [.ref a0, .int x1] S0 (fun r S9 => wX D S0 S9 ∧ post r S9) := by
  intro sz
  refine Met.ofW (cc := cX12_standsBracket) (maxL := 2) (ret := (some .boolean)) (by decide) rfl ?_
  intro p e s m args below meth c s₁ B hml hv
  obtain ⟨rfl, hsz, hP, hK, hD0, hRO⟩ := hv
  have hts := atoms_spec (ws := wz_X12_standsBracket) B.pre
  have hown : s.vm.findClass RX12 = some m.cls := findClass_of_methodNamed B.named
  subst hsz
  have hD := hD0.self (sz := s.heap.size)
  have F : CallFix p m c cX12_standsBracket 2 s _ wz_X12_standsBracket RX12 := ⟨B.exec, B.bytes, hml, hown, hts⟩
  have hr := B.returns
  have hlocks := B.notSynchronized
  generalize hAe : va_A (wL cy X S0) s.heap.size = A at hD hK ⊢
  have hA : ∀ q, s.heap.size ≤ q → A q := fun q h => by rw [← hAe]; exact Or.inr h
  have hW : wO D cy X A s.heap S0 s.heap [] := ⟨hP, hD, va_S.rf, hA, hRO⟩
  have hl := lv_entry ([.ref a0, .int x1]) (n := 2) (Nat.le_of_ble_eq_true rfl)
  rw [lg_entry_eq]
  generalize (lg_sl ([.ref a0, .int x1]) ++ List.replicate (2 - (lg_sl ([.ref a0, .int x1])).length) Slot.unset).toArray = ls at hl ⊢
  have hl : lv_has ls 2 [(0, .ref a0), (1, .int x1)] := hl
  unfold wp_X12_standsBracket at hp
  exact t_X12_standsBracket_0 F hr hlocks hK hp hW wX.rf (lv_sub hl [0, 1] rfl) hL_a0 hK_a0
def wp_X12_isDigit_0 (D : wD) (post : Int32 → wS → Prop)  (S : wS) (x0 : Int32) : Prop :=
wp_X12_in D (fun r_1 S_2 => 
narrow .boolean (.int r_1) = .int r_1 ∧ post r_1 S_2) S x0 (48 : Int32) (57 : Int32)
abbrev r_X12_isDigit : Room := { frames := 1, cells := 0, slots := 0, locals := 22 }
def wp_X12_isDigit (D : wD) (post : Int32 → wS → Prop) (S : wS) (x0 : Int32) : Prop := wp_X12_isDigit_0 D post S x0
set_option maxHeartbeats 4000000 in
set_option maxRecDepth 100000 in
theorem t_X12_isDigit_0 {p : Program} {l : Launch} {e : Env} {s : State} {m : MethodId} {args : Array Value} {below : List Frame} {meth : Method} {c : Code} {D : wD} {cy : Nat → ClassId} {X : va_W} {A : Nat → Prop} {S0 : wS} {post : Int32 → wS → Prop} (F : CallFix p m c cX12_isDigit 1 s args wz_X12_isDigit RX12) (hr : meth.sig.returnType = (some .boolean)) (hlocks : meth.locks = false) (hK : wK D cy A s) : ∀ {S : wS} {H : Heap} {locs : List Loc} {ls : Array Slot} {x0 : Int32}, wp_X12_isDigit_0 D post S x0 → wO D cy X A s.heap S H locs → wX D S0 S → lv_has ls 1 [(0, .int x0)] → W p l e r_X12_isDigit s m args below meth c H locs 0 0 (MQ below (va_Qi (fun r S9 => wX D S0 S9 ∧ post r S9) (wB D cy X A) A) args s 0 0 A) (F0 m 0 ls []) := by
  obtain ⟨hx, hb, hml, hown, hts⟩ := id F
  have hwg : ∀ w ∈ WG, w.before args s = true := fun w h => hts w (List.mem_cons_of_mem _ h)
  intro S H locs ls x0 hp hW hE hl
  unfold wp_X12_isDigit_0 at hp
  refine lv_iload_n hx hb dX12_isDigit_0 rfl (lv_at hl 0 rfl) ?_
  refine lv_bipush (v := 48) hx hb dX12_isDigit_1 (by decide) ?_
  refine lv_bipush (v := 57) hx hb dX12_isDigit_3 (by decide) ?_
  refine w_callI (va_runS (As := [.int x0, .int (48 : Int32), .int (57 : Int32)]) (rest := []) F (c_X12_in l hp H.size) (va_cwS 3 hts (wg_S wm_RX12_117 wy_X12_in) rfl rfl rfl (by decide +kernel) ⟨Nat.le_of_ble_eq_true rfl, Nat.le_of_ble_eq_true rfl⟩) (w_preS hK hW) rfl rfl hl.1 rfl (lv_room (Nat.le_of_ble_eq_true rfl)) dX12_isDigit_5 ⟨Nat.le_of_ble_eq_true rfl, Nat.le_of_ble_eq_true rfl⟩) hW (fun r_1 S_2 H locs hp hW => ?_)
  obtain ⟨hX_S_2, hp⟩ := hp
  refine W.widen (k := 0) (n := 0) (by decide) (by decide) ?_
  have hE := hE.trans hX_S_2
  exact w_zret hx hb hr hlocks hW hp.1 ⟨hE, hp.2⟩ dX12_isDigit_8
set_option maxHeartbeats 4000000 in
set_option maxRecDepth 100000 in
theorem c_X12_isDigit (l : Launch) {D : wD} {cy : Nat → ClassId} {X : va_W} {S0 : wS} {post : Int32 → wS → Prop} {x0 : Int32} (hp : wp_X12_isDigit D post S0 x0) : mI D cy X l yX12_isDigit wz_X12_isDigit r_X12_isDigit [.int x0] S0 (fun r S9 => wX D S0 S9 ∧ post r S9) := by
  intro sz
  refine Met.ofW (cc := cX12_isDigit) (maxL := 1) (ret := (some .boolean)) (by decide) rfl ?_
  intro p e s m args below meth c s₁ B hml hv
  obtain ⟨rfl, hsz, hP, hK, hD0, hRO⟩ := hv
  have hts := atoms_spec (ws := wz_X12_isDigit) B.pre
  have hown : s.vm.findClass RX12 = some m.cls := findClass_of_methodNamed B.named
  subst hsz
  have hD := hD0.self (sz := s.heap.size)
  have F : CallFix p m c cX12_isDigit 1 s _ wz_X12_isDigit RX12 := ⟨B.exec, B.bytes, hml, hown, hts⟩
  have hr := B.returns
  have hlocks := B.notSynchronized
  generalize hAe : va_A (wL cy X S0) s.heap.size = A at hD hK ⊢
  have hA : ∀ q, s.heap.size ≤ q → A q := fun q h => by rw [← hAe]; exact Or.inr h
  have hW : wO D cy X A s.heap S0 s.heap [] := ⟨hP, hD, va_S.rf, hA, hRO⟩
  have hl := lv_entry ([.int x0]) (n := 1) (Nat.le_of_ble_eq_true rfl)
  rw [lg_entry_eq]
  generalize (lg_sl ([.int x0]) ++ List.replicate (1 - (lg_sl ([.int x0])).length) Slot.unset).toArray = ls at hl ⊢
  have hl : lv_has ls 1 [(0, .int x0)] := hl
  unfold wp_X12_isDigit at hp
  exact t_X12_isDigit_0 F hr hlocks hK hp hW wX.rf (lv_sub hl [0] rfl)
def wp_X12_isNumber_100 (D : wD) (post : Int32 → wS → Prop)  (S : wS) (t0 : Int32) : Prop :=
narrow .boolean (.int t0) = .int t0 ∧ post t0 S
def wp_X12_isNumber_99 (D : wD) (post : Int32 → wS → Prop)  (S : wS) : Prop :=
wp_X12_isNumber_100 D post S (0 : Int32)
def wp_X12_isNumber_85 (D : wD) (post : Int32 → wS → Prop)  (S : wS) (x1 : Int32) (x2 : Int32) (x3 : Int32) (x4 : Int32) : Prop :=
((¬ ((x1 + x3) + x4) = x2 → wp_X12_isNumber_99 D post S) ∧
 (((x1 + x3) + x4) = x2 → wp_X12_isNumber_100 D post S (1 : Int32)))
def wp_X12_isNumber_64 (D : wD) (post : Int32 → wS → Prop)  (S : wS) (x1 : Int32) (x2 : Int32) (x3 : Int32) (x4 : Int32) : Prop :=
wp_X12_in D (fun r_1 S_2 => 
((r_1 = 0 → wp_X12_isNumber_99 D post S_2) ∧
 (¬ r_1 = 0 → ((x4 = (1 : Int32) → wp_X12_isNumber_85 D post S_2 x1 x2 x3 x4) ∧
 (¬ x4 = (1 : Int32) → ((¬ x4 = (3 : Int32) → wp_X12_isNumber_99 D post S_2) ∧
 (x4 = (3 : Int32) → wp_X12_isNumber_85 D post S_2 x1 x2 x3 x4))))))) S x3 (1 : Int32) (3 : Int32)
def wp_X12_isNumber_32 (D : wD) (post : Int32 → wS → Prop)  : Nat → wS → Nat → Int32 → Int32 → Int32 → Int32 → Prop
  | 0, _, _, _, _, _, _ => False
  | n + 1, S, a0, x1, x2, x3, x4 =>
    ((x2 ≤ ((x1 + x3) + x4) → wp_X12_isNumber_64 D post S x1 x2 x3 x4) ∧
     (¬ x2 ≤ ((x1 + x3) + x4) → ∃ y_2 : Nat, sR S a0 12 = some y_2 ∧ wM D S y_2 ∧ sK S y_2 = 21 ∧
    vp_in ((x1 + x3) + x4) (sN S y_2) ∧
    ((¬ (sI S y_2 (((x1 + x3) + x4)).toNatClampNeg) = (46 : Int32) → wp_X12_isNumber_64 D post S x1 x2 x3 x4) ∧
     ((sI S y_2 (((x1 + x3) + x4)).toNatClampNeg) = (46 : Int32) → ∀ x_5 : Int32, x_5 = x4 + 1 →
    wp_X12_isNumber_32 D post n S a0 x1 x2 x3 x_5))))
def wp_X12_isNumber_29 (D : wD) (post : Int32 → wS → Prop)  (S : wS) (a0 : Nat) (x1 : Int32) (x2 : Int32) (x3 : Int32) : Prop :=
∃ n_1 : Nat, wp_X12_isNumber_32 D post n_1 S a0 x1 x2 x3 (0 : Int32)
def wp_X12_isNumber_2 (D : wD) (post : Int32 → wS → Prop)  : Nat → wS → Nat → Int32 → Int32 → Int32 → Prop
  | 0, _, _, _, _, _ => False
  | n + 1, S, a0, x1, x2, x3 =>
    ((x2 ≤ (x1 + x3) → wp_X12_isNumber_29 D post S a0 x1 x2 x3) ∧
     (¬ x2 ≤ (x1 + x3) → ∃ y_2 : Nat, sR S a0 12 = some y_2 ∧ wM D S y_2 ∧ sK S y_2 = 21 ∧
    vp_in (x1 + x3) (sN S y_2) ∧
    wp_X12_isDigit D (fun r_4 S_5 => 
    ((r_4 = 0 → wp_X12_isNumber_29 D post S_5 a0 x1 x2 x3) ∧
     (¬ r_4 = 0 → ∀ x_7 : Int32, x_7 = x3 + 1 →
    wp_X12_isNumber_2 D post n S_5 a0 x1 x2 x_7))) S (sI S y_2 ((x1 + x3)).toNatClampNeg)))
def wp_X12_isNumber_0 (D : wD) (post : Int32 → wS → Prop)  (S : wS) (a0 : Nat) (x1 : Int32) (x2 : Int32) : Prop :=
∃ n_1 : Nat, wp_X12_isNumber_2 D post n_1 S a0 x1 x2 (0 : Int32)
abbrev r_X12_isNumber : Room := { frames := 2, cells := 0, slots := 0, locals := 42 }
def wp_X12_isNumber (D : wD) (post : Int32 → wS → Prop) (S : wS) (a0 : Nat) (x1 : Int32) (x2 : Int32) : Prop := wp_X12_isNumber_0 D post S a0 x1 x2
set_option maxHeartbeats 4000000 in
set_option maxRecDepth 100000 in
theorem t_X12_isNumber_100 {p : Program} {l : Launch} {e : Env} {s : State} {m : MethodId} {args : Array Value} {below : List Frame} {meth : Method} {c : Code} {D : wD} {cy : Nat → ClassId} {X : va_W} {A : Nat → Prop} {S0 : wS} {post : Int32 → wS → Prop} (F : CallFix p m c cX12_isNumber 5 s args wz_X12_isNumber RX12) (hr : meth.sig.returnType = (some .boolean)) (hlocks : meth.locks = false) (hK : wK D cy A s) : ∀ {S : wS} {H : Heap} {locs : List Loc} {ls : Array Slot} {t0 : Int32}, wp_X12_isNumber_100 D post S t0 → wO D cy X A s.heap S H locs → wX D S0 S → lv_has ls 5 [] → W p l e r_X12_isNumber s m args below meth c H locs 0 0 (MQ below (va_Qi (fun r S9 => wX D S0 S9 ∧ post r S9) (wB D cy X A) A) args s 0 0 A) (F0 m 100 ls [.int t0]) := by
  obtain ⟨hx, hb, hml, hown, hts⟩ := id F
  have hwg : ∀ w ∈ WG, w.before args s = true := fun w h => hts w (List.mem_cons_of_mem _ h)
  intro S H locs ls t0 hp hW hE hl
  unfold wp_X12_isNumber_100 at hp
  exact w_zret hx hb hr hlocks hW hp.1 ⟨hE, hp.2⟩ dX12_isNumber_100
set_option maxHeartbeats 4000000 in
set_option maxRecDepth 100000 in
theorem t_X12_isNumber_99 {p : Program} {l : Launch} {e : Env} {s : State} {m : MethodId} {args : Array Value} {below : List Frame} {meth : Method} {c : Code} {D : wD} {cy : Nat → ClassId} {X : va_W} {A : Nat → Prop} {S0 : wS} {post : Int32 → wS → Prop} (F : CallFix p m c cX12_isNumber 5 s args wz_X12_isNumber RX12) (hr : meth.sig.returnType = (some .boolean)) (hlocks : meth.locks = false) (hK : wK D cy A s) : ∀ {S : wS} {H : Heap} {locs : List Loc} {ls : Array Slot}, wp_X12_isNumber_99 D post S → wO D cy X A s.heap S H locs → wX D S0 S → lv_has ls 5 [] → W p l e r_X12_isNumber s m args below meth c H locs 0 0 (MQ below (va_Qi (fun r S9 => wX D S0 S9 ∧ post r S9) (wB D cy X A) A) args s 0 0 A) (F0 m 99 ls []) := by
  obtain ⟨hx, hb, hml, hown, hts⟩ := id F
  have hwg : ∀ w ∈ WG, w.before args s = true := fun w h => hts w (List.mem_cons_of_mem _ h)
  intro S H locs ls hp hW hE hl
  unfold wp_X12_isNumber_99 at hp
  refine lv_iconst (v := 0) hx hb dX12_isNumber_99 (by decide) ?_
  exact t_X12_isNumber_100 F hr hlocks hK hp hW hE (lv_sub hl [] rfl)
set_option maxHeartbeats 4000000 in
set_option maxRecDepth 100000 in
theorem t_X12_isNumber_85 {p : Program} {l : Launch} {e : Env} {s : State} {m : MethodId} {args : Array Value} {below : List Frame} {meth : Method} {c : Code} {D : wD} {cy : Nat → ClassId} {X : va_W} {A : Nat → Prop} {S0 : wS} {post : Int32 → wS → Prop} (F : CallFix p m c cX12_isNumber 5 s args wz_X12_isNumber RX12) (hr : meth.sig.returnType = (some .boolean)) (hlocks : meth.locks = false) (hK : wK D cy A s) : ∀ {S : wS} {H : Heap} {locs : List Loc} {ls : Array Slot} {x1 : Int32} {x2 : Int32} {x3 : Int32} {x4 : Int32}, wp_X12_isNumber_85 D post S x1 x2 x3 x4 → wO D cy X A s.heap S H locs → wX D S0 S → lv_has ls 5 [(1, .int x1), (2, .int x2), (3, .int x3), (4, .int x4)] → W p l e r_X12_isNumber s m args below meth c H locs 0 0 (MQ below (va_Qi (fun r S9 => wX D S0 S9 ∧ post r S9) (wB D cy X A) A) args s 0 0 A) (F0 m 85 ls []) := by
  obtain ⟨hx, hb, hml, hown, hts⟩ := id F
  have hwg : ∀ w ∈ WG, w.before args s = true := fun w h => hts w (List.mem_cons_of_mem _ h)
  intro S H locs ls x1 x2 x3 x4 hp hW hE hl
  unfold wp_X12_isNumber_85 at hp
  refine lv_iload_n hx hb dX12_isNumber_85 rfl (lv_at hl 0 rfl) ?_
  refine lv_iload_n hx hb dX12_isNumber_86 rfl (lv_at hl 2 rfl) ?_
  refine lv_iadd hx hb dX12_isNumber_87 ?_
  refine lv_iload hx hb dX12_isNumber_88 (lv_at hl 3 rfl) ?_
  refine lv_iadd hx hb dX12_isNumber_90 ?_
  refine lv_iload_n hx hb dX12_isNumber_91 rfl (lv_at hl 1 rfl) ?_
  refine lv_icmp_ne (tgt := 99) hx hb dX12_isNumber_92 (by decide) (fun c_1 => ?_) (fun c_1 => ?_)
  · replace hp := hp.1 c_1
    exact t_X12_isNumber_99 F hr hlocks hK hp hW hE (lv_sub hl [] rfl)
  · replace hp := hp.2 c_1
    refine lv_iconst (v := 1) hx hb dX12_isNumber_95 (by decide) ?_
    refine lv_goto (tgt := 100) hx hb dX12_isNumber_96 (by decide) ?_
    exact t_X12_isNumber_100 F hr hlocks hK hp hW hE (lv_sub hl [] rfl)
set_option maxHeartbeats 4000000 in
set_option maxRecDepth 100000 in
theorem t_X12_isNumber_64 {p : Program} {l : Launch} {e : Env} {s : State} {m : MethodId} {args : Array Value} {below : List Frame} {meth : Method} {c : Code} {D : wD} {cy : Nat → ClassId} {X : va_W} {A : Nat → Prop} {S0 : wS} {post : Int32 → wS → Prop} (F : CallFix p m c cX12_isNumber 5 s args wz_X12_isNumber RX12) (hr : meth.sig.returnType = (some .boolean)) (hlocks : meth.locks = false) (hK : wK D cy A s) : ∀ {S : wS} {H : Heap} {locs : List Loc} {ls : Array Slot} {x1 : Int32} {x2 : Int32} {x3 : Int32} {x4 : Int32}, wp_X12_isNumber_64 D post S x1 x2 x3 x4 → wO D cy X A s.heap S H locs → wX D S0 S → lv_has ls 5 [(1, .int x1), (2, .int x2), (3, .int x3), (4, .int x4)] → W p l e r_X12_isNumber s m args below meth c H locs 0 0 (MQ below (va_Qi (fun r S9 => wX D S0 S9 ∧ post r S9) (wB D cy X A) A) args s 0 0 A) (F0 m 64 ls []) := by
  obtain ⟨hx, hb, hml, hown, hts⟩ := id F
  have hwg : ∀ w ∈ WG, w.before args s = true := fun w h => hts w (List.mem_cons_of_mem _ h)
  intro S H locs ls x1 x2 x3 x4 hp hW hE hl
  unfold wp_X12_isNumber_64 at hp
  refine lv_iload_n hx hb dX12_isNumber_64 rfl (lv_at hl 2 rfl) ?_
  refine lv_iconst (v := 1) hx hb dX12_isNumber_65 (by decide) ?_
  refine lv_iconst (v := 3) hx hb dX12_isNumber_66 (by decide) ?_
  refine w_callI (va_runS (As := [.int x3, .int (1 : Int32), .int (3 : Int32)]) (rest := []) F (c_X12_in l hp H.size) (va_cwS 3 hts (wg_S wm_RX12_117 wy_X12_in) rfl rfl rfl (by decide +kernel) ⟨Nat.le_of_ble_eq_true rfl, Nat.le_of_ble_eq_true rfl⟩) (w_preS hK hW) rfl rfl hl.1 rfl (lv_room (Nat.le_of_ble_eq_true rfl)) dX12_isNumber_67 ⟨Nat.le_of_ble_eq_true rfl, Nat.le_of_ble_eq_true rfl⟩) hW (fun r_1 S_2 H locs hp hW => ?_)
  obtain ⟨hX_S_2, hp⟩ := hp
  refine W.widen (k := 0) (n := 0) (by decide) (by decide) ?_
  have hE := hE.trans hX_S_2
  refine lv_if_eq (tgt := 99) hx hb dX12_isNumber_70 (by decide) (fun c_3 => ?_) (fun c_3 => ?_)
  · replace hp := hp.1 c_3
    exact t_X12_isNumber_99 F hr hlocks hK hp hW hE (lv_sub hl [] rfl)
  · replace hp := hp.2 c_3
    refine lv_iload hx hb dX12_isNumber_73 (lv_at hl 3 rfl) ?_
    refine lv_iconst (v := 1) hx hb dX12_isNumber_75 (by decide) ?_
    refine lv_icmp_eq (tgt := 85) hx hb dX12_isNumber_76 (by decide) (fun c_4 => ?_) (fun c_4 => ?_)
    · replace hp := hp.1 c_4
      exact t_X12_isNumber_85 F hr hlocks hK hp hW hE (lv_sub hl [0, 1, 2, 3] rfl)
    · replace hp := hp.2 c_4
      refine lv_iload hx hb dX12_isNumber_79 (lv_at hl 3 rfl) ?_
      refine lv_iconst (v := 3) hx hb dX12_isNumber_81 (by decide) ?_
      refine lv_icmp_ne (tgt := 99) hx hb dX12_isNumber_82 (by decide) (fun c_5 => ?_) (fun c_5 => ?_)
      · replace hp := hp.1 c_5
        exact t_X12_isNumber_99 F hr hlocks hK hp hW hE (lv_sub hl [] rfl)
      · replace hp := hp.2 c_5
        exact t_X12_isNumber_85 F hr hlocks hK hp hW hE (lv_sub hl [0, 1, 2, 3] rfl)
set_option maxHeartbeats 4000000 in
set_option maxRecDepth 100000 in
theorem t_X12_isNumber_32 {p : Program} {l : Launch} {e : Env} {s : State} {m : MethodId} {args : Array Value} {below : List Frame} {meth : Method} {c : Code} {D : wD} {cy : Nat → ClassId} {X : va_W} {A : Nat → Prop} {S0 : wS} {post : Int32 → wS → Prop} (F : CallFix p m c cX12_isNumber 5 s args wz_X12_isNumber RX12) (hr : meth.sig.returnType = (some .boolean)) (hlocks : meth.locks = false) (hK : wK D cy A s) : ∀ (n : Nat) {S : wS} {H : Heap} {locs : List Loc} {ls : Array Slot} {a0 : Nat} {x1 : Int32} {x2 : Int32} {x3 : Int32} {x4 : Int32}, wp_X12_isNumber_32 D post n S a0 x1 x2 x3 x4 → wO D cy X A s.heap S H locs → wX D S0 S → lv_has ls 5 [(0, .ref a0), (1, .int x1), (2, .int x2), (3, .int x3), (4, .int x4)] → wM D S a0 → sK S a0 = 17 → W p l e r_X12_isNumber s m args below meth c H locs 0 0 (MQ below (va_Qi (fun r S9 => wX D S0 S9 ∧ post r S9) (wB D cy X A) A) args s 0 0 A) (F0 m 32 ls []) := by
  obtain ⟨hx, hb, hml, hown, hts⟩ := id F
  have hwg : ∀ w ∈ WG, w.before args s = true := fun w h => hts w (List.mem_cons_of_mem _ h)
  have i_17 : ∀ w ∈ u_ws RX12 TX12 43, w ∈ wz_X12_isNumber := fun w h => List.mem_cons_of_mem _ (wu_17 w h)
  have k_42 := hwg _ wf_RX12_42
  intro n
  induction n with
  | zero =>
    intro S H locs ls a0 x1 x2 x3 x4 hp
    exact hp.elim
  | succ n ih =>
    intro S H locs ls a0 x1 x2 x3 x4 hp hW hE hl hL_a0 hK_a0
    unfold wp_X12_isNumber_32 at hp
    refine lv_iload_n hx hb dX12_isNumber_32 rfl (lv_at hl 1 rfl) ?_
    refine lv_iload_n hx hb dX12_isNumber_33 rfl (lv_at hl 3 rfl) ?_
    refine lv_iadd hx hb dX12_isNumber_34 ?_
    refine lv_iload hx hb dX12_isNumber_35 (lv_at hl 4 rfl) ?_
    refine lv_iadd hx hb dX12_isNumber_37 ?_
    refine lv_iload_n hx hb dX12_isNumber_38 rfl (lv_at hl 2 rfl) ?_
    refine lv_icmp_ge (tgt := 64) hx hb dX12_isNumber_39 (by decide) (fun c_1 => ?_) (fun c_1 => ?_)
    · replace hp := hp.1 c_1
      exact t_X12_isNumber_64 F hr hlocks hK hp hW hE (lv_sub hl [1, 2, 3, 4] rfl)
    · replace hp := hp.2 c_1
      refine lv_aload_n hx hb dX12_isNumber_42 rfl (lv_at hl 0 rfl) ?_
      obtain ⟨y_2, ey_2, hL_y_2, hK_y_2, hp⟩ := hp
      refine w_get (k := 17) (f := 12) (T := TX12) (v := .ref y_2) F hK hW hL_a0 hK_a0 (by decide) rfl rfl (by decide) i_17 k_42 (by rw [show wv 17 12 S a0 = va_rf (sR S a0 12) from rfl, ey_2]; rfl) dX12_isNumber_43 ?_
      refine lv_iload_n hx hb dX12_isNumber_46 rfl (lv_at hl 1 rfl) ?_
      refine lv_iload_n hx hb dX12_isNumber_47 rfl (lv_at hl 3 rfl) ?_
      refine lv_iadd hx hb dX12_isNumber_48 ?_
      refine lv_iload hx hb dX12_isNumber_49 (lv_at hl 4 rfl) ?_
      refine lv_iadd hx hb dX12_isNumber_51 ?_
      obtain ⟨h_3, hp⟩ := hp
      refine w_ild F hK hW hL_y_2 hK_y_2 h_3 dX12_isNumber_52 ?_
      refine lv_bipush (v := 46) hx hb dX12_isNumber_53 (by decide) ?_
      refine lv_icmp_ne (tgt := 64) hx hb dX12_isNumber_55 (by decide) (fun c_4 => ?_) (fun c_4 => ?_)
      · replace hp := hp.1 c_4
        exact t_X12_isNumber_64 F hr hlocks hK hp hW hE (lv_sub hl [1, 2, 3, 4] rfl)
      · replace hp := hp.2 c_4
        obtain ⟨x_5, ex_5⟩ : ∃ z : Int32, z = x4 + 1 := ⟨_, rfl⟩
        replace hp := hp x_5 ex_5
        refine lv_iinc (v := x_5) (lv' := [(4, .int x_5), (0, .ref a0), (1, .int x1), (2, .int x2), (3, .int x3)]) hx hb dX12_isNumber_58 hl (k := 4) rfl (by rw [ex_5]; rfl) (by decide) rfl (fun ls hl => ?_)
        refine lv_goto (tgt := 32) hx hb dX12_isNumber_61 (by decide) ?_
        exact ih hp hW hE (lv_sub hl [1, 2, 3, 4, 0] rfl) hL_a0 hK_a0
set_option maxHeartbeats 4000000 in
set_option maxRecDepth 100000 in
theorem t_X12_isNumber_29 {p : Program} {l : Launch} {e : Env} {s : State} {m : MethodId} {args : Array Value} {below : List Frame} {meth : Method} {c : Code} {D : wD} {cy : Nat → ClassId} {X : va_W} {A : Nat → Prop} {S0 : wS} {post : Int32 → wS → Prop} (F : CallFix p m c cX12_isNumber 5 s args wz_X12_isNumber RX12) (hr : meth.sig.returnType = (some .boolean)) (hlocks : meth.locks = false) (hK : wK D cy A s) : ∀ {S : wS} {H : Heap} {locs : List Loc} {ls : Array Slot} {a0 : Nat} {x1 : Int32} {x2 : Int32} {x3 : Int32}, wp_X12_isNumber_29 D post S a0 x1 x2 x3 → wO D cy X A s.heap S H locs → wX D S0 S → lv_has ls 5 [(0, .ref a0), (1, .int x1), (2, .int x2), (3, .int x3)] → wM D S a0 → sK S a0 = 17 → W p l e r_X12_isNumber s m args below meth c H locs 0 0 (MQ below (va_Qi (fun r S9 => wX D S0 S9 ∧ post r S9) (wB D cy X A) A) args s 0 0 A) (F0 m 29 ls []) := by
  obtain ⟨hx, hb, hml, hown, hts⟩ := id F
  have hwg : ∀ w ∈ WG, w.before args s = true := fun w h => hts w (List.mem_cons_of_mem _ h)
  intro S H locs ls a0 x1 x2 x3 hp hW hE hl hL_a0 hK_a0
  unfold wp_X12_isNumber_29 at hp
  refine lv_iconst (v := 0) hx hb dX12_isNumber_29 (by decide) ?_
  refine lv_istore (lv' := [(4, .int (0 : Int32)), (0, .ref a0), (1, .int x1), (2, .int x2), (3, .int x3)]) hx hb dX12_isNumber_30 hl (by decide) rfl (fun ls hl => ?_)
  obtain ⟨n_1, hp⟩ := hp
  exact t_X12_isNumber_32 F hr hlocks hK n_1 hp hW hE (lv_sub hl [1, 2, 3, 4, 0] rfl) hL_a0 hK_a0
set_option maxHeartbeats 4000000 in
set_option maxRecDepth 100000 in
theorem t_X12_isNumber_2 {p : Program} {l : Launch} {e : Env} {s : State} {m : MethodId} {args : Array Value} {below : List Frame} {meth : Method} {c : Code} {D : wD} {cy : Nat → ClassId} {X : va_W} {A : Nat → Prop} {S0 : wS} {post : Int32 → wS → Prop} (F : CallFix p m c cX12_isNumber 5 s args wz_X12_isNumber RX12) (hr : meth.sig.returnType = (some .boolean)) (hlocks : meth.locks = false) (hK : wK D cy A s) : ∀ (n : Nat) {S : wS} {H : Heap} {locs : List Loc} {ls : Array Slot} {a0 : Nat} {x1 : Int32} {x2 : Int32} {x3 : Int32}, wp_X12_isNumber_2 D post n S a0 x1 x2 x3 → wO D cy X A s.heap S H locs → wX D S0 S → lv_has ls 5 [(0, .ref a0), (1, .int x1), (2, .int x2), (3, .int x3)] → wM D S a0 → sK S a0 = 17 → W p l e r_X12_isNumber s m args below meth c H locs 0 0 (MQ below (va_Qi (fun r S9 => wX D S0 S9 ∧ post r S9) (wB D cy X A) A) args s 0 0 A) (F0 m 2 ls []) := by
  obtain ⟨hx, hb, hml, hown, hts⟩ := id F
  have hwg : ∀ w ∈ WG, w.before args s = true := fun w h => hts w (List.mem_cons_of_mem _ h)
  have i_17 : ∀ w ∈ u_ws RX12 TX12 43, w ∈ wz_X12_isNumber := fun w h => List.mem_cons_of_mem _ (wu_17 w h)
  have k_42 := hwg _ wf_RX12_42
  intro n
  induction n with
  | zero =>
    intro S H locs ls a0 x1 x2 x3 hp
    exact hp.elim
  | succ n ih =>
    intro S H locs ls a0 x1 x2 x3 hp hW hE hl hL_a0 hK_a0
    unfold wp_X12_isNumber_2 at hp
    refine lv_iload_n hx hb dX12_isNumber_2 rfl (lv_at hl 1 rfl) ?_
    refine lv_iload_n hx hb dX12_isNumber_3 rfl (lv_at hl 3 rfl) ?_
    refine lv_iadd hx hb dX12_isNumber_4 ?_
    refine lv_iload_n hx hb dX12_isNumber_5 rfl (lv_at hl 2 rfl) ?_
    refine lv_icmp_ge (tgt := 29) hx hb dX12_isNumber_6 (by decide) (fun c_1 => ?_) (fun c_1 => ?_)
    · replace hp := hp.1 c_1
      exact t_X12_isNumber_29 F hr hlocks hK hp hW hE (lv_sub hl [0, 1, 2, 3] rfl) hL_a0 hK_a0
    · replace hp := hp.2 c_1
      refine lv_aload_n hx hb dX12_isNumber_9 rfl (lv_at hl 0 rfl) ?_
      obtain ⟨y_2, ey_2, hL_y_2, hK_y_2, hp⟩ := hp
      refine w_get (k := 17) (f := 12) (T := TX12) (v := .ref y_2) F hK hW hL_a0 hK_a0 (by decide) rfl rfl (by decide) i_17 k_42 (by rw [show wv 17 12 S a0 = va_rf (sR S a0 12) from rfl, ey_2]; rfl) dX12_isNumber_10 ?_
      refine lv_iload_n hx hb dX12_isNumber_13 rfl (lv_at hl 1 rfl) ?_
      refine lv_iload_n hx hb dX12_isNumber_14 rfl (lv_at hl 3 rfl) ?_
      refine lv_iadd hx hb dX12_isNumber_15 ?_
      obtain ⟨h_3, hp⟩ := hp
      refine w_ild F hK hW hL_y_2 hK_y_2 h_3 dX12_isNumber_16 ?_
      refine w_callI (va_runS (As := [.int (sI S y_2 ((x1 + x3)).toNatClampNeg)]) (rest := []) F (c_X12_isDigit l hp H.size) (va_cwS 1 hts (wg_S wm_RX12_345 wy_X12_isDigit) rfl rfl rfl (by decide +kernel) ⟨Nat.le_of_ble_eq_true rfl, Nat.le_of_ble_eq_true rfl⟩) (w_preS hK hW) rfl rfl hl.1 rfl (lv_room (Nat.le_of_ble_eq_true rfl)) dX12_isNumber_17 ⟨Nat.le_of_ble_eq_true rfl, Nat.le_of_ble_eq_true rfl⟩) hW (fun r_4 S_5 H locs hp hW => ?_)
      obtain ⟨hX_S_5, hp⟩ := hp
      refine W.widen (k := 0) (n := 0) (by decide) (by decide) ?_
      have hE := hE.trans hX_S_5
      have hK_a0 : sK S_5 a0 = 17 := (hX_S_5.2 a0 hL_a0).1.trans hK_a0
      have hL_a0 : wM D S_5 a0 := hX_S_5.M hL_a0
      refine lv_if_eq (tgt := 29) hx hb dX12_isNumber_20 (by decide) (fun c_6 => ?_) (fun c_6 => ?_)
      · replace hp := hp.1 c_6
        exact t_X12_isNumber_29 F hr hlocks hK hp hW hE (lv_sub hl [0, 1, 2, 3] rfl) hL_a0 hK_a0
      · replace hp := hp.2 c_6
        obtain ⟨x_7, ex_7⟩ : ∃ z : Int32, z = x3 + 1 := ⟨_, rfl⟩
        replace hp := hp x_7 ex_7
        refine lv_iinc (v := x_7) (lv' := [(3, .int x_7), (0, .ref a0), (1, .int x1), (2, .int x2)]) hx hb dX12_isNumber_23 hl (k := 3) rfl (by rw [ex_7]; rfl) (by decide) rfl (fun ls hl => ?_)
        refine lv_goto (tgt := 2) hx hb dX12_isNumber_26 (by decide) ?_
        exact ih hp hW hE (lv_sub hl [1, 2, 3, 0] rfl) hL_a0 hK_a0
set_option maxHeartbeats 4000000 in
set_option maxRecDepth 100000 in
theorem t_X12_isNumber_0 {p : Program} {l : Launch} {e : Env} {s : State} {m : MethodId} {args : Array Value} {below : List Frame} {meth : Method} {c : Code} {D : wD} {cy : Nat → ClassId} {X : va_W} {A : Nat → Prop} {S0 : wS} {post : Int32 → wS → Prop} (F : CallFix p m c cX12_isNumber 5 s args wz_X12_isNumber RX12) (hr : meth.sig.returnType = (some .boolean)) (hlocks : meth.locks = false) (hK : wK D cy A s) : ∀ {S : wS} {H : Heap} {locs : List Loc} {ls : Array Slot} {a0 : Nat} {x1 : Int32} {x2 : Int32}, wp_X12_isNumber_0 D post S a0 x1 x2 → wO D cy X A s.heap S H locs → wX D S0 S → lv_has ls 5 [(0, .ref a0), (1, .int x1), (2, .int x2)] → wM D S a0 → sK S a0 = 17 → W p l e r_X12_isNumber s m args below meth c H locs 0 0 (MQ below (va_Qi (fun r S9 => wX D S0 S9 ∧ post r S9) (wB D cy X A) A) args s 0 0 A) (F0 m 0 ls []) := by
  obtain ⟨hx, hb, hml, hown, hts⟩ := id F
  have hwg : ∀ w ∈ WG, w.before args s = true := fun w h => hts w (List.mem_cons_of_mem _ h)
  intro S H locs ls a0 x1 x2 hp hW hE hl hL_a0 hK_a0
  unfold wp_X12_isNumber_0 at hp
  refine lv_iconst (v := 0) hx hb dX12_isNumber_0 (by decide) ?_
  refine lv_istore_n (lv' := [(3, .int (0 : Int32)), (0, .ref a0), (1, .int x1), (2, .int x2)]) hx hb dX12_isNumber_1 rfl hl (by decide) rfl (fun ls hl => ?_)
  obtain ⟨n_1, hp⟩ := hp
  exact t_X12_isNumber_2 F hr hlocks hK n_1 hp hW hE (lv_sub hl [1, 2, 3, 0] rfl) hL_a0 hK_a0
set_option maxHeartbeats 4000000 in
set_option maxRecDepth 100000 in
theorem c_X12_isNumber (l : Launch) {D : wD} {cy : Nat → ClassId} {X : va_W} {S0 : wS} {post : Int32 → wS → Prop} {a0 : Nat} {x1 : Int32} {x2 : Int32} (hL_a0 : wM D S0 a0) (hK_a0 : sK S0 a0 = 17) (hp : wp_X12_isNumber D post S0 a0 x1 x2) : mI D cy X l yX12_isNumber wz_X12_isNumber r_X12_isNumber [.ref a0, .int x1, .int x2] S0 (fun r S9 => wX D S0 S9 ∧ post r S9) := by
  intro sz
  refine Met.ofW (cc := cX12_isNumber) (maxL := 5) (ret := (some .boolean)) (by decide) rfl ?_
  intro p e s m args below meth c s₁ B hml hv
  obtain ⟨rfl, hsz, hP, hK, hD0, hRO⟩ := hv
  have hts := atoms_spec (ws := wz_X12_isNumber) B.pre
  have hown : s.vm.findClass RX12 = some m.cls := findClass_of_methodNamed B.named
  subst hsz
  have hD := hD0.self (sz := s.heap.size)
  have F : CallFix p m c cX12_isNumber 5 s _ wz_X12_isNumber RX12 := ⟨B.exec, B.bytes, hml, hown, hts⟩
  have hr := B.returns
  have hlocks := B.notSynchronized
  generalize hAe : va_A (wL cy X S0) s.heap.size = A at hD hK ⊢
  have hA : ∀ q, s.heap.size ≤ q → A q := fun q h => by rw [← hAe]; exact Or.inr h
  have hW : wO D cy X A s.heap S0 s.heap [] := ⟨hP, hD, va_S.rf, hA, hRO⟩
  have hl := lv_entry ([.ref a0, .int x1, .int x2]) (n := 5) (Nat.le_of_ble_eq_true rfl)
  rw [lg_entry_eq]
  generalize (lg_sl ([.ref a0, .int x1, .int x2]) ++ List.replicate (5 - (lg_sl ([.ref a0, .int x1, .int x2])).length) Slot.unset).toArray = ls at hl ⊢
  have hl : lv_has ls 5 [(0, .ref a0), (1, .int x1), (2, .int x2)] := hl
  unfold wp_X12_isNumber at hp
  exact t_X12_isNumber_0 F hr hlocks hK hp hW wX.rf (lv_sub hl [0, 1, 2] rfl) hL_a0 hK_a0
def wp_X12_isHalf_42 (D : wD) (post : Int32 → wS → Prop)  (S : wS) (t0 : Int32) : Prop :=
narrow .boolean (.int t0) = .int t0 ∧ post t0 S
def wp_X12_isHalf_41 (D : wD) (post : Int32 → wS → Prop)  (S : wS) : Prop :=
wp_X12_isHalf_42 D post S (0 : Int32)
def wp_X12_isHalf_0 (D : wD) (post : Int32 → wS → Prop)  (S : wS) (a0 : Nat) (x1 : Int32) : Prop :=
∃ y_1 : Nat, sR S a0 12 = some y_1 ∧ wM D S y_1 ∧ sK S y_1 = 21 ∧
vp_in x1 (sN S y_1) ∧
((¬ (sI S y_1 (x1).toNatClampNeg) = (49 : Int32) → wp_X12_isHalf_41 D post S) ∧
 ((sI S y_1 (x1).toNatClampNeg) = (49 : Int32) → ∃ y_4 : Nat, sR S a0 12 = some y_4 ∧ wM D S y_4 ∧ sK S y_4 = 21 ∧
vp_in (x1 + (1 : Int32)) (sN S y_4) ∧
((¬ (sI S y_4 ((x1 + (1 : Int32))).toNatClampNeg) = (47 : Int32) → wp_X12_isHalf_41 D post S) ∧
 ((sI S y_4 ((x1 + (1 : Int32))).toNatClampNeg) = (47 : Int32) → ∃ y_7 : Nat, sR S a0 12 = some y_7 ∧ wM D S y_7 ∧ sK S y_7 = 21 ∧
vp_in (x1 + (2 : Int32)) (sN S y_7) ∧
((¬ (sI S y_7 ((x1 + (2 : Int32))).toNatClampNeg) = (50 : Int32) → wp_X12_isHalf_41 D post S) ∧
 ((sI S y_7 ((x1 + (2 : Int32))).toNatClampNeg) = (50 : Int32) → wp_X12_isHalf_42 D post S (1 : Int32)))))))
abbrev r_X12_isHalf : Room := { frames := 0, cells := 0, slots := 0, locals := 0 }
def wp_X12_isHalf (D : wD) (post : Int32 → wS → Prop) (S : wS) (a0 : Nat) (x1 : Int32) : Prop := wp_X12_isHalf_0 D post S a0 x1
set_option maxHeartbeats 4000000 in
set_option maxRecDepth 100000 in
theorem t_X12_isHalf_42 {p : Program} {l : Launch} {e : Env} {s : State} {m : MethodId} {args : Array Value} {below : List Frame} {meth : Method} {c : Code} {D : wD} {cy : Nat → ClassId} {X : va_W} {A : Nat → Prop} {S0 : wS} {post : Int32 → wS → Prop} (F : CallFix p m c cX12_isHalf 2 s args wz_X12_isHalf RX12) (hr : meth.sig.returnType = (some .boolean)) (hlocks : meth.locks = false) (hK : wK D cy A s) : ∀ {S : wS} {H : Heap} {locs : List Loc} {ls : Array Slot} {t0 : Int32}, wp_X12_isHalf_42 D post S t0 → wO D cy X A s.heap S H locs → wX D S0 S → lv_has ls 2 [] → W p l e r_X12_isHalf s m args below meth c H locs 0 0 (MQ below (va_Qi (fun r S9 => wX D S0 S9 ∧ post r S9) (wB D cy X A) A) args s 0 0 A) (F0 m 42 ls [.int t0]) := by
  obtain ⟨hx, hb, hml, hown, hts⟩ := id F
  have hwg : ∀ w ∈ WG, w.before args s = true := fun w h => hts w (List.mem_cons_of_mem _ h)
  intro S H locs ls t0 hp hW hE hl
  unfold wp_X12_isHalf_42 at hp
  exact w_zret hx hb hr hlocks hW hp.1 ⟨hE, hp.2⟩ dX12_isHalf_42
set_option maxHeartbeats 4000000 in
set_option maxRecDepth 100000 in
theorem t_X12_isHalf_41 {p : Program} {l : Launch} {e : Env} {s : State} {m : MethodId} {args : Array Value} {below : List Frame} {meth : Method} {c : Code} {D : wD} {cy : Nat → ClassId} {X : va_W} {A : Nat → Prop} {S0 : wS} {post : Int32 → wS → Prop} (F : CallFix p m c cX12_isHalf 2 s args wz_X12_isHalf RX12) (hr : meth.sig.returnType = (some .boolean)) (hlocks : meth.locks = false) (hK : wK D cy A s) : ∀ {S : wS} {H : Heap} {locs : List Loc} {ls : Array Slot}, wp_X12_isHalf_41 D post S → wO D cy X A s.heap S H locs → wX D S0 S → lv_has ls 2 [] → W p l e r_X12_isHalf s m args below meth c H locs 0 0 (MQ below (va_Qi (fun r S9 => wX D S0 S9 ∧ post r S9) (wB D cy X A) A) args s 0 0 A) (F0 m 41 ls []) := by
  obtain ⟨hx, hb, hml, hown, hts⟩ := id F
  have hwg : ∀ w ∈ WG, w.before args s = true := fun w h => hts w (List.mem_cons_of_mem _ h)
  intro S H locs ls hp hW hE hl
  unfold wp_X12_isHalf_41 at hp
  refine lv_iconst (v := 0) hx hb dX12_isHalf_41 (by decide) ?_
  exact t_X12_isHalf_42 F hr hlocks hK hp hW hE (lv_sub hl [] rfl)
set_option maxHeartbeats 4000000 in
set_option maxRecDepth 100000 in
theorem t_X12_isHalf_0 {p : Program} {l : Launch} {e : Env} {s : State} {m : MethodId} {args : Array Value} {below : List Frame} {meth : Method} {c : Code} {D : wD} {cy : Nat → ClassId} {X : va_W} {A : Nat → Prop} {S0 : wS} {post : Int32 → wS → Prop} (F : CallFix p m c cX12_isHalf 2 s args wz_X12_isHalf RX12) (hr : meth.sig.returnType = (some .boolean)) (hlocks : meth.locks = false) (hK : wK D cy A s) : ∀ {S : wS} {H : Heap} {locs : List Loc} {ls : Array Slot} {a0 : Nat} {x1 : Int32}, wp_X12_isHalf_0 D post S a0 x1 → wO D cy X A s.heap S H locs → wX D S0 S → lv_has ls 2 [(0, .ref a0), (1, .int x1)] → wM D S a0 → sK S a0 = 17 → W p l e r_X12_isHalf s m args below meth c H locs 0 0 (MQ below (va_Qi (fun r S9 => wX D S0 S9 ∧ post r S9) (wB D cy X A) A) args s 0 0 A) (F0 m 0 ls []) := by
  obtain ⟨hx, hb, hml, hown, hts⟩ := id F
  have hwg : ∀ w ∈ WG, w.before args s = true := fun w h => hts w (List.mem_cons_of_mem _ h)
  have i_17 : ∀ w ∈ u_ws RX12 TX12 43, w ∈ wz_X12_isHalf := fun w h => List.mem_cons_of_mem _ (wu_17 w h)
  have k_42 := hwg _ wf_RX12_42
  intro S H locs ls a0 x1 hp hW hE hl hL_a0 hK_a0
  unfold wp_X12_isHalf_0 at hp
  refine lv_aload_n hx hb dX12_isHalf_0 rfl (lv_at hl 0 rfl) ?_
  obtain ⟨y_1, ey_1, hL_y_1, hK_y_1, hp⟩ := hp
  refine w_get (k := 17) (f := 12) (T := TX12) (v := .ref y_1) F hK hW hL_a0 hK_a0 (by decide) rfl rfl (by decide) i_17 k_42 (by rw [show wv 17 12 S a0 = va_rf (sR S a0 12) from rfl, ey_1]; rfl) dX12_isHalf_1 ?_
  refine lv_iload_n hx hb dX12_isHalf_4 rfl (lv_at hl 1 rfl) ?_
  obtain ⟨h_2, hp⟩ := hp
  refine w_ild F hK hW hL_y_1 hK_y_1 h_2 dX12_isHalf_5 ?_
  refine lv_bipush (v := 49) hx hb dX12_isHalf_6 (by decide) ?_
  refine lv_icmp_ne (tgt := 41) hx hb dX12_isHalf_8 (by decide) (fun c_3 => ?_) (fun c_3 => ?_)
  · replace hp := hp.1 c_3
    exact t_X12_isHalf_41 F hr hlocks hK hp hW hE (lv_sub hl [] rfl)
  · replace hp := hp.2 c_3
    refine lv_aload_n hx hb dX12_isHalf_11 rfl (lv_at hl 0 rfl) ?_
    obtain ⟨y_4, ey_4, hL_y_4, hK_y_4, hp⟩ := hp
    refine w_get (k := 17) (f := 12) (T := TX12) (v := .ref y_4) F hK hW hL_a0 hK_a0 (by decide) rfl rfl (by decide) i_17 k_42 (by rw [show wv 17 12 S a0 = va_rf (sR S a0 12) from rfl, ey_4]; rfl) dX12_isHalf_12 ?_
    refine lv_iload_n hx hb dX12_isHalf_15 rfl (lv_at hl 1 rfl) ?_
    refine lv_iconst (v := 1) hx hb dX12_isHalf_16 (by decide) ?_
    refine lv_iadd hx hb dX12_isHalf_17 ?_
    obtain ⟨h_5, hp⟩ := hp
    refine w_ild F hK hW hL_y_4 hK_y_4 h_5 dX12_isHalf_18 ?_
    refine lv_bipush (v := 47) hx hb dX12_isHalf_19 (by decide) ?_
    refine lv_icmp_ne (tgt := 41) hx hb dX12_isHalf_21 (by decide) (fun c_6 => ?_) (fun c_6 => ?_)
    · replace hp := hp.1 c_6
      exact t_X12_isHalf_41 F hr hlocks hK hp hW hE (lv_sub hl [] rfl)
    · replace hp := hp.2 c_6
      refine lv_aload_n hx hb dX12_isHalf_24 rfl (lv_at hl 0 rfl) ?_
      obtain ⟨y_7, ey_7, hL_y_7, hK_y_7, hp⟩ := hp
      refine w_get (k := 17) (f := 12) (T := TX12) (v := .ref y_7) F hK hW hL_a0 hK_a0 (by decide) rfl rfl (by decide) i_17 k_42 (by rw [show wv 17 12 S a0 = va_rf (sR S a0 12) from rfl, ey_7]; rfl) dX12_isHalf_25 ?_
      refine lv_iload_n hx hb dX12_isHalf_28 rfl (lv_at hl 1 rfl) ?_
      refine lv_iconst (v := 2) hx hb dX12_isHalf_29 (by decide) ?_
      refine lv_iadd hx hb dX12_isHalf_30 ?_
      obtain ⟨h_8, hp⟩ := hp
      refine w_ild F hK hW hL_y_7 hK_y_7 h_8 dX12_isHalf_31 ?_
      refine lv_bipush (v := 50) hx hb dX12_isHalf_32 (by decide) ?_
      refine lv_icmp_ne (tgt := 41) hx hb dX12_isHalf_34 (by decide) (fun c_9 => ?_) (fun c_9 => ?_)
      · replace hp := hp.1 c_9
        exact t_X12_isHalf_41 F hr hlocks hK hp hW hE (lv_sub hl [] rfl)
      · replace hp := hp.2 c_9
        refine lv_iconst (v := 1) hx hb dX12_isHalf_37 (by decide) ?_
        refine lv_goto (tgt := 42) hx hb dX12_isHalf_38 (by decide) ?_
        exact t_X12_isHalf_42 F hr hlocks hK hp hW hE (lv_sub hl [] rfl)
set_option maxHeartbeats 4000000 in
set_option maxRecDepth 100000 in
theorem c_X12_isHalf (l : Launch) {D : wD} {cy : Nat → ClassId} {X : va_W} {S0 : wS} {post : Int32 → wS → Prop} {a0 : Nat} {x1 : Int32} (hL_a0 : wM D S0 a0) (hK_a0 : sK S0 a0 = 17) (hp : wp_X12_isHalf D post S0 a0 x1) : mI D cy X l yX12_isHalf wz_X12_isHalf r_X12_isHalf [.ref a0, .int x1] S0 (fun r S9 => wX D S0 S9 ∧ post r S9) := by
  intro sz
  refine Met.ofW (cc := cX12_isHalf) (maxL := 2) (ret := (some .boolean)) (by decide) rfl ?_
  intro p e s m args below meth c s₁ B hml hv
  obtain ⟨rfl, hsz, hP, hK, hD0, hRO⟩ := hv
  have hts := atoms_spec (ws := wz_X12_isHalf) B.pre
  have hown : s.vm.findClass RX12 = some m.cls := findClass_of_methodNamed B.named
  subst hsz
  have hD := hD0.self (sz := s.heap.size)
  have F : CallFix p m c cX12_isHalf 2 s _ wz_X12_isHalf RX12 := ⟨B.exec, B.bytes, hml, hown, hts⟩
  have hr := B.returns
  have hlocks := B.notSynchronized
  generalize hAe : va_A (wL cy X S0) s.heap.size = A at hD hK ⊢
  have hA : ∀ q, s.heap.size ≤ q → A q := fun q h => by rw [← hAe]; exact Or.inr h
  have hW : wO D cy X A s.heap S0 s.heap [] := ⟨hP, hD, va_S.rf, hA, hRO⟩
  have hl := lv_entry ([.ref a0, .int x1]) (n := 2) (Nat.le_of_ble_eq_true rfl)
  rw [lg_entry_eq]
  generalize (lg_sl ([.ref a0, .int x1]) ++ List.replicate (2 - (lg_sl ([.ref a0, .int x1])).length) Slot.unset).toArray = ls at hl ⊢
  have hl : lv_has ls 2 [(0, .ref a0), (1, .int x1)] := hl
  unfold wp_X12_isHalf at hp
  exact t_X12_isHalf_0 F hr hlocks hK hp hW wX.rf (lv_sub hl [0, 1] rfl) hL_a0 hK_a0
def wp_X12_isResult_140 (D : wD) (post : Int32 → wS → Prop)  (S : wS) (t0 : Int32) : Prop :=
narrow .boolean (.int t0) = .int t0 ∧ post t0 S
def wp_X12_isResult_139 (D : wD) (post : Int32 → wS → Prop)  (S : wS) : Prop :=
wp_X12_isResult_140 D post S (0 : Int32)
def wp_X12_isResult_97 (D : wD) (post : Int32 → wS → Prop)  (S : wS) (t0 : Int32) : Prop :=
narrow .boolean (.int t0) = .int t0 ∧ post t0 S
def wp_X12_isResult_96 (D : wD) (post : Int32 → wS → Prop)  (S : wS) : Prop :=
wp_X12_isResult_97 D post S (0 : Int32)
def wp_X12_isResult_92 (D : wD) (post : Int32 → wS → Prop)  (S : wS) : Prop :=
wp_X12_isResult_97 D post S (1 : Int32)
def wp_X12_isResult_68 (D : wD) (post : Int32 → wS → Prop)  (S : wS) (a0 : Nat) (x1 : Int32) : Prop :=
∃ y_1 : Nat, sR S a0 12 = some y_1 ∧ wM D S y_1 ∧ sK S y_1 = 21 ∧
vp_in x1 (sN S y_1) ∧
((¬ (sI S y_1 (x1).toNatClampNeg) = (48 : Int32) → wp_X12_isResult_96 D post S) ∧
 ((sI S y_1 (x1).toNatClampNeg) = (48 : Int32) → ∃ y_4 : Nat, sR S a0 12 = some y_4 ∧ wM D S y_4 ∧ sK S y_4 = 21 ∧
vp_in (x1 + (2 : Int32)) (sN S y_4) ∧
((¬ (sI S y_4 ((x1 + (2 : Int32))).toNatClampNeg) = (49 : Int32) → wp_X12_isResult_96 D post S) ∧
 ((sI S y_4 ((x1 + (2 : Int32))).toNatClampNeg) = (49 : Int32) → wp_X12_isResult_92 D post S))))
def wp_X12_isResult_25 (D : wD) (post : Int32 → wS → Prop)  (S : wS) (t0 : Int32) : Prop :=
narrow .boolean (.int t0) = .int t0 ∧ post t0 S
def wp_X12_isResult_0 (D : wD) (post : Int32 → wS → Prop)  (S : wS) (a0 : Nat) (x1 : Int32) (x2 : Int32) : Prop :=
∀ x_1 : Int32, x_1 = (x2 - x1) →
((¬ x_1 = (1 : Int32) → ((¬ x_1 = (3 : Int32) → ((¬ x_1 = (7 : Int32) → wp_X12_isResult_139 D post S) ∧
 (x_1 = (7 : Int32) → wp_X12_isHalf D (fun r_5 S_6 => 
((r_5 = 0 → wp_X12_isResult_139 D post S_6) ∧
 (¬ r_5 = 0 → ∃ y_8 : Nat, sR S_6 a0 12 = some y_8 ∧ wM D S_6 y_8 ∧ sK S_6 y_8 = 21 ∧
vp_in (x1 + (3 : Int32)) (sN S_6 y_8) ∧
((¬ (sI S_6 y_8 ((x1 + (3 : Int32))).toNatClampNeg) = (45 : Int32) → wp_X12_isResult_139 D post S_6) ∧
 ((sI S_6 y_8 ((x1 + (3 : Int32))).toNatClampNeg) = (45 : Int32) → wp_X12_isHalf D (fun r_11 S_12 => 
((r_11 = 0 → wp_X12_isResult_139 D post S_12) ∧
 (¬ r_11 = 0 → wp_X12_isResult_140 D post S_12 (1 : Int32)))) S_6 a0 (x1 + (4 : Int32))))))) S a0 x1))) ∧
 (x_1 = (3 : Int32) → ∃ y_14 : Nat, sR S a0 12 = some y_14 ∧ wM D S y_14 ∧ sK S y_14 = 21 ∧
vp_in (x1 + (1 : Int32)) (sN S y_14) ∧
((¬ (sI S y_14 ((x1 + (1 : Int32))).toNatClampNeg) = (45 : Int32) → wp_X12_isResult_96 D post S) ∧
 ((sI S y_14 ((x1 + (1 : Int32))).toNatClampNeg) = (45 : Int32) → ∃ y_17 : Nat, sR S a0 12 = some y_17 ∧ wM D S y_17 ∧ sK S y_17 = 21 ∧
vp_in x1 (sN S y_17) ∧
((¬ (sI S y_17 (x1).toNatClampNeg) = (49 : Int32) → wp_X12_isResult_68 D post S a0 x1) ∧
 ((sI S y_17 (x1).toNatClampNeg) = (49 : Int32) → ∃ y_20 : Nat, sR S a0 12 = some y_20 ∧ wM D S y_20 ∧ sK S y_20 = 21 ∧
vp_in (x1 + (2 : Int32)) (sN S y_20) ∧
(((sI S y_20 ((x1 + (2 : Int32))).toNatClampNeg) = (48 : Int32) → wp_X12_isResult_92 D post S) ∧
 (¬ (sI S y_20 ((x1 + (2 : Int32))).toNatClampNeg) = (48 : Int32) → wp_X12_isResult_68 D post S a0 x1))))))))) ∧
 (x_1 = (1 : Int32) → ∃ y_23 : Nat, sR S a0 12 = some y_23 ∧ wM D S y_23 ∧ sK S y_23 = 21 ∧
vp_in x1 (sN S y_23) ∧
((¬ (sI S y_23 (x1).toNatClampNeg) = (42 : Int32) → wp_X12_isResult_25 D post S (0 : Int32)) ∧
 ((sI S y_23 (x1).toNatClampNeg) = (42 : Int32) → wp_X12_isResult_25 D post S (1 : Int32)))))
abbrev r_X12_isResult : Room := { frames := 1, cells := 0, slots := 0, locals := 21 }
def wp_X12_isResult (D : wD) (post : Int32 → wS → Prop) (S : wS) (a0 : Nat) (x1 : Int32) (x2 : Int32) : Prop := wp_X12_isResult_0 D post S a0 x1 x2
set_option maxHeartbeats 4000000 in
set_option maxRecDepth 100000 in
theorem t_X12_isResult_140 {p : Program} {l : Launch} {e : Env} {s : State} {m : MethodId} {args : Array Value} {below : List Frame} {meth : Method} {c : Code} {D : wD} {cy : Nat → ClassId} {X : va_W} {A : Nat → Prop} {S0 : wS} {post : Int32 → wS → Prop} (F : CallFix p m c cX12_isResult 4 s args wz_X12_isResult RX12) (hr : meth.sig.returnType = (some .boolean)) (hlocks : meth.locks = false) (hK : wK D cy A s) : ∀ {S : wS} {H : Heap} {locs : List Loc} {ls : Array Slot} {t0 : Int32}, wp_X12_isResult_140 D post S t0 → wO D cy X A s.heap S H locs → wX D S0 S → lv_has ls 4 [] → W p l e r_X12_isResult s m args below meth c H locs 0 0 (MQ below (va_Qi (fun r S9 => wX D S0 S9 ∧ post r S9) (wB D cy X A) A) args s 0 0 A) (F0 m 140 ls [.int t0]) := by
  obtain ⟨hx, hb, hml, hown, hts⟩ := id F
  have hwg : ∀ w ∈ WG, w.before args s = true := fun w h => hts w (List.mem_cons_of_mem _ h)
  intro S H locs ls t0 hp hW hE hl
  unfold wp_X12_isResult_140 at hp
  exact w_zret hx hb hr hlocks hW hp.1 ⟨hE, hp.2⟩ dX12_isResult_140
set_option maxHeartbeats 4000000 in
set_option maxRecDepth 100000 in
theorem t_X12_isResult_139 {p : Program} {l : Launch} {e : Env} {s : State} {m : MethodId} {args : Array Value} {below : List Frame} {meth : Method} {c : Code} {D : wD} {cy : Nat → ClassId} {X : va_W} {A : Nat → Prop} {S0 : wS} {post : Int32 → wS → Prop} (F : CallFix p m c cX12_isResult 4 s args wz_X12_isResult RX12) (hr : meth.sig.returnType = (some .boolean)) (hlocks : meth.locks = false) (hK : wK D cy A s) : ∀ {S : wS} {H : Heap} {locs : List Loc} {ls : Array Slot}, wp_X12_isResult_139 D post S → wO D cy X A s.heap S H locs → wX D S0 S → lv_has ls 4 [] → W p l e r_X12_isResult s m args below meth c H locs 0 0 (MQ below (va_Qi (fun r S9 => wX D S0 S9 ∧ post r S9) (wB D cy X A) A) args s 0 0 A) (F0 m 139 ls []) := by
  obtain ⟨hx, hb, hml, hown, hts⟩ := id F
  have hwg : ∀ w ∈ WG, w.before args s = true := fun w h => hts w (List.mem_cons_of_mem _ h)
  intro S H locs ls hp hW hE hl
  unfold wp_X12_isResult_139 at hp
  refine lv_iconst (v := 0) hx hb dX12_isResult_139 (by decide) ?_
  exact t_X12_isResult_140 F hr hlocks hK hp hW hE (lv_sub hl [] rfl)
set_option maxHeartbeats 4000000 in
set_option maxRecDepth 100000 in
theorem t_X12_isResult_97 {p : Program} {l : Launch} {e : Env} {s : State} {m : MethodId} {args : Array Value} {below : List Frame} {meth : Method} {c : Code} {D : wD} {cy : Nat → ClassId} {X : va_W} {A : Nat → Prop} {S0 : wS} {post : Int32 → wS → Prop} (F : CallFix p m c cX12_isResult 4 s args wz_X12_isResult RX12) (hr : meth.sig.returnType = (some .boolean)) (hlocks : meth.locks = false) (hK : wK D cy A s) : ∀ {S : wS} {H : Heap} {locs : List Loc} {ls : Array Slot} {t0 : Int32}, wp_X12_isResult_97 D post S t0 → wO D cy X A s.heap S H locs → wX D S0 S → lv_has ls 4 [] → W p l e r_X12_isResult s m args below meth c H locs 0 0 (MQ below (va_Qi (fun r S9 => wX D S0 S9 ∧ post r S9) (wB D cy X A) A) args s 0 0 A) (F0 m 97 ls [.int t0]) := by
  obtain ⟨hx, hb, hml, hown, hts⟩ := id F
  have hwg : ∀ w ∈ WG, w.before args s = true := fun w h => hts w (List.mem_cons_of_mem _ h)
  intro S H locs ls t0 hp hW hE hl
  unfold wp_X12_isResult_97 at hp
  exact w_zret hx hb hr hlocks hW hp.1 ⟨hE, hp.2⟩ dX12_isResult_97
set_option maxHeartbeats 4000000 in
set_option maxRecDepth 100000 in
theorem t_X12_isResult_96 {p : Program} {l : Launch} {e : Env} {s : State} {m : MethodId} {args : Array Value} {below : List Frame} {meth : Method} {c : Code} {D : wD} {cy : Nat → ClassId} {X : va_W} {A : Nat → Prop} {S0 : wS} {post : Int32 → wS → Prop} (F : CallFix p m c cX12_isResult 4 s args wz_X12_isResult RX12) (hr : meth.sig.returnType = (some .boolean)) (hlocks : meth.locks = false) (hK : wK D cy A s) : ∀ {S : wS} {H : Heap} {locs : List Loc} {ls : Array Slot}, wp_X12_isResult_96 D post S → wO D cy X A s.heap S H locs → wX D S0 S → lv_has ls 4 [] → W p l e r_X12_isResult s m args below meth c H locs 0 0 (MQ below (va_Qi (fun r S9 => wX D S0 S9 ∧ post r S9) (wB D cy X A) A) args s 0 0 A) (F0 m 96 ls []) := by
  obtain ⟨hx, hb, hml, hown, hts⟩ := id F
  have hwg : ∀ w ∈ WG, w.before args s = true := fun w h => hts w (List.mem_cons_of_mem _ h)
  intro S H locs ls hp hW hE hl
  unfold wp_X12_isResult_96 at hp
  refine lv_iconst (v := 0) hx hb dX12_isResult_96 (by decide) ?_
  exact t_X12_isResult_97 F hr hlocks hK hp hW hE (lv_sub hl [] rfl)
set_option maxHeartbeats 4000000 in
set_option maxRecDepth 100000 in
theorem t_X12_isResult_92 {p : Program} {l : Launch} {e : Env} {s : State} {m : MethodId} {args : Array Value} {below : List Frame} {meth : Method} {c : Code} {D : wD} {cy : Nat → ClassId} {X : va_W} {A : Nat → Prop} {S0 : wS} {post : Int32 → wS → Prop} (F : CallFix p m c cX12_isResult 4 s args wz_X12_isResult RX12) (hr : meth.sig.returnType = (some .boolean)) (hlocks : meth.locks = false) (hK : wK D cy A s) : ∀ {S : wS} {H : Heap} {locs : List Loc} {ls : Array Slot}, wp_X12_isResult_92 D post S → wO D cy X A s.heap S H locs → wX D S0 S → lv_has ls 4 [] → W p l e r_X12_isResult s m args below meth c H locs 0 0 (MQ below (va_Qi (fun r S9 => wX D S0 S9 ∧ post r S9) (wB D cy X A) A) args s 0 0 A) (F0 m 92 ls []) := by
  obtain ⟨hx, hb, hml, hown, hts⟩ := id F
  have hwg : ∀ w ∈ WG, w.before args s = true := fun w h => hts w (List.mem_cons_of_mem _ h)
  intro S H locs ls hp hW hE hl
  unfold wp_X12_isResult_92 at hp
  refine lv_iconst (v := 1) hx hb dX12_isResult_92 (by decide) ?_
  refine lv_goto (tgt := 97) hx hb dX12_isResult_93 (by decide) ?_
  exact t_X12_isResult_97 F hr hlocks hK hp hW hE (lv_sub hl [] rfl)
set_option maxHeartbeats 4000000 in
set_option maxRecDepth 100000 in
theorem t_X12_isResult_68 {p : Program} {l : Launch} {e : Env} {s : State} {m : MethodId} {args : Array Value} {below : List Frame} {meth : Method} {c : Code} {D : wD} {cy : Nat → ClassId} {X : va_W} {A : Nat → Prop} {S0 : wS} {post : Int32 → wS → Prop} (F : CallFix p m c cX12_isResult 4 s args wz_X12_isResult RX12) (hr : meth.sig.returnType = (some .boolean)) (hlocks : meth.locks = false) (hK : wK D cy A s) : ∀ {S : wS} {H : Heap} {locs : List Loc} {ls : Array Slot} {a0 : Nat} {x1 : Int32}, wp_X12_isResult_68 D post S a0 x1 → wO D cy X A s.heap S H locs → wX D S0 S → lv_has ls 4 [(0, .ref a0), (1, .int x1)] → wM D S a0 → sK S a0 = 17 → W p l e r_X12_isResult s m args below meth c H locs 0 0 (MQ below (va_Qi (fun r S9 => wX D S0 S9 ∧ post r S9) (wB D cy X A) A) args s 0 0 A) (F0 m 68 ls []) := by
  obtain ⟨hx, hb, hml, hown, hts⟩ := id F
  have hwg : ∀ w ∈ WG, w.before args s = true := fun w h => hts w (List.mem_cons_of_mem _ h)
  have i_17 : ∀ w ∈ u_ws RX12 TX12 43, w ∈ wz_X12_isResult := fun w h => List.mem_cons_of_mem _ (wu_17 w h)
  have k_42 := hwg _ wf_RX12_42
  intro S H locs ls a0 x1 hp hW hE hl hL_a0 hK_a0
  unfold wp_X12_isResult_68 at hp
  refine lv_aload_n hx hb dX12_isResult_68 rfl (lv_at hl 0 rfl) ?_
  obtain ⟨y_1, ey_1, hL_y_1, hK_y_1, hp⟩ := hp
  refine w_get (k := 17) (f := 12) (T := TX12) (v := .ref y_1) F hK hW hL_a0 hK_a0 (by decide) rfl rfl (by decide) i_17 k_42 (by rw [show wv 17 12 S a0 = va_rf (sR S a0 12) from rfl, ey_1]; rfl) dX12_isResult_69 ?_
  refine lv_iload_n hx hb dX12_isResult_72 rfl (lv_at hl 1 rfl) ?_
  obtain ⟨h_2, hp⟩ := hp
  refine w_ild F hK hW hL_y_1 hK_y_1 h_2 dX12_isResult_73 ?_
  refine lv_bipush (v := 48) hx hb dX12_isResult_74 (by decide) ?_
  refine lv_icmp_ne (tgt := 96) hx hb dX12_isResult_76 (by decide) (fun c_3 => ?_) (fun c_3 => ?_)
  · replace hp := hp.1 c_3
    exact t_X12_isResult_96 F hr hlocks hK hp hW hE (lv_sub hl [] rfl)
  · replace hp := hp.2 c_3
    refine lv_aload_n hx hb dX12_isResult_79 rfl (lv_at hl 0 rfl) ?_
    obtain ⟨y_4, ey_4, hL_y_4, hK_y_4, hp⟩ := hp
    refine w_get (k := 17) (f := 12) (T := TX12) (v := .ref y_4) F hK hW hL_a0 hK_a0 (by decide) rfl rfl (by decide) i_17 k_42 (by rw [show wv 17 12 S a0 = va_rf (sR S a0 12) from rfl, ey_4]; rfl) dX12_isResult_80 ?_
    refine lv_iload_n hx hb dX12_isResult_83 rfl (lv_at hl 1 rfl) ?_
    refine lv_iconst (v := 2) hx hb dX12_isResult_84 (by decide) ?_
    refine lv_iadd hx hb dX12_isResult_85 ?_
    obtain ⟨h_5, hp⟩ := hp
    refine w_ild F hK hW hL_y_4 hK_y_4 h_5 dX12_isResult_86 ?_
    refine lv_bipush (v := 49) hx hb dX12_isResult_87 (by decide) ?_
    refine lv_icmp_ne (tgt := 96) hx hb dX12_isResult_89 (by decide) (fun c_6 => ?_) (fun c_6 => ?_)
    · replace hp := hp.1 c_6
      exact t_X12_isResult_96 F hr hlocks hK hp hW hE (lv_sub hl [] rfl)
    · replace hp := hp.2 c_6
      exact t_X12_isResult_92 F hr hlocks hK hp hW hE (lv_sub hl [] rfl)
set_option maxHeartbeats 4000000 in
set_option maxRecDepth 100000 in
theorem t_X12_isResult_25 {p : Program} {l : Launch} {e : Env} {s : State} {m : MethodId} {args : Array Value} {below : List Frame} {meth : Method} {c : Code} {D : wD} {cy : Nat → ClassId} {X : va_W} {A : Nat → Prop} {S0 : wS} {post : Int32 → wS → Prop} (F : CallFix p m c cX12_isResult 4 s args wz_X12_isResult RX12) (hr : meth.sig.returnType = (some .boolean)) (hlocks : meth.locks = false) (hK : wK D cy A s) : ∀ {S : wS} {H : Heap} {locs : List Loc} {ls : Array Slot} {t0 : Int32}, wp_X12_isResult_25 D post S t0 → wO D cy X A s.heap S H locs → wX D S0 S → lv_has ls 4 [] → W p l e r_X12_isResult s m args below meth c H locs 0 0 (MQ below (va_Qi (fun r S9 => wX D S0 S9 ∧ post r S9) (wB D cy X A) A) args s 0 0 A) (F0 m 25 ls [.int t0]) := by
  obtain ⟨hx, hb, hml, hown, hts⟩ := id F
  have hwg : ∀ w ∈ WG, w.before args s = true := fun w h => hts w (List.mem_cons_of_mem _ h)
  intro S H locs ls t0 hp hW hE hl
  unfold wp_X12_isResult_25 at hp
  exact w_zret hx hb hr hlocks hW hp.1 ⟨hE, hp.2⟩ dX12_isResult_25
set_option maxHeartbeats 4000000 in
set_option maxRecDepth 100000 in
theorem t_X12_isResult_0 {p : Program} {l : Launch} {e : Env} {s : State} {m : MethodId} {args : Array Value} {below : List Frame} {meth : Method} {c : Code} {D : wD} {cy : Nat → ClassId} {X : va_W} {A : Nat → Prop} {S0 : wS} {post : Int32 → wS → Prop} (F : CallFix p m c cX12_isResult 4 s args wz_X12_isResult RX12) (hr : meth.sig.returnType = (some .boolean)) (hlocks : meth.locks = false) (hK : wK D cy A s) : ∀ {S : wS} {H : Heap} {locs : List Loc} {ls : Array Slot} {a0 : Nat} {x1 : Int32} {x2 : Int32}, wp_X12_isResult_0 D post S a0 x1 x2 → wO D cy X A s.heap S H locs → wX D S0 S → lv_has ls 4 [(0, .ref a0), (1, .int x1), (2, .int x2)] → wM D S a0 → sK S a0 = 17 → W p l e r_X12_isResult s m args below meth c H locs 0 0 (MQ below (va_Qi (fun r S9 => wX D S0 S9 ∧ post r S9) (wB D cy X A) A) args s 0 0 A) (F0 m 0 ls []) := by
  obtain ⟨hx, hb, hml, hown, hts⟩ := id F
  have hwg : ∀ w ∈ WG, w.before args s = true := fun w h => hts w (List.mem_cons_of_mem _ h)
  have i_17 : ∀ w ∈ u_ws RX12 TX12 43, w ∈ wz_X12_isResult := fun w h => List.mem_cons_of_mem _ (wu_17 w h)
  have k_42 := hwg _ wf_RX12_42
  intro S H locs ls a0 x1 x2 hp hW hE hl hL_a0 hK_a0
  unfold wp_X12_isResult_0 at hp
  refine lv_iload_n hx hb dX12_isResult_0 rfl (lv_at hl 2 rfl) ?_
  refine lv_iload_n hx hb dX12_isResult_1 rfl (lv_at hl 1 rfl) ?_
  refine lv_isub hx hb dX12_isResult_2 ?_
  refine lv_topi (fun x_1 ex_1 => ?_)
  replace hp := hp x_1 ex_1
  refine lv_istore_n (lv' := [(3, .int x_1), (0, .ref a0), (1, .int x1), (2, .int x2)]) hx hb dX12_isResult_3 rfl hl (by decide) rfl (fun ls hl => ?_)
  refine lv_iload_n hx hb dX12_isResult_4 rfl (lv_at hl 0 rfl) ?_
  refine lv_iconst (v := 1) hx hb dX12_isResult_5 (by decide) ?_
  refine lv_icmp_ne (tgt := 26) hx hb dX12_isResult_6 (by decide) (fun c_2 => ?_) (fun c_2 => ?_)
  · replace hp := hp.1 c_2
    refine lv_iload_n hx hb dX12_isResult_26 rfl (lv_at hl 0 rfl) ?_
    refine lv_iconst (v := 3) hx hb dX12_isResult_27 (by decide) ?_
    refine lv_icmp_ne (tgt := 98) hx hb dX12_isResult_28 (by decide) (fun c_3 => ?_) (fun c_3 => ?_)
    · replace hp := hp.1 c_3
      refine lv_iload_n hx hb dX12_isResult_98 rfl (lv_at hl 0 rfl) ?_
      refine lv_bipush (v := 7) hx hb dX12_isResult_99 (by decide) ?_
      refine lv_icmp_ne (tgt := 139) hx hb dX12_isResult_101 (by decide) (fun c_4 => ?_) (fun c_4 => ?_)
      · replace hp := hp.1 c_4
        exact t_X12_isResult_139 F hr hlocks hK hp hW hE (lv_sub hl [] rfl)
      · replace hp := hp.2 c_4
        refine lv_aload_n hx hb dX12_isResult_104 rfl (lv_at hl 1 rfl) ?_
        refine lv_iload_n hx hb dX12_isResult_105 rfl (lv_at hl 2 rfl) ?_
        refine w_callI (va_runV (As := [.int x1]) (rest := []) F (c_X12_isHalf l hL_a0 hK_a0 hp H.size) (cwV (C := RX12) 1 hts (wg_V wm_RX12_348 wy_X12_isHalf) rfl rfl rfl (by decide +kernel) ⟨Nat.le_of_ble_eq_true rfl, Nat.le_of_ble_eq_true rfl⟩) (w_preV hK hW hL_a0 hK_a0 (by decide) rfl) rfl rfl hl.1 rfl (lv_room (Nat.le_of_ble_eq_true rfl)) dX12_isResult_106 ⟨Nat.le_of_ble_eq_true rfl, Nat.le_of_ble_eq_true rfl⟩) hW (fun r_5 S_6 H locs hp hW => ?_)
        obtain ⟨hX_S_6, hp⟩ := hp
        refine W.widen (k := 0) (n := 0) (by decide) (by decide) ?_
        have hE := hE.trans hX_S_6
        have hK_a0 : sK S_6 a0 = 17 := (hX_S_6.2 a0 hL_a0).1.trans hK_a0
        have hL_a0 : wM D S_6 a0 := hX_S_6.M hL_a0
        refine lv_if_eq (tgt := 139) hx hb dX12_isResult_109 (by decide) (fun c_7 => ?_) (fun c_7 => ?_)
        · replace hp := hp.1 c_7
          exact t_X12_isResult_139 F hr hlocks hK hp hW hE (lv_sub hl [] rfl)
        · replace hp := hp.2 c_7
          refine lv_aload_n hx hb dX12_isResult_112 rfl (lv_at hl 1 rfl) ?_
          obtain ⟨y_8, ey_8, hL_y_8, hK_y_8, hp⟩ := hp
          refine w_get (k := 17) (f := 12) (T := TX12) (v := .ref y_8) F hK hW hL_a0 hK_a0 (by decide) rfl rfl (by decide) i_17 k_42 (by rw [show wv 17 12 S_6 a0 = va_rf (sR S_6 a0 12) from rfl, ey_8]; rfl) dX12_isResult_113 ?_
          refine lv_iload_n hx hb dX12_isResult_116 rfl (lv_at hl 2 rfl) ?_
          refine lv_iconst (v := 3) hx hb dX12_isResult_117 (by decide) ?_
          refine lv_iadd hx hb dX12_isResult_118 ?_
          obtain ⟨h_9, hp⟩ := hp
          refine w_ild F hK hW hL_y_8 hK_y_8 h_9 dX12_isResult_119 ?_
          refine lv_bipush (v := 45) hx hb dX12_isResult_120 (by decide) ?_
          refine lv_icmp_ne (tgt := 139) hx hb dX12_isResult_122 (by decide) (fun c_10 => ?_) (fun c_10 => ?_)
          · replace hp := hp.1 c_10
            exact t_X12_isResult_139 F hr hlocks hK hp hW hE (lv_sub hl [] rfl)
          · replace hp := hp.2 c_10
            refine lv_aload_n hx hb dX12_isResult_125 rfl (lv_at hl 1 rfl) ?_
            refine lv_iload_n hx hb dX12_isResult_126 rfl (lv_at hl 2 rfl) ?_
            refine lv_iconst (v := 4) hx hb dX12_isResult_127 (by decide) ?_
            refine lv_iadd hx hb dX12_isResult_128 ?_
            refine w_callI (va_runV (As := [.int (x1 + (4 : Int32))]) (rest := []) F (c_X12_isHalf l hL_a0 hK_a0 hp H.size) (cwV (C := RX12) 1 hts (wg_V wm_RX12_348 wy_X12_isHalf) rfl rfl rfl (by decide +kernel) ⟨Nat.le_of_ble_eq_true rfl, Nat.le_of_ble_eq_true rfl⟩) (w_preV hK hW hL_a0 hK_a0 (by decide) rfl) rfl rfl hl.1 rfl (lv_room (Nat.le_of_ble_eq_true rfl)) dX12_isResult_129 ⟨Nat.le_of_ble_eq_true rfl, Nat.le_of_ble_eq_true rfl⟩) hW (fun r_11 S_12 H locs hp hW => ?_)
            obtain ⟨hX_S_12, hp⟩ := hp
            refine W.widen (k := 0) (n := 0) (by decide) (by decide) ?_
            have hE := hE.trans hX_S_12
            have hK_a0 : sK S_12 a0 = 17 := (hX_S_12.2 a0 hL_a0).1.trans hK_a0
            have hL_a0 : wM D S_12 a0 := hX_S_12.M hL_a0
            refine lv_if_eq (tgt := 139) hx hb dX12_isResult_132 (by decide) (fun c_13 => ?_) (fun c_13 => ?_)
            · replace hp := hp.1 c_13
              exact t_X12_isResult_139 F hr hlocks hK hp hW hE (lv_sub hl [] rfl)
            · replace hp := hp.2 c_13
              refine lv_iconst (v := 1) hx hb dX12_isResult_135 (by decide) ?_
              refine lv_goto (tgt := 140) hx hb dX12_isResult_136 (by decide) ?_
              exact t_X12_isResult_140 F hr hlocks hK hp hW hE (lv_sub hl [] rfl)
    · replace hp := hp.2 c_3
      refine lv_aload_n hx hb dX12_isResult_31 rfl (lv_at hl 1 rfl) ?_
      obtain ⟨y_14, ey_14, hL_y_14, hK_y_14, hp⟩ := hp
      refine w_get (k := 17) (f := 12) (T := TX12) (v := .ref y_14) F hK hW hL_a0 hK_a0 (by decide) rfl rfl (by decide) i_17 k_42 (by rw [show wv 17 12 S a0 = va_rf (sR S a0 12) from rfl, ey_14]; rfl) dX12_isResult_32 ?_
      refine lv_iload_n hx hb dX12_isResult_35 rfl (lv_at hl 2 rfl) ?_
      refine lv_iconst (v := 1) hx hb dX12_isResult_36 (by decide) ?_
      refine lv_iadd hx hb dX12_isResult_37 ?_
      obtain ⟨h_15, hp⟩ := hp
      refine w_ild F hK hW hL_y_14 hK_y_14 h_15 dX12_isResult_38 ?_
      refine lv_bipush (v := 45) hx hb dX12_isResult_39 (by decide) ?_
      refine lv_icmp_ne (tgt := 96) hx hb dX12_isResult_41 (by decide) (fun c_16 => ?_) (fun c_16 => ?_)
      · replace hp := hp.1 c_16
        exact t_X12_isResult_96 F hr hlocks hK hp hW hE (lv_sub hl [] rfl)
      · replace hp := hp.2 c_16
        refine lv_aload_n hx hb dX12_isResult_44 rfl (lv_at hl 1 rfl) ?_
        obtain ⟨y_17, ey_17, hL_y_17, hK_y_17, hp⟩ := hp
        refine w_get (k := 17) (f := 12) (T := TX12) (v := .ref y_17) F hK hW hL_a0 hK_a0 (by decide) rfl rfl (by decide) i_17 k_42 (by rw [show wv 17 12 S a0 = va_rf (sR S a0 12) from rfl, ey_17]; rfl) dX12_isResult_45 ?_
        refine lv_iload_n hx hb dX12_isResult_48 rfl (lv_at hl 2 rfl) ?_
        obtain ⟨h_18, hp⟩ := hp
        refine w_ild F hK hW hL_y_17 hK_y_17 h_18 dX12_isResult_49 ?_
        refine lv_bipush (v := 49) hx hb dX12_isResult_50 (by decide) ?_
        refine lv_icmp_ne (tgt := 68) hx hb dX12_isResult_52 (by decide) (fun c_19 => ?_) (fun c_19 => ?_)
        · replace hp := hp.1 c_19
          exact t_X12_isResult_68 F hr hlocks hK hp hW hE (lv_sub hl [1, 2] rfl) hL_a0 hK_a0
        · replace hp := hp.2 c_19
          refine lv_aload_n hx hb dX12_isResult_55 rfl (lv_at hl 1 rfl) ?_
          obtain ⟨y_20, ey_20, hL_y_20, hK_y_20, hp⟩ := hp
          refine w_get (k := 17) (f := 12) (T := TX12) (v := .ref y_20) F hK hW hL_a0 hK_a0 (by decide) rfl rfl (by decide) i_17 k_42 (by rw [show wv 17 12 S a0 = va_rf (sR S a0 12) from rfl, ey_20]; rfl) dX12_isResult_56 ?_
          refine lv_iload_n hx hb dX12_isResult_59 rfl (lv_at hl 2 rfl) ?_
          refine lv_iconst (v := 2) hx hb dX12_isResult_60 (by decide) ?_
          refine lv_iadd hx hb dX12_isResult_61 ?_
          obtain ⟨h_21, hp⟩ := hp
          refine w_ild F hK hW hL_y_20 hK_y_20 h_21 dX12_isResult_62 ?_
          refine lv_bipush (v := 48) hx hb dX12_isResult_63 (by decide) ?_
          refine lv_icmp_eq (tgt := 92) hx hb dX12_isResult_65 (by decide) (fun c_22 => ?_) (fun c_22 => ?_)
          · replace hp := hp.1 c_22
            exact t_X12_isResult_92 F hr hlocks hK hp hW hE (lv_sub hl [] rfl)
          · replace hp := hp.2 c_22
            exact t_X12_isResult_68 F hr hlocks hK hp hW hE (lv_sub hl [1, 2] rfl) hL_a0 hK_a0
  · replace hp := hp.2 c_2
    refine lv_aload_n hx hb dX12_isResult_9 rfl (lv_at hl 1 rfl) ?_
    obtain ⟨y_23, ey_23, hL_y_23, hK_y_23, hp⟩ := hp
    refine w_get (k := 17) (f := 12) (T := TX12) (v := .ref y_23) F hK hW hL_a0 hK_a0 (by decide) rfl rfl (by decide) i_17 k_42 (by rw [show wv 17 12 S a0 = va_rf (sR S a0 12) from rfl, ey_23]; rfl) dX12_isResult_10 ?_
    refine lv_iload_n hx hb dX12_isResult_13 rfl (lv_at hl 2 rfl) ?_
    obtain ⟨h_24, hp⟩ := hp
    refine w_ild F hK hW hL_y_23 hK_y_23 h_24 dX12_isResult_14 ?_
    refine lv_bipush (v := 42) hx hb dX12_isResult_15 (by decide) ?_
    refine lv_icmp_ne (tgt := 24) hx hb dX12_isResult_17 (by decide) (fun c_25 => ?_) (fun c_25 => ?_)
    · replace hp := hp.1 c_25
      refine lv_iconst (v := 0) hx hb dX12_isResult_24 (by decide) ?_
      exact t_X12_isResult_25 F hr hlocks hK hp hW hE (lv_sub hl [] rfl)
    · replace hp := hp.2 c_25
      refine lv_iconst (v := 1) hx hb dX12_isResult_20 (by decide) ?_
      refine lv_goto (tgt := 25) hx hb dX12_isResult_21 (by decide) ?_
      exact t_X12_isResult_25 F hr hlocks hK hp hW hE (lv_sub hl [] rfl)
set_option maxHeartbeats 4000000 in
set_option maxRecDepth 100000 in
theorem c_X12_isResult (l : Launch) {D : wD} {cy : Nat → ClassId} {X : va_W} {S0 : wS} {post : Int32 → wS → Prop} {a0 : Nat} {x1 : Int32} {x2 : Int32} (hL_a0 : wM D S0 a0) (hK_a0 : sK S0 a0 = 17) (hp : wp_X12_isResult D post S0 a0 x1 x2) : mI D cy X l yX12_isResult wz_X12_isResult r_X12_isResult [.ref a0, .int x1, .int x2] S0 (fun r S9 => wX D S0 S9 ∧ post r S9) := by
  intro sz
  refine Met.ofW (cc := cX12_isResult) (maxL := 4) (ret := (some .boolean)) (by decide) rfl ?_
  intro p e s m args below meth c s₁ B hml hv
  obtain ⟨rfl, hsz, hP, hK, hD0, hRO⟩ := hv
  have hts := atoms_spec (ws := wz_X12_isResult) B.pre
  have hown : s.vm.findClass RX12 = some m.cls := findClass_of_methodNamed B.named
  subst hsz
  have hD := hD0.self (sz := s.heap.size)
  have F : CallFix p m c cX12_isResult 4 s _ wz_X12_isResult RX12 := ⟨B.exec, B.bytes, hml, hown, hts⟩
  have hr := B.returns
  have hlocks := B.notSynchronized
  generalize hAe : va_A (wL cy X S0) s.heap.size = A at hD hK ⊢
  have hA : ∀ q, s.heap.size ≤ q → A q := fun q h => by rw [← hAe]; exact Or.inr h
  have hW : wO D cy X A s.heap S0 s.heap [] := ⟨hP, hD, va_S.rf, hA, hRO⟩
  have hl := lv_entry ([.ref a0, .int x1, .int x2]) (n := 4) (Nat.le_of_ble_eq_true rfl)
  rw [lg_entry_eq]
  generalize (lg_sl ([.ref a0, .int x1, .int x2]) ++ List.replicate (4 - (lg_sl ([.ref a0, .int x1, .int x2])).length) Slot.unset).toArray = ls at hl ⊢
  have hl : lv_has ls 4 [(0, .ref a0), (1, .int x1), (2, .int x2)] := hl
  unfold wp_X12_isResult at hp
  exact t_X12_isResult_0 F hr hlocks hK hp hW wX.rf (lv_sub hl [0, 1, 2] rfl) hL_a0 hK_a0
def wp_X12_namedMove_7 (D : wD) (post : Int32 → wS → Prop)  : Nat → wS → Nat → Int32 → Int32 → Int32 → Prop
  | 0, _, _, _, _, _ => False
  | n + 1, S, a0, x1, x2, x3 =>
    ∃ y_1 : Nat, sR S a0 7 = some y_1 ∧ wM D S y_1 ∧ sK S y_1 = 21 ∧
    vp_in (0 : Int32) (sN S y_1) ∧
    (((sI S y_1 ((0 : Int32)).toNatClampNeg) ≤ x3 → post (-1 : Int32) S) ∧
     (¬ (sI S y_1 ((0 : Int32)).toNatClampNeg) ≤ x3 → wp_X12_areLetters D (fun r_4 S_5 => 
    ((r_4 = 0 → ∀ x_7 : Int32, x_7 = x3 + 1 →
    wp_X12_namedMove_7 D post n S_5 a0 x1 x2 x_7) ∧
     (¬ r_4 = 0 → post x3 S_5))) S a0 x3 x1 x2))
def wp_X12_namedMove_0 (D : wD) (post : Int32 → wS → Prop)  (S : wS) (a0 : Nat) (x1 : Int32) (x2 : Int32) : Prop :=
wp_X12_moves D (fun S_2 => 
∃ n_3 : Nat, wp_X12_namedMove_7 D post n_3 S_2 a0 x1 x2 (0 : Int32)) S a0 (0 : Int32)
abbrev r_X12_namedMove : Room := { frames := 10, cells := 0, slots := 0, locals := 244 }
def wp_X12_namedMove (D : wD) (post : Int32 → wS → Prop) (S : wS) (a0 : Nat) (x1 : Int32) (x2 : Int32) : Prop := wp_X12_namedMove_0 D post S a0 x1 x2
set_option maxHeartbeats 4000000 in
set_option maxRecDepth 100000 in
theorem t_X12_namedMove_7 {p : Program} {l : Launch} {e : Env} {s : State} {m : MethodId} {args : Array Value} {below : List Frame} {meth : Method} {c : Code} {D : wD} {cy : Nat → ClassId} {X : va_W} {A : Nat → Prop} {S0 : wS} {post : Int32 → wS → Prop} (F : CallFix p m c cX12_namedMove 4 s args wz_X12_namedMove RX12) (hr : meth.sig.returnType = (some .int)) (hlocks : meth.locks = false) (hK : wK D cy A s) : ∀ (n : Nat) {S : wS} {H : Heap} {locs : List Loc} {ls : Array Slot} {a0 : Nat} {x1 : Int32} {x2 : Int32} {x3 : Int32}, wp_X12_namedMove_7 D post n S a0 x1 x2 x3 → wO D cy X A s.heap S H locs → wX D S0 S → lv_has ls 4 [(0, .ref a0), (1, .int x1), (2, .int x2), (3, .int x3)] → wM D S a0 → sK S a0 = 17 → W p l e r_X12_namedMove s m args below meth c H locs 0 0 (MQ below (va_Qi (fun r S9 => wX D S0 S9 ∧ post r S9) (wB D cy X A) A) args s 0 0 A) (F0 m 7 ls []) := by
  obtain ⟨hx, hb, hml, hown, hts⟩ := id F
  have hwg : ∀ w ∈ WG, w.before args s = true := fun w h => hts w (List.mem_cons_of_mem _ h)
  have i_17 : ∀ w ∈ u_ws RX12 TX12 43, w ∈ wz_X12_namedMove := fun w h => List.mem_cons_of_mem _ (wu_17 w h)
  have k_29 := hwg _ wf_RX12_29
  intro n
  induction n with
  | zero =>
    intro S H locs ls a0 x1 x2 x3 hp
    exact hp.elim
  | succ n ih =>
    intro S H locs ls a0 x1 x2 x3 hp hW hE hl hL_a0 hK_a0
    unfold wp_X12_namedMove_7 at hp
    refine lv_iload_n hx hb dX12_namedMove_7 rfl (lv_at hl 3 rfl) ?_
    refine lv_aload_n hx hb dX12_namedMove_8 rfl (lv_at hl 0 rfl) ?_
    obtain ⟨y_1, ey_1, hL_y_1, hK_y_1, hp⟩ := hp
    refine w_get (k := 17) (f := 7) (T := TX12) (v := .ref y_1) F hK hW hL_a0 hK_a0 (by decide) rfl rfl (by decide) i_17 k_29 (by rw [show wv 17 7 S a0 = va_rf (sR S a0 7) from rfl, ey_1]; rfl) dX12_namedMove_9 ?_
    refine lv_iconst (v := 0) hx hb dX12_namedMove_12 (by decide) ?_
    obtain ⟨h_2, hp⟩ := hp
    refine w_ild F hK hW hL_y_1 hK_y_1 h_2 dX12_namedMove_13 ?_
    refine lv_icmp_ge (tgt := 35) hx hb dX12_namedMove_14 (by decide) (fun c_3 => ?_) (fun c_3 => ?_)
    · replace hp := hp.1 c_3
      refine lv_iconst (v := (-1)) hx hb dX12_namedMove_35 (by decide) ?_
      exact w_iret hx hb hr hlocks hW ⟨hE, hp⟩ dX12_namedMove_36
    · replace hp := hp.2 c_3
      refine lv_aload_n hx hb dX12_namedMove_17 rfl (lv_at hl 0 rfl) ?_
      refine lv_iload_n hx hb dX12_namedMove_18 rfl (lv_at hl 3 rfl) ?_
      refine lv_iload_n hx hb dX12_namedMove_19 rfl (lv_at hl 1 rfl) ?_
      refine lv_iload_n hx hb dX12_namedMove_20 rfl (lv_at hl 2 rfl) ?_
      refine w_callI (va_runV (As := [.int x3, .int x1, .int x2]) (rest := []) F (c_X12_areLetters l hL_a0 hK_a0 hp H.size) (cwV (C := RX12) 3 hts (wg_V wm_RX12_351 wy_X12_areLetters) rfl rfl rfl (by decide +kernel) ⟨Nat.le_of_ble_eq_true rfl, Nat.le_of_ble_eq_true rfl⟩) (w_preV hK hW hL_a0 hK_a0 (by decide) rfl) rfl rfl hl.1 rfl (lv_room (Nat.le_of_ble_eq_true rfl)) dX12_namedMove_21 ⟨Nat.le_of_ble_eq_true rfl, Nat.le_of_ble_eq_true rfl⟩) hW (fun r_4 S_5 H locs hp hW => ?_)
      obtain ⟨hX_S_5, hp⟩ := hp
      refine W.widen (k := 0) (n := 0) (by decide) (by decide) ?_
      have hE := hE.trans hX_S_5
      have hK_a0 : sK S_5 a0 = 17 := (hX_S_5.2 a0 hL_a0).1.trans hK_a0
      have hL_a0 : wM D S_5 a0 := hX_S_5.M hL_a0
      refine lv_if_eq (tgt := 29) hx hb dX12_namedMove_24 (by decide) (fun c_6 => ?_) (fun c_6 => ?_)
      · replace hp := hp.1 c_6
        obtain ⟨x_7, ex_7⟩ : ∃ z : Int32, z = x3 + 1 := ⟨_, rfl⟩
        replace hp := hp x_7 ex_7
        refine lv_iinc (v := x_7) (lv' := [(3, .int x_7), (0, .ref a0), (1, .int x1), (2, .int x2)]) hx hb dX12_namedMove_29 hl (k := 3) rfl (by rw [ex_7]; rfl) (by decide) rfl (fun ls hl => ?_)
        refine lv_goto (tgt := 7) hx hb dX12_namedMove_32 (by decide) ?_
        exact ih hp hW hE (lv_sub hl [1, 2, 3, 0] rfl) hL_a0 hK_a0
      · replace hp := hp.2 c_6
        refine lv_iload_n hx hb dX12_namedMove_27 rfl (lv_at hl 3 rfl) ?_
        exact w_iret hx hb hr hlocks hW ⟨hE, hp⟩ dX12_namedMove_28
set_option maxHeartbeats 4000000 in
set_option maxRecDepth 100000 in
theorem t_X12_namedMove_0 {p : Program} {l : Launch} {e : Env} {s : State} {m : MethodId} {args : Array Value} {below : List Frame} {meth : Method} {c : Code} {D : wD} {cy : Nat → ClassId} {X : va_W} {A : Nat → Prop} {S0 : wS} {post : Int32 → wS → Prop} (F : CallFix p m c cX12_namedMove 4 s args wz_X12_namedMove RX12) (hr : meth.sig.returnType = (some .int)) (hlocks : meth.locks = false) (hK : wK D cy A s) : ∀ {S : wS} {H : Heap} {locs : List Loc} {ls : Array Slot} {a0 : Nat} {x1 : Int32} {x2 : Int32}, wp_X12_namedMove_0 D post S a0 x1 x2 → wO D cy X A s.heap S H locs → wX D S0 S → lv_has ls 4 [(0, .ref a0), (1, .int x1), (2, .int x2)] → wM D S a0 → sK S a0 = 17 → W p l e r_X12_namedMove s m args below meth c H locs 0 0 (MQ below (va_Qi (fun r S9 => wX D S0 S9 ∧ post r S9) (wB D cy X A) A) args s 0 0 A) (F0 m 0 ls []) := by
  obtain ⟨hx, hb, hml, hown, hts⟩ := id F
  have hwg : ∀ w ∈ WG, w.before args s = true := fun w h => hts w (List.mem_cons_of_mem _ h)
  intro S H locs ls a0 x1 x2 hp hW hE hl hL_a0 hK_a0
  unfold wp_X12_namedMove_0 at hp
  refine lv_aload_n hx hb dX12_namedMove_0 rfl (lv_at hl 0 rfl) ?_
  refine lv_iconst (v := 0) hx hb dX12_namedMove_1 (by decide) ?_
  refine w_callV (va_runV (As := [.int (0 : Int32)]) (rest := []) F (c_X12_moves l hL_a0 hK_a0 hp H.size) (cwV (C := RX12) 1 hts (wg_V wm_RX12_233 wy_X12_moves) rfl rfl rfl (by decide +kernel) ⟨Nat.le_of_ble_eq_true rfl, Nat.le_of_ble_eq_true rfl⟩) (w_preV hK hW hL_a0 hK_a0 (by decide) rfl) rfl rfl hl.1 rfl (lv_room (Nat.le_of_ble_eq_true rfl)) dX12_namedMove_2 ⟨Nat.le_of_ble_eq_true rfl, Nat.le_of_ble_eq_true rfl⟩) hW (fun S_2 H locs hp hW => ?_)
  obtain ⟨hX_S_2, hp⟩ := hp
  refine W.widen (k := 0) (n := 0) (by decide) (by decide) ?_
  have hE := hE.trans hX_S_2
  have hK_a0 : sK S_2 a0 = 17 := (hX_S_2.2 a0 hL_a0).1.trans hK_a0
  have hL_a0 : wM D S_2 a0 := hX_S_2.M hL_a0
  refine lv_iconst (v := 0) hx hb dX12_namedMove_5 (by decide) ?_
  refine lv_istore_n (lv' := [(3, .int (0 : Int32)), (0, .ref a0), (1, .int x1), (2, .int x2)]) hx hb dX12_namedMove_6 rfl hl (by decide) rfl (fun ls hl => ?_)
  obtain ⟨n_3, hp⟩ := hp
  exact t_X12_namedMove_7 F hr hlocks hK n_3 hp hW hE (lv_sub hl [1, 2, 3, 0] rfl) hL_a0 hK_a0
set_option maxHeartbeats 4000000 in
set_option maxRecDepth 100000 in
theorem c_X12_namedMove (l : Launch) {D : wD} {cy : Nat → ClassId} {X : va_W} {S0 : wS} {post : Int32 → wS → Prop} {a0 : Nat} {x1 : Int32} {x2 : Int32} (hL_a0 : wM D S0 a0) (hK_a0 : sK S0 a0 = 17) (hp : wp_X12_namedMove D post S0 a0 x1 x2) : mI D cy X l yX12_namedMove wz_X12_namedMove r_X12_namedMove [.ref a0, .int x1, .int x2] S0 (fun r S9 => wX D S0 S9 ∧ post r S9) := by
  intro sz
  refine Met.ofW (cc := cX12_namedMove) (maxL := 4) (ret := (some .int)) (by decide) rfl ?_
  intro p e s m args below meth c s₁ B hml hv
  obtain ⟨rfl, hsz, hP, hK, hD0, hRO⟩ := hv
  have hts := atoms_spec (ws := wz_X12_namedMove) B.pre
  have hown : s.vm.findClass RX12 = some m.cls := findClass_of_methodNamed B.named
  subst hsz
  have hD := hD0.self (sz := s.heap.size)
  have F : CallFix p m c cX12_namedMove 4 s _ wz_X12_namedMove RX12 := ⟨B.exec, B.bytes, hml, hown, hts⟩
  have hr := B.returns
  have hlocks := B.notSynchronized
  generalize hAe : va_A (wL cy X S0) s.heap.size = A at hD hK ⊢
  have hA : ∀ q, s.heap.size ≤ q → A q := fun q h => by rw [← hAe]; exact Or.inr h
  have hW : wO D cy X A s.heap S0 s.heap [] := ⟨hP, hD, va_S.rf, hA, hRO⟩
  have hl := lv_entry ([.ref a0, .int x1, .int x2]) (n := 4) (Nat.le_of_ble_eq_true rfl)
  rw [lg_entry_eq]
  generalize (lg_sl ([.ref a0, .int x1, .int x2]) ++ List.replicate (4 - (lg_sl ([.ref a0, .int x1, .int x2])).length) Slot.unset).toArray = ls at hl ⊢
  have hl : lv_has ls 4 [(0, .ref a0), (1, .int x1), (2, .int x2)] := hl
  unfold wp_X12_namedMove at hp
  exact t_X12_namedMove_0 F hr hlocks hK hp hW wX.rf (lv_sub hl [0, 1, 2] rfl) hL_a0 hK_a0
