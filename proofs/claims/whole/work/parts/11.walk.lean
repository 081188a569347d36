theorem dX12_answer_0 : decode cX12_answer 0 = .ok (.aload_n 0, 1) := by decide +kernel
theorem dX12_answer_1 : decode cX12_answer 1 = .ok (.aload_n 0, 1) := by decide +kernel
theorem dX12_answer_2 : decode cX12_answer 2 = .ok (.getfield 69, 3) := by decide +kernel
theorem dX12_answer_5 : decode cX12_answer 5 = .ok (.iconst 0, 1) := by decide +kernel
theorem dX12_answer_6 : decode cX12_answer 6 = .ok (.iaload, 1) := by decide +kernel
theorem dX12_answer_7 : decode cX12_answer 7 = .ok (.ifCond .le 7, 3) := by decide +kernel
theorem dX12_answer_10 : decode cX12_answer 10 = .ok (.iconst 1, 1) := by decide +kernel
theorem dX12_answer_11 : decode cX12_answer 11 = .ok (.goto 4, 3) := by decide +kernel
theorem dX12_answer_14 : decode cX12_answer 14 = .ok (.iconst 0, 1) := by decide +kernel
theorem dX12_answer_15 : decode cX12_answer 15 = .ok (.iconst 1, 1) := by decide +kernel
theorem dX12_answer_16 : decode cX12_answer 16 = .ok (.invokevirtual 237, 3) := by decide +kernel
theorem dX12_answer_19 : decode cX12_answer 19 = .ok (.ifCond .ne 5, 3) := by decide +kernel
theorem dX12_answer_22 : decode cX12_answer 22 = .ok (.iconst 0, 1) := by decide +kernel
theorem dX12_answer_23 : decode cX12_answer 23 = .ok (.ireturn, 1) := by decide +kernel
theorem dX12_answer_24 : decode cX12_answer 24 = .ok (.aload_n 0, 1) := by decide +kernel
theorem dX12_answer_25 : decode cX12_answer 25 = .ok (.invokevirtual 515, 3) := by decide +kernel
theorem dX12_answer_28 : decode cX12_answer 28 = .ok (.istore_n 2, 1) := by decide +kernel
theorem dX12_answer_29 : decode cX12_answer 29 = .ok (.aload_n 0, 1) := by decide +kernel
theorem dX12_answer_30 : decode cX12_answer 30 = .ok (.dup, 1) := by decide +kernel
theorem dX12_answer_31 : decode cX12_answer 31 = .ok (.getfield 124, 3) := by decide +kernel
theorem dX12_answer_34 : decode cX12_answer 34 = .ok (.iconst 1, 1) := by decide +kernel
theorem dX12_answer_35 : decode cX12_answer 35 = .ok (.iadd, 1) := by decide +kernel
theorem dX12_answer_36 : decode cX12_answer 36 = .ok (.putfield 124, 3) := by decide +kernel
theorem dX12_answer_39 : decode cX12_answer 39 = .ok (.aload_n 0, 1) := by decide +kernel
theorem dX12_answer_40 : decode cX12_answer 40 = .ok (.getfield 91, 3) := by decide +kernel
theorem dX12_answer_43 : decode cX12_answer 43 = .ok (.iload_n 2, 1) := by decide +kernel
theorem dX12_answer_44 : decode cX12_answer 44 = .ok (.iload_n 1, 1) := by decide +kernel
theorem dX12_answer_45 : decode cX12_answer 45 = .ok (.ifCond .ne 7, 3) := by decide +kernel
theorem dX12_answer_48 : decode cX12_answer 48 = .ok (.iconst 0, 1) := by decide +kernel
theorem dX12_answer_49 : decode cX12_answer 49 = .ok (.goto 25, 3) := by decide +kernel
theorem dX12_answer_52 : decode cX12_answer 52 = .ok (.aload_n 0, 1) := by decide +kernel
theorem dX12_answer_53 : decode cX12_answer 53 = .ok (.getfield 91, 3) := by decide +kernel
theorem dX12_answer_56 : decode cX12_answer 56 = .ok (.iload_n 2, 1) := by decide +kernel
theorem dX12_answer_57 : decode cX12_answer 57 = .ok (.iaload, 1) := by decide +kernel
theorem dX12_answer_58 : decode cX12_answer 58 = .ok (.iconst 4, 1) := by decide +kernel
theorem dX12_answer_59 : decode cX12_answer 59 = .ok (.if_icmp .ge 14, 3) := by decide +kernel
theorem dX12_answer_62 : decode cX12_answer 62 = .ok (.aload_n 0, 1) := by decide +kernel
theorem dX12_answer_63 : decode cX12_answer 63 = .ok (.getfield 91, 3) := by decide +kernel
theorem dX12_answer_66 : decode cX12_answer 66 = .ok (.iload_n 2, 1) := by decide +kernel
theorem dX12_answer_67 : decode cX12_answer 67 = .ok (.iaload, 1) := by decide +kernel
theorem dX12_answer_68 : decode cX12_answer 68 = .ok (.iconst 1, 1) := by decide +kernel
theorem dX12_answer_69 : decode cX12_answer 69 = .ok (.iadd, 1) := by decide +kernel
theorem dX12_answer_70 : decode cX12_answer 70 = .ok (.goto 4, 3) := by decide +kernel
theorem dX12_answer_73 : decode cX12_answer 73 = .ok (.iconst 4, 1) := by decide +kernel
theorem dX12_answer_74 : decode cX12_answer 74 = .ok (.iastore, 1) := by decide +kernel
theorem dX12_answer_75 : decode cX12_answer 75 = .ok (.aload_n 0, 1) := by decide +kernel
theorem dX12_answer_76 : decode cX12_answer 76 = .ok (.getfield 94, 3) := by decide +kernel
theorem dX12_answer_79 : decode cX12_answer 79 = .ok (.iload_n 2, 1) := by decide +kernel
theorem dX12_answer_80 : decode cX12_answer 80 = .ok (.aload_n 0, 1) := by decide +kernel
theorem dX12_answer_81 : decode cX12_answer 81 = .ok (.getfield 124, 3) := by decide +kernel
theorem dX12_answer_84 : decode cX12_answer 84 = .ok (.iconst 1, 1) := by decide +kernel
theorem dX12_answer_85 : decode cX12_answer 85 = .ok (.aload_n 0, 1) := by decide +kernel
theorem dX12_answer_86 : decode cX12_answer 86 = .ok (.getfield 91, 3) := by decide +kernel
theorem dX12_answer_89 : decode cX12_answer 89 = .ok (.iload_n 2, 1) := by decide +kernel
theorem dX12_answer_90 : decode cX12_answer 90 = .ok (.iaload, 1) := by decide +kernel
theorem dX12_answer_91 : decode cX12_answer 91 = .ok (.ishl, 1) := by decide +kernel
theorem dX12_answer_92 : decode cX12_answer 92 = .ok (.iadd, 1) := by decide +kernel
theorem dX12_answer_93 : decode cX12_answer 93 = .ok (.iastore, 1) := by decide +kernel
theorem dX12_answer_94 : decode cX12_answer 94 = .ok (.aload_n 0, 1) := by decide +kernel
theorem dX12_answer_95 : decode cX12_answer 95 = .ok (.getfield 91, 3) := by decide +kernel
theorem dX12_answer_98 : decode cX12_answer 98 = .ok (.iload_n 2, 1) := by decide +kernel
theorem dX12_answer_99 : decode cX12_answer 99 = .ok (.iaload, 1) := by decide +kernel
theorem dX12_answer_100 : decode cX12_answer 100 = .ok (.ireturn, 1) := by decide +kernel
theorem dX12_isSame_0 : decode cX12_isSame 0 = .ok (.iconst 0, 1) := by decide +kernel
theorem dX12_isSame_1 : decode cX12_isSame 1 = .ok (.istore 4, 2) := by decide +kernel
theorem dX12_isSame_3 : decode cX12_isSame 3 = .ok (.iload 4, 2) := by decide +kernel
theorem dX12_isSame_5 : decode cX12_isSame 5 = .ok (.bipush 67, 2) := by decide +kernel
theorem dX12_isSame_7 : decode cX12_isSame 7 = .ok (.if_icmp .ge 26, 3) := by decide +kernel
theorem dX12_isSame_10 : decode cX12_isSame 10 = .ok (.aload_n 0, 1) := by decide +kernel
theorem dX12_isSame_11 : decode cX12_isSame 11 = .ok (.iload_n 1, 1) := by decide +kernel
theorem dX12_isSame_12 : decode cX12_isSame 12 = .ok (.iload 4, 2) := by decide +kernel
theorem dX12_isSame_14 : decode cX12_isSame 14 = .ok (.iadd, 1) := by decide +kernel
theorem dX12_isSame_15 : decode cX12_isSame 15 = .ok (.iaload, 1) := by decide +kernel
theorem dX12_isSame_16 : decode cX12_isSame 16 = .ok (.aload_n 2, 1) := by decide +kernel
theorem dX12_isSame_17 : decode cX12_isSame 17 = .ok (.iload_n 3, 1) := by decide +kernel
theorem dX12_isSame_18 : decode cX12_isSame 18 = .ok (.iload 4, 2) := by decide +kernel
theorem dX12_isSame_20 : decode cX12_isSame 20 = .ok (.iadd, 1) := by decide +kernel
theorem dX12_isSame_21 : decode cX12_isSame 21 = .ok (.iaload, 1) := by decide +kernel
theorem dX12_isSame_22 : decode cX12_isSame 22 = .ok (.if_icmp .eq 5, 3) := by decide +kernel
theorem dX12_isSame_25 : decode cX12_isSame 25 = .ok (.iconst 0, 1) := by decide +kernel
theorem dX12_isSame_26 : decode cX12_isSame 26 = .ok (.ireturn, 1) := by decide +kernel
theorem dX12_isSame_27 : decode cX12_isSame 27 = .ok (.iinc 4 1, 3) := by decide +kernel
theorem dX12_isSame_30 : decode cX12_isSame 30 = .ok (.goto (-27), 3) := by decide +kernel
theorem dX12_isSame_33 : decode cX12_isSame 33 = .ok (.iconst 1, 1) := by decide +kernel
theorem dX12_isSame_34 : decode cX12_isSame 34 = .ok (.ireturn, 1) := by decide +kernel
theorem dX12_areAlike_0 : decode cX12_areAlike 0 = .ok (.aload_n 0, 1) := by decide +kernel
theorem dX12_areAlike_1 : decode cX12_areAlike 1 = .ok (.getfield 79, 3) := by decide +kernel
theorem dX12_areAlike_4 : decode cX12_areAlike 4 = .ok (.iload_n 1, 1) := by decide +kernel
theorem dX12_areAlike_5 : decode cX12_areAlike 5 = .ok (.iaload, 1) := by decide +kernel
theorem dX12_areAlike_6 : decode cX12_areAlike 6 = .ok (.aload_n 0, 1) := by decide +kernel
theorem dX12_areAlike_7 : decode cX12_areAlike 7 = .ok (.getfield 79, 3) := by decide +kernel
theorem dX12_areAlike_10 : decode cX12_areAlike 10 = .ok (.iload_n 2, 1) := by decide +kernel
theorem dX12_areAlike_11 : decode cX12_areAlike 11 = .ok (.iaload, 1) := by decide +kernel
theorem dX12_areAlike_12 : decode cX12_areAlike 12 = .ok (.if_icmp .ne 27, 3) := by decide +kernel
theorem dX12_areAlike_15 : decode cX12_areAlike 15 = .ok (.aload_n 0, 1) := by decide +kernel
theorem dX12_areAlike_16 : decode cX12_areAlike 16 = .ok (.getfield 73, 3) := by decide +kernel
theorem dX12_areAlike_19 : decode cX12_areAlike 19 = .ok (.sipush 5427, 3) := by decide +kernel
theorem dX12_areAlike_22 : decode cX12_areAlike 22 = .ok (.iload_n 1, 1) := by decide +kernel
theorem dX12_areAlike_23 : decode cX12_areAlike 23 = .ok (.imul, 1) := by decide +kernel
theorem dX12_areAlike_24 : decode cX12_areAlike 24 = .ok (.aload_n 0, 1) := by decide +kernel
theorem dX12_areAlike_25 : decode cX12_areAlike 25 = .ok (.getfield 73, 3) := by decide +kernel
theorem dX12_areAlike_28 : decode cX12_areAlike 28 = .ok (.sipush 5427, 3) := by decide +kernel
theorem dX12_areAlike_31 : decode cX12_areAlike 31 = .ok (.iload_n 2, 1) := by decide +kernel
theorem dX12_areAlike_32 : decode cX12_areAlike 32 = .ok (.imul, 1) := by decide +kernel
theorem dX12_areAlike_33 : decode cX12_areAlike 33 = .ok (.invokestatic 330, 3) := by decide +kernel
theorem dX12_areAlike_36 : decode cX12_areAlike 36 = .ok (.ifCond .ne 5, 3) := by decide +kernel
theorem dX12_areAlike_39 : decode cX12_areAlike 39 = .ok (.iconst 0, 1) := by decide +kernel
theorem dX12_areAlike_40 : decode cX12_areAlike 40 = .ok (.ireturn, 1) := by decide +kernel
theorem dX12_areAlike_41 : decode cX12_areAlike 41 = .ok (.iconst 0, 1) := by decide +kernel
theorem dX12_areAlike_42 : decode cX12_areAlike 42 = .ok (.istore_n 3, 1) := by decide +kernel
theorem dX12_areAlike_43 : decode cX12_areAlike 43 = .ok (.iload_n 3, 1) := by decide +kernel
theorem dX12_areAlike_44 : decode cX12_areAlike 44 = .ok (.aload_n 0, 1) := by decide +kernel
theorem dX12_areAlike_45 : decode cX12_areAlike 45 = .ok (.getfield 79, 3) := by decide +kernel
theorem dX12_areAlike_48 : decode cX12_areAlike 48 = .ok (.iload_n 1, 1) := by decide +kernel
theorem dX12_areAlike_49 : decode cX12_areAlike 49 = .ok (.iaload, 1) := by decide +kernel
theorem dX12_areAlike_50 : decode cX12_areAlike 50 = .ok (.if_icmp .ge 36, 3) := by decide +kernel
theorem dX12_areAlike_53 : decode cX12_areAlike 53 = .ok (.aload_n 0, 1) := by decide +kernel
theorem dX12_areAlike_54 : decode cX12_areAlike 54 = .ok (.getfield 76, 3) := by decide +kernel
theorem dX12_areAlike_57 : decode cX12_areAlike 57 = .ok (.bipush 80, 2) := by decide +kernel
theorem dX12_areAlike_59 : decode cX12_areAlike 59 = .ok (.iload_n 1, 1) := by decide +kernel
theorem dX12_areAlike_60 : decode cX12_areAlike 60 = .ok (.imul, 1) := by decide +kernel
theorem dX12_areAlike_61 : decode cX12_areAlike 61 = .ok (.iload_n 3, 1) := by decide +kernel
theorem dX12_areAlike_62 : decode cX12_areAlike 62 = .ok (.iadd, 1) := by decide +kernel
theorem dX12_areAlike_63 : decode cX12_areAlike 63 = .ok (.iaload, 1) := by decide +kernel
theorem dX12_areAlike_64 : decode cX12_areAlike 64 = .ok (.aload_n 0, 1) := by decide +kernel
theorem dX12_areAlike_65 : decode cX12_areAlike 65 = .ok (.getfield 76, 3) := by decide +kernel
theorem dX12_areAlike_68 : decode cX12_areAlike 68 = .ok (.bipush 80, 2) := by decide +kernel
theorem dX12_areAlike_70 : decode cX12_areAlike 70 = .ok (.iload_n 2, 1) := by decide +kernel
theorem dX12_areAlike_71 : decode cX12_areAlike 71 = .ok (.imul, 1) := by decide +kernel
theorem dX12_areAlike_72 : decode cX12_areAlike 72 = .ok (.iload_n 3, 1) := by decide +kernel
theorem dX12_areAlike_73 : decode cX12_areAlike 73 = .ok (.iadd, 1) := by decide +kernel
theorem dX12_areAlike_74 : decode cX12_areAlike 74 = .ok (.iaload, 1) := by decide +kernel
theorem dX12_areAlike_75 : decode cX12_areAlike 75 = .ok (.if_icmp .eq 5, 3) := by decide +kernel
theorem dX12_areAlike_78 : decode cX12_areAlike 78 = .ok (.iconst 0, 1) := by decide +kernel
theorem dX12_areAlike_79 : decode cX12_areAlike 79 = .ok (.ireturn, 1) := by decide +kernel
theorem dX12_areAlike_80 : decode cX12_areAlike 80 = .ok (.iinc 3 1, 3) := by decide +kernel
theorem dX12_areAlike_83 : decode cX12_areAlike 83 = .ok (.goto (-40), 3) := by decide +kernel
theorem dX12_areAlike_86 : decode cX12_areAlike 86 = .ok (.iconst 1, 1) := by decide +kernel
theorem dX12_areAlike_87 : decode cX12_areAlike 87 = .ok (.ireturn, 1) := by decide +kernel
theorem dX12_castles_0 : decode cX12_castles 0 = .ok (.aload_n 0, 1) := by decide +kernel
theorem dX12_castles_1 : decode cX12_castles 1 = .ok (.iload_n 1, 1) := by decide +kernel
theorem dX12_castles_2 : decode cX12_castles 2 = .ok (.invokevirtual 183, 3) := by decide +kernel
theorem dX12_castles_5 : decode cX12_castles 5 = .ok (.istore 4, 2) := by decide +kernel
theorem dX12_castles_7 : decode cX12_castles 7 = .ok (.iload_n 3, 1) := by decide +kernel
theorem dX12_castles_8 : decode cX12_castles 8 = .ok (.aload_n 0, 1) := by decide +kernel
theorem dX12_castles_9 : decode cX12_castles 9 = .ok (.iload 4, 2) := by decide +kernel
theorem dX12_castles_11 : decode cX12_castles 11 = .ok (.bipush 6, 2) := by decide +kernel
theorem dX12_castles_13 : decode cX12_castles 13 = .ok (.invokevirtual 173, 3) := by decide +kernel
theorem dX12_castles_16 : decode cX12_castles 16 = .ok (.if_icmp .ne 7, 3) := by decide +kernel
theorem dX12_castles_19 : decode cX12_castles 19 = .ok (.iconst 1, 1) := by decide +kernel
theorem dX12_castles_20 : decode cX12_castles 20 = .ok (.goto 4, 3) := by decide +kernel
theorem dX12_castles_23 : decode cX12_castles 23 = .ok (.iconst 0, 1) := by decide +kernel
theorem dX12_castles_24 : decode cX12_castles 24 = .ok (.istore 5, 2) := by decide +kernel
theorem dX12_castles_26 : decode cX12_castles 26 = .ok (.iload 4, 2) := by decide +kernel
theorem dX12_castles_28 : decode cX12_castles 28 = .ok (.iconst 1, 1) := by decide +kernel
theorem dX12_castles_29 : decode cX12_castles 29 = .ok (.if_icmp .ne 7, 3) := by decide +kernel
theorem dX12_castles_32 : decode cX12_castles 32 = .ok (.iconst 0, 1) := by decide +kernel
theorem dX12_castles_33 : decode cX12_castles 33 = .ok (.goto 4, 3) := by decide +kernel
theorem dX12_castles_36 : decode cX12_castles 36 = .ok (.iconst 2, 1) := by decide +kernel
theorem dX12_castles_37 : decode cX12_castles 37 = .ok (.iload 5, 2) := by decide +kernel
theorem dX12_castles_39 : decode cX12_castles 39 = .ok (.ifCond .eq 7, 3) := by decide +kernel
theorem dX12_castles_42 : decode cX12_castles 42 = .ok (.iconst 0, 1) := by decide +kernel
theorem dX12_castles_43 : decode cX12_castles 43 = .ok (.goto 4, 3) := by decide +kernel
theorem dX12_castles_46 : decode cX12_castles 46 = .ok (.iconst 1, 1) := by decide +kernel
theorem dX12_castles_47 : decode cX12_castles 47 = .ok (.iadd, 1) := by decide +kernel
theorem dX12_castles_48 : decode cX12_castles 48 = .ok (.istore 6, 2) := by decide +kernel
theorem dX12_castles_50 : decode cX12_castles 50 = .ok (.aload_n 0, 1) := by decide +kernel
theorem dX12_castles_51 : decode cX12_castles 51 = .ok (.getfield 9, 3) := by decide +kernel
theorem dX12_castles_54 : decode cX12_castles 54 = .ok (.bipush 8, 2) := by decide +kernel
theorem dX12_castles_56 : decode cX12_castles 56 = .ok (.if_icmp .ne 50, 3) := by decide +kernel
theorem dX12_castles_59 : decode cX12_castles 59 = .ok (.iload 5, 2) := by decide +kernel
theorem dX12_castles_61 : decode cX12_castles 61 = .ok (.ifCond .ne 14, 3) := by decide +kernel
theorem dX12_castles_64 : decode cX12_castles 64 = .ok (.iload_n 3, 1) := by decide +kernel
theorem dX12_castles_65 : decode cX12_castles 65 = .ok (.aload_n 0, 1) := by decide +kernel
theorem dX12_castles_66 : decode cX12_castles 66 = .ok (.iload 4, 2) := by decide +kernel
theorem dX12_castles_68 : decode cX12_castles 68 = .ok (.iconst 2, 1) := by decide +kernel
theorem dX12_castles_69 : decode cX12_castles 69 = .ok (.invokevirtual 173, 3) := by decide +kernel
theorem dX12_castles_72 : decode cX12_castles 72 = .ok (.if_icmp .ne 34, 3) := by decide +kernel
theorem dX12_castles_75 : decode cX12_castles 75 = .ok (.aload_n 0, 1) := by decide +kernel
theorem dX12_castles_76 : decode cX12_castles 76 = .ok (.getfield 16, 3) := by decide +kernel
theorem dX12_castles_79 : decode cX12_castles 79 = .ok (.bipush 67, 2) := by decide +kernel
theorem dX12_castles_81 : decode cX12_castles 81 = .ok (.iload_n 1, 1) := by decide +kernel
theorem dX12_castles_82 : decode cX12_castles 82 = .ok (.imul, 1) := by decide +kernel
theorem dX12_castles_83 : decode cX12_castles 83 = .ok (.bipush 65, 2) := by decide +kernel
theorem dX12_castles_85 : decode cX12_castles 85 = .ok (.iadd, 1) := by decide +kernel
theorem dX12_castles_86 : decode cX12_castles 86 = .ok (.iaload, 1) := by decide +kernel
theorem dX12_castles_87 : decode cX12_castles 87 = .ok (.iload 6, 2) := by decide +kernel
theorem dX12_castles_89 : decode cX12_castles 89 = .ok (.ishr, 1) := by decide +kernel
theorem dX12_castles_90 : decode cX12_castles 90 = .ok (.iconst 1, 1) := by decide +kernel
theorem dX12_castles_91 : decode cX12_castles 91 = .ok (.iand, 1) := by decide +kernel
theorem dX12_castles_92 : decode cX12_castles 92 = .ok (.ifCond .eq 14, 3) := by decide +kernel
theorem dX12_castles_95 : decode cX12_castles 95 = .ok (.iload_n 2, 1) := by decide +kernel
theorem dX12_castles_96 : decode cX12_castles 96 = .ok (.aload_n 0, 1) := by decide +kernel
theorem dX12_castles_97 : decode cX12_castles 97 = .ok (.iload 4, 2) := by decide +kernel
theorem dX12_castles_99 : decode cX12_castles 99 = .ok (.iconst 4, 1) := by decide +kernel
theorem dX12_castles_100 : decode cX12_castles 100 = .ok (.invokevirtual 173, 3) := by decide +kernel
theorem dX12_castles_103 : decode cX12_castles 103 = .ok (.if_icmp .eq 5, 3) := by decide +kernel
theorem dX12_castles_106 : decode cX12_castles 106 = .ok (.iconst 0, 1) := by decide +kernel
theorem dX12_castles_107 : decode cX12_castles 107 = .ok (.ireturn, 1) := by decide +kernel
theorem dX12_castles_108 : decode cX12_castles 108 = .ok (.aload_n 0, 1) := by decide +kernel
theorem dX12_castles_109 : decode cX12_castles 109 = .ok (.iload_n 1, 1) := by decide +kernel
theorem dX12_castles_110 : decode cX12_castles 110 = .ok (.iload_n 2, 1) := by decide +kernel
theorem dX12_castles_111 : decode cX12_castles 111 = .ok (.aload_n 0, 1) := by decide +kernel
theorem dX12_castles_112 : decode cX12_castles 112 = .ok (.iload 4, 2) := by decide +kernel
theorem dX12_castles_114 : decode cX12_castles 114 = .ok (.iload 5, 2) := by decide +kernel
theorem dX12_castles_116 : decode cX12_castles 116 = .ok (.ifCond .eq 8, 3) := by decide +kernel
theorem dX12_castles_119 : decode cX12_castles 119 = .ok (.bipush 7, 2) := by decide +kernel
theorem dX12_castles_121 : decode cX12_castles 121 = .ok (.goto 4, 3) := by decide +kernel
theorem dX12_castles_124 : decode cX12_castles 124 = .ok (.iconst 0, 1) := by decide +kernel
theorem dX12_castles_125 : decode cX12_castles 125 = .ok (.invokevirtual 173, 3) := by decide +kernel
theorem dX12_castles_128 : decode cX12_castles 128 = .ok (.invokevirtual 151, 3) := by decide +kernel
theorem dX12_castles_131 : decode cX12_castles 131 = .ok (.ifCond .ne 5, 3) := by decide +kernel
theorem dX12_castles_134 : decode cX12_castles 134 = .ok (.iconst 0, 1) := by decide +kernel
theorem dX12_castles_135 : decode cX12_castles 135 = .ok (.ireturn, 1) := by decide +kernel
theorem dX12_castles_136 : decode cX12_castles 136 = .ok (.aload_n 0, 1) := by decide +kernel
theorem dX12_castles_137 : decode cX12_castles 137 = .ok (.iload 4, 2) := by decide +kernel
theorem dX12_castles_139 : decode cX12_castles 139 = .ok (.iload 5, 2) := by decide +kernel
theorem dX12_castles_141 : decode cX12_castles 141 = .ok (.ifCond .eq 7, 3) := by decide +kernel
theorem dX12_castles_144 : decode cX12_castles 144 = .ok (.iconst 5, 1) := by decide +kernel
theorem dX12_castles_145 : decode cX12_castles 145 = .ok (.goto 4, 3) := by decide +kernel
theorem dX12_castles_148 : decode cX12_castles 148 = .ok (.iconst 3, 1) := by decide +kernel
theorem dX12_castles_149 : decode cX12_castles 149 = .ok (.invokevirtual 173, 3) := by decide +kernel
theorem dX12_castles_152 : decode cX12_castles 152 = .ok (.istore 7, 2) := by decide +kernel
theorem dX12_castles_154 : decode cX12_castles 154 = .ok (.aload_n 0, 1) := by decide +kernel
theorem dX12_castles_155 : decode cX12_castles 155 = .ok (.iload_n 1, 1) := by decide +kernel
theorem dX12_castles_156 : decode cX12_castles 156 = .ok (.iload_n 2, 1) := by decide +kernel
theorem dX12_castles_157 : decode cX12_castles 157 = .ok (.iconst 1, 1) := by decide +kernel
theorem dX12_castles_158 : decode cX12_castles 158 = .ok (.iload 4, 2) := by decide +kernel
theorem dX12_castles_160 : decode cX12_castles 160 = .ok (.isub, 1) := by decide +kernel
theorem dX12_castles_161 : decode cX12_castles 161 = .ok (.invokevirtual 167, 3) := by decide +kernel
theorem dX12_castles_164 : decode cX12_castles 164 = .ok (.ifCond .ne 34, 3) := by decide +kernel
theorem dX12_castles_167 : decode cX12_castles 167 = .ok (.aload_n 0, 1) := by decide +kernel
theorem dX12_castles_168 : decode cX12_castles 168 = .ok (.iload_n 1, 1) := by decide +kernel
theorem dX12_castles_169 : decode cX12_castles 169 = .ok (.iload 7, 2) := by decide +kernel
theorem dX12_castles_171 : decode cX12_castles 171 = .ok (.iconst 1, 1) := by decide +kernel
theorem dX12_castles_172 : decode cX12_castles 172 = .ok (.iload 4, 2) := by decide +kernel
theorem dX12_castles_174 : decode cX12_castles 174 = .ok (.isub, 1) := by decide +kernel
theorem dX12_castles_175 : decode cX12_castles 175 = .ok (.invokevirtual 167, 3) := by decide +kernel
theorem dX12_castles_178 : decode cX12_castles 178 = .ok (.ifCond .ne 20, 3) := by decide +kernel
theorem dX12_castles_181 : decode cX12_castles 181 = .ok (.aload_n 0, 1) := by decide +kernel
theorem dX12_castles_182 : decode cX12_castles 182 = .ok (.iload_n 1, 1) := by decide +kernel
theorem dX12_castles_183 : decode cX12_castles 183 = .ok (.iload_n 3, 1) := by decide +kernel
theorem dX12_castles_184 : decode cX12_castles 184 = .ok (.iconst 1, 1) := by decide +kernel
theorem dX12_castles_185 : decode cX12_castles 185 = .ok (.iload 4, 2) := by decide +kernel
theorem dX12_castles_187 : decode cX12_castles 187 = .ok (.isub, 1) := by decide +kernel
theorem dX12_castles_188 : decode cX12_castles 188 = .ok (.invokevirtual 167, 3) := by decide +kernel
theorem dX12_castles_191 : decode cX12_castles 191 = .ok (.ifCond .ne 7, 3) := by decide +kernel
theorem dX12_castles_194 : decode cX12_castles 194 = .ok (.iconst 1, 1) := by decide +kernel
theorem dX12_castles_195 : decode cX12_castles 195 = .ok (.goto 4, 3) := by decide +kernel
theorem dX12_castles_198 : decode cX12_castles 198 = .ok (.iconst 0, 1) := by decide +kernel
theorem dX12_castles_199 : decode cX12_castles 199 = .ok (.ireturn, 1) := by decide +kernel
theorem dX12_passing_0 : decode cX12_passing 0 = .ok (.aload_n 0, 1) := by decide +kernel
theorem dX12_passing_1 : decode cX12_passing 1 = .ok (.getfield 16, 3) := by decide +kernel
theorem dX12_passing_4 : decode cX12_passing 4 = .ok (.bipush 67, 2) := by decide +kernel
theorem dX12_passing_6 : decode cX12_passing 6 = .ok (.iload_n 1, 1) := by decide +kernel
theorem dX12_passing_7 : decode cX12_passing 7 = .ok (.imul, 1) := by decide +kernel
theorem dX12_passing_8 : decode cX12_passing 8 = .ok (.bipush 66, 2) := by decide +kernel
theorem dX12_passing_10 : decode cX12_passing 10 = .ok (.iadd, 1) := by decide +kernel
theorem dX12_passing_11 : decode cX12_passing 11 = .ok (.iaload, 1) := by decide +kernel
theorem dX12_passing_12 : decode cX12_passing 12 = .ok (.ireturn, 1) := by decide +kernel
theorem dX12_goesAsPawn_0 : decode cX12_goesAsPawn 0 = .ok (.aload_n 0, 1) := by decide +kernel
theorem dX12_goesAsPawn_1 : decode cX12_goesAsPawn 1 = .ok (.iload_n 1, 1) := by decide +kernel
theorem dX12_goesAsPawn_2 : decode cX12_goesAsPawn 2 = .ok (.invokevirtual 183, 3) := by decide +kernel
theorem dX12_goesAsPawn_5 : decode cX12_goesAsPawn 5 = .ok (.istore 4, 2) := by decide +kernel
theorem dX12_goesAsPawn_7 : decode cX12_goesAsPawn 7 = .ok (.iload 4, 2) := by decide +kernel
theorem dX12_goesAsPawn_9 : decode cX12_goesAsPawn 9 = .ok (.iconst 1, 1) := by decide +kernel
theorem dX12_goesAsPawn_10 : decode cX12_goesAsPawn 10 = .ok (.if_icmp .ne 7, 3) := by decide +kernel
theorem dX12_goesAsPawn_13 : decode cX12_goesAsPawn 13 = .ok (.iconst 1, 1) := by decide +kernel
theorem dX12_goesAsPawn_14 : decode cX12_goesAsPawn 14 = .ok (.goto 4, 3) := by decide +kernel
theorem dX12_goesAsPawn_17 : decode cX12_goesAsPawn 17 = .ok (.iconst (-1), 1) := by decide +kernel
theorem dX12_goesAsPawn_18 : decode cX12_goesAsPawn 18 = .ok (.istore 5, 2) := by decide +kernel
theorem dX12_goesAsPawn_20 : decode cX12_goesAsPawn 20 = .ok (.aload_n 0, 1) := by decide +kernel
theorem dX12_goesAsPawn_21 : decode cX12_goesAsPawn 21 = .ok (.iload_n 1, 1) := by decide +kernel
theorem dX12_goesAsPawn_22 : decode cX12_goesAsPawn 22 = .ok (.iload_n 2, 1) := by decide +kernel
theorem dX12_goesAsPawn_23 : decode cX12_goesAsPawn 23 = .ok (.iload_n 3, 1) := by decide +kernel
theorem dX12_goesAsPawn_24 : decode cX12_goesAsPawn 24 = .ok (.invokevirtual 158, 3) := by decide +kernel
theorem dX12_goesAsPawn_27 : decode cX12_goesAsPawn 27 = .ok (.ifCond .eq 27, 3) := by decide +kernel
theorem dX12_goesAsPawn_30 : decode cX12_goesAsPawn 30 = .ok (.aload_n 0, 1) := by decide +kernel
theorem dX12_goesAsPawn_31 : decode cX12_goesAsPawn 31 = .ok (.iload_n 1, 1) := by decide +kernel
theorem dX12_goesAsPawn_32 : decode cX12_goesAsPawn 32 = .ok (.iload_n 3, 1) := by decide +kernel
theorem dX12_goesAsPawn_33 : decode cX12_goesAsPawn 33 = .ok (.invokevirtual 141, 3) := by decide +kernel
theorem dX12_goesAsPawn_36 : decode cX12_goesAsPawn 36 = .ok (.ifCond .ne 12, 3) := by decide +kernel
theorem dX12_goesAsPawn_39 : decode cX12_goesAsPawn 39 = .ok (.iload_n 3, 1) := by decide +kernel
theorem dX12_goesAsPawn_40 : decode cX12_goesAsPawn 40 = .ok (.aload_n 0, 1) := by decide +kernel
theorem dX12_goesAsPawn_41 : decode cX12_goesAsPawn 41 = .ok (.iload_n 1, 1) := by decide +kernel
theorem dX12_goesAsPawn_42 : decode cX12_goesAsPawn 42 = .ok (.invokevirtual 201, 3) := by decide +kernel
theorem dX12_goesAsPawn_45 : decode cX12_goesAsPawn 45 = .ok (.if_icmp .ne 7, 3) := by decide +kernel
theorem dX12_goesAsPawn_48 : decode cX12_goesAsPawn 48 = .ok (.iconst 1, 1) := by decide +kernel
theorem dX12_goesAsPawn_49 : decode cX12_goesAsPawn 49 = .ok (.goto 4, 3) := by decide +kernel
theorem dX12_goesAsPawn_52 : decode cX12_goesAsPawn 52 = .ok (.iconst 0, 1) := by decide +kernel
theorem dX12_goesAsPawn_53 : decode cX12_goesAsPawn 53 = .ok (.ireturn, 1) := by decide +kernel
theorem dX12_goesAsPawn_54 : decode cX12_goesAsPawn 54 = .ok (.aload_n 0, 1) := by decide +kernel
theorem dX12_goesAsPawn_55 : decode cX12_goesAsPawn 55 = .ok (.iload_n 2, 1) := by decide +kernel
theorem dX12_goesAsPawn_56 : decode cX12_goesAsPawn 56 = .ok (.invokevirtual 134, 3) := by decide +kernel
theorem dX12_goesAsPawn_59 : decode cX12_goesAsPawn 59 = .ok (.aload_n 0, 1) := by decide +kernel
theorem dX12_goesAsPawn_60 : decode cX12_goesAsPawn 60 = .ok (.iload_n 3, 1) := by decide +kernel
theorem dX12_goesAsPawn_61 : decode cX12_goesAsPawn 61 = .ok (.invokevirtual 134, 3) := by decide +kernel
theorem dX12_goesAsPawn_64 : decode cX12_goesAsPawn 64 = .ok (.if_icmp .ne 12, 3) := by decide +kernel
theorem dX12_goesAsPawn_67 : decode cX12_goesAsPawn 67 = .ok (.aload_n 0, 1) := by decide +kernel
theorem dX12_goesAsPawn_68 : decode cX12_goesAsPawn 68 = .ok (.iload_n 1, 1) := by decide +kernel
theorem dX12_goesAsPawn_69 : decode cX12_goesAsPawn 69 = .ok (.iload_n 3, 1) := by decide +kernel
theorem dX12_goesAsPawn_70 : decode cX12_goesAsPawn 70 = .ok (.invokevirtual 141, 3) := by decide +kernel
theorem dX12_goesAsPawn_73 : decode cX12_goesAsPawn 73 = .ok (.ifCond .eq 5, 3) := by decide +kernel
theorem dX12_goesAsPawn_76 : decode cX12_goesAsPawn 76 = .ok (.iconst 0, 1) := by decide +kernel
theorem dX12_goesAsPawn_77 : decode cX12_goesAsPawn 77 = .ok (.ireturn, 1) := by decide +kernel
theorem dX12_goesAsPawn_78 : decode cX12_goesAsPawn 78 = .ok (.aload_n 0, 1) := by decide +kernel
theorem dX12_goesAsPawn_79 : decode cX12_goesAsPawn 79 = .ok (.iload_n 3, 1) := by decide +kernel
theorem dX12_goesAsPawn_80 : decode cX12_goesAsPawn 80 = .ok (.invokevirtual 138, 3) := by decide +kernel
theorem dX12_goesAsPawn_83 : decode cX12_goesAsPawn 83 = .ok (.aload_n 0, 1) := by decide +kernel
theorem dX12_goesAsPawn_84 : decode cX12_goesAsPawn 84 = .ok (.iload_n 2, 1) := by decide +kernel
theorem dX12_goesAsPawn_85 : decode cX12_goesAsPawn 85 = .ok (.invokevirtual 138, 3) := by decide +kernel
theorem dX12_goesAsPawn_88 : decode cX12_goesAsPawn 88 = .ok (.isub, 1) := by decide +kernel
theorem dX12_goesAsPawn_89 : decode cX12_goesAsPawn 89 = .ok (.iload 5, 2) := by decide +kernel
theorem dX12_goesAsPawn_91 : decode cX12_goesAsPawn 91 = .ok (.imul, 1) := by decide +kernel
theorem dX12_goesAsPawn_92 : decode cX12_goesAsPawn 92 = .ok (.istore 6, 2) := by decide +kernel
theorem dX12_goesAsPawn_94 : decode cX12_goesAsPawn 94 = .ok (.iload 6, 2) := by decide +kernel
theorem dX12_goesAsPawn_96 : decode cX12_goesAsPawn 96 = .ok (.iconst 1, 1) := by decide +kernel
theorem dX12_goesAsPawn_97 : decode cX12_goesAsPawn 97 = .ok (.if_icmp .eq 52, 3) := by decide +kernel
theorem dX12_goesAsPawn_100 : decode cX12_goesAsPawn 100 = .ok (.iload 6, 2) := by decide +kernel
theorem dX12_goesAsPawn_102 : decode cX12_goesAsPawn 102 = .ok (.iconst 2, 1) := by decide +kernel
theorem dX12_goesAsPawn_103 : decode cX12_goesAsPawn 103 = .ok (.if_icmp .ne 50, 3) := by decide +kernel
theorem dX12_goesAsPawn_106 : decode cX12_goesAsPawn 106 = .ok (.aload_n 0, 1) := by decide +kernel
theorem dX12_goesAsPawn_107 : decode cX12_goesAsPawn 107 = .ok (.getfield 13, 3) := by decide +kernel
theorem dX12_goesAsPawn_110 : decode cX12_goesAsPawn 110 = .ok (.bipush 6, 2) := by decide +kernel
theorem dX12_goesAsPawn_112 : decode cX12_goesAsPawn 112 = .ok (.if_icmp .lt 41, 3) := by decide +kernel
theorem dX12_goesAsPawn_115 : decode cX12_goesAsPawn 115 = .ok (.aload_n 0, 1) := by decide +kernel
theorem dX12_goesAsPawn_116 : decode cX12_goesAsPawn 116 = .ok (.iload_n 2, 1) := by decide +kernel
theorem dX12_goesAsPawn_117 : decode cX12_goesAsPawn 117 = .ok (.invokevirtual 138, 3) := by decide +kernel
theorem dX12_goesAsPawn_120 : decode cX12_goesAsPawn 120 = .ok (.aload_n 0, 1) := by decide +kernel
theorem dX12_goesAsPawn_121 : decode cX12_goesAsPawn 121 = .ok (.iload 4, 2) := by decide +kernel
theorem dX12_goesAsPawn_123 : decode cX12_goesAsPawn 123 = .ok (.invokevirtual 170, 3) := by decide +kernel
theorem dX12_goesAsPawn_126 : decode cX12_goesAsPawn 126 = .ok (.iload 5, 2) := by decide +kernel
theorem dX12_goesAsPawn_128 : decode cX12_goesAsPawn 128 = .ok (.iadd, 1) := by decide +kernel
theorem dX12_goesAsPawn_129 : decode cX12_goesAsPawn 129 = .ok (.if_icmp .ne 24, 3) := by decide +kernel
theorem dX12_goesAsPawn_132 : decode cX12_goesAsPawn 132 = .ok (.aload_n 0, 1) := by decide +kernel
theorem dX12_goesAsPawn_133 : decode cX12_goesAsPawn 133 = .ok (.iload_n 1, 1) := by decide +kernel
theorem dX12_goesAsPawn_134 : decode cX12_goesAsPawn 134 = .ok (.iload_n 2, 1) := by decide +kernel
theorem dX12_goesAsPawn_135 : decode cX12_goesAsPawn 135 = .ok (.iload 5, 2) := by decide +kernel
theorem dX12_goesAsPawn_137 : decode cX12_goesAsPawn 137 = .ok (.aload_n 0, 1) := by decide +kernel
theorem dX12_goesAsPawn_138 : decode cX12_goesAsPawn 138 = .ok (.getfield 9, 3) := by decide +kernel
theorem dX12_goesAsPawn_141 : decode cX12_goesAsPawn 141 = .ok (.imul, 1) := by decide +kernel
theorem dX12_goesAsPawn_142 : decode cX12_goesAsPawn 142 = .ok (.iadd, 1) := by decide +kernel
theorem dX12_goesAsPawn_143 : decode cX12_goesAsPawn 143 = .ok (.invokevirtual 141, 3) := by decide +kernel
theorem dX12_goesAsPawn_146 : decode cX12_goesAsPawn 146 = .ok (.ifCond .ne 7, 3) := by decide +kernel
theorem dX12_goesAsPawn_149 : decode cX12_goesAsPawn 149 = .ok (.iconst 1, 1) := by decide +kernel
theorem dX12_goesAsPawn_150 : decode cX12_goesAsPawn 150 = .ok (.goto 4, 3) := by decide +kernel
theorem dX12_goesAsPawn_153 : decode cX12_goesAsPawn 153 = .ok (.iconst 0, 1) := by decide +kernel
theorem dX12_goesAsPawn_154 : decode cX12_goesAsPawn 154 = .ok (.ireturn, 1) := by decide +kernel
theorem dX12_goes_0 : decode cX12_goes 0 = .ok (.aload_n 0, 1) := by decide +kernel
theorem dX12_goes_1 : decode cX12_goes 1 = .ok (.iload_n 1, 1) := by decide +kernel
theorem dX12_goes_2 : decode cX12_goes 2 = .ok (.invokevirtual 183, 3) := by decide +kernel
theorem dX12_goes_5 : decode cX12_goes 5 = .ok (.istore 4, 2) := by decide +kernel
theorem dX12_goes_7 : decode cX12_goes 7 = .ok (.iload_n 2, 1) := by decide +kernel
theorem dX12_goes_8 : decode cX12_goes 8 = .ok (.iload_n 3, 1) := by decide +kernel
theorem dX12_goes_9 : decode cX12_goes 9 = .ok (.if_icmp .eq 17, 3) := by decide +kernel
theorem dX12_goes_12 : decode cX12_goes 12 = .ok (.aload_n 0, 1) := by decide +kernel
theorem dX12_goes_13 : decode cX12_goes 13 = .ok (.iload_n 1, 1) := by decide +kernel
theorem dX12_goes_14 : decode cX12_goes 14 = .ok (.iload_n 3, 1) := by decide +kernel
theorem dX12_goes_15 : decode cX12_goes 15 = .ok (.invokevirtual 141, 3) := by decide +kernel
theorem dX12_goes_18 : decode cX12_goes 18 = .ok (.iload 4, 2) := by decide +kernel
theorem dX12_goes_20 : decode cX12_goes 20 = .ok (.invokestatic 154, 3) := by decide +kernel
theorem dX12_goes_23 : decode cX12_goes 23 = .ok (.ifCond .eq 5, 3) := by decide +kernel
theorem dX12_goes_26 : decode cX12_goes 26 = .ok (.iconst 0, 1) := by decide +kernel
theorem dX12_goes_27 : decode cX12_goes 27 = .ok (.ireturn, 1) := by decide +kernel
theorem dX12_goes_28 : decode cX12_goes 28 = .ok (.aload_n 0, 1) := by decide +kernel
theorem dX12_goes_29 : decode cX12_goes 29 = .ok (.iload_n 1, 1) := by decide +kernel
theorem dX12_goes_30 : decode cX12_goes 30 = .ok (.iload_n 2, 1) := by decide +kernel
theorem dX12_goes_31 : decode cX12_goes 31 = .ok (.invokevirtual 141, 3) := by decide +kernel
theorem dX12_goes_34 : decode cX12_goes 34 = .ok (.invokestatic 148, 3) := by decide +kernel
theorem dX12_goes_37 : decode cX12_goes 37 = .ok (.istore 5, 2) := by decide +kernel
theorem dX12_goes_39 : decode cX12_goes 39 = .ok (.iload 5, 2) := by decide +kernel
theorem dX12_goes_41 : decode cX12_goes 41 = .ok (.bipush 6, 2) := by decide +kernel
theorem dX12_goes_43 : decode cX12_goes 43 = .ok (.if_icmp .ne 11, 3) := by decide +kernel
theorem dX12_goes_46 : decode cX12_goes 46 = .ok (.aload_n 0, 1) := by decide +kernel
theorem dX12_goes_47 : decode cX12_goes 47 = .ok (.iload_n 1, 1) := by decide +kernel
theorem dX12_goes_48 : decode cX12_goes 48 = .ok (.iload_n 2, 1) := by decide +kernel
theorem dX12_goes_49 : decode cX12_goes 49 = .ok (.iload_n 3, 1) := by decide +kernel
theorem dX12_goes_50 : decode cX12_goes 50 = .ok (.invokevirtual 195, 3) := by decide +kernel
theorem dX12_goes_53 : decode cX12_goes 53 = .ok (.ireturn, 1) := by decide +kernel
theorem dX12_goes_54 : decode cX12_goes 54 = .ok (.aload_n 0, 1) := by decide +kernel
theorem dX12_goes_55 : decode cX12_goes 55 = .ok (.iload_n 1, 1) := by decide +kernel
theorem dX12_goes_56 : decode cX12_goes 56 = .ok (.iload_n 2, 1) := by decide +kernel
theorem dX12_goes_57 : decode cX12_goes 57 = .ok (.iload_n 3, 1) := by decide +kernel
theorem dX12_goes_58 : decode cX12_goes 58 = .ok (.invokevirtual 158, 3) := by decide +kernel
theorem dX12_goes_61 : decode cX12_goes 61 = .ok (.ifCond .ne 19, 3) := by decide +kernel
theorem dX12_goes_64 : decode cX12_goes 64 = .ok (.iload 5, 2) := by decide +kernel
theorem dX12_goes_66 : decode cX12_goes 66 = .ok (.iconst 1, 1) := by decide +kernel
theorem dX12_goes_67 : decode cX12_goes 67 = .ok (.if_icmp .ne 17, 3) := by decide +kernel
theorem dX12_goes_70 : decode cX12_goes 70 = .ok (.aload_n 0, 1) := by decide +kernel
theorem dX12_goes_71 : decode cX12_goes 71 = .ok (.iload_n 1, 1) := by decide +kernel
theorem dX12_goes_72 : decode cX12_goes 72 = .ok (.iload_n 2, 1) := by decide +kernel
theorem dX12_goes_73 : decode cX12_goes 73 = .ok (.iload_n 3, 1) := by decide +kernel
theorem dX12_goes_74 : decode cX12_goes 74 = .ok (.invokevirtual 198, 3) := by decide +kernel
theorem dX12_goes_77 : decode cX12_goes 77 = .ok (.ifCond .eq 7, 3) := by decide +kernel
theorem dX12_goes_80 : decode cX12_goes 80 = .ok (.iconst 1, 1) := by decide +kernel
theorem dX12_goes_81 : decode cX12_goes 81 = .ok (.goto 4, 3) := by decide +kernel
theorem dX12_goes_84 : decode cX12_goes 84 = .ok (.iconst 0, 1) := by decide +kernel
theorem dX12_goes_85 : decode cX12_goes 85 = .ok (.ireturn, 1) := by decide +kernel
theorem dX12_isBecoming_0 : decode cX12_isBecoming 0 = .ok (.aload_n 0, 1) := by decide +kernel
theorem dX12_isBecoming_1 : decode cX12_isBecoming 1 = .ok (.iload_n 1, 1) := by decide +kernel
theorem dX12_isBecoming_2 : decode cX12_isBecoming 2 = .ok (.iload_n 2, 1) := by decide +kernel
theorem dX12_isBecoming_3 : decode cX12_isBecoming 3 = .ok (.invokevirtual 141, 3) := by decide +kernel
theorem dX12_isBecoming_6 : decode cX12_isBecoming 6 = .ok (.invokestatic 148, 3) := by decide +kernel
theorem dX12_isBecoming_9 : decode cX12_isBecoming 9 = .ok (.bipush 6, 2) := by decide +kernel
theorem dX12_isBecoming_11 : decode cX12_isBecoming 11 = .ok (.if_icmp .ne 26, 3) := by decide +kernel
theorem dX12_isBecoming_14 : decode cX12_isBecoming 14 = .ok (.aload_n 0, 1) := by decide +kernel
theorem dX12_isBecoming_15 : decode cX12_isBecoming 15 = .ok (.iload_n 3, 1) := by decide +kernel
theorem dX12_isBecoming_16 : decode cX12_isBecoming 16 = .ok (.invokevirtual 138, 3) := by decide +kernel
theorem dX12_isBecoming_19 : decode cX12_isBecoming 19 = .ok (.aload_n 0, 1) := by decide +kernel
theorem dX12_isBecoming_20 : decode cX12_isBecoming 20 = .ok (.iconst 1, 1) := by decide +kernel
theorem dX12_isBecoming_21 : decode cX12_isBecoming 21 = .ok (.aload_n 0, 1) := by decide +kernel
theorem dX12_isBecoming_22 : decode cX12_isBecoming 22 = .ok (.iload_n 1, 1) := by decide +kernel
theorem dX12_isBecoming_23 : decode cX12_isBecoming 23 = .ok (.invokevirtual 183, 3) := by decide +kernel
theorem dX12_isBecoming_26 : decode cX12_isBecoming 26 = .ok (.isub, 1) := by decide +kernel
theorem dX12_isBecoming_27 : decode cX12_isBecoming 27 = .ok (.invokevirtual 170, 3) := by decide +kernel
theorem dX12_isBecoming_30 : decode cX12_isBecoming 30 = .ok (.if_icmp .ne 7, 3) := by decide +kernel
theorem dX12_isBecoming_33 : decode cX12_isBecoming 33 = .ok (.iconst 1, 1) := by decide +kernel
theorem dX12_isBecoming_34 : decode cX12_isBecoming 34 = .ok (.goto 4, 3) := by decide +kernel
theorem dX12_isBecoming_37 : decode cX12_isBecoming 37 = .ok (.iconst 0, 1) := by decide +kernel
theorem dX12_isBecoming_38 : decode cX12_isBecoming 38 = .ok (.ireturn, 1) := by decide +kernel
theorem dX12_lists_0 : decode cX12_lists 0 = .ok (.sipush 320, 3) := by decide +kernel
theorem dX12_lists_3 : decode cX12_lists 3 = .ok (.iload_n 1, 1) := by decide +kernel
theorem dX12_lists_4 : decode cX12_lists 4 = .ok (.imul, 1) := by decide +kernel
theorem dX12_lists_5 : decode cX12_lists 5 = .ok (.aload_n 0, 1) := by decide +kernel
theorem dX12_lists_6 : decode cX12_lists 6 = .ok (.getfield 29, 3) := by decide +kernel
theorem dX12_lists_9 : decode cX12_lists 9 = .ok (.iload_n 1, 1) := by decide +kernel
theorem dX12_lists_10 : decode cX12_lists 10 = .ok (.iaload, 1) := by decide +kernel
theorem dX12_lists_11 : decode cX12_lists 11 = .ok (.iadd, 1) := by decide +kernel
theorem dX12_lists_12 : decode cX12_lists 12 = .ok (.istore 5, 2) := by decide +kernel
theorem dX12_lists_14 : decode cX12_lists 14 = .ok (.aload_n 0, 1) := by decide +kernel
theorem dX12_lists_15 : decode cX12_lists 15 = .ok (.getfield 20, 3) := by decide +kernel
theorem dX12_lists_18 : decode cX12_lists 18 = .ok (.iload 5, 2) := by decide +kernel
theorem dX12_lists_20 : decode cX12_lists 20 = .ok (.iload_n 2, 1) := by decide +kernel
theorem dX12_lists_21 : decode cX12_lists 21 = .ok (.iastore, 1) := by decide +kernel
theorem dX12_lists_22 : decode cX12_lists 22 = .ok (.aload_n 0, 1) := by decide +kernel
theorem dX12_lists_23 : decode cX12_lists 23 = .ok (.getfield 23, 3) := by decide +kernel
theorem dX12_lists_26 : decode cX12_lists 26 = .ok (.iload 5, 2) := by decide +kernel
theorem dX12_lists_28 : decode cX12_lists 28 = .ok (.iload_n 3, 1) := by decide +kernel
theorem dX12_lists_29 : decode cX12_lists 29 = .ok (.iastore, 1) := by decide +kernel
theorem dX12_lists_30 : decode cX12_lists 30 = .ok (.aload_n 0, 1) := by decide +kernel
theorem dX12_lists_31 : decode cX12_lists 31 = .ok (.getfield 26, 3) := by decide +kernel
theorem dX12_lists_34 : decode cX12_lists 34 = .ok (.iload 5, 2) := by decide +kernel
theorem dX12_lists_36 : decode cX12_lists 36 = .ok (.iload 4, 2) := by decide +kernel
theorem dX12_lists_38 : decode cX12_lists 38 = .ok (.iastore, 1) := by decide +kernel
theorem dX12_lists_39 : decode cX12_lists 39 = .ok (.aload_n 0, 1) := by decide +kernel
theorem dX12_lists_40 : decode cX12_lists 40 = .ok (.getfield 29, 3) := by decide +kernel
theorem dX12_lists_43 : decode cX12_lists 43 = .ok (.iload_n 1, 1) := by decide +kernel
theorem dX12_lists_44 : decode cX12_lists 44 = .ok (.dup2, 1) := by decide +kernel
theorem dX12_lists_45 : decode cX12_lists 45 = .ok (.iaload, 1) := by decide +kernel
theorem dX12_lists_46 : decode cX12_lists 46 = .ok (.iconst 1, 1) := by decide +kernel
theorem dX12_lists_47 : decode cX12_lists 47 = .ok (.iadd, 1) := by decide +kernel
theorem dX12_lists_48 : decode cX12_lists 48 = .ok (.iastore, 1) := by decide +kernel
theorem dX12_lists_49 : decode cX12_lists 49 = .ok (.return_, 1) := by decide +kernel
theorem dX12_isBeside_0 : decode cX12_isBeside 0 = .ok (.aload_n 0, 1) := by decide +kernel
theorem dX12_isBeside_1 : decode cX12_isBeside 1 = .ok (.iload_n 2, 1) := by decide +kernel
theorem dX12_isBeside_2 : decode cX12_isBeside 2 = .ok (.invokevirtual 134, 3) := by decide +kernel
theorem dX12_isBeside_5 : decode cX12_isBeside 5 = .ok (.ifCond .le 15, 3) := by decide +kernel
theorem dX12_isBeside_8 : decode cX12_isBeside 8 = .ok (.aload_n 0, 1) := by decide +kernel
theorem dX12_isBeside_9 : decode cX12_isBeside 9 = .ok (.iload_n 1, 1) := by decide +kernel
theorem dX12_isBeside_10 : decode cX12_isBeside 10 = .ok (.iload_n 2, 1) := by decide +kernel
theorem dX12_isBeside_11 : decode cX12_isBeside 11 = .ok (.iconst 1, 1) := by decide +kernel
theorem dX12_isBeside_12 : decode cX12_isBeside 12 = .ok (.isub, 1) := by decide +kernel
theorem dX12_isBeside_13 : decode cX12_isBeside 13 = .ok (.invokevirtual 141, 3) := by decide +kernel
theorem dX12_isBeside_16 : decode cX12_isBeside 16 = .ok (.iload_n 3, 1) := by decide +kernel
theorem dX12_isBeside_17 : decode cX12_isBeside 17 = .ok (.if_icmp .eq 29, 3) := by decide +kernel
theorem dX12_isBeside_20 : decode cX12_isBeside 20 = .ok (.aload_n 0, 1) := by decide +kernel
theorem dX12_isBeside_21 : decode cX12_isBeside 21 = .ok (.iload_n 2, 1) := by decide +kernel
theorem dX12_isBeside_22 : decode cX12_isBeside 22 = .ok (.invokevirtual 134, 3) := by decide +kernel
theorem dX12_isBeside_25 : decode cX12_isBeside 25 = .ok (.aload_n 0, 1) := by decide +kernel
theorem dX12_isBeside_26 : decode cX12_isBeside 26 = .ok (.getfield 9, 3) := by decide +kernel
theorem dX12_isBeside_29 : decode cX12_isBeside 29 = .ok (.iconst 1, 1) := by decide +kernel
theorem dX12_isBeside_30 : decode cX12_isBeside 30 = .ok (.isub, 1) := by decide +kernel
theorem dX12_isBeside_31 : decode cX12_isBeside 31 = .ok (.if_icmp .ge 19, 3) := by decide +kernel
theorem dX12_isBeside_34 : decode cX12_isBeside 34 = .ok (.aload_n 0, 1) := by decide +kernel
theorem dX12_isBeside_35 : decode cX12_isBeside 35 = .ok (.iload_n 1, 1) := by decide +kernel
theorem dX12_isBeside_36 : decode cX12_isBeside 36 = .ok (.iload_n 2, 1) := by decide +kernel
theorem dX12_isBeside_37 : decode cX12_isBeside 37 = .ok (.iconst 1, 1) := by decide +kernel
theorem dX12_isBeside_38 : decode cX12_isBeside 38 = .ok (.iadd, 1) := by decide +kernel
theorem dX12_isBeside_39 : decode cX12_isBeside 39 = .ok (.invokevirtual 141, 3) := by decide +kernel
theorem dX12_isBeside_42 : decode cX12_isBeside 42 = .ok (.iload_n 3, 1) := by decide +kernel
theorem dX12_isBeside_43 : decode cX12_isBeside 43 = .ok (.if_icmp .ne 7, 3) := by decide +kernel
theorem dX12_isBeside_46 : decode cX12_isBeside 46 = .ok (.iconst 1, 1) := by decide +kernel
theorem dX12_isBeside_47 : decode cX12_isBeside 47 = .ok (.goto 4, 3) := by decide +kernel
theorem dX12_isBeside_50 : decode cX12_isBeside 50 = .ok (.iconst 0, 1) := by decide +kernel
theorem dX12_isBeside_51 : decode cX12_isBeside 51 = .ok (.ireturn, 1) := by decide +kernel
theorem dX12_isCastling_0 : decode cX12_isCastling 0 = .ok (.aload_n 0, 1) := by decide +kernel
theorem dX12_isCastling_1 : decode cX12_isCastling 1 = .ok (.iload_n 1, 1) := by decide +kernel
theorem dX12_isCastling_2 : decode cX12_isCastling 2 = .ok (.iload_n 2, 1) := by decide +kernel
theorem dX12_isCastling_3 : decode cX12_isCastling 3 = .ok (.invokevirtual 141, 3) := by decide +kernel
theorem dX12_isCastling_6 : decode cX12_isCastling 6 = .ok (.invokestatic 148, 3) := by decide +kernel
theorem dX12_isCastling_9 : decode cX12_isCastling 9 = .ok (.iconst 1, 1) := by decide +kernel
theorem dX12_isCastling_10 : decode cX12_isCastling 10 = .ok (.if_icmp .ne 24, 3) := by decide +kernel
theorem dX12_isCastling_13 : decode cX12_isCastling 13 = .ok (.aload_n 0, 1) := by decide +kernel
theorem dX12_isCastling_14 : decode cX12_isCastling 14 = .ok (.iload_n 2, 1) := by decide +kernel
theorem dX12_isCastling_15 : decode cX12_isCastling 15 = .ok (.invokevirtual 134, 3) := by decide +kernel
theorem dX12_isCastling_18 : decode cX12_isCastling 18 = .ok (.aload_n 0, 1) := by decide +kernel
theorem dX12_isCastling_19 : decode cX12_isCastling 19 = .ok (.iload_n 3, 1) := by decide +kernel
theorem dX12_isCastling_20 : decode cX12_isCastling 20 = .ok (.invokevirtual 134, 3) := by decide +kernel
theorem dX12_isCastling_23 : decode cX12_isCastling 23 = .ok (.invokestatic 145, 3) := by decide +kernel
theorem dX12_isCastling_26 : decode cX12_isCastling 26 = .ok (.iconst 2, 1) := by decide +kernel
theorem dX12_isCastling_27 : decode cX12_isCastling 27 = .ok (.if_icmp .ne 7, 3) := by decide +kernel
theorem dX12_isCastling_30 : decode cX12_isCastling 30 = .ok (.iconst 1, 1) := by decide +kernel
theorem dX12_isCastling_31 : decode cX12_isCastling 31 = .ok (.goto 4, 3) := by decide +kernel
theorem dX12_isCastling_34 : decode cX12_isCastling 34 = .ok (.iconst 0, 1) := by decide +kernel
theorem dX12_isCastling_35 : decode cX12_isCastling 35 = .ok (.ireturn, 1) := by decide +kernel
theorem dX12_lay_0 : decode cX12_lay 0 = .ok (.aload_n 0, 1) := by decide +kernel
theorem dX12_lay_1 : decode cX12_lay 1 = .ok (.getfield 16, 3) := by decide +kernel
theorem dX12_lay_4 : decode cX12_lay 4 = .ok (.bipush 67, 2) := by decide +kernel
theorem dX12_lay_6 : decode cX12_lay 6 = .ok (.iload_n 1, 1) := by decide +kernel
theorem dX12_lay_7 : decode cX12_lay 7 = .ok (.imul, 1) := by decide +kernel
theorem dX12_lay_8 : decode cX12_lay 8 = .ok (.iload_n 2, 1) := by decide +kernel
theorem dX12_lay_9 : decode cX12_lay 9 = .ok (.iadd, 1) := by decide +kernel
theorem dX12_lay_10 : decode cX12_lay 10 = .ok (.iload_n 3, 1) := by decide +kernel
theorem dX12_lay_11 : decode cX12_lay 11 = .ok (.iastore, 1) := by decide +kernel
theorem dX12_lay_12 : decode cX12_lay 12 = .ok (.return_, 1) := by decide +kernel
theorem dX12_lost_0 : decode cX12_lost 0 = .ok (.aload_n 0, 1) := by decide +kernel
theorem dX12_lost_1 : decode cX12_lost 1 = .ok (.getfield 9, 3) := by decide +kernel
theorem dX12_lost_4 : decode cX12_lost 4 = .ok (.bipush 8, 2) := by decide +kernel
theorem dX12_lost_6 : decode cX12_lost 6 = .ok (.if_icmp .eq 5, 3) := by decide +kernel
theorem dX12_lost_9 : decode cX12_lost 9 = .ok (.iconst 0, 1) := by decide +kernel
theorem dX12_lost_10 : decode cX12_lost 10 = .ok (.ireturn, 1) := by decide +kernel
theorem dX12_lost_11 : decode cX12_lost 11 = .ok (.iload_n 1, 1) := by decide +kernel
theorem dX12_lost_12 : decode cX12_lost 12 = .ok (.aload_n 0, 1) := by decide +kernel
theorem dX12_lost_13 : decode cX12_lost 13 = .ok (.iconst 1, 1) := by decide +kernel
theorem dX12_lost_14 : decode cX12_lost 14 = .ok (.bipush 7, 2) := by decide +kernel
theorem dX12_lost_16 : decode cX12_lost 16 = .ok (.invokevirtual 173, 3) := by decide +kernel
theorem dX12_lost_19 : decode cX12_lost 19 = .ok (.if_icmp .ne 7, 3) := by decide +kernel
theorem dX12_lost_22 : decode cX12_lost 22 = .ok (.iconst 1, 1) := by decide +kernel
theorem dX12_lost_23 : decode cX12_lost 23 = .ok (.goto 48, 3) := by decide +kernel
theorem dX12_lost_26 : decode cX12_lost 26 = .ok (.iload_n 1, 1) := by decide +kernel
theorem dX12_lost_27 : decode cX12_lost 27 = .ok (.aload_n 0, 1) := by decide +kernel
theorem dX12_lost_28 : decode cX12_lost 28 = .ok (.iconst 1, 1) := by decide +kernel
theorem dX12_lost_29 : decode cX12_lost 29 = .ok (.iconst 0, 1) := by decide +kernel
theorem dX12_lost_30 : decode cX12_lost 30 = .ok (.invokevirtual 173, 3) := by decide +kernel
theorem dX12_lost_33 : decode cX12_lost 33 = .ok (.if_icmp .ne 7, 3) := by decide +kernel
theorem dX12_lost_36 : decode cX12_lost 36 = .ok (.iconst 2, 1) := by decide +kernel
theorem dX12_lost_37 : decode cX12_lost 37 = .ok (.goto 34, 3) := by decide +kernel
theorem dX12_lost_40 : decode cX12_lost 40 = .ok (.iload_n 1, 1) := by decide +kernel
theorem dX12_lost_41 : decode cX12_lost 41 = .ok (.aload_n 0, 1) := by decide +kernel
theorem dX12_lost_42 : decode cX12_lost 42 = .ok (.iconst 0, 1) := by decide +kernel
theorem dX12_lost_43 : decode cX12_lost 43 = .ok (.bipush 7, 2) := by decide +kernel
theorem dX12_lost_45 : decode cX12_lost 45 = .ok (.invokevirtual 173, 3) := by decide +kernel
theorem dX12_lost_48 : decode cX12_lost 48 = .ok (.if_icmp .ne 7, 3) := by decide +kernel
theorem dX12_lost_51 : decode cX12_lost 51 = .ok (.iconst 4, 1) := by decide +kernel
theorem dX12_lost_52 : decode cX12_lost 52 = .ok (.goto 19, 3) := by decide +kernel
theorem dX12_lost_55 : decode cX12_lost 55 = .ok (.iload_n 1, 1) := by decide +kernel
theorem dX12_lost_56 : decode cX12_lost 56 = .ok (.aload_n 0, 1) := by decide +kernel
theorem dX12_lost_57 : decode cX12_lost 57 = .ok (.iconst 0, 1) := by decide +kernel
theorem dX12_lost_58 : decode cX12_lost 58 = .ok (.iconst 0, 1) := by decide +kernel
theorem dX12_lost_59 : decode cX12_lost 59 = .ok (.invokevirtual 173, 3) := by decide +kernel
theorem dX12_lost_62 : decode cX12_lost 62 = .ok (.if_icmp .ne 8, 3) := by decide +kernel
theorem dX12_lost_65 : decode cX12_lost 65 = .ok (.bipush 8, 2) := by decide +kernel
theorem dX12_lost_67 : decode cX12_lost 67 = .ok (.goto 4, 3) := by decide +kernel
theorem dX12_lost_70 : decode cX12_lost 70 = .ok (.iconst 0, 1) := by decide +kernel
theorem dX12_lost_71 : decode cX12_lost 71 = .ok (.ireturn, 1) := by decide +kernel
theorem dX12_takes_0 : decode cX12_takes 0 = .ok (.aload_n 0, 1) := by decide +kernel
theorem dX12_takes_1 : decode cX12_takes 1 = .ok (.iload_n 1, 1) := by decide +kernel
theorem dX12_takes_2 : decode cX12_takes 2 = .ok (.iload_n 3, 1) := by decide +kernel
theorem dX12_takes_3 : decode cX12_takes 3 = .ok (.invokevirtual 141, 3) := by decide +kernel
theorem dX12_takes_6 : decode cX12_takes 6 = .ok (.ifCond .ne 30, 3) := by decide +kernel
theorem dX12_takes_9 : decode cX12_takes 9 = .ok (.aload_n 0, 1) := by decide +kernel
theorem dX12_takes_10 : decode cX12_takes 10 = .ok (.iload_n 1, 1) := by decide +kernel
theorem dX12_takes_11 : decode cX12_takes 11 = .ok (.iload_n 2, 1) := by decide +kernel
theorem dX12_takes_12 : decode cX12_takes 12 = .ok (.invokevirtual 141, 3) := by decide +kernel
theorem dX12_takes_15 : decode cX12_takes 15 = .ok (.invokestatic 148, 3) := by decide +kernel
theorem dX12_takes_18 : decode cX12_takes 18 = .ok (.bipush 6, 2) := by decide +kernel
theorem dX12_takes_20 : decode cX12_takes 20 = .ok (.if_icmp .ne 20, 3) := by decide +kernel
theorem dX12_takes_23 : decode cX12_takes 23 = .ok (.aload_n 0, 1) := by decide +kernel
theorem dX12_takes_24 : decode cX12_takes 24 = .ok (.iload_n 2, 1) := by decide +kernel
theorem dX12_takes_25 : decode cX12_takes 25 = .ok (.invokevirtual 134, 3) := by decide +kernel
theorem dX12_takes_28 : decode cX12_takes 28 = .ok (.aload_n 0, 1) := by decide +kernel
theorem dX12_takes_29 : decode cX12_takes 29 = .ok (.iload_n 3, 1) := by decide +kernel
theorem dX12_takes_30 : decode cX12_takes 30 = .ok (.invokevirtual 134, 3) := by decide +kernel
theorem dX12_takes_33 : decode cX12_takes 33 = .ok (.if_icmp .eq 7, 3) := by decide +kernel
theorem dX12_takes_36 : decode cX12_takes 36 = .ok (.iconst 1, 1) := by decide +kernel
theorem dX12_takes_37 : decode cX12_takes 37 = .ok (.goto 4, 3) := by decide +kernel
theorem dX12_takes_40 : decode cX12_takes 40 = .ok (.iconst 0, 1) := by decide +kernel
theorem dX12_takes_41 : decode cX12_takes 41 = .ok (.ireturn, 1) := by decide +kernel
theorem dX12_makes_0 : decode cX12_makes 0 = .ok (.iload_n 1, 1) := by decide +kernel
theorem dX12_makes_1 : decode cX12_makes 1 = .ok (.iconst 1, 1) := by decide +kernel
theorem dX12_makes_2 : decode cX12_makes 2 = .ok (.iadd, 1) := by decide +kernel
theorem dX12_makes_3 : decode cX12_makes 3 = .ok (.istore 5, 2) := by decide +kernel
theorem dX12_makes_5 : decode cX12_makes 5 = .ok (.bipush 67, 2) := by decide +kernel
theorem dX12_makes_7 : decode cX12_makes 7 = .ok (.aload_n 0, 1) := by decide +kernel
theorem dX12_makes_8 : decode cX12_makes 8 = .ok (.getfield 16, 3) := by decide +kernel
theorem dX12_makes_11 : decode cX12_makes 11 = .ok (.bipush 67, 2) := by decide +kernel
theorem dX12_makes_13 : decode cX12_makes 13 = .ok (.iload_n 1, 1) := by decide +kernel
theorem dX12_makes_14 : decode cX12_makes 14 = .ok (.imul, 1) := by decide +kernel
theorem dX12_makes_15 : decode cX12_makes 15 = .ok (.aload_n 0, 1) := by decide +kernel
theorem dX12_makes_16 : decode cX12_makes 16 = .ok (.getfield 16, 3) := by decide +kernel
theorem dX12_makes_19 : decode cX12_makes 19 = .ok (.bipush 67, 2) := by decide +kernel
theorem dX12_makes_21 : decode cX12_makes 21 = .ok (.iload 5, 2) := by decide +kernel
theorem dX12_makes_23 : decode cX12_makes 23 = .ok (.imul, 1) := by decide +kernel
theorem dX12_makes_24 : decode cX12_makes 24 = .ok (.invokestatic 130, 3) := by decide +kernel
theorem dX12_makes_27 : decode cX12_makes 27 = .ok (.aload_n 0, 1) := by decide +kernel
theorem dX12_makes_28 : decode cX12_makes 28 = .ok (.iload_n 1, 1) := by decide +kernel
theorem dX12_makes_29 : decode cX12_makes 29 = .ok (.invokevirtual 183, 3) := by decide +kernel
theorem dX12_makes_32 : decode cX12_makes 32 = .ok (.istore 6, 2) := by decide +kernel
theorem dX12_makes_34 : decode cX12_makes 34 = .ok (.aload_n 0, 1) := by decide +kernel
theorem dX12_makes_35 : decode cX12_makes 35 = .ok (.iload_n 1, 1) := by decide +kernel
theorem dX12_makes_36 : decode cX12_makes 36 = .ok (.iload_n 2, 1) := by decide +kernel
theorem dX12_makes_37 : decode cX12_makes 37 = .ok (.invokevirtual 141, 3) := by decide +kernel
theorem dX12_makes_40 : decode cX12_makes 40 = .ok (.istore 7, 2) := by decide +kernel
theorem dX12_makes_42 : decode cX12_makes 42 = .ok (.iload 7, 2) := by decide +kernel
theorem dX12_makes_44 : decode cX12_makes 44 = .ok (.invokestatic 148, 3) := by decide +kernel
theorem dX12_makes_47 : decode cX12_makes 47 = .ok (.bipush 6, 2) := by decide +kernel
theorem dX12_makes_49 : decode cX12_makes 49 = .ok (.if_icmp .ne 7, 3) := by decide +kernel
theorem dX12_makes_52 : decode cX12_makes 52 = .ok (.iconst 1, 1) := by decide +kernel
theorem dX12_makes_53 : decode cX12_makes 53 = .ok (.goto 4, 3) := by decide +kernel
theorem dX12_makes_56 : decode cX12_makes 56 = .ok (.iconst 0, 1) := by decide +kernel
theorem dX12_makes_57 : decode cX12_makes 57 = .ok (.istore 8, 2) := by decide +kernel
theorem dX12_makes_59 : decode cX12_makes 59 = .ok (.iload 8, 2) := by decide +kernel
theorem dX12_makes_61 : decode cX12_makes 61 = .ok (.ifCond .eq 45, 3) := by decide +kernel
theorem dX12_makes_64 : decode cX12_makes 64 = .ok (.aload_n 0, 1) := by decide +kernel
theorem dX12_makes_65 : decode cX12_makes 65 = .ok (.iload_n 1, 1) := by decide +kernel
theorem dX12_makes_66 : decode cX12_makes 66 = .ok (.iload_n 2, 1) := by decide +kernel
theorem dX12_makes_67 : decode cX12_makes 67 = .ok (.iload_n 3, 1) := by decide +kernel
theorem dX12_makes_68 : decode cX12_makes 68 = .ok (.invokevirtual 204, 3) := by decide +kernel
theorem dX12_makes_71 : decode cX12_makes 71 = .ok (.ifCond .eq 35, 3) := by decide +kernel
theorem dX12_makes_74 : decode cX12_makes 74 = .ok (.aload_n 0, 1) := by decide +kernel
theorem dX12_makes_75 : decode cX12_makes 75 = .ok (.iload_n 1, 1) := by decide +kernel
theorem dX12_makes_76 : decode cX12_makes 76 = .ok (.iload_n 3, 1) := by decide +kernel
theorem dX12_makes_77 : decode cX12_makes 77 = .ok (.invokevirtual 141, 3) := by decide +kernel
theorem dX12_makes_80 : decode cX12_makes 80 = .ok (.ifCond .ne 26, 3) := by decide +kernel
theorem dX12_makes_83 : decode cX12_makes 83 = .ok (.aload_n 0, 1) := by decide +kernel
theorem dX12_makes_84 : decode cX12_makes 84 = .ok (.iload 5, 2) := by decide +kernel
theorem dX12_makes_86 : decode cX12_makes 86 = .ok (.aload_n 0, 1) := by decide +kernel
theorem dX12_makes_87 : decode cX12_makes 87 = .ok (.getfield 9, 3) := by decide +kernel
theorem dX12_makes_90 : decode cX12_makes 90 = .ok (.aload_n 0, 1) := by decide +kernel
theorem dX12_makes_91 : decode cX12_makes 91 = .ok (.iload_n 2, 1) := by decide +kernel
theorem dX12_makes_92 : decode cX12_makes 92 = .ok (.invokevirtual 138, 3) := by decide +kernel
theorem dX12_makes_95 : decode cX12_makes 95 = .ok (.imul, 1) := by decide +kernel
theorem dX12_makes_96 : decode cX12_makes 96 = .ok (.aload_n 0, 1) := by decide +kernel
theorem dX12_makes_97 : decode cX12_makes 97 = .ok (.iload_n 3, 1) := by decide +kernel
theorem dX12_makes_98 : decode cX12_makes 98 = .ok (.invokevirtual 134, 3) := by decide +kernel
theorem dX12_makes_101 : decode cX12_makes 101 = .ok (.iadd, 1) := by decide +kernel
theorem dX12_makes_102 : decode cX12_makes 102 = .ok (.iconst 0, 1) := by decide +kernel
theorem dX12_makes_103 : decode cX12_makes 103 = .ok (.invokevirtual 207, 3) := by decide +kernel
theorem dX12_makes_106 : decode cX12_makes 106 = .ok (.aload_n 0, 1) := by decide +kernel
theorem dX12_makes_107 : decode cX12_makes 107 = .ok (.iload_n 1, 1) := by decide +kernel
theorem dX12_makes_108 : decode cX12_makes 108 = .ok (.iload_n 2, 1) := by decide +kernel
theorem dX12_makes_109 : decode cX12_makes 109 = .ok (.iload_n 3, 1) := by decide +kernel
theorem dX12_makes_110 : decode cX12_makes 110 = .ok (.invokevirtual 211, 3) := by decide +kernel
theorem dX12_makes_113 : decode cX12_makes 113 = .ok (.ifCond .eq 67, 3) := by decide +kernel
theorem dX12_makes_116 : decode cX12_makes 116 = .ok (.iload_n 3, 1) := by decide +kernel
theorem dX12_makes_117 : decode cX12_makes 117 = .ok (.iload_n 2, 1) := by decide +kernel
theorem dX12_makes_118 : decode cX12_makes 118 = .ok (.if_icmp .le 7, 3) := by decide +kernel
theorem dX12_makes_121 : decode cX12_makes 121 = .ok (.iconst 1, 1) := by decide +kernel
theorem dX12_makes_122 : decode cX12_makes 122 = .ok (.goto 4, 3) := by decide +kernel
theorem dX12_makes_125 : decode cX12_makes 125 = .ok (.iconst 0, 1) := by decide +kernel
theorem dX12_makes_126 : decode cX12_makes 126 = .ok (.istore 9, 2) := by decide +kernel
theorem dX12_makes_128 : decode cX12_makes 128 = .ok (.aload_n 0, 1) := by decide +kernel
theorem dX12_makes_129 : decode cX12_makes 129 = .ok (.iload 5, 2) := by decide +kernel
theorem dX12_makes_131 : decode cX12_makes 131 = .ok (.aload_n 0, 1) := by decide +kernel
theorem dX12_makes_132 : decode cX12_makes 132 = .ok (.iload 6, 2) := by decide +kernel
theorem dX12_makes_134 : decode cX12_makes 134 = .ok (.iload 9, 2) := by decide +kernel
theorem dX12_makes_136 : decode cX12_makes 136 = .ok (.ifCond .eq 8, 3) := by decide +kernel
theorem dX12_makes_139 : decode cX12_makes 139 = .ok (.bipush 7, 2) := by decide +kernel
theorem dX12_makes_141 : decode cX12_makes 141 = .ok (.goto 4, 3) := by decide +kernel
theorem dX12_makes_144 : decode cX12_makes 144 = .ok (.iconst 0, 1) := by decide +kernel
theorem dX12_makes_145 : decode cX12_makes 145 = .ok (.invokevirtual 173, 3) := by decide +kernel
theorem dX12_makes_148 : decode cX12_makes 148 = .ok (.iconst 0, 1) := by decide +kernel
theorem dX12_makes_149 : decode cX12_makes 149 = .ok (.invokevirtual 207, 3) := by decide +kernel
theorem dX12_makes_152 : decode cX12_makes 152 = .ok (.aload_n 0, 1) := by decide +kernel
theorem dX12_makes_153 : decode cX12_makes 153 = .ok (.iload 5, 2) := by decide +kernel
theorem dX12_makes_155 : decode cX12_makes 155 = .ok (.aload_n 0, 1) := by decide +kernel
theorem dX12_makes_156 : decode cX12_makes 156 = .ok (.iload 6, 2) := by decide +kernel
theorem dX12_makes_158 : decode cX12_makes 158 = .ok (.iload 9, 2) := by decide +kernel
theorem dX12_makes_160 : decode cX12_makes 160 = .ok (.ifCond .eq 7, 3) := by decide +kernel
theorem dX12_makes_163 : decode cX12_makes 163 = .ok (.iconst 5, 1) := by decide +kernel
theorem dX12_makes_164 : decode cX12_makes 164 = .ok (.goto 4, 3) := by decide +kernel
theorem dX12_makes_167 : decode cX12_makes 167 = .ok (.iconst 3, 1) := by decide +kernel
theorem dX12_makes_168 : decode cX12_makes 168 = .ok (.invokevirtual 173, 3) := by decide +kernel
theorem dX12_makes_171 : decode cX12_makes 171 = .ok (.iconst 3, 1) := by decide +kernel
theorem dX12_makes_172 : decode cX12_makes 172 = .ok (.iload 6, 2) := by decide +kernel
theorem dX12_makes_174 : decode cX12_makes 174 = .ok (.invokestatic 161, 3) := by decide +kernel
theorem dX12_makes_177 : decode cX12_makes 177 = .ok (.invokevirtual 207, 3) := by decide +kernel
theorem dX12_makes_180 : decode cX12_makes 180 = .ok (.aload_n 0, 1) := by decide +kernel
theorem dX12_makes_181 : decode cX12_makes 181 = .ok (.iload 5, 2) := by decide +kernel
theorem dX12_makes_183 : decode cX12_makes 183 = .ok (.iload_n 2, 1) := by decide +kernel
theorem dX12_makes_184 : decode cX12_makes 184 = .ok (.iconst 0, 1) := by decide +kernel
theorem dX12_makes_185 : decode cX12_makes 185 = .ok (.invokevirtual 207, 3) := by decide +kernel
theorem dX12_makes_188 : decode cX12_makes 188 = .ok (.aload_n 0, 1) := by decide +kernel
theorem dX12_makes_189 : decode cX12_makes 189 = .ok (.iload 5, 2) := by decide +kernel
theorem dX12_makes_191 : decode cX12_makes 191 = .ok (.iload_n 3, 1) := by decide +kernel
theorem dX12_makes_192 : decode cX12_makes 192 = .ok (.iload 4, 2) := by decide +kernel
theorem dX12_makes_194 : decode cX12_makes 194 = .ok (.ifCond .ne 8, 3) := by decide +kernel
theorem dX12_makes_197 : decode cX12_makes 197 = .ok (.iload 7, 2) := by decide +kernel
theorem dX12_makes_199 : decode cX12_makes 199 = .ok (.goto 10, 3) := by decide +kernel
theorem dX12_makes_202 : decode cX12_makes 202 = .ok (.iload 4, 2) := by decide +kernel
theorem dX12_makes_204 : decode cX12_makes 204 = .ok (.iload 6, 2) := by decide +kernel
theorem dX12_makes_206 : decode cX12_makes 206 = .ok (.invokestatic 161, 3) := by decide +kernel
theorem dX12_makes_209 : decode cX12_makes 209 = .ok (.invokevirtual 207, 3) := by decide +kernel
theorem dX12_makes_212 : decode cX12_makes 212 = .ok (.aload_n 0, 1) := by decide +kernel
theorem dX12_makes_213 : decode cX12_makes 213 = .ok (.iload 5, 2) := by decide +kernel
theorem dX12_makes_215 : decode cX12_makes 215 = .ok (.bipush 64, 2) := by decide +kernel
theorem dX12_makes_217 : decode cX12_makes 217 = .ok (.iconst 1, 1) := by decide +kernel
theorem dX12_makes_218 : decode cX12_makes 218 = .ok (.iload 6, 2) := by decide +kernel
theorem dX12_makes_220 : decode cX12_makes 220 = .ok (.isub, 1) := by decide +kernel
theorem dX12_makes_221 : decode cX12_makes 221 = .ok (.invokevirtual 207, 3) := by decide +kernel
theorem dX12_makes_224 : decode cX12_makes 224 = .ok (.aload_n 0, 1) := by decide +kernel
theorem dX12_makes_225 : decode cX12_makes 225 = .ok (.iload 5, 2) := by decide +kernel
theorem dX12_makes_227 : decode cX12_makes 227 = .ok (.bipush 65, 2) := by decide +kernel
theorem dX12_makes_229 : decode cX12_makes 229 = .ok (.aload_n 0, 1) := by decide +kernel
theorem dX12_makes_230 : decode cX12_makes 230 = .ok (.getfield 16, 3) := by decide +kernel
theorem dX12_makes_233 : decode cX12_makes 233 = .ok (.bipush 67, 2) := by decide +kernel
theorem dX12_makes_235 : decode cX12_makes 235 = .ok (.iload_n 1, 1) := by decide +kernel
theorem dX12_makes_236 : decode cX12_makes 236 = .ok (.imul, 1) := by decide +kernel
theorem dX12_makes_237 : decode cX12_makes 237 = .ok (.bipush 65, 2) := by decide +kernel
theorem dX12_makes_239 : decode cX12_makes 239 = .ok (.iadd, 1) := by decide +kernel
theorem dX12_makes_240 : decode cX12_makes 240 = .ok (.iaload, 1) := by decide +kernel
theorem dX12_makes_241 : decode cX12_makes 241 = .ok (.aload_n 0, 1) := by decide +kernel
theorem dX12_makes_242 : decode cX12_makes 242 = .ok (.iload_n 2, 1) := by decide +kernel
theorem dX12_makes_243 : decode cX12_makes 243 = .ok (.invokevirtual 214, 3) := by decide +kernel
theorem dX12_makes_246 : decode cX12_makes 246 = .ok (.iconst (-1), 1) := by decide +kernel
theorem dX12_makes_247 : decode cX12_makes 247 = .ok (.ixor, 1) := by decide +kernel
theorem dX12_makes_248 : decode cX12_makes 248 = .ok (.iand, 1) := by decide +kernel
theorem dX12_makes_249 : decode cX12_makes 249 = .ok (.aload_n 0, 1) := by decide +kernel
theorem dX12_makes_250 : decode cX12_makes 250 = .ok (.iload_n 3, 1) := by decide +kernel
theorem dX12_makes_251 : decode cX12_makes 251 = .ok (.invokevirtual 214, 3) := by decide +kernel
theorem dX12_makes_254 : decode cX12_makes 254 = .ok (.iconst (-1), 1) := by decide +kernel
theorem dX12_makes_255 : decode cX12_makes 255 = .ok (.ixor, 1) := by decide +kernel
theorem dX12_makes_256 : decode cX12_makes 256 = .ok (.iand, 1) := by decide +kernel
theorem dX12_makes_257 : decode cX12_makes 257 = .ok (.iload 7, 2) := by decide +kernel
theorem dX12_makes_259 : decode cX12_makes 259 = .ok (.invokestatic 148, 3) := by decide +kernel
theorem dX12_makes_262 : decode cX12_makes 262 = .ok (.iconst 1, 1) := by decide +kernel
theorem dX12_makes_263 : decode cX12_makes 263 = .ok (.if_icmp .ne 18, 3) := by decide +kernel
theorem dX12_makes_266 : decode cX12_makes 266 = .ok (.iload 6, 2) := by decide +kernel
theorem dX12_makes_268 : decode cX12_makes 268 = .ok (.iconst 1, 1) := by decide +kernel
theorem dX12_makes_269 : decode cX12_makes 269 = .ok (.if_icmp .ne 7, 3) := by decide +kernel
theorem dX12_makes_272 : decode cX12_makes 272 = .ok (.iconst 3, 1) := by decide +kernel
theorem dX12_makes_273 : decode cX12_makes 273 = .ok (.goto 9, 3) := by decide +kernel
theorem dX12_makes_276 : decode cX12_makes 276 = .ok (.bipush 12, 2) := by decide +kernel
theorem dX12_makes_278 : decode cX12_makes 278 = .ok (.goto 4, 3) := by decide +kernel
theorem dX12_makes_281 : decode cX12_makes 281 = .ok (.iconst 0, 1) := by decide +kernel
theorem dX12_makes_282 : decode cX12_makes 282 = .ok (.iconst (-1), 1) := by decide +kernel
theorem dX12_makes_283 : decode cX12_makes 283 = .ok (.ixor, 1) := by decide +kernel
theorem dX12_makes_284 : decode cX12_makes 284 = .ok (.iand, 1) := by decide +kernel
theorem dX12_makes_285 : decode cX12_makes 285 = .ok (.invokevirtual 207, 3) := by decide +kernel
theorem dX12_makes_288 : decode cX12_makes 288 = .ok (.aload_n 0, 1) := by decide +kernel
theorem dX12_makes_289 : decode cX12_makes 289 = .ok (.iload 5, 2) := by decide +kernel
theorem dX12_makes_291 : decode cX12_makes 291 = .ok (.bipush 66, 2) := by decide +kernel
theorem dX12_makes_293 : decode cX12_makes 293 = .ok (.iload 8, 2) := by decide +kernel
theorem dX12_makes_295 : decode cX12_makes 295 = .ok (.ifCond .eq 47, 3) := by decide +kernel
theorem dX12_makes_298 : decode cX12_makes 298 = .ok (.aload_n 0, 1) := by decide +kernel
theorem dX12_makes_299 : decode cX12_makes 299 = .ok (.iload_n 2, 1) := by decide +kernel
theorem dX12_makes_300 : decode cX12_makes 300 = .ok (.invokevirtual 138, 3) := by decide +kernel
theorem dX12_makes_303 : decode cX12_makes 303 = .ok (.aload_n 0, 1) := by decide +kernel
theorem dX12_makes_304 : decode cX12_makes 304 = .ok (.iload_n 3, 1) := by decide +kernel
theorem dX12_makes_305 : decode cX12_makes 305 = .ok (.invokevirtual 138, 3) := by decide +kernel
theorem dX12_makes_308 : decode cX12_makes 308 = .ok (.invokestatic 145, 3) := by decide +kernel
theorem dX12_makes_311 : decode cX12_makes 311 = .ok (.iconst 2, 1) := by decide +kernel
theorem dX12_makes_312 : decode cX12_makes 312 = .ok (.if_icmp .ne 30, 3) := by decide +kernel
theorem dX12_makes_315 : decode cX12_makes 315 = .ok (.aload_n 0, 1) := by decide +kernel
theorem dX12_makes_316 : decode cX12_makes 316 = .ok (.iload 5, 2) := by decide +kernel
theorem dX12_makes_318 : decode cX12_makes 318 = .ok (.iload_n 3, 1) := by decide +kernel
theorem dX12_makes_319 : decode cX12_makes 319 = .ok (.bipush 6, 2) := by decide +kernel
theorem dX12_makes_321 : decode cX12_makes 321 = .ok (.iconst 1, 1) := by decide +kernel
theorem dX12_makes_322 : decode cX12_makes 322 = .ok (.iload 6, 2) := by decide +kernel
theorem dX12_makes_324 : decode cX12_makes 324 = .ok (.isub, 1) := by decide +kernel
theorem dX12_makes_325 : decode cX12_makes 325 = .ok (.invokestatic 161, 3) := by decide +kernel
theorem dX12_makes_328 : decode cX12_makes 328 = .ok (.invokevirtual 217, 3) := by decide +kernel
theorem dX12_makes_331 : decode cX12_makes 331 = .ok (.ifCond .eq 11, 3) := by decide +kernel
theorem dX12_makes_334 : decode cX12_makes 334 = .ok (.iload_n 2, 1) := by decide +kernel
theorem dX12_makes_335 : decode cX12_makes 335 = .ok (.iload_n 3, 1) := by decide +kernel
theorem dX12_makes_336 : decode cX12_makes 336 = .ok (.iadd, 1) := by decide +kernel
theorem dX12_makes_337 : decode cX12_makes 337 = .ok (.iconst 2, 1) := by decide +kernel
theorem dX12_makes_338 : decode cX12_makes 338 = .ok (.idiv, 1) := by decide +kernel
theorem dX12_makes_339 : decode cX12_makes 339 = .ok (.goto 4, 3) := by decide +kernel
theorem dX12_makes_342 : decode cX12_makes 342 = .ok (.iconst (-1), 1) := by decide +kernel
theorem dX12_makes_343 : decode cX12_makes 343 = .ok (.invokevirtual 207, 3) := by decide +kernel
theorem dX12_makes_346 : decode cX12_makes 346 = .ok (.return_, 1) := by decide +kernel
theorem dX12_moves_0 : decode cX12_moves 0 = .ok (.aload_n 0, 1) := by decide +kernel
theorem dX12_moves_1 : decode cX12_moves 1 = .ok (.getfield 29, 3) := by decide +kernel
theorem dX12_moves_4 : decode cX12_moves 4 = .ok (.iload_n 1, 1) := by decide +kernel
theorem dX12_moves_5 : decode cX12_moves 5 = .ok (.iconst 0, 1) := by decide +kernel
theorem dX12_moves_6 : decode cX12_moves 6 = .ok (.iastore, 1) := by decide +kernel
theorem dX12_moves_7 : decode cX12_moves 7 = .ok (.aload_n 0, 1) := by decide +kernel
theorem dX12_moves_8 : decode cX12_moves 8 = .ok (.iload_n 1, 1) := by decide +kernel
theorem dX12_moves_9 : decode cX12_moves 9 = .ok (.invokevirtual 183, 3) := by decide +kernel
theorem dX12_moves_12 : decode cX12_moves 12 = .ok (.istore_n 2, 1) := by decide +kernel
theorem dX12_moves_13 : decode cX12_moves 13 = .ok (.iconst 0, 1) := by decide +kernel
theorem dX12_moves_14 : decode cX12_moves 14 = .ok (.istore_n 3, 1) := by decide +kernel
theorem dX12_moves_15 : decode cX12_moves 15 = .ok (.iload_n 3, 1) := by decide +kernel
theorem dX12_moves_16 : decode cX12_moves 16 = .ok (.aload_n 0, 1) := by decide +kernel
theorem dX12_moves_17 : decode cX12_moves 17 = .ok (.invokevirtual 113, 3) := by decide +kernel
theorem dX12_moves_20 : decode cX12_moves 20 = .ok (.if_icmp .ge 124, 3) := by decide +kernel
theorem dX12_moves_23 : decode cX12_moves 23 = .ok (.iconst 0, 1) := by decide +kernel
theorem dX12_moves_24 : decode cX12_moves 24 = .ok (.istore 4, 2) := by decide +kernel
theorem dX12_moves_26 : decode cX12_moves 26 = .ok (.aload_n 0, 1) := by decide +kernel
theorem dX12_moves_27 : decode cX12_moves 27 = .ok (.iload_n 1, 1) := by decide +kernel
theorem dX12_moves_28 : decode cX12_moves 28 = .ok (.iload_n 3, 1) := by decide +kernel
theorem dX12_moves_29 : decode cX12_moves 29 = .ok (.invokevirtual 141, 3) := by decide +kernel
theorem dX12_moves_32 : decode cX12_moves 32 = .ok (.iload_n 2, 1) := by decide +kernel
theorem dX12_moves_33 : decode cX12_moves 33 = .ok (.invokestatic 154, 3) := by decide +kernel
theorem dX12_moves_36 : decode cX12_moves 36 = .ok (.ifCond .eq 102, 3) := by decide +kernel
theorem dX12_moves_39 : decode cX12_moves 39 = .ok (.iload 4, 2) := by decide +kernel
theorem dX12_moves_41 : decode cX12_moves 41 = .ok (.aload_n 0, 1) := by decide +kernel
theorem dX12_moves_42 : decode cX12_moves 42 = .ok (.invokevirtual 113, 3) := by decide +kernel
theorem dX12_moves_45 : decode cX12_moves 45 = .ok (.if_icmp .ge 93, 3) := by decide +kernel
theorem dX12_moves_48 : decode cX12_moves 48 = .ok (.aload_n 0, 1) := by decide +kernel
theorem dX12_moves_49 : decode cX12_moves 49 = .ok (.iload_n 1, 1) := by decide +kernel
theorem dX12_moves_50 : decode cX12_moves 50 = .ok (.iload_n 3, 1) := by decide +kernel
theorem dX12_moves_51 : decode cX12_moves 51 = .ok (.iload 4, 2) := by decide +kernel
theorem dX12_moves_53 : decode cX12_moves 53 = .ok (.invokevirtual 220, 3) := by decide +kernel
theorem dX12_moves_56 : decode cX12_moves 56 = .ok (.ifCond .eq 76, 3) := by decide +kernel
theorem dX12_moves_59 : decode cX12_moves 59 = .ok (.aload_n 0, 1) := by decide +kernel
theorem dX12_moves_60 : decode cX12_moves 60 = .ok (.iload_n 1, 1) := by decide +kernel
theorem dX12_moves_61 : decode cX12_moves 61 = .ok (.iload_n 3, 1) := by decide +kernel
theorem dX12_moves_62 : decode cX12_moves 62 = .ok (.iload 4, 2) := by decide +kernel
theorem dX12_moves_64 : decode cX12_moves 64 = .ok (.iconst 0, 1) := by decide +kernel
theorem dX12_moves_65 : decode cX12_moves 65 = .ok (.invokevirtual 223, 3) := by decide +kernel
theorem dX12_moves_68 : decode cX12_moves 68 = .ok (.aload_n 0, 1) := by decide +kernel
theorem dX12_moves_69 : decode cX12_moves 69 = .ok (.iload_n 1, 1) := by decide +kernel
theorem dX12_moves_70 : decode cX12_moves 70 = .ok (.iconst 1, 1) := by decide +kernel
theorem dX12_moves_71 : decode cX12_moves 71 = .ok (.iadd, 1) := by decide +kernel
theorem dX12_moves_72 : decode cX12_moves 72 = .ok (.iload_n 2, 1) := by decide +kernel
theorem dX12_moves_73 : decode cX12_moves 73 = .ok (.invokevirtual 186, 3) := by decide +kernel
theorem dX12_moves_76 : decode cX12_moves 76 = .ok (.ifCond .ne 56, 3) := by decide +kernel
theorem dX12_moves_79 : decode cX12_moves 79 = .ok (.aload_n 0, 1) := by decide +kernel
theorem dX12_moves_80 : decode cX12_moves 80 = .ok (.iload_n 1, 1) := by decide +kernel
theorem dX12_moves_81 : decode cX12_moves 81 = .ok (.iload_n 3, 1) := by decide +kernel
theorem dX12_moves_82 : decode cX12_moves 82 = .ok (.iload 4, 2) := by decide +kernel
theorem dX12_moves_84 : decode cX12_moves 84 = .ok (.invokevirtual 227, 3) := by decide +kernel
theorem dX12_moves_87 : decode cX12_moves 87 = .ok (.istore 5, 2) := by decide +kernel
theorem dX12_moves_89 : decode cX12_moves 89 = .ok (.iload 5, 2) := by decide +kernel
theorem dX12_moves_91 : decode cX12_moves 91 = .ok (.ifCond .eq 7, 3) := by decide +kernel
theorem dX12_moves_94 : decode cX12_moves 94 = .ok (.iconst 2, 1) := by decide +kernel
theorem dX12_moves_95 : decode cX12_moves 95 = .ok (.goto 4, 3) := by decide +kernel
theorem dX12_moves_98 : decode cX12_moves 98 = .ok (.iconst 0, 1) := by decide +kernel
theorem dX12_moves_99 : decode cX12_moves 99 = .ok (.istore 6, 2) := by decide +kernel
theorem dX12_moves_101 : decode cX12_moves 101 = .ok (.iload 6, 2) := by decide +kernel
theorem dX12_moves_103 : decode cX12_moves 103 = .ok (.iload 5, 2) := by decide +kernel
theorem dX12_moves_105 : decode cX12_moves 105 = .ok (.ifCond .eq 7, 3) := by decide +kernel
theorem dX12_moves_108 : decode cX12_moves 108 = .ok (.iconst 5, 1) := by decide +kernel
theorem dX12_moves_109 : decode cX12_moves 109 = .ok (.goto 4, 3) := by decide +kernel
theorem dX12_moves_112 : decode cX12_moves 112 = .ok (.iconst 0, 1) := by decide +kernel
theorem dX12_moves_113 : decode cX12_moves 113 = .ok (.if_icmp .gt 19, 3) := by decide +kernel
theorem dX12_moves_116 : decode cX12_moves 116 = .ok (.aload_n 0, 1) := by decide +kernel
theorem dX12_moves_117 : decode cX12_moves 117 = .ok (.iload_n 1, 1) := by decide +kernel
theorem dX12_moves_118 : decode cX12_moves 118 = .ok (.iload_n 3, 1) := by decide +kernel
theorem dX12_moves_119 : decode cX12_moves 119 = .ok (.iload 4, 2) := by decide +kernel
theorem dX12_moves_121 : decode cX12_moves 121 = .ok (.iload 6, 2) := by decide +kernel
theorem dX12_moves_123 : decode cX12_moves 123 = .ok (.invokevirtual 230, 3) := by decide +kernel
theorem dX12_moves_126 : decode cX12_moves 126 = .ok (.iinc 6 1, 3) := by decide +kernel
theorem dX12_moves_129 : decode cX12_moves 129 = .ok (.goto (-28), 3) := by decide +kernel
theorem dX12_moves_132 : decode cX12_moves 132 = .ok (.iinc 4 1, 3) := by decide +kernel
theorem dX12_moves_135 : decode cX12_moves 135 = .ok (.goto (-109), 3) := by decide +kernel
theorem dX12_moves_138 : decode cX12_moves 138 = .ok (.iinc 3 1, 3) := by decide +kernel
theorem dX12_moves_141 : decode cX12_moves 141 = .ok (.goto (-126), 3) := by decide +kernel
theorem dX12_moves_144 : decode cX12_moves 144 = .ok (.return_, 1) := by decide +kernel
theorem dX12_isMateAt_0 : decode cX12_isMateAt 0 = .ok (.aload_n 0, 1) := by decide +kernel
theorem dX12_isMateAt_1 : decode cX12_isMateAt 1 = .ok (.iload_n 1, 1) := by decide +kernel
theorem dX12_isMateAt_2 : decode cX12_isMateAt 2 = .ok (.aload_n 0, 1) := by decide +kernel
theorem dX12_isMateAt_3 : decode cX12_isMateAt 3 = .ok (.iload_n 1, 1) := by decide +kernel
theorem dX12_isMateAt_4 : decode cX12_isMateAt 4 = .ok (.invokevirtual 183, 3) := by decide +kernel
theorem dX12_isMateAt_7 : decode cX12_isMateAt 7 = .ok (.invokevirtual 186, 3) := by decide +kernel
theorem dX12_isMateAt_10 : decode cX12_isMateAt 10 = .ok (.ifCond .ne 5, 3) := by decide +kernel
theorem dX12_isMateAt_13 : decode cX12_isMateAt 13 = .ok (.iconst 0, 1) := by decide +kernel
theorem dX12_isMateAt_14 : decode cX12_isMateAt 14 = .ok (.ireturn, 1) := by decide +kernel
theorem dX12_isMateAt_15 : decode cX12_isMateAt 15 = .ok (.aload_n 0, 1) := by decide +kernel
theorem dX12_isMateAt_16 : decode cX12_isMateAt 16 = .ok (.iload_n 1, 1) := by decide +kernel
theorem dX12_isMateAt_17 : decode cX12_isMateAt 17 = .ok (.invokevirtual 233, 3) := by decide +kernel
theorem dX12_isMateAt_20 : decode cX12_isMateAt 20 = .ok (.aload_n 0, 1) := by decide +kernel
theorem dX12_isMateAt_21 : decode cX12_isMateAt 21 = .ok (.getfield 29, 3) := by decide +kernel
theorem dX12_isMateAt_24 : decode cX12_isMateAt 24 = .ok (.iload_n 1, 1) := by decide +kernel
theorem dX12_isMateAt_25 : decode cX12_isMateAt 25 = .ok (.iaload, 1) := by decide +kernel
theorem dX12_isMateAt_26 : decode cX12_isMateAt 26 = .ok (.ifCond .ne 7, 3) := by decide +kernel
theorem dX12_isMateAt_29 : decode cX12_isMateAt 29 = .ok (.iconst 1, 1) := by decide +kernel
theorem dX12_isMateAt_30 : decode cX12_isMateAt 30 = .ok (.goto 4, 3) := by decide +kernel
theorem dX12_isMateAt_33 : decode cX12_isMateAt 33 = .ok (.iconst 0, 1) := by decide +kernel
theorem dX12_isMateAt_34 : decode cX12_isMateAt 34 = .ok (.ireturn, 1) := by decide +kernel
theorem dX12_makesListed_0 : decode cX12_makesListed 0 = .ok (.sipush 320, 3) := by decide +kernel
theorem dX12_makesListed_3 : decode cX12_makesListed 3 = .ok (.iload_n 1, 1) := by decide +kernel
theorem dX12_makesListed_4 : decode cX12_makesListed 4 = .ok (.imul, 1) := by decide +kernel
theorem dX12_makesListed_5 : decode cX12_makesListed 5 = .ok (.iload_n 2, 1) := by decide +kernel
theorem dX12_makesListed_6 : decode cX12_makesListed 6 = .ok (.iadd, 1) := by decide +kernel
theorem dX12_makesListed_7 : decode cX12_makesListed 7 = .ok (.istore_n 3, 1) := by decide +kernel
theorem dX12_makesListed_8 : decode cX12_makesListed 8 = .ok (.aload_n 0, 1) := by decide +kernel
theorem dX12_makesListed_9 : decode cX12_makesListed 9 = .ok (.iload_n 1, 1) := by decide +kernel
theorem dX12_makesListed_10 : decode cX12_makesListed 10 = .ok (.aload_n 0, 1) := by decide +kernel
theorem dX12_makesListed_11 : decode cX12_makesListed 11 = .ok (.getfield 20, 3) := by decide +kernel
theorem dX12_makesListed_14 : decode cX12_makesListed 14 = .ok (.iload_n 3, 1) := by decide +kernel
theorem dX12_makesListed_15 : decode cX12_makesListed 15 = .ok (.iaload, 1) := by decide +kernel
theorem dX12_makesListed_16 : decode cX12_makesListed 16 = .ok (.aload_n 0, 1) := by decide +kernel
theorem dX12_makesListed_17 : decode cX12_makesListed 17 = .ok (.getfield 23, 3) := by decide +kernel
theorem dX12_makesListed_20 : decode cX12_makesListed 20 = .ok (.iload_n 3, 1) := by decide +kernel
theorem dX12_makesListed_21 : decode cX12_makesListed 21 = .ok (.iaload, 1) := by decide +kernel
theorem dX12_makesListed_22 : decode cX12_makesListed 22 = .ok (.aload_n 0, 1) := by decide +kernel
theorem dX12_makesListed_23 : decode cX12_makesListed 23 = .ok (.getfield 26, 3) := by decide +kernel
theorem dX12_makesListed_26 : decode cX12_makesListed 26 = .ok (.iload_n 3, 1) := by decide +kernel
theorem dX12_makesListed_27 : decode cX12_makesListed 27 = .ok (.iaload, 1) := by decide +kernel
theorem dX12_makesListed_28 : decode cX12_makesListed 28 = .ok (.invokevirtual 223, 3) := by decide +kernel
theorem dX12_makesListed_31 : decode cX12_makesListed 31 = .ok (.return_, 1) := by decide +kernel
theorem dX12_endOf_0 : decode cX12_endOf 0 = .ok (.aload_n 0, 1) := by decide +kernel
theorem dX12_endOf_1 : decode cX12_endOf 1 = .ok (.iconst 0, 1) := by decide +kernel
theorem dX12_endOf_2 : decode cX12_endOf 2 = .ok (.iload_n 1, 1) := by decide +kernel
theorem dX12_endOf_3 : decode cX12_endOf 3 = .ok (.invokevirtual 306, 3) := by decide +kernel
theorem dX12_endOf_6 : decode cX12_endOf 6 = .ok (.aload_n 0, 1) := by decide +kernel
theorem dX12_endOf_7 : decode cX12_endOf 7 = .ok (.iconst 1, 1) := by decide +kernel
theorem dX12_endOf_8 : decode cX12_endOf 8 = .ok (.aload_n 0, 1) := by decide +kernel
theorem dX12_endOf_9 : decode cX12_endOf 9 = .ok (.iconst 1, 1) := by decide +kernel
theorem dX12_endOf_10 : decode cX12_endOf 10 = .ok (.invokevirtual 183, 3) := by decide +kernel
theorem dX12_endOf_13 : decode cX12_endOf 13 = .ok (.invokevirtual 186, 3) := by decide +kernel
theorem dX12_endOf_16 : decode cX12_endOf 16 = .ok (.ifCond .ne 5, 3) := by decide +kernel
theorem dX12_endOf_19 : decode cX12_endOf 19 = .ok (.iconst 0, 1) := by decide +kernel
theorem dX12_endOf_20 : decode cX12_endOf 20 = .ok (.ireturn, 1) := by decide +kernel
theorem dX12_endOf_21 : decode cX12_endOf 21 = .ok (.aload_n 0, 1) := by decide +kernel
theorem dX12_endOf_22 : decode cX12_endOf 22 = .ok (.iconst 1, 1) := by decide +kernel
theorem dX12_endOf_23 : decode cX12_endOf 23 = .ok (.invokevirtual 309, 3) := by decide +kernel
theorem dX12_endOf_26 : decode cX12_endOf 26 = .ok (.ifCond .eq 8, 3) := by decide +kernel
theorem dX12_endOf_29 : decode cX12_endOf 29 = .ok (.bipush 35, 2) := by decide +kernel
theorem dX12_endOf_31 : decode cX12_endOf 31 = .ok (.goto 5, 3) := by decide +kernel
theorem dX12_endOf_34 : decode cX12_endOf 34 = .ok (.bipush 43, 2) := by decide +kernel
theorem dX12_endOf_36 : decode cX12_endOf 36 = .ok (.ireturn, 1) := by decide +kernel
theorem dX12_letterOf_0 : decode cX12_letterOf 0 = .ok (.iload_n 0, 1) := by decide +kernel
theorem dX12_letterOf_1 : decode cX12_letterOf 1 = .ok (.iconst 1, 1) := by decide +kernel
theorem dX12_letterOf_2 : decode cX12_letterOf 2 = .ok (.if_icmp .ne 8, 3) := by decide +kernel
theorem dX12_letterOf_5 : decode cX12_letterOf 5 = .ok (.bipush 75, 2) := by decide +kernel
theorem dX12_letterOf_7 : decode cX12_letterOf 7 = .ok (.goto 45, 3) := by decide +kernel
theorem dX12_letterOf_10 : decode cX12_letterOf 10 = .ok (.iload_n 0, 1) := by decide +kernel
theorem dX12_letterOf_11 : decode cX12_letterOf 11 = .ok (.iconst 2, 1) := by decide +kernel
theorem dX12_letterOf_12 : decode cX12_letterOf 12 = .ok (.if_icmp .ne 8, 3) := by decide +kernel
theorem dX12_letterOf_15 : decode cX12_letterOf 15 = .ok (.bipush 81, 2) := by decide +kernel
theorem dX12_letterOf_17 : decode cX12_letterOf 17 = .ok (.goto 35, 3) := by decide +kernel
theorem dX12_letterOf_20 : decode cX12_letterOf 20 = .ok (.iload_n 0, 1) := by decide +kernel
theorem dX12_letterOf_21 : decode cX12_letterOf 21 = .ok (.iconst 3, 1) := by decide +kernel
theorem dX12_letterOf_22 : decode cX12_letterOf 22 = .ok (.if_icmp .ne 8, 3) := by decide +kernel
theorem dX12_letterOf_25 : decode cX12_letterOf 25 = .ok (.bipush 82, 2) := by decide +kernel
theorem dX12_letterOf_27 : decode cX12_letterOf 27 = .ok (.goto 25, 3) := by decide +kernel
theorem dX12_letterOf_30 : decode cX12_letterOf 30 = .ok (.iload_n 0, 1) := by decide +kernel
theorem dX12_letterOf_31 : decode cX12_letterOf 31 = .ok (.iconst 4, 1) := by decide +kernel
theorem dX12_letterOf_32 : decode cX12_letterOf 32 = .ok (.if_icmp .ne 8, 3) := by decide +kernel
theorem dX12_letterOf_35 : decode cX12_letterOf 35 = .ok (.bipush 66, 2) := by decide +kernel
theorem dX12_letterOf_37 : decode cX12_letterOf 37 = .ok (.goto 15, 3) := by decide +kernel
theorem dX12_letterOf_40 : decode cX12_letterOf 40 = .ok (.iload_n 0, 1) := by decide +kernel
theorem dX12_letterOf_41 : decode cX12_letterOf 41 = .ok (.iconst 5, 1) := by decide +kernel
theorem dX12_letterOf_42 : decode cX12_letterOf 42 = .ok (.if_icmp .ne 8, 3) := by decide +kernel
theorem dX12_letterOf_45 : decode cX12_letterOf 45 = .ok (.bipush 78, 2) := by decide +kernel
theorem dX12_letterOf_47 : decode cX12_letterOf 47 = .ok (.goto 5, 3) := by decide +kernel
theorem dX12_letterOf_50 : decode cX12_letterOf 50 = .ok (.bipush 80, 2) := by decide +kernel
theorem dX12_letterOf_52 : decode cX12_letterOf 52 = .ok (.ireturn, 1) := by decide +kernel
def wp_X12_answer_74 (D : wD) (post : Int32 → wS → Prop)  (S : wS) (a0 : Nat) (x2 : Int32) (b0 : Nat) (t1 : Int32) (t2 : Int32) : Prop :=
b0 ∈ sL S ∧ vp_in t1 (sN S b0) ∧
∀ S_2 : wS, S_2 = uI S b0 (t1).toNatClampNeg t2 →
∃ y_3 : Nat, sR S_2 a0 38 = some y_3 ∧ wM D S_2 y_3 ∧ sK S_2 y_3 = 21 ∧
∃ y_4 : Nat, sR S_2 a0 37 = some y_4 ∧ wM D S_2 y_4 ∧ sK S_2 y_4 = 21 ∧
vp_in x2 (sN S_2 y_4) ∧
y_3 ∈ sL S_2 ∧ vp_in x2 (sN S_2 y_3) ∧
∀ S_7 : wS, S_7 = uI S_2 y_3 (x2).toNatClampNeg ((sI S_2 a0 39) + ((1 : Int32) <<< ((sI S_2 y_4 (x2).toNatClampNeg) &&& 31))) →
∃ y_8 : Nat, sR S_7 a0 37 = some y_8 ∧ wM D S_7 y_8 ∧ sK S_7 y_8 = 21 ∧
vp_in x2 (sN S_7 y_8) ∧
post (sI S_7 y_8 (x2).toNatClampNeg) S_7
def wp_X12_answer_15 (D : wD) (post : Int32 → wS → Prop)  (S : wS) (a0 : Nat) (x1 : Int32) (b0 : Nat) (t1 : Int32) : Prop :=
wp_X12_can D (fun r_1 S_2 => 
((¬ r_1 = 0 → wp_X12_askedNow D (fun r_4 S_5 => 
∀ S_6 : wS, S_6 = uI S_5 a0 39 ((sI S_5 a0 39) + (1 : Int32)) →
∃ y_7 : Nat, sR S_6 a0 37 = some y_7 ∧ wM D S_6 y_7 ∧ sK S_6 y_7 = 21 ∧
((¬ x1 = 0 → ∃ y_9 : Nat, sR S_6 a0 37 = some y_9 ∧ wM D S_6 y_9 ∧ sK S_6 y_9 = 21 ∧
vp_in r_4 (sN S_6 y_9) ∧
(((4 : Int32) ≤ (sI S_6 y_9 (r_4).toNatClampNeg) → wp_X12_answer_74 D post S_6 a0 r_4 y_7 r_4 (4 : Int32)) ∧
 (¬ (4 : Int32) ≤ (sI S_6 y_9 (r_4).toNatClampNeg) → ∃ y_12 : Nat, sR S_6 a0 37 = some y_12 ∧ wM D S_6 y_12 ∧ sK S_6 y_12 = 21 ∧
vp_in r_4 (sN S_6 y_12) ∧
wp_X12_answer_74 D post S_6 a0 r_4 y_7 r_4 ((sI S_6 y_12 (r_4).toNatClampNeg) + (1 : Int32))))) ∧
 (x1 = 0 → wp_X12_answer_74 D post S_6 a0 r_4 y_7 r_4 (0 : Int32)))) S_2 a0) ∧
 (r_1 = 0 → post (0 : Int32) S_2))) S b0 t1 (1 : Int32)
def wp_X12_answer_0 (D : wD) (post : Int32 → wS → Prop)  (S : wS) (a0 : Nat) (x1 : Int32) : Prop :=
∃ y_1 : Nat, sR S a0 30 = some y_1 ∧ wM D S y_1 ∧ sK S y_1 = 21 ∧
vp_in (0 : Int32) (sN S y_1) ∧
(((sI S y_1 ((0 : Int32)).toNatClampNeg) ≤ 0 → wp_X12_answer_15 D post S a0 x1 a0 (0 : Int32)) ∧
 (¬ (sI S y_1 ((0 : Int32)).toNatClampNeg) ≤ 0 → wp_X12_answer_15 D post S a0 x1 a0 (1 : Int32)))
abbrev r_X12_answer : Room := { frames := 1, cells := 0, slots := 0, locals := 22 }
def wp_X12_answer (D : wD) (post : Int32 → wS → Prop) (S : wS) (a0 : Nat) (x1 : Int32) : Prop := wp_X12_answer_0 D post S a0 x1
set_option maxHeartbeats 4000000 in
set_option maxRecDepth 100000 in
theorem t_X12_answer_74 {p : Program} {l : Launch} {e : Env} {s : State} {m : MethodId} {args : Array Value} {below : List Frame} {meth : Method} {c : Code} {D : wD} {cy : Nat → ClassId} {X : va_W} {A : Nat → Prop} {S0 : wS} {post : Int32 → wS → Prop} (F : CallFix p m c cX12_answer 3 s args wz_X12_answer RX12) (hr : meth.sig.returnType = (some .int)) (hlocks : meth.locks = false) (hK : wK D cy A s) : ∀ {S : wS} {H : Heap} {locs : List Loc} {ls : Array Slot} {a0 : Nat} {x2 : Int32} {b0 : Nat} {t1 : Int32} {t2 : Int32}, wp_X12_answer_74 D post S a0 x2 b0 t1 t2 → wO D cy X A s.heap S H locs → wX D S0 S → lv_has ls 3 [(0, .ref a0), (2, .int x2)] → wM D S a0 → sK S a0 = 17 → wM D S b0 → sK S b0 = 21 → W p l e r_X12_answer s m args below meth c H locs 0 0 (MQ below (va_Qi (fun r S9 => wX D S0 S9 ∧ post r S9) (wB D cy X A) A) args s 0 0 A) (F0 m 74 ls [.int t2, .int t1, .ref b0]) := by
  obtain ⟨hx, hb, hml, hown, hts⟩ := id F
  have hwg : ∀ w ∈ WG, w.before args s = true := fun w h => hts w (List.mem_cons_of_mem _ h)
  have i_17 : ∀ w ∈ u_ws RX12 TX12 43, w ∈ wz_X12_answer := fun w h => List.mem_cons_of_mem _ (wu_17 w h)
  have k_124 := hwg _ wf_RX12_124
  have k_91 := hwg _ wf_RX12_91
  have k_94 := hwg _ wf_RX12_94
  intro S H locs ls a0 x2 b0 t1 t2 hp hW hE hl hL_a0 hK_a0 hL_b0 hK_b0
  unfold wp_X12_answer_74 at hp
  obtain ⟨h_1m, h_1, hp⟩ := hp
  refine w_ist F hK hW h_1m hK_b0 h_1 dX12_answer_74 (fun H locs hW => ?_)
  obtain ⟨S_2, eS_2⟩ : ∃ z : wS, z = uI S b0 (t1).toNatClampNeg t2 := ⟨_, rfl⟩
  rw [← eS_2] at hW
  replace hp := hp S_2 eS_2
  have hX_S_2 : wX D S S_2 := by rw [eS_2]; exact wX_uI
  have hE := hE.trans hX_S_2
  have hK_a0 : sK S_2 a0 = 17 := (hX_S_2.2 a0 hL_a0).1.trans hK_a0
  have hL_a0 : wM D S_2 a0 := hX_S_2.M hL_a0
  refine lv_aload_n hx hb dX12_answer_75 rfl (lv_at hl 0 rfl) ?_
  obtain ⟨y_3, ey_3, hL_y_3, hK_y_3, hp⟩ := hp
  refine w_get (k := 17) (f := 38) (T := TX12) (v := .ref y_3) F hK hW hL_a0 hK_a0 (by decide) rfl rfl (by decide) i_17 k_94 (by rw [show wv 17 38 S_2 a0 = va_rf (sR S_2 a0 38) from rfl, ey_3]; rfl) dX12_answer_76 ?_
  refine lv_iload_n hx hb dX12_answer_79 rfl (lv_at hl 1 rfl) ?_
  refine lv_aload_n hx hb dX12_answer_80 rfl (lv_at hl 0 rfl) ?_
  refine w_get (k := 17) (f := 39) (T := TX12) (v := .int (sI S_2 a0 39)) F hK hW hL_a0 hK_a0 (by decide) rfl rfl (by decide) i_17 k_124 rfl dX12_answer_81 ?_
  refine lv_iconst (v := 1) hx hb dX12_answer_84 (by decide) ?_
  refine lv_aload_n hx hb dX12_answer_85 rfl (lv_at hl 0 rfl) ?_
  obtain ⟨y_4, ey_4, hL_y_4, hK_y_4, hp⟩ := hp
  refine w_get (k := 17) (f := 37) (T := TX12) (v := .ref y_4) F hK hW hL_a0 hK_a0 (by decide) rfl rfl (by decide) i_17 k_91 (by rw [show wv 17 37 S_2 a0 = va_rf (sR S_2 a0 37) from rfl, ey_4]; rfl) dX12_answer_86 ?_
  refine lv_iload_n hx hb dX12_answer_89 rfl (lv_at hl 1 rfl) ?_
  obtain ⟨h_5, hp⟩ := hp
  refine w_ild F hK hW hL_y_4 hK_y_4 h_5 dX12_answer_90 ?_
  refine lv_ishl hx hb dX12_answer_91 ?_
  refine lv_iadd hx hb dX12_answer_92 ?_
  obtain ⟨h_6m, h_6, hp⟩ := hp
  refine w_ist F hK hW h_6m hK_y_3 h_6 dX12_answer_93 (fun H locs hW => ?_)
  obtain ⟨S_7, eS_7⟩ : ∃ z : wS, z = uI S_2 y_3 (x2).toNatClampNeg ((sI S_2 a0 39) + ((1 : Int32) <<< ((sI S_2 y_4 (x2).toNatClampNeg) &&& 31))) := ⟨_, rfl⟩
  rw [← eS_7] at hW
  replace hp := hp S_7 eS_7
  have hX_S_7 : wX D S_2 S_7 := by rw [eS_7]; exact wX_uI
  have hE := hE.trans hX_S_7
  have hK_a0 : sK S_7 a0 = 17 := (hX_S_7.2 a0 hL_a0).1.trans hK_a0
  have hL_a0 : wM D S_7 a0 := hX_S_7.M hL_a0
  refine lv_aload_n hx hb dX12_answer_94 rfl (lv_at hl 0 rfl) ?_
  obtain ⟨y_8, ey_8, hL_y_8, hK_y_8, hp⟩ := hp
  refine w_get (k := 17) (f := 37) (T := TX12) (v := .ref y_8) F hK hW hL_a0 hK_a0 (by decide) rfl rfl (by decide) i_17 k_91 (by rw [show wv 17 37 S_7 a0 = va_rf (sR S_7 a0 37) from rfl, ey_8]; rfl) dX12_answer_95 ?_
  refine lv_iload_n hx hb dX12_answer_98 rfl (lv_at hl 1 rfl) ?_
  obtain ⟨h_9, hp⟩ := hp
  refine w_ild F hK hW hL_y_8 hK_y_8 h_9 dX12_answer_99 ?_
  exact w_iret hx hb hr hlocks hW ⟨hE, hp⟩ dX12_answer_100
set_option maxHeartbeats 4000000 in
set_option maxRecDepth 100000 in
theorem t_X12_answer_15 {p : Program} {l : Launch} {e : Env} {s : State} {m : MethodId} {args : Array Value} {below : List Frame} {meth : Method} {c : Code} {D : wD} {cy : Nat → ClassId} {X : va_W} {A : Nat → Prop} {S0 : wS} {post : Int32 → wS → Prop} (F : CallFix p m c cX12_answer 3 s args wz_X12_answer RX12) (hr : meth.sig.returnType = (some .int)) (hlocks : meth.locks = false) (hK : wK D cy A s) : ∀ {S : wS} {H : Heap} {locs : List Loc} {ls : Array Slot} {a0 : Nat} {x1 : Int32} {b0 : Nat} {t1 : Int32}, wp_X12_answer_15 D post S a0 x1 b0 t1 → wO D cy X A s.heap S H locs → wX D S0 S → lv_has ls 3 [(0, .ref a0), (1, .int x1)] → wM D S a0 → sK S a0 = 17 → wM D S b0 → sK S b0 = 17 → W p l e r_X12_answer s m args below meth c H locs 0 0 (MQ below (va_Qi (fun r S9 => wX D S0 S9 ∧ post r S9) (wB D cy X A) A) args s 0 0 A) (F0 m 15 ls [.int t1, .ref b0]) := by
  obtain ⟨hx, hb, hml, hown, hts⟩ := id F
  have hwg : ∀ w ∈ WG, w.before args s = true := fun w h => hts w (List.mem_cons_of_mem _ h)
  have i_17 : ∀ w ∈ u_ws RX12 TX12 43, w ∈ wz_X12_answer := fun w h => List.mem_cons_of_mem _ (wu_17 w h)
  have k_124 := hwg _ wf_RX12_124
  have k_91 := hwg _ wf_RX12_91
  intro S H locs ls a0 x1 b0 t1 hp hW hE hl hL_a0 hK_a0 hL_b0 hK_b0
  unfold wp_X12_answer_15 at hp
  refine lv_iconst (v := 1) hx hb dX12_answer_15 (by decide) ?_
  refine w_callI (va_runV (As := [.int t1, .int (1 : Int32)]) (rest := []) F (c_X12_can l hL_b0 hK_b0 hp H.size) (cwV (C := RX12) 2 hts (wg_V wm_RX12_237 wy_X12_can) rfl rfl rfl (by decide +kernel) ⟨Nat.le_of_ble_eq_true rfl, Nat.le_of_ble_eq_true rfl⟩) (w_preV hK hW hL_b0 hK_b0 (by decide) rfl) rfl rfl hl.1 rfl (lv_room (Nat.le_of_ble_eq_true rfl)) dX12_answer_16 ⟨Nat.le_of_ble_eq_true rfl, Nat.le_of_ble_eq_true rfl⟩) hW (fun r_1 S_2 H locs hp hW => ?_)
  obtain ⟨hX_S_2, hp⟩ := hp
  refine W.widen (k := 0) (n := 0) (by decide) (by decide) ?_
  have hE := hE.trans hX_S_2
  have hK_a0 : sK S_2 a0 = 17 := (hX_S_2.2 a0 hL_a0).1.trans hK_a0
  have hL_a0 : wM D S_2 a0 := hX_S_2.M hL_a0
  refine lv_if_ne (tgt := 24) hx hb dX12_answer_19 (by decide) (fun c_3 => ?_) (fun c_3 => ?_)
  · replace hp := hp.1 c_3
    refine lv_aload_n hx hb dX12_answer_24 rfl (lv_at hl 0 rfl) ?_
    refine w_callI (va_runV (As := []) (rest := []) F (c_X12_askedNow l hL_a0 hK_a0 hp H.size) (cwV (C := RX12) 0 hts (wg_V wm_RX12_515 wy_X12_askedNow) rfl rfl rfl (by decide +kernel) ⟨Nat.le_of_ble_eq_true rfl, Nat.le_of_ble_eq_true rfl⟩) (w_preV hK hW hL_a0 hK_a0 (by decide) rfl) rfl rfl hl.1 rfl (lv_room (Nat.le_of_ble_eq_true rfl)) dX12_answer_25 ⟨Nat.le_of_ble_eq_true rfl, Nat.le_of_ble_eq_true rfl⟩) hW (fun r_4 S_5 H locs hp hW => ?_)
    obtain ⟨hX_S_5, hp⟩ := hp
    refine W.widen (k := 0) (n := 0) (by decide) (by decide) ?_
    have hE := hE.trans hX_S_5
    have hK_a0 : sK S_5 a0 = 17 := (hX_S_5.2 a0 hL_a0).1.trans hK_a0
    have hL_a0 : wM D S_5 a0 := hX_S_5.M hL_a0
    refine lv_istore_n (lv' := [(2, .int r_4), (0, .ref a0), (1, .int x1)]) hx hb dX12_answer_28 rfl hl (by decide) rfl (fun ls hl => ?_)
    refine lv_aload_n hx hb dX12_answer_29 rfl (lv_at hl 1 rfl) ?_
    refine lv_dup hx hb dX12_answer_30 rfl ?_
    refine w_get (k := 17) (f := 39) (T := TX12) (v := .int (sI S_5 a0 39)) F hK hW hL_a0 hK_a0 (by decide) rfl rfl (by decide) i_17 k_124 rfl dX12_answer_31 ?_
    refine lv_iconst (v := 1) hx hb dX12_answer_34 (by decide) ?_
    refine lv_iadd hx hb dX12_answer_35 ?_
    refine w_putI (k := 17) (f := 39) (T := TX12) F hK hW hL_a0 hK_a0 (by decide) (by decide) rfl rfl (by decide) i_17 tyX12 tyX12_ok nmX12 k_124 rfl rfl (ty := .int) rfl rfl rfl dX12_answer_36 (fun H locs hW => ?_)
    obtain ⟨S_6, eS_6⟩ : ∃ z : wS, z = uI S_5 a0 39 ((sI S_5 a0 39) + (1 : Int32)) := ⟨_, rfl⟩
    rw [← eS_6] at hW
    replace hp := hp S_6 eS_6
    have hX_S_6 : wX D S_5 S_6 := by rw [eS_6]; exact wX_uI
    have hE := hE.trans hX_S_6
    have hK_a0 : sK S_6 a0 = 17 := (hX_S_6.2 a0 hL_a0).1.trans hK_a0
    have hL_a0 : wM D S_6 a0 := hX_S_6.M hL_a0
    refine lv_aload_n hx hb dX12_answer_39 rfl (lv_at hl 1 rfl) ?_
    obtain ⟨y_7, ey_7, hL_y_7, hK_y_7, hp⟩ := hp
    refine w_get (k := 17) (f := 37) (T := TX12) (v := .ref y_7) F hK hW hL_a0 hK_a0 (by decide) rfl rfl (by decide) i_17 k_91 (by rw [show wv 17 37 S_6 a0 = va_rf (sR S_6 a0 37) from rfl, ey_7]; rfl) dX12_answer_40 ?_
    refine lv_iload_n hx hb dX12_answer_43 rfl (lv_at hl 0 rfl) ?_
    refine lv_iload_n hx hb dX12_answer_44 rfl (lv_at hl 2 rfl) ?_
    refine lv_if_ne (tgt := 52) hx hb dX12_answer_45 (by decide) (fun c_8 => ?_) (fun c_8 => ?_)
    · replace hp := hp.1 c_8
      refine lv_aload_n hx hb dX12_answer_52 rfl (lv_at hl 1 rfl) ?_
      obtain ⟨y_9, ey_9, hL_y_9, hK_y_9, hp⟩ := hp
      refine w_get (k := 17) (f := 37) (T := TX12) (v := .ref y_9) F hK hW hL_a0 hK_a0 (by decide) rfl rfl (by decide) i_17 k_91 (by rw [show wv 17 37 S_6 a0 = va_rf (sR S_6 a0 37) from rfl, ey_9]; rfl) dX12_answer_53 ?_
      refine lv_iload_n hx hb dX12_answer_56 rfl (lv_at hl 0 rfl) ?_
      obtain ⟨h_10, hp⟩ := hp
      refine w_ild F hK hW hL_y_9 hK_y_9 h_10 dX12_answer_57 ?_
      refine lv_iconst (v := 4) hx hb dX12_answer_58 (by decide) ?_
      refine lv_icmp_ge (tgt := 73) hx hb dX12_answer_59 (by decide) (fun c_11 => ?_) (fun c_11 => ?_)
      · replace hp := hp.1 c_11
        refine lv_iconst (v := 4) hx hb dX12_answer_73 (by decide) ?_
        exact t_X12_answer_74 F hr hlocks hK hp hW hE (lv_sub hl [1, 0] rfl) hL_a0 hK_a0 hL_y_7 hK_y_7
      · replace hp := hp.2 c_11
        refine lv_aload_n hx hb dX12_answer_62 rfl (lv_at hl 1 rfl) ?_
        obtain ⟨y_12, ey_12, hL_y_12, hK_y_12, hp⟩ := hp
        refine w_get (k := 17) (f := 37) (T := TX12) (v := .ref y_12) F hK hW hL_a0 hK_a0 (by decide) rfl rfl (by decide) i_17 k_91 (by rw [show wv 17 37 S_6 a0 = va_rf (sR S_6 a0 37) from rfl, ey_12]; rfl) dX12_answer_63 ?_
        refine lv_iload_n hx hb dX12_answer_66 rfl (lv_at hl 0 rfl) ?_
        obtain ⟨h_13, hp⟩ := hp
        refine w_ild F hK hW hL_y_12 hK_y_12 h_13 dX12_answer_67 ?_
        refine lv_iconst (v := 1) hx hb dX12_answer_68 (by decide) ?_
        refine lv_iadd hx hb dX12_answer_69 ?_
        refine lv_goto (tgt := 74) hx hb dX12_answer_70 (by decide) ?_
        exact t_X12_answer_74 F hr hlocks hK hp hW hE (lv_sub hl [1, 0] rfl) hL_a0 hK_a0 hL_y_7 hK_y_7
    · replace hp := hp.2 c_8
      refine lv_iconst (v := 0) hx hb dX12_answer_48 (by decide) ?_
      refine lv_goto (tgt := 74) hx hb dX12_answer_49 (by decide) ?_
      exact t_X12_answer_74 F hr hlocks hK hp hW hE (lv_sub hl [1, 0] rfl) hL_a0 hK_a0 hL_y_7 hK_y_7
  · replace hp := hp.2 c_3
    refine lv_iconst (v := 0) hx hb dX12_answer_22 (by decide) ?_
    exact w_iret hx hb hr hlocks hW ⟨hE, hp⟩ dX12_answer_23
set_option maxHeartbeats 4000000 in
set_option maxRecDepth 100000 in
theorem t_X12_answer_0 {p : Program} {l : Launch} {e : Env} {s : State} {m : MethodId} {args : Array Value} {below : List Frame} {meth : Method} {c : Code} {D : wD} {cy : Nat → ClassId} {X : va_W} {A : Nat → Prop} {S0 : wS} {post : Int32 → wS → Prop} (F : CallFix p m c cX12_answer 3 s args wz_X12_answer RX12) (hr : meth.sig.returnType = (some .int)) (hlocks : meth.locks = false) (hK : wK D cy A s) : ∀ {S : wS} {H : Heap} {locs : List Loc} {ls : Array Slot} {a0 : Nat} {x1 : Int32}, wp_X12_answer_0 D post S a0 x1 → wO D cy X A s.heap S H locs → wX D S0 S → lv_has ls 3 [(0, .ref a0), (1, .int x1)] → wM D S a0 → sK S a0 = 17 → W p l e r_X12_answer s m args below meth c H locs 0 0 (MQ below (va_Qi (fun r S9 => wX D S0 S9 ∧ post r S9) (wB D cy X A) A) args s 0 0 A) (F0 m 0 ls []) := by
  obtain ⟨hx, hb, hml, hown, hts⟩ := id F
  have hwg : ∀ w ∈ WG, w.before args s = true := fun w h => hts w (List.mem_cons_of_mem _ h)
  have i_17 : ∀ w ∈ u_ws RX12 TX12 43, w ∈ wz_X12_answer := fun w h => List.mem_cons_of_mem _ (wu_17 w h)
  have k_69 := hwg _ wf_RX12_69
  intro S H locs ls a0 x1 hp hW hE hl hL_a0 hK_a0
  unfold wp_X12_answer_0 at hp
  refine lv_aload_n hx hb dX12_answer_0 rfl (lv_at hl 0 rfl) ?_
  refine lv_aload_n hx hb dX12_answer_1 rfl (lv_at hl 0 rfl) ?_
  obtain ⟨y_1, ey_1, hL_y_1, hK_y_1, hp⟩ := hp
  refine w_get (k := 17) (f := 30) (T := TX12) (v := .ref y_1) F hK hW hL_a0 hK_a0 (by decide) rfl rfl (by decide) i_17 k_69 (by rw [show wv 17 30 S a0 = va_rf (sR S a0 30) from rfl, ey_1]; rfl) dX12_answer_2 ?_
  refine lv_iconst (v := 0) hx hb dX12_answer_5 (by decide) ?_
  obtain ⟨h_2, hp⟩ := hp
  refine w_ild F hK hW hL_y_1 hK_y_1 h_2 dX12_answer_6 ?_
  refine lv_if_le (tgt := 14) hx hb dX12_answer_7 (by decide) (fun c_3 => ?_) (fun c_3 => ?_)
  · replace hp := hp.1 c_3
    refine lv_iconst (v := 0) hx hb dX12_answer_14 (by decide) ?_
    exact t_X12_answer_15 F hr hlocks hK hp hW hE (lv_sub hl [0, 1] rfl) hL_a0 hK_a0 hL_a0 hK_a0
  · replace hp := hp.2 c_3
    refine lv_iconst (v := 1) hx hb dX12_answer_10 (by decide) ?_
    refine lv_goto (tgt := 15) hx hb dX12_answer_11 (by decide) ?_
    exact t_X12_answer_15 F hr hlocks hK hp hW hE (lv_sub hl [0, 1] rfl) hL_a0 hK_a0 hL_a0 hK_a0
set_option maxHeartbeats 4000000 in
set_option maxRecDepth 100000 in
theorem c_X12_answer (l : Launch) {D : wD} {cy : Nat → ClassId} {X : va_W} {S0 : wS} {post : Int32 → wS → Prop} {a0 : Nat} {x1 : Int32} (hL_a0 : wM D S0 a0) (hK_a0 : sK S0 a0 = 17) (hp : wp_X12_answer D post S0 a0 x1) : mI D cy X l yX12_answer wz_X12_answer r_X12_answer [.ref a0, .int x1] S0 (fun r S9 => wX D S0 S9 ∧ post r S9) := by
  intro sz
  refine Met.ofW (cc := cX12_answer) (maxL := 3) (ret := (some .int)) (by decide) rfl ?_
  intro p e s m args below meth c s₁ B hml hv
  obtain ⟨rfl, hsz, hP, hK, hD0, hRO⟩ := hv
  have hts := atoms_spec (ws := wz_X12_answer) B.pre
  have hown : s.vm.findClass RX12 = some m.cls := findClass_of_methodNamed B.named
  subst hsz
  have hD := hD0.self (sz := s.heap.size)
  have F : CallFix p m c cX12_answer 3 s _ wz_X12_answer RX12 := ⟨B.exec, B.bytes, hml, hown, hts⟩
  have hr := B.returns
  have hlocks := B.notSynchronized
  generalize hAe : va_A (wL cy X S0) s.heap.size = A at hD hK ⊢
  have hA : ∀ q, s.heap.size ≤ q → A q := fun q h => by rw [← hAe]; exact Or.inr h
  have hW : wO D cy X A s.heap S0 s.heap [] := ⟨hP, hD, va_S.rf, hA, hRO⟩
  have hl := lv_entry ([.ref a0, .int x1]) (n := 3) (Nat.le_of_ble_eq_true rfl)
  rw [lg_entry_eq]
  generalize (lg_sl ([.ref a0, .int x1]) ++ List.replicate (3 - (lg_sl ([.ref a0, .int x1])).length) Slot.unset).toArray = ls at hl ⊢
  have hl : lv_has ls 3 [(0, .ref a0), (1, .int x1)] := hl
  unfold wp_X12_answer at hp
  exact t_X12_answer_0 F hr hlocks hK hp hW wX.rf (lv_sub hl [0, 1] rfl) hL_a0 hK_a0
def wp_X12_isSame_3 (D : wD) (post : Int32 → wS → Prop)  : Nat → wS → Nat → Int32 → Nat → Int32 → Int32 → Prop
  | 0, _, _, _, _, _, _ => False
  | n + 1, S, a0, x1, a2, x3, x4 =>
    (((67 : Int32) ≤ x4 → narrow .boolean (.int (1 : Int32)) = .int (1 : Int32) ∧ post (1 : Int32) S) ∧
     (¬ (67 : Int32) ≤ x4 → vp_in (x1 + x4) (sN S a0) ∧
    vp_in (x3 + x4) (sN S a2) ∧
    (((sI S a0 ((x1 + x4)).toNatClampNeg) = (sI S a2 ((x3 + x4)).toNatClampNeg) → ∀ x_5 : Int32, x_5 = x4 + 1 →
    wp_X12_isSame_3 D post n S a0 x1 a2 x3 x_5) ∧
     (¬ (sI S a0 ((x1 + x4)).toNatClampNeg) = (sI S a2 ((x3 + x4)).toNatClampNeg) → narrow .boolean (.int (0 : Int32)) = .int (0 : Int32) ∧ post (0 : Int32) S))))
def wp_X12_isSame_0 (D : wD) (post : Int32 → wS → Prop)  (S : wS) (a0 : Nat) (x1 : Int32) (a2 : Nat) (x3 : Int32) : Prop :=
∃ n_1 : Nat, wp_X12_isSame_3 D post n_1 S a0 x1 a2 x3 (0 : Int32)
abbrev r_X12_isSame : Room := { frames := 0, cells := 0, slots := 0, locals := 0 }
def wp_X12_isSame (D : wD) (post : Int32 → wS → Prop) (S : wS) (a0 : Nat) (x1 : Int32) (a2 : Nat) (x3 : Int32) : Prop := wp_X12_isSame_0 D post S a0 x1 a2 x3
set_option maxHeartbeats 4000000 in
set_option maxRecDepth 100000 in
theorem t_X12_isSame_3 {p : Program} {l : Launch} {e : Env} {s : State} {m : MethodId} {args : Array Value} {below : List Frame} {meth : Method} {c : Code} {D : wD} {cy : Nat → ClassId} {X : va_W} {A : Nat → Prop} {S0 : wS} {post : Int32 → wS → Prop} (F : CallFix p m c cX12_isSame 5 s args wz_X12_isSame RX12) (hr : meth.sig.returnType = (some .boolean)) (hlocks : meth.locks = false) (hK : wK D cy A s) : ∀ (n : Nat) {S : wS} {H : Heap} {locs : List Loc} {ls : Array Slot} {a0 : Nat} {x1 : Int32} {a2 : Nat} {x3 : Int32} {x4 : Int32}, wp_X12_isSame_3 D post n S a0 x1 a2 x3 x4 → wO D cy X A s.heap S H locs → wX D S0 S → lv_has ls 5 [(0, .ref a0), (1, .int x1), (2, .ref a2), (3, .int x3), (4, .int x4)] → wM D S a0 → sK S a0 = 21 → wM D S a2 → sK S a2 = 21 → W p l e r_X12_isSame s m args below meth c H locs 0 0 (MQ below (va_Qi (fun r S9 => wX D S0 S9 ∧ post r S9) (wB D cy X A) A) args s 0 0 A) (F0 m 3 ls []) := by
  obtain ⟨hx, hb, hml, hown, hts⟩ := id F
  have hwg : ∀ w ∈ WG, w.before args s = true := fun w h => hts w (List.mem_cons_of_mem _ h)
  intro n
  induction n with
  | zero =>
    intro S H locs ls a0 x1 a2 x3 x4 hp
    exact hp.elim
  | succ n ih =>
    intro S H locs ls a0 x1 a2 x3 x4 hp hW hE hl hL_a0 hK_a0 hL_a2 hK_a2
    unfold wp_X12_isSame_3 at hp
    refine lv_iload hx hb dX12_isSame_3 (lv_at hl 4 rfl) ?_
    refine lv_bipush (v := 67) hx hb dX12_isSame_5 (by decide) ?_
    refine lv_icmp_ge (tgt := 33) hx hb dX12_isSame_7 (by decide) (fun c_1 => ?_) (fun c_1 => ?_)
    · replace hp := hp.1 c_1
      refine lv_iconst (v := 1) hx hb dX12_isSame_33 (by decide) ?_
      exact w_zret hx hb hr hlocks hW hp.1 ⟨hE, hp.2⟩ dX12_isSame_34
    · replace hp := hp.2 c_1
      refine lv_aload_n hx hb dX12_isSame_10 rfl (lv_at hl 0 rfl) ?_
      refine lv_iload_n hx hb dX12_isSame_11 rfl (lv_at hl 1 rfl) ?_
      refine lv_iload hx hb dX12_isSame_12 (lv_at hl 4 rfl) ?_
      refine lv_iadd hx hb dX12_isSame_14 ?_
      obtain ⟨h_2, hp⟩ := hp
      refine w_ild F hK hW hL_a0 hK_a0 h_2 dX12_isSame_15 ?_
      refine lv_aload_n hx hb dX12_isSame_16 rfl (lv_at hl 2 rfl) ?_
      refine lv_iload_n hx hb dX12_isSame_17 rfl (lv_at hl 3 rfl) ?_
      refine lv_iload hx hb dX12_isSame_18 (lv_at hl 4 rfl) ?_
      refine lv_iadd hx hb dX12_isSame_20 ?_
      obtain ⟨h_3, hp⟩ := hp
      refine w_ild F hK hW hL_a2 hK_a2 h_3 dX12_isSame_21 ?_
      refine lv_icmp_eq (tgt := 27) hx hb dX12_isSame_22 (by decide) (fun c_4 => ?_) (fun c_4 => ?_)
      · replace hp := hp.1 c_4
        obtain ⟨x_5, ex_5⟩ : ∃ z : Int32, z = x4 + 1 := ⟨_, rfl⟩
        replace hp := hp x_5 ex_5
        refine lv_iinc (v := x_5) (lv' := [(4, .int x_5), (0, .ref a0), (1, .int x1), (2, .ref a2), (3, .int x3)]) hx hb dX12_isSame_27 hl (k := 4) rfl (by rw [ex_5]; rfl) (by decide) rfl (fun ls hl => ?_)
        refine lv_goto (tgt := 3) hx hb dX12_isSame_30 (by decide) ?_
        exact ih hp hW hE (lv_sub hl [1, 2, 3, 4, 0] rfl) hL_a0 hK_a0 hL_a2 hK_a2
      · replace hp := hp.2 c_4
        refine lv_iconst (v := 0) hx hb dX12_isSame_25 (by decide) ?_
        exact w_zret hx hb hr hlocks hW hp.1 ⟨hE, hp.2⟩ dX12_isSame_26
set_option maxHeartbeats 4000000 in
set_option maxRecDepth 100000 in
theorem t_X12_isSame_0 {p : Program} {l : Launch} {e : Env} {s : State} {m : MethodId} {args : Array Value} {below : List Frame} {meth : Method} {c : Code} {D : wD} {cy : Nat → ClassId} {X : va_W} {A : Nat → Prop} {S0 : wS} {post : Int32 → wS → Prop} (F : CallFix p m c cX12_isSame 5 s args wz_X12_isSame RX12) (hr : meth.sig.returnType = (some .boolean)) (hlocks : meth.locks = false) (hK : wK D cy A s) : ∀ {S : wS} {H : Heap} {locs : List Loc} {ls : Array Slot} {a0 : Nat} {x1 : Int32} {a2 : Nat} {x3 : Int32}, wp_X12_isSame_0 D post S a0 x1 a2 x3 → wO D cy X A s.heap S H locs → wX D S0 S → lv_has ls 5 [(0, .ref a0), (1, .int x1), (2, .ref a2), (3, .int x3)] → wM D S a0 → sK S a0 = 21 → wM D S a2 → sK S a2 = 21 → W p l e r_X12_isSame s m args below meth c H locs 0 0 (MQ below (va_Qi (fun r S9 => wX D S0 S9 ∧ post r S9) (wB D cy X A) A) args s 0 0 A) (F0 m 0 ls []) := by
  obtain ⟨hx, hb, hml, hown, hts⟩ := id F
  have hwg : ∀ w ∈ WG, w.before args s = true := fun w h => hts w (List.mem_cons_of_mem _ h)
  intro S H locs ls a0 x1 a2 x3 hp hW hE hl hL_a0 hK_a0 hL_a2 hK_a2
  unfold wp_X12_isSame_0 at hp
  refine lv_iconst (v := 0) hx hb dX12_isSame_0 (by decide) ?_
  refine lv_istore (lv' := [(4, .int (0 : Int32)), (0, .ref a0), (1, .int x1), (2, .ref a2), (3, .int x3)]) hx hb dX12_isSame_1 hl (by decide) rfl (fun ls hl => ?_)
  obtain ⟨n_1, hp⟩ := hp
  exact t_X12_isSame_3 F hr hlocks hK n_1 hp hW hE (lv_sub hl [1, 2, 3, 4, 0] rfl) hL_a0 hK_a0 hL_a2 hK_a2
set_option maxHeartbeats 4000000 in
set_option maxRecDepth 100000 in
theorem c_X12_isSame (l : Launch) {D : wD} {cy : Nat → ClassId} {X : va_W} {S0 : wS} {post : Int32 → wS → Prop} {a0 : Nat} {x1 : Int32} {a2 : Nat} {x3 : Int32} (hL_a0 : wM D S0 a0) (hK_a0 : sK S0 a0 = 21) (hL_a2 : wM D S0 a2) (hK_a2 : sK S0 a2 = 21) (hp : wp_X12_isSame D post S0 a0 x1 a2 x3) : mI D cy X l yX12_isSame wz_X12_isSame r_X12_isSame [.ref a0, .int x1, .ref a2, .int x3] S0 (fun r S9 => wX D S0 S9 ∧ post r S9) := by
  intro sz
  refine Met.ofW (cc := cX12_isSame) (maxL := 5) (ret := (some .boolean)) (by decide) rfl ?_
  intro p e s m args below meth c s₁ B hml hv
  obtain ⟨rfl, hsz, hP, hK, hD0, hRO⟩ := hv
  have hts := atoms_spec (ws := wz_X12_isSame) B.pre
  have hown : s.vm.findClass RX12 = some m.cls := findClass_of_methodNamed B.named
  subst hsz
  have hD := hD0.self (sz := s.heap.size)
  have F : CallFix p m c cX12_isSame 5 s _ wz_X12_isSame RX12 := ⟨B.exec, B.bytes, hml, hown, hts⟩
  have hr := B.returns
  have hlocks := B.notSynchronized
  generalize hAe : va_A (wL cy X S0) s.heap.size = A at hD hK ⊢
  have hA : ∀ q, s.heap.size ≤ q → A q := fun q h => by rw [← hAe]; exact Or.inr h
  have hW : wO D cy X A s.heap S0 s.heap [] := ⟨hP, hD, va_S.rf, hA, hRO⟩
  have hl := lv_entry ([.ref a0, .int x1, .ref a2, .int x3]) (n := 5) (Nat.le_of_ble_eq_true rfl)
  rw [lg_entry_eq]
  generalize (lg_sl ([.ref a0, .int x1, .ref a2, .int x3]) ++ List.replicate (5 - (lg_sl ([.ref a0, .int x1, .ref a2, .int x3])).length) Slot.unset).toArray = ls at hl ⊢
  have hl : lv_has ls 5 [(0, .ref a0), (1, .int x1), (2, .ref a2), (3, .int x3)] := hl
  unfold wp_X12_isSame at hp
  exact t_X12_isSame_0 F hr hlocks hK hp hW wX.rf (lv_sub hl [0, 1, 2, 3] rfl) hL_a0 hK_a0 hL_a2 hK_a2
def wp_X12_areAlike_43 (D : wD) (post : Int32 → wS → Prop)  : Nat → wS → Nat → Int32 → Int32 → Int32 → Prop
  | 0, _, _, _, _, _ => False
  | n + 1, S, a0, x1, x2, x3 =>
    ∃ y_1 : Nat, sR S a0 33 = some y_1 ∧ wM D S y_1 ∧ sK S y_1 = 21 ∧
    vp_in x1 (sN S y_1) ∧
    (((sI S y_1 (x1).toNatClampNeg) ≤ x3 → narrow .boolean (.int (1 : Int32)) = .int (1 : Int32) ∧ post (1 : Int32) S) ∧
     (¬ (sI S y_1 (x1).toNatClampNeg) ≤ x3 → ∃ y_4 : Nat, sR S a0 32 = some y_4 ∧ wM D S y_4 ∧ sK S y_4 = 21 ∧
    vp_in (((80 : Int32) * x1) + x3) (sN S y_4) ∧
    ∃ y_6 : Nat, sR S a0 32 = some y_6 ∧ wM D S y_6 ∧ sK S y_6 = 21 ∧
    vp_in (((80 : Int32) * x2) + x3) (sN S y_6) ∧
    (((sI S y_4 ((((80 : Int32) * x1) + x3)).toNatClampNeg) = (sI S y_6 ((((80 : Int32) * x2) + x3)).toNatClampNeg) → ∀ x_9 : Int32, x_9 = x3 + 1 →
    wp_X12_areAlike_43 D post n S a0 x1 x2 x_9) ∧
     (¬ (sI S y_4 ((((80 : Int32) * x1) + x3)).toNatClampNeg) = (sI S y_6 ((((80 : Int32) * x2) + x3)).toNatClampNeg) → narrow .boolean (.int (0 : Int32)) = .int (0 : Int32) ∧ post (0 : Int32) S))))
def wp_X12_areAlike_39 (D : wD) (post : Int32 → wS → Prop)  (S : wS) : Prop :=
narrow .boolean (.int (0 : Int32)) = .int (0 : Int32) ∧ post (0 : Int32) S
def wp_X12_areAlike_0 (D : wD) (post : Int32 → wS → Prop)  (S : wS) (a0 : Nat) (x1 : Int32) (x2 : Int32) : Prop :=
∃ y_1 : Nat, sR S a0 33 = some y_1 ∧ wM D S y_1 ∧ sK S y_1 = 21 ∧
vp_in x1 (sN S y_1) ∧
∃ y_3 : Nat, sR S a0 33 = some y_3 ∧ wM D S y_3 ∧ sK S y_3 = 21 ∧
vp_in x2 (sN S y_3) ∧
((¬ (sI S y_1 (x1).toNatClampNeg) = (sI S y_3 (x2).toNatClampNeg) → wp_X12_areAlike_39 D post S) ∧
 ((sI S y_1 (x1).toNatClampNeg) = (sI S y_3 (x2).toNatClampNeg) → ∃ y_6 : Nat, sR S a0 31 = some y_6 ∧ wM D S y_6 ∧ sK S y_6 = 21 ∧
∃ y_7 : Nat, sR S a0 31 = some y_7 ∧ wM D S y_7 ∧ sK S y_7 = 21 ∧
wp_X12_isSame D (fun r_8 S_9 => 
((¬ r_8 = 0 → ∃ n_11 : Nat, wp_X12_areAlike_43 D post n_11 S_9 a0 x1 x2 (0 : Int32)) ∧
 (r_8 = 0 → wp_X12_areAlike_39 D post S_9))) S y_6 ((5427 : Int32) * x1) y_7 ((5427 : Int32) * x2)))
abbrev r_X12_areAlike : Room := { frames := 1, cells := 0, slots := 0, locals := 24 }
def wp_X12_areAlike (D : wD) (post : Int32 → wS → Prop) (S : wS) (a0 : Nat) (x1 : Int32) (x2 : Int32) : Prop := wp_X12_areAlike_0 D post S a0 x1 x2
set_option maxHeartbeats 4000000 in
set_option maxRecDepth 100000 in
theorem t_X12_areAlike_43 {p : Program} {l : Launch} {e : Env} {s : State} {m : MethodId} {args : Array Value} {below : List Frame} {meth : Method} {c : Code} {D : wD} {cy : Nat → ClassId} {X : va_W} {A : Nat → Prop} {S0 : wS} {post : Int32 → wS → Prop} (F : CallFix p m c cX12_areAlike 4 s args wz_X12_areAlike RX12) (hr : meth.sig.returnType = (some .boolean)) (hlocks : meth.locks = false) (hK : wK D cy A s) : ∀ (n : Nat) {S : wS} {H : Heap} {locs : List Loc} {ls : Array Slot} {a0 : Nat} {x1 : Int32} {x2 : Int32} {x3 : Int32}, wp_X12_areAlike_43 D post n S a0 x1 x2 x3 → wO D cy X A s.heap S H locs → wX D S0 S → lv_has ls 4 [(0, .ref a0), (1, .int x1), (2, .int x2), (3, .int x3)] → wM D S a0 → sK S a0 = 17 → W p l e r_X12_areAlike s m args below meth c H locs 0 0 (MQ below (va_Qi (fun r S9 => wX D S0 S9 ∧ post r S9) (wB D cy X A) A) args s 0 0 A) (F0 m 43 ls []) := by
  obtain ⟨hx, hb, hml, hown, hts⟩ := id F
  have hwg : ∀ w ∈ WG, w.before args s = true := fun w h => hts w (List.mem_cons_of_mem _ h)
  have i_17 : ∀ w ∈ u_ws RX12 TX12 43, w ∈ wz_X12_areAlike := fun w h => List.mem_cons_of_mem _ (wu_17 w h)
  have k_76 := hwg _ wf_RX12_76
  have k_79 := hwg _ wf_RX12_79
  intro n
  induction n with
  | zero =>
    intro S H locs ls a0 x1 x2 x3 hp
    exact hp.elim
  | succ n ih =>
    intro S H locs ls a0 x1 x2 x3 hp hW hE hl hL_a0 hK_a0
    unfold wp_X12_areAlike_43 at hp
    refine lv_iload_n hx hb dX12_areAlike_43 rfl (lv_at hl 3 rfl) ?_
    refine lv_aload_n hx hb dX12_areAlike_44 rfl (lv_at hl 0 rfl) ?_
    obtain ⟨y_1, ey_1, hL_y_1, hK_y_1, hp⟩ := hp
    refine w_get (k := 17) (f := 33) (T := TX12) (v := .ref y_1) F hK hW hL_a0 hK_a0 (by decide) rfl rfl (by decide) i_17 k_79 (by rw [show wv 17 33 S a0 = va_rf (sR S a0 33) from rfl, ey_1]; rfl) dX12_areAlike_45 ?_
    refine lv_iload_n hx hb dX12_areAlike_48 rfl (lv_at hl 1 rfl) ?_
    obtain ⟨h_2, hp⟩ := hp
    refine w_ild F hK hW hL_y_1 hK_y_1 h_2 dX12_areAlike_49 ?_
    refine lv_icmp_ge (tgt := 86) hx hb dX12_areAlike_50 (by decide) (fun c_3 => ?_) (fun c_3 => ?_)
    · replace hp := hp.1 c_3
      refine lv_iconst (v := 1) hx hb dX12_areAlike_86 (by decide) ?_
      exact w_zret hx hb hr hlocks hW hp.1 ⟨hE, hp.2⟩ dX12_areAlike_87
    · replace hp := hp.2 c_3
      refine lv_aload_n hx hb dX12_areAlike_53 rfl (lv_at hl 0 rfl) ?_
      obtain ⟨y_4, ey_4, hL_y_4, hK_y_4, hp⟩ := hp
      refine w_get (k := 17) (f := 32) (T := TX12) (v := .ref y_4) F hK hW hL_a0 hK_a0 (by decide) rfl rfl (by decide) i_17 k_76 (by rw [show wv 17 32 S a0 = va_rf (sR S a0 32) from rfl, ey_4]; rfl) dX12_areAlike_54 ?_
      refine lv_bipush (v := 80) hx hb dX12_areAlike_57 (by decide) ?_
      refine lv_iload_n hx hb dX12_areAlike_59 rfl (lv_at hl 1 rfl) ?_
      refine lv_imul hx hb dX12_areAlike_60 ?_
      refine lv_iload_n hx hb dX12_areAlike_61 rfl (lv_at hl 3 rfl) ?_
      refine lv_iadd hx hb dX12_areAlike_62 ?_
      obtain ⟨h_5, hp⟩ := hp
      refine w_ild F hK hW hL_y_4 hK_y_4 h_5 dX12_areAlike_63 ?_
      refine lv_aload_n hx hb dX12_areAlike_64 rfl (lv_at hl 0 rfl) ?_
      obtain ⟨y_6, ey_6, hL_y_6, hK_y_6, hp⟩ := hp
      refine w_get (k := 17) (f := 32) (T := TX12) (v := .ref y_6) F hK hW hL_a0 hK_a0 (by decide) rfl rfl (by decide) i_17 k_76 (by rw [show wv 17 32 S a0 = va_rf (sR S a0 32) from rfl, ey_6]; rfl) dX12_areAlike_65 ?_
      refine lv_bipush (v := 80) hx hb dX12_areAlike_68 (by decide) ?_
      refine lv_iload_n hx hb dX12_areAlike_70 rfl (lv_at hl 2 rfl) ?_
      refine lv_imul hx hb dX12_areAlike_71 ?_
      refine lv_iload_n hx hb dX12_areAlike_72 rfl (lv_at hl 3 rfl) ?_
      refine lv_iadd hx hb dX12_areAlike_73 ?_
      obtain ⟨h_7, hp⟩ := hp
      refine w_ild F hK hW hL_y_6 hK_y_6 h_7 dX12_areAlike_74 ?_
      refine lv_icmp_eq (tgt := 80) hx hb dX12_areAlike_75 (by decide) (fun c_8 => ?_) (fun c_8 => ?_)
      · replace hp := hp.1 c_8
        obtain ⟨x_9, ex_9⟩ : ∃ z : Int32, z = x3 + 1 := ⟨_, rfl⟩
        replace hp := hp x_9 ex_9
        refine lv_iinc (v := x_9) (lv' := [(3, .int x_9), (0, .ref a0), (1, .int x1), (2, .int x2)]) hx hb dX12_areAlike_80 hl (k := 3) rfl (by rw [ex_9]; rfl) (by decide) rfl (fun ls hl => ?_)
        refine lv_goto (tgt := 43) hx hb dX12_areAlike_83 (by decide) ?_
        exact ih hp hW hE (lv_sub hl [1, 2, 3, 0] rfl) hL_a0 hK_a0
      · replace hp := hp.2 c_8
        refine lv_iconst (v := 0) hx hb dX12_areAlike_78 (by decide) ?_
        exact w_zret hx hb hr hlocks hW hp.1 ⟨hE, hp.2⟩ dX12_areAlike_79
set_option maxHeartbeats 4000000 in
set_option maxRecDepth 100000 in
theorem t_X12_areAlike_39 {p : Program} {l : Launch} {e : Env} {s : State} {m : MethodId} {args : Array Value} {below : List Frame} {meth : Method} {c : Code} {D : wD} {cy : Nat → ClassId} {X : va_W} {A : Nat → Prop} {S0 : wS} {post : Int32 → wS → Prop} (F : CallFix p m c cX12_areAlike 4 s args wz_X12_areAlike RX12) (hr : meth.sig.returnType = (some .boolean)) (hlocks : meth.locks = false) (hK : wK D cy A s) : ∀ {S : wS} {H : Heap} {locs : List Loc} {ls : Array Slot}, wp_X12_areAlike_39 D post S → wO D cy X A s.heap S H locs → wX D S0 S → lv_has ls 4 [] → W p l e r_X12_areAlike s m args below meth c H locs 0 0 (MQ below (va_Qi (fun r S9 => wX D S0 S9 ∧ post r S9) (wB D cy X A) A) args s 0 0 A) (F0 m 39 ls []) := by
  obtain ⟨hx, hb, hml, hown, hts⟩ := id F
  have hwg : ∀ w ∈ WG, w.before args s = true := fun w h => hts w (List.mem_cons_of_mem _ h)
  intro S H locs ls hp hW hE hl
  unfold wp_X12_areAlike_39 at hp
  refine lv_iconst (v := 0) hx hb dX12_areAlike_39 (by decide) ?_
  exact w_zret hx hb hr hlocks hW hp.1 ⟨hE, hp.2⟩ dX12_areAlike_40
set_option maxHeartbeats 4000000 in
set_option maxRecDepth 100000 in
theorem t_X12_areAlike_0 {p : Program} {l : Launch} {e : Env} {s : State} {m : MethodId} {args : Array Value} {below : List Frame} {meth : Method} {c : Code} {D : wD} {cy : Nat → ClassId} {X : va_W} {A : Nat → Prop} {S0 : wS} {post : Int32 → wS → Prop} (F : CallFix p m c cX12_areAlike 4 s args wz_X12_areAlike RX12) (hr : meth.sig.returnType = (some .boolean)) (hlocks : meth.locks = false) (hK : wK D cy A s) : ∀ {S : wS} {H : Heap} {locs : List Loc} {ls : Array Slot} {a0 : Nat} {x1 : Int32} {x2 : Int32}, wp_X12_areAlike_0 D post S a0 x1 x2 → wO D cy X A s.heap S H locs → wX D S0 S → lv_has ls 4 [(0, .ref a0), (1, .int x1), (2, .int x2)] → wM D S a0 → sK S a0 = 17 → W p l e r_X12_areAlike s m args below meth c H locs 0 0 (MQ below (va_Qi (fun r S9 => wX D S0 S9 ∧ post r S9) (wB D cy X A) A) args s 0 0 A) (F0 m 0 ls []) := by
  obtain ⟨hx, hb, hml, hown, hts⟩ := id F
  have hwg : ∀ w ∈ WG, w.before args s = true := fun w h => hts w (List.mem_cons_of_mem _ h)
  have i_17 : ∀ w ∈ u_ws RX12 TX12 43, w ∈ wz_X12_areAlike := fun w h => List.mem_cons_of_mem _ (wu_17 w h)
  have k_73 := hwg _ wf_RX12_73
  have k_79 := hwg _ wf_RX12_79
  intro S H locs ls a0 x1 x2 hp hW hE hl hL_a0 hK_a0
  unfold wp_X12_areAlike_0 at hp
  refine lv_aload_n hx hb dX12_areAlike_0 rfl (lv_at hl 0 rfl) ?_
  obtain ⟨y_1, ey_1, hL_y_1, hK_y_1, hp⟩ := hp
  refine w_get (k := 17) (f := 33) (T := TX12) (v := .ref y_1) F hK hW hL_a0 hK_a0 (by decide) rfl rfl (by decide) i_17 k_79 (by rw [show wv 17 33 S a0 = va_rf (sR S a0 33) from rfl, ey_1]; rfl) dX12_areAlike_1 ?_
  refine lv_iload_n hx hb dX12_areAlike_4 rfl (lv_at hl 1 rfl) ?_
  obtain ⟨h_2, hp⟩ := hp
  refine w_ild F hK hW hL_y_1 hK_y_1 h_2 dX12_areAlike_5 ?_
  refine lv_aload_n hx hb dX12_areAlike_6 rfl (lv_at hl 0 rfl) ?_
  obtain ⟨y_3, ey_3, hL_y_3, hK_y_3, hp⟩ := hp
  refine w_get (k := 17) (f := 33) (T := TX12) (v := .ref y_3) F hK hW hL_a0 hK_a0 (by decide) rfl rfl (by decide) i_17 k_79 (by rw [show wv 17 33 S a0 = va_rf (sR S a0 33) from rfl, ey_3]; rfl) dX12_areAlike_7 ?_
  refine lv_iload_n hx hb dX12_areAlike_10 rfl (lv_at hl 2 rfl) ?_
  obtain ⟨h_4, hp⟩ := hp
  refine w_ild F hK hW hL_y_3 hK_y_3 h_4 dX12_areAlike_11 ?_
  refine lv_icmp_ne (tgt := 39) hx hb dX12_areAlike_12 (by decide) (fun c_5 => ?_) (fun c_5 => ?_)
  · replace hp := hp.1 c_5
    exact t_X12_areAlike_39 F hr hlocks hK hp hW hE (lv_sub hl [] rfl)
  · replace hp := hp.2 c_5
    refine lv_aload_n hx hb dX12_areAlike_15 rfl (lv_at hl 0 rfl) ?_
    obtain ⟨y_6, ey_6, hL_y_6, hK_y_6, hp⟩ := hp
    refine w_get (k := 17) (f := 31) (T := TX12) (v := .ref y_6) F hK hW hL_a0 hK_a0 (by decide) rfl rfl (by decide) i_17 k_73 (by rw [show wv 17 31 S a0 = va_rf (sR S a0 31) from rfl, ey_6]; rfl) dX12_areAlike_16 ?_
    refine lv_sipush (v := 5427) hx hb dX12_areAlike_19 (by decide) ?_
    refine lv_iload_n hx hb dX12_areAlike_22 rfl (lv_at hl 1 rfl) ?_
    refine lv_imul hx hb dX12_areAlike_23 ?_
    refine lv_aload_n hx hb dX12_areAlike_24 rfl (lv_at hl 0 rfl) ?_
    obtain ⟨y_7, ey_7, hL_y_7, hK_y_7, hp⟩ := hp
    refine w_get (k := 17) (f := 31) (T := TX12) (v := .ref y_7) F hK hW hL_a0 hK_a0 (by decide) rfl rfl (by decide) i_17 k_73 (by rw [show wv 17 31 S a0 = va_rf (sR S a0 31) from rfl, ey_7]; rfl) dX12_areAlike_25 ?_
    refine lv_sipush (v := 5427) hx hb dX12_areAlike_28 (by decide) ?_
    refine lv_iload_n hx hb dX12_areAlike_31 rfl (lv_at hl 2 rfl) ?_
    refine lv_imul hx hb dX12_areAlike_32 ?_
    refine w_callI (va_runS (As := [.ref y_6, .int ((5427 : Int32) * x1), .ref y_7, .int ((5427 : Int32) * x2)]) (rest := []) F (c_X12_isSame l hL_y_6 hK_y_6 hL_y_7 hK_y_7 hp H.size) (va_cwS 4 hts (wg_S wm_RX12_330 wy_X12_isSame) rfl rfl rfl (by decide +kernel) ⟨Nat.le_of_ble_eq_true rfl, Nat.le_of_ble_eq_true rfl⟩) (w_preS hK hW) rfl rfl hl.1 rfl (lv_room (Nat.le_of_ble_eq_true rfl)) dX12_areAlike_33 ⟨Nat.le_of_ble_eq_true rfl, Nat.le_of_ble_eq_true rfl⟩) hW (fun r_8 S_9 H locs hp hW => ?_)
    obtain ⟨hX_S_9, hp⟩ := hp
    refine W.widen (k := 0) (n := 0) (by decide) (by decide) ?_
    have hE := hE.trans hX_S_9
    have hK_a0 : sK S_9 a0 = 17 := (hX_S_9.2 a0 hL_a0).1.trans hK_a0
    have hL_a0 : wM D S_9 a0 := hX_S_9.M hL_a0
    refine lv_if_ne (tgt := 41) hx hb dX12_areAlike_36 (by decide) (fun c_10 => ?_) (fun c_10 => ?_)
    · replace hp := hp.1 c_10
      refine lv_iconst (v := 0) hx hb dX12_areAlike_41 (by decide) ?_
      refine lv_istore_n (lv' := [(3, .int (0 : Int32)), (0, .ref a0), (1, .int x1), (2, .int x2)]) hx hb dX12_areAlike_42 rfl hl (by decide) rfl (fun ls hl => ?_)
      obtain ⟨n_11, hp⟩ := hp
      exact t_X12_areAlike_43 F hr hlocks hK n_11 hp hW hE (lv_sub hl [1, 2, 3, 0] rfl) hL_a0 hK_a0
    · replace hp := hp.2 c_10
      exact t_X12_areAlike_39 F hr hlocks hK hp hW hE (lv_sub hl [] rfl)
set_option maxHeartbeats 4000000 in
set_option maxRecDepth 100000 in
theorem c_X12_areAlike (l : Launch) {D : wD} {cy : Nat → ClassId} {X : va_W} {S0 : wS} {post : Int32 → wS → Prop} {a0 : Nat} {x1 : Int32} {x2 : Int32} (hL_a0 : wM D S0 a0) (hK_a0 : sK S0 a0 = 17) (hp : wp_X12_areAlike D post S0 a0 x1 x2) : mI D cy X l yX12_areAlike wz_X12_areAlike r_X12_areAlike [.ref a0, .int x1, .int x2] S0 (fun r S9 => wX D S0 S9 ∧ post r S9) := by
  intro sz
  refine Met.ofW (cc := cX12_areAlike) (maxL := 4) (ret := (some .boolean)) (by decide) rfl ?_
  intro p e s m args below meth c s₁ B hml hv
  obtain ⟨rfl, hsz, hP, hK, hD0, hRO⟩ := hv
  have hts := atoms_spec (ws := wz_X12_areAlike) B.pre
  have hown : s.vm.findClass RX12 = some m.cls := findClass_of_methodNamed B.named
  subst hsz
  have hD := hD0.self (sz := s.heap.size)
  have F : CallFix p m c cX12_areAlike 4 s _ wz_X12_areAlike RX12 := ⟨B.exec, B.bytes, hml, hown, hts⟩
  have hr := B.returns
  have hlocks := B.notSynchronized
  generalize hAe : va_A (wL cy X S0) s.heap.size = A at hD hK ⊢
  have hA : ∀ q, s.heap.size ≤ q → A q := fun q h => by rw [← hAe]; exact Or.inr h
  have hW : wO D cy X A s.heap S0 s.heap [] := ⟨hP, hD, va_S.rf, hA, hRO⟩
  have hl := lv_entry ([.ref a0, .int x1, .int x2]) (n := 4) (Nat.le_of_ble_eq_true rfl)
  rw [lg_entry_eq]
  generalize (lg_sl ([.ref a0, .int x1, .int x2]) ++ List.replicate (4 - (lg_sl ([.ref a0, .int x1, .int x2])).length) Slot.unset).toArray = ls at hl ⊢
  have hl : lv_has ls 4 [(0, .ref a0), (1, .int x1), (2, .int x2)] := hl
  unfold wp_X12_areAlike at hp
  exact t_X12_areAlike_0 F hr hlocks hK hp hW wX.rf (lv_sub hl [0, 1, 2] rfl) hL_a0 hK_a0
def wp_X12_castles_199 (D : wD) (post : Int32 → wS → Prop)  (S : wS) (t0 : Int32) : Prop :=
narrow .boolean (.int t0) = .int t0 ∧ post t0 S
def wp_X12_castles_198 (D : wD) (post : Int32 → wS → Prop)  (S : wS) : Prop :=
wp_X12_castles_199 D post S (0 : Int32)
def wp_X12_castles_149 (D : wD) (post : Int32 → wS → Prop)  (S : wS) (a0 : Nat) (x1 : Int32) (x2 : Int32) (x3 : Int32) (x4 : Int32) (b0 : Nat) (t1 : Int32) (t2 : Int32) : Prop :=
wp_X12_homeOf D (fun r_1 S_2 => 
wp_X12_isAttackedBy D (fun r_3 S_4 => 
((¬ r_3 = 0 → wp_X12_castles_198 D post S_4) ∧
 (r_3 = 0 → wp_X12_isAttackedBy D (fun r_6 S_7 => 
((¬ r_6 = 0 → wp_X12_castles_198 D post S_7) ∧
 (r_6 = 0 → wp_X12_isAttackedBy D (fun r_9 S_10 => 
((¬ r_9 = 0 → wp_X12_castles_198 D post S_10) ∧
 (r_9 = 0 → wp_X12_castles_199 D post S_10 (1 : Int32)))) S_7 a0 x1 x3 ((1 : Int32) - x4)))) S_4 a0 x1 r_1 ((1 : Int32) - x4)))) S_2 a0 x1 x2 ((1 : Int32) - x4)) S b0 t1 t2
def wp_X12_castles_125 (D : wD) (post : Int32 → wS → Prop)  (S : wS) (a0 : Nat) (x1 : Int32) (x2 : Int32) (x3 : Int32) (x4 : Int32) (x5 : Int32) (b0 : Nat) (t1 : Int32) (t2 : Int32) (b3 : Nat) (t4 : Int32) (t5 : Int32) : Prop :=
wp_X12_homeOf D (fun r_1 S_2 => 
wp_X12_isClear D (fun r_3 S_4 => 
((¬ r_3 = 0 → ((x5 = 0 → wp_X12_castles_149 D post S_4 a0 x1 x2 x3 x4 a0 x4 (3 : Int32)) ∧
 (¬ x5 = 0 → wp_X12_castles_149 D post S_4 a0 x1 x2 x3 x4 a0 x4 (5 : Int32)))) ∧
 (r_3 = 0 → narrow .boolean (.int (0 : Int32)) = .int (0 : Int32) ∧ post (0 : Int32) S_4))) S_2 b0 t1 t2 r_1) S b3 t4 t5
def wp_X12_castles_106 (D : wD) (post : Int32 → wS → Prop)  (S : wS) : Prop :=
narrow .boolean (.int (0 : Int32)) = .int (0 : Int32) ∧ post (0 : Int32) S
def wp_X12_castles_75 (D : wD) (post : Int32 → wS → Prop)  (S : wS) (a0 : Nat) (x1 : Int32) (x2 : Int32) (x3 : Int32) (x4 : Int32) (x5 : Int32) (x6 : Int32) : Prop :=
∃ y_1 : Nat, sR S a0 3 = some y_1 ∧ wM D S y_1 ∧ sK S y_1 = 21 ∧
vp_in (((67 : Int32) * x1) + (65 : Int32)) (sN S y_1) ∧
(((((sI S y_1 ((((67 : Int32) * x1) + (65 : Int32))).toNatClampNeg) >>> (x6 &&& 31)) &&& (1 : Int32)) = 0 → wp_X12_castles_106 D post S) ∧
 (¬ (((sI S y_1 ((((67 : Int32) * x1) + (65 : Int32))).toNatClampNeg) >>> (x6 &&& 31)) &&& (1 : Int32)) = 0 → wp_X12_homeOf D (fun r_4 S_5 => 
((x2 = r_4 → ((x5 = 0 → wp_X12_castles_125 D post S_5 a0 x1 x2 x3 x4 x5 a0 x1 x2 a0 x4 (0 : Int32)) ∧
 (¬ x5 = 0 → wp_X12_castles_125 D post S_5 a0 x1 x2 x3 x4 x5 a0 x1 x2 a0 x4 (7 : Int32)))) ∧
 (¬ x2 = r_4 → wp_X12_castles_106 D post S_5))) S a0 x4 (4 : Int32)))
def wp_X12_castles_47 (D : wD) (post : Int32 → wS → Prop)  (S : wS) (a0 : Nat) (x1 : Int32) (x2 : Int32) (x3 : Int32) (x4 : Int32) (x5 : Int32) (t0 : Int32) (t1 : Int32) : Prop :=
∀ x_1 : Int32, x_1 = (t0 + t1) →
((¬ (sI S a0 1) = (8 : Int32) → wp_X12_castles_106 D post S) ∧
 ((sI S a0 1) = (8 : Int32) → ((¬ x5 = 0 → wp_X12_castles_75 D post S a0 x1 x2 x3 x4 x5 x_1) ∧
 (x5 = 0 → wp_X12_homeOf D (fun r_4 S_5 => 
((¬ x3 = r_4 → wp_X12_castles_106 D post S_5) ∧
 (x3 = r_4 → wp_X12_castles_75 D post S_5 a0 x1 x2 x3 x4 x5 x_1))) S a0 x4 (2 : Int32)))))
def wp_X12_castles_37 (D : wD) (post : Int32 → wS → Prop)  (S : wS) (a0 : Nat) (x1 : Int32) (x2 : Int32) (x3 : Int32) (x4 : Int32) (x5 : Int32) (t0 : Int32) : Prop :=
((x5 = 0 → wp_X12_castles_47 D post S a0 x1 x2 x3 x4 x5 t0 (1 : Int32)) ∧
 (¬ x5 = 0 → wp_X12_castles_47 D post S a0 x1 x2 x3 x4 x5 t0 (0 : Int32)))
def wp_X12_castles_24 (D : wD) (post : Int32 → wS → Prop)  (S : wS) (a0 : Nat) (x1 : Int32) (x2 : Int32) (x3 : Int32) (x4 : Int32) (t0 : Int32) : Prop :=
((¬ x4 = (1 : Int32) → wp_X12_castles_37 D post S a0 x1 x2 x3 x4 t0 (2 : Int32)) ∧
 (x4 = (1 : Int32) → wp_X12_castles_37 D post S a0 x1 x2 x3 x4 t0 (0 : Int32)))
def wp_X12_castles_0 (D : wD) (post : Int32 → wS → Prop)  (S : wS) (a0 : Nat) (x1 : Int32) (x2 : Int32) (x3 : Int32) : Prop :=
wp_X12_side D (fun r_1 S_2 => 
wp_X12_homeOf D (fun r_3 S_4 => 
((¬ x3 = r_3 → wp_X12_castles_24 D post S_4 a0 x1 x2 x3 r_1 (0 : Int32)) ∧
 (x3 = r_3 → wp_X12_castles_24 D post S_4 a0 x1 x2 x3 r_1 (1 : Int32)))) S_2 a0 r_1 (6 : Int32)) S a0 x1
abbrev r_X12_castles : Room := { frames := 4, cells := 0, slots := 0, locals := 99 }
def wp_X12_castles (D : wD) (post : Int32 → wS → Prop) (S : wS) (a0 : Nat) (x1 : Int32) (x2 : Int32) (x3 : Int32) : Prop := wp_X12_castles_0 D post S a0 x1 x2 x3
set_option maxHeartbeats 4000000 in
set_option maxRecDepth 100000 in
theorem t_X12_castles_199 {p : Program} {l : Launch} {e : Env} {s : State} {m : MethodId} {args : Array Value} {below : List Frame} {meth : Method} {c : Code} {D : wD} {cy : Nat → ClassId} {X : va_W} {A : Nat → Prop} {S0 : wS} {post : Int32 → wS → Prop} (F : CallFix p m c cX12_castles 8 s args wz_X12_castles RX12) (hr : meth.sig.returnType = (some .boolean)) (hlocks : meth.locks = false) (hK : wK D cy A s) : ∀ {S : wS} {H : Heap} {locs : List Loc} {ls : Array Slot} {t0 : Int32}, wp_X12_castles_199 D post S t0 → wO D cy X A s.heap S H locs → wX D S0 S → lv_has ls 8 [] → W p l e r_X12_castles s m args below meth c H locs 0 0 (MQ below (va_Qi (fun r S9 => wX D S0 S9 ∧ post r S9) (wB D cy X A) A) args s 0 0 A) (F0 m 199 ls [.int t0]) := by
  obtain ⟨hx, hb, hml, hown, hts⟩ := id F
  have hwg : ∀ w ∈ WG, w.before args s = true := fun w h => hts w (List.mem_cons_of_mem _ h)
  intro S H locs ls t0 hp hW hE hl
  unfold wp_X12_castles_199 at hp
  exact w_zret hx hb hr hlocks hW hp.1 ⟨hE, hp.2⟩ dX12_castles_199
set_option maxHeartbeats 4000000 in
set_option maxRecDepth 100000 in
theorem t_X12_castles_198 {p : Program} {l : Launch} {e : Env} {s : State} {m : MethodId} {args : Array Value} {below : List Frame} {meth : Method} {c : Code} {D : wD} {cy : Nat → ClassId} {X : va_W} {A : Nat → Prop} {S0 : wS} {post : Int32 → wS → Prop} (F : CallFix p m c cX12_castles 8 s args wz_X12_castles RX12) (hr : meth.sig.returnType = (some .boolean)) (hlocks : meth.locks = false) (hK : wK D cy A s) : ∀ {S : wS} {H : Heap} {locs : List Loc} {ls : Array Slot}, wp_X12_castles_198 D post S → wO D cy X A s.heap S H locs → wX D S0 S → lv_has ls 8 [] → W p l e r_X12_castles s m args below meth c H locs 0 0 (MQ below (va_Qi (fun r S9 => wX D S0 S9 ∧ post r S9) (wB D cy X A) A) args s 0 0 A) (F0 m 198 ls []) := by
  obtain ⟨hx, hb, hml, hown, hts⟩ := id F
  have hwg : ∀ w ∈ WG, w.before args s = true := fun w h => hts w (List.mem_cons_of_mem _ h)
  intro S H locs ls hp hW hE hl
  unfold wp_X12_castles_198 at hp
  refine lv_iconst (v := 0) hx hb dX12_castles_198 (by decide) ?_
  exact t_X12_castles_199 F hr hlocks hK hp hW hE (lv_sub hl [] rfl)
set_option maxHeartbeats 4000000 in
set_option maxRecDepth 100000 in
theorem t_X12_castles_149 {p : Program} {l : Launch} {e : Env} {s : State} {m : MethodId} {args : Array Value} {below : List Frame} {meth : Method} {c : Code} {D : wD} {cy : Nat → ClassId} {X : va_W} {A : Nat → Prop} {S0 : wS} {post : Int32 → wS → Prop} (F : CallFix p m c cX12_castles 8 s args wz_X12_castles RX12) (hr : meth.sig.returnType = (some .boolean)) (hlocks : meth.locks = false) (hK : wK D cy A s) : ∀ {S : wS} {H : Heap} {locs : List Loc} {ls : Array Slot} {a0 : Nat} {x1 : Int32} {x2 : Int32} {x3 : Int32} {x4 : Int32} {b0 : Nat} {t1 : Int32} {t2 : Int32}, wp_X12_castles_149 D post S a0 x1 x2 x3 x4 b0 t1 t2 → wO D cy X A s.heap S H locs → wX D S0 S → lv_has ls 8 [(0, .ref a0), (1, .int x1), (2, .int x2), (3, .int x3), (4, .int x4)] → wM D S a0 → sK S a0 = 17 → wM D S b0 → sK S b0 = 17 → W p l e r_X12_castles s m args below meth c H locs 0 0 (MQ below (va_Qi (fun r S9 => wX D S0 S9 ∧ post r S9) (wB D cy X A) A) args s 0 0 A) (F0 m 149 ls [.int t2, .int t1, .ref b0]) := by
  obtain ⟨hx, hb, hml, hown, hts⟩ := id F
  have hwg : ∀ w ∈ WG, w.before args s = true := fun w h => hts w (List.mem_cons_of_mem _ h)
  intro S H locs ls a0 x1 x2 x3 x4 b0 t1 t2 hp hW hE hl hL_a0 hK_a0 hL_b0 hK_b0
  unfold wp_X12_castles_149 at hp
  refine w_callI (va_runV (As := [.int t1, .int t2]) (rest := []) F (c_X12_homeOf l hL_b0 hK_b0 hp H.size) (cwV (C := RX12) 2 hts (wg_V wm_RX12_173 wy_X12_homeOf) rfl rfl rfl (by decide +kernel) ⟨Nat.le_of_ble_eq_true rfl, Nat.le_of_ble_eq_true rfl⟩) (w_preV hK hW hL_b0 hK_b0 (by decide) rfl) rfl rfl hl.1 rfl (lv_room (Nat.le_of_ble_eq_true rfl)) dX12_castles_149 ⟨Nat.le_of_ble_eq_true rfl, Nat.le_of_ble_eq_true rfl⟩) hW (fun r_1 S_2 H locs hp hW => ?_)
  obtain ⟨hX_S_2, hp⟩ := hp
  refine W.widen (k := 0) (n := 0) (by decide) (by decide) ?_
  have hE := hE.trans hX_S_2
  have hK_a0 : sK S_2 a0 = 17 := (hX_S_2.2 a0 hL_a0).1.trans hK_a0
  have hL_a0 : wM D S_2 a0 := hX_S_2.M hL_a0
  refine lv_istore (lv' := [(7, .int r_1), (0, .ref a0), (1, .int x1), (2, .int x2), (3, .int x3), (4, .int x4)]) hx hb dX12_castles_152 hl (by decide) rfl (fun ls hl => ?_)
  refine lv_aload_n hx hb dX12_castles_154 rfl (lv_at hl 1 rfl) ?_
  refine lv_iload_n hx hb dX12_castles_155 rfl (lv_at hl 2 rfl) ?_
  refine lv_iload_n hx hb dX12_castles_156 rfl (lv_at hl 3 rfl) ?_
  refine lv_iconst (v := 1) hx hb dX12_castles_157 (by decide) ?_
  refine lv_iload hx hb dX12_castles_158 (lv_at hl 5 rfl) ?_
  refine lv_isub hx hb dX12_castles_160 ?_
  refine w_callI (va_runV (As := [.int x1, .int x2, .int ((1 : Int32) - x4)]) (rest := []) F (c_X12_isAttackedBy l hL_a0 hK_a0 hp H.size) (cwV (C := RX12) 3 hts (wg_V wm_RX12_167 wy_X12_isAttackedBy) rfl rfl rfl (by decide +kernel) ⟨Nat.le_of_ble_eq_true rfl, Nat.le_of_ble_eq_true rfl⟩) (w_preV hK hW hL_a0 hK_a0 (by decide) rfl) rfl rfl hl.1 rfl (lv_room (Nat.le_of_ble_eq_true rfl)) dX12_castles_161 ⟨Nat.le_of_ble_eq_true rfl, Nat.le_of_ble_eq_true rfl⟩) hW (fun r_3 S_4 H locs hp hW => ?_)
  obtain ⟨hX_S_4, hp⟩ := hp
  refine W.widen (k := 0) (n := 0) (by decide) (by decide) ?_
  have hE := hE.trans hX_S_4
  have hK_a0 : sK S_4 a0 = 17 := (hX_S_4.2 a0 hL_a0).1.trans hK_a0
  have hL_a0 : wM D S_4 a0 := hX_S_4.M hL_a0
  refine lv_if_ne (tgt := 198) hx hb dX12_castles_164 (by decide) (fun c_5 => ?_) (fun c_5 => ?_)
  · replace hp := hp.1 c_5
    exact t_X12_castles_198 F hr hlocks hK hp hW hE (lv_sub hl [] rfl)
  · replace hp := hp.2 c_5
    refine lv_aload_n hx hb dX12_castles_167 rfl (lv_at hl 1 rfl) ?_
    refine lv_iload_n hx hb dX12_castles_168 rfl (lv_at hl 2 rfl) ?_
    refine lv_iload hx hb dX12_castles_169 (lv_at hl 0 rfl) ?_
    refine lv_iconst (v := 1) hx hb dX12_castles_171 (by decide) ?_
    refine lv_iload hx hb dX12_castles_172 (lv_at hl 5 rfl) ?_
    refine lv_isub hx hb dX12_castles_174 ?_
    refine w_callI (va_runV (As := [.int x1, .int r_1, .int ((1 : Int32) - x4)]) (rest := []) F (c_X12_isAttackedBy l hL_a0 hK_a0 hp H.size) (cwV (C := RX12) 3 hts (wg_V wm_RX12_167 wy_X12_isAttackedBy) rfl rfl rfl (by decide +kernel) ⟨Nat.le_of_ble_eq_true rfl, Nat.le_of_ble_eq_true rfl⟩) (w_preV hK hW hL_a0 hK_a0 (by decide) rfl) rfl rfl hl.1 rfl (lv_room (Nat.le_of_ble_eq_true rfl)) dX12_castles_175 ⟨Nat.le_of_ble_eq_true rfl, Nat.le_of_ble_eq_true rfl⟩) hW (fun r_6 S_7 H locs hp hW => ?_)
    obtain ⟨hX_S_7, hp⟩ := hp
    refine W.widen (k := 0) (n := 0) (by decide) (by decide) ?_
    have hE := hE.trans hX_S_7
    have hK_a0 : sK S_7 a0 = 17 := (hX_S_7.2 a0 hL_a0).1.trans hK_a0
    have hL_a0 : wM D S_7 a0 := hX_S_7.M hL_a0
    refine lv_if_ne (tgt := 198) hx hb dX12_castles_178 (by decide) (fun c_8 => ?_) (fun c_8 => ?_)
    · replace hp := hp.1 c_8
      exact t_X12_castles_198 F hr hlocks hK hp hW hE (lv_sub hl [] rfl)
    · replace hp := hp.2 c_8
      refine lv_aload_n hx hb dX12_castles_181 rfl (lv_at hl 1 rfl) ?_
      refine lv_iload_n hx hb dX12_castles_182 rfl (lv_at hl 2 rfl) ?_
      refine lv_iload_n hx hb dX12_castles_183 rfl (lv_at hl 4 rfl) ?_
      refine lv_iconst (v := 1) hx hb dX12_castles_184 (by decide) ?_
      refine lv_iload hx hb dX12_castles_185 (lv_at hl 5 rfl) ?_
      refine lv_isub hx hb dX12_castles_187 ?_
      refine w_callI (va_runV (As := [.int x1, .int x3, .int ((1 : Int32) - x4)]) (rest := []) F (c_X12_isAttackedBy l hL_a0 hK_a0 hp H.size) (cwV (C := RX12) 3 hts (wg_V wm_RX12_167 wy_X12_isAttackedBy) rfl rfl rfl (by decide +kernel) ⟨Nat.le_of_ble_eq_true rfl, Nat.le_of_ble_eq_true rfl⟩) (w_preV hK hW hL_a0 hK_a0 (by decide) rfl) rfl rfl hl.1 rfl (lv_room (Nat.le_of_ble_eq_true rfl)) dX12_castles_188 ⟨Nat.le_of_ble_eq_true rfl, Nat.le_of_ble_eq_true rfl⟩) hW (fun r_9 S_10 H locs hp hW => ?_)
      obtain ⟨hX_S_10, hp⟩ := hp
      refine W.widen (k := 0) (n := 0) (by decide) (by decide) ?_
      have hE := hE.trans hX_S_10
      have hK_a0 : sK S_10 a0 = 17 := (hX_S_10.2 a0 hL_a0).1.trans hK_a0
      have hL_a0 : wM D S_10 a0 := hX_S_10.M hL_a0
      refine lv_if_ne (tgt := 198) hx hb dX12_castles_191 (by decide) (fun c_11 => ?_) (fun c_11 => ?_)
      · replace hp := hp.1 c_11
        exact t_X12_castles_198 F hr hlocks hK hp hW hE (lv_sub hl [] rfl)
      · replace hp := hp.2 c_11
        refine lv_iconst (v := 1) hx hb dX12_castles_194 (by decide) ?_
        refine lv_goto (tgt := 199) hx hb dX12_castles_195 (by decide) ?_
        exact t_X12_castles_199 F hr hlocks hK hp hW hE (lv_sub hl [] rfl)
set_option maxHeartbeats 4000000 in
set_option maxRecDepth 100000 in
theorem t_X12_castles_125 {p : Program} {l : Launch} {e : Env} {s : State} {m : MethodId} {args : Array Value} {below : List Frame} {meth : Method} {c : Code} {D : wD} {cy : Nat → ClassId} {X : va_W} {A : Nat → Prop} {S0 : wS} {post : Int32 → wS → Prop} (F : CallFix p m c cX12_castles 8 s args wz_X12_castles RX12) (hr : meth.sig.returnType = (some .boolean)) (hlocks : meth.locks = false) (hK : wK D cy A s) : ∀ {S : wS} {H : Heap} {locs : List Loc} {ls : Array Slot} {a0 : Nat} {x1 : Int32} {x2 : Int32} {x3 : Int32} {x4 : Int32} {x5 : Int32} {b0 : Nat} {t1 : Int32} {t2 : Int32} {b3 : Nat} {t4 : Int32} {t5 : Int32}, wp_X12_castles_125 D post S a0 x1 x2 x3 x4 x5 b0 t1 t2 b3 t4 t5 → wO D cy X A s.heap S H locs → wX D S0 S → lv_has ls 8 [(0, .ref a0), (1, .int x1), (2, .int x2), (3, .int x3), (4, .int x4), (5, .int x5)] → wM D S a0 → sK S a0 = 17 → wM D S b0 → sK S b0 = 17 → wM D S b3 → sK S b3 = 17 → W p l e r_X12_castles s m args below meth c H locs 0 0 (MQ below (va_Qi (fun r S9 => wX D S0 S9 ∧ post r S9) (wB D cy X A) A) args s 0 0 A) (F0 m 125 ls [.int t5, .int t4, .ref b3, .int t2, .int t1, .ref b0]) := by
  obtain ⟨hx, hb, hml, hown, hts⟩ := id F
  have hwg : ∀ w ∈ WG, w.before args s = true := fun w h => hts w (List.mem_cons_of_mem _ h)
  intro S H locs ls a0 x1 x2 x3 x4 x5 b0 t1 t2 b3 t4 t5 hp hW hE hl hL_a0 hK_a0 hL_b0 hK_b0 hL_b3 hK_b3
  unfold wp_X12_castles_125 at hp
  refine w_callI (va_runV (As := [.int t4, .int t5]) (rest := [.int t2, .int t1, .ref b0]) F (c_X12_homeOf l hL_b3 hK_b3 hp H.size) (cwV (C := RX12) 2 hts (wg_V wm_RX12_173 wy_X12_homeOf) rfl rfl rfl (by decide +kernel) ⟨Nat.le_of_ble_eq_true rfl, Nat.le_of_ble_eq_true rfl⟩) (w_preV hK hW hL_b3 hK_b3 (by decide) rfl) rfl rfl hl.1 rfl (lv_room (Nat.le_of_ble_eq_true rfl)) dX12_castles_125 ⟨Nat.le_of_ble_eq_true rfl, Nat.le_of_ble_eq_true rfl⟩) hW (fun r_1 S_2 H locs hp hW => ?_)
  obtain ⟨hX_S_2, hp⟩ := hp
  refine W.widen (k := 0) (n := 0) (by decide) (by decide) ?_
  have hE := hE.trans hX_S_2
  have hK_a0 : sK S_2 a0 = 17 := (hX_S_2.2 a0 hL_a0).1.trans hK_a0
  have hL_a0 : wM D S_2 a0 := hX_S_2.M hL_a0
  have hK_b0 : sK S_2 b0 = 17 := (hX_S_2.2 b0 hL_b0).1.trans hK_b0
  have hL_b0 : wM D S_2 b0 := hX_S_2.M hL_b0
  refine w_callI (va_runV (As := [.int t1, .int t2, .int r_1]) (rest := []) F (c_X12_isClear l hL_b0 hK_b0 hp H.size) (cwV (C := RX12) 3 hts (wg_V wm_RX12_151 wy_X12_isClear) rfl rfl rfl (by decide +kernel) ⟨Nat.le_of_ble_eq_true rfl, Nat.le_of_ble_eq_true rfl⟩) (w_preV hK hW hL_b0 hK_b0 (by decide) rfl) rfl rfl hl.1 rfl (lv_room (Nat.le_of_ble_eq_true rfl)) dX12_castles_128 ⟨Nat.le_of_ble_eq_true rfl, Nat.le_of_ble_eq_true rfl⟩) hW (fun r_3 S_4 H locs hp hW => ?_)
  obtain ⟨hX_S_4, hp⟩ := hp
  refine W.widen (k := 0) (n := 0) (by decide) (by decide) ?_
  have hE := hE.trans hX_S_4
  have hK_a0 : sK S_4 a0 = 17 := (hX_S_4.2 a0 hL_a0).1.trans hK_a0
  have hL_a0 : wM D S_4 a0 := hX_S_4.M hL_a0
  refine lv_if_ne (tgt := 136) hx hb dX12_castles_131 (by decide) (fun c_5 => ?_) (fun c_5 => ?_)
  · replace hp := hp.1 c_5
    refine lv_aload_n hx hb dX12_castles_136 rfl (lv_at hl 0 rfl) ?_
    refine lv_iload hx hb dX12_castles_137 (lv_at hl 4 rfl) ?_
    refine lv_iload hx hb dX12_castles_139 (lv_at hl 5 rfl) ?_
    refine lv_if_eq (tgt := 148) hx hb dX12_castles_141 (by decide) (fun c_6 => ?_) (fun c_6 => ?_)
    · replace hp := hp.1 c_6
      refine lv_iconst (v := 3) hx hb dX12_castles_148 (by decide) ?_
      exact t_X12_castles_149 F hr hlocks hK hp hW hE (lv_sub hl [0, 1, 2, 3, 4] rfl) hL_a0 hK_a0 hL_a0 hK_a0
    · replace hp := hp.2 c_6
      refine lv_iconst (v := 5) hx hb dX12_castles_144 (by decide) ?_
      refine lv_goto (tgt := 149) hx hb dX12_castles_145 (by decide) ?_
      exact t_X12_castles_149 F hr hlocks hK hp hW hE (lv_sub hl [0, 1, 2, 3, 4] rfl) hL_a0 hK_a0 hL_a0 hK_a0
  · replace hp := hp.2 c_5
    refine lv_iconst (v := 0) hx hb dX12_castles_134 (by decide) ?_
    exact w_zret hx hb hr hlocks hW hp.1 ⟨hE, hp.2⟩ dX12_castles_135
set_option maxHeartbeats 4000000 in
set_option maxRecDepth 100000 in
theorem t_X12_castles_106 {p : Program} {l : Launch} {e : Env} {s : State} {m : MethodId} {args : Array Value} {below : List Frame} {meth : Method} {c : Code} {D : wD} {cy : Nat → ClassId} {X : va_W} {A : Nat → Prop} {S0 : wS} {post : Int32 → wS → Prop} (F : CallFix p m c cX12_castles 8 s args wz_X12_castles RX12) (hr : meth.sig.returnType = (some .boolean)) (hlocks : meth.locks = false) (hK : wK D cy A s) : ∀ {S : wS} {H : Heap} {locs : List Loc} {ls : Array Slot}, wp_X12_castles_106 D post S → wO D cy X A s.heap S H locs → wX D S0 S → lv_has ls 8 [] → W p l e r_X12_castles s m args below meth c H locs 0 0 (MQ below (va_Qi (fun r S9 => wX D S0 S9 ∧ post r S9) (wB D cy X A) A) args s 0 0 A) (F0 m 106 ls []) := by
  obtain ⟨hx, hb, hml, hown, hts⟩ := id F
  have hwg : ∀ w ∈ WG, w.before args s = true := fun w h => hts w (List.mem_cons_of_mem _ h)
  intro S H locs ls hp hW hE hl
  unfold wp_X12_castles_106 at hp
  refine lv_iconst (v := 0) hx hb dX12_castles_106 (by decide) ?_
  exact w_zret hx hb hr hlocks hW hp.1 ⟨hE, hp.2⟩ dX12_castles_107
set_option maxHeartbeats 4000000 in
set_option maxRecDepth 100000 in
theorem t_X12_castles_75 {p : Program} {l : Launch} {e : Env} {s : State} {m : MethodId} {args : Array Value} {below : List Frame} {meth : Method} {c : Code} {D : wD} {cy : Nat → ClassId} {X : va_W} {A : Nat → Prop} {S0 : wS} {post : Int32 → wS → Prop} (F : CallFix p m c cX12_castles 8 s args wz_X12_castles RX12) (hr : meth.sig.returnType = (some .boolean)) (hlocks : meth.locks = false) (hK : wK D cy A s) : ∀ {S : wS} {H : Heap} {locs : List Loc} {ls : Array Slot} {a0 : Nat} {x1 : Int32} {x2 : Int32} {x3 : Int32} {x4 : Int32} {x5 : Int32} {x6 : Int32}, wp_X12_castles_75 D post S a0 x1 x2 x3 x4 x5 x6 → wO D cy X A s.heap S H locs → wX D S0 S → lv_has ls 8 [(0, .ref a0), (1, .int x1), (2, .int x2), (3, .int x3), (4, .int x4), (5, .int x5), (6, .int x6)] → wM D S a0 → sK S a0 = 17 → W p l e r_X12_castles s m args below meth c H locs 0 0 (MQ below (va_Qi (fun r S9 => wX D S0 S9 ∧ post r S9) (wB D cy X A) A) args s 0 0 A) (F0 m 75 ls []) := by
  obtain ⟨hx, hb, hml, hown, hts⟩ := id F
  have hwg : ∀ w ∈ WG, w.before args s = true := fun w h => hts w (List.mem_cons_of_mem _ h)
  have i_17 : ∀ w ∈ u_ws RX12 TX12 43, w ∈ wz_X12_castles := fun w h => List.mem_cons_of_mem _ (wu_17 w h)
  have k_16 := hwg _ wf_RX12_16
  intro S H locs ls a0 x1 x2 x3 x4 x5 x6 hp hW hE hl hL_a0 hK_a0
  unfold wp_X12_castles_75 at hp
  refine lv_aload_n hx hb dX12_castles_75 rfl (lv_at hl 0 rfl) ?_
  obtain ⟨y_1, ey_1, hL_y_1, hK_y_1, hp⟩ := hp
  refine w_get (k := 17) (f := 3) (T := TX12) (v := .ref y_1) F hK hW hL_a0 hK_a0 (by decide) rfl rfl (by decide) i_17 k_16 (by rw [show wv 17 3 S a0 = va_rf (sR S a0 3) from rfl, ey_1]; rfl) dX12_castles_76 ?_
  refine lv_bipush (v := 67) hx hb dX12_castles_79 (by decide) ?_
  refine lv_iload_n hx hb dX12_castles_81 rfl (lv_at hl 1 rfl) ?_
  refine lv_imul hx hb dX12_castles_82 ?_
  refine lv_bipush (v := 65) hx hb dX12_castles_83 (by decide) ?_
  refine lv_iadd hx hb dX12_castles_85 ?_
  obtain ⟨h_2, hp⟩ := hp
  refine w_ild F hK hW hL_y_1 hK_y_1 h_2 dX12_castles_86 ?_
  refine lv_iload hx hb dX12_castles_87 (lv_at hl 6 rfl) ?_
  refine lv_ishr hx hb dX12_castles_89 ?_
  refine lv_iconst (v := 1) hx hb dX12_castles_90 (by decide) ?_
  refine lv_iand hx hb dX12_castles_91 ?_
  refine lv_if_eq (tgt := 106) hx hb dX12_castles_92 (by decide) (fun c_3 => ?_) (fun c_3 => ?_)
  · replace hp := hp.1 c_3
    exact t_X12_castles_106 F hr hlocks hK hp hW hE (lv_sub hl [] rfl)
  · replace hp := hp.2 c_3
    refine lv_iload_n hx hb dX12_castles_95 rfl (lv_at hl 2 rfl) ?_
    refine lv_aload_n hx hb dX12_castles_96 rfl (lv_at hl 0 rfl) ?_
    refine lv_iload hx hb dX12_castles_97 (lv_at hl 4 rfl) ?_
    refine lv_iconst (v := 4) hx hb dX12_castles_99 (by decide) ?_
    refine w_callI (va_runV (As := [.int x4, .int (4 : Int32)]) (rest := [.int x2]) F (c_X12_homeOf l hL_a0 hK_a0 hp H.size) (cwV (C := RX12) 2 hts (wg_V wm_RX12_173 wy_X12_homeOf) rfl rfl rfl (by decide +kernel) ⟨Nat.le_of_ble_eq_true rfl, Nat.le_of_ble_eq_true rfl⟩) (w_preV hK hW hL_a0 hK_a0 (by decide) rfl) rfl rfl hl.1 rfl (lv_room (Nat.le_of_ble_eq_true rfl)) dX12_castles_100 ⟨Nat.le_of_ble_eq_true rfl, Nat.le_of_ble_eq_true rfl⟩) hW (fun r_4 S_5 H locs hp hW => ?_)
    obtain ⟨hX_S_5, hp⟩ := hp
    refine W.widen (k := 0) (n := 0) (by decide) (by decide) ?_
    have hE := hE.trans hX_S_5
    have hK_a0 : sK S_5 a0 = 17 := (hX_S_5.2 a0 hL_a0).1.trans hK_a0
    have hL_a0 : wM D S_5 a0 := hX_S_5.M hL_a0
    refine lv_icmp_eq (tgt := 108) hx hb dX12_castles_103 (by decide) (fun c_6 => ?_) (fun c_6 => ?_)
    · replace hp := hp.1 c_6
      refine lv_aload_n hx hb dX12_castles_108 rfl (lv_at hl 0 rfl) ?_
      refine lv_iload_n hx hb dX12_castles_109 rfl (lv_at hl 1 rfl) ?_
      refine lv_iload_n hx hb dX12_castles_110 rfl (lv_at hl 2 rfl) ?_
      refine lv_aload_n hx hb dX12_castles_111 rfl (lv_at hl 0 rfl) ?_
      refine lv_iload hx hb dX12_castles_112 (lv_at hl 4 rfl) ?_
      refine lv_iload hx hb dX12_castles_114 (lv_at hl 5 rfl) ?_
      refine lv_if_eq (tgt := 124) hx hb dX12_castles_116 (by decide) (fun c_7 => ?_) (fun c_7 => ?_)
      · replace hp := hp.1 c_7
        refine lv_iconst (v := 0) hx hb dX12_castles_124 (by decide) ?_
        exact t_X12_castles_125 F hr hlocks hK hp hW hE (lv_sub hl [0, 1, 2, 3, 4, 5] rfl) hL_a0 hK_a0 hL_a0 hK_a0 hL_a0 hK_a0
      · replace hp := hp.2 c_7
        refine lv_bipush (v := 7) hx hb dX12_castles_119 (by decide) ?_
        refine lv_goto (tgt := 125) hx hb dX12_castles_121 (by decide) ?_
        exact t_X12_castles_125 F hr hlocks hK hp hW hE (lv_sub hl [0, 1, 2, 3, 4, 5] rfl) hL_a0 hK_a0 hL_a0 hK_a0 hL_a0 hK_a0
    · replace hp := hp.2 c_6
      exact t_X12_castles_106 F hr hlocks hK hp hW hE (lv_sub hl [] rfl)
set_option maxHeartbeats 4000000 in
set_option maxRecDepth 100000 in
theorem t_X12_castles_47 {p : Program} {l : Launch} {e : Env} {s : State} {m : MethodId} {args : Array Value} {below : List Frame} {meth : Method} {c : Code} {D : wD} {cy : Nat → ClassId} {X : va_W} {A : Nat → Prop} {S0 : wS} {post : Int32 → wS → Prop} (F : CallFix p m c cX12_castles 8 s args wz_X12_castles RX12) (hr : meth.sig.returnType = (some .boolean)) (hlocks : meth.locks = false) (hK : wK D cy A s) : ∀ {S : wS} {H : Heap} {locs : List Loc} {ls : Array Slot} {a0 : Nat} {x1 : Int32} {x2 : Int32} {x3 : Int32} {x4 : Int32} {x5 : Int32} {t0 : Int32} {t1 : Int32}, wp_X12_castles_47 D post S a0 x1 x2 x3 x4 x5 t0 t1 → wO D cy X A s.heap S H locs → wX D S0 S → lv_has ls 8 [(0, .ref a0), (1, .int x1), (2, .int x2), (3, .int x3), (4, .int x4), (5, .int x5)] → wM D S a0 → sK S a0 = 17 → W p l e r_X12_castles s m args below meth c H locs 0 0 (MQ below (va_Qi (fun r S9 => wX D S0 S9 ∧ post r S9) (wB D cy X A) A) args s 0 0 A) (F0 m 47 ls [.int t1, .int t0]) := by
  obtain ⟨hx, hb, hml, hown, hts⟩ := id F
  have hwg : ∀ w ∈ WG, w.before args s = true := fun w h => hts w (List.mem_cons_of_mem _ h)
  have i_17 : ∀ w ∈ u_ws RX12 TX12 43, w ∈ wz_X12_castles := fun w h => List.mem_cons_of_mem _ (wu_17 w h)
  have k_9 := hwg _ wf_RX12_9
  intro S H locs ls a0 x1 x2 x3 x4 x5 t0 t1 hp hW hE hl hL_a0 hK_a0
  unfold wp_X12_castles_47 at hp
  refine lv_iadd hx hb dX12_castles_47 ?_
  refine lv_topi (fun x_1 ex_1 => ?_)
  replace hp := hp x_1 ex_1
  refine lv_istore (lv' := [(6, .int x_1), (0, .ref a0), (1, .int x1), (2, .int x2), (3, .int x3), (4, .int x4), (5, .int x5)]) hx hb dX12_castles_48 hl (by decide) rfl (fun ls hl => ?_)
  refine lv_aload_n hx hb dX12_castles_50 rfl (lv_at hl 1 rfl) ?_
  refine w_get (k := 17) (f := 1) (T := TX12) (v := .int (sI S a0 1)) F hK hW hL_a0 hK_a0 (by decide) rfl rfl (by decide) i_17 k_9 rfl dX12_castles_51 ?_
  refine lv_bipush (v := 8) hx hb dX12_castles_54 (by decide) ?_
  refine lv_icmp_ne (tgt := 106) hx hb dX12_castles_56 (by decide) (fun c_2 => ?_) (fun c_2 => ?_)
  · replace hp := hp.1 c_2
    exact t_X12_castles_106 F hr hlocks hK hp hW hE (lv_sub hl [] rfl)
  · replace hp := hp.2 c_2
    refine lv_iload hx hb dX12_castles_59 (lv_at hl 6 rfl) ?_
    refine lv_if_ne (tgt := 75) hx hb dX12_castles_61 (by decide) (fun c_3 => ?_) (fun c_3 => ?_)
    · replace hp := hp.1 c_3
      exact t_X12_castles_75 F hr hlocks hK hp hW hE (lv_sub hl [1, 2, 3, 4, 5, 6, 0] rfl) hL_a0 hK_a0
    · replace hp := hp.2 c_3
      refine lv_iload_n hx hb dX12_castles_64 rfl (lv_at hl 4 rfl) ?_
      refine lv_aload_n hx hb dX12_castles_65 rfl (lv_at hl 1 rfl) ?_
      refine lv_iload hx hb dX12_castles_66 (lv_at hl 5 rfl) ?_
      refine lv_iconst (v := 2) hx hb dX12_castles_68 (by decide) ?_
      refine w_callI (va_runV (As := [.int x4, .int (2 : Int32)]) (rest := [.int x3]) F (c_X12_homeOf l hL_a0 hK_a0 hp H.size) (cwV (C := RX12) 2 hts (wg_V wm_RX12_173 wy_X12_homeOf) rfl rfl rfl (by decide +kernel) ⟨Nat.le_of_ble_eq_true rfl, Nat.le_of_ble_eq_true rfl⟩) (w_preV hK hW hL_a0 hK_a0 (by decide) rfl) rfl rfl hl.1 rfl (lv_room (Nat.le_of_ble_eq_true rfl)) dX12_castles_69 ⟨Nat.le_of_ble_eq_true rfl, Nat.le_of_ble_eq_true rfl⟩) hW (fun r_4 S_5 H locs hp hW => ?_)
      obtain ⟨hX_S_5, hp⟩ := hp
      refine W.widen (k := 0) (n := 0) (by decide) (by decide) ?_
      have hE := hE.trans hX_S_5
      have hK_a0 : sK S_5 a0 = 17 := (hX_S_5.2 a0 hL_a0).1.trans hK_a0
      have hL_a0 : wM D S_5 a0 := hX_S_5.M hL_a0
      refine lv_icmp_ne (tgt := 106) hx hb dX12_castles_72 (by decide) (fun c_6 => ?_) (fun c_6 => ?_)
      · replace hp := hp.1 c_6
        exact t_X12_castles_106 F hr hlocks hK hp hW hE (lv_sub hl [] rfl)
      · replace hp := hp.2 c_6
        exact t_X12_castles_75 F hr hlocks hK hp hW hE (lv_sub hl [1, 2, 3, 4, 5, 6, 0] rfl) hL_a0 hK_a0
set_option maxHeartbeats 4000000 in
set_option maxRecDepth 100000 in
theorem t_X12_castles_37 {p : Program} {l : Launch} {e : Env} {s : State} {m : MethodId} {args : Array Value} {below : List Frame} {meth : Method} {c : Code} {D : wD} {cy : Nat → ClassId} {X : va_W} {A : Nat → Prop} {S0 : wS} {post : Int32 → wS → Prop} (F : CallFix p m c cX12_castles 8 s args wz_X12_castles RX12) (hr : meth.sig.returnType = (some .boolean)) (hlocks : meth.locks = false) (hK : wK D cy A s) : ∀ {S : wS} {H : Heap} {locs : List Loc} {ls : Array Slot} {a0 : Nat} {x1 : Int32} {x2 : Int32} {x3 : Int32} {x4 : Int32} {x5 : Int32} {t0 : Int32}, wp_X12_castles_37 D post S a0 x1 x2 x3 x4 x5 t0 → wO D cy X A s.heap S H locs → wX D S0 S → lv_has ls 8 [(0, .ref a0), (1, .int x1), (2, .int x2), (3, .int x3), (4, .int x4), (5, .int x5)] → wM D S a0 → sK S a0 = 17 → W p l e r_X12_castles s m args below meth c H locs 0 0 (MQ below (va_Qi (fun r S9 => wX D S0 S9 ∧ post r S9) (wB D cy X A) A) args s 0 0 A) (F0 m 37 ls [.int t0]) := by
  obtain ⟨hx, hb, hml, hown, hts⟩ := id F
  have hwg : ∀ w ∈ WG, w.before args s = true := fun w h => hts w (List.mem_cons_of_mem _ h)
  intro S H locs ls a0 x1 x2 x3 x4 x5 t0 hp hW hE hl hL_a0 hK_a0
  unfold wp_X12_castles_37 at hp
  refine lv_iload hx hb dX12_castles_37 (lv_at hl 5 rfl) ?_
  refine lv_if_eq (tgt := 46) hx hb dX12_castles_39 (by decide) (fun c_1 => ?_) (fun c_1 => ?_)
  · replace hp := hp.1 c_1
    refine lv_iconst (v := 1) hx hb dX12_castles_46 (by decide) ?_
    exact t_X12_castles_47 F hr hlocks hK hp hW hE (lv_sub hl [0, 1, 2, 3, 4, 5] rfl) hL_a0 hK_a0
  · replace hp := hp.2 c_1
    refine lv_iconst (v := 0) hx hb dX12_castles_42 (by decide) ?_
    refine lv_goto (tgt := 47) hx hb dX12_castles_43 (by decide) ?_
    exact t_X12_castles_47 F hr hlocks hK hp hW hE (lv_sub hl [0, 1, 2, 3, 4, 5] rfl) hL_a0 hK_a0
set_option maxHeartbeats 4000000 in
set_option maxRecDepth 100000 in
theorem t_X12_castles_24 {p : Program} {l : Launch} {e : Env} {s : State} {m : MethodId} {args : Array Value} {below : List Frame} {meth : Method} {c : Code} {D : wD} {cy : Nat → ClassId} {X : va_W} {A : Nat → Prop} {S0 : wS} {post : Int32 → wS → Prop} (F : CallFix p m c cX12_castles 8 s args wz_X12_castles RX12) (hr : meth.sig.returnType = (some .boolean)) (hlocks : meth.locks = false) (hK : wK D cy A s) : ∀ {S : wS} {H : Heap} {locs : List Loc} {ls : Array Slot} {a0 : Nat} {x1 : Int32} {x2 : Int32} {x3 : Int32} {x4 : Int32} {t0 : Int32}, wp_X12_castles_24 D post S a0 x1 x2 x3 x4 t0 → wO D cy X A s.heap S H locs → wX D S0 S → lv_has ls 8 [(0, .ref a0), (1, .int x1), (2, .int x2), (3, .int x3), (4, .int x4)] → wM D S a0 → sK S a0 = 17 → W p l e r_X12_castles s m args below meth c H locs 0 0 (MQ below (va_Qi (fun r S9 => wX D S0 S9 ∧ post r S9) (wB D cy X A) A) args s 0 0 A) (F0 m 24 ls [.int t0]) := by
  obtain ⟨hx, hb, hml, hown, hts⟩ := id F
  have hwg : ∀ w ∈ WG, w.before args s = true := fun w h => hts w (List.mem_cons_of_mem _ h)
  intro S H locs ls a0 x1 x2 x3 x4 t0 hp hW hE hl hL_a0 hK_a0
  unfold wp_X12_castles_24 at hp
  refine lv_istore (lv' := [(5, .int t0), (0, .ref a0), (1, .int x1), (2, .int x2), (3, .int x3), (4, .int x4)]) hx hb dX12_castles_24 hl (by decide) rfl (fun ls hl => ?_)
  refine lv_iload hx hb dX12_castles_26 (lv_at hl 5 rfl) ?_
  refine lv_iconst (v := 1) hx hb dX12_castles_28 (by decide) ?_
  refine lv_icmp_ne (tgt := 36) hx hb dX12_castles_29 (by decide) (fun c_1 => ?_) (fun c_1 => ?_)
  · replace hp := hp.1 c_1
    refine lv_iconst (v := 2) hx hb dX12_castles_36 (by decide) ?_
    exact t_X12_castles_37 F hr hlocks hK hp hW hE (lv_sub hl [1, 2, 3, 4, 5, 0] rfl) hL_a0 hK_a0
  · replace hp := hp.2 c_1
    refine lv_iconst (v := 0) hx hb dX12_castles_32 (by decide) ?_
    refine lv_goto (tgt := 37) hx hb dX12_castles_33 (by decide) ?_
    exact t_X12_castles_37 F hr hlocks hK hp hW hE (lv_sub hl [1, 2, 3, 4, 5, 0] rfl) hL_a0 hK_a0
set_option maxHeartbeats 4000000 in
set_option maxRecDepth 100000 in
theorem t_X12_castles_0 {p : Program} {l : Launch} {e : Env} {s : State} {m : MethodId} {args : Array Value} {below : List Frame} {meth : Method} {c : Code} {D : wD} {cy : Nat → ClassId} {X : va_W} {A : Nat → Prop} {S0 : wS} {post : Int32 → wS → Prop} (F : CallFix p m c cX12_castles 8 s args wz_X12_castles RX12) (hr : meth.sig.returnType = (some .boolean)) (hlocks : meth.locks = false) (hK : wK D cy A s) : ∀ {S : wS} {H : Heap} {locs : List Loc} {ls : Array Slot} {a0 : Nat} {x1 : Int32} {x2 : Int32} {x3 : Int32}, wp_X12_castles_0 D post S a0 x1 x2 x3 → wO D cy X A s.heap S H locs → wX D S0 S → lv_has ls 8 [(0, .ref a0), (1, .int x1), (2, .int x2), (3, .int x3)] → wM D S a0 → sK S a0 = 17 → W p l e r_X12_castles s m args below meth c H locs 0 0 (MQ below (va_Qi (fun r S9 => wX D S0 S9 ∧ post r S9) (wB D cy X A) A) args s 0 0 A) (F0 m 0 ls []) := by
  obtain ⟨hx, hb, hml, hown, hts⟩ := id F
  have hwg : ∀ w ∈ WG, w.before args s = true := fun w h => hts w (List.mem_cons_of_mem _ h)
  intro S H locs ls a0 x1 x2 x3 hp hW hE hl hL_a0 hK_a0
  unfold wp_X12_castles_0 at hp
  refine lv_aload_n hx hb dX12_castles_0 rfl (lv_at hl 0 rfl) ?_
  refine lv_iload_n hx hb dX12_castles_1 rfl (lv_at hl 1 rfl) ?_
  refine w_callI (va_runV (As := [.int x1]) (rest := []) F (c_X12_side l hL_a0 hK_a0 hp H.size) (cwV (C := RX12) 1 hts (wg_V wm_RX12_183 wy_X12_side) rfl rfl rfl (by decide +kernel) ⟨Nat.le_of_ble_eq_true rfl, Nat.le_of_ble_eq_true rfl⟩) (w_preV hK hW hL_a0 hK_a0 (by decide) rfl) rfl rfl hl.1 rfl (lv_room (Nat.le_of_ble_eq_true rfl)) dX12_castles_2 ⟨Nat.le_of_ble_eq_true rfl, Nat.le_of_ble_eq_true rfl⟩) hW (fun r_1 S_2 H locs hp hW => ?_)
  obtain ⟨hX_S_2, hp⟩ := hp
  refine W.widen (k := 0) (n := 0) (by decide) (by decide) ?_
  have hE := hE.trans hX_S_2
  have hK_a0 : sK S_2 a0 = 17 := (hX_S_2.2 a0 hL_a0).1.trans hK_a0
  have hL_a0 : wM D S_2 a0 := hX_S_2.M hL_a0
  refine lv_istore (lv' := [(4, .int r_1), (0, .ref a0), (1, .int x1), (2, .int x2), (3, .int x3)]) hx hb dX12_castles_5 hl (by decide) rfl (fun ls hl => ?_)
  refine lv_iload_n hx hb dX12_castles_7 rfl (lv_at hl 4 rfl) ?_
  refine lv_aload_n hx hb dX12_castles_8 rfl (lv_at hl 1 rfl) ?_
  refine lv_iload hx hb dX12_castles_9 (lv_at hl 0 rfl) ?_
  refine lv_bipush (v := 6) hx hb dX12_castles_11 (by decide) ?_
  refine w_callI (va_runV (As := [.int r_1, .int (6 : Int32)]) (rest := [.int x3]) F (c_X12_homeOf l hL_a0 hK_a0 hp H.size) (cwV (C := RX12) 2 hts (wg_V wm_RX12_173 wy_X12_homeOf) rfl rfl rfl (by decide +kernel) ⟨Nat.le_of_ble_eq_true rfl, Nat.le_of_ble_eq_true rfl⟩) (w_preV hK hW hL_a0 hK_a0 (by decide) rfl) rfl rfl hl.1 rfl (lv_room (Nat.le_of_ble_eq_true rfl)) dX12_castles_13 ⟨Nat.le_of_ble_eq_true rfl, Nat.le_of_ble_eq_true rfl⟩) hW (fun r_3 S_4 H locs hp hW => ?_)
  obtain ⟨hX_S_4, hp⟩ := hp
  refine W.widen (k := 0) (n := 0) (by decide) (by decide) ?_
  have hE := hE.trans hX_S_4
  have hK_a0 : sK S_4 a0 = 17 := (hX_S_4.2 a0 hL_a0).1.trans hK_a0
  have hL_a0 : wM D S_4 a0 := hX_S_4.M hL_a0
  refine lv_icmp_ne (tgt := 23) hx hb dX12_castles_16 (by decide) (fun c_5 => ?_) (fun c_5 => ?_)
  · replace hp := hp.1 c_5
    refine lv_iconst (v := 0) hx hb dX12_castles_23 (by decide) ?_
    exact t_X12_castles_24 F hr hlocks hK hp hW hE (lv_sub hl [1, 2, 3, 4, 0] rfl) hL_a0 hK_a0
  · replace hp := hp.2 c_5
    refine lv_iconst (v := 1) hx hb dX12_castles_19 (by decide) ?_
    refine lv_goto (tgt := 24) hx hb dX12_castles_20 (by decide) ?_
    exact t_X12_castles_24 F hr hlocks hK hp hW hE (lv_sub hl [1, 2, 3, 4, 0] rfl) hL_a0 hK_a0
set_option maxHeartbeats 4000000 in
set_option maxRecDepth 100000 in
theorem c_X12_castles (l : Launch) {D : wD} {cy : Nat → ClassId} {X : va_W} {S0 : wS} {post : Int32 → wS → Prop} {a0 : Nat} {x1 : Int32} {x2 : Int32} {x3 : Int32} (hL_a0 : wM D S0 a0) (hK_a0 : sK S0 a0 = 17) (hp : wp_X12_castles D post S0 a0 x1 x2 x3) : mI D cy X l yX12_castles wz_X12_castles r_X12_castles [.ref a0, .int x1, .int x2, .int x3] S0 (fun r S9 => wX D S0 S9 ∧ post r S9) := by
  intro sz
  refine Met.ofW (cc := cX12_castles) (maxL := 8) (ret := (some .boolean)) (by decide) rfl ?_
  intro p e s m args below meth c s₁ B hml hv
  obtain ⟨rfl, hsz, hP, hK, hD0, hRO⟩ := hv
  have hts := atoms_spec (ws := wz_X12_castles) B.pre
  have hown : s.vm.findClass RX12 = some m.cls := findClass_of_methodNamed B.named
  subst hsz
  have hD := hD0.self (sz := s.heap.size)
  have F : CallFix p m c cX12_castles 8 s _ wz_X12_castles RX12 := ⟨B.exec, B.bytes, hml, hown, hts⟩
  have hr := B.returns
  have hlocks := B.notSynchronized
  generalize hAe : va_A (wL cy X S0) s.heap.size = A at hD hK ⊢
  have hA : ∀ q, s.heap.size ≤ q → A q := fun q h => by rw [← hAe]; exact Or.inr h
  have hW : wO D cy X A s.heap S0 s.heap [] := ⟨hP, hD, va_S.rf, hA, hRO⟩
  have hl := lv_entry ([.ref a0, .int x1, .int x2, .int x3]) (n := 8) (Nat.le_of_ble_eq_true rfl)
  rw [lg_entry_eq]
  generalize (lg_sl ([.ref a0, .int x1, .int x2, .int x3]) ++ List.replicate (8 - (lg_sl ([.ref a0, .int x1, .int x2, .int x3])).length) Slot.unset).toArray = ls at hl ⊢
  have hl : lv_has ls 8 [(0, .ref a0), (1, .int x1), (2, .int x2), (3, .int x3)] := hl
  unfold wp_X12_castles at hp
  exact t_X12_castles_0 F hr hlocks hK hp hW wX.rf (lv_sub hl [0, 1, 2, 3] rfl) hL_a0 hK_a0
def wp_X12_passing_0 (D : wD) (post : Int32 → wS → Prop)  (S : wS) (a0 : Nat) (x1 : Int32) : Prop :=
∃ y_1 : Nat, sR S a0 3 = some y_1 ∧ wM D S y_1 ∧ sK S y_1 = 21 ∧
vp_in (((67 : Int32) * x1) + (66 : Int32)) (sN S y_1) ∧
post (sI S y_1 ((((67 : Int32) * x1) + (66 : Int32))).toNatClampNeg) S
abbrev r_X12_passing : Room := { frames := 0, cells := 0, slots := 0, locals := 0 }
def wp_X12_passing (D : wD) (post : Int32 → wS → Prop) (S : wS) (a0 : Nat) (x1 : Int32) : Prop := wp_X12_passing_0 D post S a0 x1
set_option maxHeartbeats 4000000 in
set_option maxRecDepth 100000 in
theorem t_X12_passing_0 {p : Program} {l : Launch} {e : Env} {s : State} {m : MethodId} {args : Array Value} {below : List Frame} {meth : Method} {c : Code} {D : wD} {cy : Nat → ClassId} {X : va_W} {A : Nat → Prop} {S0 : wS} {post : Int32 → wS → Prop} (F : CallFix p m c cX12_passing 2 s args wz_X12_passing RX12) (hr : meth.sig.returnType = (some .int)) (hlocks : meth.locks = false) (hK : wK D cy A s) : ∀ {S : wS} {H : Heap} {locs : List Loc} {ls : Array Slot} {a0 : Nat} {x1 : Int32}, wp_X12_passing_0 D post S a0 x1 → wO D cy X A s.heap S H locs → wX D S0 S → lv_has ls 2 [(0, .ref a0), (1, .int x1)] → wM D S a0 → sK S a0 = 17 → W p l e r_X12_passing s m args below meth c H locs 0 0 (MQ below (va_Qi (fun r S9 => wX D S0 S9 ∧ post r S9) (wB D cy X A) A) args s 0 0 A) (F0 m 0 ls []) := by
  obtain ⟨hx, hb, hml, hown, hts⟩ := id F
  have hwg : ∀ w ∈ WG, w.before args s = true := fun w h => hts w (List.mem_cons_of_mem _ h)
  have i_17 : ∀ w ∈ u_ws RX12 TX12 43, w ∈ wz_X12_passing := fun w h => List.mem_cons_of_mem _ (wu_17 w h)
  have k_16 := hwg _ wf_RX12_16
  intro S H locs ls a0 x1 hp hW hE hl hL_a0 hK_a0
  unfold wp_X12_passing_0 at hp
  refine lv_aload_n hx hb dX12_passing_0 rfl (lv_at hl 0 rfl) ?_
  obtain ⟨y_1, ey_1, hL_y_1, hK_y_1, hp⟩ := hp
  refine w_get (k := 17) (f := 3) (T := TX12) (v := .ref y_1) F hK hW hL_a0 hK_a0 (by decide) rfl rfl (by decide) i_17 k_16 (by rw [show wv 17 3 S a0 = va_rf (sR S a0 3) from rfl, ey_1]; rfl) dX12_passing_1 ?_
  refine lv_bipush (v := 67) hx hb dX12_passing_4 (by decide) ?_
  refine lv_iload_n hx hb dX12_passing_6 rfl (lv_at hl 1 rfl) ?_
  refine lv_imul hx hb dX12_passing_7 ?_
  refine lv_bipush (v := 66) hx hb dX12_passing_8 (by decide) ?_
  refine lv_iadd hx hb dX12_passing_10 ?_
  obtain ⟨h_2, hp⟩ := hp
  refine w_ild F hK hW hL_y_1 hK_y_1 h_2 dX12_passing_11 ?_
  exact w_iret hx hb hr hlocks hW ⟨hE, hp⟩ dX12_passing_12
set_option maxHeartbeats 4000000 in
set_option maxRecDepth 100000 in
theorem c_X12_passing (l : Launch) {D : wD} {cy : Nat → ClassId} {X : va_W} {S0 : wS} {post : Int32 → wS → Prop} {a0 : Nat} {x1 : Int32} (hL_a0 : wM D S0 a0) (hK_a0 : sK S0 a0 = 17) (hp : wp_X12_passing D post S0 a0 x1) : mI D cy X l yX12_passing wz_X12_passing r_X12_passing [.ref a0, .int x1] S0 (fun r S9 => wX D S0 S9 ∧ post r S9) := by
  intro sz
  refine Met.ofW (cc := cX12_passing) (maxL := 2) (ret := (some .int)) (by decide) rfl ?_
  intro p e s m args below meth c s₁ B hml hv
  obtain ⟨rfl, hsz, hP, hK, hD0, hRO⟩ := hv
  have hts := atoms_spec (ws := wz_X12_passing) B.pre
  have hown : s.vm.findClass RX12 = some m.cls := findClass_of_methodNamed B.named
  subst hsz
  have hD := hD0.self (sz := s.heap.size)
  have F : CallFix p m c cX12_passing 2 s _ wz_X12_passing RX12 := ⟨B.exec, B.bytes, hml, hown, hts⟩
  have hr := B.returns
  have hlocks := B.notSynchronized
  generalize hAe : va_A (wL cy X S0) s.heap.size = A at hD hK ⊢
  have hA : ∀ q, s.heap.size ≤ q → A q := fun q h => by rw [← hAe]; exact Or.inr h
  have hW : wO D cy X A s.heap S0 s.heap [] := ⟨hP, hD, va_S.rf, hA, hRO⟩
  have hl := lv_entry ([.ref a0, .int x1]) (n := 2) (Nat.le_of_ble_eq_true rfl)
  rw [lg_entry_eq]
  generalize (lg_sl ([.ref a0, .int x1]) ++ List.replicate (2 - (lg_sl ([.ref a0, .int x1])).length) Slot.unset).toArray = ls at hl ⊢
  have hl : lv_has ls 2 [(0, .ref a0), (1, .int x1)] := hl
  unfold wp_X12_passing at hp
  exact t_X12_passing_0 F hr hlocks hK hp hW wX.rf (lv_sub hl [0, 1] rfl) hL_a0 hK_a0
def wp_X12_goesAsPawn_154 (D : wD) (post : Int32 → wS → Prop)  (S : wS) (t0 : Int32) : Prop :=
narrow .boolean (.int t0) = .int t0 ∧ post t0 S
def wp_X12_goesAsPawn_153 (D : wD) (post : Int32 → wS → Prop)  (S : wS) : Prop :=
wp_X12_goesAsPawn_154 D post S (0 : Int32)
def wp_X12_goesAsPawn_149 (D : wD) (post : Int32 → wS → Prop)  (S : wS) : Prop :=
wp_X12_goesAsPawn_154 D post S (1 : Int32)
def wp_X12_goesAsPawn_76 (D : wD) (post : Int32 → wS → Prop)  (S : wS) : Prop :=
narrow .boolean (.int (0 : Int32)) = .int (0 : Int32) ∧ post (0 : Int32) S
def wp_X12_goesAsPawn_53 (D : wD) (post : Int32 → wS → Prop)  (S : wS) (t0 : Int32) : Prop :=
narrow .boolean (.int t0) = .int t0 ∧ post t0 S
def wp_X12_goesAsPawn_48 (D : wD) (post : Int32 → wS → Prop)  (S : wS) : Prop :=
wp_X12_goesAsPawn_53 D post S (1 : Int32)
def wp_X12_goesAsPawn_18 (D : wD) (post : Int32 → wS → Prop)  (S : wS) (a0 : Nat) (x1 : Int32) (x2 : Int32) (x3 : Int32) (x4 : Int32) (t0 : Int32) : Prop :=
wp_X12_attacks D (fun r_1 S_2 => 
((r_1 = 0 → wp_X12_fileOf D (fun r_4 S_5 => 
wp_X12_fileOf D (fun r_6 S_7 => 
((¬ r_4 = r_6 → wp_X12_goesAsPawn_76 D post S_7) ∧
 (r_4 = r_6 → wp_X12_on D (fun r_9 S_10 => 
((r_9 = 0 → wp_X12_rankOf D (fun r_12 S_13 => 
wp_X12_rankOf D (fun r_14 S_15 => 
∀ x_16 : Int32, x_16 = ((r_12 - r_14) * t0) →
((x_16 = (1 : Int32) → wp_X12_goesAsPawn_149 D post S_15) ∧
 (¬ x_16 = (1 : Int32) → ((¬ x_16 = (2 : Int32) → wp_X12_goesAsPawn_153 D post S_15) ∧
 (x_16 = (2 : Int32) → (((sI S_15 a0 2) < (6 : Int32) → wp_X12_goesAsPawn_153 D post S_15) ∧
 (¬ (sI S_15 a0 2) < (6 : Int32) → wp_X12_rankOf D (fun r_20 S_21 => 
wp_X12_firstRank D (fun r_22 S_23 => 
((¬ r_20 = (r_22 + t0) → wp_X12_goesAsPawn_153 D post S_23) ∧
 (r_20 = (r_22 + t0) → wp_X12_on D (fun r_25 S_26 => 
((¬ r_25 = 0 → wp_X12_goesAsPawn_153 D post S_26) ∧
 (r_25 = 0 → wp_X12_goesAsPawn_149 D post S_26))) S_23 a0 x1 (x2 + (t0 * (sI S_23 a0 1)))))) S_21 a0 x4) S_15 a0 x2))))))) S_13 a0 x2) S_10 a0 x3) ∧
 (¬ r_9 = 0 → wp_X12_goesAsPawn_76 D post S_10))) S_7 a0 x1 x3))) S_5 a0 x3) S_2 a0 x2) ∧
 (¬ r_1 = 0 → wp_X12_on D (fun r_28 S_29 => 
((¬ r_28 = 0 → wp_X12_goesAsPawn_48 D post S_29) ∧
 (r_28 = 0 → wp_X12_passing D (fun r_31 S_32 => 
((¬ x3 = r_31 → wp_X12_goesAsPawn_53 D post S_32 (0 : Int32)) ∧
 (x3 = r_31 → wp_X12_goesAsPawn_48 D post S_32))) S_29 a0 x1))) S_2 a0 x1 x3))) S a0 x1 x2 x3
def wp_X12_goesAsPawn_0 (D : wD) (post : Int32 → wS → Prop)  (S : wS) (a0 : Nat) (x1 : Int32) (x2 : Int32) (x3 : Int32) : Prop :=
wp_X12_side D (fun r_1 S_2 => 
((¬ r_1 = (1 : Int32) → wp_X12_goesAsPawn_18 D post S_2 a0 x1 x2 x3 r_1 (-1 : Int32)) ∧
 (r_1 = (1 : Int32) → wp_X12_goesAsPawn_18 D post S_2 a0 x1 x2 x3 r_1 (1 : Int32)))) S a0 x1
abbrev r_X12_goesAsPawn : Room := { frames := 3, cells := 0, slots := 0, locals := 75 }
def wp_X12_goesAsPawn (D : wD) (post : Int32 → wS → Prop) (S : wS) (a0 : Nat) (x1 : Int32) (x2 : Int32) (x3 : Int32) : Prop := wp_X12_goesAsPawn_0 D post S a0 x1 x2 x3
set_option maxHeartbeats 4000000 in
set_option maxRecDepth 100000 in
theorem t_X12_goesAsPawn_154 {p : Program} {l : Launch} {e : Env} {s : State} {m : MethodId} {args : Array Value} {below : List Frame} {meth : Method} {c : Code} {D : wD} {cy : Nat → ClassId} {X : va_W} {A : Nat → Prop} {S0 : wS} {post : Int32 → wS → Prop} (F : CallFix p m c cX12_goesAsPawn 7 s args wz_X12_goesAsPawn RX12) (hr : meth.sig.returnType = (some .boolean)) (hlocks : meth.locks = false) (hK : wK D cy A s) : ∀ {S : wS} {H : Heap} {locs : List Loc} {ls : Array Slot} {t0 : Int32}, wp_X12_goesAsPawn_154 D post S t0 → wO D cy X A s.heap S H locs → wX D S0 S → lv_has ls 7 [] → W p l e r_X12_goesAsPawn s m args below meth c H locs 0 0 (MQ below (va_Qi (fun r S9 => wX D S0 S9 ∧ post r S9) (wB D cy X A) A) args s 0 0 A) (F0 m 154 ls [.int t0]) := by
  obtain ⟨hx, hb, hml, hown, hts⟩ := id F
  have hwg : ∀ w ∈ WG, w.before args s = true := fun w h => hts w (List.mem_cons_of_mem _ h)
  intro S H locs ls t0 hp hW hE hl
  unfold wp_X12_goesAsPawn_154 at hp
  exact w_zret hx hb hr hlocks hW hp.1 ⟨hE, hp.2⟩ dX12_goesAsPawn_154
set_option maxHeartbeats 4000000 in
set_option maxRecDepth 100000 in
theorem t_X12_goesAsPawn_153 {p : Program} {l : Launch} {e : Env} {s : State} {m : MethodId} {args : Array Value} {below : List Frame} {meth : Method} {c : Code} {D : wD} {cy : Nat → ClassId} {X : va_W} {A : Nat → Prop} {S0 : wS} {post : Int32 → wS → Prop} (F : CallFix p m c cX12_goesAsPawn 7 s args wz_X12_goesAsPawn RX12) (hr : meth.sig.returnType = (some .boolean)) (hlocks : meth.locks = false) (hK : wK D cy A s) : ∀ {S : wS} {H : Heap} {locs : List Loc} {ls : Array Slot}, wp_X12_goesAsPawn_153 D post S → wO D cy X A s.heap S H locs → wX D S0 S → lv_has ls 7 [] → W p l e r_X12_goesAsPawn s m args below meth c H locs 0 0 (MQ below (va_Qi (fun r S9 => wX D S0 S9 ∧ post r S9) (wB D cy X A) A) args s 0 0 A) (F0 m 153 ls []) := by
  obtain ⟨hx, hb, hml, hown, hts⟩ := id F
  have hwg : ∀ w ∈ WG, w.before args s = true := fun w h => hts w (List.mem_cons_of_mem _ h)
  intro S H locs ls hp hW hE hl
  unfold wp_X12_goesAsPawn_153 at hp
  refine lv_iconst (v := 0) hx hb dX12_goesAsPawn_153 (by decide) ?_
  exact t_X12_goesAsPawn_154 F hr hlocks hK hp hW hE (lv_sub hl [] rfl)
set_option maxHeartbeats 4000000 in
set_option maxRecDepth 100000 in
theorem t_X12_goesAsPawn_149 {p : Program} {l : Launch} {e : Env} {s : State} {m : MethodId} {args : Array Value} {below : List Frame} {meth : Method} {c : Code} {D : wD} {cy : Nat → ClassId} {X : va_W} {A : Nat → Prop} {S0 : wS} {post : Int32 → wS → Prop} (F : CallFix p m c cX12_goesAsPawn 7 s args wz_X12_goesAsPawn RX12) (hr : meth.sig.returnType = (some .boolean)) (hlocks : meth.locks = false) (hK : wK D cy A s) : ∀ {S : wS} {H : Heap} {locs : List Loc} {ls : Array Slot}, wp_X12_goesAsPawn_149 D post S → wO D cy X A s.heap S H locs → wX D S0 S → lv_has ls 7 [] → W p l e r_X12_goesAsPawn s m args below meth c H locs 0 0 (MQ below (va_Qi (fun r S9 => wX D S0 S9 ∧ post r S9) (wB D cy X A) A) args s 0 0 A) (F0 m 149 ls []) := by
  obtain ⟨hx, hb, hml, hown, hts⟩ := id F
  have hwg : ∀ w ∈ WG, w.before args s = true := fun w h => hts w (List.mem_cons_of_mem _ h)
  intro S H locs ls hp hW hE hl
  unfold wp_X12_goesAsPawn_149 at hp
  refine lv_iconst (v := 1) hx hb dX12_goesAsPawn_149 (by decide) ?_
  refine lv_goto (tgt := 154) hx hb dX12_goesAsPawn_150 (by decide) ?_
  exact t_X12_goesAsPawn_154 F hr hlocks hK hp hW hE (lv_sub hl [] rfl)
set_option maxHeartbeats 4000000 in
set_option maxRecDepth 100000 in
theorem t_X12_goesAsPawn_76 {p : Program} {l : Launch} {e : Env} {s : State} {m : MethodId} {args : Array Value} {below : List Frame} {meth : Method} {c : Code} {D : wD} {cy : Nat → ClassId} {X : va_W} {A : Nat → Prop} {S0 : wS} {post : Int32 → wS → Prop} (F : CallFix p m c cX12_goesAsPawn 7 s args wz_X12_goesAsPawn RX12) (hr : meth.sig.returnType = (some .boolean)) (hlocks : meth.locks = false) (hK : wK D cy A s) : ∀ {S : wS} {H : Heap} {locs : List Loc} {ls : Array Slot}, wp_X12_goesAsPawn_76 D post S → wO D cy X A s.heap S H locs → wX D S0 S → lv_has ls 7 [] → W p l e r_X12_goesAsPawn s m args below meth c H locs 0 0 (MQ below (va_Qi (fun r S9 => wX D S0 S9 ∧ post r S9) (wB D cy X A) A) args s 0 0 A) (F0 m 76 ls []) := by
  obtain ⟨hx, hb, hml, hown, hts⟩ := id F
  have hwg : ∀ w ∈ WG, w.before args s = true := fun w h => hts w (List.mem_cons_of_mem _ h)
  intro S H locs ls hp hW hE hl
  unfold wp_X12_goesAsPawn_76 at hp
  refine lv_iconst (v := 0) hx hb dX12_goesAsPawn_76 (by decide) ?_
  exact w_zret hx hb hr hlocks hW hp.1 ⟨hE, hp.2⟩ dX12_goesAsPawn_77
set_option maxHeartbeats 4000000 in
set_option maxRecDepth 100000 in
theorem t_X12_goesAsPawn_53 {p : Program} {l : Launch} {e : Env} {s : State} {m : MethodId} {args : Array Value} {below : List Frame} {meth : Method} {c : Code} {D : wD} {cy : Nat → ClassId} {X : va_W} {A : Nat → Prop} {S0 : wS} {post : Int32 → wS → Prop} (F : CallFix p m c cX12_goesAsPawn 7 s args wz_X12_goesAsPawn RX12) (hr : meth.sig.returnType = (some .boolean)) (hlocks : meth.locks = false) (hK : wK D cy A s) : ∀ {S : wS} {H : Heap} {locs : List Loc} {ls : Array Slot} {t0 : Int32}, wp_X12_goesAsPawn_53 D post S t0 → wO D cy X A s.heap S H locs → wX D S0 S → lv_has ls 7 [] → W p l e r_X12_goesAsPawn s m args below meth c H locs 0 0 (MQ below (va_Qi (fun r S9 => wX D S0 S9 ∧ post r S9) (wB D cy X A) A) args s 0 0 A) (F0 m 53 ls [.int t0]) := by
  obtain ⟨hx, hb, hml, hown, hts⟩ := id F
  have hwg : ∀ w ∈ WG, w.before args s = true := fun w h => hts w (List.mem_cons_of_mem _ h)
  intro S H locs ls t0 hp hW hE hl
  unfold wp_X12_goesAsPawn_53 at hp
  exact w_zret hx hb hr hlocks hW hp.1 ⟨hE, hp.2⟩ dX12_goesAsPawn_53
set_option maxHeartbeats 4000000 in
set_option maxRecDepth 100000 in
theorem t_X12_goesAsPawn_48 {p : Program} {l : Launch} {e : Env} {s : State} {m : MethodId} {args : Array Value} {below : List Frame} {meth : Method} {c : Code} {D : wD} {cy : Nat → ClassId} {X : va_W} {A : Nat → Prop} {S0 : wS} {post : Int32 → wS → Prop} (F : CallFix p m c cX12_goesAsPawn 7 s args wz_X12_goesAsPawn RX12) (hr : meth.sig.returnType = (some .boolean)) (hlocks : meth.locks = false) (hK : wK D cy A s) : ∀ {S : wS} {H : Heap} {locs : List Loc} {ls : Array Slot}, wp_X12_goesAsPawn_48 D post S → wO D cy X A s.heap S H locs → wX D S0 S → lv_has ls 7 [] → W p l e r_X12_goesAsPawn s m args below meth c H locs 0 0 (MQ below (va_Qi (fun r S9 => wX D S0 S9 ∧ post r S9) (wB D cy X A) A) args s 0 0 A) (F0 m 48 ls []) := by
  obtain ⟨hx, hb, hml, hown, hts⟩ := id F
  have hwg : ∀ w ∈ WG, w.before args s = true := fun w h => hts w (List.mem_cons_of_mem _ h)
  intro S H locs ls hp hW hE hl
  unfold wp_X12_goesAsPawn_48 at hp
  refine lv_iconst (v := 1) hx hb dX12_goesAsPawn_48 (by decide) ?_
  refine lv_goto (tgt := 53) hx hb dX12_goesAsPawn_49 (by decide) ?_
  exact t_X12_goesAsPawn_53 F hr hlocks hK hp hW hE (lv_sub hl [] rfl)
set_option maxHeartbeats 4000000 in
set_option maxRecDepth 100000 in
theorem t_X12_goesAsPawn_18 {p : Program} {l : Launch} {e : Env} {s : State} {m : MethodId} {args : Array Value} {below : List Frame} {meth : Method} {c : Code} {D : wD} {cy : Nat → ClassId} {X : va_W} {A : Nat → Prop} {S0 : wS} {post : Int32 → wS → Prop} (F : CallFix p m c cX12_goesAsPawn 7 s args wz_X12_goesAsPawn RX12) (hr : meth.sig.returnType = (some .boolean)) (hlocks : meth.locks = false) (hK : wK D cy A s) : ∀ {S : wS} {H : Heap} {locs : List Loc} {ls : Array Slot} {a0 : Nat} {x1 : Int32} {x2 : Int32} {x3 : Int32} {x4 : Int32} {t0 : Int32}, wp_X12_goesAsPawn_18 D post S a0 x1 x2 x3 x4 t0 → wO D cy X A s.heap S H locs → wX D S0 S → lv_has ls 7 [(0, .ref a0), (1, .int x1), (2, .int x2), (3, .int x3), (4, .int x4)] → wM D S a0 → sK S a0 = 17 → W p l e r_X12_goesAsPawn s m args below meth c H locs 0 0 (MQ below (va_Qi (fun r S9 => wX D S0 S9 ∧ post r S9) (wB D cy X A) A) args s 0 0 A) (F0 m 18 ls [.int t0]) := by
  obtain ⟨hx, hb, hml, hown, hts⟩ := id F
  have hwg : ∀ w ∈ WG, w.before args s = true := fun w h => hts w (List.mem_cons_of_mem _ h)
  have i_17 : ∀ w ∈ u_ws RX12 TX12 43, w ∈ wz_X12_goesAsPawn := fun w h => List.mem_cons_of_mem _ (wu_17 w h)
  have k_13 := hwg _ wf_RX12_13
  have k_9 := hwg _ wf_RX12_9
  intro S H locs ls a0 x1 x2 x3 x4 t0 hp hW hE hl hL_a0 hK_a0
  unfold wp_X12_goesAsPawn_18 at hp
  refine lv_istore (lv' := [(5, .int t0), (0, .ref a0), (1, .int x1), (2, .int x2), (3, .int x3), (4, .int x4)]) hx hb dX12_goesAsPawn_18 hl (by decide) rfl (fun ls hl => ?_)
  refine lv_aload_n hx hb dX12_goesAsPawn_20 rfl (lv_at hl 1 rfl) ?_
  refine lv_iload_n hx hb dX12_goesAsPawn_21 rfl (lv_at hl 2 rfl) ?_
  refine lv_iload_n hx hb dX12_goesAsPawn_22 rfl (lv_at hl 3 rfl) ?_
  refine lv_iload_n hx hb dX12_goesAsPawn_23 rfl (lv_at hl 4 rfl) ?_
  refine w_callI (va_runV (As := [.int x1, .int x2, .int x3]) (rest := []) F (c_X12_attacks l hL_a0 hK_a0 hp H.size) (cwV (C := RX12) 3 hts (wg_V wm_RX12_158 wy_X12_attacks) rfl rfl rfl (by decide +kernel) ⟨Nat.le_of_ble_eq_true rfl, Nat.le_of_ble_eq_true rfl⟩) (w_preV hK hW hL_a0 hK_a0 (by decide) rfl) rfl rfl hl.1 rfl (lv_room (Nat.le_of_ble_eq_true rfl)) dX12_goesAsPawn_24 ⟨Nat.le_of_ble_eq_true rfl, Nat.le_of_ble_eq_true rfl⟩) hW (fun r_1 S_2 H locs hp hW => ?_)
  obtain ⟨hX_S_2, hp⟩ := hp
  refine W.widen (k := 0) (n := 0) (by decide) (by decide) ?_
  have hE := hE.trans hX_S_2
  have hK_a0 : sK S_2 a0 = 17 := (hX_S_2.2 a0 hL_a0).1.trans hK_a0
  have hL_a0 : wM D S_2 a0 := hX_S_2.M hL_a0
  refine lv_if_eq (tgt := 54) hx hb dX12_goesAsPawn_27 (by decide) (fun c_3 => ?_) (fun c_3 => ?_)
  · replace hp := hp.1 c_3
    refine lv_aload_n hx hb dX12_goesAsPawn_54 rfl (lv_at hl 1 rfl) ?_
    refine lv_iload_n hx hb dX12_goesAsPawn_55 rfl (lv_at hl 3 rfl) ?_
    refine w_callI (va_runV (As := [.int x2]) (rest := []) F (c_X12_fileOf l hL_a0 hK_a0 hp H.size) (cwV (C := RX12) 1 hts (wg_V wm_RX12_134 wy_X12_fileOf) rfl rfl rfl (by decide +kernel) ⟨Nat.le_of_ble_eq_true rfl, Nat.le_of_ble_eq_true rfl⟩) (w_preV hK hW hL_a0 hK_a0 (by decide) rfl) rfl rfl hl.1 rfl (lv_room (Nat.le_of_ble_eq_true rfl)) dX12_goesAsPawn_56 ⟨Nat.le_of_ble_eq_true rfl, Nat.le_of_ble_eq_true rfl⟩) hW (fun r_4 S_5 H locs hp hW => ?_)
    obtain ⟨hX_S_5, hp⟩ := hp
    refine W.widen (k := 0) (n := 0) (by decide) (by decide) ?_
    have hE := hE.trans hX_S_5
    have hK_a0 : sK S_5 a0 = 17 := (hX_S_5.2 a0 hL_a0).1.trans hK_a0
    have hL_a0 : wM D S_5 a0 := hX_S_5.M hL_a0
    refine lv_aload_n hx hb dX12_goesAsPawn_59 rfl (lv_at hl 1 rfl) ?_
    refine lv_iload_n hx hb dX12_goesAsPawn_60 rfl (lv_at hl 4 rfl) ?_
    refine w_callI (va_runV (As := [.int x3]) (rest := [.int r_4]) F (c_X12_fileOf l hL_a0 hK_a0 hp H.size) (cwV (C := RX12) 1 hts (wg_V wm_RX12_134 wy_X12_fileOf) rfl rfl rfl (by decide +kernel) ⟨Nat.le_of_ble_eq_true rfl, Nat.le_of_ble_eq_true rfl⟩) (w_preV hK hW hL_a0 hK_a0 (by decide) rfl) rfl rfl hl.1 rfl (lv_room (Nat.le_of_ble_eq_true rfl)) dX12_goesAsPawn_61 ⟨Nat.le_of_ble_eq_true rfl, Nat.le_of_ble_eq_true rfl⟩) hW (fun r_6 S_7 H locs hp hW => ?_)
    obtain ⟨hX_S_7, hp⟩ := hp
    refine W.widen (k := 0) (n := 0) (by decide) (by decide) ?_
    have hE := hE.trans hX_S_7
    have hK_a0 : sK S_7 a0 = 17 := (hX_S_7.2 a0 hL_a0).1.trans hK_a0
    have hL_a0 : wM D S_7 a0 := hX_S_7.M hL_a0
    refine lv_icmp_ne (tgt := 76) hx hb dX12_goesAsPawn_64 (by decide) (fun c_8 => ?_) (fun c_8 => ?_)
    · replace hp := hp.1 c_8
      exact t_X12_goesAsPawn_76 F hr hlocks hK hp hW hE (lv_sub hl [] rfl)
    · replace hp := hp.2 c_8
      refine lv_aload_n hx hb dX12_goesAsPawn_67 rfl (lv_at hl 1 rfl) ?_
      refine lv_iload_n hx hb dX12_goesAsPawn_68 rfl (lv_at hl 2 rfl) ?_
      refine lv_iload_n hx hb dX12_goesAsPawn_69 rfl (lv_at hl 4 rfl) ?_
      refine w_callI (va_runV (As := [.int x1, .int x3]) (rest := []) F (c_X12_on l hL_a0 hK_a0 hp H.size) (cwV (C := RX12) 2 hts (wg_V wm_RX12_141 wy_X12_on) rfl rfl rfl (by decide +kernel) ⟨Nat.le_of_ble_eq_true rfl, Nat.le_of_ble_eq_true rfl⟩) (w_preV hK hW hL_a0 hK_a0 (by decide) rfl) rfl rfl hl.1 rfl (lv_room (Nat.le_of_ble_eq_true rfl)) dX12_goesAsPawn_70 ⟨Nat.le_of_ble_eq_true rfl, Nat.le_of_ble_eq_true rfl⟩) hW (fun r_9 S_10 H locs hp hW => ?_)
      obtain ⟨hX_S_10, hp⟩ := hp
      refine W.widen (k := 0) (n := 0) (by decide) (by decide) ?_
      have hE := hE.trans hX_S_10
      have hK_a0 : sK S_10 a0 = 17 := (hX_S_10.2 a0 hL_a0).1.trans hK_a0
      have hL_a0 : wM D S_10 a0 := hX_S_10.M hL_a0
      refine lv_if_eq (tgt := 78) hx hb dX12_goesAsPawn_73 (by decide) (fun c_11 => ?_) (fun c_11 => ?_)
      · replace hp := hp.1 c_11
        refine lv_aload_n hx hb dX12_goesAsPawn_78 rfl (lv_at hl 1 rfl) ?_
        refine lv_iload_n hx hb dX12_goesAsPawn_79 rfl (lv_at hl 4 rfl) ?_
        refine w_callI (va_runV (As := [.int x3]) (rest := []) F (c_X12_rankOf l hL_a0 hK_a0 hp H.size) (cwV (C := RX12) 1 hts (wg_V wm_RX12_138 wy_X12_rankOf) rfl rfl rfl (by decide +kernel) ⟨Nat.le_of_ble_eq_true rfl, Nat.le_of_ble_eq_true rfl⟩) (w_preV hK hW hL_a0 hK_a0 (by decide) rfl) rfl rfl hl.1 rfl (lv_room (Nat.le_of_ble_eq_true rfl)) dX12_goesAsPawn_80 ⟨Nat.le_of_ble_eq_true rfl, Nat.le_of_ble_eq_true rfl⟩) hW (fun r_12 S_13 H locs hp hW => ?_)
        obtain ⟨hX_S_13, hp⟩ := hp
        refine W.widen (k := 0) (n := 0) (by decide) (by decide) ?_
        have hE := hE.trans hX_S_13
        have hK_a0 : sK S_13 a0 = 17 := (hX_S_13.2 a0 hL_a0).1.trans hK_a0
        have hL_a0 : wM D S_13 a0 := hX_S_13.M hL_a0
        refine lv_aload_n hx hb dX12_goesAsPawn_83 rfl (lv_at hl 1 rfl) ?_
        refine lv_iload_n hx hb dX12_goesAsPawn_84 rfl (lv_at hl 3 rfl) ?_
        refine w_callI (va_runV (As := [.int x2]) (rest := [.int r_12]) F (c_X12_rankOf l hL_a0 hK_a0 hp H.size) (cwV (C := RX12) 1 hts (wg_V wm_RX12_138 wy_X12_rankOf) rfl rfl rfl (by decide +kernel) ⟨Nat.le_of_ble_eq_true rfl, Nat.le_of_ble_eq_true rfl⟩) (w_preV hK hW hL_a0 hK_a0 (by decide) rfl) rfl rfl hl.1 rfl (lv_room (Nat.le_of_ble_eq_true rfl)) dX12_goesAsPawn_85 ⟨Nat.le_of_ble_eq_true rfl, Nat.le_of_ble_eq_true rfl⟩) hW (fun r_14 S_15 H locs hp hW => ?_)
        obtain ⟨hX_S_15, hp⟩ := hp
        refine W.widen (k := 0) (n := 0) (by decide) (by decide) ?_
        have hE := hE.trans hX_S_15
        have hK_a0 : sK S_15 a0 = 17 := (hX_S_15.2 a0 hL_a0).1.trans hK_a0
        have hL_a0 : wM D S_15 a0 := hX_S_15.M hL_a0
        refine lv_isub hx hb dX12_goesAsPawn_88 ?_
        refine lv_iload hx hb dX12_goesAsPawn_89 (lv_at hl 0 rfl) ?_
        refine lv_imul hx hb dX12_goesAsPawn_91 ?_
        refine lv_topi (fun x_16 ex_16 => ?_)
        replace hp := hp x_16 ex_16
        refine lv_istore (lv' := [(6, .int x_16), (5, .int t0), (0, .ref a0), (1, .int x1), (2, .int x2), (3, .int x3), (4, .int x4)]) hx hb dX12_goesAsPawn_92 hl (by decide) rfl (fun ls hl => ?_)
        refine lv_iload hx hb dX12_goesAsPawn_94 (lv_at hl 0 rfl) ?_
        refine lv_iconst (v := 1) hx hb dX12_goesAsPawn_96 (by decide) ?_
        refine lv_icmp_eq (tgt := 149) hx hb dX12_goesAsPawn_97 (by decide) (fun c_17 => ?_) (fun c_17 => ?_)
        · replace hp := hp.1 c_17
          exact t_X12_goesAsPawn_149 F hr hlocks hK hp hW hE (lv_sub hl [] rfl)
        · replace hp := hp.2 c_17
          refine lv_iload hx hb dX12_goesAsPawn_100 (lv_at hl 0 rfl) ?_
          refine lv_iconst (v := 2) hx hb dX12_goesAsPawn_102 (by decide) ?_
          refine lv_icmp_ne (tgt := 153) hx hb dX12_goesAsPawn_103 (by decide) (fun c_18 => ?_) (fun c_18 => ?_)
          · replace hp := hp.1 c_18
            exact t_X12_goesAsPawn_153 F hr hlocks hK hp hW hE (lv_sub hl [] rfl)
          · replace hp := hp.2 c_18
            refine lv_aload_n hx hb dX12_goesAsPawn_106 rfl (lv_at hl 2 rfl) ?_
            refine w_get (k := 17) (f := 2) (T := TX12) (v := .int (sI S_15 a0 2)) F hK hW hL_a0 hK_a0 (by decide) rfl rfl (by decide) i_17 k_13 rfl dX12_goesAsPawn_107 ?_
            refine lv_bipush (v := 6) hx hb dX12_goesAsPawn_110 (by decide) ?_
            refine lv_icmp_lt (tgt := 153) hx hb dX12_goesAsPawn_112 (by decide) (fun c_19 => ?_) (fun c_19 => ?_)
            · replace hp := hp.1 c_19
              exact t_X12_goesAsPawn_153 F hr hlocks hK hp hW hE (lv_sub hl [] rfl)
            · replace hp := hp.2 c_19
              refine lv_aload_n hx hb dX12_goesAsPawn_115 rfl (lv_at hl 2 rfl) ?_
              refine lv_iload_n hx hb dX12_goesAsPawn_116 rfl (lv_at hl 4 rfl) ?_
              refine w_callI (va_runV (As := [.int x2]) (rest := []) F (c_X12_rankOf l hL_a0 hK_a0 hp H.size) (cwV (C := RX12) 1 hts (wg_V wm_RX12_138 wy_X12_rankOf) rfl rfl rfl (by decide +kernel) ⟨Nat.le_of_ble_eq_true rfl, Nat.le_of_ble_eq_true rfl⟩) (w_preV hK hW hL_a0 hK_a0 (by decide) rfl) rfl rfl hl.1 rfl (lv_room (Nat.le_of_ble_eq_true rfl)) dX12_goesAsPawn_117 ⟨Nat.le_of_ble_eq_true rfl, Nat.le_of_ble_eq_true rfl⟩) hW (fun r_20 S_21 H locs hp hW => ?_)
              obtain ⟨hX_S_21, hp⟩ := hp
              refine W.widen (k := 0) (n := 0) (by decide) (by decide) ?_
              have hE := hE.trans hX_S_21
              have hK_a0 : sK S_21 a0 = 17 := (hX_S_21.2 a0 hL_a0).1.trans hK_a0
              have hL_a0 : wM D S_21 a0 := hX_S_21.M hL_a0
              refine lv_aload_n hx hb dX12_goesAsPawn_120 rfl (lv_at hl 2 rfl) ?_
              refine lv_iload hx hb dX12_goesAsPawn_121 (lv_at hl 6 rfl) ?_
              refine w_callI (va_runV (As := [.int x4]) (rest := [.int r_20]) F (c_X12_firstRank l hL_a0 hK_a0 hp H.size) (cwV (C := RX12) 1 hts (wg_V wm_RX12_170 wy_X12_firstRank) rfl rfl rfl (by decide +kernel) ⟨Nat.le_of_ble_eq_true rfl, Nat.le_of_ble_eq_true rfl⟩) (w_preV hK hW hL_a0 hK_a0 (by decide) rfl) rfl rfl hl.1 rfl (lv_room (Nat.le_of_ble_eq_true rfl)) dX12_goesAsPawn_123 ⟨Nat.le_of_ble_eq_true rfl, Nat.le_of_ble_eq_true rfl⟩) hW (fun r_22 S_23 H locs hp hW => ?_)
              obtain ⟨hX_S_23, hp⟩ := hp
              refine W.widen (k := 0) (n := 0) (by decide) (by decide) ?_
              have hE := hE.trans hX_S_23
              have hK_a0 : sK S_23 a0 = 17 := (hX_S_23.2 a0 hL_a0).1.trans hK_a0
              have hL_a0 : wM D S_23 a0 := hX_S_23.M hL_a0
              refine lv_iload hx hb dX12_goesAsPawn_126 (lv_at hl 1 rfl) ?_
              refine lv_iadd hx hb dX12_goesAsPawn_128 ?_
              refine lv_icmp_ne (tgt := 153) hx hb dX12_goesAsPawn_129 (by decide) (fun c_24 => ?_) (fun c_24 => ?_)
              · replace hp := hp.1 c_24
                exact t_X12_goesAsPawn_153 F hr hlocks hK hp hW hE (lv_sub hl [] rfl)
              · replace hp := hp.2 c_24
                refine lv_aload_n hx hb dX12_goesAsPawn_132 rfl (lv_at hl 2 rfl) ?_
                refine lv_iload_n hx hb dX12_goesAsPawn_133 rfl (lv_at hl 3 rfl) ?_
                refine lv_iload_n hx hb dX12_goesAsPawn_134 rfl (lv_at hl 4 rfl) ?_
                refine lv_iload hx hb dX12_goesAsPawn_135 (lv_at hl 1 rfl) ?_
                refine lv_aload_n hx hb dX12_goesAsPawn_137 rfl (lv_at hl 2 rfl) ?_
                refine w_get (k := 17) (f := 1) (T := TX12) (v := .int (sI S_23 a0 1)) F hK hW hL_a0 hK_a0 (by decide) rfl rfl (by decide) i_17 k_9 rfl dX12_goesAsPawn_138 ?_
                refine lv_imul hx hb dX12_goesAsPawn_141 ?_
                refine lv_iadd hx hb dX12_goesAsPawn_142 ?_
                refine w_callI (va_runV (As := [.int x1, .int (x2 + (t0 * (sI S_23 a0 1)))]) (rest := []) F (c_X12_on l hL_a0 hK_a0 hp H.size) (cwV (C := RX12) 2 hts (wg_V wm_RX12_141 wy_X12_on) rfl rfl rfl (by decide +kernel) ⟨Nat.le_of_ble_eq_true rfl, Nat.le_of_ble_eq_true rfl⟩) (w_preV hK hW hL_a0 hK_a0 (by decide) rfl) rfl rfl hl.1 rfl (lv_room (Nat.le_of_ble_eq_true rfl)) dX12_goesAsPawn_143 ⟨Nat.le_of_ble_eq_true rfl, Nat.le_of_ble_eq_true rfl⟩) hW (fun r_25 S_26 H locs hp hW => ?_)
                obtain ⟨hX_S_26, hp⟩ := hp
                refine W.widen (k := 0) (n := 0) (by decide) (by decide) ?_
                have hE := hE.trans hX_S_26
                have hK_a0 : sK S_26 a0 = 17 := (hX_S_26.2 a0 hL_a0).1.trans hK_a0
                have hL_a0 : wM D S_26 a0 := hX_S_26.M hL_a0
                refine lv_if_ne (tgt := 153) hx hb dX12_goesAsPawn_146 (by decide) (fun c_27 => ?_) (fun c_27 => ?_)
                · replace hp := hp.1 c_27
                  exact t_X12_goesAsPawn_153 F hr hlocks hK hp hW hE (lv_sub hl [] rfl)
                · replace hp := hp.2 c_27
                  exact t_X12_goesAsPawn_149 F hr hlocks hK hp hW hE (lv_sub hl [] rfl)
      · replace hp := hp.2 c_11
        exact t_X12_goesAsPawn_76 F hr hlocks hK hp hW hE (lv_sub hl [] rfl)
  · replace hp := hp.2 c_3
    refine lv_aload_n hx hb dX12_goesAsPawn_30 rfl (lv_at hl 1 rfl) ?_
    refine lv_iload_n hx hb dX12_goesAsPawn_31 rfl (lv_at hl 2 rfl) ?_
    refine lv_iload_n hx hb dX12_goesAsPawn_32 rfl (lv_at hl 4 rfl) ?_
    refine w_callI (va_runV (As := [.int x1, .int x3]) (rest := []) F (c_X12_on l hL_a0 hK_a0 hp H.size) (cwV (C := RX12) 2 hts (wg_V wm_RX12_141 wy_X12_on) rfl rfl rfl (by decide +kernel) ⟨Nat.le_of_ble_eq_true rfl, Nat.le_of_ble_eq_true rfl⟩) (w_preV hK hW hL_a0 hK_a0 (by decide) rfl) rfl rfl hl.1 rfl (lv_room (Nat.le_of_ble_eq_true rfl)) dX12_goesAsPawn_33 ⟨Nat.le_of_ble_eq_true rfl, Nat.le_of_ble_eq_true rfl⟩) hW (fun r_28 S_29 H locs hp hW => ?_)
    obtain ⟨hX_S_29, hp⟩ := hp
    refine W.widen (k := 0) (n := 0) (by decide) (by decide) ?_
    have hE := hE.trans hX_S_29
    have hK_a0 : sK S_29 a0 = 17 := (hX_S_29.2 a0 hL_a0).1.trans hK_a0
    have hL_a0 : wM D S_29 a0 := hX_S_29.M hL_a0
    refine lv_if_ne (tgt := 48) hx hb dX12_goesAsPawn_36 (by decide) (fun c_30 => ?_) (fun c_30 => ?_)
    · replace hp := hp.1 c_30
      exact t_X12_goesAsPawn_48 F hr hlocks hK hp hW hE (lv_sub hl [] rfl)
    · replace hp := hp.2 c_30
      refine lv_iload_n hx hb dX12_goesAsPawn_39 rfl (lv_at hl 4 rfl) ?_
      refine lv_aload_n hx hb dX12_goesAsPawn_40 rfl (lv_at hl 1 rfl) ?_
      refine lv_iload_n hx hb dX12_goesAsPawn_41 rfl (lv_at hl 2 rfl) ?_
      refine w_callI (va_runV (As := [.int x1]) (rest := [.int x3]) F (c_X12_passing l hL_a0 hK_a0 hp H.size) (cwV (C := RX12) 1 hts (wg_V wm_RX12_201 wy_X12_passing) rfl rfl rfl (by decide +kernel) ⟨Nat.le_of_ble_eq_true rfl, Nat.le_of_ble_eq_true rfl⟩) (w_preV hK hW hL_a0 hK_a0 (by decide) rfl) rfl rfl hl.1 rfl (lv_room (Nat.le_of_ble_eq_true rfl)) dX12_goesAsPawn_42 ⟨Nat.le_of_ble_eq_true rfl, Nat.le_of_ble_eq_true rfl⟩) hW (fun r_31 S_32 H locs hp hW => ?_)
      obtain ⟨hX_S_32, hp⟩ := hp
      refine W.widen (k := 0) (n := 0) (by decide) (by decide) ?_
      have hE := hE.trans hX_S_32
      have hK_a0 : sK S_32 a0 = 17 := (hX_S_32.2 a0 hL_a0).1.trans hK_a0
      have hL_a0 : wM D S_32 a0 := hX_S_32.M hL_a0
      refine lv_icmp_ne (tgt := 52) hx hb dX12_goesAsPawn_45 (by decide) (fun c_33 => ?_) (fun c_33 => ?_)
      · replace hp := hp.1 c_33
        refine lv_iconst (v := 0) hx hb dX12_goesAsPawn_52 (by decide) ?_
        exact t_X12_goesAsPawn_53 F hr hlocks hK hp hW hE (lv_sub hl [] rfl)
      · replace hp := hp.2 c_33
        exact t_X12_goesAsPawn_48 F hr hlocks hK hp hW hE (lv_sub hl [] rfl)
set_option maxHeartbeats 4000000 in
set_option maxRecDepth 100000 in
theorem t_X12_goesAsPawn_0 {p : Program} {l : Launch} {e : Env} {s : State} {m : MethodId} {args : Array Value} {below : List Frame} {meth : Method} {c : Code} {D : wD} {cy : Nat → ClassId} {X : va_W} {A : Nat → Prop} {S0 : wS} {post : Int32 → wS → Prop} (F : CallFix p m c cX12_goesAsPawn 7 s args wz_X12_goesAsPawn RX12) (hr : meth.sig.returnType = (some .boolean)) (hlocks : meth.locks = false) (hK : wK D cy A s) : ∀ {S : wS} {H : Heap} {locs : List Loc} {ls : Array Slot} {a0 : Nat} {x1 : Int32} {x2 : Int32} {x3 : Int32}, wp_X12_goesAsPawn_0 D post S a0 x1 x2 x3 → wO D cy X A s.heap S H locs → wX D S0 S → lv_has ls 7 [(0, .ref a0), (1, .int x1), (2, .int x2), (3, .int x3)] → wM D S a0 → sK S a0 = 17 → W p l e r_X12_goesAsPawn s m args below meth c H locs 0 0 (MQ below (va_Qi (fun r S9 => wX D S0 S9 ∧ post r S9) (wB D cy X A) A) args s 0 0 A) (F0 m 0 ls []) := by
  obtain ⟨hx, hb, hml, hown, hts⟩ := id F
  have hwg : ∀ w ∈ WG, w.before args s = true := fun w h => hts w (List.mem_cons_of_mem _ h)
  intro S H locs ls a0 x1 x2 x3 hp hW hE hl hL_a0 hK_a0
  unfold wp_X12_goesAsPawn_0 at hp
  refine lv_aload_n hx hb dX12_goesAsPawn_0 rfl (lv_at hl 0 rfl) ?_
  refine lv_iload_n hx hb dX12_goesAsPawn_1 rfl (lv_at hl 1 rfl) ?_
  refine w_callI (va_runV (As := [.int x1]) (rest := []) F (c_X12_side l hL_a0 hK_a0 hp H.size) (cwV (C := RX12) 1 hts (wg_V wm_RX12_183 wy_X12_side) rfl rfl rfl (by decide +kernel) ⟨Nat.le_of_ble_eq_true rfl, Nat.le_of_ble_eq_true rfl⟩) (w_preV hK hW hL_a0 hK_a0 (by decide) rfl) rfl rfl hl.1 rfl (lv_room (Nat.le_of_ble_eq_true rfl)) dX12_goesAsPawn_2 ⟨Nat.le_of_ble_eq_true rfl, Nat.le_of_ble_eq_true rfl⟩) hW (fun r_1 S_2 H locs hp hW => ?_)
  obtain ⟨hX_S_2, hp⟩ := hp
  refine W.widen (k := 0) (n := 0) (by decide) (by decide) ?_
  have hE := hE.trans hX_S_2
  have hK_a0 : sK S_2 a0 = 17 := (hX_S_2.2 a0 hL_a0).1.trans hK_a0
  have hL_a0 : wM D S_2 a0 := hX_S_2.M hL_a0
  refine lv_istore (lv' := [(4, .int r_1), (0, .ref a0), (1, .int x1), (2, .int x2), (3, .int x3)]) hx hb dX12_goesAsPawn_5 hl (by decide) rfl (fun ls hl => ?_)
  refine lv_iload hx hb dX12_goesAsPawn_7 (lv_at hl 0 rfl) ?_
  refine lv_iconst (v := 1) hx hb dX12_goesAsPawn_9 (by decide) ?_
  refine lv_icmp_ne (tgt := 17) hx hb dX12_goesAsPawn_10 (by decide) (fun c_3 => ?_) (fun c_3 => ?_)
  · replace hp := hp.1 c_3
    refine lv_iconst (v := (-1)) hx hb dX12_goesAsPawn_17 (by decide) ?_
    exact t_X12_goesAsPawn_18 F hr hlocks hK hp hW hE (lv_sub hl [1, 2, 3, 4, 0] rfl) hL_a0 hK_a0
  · replace hp := hp.2 c_3
    refine lv_iconst (v := 1) hx hb dX12_goesAsPawn_13 (by decide) ?_
    refine lv_goto (tgt := 18) hx hb dX12_goesAsPawn_14 (by decide) ?_
    exact t_X12_goesAsPawn_18 F hr hlocks hK hp hW hE (lv_sub hl [1, 2, 3, 4, 0] rfl) hL_a0 hK_a0
set_option maxHeartbeats 4000000 in
set_option maxRecDepth 100000 in
theorem c_X12_goesAsPawn (l : Launch) {D : wD} {cy : Nat → ClassId} {X : va_W} {S0 : wS} {post : Int32 → wS → Prop} {a0 : Nat} {x1 : Int32} {x2 : Int32} {x3 : Int32} (hL_a0 : wM D S0 a0) (hK_a0 : sK S0 a0 = 17) (hp : wp_X12_goesAsPawn D post S0 a0 x1 x2 x3) : mI D cy X l yX12_goesAsPawn wz_X12_goesAsPawn r_X12_goesAsPawn [.ref a0, .int x1, .int x2, .int x3] S0 (fun r S9 => wX D S0 S9 ∧ post r S9) := by
  intro sz
  refine Met.ofW (cc := cX12_goesAsPawn) (maxL := 7) (ret := (some .boolean)) (by decide) rfl ?_
  intro p e s m args below meth c s₁ B hml hv
  obtain ⟨rfl, hsz, hP, hK, hD0, hRO⟩ := hv
  have hts := atoms_spec (ws := wz_X12_goesAsPawn) B.pre
  have hown : s.vm.findClass RX12 = some m.cls := findClass_of_methodNamed B.named
  subst hsz
  have hD := hD0.self (sz := s.heap.size)
  have F : CallFix p m c cX12_goesAsPawn 7 s _ wz_X12_goesAsPawn RX12 := ⟨B.exec, B.bytes, hml, hown, hts⟩
  have hr := B.returns
  have hlocks := B.notSynchronized
  generalize hAe : va_A (wL cy X S0) s.heap.size = A at hD hK ⊢
  have hA : ∀ q, s.heap.size ≤ q → A q := fun q h => by rw [← hAe]; exact Or.inr h
  have hW : wO D cy X A s.heap S0 s.heap [] := ⟨hP, hD, va_S.rf, hA, hRO⟩
  have hl := lv_entry ([.ref a0, .int x1, .int x2, .int x3]) (n := 7) (Nat.le_of_ble_eq_true rfl)
  rw [lg_entry_eq]
  generalize (lg_sl ([.ref a0, .int x1, .int x2, .int x3]) ++ List.replicate (7 - (lg_sl ([.ref a0, .int x1, .int x2, .int x3])).length) Slot.unset).toArray = ls at hl ⊢
  have hl : lv_has ls 7 [(0, .ref a0), (1, .int x1), (2, .int x2), (3, .int x3)] := hl
  unfold wp_X12_goesAsPawn at hp
  exact t_X12_goesAsPawn_0 F hr hlocks hK hp hW wX.rf (lv_sub hl [0, 1, 2, 3] rfl) hL_a0 hK_a0
def wp_X12_goes_85 (D : wD) (post : Int32 → wS → Prop)  (S : wS) (t0 : Int32) : Prop :=
narrow .boolean (.int t0) = .int t0 ∧ post t0 S
def wp_X12_goes_84 (D : wD) (post : Int32 → wS → Prop)  (S : wS) : Prop :=
wp_X12_goes_85 D post S (0 : Int32)
def wp_X12_goes_80 (D : wD) (post : Int32 → wS → Prop)  (S : wS) : Prop :=
wp_X12_goes_85 D post S (1 : Int32)
def wp_X12_goes_26 (D : wD) (post : Int32 → wS → Prop)  (S : wS) : Prop :=
narrow .boolean (.int (0 : Int32)) = .int (0 : Int32) ∧ post (0 : Int32) S
def wp_X12_goes_0 (D : wD) (post : Int32 → wS → Prop)  (S : wS) (a0 : Nat) (x1 : Int32) (x2 : Int32) (x3 : Int32) : Prop :=
wp_X12_side D (fun r_1 S_2 => 
((x2 = x3 → wp_X12_goes_26 D post S_2) ∧
 (¬ x2 = x3 → wp_X12_on D (fun r_4 S_5 => 
wp_X12_isOf D (fun r_6 S_7 => 
((r_6 = 0 → wp_X12_on D (fun r_9 S_10 => 
wp_X12_kindOf D (fun r_11 S_12 => 
((¬ r_11 = (6 : Int32) → wp_X12_attacks D (fun r_14 S_15 => 
((¬ r_14 = 0 → wp_X12_goes_80 D post S_15) ∧
 (r_14 = 0 → ((¬ r_11 = (1 : Int32) → wp_X12_goes_84 D post S_15) ∧
 (r_11 = (1 : Int32) → wp_X12_castles D (fun r_18 S_19 => 
((r_18 = 0 → wp_X12_goes_84 D post S_19) ∧
 (¬ r_18 = 0 → wp_X12_goes_80 D post S_19))) S_15 a0 x1 x2 x3))))) S_12 a0 x1 x2 x3) ∧
 (r_11 = (6 : Int32) → wp_X12_goesAsPawn D (fun r_21 S_22 => 
narrow .boolean (.int r_21) = .int r_21 ∧ post r_21 S_22) S_12 a0 x1 x2 x3))) S_10 r_9) S_7 a0 x1 x2) ∧
 (¬ r_6 = 0 → wp_X12_goes_26 D post S_7))) S_5 r_4 r_1) S_2 a0 x1 x3))) S a0 x1
abbrev r_X12_goes : Room := { frames := 5, cells := 0, slots := 0, locals := 126 }
def wp_X12_goes (D : wD) (post : Int32 → wS → Prop) (S : wS) (a0 : Nat) (x1 : Int32) (x2 : Int32) (x3 : Int32) : Prop := wp_X12_goes_0 D post S a0 x1 x2 x3
set_option maxHeartbeats 4000000 in
set_option maxRecDepth 100000 in
theorem t_X12_goes_85 {p : Program} {l : Launch} {e : Env} {s : State} {m : MethodId} {args : Array Value} {below : List Frame} {meth : Method} {c : Code} {D : wD} {cy : Nat → ClassId} {X : va_W} {A : Nat → Prop} {S0 : wS} {post : Int32 → wS → Prop} (F : CallFix p m c cX12_goes 6 s args wz_X12_goes RX12) (hr : meth.sig.returnType = (some .boolean)) (hlocks : meth.locks = false) (hK : wK D cy A s) : ∀ {S : wS} {H : Heap} {locs : List Loc} {ls : Array Slot} {t0 : Int32}, wp_X12_goes_85 D post S t0 → wO D cy X A s.heap S H locs → wX D S0 S → lv_has ls 6 [] → W p l e r_X12_goes s m args below meth c H locs 0 0 (MQ below (va_Qi (fun r S9 => wX D S0 S9 ∧ post r S9) (wB D cy X A) A) args s 0 0 A) (F0 m 85 ls [.int t0]) := by
  obtain ⟨hx, hb, hml, hown, hts⟩ := id F
  have hwg : ∀ w ∈ WG, w.before args s = true := fun w h => hts w (List.mem_cons_of_mem _ h)
  intro S H locs ls t0 hp hW hE hl
  unfold wp_X12_goes_85 at hp
  exact w_zret hx hb hr hlocks hW hp.1 ⟨hE, hp.2⟩ dX12_goes_85
set_option maxHeartbeats 4000000 in
set_option maxRecDepth 100000 in
theorem t_X12_goes_84 {p : Program} {l : Launch} {e : Env} {s : State} {m : MethodId} {args : Array Value} {below : List Frame} {meth : Method} {c : Code} {D : wD} {cy : Nat → ClassId} {X : va_W} {A : Nat → Prop} {S0 : wS} {post : Int32 → wS → Prop} (F : CallFix p m c cX12_goes 6 s args wz_X12_goes RX12) (hr : meth.sig.returnType = (some .boolean)) (hlocks : meth.locks = false) (hK : wK D cy A s) : ∀ {S : wS} {H : Heap} {locs : List Loc} {ls : Array Slot}, wp_X12_goes_84 D post S → wO D cy X A s.heap S H locs → wX D S0 S → lv_has ls 6 [] → W p l e r_X12_goes s m args below meth c H locs 0 0 (MQ below (va_Qi (fun r S9 => wX D S0 S9 ∧ post r S9) (wB D cy X A) A) args s 0 0 A) (F0 m 84 ls []) := by
  obtain ⟨hx, hb, hml, hown, hts⟩ := id F
  have hwg : ∀ w ∈ WG, w.before args s = true := fun w h => hts w (List.mem_cons_of_mem _ h)
  intro S H locs ls hp hW hE hl
  unfold wp_X12_goes_84 at hp
  refine lv_iconst (v := 0) hx hb dX12_goes_84 (by decide) ?_
  exact t_X12_goes_85 F hr hlocks hK hp hW hE (lv_sub hl [] rfl)
set_option maxHeartbeats 4000000 in
set_option maxRecDepth 100000 in
theorem t_X12_goes_80 {p : Program} {l : Launch} {e : Env} {s : State} {m : MethodId} {args : Array Value} {below : List Frame} {meth : Method} {c : Code} {D : wD} {cy : Nat → ClassId} {X : va_W} {A : Nat → Prop} {S0 : wS} {post : Int32 → wS → Prop} (F : CallFix p m c cX12_goes 6 s args wz_X12_goes RX12) (hr : meth.sig.returnType = (some .boolean)) (hlocks : meth.locks = false) (hK : wK D cy A s) : ∀ {S : wS} {H : Heap} {locs : List Loc} {ls : Array Slot}, wp_X12_goes_80 D post S → wO D cy X A s.heap S H locs → wX D S0 S → lv_has ls 6 [] → W p l e r_X12_goes s m args below meth c H locs 0 0 (MQ below (va_Qi (fun r S9 => wX D S0 S9 ∧ post r S9) (wB D cy X A) A) args s 0 0 A) (F0 m 80 ls []) := by
  obtain ⟨hx, hb, hml, hown, hts⟩ := id F
  have hwg : ∀ w ∈ WG, w.before args s = true := fun w h => hts w (List.mem_cons_of_mem _ h)
  intro S H locs ls hp hW hE hl
  unfold wp_X12_goes_80 at hp
  refine lv_iconst (v := 1) hx hb dX12_goes_80 (by decide) ?_
  refine lv_goto (tgt := 85) hx hb dX12_goes_81 (by decide) ?_
  exact t_X12_goes_85 F hr hlocks hK hp hW hE (lv_sub hl [] rfl)
set_option maxHeartbeats 4000000 in
set_option maxRecDepth 100000 in
theorem t_X12_goes_26 {p : Program} {l : Launch} {e : Env} {s : State} {m : MethodId} {args : Array Value} {below : List Frame} {meth : Method} {c : Code} {D : wD} {cy : Nat → ClassId} {X : va_W} {A : Nat → Prop} {S0 : wS} {post : Int32 → wS → Prop} (F : CallFix p m c cX12_goes 6 s args wz_X12_goes RX12) (hr : meth.sig.returnType = (some .boolean)) (hlocks : meth.locks = false) (hK : wK D cy A s) : ∀ {S : wS} {H : Heap} {locs : List Loc} {ls : Array Slot}, wp_X12_goes_26 D post S → wO D cy X A s.heap S H locs → wX D S0 S → lv_has ls 6 [] → W p l e r_X12_goes s m args below meth c H locs 0 0 (MQ below (va_Qi (fun r S9 => wX D S0 S9 ∧ post r S9) (wB D cy X A) A) args s 0 0 A) (F0 m 26 ls []) := by
  obtain ⟨hx, hb, hml, hown, hts⟩ := id F
  have hwg : ∀ w ∈ WG, w.before args s = true := fun w h => hts w (List.mem_cons_of_mem _ h)
  intro S H locs ls hp hW hE hl
  unfold wp_X12_goes_26 at hp
  refine lv_iconst (v := 0) hx hb dX12_goes_26 (by decide) ?_
  exact w_zret hx hb hr hlocks hW hp.1 ⟨hE, hp.2⟩ dX12_goes_27
set_option maxHeartbeats 4000000 in
set_option maxRecDepth 100000 in
theorem t_X12_goes_0 {p : Program} {l : Launch} {e : Env} {s : State} {m : MethodId} {args : Array Value} {below : List Frame} {meth : Method} {c : Code} {D : wD} {cy : Nat → ClassId} {X : va_W} {A : Nat → Prop} {S0 : wS} {post : Int32 → wS → Prop} (F : CallFix p m c cX12_goes 6 s args wz_X12_goes RX12) (hr : meth.sig.returnType = (some .boolean)) (hlocks : meth.locks = false) (hK : wK D cy A s) : ∀ {S : wS} {H : Heap} {locs : List Loc} {ls : Array Slot} {a0 : Nat} {x1 : Int32} {x2 : Int32} {x3 : Int32}, wp_X12_goes_0 D post S a0 x1 x2 x3 → wO D cy X A s.heap S H locs → wX D S0 S → lv_has ls 6 [(0, .ref a0), (1, .int x1), (2, .int x2), (3, .int x3)] → wM D S a0 → sK S a0 = 17 → W p l e r_X12_goes s m args below meth c H locs 0 0 (MQ below (va_Qi (fun r S9 => wX D S0 S9 ∧ post r S9) (wB D cy X A) A) args s 0 0 A) (F0 m 0 ls []) := by
  obtain ⟨hx, hb, hml, hown, hts⟩ := id F
  have hwg : ∀ w ∈ WG, w.before args s = true := fun w h => hts w (List.mem_cons_of_mem _ h)
  intro S H locs ls a0 x1 x2 x3 hp hW hE hl hL_a0 hK_a0
  unfold wp_X12_goes_0 at hp
  refine lv_aload_n hx hb dX12_goes_0 rfl (lv_at hl 0 rfl) ?_
  refine lv_iload_n hx hb dX12_goes_1 rfl (lv_at hl 1 rfl) ?_
  refine w_callI (va_runV (As := [.int x1]) (rest := []) F (c_X12_side l hL_a0 hK_a0 hp H.size) (cwV (C := RX12) 1 hts (wg_V wm_RX12_183 wy_X12_side) rfl rfl rfl (by decide +kernel) ⟨Nat.le_of_ble_eq_true rfl, Nat.le_of_ble_eq_true rfl⟩) (w_preV hK hW hL_a0 hK_a0 (by decide) rfl) rfl rfl hl.1 rfl (lv_room (Nat.le_of_ble_eq_true rfl)) dX12_goes_2 ⟨Nat.le_of_ble_eq_true rfl, Nat.le_of_ble_eq_true rfl⟩) hW (fun r_1 S_2 H locs hp hW => ?_)
  obtain ⟨hX_S_2, hp⟩ := hp
  refine W.widen (k := 0) (n := 0) (by decide) (by decide) ?_
  have hE := hE.trans hX_S_2
  have hK_a0 : sK S_2 a0 = 17 := (hX_S_2.2 a0 hL_a0).1.trans hK_a0
  have hL_a0 : wM D S_2 a0 := hX_S_2.M hL_a0
  refine lv_istore (lv' := [(4, .int r_1), (0, .ref a0), (1, .int x1), (2, .int x2), (3, .int x3)]) hx hb dX12_goes_5 hl (by decide) rfl (fun ls hl => ?_)
  refine lv_iload_n hx hb dX12_goes_7 rfl (lv_at hl 3 rfl) ?_
  refine lv_iload_n hx hb dX12_goes_8 rfl (lv_at hl 4 rfl) ?_
  refine lv_icmp_eq (tgt := 26) hx hb dX12_goes_9 (by decide) (fun c_3 => ?_) (fun c_3 => ?_)
  · replace hp := hp.1 c_3
    exact t_X12_goes_26 F hr hlocks hK hp hW hE (lv_sub hl [] rfl)
  · replace hp := hp.2 c_3
    refine lv_aload_n hx hb dX12_goes_12 rfl (lv_at hl 1 rfl) ?_
    refine lv_iload_n hx hb dX12_goes_13 rfl (lv_at hl 2 rfl) ?_
    refine lv_iload_n hx hb dX12_goes_14 rfl (lv_at hl 4 rfl) ?_
    refine w_callI (va_runV (As := [.int x1, .int x3]) (rest := []) F (c_X12_on l hL_a0 hK_a0 hp H.size) (cwV (C := RX12) 2 hts (wg_V wm_RX12_141 wy_X12_on) rfl rfl rfl (by decide +kernel) ⟨Nat.le_of_ble_eq_true rfl, Nat.le_of_ble_eq_true rfl⟩) (w_preV hK hW hL_a0 hK_a0 (by decide) rfl) rfl rfl hl.1 rfl (lv_room (Nat.le_of_ble_eq_true rfl)) dX12_goes_15 ⟨Nat.le_of_ble_eq_true rfl, Nat.le_of_ble_eq_true rfl⟩) hW (fun r_4 S_5 H locs hp hW => ?_)
    obtain ⟨hX_S_5, hp⟩ := hp
    refine W.widen (k := 0) (n := 0) (by decide) (by decide) ?_
    have hE := hE.trans hX_S_5
    have hK_a0 : sK S_5 a0 = 17 := (hX_S_5.2 a0 hL_a0).1.trans hK_a0
    have hL_a0 : wM D S_5 a0 := hX_S_5.M hL_a0
    refine lv_iload hx hb dX12_goes_18 (lv_at hl 0 rfl) ?_
    refine w_callI (va_runS (As := [.int r_4, .int r_1]) (rest := []) F (c_X12_isOf l hp H.size) (va_cwS 2 hts (wg_S wm_RX12_154 wy_X12_isOf) rfl rfl rfl (by decide +kernel) ⟨Nat.le_of_ble_eq_true rfl, Nat.le_of_ble_eq_true rfl⟩) (w_preS hK hW) rfl rfl hl.1 rfl (lv_room (Nat.le_of_ble_eq_true rfl)) dX12_goes_20 ⟨Nat.le_of_ble_eq_true rfl, Nat.le_of_ble_eq_true rfl⟩) hW (fun r_6 S_7 H locs hp hW => ?_)
    obtain ⟨hX_S_7, hp⟩ := hp
    refine W.widen (k := 0) (n := 0) (by decide) (by decide) ?_
    have hE := hE.trans hX_S_7
    have hK_a0 : sK S_7 a0 = 17 := (hX_S_7.2 a0 hL_a0).1.trans hK_a0
    have hL_a0 : wM D S_7 a0 := hX_S_7.M hL_a0
    refine lv_if_eq (tgt := 28) hx hb dX12_goes_23 (by decide) (fun c_8 => ?_) (fun c_8 => ?_)
    · replace hp := hp.1 c_8
      refine lv_aload_n hx hb dX12_goes_28 rfl (lv_at hl 1 rfl) ?_
      refine lv_iload_n hx hb dX12_goes_29 rfl (lv_at hl 2 rfl) ?_
      refine lv_iload_n hx hb dX12_goes_30 rfl (lv_at hl 3 rfl) ?_
      refine w_callI (va_runV (As := [.int x1, .int x2]) (rest := []) F (c_X12_on l hL_a0 hK_a0 hp H.size) (cwV (C := RX12) 2 hts (wg_V wm_RX12_141 wy_X12_on) rfl rfl rfl (by decide +kernel) ⟨Nat.le_of_ble_eq_true rfl, Nat.le_of_ble_eq_true rfl⟩) (w_preV hK hW hL_a0 hK_a0 (by decide) rfl) rfl rfl hl.1 rfl (lv_room (Nat.le_of_ble_eq_true rfl)) dX12_goes_31 ⟨Nat.le_of_ble_eq_true rfl, Nat.le_of_ble_eq_true rfl⟩) hW (fun r_9 S_10 H locs hp hW => ?_)
      obtain ⟨hX_S_10, hp⟩ := hp
      refine W.widen (k := 0) (n := 0) (by decide) (by decide) ?_
      have hE := hE.trans hX_S_10
      have hK_a0 : sK S_10 a0 = 17 := (hX_S_10.2 a0 hL_a0).1.trans hK_a0
      have hL_a0 : wM D S_10 a0 := hX_S_10.M hL_a0
      refine w_callI (va_runS (As := [.int r_9]) (rest := []) F (c_X12_kindOf l hp H.size) (va_cwS 1 hts (wg_S wm_RX12_148 wy_X12_kindOf) rfl rfl rfl (by decide +kernel) ⟨Nat.le_of_ble_eq_true rfl, Nat.le_of_ble_eq_true rfl⟩) (w_preS hK hW) rfl rfl hl.1 rfl (lv_room (Nat.le_of_ble_eq_true rfl)) dX12_goes_34 ⟨Nat.le_of_ble_eq_true rfl, Nat.le_of_ble_eq_true rfl⟩) hW (fun r_11 S_12 H locs hp hW => ?_)
      obtain ⟨hX_S_12, hp⟩ := hp
      refine W.widen (k := 0) (n := 0) (by decide) (by decide) ?_
      have hE := hE.trans hX_S_12
      have hK_a0 : sK S_12 a0 = 17 := (hX_S_12.2 a0 hL_a0).1.trans hK_a0
      have hL_a0 : wM D S_12 a0 := hX_S_12.M hL_a0
      refine lv_istore (lv' := [(5, .int r_11), (4, .int r_1), (0, .ref a0), (1, .int x1), (2, .int x2), (3, .int x3)]) hx hb dX12_goes_37 hl (by decide) rfl (fun ls hl => ?_)
      refine lv_iload hx hb dX12_goes_39 (lv_at hl 0 rfl) ?_
      refine lv_bipush (v := 6) hx hb dX12_goes_41 (by decide) ?_
      refine lv_icmp_ne (tgt := 54) hx hb dX12_goes_43 (by decide) (fun c_13 => ?_) (fun c_13 => ?_)
      · replace hp := hp.1 c_13
        refine lv_aload_n hx hb dX12_goes_54 rfl (lv_at hl 2 rfl) ?_
        refine lv_iload_n hx hb dX12_goes_55 rfl (lv_at hl 3 rfl) ?_
        refine lv_iload_n hx hb dX12_goes_56 rfl (lv_at hl 4 rfl) ?_
        refine lv_iload_n hx hb dX12_goes_57 rfl (lv_at hl 5 rfl) ?_
        refine w_callI (va_runV (As := [.int x1, .int x2, .int x3]) (rest := []) F (c_X12_attacks l hL_a0 hK_a0 hp H.size) (cwV (C := RX12) 3 hts (wg_V wm_RX12_158 wy_X12_attacks) rfl rfl rfl (by decide +kernel) ⟨Nat.le_of_ble_eq_true rfl, Nat.le_of_ble_eq_true rfl⟩) (w_preV hK hW hL_a0 hK_a0 (by decide) rfl) rfl rfl hl.1 rfl (lv_room (Nat.le_of_ble_eq_true rfl)) dX12_goes_58 ⟨Nat.le_of_ble_eq_true rfl, Nat.le_of_ble_eq_true rfl⟩) hW (fun r_14 S_15 H locs hp hW => ?_)
        obtain ⟨hX_S_15, hp⟩ := hp
        refine W.widen (k := 0) (n := 0) (by decide) (by decide) ?_
        have hE := hE.trans hX_S_15
        have hK_a0 : sK S_15 a0 = 17 := (hX_S_15.2 a0 hL_a0).1.trans hK_a0
        have hL_a0 : wM D S_15 a0 := hX_S_15.M hL_a0
        refine lv_if_ne (tgt := 80) hx hb dX12_goes_61 (by decide) (fun c_16 => ?_) (fun c_16 => ?_)
        · replace hp := hp.1 c_16
          exact t_X12_goes_80 F hr hlocks hK hp hW hE (lv_sub hl [] rfl)
        · replace hp := hp.2 c_16
          refine lv_iload hx hb dX12_goes_64 (lv_at hl 0 rfl) ?_
          refine lv_iconst (v := 1) hx hb dX12_goes_66 (by decide) ?_
          refine lv_icmp_ne (tgt := 84) hx hb dX12_goes_67 (by decide) (fun c_17 => ?_) (fun c_17 => ?_)
          · replace hp := hp.1 c_17
            exact t_X12_goes_84 F hr hlocks hK hp hW hE (lv_sub hl [] rfl)
          · replace hp := hp.2 c_17
            refine lv_aload_n hx hb dX12_goes_70 rfl (lv_at hl 2 rfl) ?_
            refine lv_iload_n hx hb dX12_goes_71 rfl (lv_at hl 3 rfl) ?_
            refine lv_iload_n hx hb dX12_goes_72 rfl (lv_at hl 4 rfl) ?_
            refine lv_iload_n hx hb dX12_goes_73 rfl (lv_at hl 5 rfl) ?_
            refine w_callI (va_runV (As := [.int x1, .int x2, .int x3]) (rest := []) F (c_X12_castles l hL_a0 hK_a0 hp H.size) (cwV (C := RX12) 3 hts (wg_V wm_RX12_198 wy_X12_castles) rfl rfl rfl (by decide +kernel) ⟨Nat.le_of_ble_eq_true rfl, Nat.le_of_ble_eq_true rfl⟩) (w_preV hK hW hL_a0 hK_a0 (by decide) rfl) rfl rfl hl.1 rfl (lv_room (Nat.le_of_ble_eq_true rfl)) dX12_goes_74 ⟨Nat.le_of_ble_eq_true rfl, Nat.le_of_ble_eq_true rfl⟩) hW (fun r_18 S_19 H locs hp hW => ?_)
            obtain ⟨hX_S_19, hp⟩ := hp
            refine W.widen (k := 0) (n := 0) (by decide) (by decide) ?_
            have hE := hE.trans hX_S_19
            have hK_a0 : sK S_19 a0 = 17 := (hX_S_19.2 a0 hL_a0).1.trans hK_a0
            have hL_a0 : wM D S_19 a0 := hX_S_19.M hL_a0
            refine lv_if_eq (tgt := 84) hx hb dX12_goes_77 (by decide) (fun c_20 => ?_) (fun c_20 => ?_)
            · replace hp := hp.1 c_20
              exact t_X12_goes_84 F hr hlocks hK hp hW hE (lv_sub hl [] rfl)
            · replace hp := hp.2 c_20
              exact t_X12_goes_80 F hr hlocks hK hp hW hE (lv_sub hl [] rfl)
      · replace hp := hp.2 c_13
        refine lv_aload_n hx hb dX12_goes_46 rfl (lv_at hl 2 rfl) ?_
        refine lv_iload_n hx hb dX12_goes_47 rfl (lv_at hl 3 rfl) ?_
        refine lv_iload_n hx hb dX12_goes_48 rfl (lv_at hl 4 rfl) ?_
        refine lv_iload_n hx hb dX12_goes_49 rfl (lv_at hl 5 rfl) ?_
        refine w_callI (va_runV (As := [.int x1, .int x2, .int x3]) (rest := []) F (c_X12_goesAsPawn l hL_a0 hK_a0 hp H.size) (cwV (C := RX12) 3 hts (wg_V wm_RX12_195 wy_X12_goesAsPawn) rfl rfl rfl (by decide +kernel) ⟨Nat.le_of_ble_eq_true rfl, Nat.le_of_ble_eq_true rfl⟩) (w_preV hK hW hL_a0 hK_a0 (by decide) rfl) rfl rfl hl.1 rfl (lv_room (Nat.le_of_ble_eq_true rfl)) dX12_goes_50 ⟨Nat.le_of_ble_eq_true rfl, Nat.le_of_ble_eq_true rfl⟩) hW (fun r_21 S_22 H locs hp hW => ?_)
        obtain ⟨hX_S_22, hp⟩ := hp
        refine W.widen (k := 0) (n := 0) (by decide) (by decide) ?_
        have hE := hE.trans hX_S_22
        have hK_a0 : sK S_22 a0 = 17 := (hX_S_22.2 a0 hL_a0).1.trans hK_a0
        have hL_a0 : wM D S_22 a0 := hX_S_22.M hL_a0
        exact w_zret hx hb hr hlocks hW hp.1 ⟨hE, hp.2⟩ dX12_goes_53
    · replace hp := hp.2 c_8
      exact t_X12_goes_26 F hr hlocks hK hp hW hE (lv_sub hl [] rfl)
set_option maxHeartbeats 4000000 in
set_option maxRecDepth 100000 in
theorem c_X12_goes (l : Launch) {D : wD} {cy : Nat → ClassId} {X : va_W} {S0 : wS} {post : Int32 → wS → Prop} {a0 : Nat} {x1 : Int32} {x2 : Int32} {x3 : Int32} (hL_a0 : wM D S0 a0) (hK_a0 : sK S0 a0 = 17) (hp : wp_X12_goes D post S0 a0 x1 x2 x3) : mI D cy X l yX12_goes wz_X12_goes r_X12_goes [.ref a0, .int x1, .int x2, .int x3] S0 (fun r S9 => wX D S0 S9 ∧ post r S9) := by
  intro sz
  refine Met.ofW (cc := cX12_goes) (maxL := 6) (ret := (some .boolean)) (by decide) rfl ?_
  intro p e s m args below meth c s₁ B hml hv
  obtain ⟨rfl, hsz, hP, hK, hD0, hRO⟩ := hv
  have hts := atoms_spec (ws := wz_X12_goes) B.pre
  have hown : s.vm.findClass RX12 = some m.cls := findClass_of_methodNamed B.named
  subst hsz
  have hD := hD0.self (sz := s.heap.size)
  have F : CallFix p m c cX12_goes 6 s _ wz_X12_goes RX12 := ⟨B.exec, B.bytes, hml, hown, hts⟩
  have hr := B.returns
  have hlocks := B.notSynchronized
  generalize hAe : va_A (wL cy X S0) s.heap.size = A at hD hK ⊢
  have hA : ∀ q, s.heap.size ≤ q → A q := fun q h => by rw [← hAe]; exact Or.inr h
  have hW : wO D cy X A s.heap S0 s.heap [] := ⟨hP, hD, va_S.rf, hA, hRO⟩
  have hl := lv_entry ([.ref a0, .int x1, .int x2, .int x3]) (n := 6) (Nat.le_of_ble_eq_true rfl)
  rw [lg_entry_eq]
  generalize (lg_sl ([.ref a0, .int x1, .int x2, .int x3]) ++ List.replicate (6 - (lg_sl ([.ref a0, .int x1, .int x2, .int x3])).length) Slot.unset).toArray = ls at hl ⊢
  have hl : lv_has ls 6 [(0, .ref a0), (1, .int x1), (2, .int x2), (3, .int x3)] := hl
  unfold wp_X12_goes at hp
  exact t_X12_goes_0 F hr hlocks hK hp hW wX.rf (lv_sub hl [0, 1, 2, 3] rfl) hL_a0 hK_a0
def wp_X12_isBecoming_38 (D : wD) (post : Int32 → wS → Prop)  (S : wS) (t0 : Int32) : Prop :=
narrow .boolean (.int t0) = .int t0 ∧ post t0 S
def wp_X12_isBecoming_37 (D : wD) (post : Int32 → wS → Prop)  (S : wS) : Prop :=
wp_X12_isBecoming_38 D post S (0 : Int32)
def wp_X12_isBecoming_0 (D : wD) (post : Int32 → wS → Prop)  (S : wS) (a0 : Nat) (x1 : Int32) (x2 : Int32) (x3 : Int32) : Prop :=
wp_X12_on D (fun r_1 S_2 => 
wp_X12_kindOf D (fun r_3 S_4 => 
((¬ r_3 = (6 : Int32) → wp_X12_isBecoming_37 D post S_4) ∧
 (r_3 = (6 : Int32) → wp_X12_rankOf D (fun r_6 S_7 => 
wp_X12_side D (fun r_8 S_9 => 
wp_X12_firstRank D (fun r_10 S_11 => 
((¬ r_6 = r_10 → wp_X12_isBecoming_37 D post S_11) ∧
 (r_6 = r_10 → wp_X12_isBecoming_38 D post S_11 (1 : Int32)))) S_9 a0 ((1 : Int32) - r_8)) S_7 a0 x1) S_4 a0 x3))) S_2 r_1) S a0 x1 x2
abbrev r_X12_isBecoming : Room := { frames := 1, cells := 0, slots := 0, locals := 22 }
def wp_X12_isBecoming (D : wD) (post : Int32 → wS → Prop) (S : wS) (a0 : Nat) (x1 : Int32) (x2 : Int32) (x3 : Int32) : Prop := wp_X12_isBecoming_0 D post S a0 x1 x2 x3
set_option maxHeartbeats 4000000 in
set_option maxRecDepth 100000 in
theorem t_X12_isBecoming_38 {p : Program} {l : Launch} {e : Env} {s : State} {m : MethodId} {args : Array Value} {below : List Frame} {meth : Method} {c : Code} {D : wD} {cy : Nat → ClassId} {X : va_W} {A : Nat → Prop} {S0 : wS} {post : Int32 → wS → Prop} (F : CallFix p m c cX12_isBecoming 4 s args wz_X12_isBecoming RX12) (hr : meth.sig.returnType = (some .boolean)) (hlocks : meth.locks = false) (hK : wK D cy A s) : ∀ {S : wS} {H : Heap} {locs : List Loc} {ls : Array Slot} {t0 : Int32}, wp_X12_isBecoming_38 D post S t0 → wO D cy X A s.heap S H locs → wX D S0 S → lv_has ls 4 [] → W p l e r_X12_isBecoming s m args below meth c H locs 0 0 (MQ below (va_Qi (fun r S9 => wX D S0 S9 ∧ post r S9) (wB D cy X A) A) args s 0 0 A) (F0 m 38 ls [.int t0]) := by
  obtain ⟨hx, hb, hml, hown, hts⟩ := id F
  have hwg : ∀ w ∈ WG, w.before args s = true := fun w h => hts w (List.mem_cons_of_mem _ h)
  intro S H locs ls t0 hp hW hE hl
  unfold wp_X12_isBecoming_38 at hp
  exact w_zret hx hb hr hlocks hW hp.1 ⟨hE, hp.2⟩ dX12_isBecoming_38
set_option maxHeartbeats 4000000 in
set_option maxRecDepth 100000 in
theorem t_X12_isBecoming_37 {p : Program} {l : Launch} {e : Env} {s : State} {m : MethodId} {args : Array Value} {below : List Frame} {meth : Method} {c : Code} {D : wD} {cy : Nat → ClassId} {X : va_W} {A : Nat → Prop} {S0 : wS} {post : Int32 → wS → Prop} (F : CallFix p m c cX12_isBecoming 4 s args wz_X12_isBecoming RX12) (hr : meth.sig.returnType = (some .boolean)) (hlocks : meth.locks = false) (hK : wK D cy A s) : ∀ {S : wS} {H : Heap} {locs : List Loc} {ls : Array Slot}, wp_X12_isBecoming_37 D post S → wO D cy X A s.heap S H locs → wX D S0 S → lv_has ls 4 [] → W p l e r_X12_isBecoming s m args below meth c H locs 0 0 (MQ below (va_Qi (fun r S9 => wX D S0 S9 ∧ post r S9) (wB D cy X A) A) args s 0 0 A) (F0 m 37 ls []) := by
  obtain ⟨hx, hb, hml, hown, hts⟩ := id F
  have hwg : ∀ w ∈ WG, w.before args s = true := fun w h => hts w (List.mem_cons_of_mem _ h)
  intro S H locs ls hp hW hE hl
  unfold wp_X12_isBecoming_37 at hp
  refine lv_iconst (v := 0) hx hb dX12_isBecoming_37 (by decide) ?_
  exact t_X12_isBecoming_38 F hr hlocks hK hp hW hE (lv_sub hl [] rfl)
set_option maxHeartbeats 4000000 in
set_option maxRecDepth 100000 in
theorem t_X12_isBecoming_0 {p : Program} {l : Launch} {e : Env} {s : State} {m : MethodId} {args : Array Value} {below : List Frame} {meth : Method} {c : Code} {D : wD} {cy : Nat → ClassId} {X : va_W} {A : Nat → Prop} {S0 : wS} {post : Int32 → wS → Prop} (F : CallFix p m c cX12_isBecoming 4 s args wz_X12_isBecoming RX12) (hr : meth.sig.returnType = (some .boolean)) (hlocks : meth.locks = false) (hK : wK D cy A s) : ∀ {S : wS} {H : Heap} {locs : List Loc} {ls : Array Slot} {a0 : Nat} {x1 : Int32} {x2 : Int32} {x3 : Int32}, wp_X12_isBecoming_0 D post S a0 x1 x2 x3 → wO D cy X A s.heap S H locs → wX D S0 S → lv_has ls 4 [(0, .ref a0), (1, .int x1), (2, .int x2), (3, .int x3)] → wM D S a0 → sK S a0 = 17 → W p l e r_X12_isBecoming s m args below meth c H locs 0 0 (MQ below (va_Qi (fun r S9 => wX D S0 S9 ∧ post r S9) (wB D cy X A) A) args s 0 0 A) (F0 m 0 ls []) := by
  obtain ⟨hx, hb, hml, hown, hts⟩ := id F
  have hwg : ∀ w ∈ WG, w.before args s = true := fun w h => hts w (List.mem_cons_of_mem _ h)
  intro S H locs ls a0 x1 x2 x3 hp hW hE hl hL_a0 hK_a0
  unfold wp_X12_isBecoming_0 at hp
  refine lv_aload_n hx hb dX12_isBecoming_0 rfl (lv_at hl 0 rfl) ?_
  refine lv_iload_n hx hb dX12_isBecoming_1 rfl (lv_at hl 1 rfl) ?_
  refine lv_iload_n hx hb dX12_isBecoming_2 rfl (lv_at hl 2 rfl) ?_
  refine w_callI (va_runV (As := [.int x1, .int x2]) (rest := []) F (c_X12_on l hL_a0 hK_a0 hp H.size) (cwV (C := RX12) 2 hts (wg_V wm_RX12_141 wy_X12_on) rfl rfl rfl (by decide +kernel) ⟨Nat.le_of_ble_eq_true rfl, Nat.le_of_ble_eq_true rfl⟩) (w_preV hK hW hL_a0 hK_a0 (by decide) rfl) rfl rfl hl.1 rfl (lv_room (Nat.le_of_ble_eq_true rfl)) dX12_isBecoming_3 ⟨Nat.le_of_ble_eq_true rfl, Nat.le_of_ble_eq_true rfl⟩) hW (fun r_1 S_2 H locs hp hW => ?_)
  obtain ⟨hX_S_2, hp⟩ := hp
  refine W.widen (k := 0) (n := 0) (by decide) (by decide) ?_
  have hE := hE.trans hX_S_2
  have hK_a0 : sK S_2 a0 = 17 := (hX_S_2.2 a0 hL_a0).1.trans hK_a0
  have hL_a0 : wM D S_2 a0 := hX_S_2.M hL_a0
  refine w_callI (va_runS (As := [.int r_1]) (rest := []) F (c_X12_kindOf l hp H.size) (va_cwS 1 hts (wg_S wm_RX12_148 wy_X12_kindOf) rfl rfl rfl (by decide +kernel) ⟨Nat.le_of_ble_eq_true rfl, Nat.le_of_ble_eq_true rfl⟩) (w_preS hK hW) rfl rfl hl.1 rfl (lv_room (Nat.le_of_ble_eq_true rfl)) dX12_isBecoming_6 ⟨Nat.le_of_ble_eq_true rfl, Nat.le_of_ble_eq_true rfl⟩) hW (fun r_3 S_4 H locs hp hW => ?_)
  obtain ⟨hX_S_4, hp⟩ := hp
  refine W.widen (k := 0) (n := 0) (by decide) (by decide) ?_
  have hE := hE.trans hX_S_4
  have hK_a0 : sK S_4 a0 = 17 := (hX_S_4.2 a0 hL_a0).1.trans hK_a0
  have hL_a0 : wM D S_4 a0 := hX_S_4.M hL_a0
  refine lv_bipush (v := 6) hx hb dX12_isBecoming_9 (by decide) ?_
  refine lv_icmp_ne (tgt := 37) hx hb dX12_isBecoming_11 (by decide) (fun c_5 => ?_) (fun c_5 => ?_)
  · replace hp := hp.1 c_5
    exact t_X12_isBecoming_37 F hr hlocks hK hp hW hE (lv_sub hl [] rfl)
  · replace hp := hp.2 c_5
    refine lv_aload_n hx hb dX12_isBecoming_14 rfl (lv_at hl 0 rfl) ?_
    refine lv_iload_n hx hb dX12_isBecoming_15 rfl (lv_at hl 3 rfl) ?_
    refine w_callI (va_runV (As := [.int x3]) (rest := []) F (c_X12_rankOf l hL_a0 hK_a0 hp H.size) (cwV (C := RX12) 1 hts (wg_V wm_RX12_138 wy_X12_rankOf) rfl rfl rfl (by decide +kernel) ⟨Nat.le_of_ble_eq_true rfl, Nat.le_of_ble_eq_true rfl⟩) (w_preV hK hW hL_a0 hK_a0 (by decide) rfl) rfl rfl hl.1 rfl (lv_room (Nat.le_of_ble_eq_true rfl)) dX12_isBecoming_16 ⟨Nat.le_of_ble_eq_true rfl, Nat.le_of_ble_eq_true rfl⟩) hW (fun r_6 S_7 H locs hp hW => ?_)
    obtain ⟨hX_S_7, hp⟩ := hp
    refine W.widen (k := 0) (n := 0) (by decide) (by decide) ?_
    have hE := hE.trans hX_S_7
    have hK_a0 : sK S_7 a0 = 17 := (hX_S_7.2 a0 hL_a0).1.trans hK_a0
    have hL_a0 : wM D S_7 a0 := hX_S_7.M hL_a0
    refine lv_aload_n hx hb dX12_isBecoming_19 rfl (lv_at hl 0 rfl) ?_
    refine lv_iconst (v := 1) hx hb dX12_isBecoming_20 (by decide) ?_
    refine lv_aload_n hx hb dX12_isBecoming_21 rfl (lv_at hl 0 rfl) ?_
    refine lv_iload_n hx hb dX12_isBecoming_22 rfl (lv_at hl 1 rfl) ?_
    refine w_callI (va_runV (As := [.int x1]) (rest := [.int (1 : Int32), .ref a0, .int r_6]) F (c_X12_side l hL_a0 hK_a0 hp H.size) (cwV (C := RX12) 1 hts (wg_V wm_RX12_183 wy_X12_side) rfl rfl rfl (by decide +kernel) ⟨Nat.le_of_ble_eq_true rfl, Nat.le_of_ble_eq_true rfl⟩) (w_preV hK hW hL_a0 hK_a0 (by decide) rfl) rfl rfl hl.1 rfl (lv_room (Nat.le_of_ble_eq_true rfl)) dX12_isBecoming_23 ⟨Nat.le_of_ble_eq_true rfl, Nat.le_of_ble_eq_true rfl⟩) hW (fun r_8 S_9 H locs hp hW => ?_)
    obtain ⟨hX_S_9, hp⟩ := hp
    refine W.widen (k := 0) (n := 0) (by decide) (by decide) ?_
    have hE := hE.trans hX_S_9
    have hK_a0 : sK S_9 a0 = 17 := (hX_S_9.2 a0 hL_a0).1.trans hK_a0
    have hL_a0 : wM D S_9 a0 := hX_S_9.M hL_a0
    refine lv_isub hx hb dX12_isBecoming_26 ?_
    refine w_callI (va_runV (As := [.int ((1 : Int32) - r_8)]) (rest := [.int r_6]) F (c_X12_firstRank l hL_a0 hK_a0 hp H.size) (cwV (C := RX12) 1 hts (wg_V wm_RX12_170 wy_X12_firstRank) rfl rfl rfl (by decide +kernel) ⟨Nat.le_of_ble_eq_true rfl, Nat.le_of_ble_eq_true rfl⟩) (w_preV hK hW hL_a0 hK_a0 (by decide) rfl) rfl rfl hl.1 rfl (lv_room (Nat.le_of_ble_eq_true rfl)) dX12_isBecoming_27 ⟨Nat.le_of_ble_eq_true rfl, Nat.le_of_ble_eq_true rfl⟩) hW (fun r_10 S_11 H locs hp hW => ?_)
    obtain ⟨hX_S_11, hp⟩ := hp
    refine W.widen (k := 0) (n := 0) (by decide) (by decide) ?_
    have hE := hE.trans hX_S_11
    have hK_a0 : sK S_11 a0 = 17 := (hX_S_11.2 a0 hL_a0).1.trans hK_a0
    have hL_a0 : wM D S_11 a0 := hX_S_11.M hL_a0
    refine lv_icmp_ne (tgt := 37) hx hb dX12_isBecoming_30 (by decide) (fun c_12 => ?_) (fun c_12 => ?_)
    · replace hp := hp.1 c_12
      exact t_X12_isBecoming_37 F hr hlocks hK hp hW hE (lv_sub hl [] rfl)
    · replace hp := hp.2 c_12
      refine lv_iconst (v := 1) hx hb dX12_isBecoming_33 (by decide) ?_
      refine lv_goto (tgt := 38) hx hb dX12_isBecoming_34 (by decide) ?_
      exact t_X12_isBecoming_38 F hr hlocks hK hp hW hE (lv_sub hl [] rfl)
set_option maxHeartbeats 4000000 in
set_option maxRecDepth 100000 in
theorem c_X12_isBecoming (l : Launch) {D : wD} {cy : Nat → ClassId} {X : va_W} {S0 : wS} {post : Int32 → wS → Prop} {a0 : Nat} {x1 : Int32} {x2 : Int32} {x3 : Int32} (hL_a0 : wM D S0 a0) (hK_a0 : sK S0 a0 = 17) (hp : wp_X12_isBecoming D post S0 a0 x1 x2 x3) : mI D cy X l yX12_isBecoming wz_X12_isBecoming r_X12_isBecoming [.ref a0, .int x1, .int x2, .int x3] S0 (fun r S9 => wX D S0 S9 ∧ post r S9) := by
  intro sz
  refine Met.ofW (cc := cX12_isBecoming) (maxL := 4) (ret := (some .boolean)) (by decide) rfl ?_
  intro p e s m args below meth c s₁ B hml hv
  obtain ⟨rfl, hsz, hP, hK, hD0, hRO⟩ := hv
  have hts := atoms_spec (ws := wz_X12_isBecoming) B.pre
  have hown : s.vm.findClass RX12 = some m.cls := findClass_of_methodNamed B.named
  subst hsz
  have hD := hD0.self (sz := s.heap.size)
  have F : CallFix p m c cX12_isBecoming 4 s _ wz_X12_isBecoming RX12 := ⟨B.exec, B.bytes, hml, hown, hts⟩
  have hr := B.returns
  have hlocks := B.notSynchronized
  generalize hAe : va_A (wL cy X S0) s.heap.size = A at hD hK ⊢
  have hA : ∀ q, s.heap.size ≤ q → A q := fun q h => by rw [← hAe]; exact Or.inr h
  have hW : wO D cy X A s.heap S0 s.heap [] := ⟨hP, hD, va_S.rf, hA, hRO⟩
  have hl := lv_entry ([.ref a0, .int x1, .int x2, .int x3]) (n := 4) (Nat.le_of_ble_eq_true rfl)
  rw [lg_entry_eq]
  generalize (lg_sl ([.ref a0, .int x1, .int x2, .int x3]) ++ List.replicate (4 - (lg_sl ([.ref a0, .int x1, .int x2, .int x3])).length) Slot.unset).toArray = ls at hl ⊢
  have hl : lv_has ls 4 [(0, .ref a0), (1, .int x1), (2, .int x2), (3, .int x3)] := hl
  unfold wp_X12_isBecoming at hp
  exact t_X12_isBecoming_0 F hr hlocks hK hp hW wX.rf (lv_sub hl [0, 1, 2, 3] rfl) hL_a0 hK_a0
def wp_X12_lists_0 (D : wD) (post : wS → Prop)  (S : wS) (a0 : Nat) (x1 : Int32) (x2 : Int32) (x3 : Int32) (x4 : Int32) : Prop :=
∃ y_1 : Nat, sR S a0 7 = some y_1 ∧ wM D S y_1 ∧ sK S y_1 = 21 ∧
vp_in x1 (sN S y_1) ∧
∀ x_3 : Int32, x_3 = (((320 : Int32) * x1) + (sI S y_1 (x1).toNatClampNeg)) →
∃ y_4 : Nat, sR S a0 4 = some y_4 ∧ wM D S y_4 ∧ sK S y_4 = 21 ∧
y_4 ∈ sL S ∧ vp_in x_3 (sN S y_4) ∧
∀ S_6 : wS, S_6 = uI S y_4 (x_3).toNatClampNeg x2 →
∃ y_7 : Nat, sR S_6 a0 5 = some y_7 ∧ wM D S_6 y_7 ∧ sK S_6 y_7 = 21 ∧
y_7 ∈ sL S_6 ∧ vp_in x_3 (sN S_6 y_7) ∧
∀ S_9 : wS, S_9 = uI S_6 y_7 (x_3).toNatClampNeg x3 →
∃ y_10 : Nat, sR S_9 a0 6 = some y_10 ∧ wM D S_9 y_10 ∧ sK S_9 y_10 = 21 ∧
y_10 ∈ sL S_9 ∧ vp_in x_3 (sN S_9 y_10) ∧
∀ S_12 : wS, S_12 = uI S_9 y_10 (x_3).toNatClampNeg x4 →
∃ y_13 : Nat, sR S_12 a0 7 = some y_13 ∧ wM D S_12 y_13 ∧ sK S_12 y_13 = 21 ∧
vp_in x1 (sN S_12 y_13) ∧
y_13 ∈ sL S_12 ∧ vp_in x1 (sN S_12 y_13) ∧
∀ S_16 : wS, S_16 = uI S_12 y_13 (x1).toNatClampNeg ((sI S_12 y_13 (x1).toNatClampNeg) + (1 : Int32)) →
post S_16
abbrev r_X12_lists : Room := { frames := 0, cells := 0, slots := 0, locals := 0 }
def wp_X12_lists (D : wD) (post : wS → Prop) (S : wS) (a0 : Nat) (x1 : Int32) (x2 : Int32) (x3 : Int32) (x4 : Int32) : Prop := wp_X12_lists_0 D post S a0 x1 x2 x3 x4
set_option maxHeartbeats 4000000 in
set_option maxRecDepth 100000 in
theorem t_X12_lists_0 {p : Program} {l : Launch} {e : Env} {s : State} {m : MethodId} {args : Array Value} {below : List Frame} {meth : Method} {c : Code} {D : wD} {cy : Nat → ClassId} {X : va_W} {A : Nat → Prop} {S0 : wS} {post : wS → Prop} (F : CallFix p m c cX12_lists 6 s args wz_X12_lists RX12) (hr : meth.sig.returnType = none) (hlocks : meth.locks = false) (hK : wK D cy A s) : ∀ {S : wS} {H : Heap} {locs : List Loc} {ls : Array Slot} {a0 : Nat} {x1 : Int32} {x2 : Int32} {x3 : Int32} {x4 : Int32}, wp_X12_lists_0 D post S a0 x1 x2 x3 x4 → wO D cy X A s.heap S H locs → wX D S0 S → lv_has ls 6 [(0, .ref a0), (1, .int x1), (2, .int x2), (3, .int x3), (4, .int x4)] → wM D S a0 → sK S a0 = 17 → W p l e r_X12_lists s m args below meth c H locs 0 0 (MQ below (va_Qv (fun S9 => wX D S0 S9 ∧ post S9) (wB D cy X A) A) args s 0 0 A) (F0 m 0 ls []) := by
  obtain ⟨hx, hb, hml, hown, hts⟩ := id F
  have hwg : ∀ w ∈ WG, w.before args s = true := fun w h => hts w (List.mem_cons_of_mem _ h)
  have i_17 : ∀ w ∈ u_ws RX12 TX12 43, w ∈ wz_X12_lists := fun w h => List.mem_cons_of_mem _ (wu_17 w h)
  have k_20 := hwg _ wf_RX12_20
  have k_23 := hwg _ wf_RX12_23
  have k_26 := hwg _ wf_RX12_26
  have k_29 := hwg _ wf_RX12_29
  intro S H locs ls a0 x1 x2 x3 x4 hp hW hE hl hL_a0 hK_a0
  unfold wp_X12_lists_0 at hp
  refine lv_sipush (v := 320) hx hb dX12_lists_0 (by decide) ?_
  refine lv_iload_n hx hb dX12_lists_3 rfl (lv_at hl 1 rfl) ?_
  refine lv_imul hx hb dX12_lists_4 ?_
  refine lv_aload_n hx hb dX12_lists_5 rfl (lv_at hl 0 rfl) ?_
  obtain ⟨y_1, ey_1, hL_y_1, hK_y_1, hp⟩ := hp
  refine w_get (k := 17) (f := 7) (T := TX12) (v := .ref y_1) F hK hW hL_a0 hK_a0 (by decide) rfl rfl (by decide) i_17 k_29 (by rw [show wv 17 7 S a0 = va_rf (sR S a0 7) from rfl, ey_1]; rfl) dX12_lists_6 ?_
  refine lv_iload_n hx hb dX12_lists_9 rfl (lv_at hl 1 rfl) ?_
  obtain ⟨h_2, hp⟩ := hp
  refine w_ild F hK hW hL_y_1 hK_y_1 h_2 dX12_lists_10 ?_
  refine lv_iadd hx hb dX12_lists_11 ?_
  refine lv_topi (fun x_3 ex_3 => ?_)
  replace hp := hp x_3 ex_3
  refine lv_istore (lv' := [(5, .int x_3), (0, .ref a0), (1, .int x1), (2, .int x2), (3, .int x3), (4, .int x4)]) hx hb dX12_lists_12 hl (by decide) rfl (fun ls hl => ?_)
  refine lv_aload_n hx hb dX12_lists_14 rfl (lv_at hl 1 rfl) ?_
  obtain ⟨y_4, ey_4, hL_y_4, hK_y_4, hp⟩ := hp
  refine w_get (k := 17) (f := 4) (T := TX12) (v := .ref y_4) F hK hW hL_a0 hK_a0 (by decide) rfl rfl (by decide) i_17 k_20 (by rw [show wv 17 4 S a0 = va_rf (sR S a0 4) from rfl, ey_4]; rfl) dX12_lists_15 ?_
  refine lv_iload hx hb dX12_lists_18 (lv_at hl 0 rfl) ?_
  refine lv_iload_n hx hb dX12_lists_20 rfl (lv_at hl 3 rfl) ?_
  obtain ⟨h_5m, h_5, hp⟩ := hp
  refine w_ist F hK hW h_5m hK_y_4 h_5 dX12_lists_21 (fun H locs hW => ?_)
  obtain ⟨S_6, eS_6⟩ : ∃ z : wS, z = uI S y_4 (x_3).toNatClampNeg x2 := ⟨_, rfl⟩
  rw [← eS_6] at hW
  replace hp := hp S_6 eS_6
  have hX_S_6 : wX D S S_6 := by rw [eS_6]; exact wX_uI
  have hE := hE.trans hX_S_6
  have hK_a0 : sK S_6 a0 = 17 := (hX_S_6.2 a0 hL_a0).1.trans hK_a0
  have hL_a0 : wM D S_6 a0 := hX_S_6.M hL_a0
  refine lv_aload_n hx hb dX12_lists_22 rfl (lv_at hl 1 rfl) ?_
  obtain ⟨y_7, ey_7, hL_y_7, hK_y_7, hp⟩ := hp
  refine w_get (k := 17) (f := 5) (T := TX12) (v := .ref y_7) F hK hW hL_a0 hK_a0 (by decide) rfl rfl (by decide) i_17 k_23 (by rw [show wv 17 5 S_6 a0 = va_rf (sR S_6 a0 5) from rfl, ey_7]; rfl) dX12_lists_23 ?_
  refine lv_iload hx hb dX12_lists_26 (lv_at hl 0 rfl) ?_
  refine lv_iload_n hx hb dX12_lists_28 rfl (lv_at hl 4 rfl) ?_
  obtain ⟨h_8m, h_8, hp⟩ := hp
  refine w_ist F hK hW h_8m hK_y_7 h_8 dX12_lists_29 (fun H locs hW => ?_)
  obtain ⟨S_9, eS_9⟩ : ∃ z : wS, z = uI S_6 y_7 (x_3).toNatClampNeg x3 := ⟨_, rfl⟩
  rw [← eS_9] at hW
  replace hp := hp S_9 eS_9
  have hX_S_9 : wX D S_6 S_9 := by rw [eS_9]; exact wX_uI
  have hE := hE.trans hX_S_9
  have hK_a0 : sK S_9 a0 = 17 := (hX_S_9.2 a0 hL_a0).1.trans hK_a0
  have hL_a0 : wM D S_9 a0 := hX_S_9.M hL_a0
  refine lv_aload_n hx hb dX12_lists_30 rfl (lv_at hl 1 rfl) ?_
  obtain ⟨y_10, ey_10, hL_y_10, hK_y_10, hp⟩ := hp
  refine w_get (k := 17) (f := 6) (T := TX12) (v := .ref y_10) F hK hW hL_a0 hK_a0 (by decide) rfl rfl (by decide) i_17 k_26 (by rw [show wv 17 6 S_9 a0 = va_rf (sR S_9 a0 6) from rfl, ey_10]; rfl) dX12_lists_31 ?_
  refine lv_iload hx hb dX12_lists_34 (lv_at hl 0 rfl) ?_
  refine lv_iload hx hb dX12_lists_36 (lv_at hl 5 rfl) ?_
  obtain ⟨h_11m, h_11, hp⟩ := hp
  refine w_ist F hK hW h_11m hK_y_10 h_11 dX12_lists_38 (fun H locs hW => ?_)
  obtain ⟨S_12, eS_12⟩ : ∃ z : wS, z = uI S_9 y_10 (x_3).toNatClampNeg x4 := ⟨_, rfl⟩
  rw [← eS_12] at hW
  replace hp := hp S_12 eS_12
  have hX_S_12 : wX D S_9 S_12 := by rw [eS_12]; exact wX_uI
  have hE := hE.trans hX_S_12
  have hK_a0 : sK S_12 a0 = 17 := (hX_S_12.2 a0 hL_a0).1.trans hK_a0
  have hL_a0 : wM D S_12 a0 := hX_S_12.M hL_a0
  refine lv_aload_n hx hb dX12_lists_39 rfl (lv_at hl 1 rfl) ?_
  obtain ⟨y_13, ey_13, hL_y_13, hK_y_13, hp⟩ := hp
  refine w_get (k := 17) (f := 7) (T := TX12) (v := .ref y_13) F hK hW hL_a0 hK_a0 (by decide) rfl rfl (by decide) i_17 k_29 (by rw [show wv 17 7 S_12 a0 = va_rf (sR S_12 a0 7) from rfl, ey_13]; rfl) dX12_lists_40 ?_
  refine lv_iload_n hx hb dX12_lists_43 rfl (lv_at hl 2 rfl) ?_
  refine lv_dup2_11 hx hb dX12_lists_44 rfl rfl ?_
  obtain ⟨h_14, hp⟩ := hp
  refine w_ild F hK hW hL_y_13 hK_y_13 h_14 dX12_lists_45 ?_
  refine lv_iconst (v := 1) hx hb dX12_lists_46 (by decide) ?_
  refine lv_iadd hx hb dX12_lists_47 ?_
  obtain ⟨h_15m, h_15, hp⟩ := hp
  refine w_ist F hK hW h_15m hK_y_13 h_15 dX12_lists_48 (fun H locs hW => ?_)
  obtain ⟨S_16, eS_16⟩ : ∃ z : wS, z = uI S_12 y_13 (x1).toNatClampNeg ((sI S_12 y_13 (x1).toNatClampNeg) + (1 : Int32)) := ⟨_, rfl⟩
  rw [← eS_16] at hW
  replace hp := hp S_16 eS_16
  have hX_S_16 : wX D S_12 S_16 := by rw [eS_16]; exact wX_uI
  have hE := hE.trans hX_S_16
  have hK_a0 : sK S_16 a0 = 17 := (hX_S_16.2 a0 hL_a0).1.trans hK_a0
  have hL_a0 : wM D S_16 a0 := hX_S_16.M hL_a0
  exact w_vret hx hb hr hlocks hW ⟨hE, hp⟩ dX12_lists_49
set_option maxHeartbeats 4000000 in
set_option maxRecDepth 100000 in
theorem c_X12_lists (l : Launch) {D : wD} {cy : Nat → ClassId} {X : va_W} {S0 : wS} {post : wS → Prop} {a0 : Nat} {x1 : Int32} {x2 : Int32} {x3 : Int32} {x4 : Int32} (hL_a0 : wM D S0 a0) (hK_a0 : sK S0 a0 = 17) (hp : wp_X12_lists D post S0 a0 x1 x2 x3 x4) : mV D cy X l yX12_lists wz_X12_lists r_X12_lists [.ref a0, .int x1, .int x2, .int x3, .int x4] S0 (fun S9 => wX D S0 S9 ∧ post S9) := by
  intro sz
  refine Met.ofW (cc := cX12_lists) (maxL := 6) (ret := none) (by decide) rfl ?_
  intro p e s m args below meth c s₁ B hml hv
  obtain ⟨rfl, hsz, hP, hK, hD0, hRO⟩ := hv
  have hts := atoms_spec (ws := wz_X12_lists) B.pre
  have hown : s.vm.findClass RX12 = some m.cls := findClass_of_methodNamed B.named
  subst hsz
  have hD := hD0.self (sz := s.heap.size)
  have F : CallFix p m c cX12_lists 6 s _ wz_X12_lists RX12 := ⟨B.exec, B.bytes, hml, hown, hts⟩
  have hr := B.returns
  have hlocks := B.notSynchronized
  generalize hAe : va_A (wL cy X S0) s.heap.size = A at hD hK ⊢
  have hA : ∀ q, s.heap.size ≤ q → A q := fun q h => by rw [← hAe]; exact Or.inr h
  have hW : wO D cy X A s.heap S0 s.heap [] := ⟨hP, hD, va_S.rf, hA, hRO⟩
  have hl := lv_entry ([.ref a0, .int x1, .int x2, .int x3, .int x4]) (n := 6) (Nat.le_of_ble_eq_true rfl)
  rw [lg_entry_eq]
  generalize (lg_sl ([.ref a0, .int x1, .int x2, .int x3, .int x4]) ++ List.replicate (6 - (lg_sl ([.ref a0, .int x1, .int x2, .int x3, .int x4])).length) Slot.unset).toArray = ls at hl ⊢
  have hl : lv_has ls 6 [(0, .ref a0), (1, .int x1), (2, .int x2), (3, .int x3), (4, .int x4)] := hl
  unfold wp_X12_lists at hp
  exact t_X12_lists_0 F hr hlocks hK hp hW wX.rf (lv_sub hl [0, 1, 2, 3, 4] rfl) hL_a0 hK_a0
def wp_X12_isBeside_51 (D : wD) (post : Int32 → wS → Prop)  (S : wS) (t0 : Int32) : Prop :=
narrow .boolean (.int t0) = .int t0 ∧ post t0 S
def wp_X12_isBeside_50 (D : wD) (post : Int32 → wS → Prop)  (S : wS) : Prop :=
wp_X12_isBeside_51 D post S (0 : Int32)
def wp_X12_isBeside_46 (D : wD) (post : Int32 → wS → Prop)  (S : wS) : Prop :=
wp_X12_isBeside_51 D post S (1 : Int32)
def wp_X12_isBeside_20 (D : wD) (post : Int32 → wS → Prop)  (S : wS) (a0 : Nat) (x1 : Int32) (x2 : Int32) (x3 : Int32) : Prop :=
wp_X12_fileOf D (fun r_1 S_2 => 
((((sI S_2 a0 1) - (1 : Int32)) ≤ r_1 → wp_X12_isBeside_50 D post S_2) ∧
 (¬ ((sI S_2 a0 1) - (1 : Int32)) ≤ r_1 → wp_X12_on D (fun r_4 S_5 => 
((¬ r_4 = x3 → wp_X12_isBeside_50 D post S_5) ∧
 (r_4 = x3 → wp_X12_isBeside_46 D post S_5))) S_2 a0 x1 (x2 + (1 : Int32))))) S a0 x2
def wp_X12_isBeside_0 (D : wD) (post : Int32 → wS → Prop)  (S : wS) (a0 : Nat) (x1 : Int32) (x2 : Int32) (x3 : Int32) : Prop :=
wp_X12_fileOf D (fun r_1 S_2 => 
((r_1 ≤ 0 → wp_X12_isBeside_20 D post S_2 a0 x1 x2 x3) ∧
 (¬ r_1 ≤ 0 → wp_X12_on D (fun r_4 S_5 => 
((r_4 = x3 → wp_X12_isBeside_46 D post S_5) ∧
 (¬ r_4 = x3 → wp_X12_isBeside_20 D post S_5 a0 x1 x2 x3))) S_2 a0 x1 (x2 - (1 : Int32))))) S a0 x2
abbrev r_X12_isBeside : Room := { frames := 1, cells := 0, slots := 0, locals := 22 }
def wp_X12_isBeside (D : wD) (post : Int32 → wS → Prop) (S : wS) (a0 : Nat) (x1 : Int32) (x2 : Int32) (x3 : Int32) : Prop := wp_X12_isBeside_0 D post S a0 x1 x2 x3
set_option maxHeartbeats 4000000 in
set_option maxRecDepth 100000 in
theorem t_X12_isBeside_51 {p : Program} {l : Launch} {e : Env} {s : State} {m : MethodId} {args : Array Value} {below : List Frame} {meth : Method} {c : Code} {D : wD} {cy : Nat → ClassId} {X : va_W} {A : Nat → Prop} {S0 : wS} {post : Int32 → wS → Prop} (F : CallFix p m c cX12_isBeside 4 s args wz_X12_isBeside RX12) (hr : meth.sig.returnType = (some .boolean)) (hlocks : meth.locks = false) (hK : wK D cy A s) : ∀ {S : wS} {H : Heap} {locs : List Loc} {ls : Array Slot} {t0 : Int32}, wp_X12_isBeside_51 D post S t0 → wO D cy X A s.heap S H locs → wX D S0 S → lv_has ls 4 [] → W p l e r_X12_isBeside s m args below meth c H locs 0 0 (MQ below (va_Qi (fun r S9 => wX D S0 S9 ∧ post r S9) (wB D cy X A) A) args s 0 0 A) (F0 m 51 ls [.int t0]) := by
  obtain ⟨hx, hb, hml, hown, hts⟩ := id F
  have hwg : ∀ w ∈ WG, w.before args s = true := fun w h => hts w (List.mem_cons_of_mem _ h)
  intro S H locs ls t0 hp hW hE hl
  unfold wp_X12_isBeside_51 at hp
  exact w_zret hx hb hr hlocks hW hp.1 ⟨hE, hp.2⟩ dX12_isBeside_51
set_option maxHeartbeats 4000000 in
set_option maxRecDepth 100000 in
theorem t_X12_isBeside_50 {p : Program} {l : Launch} {e : Env} {s : State} {m : MethodId} {args : Array Value} {below : List Frame} {meth : Method} {c : Code} {D : wD} {cy : Nat → ClassId} {X : va_W} {A : Nat → Prop} {S0 : wS} {post : Int32 → wS → Prop} (F : CallFix p m c cX12_isBeside 4 s args wz_X12_isBeside RX12) (hr : meth.sig.returnType = (some .boolean)) (hlocks : meth.locks = false) (hK : wK D cy A s) : ∀ {S : wS} {H : Heap} {locs : List Loc} {ls : Array Slot}, wp_X12_isBeside_50 D post S → wO D cy X A s.heap S H locs → wX D S0 S → lv_has ls 4 [] → W p l e r_X12_isBeside s m args below meth c H locs 0 0 (MQ below (va_Qi (fun r S9 => wX D S0 S9 ∧ post r S9) (wB D cy X A) A) args s 0 0 A) (F0 m 50 ls []) := by
  obtain ⟨hx, hb, hml, hown, hts⟩ := id F
  have hwg : ∀ w ∈ WG, w.before args s = true := fun w h => hts w (List.mem_cons_of_mem _ h)
  intro S H locs ls hp hW hE hl
  unfold wp_X12_isBeside_50 at hp
  refine lv_iconst (v := 0) hx hb dX12_isBeside_50 (by decide) ?_
  exact t_X12_isBeside_51 F hr hlocks hK hp hW hE (lv_sub hl [] rfl)
set_option maxHeartbeats 4000000 in
set_option maxRecDepth 100000 in
theorem t_X12_isBeside_46 {p : Program} {l : Launch} {e : Env} {s : State} {m : MethodId} {args : Array Value} {below : List Frame} {meth : Method} {c : Code} {D : wD} {cy : Nat → ClassId} {X : va_W} {A : Nat → Prop} {S0 : wS} {post : Int32 → wS → Prop} (F : CallFix p m c cX12_isBeside 4 s args wz_X12_isBeside RX12) (hr : meth.sig.returnType = (some .boolean)) (hlocks : meth.locks = false) (hK : wK D cy A s) : ∀ {S : wS} {H : Heap} {locs : List Loc} {ls : Array Slot}, wp_X12_isBeside_46 D post S → wO D cy X A s.heap S H locs → wX D S0 S → lv_has ls 4 [] → W p l e r_X12_isBeside s m args below meth c H locs 0 0 (MQ below (va_Qi (fun r S9 => wX D S0 S9 ∧ post r S9) (wB D cy X A) A) args s 0 0 A) (F0 m 46 ls []) := by
  obtain ⟨hx, hb, hml, hown, hts⟩ := id F
  have hwg : ∀ w ∈ WG, w.before args s = true := fun w h => hts w (List.mem_cons_of_mem _ h)
  intro S H locs ls hp hW hE hl
  unfold wp_X12_isBeside_46 at hp
  refine lv_iconst (v := 1) hx hb dX12_isBeside_46 (by decide) ?_
  refine lv_goto (tgt := 51) hx hb dX12_isBeside_47 (by decide) ?_
  exact t_X12_isBeside_51 F hr hlocks hK hp hW hE (lv_sub hl [] rfl)
set_option maxHeartbeats 4000000 in
set_option maxRecDepth 100000 in
theorem t_X12_isBeside_20 {p : Program} {l : Launch} {e : Env} {s : State} {m : MethodId} {args : Array Value} {below : List Frame} {meth : Method} {c : Code} {D : wD} {cy : Nat → ClassId} {X : va_W} {A : Nat → Prop} {S0 : wS} {post : Int32 → wS → Prop} (F : CallFix p m c cX12_isBeside 4 s args wz_X12_isBeside RX12) (hr : meth.sig.returnType = (some .boolean)) (hlocks : meth.locks = false) (hK : wK D cy A s) : ∀ {S : wS} {H : Heap} {locs : List Loc} {ls : Array Slot} {a0 : Nat} {x1 : Int32} {x2 : Int32} {x3 : Int32}, wp_X12_isBeside_20 D post S a0 x1 x2 x3 → wO D cy X A s.heap S H locs → wX D S0 S → lv_has ls 4 [(0, .ref a0), (1, .int x1), (2, .int x2), (3, .int x3)] → wM D S a0 → sK S a0 = 17 → W p l e r_X12_isBeside s m args below meth c H locs 0 0 (MQ below (va_Qi (fun r S9 => wX D S0 S9 ∧ post r S9) (wB D cy X A) A) args s 0 0 A) (F0 m 20 ls []) := by
  obtain ⟨hx, hb, hml, hown, hts⟩ := id F
  have hwg : ∀ w ∈ WG, w.before args s = true := fun w h => hts w (List.mem_cons_of_mem _ h)
  have i_17 : ∀ w ∈ u_ws RX12 TX12 43, w ∈ wz_X12_isBeside := fun w h => List.mem_cons_of_mem _ (wu_17 w h)
  have k_9 := hwg _ wf_RX12_9
  intro S H locs ls a0 x1 x2 x3 hp hW hE hl hL_a0 hK_a0
  unfold wp_X12_isBeside_20 at hp
  refine lv_aload_n hx hb dX12_isBeside_20 rfl (lv_at hl 0 rfl) ?_
  refine lv_iload_n hx hb dX12_isBeside_21 rfl (lv_at hl 2 rfl) ?_
  refine w_callI (va_runV (As := [.int x2]) (rest := []) F (c_X12_fileOf l hL_a0 hK_a0 hp H.size) (cwV (C := RX12) 1 hts (wg_V wm_RX12_134 wy_X12_fileOf) rfl rfl rfl (by decide +kernel) ⟨Nat.le_of_ble_eq_true rfl, Nat.le_of_ble_eq_true rfl⟩) (w_preV hK hW hL_a0 hK_a0 (by decide) rfl) rfl rfl hl.1 rfl (lv_room (Nat.le_of_ble_eq_true rfl)) dX12_isBeside_22 ⟨Nat.le_of_ble_eq_true rfl, Nat.le_of_ble_eq_true rfl⟩) hW (fun r_1 S_2 H locs hp hW => ?_)
  obtain ⟨hX_S_2, hp⟩ := hp
  refine W.widen (k := 0) (n := 0) (by decide) (by decide) ?_
  have hE := hE.trans hX_S_2
  have hK_a0 : sK S_2 a0 = 17 := (hX_S_2.2 a0 hL_a0).1.trans hK_a0
  have hL_a0 : wM D S_2 a0 := hX_S_2.M hL_a0
  refine lv_aload_n hx hb dX12_isBeside_25 rfl (lv_at hl 0 rfl) ?_
  refine w_get (k := 17) (f := 1) (T := TX12) (v := .int (sI S_2 a0 1)) F hK hW hL_a0 hK_a0 (by decide) rfl rfl (by decide) i_17 k_9 rfl dX12_isBeside_26 ?_
  refine lv_iconst (v := 1) hx hb dX12_isBeside_29 (by decide) ?_
  refine lv_isub hx hb dX12_isBeside_30 ?_
  refine lv_icmp_ge (tgt := 50) hx hb dX12_isBeside_31 (by decide) (fun c_3 => ?_) (fun c_3 => ?_)
  · replace hp := hp.1 c_3
    exact t_X12_isBeside_50 F hr hlocks hK hp hW hE (lv_sub hl [] rfl)
  · replace hp := hp.2 c_3
    refine lv_aload_n hx hb dX12_isBeside_34 rfl (lv_at hl 0 rfl) ?_
    refine lv_iload_n hx hb dX12_isBeside_35 rfl (lv_at hl 1 rfl) ?_
    refine lv_iload_n hx hb dX12_isBeside_36 rfl (lv_at hl 2 rfl) ?_
    refine lv_iconst (v := 1) hx hb dX12_isBeside_37 (by decide) ?_
    refine lv_iadd hx hb dX12_isBeside_38 ?_
    refine w_callI (va_runV (As := [.int x1, .int (x2 + (1 : Int32))]) (rest := []) F (c_X12_on l hL_a0 hK_a0 hp H.size) (cwV (C := RX12) 2 hts (wg_V wm_RX12_141 wy_X12_on) rfl rfl rfl (by decide +kernel) ⟨Nat.le_of_ble_eq_true rfl, Nat.le_of_ble_eq_true rfl⟩) (w_preV hK hW hL_a0 hK_a0 (by decide) rfl) rfl rfl hl.1 rfl (lv_room (Nat.le_of_ble_eq_true rfl)) dX12_isBeside_39 ⟨Nat.le_of_ble_eq_true rfl, Nat.le_of_ble_eq_true rfl⟩) hW (fun r_4 S_5 H locs hp hW => ?_)
    obtain ⟨hX_S_5, hp⟩ := hp
    refine W.widen (k := 0) (n := 0) (by decide) (by decide) ?_
    have hE := hE.trans hX_S_5
    have hK_a0 : sK S_5 a0 = 17 := (hX_S_5.2 a0 hL_a0).1.trans hK_a0
    have hL_a0 : wM D S_5 a0 := hX_S_5.M hL_a0
    refine lv_iload_n hx hb dX12_isBeside_42 rfl (lv_at hl 3 rfl) ?_
    refine lv_icmp_ne (tgt := 50) hx hb dX12_isBeside_43 (by decide) (fun c_6 => ?_) (fun c_6 => ?_)
    · replace hp := hp.1 c_6
      exact t_X12_isBeside_50 F hr hlocks hK hp hW hE (lv_sub hl [] rfl)
    · replace hp := hp.2 c_6
      exact t_X12_isBeside_46 F hr hlocks hK hp hW hE (lv_sub hl [] rfl)
set_option maxHeartbeats 4000000 in
set_option maxRecDepth 100000 in
theorem t_X12_isBeside_0 {p : Program} {l : Launch} {e : Env} {s : State} {m : MethodId} {args : Array Value} {below : List Frame} {meth : Method} {c : Code} {D : wD} {cy : Nat → ClassId} {X : va_W} {A : Nat → Prop} {S0 : wS} {post : Int32 → wS → Prop} (F : CallFix p m c cX12_isBeside 4 s args wz_X12_isBeside RX12) (hr : meth.sig.returnType = (some .boolean)) (hlocks : meth.locks = false) (hK : wK D cy A s) : ∀ {S : wS} {H : Heap} {locs : List Loc} {ls : Array Slot} {a0 : Nat} {x1 : Int32} {x2 : Int32} {x3 : Int32}, wp_X12_isBeside_0 D post S a0 x1 x2 x3 → wO D cy X A s.heap S H locs → wX D S0 S → lv_has ls 4 [(0, .ref a0), (1, .int x1), (2, .int x2), (3, .int x3)] → wM D S a0 → sK S a0 = 17 → W p l e r_X12_isBeside s m args below meth c H locs 0 0 (MQ below (va_Qi (fun r S9 => wX D S0 S9 ∧ post r S9) (wB D cy X A) A) args s 0 0 A) (F0 m 0 ls []) := by
  obtain ⟨hx, hb, hml, hown, hts⟩ := id F
  have hwg : ∀ w ∈ WG, w.before args s = true := fun w h => hts w (List.mem_cons_of_mem _ h)
  intro S H locs ls a0 x1 x2 x3 hp hW hE hl hL_a0 hK_a0
  unfold wp_X12_isBeside_0 at hp
  refine lv_aload_n hx hb dX12_isBeside_0 rfl (lv_at hl 0 rfl) ?_
  refine lv_iload_n hx hb dX12_isBeside_1 rfl (lv_at hl 2 rfl) ?_
  refine w_callI (va_runV (As := [.int x2]) (rest := []) F (c_X12_fileOf l hL_a0 hK_a0 hp H.size) (cwV (C := RX12) 1 hts (wg_V wm_RX12_134 wy_X12_fileOf) rfl rfl rfl (by decide +kernel) ⟨Nat.le_of_ble_eq_true rfl, Nat.le_of_ble_eq_true rfl⟩) (w_preV hK hW hL_a0 hK_a0 (by decide) rfl) rfl rfl hl.1 rfl (lv_room (Nat.le_of_ble_eq_true rfl)) dX12_isBeside_2 ⟨Nat.le_of_ble_eq_true rfl, Nat.le_of_ble_eq_true rfl⟩) hW (fun r_1 S_2 H locs hp hW => ?_)
  obtain ⟨hX_S_2, hp⟩ := hp
  refine W.widen (k := 0) (n := 0) (by decide) (by decide) ?_
  have hE := hE.trans hX_S_2
  have hK_a0 : sK S_2 a0 = 17 := (hX_S_2.2 a0 hL_a0).1.trans hK_a0
  have hL_a0 : wM D S_2 a0 := hX_S_2.M hL_a0
  refine lv_if_le (tgt := 20) hx hb dX12_isBeside_5 (by decide) (fun c_3 => ?_) (fun c_3 => ?_)
  · replace hp := hp.1 c_3
    exact t_X12_isBeside_20 F hr hlocks hK hp hW hE (lv_sub hl [0, 1, 2, 3] rfl) hL_a0 hK_a0
  · replace hp := hp.2 c_3
    refine lv_aload_n hx hb dX12_isBeside_8 rfl (lv_at hl 0 rfl) ?_
    refine lv_iload_n hx hb dX12_isBeside_9 rfl (lv_at hl 1 rfl) ?_
    refine lv_iload_n hx hb dX12_isBeside_10 rfl (lv_at hl 2 rfl) ?_
    refine lv_iconst (v := 1) hx hb dX12_isBeside_11 (by decide) ?_
    refine lv_isub hx hb dX12_isBeside_12 ?_
    refine w_callI (va_runV (As := [.int x1, .int (x2 - (1 : Int32))]) (rest := []) F (c_X12_on l hL_a0 hK_a0 hp H.size) (cwV (C := RX12) 2 hts (wg_V wm_RX12_141 wy_X12_on) rfl rfl rfl (by decide +kernel) ⟨Nat.le_of_ble_eq_true rfl, Nat.le_of_ble_eq_true rfl⟩) (w_preV hK hW hL_a0 hK_a0 (by decide) rfl) rfl rfl hl.1 rfl (lv_room (Nat.le_of_ble_eq_true rfl)) dX12_isBeside_13 ⟨Nat.le_of_ble_eq_true rfl, Nat.le_of_ble_eq_true rfl⟩) hW (fun r_4 S_5 H locs hp hW => ?_)
    obtain ⟨hX_S_5, hp⟩ := hp
    refine W.widen (k := 0) (n := 0) (by decide) (by decide) ?_
    have hE := hE.trans hX_S_5
    have hK_a0 : sK S_5 a0 = 17 := (hX_S_5.2 a0 hL_a0).1.trans hK_a0
    have hL_a0 : wM D S_5 a0 := hX_S_5.M hL_a0
    refine lv_iload_n hx hb dX12_isBeside_16 rfl (lv_at hl 3 rfl) ?_
    refine lv_icmp_eq (tgt := 46) hx hb dX12_isBeside_17 (by decide) (fun c_6 => ?_) (fun c_6 => ?_)
    · replace hp := hp.1 c_6
      exact t_X12_isBeside_46 F hr hlocks hK hp hW hE (lv_sub hl [] rfl)
    · replace hp := hp.2 c_6
      exact t_X12_isBeside_20 F hr hlocks hK hp hW hE (lv_sub hl [0, 1, 2, 3] rfl) hL_a0 hK_a0
set_option maxHeartbeats 4000000 in
set_option maxRecDepth 100000 in
theorem c_X12_isBeside (l : Launch) {D : wD} {cy : Nat → ClassId} {X : va_W} {S0 : wS} {post : Int32 → wS → Prop} {a0 : Nat} {x1 : Int32} {x2 : Int32} {x3 : Int32} (hL_a0 : wM D S0 a0) (hK_a0 : sK S0 a0 = 17) (hp : wp_X12_isBeside D post S0 a0 x1 x2 x3) : mI D cy X l yX12_isBeside wz_X12_isBeside r_X12_isBeside [.ref a0, .int x1, .int x2, .int x3] S0 (fun r S9 => wX D S0 S9 ∧ post r S9) := by
  intro sz
  refine Met.ofW (cc := cX12_isBeside) (maxL := 4) (ret := (some .boolean)) (by decide) rfl ?_
  intro p e s m args below meth c s₁ B hml hv
  obtain ⟨rfl, hsz, hP, hK, hD0, hRO⟩ := hv
  have hts := atoms_spec (ws := wz_X12_isBeside) B.pre
  have hown : s.vm.findClass RX12 = some m.cls := findClass_of_methodNamed B.named
  subst hsz
  have hD := hD0.self (sz := s.heap.size)
  have F : CallFix p m c cX12_isBeside 4 s _ wz_X12_isBeside RX12 := ⟨B.exec, B.bytes, hml, hown, hts⟩
  have hr := B.returns
  have hlocks := B.notSynchronized
  generalize hAe : va_A (wL cy X S0) s.heap.size = A at hD hK ⊢
  have hA : ∀ q, s.heap.size ≤ q → A q := fun q h => by rw [← hAe]; exact Or.inr h
  have hW : wO D cy X A s.heap S0 s.heap [] := ⟨hP, hD, va_S.rf, hA, hRO⟩
  have hl := lv_entry ([.ref a0, .int x1, .int x2, .int x3]) (n := 4) (Nat.le_of_ble_eq_true rfl)
  rw [lg_entry_eq]
  generalize (lg_sl ([.ref a0, .int x1, .int x2, .int x3]) ++ List.replicate (4 - (lg_sl ([.ref a0, .int x1, .int x2, .int x3])).length) Slot.unset).toArray = ls at hl ⊢
  have hl : lv_has ls 4 [(0, .ref a0), (1, .int x1), (2, .int x2), (3, .int x3)] := hl
  unfold wp_X12_isBeside at hp
  exact t_X12_isBeside_0 F hr hlocks hK hp hW wX.rf (lv_sub hl [0, 1, 2, 3] rfl) hL_a0 hK_a0
def wp_X12_isCastling_35 (D : wD) (post : Int32 → wS → Prop)  (S : wS) (t0 : Int32) : Prop :=
narrow .boolean (.int t0) = .int t0 ∧ post t0 S
def wp_X12_isCastling_34 (D : wD) (post : Int32 → wS → Prop)  (S : wS) : Prop :=
wp_X12_isCastling_35 D post S (0 : Int32)
def wp_X12_isCastling_0 (D : wD) (post : Int32 → wS → Prop)  (S : wS) (a0 : Nat) (x1 : Int32) (x2 : Int32) (x3 : Int32) : Prop :=
wp_X12_on D (fun r_1 S_2 => 
wp_X12_kindOf D (fun r_3 S_4 => 
((¬ r_3 = (1 : Int32) → wp_X12_isCastling_34 D post S_4) ∧
 (r_3 = (1 : Int32) → wp_X12_fileOf D (fun r_6 S_7 => 
wp_X12_fileOf D (fun r_8 S_9 => 
wp_X12_distance D (fun r_10 S_11 => 
((¬ r_10 = (2 : Int32) → wp_X12_isCastling_34 D post S_11) ∧
 (r_10 = (2 : Int32) → wp_X12_isCastling_35 D post S_11 (1 : Int32)))) S_9 r_6 r_8) S_7 a0 x3) S_4 a0 x2))) S_2 r_1) S a0 x1 x2
abbrev r_X12_isCastling : Room := { frames := 1, cells := 0, slots := 0, locals := 22 }
def wp_X12_isCastling (D : wD) (post : Int32 → wS → Prop) (S : wS) (a0 : Nat) (x1 : Int32) (x2 : Int32) (x3 : Int32) : Prop := wp_X12_isCastling_0 D post S a0 x1 x2 x3
set_option maxHeartbeats 4000000 in
set_option maxRecDepth 100000 in
theorem t_X12_isCastling_35 {p : Program} {l : Launch} {e : Env} {s : State} {m : MethodId} {args : Array Value} {below : List Frame} {meth : Method} {c : Code} {D : wD} {cy : Nat → ClassId} {X : va_W} {A : Nat → Prop} {S0 : wS} {post : Int32 → wS → Prop} (F : CallFix p m c cX12_isCastling 4 s args wz_X12_isCastling RX12) (hr : meth.sig.returnType = (some .boolean)) (hlocks : meth.locks = false) (hK : wK D cy A s) : ∀ {S : wS} {H : Heap} {locs : List Loc} {ls : Array Slot} {t0 : Int32}, wp_X12_isCastling_35 D post S t0 → wO D cy X A s.heap S H locs → wX D S0 S → lv_has ls 4 [] → W p l e r_X12_isCastling s m args below meth c H locs 0 0 (MQ below (va_Qi (fun r S9 => wX D S0 S9 ∧ post r S9) (wB D cy X A) A) args s 0 0 A) (F0 m 35 ls [.int t0]) := by
  obtain ⟨hx, hb, hml, hown, hts⟩ := id F
  have hwg : ∀ w ∈ WG, w.before args s = true := fun w h => hts w (List.mem_cons_of_mem _ h)
  intro S H locs ls t0 hp hW hE hl
  unfold wp_X12_isCastling_35 at hp
  exact w_zret hx hb hr hlocks hW hp.1 ⟨hE, hp.2⟩ dX12_isCastling_35
set_option maxHeartbeats 4000000 in
set_option maxRecDepth 100000 in
theorem t_X12_isCastling_34 {p : Program} {l : Launch} {e : Env} {s : State} {m : MethodId} {args : Array Value} {below : List Frame} {meth : Method} {c : Code} {D : wD} {cy : Nat → ClassId} {X : va_W} {A : Nat → Prop} {S0 : wS} {post : Int32 → wS → Prop} (F : CallFix p m c cX12_isCastling 4 s args wz_X12_isCastling RX12) (hr : meth.sig.returnType = (some .boolean)) (hlocks : meth.locks = false) (hK : wK D cy A s) : ∀ {S : wS} {H : Heap} {locs : List Loc} {ls : Array Slot}, wp_X12_isCastling_34 D post S → wO D cy X A s.heap S H locs → wX D S0 S → lv_has ls 4 [] → W p l e r_X12_isCastling s m args below meth c H locs 0 0 (MQ below (va_Qi (fun r S9 => wX D S0 S9 ∧ post r S9) (wB D cy X A) A) args s 0 0 A) (F0 m 34 ls []) := by
  obtain ⟨hx, hb, hml, hown, hts⟩ := id F
  have hwg : ∀ w ∈ WG, w.before args s = true := fun w h => hts w (List.mem_cons_of_mem _ h)
  intro S H locs ls hp hW hE hl
  unfold wp_X12_isCastling_34 at hp
  refine lv_iconst (v := 0) hx hb dX12_isCastling_34 (by decide) ?_
  exact t_X12_isCastling_35 F hr hlocks hK hp hW hE (lv_sub hl [] rfl)
set_option maxHeartbeats 4000000 in
set_option maxRecDepth 100000 in
theorem t_X12_isCastling_0 {p : Program} {l : Launch} {e : Env} {s : State} {m : MethodId} {args : Array Value} {below : List Frame} {meth : Method} {c : Code} {D : wD} {cy : Nat → ClassId} {X : va_W} {A : Nat → Prop} {S0 : wS} {post : Int32 → wS → Prop} (F : CallFix p m c cX12_isCastling 4 s args wz_X12_isCastling RX12) (hr : meth.sig.returnType = (some .boolean)) (hlocks : meth.locks = false) (hK : wK D cy A s) : ∀ {S : wS} {H : Heap} {locs : List Loc} {ls : Array Slot} {a0 : Nat} {x1 : Int32} {x2 : Int32} {x3 : Int32}, wp_X12_isCastling_0 D post S a0 x1 x2 x3 → wO D cy X A s.heap S H locs → wX D S0 S → lv_has ls 4 [(0, .ref a0), (1, .int x1), (2, .int x2), (3, .int x3)] → wM D S a0 → sK S a0 = 17 → W p l e r_X12_isCastling s m args below meth c H locs 0 0 (MQ below (va_Qi (fun r S9 => wX D S0 S9 ∧ post r S9) (wB D cy X A) A) args s 0 0 A) (F0 m 0 ls []) := by
  obtain ⟨hx, hb, hml, hown, hts⟩ := id F
  have hwg : ∀ w ∈ WG, w.before args s = true := fun w h => hts w (List.mem_cons_of_mem _ h)
  intro S H locs ls a0 x1 x2 x3 hp hW hE hl hL_a0 hK_a0
  unfold wp_X12_isCastling_0 at hp
  refine lv_aload_n hx hb dX12_isCastling_0 rfl (lv_at hl 0 rfl) ?_
  refine lv_iload_n hx hb dX12_isCastling_1 rfl (lv_at hl 1 rfl) ?_
  refine lv_iload_n hx hb dX12_isCastling_2 rfl (lv_at hl 2 rfl) ?_
  refine w_callI (va_runV (As := [.int x1, .int x2]) (rest := []) F (c_X12_on l hL_a0 hK_a0 hp H.size) (cwV (C := RX12) 2 hts (wg_V wm_RX12_141 wy_X12_on) rfl rfl rfl (by decide +kernel) ⟨Nat.le_of_ble_eq_true rfl, Nat.le_of_ble_eq_true rfl⟩) (w_preV hK hW hL_a0 hK_a0 (by decide) rfl) rfl rfl hl.1 rfl (lv_room (Nat.le_of_ble_eq_true rfl)) dX12_isCastling_3 ⟨Nat.le_of_ble_eq_true rfl, Nat.le_of_ble_eq_true rfl⟩) hW (fun r_1 S_2 H locs hp hW => ?_)
  obtain ⟨hX_S_2, hp⟩ := hp
  refine W.widen (k := 0) (n := 0) (by decide) (by decide) ?_
  have hE := hE.trans hX_S_2
  have hK_a0 : sK S_2 a0 = 17 := (hX_S_2.2 a0 hL_a0).1.trans hK_a0
  have hL_a0 : wM D S_2 a0 := hX_S_2.M hL_a0
  refine w_callI (va_runS (As := [.int r_1]) (rest := []) F (c_X12_kindOf l hp H.size) (va_cwS 1 hts (wg_S wm_RX12_148 wy_X12_kindOf) rfl rfl rfl (by decide +kernel) ⟨Nat.le_of_ble_eq_true rfl, Nat.le_of_ble_eq_true rfl⟩) (w_preS hK hW) rfl rfl hl.1 rfl (lv_room (Nat.le_of_ble_eq_true rfl)) dX12_isCastling_6 ⟨Nat.le_of_ble_eq_true rfl, Nat.le_of_ble_eq_true rfl⟩) hW (fun r_3 S_4 H locs hp hW => ?_)
  obtain ⟨hX_S_4, hp⟩ := hp
  refine W.widen (k := 0) (n := 0) (by decide) (by decide) ?_
  have hE := hE.trans hX_S_4
  have hK_a0 : sK S_4 a0 = 17 := (hX_S_4.2 a0 hL_a0).1.trans hK_a0
  have hL_a0 : wM D S_4 a0 := hX_S_4.M hL_a0
  refine lv_iconst (v := 1) hx hb dX12_isCastling_9 (by decide) ?_
  refine lv_icmp_ne (tgt := 34) hx hb dX12_isCastling_10 (by decide) (fun c_5 => ?_) (fun c_5 => ?_)
  · replace hp := hp.1 c_5
    exact t_X12_isCastling_34 F hr hlocks hK hp hW hE (lv_sub hl [] rfl)
  · replace hp := hp.2 c_5
    refine lv_aload_n hx hb dX12_isCastling_13 rfl (lv_at hl 0 rfl) ?_
    refine lv_iload_n hx hb dX12_isCastling_14 rfl (lv_at hl 2 rfl) ?_
    refine w_callI (va_runV (As := [.int x2]) (rest := []) F (c_X12_fileOf l hL_a0 hK_a0 hp H.size) (cwV (C := RX12) 1 hts (wg_V wm_RX12_134 wy_X12_fileOf) rfl rfl rfl (by decide +kernel) ⟨Nat.le_of_ble_eq_true rfl, Nat.le_of_ble_eq_true rfl⟩) (w_preV hK hW hL_a0 hK_a0 (by decide) rfl) rfl rfl hl.1 rfl (lv_room (Nat.le_of_ble_eq_true rfl)) dX12_isCastling_15 ⟨Nat.le_of_ble_eq_true rfl, Nat.le_of_ble_eq_true rfl⟩) hW (fun r_6 S_7 H locs hp hW => ?_)
    obtain ⟨hX_S_7, hp⟩ := hp
    refine W.widen (k := 0) (n := 0) (by decide) (by decide) ?_
    have hE := hE.trans hX_S_7
    have hK_a0 : sK S_7 a0 = 17 := (hX_S_7.2 a0 hL_a0).1.trans hK_a0
    have hL_a0 : wM D S_7 a0 := hX_S_7.M hL_a0
    refine lv_aload_n hx hb dX12_isCastling_18 rfl (lv_at hl 0 rfl) ?_
    refine lv_iload_n hx hb dX12_isCastling_19 rfl (lv_at hl 3 rfl) ?_
    refine w_callI (va_runV (As := [.int x3]) (rest := [.int r_6]) F (c_X12_fileOf l hL_a0 hK_a0 hp H.size) (cwV (C := RX12) 1 hts (wg_V wm_RX12_134 wy_X12_fileOf) rfl rfl rfl (by decide +kernel) ⟨Nat.le_of_ble_eq_true rfl, Nat.le_of_ble_eq_true rfl⟩) (w_preV hK hW hL_a0 hK_a0 (by decide) rfl) rfl rfl hl.1 rfl (lv_room (Nat.le_of_ble_eq_true rfl)) dX12_isCastling_20 ⟨Nat.le_of_ble_eq_true rfl, Nat.le_of_ble_eq_true rfl⟩) hW (fun r_8 S_9 H locs hp hW => ?_)
    obtain ⟨hX_S_9, hp⟩ := hp
    refine W.widen (k := 0) (n := 0) (by decide) (by decide) ?_
    have hE := hE.trans hX_S_9
    have hK_a0 : sK S_9 a0 = 17 := (hX_S_9.2 a0 hL_a0).1.trans hK_a0
    have hL_a0 : wM D S_9 a0 := hX_S_9.M hL_a0
    refine w_callI (va_runS (As := [.int r_6, .int r_8]) (rest := []) F (c_X12_distance l hp H.size) (va_cwS 2 hts (wg_S wm_RX12_145 wy_X12_distance) rfl rfl rfl (by decide +kernel) ⟨Nat.le_of_ble_eq_true rfl, Nat.le_of_ble_eq_true rfl⟩) (w_preS hK hW) rfl rfl hl.1 rfl (lv_room (Nat.le_of_ble_eq_true rfl)) dX12_isCastling_23 ⟨Nat.le_of_ble_eq_true rfl, Nat.le_of_ble_eq_true rfl⟩) hW (fun r_10 S_11 H locs hp hW => ?_)
    obtain ⟨hX_S_11, hp⟩ := hp
    refine W.widen (k := 0) (n := 0) (by decide) (by decide) ?_
    have hE := hE.trans hX_S_11
    have hK_a0 : sK S_11 a0 = 17 := (hX_S_11.2 a0 hL_a0).1.trans hK_a0
    have hL_a0 : wM D S_11 a0 := hX_S_11.M hL_a0
    refine lv_iconst (v := 2) hx hb dX12_isCastling_26 (by decide) ?_
    refine lv_icmp_ne (tgt := 34) hx hb dX12_isCastling_27 (by decide) (fun c_12 => ?_) (fun c_12 => ?_)
    · replace hp := hp.1 c_12
      exact t_X12_isCastling_34 F hr hlocks hK hp hW hE (lv_sub hl [] rfl)
    · replace hp := hp.2 c_12
      refine lv_iconst (v := 1) hx hb dX12_isCastling_30 (by decide) ?_
      refine lv_goto (tgt := 35) hx hb dX12_isCastling_31 (by decide) ?_
      exact t_X12_isCastling_35 F hr hlocks hK hp hW hE (lv_sub hl [] rfl)
set_option maxHeartbeats 4000000 in
set_option maxRecDepth 100000 in
theorem c_X12_isCastling (l : Launch) {D : wD} {cy : Nat → ClassId} {X : va_W} {S0 : wS} {post : Int32 → wS → Prop} {a0 : Nat} {x1 : Int32} {x2 : Int32} {x3 : Int32} (hL_a0 : wM D S0 a0) (hK_a0 : sK S0 a0 = 17) (hp : wp_X12_isCastling D post S0 a0 x1 x2 x3) : mI D cy X l yX12_isCastling wz_X12_isCastling r_X12_isCastling [.ref a0, .int x1, .int x2, .int x3] S0 (fun r S9 => wX D S0 S9 ∧ post r S9) := by
  intro sz
  refine Met.ofW (cc := cX12_isCastling) (maxL := 4) (ret := (some .boolean)) (by decide) rfl ?_
  intro p e s m args below meth c s₁ B hml hv
  obtain ⟨rfl, hsz, hP, hK, hD0, hRO⟩ := hv
  have hts := atoms_spec (ws := wz_X12_isCastling) B.pre
  have hown : s.vm.findClass RX12 = some m.cls := findClass_of_methodNamed B.named
  subst hsz
  have hD := hD0.self (sz := s.heap.size)
  have F : CallFix p m c cX12_isCastling 4 s _ wz_X12_isCastling RX12 := ⟨B.exec, B.bytes, hml, hown, hts⟩
  have hr := B.returns
  have hlocks := B.notSynchronized
  generalize hAe : va_A (wL cy X S0) s.heap.size = A at hD hK ⊢
  have hA : ∀ q, s.heap.size ≤ q → A q := fun q h => by rw [← hAe]; exact Or.inr h
  have hW : wO D cy X A s.heap S0 s.heap [] := ⟨hP, hD, va_S.rf, hA, hRO⟩
  have hl := lv_entry ([.ref a0, .int x1, .int x2, .int x3]) (n := 4) (Nat.le_of_ble_eq_true rfl)
  rw [lg_entry_eq]
  generalize (lg_sl ([.ref a0, .int x1, .int x2, .int x3]) ++ List.replicate (4 - (lg_sl ([.ref a0, .int x1, .int x2, .int x3])).length) Slot.unset).toArray = ls at hl ⊢
  have hl : lv_has ls 4 [(0, .ref a0), (1, .int x1), (2, .int x2), (3, .int x3)] := hl
  unfold wp_X12_isCastling at hp
  exact t_X12_isCastling_0 F hr hlocks hK hp hW wX.rf (lv_sub hl [0, 1, 2, 3] rfl) hL_a0 hK_a0
def wp_X12_lay_0 (D : wD) (post : wS → Prop)  (S : wS) (a0 : Nat) (x1 : Int32) (x2 : Int32) (x3 : Int32) : Prop :=
∃ y_1 : Nat, sR S a0 3 = some y_1 ∧ wM D S y_1 ∧ sK S y_1 = 21 ∧
y_1 ∈ sL S ∧ vp_in (((67 : Int32) * x1) + x2) (sN S y_1) ∧
∀ S_3 : wS, S_3 = uI S y_1 ((((67 : Int32) * x1) + x2)).toNatClampNeg x3 →
post S_3
abbrev r_X12_lay : Room := { frames := 0, cells := 0, slots := 0, locals := 0 }
def wp_X12_lay (D : wD) (post : wS → Prop) (S : wS) (a0 : Nat) (x1 : Int32) (x2 : Int32) (x3 : Int32) : Prop := wp_X12_lay_0 D post S a0 x1 x2 x3
set_option maxHeartbeats 4000000 in
set_option maxRecDepth 100000 in
theorem t_X12_lay_0 {p : Program} {l : Launch} {e : Env} {s : State} {m : MethodId} {args : Array Value} {below : List Frame} {meth : Method} {c : Code} {D : wD} {cy : Nat → ClassId} {X : va_W} {A : Nat → Prop} {S0 : wS} {post : wS → Prop} (F : CallFix p m c cX12_lay 4 s args wz_X12_lay RX12) (hr : meth.sig.returnType = none) (hlocks : meth.locks = false) (hK : wK D cy A s) : ∀ {S : wS} {H : Heap} {locs : List Loc} {ls : Array Slot} {a0 : Nat} {x1 : Int32} {x2 : Int32} {x3 : Int32}, wp_X12_lay_0 D post S a0 x1 x2 x3 → wO D cy X A s.heap S H locs → wX D S0 S → lv_has ls 4 [(0, .ref a0), (1, .int x1), (2, .int x2), (3, .int x3)] → wM D S a0 → sK S a0 = 17 → W p l e r_X12_lay s m args below meth c H locs 0 0 (MQ below (va_Qv (fun S9 => wX D S0 S9 ∧ post S9) (wB D cy X A) A) args s 0 0 A) (F0 m 0 ls []) := by
  obtain ⟨hx, hb, hml, hown, hts⟩ := id F
  have hwg : ∀ w ∈ WG, w.before args s = true := fun w h => hts w (List.mem_cons_of_mem _ h)
  have i_17 : ∀ w ∈ u_ws RX12 TX12 43, w ∈ wz_X12_lay := fun w h => List.mem_cons_of_mem _ (wu_17 w h)
  have k_16 := hwg _ wf_RX12_16
  intro S H locs ls a0 x1 x2 x3 hp hW hE hl hL_a0 hK_a0
  unfold wp_X12_lay_0 at hp
  refine lv_aload_n hx hb dX12_lay_0 rfl (lv_at hl 0 rfl) ?_
  obtain ⟨y_1, ey_1, hL_y_1, hK_y_1, hp⟩ := hp
  refine w_get (k := 17) (f := 3) (T := TX12) (v := .ref y_1) F hK hW hL_a0 hK_a0 (by decide) rfl rfl (by decide) i_17 k_16 (by rw [show wv 17 3 S a0 = va_rf (sR S a0 3) from rfl, ey_1]; rfl) dX12_lay_1 ?_
  refine lv_bipush (v := 67) hx hb dX12_lay_4 (by decide) ?_
  refine lv_iload_n hx hb dX12_lay_6 rfl (lv_at hl 1 rfl) ?_
  refine lv_imul hx hb dX12_lay_7 ?_
  refine lv_iload_n hx hb dX12_lay_8 rfl (lv_at hl 2 rfl) ?_
  refine lv_iadd hx hb dX12_lay_9 ?_
  refine lv_iload_n hx hb dX12_lay_10 rfl (lv_at hl 3 rfl) ?_
  obtain ⟨h_2m, h_2, hp⟩ := hp
  refine w_ist F hK hW h_2m hK_y_1 h_2 dX12_lay_11 (fun H locs hW => ?_)
  obtain ⟨S_3, eS_3⟩ : ∃ z : wS, z = uI S y_1 ((((67 : Int32) * x1) + x2)).toNatClampNeg x3 := ⟨_, rfl⟩
  rw [← eS_3] at hW
  replace hp := hp S_3 eS_3
  have hX_S_3 : wX D S S_3 := by rw [eS_3]; exact wX_uI
  have hE := hE.trans hX_S_3
  have hK_a0 : sK S_3 a0 = 17 := (hX_S_3.2 a0 hL_a0).1.trans hK_a0
  have hL_a0 : wM D S_3 a0 := hX_S_3.M hL_a0
  exact w_vret hx hb hr hlocks hW ⟨hE, hp⟩ dX12_lay_12
set_option maxHeartbeats 4000000 in
set_option maxRecDepth 100000 in
theorem c_X12_lay (l : Launch) {D : wD} {cy : Nat → ClassId} {X : va_W} {S0 : wS} {post : wS → Prop} {a0 : Nat} {x1 : Int32} {x2 : Int32} {x3 : Int32} (hL_a0 : wM D S0 a0) (hK_a0 : sK S0 a0 = 17) (hp : wp_X12_lay D post S0 a0 x1 x2 x3) : mV D cy X l yX12_lay wz_X12_lay r_X12_lay [.ref a0, .int x1, .int x2, .int x3] S0 (fun S9 => wX D S0 S9 ∧ post S9) := by
  intro sz
  refine Met.ofW (cc := cX12_lay) (maxL := 4) (ret := none) (by decide) rfl ?_
  intro p e s m args below meth c s₁ B hml hv
  obtain ⟨rfl, hsz, hP, hK, hD0, hRO⟩ := hv
  have hts := atoms_spec (ws := wz_X12_lay) B.pre
  have hown : s.vm.findClass RX12 = some m.cls := findClass_of_methodNamed B.named
  subst hsz
  have hD := hD0.self (sz := s.heap.size)
  have F : CallFix p m c cX12_lay 4 s _ wz_X12_lay RX12 := ⟨B.exec, B.bytes, hml, hown, hts⟩
  have hr := B.returns
  have hlocks := B.notSynchronized
  generalize hAe : va_A (wL cy X S0) s.heap.size = A at hD hK ⊢
  have hA : ∀ q, s.heap.size ≤ q → A q := fun q h => by rw [← hAe]; exact Or.inr h
  have hW : wO D cy X A s.heap S0 s.heap [] := ⟨hP, hD, va_S.rf, hA, hRO⟩
  have hl := lv_entry ([.ref a0, .int x1, .int x2, .int x3]) (n := 4) (Nat.le_of_ble_eq_true rfl)
  rw [lg_entry_eq]
  generalize (lg_sl ([.ref a0, .int x1, .int x2, .int x3]) ++ List.replicate (4 - (lg_sl ([.ref a0, .int x1, .int x2, .int x3])).length) Slot.unset).toArray = ls at hl ⊢
  have hl : lv_has ls 4 [(0, .ref a0), (1, .int x1), (2, .int x2), (3, .int x3)] := hl
  unfold wp_X12_lay at hp
  exact t_X12_lay_0 F hr hlocks hK hp hW wX.rf (lv_sub hl [0, 1, 2, 3] rfl) hL_a0 hK_a0
def wp_X12_lost_71 (D : wD) (post : Int32 → wS → Prop)  (S : wS) (t0 : Int32) : Prop :=
post t0 S
def wp_X12_lost_0 (D : wD) (post : Int32 → wS → Prop)  (S : wS) (a0 : Nat) (x1 : Int32) : Prop :=
(((sI S a0 1) = (8 : Int32) → wp_X12_homeOf D (fun r_2 S_3 => 
((¬ x1 = r_2 → wp_X12_homeOf D (fun r_5 S_6 => 
((¬ x1 = r_5 → wp_X12_homeOf D (fun r_8 S_9 => 
((¬ x1 = r_8 → wp_X12_homeOf D (fun r_11 S_12 => 
((¬ x1 = r_11 → wp_X12_lost_71 D post S_12 (0 : Int32)) ∧
 (x1 = r_11 → wp_X12_lost_71 D post S_12 (8 : Int32)))) S_9 a0 (0 : Int32) (0 : Int32)) ∧
 (x1 = r_8 → wp_X12_lost_71 D post S_9 (4 : Int32)))) S_6 a0 (0 : Int32) (7 : Int32)) ∧
 (x1 = r_5 → wp_X12_lost_71 D post S_6 (2 : Int32)))) S_3 a0 (1 : Int32) (0 : Int32)) ∧
 (x1 = r_2 → wp_X12_lost_71 D post S_3 (1 : Int32)))) S a0 (1 : Int32) (7 : Int32)) ∧
 (¬ (sI S a0 1) = (8 : Int32) → post (0 : Int32) S))
abbrev r_X12_lost : Room := { frames := 2, cells := 0, slots := 0, locals := 43 }
def wp_X12_lost (D : wD) (post : Int32 → wS → Prop) (S : wS) (a0 : Nat) (x1 : Int32) : Prop := wp_X12_lost_0 D post S a0 x1
set_option maxHeartbeats 4000000 in
set_option maxRecDepth 100000 in
theorem t_X12_lost_71 {p : Program} {l : Launch} {e : Env} {s : State} {m : MethodId} {args : Array Value} {below : List Frame} {meth : Method} {c : Code} {D : wD} {cy : Nat → ClassId} {X : va_W} {A : Nat → Prop} {S0 : wS} {post : Int32 → wS → Prop} (F : CallFix p m c cX12_lost 2 s args wz_X12_lost RX12) (hr : meth.sig.returnType = (some .int)) (hlocks : meth.locks = false) (hK : wK D cy A s) : ∀ {S : wS} {H : Heap} {locs : List Loc} {ls : Array Slot} {t0 : Int32}, wp_X12_lost_71 D post S t0 → wO D cy X A s.heap S H locs → wX D S0 S → lv_has ls 2 [] → W p l e r_X12_lost s m args below meth c H locs 0 0 (MQ below (va_Qi (fun r S9 => wX D S0 S9 ∧ post r S9) (wB D cy X A) A) args s 0 0 A) (F0 m 71 ls [.int t0]) := by
  obtain ⟨hx, hb, hml, hown, hts⟩ := id F
  have hwg : ∀ w ∈ WG, w.before args s = true := fun w h => hts w (List.mem_cons_of_mem _ h)
  intro S H locs ls t0 hp hW hE hl
  unfold wp_X12_lost_71 at hp
  exact w_iret hx hb hr hlocks hW ⟨hE, hp⟩ dX12_lost_71
set_option maxHeartbeats 4000000 in
set_option maxRecDepth 100000 in
theorem t_X12_lost_0 {p : Program} {l : Launch} {e : Env} {s : State} {m : MethodId} {args : Array Value} {below : List Frame} {meth : Method} {c : Code} {D : wD} {cy : Nat → ClassId} {X : va_W} {A : Nat → Prop} {S0 : wS} {post : Int32 → wS → Prop} (F : CallFix p m c cX12_lost 2 s args wz_X12_lost RX12) (hr : meth.sig.returnType = (some .int)) (hlocks : meth.locks = false) (hK : wK D cy A s) : ∀ {S : wS} {H : Heap} {locs : List Loc} {ls : Array Slot} {a0 : Nat} {x1 : Int32}, wp_X12_lost_0 D post S a0 x1 → wO D cy X A s.heap S H locs → wX D S0 S → lv_has ls 2 [(0, .ref a0), (1, .int x1)] → wM D S a0 → sK S a0 = 17 → W p l e r_X12_lost s m args below meth c H locs 0 0 (MQ below (va_Qi (fun r S9 => wX D S0 S9 ∧ post r S9) (wB D cy X A) A) args s 0 0 A) (F0 m 0 ls []) := by
  obtain ⟨hx, hb, hml, hown, hts⟩ := id F
  have hwg : ∀ w ∈ WG, w.before args s = true := fun w h => hts w (List.mem_cons_of_mem _ h)
  have i_17 : ∀ w ∈ u_ws RX12 TX12 43, w ∈ wz_X12_lost := fun w h => List.mem_cons_of_mem _ (wu_17 w h)
  have k_9 := hwg _ wf_RX12_9
  intro S H locs ls a0 x1 hp hW hE hl hL_a0 hK_a0
  unfold wp_X12_lost_0 at hp
  refine lv_aload_n hx hb dX12_lost_0 rfl (lv_at hl 0 rfl) ?_
  refine w_get (k := 17) (f := 1) (T := TX12) (v := .int (sI S a0 1)) F hK hW hL_a0 hK_a0 (by decide) rfl rfl (by decide) i_17 k_9 rfl dX12_lost_1 ?_
  refine lv_bipush (v := 8) hx hb dX12_lost_4 (by decide) ?_
  refine lv_icmp_eq (tgt := 11) hx hb dX12_lost_6 (by decide) (fun c_1 => ?_) (fun c_1 => ?_)
  · replace hp := hp.1 c_1
    refine lv_iload_n hx hb dX12_lost_11 rfl (lv_at hl 1 rfl) ?_
    refine lv_aload_n hx hb dX12_lost_12 rfl (lv_at hl 0 rfl) ?_
    refine lv_iconst (v := 1) hx hb dX12_lost_13 (by decide) ?_
    refine lv_bipush (v := 7) hx hb dX12_lost_14 (by decide) ?_
    refine w_callI (va_runV (As := [.int (1 : Int32), .int (7 : Int32)]) (rest := [.int x1]) F (c_X12_homeOf l hL_a0 hK_a0 hp H.size) (cwV (C := RX12) 2 hts (wg_V wm_RX12_173 wy_X12_homeOf) rfl rfl rfl (by decide +kernel) ⟨Nat.le_of_ble_eq_true rfl, Nat.le_of_ble_eq_true rfl⟩) (w_preV hK hW hL_a0 hK_a0 (by decide) rfl) rfl rfl hl.1 rfl (lv_room (Nat.le_of_ble_eq_true rfl)) dX12_lost_16 ⟨Nat.le_of_ble_eq_true rfl, Nat.le_of_ble_eq_true rfl⟩) hW (fun r_2 S_3 H locs hp hW => ?_)
    obtain ⟨hX_S_3, hp⟩ := hp
    refine W.widen (k := 0) (n := 0) (by decide) (by decide) ?_
    have hE := hE.trans hX_S_3
    have hK_a0 : sK S_3 a0 = 17 := (hX_S_3.2 a0 hL_a0).1.trans hK_a0
    have hL_a0 : wM D S_3 a0 := hX_S_3.M hL_a0
    refine lv_icmp_ne (tgt := 26) hx hb dX12_lost_19 (by decide) (fun c_4 => ?_) (fun c_4 => ?_)
    · replace hp := hp.1 c_4
      refine lv_iload_n hx hb dX12_lost_26 rfl (lv_at hl 1 rfl) ?_
      refine lv_aload_n hx hb dX12_lost_27 rfl (lv_at hl 0 rfl) ?_
      refine lv_iconst (v := 1) hx hb dX12_lost_28 (by decide) ?_
      refine lv_iconst (v := 0) hx hb dX12_lost_29 (by decide) ?_
      refine w_callI (va_runV (As := [.int (1 : Int32), .int (0 : Int32)]) (rest := [.int x1]) F (c_X12_homeOf l hL_a0 hK_a0 hp H.size) (cwV (C := RX12) 2 hts (wg_V wm_RX12_173 wy_X12_homeOf) rfl rfl rfl (by decide +kernel) ⟨Nat.le_of_ble_eq_true rfl, Nat.le_of_ble_eq_true rfl⟩) (w_preV hK hW hL_a0 hK_a0 (by decide) rfl) rfl rfl hl.1 rfl (lv_room (Nat.le_of_ble_eq_true rfl)) dX12_lost_30 ⟨Nat.le_of_ble_eq_true rfl, Nat.le_of_ble_eq_true rfl⟩) hW (fun r_5 S_6 H locs hp hW => ?_)
      obtain ⟨hX_S_6, hp⟩ := hp
      refine W.widen (k := 0) (n := 0) (by decide) (by decide) ?_
      have hE := hE.trans hX_S_6
      have hK_a0 : sK S_6 a0 = 17 := (hX_S_6.2 a0 hL_a0).1.trans hK_a0
      have hL_a0 : wM D S_6 a0 := hX_S_6.M hL_a0
      refine lv_icmp_ne (tgt := 40) hx hb dX12_lost_33 (by decide) (fun c_7 => ?_) (fun c_7 => ?_)
      · replace hp := hp.1 c_7
        refine lv_iload_n hx hb dX12_lost_40 rfl (lv_at hl 1 rfl) ?_
        refine lv_aload_n hx hb dX12_lost_41 rfl (lv_at hl 0 rfl) ?_
        refine lv_iconst (v := 0) hx hb dX12_lost_42 (by decide) ?_
        refine lv_bipush (v := 7) hx hb dX12_lost_43 (by decide) ?_
        refine w_callI (va_runV (As := [.int (0 : Int32), .int (7 : Int32)]) (rest := [.int x1]) F (c_X12_homeOf l hL_a0 hK_a0 hp H.size) (cwV (C := RX12) 2 hts (wg_V wm_RX12_173 wy_X12_homeOf) rfl rfl rfl (by decide +kernel) ⟨Nat.le_of_ble_eq_true rfl, Nat.le_of_ble_eq_true rfl⟩) (w_preV hK hW hL_a0 hK_a0 (by decide) rfl) rfl rfl hl.1 rfl (lv_room (Nat.le_of_ble_eq_true rfl)) dX12_lost_45 ⟨Nat.le_of_ble_eq_true rfl, Nat.le_of_ble_eq_true rfl⟩) hW (fun r_8 S_9 H locs hp hW => ?_)
        obtain ⟨hX_S_9, hp⟩ := hp
        refine W.widen (k := 0) (n := 0) (by decide) (by decide) ?_
        have hE := hE.trans hX_S_9
        have hK_a0 : sK S_9 a0 = 17 := (hX_S_9.2 a0 hL_a0).1.trans hK_a0
        have hL_a0 : wM D S_9 a0 := hX_S_9.M hL_a0
        refine lv_icmp_ne (tgt := 55) hx hb dX12_lost_48 (by decide) (fun c_10 => ?_) (fun c_10 => ?_)
        · replace hp := hp.1 c_10
          refine lv_iload_n hx hb dX12_lost_55 rfl (lv_at hl 1 rfl) ?_
          refine lv_aload_n hx hb dX12_lost_56 rfl (lv_at hl 0 rfl) ?_
          refine lv_iconst (v := 0) hx hb dX12_lost_57 (by decide) ?_
          refine lv_iconst (v := 0) hx hb dX12_lost_58 (by decide) ?_
          refine w_callI (va_runV (As := [.int (0 : Int32), .int (0 : Int32)]) (rest := [.int x1]) F (c_X12_homeOf l hL_a0 hK_a0 hp H.size) (cwV (C := RX12) 2 hts (wg_V wm_RX12_173 wy_X12_homeOf) rfl rfl rfl (by decide +kernel) ⟨Nat.le_of_ble_eq_true rfl, Nat.le_of_ble_eq_true rfl⟩) (w_preV hK hW hL_a0 hK_a0 (by decide) rfl) rfl rfl hl.1 rfl (lv_room (Nat.le_of_ble_eq_true rfl)) dX12_lost_59 ⟨Nat.le_of_ble_eq_true rfl, Nat.le_of_ble_eq_true rfl⟩) hW (fun r_11 S_12 H locs hp hW => ?_)
          obtain ⟨hX_S_12, hp⟩ := hp
          refine W.widen (k := 0) (n := 0) (by decide) (by decide) ?_
          have hE := hE.trans hX_S_12
          have hK_a0 : sK S_12 a0 = 17 := (hX_S_12.2 a0 hL_a0).1.trans hK_a0
          have hL_a0 : wM D S_12 a0 := hX_S_12.M hL_a0
          refine lv_icmp_ne (tgt := 70) hx hb dX12_lost_62 (by decide) (fun c_13 => ?_) (fun c_13 => ?_)
          · replace hp := hp.1 c_13
            refine lv_iconst (v := 0) hx hb dX12_lost_70 (by decide) ?_
            exact t_X12_lost_71 F hr hlocks hK hp hW hE (lv_sub hl [] rfl)
          · replace hp := hp.2 c_13
            refine lv_bipush (v := 8) hx hb dX12_lost_65 (by decide) ?_
            refine lv_goto (tgt := 71) hx hb dX12_lost_67 (by decide) ?_
            exact t_X12_lost_71 F hr hlocks hK hp hW hE (lv_sub hl [] rfl)
        · replace hp := hp.2 c_10
          refine lv_iconst (v := 4) hx hb dX12_lost_51 (by decide) ?_
          refine lv_goto (tgt := 71) hx hb dX12_lost_52 (by decide) ?_
          exact t_X12_lost_71 F hr hlocks hK hp hW hE (lv_sub hl [] rfl)
      · replace hp := hp.2 c_7
        refine lv_iconst (v := 2) hx hb dX12_lost_36 (by decide) ?_
        refine lv_goto (tgt := 71) hx hb dX12_lost_37 (by decide) ?_
        exact t_X12_lost_71 F hr hlocks hK hp hW hE (lv_sub hl [] rfl)
    · replace hp := hp.2 c_4
      refine lv_iconst (v := 1) hx hb dX12_lost_22 (by decide) ?_
      refine lv_goto (tgt := 71) hx hb dX12_lost_23 (by decide) ?_
      exact t_X12_lost_71 F hr hlocks hK hp hW hE (lv_sub hl [] rfl)
  · replace hp := hp.2 c_1
    refine lv_iconst (v := 0) hx hb dX12_lost_9 (by decide) ?_
    exact w_iret hx hb hr hlocks hW ⟨hE, hp⟩ dX12_lost_10
set_option maxHeartbeats 4000000 in
set_option maxRecDepth 100000 in
theorem c_X12_lost (l : Launch) {D : wD} {cy : Nat → ClassId} {X : va_W} {S0 : wS} {post : Int32 → wS → Prop} {a0 : Nat} {x1 : Int32} (hL_a0 : wM D S0 a0) (hK_a0 : sK S0 a0 = 17) (hp : wp_X12_lost D post S0 a0 x1) : mI D cy X l yX12_lost wz_X12_lost r_X12_lost [.ref a0, .int x1] S0 (fun r S9 => wX D S0 S9 ∧ post r S9) := by
  intro sz
  refine Met.ofW (cc := cX12_lost) (maxL := 2) (ret := (some .int)) (by decide) rfl ?_
  intro p e s m args below meth c s₁ B hml hv
  obtain ⟨rfl, hsz, hP, hK, hD0, hRO⟩ := hv
  have hts := atoms_spec (ws := wz_X12_lost) B.pre
  have hown : s.vm.findClass RX12 = some m.cls := findClass_of_methodNamed B.named
  subst hsz
  have hD := hD0.self (sz := s.heap.size)
  have F : CallFix p m c cX12_lost 2 s _ wz_X12_lost RX12 := ⟨B.exec, B.bytes, hml, hown, hts⟩
  have hr := B.returns
  have hlocks := B.notSynchronized
  generalize hAe : va_A (wL cy X S0) s.heap.size = A at hD hK ⊢
  have hA : ∀ q, s.heap.size ≤ q → A q := fun q h => by rw [← hAe]; exact Or.inr h
  have hW : wO D cy X A s.heap S0 s.heap [] := ⟨hP, hD, va_S.rf, hA, hRO⟩
  have hl := lv_entry ([.ref a0, .int x1]) (n := 2) (Nat.le_of_ble_eq_true rfl)
  rw [lg_entry_eq]
  generalize (lg_sl ([.ref a0, .int x1]) ++ List.replicate (2 - (lg_sl ([.ref a0, .int x1])).length) Slot.unset).toArray = ls at hl ⊢
  have hl : lv_has ls 2 [(0, .ref a0), (1, .int x1)] := hl
  unfold wp_X12_lost at hp
  exact t_X12_lost_0 F hr hlocks hK hp hW wX.rf (lv_sub hl [0, 1] rfl) hL_a0 hK_a0
def wp_X12_takes_41 (D : wD) (post : Int32 → wS → Prop)  (S : wS) (t0 : Int32) : Prop :=
narrow .boolean (.int t0) = .int t0 ∧ post t0 S
def wp_X12_takes_40 (D : wD) (post : Int32 → wS → Prop)  (S : wS) : Prop :=
wp_X12_takes_41 D post S (0 : Int32)
def wp_X12_takes_36 (D : wD) (post : Int32 → wS → Prop)  (S : wS) : Prop :=
wp_X12_takes_41 D post S (1 : Int32)
def wp_X12_takes_0 (D : wD) (post : Int32 → wS → Prop)  (S : wS) (a0 : Nat) (x1 : Int32) (x2 : Int32) (x3 : Int32) : Prop :=
wp_X12_on D (fun r_1 S_2 => 
((¬ r_1 = 0 → wp_X12_takes_36 D post S_2) ∧
 (r_1 = 0 → wp_X12_on D (fun r_4 S_5 => 
wp_X12_kindOf D (fun r_6 S_7 => 
((¬ r_6 = (6 : Int32) → wp_X12_takes_40 D post S_7) ∧
 (r_6 = (6 : Int32) → wp_X12_fileOf D (fun r_9 S_10 => 
wp_X12_fileOf D (fun r_11 S_12 => 
((r_9 = r_11 → wp_X12_takes_40 D post S_12) ∧
 (¬ r_9 = r_11 → wp_X12_takes_36 D post S_12))) S_10 a0 x3) S_7 a0 x2))) S_5 r_4) S_2 a0 x1 x2))) S a0 x1 x3
abbrev r_X12_takes : Room := { frames := 1, cells := 0, slots := 0, locals := 22 }
def wp_X12_takes (D : wD) (post : Int32 → wS → Prop) (S : wS) (a0 : Nat) (x1 : Int32) (x2 : Int32) (x3 : Int32) : Prop := wp_X12_takes_0 D post S a0 x1 x2 x3
set_option maxHeartbeats 4000000 in
set_option maxRecDepth 100000 in
theorem t_X12_takes_41 {p : Program} {l : Launch} {e : Env} {s : State} {m : MethodId} {args : Array Value} {below : List Frame} {meth : Method} {c : Code} {D : wD} {cy : Nat → ClassId} {X : va_W} {A : Nat → Prop} {S0 : wS} {post : Int32 → wS → Prop} (F : CallFix p m c cX12_takes 4 s args wz_X12_takes RX12) (hr : meth.sig.returnType = (some .boolean)) (hlocks : meth.locks = false) (hK : wK D cy A s) : ∀ {S : wS} {H : Heap} {locs : List Loc} {ls : Array Slot} {t0 : Int32}, wp_X12_takes_41 D post S t0 → wO D cy X A s.heap S H locs → wX D S0 S → lv_has ls 4 [] → W p l e r_X12_takes s m args below meth c H locs 0 0 (MQ below (va_Qi (fun r S9 => wX D S0 S9 ∧ post r S9) (wB D cy X A) A) args s 0 0 A) (F0 m 41 ls [.int t0]) := by
  obtain ⟨hx, hb, hml, hown, hts⟩ := id F
  have hwg : ∀ w ∈ WG, w.before args s = true := fun w h => hts w (List.mem_cons_of_mem _ h)
  intro S H locs ls t0 hp hW hE hl
  unfold wp_X12_takes_41 at hp
  exact w_zret hx hb hr hlocks hW hp.1 ⟨hE, hp.2⟩ dX12_takes_41
set_option maxHeartbeats 4000000 in
set_option maxRecDepth 100000 in
theorem t_X12_takes_40 {p : Program} {l : Launch} {e : Env} {s : State} {m : MethodId} {args : Array Value} {below : List Frame} {meth : Method} {c : Code} {D : wD} {cy : Nat → ClassId} {X : va_W} {A : Nat → Prop} {S0 : wS} {post : Int32 → wS → Prop} (F : CallFix p m c cX12_takes 4 s args wz_X12_takes RX12) (hr : meth.sig.returnType = (some .boolean)) (hlocks : meth.locks = false) (hK : wK D cy A s) : ∀ {S : wS} {H : Heap} {locs : List Loc} {ls : Array Slot}, wp_X12_takes_40 D post S → wO D cy X A s.heap S H locs → wX D S0 S → lv_has ls 4 [] → W p l e r_X12_takes s m args below meth c H locs 0 0 (MQ below (va_Qi (fun r S9 => wX D S0 S9 ∧ post r S9) (wB D cy X A) A) args s 0 0 A) (F0 m 40 ls []) := by
  obtain ⟨hx, hb, hml, hown, hts⟩ := id F
  have hwg : ∀ w ∈ WG, w.before args s = true := fun w h => hts w (List.mem_cons_of_mem _ h)
  intro S H locs ls hp hW hE hl
  unfold wp_X12_takes_40 at hp
  refine lv_iconst (v := 0) hx hb dX12_takes_40 (by decide) ?_
  exact t_X12_takes_41 F hr hlocks hK hp hW hE (lv_sub hl [] rfl)
set_option maxHeartbeats 4000000 in
set_option maxRecDepth 100000 in
theorem t_X12_takes_36 {p : Program} {l : Launch} {e : Env} {s : State} {m : MethodId} {args : Array Value} {below : List Frame} {meth : Method} {c : Code} {D : wD} {cy : Nat → ClassId} {X : va_W} {A : Nat → Prop} {S0 : wS} {post : Int32 → wS → Prop} (F : CallFix p m c cX12_takes 4 s args wz_X12_takes RX12) (hr : meth.sig.returnType = (some .boolean)) (hlocks : meth.locks = false) (hK : wK D cy A s) : ∀ {S : wS} {H : Heap} {locs : List Loc} {ls : Array Slot}, wp_X12_takes_36 D post S → wO D cy X A s.heap S H locs → wX D S0 S → lv_has ls 4 [] → W p l e r_X12_takes s m args below meth c H locs 0 0 (MQ below (va_Qi (fun r S9 => wX D S0 S9 ∧ post r S9) (wB D cy X A) A) args s 0 0 A) (F0 m 36 ls []) := by
  obtain ⟨hx, hb, hml, hown, hts⟩ := id F
  have hwg : ∀ w ∈ WG, w.before args s = true := fun w h => hts w (List.mem_cons_of_mem _ h)
  intro S H locs ls hp hW hE hl
  unfold wp_X12_takes_36 at hp
  refine lv_iconst (v := 1) hx hb dX12_takes_36 (by decide) ?_
  refine lv_goto (tgt := 41) hx hb dX12_takes_37 (by decide) ?_
  exact t_X12_takes_41 F hr hlocks hK hp hW hE (lv_sub hl [] rfl)
set_option maxHeartbeats 4000000 in
set_option maxRecDepth 100000 in
theorem t_X12_takes_0 {p : Program} {l : Launch} {e : Env} {s : State} {m : MethodId} {args : Array Value} {below : List Frame} {meth : Method} {c : Code} {D : wD} {cy : Nat → ClassId} {X : va_W} {A : Nat → Prop} {S0 : wS} {post : Int32 → wS → Prop} (F : CallFix p m c cX12_takes 4 s args wz_X12_takes RX12) (hr : meth.sig.returnType = (some .boolean)) (hlocks : meth.locks = false) (hK : wK D cy A s) : ∀ {S : wS} {H : Heap} {locs : List Loc} {ls : Array Slot} {a0 : Nat} {x1 : Int32} {x2 : Int32} {x3 : Int32}, wp_X12_takes_0 D post S a0 x1 x2 x3 → wO D cy X A s.heap S H locs → wX D S0 S → lv_has ls 4 [(0, .ref a0), (1, .int x1), (2, .int x2), (3, .int x3)] → wM D S a0 → sK S a0 = 17 → W p l e r_X12_takes s m args below meth c H locs 0 0 (MQ below (va_Qi (fun r S9 => wX D S0 S9 ∧ post r S9) (wB D cy X A) A) args s 0 0 A) (F0 m 0 ls []) := by
  obtain ⟨hx, hb, hml, hown, hts⟩ := id F
  have hwg : ∀ w ∈ WG, w.before args s = true := fun w h => hts w (List.mem_cons_of_mem _ h)
  intro S H locs ls a0 x1 x2 x3 hp hW hE hl hL_a0 hK_a0
  unfold wp_X12_takes_0 at hp
  refine lv_aload_n hx hb dX12_takes_0 rfl (lv_at hl 0 rfl) ?_
  refine lv_iload_n hx hb dX12_takes_1 rfl (lv_at hl 1 rfl) ?_
  refine lv_iload_n hx hb dX12_takes_2 rfl (lv_at hl 3 rfl) ?_
  refine w_callI (va_runV (As := [.int x1, .int x3]) (rest := []) F (c_X12_on l hL_a0 hK_a0 hp H.size) (cwV (C := RX12) 2 hts (wg_V wm_RX12_141 wy_X12_on) rfl rfl rfl (by decide +kernel) ⟨Nat.le_of_ble_eq_true rfl, Nat.le_of_ble_eq_true rfl⟩) (w_preV hK hW hL_a0 hK_a0 (by decide) rfl) rfl rfl hl.1 rfl (lv_room (Nat.le_of_ble_eq_true rfl)) dX12_takes_3 ⟨Nat.le_of_ble_eq_true rfl, Nat.le_of_ble_eq_true rfl⟩) hW (fun r_1 S_2 H locs hp hW => ?_)
  obtain ⟨hX_S_2, hp⟩ := hp
  refine W.widen (k := 0) (n := 0) (by decide) (by decide) ?_
  have hE := hE.trans hX_S_2
  have hK_a0 : sK S_2 a0 = 17 := (hX_S_2.2 a0 hL_a0).1.trans hK_a0
  have hL_a0 : wM D S_2 a0 := hX_S_2.M hL_a0
  refine lv_if_ne (tgt := 36) hx hb dX12_takes_6 (by decide) (fun c_3 => ?_) (fun c_3 => ?_)
  · replace hp := hp.1 c_3
    exact t_X12_takes_36 F hr hlocks hK hp hW hE (lv_sub hl [] rfl)
  · replace hp := hp.2 c_3
    refine lv_aload_n hx hb dX12_takes_9 rfl (lv_at hl 0 rfl) ?_
    refine lv_iload_n hx hb dX12_takes_10 rfl (lv_at hl 1 rfl) ?_
    refine lv_iload_n hx hb dX12_takes_11 rfl (lv_at hl 2 rfl) ?_
    refine w_callI (va_runV (As := [.int x1, .int x2]) (rest := []) F (c_X12_on l hL_a0 hK_a0 hp H.size) (cwV (C := RX12) 2 hts (wg_V wm_RX12_141 wy_X12_on) rfl rfl rfl (by decide +kernel) ⟨Nat.le_of_ble_eq_true rfl, Nat.le_of_ble_eq_true rfl⟩) (w_preV hK hW hL_a0 hK_a0 (by decide) rfl) rfl rfl hl.1 rfl (lv_room (Nat.le_of_ble_eq_true rfl)) dX12_takes_12 ⟨Nat.le_of_ble_eq_true rfl, Nat.le_of_ble_eq_true rfl⟩) hW (fun r_4 S_5 H locs hp hW => ?_)
    obtain ⟨hX_S_5, hp⟩ := hp
    refine W.widen (k := 0) (n := 0) (by decide) (by decide) ?_
    have hE := hE.trans hX_S_5
    have hK_a0 : sK S_5 a0 = 17 := (hX_S_5.2 a0 hL_a0).1.trans hK_a0
    have hL_a0 : wM D S_5 a0 := hX_S_5.M hL_a0
    refine w_callI (va_runS (As := [.int r_4]) (rest := []) F (c_X12_kindOf l hp H.size) (va_cwS 1 hts (wg_S wm_RX12_148 wy_X12_kindOf) rfl rfl rfl (by decide +kernel) ⟨Nat.le_of_ble_eq_true rfl, Nat.le_of_ble_eq_true rfl⟩) (w_preS hK hW) rfl rfl hl.1 rfl (lv_room (Nat.le_of_ble_eq_true rfl)) dX12_takes_15 ⟨Nat.le_of_ble_eq_true rfl, Nat.le_of_ble_eq_true rfl⟩) hW (fun r_6 S_7 H locs hp hW => ?_)
    obtain ⟨hX_S_7, hp⟩ := hp
    refine W.widen (k := 0) (n := 0) (by decide) (by decide) ?_
    have hE := hE.trans hX_S_7
    have hK_a0 : sK S_7 a0 = 17 := (hX_S_7.2 a0 hL_a0).1.trans hK_a0
    have hL_a0 : wM D S_7 a0 := hX_S_7.M hL_a0
    refine lv_bipush (v := 6) hx hb dX12_takes_18 (by decide) ?_
    refine lv_icmp_ne (tgt := 40) hx hb dX12_takes_20 (by decide) (fun c_8 => ?_) (fun c_8 => ?_)
    · replace hp := hp.1 c_8
      exact t_X12_takes_40 F hr hlocks hK hp hW hE (lv_sub hl [] rfl)
    · replace hp := hp.2 c_8
      refine lv_aload_n hx hb dX12_takes_23 rfl (lv_at hl 0 rfl) ?_
      refine lv_iload_n hx hb dX12_takes_24 rfl (lv_at hl 2 rfl) ?_
      refine w_callI (va_runV (As := [.int x2]) (rest := []) F (c_X12_fileOf l hL_a0 hK_a0 hp H.size) (cwV (C := RX12) 1 hts (wg_V wm_RX12_134 wy_X12_fileOf) rfl rfl rfl (by decide +kernel) ⟨Nat.le_of_ble_eq_true rfl, Nat.le_of_ble_eq_true rfl⟩) (w_preV hK hW hL_a0 hK_a0 (by decide) rfl) rfl rfl hl.1 rfl (lv_room (Nat.le_of_ble_eq_true rfl)) dX12_takes_25 ⟨Nat.le_of_ble_eq_true rfl, Nat.le_of_ble_eq_true rfl⟩) hW (fun r_9 S_10 H locs hp hW => ?_)
      obtain ⟨hX_S_10, hp⟩ := hp
      refine W.widen (k := 0) (n := 0) (by decide) (by decide) ?_
      have hE := hE.trans hX_S_10
      have hK_a0 : sK S_10 a0 = 17 := (hX_S_10.2 a0 hL_a0).1.trans hK_a0
      have hL_a0 : wM D S_10 a0 := hX_S_10.M hL_a0
      refine lv_aload_n hx hb dX12_takes_28 rfl (lv_at hl 0 rfl) ?_
      refine lv_iload_n hx hb dX12_takes_29 rfl (lv_at hl 3 rfl) ?_
      refine w_callI (va_runV (As := [.int x3]) (rest := [.int r_9]) F (c_X12_fileOf l hL_a0 hK_a0 hp H.size) (cwV (C := RX12) 1 hts (wg_V wm_RX12_134 wy_X12_fileOf) rfl rfl rfl (by decide +kernel) ⟨Nat.le_of_ble_eq_true rfl, Nat.le_of_ble_eq_true rfl⟩) (w_preV hK hW hL_a0 hK_a0 (by decide) rfl) rfl rfl hl.1 rfl (lv_room (Nat.le_of_ble_eq_true rfl)) dX12_takes_30 ⟨Nat.le_of_ble_eq_true rfl, Nat.le_of_ble_eq_true rfl⟩) hW (fun r_11 S_12 H locs hp hW => ?_)
      obtain ⟨hX_S_12, hp⟩ := hp
      refine W.widen (k := 0) (n := 0) (by decide) (by decide) ?_
      have hE := hE.trans hX_S_12
      have hK_a0 : sK S_12 a0 = 17 := (hX_S_12.2 a0 hL_a0).1.trans hK_a0
      have hL_a0 : wM D S_12 a0 := hX_S_12.M hL_a0
      refine lv_icmp_eq (tgt := 40) hx hb dX12_takes_33 (by decide) (fun c_13 => ?_) (fun c_13 => ?_)
      · replace hp := hp.1 c_13
        exact t_X12_takes_40 F hr hlocks hK hp hW hE (lv_sub hl [] rfl)
      · replace hp := hp.2 c_13
        exact t_X12_takes_36 F hr hlocks hK hp hW hE (lv_sub hl [] rfl)
set_option maxHeartbeats 4000000 in
set_option maxRecDepth 100000 in
theorem c_X12_takes (l : Launch) {D : wD} {cy : Nat → ClassId} {X : va_W} {S0 : wS} {post : Int32 → wS → Prop} {a0 : Nat} {x1 : Int32} {x2 : Int32} {x3 : Int32} (hL_a0 : wM D S0 a0) (hK_a0 : sK S0 a0 = 17) (hp : wp_X12_takes D post S0 a0 x1 x2 x3) : mI D cy X l yX12_takes wz_X12_takes r_X12_takes [.ref a0, .int x1, .int x2, .int x3] S0 (fun r S9 => wX D S0 S9 ∧ post r S9) := by
  intro sz
  refine Met.ofW (cc := cX12_takes) (maxL := 4) (ret := (some .boolean)) (by decide) rfl ?_
  intro p e s m args below meth c s₁ B hml hv
  obtain ⟨rfl, hsz, hP, hK, hD0, hRO⟩ := hv
  have hts := atoms_spec (ws := wz_X12_takes) B.pre
  have hown : s.vm.findClass RX12 = some m.cls := findClass_of_methodNamed B.named
  subst hsz
  have hD := hD0.self (sz := s.heap.size)
  have F : CallFix p m c cX12_takes 4 s _ wz_X12_takes RX12 := ⟨B.exec, B.bytes, hml, hown, hts⟩
  have hr := B.returns
  have hlocks := B.notSynchronized
  generalize hAe : va_A (wL cy X S0) s.heap.size = A at hD hK ⊢
  have hA : ∀ q, s.heap.size ≤ q → A q := fun q h => by rw [← hAe]; exact Or.inr h
  have hW : wO D cy X A s.heap S0 s.heap [] := ⟨hP, hD, va_S.rf, hA, hRO⟩
  have hl := lv_entry ([.ref a0, .int x1, .int x2, .int x3]) (n := 4) (Nat.le_of_ble_eq_true rfl)
  rw [lg_entry_eq]
  generalize (lg_sl ([.ref a0, .int x1, .int x2, .int x3]) ++ List.replicate (4 - (lg_sl ([.ref a0, .int x1, .int x2, .int x3])).length) Slot.unset).toArray = ls at hl ⊢
  have hl : lv_has ls 4 [(0, .ref a0), (1, .int x1), (2, .int x2), (3, .int x3)] := hl
  unfold wp_X12_takes at hp
  exact t_X12_takes_0 F hr hlocks hK hp hW wX.rf (lv_sub hl [0, 1, 2, 3] rfl) hL_a0 hK_a0
def wp_X12_makes_343 (D : wD) (post : wS → Prop)  (S : wS) (b0 : Nat) (t1 : Int32) (t2 : Int32) (t3 : Int32) : Prop :=
wp_X12_lay D (fun S_2 => 
post S_2) S b0 t1 t2 t3
def wp_X12_makes_342 (D : wD) (post : wS → Prop)  (S : wS) (b0 : Nat) (t1 : Int32) (t2 : Int32) : Prop :=
wp_X12_makes_343 D post S b0 t1 t2 (-1 : Int32)
def wp_X12_makes_282 (D : wD) (post : wS → Prop)  (S : wS) (a0 : Nat) (x2 : Int32) (x3 : Int32) (x5 : Int32) (x6 : Int32) (x8 : Int32) (b0 : Nat) (t1 : Int32) (t2 : Int32) (t3 : Int32) (t4 : Int32) : Prop :=
wp_X12_lay D (fun S_2 => 
((x8 = 0 → wp_X12_makes_342 D post S_2 a0 x5 (66 : Int32)) ∧
 (¬ x8 = 0 → wp_X12_rankOf D (fun r_4 S_5 => 
wp_X12_rankOf D (fun r_6 S_7 => 
wp_X12_distance D (fun r_8 S_9 => 
((¬ r_8 = (2 : Int32) → wp_X12_makes_342 D post S_9 a0 x5 (66 : Int32)) ∧
 (r_8 = (2 : Int32) → wp_X12_pieceOf D (fun r_11 S_12 => 
wp_X12_isBeside D (fun r_13 S_14 => 
((r_13 = 0 → wp_X12_makes_342 D post S_14 a0 x5 (66 : Int32)) ∧
 (¬ r_13 = 0 → ¬ (2 : Int32) = 0 ∧
wp_X12_makes_343 D post S_14 a0 x5 (66 : Int32) ((x2 + x3) / (2 : Int32))))) S_12 a0 x5 x3 r_11) S_9 (6 : Int32) ((1 : Int32) - x6)))) S_7 r_4 r_6) S_5 a0 x3) S_2 a0 x2))) S b0 t1 t2 (t3 &&& (t4 ^^^ (-1 : Int32)))
def wp_X12_makes_209 (D : wD) (post : wS → Prop)  (S : wS) (a0 : Nat) (x1 : Int32) (x2 : Int32) (x3 : Int32) (x5 : Int32) (x6 : Int32) (x7 : Int32) (x8 : Int32) (b0 : Nat) (t1 : Int32) (t2 : Int32) (t3 : Int32) : Prop :=
wp_X12_lay D (fun S_2 => 
wp_X12_lay D (fun S_4 => 
∃ y_5 : Nat, sR S_4 a0 3 = some y_5 ∧ wM D S_4 y_5 ∧ sK S_4 y_5 = 21 ∧
vp_in (((67 : Int32) * x1) + (65 : Int32)) (sN S_4 y_5) ∧
wp_X12_lost D (fun r_7 S_8 => 
wp_X12_lost D (fun r_9 S_10 => 
wp_X12_kindOf D (fun r_11 S_12 => 
((¬ r_11 = (1 : Int32) → wp_X12_makes_282 D post S_12 a0 x2 x3 x5 x6 x8 a0 x5 (65 : Int32) (((sI S_4 y_5 ((((67 : Int32) * x1) + (65 : Int32))).toNatClampNeg) &&& (r_7 ^^^ (-1 : Int32))) &&& (r_9 ^^^ (-1 : Int32))) (0 : Int32)) ∧
 (r_11 = (1 : Int32) → ((¬ x6 = (1 : Int32) → wp_X12_makes_282 D post S_12 a0 x2 x3 x5 x6 x8 a0 x5 (65 : Int32) (((sI S_4 y_5 ((((67 : Int32) * x1) + (65 : Int32))).toNatClampNeg) &&& (r_7 ^^^ (-1 : Int32))) &&& (r_9 ^^^ (-1 : Int32))) (12 : Int32)) ∧
 (x6 = (1 : Int32) → wp_X12_makes_282 D post S_12 a0 x2 x3 x5 x6 x8 a0 x5 (65 : Int32) (((sI S_4 y_5 ((((67 : Int32) * x1) + (65 : Int32))).toNatClampNeg) &&& (r_7 ^^^ (-1 : Int32))) &&& (r_9 ^^^ (-1 : Int32))) (3 : Int32)))))) S_10 x7) S_8 a0 x3) S_4 a0 x2) S_2 a0 x5 (64 : Int32) ((1 : Int32) - x6)) S b0 t1 t2 t3
def wp_X12_makes_180 (D : wD) (post : wS → Prop)  (S : wS) (a0 : Nat) (x1 : Int32) (x2 : Int32) (x3 : Int32) (x4 : Int32) (x5 : Int32) (x6 : Int32) (x7 : Int32) (x8 : Int32) : Prop :=
wp_X12_lay D (fun S_2 => 
((¬ x4 = 0 → wp_X12_pieceOf D (fun r_4 S_5 => 
wp_X12_makes_209 D post S_5 a0 x1 x2 x3 x5 x6 x7 x8 a0 x5 x3 r_4) S_2 x4 x6) ∧
 (x4 = 0 → wp_X12_makes_209 D post S_2 a0 x1 x2 x3 x5 x6 x7 x8 a0 x5 x3 x7))) S a0 x5 x2 (0 : Int32)
def wp_X12_makes_168 (D : wD) (post : wS → Prop)  (S : wS) (a0 : Nat) (x1 : Int32) (x2 : Int32) (x3 : Int32) (x4 : Int32) (x5 : Int32) (x6 : Int32) (x7 : Int32) (x8 : Int32) (b0 : Nat) (t1 : Int32) (b2 : Nat) (t3 : Int32) (t4 : Int32) : Prop :=
wp_X12_homeOf D (fun r_1 S_2 => 
wp_X12_pieceOf D (fun r_3 S_4 => 
wp_X12_lay D (fun S_6 => 
wp_X12_makes_180 D post S_6 a0 x1 x2 x3 x4 x5 x6 x7 x8) S_4 b0 t1 r_1 r_3) S_2 (3 : Int32) x6) S b2 t3 t4
def wp_X12_makes_145 (D : wD) (post : wS → Prop)  (S : wS) (a0 : Nat) (x1 : Int32) (x2 : Int32) (x3 : Int32) (x4 : Int32) (x5 : Int32) (x6 : Int32) (x7 : Int32) (x8 : Int32) (x9 : Int32) (b0 : Nat) (t1 : Int32) (b2 : Nat) (t3 : Int32) (t4 : Int32) : Prop :=
wp_X12_homeOf D (fun r_1 S_2 => 
wp_X12_lay D (fun S_4 => 
((x9 = 0 → wp_X12_makes_168 D post S_4 a0 x1 x2 x3 x4 x5 x6 x7 x8 a0 x5 a0 x6 (3 : Int32)) ∧
 (¬ x9 = 0 → wp_X12_makes_168 D post S_4 a0 x1 x2 x3 x4 x5 x6 x7 x8 a0 x5 a0 x6 (5 : Int32)))) S_2 b0 t1 r_1 (0 : Int32)) S b2 t3 t4
def wp_X12_makes_126 (D : wD) (post : wS → Prop)  (S : wS) (a0 : Nat) (x1 : Int32) (x2 : Int32) (x3 : Int32) (x4 : Int32) (x5 : Int32) (x6 : Int32) (x7 : Int32) (x8 : Int32) (t0 : Int32) : Prop :=
((t0 = 0 → wp_X12_makes_145 D post S a0 x1 x2 x3 x4 x5 x6 x7 x8 t0 a0 x5 a0 x6 (0 : Int32)) ∧
 (¬ t0 = 0 → wp_X12_makes_145 D post S a0 x1 x2 x3 x4 x5 x6 x7 x8 t0 a0 x5 a0 x6 (7 : Int32)))
def wp_X12_makes_106 (D : wD) (post : wS → Prop)  (S : wS) (a0 : Nat) (x1 : Int32) (x2 : Int32) (x3 : Int32) (x4 : Int32) (x5 : Int32) (x6 : Int32) (x7 : Int32) (x8 : Int32) : Prop :=
wp_X12_isCastling D (fun r_1 S_2 => 
((r_1 = 0 → wp_X12_makes_180 D post S_2 a0 x1 x2 x3 x4 x5 x6 x7 x8) ∧
 (¬ r_1 = 0 → ((x3 ≤ x2 → wp_X12_makes_126 D post S_2 a0 x1 x2 x3 x4 x5 x6 x7 x8 (0 : Int32)) ∧
 (¬ x3 ≤ x2 → wp_X12_makes_126 D post S_2 a0 x1 x2 x3 x4 x5 x6 x7 x8 (1 : Int32)))))) S a0 x1 x2 x3
def wp_X12_makes_57 (D : wD) (post : wS → Prop)  (S : wS) (a0 : Nat) (x1 : Int32) (x2 : Int32) (x3 : Int32) (x4 : Int32) (x5 : Int32) (x6 : Int32) (x7 : Int32) (t0 : Int32) : Prop :=
((t0 = 0 → wp_X12_makes_106 D post S a0 x1 x2 x3 x4 x5 x6 x7 t0) ∧
 (¬ t0 = 0 → wp_X12_takes D (fun r_2 S_3 => 
((r_2 = 0 → wp_X12_makes_106 D post S_3 a0 x1 x2 x3 x4 x5 x6 x7 t0) ∧
 (¬ r_2 = 0 → wp_X12_on D (fun r_5 S_6 => 
((¬ r_5 = 0 → wp_X12_makes_106 D post S_6 a0 x1 x2 x3 x4 x5 x6 x7 t0) ∧
 (r_5 = 0 → wp_X12_rankOf D (fun r_8 S_9 => 
wp_X12_fileOf D (fun r_10 S_11 => 
wp_X12_lay D (fun S_13 => 
wp_X12_makes_106 D post S_13 a0 x1 x2 x3 x4 x5 x6 x7 t0) S_11 a0 x5 (((sI S_6 a0 1) * r_8) + r_10) (0 : Int32)) S_9 a0 x3) S_6 a0 x2))) S_3 a0 x1 x3))) S a0 x1 x2 x3))
def wp_X12_makes_0 (D : wD) (post : wS → Prop)  (S : wS) (a0 : Nat) (x1 : Int32) (x2 : Int32) (x3 : Int32) (x4 : Int32) : Prop :=
∀ x_1 : Int32, x_1 = (x1 + (1 : Int32)) →
∃ y_2 : Nat, sR S a0 3 = some y_2 ∧ wM D S y_2 ∧ sK S y_2 = 21 ∧
∃ y_3 : Nat, sR S a0 3 = some y_3 ∧ wM D S y_3 ∧ sK S y_3 = 21 ∧
wp_X12_copies D (fun S_5 => 
wp_X12_side D (fun r_6 S_7 => 
wp_X12_on D (fun r_8 S_9 => 
wp_X12_kindOf D (fun r_10 S_11 => 
((¬ r_10 = (6 : Int32) → wp_X12_makes_57 D post S_11 a0 x1 x2 x3 x4 x_1 r_6 r_8 (0 : Int32)) ∧
 (r_10 = (6 : Int32) → wp_X12_makes_57 D post S_11 a0 x1 x2 x3 x4 x_1 r_6 r_8 (1 : Int32)))) S_9 r_8) S_7 a0 x1 x2) S_5 a0 x1) S (67 : Int32) y_2 ((67 : Int32) * x1) y_3 ((67 : Int32) * x_1)
abbrev r_X12_makes : Room := { frames := 3, cells := 0, slots := 0, locals := 64 }
def wp_X12_makes (D : wD) (post : wS → Prop) (S : wS) (a0 : Nat) (x1 : Int32) (x2 : Int32) (x3 : Int32) (x4 : Int32) : Prop := wp_X12_makes_0 D post S a0 x1 x2 x3 x4
set_option maxHeartbeats 4000000 in
set_option maxRecDepth 100000 in
theorem t_X12_makes_343 {p : Program} {l : Launch} {e : Env} {s : State} {m : MethodId} {args : Array Value} {below : List Frame} {meth : Method} {c : Code} {D : wD} {cy : Nat → ClassId} {X : va_W} {A : Nat → Prop} {S0 : wS} {post : wS → Prop} (F : CallFix p m c cX12_makes 10 s args wz_X12_makes RX12) (hr : meth.sig.returnType = none) (hlocks : meth.locks = false) (hK : wK D cy A s) : ∀ {S : wS} {H : Heap} {locs : List Loc} {ls : Array Slot} {b0 : Nat} {t1 : Int32} {t2 : Int32} {t3 : Int32}, wp_X12_makes_343 D post S b0 t1 t2 t3 → wO D cy X A s.heap S H locs → wX D S0 S → lv_has ls 10 [] → wM D S b0 → sK S b0 = 17 → W p l e r_X12_makes s m args below meth c H locs 0 0 (MQ below (va_Qv (fun S9 => wX D S0 S9 ∧ post S9) (wB D cy X A) A) args s 0 0 A) (F0 m 343 ls [.int t3, .int t2, .int t1, .ref b0]) := by
  obtain ⟨hx, hb, hml, hown, hts⟩ := id F
  have hwg : ∀ w ∈ WG, w.before args s = true := fun w h => hts w (List.mem_cons_of_mem _ h)
  intro S H locs ls b0 t1 t2 t3 hp hW hE hl hL_b0 hK_b0
  unfold wp_X12_makes_343 at hp
  refine w_callV (va_runV (As := [.int t1, .int t2, .int t3]) (rest := []) F (c_X12_lay l hL_b0 hK_b0 hp H.size) (cwV (C := RX12) 3 hts (wg_V wm_RX12_207 wy_X12_lay) rfl rfl rfl (by decide +kernel) ⟨Nat.le_of_ble_eq_true rfl, Nat.le_of_ble_eq_true rfl⟩) (w_preV hK hW hL_b0 hK_b0 (by decide) rfl) rfl rfl hl.1 rfl (lv_room (Nat.le_of_ble_eq_true rfl)) dX12_makes_343 ⟨Nat.le_of_ble_eq_true rfl, Nat.le_of_ble_eq_true rfl⟩) hW (fun S_2 H locs hp hW => ?_)
  obtain ⟨hX_S_2, hp⟩ := hp
  refine W.widen (k := 0) (n := 0) (by decide) (by decide) ?_
  have hE := hE.trans hX_S_2
  exact w_vret hx hb hr hlocks hW ⟨hE, hp⟩ dX12_makes_346
set_option maxHeartbeats 4000000 in
set_option maxRecDepth 100000 in
theorem t_X12_makes_342 {p : Program} {l : Launch} {e : Env} {s : State} {m : MethodId} {args : Array Value} {below : List Frame} {meth : Method} {c : Code} {D : wD} {cy : Nat → ClassId} {X : va_W} {A : Nat → Prop} {S0 : wS} {post : wS → Prop} (F : CallFix p m c cX12_makes 10 s args wz_X12_makes RX12) (hr : meth.sig.returnType = none) (hlocks : meth.locks = false) (hK : wK D cy A s) : ∀ {S : wS} {H : Heap} {locs : List Loc} {ls : Array Slot} {b0 : Nat} {t1 : Int32} {t2 : Int32}, wp_X12_makes_342 D post S b0 t1 t2 → wO D cy X A s.heap S H locs → wX D S0 S → lv_has ls 10 [] → wM D S b0 → sK S b0 = 17 → W p l e r_X12_makes s m args below meth c H locs 0 0 (MQ below (va_Qv (fun S9 => wX D S0 S9 ∧ post S9) (wB D cy X A) A) args s 0 0 A) (F0 m 342 ls [.int t2, .int t1, .ref b0]) := by
  obtain ⟨hx, hb, hml, hown, hts⟩ := id F
  have hwg : ∀ w ∈ WG, w.before args s = true := fun w h => hts w (List.mem_cons_of_mem _ h)
  intro S H locs ls b0 t1 t2 hp hW hE hl hL_b0 hK_b0
  unfold wp_X12_makes_342 at hp
  refine lv_iconst (v := (-1)) hx hb dX12_makes_342 (by decide) ?_
  exact t_X12_makes_343 F hr hlocks hK hp hW hE (lv_sub hl [] rfl) hL_b0 hK_b0
set_option maxHeartbeats 4000000 in
set_option maxRecDepth 100000 in
theorem t_X12_makes_282 {p : Program} {l : Launch} {e : Env} {s : State} {m : MethodId} {args : Array Value} {below : List Frame} {meth : Method} {c : Code} {D : wD} {cy : Nat → ClassId} {X : va_W} {A : Nat → Prop} {S0 : wS} {post : wS → Prop} (F : CallFix p m c cX12_makes 10 s args wz_X12_makes RX12) (hr : meth.sig.returnType = none) (hlocks : meth.locks = false) (hK : wK D cy A s) : ∀ {S : wS} {H : Heap} {locs : List Loc} {ls : Array Slot} {a0 : Nat} {x2 : Int32} {x3 : Int32} {x5 : Int32} {x6 : Int32} {x8 : Int32} {b0 : Nat} {t1 : Int32} {t2 : Int32} {t3 : Int32} {t4 : Int32}, wp_X12_makes_282 D post S a0 x2 x3 x5 x6 x8 b0 t1 t2 t3 t4 → wO D cy X A s.heap S H locs → wX D S0 S → lv_has ls 10 [(0, .ref a0), (2, .int x2), (3, .int x3), (5, .int x5), (6, .int x6), (8, .int x8)] → wM D S a0 → sK S a0 = 17 → wM D S b0 → sK S b0 = 17 → W p l e r_X12_makes s m args below meth c H locs 0 0 (MQ below (va_Qv (fun S9 => wX D S0 S9 ∧ post S9) (wB D cy X A) A) args s 0 0 A) (F0 m 282 ls [.int t4, .int t3, .int t2, .int t1, .ref b0]) := by
  obtain ⟨hx, hb, hml, hown, hts⟩ := id F
  have hwg : ∀ w ∈ WG, w.before args s = true := fun w h => hts w (List.mem_cons_of_mem _ h)
  intro S H locs ls a0 x2 x3 x5 x6 x8 b0 t1 t2 t3 t4 hp hW hE hl hL_a0 hK_a0 hL_b0 hK_b0
  unfold wp_X12_makes_282 at hp
  refine lv_iconst (v := (-1)) hx hb dX12_makes_282 (by decide) ?_
  refine lv_ixor hx hb dX12_makes_283 ?_
  refine lv_iand hx hb dX12_makes_284 ?_
  refine w_callV (va_runV (As := [.int t1, .int t2, .int (t3 &&& (t4 ^^^ (-1 : Int32)))]) (rest := []) F (c_X12_lay l hL_b0 hK_b0 hp H.size) (cwV (C := RX12) 3 hts (wg_V wm_RX12_207 wy_X12_lay) rfl rfl rfl (by decide +kernel) ⟨Nat.le_of_ble_eq_true rfl, Nat.le_of_ble_eq_true rfl⟩) (w_preV hK hW hL_b0 hK_b0 (by decide) rfl) rfl rfl hl.1 rfl (lv_room (Nat.le_of_ble_eq_true rfl)) dX12_makes_285 ⟨Nat.le_of_ble_eq_true rfl, Nat.le_of_ble_eq_true rfl⟩) hW (fun S_2 H locs hp hW => ?_)
  obtain ⟨hX_S_2, hp⟩ := hp
  refine W.widen (k := 0) (n := 0) (by decide) (by decide) ?_
  have hE := hE.trans hX_S_2
  have hK_a0 : sK S_2 a0 = 17 := (hX_S_2.2 a0 hL_a0).1.trans hK_a0
  have hL_a0 : wM D S_2 a0 := hX_S_2.M hL_a0
  refine lv_aload_n hx hb dX12_makes_288 rfl (lv_at hl 0 rfl) ?_
  refine lv_iload hx hb dX12_makes_289 (lv_at hl 3 rfl) ?_
  refine lv_bipush (v := 66) hx hb dX12_makes_291 (by decide) ?_
  refine lv_iload hx hb dX12_makes_293 (lv_at hl 5 rfl) ?_
  refine lv_if_eq (tgt := 342) hx hb dX12_makes_295 (by decide) (fun c_3 => ?_) (fun c_3 => ?_)
  · replace hp := hp.1 c_3
    exact t_X12_makes_342 F hr hlocks hK hp hW hE (lv_sub hl [] rfl) hL_a0 hK_a0
  · replace hp := hp.2 c_3
    refine lv_aload_n hx hb dX12_makes_298 rfl (lv_at hl 0 rfl) ?_
    refine lv_iload_n hx hb dX12_makes_299 rfl (lv_at hl 1 rfl) ?_
    refine w_callI (va_runV (As := [.int x2]) (rest := [.int (66 : Int32), .int x5, .ref a0]) F (c_X12_rankOf l hL_a0 hK_a0 hp H.size) (cwV (C := RX12) 1 hts (wg_V wm_RX12_138 wy_X12_rankOf) rfl rfl rfl (by decide +kernel) ⟨Nat.le_of_ble_eq_true rfl, Nat.le_of_ble_eq_true rfl⟩) (w_preV hK hW hL_a0 hK_a0 (by decide) rfl) rfl rfl hl.1 rfl (lv_room (Nat.le_of_ble_eq_true rfl)) dX12_makes_300 ⟨Nat.le_of_ble_eq_true rfl, Nat.le_of_ble_eq_true rfl⟩) hW (fun r_4 S_5 H locs hp hW => ?_)
    obtain ⟨hX_S_5, hp⟩ := hp
    refine W.widen (k := 0) (n := 0) (by decide) (by decide) ?_
    have hE := hE.trans hX_S_5
    have hK_a0 : sK S_5 a0 = 17 := (hX_S_5.2 a0 hL_a0).1.trans hK_a0
    have hL_a0 : wM D S_5 a0 := hX_S_5.M hL_a0
    refine lv_aload_n hx hb dX12_makes_303 rfl (lv_at hl 0 rfl) ?_
    refine lv_iload_n hx hb dX12_makes_304 rfl (lv_at hl 2 rfl) ?_
    refine w_callI (va_runV (As := [.int x3]) (rest := [.int r_4, .int (66 : Int32), .int x5, .ref a0]) F (c_X12_rankOf l hL_a0 hK_a0 hp H.size) (cwV (C := RX12) 1 hts (wg_V wm_RX12_138 wy_X12_rankOf) rfl rfl rfl (by decide +kernel) ⟨Nat.le_of_ble_eq_true rfl, Nat.le_of_ble_eq_true rfl⟩) (w_preV hK hW hL_a0 hK_a0 (by decide) rfl) rfl rfl hl.1 rfl (lv_room (Nat.le_of_ble_eq_true rfl)) dX12_makes_305 ⟨Nat.le_of_ble_eq_true rfl, Nat.le_of_ble_eq_true rfl⟩) hW (fun r_6 S_7 H locs hp hW => ?_)
    obtain ⟨hX_S_7, hp⟩ := hp
    refine W.widen (k := 0) (n := 0) (by decide) (by decide) ?_
    have hE := hE.trans hX_S_7
    have hK_a0 : sK S_7 a0 = 17 := (hX_S_7.2 a0 hL_a0).1.trans hK_a0
    have hL_a0 : wM D S_7 a0 := hX_S_7.M hL_a0
    refine w_callI (va_runS (As := [.int r_4, .int r_6]) (rest := [.int (66 : Int32), .int x5, .ref a0]) F (c_X12_distance l hp H.size) (va_cwS 2 hts (wg_S wm_RX12_145 wy_X12_distance) rfl rfl rfl (by decide +kernel) ⟨Nat.le_of_ble_eq_true rfl, Nat.le_of_ble_eq_true rfl⟩) (w_preS hK hW) rfl rfl hl.1 rfl (lv_room (Nat.le_of_ble_eq_true rfl)) dX12_makes_308 ⟨Nat.le_of_ble_eq_true rfl, Nat.le_of_ble_eq_true rfl⟩) hW (fun r_8 S_9 H locs hp hW => ?_)
    obtain ⟨hX_S_9, hp⟩ := hp
    refine W.widen (k := 0) (n := 0) (by decide) (by decide) ?_
    have hE := hE.trans hX_S_9
    have hK_a0 : sK S_9 a0 = 17 := (hX_S_9.2 a0 hL_a0).1.trans hK_a0
    have hL_a0 : wM D S_9 a0 := hX_S_9.M hL_a0
    refine lv_iconst (v := 2) hx hb dX12_makes_311 (by decide) ?_
    refine lv_icmp_ne (tgt := 342) hx hb dX12_makes_312 (by decide) (fun c_10 => ?_) (fun c_10 => ?_)
    · replace hp := hp.1 c_10
      exact t_X12_makes_342 F hr hlocks hK hp hW hE (lv_sub hl [] rfl) hL_a0 hK_a0
    · replace hp := hp.2 c_10
      refine lv_aload_n hx hb dX12_makes_315 rfl (lv_at hl 0 rfl) ?_
      refine lv_iload hx hb dX12_makes_316 (lv_at hl 3 rfl) ?_
      refine lv_iload_n hx hb dX12_makes_318 rfl (lv_at hl 2 rfl) ?_
      refine lv_bipush (v := 6) hx hb dX12_makes_319 (by decide) ?_
      refine lv_iconst (v := 1) hx hb dX12_makes_321 (by decide) ?_
      refine lv_iload hx hb dX12_makes_322 (lv_at hl 4 rfl) ?_
      refine lv_isub hx hb dX12_makes_324 ?_
      refine w_callI (va_runS (As := [.int (6 : Int32), .int ((1 : Int32) - x6)]) (rest := [.int x3, .int x5, .ref a0, .int (66 : Int32), .int x5, .ref a0]) F (c_X12_pieceOf l hp H.size) (va_cwS 2 hts (wg_S wm_RX12_161 wy_X12_pieceOf) rfl rfl rfl (by decide +kernel) ⟨Nat.le_of_ble_eq_true rfl, Nat.le_of_ble_eq_true rfl⟩) (w_preS hK hW) rfl rfl hl.1 rfl (lv_room (Nat.le_of_ble_eq_true rfl)) dX12_makes_325 ⟨Nat.le_of_ble_eq_true rfl, Nat.le_of_ble_eq_true rfl⟩) hW (fun r_11 S_12 H locs hp hW => ?_)
      obtain ⟨hX_S_12, hp⟩ := hp
      refine W.widen (k := 0) (n := 0) (by decide) (by decide) ?_
      have hE := hE.trans hX_S_12
      have hK_a0 : sK S_12 a0 = 17 := (hX_S_12.2 a0 hL_a0).1.trans hK_a0
      have hL_a0 : wM D S_12 a0 := hX_S_12.M hL_a0
      refine w_callI (va_runV (As := [.int x5, .int x3, .int r_11]) (rest := [.int (66 : Int32), .int x5, .ref a0]) F (c_X12_isBeside l hL_a0 hK_a0 hp H.size) (cwV (C := RX12) 3 hts (wg_V wm_RX12_217 wy_X12_isBeside) rfl rfl rfl (by decide +kernel) ⟨Nat.le_of_ble_eq_true rfl, Nat.le_of_ble_eq_true rfl⟩) (w_preV hK hW hL_a0 hK_a0 (by decide) rfl) rfl rfl hl.1 rfl (lv_room (Nat.le_of_ble_eq_true rfl)) dX12_makes_328 ⟨Nat.le_of_ble_eq_true rfl, Nat.le_of_ble_eq_true rfl⟩) hW (fun r_13 S_14 H locs hp hW => ?_)
      obtain ⟨hX_S_14, hp⟩ := hp
      refine W.widen (k := 0) (n := 0) (by decide) (by decide) ?_
      have hE := hE.trans hX_S_14
      have hK_a0 : sK S_14 a0 = 17 := (hX_S_14.2 a0 hL_a0).1.trans hK_a0
      have hL_a0 : wM D S_14 a0 := hX_S_14.M hL_a0
      refine lv_if_eq (tgt := 342) hx hb dX12_makes_331 (by decide) (fun c_15 => ?_) (fun c_15 => ?_)
      · replace hp := hp.1 c_15
        exact t_X12_makes_342 F hr hlocks hK hp hW hE (lv_sub hl [] rfl) hL_a0 hK_a0
      · replace hp := hp.2 c_15
        refine lv_iload_n hx hb dX12_makes_334 rfl (lv_at hl 1 rfl) ?_
        refine lv_iload_n hx hb dX12_makes_335 rfl (lv_at hl 2 rfl) ?_
        refine lv_iadd hx hb dX12_makes_336 ?_
        refine lv_iconst (v := 2) hx hb dX12_makes_337 (by decide) ?_
        obtain ⟨h_16, hp⟩ := hp
        refine lv_idiv hx hb dX12_makes_338 h_16 ?_
        refine lv_goto (tgt := 343) hx hb dX12_makes_339 (by decide) ?_
        exact t_X12_makes_343 F hr hlocks hK hp hW hE (lv_sub hl [] rfl) hL_a0 hK_a0
set_option maxHeartbeats 4000000 in
set_option maxRecDepth 100000 in
theorem t_X12_makes_209 {p : Program} {l : Launch} {e : Env} {s : State} {m : MethodId} {args : Array Value} {below : List Frame} {meth : Method} {c : Code} {D : wD} {cy : Nat → ClassId} {X : va_W} {A : Nat → Prop} {S0 : wS} {post : wS → Prop} (F : CallFix p m c cX12_makes 10 s args wz_X12_makes RX12) (hr : meth.sig.returnType = none) (hlocks : meth.locks = false) (hK : wK D cy A s) : ∀ {S : wS} {H : Heap} {locs : List Loc} {ls : Array Slot} {a0 : Nat} {x1 : Int32} {x2 : Int32} {x3 : Int32} {x5 : Int32} {x6 : Int32} {x7 : Int32} {x8 : Int32} {b0 : Nat} {t1 : Int32} {t2 : Int32} {t3 : Int32}, wp_X12_makes_209 D post S a0 x1 x2 x3 x5 x6 x7 x8 b0 t1 t2 t3 → wO D cy X A s.heap S H locs → wX D S0 S → lv_has ls 10 [(0, .ref a0), (1, .int x1), (2, .int x2), (3, .int x3), (5, .int x5), (6, .int x6), (7, .int x7), (8, .int x8)] → wM D S a0 → sK S a0 = 17 → wM D S b0 → sK S b0 = 17 → W p l e r_X12_makes s m args below meth c H locs 0 0 (MQ below (va_Qv (fun S9 => wX D S0 S9 ∧ post S9) (wB D cy X A) A) args s 0 0 A) (F0 m 209 ls [.int t3, .int t2, .int t1, .ref b0]) := by
  obtain ⟨hx, hb, hml, hown, hts⟩ := id F
  have hwg : ∀ w ∈ WG, w.before args s = true := fun w h => hts w (List.mem_cons_of_mem _ h)
  have i_17 : ∀ w ∈ u_ws RX12 TX12 43, w ∈ wz_X12_makes := fun w h => List.mem_cons_of_mem _ (wu_17 w h)
  have k_16 := hwg _ wf_RX12_16
  intro S H locs ls a0 x1 x2 x3 x5 x6 x7 x8 b0 t1 t2 t3 hp hW hE hl hL_a0 hK_a0 hL_b0 hK_b0
  unfold wp_X12_makes_209 at hp
  refine w_callV (va_runV (As := [.int t1, .int t2, .int t3]) (rest := []) F (c_X12_lay l hL_b0 hK_b0 hp H.size) (cwV (C := RX12) 3 hts (wg_V wm_RX12_207 wy_X12_lay) rfl rfl rfl (by decide +kernel) ⟨Nat.le_of_ble_eq_true rfl, Nat.le_of_ble_eq_true rfl⟩) (w_preV hK hW hL_b0 hK_b0 (by decide) rfl) rfl rfl hl.1 rfl (lv_room (Nat.le_of_ble_eq_true rfl)) dX12_makes_209 ⟨Nat.le_of_ble_eq_true rfl, Nat.le_of_ble_eq_true rfl⟩) hW (fun S_2 H locs hp hW => ?_)
  obtain ⟨hX_S_2, hp⟩ := hp
  refine W.widen (k := 0) (n := 0) (by decide) (by decide) ?_
  have hE := hE.trans hX_S_2
  have hK_a0 : sK S_2 a0 = 17 := (hX_S_2.2 a0 hL_a0).1.trans hK_a0
  have hL_a0 : wM D S_2 a0 := hX_S_2.M hL_a0
  refine lv_aload_n hx hb dX12_makes_212 rfl (lv_at hl 0 rfl) ?_
  refine lv_iload hx hb dX12_makes_213 (lv_at hl 4 rfl) ?_
  refine lv_bipush (v := 64) hx hb dX12_makes_215 (by decide) ?_
  refine lv_iconst (v := 1) hx hb dX12_makes_217 (by decide) ?_
  refine lv_iload hx hb dX12_makes_218 (lv_at hl 5 rfl) ?_
  refine lv_isub hx hb dX12_makes_220 ?_
  refine w_callV (va_runV (As := [.int x5, .int (64 : Int32), .int ((1 : Int32) - x6)]) (rest := []) F (c_X12_lay l hL_a0 hK_a0 hp H.size) (cwV (C := RX12) 3 hts (wg_V wm_RX12_207 wy_X12_lay) rfl rfl rfl (by decide +kernel) ⟨Nat.le_of_ble_eq_true rfl, Nat.le_of_ble_eq_true rfl⟩) (w_preV hK hW hL_a0 hK_a0 (by decide) rfl) rfl rfl hl.1 rfl (lv_room (Nat.le_of_ble_eq_true rfl)) dX12_makes_221 ⟨Nat.le_of_ble_eq_true rfl, Nat.le_of_ble_eq_true rfl⟩) hW (fun S_4 H locs hp hW => ?_)
  obtain ⟨hX_S_4, hp⟩ := hp
  refine W.widen (k := 0) (n := 0) (by decide) (by decide) ?_
  have hE := hE.trans hX_S_4
  have hK_a0 : sK S_4 a0 = 17 := (hX_S_4.2 a0 hL_a0).1.trans hK_a0
  have hL_a0 : wM D S_4 a0 := hX_S_4.M hL_a0
  refine lv_aload_n hx hb dX12_makes_224 rfl (lv_at hl 0 rfl) ?_
  refine lv_iload hx hb dX12_makes_225 (lv_at hl 4 rfl) ?_
  refine lv_bipush (v := 65) hx hb dX12_makes_227 (by decide) ?_
  refine lv_aload_n hx hb dX12_makes_229 rfl (lv_at hl 0 rfl) ?_
  obtain ⟨y_5, ey_5, hL_y_5, hK_y_5, hp⟩ := hp
  refine w_get (k := 17) (f := 3) (T := TX12) (v := .ref y_5) F hK hW hL_a0 hK_a0 (by decide) rfl rfl (by decide) i_17 k_16 (by rw [show wv 17 3 S_4 a0 = va_rf (sR S_4 a0 3) from rfl, ey_5]; rfl) dX12_makes_230 ?_
  refine lv_bipush (v := 67) hx hb dX12_makes_233 (by decide) ?_
  refine lv_iload_n hx hb dX12_makes_235 rfl (lv_at hl 1 rfl) ?_
  refine lv_imul hx hb dX12_makes_236 ?_
  refine lv_bipush (v := 65) hx hb dX12_makes_237 (by decide) ?_
  refine lv_iadd hx hb dX12_makes_239 ?_
  obtain ⟨h_6, hp⟩ := hp
  refine w_ild F hK hW hL_y_5 hK_y_5 h_6 dX12_makes_240 ?_
  refine lv_aload_n hx hb dX12_makes_241 rfl (lv_at hl 0 rfl) ?_
  refine lv_iload_n hx hb dX12_makes_242 rfl (lv_at hl 2 rfl) ?_
  refine w_callI (va_runV (As := [.int x2]) (rest := [.int (sI S_4 y_5 ((((67 : Int32) * x1) + (65 : Int32))).toNatClampNeg), .int (65 : Int32), .int x5, .ref a0]) F (c_X12_lost l hL_a0 hK_a0 hp H.size) (cwV (C := RX12) 1 hts (wg_V wm_RX12_214 wy_X12_lost) rfl rfl rfl (by decide +kernel) ⟨Nat.le_of_ble_eq_true rfl, Nat.le_of_ble_eq_true rfl⟩) (w_preV hK hW hL_a0 hK_a0 (by decide) rfl) rfl rfl hl.1 rfl (lv_room (Nat.le_of_ble_eq_true rfl)) dX12_makes_243 ⟨Nat.le_of_ble_eq_true rfl, Nat.le_of_ble_eq_true rfl⟩) hW (fun r_7 S_8 H locs hp hW => ?_)
  obtain ⟨hX_S_8, hp⟩ := hp
  refine W.widen (k := 0) (n := 0) (by decide) (by decide) ?_
  have hE := hE.trans hX_S_8
  have hK_a0 : sK S_8 a0 = 17 := (hX_S_8.2 a0 hL_a0).1.trans hK_a0
  have hL_a0 : wM D S_8 a0 := hX_S_8.M hL_a0
  refine lv_iconst (v := (-1)) hx hb dX12_makes_246 (by decide) ?_
  refine lv_ixor hx hb dX12_makes_247 ?_
  refine lv_iand hx hb dX12_makes_248 ?_
  refine lv_aload_n hx hb dX12_makes_249 rfl (lv_at hl 0 rfl) ?_
  refine lv_iload_n hx hb dX12_makes_250 rfl (lv_at hl 3 rfl) ?_
  refine w_callI (va_runV (As := [.int x3]) (rest := [.int ((sI S_4 y_5 ((((67 : Int32) * x1) + (65 : Int32))).toNatClampNeg) &&& (r_7 ^^^ (-1 : Int32))), .int (65 : Int32), .int x5, .ref a0]) F (c_X12_lost l hL_a0 hK_a0 hp H.size) (cwV (C := RX12) 1 hts (wg_V wm_RX12_214 wy_X12_lost) rfl rfl rfl (by decide +kernel) ⟨Nat.le_of_ble_eq_true rfl, Nat.le_of_ble_eq_true rfl⟩) (w_preV hK hW hL_a0 hK_a0 (by decide) rfl) rfl rfl hl.1 rfl (lv_room (Nat.le_of_ble_eq_true rfl)) dX12_makes_251 ⟨Nat.le_of_ble_eq_true rfl, Nat.le_of_ble_eq_true rfl⟩) hW (fun r_9 S_10 H locs hp hW => ?_)
  obtain ⟨hX_S_10, hp⟩ := hp
  refine W.widen (k := 0) (n := 0) (by decide) (by decide) ?_
  have hE := hE.trans hX_S_10
  have hK_a0 : sK S_10 a0 = 17 := (hX_S_10.2 a0 hL_a0).1.trans hK_a0
  have hL_a0 : wM D S_10 a0 := hX_S_10.M hL_a0
  refine lv_iconst (v := (-1)) hx hb dX12_makes_254 (by decide) ?_
  refine lv_ixor hx hb dX12_makes_255 ?_
  refine lv_iand hx hb dX12_makes_256 ?_
  refine lv_iload hx hb dX12_makes_257 (lv_at hl 6 rfl) ?_
  refine w_callI (va_runS (As := [.int x7]) (rest := [.int (((sI S_4 y_5 ((((67 : Int32) * x1) + (65 : Int32))).toNatClampNeg) &&& (r_7 ^^^ (-1 : Int32))) &&& (r_9 ^^^ (-1 : Int32))), .int (65 : Int32), .int x5, .ref a0]) F (c_X12_kindOf l hp H.size) (va_cwS 1 hts (wg_S wm_RX12_148 wy_X12_kindOf) rfl rfl rfl (by decide +kernel) ⟨Nat.le_of_ble_eq_true rfl, Nat.le_of_ble_eq_true rfl⟩) (w_preS hK hW) rfl rfl hl.1 rfl (lv_room (Nat.le_of_ble_eq_true rfl)) dX12_makes_259 ⟨Nat.le_of_ble_eq_true rfl, Nat.le_of_ble_eq_true rfl⟩) hW (fun r_11 S_12 H locs hp hW => ?_)
  obtain ⟨hX_S_12, hp⟩ := hp
  refine W.widen (k := 0) (n := 0) (by decide) (by decide) ?_
  have hE := hE.trans hX_S_12
  have hK_a0 : sK S_12 a0 = 17 := (hX_S_12.2 a0 hL_a0).1.trans hK_a0
  have hL_a0 : wM D S_12 a0 := hX_S_12.M hL_a0
  refine lv_iconst (v := 1) hx hb dX12_makes_262 (by decide) ?_
  refine lv_icmp_ne (tgt := 281) hx hb dX12_makes_263 (by decide) (fun c_13 => ?_) (fun c_13 => ?_)
  · replace hp := hp.1 c_13
    refine lv_iconst (v := 0) hx hb dX12_makes_281 (by decide) ?_
    exact t_X12_makes_282 F hr hlocks hK hp hW hE (lv_sub hl [0, 2, 3, 4, 5, 7] rfl) hL_a0 hK_a0 hL_a0 hK_a0
  · replace hp := hp.2 c_13
    refine lv_iload hx hb dX12_makes_266 (lv_at hl 5 rfl) ?_
    refine lv_iconst (v := 1) hx hb dX12_makes_268 (by decide) ?_
    refine lv_icmp_ne (tgt := 276) hx hb dX12_makes_269 (by decide) (fun c_14 => ?_) (fun c_14 => ?_)
    · replace hp := hp.1 c_14
      refine lv_bipush (v := 12) hx hb dX12_makes_276 (by decide) ?_
      refine lv_goto (tgt := 282) hx hb dX12_makes_278 (by decide) ?_
      exact t_X12_makes_282 F hr hlocks hK hp hW hE (lv_sub hl [0, 2, 3, 4, 5, 7] rfl) hL_a0 hK_a0 hL_a0 hK_a0
    · replace hp := hp.2 c_14
      refine lv_iconst (v := 3) hx hb dX12_makes_272 (by decide) ?_
      refine lv_goto (tgt := 282) hx hb dX12_makes_273 (by decide) ?_
      exact t_X12_makes_282 F hr hlocks hK hp hW hE (lv_sub hl [0, 2, 3, 4, 5, 7] rfl) hL_a0 hK_a0 hL_a0 hK_a0
set_option maxHeartbeats 4000000 in
set_option maxRecDepth 100000 in
theorem t_X12_makes_180 {p : Program} {l : Launch} {e : Env} {s : State} {m : MethodId} {args : Array Value} {below : List Frame} {meth : Method} {c : Code} {D : wD} {cy : Nat → ClassId} {X : va_W} {A : Nat → Prop} {S0 : wS} {post : wS → Prop} (F : CallFix p m c cX12_makes 10 s args wz_X12_makes RX12) (hr : meth.sig.returnType = none) (hlocks : meth.locks = false) (hK : wK D cy A s) : ∀ {S : wS} {H : Heap} {locs : List Loc} {ls : Array Slot} {a0 : Nat} {x1 : Int32} {x2 : Int32} {x3 : Int32} {x4 : Int32} {x5 : Int32} {x6 : Int32} {x7 : Int32} {x8 : Int32}, wp_X12_makes_180 D post S a0 x1 x2 x3 x4 x5 x6 x7 x8 → wO D cy X A s.heap S H locs → wX D S0 S → lv_has ls 10 [(0, .ref a0), (1, .int x1), (2, .int x2), (3, .int x3), (4, .int x4), (5, .int x5), (6, .int x6), (7, .int x7), (8, .int x8)] → wM D S a0 → sK S a0 = 17 → W p l e r_X12_makes s m args below meth c H locs 0 0 (MQ below (va_Qv (fun S9 => wX D S0 S9 ∧ post S9) (wB D cy X A) A) args s 0 0 A) (F0 m 180 ls []) := by
  obtain ⟨hx, hb, hml, hown, hts⟩ := id F
  have hwg : ∀ w ∈ WG, w.before args s = true := fun w h => hts w (List.mem_cons_of_mem _ h)
  intro S H locs ls a0 x1 x2 x3 x4 x5 x6 x7 x8 hp hW hE hl hL_a0 hK_a0
  unfold wp_X12_makes_180 at hp
  refine lv_aload_n hx hb dX12_makes_180 rfl (lv_at hl 0 rfl) ?_
  refine lv_iload hx hb dX12_makes_181 (lv_at hl 5 rfl) ?_
  refine lv_iload_n hx hb dX12_makes_183 rfl (lv_at hl 2 rfl) ?_
  refine lv_iconst (v := 0) hx hb dX12_makes_184 (by decide) ?_
  refine w_callV (va_runV (As := [.int x5, .int x2, .int (0 : Int32)]) (rest := []) F (c_X12_lay l hL_a0 hK_a0 hp H.size) (cwV (C := RX12) 3 hts (wg_V wm_RX12_207 wy_X12_lay) rfl rfl rfl (by decide +kernel) ⟨Nat.le_of_ble_eq_true rfl, Nat.le_of_ble_eq_true rfl⟩) (w_preV hK hW hL_a0 hK_a0 (by decide) rfl) rfl rfl hl.1 rfl (lv_room (Nat.le_of_ble_eq_true rfl)) dX12_makes_185 ⟨Nat.le_of_ble_eq_true rfl, Nat.le_of_ble_eq_true rfl⟩) hW (fun S_2 H locs hp hW => ?_)
  obtain ⟨hX_S_2, hp⟩ := hp
  refine W.widen (k := 0) (n := 0) (by decide) (by decide) ?_
  have hE := hE.trans hX_S_2
  have hK_a0 : sK S_2 a0 = 17 := (hX_S_2.2 a0 hL_a0).1.trans hK_a0
  have hL_a0 : wM D S_2 a0 := hX_S_2.M hL_a0
  refine lv_aload_n hx hb dX12_makes_188 rfl (lv_at hl 0 rfl) ?_
  refine lv_iload hx hb dX12_makes_189 (lv_at hl 5 rfl) ?_
  refine lv_iload_n hx hb dX12_makes_191 rfl (lv_at hl 3 rfl) ?_
  refine lv_iload hx hb dX12_makes_192 (lv_at hl 4 rfl) ?_
  refine lv_if_ne (tgt := 202) hx hb dX12_makes_194 (by decide) (fun c_3 => ?_) (fun c_3 => ?_)
  · replace hp := hp.1 c_3
    refine lv_iload hx hb dX12_makes_202 (lv_at hl 4 rfl) ?_
    refine lv_iload hx hb dX12_makes_204 (lv_at hl 6 rfl) ?_
    refine w_callI (va_runS (As := [.int x4, .int x6]) (rest := [.int x3, .int x5, .ref a0]) F (c_X12_pieceOf l hp H.size) (va_cwS 2 hts (wg_S wm_RX12_161 wy_X12_pieceOf) rfl rfl rfl (by decide +kernel) ⟨Nat.le_of_ble_eq_true rfl, Nat.le_of_ble_eq_true rfl⟩) (w_preS hK hW) rfl rfl hl.1 rfl (lv_room (Nat.le_of_ble_eq_true rfl)) dX12_makes_206 ⟨Nat.le_of_ble_eq_true rfl, Nat.le_of_ble_eq_true rfl⟩) hW (fun r_4 S_5 H locs hp hW => ?_)
    obtain ⟨hX_S_5, hp⟩ := hp
    refine W.widen (k := 0) (n := 0) (by decide) (by decide) ?_
    have hE := hE.trans hX_S_5
    have hK_a0 : sK S_5 a0 = 17 := (hX_S_5.2 a0 hL_a0).1.trans hK_a0
    have hL_a0 : wM D S_5 a0 := hX_S_5.M hL_a0
    exact t_X12_makes_209 F hr hlocks hK hp hW hE (lv_sub hl [0, 1, 2, 3, 5, 6, 7, 8] rfl) hL_a0 hK_a0 hL_a0 hK_a0
  · replace hp := hp.2 c_3
    refine lv_iload hx hb dX12_makes_197 (lv_at hl 7 rfl) ?_
    refine lv_goto (tgt := 209) hx hb dX12_makes_199 (by decide) ?_
    exact t_X12_makes_209 F hr hlocks hK hp hW hE (lv_sub hl [0, 1, 2, 3, 5, 6, 7, 8] rfl) hL_a0 hK_a0 hL_a0 hK_a0
set_option maxHeartbeats 4000000 in
set_option maxRecDepth 100000 in
theorem t_X12_makes_168 {p : Program} {l : Launch} {e : Env} {s : State} {m : MethodId} {args : Array Value} {below : List Frame} {meth : Method} {c : Code} {D : wD} {cy : Nat → ClassId} {X : va_W} {A : Nat → Prop} {S0 : wS} {post : wS → Prop} (F : CallFix p m c cX12_makes 10 s args wz_X12_makes RX12) (hr : meth.sig.returnType = none) (hlocks : meth.locks = false) (hK : wK D cy A s) : ∀ {S : wS} {H : Heap} {locs : List Loc} {ls : Array Slot} {a0 : Nat} {x1 : Int32} {x2 : Int32} {x3 : Int32} {x4 : Int32} {x5 : Int32} {x6 : Int32} {x7 : Int32} {x8 : Int32} {b0 : Nat} {t1 : Int32} {b2 : Nat} {t3 : Int32} {t4 : Int32}, wp_X12_makes_168 D post S a0 x1 x2 x3 x4 x5 x6 x7 x8 b0 t1 b2 t3 t4 → wO D cy X A s.heap S H locs → wX D S0 S → lv_has ls 10 [(0, .ref a0), (1, .int x1), (2, .int x2), (3, .int x3), (4, .int x4), (5, .int x5), (6, .int x6), (7, .int x7), (8, .int x8)] → wM D S a0 → sK S a0 = 17 → wM D S b0 → sK S b0 = 17 → wM D S b2 → sK S b2 = 17 → W p l e r_X12_makes s m args below meth c H locs 0 0 (MQ below (va_Qv (fun S9 => wX D S0 S9 ∧ post S9) (wB D cy X A) A) args s 0 0 A) (F0 m 168 ls [.int t4, .int t3, .ref b2, .int t1, .ref b0]) := by
  obtain ⟨hx, hb, hml, hown, hts⟩ := id F
  have hwg : ∀ w ∈ WG, w.before args s = true := fun w h => hts w (List.mem_cons_of_mem _ h)
  intro S H locs ls a0 x1 x2 x3 x4 x5 x6 x7 x8 b0 t1 b2 t3 t4 hp hW hE hl hL_a0 hK_a0 hL_b0 hK_b0 hL_b2 hK_b2
  unfold wp_X12_makes_168 at hp
  refine w_callI (va_runV (As := [.int t3, .int t4]) (rest := [.int t1, .ref b0]) F (c_X12_homeOf l hL_b2 hK_b2 hp H.size) (cwV (C := RX12) 2 hts (wg_V wm_RX12_173 wy_X12_homeOf) rfl rfl rfl (by decide +kernel) ⟨Nat.le_of_ble_eq_true rfl, Nat.le_of_ble_eq_true rfl⟩) (w_preV hK hW hL_b2 hK_b2 (by decide) rfl) rfl rfl hl.1 rfl (lv_room (Nat.le_of_ble_eq_true rfl)) dX12_makes_168 ⟨Nat.le_of_ble_eq_true rfl, Nat.le_of_ble_eq_true rfl⟩) hW (fun r_1 S_2 H locs hp hW => ?_)
  obtain ⟨hX_S_2, hp⟩ := hp
  refine W.widen (k := 0) (n := 0) (by decide) (by decide) ?_
  have hE := hE.trans hX_S_2
  have hK_a0 : sK S_2 a0 = 17 := (hX_S_2.2 a0 hL_a0).1.trans hK_a0
  have hL_a0 : wM D S_2 a0 := hX_S_2.M hL_a0
  have hK_b0 : sK S_2 b0 = 17 := (hX_S_2.2 b0 hL_b0).1.trans hK_b0
  have hL_b0 : wM D S_2 b0 := hX_S_2.M hL_b0
  refine lv_iconst (v := 3) hx hb dX12_makes_171 (by decide) ?_
  refine lv_iload hx hb dX12_makes_172 (lv_at hl 6 rfl) ?_
  refine w_callI (va_runS (As := [.int (3 : Int32), .int x6]) (rest := [.int r_1, .int t1, .ref b0]) F (c_X12_pieceOf l hp H.size) (va_cwS 2 hts (wg_S wm_RX12_161 wy_X12_pieceOf) rfl rfl rfl (by decide +kernel) ⟨Nat.le_of_ble_eq_true rfl, Nat.le_of_ble_eq_true rfl⟩) (w_preS hK hW) rfl rfl hl.1 rfl (lv_room (Nat.le_of_ble_eq_true rfl)) dX12_makes_174 ⟨Nat.le_of_ble_eq_true rfl, Nat.le_of_ble_eq_true rfl⟩) hW (fun r_3 S_4 H locs hp hW => ?_)
  obtain ⟨hX_S_4, hp⟩ := hp
  refine W.widen (k := 0) (n := 0) (by decide) (by decide) ?_
  have hE := hE.trans hX_S_4
  have hK_a0 : sK S_4 a0 = 17 := (hX_S_4.2 a0 hL_a0).1.trans hK_a0
  have hL_a0 : wM D S_4 a0 := hX_S_4.M hL_a0
  have hK_b0 : sK S_4 b0 = 17 := (hX_S_4.2 b0 hL_b0).1.trans hK_b0
  have hL_b0 : wM D S_4 b0 := hX_S_4.M hL_b0
  refine w_callV (va_runV (As := [.int t1, .int r_1, .int r_3]) (rest := []) F (c_X12_lay l hL_b0 hK_b0 hp H.size) (cwV (C := RX12) 3 hts (wg_V wm_RX12_207 wy_X12_lay) rfl rfl rfl (by decide +kernel) ⟨Nat.le_of_ble_eq_true rfl, Nat.le_of_ble_eq_true rfl⟩) (w_preV hK hW hL_b0 hK_b0 (by decide) rfl) rfl rfl hl.1 rfl (lv_room (Nat.le_of_ble_eq_true rfl)) dX12_makes_177 ⟨Nat.le_of_ble_eq_true rfl, Nat.le_of_ble_eq_true rfl⟩) hW (fun S_6 H locs hp hW => ?_)
  obtain ⟨hX_S_6, hp⟩ := hp
  refine W.widen (k := 0) (n := 0) (by decide) (by decide) ?_
  have hE := hE.trans hX_S_6
  have hK_a0 : sK S_6 a0 = 17 := (hX_S_6.2 a0 hL_a0).1.trans hK_a0
  have hL_a0 : wM D S_6 a0 := hX_S_6.M hL_a0
  exact t_X12_makes_180 F hr hlocks hK hp hW hE (lv_sub hl [0, 1, 2, 3, 4, 5, 6, 7, 8] rfl) hL_a0 hK_a0
set_option maxHeartbeats 4000000 in
set_option maxRecDepth 100000 in
theorem t_X12_makes_145 {p : Program} {l : Launch} {e : Env} {s : State} {m : MethodId} {args : Array Value} {below : List Frame} {meth : Method} {c : Code} {D : wD} {cy : Nat → ClassId} {X : va_W} {A : Nat → Prop} {S0 : wS} {post : wS → Prop} (F : CallFix p m c cX12_makes 10 s args wz_X12_makes RX12) (hr : meth.sig.returnType = none) (hlocks : meth.locks = false) (hK : wK D cy A s) : ∀ {S : wS} {H : Heap} {locs : List Loc} {ls : Array Slot} {a0 : Nat} {x1 : Int32} {x2 : Int32} {x3 : Int32} {x4 : Int32} {x5 : Int32} {x6 : Int32} {x7 : Int32} {x8 : Int32} {x9 : Int32} {b0 : Nat} {t1 : Int32} {b2 : Nat} {t3 : Int32} {t4 : Int32}, wp_X12_makes_145 D post S a0 x1 x2 x3 x4 x5 x6 x7 x8 x9 b0 t1 b2 t3 t4 → wO D cy X A s.heap S H locs → wX D S0 S → lv_has ls 10 [(0, .ref a0), (1, .int x1), (2, .int x2), (3, .int x3), (4, .int x4), (5, .int x5), (6, .int x6), (7, .int x7), (8, .int x8), (9, .int x9)] → wM D S a0 → sK S a0 = 17 → wM D S b0 → sK S b0 = 17 → wM D S b2 → sK S b2 = 17 → W p l e r_X12_makes s m args below meth c H locs 0 0 (MQ below (va_Qv (fun S9 => wX D S0 S9 ∧ post S9) (wB D cy X A) A) args s 0 0 A) (F0 m 145 ls [.int t4, .int t3, .ref b2, .int t1, .ref b0]) := by
  obtain ⟨hx, hb, hml, hown, hts⟩ := id F
  have hwg : ∀ w ∈ WG, w.before args s = true := fun w h => hts w (List.mem_cons_of_mem _ h)
  intro S H locs ls a0 x1 x2 x3 x4 x5 x6 x7 x8 x9 b0 t1 b2 t3 t4 hp hW hE hl hL_a0 hK_a0 hL_b0 hK_b0 hL_b2 hK_b2
  unfold wp_X12_makes_145 at hp
  refine w_callI (va_runV (As := [.int t3, .int t4]) (rest := [.int t1, .ref b0]) F (c_X12_homeOf l hL_b2 hK_b2 hp H.size) (cwV (C := RX12) 2 hts (wg_V wm_RX12_173 wy_X12_homeOf) rfl rfl rfl (by decide +kernel) ⟨Nat.le_of_ble_eq_true rfl, Nat.le_of_ble_eq_true rfl⟩) (w_preV hK hW hL_b2 hK_b2 (by decide) rfl) rfl rfl hl.1 rfl (lv_room (Nat.le_of_ble_eq_true rfl)) dX12_makes_145 ⟨Nat.le_of_ble_eq_true rfl, Nat.le_of_ble_eq_true rfl⟩) hW (fun r_1 S_2 H locs hp hW => ?_)
  obtain ⟨hX_S_2, hp⟩ := hp
  refine W.widen (k := 0) (n := 0) (by decide) (by decide) ?_
  have hE := hE.trans hX_S_2
  have hK_a0 : sK S_2 a0 = 17 := (hX_S_2.2 a0 hL_a0).1.trans hK_a0
  have hL_a0 : wM D S_2 a0 := hX_S_2.M hL_a0
  have hK_b0 : sK S_2 b0 = 17 := (hX_S_2.2 b0 hL_b0).1.trans hK_b0
  have hL_b0 : wM D S_2 b0 := hX_S_2.M hL_b0
  refine lv_iconst (v := 0) hx hb dX12_makes_148 (by decide) ?_
  refine w_callV (va_runV (As := [.int t1, .int r_1, .int (0 : Int32)]) (rest := []) F (c_X12_lay l hL_b0 hK_b0 hp H.size) (cwV (C := RX12) 3 hts (wg_V wm_RX12_207 wy_X12_lay) rfl rfl rfl (by decide +kernel) ⟨Nat.le_of_ble_eq_true rfl, Nat.le_of_ble_eq_true rfl⟩) (w_preV hK hW hL_b0 hK_b0 (by decide) rfl) rfl rfl hl.1 rfl (lv_room (Nat.le_of_ble_eq_true rfl)) dX12_makes_149 ⟨Nat.le_of_ble_eq_true rfl, Nat.le_of_ble_eq_true rfl⟩) hW (fun S_4 H locs hp hW => ?_)
  obtain ⟨hX_S_4, hp⟩ := hp
  refine W.widen (k := 0) (n := 0) (by decide) (by decide) ?_
  have hE := hE.trans hX_S_4
  have hK_a0 : sK S_4 a0 = 17 := (hX_S_4.2 a0 hL_a0).1.trans hK_a0
  have hL_a0 : wM D S_4 a0 := hX_S_4.M hL_a0
  refine lv_aload_n hx hb dX12_makes_152 rfl (lv_at hl 0 rfl) ?_
  refine lv_iload hx hb dX12_makes_153 (lv_at hl 5 rfl) ?_
  refine lv_aload_n hx hb dX12_makes_155 rfl (lv_at hl 0 rfl) ?_
  refine lv_iload hx hb dX12_makes_156 (lv_at hl 6 rfl) ?_
  refine lv_iload hx hb dX12_makes_158 (lv_at hl 9 rfl) ?_
  refine lv_if_eq (tgt := 167) hx hb dX12_makes_160 (by decide) (fun c_5 => ?_) (fun c_5 => ?_)
  · replace hp := hp.1 c_5
    refine lv_iconst (v := 3) hx hb dX12_makes_167 (by decide) ?_
    exact t_X12_makes_168 F hr hlocks hK hp hW hE (lv_sub hl [0, 1, 2, 3, 4, 5, 6, 7, 8] rfl) hL_a0 hK_a0 hL_a0 hK_a0 hL_a0 hK_a0
  · replace hp := hp.2 c_5
    refine lv_iconst (v := 5) hx hb dX12_makes_163 (by decide) ?_
    refine lv_goto (tgt := 168) hx hb dX12_makes_164 (by decide) ?_
    exact t_X12_makes_168 F hr hlocks hK hp hW hE (lv_sub hl [0, 1, 2, 3, 4, 5, 6, 7, 8] rfl) hL_a0 hK_a0 hL_a0 hK_a0 hL_a0 hK_a0
set_option maxHeartbeats 4000000 in
set_option maxRecDepth 100000 in
theorem t_X12_makes_126 {p : Program} {l : Launch} {e : Env} {s : State} {m : MethodId} {args : Array Value} {below : List Frame} {meth : Method} {c : Code} {D : wD} {cy : Nat → ClassId} {X : va_W} {A : Nat → Prop} {S0 : wS} {post : wS → Prop} (F : CallFix p m c cX12_makes 10 s args wz_X12_makes RX12) (hr : meth.sig.returnType = none) (hlocks : meth.locks = false) (hK : wK D cy A s) : ∀ {S : wS} {H : Heap} {locs : List Loc} {ls : Array Slot} {a0 : Nat} {x1 : Int32} {x2 : Int32} {x3 : Int32} {x4 : Int32} {x5 : Int32} {x6 : Int32} {x7 : Int32} {x8 : Int32} {t0 : Int32}, wp_X12_makes_126 D post S a0 x1 x2 x3 x4 x5 x6 x7 x8 t0 → wO D cy X A s.heap S H locs → wX D S0 S → lv_has ls 10 [(0, .ref a0), (1, .int x1), (2, .int x2), (3, .int x3), (4, .int x4), (5, .int x5), (6, .int x6), (7, .int x7), (8, .int x8)] → wM D S a0 → sK S a0 = 17 → W p l e r_X12_makes s m args below meth c H locs 0 0 (MQ below (va_Qv (fun S9 => wX D S0 S9 ∧ post S9) (wB D cy X A) A) args s 0 0 A) (F0 m 126 ls [.int t0]) := by
  obtain ⟨hx, hb, hml, hown, hts⟩ := id F
  have hwg : ∀ w ∈ WG, w.before args s = true := fun w h => hts w (List.mem_cons_of_mem _ h)
  intro S H locs ls a0 x1 x2 x3 x4 x5 x6 x7 x8 t0 hp hW hE hl hL_a0 hK_a0
  unfold wp_X12_makes_126 at hp
  refine lv_istore (lv' := [(9, .int t0), (0, .ref a0), (1, .int x1), (2, .int x2), (3, .int x3), (4, .int x4), (5, .int x5), (6, .int x6), (7, .int x7), (8, .int x8)]) hx hb dX12_makes_126 hl (by decide) rfl (fun ls hl => ?_)
  refine lv_aload_n hx hb dX12_makes_128 rfl (lv_at hl 1 rfl) ?_
  refine lv_iload hx hb dX12_makes_129 (lv_at hl 6 rfl) ?_
  refine lv_aload_n hx hb dX12_makes_131 rfl (lv_at hl 1 rfl) ?_
  refine lv_iload hx hb dX12_makes_132 (lv_at hl 7 rfl) ?_
  refine lv_iload hx hb dX12_makes_134 (lv_at hl 0 rfl) ?_
  refine lv_if_eq (tgt := 144) hx hb dX12_makes_136 (by decide) (fun c_1 => ?_) (fun c_1 => ?_)
  · replace hp := hp.1 c_1
    refine lv_iconst (v := 0) hx hb dX12_makes_144 (by decide) ?_
    exact t_X12_makes_145 F hr hlocks hK hp hW hE (lv_sub hl [1, 2, 3, 4, 5, 6, 7, 8, 9, 0] rfl) hL_a0 hK_a0 hL_a0 hK_a0 hL_a0 hK_a0
  · replace hp := hp.2 c_1
    refine lv_bipush (v := 7) hx hb dX12_makes_139 (by decide) ?_
    refine lv_goto (tgt := 145) hx hb dX12_makes_141 (by decide) ?_
    exact t_X12_makes_145 F hr hlocks hK hp hW hE (lv_sub hl [1, 2, 3, 4, 5, 6, 7, 8, 9, 0] rfl) hL_a0 hK_a0 hL_a0 hK_a0 hL_a0 hK_a0
set_option maxHeartbeats 4000000 in
set_option maxRecDepth 100000 in
theorem t_X12_makes_106 {p : Program} {l : Launch} {e : Env} {s : State} {m : MethodId} {args : Array Value} {below : List Frame} {meth : Method} {c : Code} {D : wD} {cy : Nat → ClassId} {X : va_W} {A : Nat → Prop} {S0 : wS} {post : wS → Prop} (F : CallFix p m c cX12_makes 10 s args wz_X12_makes RX12) (hr : meth.sig.returnType = none) (hlocks : meth.locks = false) (hK : wK D cy A s) : ∀ {S : wS} {H : Heap} {locs : List Loc} {ls : Array Slot} {a0 : Nat} {x1 : Int32} {x2 : Int32} {x3 : Int32} {x4 : Int32} {x5 : Int32} {x6 : Int32} {x7 : Int32} {x8 : Int32}, wp_X12_makes_106 D post S a0 x1 x2 x3 x4 x5 x6 x7 x8 → wO D cy X A s.heap S H locs → wX D S0 S → lv_has ls 10 [(0, .ref a0), (1, .int x1), (2, .int x2), (3, .int x3), (4, .int x4), (5, .int x5), (6, .int x6), (7, .int x7), (8, .int x8)] → wM D S a0 → sK S a0 = 17 → W p l e r_X12_makes s m args below meth c H locs 0 0 (MQ below (va_Qv (fun S9 => wX D S0 S9 ∧ post S9) (wB D cy X A) A) args s 0 0 A) (F0 m 106 ls []) := by
  obtain ⟨hx, hb, hml, hown, hts⟩ := id F
  have hwg : ∀ w ∈ WG, w.before args s = true := fun w h => hts w (List.mem_cons_of_mem _ h)
  intro S H locs ls a0 x1 x2 x3 x4 x5 x6 x7 x8 hp hW hE hl hL_a0 hK_a0
  unfold wp_X12_makes_106 at hp
  refine lv_aload_n hx hb dX12_makes_106 rfl (lv_at hl 0 rfl) ?_
  refine lv_iload_n hx hb dX12_makes_107 rfl (lv_at hl 1 rfl) ?_
  refine lv_iload_n hx hb dX12_makes_108 rfl (lv_at hl 2 rfl) ?_
  refine lv_iload_n hx hb dX12_makes_109 rfl (lv_at hl 3 rfl) ?_
  refine w_callI (va_runV (As := [.int x1, .int x2, .int x3]) (rest := []) F (c_X12_isCastling l hL_a0 hK_a0 hp H.size) (cwV (C := RX12) 3 hts (wg_V wm_RX12_211 wy_X12_isCastling) rfl rfl rfl (by decide +kernel) ⟨Nat.le_of_ble_eq_true rfl, Nat.le_of_ble_eq_true rfl⟩) (w_preV hK hW hL_a0 hK_a0 (by decide) rfl) rfl rfl hl.1 rfl (lv_room (Nat.le_of_ble_eq_true rfl)) dX12_makes_110 ⟨Nat.le_of_ble_eq_true rfl, Nat.le_of_ble_eq_true rfl⟩) hW (fun r_1 S_2 H locs hp hW => ?_)
  obtain ⟨hX_S_2, hp⟩ := hp
  refine W.widen (k := 0) (n := 0) (by decide) (by decide) ?_
  have hE := hE.trans hX_S_2
  have hK_a0 : sK S_2 a0 = 17 := (hX_S_2.2 a0 hL_a0).1.trans hK_a0
  have hL_a0 : wM D S_2 a0 := hX_S_2.M hL_a0
  refine lv_if_eq (tgt := 180) hx hb dX12_makes_113 (by decide) (fun c_3 => ?_) (fun c_3 => ?_)
  · replace hp := hp.1 c_3
    exact t_X12_makes_180 F hr hlocks hK hp hW hE (lv_sub hl [0, 1, 2, 3, 4, 5, 6, 7, 8] rfl) hL_a0 hK_a0
  · replace hp := hp.2 c_3
    refine lv_iload_n hx hb dX12_makes_116 rfl (lv_at hl 3 rfl) ?_
    refine lv_iload_n hx hb dX12_makes_117 rfl (lv_at hl 2 rfl) ?_
    refine lv_icmp_le (tgt := 125) hx hb dX12_makes_118 (by decide) (fun c_4 => ?_) (fun c_4 => ?_)
    · replace hp := hp.1 c_4
      refine lv_iconst (v := 0) hx hb dX12_makes_125 (by decide) ?_
      exact t_X12_makes_126 F hr hlocks hK hp hW hE (lv_sub hl [0, 1, 2, 3, 4, 5, 6, 7, 8] rfl) hL_a0 hK_a0
    · replace hp := hp.2 c_4
      refine lv_iconst (v := 1) hx hb dX12_makes_121 (by decide) ?_
      refine lv_goto (tgt := 126) hx hb dX12_makes_122 (by decide) ?_
      exact t_X12_makes_126 F hr hlocks hK hp hW hE (lv_sub hl [0, 1, 2, 3, 4, 5, 6, 7, 8] rfl) hL_a0 hK_a0
set_option maxHeartbeats 4000000 in
set_option maxRecDepth 100000 in
theorem t_X12_makes_57 {p : Program} {l : Launch} {e : Env} {s : State} {m : MethodId} {args : Array Value} {below : List Frame} {meth : Method} {c : Code} {D : wD} {cy : Nat → ClassId} {X : va_W} {A : Nat → Prop} {S0 : wS} {post : wS → Prop} (F : CallFix p m c cX12_makes 10 s args wz_X12_makes RX12) (hr : meth.sig.returnType = none) (hlocks : meth.locks = false) (hK : wK D cy A s) : ∀ {S : wS} {H : Heap} {locs : List Loc} {ls : Array Slot} {a0 : Nat} {x1 : Int32} {x2 : Int32} {x3 : Int32} {x4 : Int32} {x5 : Int32} {x6 : Int32} {x7 : Int32} {t0 : Int32}, wp_X12_makes_57 D post S a0 x1 x2 x3 x4 x5 x6 x7 t0 → wO D cy X A s.heap S H locs → wX D S0 S → lv_has ls 10 [(0, .ref a0), (1, .int x1), (2, .int x2), (3, .int x3), (4, .int x4), (5, .int x5), (6, .int x6), (7, .int x7)] → wM D S a0 → sK S a0 = 17 → W p l e r_X12_makes s m args below meth c H locs 0 0 (MQ below (va_Qv (fun S9 => wX D S0 S9 ∧ post S9) (wB D cy X A) A) args s 0 0 A) (F0 m 57 ls [.int t0]) := by
  obtain ⟨hx, hb, hml, hown, hts⟩ := id F
  have hwg : ∀ w ∈ WG, w.before args s = true := fun w h => hts w (List.mem_cons_of_mem _ h)
  have i_17 : ∀ w ∈ u_ws RX12 TX12 43, w ∈ wz_X12_makes := fun w h => List.mem_cons_of_mem _ (wu_17 w h)
  have k_9 := hwg _ wf_RX12_9
  intro S H locs ls a0 x1 x2 x3 x4 x5 x6 x7 t0 hp hW hE hl hL_a0 hK_a0
  unfold wp_X12_makes_57 at hp
  refine lv_istore (lv' := [(8, .int t0), (0, .ref a0), (1, .int x1), (2, .int x2), (3, .int x3), (4, .int x4), (5, .int x5), (6, .int x6), (7, .int x7)]) hx hb dX12_makes_57 hl (by decide) rfl (fun ls hl => ?_)
  refine lv_iload hx hb dX12_makes_59 (lv_at hl 0 rfl) ?_
  refine lv_if_eq (tgt := 106) hx hb dX12_makes_61 (by decide) (fun c_1 => ?_) (fun c_1 => ?_)
  · replace hp := hp.1 c_1
    exact t_X12_makes_106 F hr hlocks hK hp hW hE (lv_sub hl [1, 2, 3, 4, 5, 6, 7, 8, 0] rfl) hL_a0 hK_a0
  · replace hp := hp.2 c_1
    refine lv_aload_n hx hb dX12_makes_64 rfl (lv_at hl 1 rfl) ?_
    refine lv_iload_n hx hb dX12_makes_65 rfl (lv_at hl 2 rfl) ?_
    refine lv_iload_n hx hb dX12_makes_66 rfl (lv_at hl 3 rfl) ?_
    refine lv_iload_n hx hb dX12_makes_67 rfl (lv_at hl 4 rfl) ?_
    refine w_callI (va_runV (As := [.int x1, .int x2, .int x3]) (rest := []) F (c_X12_takes l hL_a0 hK_a0 hp H.size) (cwV (C := RX12) 3 hts (wg_V wm_RX12_204 wy_X12_takes) rfl rfl rfl (by decide +kernel) ⟨Nat.le_of_ble_eq_true rfl, Nat.le_of_ble_eq_true rfl⟩) (w_preV hK hW hL_a0 hK_a0 (by decide) rfl) rfl rfl hl.1 rfl (lv_room (Nat.le_of_ble_eq_true rfl)) dX12_makes_68 ⟨Nat.le_of_ble_eq_true rfl, Nat.le_of_ble_eq_true rfl⟩) hW (fun r_2 S_3 H locs hp hW => ?_)
    obtain ⟨hX_S_3, hp⟩ := hp
    refine W.widen (k := 0) (n := 0) (by decide) (by decide) ?_
    have hE := hE.trans hX_S_3
    have hK_a0 : sK S_3 a0 = 17 := (hX_S_3.2 a0 hL_a0).1.trans hK_a0
    have hL_a0 : wM D S_3 a0 := hX_S_3.M hL_a0
    refine lv_if_eq (tgt := 106) hx hb dX12_makes_71 (by decide) (fun c_4 => ?_) (fun c_4 => ?_)
    · replace hp := hp.1 c_4
      exact t_X12_makes_106 F hr hlocks hK hp hW hE (lv_sub hl [1, 2, 3, 4, 5, 6, 7, 8, 0] rfl) hL_a0 hK_a0
    · replace hp := hp.2 c_4
      refine lv_aload_n hx hb dX12_makes_74 rfl (lv_at hl 1 rfl) ?_
      refine lv_iload_n hx hb dX12_makes_75 rfl (lv_at hl 2 rfl) ?_
      refine lv_iload_n hx hb dX12_makes_76 rfl (lv_at hl 4 rfl) ?_
      refine w_callI (va_runV (As := [.int x1, .int x3]) (rest := []) F (c_X12_on l hL_a0 hK_a0 hp H.size) (cwV (C := RX12) 2 hts (wg_V wm_RX12_141 wy_X12_on) rfl rfl rfl (by decide +kernel) ⟨Nat.le_of_ble_eq_true rfl, Nat.le_of_ble_eq_true rfl⟩) (w_preV hK hW hL_a0 hK_a0 (by decide) rfl) rfl rfl hl.1 rfl (lv_room (Nat.le_of_ble_eq_true rfl)) dX12_makes_77 ⟨Nat.le_of_ble_eq_true rfl, Nat.le_of_ble_eq_true rfl⟩) hW (fun r_5 S_6 H locs hp hW => ?_)
      obtain ⟨hX_S_6, hp⟩ := hp
      refine W.widen (k := 0) (n := 0) (by decide) (by decide) ?_
      have hE := hE.trans hX_S_6
      have hK_a0 : sK S_6 a0 = 17 := (hX_S_6.2 a0 hL_a0).1.trans hK_a0
      have hL_a0 : wM D S_6 a0 := hX_S_6.M hL_a0
      refine lv_if_ne (tgt := 106) hx hb dX12_makes_80 (by decide) (fun c_7 => ?_) (fun c_7 => ?_)
      · replace hp := hp.1 c_7
        exact t_X12_makes_106 F hr hlocks hK hp hW hE (lv_sub hl [1, 2, 3, 4, 5, 6, 7, 8, 0] rfl) hL_a0 hK_a0
      · replace hp := hp.2 c_7
        refine lv_aload_n hx hb dX12_makes_83 rfl (lv_at hl 1 rfl) ?_
        refine lv_iload hx hb dX12_makes_84 (lv_at hl 6 rfl) ?_
        refine lv_aload_n hx hb dX12_makes_86 rfl (lv_at hl 1 rfl) ?_
        refine w_get (k := 17) (f := 1) (T := TX12) (v := .int (sI S_6 a0 1)) F hK hW hL_a0 hK_a0 (by decide) rfl rfl (by decide) i_17 k_9 rfl dX12_makes_87 ?_
        refine lv_aload_n hx hb dX12_makes_90 rfl (lv_at hl 1 rfl) ?_
        refine lv_iload_n hx hb dX12_makes_91 rfl (lv_at hl 3 rfl) ?_
        refine w_callI (va_runV (As := [.int x2]) (rest := [.int (sI S_6 a0 1), .int x5, .ref a0]) F (c_X12_rankOf l hL_a0 hK_a0 hp H.size) (cwV (C := RX12) 1 hts (wg_V wm_RX12_138 wy_X12_rankOf) rfl rfl rfl (by decide +kernel) ⟨Nat.le_of_ble_eq_true rfl, Nat.le_of_ble_eq_true rfl⟩) (w_preV hK hW hL_a0 hK_a0 (by decide) rfl) rfl rfl hl.1 rfl (lv_room (Nat.le_of_ble_eq_true rfl)) dX12_makes_92 ⟨Nat.le_of_ble_eq_true rfl, Nat.le_of_ble_eq_true rfl⟩) hW (fun r_8 S_9 H locs hp hW => ?_)
        obtain ⟨hX_S_9, hp⟩ := hp
        refine W.widen (k := 0) (n := 0) (by decide) (by decide) ?_
        have hE := hE.trans hX_S_9
        have hK_a0 : sK S_9 a0 = 17 := (hX_S_9.2 a0 hL_a0).1.trans hK_a0
        have hL_a0 : wM D S_9 a0 := hX_S_9.M hL_a0
        refine lv_imul hx hb dX12_makes_95 ?_
        refine lv_aload_n hx hb dX12_makes_96 rfl (lv_at hl 1 rfl) ?_
        refine lv_iload_n hx hb dX12_makes_97 rfl (lv_at hl 4 rfl) ?_
        refine w_callI (va_runV (As := [.int x3]) (rest := [.int ((sI S_6 a0 1) * r_8), .int x5, .ref a0]) F (c_X12_fileOf l hL_a0 hK_a0 hp H.size) (cwV (C := RX12) 1 hts (wg_V wm_RX12_134 wy_X12_fileOf) rfl rfl rfl (by decide +kernel) ⟨Nat.le_of_ble_eq_true rfl, Nat.le_of_ble_eq_true rfl⟩) (w_preV hK hW hL_a0 hK_a0 (by decide) rfl) rfl rfl hl.1 rfl (lv_room (Nat.le_of_ble_eq_true rfl)) dX12_makes_98 ⟨Nat.le_of_ble_eq_true rfl, Nat.le_of_ble_eq_true rfl⟩) hW (fun r_10 S_11 H locs hp hW => ?_)
        obtain ⟨hX_S_11, hp⟩ := hp
        refine W.widen (k := 0) (n := 0) (by decide) (by decide) ?_
        have hE := hE.trans hX_S_11
        have hK_a0 : sK S_11 a0 = 17 := (hX_S_11.2 a0 hL_a0).1.trans hK_a0
        have hL_a0 : wM D S_11 a0 := hX_S_11.M hL_a0
        refine lv_iadd hx hb dX12_makes_101 ?_
        refine lv_iconst (v := 0) hx hb dX12_makes_102 (by decide) ?_
        refine w_callV (va_runV (As := [.int x5, .int (((sI S_6 a0 1) * r_8) + r_10), .int (0 : Int32)]) (rest := []) F (c_X12_lay l hL_a0 hK_a0 hp H.size) (cwV (C := RX12) 3 hts (wg_V wm_RX12_207 wy_X12_lay) rfl rfl rfl (by decide +kernel) ⟨Nat.le_of_ble_eq_true rfl, Nat.le_of_ble_eq_true rfl⟩) (w_preV hK hW hL_a0 hK_a0 (by decide) rfl) rfl rfl hl.1 rfl (lv_room (Nat.le_of_ble_eq_true rfl)) dX12_makes_103 ⟨Nat.le_of_ble_eq_true rfl, Nat.le_of_ble_eq_true rfl⟩) hW (fun S_13 H locs hp hW => ?_)
        obtain ⟨hX_S_13, hp⟩ := hp
        refine W.widen (k := 0) (n := 0) (by decide) (by decide) ?_
        have hE := hE.trans hX_S_13
        have hK_a0 : sK S_13 a0 = 17 := (hX_S_13.2 a0 hL_a0).1.trans hK_a0
        have hL_a0 : wM D S_13 a0 := hX_S_13.M hL_a0
        exact t_X12_makes_106 F hr hlocks hK hp hW hE (lv_sub hl [1, 2, 3, 4, 5, 6, 7, 8, 0] rfl) hL_a0 hK_a0
set_option maxHeartbeats 4000000 in
set_option maxRecDepth 100000 in
theorem t_X12_makes_0 {p : Program} {l : Launch} {e : Env} {s : State} {m : MethodId} {args : Array Value} {below : List Frame} {meth : Method} {c : Code} {D : wD} {cy : Nat → ClassId} {X : va_W} {A : Nat → Prop} {S0 : wS} {post : wS → Prop} (F : CallFix p m c cX12_makes 10 s args wz_X12_makes RX12) (hr : meth.sig.returnType = none) (hlocks : meth.locks = false) (hK : wK D cy A s) : ∀ {S : wS} {H : Heap} {locs : List Loc} {ls : Array Slot} {a0 : Nat} {x1 : Int32} {x2 : Int32} {x3 : Int32} {x4 : Int32}, wp_X12_makes_0 D post S a0 x1 x2 x3 x4 → wO D cy X A s.heap S H locs → wX D S0 S → lv_has ls 10 [(0, .ref a0), (1, .int x1), (2, .int x2), (3, .int x3), (4, .int x4)] → wM D S a0 → sK S a0 = 17 → W p l e r_X12_makes s m args below meth c H locs 0 0 (MQ below (va_Qv (fun S9 => wX D S0 S9 ∧ post S9) (wB D cy X A) A) args s 0 0 A) (F0 m 0 ls []) := by
  obtain ⟨hx, hb, hml, hown, hts⟩ := id F
  have hwg : ∀ w ∈ WG, w.before args s = true := fun w h => hts w (List.mem_cons_of_mem _ h)
  have i_17 : ∀ w ∈ u_ws RX12 TX12 43, w ∈ wz_X12_makes := fun w h => List.mem_cons_of_mem _ (wu_17 w h)
  have k_16 := hwg _ wf_RX12_16
  intro S H locs ls a0 x1 x2 x3 x4 hp hW hE hl hL_a0 hK_a0
  unfold wp_X12_makes_0 at hp
  refine lv_iload_n hx hb dX12_makes_0 rfl (lv_at hl 1 rfl) ?_
  refine lv_iconst (v := 1) hx hb dX12_makes_1 (by decide) ?_
  refine lv_iadd hx hb dX12_makes_2 ?_
  refine lv_topi (fun x_1 ex_1 => ?_)
  replace hp := hp x_1 ex_1
  refine lv_istore (lv' := [(5, .int x_1), (0, .ref a0), (1, .int x1), (2, .int x2), (3, .int x3), (4, .int x4)]) hx hb dX12_makes_3 hl (by decide) rfl (fun ls hl => ?_)
  refine lv_bipush (v := 67) hx hb dX12_makes_5 (by decide) ?_
  refine lv_aload_n hx hb dX12_makes_7 rfl (lv_at hl 1 rfl) ?_
  obtain ⟨y_2, ey_2, hL_y_2, hK_y_2, hp⟩ := hp
  refine w_get (k := 17) (f := 3) (T := TX12) (v := .ref y_2) F hK hW hL_a0 hK_a0 (by decide) rfl rfl (by decide) i_17 k_16 (by rw [show wv 17 3 S a0 = va_rf (sR S a0 3) from rfl, ey_2]; rfl) dX12_makes_8 ?_
  refine lv_bipush (v := 67) hx hb dX12_makes_11 (by decide) ?_
  refine lv_iload_n hx hb dX12_makes_13 rfl (lv_at hl 2 rfl) ?_
  refine lv_imul hx hb dX12_makes_14 ?_
  refine lv_aload_n hx hb dX12_makes_15 rfl (lv_at hl 1 rfl) ?_
  obtain ⟨y_3, ey_3, hL_y_3, hK_y_3, hp⟩ := hp
  refine w_get (k := 17) (f := 3) (T := TX12) (v := .ref y_3) F hK hW hL_a0 hK_a0 (by decide) rfl rfl (by decide) i_17 k_16 (by rw [show wv 17 3 S a0 = va_rf (sR S a0 3) from rfl, ey_3]; rfl) dX12_makes_16 ?_
  refine lv_bipush (v := 67) hx hb dX12_makes_19 (by decide) ?_
  refine lv_iload hx hb dX12_makes_21 (lv_at hl 0 rfl) ?_
  refine lv_imul hx hb dX12_makes_23 ?_
  refine w_callV (va_runS (As := [.int (67 : Int32), .ref y_2, .int ((67 : Int32) * x1), .ref y_3, .int ((67 : Int32) * x_1)]) (rest := []) F (c_X12_copies l hL_y_2 hK_y_2 hL_y_3 hK_y_3 hp H.size) (va_cwS 5 hts (wg_S wm_RX12_130 wy_X12_copies) rfl rfl rfl (by decide +kernel) ⟨Nat.le_of_ble_eq_true rfl, Nat.le_of_ble_eq_true rfl⟩) (w_preS hK hW) rfl rfl hl.1 rfl (lv_room (Nat.le_of_ble_eq_true rfl)) dX12_makes_24 ⟨Nat.le_of_ble_eq_true rfl, Nat.le_of_ble_eq_true rfl⟩) hW (fun S_5 H locs hp hW => ?_)
  obtain ⟨hX_S_5, hp⟩ := hp
  refine W.widen (k := 0) (n := 0) (by decide) (by decide) ?_
  have hE := hE.trans hX_S_5
  have hK_a0 : sK S_5 a0 = 17 := (hX_S_5.2 a0 hL_a0).1.trans hK_a0
  have hL_a0 : wM D S_5 a0 := hX_S_5.M hL_a0
  refine lv_aload_n hx hb dX12_makes_27 rfl (lv_at hl 1 rfl) ?_
  refine lv_iload_n hx hb dX12_makes_28 rfl (lv_at hl 2 rfl) ?_
  refine w_callI (va_runV (As := [.int x1]) (rest := []) F (c_X12_side l hL_a0 hK_a0 hp H.size) (cwV (C := RX12) 1 hts (wg_V wm_RX12_183 wy_X12_side) rfl rfl rfl (by decide +kernel) ⟨Nat.le_of_ble_eq_true rfl, Nat.le_of_ble_eq_true rfl⟩) (w_preV hK hW hL_a0 hK_a0 (by decide) rfl) rfl rfl hl.1 rfl (lv_room (Nat.le_of_ble_eq_true rfl)) dX12_makes_29 ⟨Nat.le_of_ble_eq_true rfl, Nat.le_of_ble_eq_true rfl⟩) hW (fun r_6 S_7 H locs hp hW => ?_)
  obtain ⟨hX_S_7, hp⟩ := hp
  refine W.widen (k := 0) (n := 0) (by decide) (by decide) ?_
  have hE := hE.trans hX_S_7
  have hK_a0 : sK S_7 a0 = 17 := (hX_S_7.2 a0 hL_a0).1.trans hK_a0
  have hL_a0 : wM D S_7 a0 := hX_S_7.M hL_a0
  refine lv_istore (lv' := [(6, .int r_6), (5, .int x_1), (0, .ref a0), (1, .int x1), (2, .int x2), (3, .int x3), (4, .int x4)]) hx hb dX12_makes_32 hl (by decide) rfl (fun ls hl => ?_)
  refine lv_aload_n hx hb dX12_makes_34 rfl (lv_at hl 2 rfl) ?_
  refine lv_iload_n hx hb dX12_makes_35 rfl (lv_at hl 3 rfl) ?_
  refine lv_iload_n hx hb dX12_makes_36 rfl (lv_at hl 4 rfl) ?_
  refine w_callI (va_runV (As := [.int x1, .int x2]) (rest := []) F (c_X12_on l hL_a0 hK_a0 hp H.size) (cwV (C := RX12) 2 hts (wg_V wm_RX12_141 wy_X12_on) rfl rfl rfl (by decide +kernel) ⟨Nat.le_of_ble_eq_true rfl, Nat.le_of_ble_eq_true rfl⟩) (w_preV hK hW hL_a0 hK_a0 (by decide) rfl) rfl rfl hl.1 rfl (lv_room (Nat.le_of_ble_eq_true rfl)) dX12_makes_37 ⟨Nat.le_of_ble_eq_true rfl, Nat.le_of_ble_eq_true rfl⟩) hW (fun r_8 S_9 H locs hp hW => ?_)
  obtain ⟨hX_S_9, hp⟩ := hp
  refine W.widen (k := 0) (n := 0) (by decide) (by decide) ?_
  have hE := hE.trans hX_S_9
  have hK_a0 : sK S_9 a0 = 17 := (hX_S_9.2 a0 hL_a0).1.trans hK_a0
  have hL_a0 : wM D S_9 a0 := hX_S_9.M hL_a0
  refine lv_istore (lv' := [(7, .int r_8), (6, .int r_6), (5, .int x_1), (0, .ref a0), (1, .int x1), (2, .int x2), (3, .int x3), (4, .int x4)]) hx hb dX12_makes_40 hl (by decide) rfl (fun ls hl => ?_)
  refine lv_iload hx hb dX12_makes_42 (lv_at hl 0 rfl) ?_
  refine w_callI (va_runS (As := [.int r_8]) (rest := []) F (c_X12_kindOf l hp H.size) (va_cwS 1 hts (wg_S wm_RX12_148 wy_X12_kindOf) rfl rfl rfl (by decide +kernel) ⟨Nat.le_of_ble_eq_true rfl, Nat.le_of_ble_eq_true rfl⟩) (w_preS hK hW) rfl rfl hl.1 rfl (lv_room (Nat.le_of_ble_eq_true rfl)) dX12_makes_44 ⟨Nat.le_of_ble_eq_true rfl, Nat.le_of_ble_eq_true rfl⟩) hW (fun r_10 S_11 H locs hp hW => ?_)
  obtain ⟨hX_S_11, hp⟩ := hp
  refine W.widen (k := 0) (n := 0) (by decide) (by decide) ?_
  have hE := hE.trans hX_S_11
  have hK_a0 : sK S_11 a0 = 17 := (hX_S_11.2 a0 hL_a0).1.trans hK_a0
  have hL_a0 : wM D S_11 a0 := hX_S_11.M hL_a0
  refine lv_bipush (v := 6) hx hb dX12_makes_47 (by decide) ?_
  refine lv_icmp_ne (tgt := 56) hx hb dX12_makes_49 (by decide) (fun c_12 => ?_) (fun c_12 => ?_)
  · replace hp := hp.1 c_12
    refine lv_iconst (v := 0) hx hb dX12_makes_56 (by decide) ?_
    exact t_X12_makes_57 F hr hlocks hK hp hW hE (lv_sub hl [3, 4, 5, 6, 7, 2, 1, 0] rfl) hL_a0 hK_a0
  · replace hp := hp.2 c_12
    refine lv_iconst (v := 1) hx hb dX12_makes_52 (by decide) ?_
    refine lv_goto (tgt := 57) hx hb dX12_makes_53 (by decide) ?_
    exact t_X12_makes_57 F hr hlocks hK hp hW hE (lv_sub hl [3, 4, 5, 6, 7, 2, 1, 0] rfl) hL_a0 hK_a0
set_option maxHeartbeats 4000000 in
set_option maxRecDepth 100000 in
theorem c_X12_makes (l : Launch) {D : wD} {cy : Nat → ClassId} {X : va_W} {S0 : wS} {post : wS → Prop} {a0 : Nat} {x1 : Int32} {x2 : Int32} {x3 : Int32} {x4 : Int32} (hL_a0 : wM D S0 a0) (hK_a0 : sK S0 a0 = 17) (hp : wp_X12_makes D post S0 a0 x1 x2 x3 x4) : mV D cy X l yX12_makes wz_X12_makes r_X12_makes [.ref a0, .int x1, .int x2, .int x3, .int x4] S0 (fun S9 => wX D S0 S9 ∧ post S9) := by
  intro sz
  refine Met.ofW (cc := cX12_makes) (maxL := 10) (ret := none) (by decide) rfl ?_
  intro p e s m args below meth c s₁ B hml hv
  obtain ⟨rfl, hsz, hP, hK, hD0, hRO⟩ := hv
  have hts := atoms_spec (ws := wz_X12_makes) B.pre
  have hown : s.vm.findClass RX12 = some m.cls := findClass_of_methodNamed B.named
  subst hsz
  have hD := hD0.self (sz := s.heap.size)
  have F : CallFix p m c cX12_makes 10 s _ wz_X12_makes RX12 := ⟨B.exec, B.bytes, hml, hown, hts⟩
  have hr := B.returns
  have hlocks := B.notSynchronized
  generalize hAe : va_A (wL cy X S0) s.heap.size = A at hD hK ⊢
  have hA : ∀ q, s.heap.size ≤ q → A q := fun q h => by rw [← hAe]; exact Or.inr h
  have hW : wO D cy X A s.heap S0 s.heap [] := ⟨hP, hD, va_S.rf, hA, hRO⟩
  have hl := lv_entry ([.ref a0, .int x1, .int x2, .int x3, .int x4]) (n := 10) (Nat.le_of_ble_eq_true rfl)
  rw [lg_entry_eq]
  generalize (lg_sl ([.ref a0, .int x1, .int x2, .int x3, .int x4]) ++ List.replicate (10 - (lg_sl ([.ref a0, .int x1, .int x2, .int x3, .int x4])).length) Slot.unset).toArray = ls at hl ⊢
  have hl : lv_has ls 10 [(0, .ref a0), (1, .int x1), (2, .int x2), (3, .int x3), (4, .int x4)] := hl
  unfold wp_X12_makes at hp
  exact t_X12_makes_0 F hr hlocks hK hp hW wX.rf (lv_sub hl [0, 1, 2, 3, 4] rfl) hL_a0 hK_a0
def wp_X12_moves_138 (D : wD) (post : wS → Prop) (k_15 : wS → Nat → Int32 → Int32 → Int32 → Prop) (S : wS) (a0 : Nat) (x1 : Int32) (x2 : Int32) (x3 : Int32) : Prop :=
∀ x_1 : Int32, x_1 = x3 + 1 →
k_15 S a0 x1 x2 x_1
def wp_X12_moves_132 (D : wD) (post : wS → Prop) (k_15 : wS → Nat → Int32 → Int32 → Int32 → Prop) (k_26 : wS → Nat → Int32 → Int32 → Int32 → Int32 → Prop) (S : wS) (a0 : Nat) (x1 : Int32) (x2 : Int32) (x3 : Int32) (x4 : Int32) : Prop :=
∀ x_1 : Int32, x_1 = x4 + 1 →
k_26 S a0 x1 x2 x3 x_1
def wp_X12_moves_113 (D : wD) (post : wS → Prop) (k_15 : wS → Nat → Int32 → Int32 → Int32 → Prop) (k_26 : wS → Nat → Int32 → Int32 → Int32 → Int32 → Prop) (k_101 : wS → Nat → Int32 → Int32 → Int32 → Int32 → Int32 → Int32 → Prop) (S : wS) (a0 : Nat) (x1 : Int32) (x2 : Int32) (x3 : Int32) (x4 : Int32) (x5 : Int32) (x6 : Int32) (t0 : Int32) (t1 : Int32) : Prop :=
((t1 < t0 → wp_X12_moves_132 D post k_15 k_26 S a0 x1 x2 x3 x4) ∧
 (¬ t1 < t0 → wp_X12_lists D (fun S_3 => 
∀ x_4 : Int32, x_4 = x6 + 1 →
k_101 S_3 a0 x1 x2 x3 x4 x5 x_4) S a0 x1 x3 x4 x6))
def wp_X12_moves_101 (D : wD) (post : wS → Prop) (k_15 : wS → Nat → Int32 → Int32 → Int32 → Prop) (k_26 : wS → Nat → Int32 → Int32 → Int32 → Int32 → Prop) : Nat → wS → Nat → Int32 → Int32 → Int32 → Int32 → Int32 → Int32 → Prop
  | 0, _, _, _, _, _, _, _, _ => False
  | n + 1, S, a0, x1, x2, x3, x4, x5, x6 =>
    ((x5 = 0 → wp_X12_moves_113 D post k_15 k_26 (wp_X12_moves_101 D post k_15 k_26 n) S a0 x1 x2 x3 x4 x5 x6 x6 (0 : Int32)) ∧
     (¬ x5 = 0 → wp_X12_moves_113 D post k_15 k_26 (wp_X12_moves_101 D post k_15 k_26 n) S a0 x1 x2 x3 x4 x5 x6 x6 (5 : Int32)))
def wp_X12_moves_99 (D : wD) (post : wS → Prop) (k_15 : wS → Nat → Int32 → Int32 → Int32 → Prop) (k_26 : wS → Nat → Int32 → Int32 → Int32 → Int32 → Prop) (S : wS) (a0 : Nat) (x1 : Int32) (x2 : Int32) (x3 : Int32) (x4 : Int32) (x5 : Int32) (t0 : Int32) : Prop :=
∃ n_1 : Nat, wp_X12_moves_101 D post k_15 k_26 n_1 S a0 x1 x2 x3 x4 x5 t0
def wp_X12_moves_26 (D : wD) (post : wS → Prop) (k_15 : wS → Nat → Int32 → Int32 → Int32 → Prop) : Nat → wS → Nat → Int32 → Int32 → Int32 → Int32 → Prop
  | 0, _, _, _, _, _, _ => False
  | n + 1, S, a0, x1, x2, x3, x4 =>
    wp_X12_on D (fun r_1 S_2 => 
    wp_X12_isOf D (fun r_3 S_4 => 
    ((r_3 = 0 → wp_X12_moves_138 D post k_15 S_4 a0 x1 x2 x3) ∧
     (¬ r_3 = 0 → wp_X12_squares D (fun r_6 S_7 => 
    ((r_6 ≤ x4 → wp_X12_moves_138 D post k_15 S_7 a0 x1 x2 x3) ∧
     (¬ r_6 ≤ x4 → wp_X12_goes D (fun r_9 S_10 => 
    ((r_9 = 0 → wp_X12_moves_132 D post k_15 (wp_X12_moves_26 D post k_15 n) S_10 a0 x1 x2 x3 x4) ∧
     (¬ r_9 = 0 → wp_X12_makes D (fun S_13 => 
    wp_X12_isInCheck D (fun r_14 S_15 => 
    ((¬ r_14 = 0 → wp_X12_moves_132 D post k_15 (wp_X12_moves_26 D post k_15 n) S_15 a0 x1 x2 x3 x4) ∧
     (r_14 = 0 → wp_X12_isBecoming D (fun r_17 S_18 => 
    ((r_17 = 0 → wp_X12_moves_99 D post k_15 (wp_X12_moves_26 D post k_15 n) S_18 a0 x1 x2 x3 x4 r_17 (0 : Int32)) ∧
     (¬ r_17 = 0 → wp_X12_moves_99 D post k_15 (wp_X12_moves_26 D post k_15 n) S_18 a0 x1 x2 x3 x4 r_17 (2 : Int32)))) S_15 a0 x1 x3 x4))) S_13 a0 (x1 + (1 : Int32)) x2) S_10 a0 x1 x3 x4 (0 : Int32)))) S_7 a0 x1 x3 x4))) S_4 a0))) S_2 r_1 x2) S a0 x1 x3
def wp_X12_moves_15 (D : wD) (post : wS → Prop)  : Nat → wS → Nat → Int32 → Int32 → Int32 → Prop
  | 0, _, _, _, _, _ => False
  | n + 1, S, a0, x1, x2, x3 =>
    wp_X12_squares D (fun r_1 S_2 => 
    ((r_1 ≤ x3 → post S_2) ∧
     (¬ r_1 ≤ x3 → ∃ n_4 : Nat, wp_X12_moves_26 D post (wp_X12_moves_15 D post n) n_4 S_2 a0 x1 x2 x3 (0 : Int32)))) S a0
def wp_X12_moves_0 (D : wD) (post : wS → Prop)  (S : wS) (a0 : Nat) (x1 : Int32) : Prop :=
∃ y_1 : Nat, sR S a0 7 = some y_1 ∧ wM D S y_1 ∧ sK S y_1 = 21 ∧
y_1 ∈ sL S ∧ vp_in x1 (sN S y_1) ∧
∀ S_3 : wS, S_3 = uI S y_1 (x1).toNatClampNeg (0 : Int32) →
wp_X12_side D (fun r_4 S_5 => 
∃ n_6 : Nat, wp_X12_moves_15 D post n_6 S_5 a0 x1 r_4 (0 : Int32)) S_3 a0 x1
abbrev r_X12_moves : Room := { frames := 6, cells := 0, slots := 0, locals := 151 }
def wp_X12_moves (D : wD) (post : wS → Prop) (S : wS) (a0 : Nat) (x1 : Int32) : Prop := wp_X12_moves_0 D post S a0 x1
set_option maxHeartbeats 4000000 in
set_option maxRecDepth 100000 in
theorem t_X12_moves_138 {p : Program} {l : Launch} {e : Env} {s : State} {m : MethodId} {args : Array Value} {below : List Frame} {meth : Method} {c : Code} {D : wD} {cy : Nat → ClassId} {X : va_W} {A : Nat → Prop} {S0 : wS} {post : wS → Prop} (F : CallFix p m c cX12_moves 7 s args wz_X12_moves RX12) (hr : meth.sig.returnType = none) (hlocks : meth.locks = false) (hK : wK D cy A s) {k_15 : wS → Nat → Int32 → Int32 → Int32 → Prop} (q_15 : ∀ {S : wS} {H : Heap} {locs : List Loc} {ls : Array Slot} {a0 : Nat} {x1 : Int32} {x2 : Int32} {x3 : Int32}, k_15 S a0 x1 x2 x3 → wO D cy X A s.heap S H locs → wX D S0 S → lv_has ls 7 [(0, .ref a0), (1, .int x1), (2, .int x2), (3, .int x3)] → wM D S a0 → sK S a0 = 17 → W p l e r_X12_moves s m args below meth c H locs 0 0 (MQ below (va_Qv (fun S9 => wX D S0 S9 ∧ post S9) (wB D cy X A) A) args s 0 0 A) (F0 m 15 ls [])) : ∀ {S : wS} {H : Heap} {locs : List Loc} {ls : Array Slot} {a0 : Nat} {x1 : Int32} {x2 : Int32} {x3 : Int32}, wp_X12_moves_138 D post k_15 S a0 x1 x2 x3 → wO D cy X A s.heap S H locs → wX D S0 S → lv_has ls 7 [(0, .ref a0), (1, .int x1), (2, .int x2), (3, .int x3)] → wM D S a0 → sK S a0 = 17 → W p l e r_X12_moves s m args below meth c H locs 0 0 (MQ below (va_Qv (fun S9 => wX D S0 S9 ∧ post S9) (wB D cy X A) A) args s 0 0 A) (F0 m 138 ls []) := by
  obtain ⟨hx, hb, hml, hown, hts⟩ := id F
  have hwg : ∀ w ∈ WG, w.before args s = true := fun w h => hts w (List.mem_cons_of_mem _ h)
  intro S H locs ls a0 x1 x2 x3 hp hW hE hl hL_a0 hK_a0
  unfold wp_X12_moves_138 at hp
  obtain ⟨x_1, ex_1⟩ : ∃ z : Int32, z = x3 + 1 := ⟨_, rfl⟩
  replace hp := hp x_1 ex_1
  refine lv_iinc (v := x_1) (lv' := [(3, .int x_1), (0, .ref a0), (1, .int x1), (2, .int x2)]) hx hb dX12_moves_138 hl (k := 3) rfl (by rw [ex_1]; rfl) (by decide) rfl (fun ls hl => ?_)
  refine lv_goto (tgt := 15) hx hb dX12_moves_141 (by decide) ?_
  exact q_15 hp hW hE (lv_sub hl [1, 2, 3, 0] rfl) hL_a0 hK_a0
set_option maxHeartbeats 4000000 in
set_option maxRecDepth 100000 in
theorem t_X12_moves_132 {p : Program} {l : Launch} {e : Env} {s : State} {m : MethodId} {args : Array Value} {below : List Frame} {meth : Method} {c : Code} {D : wD} {cy : Nat → ClassId} {X : va_W} {A : Nat → Prop} {S0 : wS} {post : wS → Prop} (F : CallFix p m c cX12_moves 7 s args wz_X12_moves RX12) (hr : meth.sig.returnType = none) (hlocks : meth.locks = false) (hK : wK D cy A s) {k_15 : wS → Nat → Int32 → Int32 → Int32 → Prop} (q_15 : ∀ {S : wS} {H : Heap} {locs : List Loc} {ls : Array Slot} {a0 : Nat} {x1 : Int32} {x2 : Int32} {x3 : Int32}, k_15 S a0 x1 x2 x3 → wO D cy X A s.heap S H locs → wX D S0 S → lv_has ls 7 [(0, .ref a0), (1, .int x1), (2, .int x2), (3, .int x3)] → wM D S a0 → sK S a0 = 17 → W p l e r_X12_moves s m args below meth c H locs 0 0 (MQ below (va_Qv (fun S9 => wX D S0 S9 ∧ post S9) (wB D cy X A) A) args s 0 0 A) (F0 m 15 ls [])) {k_26 : wS → Nat → Int32 → Int32 → Int32 → Int32 → Prop} (q_26 : ∀ {S : wS} {H : Heap} {locs : List Loc} {ls : Array Slot} {a0 : Nat} {x1 : Int32} {x2 : Int32} {x3 : Int32} {x4 : Int32}, k_26 S a0 x1 x2 x3 x4 → wO D cy X A s.heap S H locs → wX D S0 S → lv_has ls 7 [(0, .ref a0), (1, .int x1), (2, .int x2), (3, .int x3), (4, .int x4)] → wM D S a0 → sK S a0 = 17 → W p l e r_X12_moves s m args below meth c H locs 0 0 (MQ below (va_Qv (fun S9 => wX D S0 S9 ∧ post S9) (wB D cy X A) A) args s 0 0 A) (F0 m 26 ls [])) : ∀ {S : wS} {H : Heap} {locs : List Loc} {ls : Array Slot} {a0 : Nat} {x1 : Int32} {x2 : Int32} {x3 : Int32} {x4 : Int32}, wp_X12_moves_132 D post k_15 k_26 S a0 x1 x2 x3 x4 → wO D cy X A s.heap S H locs → wX D S0 S → lv_has ls 7 [(0, .ref a0), (1, .int x1), (2, .int x2), (3, .int x3), (4, .int x4)] → wM D S a0 → sK S a0 = 17 → W p l e r_X12_moves s m args below meth c H locs 0 0 (MQ below (va_Qv (fun S9 => wX D S0 S9 ∧ post S9) (wB D cy X A) A) args s 0 0 A) (F0 m 132 ls []) := by
  obtain ⟨hx, hb, hml, hown, hts⟩ := id F
  have hwg : ∀ w ∈ WG, w.before args s = true := fun w h => hts w (List.mem_cons_of_mem _ h)
  intro S H locs ls a0 x1 x2 x3 x4 hp hW hE hl hL_a0 hK_a0
  unfold wp_X12_moves_132 at hp
  obtain ⟨x_1, ex_1⟩ : ∃ z : Int32, z = x4 + 1 := ⟨_, rfl⟩
  replace hp := hp x_1 ex_1
  refine lv_iinc (v := x_1) (lv' := [(4, .int x_1), (0, .ref a0), (1, .int x1), (2, .int x2), (3, .int x3)]) hx hb dX12_moves_132 hl (k := 4) rfl (by rw [ex_1]; rfl) (by decide) rfl (fun ls hl => ?_)
  refine lv_goto (tgt := 26) hx hb dX12_moves_135 (by decide) ?_
  exact q_26 hp hW hE (lv_sub hl [1, 2, 3, 4, 0] rfl) hL_a0 hK_a0
set_option maxHeartbeats 4000000 in
set_option maxRecDepth 100000 in
theorem t_X12_moves_113 {p : Program} {l : Launch} {e : Env} {s : State} {m : MethodId} {args : Array Value} {below : List Frame} {meth : Method} {c : Code} {D : wD} {cy : Nat → ClassId} {X : va_W} {A : Nat → Prop} {S0 : wS} {post : wS → Prop} (F : CallFix p m c cX12_moves 7 s args wz_X12_moves RX12) (hr : meth.sig.returnType = none) (hlocks : meth.locks = false) (hK : wK D cy A s) {k_15 : wS → Nat → Int32 → Int32 → Int32 → Prop} (q_15 : ∀ {S : wS} {H : Heap} {locs : List Loc} {ls : Array Slot} {a0 : Nat} {x1 : Int32} {x2 : Int32} {x3 : Int32}, k_15 S a0 x1 x2 x3 → wO D cy X A s.heap S H locs → wX D S0 S → lv_has ls 7 [(0, .ref a0), (1, .int x1), (2, .int x2), (3, .int x3)] → wM D S a0 → sK S a0 = 17 → W p l e r_X12_moves s m args below meth c H locs 0 0 (MQ below (va_Qv (fun S9 => wX D S0 S9 ∧ post S9) (wB D cy X A) A) args s 0 0 A) (F0 m 15 ls [])) {k_26 : wS → Nat → Int32 → Int32 → Int32 → Int32 → Prop} (q_26 : ∀ {S : wS} {H : Heap} {locs : List Loc} {ls : Array Slot} {a0 : Nat} {x1 : Int32} {x2 : Int32} {x3 : Int32} {x4 : Int32}, k_26 S a0 x1 x2 x3 x4 → wO D cy X A s.heap S H locs → wX D S0 S → lv_has ls 7 [(0, .ref a0), (1, .int x1), (2, .int x2), (3, .int x3), (4, .int x4)] → wM D S a0 → sK S a0 = 17 → W p l e r_X12_moves s m args below meth c H locs 0 0 (MQ below (va_Qv (fun S9 => wX D S0 S9 ∧ post S9) (wB D cy X A) A) args s 0 0 A) (F0 m 26 ls [])) {k_101 : wS → Nat → Int32 → Int32 → Int32 → Int32 → Int32 → Int32 → Prop} (q_101 : ∀ {S : wS} {H : Heap} {locs : List Loc} {ls : Array Slot} {a0 : Nat} {x1 : Int32} {x2 : Int32} {x3 : Int32} {x4 : Int32} {x5 : Int32} {x6 : Int32}, k_101 S a0 x1 x2 x3 x4 x5 x6 → wO D cy X A s.heap S H locs → wX D S0 S → lv_has ls 7 [(0, .ref a0), (1, .int x1), (2, .int x2), (3, .int x3), (4, .int x4), (5, .int x5), (6, .int x6)] → wM D S a0 → sK S a0 = 17 → W p l e r_X12_moves s m args below meth c H locs 0 0 (MQ below (va_Qv (fun S9 => wX D S0 S9 ∧ post S9) (wB D cy X A) A) args s 0 0 A) (F0 m 101 ls [])) : ∀ {S : wS} {H : Heap} {locs : List Loc} {ls : Array Slot} {a0 : Nat} {x1 : Int32} {x2 : Int32} {x3 : Int32} {x4 : Int32} {x5 : Int32} {x6 : Int32} {t0 : Int32} {t1 : Int32}, wp_X12_moves_113 D post k_15 k_26 k_101 S a0 x1 x2 x3 x4 x5 x6 t0 t1 → wO D cy X A s.heap S H locs → wX D S0 S → lv_has ls 7 [(0, .ref a0), (1, .int x1), (2, .int x2), (3, .int x3), (4, .int x4), (5, .int x5), (6, .int x6)] → wM D S a0 → sK S a0 = 17 → W p l e r_X12_moves s m args below meth c H locs 0 0 (MQ below (va_Qv (fun S9 => wX D S0 S9 ∧ post S9) (wB D cy X A) A) args s 0 0 A) (F0 m 113 ls [.int t1, .int t0]) := by
  obtain ⟨hx, hb, hml, hown, hts⟩ := id F
  have hwg : ∀ w ∈ WG, w.before args s = true := fun w h => hts w (List.mem_cons_of_mem _ h)
  intro S H locs ls a0 x1 x2 x3 x4 x5 x6 t0 t1 hp hW hE hl hL_a0 hK_a0
  unfold wp_X12_moves_113 at hp
  refine lv_icmp_gt (tgt := 132) hx hb dX12_moves_113 (by decide) (fun c_1 => ?_) (fun c_1 => ?_)
  · replace hp := hp.1 c_1
    exact t_X12_moves_132 F hr hlocks hK q_15 q_26 hp hW hE (lv_sub hl [0, 1, 2, 3, 4] rfl) hL_a0 hK_a0
  · replace hp := hp.2 c_1
    refine lv_aload_n hx hb dX12_moves_116 rfl (lv_at hl 0 rfl) ?_
    refine lv_iload_n hx hb dX12_moves_117 rfl (lv_at hl 1 rfl) ?_
    refine lv_iload_n hx hb dX12_moves_118 rfl (lv_at hl 3 rfl) ?_
    refine lv_iload hx hb dX12_moves_119 (lv_at hl 4 rfl) ?_
    refine lv_iload hx hb dX12_moves_121 (lv_at hl 6 rfl) ?_
    refine w_callV (va_runV (As := [.int x1, .int x3, .int x4, .int x6]) (rest := []) F (c_X12_lists l hL_a0 hK_a0 hp H.size) (cwV (C := RX12) 4 hts (wg_V wm_RX12_230 wy_X12_lists) rfl rfl rfl (by decide +kernel) ⟨Nat.le_of_ble_eq_true rfl, Nat.le_of_ble_eq_true rfl⟩) (w_preV hK hW hL_a0 hK_a0 (by decide) rfl) rfl rfl hl.1 rfl (lv_room (Nat.le_of_ble_eq_true rfl)) dX12_moves_123 ⟨Nat.le_of_ble_eq_true rfl, Nat.le_of_ble_eq_true rfl⟩) hW (fun S_3 H locs hp hW => ?_)
    obtain ⟨hX_S_3, hp⟩ := hp
    refine W.widen (k := 0) (n := 0) (by decide) (by decide) ?_
    have hE := hE.trans hX_S_3
    have hK_a0 : sK S_3 a0 = 17 := (hX_S_3.2 a0 hL_a0).1.trans hK_a0
    have hL_a0 : wM D S_3 a0 := hX_S_3.M hL_a0
    obtain ⟨x_4, ex_4⟩ : ∃ z : Int32, z = x6 + 1 := ⟨_, rfl⟩
    replace hp := hp x_4 ex_4
    refine lv_iinc (v := x_4) (lv' := [(6, .int x_4), (0, .ref a0), (1, .int x1), (2, .int x2), (3, .int x3), (4, .int x4), (5, .int x5)]) hx hb dX12_moves_126 hl (k := 6) rfl (by rw [ex_4]; rfl) (by decide) rfl (fun ls hl => ?_)
    refine lv_goto (tgt := 101) hx hb dX12_moves_129 (by decide) ?_
    exact q_101 hp hW hE (lv_sub hl [1, 2, 3, 4, 5, 6, 0] rfl) hL_a0 hK_a0
set_option maxHeartbeats 4000000 in
set_option maxRecDepth 100000 in
theorem t_X12_moves_101 {p : Program} {l : Launch} {e : Env} {s : State} {m : MethodId} {args : Array Value} {below : List Frame} {meth : Method} {c : Code} {D : wD} {cy : Nat → ClassId} {X : va_W} {A : Nat → Prop} {S0 : wS} {post : wS → Prop} (F : CallFix p m c cX12_moves 7 s args wz_X12_moves RX12) (hr : meth.sig.returnType = none) (hlocks : meth.locks = false) (hK : wK D cy A s) {k_15 : wS → Nat → Int32 → Int32 → Int32 → Prop} (q_15 : ∀ {S : wS} {H : Heap} {locs : List Loc} {ls : Array Slot} {a0 : Nat} {x1 : Int32} {x2 : Int32} {x3 : Int32}, k_15 S a0 x1 x2 x3 → wO D cy X A s.heap S H locs → wX D S0 S → lv_has ls 7 [(0, .ref a0), (1, .int x1), (2, .int x2), (3, .int x3)] → wM D S a0 → sK S a0 = 17 → W p l e r_X12_moves s m args below meth c H locs 0 0 (MQ below (va_Qv (fun S9 => wX D S0 S9 ∧ post S9) (wB D cy X A) A) args s 0 0 A) (F0 m 15 ls [])) {k_26 : wS → Nat → Int32 → Int32 → Int32 → Int32 → Prop} (q_26 : ∀ {S : wS} {H : Heap} {locs : List Loc} {ls : Array Slot} {a0 : Nat} {x1 : Int32} {x2 : Int32} {x3 : Int32} {x4 : Int32}, k_26 S a0 x1 x2 x3 x4 → wO D cy X A s.heap S H locs → wX D S0 S → lv_has ls 7 [(0, .ref a0), (1, .int x1), (2, .int x2), (3, .int x3), (4, .int x4)] → wM D S a0 → sK S a0 = 17 → W p l e r_X12_moves s m args below meth c H locs 0 0 (MQ below (va_Qv (fun S9 => wX D S0 S9 ∧ post S9) (wB D cy X A) A) args s 0 0 A) (F0 m 26 ls [])) : ∀ (n : Nat) {S : wS} {H : Heap} {locs : List Loc} {ls : Array Slot} {a0 : Nat} {x1 : Int32} {x2 : Int32} {x3 : Int32} {x4 : Int32} {x5 : Int32} {x6 : Int32}, wp_X12_moves_101 D post k_15 k_26 n S a0 x1 x2 x3 x4 x5 x6 → wO D cy X A s.heap S H locs → wX D S0 S → lv_has ls 7 [(0, .ref a0), (1, .int x1), (2, .int x2), (3, .int x3), (4, .int x4), (5, .int x5), (6, .int x6)] → wM D S a0 → sK S a0 = 17 → W p l e r_X12_moves s m args below meth c H locs 0 0 (MQ below (va_Qv (fun S9 => wX D S0 S9 ∧ post S9) (wB D cy X A) A) args s 0 0 A) (F0 m 101 ls []) := by
  obtain ⟨hx, hb, hml, hown, hts⟩ := id F
  have hwg : ∀ w ∈ WG, w.before args s = true := fun w h => hts w (List.mem_cons_of_mem _ h)
  intro n
  induction n with
  | zero =>
    intro S H locs ls a0 x1 x2 x3 x4 x5 x6 hp
    exact hp.elim
  | succ n ih =>
    intro S H locs ls a0 x1 x2 x3 x4 x5 x6 hp hW hE hl hL_a0 hK_a0
    unfold wp_X12_moves_101 at hp
    refine lv_iload hx hb dX12_moves_101 (lv_at hl 6 rfl) ?_
    refine lv_iload hx hb dX12_moves_103 (lv_at hl 5 rfl) ?_
    refine lv_if_eq (tgt := 112) hx hb dX12_moves_105 (by decide) (fun c_1 => ?_) (fun c_1 => ?_)
    · replace hp := hp.1 c_1
      refine lv_iconst (v := 0) hx hb dX12_moves_112 (by decide) ?_
      exact t_X12_moves_113 F hr hlocks hK q_15 q_26 ih hp hW hE (lv_sub hl [0, 1, 2, 3, 4, 5, 6] rfl) hL_a0 hK_a0
    · replace hp := hp.2 c_1
      refine lv_iconst (v := 5) hx hb dX12_moves_108 (by decide) ?_
      refine lv_goto (tgt := 113) hx hb dX12_moves_109 (by decide) ?_
      exact t_X12_moves_113 F hr hlocks hK q_15 q_26 ih hp hW hE (lv_sub hl [0, 1, 2, 3, 4, 5, 6] rfl) hL_a0 hK_a0
set_option maxHeartbeats 4000000 in
set_option maxRecDepth 100000 in
theorem t_X12_moves_99 {p : Program} {l : Launch} {e : Env} {s : State} {m : MethodId} {args : Array Value} {below : List Frame} {meth : Method} {c : Code} {D : wD} {cy : Nat → ClassId} {X : va_W} {A : Nat → Prop} {S0 : wS} {post : wS → Prop} (F : CallFix p m c cX12_moves 7 s args wz_X12_moves RX12) (hr : meth.sig.returnType = none) (hlocks : meth.locks = false) (hK : wK D cy A s) {k_15 : wS → Nat → Int32 → Int32 → Int32 → Prop} (q_15 : ∀ {S : wS} {H : Heap} {locs : List Loc} {ls : Array Slot} {a0 : Nat} {x1 : Int32} {x2 : Int32} {x3 : Int32}, k_15 S a0 x1 x2 x3 → wO D cy X A s.heap S H locs → wX D S0 S → lv_has ls 7 [(0, .ref a0), (1, .int x1), (2, .int x2), (3, .int x3)] → wM D S a0 → sK S a0 = 17 → W p l e r_X12_moves s m args below meth c H locs 0 0 (MQ below (va_Qv (fun S9 => wX D S0 S9 ∧ post S9) (wB D cy X A) A) args s 0 0 A) (F0 m 15 ls [])) {k_26 : wS → Nat → Int32 → Int32 → Int32 → Int32 → Prop} (q_26 : ∀ {S : wS} {H : Heap} {locs : List Loc} {ls : Array Slot} {a0 : Nat} {x1 : Int32} {x2 : Int32} {x3 : Int32} {x4 : Int32}, k_26 S a0 x1 x2 x3 x4 → wO D cy X A s.heap S H locs → wX D S0 S → lv_has ls 7 [(0, .ref a0), (1, .int x1), (2, .int x2), (3, .int x3), (4, .int x4)] → wM D S a0 → sK S a0 = 17 → W p l e r_X12_moves s m args below meth c H locs 0 0 (MQ below (va_Qv (fun S9 => wX D S0 S9 ∧ post S9) (wB D cy X A) A) args s 0 0 A) (F0 m 26 ls [])) : ∀ {S : wS} {H : Heap} {locs : List Loc} {ls : Array Slot} {a0 : Nat} {x1 : Int32} {x2 : Int32} {x3 : Int32} {x4 : Int32} {x5 : Int32} {t0 : Int32}, wp_X12_moves_99 D post k_15 k_26 S a0 x1 x2 x3 x4 x5 t0 → wO D cy X A s.heap S H locs → wX D S0 S → lv_has ls 7 [(0, .ref a0), (1, .int x1), (2, .int x2), (3, .int x3), (4, .int x4), (5, .int x5)] → wM D S a0 → sK S a0 = 17 → W p l e r_X12_moves s m args below meth c H locs 0 0 (MQ below (va_Qv (fun S9 => wX D S0 S9 ∧ post S9) (wB D cy X A) A) args s 0 0 A) (F0 m 99 ls [.int t0]) := by
  obtain ⟨hx, hb, hml, hown, hts⟩ := id F
  have hwg : ∀ w ∈ WG, w.before args s = true := fun w h => hts w (List.mem_cons_of_mem _ h)
  intro S H locs ls a0 x1 x2 x3 x4 x5 t0 hp hW hE hl hL_a0 hK_a0
  unfold wp_X12_moves_99 at hp
  refine lv_istore (lv' := [(6, .int t0), (0, .ref a0), (1, .int x1), (2, .int x2), (3, .int x3), (4, .int x4), (5, .int x5)]) hx hb dX12_moves_99 hl (by decide) rfl (fun ls hl => ?_)
  obtain ⟨n_1, hp⟩ := hp
  exact t_X12_moves_101 F hr hlocks hK q_15 q_26 n_1 hp hW hE (lv_sub hl [1, 2, 3, 4, 5, 6, 0] rfl) hL_a0 hK_a0
set_option maxHeartbeats 4000000 in
set_option maxRecDepth 100000 in
theorem t_X12_moves_26 {p : Program} {l : Launch} {e : Env} {s : State} {m : MethodId} {args : Array Value} {below : List Frame} {meth : Method} {c : Code} {D : wD} {cy : Nat → ClassId} {X : va_W} {A : Nat → Prop} {S0 : wS} {post : wS → Prop} (F : CallFix p m c cX12_moves 7 s args wz_X12_moves RX12) (hr : meth.sig.returnType = none) (hlocks : meth.locks = false) (hK : wK D cy A s) {k_15 : wS → Nat → Int32 → Int32 → Int32 → Prop} (q_15 : ∀ {S : wS} {H : Heap} {locs : List Loc} {ls : Array Slot} {a0 : Nat} {x1 : Int32} {x2 : Int32} {x3 : Int32}, k_15 S a0 x1 x2 x3 → wO D cy X A s.heap S H locs → wX D S0 S → lv_has ls 7 [(0, .ref a0), (1, .int x1), (2, .int x2), (3, .int x3)] → wM D S a0 → sK S a0 = 17 → W p l e r_X12_moves s m args below meth c H locs 0 0 (MQ below (va_Qv (fun S9 => wX D S0 S9 ∧ post S9) (wB D cy X A) A) args s 0 0 A) (F0 m 15 ls [])) : ∀ (n : Nat) {S : wS} {H : Heap} {locs : List Loc} {ls : Array Slot} {a0 : Nat} {x1 : Int32} {x2 : Int32} {x3 : Int32} {x4 : Int32}, wp_X12_moves_26 D post k_15 n S a0 x1 x2 x3 x4 → wO D cy X A s.heap S H locs → wX D S0 S → lv_has ls 7 [(0, .ref a0), (1, .int x1), (2, .int x2), (3, .int x3), (4, .int x4)] → wM D S a0 → sK S a0 = 17 → W p l e r_X12_moves s m args below meth c H locs 0 0 (MQ below (va_Qv (fun S9 => wX D S0 S9 ∧ post S9) (wB D cy X A) A) args s 0 0 A) (F0 m 26 ls []) := by
  obtain ⟨hx, hb, hml, hown, hts⟩ := id F
  have hwg : ∀ w ∈ WG, w.before args s = true := fun w h => hts w (List.mem_cons_of_mem _ h)
  intro n
  induction n with
  | zero =>
    intro S H locs ls a0 x1 x2 x3 x4 hp
    exact hp.elim
  | succ n ih =>
    intro S H locs ls a0 x1 x2 x3 x4 hp hW hE hl hL_a0 hK_a0
    unfold wp_X12_moves_26 at hp
    refine lv_aload_n hx hb dX12_moves_26 rfl (lv_at hl 0 rfl) ?_
    refine lv_iload_n hx hb dX12_moves_27 rfl (lv_at hl 1 rfl) ?_
    refine lv_iload_n hx hb dX12_moves_28 rfl (lv_at hl 3 rfl) ?_
    refine w_callI (va_runV (As := [.int x1, .int x3]) (rest := []) F (c_X12_on l hL_a0 hK_a0 hp H.size) (cwV (C := RX12) 2 hts (wg_V wm_RX12_141 wy_X12_on) rfl rfl rfl (by decide +kernel) ⟨Nat.le_of_ble_eq_true rfl, Nat.le_of_ble_eq_true rfl⟩) (w_preV hK hW hL_a0 hK_a0 (by decide) rfl) rfl rfl hl.1 rfl (lv_room (Nat.le_of_ble_eq_true rfl)) dX12_moves_29 ⟨Nat.le_of_ble_eq_true rfl, Nat.le_of_ble_eq_true rfl⟩) hW (fun r_1 S_2 H locs hp hW => ?_)
    obtain ⟨hX_S_2, hp⟩ := hp
    refine W.widen (k := 0) (n := 0) (by decide) (by decide) ?_
    have hE := hE.trans hX_S_2
    have hK_a0 : sK S_2 a0 = 17 := (hX_S_2.2 a0 hL_a0).1.trans hK_a0
    have hL_a0 : wM D S_2 a0 := hX_S_2.M hL_a0
    refine lv_iload_n hx hb dX12_moves_32 rfl (lv_at hl 2 rfl) ?_
    refine w_callI (va_runS (As := [.int r_1, .int x2]) (rest := []) F (c_X12_isOf l hp H.size) (va_cwS 2 hts (wg_S wm_RX12_154 wy_X12_isOf) rfl rfl rfl (by decide +kernel) ⟨Nat.le_of_ble_eq_true rfl, Nat.le_of_ble_eq_true rfl⟩) (w_preS hK hW) rfl rfl hl.1 rfl (lv_room (Nat.le_of_ble_eq_true rfl)) dX12_moves_33 ⟨Nat.le_of_ble_eq_true rfl, Nat.le_of_ble_eq_true rfl⟩) hW (fun r_3 S_4 H locs hp hW => ?_)
    obtain ⟨hX_S_4, hp⟩ := hp
    refine W.widen (k := 0) (n := 0) (by decide) (by decide) ?_
    have hE := hE.trans hX_S_4
    have hK_a0 : sK S_4 a0 = 17 := (hX_S_4.2 a0 hL_a0).1.trans hK_a0
    have hL_a0 : wM D S_4 a0 := hX_S_4.M hL_a0
    refine lv_if_eq (tgt := 138) hx hb dX12_moves_36 (by decide) (fun c_5 => ?_) (fun c_5 => ?_)
    · replace hp := hp.1 c_5
      exact t_X12_moves_138 F hr hlocks hK q_15 hp hW hE (lv_sub hl [0, 1, 2, 3] rfl) hL_a0 hK_a0
    · replace hp := hp.2 c_5
      refine lv_iload hx hb dX12_moves_39 (lv_at hl 4 rfl) ?_
      refine lv_aload_n hx hb dX12_moves_41 rfl (lv_at hl 0 rfl) ?_
      refine w_callI (va_runV (As := []) (rest := [.int x4]) F (c_X12_squares l hL_a0 hK_a0 hp H.size) (cwV (C := RX12) 0 hts (wg_V wm_RX12_113 wy_X12_squares) rfl rfl rfl (by decide +kernel) ⟨Nat.le_of_ble_eq_true rfl, Nat.le_of_ble_eq_true rfl⟩) (w_preV hK hW hL_a0 hK_a0 (by decide) rfl) rfl rfl hl.1 rfl (lv_room (Nat.le_of_ble_eq_true rfl)) dX12_moves_42 ⟨Nat.le_of_ble_eq_true rfl, Nat.le_of_ble_eq_true rfl⟩) hW (fun r_6 S_7 H locs hp hW => ?_)
      obtain ⟨hX_S_7, hp⟩ := hp
      refine W.widen (k := 0) (n := 0) (by decide) (by decide) ?_
      have hE := hE.trans hX_S_7
      have hK_a0 : sK S_7 a0 = 17 := (hX_S_7.2 a0 hL_a0).1.trans hK_a0
      have hL_a0 : wM D S_7 a0 := hX_S_7.M hL_a0
      refine lv_icmp_ge (tgt := 138) hx hb dX12_moves_45 (by decide) (fun c_8 => ?_) (fun c_8 => ?_)
      · replace hp := hp.1 c_8
        exact t_X12_moves_138 F hr hlocks hK q_15 hp hW hE (lv_sub hl [0, 1, 2, 3] rfl) hL_a0 hK_a0
      · replace hp := hp.2 c_8
        refine lv_aload_n hx hb dX12_moves_48 rfl (lv_at hl 0 rfl) ?_
        refine lv_iload_n hx hb dX12_moves_49 rfl (lv_at hl 1 rfl) ?_
        refine lv_iload_n hx hb dX12_moves_50 rfl (lv_at hl 3 rfl) ?_
        refine lv_iload hx hb dX12_moves_51 (lv_at hl 4 rfl) ?_
        refine w_callI (va_runV (As := [.int x1, .int x3, .int x4]) (rest := []) F (c_X12_goes l hL_a0 hK_a0 hp H.size) (cwV (C := RX12) 3 hts (wg_V wm_RX12_220 wy_X12_goes) rfl rfl rfl (by decide +kernel) ⟨Nat.le_of_ble_eq_true rfl, Nat.le_of_ble_eq_true rfl⟩) (w_preV hK hW hL_a0 hK_a0 (by decide) rfl) rfl rfl hl.1 rfl (lv_room (Nat.le_of_ble_eq_true rfl)) dX12_moves_53 ⟨Nat.le_of_ble_eq_true rfl, Nat.le_of_ble_eq_true rfl⟩) hW (fun r_9 S_10 H locs hp hW => ?_)
        obtain ⟨hX_S_10, hp⟩ := hp
        refine W.widen (k := 0) (n := 0) (by decide) (by decide) ?_
        have hE := hE.trans hX_S_10
        have hK_a0 : sK S_10 a0 = 17 := (hX_S_10.2 a0 hL_a0).1.trans hK_a0
        have hL_a0 : wM D S_10 a0 := hX_S_10.M hL_a0
        refine lv_if_eq (tgt := 132) hx hb dX12_moves_56 (by decide) (fun c_11 => ?_) (fun c_11 => ?_)
        · replace hp := hp.1 c_11
          exact t_X12_moves_132 F hr hlocks hK q_15 ih hp hW hE (lv_sub hl [0, 1, 2, 3, 4] rfl) hL_a0 hK_a0
        · replace hp := hp.2 c_11
          refine lv_aload_n hx hb dX12_moves_59 rfl (lv_at hl 0 rfl) ?_
          refine lv_iload_n hx hb dX12_moves_60 rfl (lv_at hl 1 rfl) ?_
          refine lv_iload_n hx hb dX12_moves_61 rfl (lv_at hl 3 rfl) ?_
          refine lv_iload hx hb dX12_moves_62 (lv_at hl 4 rfl) ?_
          refine lv_iconst (v := 0) hx hb dX12_moves_64 (by decide) ?_
          refine w_callV (va_runV (As := [.int x1, .int x3, .int x4, .int (0 : Int32)]) (rest := []) F (c_X12_makes l hL_a0 hK_a0 hp H.size) (cwV (C := RX12) 4 hts (wg_V wm_RX12_223 wy_X12_makes) rfl rfl rfl (by decide +kernel) ⟨Nat.le_of_ble_eq_true rfl, Nat.le_of_ble_eq_true rfl⟩) (w_preV hK hW hL_a0 hK_a0 (by decide) rfl) rfl rfl hl.1 rfl (lv_room (Nat.le_of_ble_eq_true rfl)) dX12_moves_65 ⟨Nat.le_of_ble_eq_true rfl, Nat.le_of_ble_eq_true rfl⟩) hW (fun S_13 H locs hp hW => ?_)
          obtain ⟨hX_S_13, hp⟩ := hp
          refine W.widen (k := 0) (n := 0) (by decide) (by decide) ?_
          have hE := hE.trans hX_S_13
          have hK_a0 : sK S_13 a0 = 17 := (hX_S_13.2 a0 hL_a0).1.trans hK_a0
          have hL_a0 : wM D S_13 a0 := hX_S_13.M hL_a0
          refine lv_aload_n hx hb dX12_moves_68 rfl (lv_at hl 0 rfl) ?_
          refine lv_iload_n hx hb dX12_moves_69 rfl (lv_at hl 1 rfl) ?_
          refine lv_iconst (v := 1) hx hb dX12_moves_70 (by decide) ?_
          refine lv_iadd hx hb dX12_moves_71 ?_
          refine lv_iload_n hx hb dX12_moves_72 rfl (lv_at hl 2 rfl) ?_
          refine w_callI (va_runV (As := [.int (x1 + (1 : Int32)), .int x2]) (rest := []) F (c_X12_isInCheck l hL_a0 hK_a0 hp H.size) (cwV (C := RX12) 2 hts (wg_V wm_RX12_186 wy_X12_isInCheck) rfl rfl rfl (by decide +kernel) ⟨Nat.le_of_ble_eq_true rfl, Nat.le_of_ble_eq_true rfl⟩) (w_preV hK hW hL_a0 hK_a0 (by decide) rfl) rfl rfl hl.1 rfl (lv_room (Nat.le_of_ble_eq_true rfl)) dX12_moves_73 ⟨Nat.le_of_ble_eq_true rfl, Nat.le_of_ble_eq_true rfl⟩) hW (fun r_14 S_15 H locs hp hW => ?_)
          obtain ⟨hX_S_15, hp⟩ := hp
          refine W.widen (k := 0) (n := 0) (by decide) (by decide) ?_
          have hE := hE.trans hX_S_15
          have hK_a0 : sK S_15 a0 = 17 := (hX_S_15.2 a0 hL_a0).1.trans hK_a0
          have hL_a0 : wM D S_15 a0 := hX_S_15.M hL_a0
          refine lv_if_ne (tgt := 132) hx hb dX12_moves_76 (by decide) (fun c_16 => ?_) (fun c_16 => ?_)
          · replace hp := hp.1 c_16
            exact t_X12_moves_132 F hr hlocks hK q_15 ih hp hW hE (lv_sub hl [0, 1, 2, 3, 4] rfl) hL_a0 hK_a0
          · replace hp := hp.2 c_16
            refine lv_aload_n hx hb dX12_moves_79 rfl (lv_at hl 0 rfl) ?_
            refine lv_iload_n hx hb dX12_moves_80 rfl (lv_at hl 1 rfl) ?_
            refine lv_iload_n hx hb dX12_moves_81 rfl (lv_at hl 3 rfl) ?_
            refine lv_iload hx hb dX12_moves_82 (lv_at hl 4 rfl) ?_
            refine w_callI (va_runV (As := [.int x1, .int x3, .int x4]) (rest := []) F (c_X12_isBecoming l hL_a0 hK_a0 hp H.size) (cwV (C := RX12) 3 hts (wg_V wm_RX12_227 wy_X12_isBecoming) rfl rfl rfl (by decide +kernel) ⟨Nat.le_of_ble_eq_true rfl, Nat.le_of_ble_eq_true rfl⟩) (w_preV hK hW hL_a0 hK_a0 (by decide) rfl) rfl rfl hl.1 rfl (lv_room (Nat.le_of_ble_eq_true rfl)) dX12_moves_84 ⟨Nat.le_of_ble_eq_true rfl, Nat.le_of_ble_eq_true rfl⟩) hW (fun r_17 S_18 H locs hp hW => ?_)
            obtain ⟨hX_S_18, hp⟩ := hp
            refine W.widen (k := 0) (n := 0) (by decide) (by decide) ?_
            have hE := hE.trans hX_S_18
            have hK_a0 : sK S_18 a0 = 17 := (hX_S_18.2 a0 hL_a0).1.trans hK_a0
            have hL_a0 : wM D S_18 a0 := hX_S_18.M hL_a0
            refine lv_istore (lv' := [(5, .int r_17), (0, .ref a0), (1, .int x1), (2, .int x2), (3, .int x3), (4, .int x4)]) hx hb dX12_moves_87 hl (by decide) rfl (fun ls hl => ?_)
            refine lv_iload hx hb dX12_moves_89 (lv_at hl 0 rfl) ?_
            refine lv_if_eq (tgt := 98) hx hb dX12_moves_91 (by decide) (fun c_19 => ?_) (fun c_19 => ?_)
            · replace hp := hp.1 c_19
              refine lv_iconst (v := 0) hx hb dX12_moves_98 (by decide) ?_
              exact t_X12_moves_99 F hr hlocks hK q_15 ih hp hW hE (lv_sub hl [1, 2, 3, 4, 5, 0] rfl) hL_a0 hK_a0
            · replace hp := hp.2 c_19
              refine lv_iconst (v := 2) hx hb dX12_moves_94 (by decide) ?_
              refine lv_goto (tgt := 99) hx hb dX12_moves_95 (by decide) ?_
              exact t_X12_moves_99 F hr hlocks hK q_15 ih hp hW hE (lv_sub hl [1, 2, 3, 4, 5, 0] rfl) hL_a0 hK_a0
set_option maxHeartbeats 4000000 in
set_option maxRecDepth 100000 in
theorem t_X12_moves_15 {p : Program} {l : Launch} {e : Env} {s : State} {m : MethodId} {args : Array Value} {below : List Frame} {meth : Method} {c : Code} {D : wD} {cy : Nat → ClassId} {X : va_W} {A : Nat → Prop} {S0 : wS} {post : wS → Prop} (F : CallFix p m c cX12_moves 7 s args wz_X12_moves RX12) (hr : meth.sig.returnType = none) (hlocks : meth.locks = false) (hK : wK D cy A s) : ∀ (n : Nat) {S : wS} {H : Heap} {locs : List Loc} {ls : Array Slot} {a0 : Nat} {x1 : Int32} {x2 : Int32} {x3 : Int32}, wp_X12_moves_15 D post n S a0 x1 x2 x3 → wO D cy X A s.heap S H locs → wX D S0 S → lv_has ls 7 [(0, .ref a0), (1, .int x1), (2, .int x2), (3, .int x3)] → wM D S a0 → sK S a0 = 17 → W p l e r_X12_moves s m args below meth c H locs 0 0 (MQ below (va_Qv (fun S9 => wX D S0 S9 ∧ post S9) (wB D cy X A) A) args s 0 0 A) (F0 m 15 ls []) := by
  obtain ⟨hx, hb, hml, hown, hts⟩ := id F
  have hwg : ∀ w ∈ WG, w.before args s = true := fun w h => hts w (List.mem_cons_of_mem _ h)
  intro n
  induction n with
  | zero =>
    intro S H locs ls a0 x1 x2 x3 hp
    exact hp.elim
  | succ n ih =>
    intro S H locs ls a0 x1 x2 x3 hp hW hE hl hL_a0 hK_a0
    unfold wp_X12_moves_15 at hp
    refine lv_iload_n hx hb dX12_moves_15 rfl (lv_at hl 3 rfl) ?_
    refine lv_aload_n hx hb dX12_moves_16 rfl (lv_at hl 0 rfl) ?_
    refine w_callI (va_runV (As := []) (rest := [.int x3]) F (c_X12_squares l hL_a0 hK_a0 hp H.size) (cwV (C := RX12) 0 hts (wg_V wm_RX12_113 wy_X12_squares) rfl rfl rfl (by decide +kernel) ⟨Nat.le_of_ble_eq_true rfl, Nat.le_of_ble_eq_true rfl⟩) (w_preV hK hW hL_a0 hK_a0 (by decide) rfl) rfl rfl hl.1 rfl (lv_room (Nat.le_of_ble_eq_true rfl)) dX12_moves_17 ⟨Nat.le_of_ble_eq_true rfl, Nat.le_of_ble_eq_true rfl⟩) hW (fun r_1 S_2 H locs hp hW => ?_)
    obtain ⟨hX_S_2, hp⟩ := hp
    refine W.widen (k := 0) (n := 0) (by decide) (by decide) ?_
    have hE := hE.trans hX_S_2
    have hK_a0 : sK S_2 a0 = 17 := (hX_S_2.2 a0 hL_a0).1.trans hK_a0
    have hL_a0 : wM D S_2 a0 := hX_S_2.M hL_a0
    refine lv_icmp_ge (tgt := 144) hx hb dX12_moves_20 (by decide) (fun c_3 => ?_) (fun c_3 => ?_)
    · replace hp := hp.1 c_3
      exact w_vret hx hb hr hlocks hW ⟨hE, hp⟩ dX12_moves_144
    · replace hp := hp.2 c_3
      refine lv_iconst (v := 0) hx hb dX12_moves_23 (by decide) ?_
      refine lv_istore (lv' := [(4, .int (0 : Int32)), (0, .ref a0), (1, .int x1), (2, .int x2), (3, .int x3)]) hx hb dX12_moves_24 hl (by decide) rfl (fun ls hl => ?_)
      obtain ⟨n_4, hp⟩ := hp
      exact t_X12_moves_26 F hr hlocks hK ih n_4 hp hW hE (lv_sub hl [1, 2, 3, 4, 0] rfl) hL_a0 hK_a0
set_option maxHeartbeats 4000000 in
set_option maxRecDepth 100000 in
theorem t_X12_moves_0 {p : Program} {l : Launch} {e : Env} {s : State} {m : MethodId} {args : Array Value} {below : List Frame} {meth : Method} {c : Code} {D : wD} {cy : Nat → ClassId} {X : va_W} {A : Nat → Prop} {S0 : wS} {post : wS → Prop} (F : CallFix p m c cX12_moves 7 s args wz_X12_moves RX12) (hr : meth.sig.returnType = none) (hlocks : meth.locks = false) (hK : wK D cy A s) : ∀ {S : wS} {H : Heap} {locs : List Loc} {ls : Array Slot} {a0 : Nat} {x1 : Int32}, wp_X12_moves_0 D post S a0 x1 → wO D cy X A s.heap S H locs → wX D S0 S → lv_has ls 7 [(0, .ref a0), (1, .int x1)] → wM D S a0 → sK S a0 = 17 → W p l e r_X12_moves s m args below meth c H locs 0 0 (MQ below (va_Qv (fun S9 => wX D S0 S9 ∧ post S9) (wB D cy X A) A) args s 0 0 A) (F0 m 0 ls []) := by
  obtain ⟨hx, hb, hml, hown, hts⟩ := id F
  have hwg : ∀ w ∈ WG, w.before args s = true := fun w h => hts w (List.mem_cons_of_mem _ h)
  have i_17 : ∀ w ∈ u_ws RX12 TX12 43, w ∈ wz_X12_moves := fun w h => List.mem_cons_of_mem _ (wu_17 w h)
  have k_29 := hwg _ wf_RX12_29
  intro S H locs ls a0 x1 hp hW hE hl hL_a0 hK_a0
  unfold wp_X12_moves_0 at hp
  refine lv_aload_n hx hb dX12_moves_0 rfl (lv_at hl 0 rfl) ?_
  obtain ⟨y_1, ey_1, hL_y_1, hK_y_1, hp⟩ := hp
  refine w_get (k := 17) (f := 7) (T := TX12) (v := .ref y_1) F hK hW hL_a0 hK_a0 (by decide) rfl rfl (by decide) i_17 k_29 (by rw [show wv 17 7 S a0 = va_rf (sR S a0 7) from rfl, ey_1]; rfl) dX12_moves_1 ?_
  refine lv_iload_n hx hb dX12_moves_4 rfl (lv_at hl 1 rfl) ?_
  refine lv_iconst (v := 0) hx hb dX12_moves_5 (by decide) ?_
  obtain ⟨h_2m, h_2, hp⟩ := hp
  refine w_ist F hK hW h_2m hK_y_1 h_2 dX12_moves_6 (fun H locs hW => ?_)
  obtain ⟨S_3, eS_3⟩ : ∃ z : wS, z = uI S y_1 (x1).toNatClampNeg (0 : Int32) := ⟨_, rfl⟩
  rw [← eS_3] at hW
  replace hp := hp S_3 eS_3
  have hX_S_3 : wX D S S_3 := by rw [eS_3]; exact wX_uI
  have hE := hE.trans hX_S_3
  have hK_a0 : sK S_3 a0 = 17 := (hX_S_3.2 a0 hL_a0).1.trans hK_a0
  have hL_a0 : wM D S_3 a0 := hX_S_3.M hL_a0
  refine lv_aload_n hx hb dX12_moves_7 rfl (lv_at hl 0 rfl) ?_
  refine lv_iload_n hx hb dX12_moves_8 rfl (lv_at hl 1 rfl) ?_
  refine w_callI (va_runV (As := [.int x1]) (rest := []) F (c_X12_side l hL_a0 hK_a0 hp H.size) (cwV (C := RX12) 1 hts (wg_V wm_RX12_183 wy_X12_side) rfl rfl rfl (by decide +kernel) ⟨Nat.le_of_ble_eq_true rfl, Nat.le_of_ble_eq_true rfl⟩) (w_preV hK hW hL_a0 hK_a0 (by decide) rfl) rfl rfl hl.1 rfl (lv_room (Nat.le_of_ble_eq_true rfl)) dX12_moves_9 ⟨Nat.le_of_ble_eq_true rfl, Nat.le_of_ble_eq_true rfl⟩) hW (fun r_4 S_5 H locs hp hW => ?_)
  obtain ⟨hX_S_5, hp⟩ := hp
  refine W.widen (k := 0) (n := 0) (by decide) (by decide) ?_
  have hE := hE.trans hX_S_5
  have hK_a0 : sK S_5 a0 = 17 := (hX_S_5.2 a0 hL_a0).1.trans hK_a0
  have hL_a0 : wM D S_5 a0 := hX_S_5.M hL_a0
  refine lv_istore_n (lv' := [(2, .int r_4), (0, .ref a0), (1, .int x1)]) hx hb dX12_moves_12 rfl hl (by decide) rfl (fun ls hl => ?_)
  refine lv_iconst (v := 0) hx hb dX12_moves_13 (by decide) ?_
  refine lv_istore_n (lv' := [(3, .int (0 : Int32)), (2, .int r_4), (0, .ref a0), (1, .int x1)]) hx hb dX12_moves_14 rfl hl (by decide) rfl (fun ls hl => ?_)
  obtain ⟨n_6, hp⟩ := hp
  exact t_X12_moves_15 F hr hlocks hK n_6 hp hW hE (lv_sub hl [2, 3, 1, 0] rfl) hL_a0 hK_a0
set_option maxHeartbeats 4000000 in
set_option maxRecDepth 100000 in
theorem c_X12_moves (l : Launch) {D : wD} {cy : Nat → ClassId} {X : va_W} {S0 : wS} {post : wS → Prop} {a0 : Nat} {x1 : Int32} (hL_a0 : wM D S0 a0) (hK_a0 : sK S0 a0 = 17) (hp : wp_X12_moves D post S0 a0 x1) : mV D cy X l yX12_moves wz_X12_moves r_X12_moves [.ref a0, .int x1] S0 (fun S9 => wX D S0 S9 ∧ post S9) := by
  intro sz
  refine Met.ofW (cc := cX12_moves) (maxL := 7) (ret := none) (by decide) rfl ?_
  intro p e s m args below meth c s₁ B hml hv
  obtain ⟨rfl, hsz, hP, hK, hD0, hRO⟩ := hv
  have hts := atoms_spec (ws := wz_X12_moves) B.pre
  have hown : s.vm.findClass RX12 = some m.cls := findClass_of_methodNamed B.named
  subst hsz
  have hD := hD0.self (sz := s.heap.size)
  have F : CallFix p m c cX12_moves 7 s _ wz_X12_moves RX12 := ⟨B.exec, B.bytes, hml, hown, hts⟩
  have hr := B.returns
  have hlocks := B.notSynchronized
  generalize hAe : va_A (wL cy X S0) s.heap.size = A at hD hK ⊢
  have hA : ∀ q, s.heap.size ≤ q → A q := fun q h => by rw [← hAe]; exact Or.inr h
  have hW : wO D cy X A s.heap S0 s.heap [] := ⟨hP, hD, va_S.rf, hA, hRO⟩
  have hl := lv_entry ([.ref a0, .int x1]) (n := 7) (Nat.le_of_ble_eq_true rfl)
  rw [lg_entry_eq]
  generalize (lg_sl ([.ref a0, .int x1]) ++ List.replicate (7 - (lg_sl ([.ref a0, .int x1])).length) Slot.unset).toArray = ls at hl ⊢
  have hl : lv_has ls 7 [(0, .ref a0), (1, .int x1)] := hl
  unfold wp_X12_moves at hp
  exact t_X12_moves_0 F hr hlocks hK hp hW wX.rf (lv_sub hl [0, 1] rfl) hL_a0 hK_a0
def wp_X12_isMateAt_34 (D : wD) (post : Int32 → wS → Prop)  (S : wS) (t0 : Int32) : Prop :=
narrow .boolean (.int t0) = .int t0 ∧ post t0 S
def wp_X12_isMateAt_0 (D : wD) (post : Int32 → wS → Prop)  (S : wS) (a0 : Nat) (x1 : Int32) : Prop :=
wp_X12_side D (fun r_1 S_2 => 
wp_X12_isInCheck D (fun r_3 S_4 => 
((¬ r_3 = 0 → wp_X12_moves D (fun S_7 => 
∃ y_8 : Nat, sR S_7 a0 7 = some y_8 ∧ wM D S_7 y_8 ∧ sK S_7 y_8 = 21 ∧
vp_in x1 (sN S_7 y_8) ∧
((¬ (sI S_7 y_8 (x1).toNatClampNeg) = 0 → wp_X12_isMateAt_34 D post S_7 (0 : Int32)) ∧
 ((sI S_7 y_8 (x1).toNatClampNeg) = 0 → wp_X12_isMateAt_34 D post S_7 (1 : Int32)))) S_4 a0 x1) ∧
 (r_3 = 0 → narrow .boolean (.int (0 : Int32)) = .int (0 : Int32) ∧ post (0 : Int32) S_4))) S_2 a0 x1 r_1) S a0 x1
abbrev r_X12_isMateAt : Room := { frames := 7, cells := 0, slots := 0, locals := 177 }
def wp_X12_isMateAt (D : wD) (post : Int32 → wS → Prop) (S : wS) (a0 : Nat) (x1 : Int32) : Prop := wp_X12_isMateAt_0 D post S a0 x1
set_option maxHeartbeats 4000000 in
set_option maxRecDepth 100000 in
theorem t_X12_isMateAt_34 {p : Program} {l : Launch} {e : Env} {s : State} {m : MethodId} {args : Array Value} {below : List Frame} {meth : Method} {c : Code} {D : wD} {cy : Nat → ClassId} {X : va_W} {A : Nat → Prop} {S0 : wS} {post : Int32 → wS → Prop} (F : CallFix p m c cX12_isMateAt 2 s args wz_X12_isMateAt RX12) (hr : meth.sig.returnType = (some .boolean)) (hlocks : meth.locks = false) (hK : wK D cy A s) : ∀ {S : wS} {H : Heap} {locs : List Loc} {ls : Array Slot} {t0 : Int32}, wp_X12_isMateAt_34 D post S t0 → wO D cy X A s.heap S H locs → wX D S0 S → lv_has ls 2 [] → W p l e r_X12_isMateAt s m args below meth c H locs 0 0 (MQ below (va_Qi (fun r S9 => wX D S0 S9 ∧ post r S9) (wB D cy X A) A) args s 0 0 A) (F0 m 34 ls [.int t0]) := by
  obtain ⟨hx, hb, hml, hown, hts⟩ := id F
  have hwg : ∀ w ∈ WG, w.before args s = true := fun w h => hts w (List.mem_cons_of_mem _ h)
  intro S H locs ls t0 hp hW hE hl
  unfold wp_X12_isMateAt_34 at hp
  exact w_zret hx hb hr hlocks hW hp.1 ⟨hE, hp.2⟩ dX12_isMateAt_34
set_option maxHeartbeats 4000000 in
set_option maxRecDepth 100000 in
theorem t_X12_isMateAt_0 {p : Program} {l : Launch} {e : Env} {s : State} {m : MethodId} {args : Array Value} {below : List Frame} {meth : Method} {c : Code} {D : wD} {cy : Nat → ClassId} {X : va_W} {A : Nat → Prop} {S0 : wS} {post : Int32 → wS → Prop} (F : CallFix p m c cX12_isMateAt 2 s args wz_X12_isMateAt RX12) (hr : meth.sig.returnType = (some .boolean)) (hlocks : meth.locks = false) (hK : wK D cy A s) : ∀ {S : wS} {H : Heap} {locs : List Loc} {ls : Array Slot} {a0 : Nat} {x1 : Int32}, wp_X12_isMateAt_0 D post S a0 x1 → wO D cy X A s.heap S H locs → wX D S0 S → lv_has ls 2 [(0, .ref a0), (1, .int x1)] → wM D S a0 → sK S a0 = 17 → W p l e r_X12_isMateAt s m args below meth c H locs 0 0 (MQ below (va_Qi (fun r S9 => wX D S0 S9 ∧ post r S9) (wB D cy X A) A) args s 0 0 A) (F0 m 0 ls []) := by
  obtain ⟨hx, hb, hml, hown, hts⟩ := id F
  have hwg : ∀ w ∈ WG, w.before args s = true := fun w h => hts w (List.mem_cons_of_mem _ h)
  have i_17 : ∀ w ∈ u_ws RX12 TX12 43, w ∈ wz_X12_isMateAt := fun w h => List.mem_cons_of_mem _ (wu_17 w h)
  have k_29 := hwg _ wf_RX12_29
  intro S H locs ls a0 x1 hp hW hE hl hL_a0 hK_a0
  unfold wp_X12_isMateAt_0 at hp
  refine lv_aload_n hx hb dX12_isMateAt_0 rfl (lv_at hl 0 rfl) ?_
  refine lv_iload_n hx hb dX12_isMateAt_1 rfl (lv_at hl 1 rfl) ?_
  refine lv_aload_n hx hb dX12_isMateAt_2 rfl (lv_at hl 0 rfl) ?_
  refine lv_iload_n hx hb dX12_isMateAt_3 rfl (lv_at hl 1 rfl) ?_
  refine w_callI (va_runV (As := [.int x1]) (rest := [.int x1, .ref a0]) F (c_X12_side l hL_a0 hK_a0 hp H.size) (cwV (C := RX12) 1 hts (wg_V wm_RX12_183 wy_X12_side) rfl rfl rfl (by decide +kernel) ⟨Nat.le_of_ble_eq_true rfl, Nat.le_of_ble_eq_true rfl⟩) (w_preV hK hW hL_a0 hK_a0 (by decide) rfl) rfl rfl hl.1 rfl (lv_room (Nat.le_of_ble_eq_true rfl)) dX12_isMateAt_4 ⟨Nat.le_of_ble_eq_true rfl, Nat.le_of_ble_eq_true rfl⟩) hW (fun r_1 S_2 H locs hp hW => ?_)
  obtain ⟨hX_S_2, hp⟩ := hp
  refine W.widen (k := 0) (n := 0) (by decide) (by decide) ?_
  have hE := hE.trans hX_S_2
  have hK_a0 : sK S_2 a0 = 17 := (hX_S_2.2 a0 hL_a0).1.trans hK_a0
  have hL_a0 : wM D S_2 a0 := hX_S_2.M hL_a0
  refine w_callI (va_runV (As := [.int x1, .int r_1]) (rest := []) F (c_X12_isInCheck l hL_a0 hK_a0 hp H.size) (cwV (C := RX12) 2 hts (wg_V wm_RX12_186 wy_X12_isInCheck) rfl rfl rfl (by decide +kernel) ⟨Nat.le_of_ble_eq_true rfl, Nat.le_of_ble_eq_true rfl⟩) (w_preV hK hW hL_a0 hK_a0 (by decide) rfl) rfl rfl hl.1 rfl (lv_room (Nat.le_of_ble_eq_true rfl)) dX12_isMateAt_7 ⟨Nat.le_of_ble_eq_true rfl, Nat.le_of_ble_eq_true rfl⟩) hW (fun r_3 S_4 H locs hp hW => ?_)
  obtain ⟨hX_S_4, hp⟩ := hp
  refine W.widen (k := 0) (n := 0) (by decide) (by decide) ?_
  have hE := hE.trans hX_S_4
  have hK_a0 : sK S_4 a0 = 17 := (hX_S_4.2 a0 hL_a0).1.trans hK_a0
  have hL_a0 : wM D S_4 a0 := hX_S_4.M hL_a0
  refine lv_if_ne (tgt := 15) hx hb dX12_isMateAt_10 (by decide) (fun c_5 => ?_) (fun c_5 => ?_)
  · replace hp := hp.1 c_5
    refine lv_aload_n hx hb dX12_isMateAt_15 rfl (lv_at hl 0 rfl) ?_
    refine lv_iload_n hx hb dX12_isMateAt_16 rfl (lv_at hl 1 rfl) ?_
    refine w_callV (va_runV (As := [.int x1]) (rest := []) F (c_X12_moves l hL_a0 hK_a0 hp H.size) (cwV (C := RX12) 1 hts (wg_V wm_RX12_233 wy_X12_moves) rfl rfl rfl (by decide +kernel) ⟨Nat.le_of_ble_eq_true rfl, Nat.le_of_ble_eq_true rfl⟩) (w_preV hK hW hL_a0 hK_a0 (by decide) rfl) rfl rfl hl.1 rfl (lv_room (Nat.le_of_ble_eq_true rfl)) dX12_isMateAt_17 ⟨Nat.le_of_ble_eq_true rfl, Nat.le_of_ble_eq_true rfl⟩) hW (fun S_7 H locs hp hW => ?_)
    obtain ⟨hX_S_7, hp⟩ := hp
    refine W.widen (k := 0) (n := 0) (by decide) (by decide) ?_
    have hE := hE.trans hX_S_7
    have hK_a0 : sK S_7 a0 = 17 := (hX_S_7.2 a0 hL_a0).1.trans hK_a0
    have hL_a0 : wM D S_7 a0 := hX_S_7.M hL_a0
    refine lv_aload_n hx hb dX12_isMateAt_20 rfl (lv_at hl 0 rfl) ?_
    obtain ⟨y_8, ey_8, hL_y_8, hK_y_8, hp⟩ := hp
    refine w_get (k := 17) (f := 7) (T := TX12) (v := .ref y_8) F hK hW hL_a0 hK_a0 (by decide) rfl rfl (by decide) i_17 k_29 (by rw [show wv 17 7 S_7 a0 = va_rf (sR S_7 a0 7) from rfl, ey_8]; rfl) dX12_isMateAt_21 ?_
    refine lv_iload_n hx hb dX12_isMateAt_24 rfl (lv_at hl 1 rfl) ?_
    obtain ⟨h_9, hp⟩ := hp
    refine w_ild F hK hW hL_y_8 hK_y_8 h_9 dX12_isMateAt_25 ?_
    refine lv_if_ne (tgt := 33) hx hb dX12_isMateAt_26 (by decide) (fun c_10 => ?_) (fun c_10 => ?_)
    · replace hp := hp.1 c_10
      refine lv_iconst (v := 0) hx hb dX12_isMateAt_33 (by decide) ?_
      exact t_X12_isMateAt_34 F hr hlocks hK hp hW hE (lv_sub hl [] rfl)
    · replace hp := hp.2 c_10
      refine lv_iconst (v := 1) hx hb dX12_isMateAt_29 (by decide) ?_
      refine lv_goto (tgt := 34) hx hb dX12_isMateAt_30 (by decide) ?_
      exact t_X12_isMateAt_34 F hr hlocks hK hp hW hE (lv_sub hl [] rfl)
  · replace hp := hp.2 c_5
    refine lv_iconst (v := 0) hx hb dX12_isMateAt_13 (by decide) ?_
    exact w_zret hx hb hr hlocks hW hp.1 ⟨hE, hp.2⟩ dX12_isMateAt_14
set_option maxHeartbeats 4000000 in
set_option maxRecDepth 100000 in
theorem c_X12_isMateAt (l : Launch) {D : wD} {cy : Nat → ClassId} {X : va_W} {S0 : wS} {post : Int32 → wS → Prop} {a0 : Nat} {x1 : Int32} (hL_a0 : wM D S0 a0) (hK_a0 : sK S0 a0 = 17) (hp : wp_X12_isMateAt D post S0 a0 x1) : mI D cy X l yX12_isMateAt wz_X12_isMateAt r_X12_isMateAt [.ref a0, .int x1] S0 (fun r S9 => wX D S0 S9 ∧ post r S9) := by
  intro sz
  refine Met.ofW (cc := cX12_isMateAt) (maxL := 2) (ret := (some .boolean)) (by decide) rfl ?_
  intro p e s m args below meth c s₁ B hml hv
  obtain ⟨rfl, hsz, hP, hK, hD0, hRO⟩ := hv
  have hts := atoms_spec (ws := wz_X12_isMateAt) B.pre
  have hown : s.vm.findClass RX12 = some m.cls := findClass_of_methodNamed B.named
  subst hsz
  have hD := hD0.self (sz := s.heap.size)
  have F : CallFix p m c cX12_isMateAt 2 s _ wz_X12_isMateAt RX12 := ⟨B.exec, B.bytes, hml, hown, hts⟩
  have hr := B.returns
  have hlocks := B.notSynchronized
  generalize hAe : va_A (wL cy X S0) s.heap.size = A at hD hK ⊢
  have hA : ∀ q, s.heap.size ≤ q → A q := fun q h => by rw [← hAe]; exact Or.inr h
  have hW : wO D cy X A s.heap S0 s.heap [] := ⟨hP, hD, va_S.rf, hA, hRO⟩
  have hl := lv_entry ([.ref a0, .int x1]) (n := 2) (Nat.le_of_ble_eq_true rfl)
  rw [lg_entry_eq]
  generalize (lg_sl ([.ref a0, .int x1]) ++ List.replicate (2 - (lg_sl ([.ref a0, .int x1])).length) Slot.unset).toArray = ls at hl ⊢
  have hl : lv_has ls 2 [(0, .ref a0), (1, .int x1)] := hl
  unfold wp_X12_isMateAt at hp
  exact t_X12_isMateAt_0 F hr hlocks hK hp hW wX.rf (lv_sub hl [0, 1] rfl) hL_a0 hK_a0
def wp_X12_makesListed_0 (D : wD) (post : wS → Prop)  (S : wS) (a0 : Nat) (x1 : Int32) (x2 : Int32) : Prop :=
∀ x_1 : Int32, x_1 = (((320 : Int32) * x1) + x2) →
∃ y_2 : Nat, sR S a0 4 = some y_2 ∧ wM D S y_2 ∧ sK S y_2 = 21 ∧
vp_in x_1 (sN S y_2) ∧
∃ y_4 : Nat, sR S a0 5 = some y_4 ∧ wM D S y_4 ∧ sK S y_4 = 21 ∧
vp_in x_1 (sN S y_4) ∧
∃ y_6 : Nat, sR S a0 6 = some y_6 ∧ wM D S y_6 ∧ sK S y_6 = 21 ∧
vp_in x_1 (sN S y_6) ∧
wp_X12_makes D (fun S_9 => 
post S_9) S a0 x1 (sI S y_2 (x_1).toNatClampNeg) (sI S y_4 (x_1).toNatClampNeg) (sI S y_6 (x_1).toNatClampNeg)
abbrev r_X12_makesListed : Room := { frames := 4, cells := 0, slots := 0, locals := 93 }
def wp_X12_makesListed (D : wD) (post : wS → Prop) (S : wS) (a0 : Nat) (x1 : Int32) (x2 : Int32) : Prop := wp_X12_makesListed_0 D post S a0 x1 x2
set_option maxHeartbeats 4000000 in
set_option maxRecDepth 100000 in
theorem t_X12_makesListed_0 {p : Program} {l : Launch} {e : Env} {s : State} {m : MethodId} {args : Array Value} {below : List Frame} {meth : Method} {c : Code} {D : wD} {cy : Nat → ClassId} {X : va_W} {A : Nat → Prop} {S0 : wS} {post : wS → Prop} (F : CallFix p m c cX12_makesListed 4 s args wz_X12_makesListed RX12) (hr : meth.sig.returnType = none) (hlocks : meth.locks = false) (hK : wK D cy A s) : ∀ {S : wS} {H : Heap} {locs : List Loc} {ls : Array Slot} {a0 : Nat} {x1 : Int32} {x2 : Int32}, wp_X12_makesListed_0 D post S a0 x1 x2 → wO D cy X A s.heap S H locs → wX D S0 S → lv_has ls 4 [(0, .ref a0), (1, .int x1), (2, .int x2)] → wM D S a0 → sK S a0 = 17 → W p l e r_X12_makesListed s m args below meth c H locs 0 0 (MQ below (va_Qv (fun S9 => wX D S0 S9 ∧ post S9) (wB D cy X A) A) args s 0 0 A) (F0 m 0 ls []) := by
  obtain ⟨hx, hb, hml, hown, hts⟩ := id F
  have hwg : ∀ w ∈ WG, w.before args s = true := fun w h => hts w (List.mem_cons_of_mem _ h)
  have i_17 : ∀ w ∈ u_ws RX12 TX12 43, w ∈ wz_X12_makesListed := fun w h => List.mem_cons_of_mem _ (wu_17 w h)
  have k_20 := hwg _ wf_RX12_20
  have k_23 := hwg _ wf_RX12_23
  have k_26 := hwg _ wf_RX12_26
  intro S H locs ls a0 x1 x2 hp hW hE hl hL_a0 hK_a0
  unfold wp_X12_makesListed_0 at hp
  refine lv_sipush (v := 320) hx hb dX12_makesListed_0 (by decide) ?_
  refine lv_iload_n hx hb dX12_makesListed_3 rfl (lv_at hl 1 rfl) ?_
  refine lv_imul hx hb dX12_makesListed_4 ?_
  refine lv_iload_n hx hb dX12_makesListed_5 rfl (lv_at hl 2 rfl) ?_
  refine lv_iadd hx hb dX12_makesListed_6 ?_
  refine lv_topi (fun x_1 ex_1 => ?_)
  replace hp := hp x_1 ex_1
  refine lv_istore_n (lv' := [(3, .int x_1), (0, .ref a0), (1, .int x1), (2, .int x2)]) hx hb dX12_makesListed_7 rfl hl (by decide) rfl (fun ls hl => ?_)
  refine lv_aload_n hx hb dX12_makesListed_8 rfl (lv_at hl 1 rfl) ?_
  refine lv_iload_n hx hb dX12_makesListed_9 rfl (lv_at hl 2 rfl) ?_
  refine lv_aload_n hx hb dX12_makesListed_10 rfl (lv_at hl 1 rfl) ?_
  obtain ⟨y_2, ey_2, hL_y_2, hK_y_2, hp⟩ := hp
  refine w_get (k := 17) (f := 4) (T := TX12) (v := .ref y_2) F hK hW hL_a0 hK_a0 (by decide) rfl rfl (by decide) i_17 k_20 (by rw [show wv 17 4 S a0 = va_rf (sR S a0 4) from rfl, ey_2]; rfl) dX12_makesListed_11 ?_
  refine lv_iload_n hx hb dX12_makesListed_14 rfl (lv_at hl 0 rfl) ?_
  obtain ⟨h_3, hp⟩ := hp
  refine w_ild F hK hW hL_y_2 hK_y_2 h_3 dX12_makesListed_15 ?_
  refine lv_aload_n hx hb dX12_makesListed_16 rfl (lv_at hl 1 rfl) ?_
  obtain ⟨y_4, ey_4, hL_y_4, hK_y_4, hp⟩ := hp
  refine w_get (k := 17) (f := 5) (T := TX12) (v := .ref y_4) F hK hW hL_a0 hK_a0 (by decide) rfl rfl (by decide) i_17 k_23 (by rw [show wv 17 5 S a0 = va_rf (sR S a0 5) from rfl, ey_4]; rfl) dX12_makesListed_17 ?_
  refine lv_iload_n hx hb dX12_makesListed_20 rfl (lv_at hl 0 rfl) ?_
  obtain ⟨h_5, hp⟩ := hp
  refine w_ild F hK hW hL_y_4 hK_y_4 h_5 dX12_makesListed_21 ?_
  refine lv_aload_n hx hb dX12_makesListed_22 rfl (lv_at hl 1 rfl) ?_
  obtain ⟨y_6, ey_6, hL_y_6, hK_y_6, hp⟩ := hp
  refine w_get (k := 17) (f := 6) (T := TX12) (v := .ref y_6) F hK hW hL_a0 hK_a0 (by decide) rfl rfl (by decide) i_17 k_26 (by rw [show wv 17 6 S a0 = va_rf (sR S a0 6) from rfl, ey_6]; rfl) dX12_makesListed_23 ?_
  refine lv_iload_n hx hb dX12_makesListed_26 rfl (lv_at hl 0 rfl) ?_
  obtain ⟨h_7, hp⟩ := hp
  refine w_ild F hK hW hL_y_6 hK_y_6 h_7 dX12_makesListed_27 ?_
  refine w_callV (va_runV (As := [.int x1, .int (sI S y_2 (x_1).toNatClampNeg), .int (sI S y_4 (x_1).toNatClampNeg), .int (sI S y_6 (x_1).toNatClampNeg)]) (rest := []) F (c_X12_makes l hL_a0 hK_a0 hp H.size) (cwV (C := RX12) 4 hts (wg_V wm_RX12_223 wy_X12_makes) rfl rfl rfl (by decide +kernel) ⟨Nat.le_of_ble_eq_true rfl, Nat.le_of_ble_eq_true rfl⟩) (w_preV hK hW hL_a0 hK_a0 (by decide) rfl) rfl rfl hl.1 rfl (lv_room (Nat.le_of_ble_eq_true rfl)) dX12_makesListed_28 ⟨Nat.le_of_ble_eq_true rfl, Nat.le_of_ble_eq_true rfl⟩) hW (fun S_9 H locs hp hW => ?_)
  obtain ⟨hX_S_9, hp⟩ := hp
  refine W.widen (k := 0) (n := 0) (by decide) (by decide) ?_
  have hE := hE.trans hX_S_9
  have hK_a0 : sK S_9 a0 = 17 := (hX_S_9.2 a0 hL_a0).1.trans hK_a0
  have hL_a0 : wM D S_9 a0 := hX_S_9.M hL_a0
  exact w_vret hx hb hr hlocks hW ⟨hE, hp⟩ dX12_makesListed_31
set_option maxHeartbeats 4000000 in
set_option maxRecDepth 100000 in
theorem c_X12_makesListed (l : Launch) {D : wD} {cy : Nat → ClassId} {X : va_W} {S0 : wS} {post : wS → Prop} {a0 : Nat} {x1 : Int32} {x2 : Int32} (hL_a0 : wM D S0 a0) (hK_a0 : sK S0 a0 = 17) (hp : wp_X12_makesListed D post S0 a0 x1 x2) : mV D cy X l yX12_makesListed wz_X12_makesListed r_X12_makesListed [.ref a0, .int x1, .int x2] S0 (fun S9 => wX D S0 S9 ∧ post S9) := by
  intro sz
  refine Met.ofW (cc := cX12_makesListed) (maxL := 4) (ret := none) (by decide) rfl ?_
  intro p e s m args below meth c s₁ B hml hv
  obtain ⟨rfl, hsz, hP, hK, hD0, hRO⟩ := hv
  have hts := atoms_spec (ws := wz_X12_makesListed) B.pre
  have hown : s.vm.findClass RX12 = some m.cls := findClass_of_methodNamed B.named
  subst hsz
  have hD := hD0.self (sz := s.heap.size)
  have F : CallFix p m c cX12_makesListed 4 s _ wz_X12_makesListed RX12 := ⟨B.exec, B.bytes, hml, hown, hts⟩
  have hr := B.returns
  have hlocks := B.notSynchronized
  generalize hAe : va_A (wL cy X S0) s.heap.size = A at hD hK ⊢
  have hA : ∀ q, s.heap.size ≤ q → A q := fun q h => by rw [← hAe]; exact Or.inr h
  have hW : wO D cy X A s.heap S0 s.heap [] := ⟨hP, hD, va_S.rf, hA, hRO⟩
  have hl := lv_entry ([.ref a0, .int x1, .int x2]) (n := 4) (Nat.le_of_ble_eq_true rfl)
  rw [lg_entry_eq]
  generalize (lg_sl ([.ref a0, .int x1, .int x2]) ++ List.replicate (4 - (lg_sl ([.ref a0, .int x1, .int x2])).length) Slot.unset).toArray = ls at hl ⊢
  have hl : lv_has ls 4 [(0, .ref a0), (1, .int x1), (2, .int x2)] := hl
  unfold wp_X12_makesListed at hp
  exact t_X12_makesListed_0 F hr hlocks hK hp hW wX.rf (lv_sub hl [0, 1, 2] rfl) hL_a0 hK_a0
def wp_X12_endOf_36 (D : wD) (post : Int32 → wS → Prop)  (S : wS) (t0 : Int32) : Prop :=
post t0 S
def wp_X12_endOf_0 (D : wD) (post : Int32 → wS → Prop)  (S : wS) (a0 : Nat) (x1 : Int32) : Prop :=
wp_X12_makesListed D (fun S_2 => 
wp_X12_side D (fun r_3 S_4 => 
wp_X12_isInCheck D (fun r_5 S_6 => 
((¬ r_5 = 0 → wp_X12_isMateAt D (fun r_8 S_9 => 
((r_8 = 0 → wp_X12_endOf_36 D post S_9 (43 : Int32)) ∧
 (¬ r_8 = 0 → wp_X12_endOf_36 D post S_9 (35 : Int32)))) S_6 a0 (1 : Int32)) ∧
 (r_5 = 0 → post (0 : Int32) S_6))) S_4 a0 (1 : Int32) r_3) S_2 a0 (1 : Int32)) S a0 (0 : Int32) x1
abbrev r_X12_endOf : Room := { frames := 8, cells := 0, slots := 0, locals := 198 }
def wp_X12_endOf (D : wD) (post : Int32 → wS → Prop) (S : wS) (a0 : Nat) (x1 : Int32) : Prop := wp_X12_endOf_0 D post S a0 x1
set_option maxHeartbeats 4000000 in
set_option maxRecDepth 100000 in
theorem t_X12_endOf_36 {p : Program} {l : Launch} {e : Env} {s : State} {m : MethodId} {args : Array Value} {below : List Frame} {meth : Method} {c : Code} {D : wD} {cy : Nat → ClassId} {X : va_W} {A : Nat → Prop} {S0 : wS} {post : Int32 → wS → Prop} (F : CallFix p m c cX12_endOf 2 s args wz_X12_endOf RX12) (hr : meth.sig.returnType = (some .int)) (hlocks : meth.locks = false) (hK : wK D cy A s) : ∀ {S : wS} {H : Heap} {locs : List Loc} {ls : Array Slot} {t0 : Int32}, wp_X12_endOf_36 D post S t0 → wO D cy X A s.heap S H locs → wX D S0 S → lv_has ls 2 [] → W p l e r_X12_endOf s m args below meth c H locs 0 0 (MQ below (va_Qi (fun r S9 => wX D S0 S9 ∧ post r S9) (wB D cy X A) A) args s 0 0 A) (F0 m 36 ls [.int t0]) := by
  obtain ⟨hx, hb, hml, hown, hts⟩ := id F
  have hwg : ∀ w ∈ WG, w.before args s = true := fun w h => hts w (List.mem_cons_of_mem _ h)
  intro S H locs ls t0 hp hW hE hl
  unfold wp_X12_endOf_36 at hp
  exact w_iret hx hb hr hlocks hW ⟨hE, hp⟩ dX12_endOf_36
set_option maxHeartbeats 4000000 in
set_option maxRecDepth 100000 in
theorem t_X12_endOf_0 {p : Program} {l : Launch} {e : Env} {s : State} {m : MethodId} {args : Array Value} {below : List Frame} {meth : Method} {c : Code} {D : wD} {cy : Nat → ClassId} {X : va_W} {A : Nat → Prop} {S0 : wS} {post : Int32 → wS → Prop} (F : CallFix p m c cX12_endOf 2 s args wz_X12_endOf RX12) (hr : meth.sig.returnType = (some .int)) (hlocks : meth.locks = false) (hK : wK D cy A s) : ∀ {S : wS} {H : Heap} {locs : List Loc} {ls : Array Slot} {a0 : Nat} {x1 : Int32}, wp_X12_endOf_0 D post S a0 x1 → wO D cy X A s.heap S H locs → wX D S0 S → lv_has ls 2 [(0, .ref a0), (1, .int x1)] → wM D S a0 → sK S a0 = 17 → W p l e r_X12_endOf s m args below meth c H locs 0 0 (MQ below (va_Qi (fun r S9 => wX D S0 S9 ∧ post r S9) (wB D cy X A) A) args s 0 0 A) (F0 m 0 ls []) := by
  obtain ⟨hx, hb, hml, hown, hts⟩ := id F
  have hwg : ∀ w ∈ WG, w.before args s = true := fun w h => hts w (List.mem_cons_of_mem _ h)
  intro S H locs ls a0 x1 hp hW hE hl hL_a0 hK_a0
  unfold wp_X12_endOf_0 at hp
  refine lv_aload_n hx hb dX12_endOf_0 rfl (lv_at hl 0 rfl) ?_
  refine lv_iconst (v := 0) hx hb dX12_endOf_1 (by decide) ?_
  refine lv_iload_n hx hb dX12_endOf_2 rfl (lv_at hl 1 rfl) ?_
  refine w_callV (va_runV (As := [.int (0 : Int32), .int x1]) (rest := []) F (c_X12_makesListed l hL_a0 hK_a0 hp H.size) (cwV (C := RX12) 2 hts (wg_V wm_RX12_306 wy_X12_makesListed) rfl rfl rfl (by decide +kernel) ⟨Nat.le_of_ble_eq_true rfl, Nat.le_of_ble_eq_true rfl⟩) (w_preV hK hW hL_a0 hK_a0 (by decide) rfl) rfl rfl hl.1 rfl (lv_room (Nat.le_of_ble_eq_true rfl)) dX12_endOf_3 ⟨Nat.le_of_ble_eq_true rfl, Nat.le_of_ble_eq_true rfl⟩) hW (fun S_2 H locs hp hW => ?_)
  obtain ⟨hX_S_2, hp⟩ := hp
  refine W.widen (k := 0) (n := 0) (by decide) (by decide) ?_
  have hE := hE.trans hX_S_2
  have hK_a0 : sK S_2 a0 = 17 := (hX_S_2.2 a0 hL_a0).1.trans hK_a0
  have hL_a0 : wM D S_2 a0 := hX_S_2.M hL_a0
  refine lv_aload_n hx hb dX12_endOf_6 rfl (lv_at hl 0 rfl) ?_
  refine lv_iconst (v := 1) hx hb dX12_endOf_7 (by decide) ?_
  refine lv_aload_n hx hb dX12_endOf_8 rfl (lv_at hl 0 rfl) ?_
  refine lv_iconst (v := 1) hx hb dX12_endOf_9 (by decide) ?_
  refine w_callI (va_runV (As := [.int (1 : Int32)]) (rest := [.int (1 : Int32), .ref a0]) F (c_X12_side l hL_a0 hK_a0 hp H.size) (cwV (C := RX12) 1 hts (wg_V wm_RX12_183 wy_X12_side) rfl rfl rfl (by decide +kernel) ⟨Nat.le_of_ble_eq_true rfl, Nat.le_of_ble_eq_true rfl⟩) (w_preV hK hW hL_a0 hK_a0 (by decide) rfl) rfl rfl hl.1 rfl (lv_room (Nat.le_of_ble_eq_true rfl)) dX12_endOf_10 ⟨Nat.le_of_ble_eq_true rfl, Nat.le_of_ble_eq_true rfl⟩) hW (fun r_3 S_4 H locs hp hW => ?_)
  obtain ⟨hX_S_4, hp⟩ := hp
  refine W.widen (k := 0) (n := 0) (by decide) (by decide) ?_
  have hE := hE.trans hX_S_4
  have hK_a0 : sK S_4 a0 = 17 := (hX_S_4.2 a0 hL_a0).1.trans hK_a0
  have hL_a0 : wM D S_4 a0 := hX_S_4.M hL_a0
  refine w_callI (va_runV (As := [.int (1 : Int32), .int r_3]) (rest := []) F (c_X12_isInCheck l hL_a0 hK_a0 hp H.size) (cwV (C := RX12) 2 hts (wg_V wm_RX12_186 wy_X12_isInCheck) rfl rfl rfl (by decide +kernel) ⟨Nat.le_of_ble_eq_true rfl, Nat.le_of_ble_eq_true rfl⟩) (w_preV hK hW hL_a0 hK_a0 (by decide) rfl) rfl rfl hl.1 rfl (lv_room (Nat.le_of_ble_eq_true rfl)) dX12_endOf_13 ⟨Nat.le_of_ble_eq_true rfl, Nat.le_of_ble_eq_true rfl⟩) hW (fun r_5 S_6 H locs hp hW => ?_)
  obtain ⟨hX_S_6, hp⟩ := hp
  refine W.widen (k := 0) (n := 0) (by decide) (by decide) ?_
  have hE := hE.trans hX_S_6
  have hK_a0 : sK S_6 a0 = 17 := (hX_S_6.2 a0 hL_a0).1.trans hK_a0
  have hL_a0 : wM D S_6 a0 := hX_S_6.M hL_a0
  refine lv_if_ne (tgt := 21) hx hb dX12_endOf_16 (by decide) (fun c_7 => ?_) (fun c_7 => ?_)
  · replace hp := hp.1 c_7
    refine lv_aload_n hx hb dX12_endOf_21 rfl (lv_at hl 0 rfl) ?_
    refine lv_iconst (v := 1) hx hb dX12_endOf_22 (by decide) ?_
    refine w_callI (va_runV (As := [.int (1 : Int32)]) (rest := []) F (c_X12_isMateAt l hL_a0 hK_a0 hp H.size) (cwV (C := RX12) 1 hts (wg_V wm_RX12_309 wy_X12_isMateAt) rfl rfl rfl (by decide +kernel) ⟨Nat.le_of_ble_eq_true rfl, Nat.le_of_ble_eq_true rfl⟩) (w_preV hK hW hL_a0 hK_a0 (by decide) rfl) rfl rfl hl.1 rfl (lv_room (Nat.le_of_ble_eq_true rfl)) dX12_endOf_23 ⟨Nat.le_of_ble_eq_true rfl, Nat.le_of_ble_eq_true rfl⟩) hW (fun r_8 S_9 H locs hp hW => ?_)
    obtain ⟨hX_S_9, hp⟩ := hp
    refine W.widen (k := 0) (n := 0) (by decide) (by decide) ?_
    have hE := hE.trans hX_S_9
    have hK_a0 : sK S_9 a0 = 17 := (hX_S_9.2 a0 hL_a0).1.trans hK_a0
    have hL_a0 : wM D S_9 a0 := hX_S_9.M hL_a0
    refine lv_if_eq (tgt := 34) hx hb dX12_endOf_26 (by decide) (fun c_10 => ?_) (fun c_10 => ?_)
    · replace hp := hp.1 c_10
      refine lv_bipush (v := 43) hx hb dX12_endOf_34 (by decide) ?_
      exact t_X12_endOf_36 F hr hlocks hK hp hW hE (lv_sub hl [] rfl)
    · replace hp := hp.2 c_10
      refine lv_bipush (v := 35) hx hb dX12_endOf_29 (by decide) ?_
      refine lv_goto (tgt := 36) hx hb dX12_endOf_31 (by decide) ?_
      exact t_X12_endOf_36 F hr hlocks hK hp hW hE (lv_sub hl [] rfl)
  · replace hp := hp.2 c_7
    refine lv_iconst (v := 0) hx hb dX12_endOf_19 (by decide) ?_
    exact w_iret hx hb hr hlocks hW ⟨hE, hp⟩ dX12_endOf_20
set_option maxHeartbeats 4000000 in
set_option maxRecDepth 100000 in
theorem c_X12_endOf (l : Launch) {D : wD} {cy : Nat → ClassId} {X : va_W} {S0 : wS} {post : Int32 → wS → Prop} {a0 : Nat} {x1 : Int32} (hL_a0 : wM D S0 a0) (hK_a0 : sK S0 a0 = 17) (hp : wp_X12_endOf D post S0 a0 x1) : mI D cy X l yX12_endOf wz_X12_endOf r_X12_endOf [.ref a0, .int x1] S0 (fun r S9 => wX D S0 S9 ∧ post r S9) := by
  intro sz
  refine Met.ofW (cc := cX12_endOf) (maxL := 2) (ret := (some .int)) (by decide) rfl ?_
  intro p e s m args below meth c s₁ B hml hv
  obtain ⟨rfl, hsz, hP, hK, hD0, hRO⟩ := hv
  have hts := atoms_spec (ws := wz_X12_endOf) B.pre
  have hown : s.vm.findClass RX12 = some m.cls := findClass_of_methodNamed B.named
  subst hsz
  have hD := hD0.self (sz := s.heap.size)
  have F : CallFix p m c cX12_endOf 2 s _ wz_X12_endOf RX12 := ⟨B.exec, B.bytes, hml, hown, hts⟩
  have hr := B.returns
  have hlocks := B.notSynchronized
  generalize hAe : va_A (wL cy X S0) s.heap.size = A at hD hK ⊢
  have hA : ∀ q, s.heap.size ≤ q → A q := fun q h => by rw [← hAe]; exact Or.inr h
  have hW : wO D cy X A s.heap S0 s.heap [] := ⟨hP, hD, va_S.rf, hA, hRO⟩
  have hl := lv_entry ([.ref a0, .int x1]) (n := 2) (Nat.le_of_ble_eq_true rfl)
  rw [lg_entry_eq]
  generalize (lg_sl ([.ref a0, .int x1]) ++ List.replicate (2 - (lg_sl ([.ref a0, .int x1])).length) Slot.unset).toArray = ls at hl ⊢
  have hl : lv_has ls 2 [(0, .ref a0), (1, .int x1)] := hl
  unfold wp_X12_endOf at hp
  exact t_X12_endOf_0 F hr hlocks hK hp hW wX.rf (lv_sub hl [0, 1] rfl) hL_a0 hK_a0
def wp_X12_letterOf_52 (D : wD) (post : Int32 → wS → Prop)  (S : wS) (t0 : Int32) : Prop :=
post t0 S
def wp_X12_letterOf_0 (D : wD) (post : Int32 → wS → Prop)  (S : wS) (x0 : Int32) : Prop :=
((¬ x0 = (1 : Int32) → ((¬ x0 = (2 : Int32) → ((¬ x0 = (3 : Int32) → ((¬ x0 = (4 : Int32) → ((¬ x0 = (5 : Int32) → wp_X12_letterOf_52 D post S (80 : Int32)) ∧
 (x0 = (5 : Int32) → wp_X12_letterOf_52 D post S (78 : Int32)))) ∧
 (x0 = (4 : Int32) → wp_X12_letterOf_52 D post S (66 : Int32)))) ∧
 (x0 = (3 : Int32) → wp_X12_letterOf_52 D post S (82 : Int32)))) ∧
 (x0 = (2 : Int32) → wp_X12_letterOf_52 D post S (81 : Int32)))) ∧
 (x0 = (1 : Int32) → wp_X12_letterOf_52 D post S (75 : Int32)))
abbrev r_X12_letterOf : Room := { frames := 0, cells := 0, slots := 0, locals := 0 }
def wp_X12_letterOf (D : wD) (post : Int32 → wS → Prop) (S : wS) (x0 : Int32) : Prop := wp_X12_letterOf_0 D post S x0
set_option maxHeartbeats 4000000 in
set_option maxRecDepth 100000 in
theorem t_X12_letterOf_52 {p : Program} {l : Launch} {e : Env} {s : State} {m : MethodId} {args : Array Value} {below : List Frame} {meth : Method} {c : Code} {D : wD} {cy : Nat → ClassId} {X : va_W} {A : Nat → Prop} {S0 : wS} {post : Int32 → wS → Prop} (F : CallFix p m c cX12_letterOf 1 s args wz_X12_letterOf RX12) (hr : meth.sig.returnType = (some .int)) (hlocks : meth.locks = false) (hK : wK D cy A s) : ∀ {S : wS} {H : Heap} {locs : List Loc} {ls : Array Slot} {t0 : Int32}, wp_X12_letterOf_52 D post S t0 → wO D cy X A s.heap S H locs → wX D S0 S → lv_has ls 1 [] → W p l e r_X12_letterOf s m args below meth c H locs 0 0 (MQ below (va_Qi (fun r S9 => wX D S0 S9 ∧ post r S9) (wB D cy X A) A) args s 0 0 A) (F0 m 52 ls [.int t0]) := by
  obtain ⟨hx, hb, hml, hown, hts⟩ := id F
  have hwg : ∀ w ∈ WG, w.before args s = true := fun w h => hts w (List.mem_cons_of_mem _ h)
  intro S H locs ls t0 hp hW hE hl
  unfold wp_X12_letterOf_52 at hp
  exact w_iret hx hb hr hlocks hW ⟨hE, hp⟩ dX12_letterOf_52
set_option maxHeartbeats 4000000 in
set_option maxRecDepth 100000 in
theorem t_X12_letterOf_0 {p : Program} {l : Launch} {e : Env} {s : State} {m : MethodId} {args : Array Value} {below : List Frame} {meth : Method} {c : Code} {D : wD} {cy : Nat → ClassId} {X : va_W} {A : Nat → Prop} {S0 : wS} {post : Int32 → wS → Prop} (F : CallFix p m c cX12_letterOf 1 s args wz_X12_letterOf RX12) (hr : meth.sig.returnType = (some .int)) (hlocks : meth.locks = false) (hK : wK D cy A s) : ∀ {S : wS} {H : Heap} {locs : List Loc} {ls : Array Slot} {x0 : Int32}, wp_X12_letterOf_0 D post S x0 → wO D cy X A s.heap S H locs → wX D S0 S → lv_has ls 1 [(0, .int x0)] → W p l e r_X12_letterOf s m args below meth c H locs 0 0 (MQ below (va_Qi (fun r S9 => wX D S0 S9 ∧ post r S9) (wB D cy X A) A) args s 0 0 A) (F0 m 0 ls []) := by
  obtain ⟨hx, hb, hml, hown, hts⟩ := id F
  have hwg : ∀ w ∈ WG, w.before args s = true := fun w h => hts w (List.mem_cons_of_mem _ h)
  intro S H locs ls x0 hp hW hE hl
  unfold wp_X12_letterOf_0 at hp
  refine lv_iload_n hx hb dX12_letterOf_0 rfl (lv_at hl 0 rfl) ?_
  refine lv_iconst (v := 1) hx hb dX12_letterOf_1 (by decide) ?_
  refine lv_icmp_ne (tgt := 10) hx hb dX12_letterOf_2 (by decide) (fun c_1 => ?_) (fun c_1 => ?_)
  · replace hp := hp.1 c_1
    refine lv_iload_n hx hb dX12_letterOf_10 rfl (lv_at hl 0 rfl) ?_
    refine lv_iconst (v := 2) hx hb dX12_letterOf_11 (by decide) ?_
    refine lv_icmp_ne (tgt := 20) hx hb dX12_letterOf_12 (by decide) (fun c_2 => ?_) (fun c_2 => ?_)
    · replace hp := hp.1 c_2
      refine lv_iload_n hx hb dX12_letterOf_20 rfl (lv_at hl 0 rfl) ?_
      refine lv_iconst (v := 3) hx hb dX12_letterOf_21 (by decide) ?_
      refine lv_icmp_ne (tgt := 30) hx hb dX12_letterOf_22 (by decide) (fun c_3 => ?_) (fun c_3 => ?_)
      · replace hp := hp.1 c_3
        refine lv_iload_n hx hb dX12_letterOf_30 rfl (lv_at hl 0 rfl) ?_
        refine lv_iconst (v := 4) hx hb dX12_letterOf_31 (by decide) ?_
        refine lv_icmp_ne (tgt := 40) hx hb dX12_letterOf_32 (by decide) (fun c_4 => ?_) (fun c_4 => ?_)
        · replace hp := hp.1 c_4
          refine lv_iload_n hx hb dX12_letterOf_40 rfl (lv_at hl 0 rfl) ?_
          refine lv_iconst (v := 5) hx hb dX12_letterOf_41 (by decide) ?_
          refine lv_icmp_ne (tgt := 50) hx hb dX12_letterOf_42 (by decide) (fun c_5 => ?_) (fun c_5 => ?_)
          · replace hp := hp.1 c_5
            refine lv_bipush (v := 80) hx hb dX12_letterOf_50 (by decide) ?_
            exact t_X12_letterOf_52 F hr hlocks hK hp hW hE (lv_sub hl [] rfl)
          · replace hp := hp.2 c_5
            refine lv_bipush (v := 78) hx hb dX12_letterOf_45 (by decide) ?_
            refine lv_goto (tgt := 52) hx hb dX12_letterOf_47 (by decide) ?_
            exact t_X12_letterOf_52 F hr hlocks hK hp hW hE (lv_sub hl [] rfl)
        · replace hp := hp.2 c_4
          refine lv_bipush (v := 66) hx hb dX12_letterOf_35 (by decide) ?_
          refine lv_goto (tgt := 52) hx hb dX12_letterOf_37 (by decide) ?_
          exact t_X12_letterOf_52 F hr hlocks hK hp hW hE (lv_sub hl [] rfl)
      · replace hp := hp.2 c_3
        refine lv_bipush (v := 82) hx hb dX12_letterOf_25 (by decide) ?_
        refine lv_goto (tgt := 52) hx hb dX12_letterOf_27 (by decide) ?_
        exact t_X12_letterOf_52 F hr hlocks hK hp hW hE (lv_sub hl [] rfl)
    · replace hp := hp.2 c_2
      refine lv_bipush (v := 81) hx hb dX12_letterOf_15 (by decide) ?_
      refine lv_goto (tgt := 52) hx hb dX12_letterOf_17 (by decide) ?_
      exact t_X12_letterOf_52 F hr hlocks hK hp hW hE (lv_sub hl [] rfl)
  · replace hp := hp.2 c_1
    refine lv_bipush (v := 75) hx hb dX12_letterOf_5 (by decide) ?_
    refine lv_goto (tgt := 52) hx hb dX12_letterOf_7 (by decide) ?_
    exact t_X12_letterOf_52 F hr hlocks hK hp hW hE (lv_sub hl [] rfl)
set_option maxHeartbeats 4000000 in
set_option maxRecDepth 100000 in
theorem c_X12_letterOf (l : Launch) {D : wD} {cy : Nat → ClassId} {X : va_W} {S0 : wS} {post : Int32 → wS → Prop} {x0 : Int32} (hp : wp_X12_letterOf D post S0 x0) : mI D cy X l yX12_letterOf wz_X12_letterOf r_X12_letterOf [.int x0] S0 (fun r S9 => wX D S0 S9 ∧ post r S9) := by
  intro sz
  refine Met.ofW (cc := cX12_letterOf) (maxL := 1) (ret := (some .int)) (by decide) rfl ?_
  intro p e s m args below meth c s₁ B hml hv
  obtain ⟨rfl, hsz, hP, hK, hD0, hRO⟩ := hv
  have hts := atoms_spec (ws := wz_X12_letterOf) B.pre
  have hown : s.vm.findClass RX12 = some m.cls := findClass_of_methodNamed B.named
  subst hsz
  have hD := hD0.self (sz := s.heap.size)
  have F : CallFix p m c cX12_letterOf 1 s _ wz_X12_letterOf RX12 := ⟨B.exec, B.bytes, hml, hown, hts⟩
  have hr := B.returns
  have hlocks := B.notSynchronized
  generalize hAe : va_A (wL cy X S0) s.heap.size = A at hD hK ⊢
  have hA : ∀ q, s.heap.size ≤ q → A q := fun q h => by rw [← hAe]; exact Or.inr h
  have hW : wO D cy X A s.heap S0 s.heap [] := ⟨hP, hD, va_S.rf, hA, hRO⟩
  have hl := lv_entry ([.int x0]) (n := 1) (Nat.le_of_ble_eq_true rfl)
  rw [lg_entry_eq]
  generalize (lg_sl ([.int x0]) ++ List.replicate (1 - (lg_sl ([.int x0])).length) Slot.unset).toArray = ls at hl ⊢
  have hl : lv_has ls 1 [(0, .int x0)] := hl
  unfold wp_X12_letterOf at hp
  exact t_X12_letterOf_0 F hr hlocks hK hp hW wX.rf (lv_sub hl [0] rfl)
