theorem dX6_isSame_0 : decode cX6_isSame 0 = .ok (.aload_n 0, 1) := by decide +kernel
theorem dX6_isSame_1 : decode cX6_isSame 1 = .ok (.invokevirtual 125, 3) := by decide +kernel
theorem dX6_isSame_4 : decode cX6_isSame 4 = .ok (.aload_n 1, 1) := by decide +kernel
theorem dX6_isSame_5 : decode cX6_isSame 5 = .ok (.invokevirtual 125, 3) := by decide +kernel
theorem dX6_isSame_8 : decode cX6_isSame 8 = .ok (.if_icmp .eq 5, 3) := by decide +kernel
theorem dX6_isSame_11 : decode cX6_isSame 11 = .ok (.iconst 0, 1) := by decide +kernel
theorem dX6_isSame_12 : decode cX6_isSame 12 = .ok (.ireturn, 1) := by decide +kernel
theorem dX6_isSame_13 : decode cX6_isSame 13 = .ok (.iconst 0, 1) := by decide +kernel
theorem dX6_isSame_14 : decode cX6_isSame 14 = .ok (.istore_n 2, 1) := by decide +kernel
theorem dX6_isSame_15 : decode cX6_isSame 15 = .ok (.iload_n 2, 1) := by decide +kernel
theorem dX6_isSame_16 : decode cX6_isSame 16 = .ok (.aload_n 0, 1) := by decide +kernel
theorem dX6_isSame_17 : decode cX6_isSame 17 = .ok (.invokevirtual 125, 3) := by decide +kernel
theorem dX6_isSame_20 : decode cX6_isSame 20 = .ok (.if_icmp .ge 32, 3) := by decide +kernel
theorem dX6_isSame_23 : decode cX6_isSame 23 = .ok (.iload_n 2, 1) := by decide +kernel
theorem dX6_isSame_24 : decode cX6_isSame 24 = .ok (.aload_n 1, 1) := by decide +kernel
theorem dX6_isSame_25 : decode cX6_isSame 25 = .ok (.invokevirtual 125, 3) := by decide +kernel
theorem dX6_isSame_28 : decode cX6_isSame 28 = .ok (.if_icmp .ge 24, 3) := by decide +kernel
theorem dX6_isSame_31 : decode cX6_isSame 31 = .ok (.aload_n 0, 1) := by decide +kernel
theorem dX6_isSame_32 : decode cX6_isSame 32 = .ok (.iload_n 2, 1) := by decide +kernel
theorem dX6_isSame_33 : decode cX6_isSame 33 = .ok (.invokevirtual 126, 3) := by decide +kernel
theorem dX6_isSame_36 : decode cX6_isSame 36 = .ok (.aload_n 1, 1) := by decide +kernel
theorem dX6_isSame_37 : decode cX6_isSame 37 = .ok (.iload_n 2, 1) := by decide +kernel
theorem dX6_isSame_38 : decode cX6_isSame 38 = .ok (.invokevirtual 126, 3) := by decide +kernel
theorem dX6_isSame_41 : decode cX6_isSame 41 = .ok (.if_icmp .eq 5, 3) := by decide +kernel
theorem dX6_isSame_44 : decode cX6_isSame 44 = .ok (.iconst 0, 1) := by decide +kernel
theorem dX6_isSame_45 : decode cX6_isSame 45 = .ok (.ireturn, 1) := by decide +kernel
theorem dX6_isSame_46 : decode cX6_isSame 46 = .ok (.iinc 2 1, 3) := by decide +kernel
theorem dX6_isSame_49 : decode cX6_isSame 49 = .ok (.goto (-34), 3) := by decide +kernel
theorem dX6_isSame_52 : decode cX6_isSame 52 = .ok (.iconst 1, 1) := by decide +kernel
theorem dX6_isSame_53 : decode cX6_isSame 53 = .ok (.ireturn, 1) := by decide +kernel
theorem dX6_next_0 : decode cX6_next 0 = .ok (.iconst 0, 1) := by decide +kernel
theorem dX6_next_1 : decode cX6_next 1 = .ok (.istore_n 2, 1) := by decide +kernel
theorem dX6_next_2 : decode cX6_next 2 = .ok (.aload_n 0, 1) := by decide +kernel
theorem dX6_next_3 : decode cX6_next 3 = .ok (.getfield 18, 3) := by decide +kernel
theorem dX6_next_6 : decode cX6_next 6 = .ok (.ifCond .lt 23, 3) := by decide +kernel
theorem dX6_next_9 : decode cX6_next 9 = .ok (.aload_n 0, 1) := by decide +kernel
theorem dX6_next_10 : decode cX6_next 10 = .ok (.getfield 18, 3) := by decide +kernel
theorem dX6_next_13 : decode cX6_next 13 = .ok (.aload_n 1, 1) := by decide +kernel
theorem dX6_next_14 : decode cX6_next 14 = .ok (.invokevirtual 125, 3) := by decide +kernel
theorem dX6_next_17 : decode cX6_next 17 = .ok (.if_icmp .ge 12, 3) := by decide +kernel
theorem dX6_next_20 : decode cX6_next 20 = .ok (.aload_n 1, 1) := by decide +kernel
theorem dX6_next_21 : decode cX6_next 21 = .ok (.aload_n 0, 1) := by decide +kernel
theorem dX6_next_22 : decode cX6_next 22 = .ok (.getfield 18, 3) := by decide +kernel
theorem dX6_next_25 : decode cX6_next 25 = .ok (.invokevirtual 126, 3) := by decide +kernel
theorem dX6_next_28 : decode cX6_next 28 = .ok (.istore_n 2, 1) := by decide +kernel
theorem dX6_next_29 : decode cX6_next 29 = .ok (.aload_n 0, 1) := by decide +kernel
theorem dX6_next_30 : decode cX6_next 30 = .ok (.dup, 1) := by decide +kernel
theorem dX6_next_31 : decode cX6_next 31 = .ok (.getfield 18, 3) := by decide +kernel
theorem dX6_next_34 : decode cX6_next 34 = .ok (.iconst 1, 1) := by decide +kernel
theorem dX6_next_35 : decode cX6_next 35 = .ok (.iadd, 1) := by decide +kernel
theorem dX6_next_36 : decode cX6_next 36 = .ok (.putfield 18, 3) := by decide +kernel
theorem dX6_next_39 : decode cX6_next 39 = .ok (.iload_n 2, 1) := by decide +kernel
theorem dX6_next_40 : decode cX6_next 40 = .ok (.ireturn, 1) := by decide +kernel
theorem dX6_readPassing_0 : decode cX6_readPassing 0 = .ok (.aload_n 0, 1) := by decide +kernel
theorem dX6_readPassing_1 : decode cX6_readPassing 1 = .ok (.aload_n 1, 1) := by decide +kernel
theorem dX6_readPassing_2 : decode cX6_readPassing 2 = .ok (.invokevirtual 99, 3) := by decide +kernel
theorem dX6_readPassing_5 : decode cX6_readPassing 5 = .ok (.bipush 97, 2) := by decide +kernel
theorem dX6_readPassing_7 : decode cX6_readPassing 7 = .ok (.isub, 1) := by decide +kernel
theorem dX6_readPassing_8 : decode cX6_readPassing 8 = .ok (.istore_n 3, 1) := by decide +kernel
theorem dX6_readPassing_9 : decode cX6_readPassing 9 = .ok (.aload_n 0, 1) := by decide +kernel
theorem dX6_readPassing_10 : decode cX6_readPassing 10 = .ok (.aload_n 1, 1) := by decide +kernel
theorem dX6_readPassing_11 : decode cX6_readPassing 11 = .ok (.invokevirtual 99, 3) := by decide +kernel
theorem dX6_readPassing_14 : decode cX6_readPassing 14 = .ok (.bipush 49, 2) := by decide +kernel
theorem dX6_readPassing_16 : decode cX6_readPassing 16 = .ok (.isub, 1) := by decide +kernel
theorem dX6_readPassing_17 : decode cX6_readPassing 17 = .ok (.istore 4, 2) := by decide +kernel
theorem dX6_readPassing_19 : decode cX6_readPassing 19 = .ok (.iload_n 3, 1) := by decide +kernel
theorem dX6_readPassing_20 : decode cX6_readPassing 20 = .ok (.ifCond .lt 47, 3) := by decide +kernel
theorem dX6_readPassing_23 : decode cX6_readPassing 23 = .ok (.iload_n 3, 1) := by decide +kernel
theorem dX6_readPassing_24 : decode cX6_readPassing 24 = .ok (.aload_n 0, 1) := by decide +kernel
theorem dX6_readPassing_25 : decode cX6_readPassing 25 = .ok (.getfield 22, 3) := by decide +kernel
theorem dX6_readPassing_28 : decode cX6_readPassing 28 = .ok (.getfield 81, 3) := by decide +kernel
theorem dX6_readPassing_31 : decode cX6_readPassing 31 = .ok (.if_icmp .ge 36, 3) := by decide +kernel
theorem dX6_readPassing_34 : decode cX6_readPassing 34 = .ok (.iload 4, 2) := by decide +kernel
theorem dX6_readPassing_36 : decode cX6_readPassing 36 = .ok (.ifCond .lt 31, 3) := by decide +kernel
theorem dX6_readPassing_39 : decode cX6_readPassing 39 = .ok (.iload 4, 2) := by decide +kernel
theorem dX6_readPassing_41 : decode cX6_readPassing 41 = .ok (.aload_n 0, 1) := by decide +kernel
theorem dX6_readPassing_42 : decode cX6_readPassing 42 = .ok (.getfield 22, 3) := by decide +kernel
theorem dX6_readPassing_45 : decode cX6_readPassing 45 = .ok (.getfield 30, 3) := by decide +kernel
theorem dX6_readPassing_48 : decode cX6_readPassing 48 = .ok (.if_icmp .ge 19, 3) := by decide +kernel
theorem dX6_readPassing_51 : decode cX6_readPassing 51 = .ok (.aload_n 2, 1) := by decide +kernel
theorem dX6_readPassing_52 : decode cX6_readPassing 52 = .ok (.iload 4, 2) := by decide +kernel
theorem dX6_readPassing_54 : decode cX6_readPassing 54 = .ok (.aload_n 0, 1) := by decide +kernel
theorem dX6_readPassing_55 : decode cX6_readPassing 55 = .ok (.getfield 22, 3) := by decide +kernel
theorem dX6_readPassing_58 : decode cX6_readPassing 58 = .ok (.getfield 81, 3) := by decide +kernel
theorem dX6_readPassing_61 : decode cX6_readPassing 61 = .ok (.imul, 1) := by decide +kernel
theorem dX6_readPassing_62 : decode cX6_readPassing 62 = .ok (.iload_n 3, 1) := by decide +kernel
theorem dX6_readPassing_63 : decode cX6_readPassing 63 = .ok (.iadd, 1) := by decide +kernel
theorem dX6_readPassing_64 : decode cX6_readPassing 64 = .ok (.putfield 71, 3) := by decide +kernel
theorem dX6_readPassing_67 : decode cX6_readPassing 67 = .ok (.return_, 1) := by decide +kernel
theorem dX6_readRights_0 : decode cX6_readRights 0 = .ok (.aload_n 0, 1) := by decide +kernel
theorem dX6_readRights_1 : decode cX6_readRights 1 = .ok (.aload_n 1, 1) := by decide +kernel
theorem dX6_readRights_2 : decode cX6_readRights 2 = .ok (.invokevirtual 99, 3) := by decide +kernel
theorem dX6_readRights_5 : decode cX6_readRights 5 = .ok (.istore_n 3, 1) := by decide +kernel
theorem dX6_readRights_6 : decode cX6_readRights 6 = .ok (.iload_n 3, 1) := by decide +kernel
theorem dX6_readRights_7 : decode cX6_readRights 7 = .ok (.bipush 45, 2) := by decide +kernel
theorem dX6_readRights_9 : decode cX6_readRights 9 = .ok (.if_icmp .ne 4, 3) := by decide +kernel
theorem dX6_readRights_12 : decode cX6_readRights 12 = .ok (.return_, 1) := by decide +kernel
theorem dX6_readRights_13 : decode cX6_readRights 13 = .ok (.iconst 0, 1) := by decide +kernel
theorem dX6_readRights_14 : decode cX6_readRights 14 = .ok (.istore 4, 2) := by decide +kernel
theorem dX6_readRights_16 : decode cX6_readRights 16 = .ok (.iload 4, 2) := by decide +kernel
theorem dX6_readRights_18 : decode cX6_readRights 18 = .ok (.ldc 59, 2) := by decide +kernel
theorem dX6_readRights_20 : decode cX6_readRights 20 = .ok (.invokevirtual 61, 3) := by decide +kernel
theorem dX6_readRights_23 : decode cX6_readRights 23 = .ok (.if_icmp .ge 41, 3) := by decide +kernel
theorem dX6_readRights_26 : decode cX6_readRights 26 = .ok (.ldc 59, 2) := by decide +kernel
theorem dX6_readRights_28 : decode cX6_readRights 28 = .ok (.iload_n 3, 1) := by decide +kernel
theorem dX6_readRights_29 : decode cX6_readRights 29 = .ok (.invokevirtual 127, 3) := by decide +kernel
theorem dX6_readRights_32 : decode cX6_readRights 32 = .ok (.ifCond .lt 32, 3) := by decide +kernel
theorem dX6_readRights_35 : decode cX6_readRights 35 = .ok (.aload_n 2, 1) := by decide +kernel
theorem dX6_readRights_36 : decode cX6_readRights 36 = .ok (.dup, 1) := by decide +kernel
theorem dX6_readRights_37 : decode cX6_readRights 37 = .ok (.getfield 56, 3) := by decide +kernel
theorem dX6_readRights_40 : decode cX6_readRights 40 = .ok (.iconst 1, 1) := by decide +kernel
theorem dX6_readRights_41 : decode cX6_readRights 41 = .ok (.ldc 59, 2) := by decide +kernel
theorem dX6_readRights_43 : decode cX6_readRights 43 = .ok (.iload_n 3, 1) := by decide +kernel
theorem dX6_readRights_44 : decode cX6_readRights 44 = .ok (.invokevirtual 127, 3) := by decide +kernel
theorem dX6_readRights_47 : decode cX6_readRights 47 = .ok (.ishl, 1) := by decide +kernel
theorem dX6_readRights_48 : decode cX6_readRights 48 = .ok (.ior, 1) := by decide +kernel
theorem dX6_readRights_49 : decode cX6_readRights 49 = .ok (.putfield 56, 3) := by decide +kernel
theorem dX6_readRights_52 : decode cX6_readRights 52 = .ok (.aload_n 0, 1) := by decide +kernel
theorem dX6_readRights_53 : decode cX6_readRights 53 = .ok (.aload_n 1, 1) := by decide +kernel
theorem dX6_readRights_54 : decode cX6_readRights 54 = .ok (.invokevirtual 99, 3) := by decide +kernel
theorem dX6_readRights_57 : decode cX6_readRights 57 = .ok (.istore_n 3, 1) := by decide +kernel
theorem dX6_readRights_58 : decode cX6_readRights 58 = .ok (.iinc 4 1, 3) := by decide +kernel
theorem dX6_readRights_61 : decode cX6_readRights 61 = .ok (.goto (-45), 3) := by decide +kernel
theorem dX6_readRights_64 : decode cX6_readRights 64 = .ok (.aload_n 0, 1) := by decide +kernel
theorem dX6_readRights_65 : decode cX6_readRights 65 = .ok (.dup, 1) := by decide +kernel
theorem dX6_readRights_66 : decode cX6_readRights 66 = .ok (.getfield 18, 3) := by decide +kernel
theorem dX6_readRights_69 : decode cX6_readRights 69 = .ok (.iconst 1, 1) := by decide +kernel
theorem dX6_readRights_70 : decode cX6_readRights 70 = .ok (.isub, 1) := by decide +kernel
theorem dX6_readRights_71 : decode cX6_readRights 71 = .ok (.putfield 18, 3) := by decide +kernel
theorem dX6_readRights_74 : decode cX6_readRights 74 = .ok (.return_, 1) := by decide +kernel
theorem dX6_readSquares_0 : decode cX6_readSquares 0 = .ok (.aload_n 0, 1) := by decide +kernel
theorem dX6_readSquares_1 : decode cX6_readSquares 1 = .ok (.getfield 22, 3) := by decide +kernel
theorem dX6_readSquares_4 : decode cX6_readSquares 4 = .ok (.getfield 30, 3) := by decide +kernel
theorem dX6_readSquares_7 : decode cX6_readSquares 7 = .ok (.iconst 1, 1) := by decide +kernel
theorem dX6_readSquares_8 : decode cX6_readSquares 8 = .ok (.isub, 1) := by decide +kernel
theorem dX6_readSquares_9 : decode cX6_readSquares 9 = .ok (.istore_n 3, 1) := by decide +kernel
theorem dX6_readSquares_10 : decode cX6_readSquares 10 = .ok (.iload_n 3, 1) := by decide +kernel
theorem dX6_readSquares_11 : decode cX6_readSquares 11 = .ok (.ifCond .lt 102, 3) := by decide +kernel
theorem dX6_readSquares_14 : decode cX6_readSquares 14 = .ok (.iconst 0, 1) := by decide +kernel
theorem dX6_readSquares_15 : decode cX6_readSquares 15 = .ok (.istore 4, 2) := by decide +kernel
theorem dX6_readSquares_17 : decode cX6_readSquares 17 = .ok (.iload 4, 2) := by decide +kernel
theorem dX6_readSquares_19 : decode cX6_readSquares 19 = .ok (.aload_n 0, 1) := by decide +kernel
theorem dX6_readSquares_20 : decode cX6_readSquares 20 = .ok (.getfield 22, 3) := by decide +kernel
theorem dX6_readSquares_23 : decode cX6_readSquares 23 = .ok (.getfield 81, 3) := by decide +kernel
theorem dX6_readSquares_26 : decode cX6_readSquares 26 = .ok (.if_icmp .ge 75, 3) := by decide +kernel
theorem dX6_readSquares_29 : decode cX6_readSquares 29 = .ok (.aload_n 0, 1) := by decide +kernel
theorem dX6_readSquares_30 : decode cX6_readSquares 30 = .ok (.aload_n 1, 1) := by decide +kernel
theorem dX6_readSquares_31 : decode cX6_readSquares 31 = .ok (.invokevirtual 99, 3) := by decide +kernel
theorem dX6_readSquares_34 : decode cX6_readSquares 34 = .ok (.istore 5, 2) := by decide +kernel
theorem dX6_readSquares_36 : decode cX6_readSquares 36 = .ok (.ldc 90, 2) := by decide +kernel
theorem dX6_readSquares_38 : decode cX6_readSquares 38 = .ok (.iload 5, 2) := by decide +kernel
theorem dX6_readSquares_40 : decode cX6_readSquares 40 = .ok (.invokevirtual 127, 3) := by decide +kernel
theorem dX6_readSquares_43 : decode cX6_readSquares 43 = .ok (.istore 6, 2) := by decide +kernel
theorem dX6_readSquares_45 : decode cX6_readSquares 45 = .ok (.iload 6, 2) := by decide +kernel
theorem dX6_readSquares_47 : decode cX6_readSquares 47 = .ok (.ifCond .le 24, 3) := by decide +kernel
theorem dX6_readSquares_50 : decode cX6_readSquares 50 = .ok (.aload_n 2, 1) := by decide +kernel
theorem dX6_readSquares_51 : decode cX6_readSquares 51 = .ok (.iload_n 3, 1) := by decide +kernel
theorem dX6_readSquares_52 : decode cX6_readSquares 52 = .ok (.aload_n 0, 1) := by decide +kernel
theorem dX6_readSquares_53 : decode cX6_readSquares 53 = .ok (.getfield 22, 3) := by decide +kernel
theorem dX6_readSquares_56 : decode cX6_readSquares 56 = .ok (.getfield 81, 3) := by decide +kernel
theorem dX6_readSquares_59 : decode cX6_readSquares 59 = .ok (.imul, 1) := by decide +kernel
theorem dX6_readSquares_60 : decode cX6_readSquares 60 = .ok (.iload 4, 2) := by decide +kernel
theorem dX6_readSquares_62 : decode cX6_readSquares 62 = .ok (.iadd, 1) := by decide +kernel
theorem dX6_readSquares_63 : decode cX6_readSquares 63 = .ok (.iload 6, 2) := by decide +kernel
theorem dX6_readSquares_65 : decode cX6_readSquares 65 = .ok (.invokevirtual 130, 3) := by decide +kernel
theorem dX6_readSquares_68 : decode cX6_readSquares 68 = .ok (.goto 27, 3) := by decide +kernel
theorem dX6_readSquares_71 : decode cX6_readSquares 71 = .ok (.iload 5, 2) := by decide +kernel
theorem dX6_readSquares_73 : decode cX6_readSquares 73 = .ok (.bipush 49, 2) := by decide +kernel
theorem dX6_readSquares_75 : decode cX6_readSquares 75 = .ok (.if_icmp .le 20, 3) := by decide +kernel
theorem dX6_readSquares_78 : decode cX6_readSquares 78 = .ok (.iload 5, 2) := by decide +kernel
theorem dX6_readSquares_80 : decode cX6_readSquares 80 = .ok (.bipush 56, 2) := by decide +kernel
theorem dX6_readSquares_82 : decode cX6_readSquares 82 = .ok (.if_icmp .gt 13, 3) := by decide +kernel
theorem dX6_readSquares_85 : decode cX6_readSquares 85 = .ok (.iload 4, 2) := by decide +kernel
theorem dX6_readSquares_87 : decode cX6_readSquares 87 = .ok (.iload 5, 2) := by decide +kernel
theorem dX6_readSquares_89 : decode cX6_readSquares 89 = .ok (.bipush 49, 2) := by decide +kernel
theorem dX6_readSquares_91 : decode cX6_readSquares 91 = .ok (.isub, 1) := by decide +kernel
theorem dX6_readSquares_92 : decode cX6_readSquares 92 = .ok (.iadd, 1) := by decide +kernel
theorem dX6_readSquares_93 : decode cX6_readSquares 93 = .ok (.istore 4, 2) := by decide +kernel
theorem dX6_readSquares_95 : decode cX6_readSquares 95 = .ok (.iinc 4 1, 3) := by decide +kernel
theorem dX6_readSquares_98 : decode cX6_readSquares 98 = .ok (.goto (-81), 3) := by decide +kernel
theorem dX6_readSquares_101 : decode cX6_readSquares 101 = .ok (.aload_n 0, 1) := by decide +kernel
theorem dX6_readSquares_102 : decode cX6_readSquares 102 = .ok (.aload_n 1, 1) := by decide +kernel
theorem dX6_readSquares_103 : decode cX6_readSquares 103 = .ok (.invokevirtual 99, 3) := by decide +kernel
theorem dX6_readSquares_106 : decode cX6_readSquares 106 = .ok (.pop, 1) := by decide +kernel
theorem dX6_readSquares_107 : decode cX6_readSquares 107 = .ok (.iinc 3 (-1), 3) := by decide +kernel
theorem dX6_readSquares_110 : decode cX6_readSquares 110 = .ok (.goto (-100), 3) := by decide +kernel
theorem dX6_readSquares_113 : decode cX6_readSquares 113 = .ok (.return_, 1) := by decide +kernel
theorem dX6_writeRank_0 : decode cX6_writeRank 0 = .ok (.iconst 0, 1) := by decide +kernel
theorem dX6_writeRank_1 : decode cX6_writeRank 1 = .ok (.istore 4, 2) := by decide +kernel
theorem dX6_writeRank_3 : decode cX6_writeRank 3 = .ok (.iconst 0, 1) := by decide +kernel
theorem dX6_writeRank_4 : decode cX6_writeRank 4 = .ok (.istore 5, 2) := by decide +kernel
theorem dX6_writeRank_6 : decode cX6_writeRank 6 = .ok (.iload 5, 2) := by decide +kernel
theorem dX6_writeRank_8 : decode cX6_writeRank 8 = .ok (.aload_n 0, 1) := by decide +kernel
theorem dX6_writeRank_9 : decode cX6_writeRank 9 = .ok (.getfield 22, 3) := by decide +kernel
theorem dX6_writeRank_12 : decode cX6_writeRank 12 = .ok (.getfield 81, 3) := by decide +kernel
theorem dX6_writeRank_15 : decode cX6_writeRank 15 = .ok (.if_icmp .ge 75, 3) := by decide +kernel
theorem dX6_writeRank_18 : decode cX6_writeRank 18 = .ok (.aload_n 1, 1) := by decide +kernel
theorem dX6_writeRank_19 : decode cX6_writeRank 19 = .ok (.iload_n 2, 1) := by decide +kernel
theorem dX6_writeRank_20 : decode cX6_writeRank 20 = .ok (.aload_n 0, 1) := by decide +kernel
theorem dX6_writeRank_21 : decode cX6_writeRank 21 = .ok (.getfield 22, 3) := by decide +kernel
theorem dX6_writeRank_24 : decode cX6_writeRank 24 = .ok (.getfield 81, 3) := by decide +kernel
theorem dX6_writeRank_27 : decode cX6_writeRank 27 = .ok (.imul, 1) := by decide +kernel
theorem dX6_writeRank_28 : decode cX6_writeRank 28 = .ok (.iload 5, 2) := by decide +kernel
theorem dX6_writeRank_30 : decode cX6_writeRank 30 = .ok (.iadd, 1) := by decide +kernel
theorem dX6_writeRank_31 : decode cX6_writeRank 31 = .ok (.invokevirtual 84, 3) := by decide +kernel
theorem dX6_writeRank_34 : decode cX6_writeRank 34 = .ok (.istore 6, 2) := by decide +kernel
theorem dX6_writeRank_36 : decode cX6_writeRank 36 = .ok (.iload 6, 2) := by decide +kernel
theorem dX6_writeRank_38 : decode cX6_writeRank 38 = .ok (.ifCond .ne 9, 3) := by decide +kernel
theorem dX6_writeRank_41 : decode cX6_writeRank 41 = .ok (.iinc 4 1, 3) := by decide +kernel
theorem dX6_writeRank_44 : decode cX6_writeRank 44 = .ok (.goto 40, 3) := by decide +kernel
theorem dX6_writeRank_47 : decode cX6_writeRank 47 = .ok (.iload 4, 2) := by decide +kernel
theorem dX6_writeRank_49 : decode cX6_writeRank 49 = .ok (.ifCond .le 10, 3) := by decide +kernel
theorem dX6_writeRank_52 : decode cX6_writeRank 52 = .ok (.aload_n 3, 1) := by decide +kernel
theorem dX6_writeRank_53 : decode cX6_writeRank 53 = .ok (.iload 4, 2) := by decide +kernel
theorem dX6_writeRank_55 : decode cX6_writeRank 55 = .ok (.invokevirtual 87, 3) := by decide +kernel
theorem dX6_writeRank_58 : decode cX6_writeRank 58 = .ok (.pop, 1) := by decide +kernel
theorem dX6_writeRank_59 : decode cX6_writeRank 59 = .ok (.iconst 0, 1) := by decide +kernel
theorem dX6_writeRank_60 : decode cX6_writeRank 60 = .ok (.istore 4, 2) := by decide +kernel
theorem dX6_writeRank_62 : decode cX6_writeRank 62 = .ok (.iload 6, 2) := by decide +kernel
theorem dX6_writeRank_64 : decode cX6_writeRank 64 = .ok (.ldc 90, 2) := by decide +kernel
theorem dX6_writeRank_66 : decode cX6_writeRank 66 = .ok (.invokevirtual 61, 3) := by decide +kernel
theorem dX6_writeRank_69 : decode cX6_writeRank 69 = .ok (.if_icmp .ge 15, 3) := by decide +kernel
theorem dX6_writeRank_72 : decode cX6_writeRank 72 = .ok (.aload_n 3, 1) := by decide +kernel
theorem dX6_writeRank_73 : decode cX6_writeRank 73 = .ok (.ldc 90, 2) := by decide +kernel
theorem dX6_writeRank_75 : decode cX6_writeRank 75 = .ok (.iload 6, 2) := by decide +kernel
theorem dX6_writeRank_77 : decode cX6_writeRank 77 = .ok (.invokevirtual 67, 3) := by decide +kernel
theorem dX6_writeRank_80 : decode cX6_writeRank 80 = .ok (.invokevirtual 39, 3) := by decide +kernel
theorem dX6_writeRank_83 : decode cX6_writeRank 83 = .ok (.pop, 1) := by decide +kernel
theorem dX6_writeRank_84 : decode cX6_writeRank 84 = .ok (.iinc 5 1, 3) := by decide +kernel
theorem dX6_writeRank_87 : decode cX6_writeRank 87 = .ok (.goto (-81), 3) := by decide +kernel
theorem dX6_writeRank_90 : decode cX6_writeRank 90 = .ok (.iload 4, 2) := by decide +kernel
theorem dX6_writeRank_92 : decode cX6_writeRank 92 = .ok (.ifCond .le 10, 3) := by decide +kernel
theorem dX6_writeRank_95 : decode cX6_writeRank 95 = .ok (.aload_n 3, 1) := by decide +kernel
theorem dX6_writeRank_96 : decode cX6_writeRank 96 = .ok (.iload 4, 2) := by decide +kernel
theorem dX6_writeRank_98 : decode cX6_writeRank 98 = .ok (.invokevirtual 87, 3) := by decide +kernel
theorem dX6_writeRank_101 : decode cX6_writeRank 101 = .ok (.pop, 1) := by decide +kernel
theorem dX6_writeRank_102 : decode cX6_writeRank 102 = .ok (.return_, 1) := by decide +kernel
theorem dX6_write_0 : decode cX6_write 0 = .ok (.aload_n 2, 1) := by decide +kernel
theorem dX6_write_1 : decode cX6_write 1 = .ok (.iconst 0, 1) := by decide +kernel
theorem dX6_write_2 : decode cX6_write 2 = .ok (.invokevirtual 26, 3) := by decide +kernel
theorem dX6_write_5 : decode cX6_write 5 = .ok (.aload_n 0, 1) := by decide +kernel
theorem dX6_write_6 : decode cX6_write 6 = .ok (.getfield 22, 3) := by decide +kernel
theorem dX6_write_9 : decode cX6_write 9 = .ok (.getfield 30, 3) := by decide +kernel
theorem dX6_write_12 : decode cX6_write 12 = .ok (.iconst 1, 1) := by decide +kernel
theorem dX6_write_13 : decode cX6_write 13 = .ok (.isub, 1) := by decide +kernel
theorem dX6_write_14 : decode cX6_write 14 = .ok (.istore_n 3, 1) := by decide +kernel
theorem dX6_write_15 : decode cX6_write 15 = .ok (.iload_n 3, 1) := by decide +kernel
theorem dX6_write_16 : decode cX6_write 16 = .ok (.ifCond .lt 27, 3) := by decide +kernel
theorem dX6_write_19 : decode cX6_write 19 = .ok (.aload_n 0, 1) := by decide +kernel
theorem dX6_write_20 : decode cX6_write 20 = .ok (.aload_n 1, 1) := by decide +kernel
theorem dX6_write_21 : decode cX6_write 21 = .ok (.iload_n 3, 1) := by decide +kernel
theorem dX6_write_22 : decode cX6_write 22 = .ok (.aload_n 2, 1) := by decide +kernel
theorem dX6_write_23 : decode cX6_write 23 = .ok (.invokevirtual 35, 3) := by decide +kernel
theorem dX6_write_26 : decode cX6_write 26 = .ok (.iload_n 3, 1) := by decide +kernel
theorem dX6_write_27 : decode cX6_write 27 = .ok (.ifCond .le 10, 3) := by decide +kernel
theorem dX6_write_30 : decode cX6_write 30 = .ok (.aload_n 2, 1) := by decide +kernel
theorem dX6_write_31 : decode cX6_write 31 = .ok (.bipush 47, 2) := by decide +kernel
theorem dX6_write_33 : decode cX6_write 33 = .ok (.invokevirtual 39, 3) := by decide +kernel
theorem dX6_write_36 : decode cX6_write 36 = .ok (.pop, 1) := by decide +kernel
theorem dX6_write_37 : decode cX6_write 37 = .ok (.iinc 3 (-1), 3) := by decide +kernel
theorem dX6_write_40 : decode cX6_write 40 = .ok (.goto (-25), 3) := by decide +kernel
theorem dX6_write_43 : decode cX6_write 43 = .ok (.aload_n 2, 1) := by decide +kernel
theorem dX6_write_44 : decode cX6_write 44 = .ok (.aload_n 1, 1) := by decide +kernel
theorem dX6_write_45 : decode cX6_write 45 = .ok (.getfield 43, 3) := by decide +kernel
theorem dX6_write_48 : decode cX6_write 48 = .ok (.ifCond .eq 8, 3) := by decide +kernel
theorem dX6_write_51 : decode cX6_write 51 = .ok (.ldc 49, 2) := by decide +kernel
theorem dX6_write_53 : decode cX6_write 53 = .ok (.goto 5, 3) := by decide +kernel
theorem dX6_write_56 : decode cX6_write 56 = .ok (.ldc 51, 2) := by decide +kernel
theorem dX6_write_58 : decode cX6_write 58 = .ok (.invokevirtual 53, 3) := by decide +kernel
theorem dX6_write_61 : decode cX6_write 61 = .ok (.pop, 1) := by decide +kernel
theorem dX6_write_62 : decode cX6_write 62 = .ok (.aload_n 1, 1) := by decide +kernel
theorem dX6_write_63 : decode cX6_write 63 = .ok (.getfield 56, 3) := by decide +kernel
theorem dX6_write_66 : decode cX6_write 66 = .ok (.ifCond .ne 10, 3) := by decide +kernel
theorem dX6_write_69 : decode cX6_write 69 = .ok (.aload_n 2, 1) := by decide +kernel
theorem dX6_write_70 : decode cX6_write 70 = .ok (.bipush 45, 2) := by decide +kernel
theorem dX6_write_72 : decode cX6_write 72 = .ok (.invokevirtual 39, 3) := by decide +kernel
theorem dX6_write_75 : decode cX6_write 75 = .ok (.pop, 1) := by decide +kernel
theorem dX6_write_76 : decode cX6_write 76 = .ok (.iconst 0, 1) := by decide +kernel
theorem dX6_write_77 : decode cX6_write 77 = .ok (.istore_n 3, 1) := by decide +kernel
theorem dX6_write_78 : decode cX6_write 78 = .ok (.iload_n 3, 1) := by decide +kernel
theorem dX6_write_79 : decode cX6_write 79 = .ok (.ldc 59, 2) := by decide +kernel
theorem dX6_write_81 : decode cX6_write 81 = .ok (.invokevirtual 61, 3) := by decide +kernel
theorem dX6_write_84 : decode cX6_write 84 = .ok (.if_icmp .ge 31, 3) := by decide +kernel
theorem dX6_write_87 : decode cX6_write 87 = .ok (.aload_n 1, 1) := by decide +kernel
theorem dX6_write_88 : decode cX6_write 88 = .ok (.getfield 56, 3) := by decide +kernel
theorem dX6_write_91 : decode cX6_write 91 = .ok (.iload_n 3, 1) := by decide +kernel
theorem dX6_write_92 : decode cX6_write 92 = .ok (.iushr, 1) := by decide +kernel
theorem dX6_write_93 : decode cX6_write 93 = .ok (.iconst 1, 1) := by decide +kernel
theorem dX6_write_94 : decode cX6_write 94 = .ok (.iand, 1) := by decide +kernel
theorem dX6_write_95 : decode cX6_write 95 = .ok (.ifCond .eq 14, 3) := by decide +kernel
theorem dX6_write_98 : decode cX6_write 98 = .ok (.aload_n 2, 1) := by decide +kernel
theorem dX6_write_99 : decode cX6_write 99 = .ok (.ldc 59, 2) := by decide +kernel
theorem dX6_write_101 : decode cX6_write 101 = .ok (.iload_n 3, 1) := by decide +kernel
theorem dX6_write_102 : decode cX6_write 102 = .ok (.invokevirtual 67, 3) := by decide +kernel
theorem dX6_write_105 : decode cX6_write 105 = .ok (.invokevirtual 39, 3) := by decide +kernel
theorem dX6_write_108 : decode cX6_write 108 = .ok (.pop, 1) := by decide +kernel
theorem dX6_write_109 : decode cX6_write 109 = .ok (.iinc 3 1, 3) := by decide +kernel
theorem dX6_write_112 : decode cX6_write 112 = .ok (.goto (-34), 3) := by decide +kernel
theorem dX6_write_115 : decode cX6_write 115 = .ok (.aload_n 2, 1) := by decide +kernel
theorem dX6_write_116 : decode cX6_write 116 = .ok (.bipush 32, 2) := by decide +kernel
theorem dX6_write_118 : decode cX6_write 118 = .ok (.invokevirtual 39, 3) := by decide +kernel
theorem dX6_write_121 : decode cX6_write 121 = .ok (.pop, 1) := by decide +kernel
theorem dX6_write_122 : decode cX6_write 122 = .ok (.aload_n 1, 1) := by decide +kernel
theorem dX6_write_123 : decode cX6_write 123 = .ok (.getfield 71, 3) := by decide +kernel
theorem dX6_write_126 : decode cX6_write 126 = .ok (.iconst (-1), 1) := by decide +kernel
theorem dX6_write_127 : decode cX6_write 127 = .ok (.if_icmp .ne 13, 3) := by decide +kernel
theorem dX6_write_130 : decode cX6_write 130 = .ok (.aload_n 2, 1) := by decide +kernel
theorem dX6_write_131 : decode cX6_write 131 = .ok (.bipush 45, 2) := by decide +kernel
theorem dX6_write_133 : decode cX6_write 133 = .ok (.invokevirtual 39, 3) := by decide +kernel
theorem dX6_write_136 : decode cX6_write 136 = .ok (.pop, 1) := by decide +kernel
theorem dX6_write_137 : decode cX6_write 137 = .ok (.goto 43, 3) := by decide +kernel
theorem dX6_write_140 : decode cX6_write 140 = .ok (.aload_n 2, 1) := by decide +kernel
theorem dX6_write_141 : decode cX6_write 141 = .ok (.bipush 97, 2) := by decide +kernel
theorem dX6_write_143 : decode cX6_write 143 = .ok (.aload_n 0, 1) := by decide +kernel
theorem dX6_write_144 : decode cX6_write 144 = .ok (.getfield 22, 3) := by decide +kernel
theorem dX6_write_147 : decode cX6_write 147 = .ok (.aload_n 1, 1) := by decide +kernel
theorem dX6_write_148 : decode cX6_write 148 = .ok (.getfield 71, 3) := by decide +kernel
theorem dX6_write_151 : decode cX6_write 151 = .ok (.invokevirtual 74, 3) := by decide +kernel
theorem dX6_write_154 : decode cX6_write 154 = .ok (.iadd, 1) := by decide +kernel
theorem dX6_write_155 : decode cX6_write 155 = .ok (.i2c, 1) := by decide +kernel
theorem dX6_write_156 : decode cX6_write 156 = .ok (.invokevirtual 39, 3) := by decide +kernel
theorem dX6_write_159 : decode cX6_write 159 = .ok (.pop, 1) := by decide +kernel
theorem dX6_write_160 : decode cX6_write 160 = .ok (.aload_n 2, 1) := by decide +kernel
theorem dX6_write_161 : decode cX6_write 161 = .ok (.bipush 49, 2) := by decide +kernel
theorem dX6_write_163 : decode cX6_write 163 = .ok (.aload_n 0, 1) := by decide +kernel
theorem dX6_write_164 : decode cX6_write 164 = .ok (.getfield 22, 3) := by decide +kernel
theorem dX6_write_167 : decode cX6_write 167 = .ok (.aload_n 1, 1) := by decide +kernel
theorem dX6_write_168 : decode cX6_write 168 = .ok (.getfield 71, 3) := by decide +kernel
theorem dX6_write_171 : decode cX6_write 171 = .ok (.invokevirtual 78, 3) := by decide +kernel
theorem dX6_write_174 : decode cX6_write 174 = .ok (.iadd, 1) := by decide +kernel
theorem dX6_write_175 : decode cX6_write 175 = .ok (.i2c, 1) := by decide +kernel
theorem dX6_write_176 : decode cX6_write 176 = .ok (.invokevirtual 39, 3) := by decide +kernel
theorem dX6_write_179 : decode cX6_write 179 = .ok (.pop, 1) := by decide +kernel
theorem dX6_write_180 : decode cX6_write 180 = .ok (.return_, 1) := by decide +kernel
theorem dX6_reads_0 : decode cX6_reads 0 = .ok (.aload_n 2, 1) := by decide +kernel
theorem dX6_reads_1 : decode cX6_reads 1 = .ok (.invokevirtual 92, 3) := by decide +kernel
theorem dX6_reads_4 : decode cX6_reads 4 = .ok (.aload_n 0, 1) := by decide +kernel
theorem dX6_reads_5 : decode cX6_reads 5 = .ok (.iconst 0, 1) := by decide +kernel
theorem dX6_reads_6 : decode cX6_reads 6 = .ok (.putfield 18, 3) := by decide +kernel
theorem dX6_reads_9 : decode cX6_reads 9 = .ok (.aload_n 0, 1) := by decide +kernel
theorem dX6_reads_10 : decode cX6_reads 10 = .ok (.aload_n 1, 1) := by decide +kernel
theorem dX6_reads_11 : decode cX6_reads 11 = .ok (.aload_n 2, 1) := by decide +kernel
theorem dX6_reads_12 : decode cX6_reads 12 = .ok (.invokevirtual 95, 3) := by decide +kernel
theorem dX6_reads_15 : decode cX6_reads 15 = .ok (.aload_n 2, 1) := by decide +kernel
theorem dX6_reads_16 : decode cX6_reads 16 = .ok (.aload_n 0, 1) := by decide +kernel
theorem dX6_reads_17 : decode cX6_reads 17 = .ok (.aload_n 1, 1) := by decide +kernel
theorem dX6_reads_18 : decode cX6_reads 18 = .ok (.invokevirtual 99, 3) := by decide +kernel
theorem dX6_reads_21 : decode cX6_reads 21 = .ok (.bipush 119, 2) := by decide +kernel
theorem dX6_reads_23 : decode cX6_reads 23 = .ok (.if_icmp .ne 7, 3) := by decide +kernel
theorem dX6_reads_26 : decode cX6_reads 26 = .ok (.iconst 1, 1) := by decide +kernel
theorem dX6_reads_27 : decode cX6_reads 27 = .ok (.goto 4, 3) := by decide +kernel
theorem dX6_reads_30 : decode cX6_reads 30 = .ok (.iconst 0, 1) := by decide +kernel
theorem dX6_reads_31 : decode cX6_reads 31 = .ok (.putfield 43, 3) := by decide +kernel
theorem dX6_reads_34 : decode cX6_reads 34 = .ok (.aload_n 0, 1) := by decide +kernel
theorem dX6_reads_35 : decode cX6_reads 35 = .ok (.aload_n 1, 1) := by decide +kernel
theorem dX6_reads_36 : decode cX6_reads 36 = .ok (.invokevirtual 99, 3) := by decide +kernel
theorem dX6_reads_39 : decode cX6_reads 39 = .ok (.pop, 1) := by decide +kernel
theorem dX6_reads_40 : decode cX6_reads 40 = .ok (.aload_n 0, 1) := by decide +kernel
theorem dX6_reads_41 : decode cX6_reads 41 = .ok (.aload_n 1, 1) := by decide +kernel
theorem dX6_reads_42 : decode cX6_reads 42 = .ok (.aload_n 2, 1) := by decide +kernel
theorem dX6_reads_43 : decode cX6_reads 43 = .ok (.invokevirtual 103, 3) := by decide +kernel
theorem dX6_reads_46 : decode cX6_reads 46 = .ok (.aload_n 0, 1) := by decide +kernel
theorem dX6_reads_47 : decode cX6_reads 47 = .ok (.aload_n 1, 1) := by decide +kernel
theorem dX6_reads_48 : decode cX6_reads 48 = .ok (.invokevirtual 99, 3) := by decide +kernel
theorem dX6_reads_51 : decode cX6_reads 51 = .ok (.pop, 1) := by decide +kernel
theorem dX6_reads_52 : decode cX6_reads 52 = .ok (.aload_n 0, 1) := by decide +kernel
theorem dX6_reads_53 : decode cX6_reads 53 = .ok (.aload_n 1, 1) := by decide +kernel
theorem dX6_reads_54 : decode cX6_reads 54 = .ok (.aload_n 2, 1) := by decide +kernel
theorem dX6_reads_55 : decode cX6_reads 55 = .ok (.invokevirtual 106, 3) := by decide +kernel
theorem dX6_reads_58 : decode cX6_reads 58 = .ok (.aload_n 0, 1) := by decide +kernel
theorem dX6_reads_59 : decode cX6_reads 59 = .ok (.aload_n 2, 1) := by decide +kernel
theorem dX6_reads_60 : decode cX6_reads 60 = .ok (.aload_n 0, 1) := by decide +kernel
theorem dX6_reads_61 : decode cX6_reads 61 = .ok (.getfield 12, 3) := by decide +kernel
theorem dX6_reads_64 : decode cX6_reads 64 = .ok (.invokevirtual 109, 3) := by decide +kernel
theorem dX6_reads_67 : decode cX6_reads 67 = .ok (.aload_n 1, 1) := by decide +kernel
theorem dX6_reads_68 : decode cX6_reads 68 = .ok (.aload_n 0, 1) := by decide +kernel
theorem dX6_reads_69 : decode cX6_reads 69 = .ok (.getfield 12, 3) := by decide +kernel
theorem dX6_reads_72 : decode cX6_reads 72 = .ok (.invokestatic 113, 3) := by decide +kernel
theorem dX6_reads_75 : decode cX6_reads 75 = .ok (.ifCond .eq 22, 3) := by decide +kernel
theorem dX6_reads_78 : decode cX6_reads 78 = .ok (.aload_n 2, 1) := by decide +kernel
theorem dX6_reads_79 : decode cX6_reads 79 = .ok (.invokevirtual 117, 3) := by decide +kernel
theorem dX6_reads_82 : decode cX6_reads 82 = .ok (.ifCond .eq 15, 3) := by decide +kernel
theorem dX6_reads_85 : decode cX6_reads 85 = .ok (.aload_n 0, 1) := by decide +kernel
theorem dX6_reads_86 : decode cX6_reads 86 = .ok (.aload_n 2, 1) := by decide +kernel
theorem dX6_reads_87 : decode cX6_reads 87 = .ok (.invokevirtual 121, 3) := by decide +kernel
theorem dX6_reads_90 : decode cX6_reads 90 = .ok (.ifCond .eq 7, 3) := by decide +kernel
theorem dX6_reads_93 : decode cX6_reads 93 = .ok (.iconst 1, 1) := by decide +kernel
theorem dX6_reads_94 : decode cX6_reads 94 = .ok (.goto 4, 3) := by decide +kernel
theorem dX6_reads_97 : decode cX6_reads 97 = .ok (.iconst 0, 1) := by decide +kernel
theorem dX6_reads_98 : decode cX6_reads 98 = .ok (.ireturn, 1) := by decide +kernel
theorem dX11_readPaper_0 : decode cX11_readPaper 0 = .ok (.aload_n 0, 1) := by decide +kernel
theorem dX11_readPaper_1 : decode cX11_readPaper 1 = .ok (.getfield 65, 3) := by decide +kernel
theorem dX11_readPaper_4 : decode cX11_readPaper 4 = .ok (.aload_n 0, 1) := by decide +kernel
theorem dX11_readPaper_5 : decode cX11_readPaper 5 = .ok (.getfield 105, 3) := by decide +kernel
theorem dX11_readPaper_8 : decode cX11_readPaper 8 = .ok (.aload_n 0, 1) := by decide +kernel
theorem dX11_readPaper_9 : decode cX11_readPaper 9 = .ok (.getfield 32, 3) := by decide +kernel
theorem dX11_readPaper_12 : decode cX11_readPaper 12 = .ok (.invokevirtual 187, 3) := by decide +kernel
theorem dX11_readPaper_15 : decode cX11_readPaper 15 = .ok (.istore_n 1, 1) := by decide +kernel
theorem dX11_readPaper_16 : decode cX11_readPaper 16 = .ok (.aload_n 0, 1) := by decide +kernel
theorem dX11_readPaper_17 : decode cX11_readPaper 17 = .ok (.getfield 105, 3) := by decide +kernel
theorem dX11_readPaper_20 : decode cX11_readPaper 20 = .ok (.iconst 0, 1) := by decide +kernel
theorem dX11_readPaper_21 : decode cX11_readPaper 21 = .ok (.invokevirtual 191, 3) := by decide +kernel
theorem dX11_readPaper_24 : decode cX11_readPaper 24 = .ok (.iload_n 1, 1) := by decide +kernel
theorem dX11_readPaper_25 : decode cX11_readPaper 25 = .ok (.ifCond .ne 13, 3) := by decide +kernel
theorem dX11_readPaper_28 : decode cX11_readPaper 28 = .ok (.new 140, 3) := by decide +kernel
theorem dX11_readPaper_31 : decode cX11_readPaper 31 = .ok (.dup, 1) := by decide +kernel
theorem dX11_readPaper_32 : decode cX11_readPaper 32 = .ok (.ldc 194, 2) := by decide +kernel
theorem dX11_readPaper_34 : decode cX11_readPaper 34 = .ok (.invokespecial 144, 3) := by decide +kernel
theorem dX11_readPaper_37 : decode cX11_readPaper 37 = .ok (.athrow, 1) := by decide +kernel
theorem dX11_readPaper_38 : decode cX11_readPaper 38 = .ok (.aload_n 0, 1) := by decide +kernel
theorem dX11_readPaper_39 : decode cX11_readPaper 39 = .ok (.invokevirtual 165, 3) := by decide +kernel
theorem dX11_readPaper_42 : decode cX11_readPaper 42 = .ok (.aload_n 0, 1) := by decide +kernel
theorem dX11_readPaper_43 : decode cX11_readPaper 43 = .ok (.getfield 28, 3) := by decide +kernel
theorem dX11_readPaper_46 : decode cX11_readPaper 46 = .ok (.aload_n 0, 1) := by decide +kernel
theorem dX11_readPaper_47 : decode cX11_readPaper 47 = .ok (.getfield 32, 3) := by decide +kernel
theorem dX11_readPaper_50 : decode cX11_readPaper 50 = .ok (.invokevirtual 196, 3) := by decide +kernel
theorem dX11_readPaper_53 : decode cX11_readPaper 53 = .ok (.aload_n 0, 1) := by decide +kernel
theorem dX11_readPaper_54 : decode cX11_readPaper 54 = .ok (.getfield 40, 3) := by decide +kernel
theorem dX11_readPaper_57 : decode cX11_readPaper 57 = .ok (.aload_n 0, 1) := by decide +kernel
theorem dX11_readPaper_58 : decode cX11_readPaper 58 = .ok (.getfield 28, 3) := by decide +kernel
theorem dX11_readPaper_61 : decode cX11_readPaper 61 = .ok (.invokevirtual 130, 3) := by decide +kernel
theorem dX11_readPaper_64 : decode cX11_readPaper 64 = .ok (.aload_n 0, 1) := by decide +kernel
theorem dX11_readPaper_65 : decode cX11_readPaper 65 = .ok (.getfield 28, 3) := by decide +kernel
theorem dX11_readPaper_68 : decode cX11_readPaper 68 = .ok (.invokevirtual 199, 3) := by decide +kernel
theorem dX11_readPaper_71 : decode cX11_readPaper 71 = .ok (.invokestatic 203, 3) := by decide +kernel
theorem dX11_readPaper_74 : decode cX11_readPaper 74 = .ok (.ireturn, 1) := by decide +kernel
theorem dX11_shareWon_0 : decode cX11_shareWon 0 = .ok (.aload_n 0, 1) := by decide +kernel
theorem dX11_shareWon_1 : decode cX11_shareWon 1 = .ok (.iload_n 1, 1) := by decide +kernel
theorem dX11_shareWon_2 : decode cX11_shareWon 2 = .ok (.invokevirtual 337, 3) := by decide +kernel
theorem dX11_shareWon_5 : decode cX11_shareWon 5 = .ok (.astore_n 2, 1) := by decide +kernel
theorem dX11_shareWon_6 : decode cX11_shareWon 6 = .ok (.aload_n 2, 1) := by decide +kernel
theorem dX11_shareWon_7 : decode cX11_shareWon 7 = .ok (.aload_n 0, 1) := by decide +kernel
theorem dX11_shareWon_8 : decode cX11_shareWon 8 = .ok (.getfield 28, 3) := by decide +kernel
theorem dX11_shareWon_11 : decode cX11_shareWon 11 = .ok (.iconst (-1), 1) := by decide +kernel
theorem dX11_shareWon_12 : decode cX11_shareWon 12 = .ok (.invokevirtual 362, 3) := by decide +kernel
theorem dX11_shareWon_15 : decode cX11_shareWon 15 = .ok (.i2f, 1) := by decide +kernel
theorem dX11_shareWon_16 : decode cX11_shareWon 16 = .ok (.fstore_n 3, 1) := by decide +kernel
theorem dX11_shareWon_17 : decode cX11_shareWon 17 = .ok (.fload_n 3, 1) := by decide +kernel
theorem dX11_shareWon_18 : decode cX11_shareWon 18 = .ok (.fconst 0, 1) := by decide +kernel
theorem dX11_shareWon_19 : decode cX11_shareWon 19 = .ok (.fcmp .l, 1) := by decide +kernel
theorem dX11_shareWon_20 : decode cX11_shareWon 20 = .ok (.ifCond .le 18, 3) := by decide +kernel
theorem dX11_shareWon_23 : decode cX11_shareWon 23 = .ok (.aload_n 2, 1) := by decide +kernel
theorem dX11_shareWon_24 : decode cX11_shareWon 24 = .ok (.aload_n 0, 1) := by decide +kernel
theorem dX11_shareWon_25 : decode cX11_shareWon 25 = .ok (.getfield 28, 3) := by decide +kernel
theorem dX11_shareWon_28 : decode cX11_shareWon 28 = .ok (.iconst 0, 1) := by decide +kernel
theorem dX11_shareWon_29 : decode cX11_shareWon 29 = .ok (.invokevirtual 362, 3) := by decide +kernel
theorem dX11_shareWon_32 : decode cX11_shareWon 32 = .ok (.i2f, 1) := by decide +kernel
theorem dX11_shareWon_33 : decode cX11_shareWon 33 = .ok (.fload_n 3, 1) := by decide +kernel
theorem dX11_shareWon_34 : decode cX11_shareWon 34 = .ok (.fdiv, 1) := by decide +kernel
theorem dX11_shareWon_35 : decode cX11_shareWon 35 = .ok (.goto 4, 3) := by decide +kernel
theorem dX11_shareWon_38 : decode cX11_shareWon 38 = .ok (.fconst 0, 1) := by decide +kernel
theorem dX11_shareWon_39 : decode cX11_shareWon 39 = .ok (.freturn, 1) := by decide +kernel
theorem dX2_workOut_0 : decode cX2_workOut 0 = .ok (.aload_n 0, 1) := by decide +kernel
theorem dX2_workOut_1 : decode cX2_workOut 1 = .ok (.iload_n 1, 1) := by decide +kernel
theorem dX2_workOut_2 : decode cX2_workOut 2 = .ok (.invokevirtual 45, 3) := by decide +kernel
theorem dX2_workOut_5 : decode cX2_workOut 5 = .ok (.ifCond .ne 25, 3) := by decide +kernel
theorem dX2_workOut_8 : decode cX2_workOut 8 = .ok (.iload_n 1, 1) := by decide +kernel
theorem dX2_workOut_9 : decode cX2_workOut 9 = .ok (.iconst 2, 1) := by decide +kernel
theorem dX2_workOut_10 : decode cX2_workOut 10 = .ok (.if_icmp .lt 20, 3) := by decide +kernel
theorem dX2_workOut_13 : decode cX2_workOut 13 = .ok (.iload_n 1, 1) := by decide +kernel
theorem dX2_workOut_14 : decode cX2_workOut 14 = .ok (.iconst 5, 1) := by decide +kernel
theorem dX2_workOut_15 : decode cX2_workOut 15 = .ok (.if_icmp .gt 15, 3) := by decide +kernel
theorem dX2_workOut_18 : decode cX2_workOut 18 = .ok (.aload_n 0, 1) := by decide +kernel
theorem dX2_workOut_19 : decode cX2_workOut 19 = .ok (.getfield 35, 3) := by decide +kernel
theorem dX2_workOut_22 : decode cX2_workOut 22 = .ok (.getfield 104, 3) := by decide +kernel
theorem dX2_workOut_25 : decode cX2_workOut 25 = .ok (.bipush 25, 2) := by decide +kernel
theorem dX2_workOut_27 : decode cX2_workOut 27 = .ok (.if_icmp .le 4, 3) := by decide +kernel
theorem dX2_workOut_30 : decode cX2_workOut 30 = .ok (.return_, 1) := by decide +kernel
theorem dX2_workOut_31 : decode cX2_workOut 31 = .ok (.aload_n 0, 1) := by decide +kernel
theorem dX2_workOut_32 : decode cX2_workOut 32 = .ok (.getfield 22, 3) := by decide +kernel
theorem dX2_workOut_35 : decode cX2_workOut 35 = .ok (.arraylength, 1) := by decide +kernel
theorem dX2_workOut_36 : decode cX2_workOut 36 = .ok (.ifCond .ne 29, 3) := by decide +kernel
theorem dX2_workOut_39 : decode cX2_workOut 39 = .ok (.aload_n 0, 1) := by decide +kernel
theorem dX2_workOut_40 : decode cX2_workOut 40 = .ok (.ldc 109, 2) := by decide +kernel
theorem dX2_workOut_42 : decode cX2_workOut 42 = .ok (.newarray .int, 2) := by decide +kernel
theorem dX2_workOut_44 : decode cX2_workOut 44 = .ok (.putfield 22, 3) := by decide +kernel
theorem dX2_workOut_47 : decode cX2_workOut 47 = .ok (.aload_n 0, 1) := by decide +kernel
theorem dX2_workOut_48 : decode cX2_workOut 48 = .ok (.sipush 31250, 3) := by decide +kernel
theorem dX2_workOut_51 : decode cX2_workOut 51 = .ok (.newarray .int, 2) := by decide +kernel
theorem dX2_workOut_53 : decode cX2_workOut 53 = .ok (.putfield 25, 3) := by decide +kernel
theorem dX2_workOut_56 : decode cX2_workOut 56 = .ok (.aload_n 0, 1) := by decide +kernel
theorem dX2_workOut_57 : decode cX2_workOut 57 = .ok (.sipush 15625, 3) := by decide +kernel
theorem dX2_workOut_60 : decode cX2_workOut 60 = .ok (.newarray .int, 2) := by decide +kernel
theorem dX2_workOut_62 : decode cX2_workOut 62 = .ok (.putfield 28, 3) := by decide +kernel
theorem dX2_workOut_65 : decode cX2_workOut 65 = .ok (.aload_n 0, 1) := by decide +kernel
theorem dX2_workOut_66 : decode cX2_workOut 66 = .ok (.iconst 0, 1) := by decide +kernel
theorem dX2_workOut_67 : decode cX2_workOut 67 = .ok (.putfield 31, 3) := by decide +kernel
theorem dX2_workOut_70 : decode cX2_workOut 70 = .ok (.aload_n 0, 1) := by decide +kernel
theorem dX2_workOut_71 : decode cX2_workOut 71 = .ok (.iload_n 1, 1) := by decide +kernel
theorem dX2_workOut_72 : decode cX2_workOut 72 = .ok (.iconst 1, 1) := by decide +kernel
theorem dX2_workOut_73 : decode cX2_workOut 73 = .ok (.invokevirtual 110, 3) := by decide +kernel
theorem dX2_workOut_76 : decode cX2_workOut 76 = .ok (.aload_n 0, 1) := by decide +kernel
theorem dX2_workOut_77 : decode cX2_workOut 77 = .ok (.iload_n 1, 1) := by decide +kernel
theorem dX2_workOut_78 : decode cX2_workOut 78 = .ok (.iconst 0, 1) := by decide +kernel
theorem dX2_workOut_79 : decode cX2_workOut 79 = .ok (.invokevirtual 110, 3) := by decide +kernel
theorem dX2_workOut_82 : decode cX2_workOut 82 = .ok (.iconst 0, 1) := by decide +kernel
theorem dX2_workOut_83 : decode cX2_workOut 83 = .ok (.istore_n 2, 1) := by decide +kernel
theorem dX2_workOut_84 : decode cX2_workOut 84 = .ok (.iload_n 2, 1) := by decide +kernel
theorem dX2_workOut_85 : decode cX2_workOut 85 = .ok (.aload_n 0, 1) := by decide +kernel
theorem dX2_workOut_86 : decode cX2_workOut 86 = .ok (.getfield 31, 3) := by decide +kernel
theorem dX2_workOut_89 : decode cX2_workOut 89 = .ok (.if_icmp .ge 29, 3) := by decide +kernel
theorem dX2_workOut_92 : decode cX2_workOut 92 = .ok (.iload_n 2, 1) := by decide +kernel
theorem dX2_workOut_93 : decode cX2_workOut 93 = .ok (.aload_n 0, 1) := by decide +kernel
theorem dX2_workOut_94 : decode cX2_workOut 94 = .ok (.getfield 25, 3) := by decide +kernel
theorem dX2_workOut_97 : decode cX2_workOut 97 = .ok (.arraylength, 1) := by decide +kernel
theorem dX2_workOut_98 : decode cX2_workOut 98 = .ok (.if_icmp .ge 20, 3) := by decide +kernel
theorem dX2_workOut_101 : decode cX2_workOut 101 = .ok (.aload_n 0, 1) := by decide +kernel
theorem dX2_workOut_102 : decode cX2_workOut 102 = .ok (.iload_n 1, 1) := by decide +kernel
theorem dX2_workOut_103 : decode cX2_workOut 103 = .ok (.aload_n 0, 1) := by decide +kernel
theorem dX2_workOut_104 : decode cX2_workOut 104 = .ok (.getfield 25, 3) := by decide +kernel
theorem dX2_workOut_107 : decode cX2_workOut 107 = .ok (.iload_n 2, 1) := by decide +kernel
theorem dX2_workOut_108 : decode cX2_workOut 108 = .ok (.iaload, 1) := by decide +kernel
theorem dX2_workOut_109 : decode cX2_workOut 109 = .ok (.invokevirtual 114, 3) := by decide +kernel
theorem dX2_workOut_112 : decode cX2_workOut 112 = .ok (.iinc 2 1, 3) := by decide +kernel
theorem dX2_workOut_115 : decode cX2_workOut 115 = .ok (.goto (-31), 3) := by decide +kernel
theorem dX2_workOut_118 : decode cX2_workOut 118 = .ok (.aload_n 0, 1) := by decide +kernel
theorem dX2_workOut_119 : decode cX2_workOut 119 = .ok (.getfield 11, 3) := by decide +kernel
theorem dX2_workOut_122 : decode cX2_workOut 122 = .ok (.iload_n 1, 1) := by decide +kernel
theorem dX2_workOut_123 : decode cX2_workOut 123 = .ok (.iconst 1, 1) := by decide +kernel
theorem dX2_workOut_124 : decode cX2_workOut 124 = .ok (.bastore, 1) := by decide +kernel
theorem dX2_workOut_125 : decode cX2_workOut 125 = .ok (.aload_n 0, 1) := by decide +kernel
theorem dX2_workOut_126 : decode cX2_workOut 126 = .ok (.getfield 15, 3) := by decide +kernel
theorem dX2_workOut_129 : decode cX2_workOut 129 = .ok (.iload_n 1, 1) := by decide +kernel
theorem dX2_workOut_130 : decode cX2_workOut 130 = .ok (.aload_n 0, 1) := by decide +kernel
theorem dX2_workOut_131 : decode cX2_workOut 131 = .ok (.getfield 31, 3) := by decide +kernel
theorem dX2_workOut_134 : decode cX2_workOut 134 = .ok (.iastore, 1) := by decide +kernel
theorem dX2_workOut_135 : decode cX2_workOut 135 = .ok (.aload_n 0, 1) := by decide +kernel
theorem dX2_workOut_136 : decode cX2_workOut 136 = .ok (.getfield 31, 3) := by decide +kernel
theorem dX2_workOut_139 : decode cX2_workOut 139 = .ok (.iconst 1, 1) := by decide +kernel
theorem dX2_workOut_140 : decode cX2_workOut 140 = .ok (.isub, 1) := by decide +kernel
theorem dX2_workOut_141 : decode cX2_workOut 141 = .ok (.istore_n 2, 1) := by decide +kernel
theorem dX2_workOut_142 : decode cX2_workOut 142 = .ok (.aload_n 0, 1) := by decide +kernel
theorem dX2_workOut_143 : decode cX2_workOut 143 = .ok (.getfield 19, 3) := by decide +kernel
theorem dX2_workOut_146 : decode cX2_workOut 146 = .ok (.iload_n 1, 1) := by decide +kernel
theorem dX2_workOut_147 : decode cX2_workOut 147 = .ok (.iload_n 2, 1) := by decide +kernel
theorem dX2_workOut_148 : decode cX2_workOut 148 = .ok (.ifCond .lt 26, 3) := by decide +kernel
theorem dX2_workOut_151 : decode cX2_workOut 151 = .ok (.iload_n 2, 1) := by decide +kernel
theorem dX2_workOut_152 : decode cX2_workOut 152 = .ok (.aload_n 0, 1) := by decide +kernel
theorem dX2_workOut_153 : decode cX2_workOut 153 = .ok (.getfield 25, 3) := by decide +kernel
theorem dX2_workOut_156 : decode cX2_workOut 156 = .ok (.arraylength, 1) := by decide +kernel
theorem dX2_workOut_157 : decode cX2_workOut 157 = .ok (.if_icmp .ge 17, 3) := by decide +kernel
theorem dX2_workOut_160 : decode cX2_workOut 160 = .ok (.aload_n 0, 1) := by decide +kernel
theorem dX2_workOut_161 : decode cX2_workOut 161 = .ok (.iload_n 1, 1) := by decide +kernel
theorem dX2_workOut_162 : decode cX2_workOut 162 = .ok (.aload_n 0, 1) := by decide +kernel
theorem dX2_workOut_163 : decode cX2_workOut 163 = .ok (.getfield 25, 3) := by decide +kernel
theorem dX2_workOut_166 : decode cX2_workOut 166 = .ok (.iload_n 2, 1) := by decide +kernel
theorem dX2_workOut_167 : decode cX2_workOut 167 = .ok (.iaload, 1) := by decide +kernel
theorem dX2_workOut_168 : decode cX2_workOut 168 = .ok (.invokevirtual 100, 3) := by decide +kernel
theorem dX2_workOut_171 : decode cX2_workOut 171 = .ok (.goto 4, 3) := by decide +kernel
theorem dX2_workOut_174 : decode cX2_workOut 174 = .ok (.iconst (-1), 1) := by decide +kernel
theorem dX2_workOut_175 : decode cX2_workOut 175 = .ok (.iastore, 1) := by decide +kernel
theorem dX2_workOut_176 : decode cX2_workOut 176 = .ok (.return_, 1) := by decide +kernel
theorem dX11_solve_0 : decode cX11_solve 0 = .ok (.iload_n 1, 1) := by decide +kernel
theorem dX11_solve_1 : decode cX11_solve 1 = .ok (.invokestatic 446, 3) := by decide +kernel
theorem dX11_solve_4 : decode cX11_solve 4 = .ok (.aload_n 0, 1) := by decide +kernel
theorem dX11_solve_5 : decode cX11_solve 5 = .ok (.getfield 12, 3) := by decide +kernel
theorem dX11_solve_8 : decode cX11_solve 8 = .ok (.getfield 154, 3) := by decide +kernel
theorem dX11_solve_11 : decode cX11_solve 11 = .ok (.bipush 25, 2) := by decide +kernel
theorem dX11_solve_13 : decode cX11_solve 13 = .ok (.if_icmp .le 14, 3) := by decide +kernel
theorem dX11_solve_16 : decode cX11_solve 16 = .ok (.new 285, 3) := by decide +kernel
theorem dX11_solve_19 : decode cX11_solve 19 = .ok (.dup, 1) := by decide +kernel
theorem dX11_solve_20 : decode cX11_solve 20 = .ok (.ldc_w 449, 3) := by decide +kernel
theorem dX11_solve_23 : decode cX11_solve 23 = .ok (.invokespecial 289, 3) := by decide +kernel
theorem dX11_solve_26 : decode cX11_solve 26 = .ok (.athrow, 1) := by decide +kernel
theorem dX11_solve_27 : decode cX11_solve 27 = .ok (.aload_n 0, 1) := by decide +kernel
theorem dX11_solve_28 : decode cX11_solve 28 = .ok (.getfield 98, 3) := by decide +kernel
theorem dX11_solve_31 : decode cX11_solve 31 = .ok (.iload_n 1, 1) := by decide +kernel
theorem dX11_solve_32 : decode cX11_solve 32 = .ok (.invokevirtual 451, 3) := by decide +kernel
theorem dX11_solve_35 : decode cX11_solve 35 = .ok (.aload_n 0, 1) := by decide +kernel
theorem dX11_solve_36 : decode cX11_solve 36 = .ok (.getfield 98, 3) := by decide +kernel
theorem dX11_solve_39 : decode cX11_solve 39 = .ok (.iload_n 1, 1) := by decide +kernel
theorem dX11_solve_40 : decode cX11_solve 40 = .ok (.invokevirtual 454, 3) := by decide +kernel
theorem dX11_solve_43 : decode cX11_solve 43 = .ok (.ireturn, 1) := by decide +kernel
theorem dX11_type_0 : decode cX11_type 0 = .ok (.iconst 0, 1) := by decide +kernel
theorem dX11_type_1 : decode cX11_type 1 = .ok (.istore_n 3, 1) := by decide +kernel
theorem dX11_type_2 : decode cX11_type 2 = .ok (.bipush 56, 2) := by decide +kernel
theorem dX11_type_4 : decode cX11_type 4 = .ok (.istore 4, 2) := by decide +kernel
theorem dX11_type_6 : decode cX11_type 6 = .ok (.iload 4, 2) := by decide +kernel
theorem dX11_type_8 : decode cX11_type 8 = .ok (.ifCond .lt 63, 3) := by decide +kernel
theorem dX11_type_11 : decode cX11_type 11 = .ok (.lload_n 1, 1) := by decide +kernel
theorem dX11_type_12 : decode cX11_type 12 = .ok (.iload 4, 2) := by decide +kernel
theorem dX11_type_14 : decode cX11_type 14 = .ok (.lushr, 1) := by decide +kernel
theorem dX11_type_15 : decode cX11_type 15 = .ok (.ldc2_w 279, 3) := by decide +kernel
theorem dX11_type_18 : decode cX11_type 18 = .ok (.land, 1) := by decide +kernel
theorem dX11_type_19 : decode cX11_type 19 = .ok (.l2i, 1) := by decide +kernel
theorem dX11_type_20 : decode cX11_type 20 = .ok (.istore 5, 2) := by decide +kernel
theorem dX11_type_22 : decode cX11_type 22 = .ok (.iload 5, 2) := by decide +kernel
theorem dX11_type_24 : decode cX11_type 24 = .ok (.ifCond .eq 28, 3) := by decide +kernel
theorem dX11_type_27 : decode cX11_type 27 = .ok (.iload 5, 2) := by decide +kernel
theorem dX11_type_29 : decode cX11_type 29 = .ok (.bipush 32, 2) := by decide +kernel
theorem dX11_type_31 : decode cX11_type 31 = .ok (.if_icmp .lt 10, 3) := by decide +kernel
theorem dX11_type_34 : decode cX11_type 34 = .ok (.iload 5, 2) := by decide +kernel
theorem dX11_type_36 : decode cX11_type 36 = .ok (.bipush 126, 2) := by decide +kernel
theorem dX11_type_38 : decode cX11_type 38 = .ok (.if_icmp .le 14, 3) := by decide +kernel
theorem dX11_type_41 : decode cX11_type 41 = .ok (.new 140, 3) := by decide +kernel
theorem dX11_type_44 : decode cX11_type 44 = .ok (.dup, 1) := by decide +kernel
theorem dX11_type_45 : decode cX11_type 45 = .ok (.ldc_w 315, 3) := by decide +kernel
theorem dX11_type_48 : decode cX11_type 48 = .ok (.invokespecial 144, 3) := by decide +kernel
theorem dX11_type_51 : decode cX11_type 51 = .ok (.athrow, 1) := by decide +kernel
theorem dX11_type_52 : decode cX11_type 52 = .ok (.iload_n 3, 1) := by decide +kernel
theorem dX11_type_53 : decode cX11_type 53 = .ok (.iload 5, 2) := by decide +kernel
theorem dX11_type_55 : decode cX11_type 55 = .ok (.ifCond .ne 7, 3) := by decide +kernel
theorem dX11_type_58 : decode cX11_type 58 = .ok (.iconst 0, 1) := by decide +kernel
theorem dX11_type_59 : decode cX11_type 59 = .ok (.goto 4, 3) := by decide +kernel
theorem dX11_type_62 : decode cX11_type 62 = .ok (.iconst 1, 1) := by decide +kernel
theorem dX11_type_63 : decode cX11_type 63 = .ok (.iadd, 1) := by decide +kernel
theorem dX11_type_64 : decode cX11_type 64 = .ok (.istore_n 3, 1) := by decide +kernel
theorem dX11_type_65 : decode cX11_type 65 = .ok (.iinc 4 (-8), 3) := by decide +kernel
theorem dX11_type_68 : decode cX11_type 68 = .ok (.goto (-62), 3) := by decide +kernel
theorem dX11_type_71 : decode cX11_type 71 = .ok (.aload_n 0, 1) := by decide +kernel
theorem dX11_type_72 : decode cX11_type 72 = .ok (.getfield 105, 3) := by decide +kernel
theorem dX11_type_75 : decode cX11_type 75 = .ok (.invokevirtual 232, 3) := by decide +kernel
theorem dX11_type_78 : decode cX11_type 78 = .ok (.iload_n 3, 1) := by decide +kernel
theorem dX11_type_79 : decode cX11_type 79 = .ok (.iadd, 1) := by decide +kernel
theorem dX11_type_80 : decode cX11_type 80 = .ok (.sipush 500, 3) := by decide +kernel
theorem dX11_type_83 : decode cX11_type 83 = .ok (.if_icmp .le 14, 3) := by decide +kernel
theorem dX11_type_86 : decode cX11_type 86 = .ok (.new 285, 3) := by decide +kernel
theorem dX11_type_89 : decode cX11_type 89 = .ok (.dup, 1) := by decide +kernel
theorem dX11_type_90 : decode cX11_type 90 = .ok (.ldc_w 317, 3) := by decide +kernel
theorem dX11_type_93 : decode cX11_type 93 = .ok (.invokespecial 289, 3) := by decide +kernel
theorem dX11_type_96 : decode cX11_type 96 = .ok (.athrow, 1) := by decide +kernel
theorem dX11_type_97 : decode cX11_type 97 = .ok (.bipush 56, 2) := by decide +kernel
theorem dX11_type_99 : decode cX11_type 99 = .ok (.istore 4, 2) := by decide +kernel
theorem dX11_type_101 : decode cX11_type 101 = .ok (.iload 4, 2) := by decide +kernel
theorem dX11_type_103 : decode cX11_type 103 = .ok (.ifCond .lt 36, 3) := by decide +kernel
theorem dX11_type_106 : decode cX11_type 106 = .ok (.lload_n 1, 1) := by decide +kernel
theorem dX11_type_107 : decode cX11_type 107 = .ok (.iload 4, 2) := by decide +kernel
theorem dX11_type_109 : decode cX11_type 109 = .ok (.lushr, 1) := by decide +kernel
theorem dX11_type_110 : decode cX11_type 110 = .ok (.ldc2_w 279, 3) := by decide +kernel
theorem dX11_type_113 : decode cX11_type 113 = .ok (.land, 1) := by decide +kernel
theorem dX11_type_114 : decode cX11_type 114 = .ok (.l2i, 1) := by decide +kernel
theorem dX11_type_115 : decode cX11_type 115 = .ok (.i2c, 1) := by decide +kernel
theorem dX11_type_116 : decode cX11_type 116 = .ok (.istore 5, 2) := by decide +kernel
theorem dX11_type_118 : decode cX11_type 118 = .ok (.iload 5, 2) := by decide +kernel
theorem dX11_type_120 : decode cX11_type 120 = .ok (.ifCond .eq 13, 3) := by decide +kernel
theorem dX11_type_123 : decode cX11_type 123 = .ok (.aload_n 0, 1) := by decide +kernel
theorem dX11_type_124 : decode cX11_type 124 = .ok (.getfield 105, 3) := by decide +kernel
theorem dX11_type_127 : decode cX11_type 127 = .ok (.iload 5, 2) := by decide +kernel
theorem dX11_type_129 : decode cX11_type 129 = .ok (.invokevirtual 281, 3) := by decide +kernel
theorem dX11_type_132 : decode cX11_type 132 = .ok (.pop, 1) := by decide +kernel
theorem dX11_type_133 : decode cX11_type 133 = .ok (.iinc 4 (-8), 3) := by decide +kernel
theorem dX11_type_136 : decode cX11_type 136 = .ok (.goto (-35), 3) := by decide +kernel
theorem dX11_type_139 : decode cX11_type 139 = .ok (.aload_n 0, 1) := by decide +kernel
theorem dX11_type_140 : decode cX11_type 140 = .ok (.getfield 105, 3) := by decide +kernel
theorem dX11_type_143 : decode cX11_type 143 = .ok (.invokevirtual 232, 3) := by decide +kernel
theorem dX11_type_146 : decode cX11_type 146 = .ok (.ireturn, 1) := by decide +kernel
theorem dX11_writeMove_0 : decode cX11_writeMove 0 = .ok (.aload_n 0, 1) := by decide +kernel
theorem dX11_writeMove_1 : decode cX11_writeMove 1 = .ok (.iload_n 1, 1) := by decide +kernel
theorem dX11_writeMove_2 : decode cX11_writeMove 2 = .ok (.invokevirtual 264, 3) := by decide +kernel
theorem dX11_writeMove_5 : decode cX11_writeMove 5 = .ok (.pop, 1) := by decide +kernel
theorem dX11_writeMove_6 : decode cX11_writeMove 6 = .ok (.aload_n 0, 1) := by decide +kernel
theorem dX11_writeMove_7 : decode cX11_writeMove 7 = .ok (.getfield 49, 3) := by decide +kernel
theorem dX11_writeMove_10 : decode cX11_writeMove 10 = .ok (.iload_n 1, 1) := by decide +kernel
theorem dX11_writeMove_11 : decode cX11_writeMove 11 = .ok (.invokevirtual 276, 3) := by decide +kernel
theorem dX11_writeMove_14 : decode cX11_writeMove 14 = .ok (.lstore_n 2, 1) := by decide +kernel
theorem dX11_writeMove_15 : decode cX11_writeMove 15 = .ok (.aload_n 0, 1) := by decide +kernel
theorem dX11_writeMove_16 : decode cX11_writeMove 16 = .ok (.getfield 109, 3) := by decide +kernel
theorem dX11_writeMove_19 : decode cX11_writeMove 19 = .ok (.iconst 0, 1) := by decide +kernel
theorem dX11_writeMove_20 : decode cX11_writeMove 20 = .ok (.invokevirtual 191, 3) := by decide +kernel
theorem dX11_writeMove_23 : decode cX11_writeMove 23 = .ok (.bipush 56, 2) := by decide +kernel
theorem dX11_writeMove_25 : decode cX11_writeMove 25 = .ok (.istore 4, 2) := by decide +kernel
theorem dX11_writeMove_27 : decode cX11_writeMove 27 = .ok (.iload 4, 2) := by decide +kernel
theorem dX11_writeMove_29 : decode cX11_writeMove 29 = .ok (.ifCond .lt 36, 3) := by decide +kernel
theorem dX11_writeMove_32 : decode cX11_writeMove 32 = .ok (.lload_n 2, 1) := by decide +kernel
theorem dX11_writeMove_33 : decode cX11_writeMove 33 = .ok (.iload 4, 2) := by decide +kernel
theorem dX11_writeMove_35 : decode cX11_writeMove 35 = .ok (.lushr, 1) := by decide +kernel
theorem dX11_writeMove_36 : decode cX11_writeMove 36 = .ok (.ldc2_w 279, 3) := by decide +kernel
theorem dX11_writeMove_39 : decode cX11_writeMove 39 = .ok (.land, 1) := by decide +kernel
theorem dX11_writeMove_40 : decode cX11_writeMove 40 = .ok (.l2i, 1) := by decide +kernel
theorem dX11_writeMove_41 : decode cX11_writeMove 41 = .ok (.i2c, 1) := by decide +kernel
theorem dX11_writeMove_42 : decode cX11_writeMove 42 = .ok (.istore 5, 2) := by decide +kernel
theorem dX11_writeMove_44 : decode cX11_writeMove 44 = .ok (.iload 5, 2) := by decide +kernel
theorem dX11_writeMove_46 : decode cX11_writeMove 46 = .ok (.ifCond .eq 13, 3) := by decide +kernel
theorem dX11_writeMove_49 : decode cX11_writeMove 49 = .ok (.aload_n 0, 1) := by decide +kernel
theorem dX11_writeMove_50 : decode cX11_writeMove 50 = .ok (.getfield 109, 3) := by decide +kernel
theorem dX11_writeMove_53 : decode cX11_writeMove 53 = .ok (.iload 5, 2) := by decide +kernel
theorem dX11_writeMove_55 : decode cX11_writeMove 55 = .ok (.invokevirtual 281, 3) := by decide +kernel
theorem dX11_writeMove_58 : decode cX11_writeMove 58 = .ok (.pop, 1) := by decide +kernel
theorem dX11_writeMove_59 : decode cX11_writeMove 59 = .ok (.iinc 4 (-8), 3) := by decide +kernel
theorem dX11_writeMove_62 : decode cX11_writeMove 62 = .ok (.goto (-35), 3) := by decide +kernel
theorem dX11_writeMove_65 : decode cX11_writeMove 65 = .ok (.aload_n 0, 1) := by decide +kernel
theorem dX11_writeMove_66 : decode cX11_writeMove 66 = .ok (.getfield 109, 3) := by decide +kernel
theorem dX11_writeMove_69 : decode cX11_writeMove 69 = .ok (.invokevirtual 232, 3) := by decide +kernel
theorem dX11_writeMove_72 : decode cX11_writeMove 72 = .ok (.ireturn, 1) := by decide +kernel
theorem dX11_writePaper_0 : decode cX11_writePaper 0 = .ok (.aload_n 0, 1) := by decide +kernel
theorem dX11_writePaper_1 : decode cX11_writePaper 1 = .ok (.getfield 65, 3) := by decide +kernel
theorem dX11_writePaper_4 : decode cX11_writePaper 4 = .ok (.aload_n 0, 1) := by decide +kernel
theorem dX11_writePaper_5 : decode cX11_writePaper 5 = .ok (.getfield 28, 3) := by decide +kernel
theorem dX11_writePaper_8 : decode cX11_writePaper 8 = .ok (.aload_n 0, 1) := by decide +kernel
theorem dX11_writePaper_9 : decode cX11_writePaper 9 = .ok (.getfield 109, 3) := by decide +kernel
theorem dX11_writePaper_12 : decode cX11_writePaper 12 = .ok (.invokevirtual 228, 3) := by decide +kernel
theorem dX11_writePaper_15 : decode cX11_writePaper 15 = .ok (.aload_n 0, 1) := by decide +kernel
theorem dX11_writePaper_16 : decode cX11_writePaper 16 = .ok (.getfield 109, 3) := by decide +kernel
theorem dX11_writePaper_19 : decode cX11_writePaper 19 = .ok (.invokevirtual 232, 3) := by decide +kernel
theorem dX11_writePaper_22 : decode cX11_writePaper 22 = .ok (.ireturn, 1) := by decide +kernel
theorem dX12_init_0 : decode cX12_init 0 = .ok (.aload_n 0, 1) := by decide +kernel
theorem dX12_init_1 : decode cX12_init 1 = .ok (.invokespecial 3, 3) := by decide +kernel
theorem dX12_init_4 : decode cX12_init 4 = .ok (.aload_n 0, 1) := by decide +kernel
theorem dX12_init_5 : decode cX12_init 5 = .ok (.bipush 8, 2) := by decide +kernel
theorem dX12_init_7 : decode cX12_init 7 = .ok (.putfield 9, 3) := by decide +kernel
theorem dX12_init_10 : decode cX12_init 10 = .ok (.aload_n 0, 1) := by decide +kernel
theorem dX12_init_11 : decode cX12_init 11 = .ok (.bipush 8, 2) := by decide +kernel
theorem dX12_init_13 : decode cX12_init 13 = .ok (.putfield 13, 3) := by decide +kernel
theorem dX12_init_16 : decode cX12_init 16 = .ok (.aload_n 0, 1) := by decide +kernel
theorem dX12_init_17 : decode cX12_init 17 = .ok (.sipush 536, 3) := by decide +kernel
theorem dX12_init_20 : decode cX12_init 20 = .ok (.newarray .int, 2) := by decide +kernel
theorem dX12_init_22 : decode cX12_init 22 = .ok (.putfield 16, 3) := by decide +kernel
theorem dX12_init_25 : decode cX12_init 25 = .ok (.aload_n 0, 1) := by decide +kernel
theorem dX12_init_26 : decode cX12_init 26 = .ok (.sipush 2560, 3) := by decide +kernel
theorem dX12_init_29 : decode cX12_init 29 = .ok (.newarray .int, 2) := by decide +kernel
theorem dX12_init_31 : decode cX12_init 31 = .ok (.putfield 20, 3) := by decide +kernel
theorem dX12_init_34 : decode cX12_init 34 = .ok (.aload_n 0, 1) := by decide +kernel
theorem dX12_init_35 : decode cX12_init 35 = .ok (.sipush 2560, 3) := by decide +kernel
theorem dX12_init_38 : decode cX12_init 38 = .ok (.newarray .int, 2) := by decide +kernel
theorem dX12_init_40 : decode cX12_init 40 = .ok (.putfield 23, 3) := by decide +kernel
theorem dX12_init_43 : decode cX12_init 43 = .ok (.aload_n 0, 1) := by decide +kernel
theorem dX12_init_44 : decode cX12_init 44 = .ok (.sipush 2560, 3) := by decide +kernel
theorem dX12_init_47 : decode cX12_init 47 = .ok (.newarray .int, 2) := by decide +kernel
theorem dX12_init_49 : decode cX12_init 49 = .ok (.putfield 26, 3) := by decide +kernel
theorem dX12_init_52 : decode cX12_init 52 = .ok (.aload_n 0, 1) := by decide +kernel
theorem dX12_init_53 : decode cX12_init 53 = .ok (.bipush 8, 2) := by decide +kernel
theorem dX12_init_55 : decode cX12_init 55 = .ok (.newarray .int, 2) := by decide +kernel
theorem dX12_init_57 : decode cX12_init 57 = .ok (.putfield 29, 3) := by decide +kernel
theorem dX12_init_60 : decode cX12_init 60 = .ok (.aload_n 0, 1) := by decide +kernel
theorem dX12_init_61 : decode cX12_init 61 = .ok (.sipush 5427, 3) := by decide +kernel
theorem dX12_init_64 : decode cX12_init 64 = .ok (.newarray .int, 2) := by decide +kernel
theorem dX12_init_66 : decode cX12_init 66 = .ok (.putfield 32, 3) := by decide +kernel
theorem dX12_init_69 : decode cX12_init 69 = .ok (.aload_n 0, 1) := by decide +kernel
theorem dX12_init_70 : decode cX12_init 70 = .ok (.bipush 80, 2) := by decide +kernel
theorem dX12_init_72 : decode cX12_init 72 = .ok (.newarray .int, 2) := by decide +kernel
theorem dX12_init_74 : decode cX12_init 74 = .ok (.putfield 35, 3) := by decide +kernel
theorem dX12_init_77 : decode cX12_init 77 = .ok (.aload_n 0, 1) := by decide +kernel
theorem dX12_init_78 : decode cX12_init 78 = .ok (.bipush 80, 2) := by decide +kernel
theorem dX12_init_80 : decode cX12_init 80 = .ok (.newarray .boolean, 2) := by decide +kernel
theorem dX12_init_82 : decode cX12_init 82 = .ok (.putfield 38, 3) := by decide +kernel
theorem dX12_init_85 : decode cX12_init 85 = .ok (.aload_n 0, 1) := by decide +kernel
theorem dX12_init_86 : decode cX12_init 86 = .ok (.sipush 500, 3) := by decide +kernel
theorem dX12_init_89 : decode cX12_init 89 = .ok (.newarray .int, 2) := by decide +kernel
theorem dX12_init_91 : decode cX12_init 91 = .ok (.putfield 42, 3) := by decide +kernel
theorem dX12_init_94 : decode cX12_init 94 = .ok (.aload_n 0, 1) := by decide +kernel
theorem dX12_init_95 : decode cX12_init 95 = .ok (.sipush 128, 3) := by decide +kernel
theorem dX12_init_98 : decode cX12_init 98 = .ok (.newarray .int, 2) := by decide +kernel
theorem dX12_init_100 : decode cX12_init 100 = .ok (.putfield 45, 3) := by decide +kernel
theorem dX12_init_103 : decode cX12_init 103 = .ok (.aload_n 0, 1) := by decide +kernel
theorem dX12_init_104 : decode cX12_init 104 = .ok (.sipush 3840, 3) := by decide +kernel
theorem dX12_init_107 : decode cX12_init 107 = .ok (.newarray .int, 2) := by decide +kernel
theorem dX12_init_109 : decode cX12_init 109 = .ok (.putfield 48, 3) := by decide +kernel
theorem dX12_init_112 : decode cX12_init 112 = .ok (.aload_n 0, 1) := by decide +kernel
theorem dX12_init_113 : decode cX12_init 113 = .ok (.sipush 320, 3) := by decide +kernel
theorem dX12_init_116 : decode cX12_init 116 = .ok (.newarray .int, 2) := by decide +kernel
theorem dX12_init_118 : decode cX12_init 118 = .ok (.putfield 51, 3) := by decide +kernel
theorem dX12_init_121 : decode cX12_init 121 = .ok (.aload_n 0, 1) := by decide +kernel
theorem dX12_init_122 : decode cX12_init 122 = .ok (.sipush 320, 3) := by decide +kernel
theorem dX12_init_125 : decode cX12_init 125 = .ok (.newarray .int, 2) := by decide +kernel
theorem dX12_init_127 : decode cX12_init 127 = .ok (.putfield 54, 3) := by decide +kernel
theorem dX12_init_130 : decode cX12_init 130 = .ok (.aload_n 0, 1) := by decide +kernel
theorem dX12_init_131 : decode cX12_init 131 = .ok (.sipush 670, 3) := by decide +kernel
theorem dX12_init_134 : decode cX12_init 134 = .ok (.newarray .int, 2) := by decide +kernel
theorem dX12_init_136 : decode cX12_init 136 = .ok (.putfield 57, 3) := by decide +kernel
theorem dX12_init_139 : decode cX12_init 139 = .ok (.aload_n 0, 1) := by decide +kernel
theorem dX12_init_140 : decode cX12_init 140 = .ok (.sipush 670, 3) := by decide +kernel
theorem dX12_init_143 : decode cX12_init 143 = .ok (.newarray .int, 2) := by decide +kernel
theorem dX12_init_145 : decode cX12_init 145 = .ok (.putfield 60, 3) := by decide +kernel
theorem dX12_init_148 : decode cX12_init 148 = .ok (.aload_n 0, 1) := by decide +kernel
theorem dX12_init_149 : decode cX12_init 149 = .ok (.bipush 10, 2) := by decide +kernel
theorem dX12_init_151 : decode cX12_init 151 = .ok (.newarray .int, 2) := by decide +kernel
theorem dX12_init_153 : decode cX12_init 153 = .ok (.putfield 63, 3) := by decide +kernel
theorem dX12_init_156 : decode cX12_init 156 = .ok (.aload_n 0, 1) := by decide +kernel
theorem dX12_init_157 : decode cX12_init 157 = .ok (.sipush 500, 3) := by decide +kernel
theorem dX12_init_160 : decode cX12_init 160 = .ok (.newarray .int, 2) := by decide +kernel
theorem dX12_init_162 : decode cX12_init 162 = .ok (.putfield 66, 3) := by decide +kernel
theorem dX12_init_165 : decode cX12_init 165 = .ok (.aload_n 0, 1) := by decide +kernel
theorem dX12_init_166 : decode cX12_init 166 = .ok (.iconst 2, 1) := by decide +kernel
theorem dX12_init_167 : decode cX12_init 167 = .ok (.newarray .int, 2) := by decide +kernel
theorem dX12_init_169 : decode cX12_init 169 = .ok (.putfield 69, 3) := by decide +kernel
theorem dX12_init_172 : decode cX12_init 172 = .ok (.aload_n 0, 1) := by decide +kernel
theorem dX12_init_173 : decode cX12_init 173 = .ok (.ldc 72, 2) := by decide +kernel
theorem dX12_init_175 : decode cX12_init 175 = .ok (.newarray .int, 2) := by decide +kernel
theorem dX12_init_177 : decode cX12_init 177 = .ok (.putfield 73, 3) := by decide +kernel
theorem dX12_init_180 : decode cX12_init 180 = .ok (.aload_n 0, 1) := by decide +kernel
theorem dX12_init_181 : decode cX12_init 181 = .ok (.sipush 6400, 3) := by decide +kernel
theorem dX12_init_184 : decode cX12_init 184 = .ok (.newarray .int, 2) := by decide +kernel
theorem dX12_init_186 : decode cX12_init 186 = .ok (.putfield 76, 3) := by decide +kernel
theorem dX12_init_189 : decode cX12_init 189 = .ok (.aload_n 0, 1) := by decide +kernel
theorem dX12_init_190 : decode cX12_init 190 = .ok (.bipush 80, 2) := by decide +kernel
theorem dX12_init_192 : decode cX12_init 192 = .ok (.newarray .int, 2) := by decide +kernel
theorem dX12_init_194 : decode cX12_init 194 = .ok (.putfield 79, 3) := by decide +kernel
theorem dX12_init_197 : decode cX12_init 197 = .ok (.aload_n 0, 1) := by decide +kernel
theorem dX12_init_198 : decode cX12_init 198 = .ok (.bipush 80, 2) := by decide +kernel
theorem dX12_init_200 : decode cX12_init 200 = .ok (.newarray .int, 2) := by decide +kernel
theorem dX12_init_202 : decode cX12_init 202 = .ok (.putfield 82, 3) := by decide +kernel
theorem dX12_init_205 : decode cX12_init 205 = .ok (.aload_n 0, 1) := by decide +kernel
theorem dX12_init_206 : decode cX12_init 206 = .ok (.bipush 80, 2) := by decide +kernel
theorem dX12_init_208 : decode cX12_init 208 = .ok (.newarray .int, 2) := by decide +kernel
theorem dX12_init_210 : decode cX12_init 210 = .ok (.putfield 85, 3) := by decide +kernel
theorem dX12_init_213 : decode cX12_init 213 = .ok (.aload_n 0, 1) := by decide +kernel
theorem dX12_init_214 : decode cX12_init 214 = .ok (.bipush 80, 2) := by decide +kernel
theorem dX12_init_216 : decode cX12_init 216 = .ok (.newarray .int, 2) := by decide +kernel
theorem dX12_init_218 : decode cX12_init 218 = .ok (.putfield 88, 3) := by decide +kernel
theorem dX12_init_221 : decode cX12_init 221 = .ok (.aload_n 0, 1) := by decide +kernel
theorem dX12_init_222 : decode cX12_init 222 = .ok (.bipush 80, 2) := by decide +kernel
theorem dX12_init_224 : decode cX12_init 224 = .ok (.newarray .int, 2) := by decide +kernel
theorem dX12_init_226 : decode cX12_init 226 = .ok (.putfield 91, 3) := by decide +kernel
theorem dX12_init_229 : decode cX12_init 229 = .ok (.aload_n 0, 1) := by decide +kernel
theorem dX12_init_230 : decode cX12_init 230 = .ok (.bipush 80, 2) := by decide +kernel
theorem dX12_init_232 : decode cX12_init 232 = .ok (.newarray .int, 2) := by decide +kernel
theorem dX12_init_234 : decode cX12_init 234 = .ok (.putfield 94, 3) := by decide +kernel
theorem dX12_init_237 : decode cX12_init 237 = .ok (.aload_n 0, 1) := by decide +kernel
theorem dX12_init_238 : decode cX12_init 238 = .ok (.bipush 64, 2) := by decide +kernel
theorem dX12_init_240 : decode cX12_init 240 = .ok (.newarray .int, 2) := by decide +kernel
theorem dX12_init_242 : decode cX12_init 242 = .ok (.putfield 97, 3) := by decide +kernel
theorem dX12_init_245 : decode cX12_init 245 = .ok (.aload_n 0, 1) := by decide +kernel
theorem dX12_init_246 : decode cX12_init 246 = .ok (.ldc 100, 2) := by decide +kernel
theorem dX12_init_248 : decode cX12_init 248 = .ok (.newarray .int, 2) := by decide +kernel
theorem dX12_init_250 : decode cX12_init 250 = .ok (.putfield 101, 3) := by decide +kernel
theorem dX12_init_253 : decode cX12_init 253 = .ok (.aload_n 0, 1) := by decide +kernel
theorem dX12_init_254 : decode cX12_init 254 = .ok (.bipush 6, 2) := by decide +kernel
theorem dX12_init_256 : decode cX12_init 256 = .ok (.newarray .boolean, 2) := by decide +kernel
theorem dX12_init_258 : decode cX12_init 258 = .ok (.putfield 104, 3) := by decide +kernel
theorem dX12_init_261 : decode cX12_init 261 = .ok (.aload_n 0, 1) := by decide +kernel
theorem dX12_init_262 : decode cX12_init 262 = .ok (.invokevirtual 107, 3) := by decide +kernel
theorem dX12_init_265 : decode cX12_init 265 = .ok (.iconst 0, 1) := by decide +kernel
theorem dX12_init_266 : decode cX12_init 266 = .ok (.istore_n 1, 1) := by decide +kernel
theorem dX12_init_267 : decode cX12_init 267 = .ok (.iload_n 1, 1) := by decide +kernel
theorem dX12_init_268 : decode cX12_init 268 = .ok (.bipush 8, 2) := by decide +kernel
theorem dX12_init_270 : decode cX12_init 270 = .ok (.if_icmp .ge 105, 3) := by decide +kernel
theorem dX12_init_273 : decode cX12_init 273 = .ok (.iload_n 1, 1) := by decide +kernel
theorem dX12_init_274 : decode cX12_init 274 = .ok (.ifCond .eq 9, 3) := by decide +kernel
theorem dX12_init_277 : decode cX12_init 277 = .ok (.iload_n 1, 1) := by decide +kernel
theorem dX12_init_278 : decode cX12_init 278 = .ok (.bipush 7, 2) := by decide +kernel
theorem dX12_init_280 : decode cX12_init 280 = .ok (.if_icmp .ne 7, 3) := by decide +kernel
theorem dX12_init_283 : decode cX12_init 283 = .ok (.iconst 3, 1) := by decide +kernel
theorem dX12_init_284 : decode cX12_init 284 = .ok (.goto 42, 3) := by decide +kernel
theorem dX12_init_287 : decode cX12_init 287 = .ok (.iload_n 1, 1) := by decide +kernel
theorem dX12_init_288 : decode cX12_init 288 = .ok (.iconst 1, 1) := by decide +kernel
theorem dX12_init_289 : decode cX12_init 289 = .ok (.if_icmp .eq 9, 3) := by decide +kernel
theorem dX12_init_292 : decode cX12_init 292 = .ok (.iload_n 1, 1) := by decide +kernel
theorem dX12_init_293 : decode cX12_init 293 = .ok (.bipush 6, 2) := by decide +kernel
theorem dX12_init_295 : decode cX12_init 295 = .ok (.if_icmp .ne 7, 3) := by decide +kernel
theorem dX12_init_298 : decode cX12_init 298 = .ok (.iconst 5, 1) := by decide +kernel
theorem dX12_init_299 : decode cX12_init 299 = .ok (.goto 27, 3) := by decide +kernel
theorem dX12_init_302 : decode cX12_init 302 = .ok (.iload_n 1, 1) := by decide +kernel
theorem dX12_init_303 : decode cX12_init 303 = .ok (.iconst 2, 1) := by decide +kernel
theorem dX12_init_304 : decode cX12_init 304 = .ok (.if_icmp .eq 8, 3) := by decide +kernel
theorem dX12_init_307 : decode cX12_init 307 = .ok (.iload_n 1, 1) := by decide +kernel
theorem dX12_init_308 : decode cX12_init 308 = .ok (.iconst 5, 1) := by decide +kernel
theorem dX12_init_309 : decode cX12_init 309 = .ok (.if_icmp .ne 7, 3) := by decide +kernel
theorem dX12_init_312 : decode cX12_init 312 = .ok (.iconst 4, 1) := by decide +kernel
theorem dX12_init_313 : decode cX12_init 313 = .ok (.goto 13, 3) := by decide +kernel
theorem dX12_init_316 : decode cX12_init 316 = .ok (.iload_n 1, 1) := by decide +kernel
theorem dX12_init_317 : decode cX12_init 317 = .ok (.iconst 3, 1) := by decide +kernel
theorem dX12_init_318 : decode cX12_init 318 = .ok (.if_icmp .ne 7, 3) := by decide +kernel
theorem dX12_init_321 : decode cX12_init 321 = .ok (.iconst 2, 1) := by decide +kernel
theorem dX12_init_322 : decode cX12_init 322 = .ok (.goto 4, 3) := by decide +kernel
theorem dX12_init_325 : decode cX12_init 325 = .ok (.iconst 1, 1) := by decide +kernel
theorem dX12_init_326 : decode cX12_init 326 = .ok (.istore_n 2, 1) := by decide +kernel
theorem dX12_init_327 : decode cX12_init 327 = .ok (.aload_n 0, 1) := by decide +kernel
theorem dX12_init_328 : decode cX12_init 328 = .ok (.getfield 32, 3) := by decide +kernel
theorem dX12_init_331 : decode cX12_init 331 = .ok (.iload_n 1, 1) := by decide +kernel
theorem dX12_init_332 : decode cX12_init 332 = .ok (.iload_n 2, 1) := by decide +kernel
theorem dX12_init_333 : decode cX12_init 333 = .ok (.iastore, 1) := by decide +kernel
theorem dX12_init_334 : decode cX12_init 334 = .ok (.aload_n 0, 1) := by decide +kernel
theorem dX12_init_335 : decode cX12_init 335 = .ok (.getfield 32, 3) := by decide +kernel
theorem dX12_init_338 : decode cX12_init 338 = .ok (.bipush 8, 2) := by decide +kernel
theorem dX12_init_340 : decode cX12_init 340 = .ok (.iload_n 1, 1) := by decide +kernel
theorem dX12_init_341 : decode cX12_init 341 = .ok (.iadd, 1) := by decide +kernel
theorem dX12_init_342 : decode cX12_init 342 = .ok (.bipush 6, 2) := by decide +kernel
theorem dX12_init_344 : decode cX12_init 344 = .ok (.iastore, 1) := by decide +kernel
theorem dX12_init_345 : decode cX12_init 345 = .ok (.aload_n 0, 1) := by decide +kernel
theorem dX12_init_346 : decode cX12_init 346 = .ok (.getfield 32, 3) := by decide +kernel
theorem dX12_init_349 : decode cX12_init 349 = .ok (.bipush 48, 2) := by decide +kernel
theorem dX12_init_351 : decode cX12_init 351 = .ok (.iload_n 1, 1) := by decide +kernel
theorem dX12_init_352 : decode cX12_init 352 = .ok (.iadd, 1) := by decide +kernel
theorem dX12_init_353 : decode cX12_init 353 = .ok (.bipush 12, 2) := by decide +kernel
theorem dX12_init_355 : decode cX12_init 355 = .ok (.iastore, 1) := by decide +kernel
theorem dX12_init_356 : decode cX12_init 356 = .ok (.aload_n 0, 1) := by decide +kernel
theorem dX12_init_357 : decode cX12_init 357 = .ok (.getfield 32, 3) := by decide +kernel
theorem dX12_init_360 : decode cX12_init 360 = .ok (.bipush 56, 2) := by decide +kernel
theorem dX12_init_362 : decode cX12_init 362 = .ok (.iload_n 1, 1) := by decide +kernel
theorem dX12_init_363 : decode cX12_init 363 = .ok (.iadd, 1) := by decide +kernel
theorem dX12_init_364 : decode cX12_init 364 = .ok (.iload_n 2, 1) := by decide +kernel
theorem dX12_init_365 : decode cX12_init 365 = .ok (.bipush 6, 2) := by decide +kernel
theorem dX12_init_367 : decode cX12_init 367 = .ok (.iadd, 1) := by decide +kernel
theorem dX12_init_368 : decode cX12_init 368 = .ok (.iastore, 1) := by decide +kernel
theorem dX12_init_369 : decode cX12_init 369 = .ok (.iinc 1 1, 3) := by decide +kernel
theorem dX12_init_372 : decode cX12_init 372 = .ok (.goto (-105), 3) := by decide +kernel
theorem dX12_init_375 : decode cX12_init 375 = .ok (.aload_n 0, 1) := by decide +kernel
theorem dX12_init_376 : decode cX12_init 376 = .ok (.getfield 32, 3) := by decide +kernel
theorem dX12_init_379 : decode cX12_init 379 = .ok (.bipush 65, 2) := by decide +kernel
theorem dX12_init_381 : decode cX12_init 381 = .ok (.bipush 15, 2) := by decide +kernel
theorem dX12_init_383 : decode cX12_init 383 = .ok (.iastore, 1) := by decide +kernel
theorem dX12_init_384 : decode cX12_init 384 = .ok (.return_, 1) := by decide +kernel
def wp_X6_isSame_52 (D : wD) (post : Int32 → wS → Prop)  (S : wS) : Prop :=
narrow .boolean (.int (1 : Int32)) = .int (1 : Int32) ∧ post (1 : Int32) S
def wp_X6_isSame_15 (D : wD) (post : Int32 → wS → Prop)  : Nat → wS → Nat → Nat → Int32 → Prop
  | 0, _, _, _, _ => False
  | n + 1, S, a0, a1, x2 =>
    wp_J4_length_8abf5 D (fun r_1 S_2 => 
    ((r_1 ≤ x2 → wp_X6_isSame_52 D post S_2) ∧
     (¬ r_1 ≤ x2 → wp_J4_length_8abf5 D (fun r_4 S_5 => 
    ((r_4 ≤ x2 → wp_X6_isSame_52 D post S_5) ∧
     (¬ r_4 ≤ x2 → wp_J4_charAt_5068e D (fun r_7 S_8 => 
    wp_J4_charAt_5068e D (fun r_9 S_10 => 
    ((r_7 = r_9 → ∀ x_12 : Int32, x_12 = x2 + 1 →
    wp_X6_isSame_15 D post n S_10 a0 a1 x_12) ∧
     (¬ r_7 = r_9 → narrow .boolean (.int (0 : Int32)) = .int (0 : Int32) ∧ post (0 : Int32) S_10))) S_8 a1 x2) S_5 a0 x2))) S_2 a1))) S a0
def wp_X6_isSame_0 (D : wD) (post : Int32 → wS → Prop)  (S : wS) (a0 : Nat) (a1 : Nat) : Prop :=
wp_J4_length_8abf5 D (fun r_1 S_2 => 
wp_J4_length_8abf5 D (fun r_3 S_4 => 
((r_1 = r_3 → ∃ n_6 : Nat, wp_X6_isSame_15 D post n_6 S_4 a0 a1 (0 : Int32)) ∧
 (¬ r_1 = r_3 → narrow .boolean (.int (0 : Int32)) = .int (0 : Int32) ∧ post (0 : Int32) S_4))) S_2 a1) S a0
abbrev r_X6_isSame : Room := { frames := 4, cells := 0, slots := 0, locals := 88 }
def wp_X6_isSame (D : wD) (post : Int32 → wS → Prop) (S : wS) (a0 : Nat) (a1 : Nat) : Prop := wp_X6_isSame_0 D post S a0 a1
set_option maxHeartbeats 4000000 in
set_option maxRecDepth 100000 in
theorem t_X6_isSame_52 {p : Program} {l : Launch} {e : Env} {s : State} {m : MethodId} {args : Array Value} {below : List Frame} {meth : Method} {c : Code} {D : wD} {cy : Nat → ClassId} {X : va_W} {A : Nat → Prop} {S0 : wS} {post : Int32 → wS → Prop} (F : CallFix p m c cX6_isSame 3 s args wz_X6_isSame RX6) (hr : meth.sig.returnType = (some .boolean)) (hlocks : meth.locks = false) (hK : wK D cy A s) : ∀ {S : wS} {H : Heap} {locs : List Loc} {ls : Array Slot}, wp_X6_isSame_52 D post S → wO D cy X A s.heap S H locs → wX D S0 S → lv_has ls 3 [] → W p l e r_X6_isSame s m args below meth c H locs 0 0 (MQ below (va_Qi (fun r S9 => wX D S0 S9 ∧ post r S9) (wB D cy X A) A) args s 0 0 A) (F0 m 52 ls []) := by
  obtain ⟨hx, hb, hml, hown, hts⟩ := id F
  have hwg : ∀ w ∈ WG, w.before args s = true := fun w h => hts w (List.mem_cons_of_mem _ h)
  intro S H locs ls hp hW hE hl
  unfold wp_X6_isSame_52 at hp
  refine lv_iconst (v := 1) hx hb dX6_isSame_52 (by decide) ?_
  exact w_zret hx hb hr hlocks hW hp.1 ⟨hE, hp.2⟩ dX6_isSame_53
set_option maxHeartbeats 4000000 in
set_option maxRecDepth 100000 in
theorem t_X6_isSame_15 {p : Program} {l : Launch} {e : Env} {s : State} {m : MethodId} {args : Array Value} {below : List Frame} {meth : Method} {c : Code} {D : wD} {cy : Nat → ClassId} {X : va_W} {A : Nat → Prop} {S0 : wS} {post : Int32 → wS → Prop} (F : CallFix p m c cX6_isSame 3 s args wz_X6_isSame RX6) (hr : meth.sig.returnType = (some .boolean)) (hlocks : meth.locks = false) (hK : wK D cy A s) : ∀ (n : Nat) {S : wS} {H : Heap} {locs : List Loc} {ls : Array Slot} {a0 : Nat} {a1 : Nat} {x2 : Int32}, wp_X6_isSame_15 D post n S a0 a1 x2 → wO D cy X A s.heap S H locs → wX D S0 S → lv_has ls 3 [(0, .ref a0), (1, .ref a1), (2, .int x2)] → wM D S a0 → sK S a0 = 1 → wM D S a1 → sK S a1 = 1 → W p l e r_X6_isSame s m args below meth c H locs 0 0 (MQ below (va_Qi (fun r S9 => wX D S0 S9 ∧ post r S9) (wB D cy X A) A) args s 0 0 A) (F0 m 15 ls []) := by
  obtain ⟨hx, hb, hml, hown, hts⟩ := id F
  have hwg : ∀ w ∈ WG, w.before args s = true := fun w h => hts w (List.mem_cons_of_mem _ h)
  intro n
  induction n with
  | zero =>
    intro S H locs ls a0 a1 x2 hp
    exact hp.elim
  | succ n ih =>
    intro S H locs ls a0 a1 x2 hp hW hE hl hL_a0 hK_a0 hL_a1 hK_a1
    unfold wp_X6_isSame_15 at hp
    refine lv_iload_n hx hb dX6_isSame_15 rfl (lv_at hl 2 rfl) ?_
    refine lv_aload_n hx hb dX6_isSame_16 rfl (lv_at hl 0 rfl) ?_
    refine w_callI (va_runV (As := []) (rest := [.int x2]) F (c_J4_length_8abf5 l hL_a0 hK_a0 hp H.size) (cwV (C := RJ4) 0 hts (wg_V wm_RX6_125 wy_J4_length_8abf5) rfl rfl rfl (by decide +kernel) ⟨Nat.le_of_ble_eq_true rfl, Nat.le_of_ble_eq_true rfl⟩) (w_preV hK hW hL_a0 hK_a0 (by decide) rfl) rfl rfl hl.1 rfl (lv_room (Nat.le_of_ble_eq_true rfl)) dX6_isSame_17 ⟨Nat.le_of_ble_eq_true rfl, Nat.le_of_ble_eq_true rfl⟩) hW (fun r_1 S_2 H locs hp hW => ?_)
    obtain ⟨hX_S_2, hp⟩ := hp
    refine W.widen (k := 0) (n := 0) (by decide) (by decide) ?_
    have hE := hE.trans hX_S_2
    have hK_a0 : sK S_2 a0 = 1 := (hX_S_2.2 a0 hL_a0).1.trans hK_a0
    have hL_a0 : wM D S_2 a0 := hX_S_2.M hL_a0
    have hK_a1 : sK S_2 a1 = 1 := (hX_S_2.2 a1 hL_a1).1.trans hK_a1
    have hL_a1 : wM D S_2 a1 := hX_S_2.M hL_a1
    refine lv_icmp_ge (tgt := 52) hx hb dX6_isSame_20 (by decide) (fun c_3 => ?_) (fun c_3 => ?_)
    · replace hp := hp.1 c_3
      exact t_X6_isSame_52 F hr hlocks hK hp hW hE (lv_sub hl [] rfl)
    · replace hp := hp.2 c_3
      refine lv_iload_n hx hb dX6_isSame_23 rfl (lv_at hl 2 rfl) ?_
      refine lv_aload_n hx hb dX6_isSame_24 rfl (lv_at hl 1 rfl) ?_
      refine w_callI (va_runV (As := []) (rest := [.int x2]) F (c_J4_length_8abf5 l hL_a1 hK_a1 hp H.size) (cwV (C := RJ4) 0 hts (wg_V wm_RX6_125 wy_J4_length_8abf5) rfl rfl rfl (by decide +kernel) ⟨Nat.le_of_ble_eq_true rfl, Nat.le_of_ble_eq_true rfl⟩) (w_preV hK hW hL_a1 hK_a1 (by decide) rfl) rfl rfl hl.1 rfl (lv_room (Nat.le_of_ble_eq_true rfl)) dX6_isSame_25 ⟨Nat.le_of_ble_eq_true rfl, Nat.le_of_ble_eq_true rfl⟩) hW (fun r_4 S_5 H locs hp hW => ?_)
      obtain ⟨hX_S_5, hp⟩ := hp
      refine W.widen (k := 0) (n := 0) (by decide) (by decide) ?_
      have hE := hE.trans hX_S_5
      have hK_a0 : sK S_5 a0 = 1 := (hX_S_5.2 a0 hL_a0).1.trans hK_a0
      have hL_a0 : wM D S_5 a0 := hX_S_5.M hL_a0
      have hK_a1 : sK S_5 a1 = 1 := (hX_S_5.2 a1 hL_a1).1.trans hK_a1
      have hL_a1 : wM D S_5 a1 := hX_S_5.M hL_a1
      refine lv_icmp_ge (tgt := 52) hx hb dX6_isSame_28 (by decide) (fun c_6 => ?_) (fun c_6 => ?_)
      · replace hp := hp.1 c_6
        exact t_X6_isSame_52 F hr hlocks hK hp hW hE (lv_sub hl [] rfl)
      · replace hp := hp.2 c_6
        refine lv_aload_n hx hb dX6_isSame_31 rfl (lv_at hl 0 rfl) ?_
        refine lv_iload_n hx hb dX6_isSame_32 rfl (lv_at hl 2 rfl) ?_
        refine w_callI (va_runV (As := [.int x2]) (rest := []) F (c_J4_charAt_5068e l hL_a0 hK_a0 hp H.size) (cwV (C := RJ4) 1 hts (wg_V wm_RX6_126 wy_J4_charAt_5068e) rfl rfl rfl (by decide +kernel) ⟨Nat.le_of_ble_eq_true rfl, Nat.le_of_ble_eq_true rfl⟩) (w_preV hK hW hL_a0 hK_a0 (by decide) rfl) rfl rfl hl.1 rfl (lv_room (Nat.le_of_ble_eq_true rfl)) dX6_isSame_33 ⟨Nat.le_of_ble_eq_true rfl, Nat.le_of_ble_eq_true rfl⟩) hW (fun r_7 S_8 H locs hp hW => ?_)
        obtain ⟨hX_S_8, hp⟩ := hp
        refine W.widen (k := 0) (n := 0) (by decide) (by decide) ?_
        have hE := hE.trans hX_S_8
        have hK_a0 : sK S_8 a0 = 1 := (hX_S_8.2 a0 hL_a0).1.trans hK_a0
        have hL_a0 : wM D S_8 a0 := hX_S_8.M hL_a0
        have hK_a1 : sK S_8 a1 = 1 := (hX_S_8.2 a1 hL_a1).1.trans hK_a1
        have hL_a1 : wM D S_8 a1 := hX_S_8.M hL_a1
        refine lv_aload_n hx hb dX6_isSame_36 rfl (lv_at hl 1 rfl) ?_
        refine lv_iload_n hx hb dX6_isSame_37 rfl (lv_at hl 2 rfl) ?_
        refine w_callI (va_runV (As := [.int x2]) (rest := [.int r_7]) F (c_J4_charAt_5068e l hL_a1 hK_a1 hp H.size) (cwV (C := RJ4) 1 hts (wg_V wm_RX6_126 wy_J4_charAt_5068e) rfl rfl rfl (by decide +kernel) ⟨Nat.le_of_ble_eq_true rfl, Nat.le_of_ble_eq_true rfl⟩) (w_preV hK hW hL_a1 hK_a1 (by decide) rfl) rfl rfl hl.1 rfl (lv_room (Nat.le_of_ble_eq_true rfl)) dX6_isSame_38 ⟨Nat.le_of_ble_eq_true rfl, Nat.le_of_ble_eq_true rfl⟩) hW (fun r_9 S_10 H locs hp hW => ?_)
        obtain ⟨hX_S_10, hp⟩ := hp
        refine W.widen (k := 0) (n := 0) (by decide) (by decide) ?_
        have hE := hE.trans hX_S_10
        have hK_a0 : sK S_10 a0 = 1 := (hX_S_10.2 a0 hL_a0).1.trans hK_a0
        have hL_a0 : wM D S_10 a0 := hX_S_10.M hL_a0
        have hK_a1 : sK S_10 a1 = 1 := (hX_S_10.2 a1 hL_a1).1.trans hK_a1
        have hL_a1 : wM D S_10 a1 := hX_S_10.M hL_a1
        refine lv_icmp_eq (tgt := 46) hx hb dX6_isSame_41 (by decide) (fun c_11 => ?_) (fun c_11 => ?_)
        · replace hp := hp.1 c_11
          obtain ⟨x_12, ex_12⟩ : ∃ z : Int32, z = x2 + 1 := ⟨_, rfl⟩
          replace hp := hp x_12 ex_12
          refine lv_iinc (v := x_12) (lv' := [(2, .int x_12), (0, .ref a0), (1, .ref a1)]) hx hb dX6_isSame_46 hl (k := 2) rfl (by rw [ex_12]; rfl) (by decide) rfl (fun ls hl => ?_)
          refine lv_goto (tgt := 15) hx hb dX6_isSame_49 (by decide) ?_
          exact ih hp hW hE (lv_sub hl [1, 2, 0] rfl) hL_a0 hK_a0 hL_a1 hK_a1
        · replace hp := hp.2 c_11
          refine lv_iconst (v := 0) hx hb dX6_isSame_44 (by decide) ?_
          exact w_zret hx hb hr hlocks hW hp.1 ⟨hE, hp.2⟩ dX6_isSame_45
set_option maxHeartbeats 4000000 in
set_option maxRecDepth 100000 in
theorem t_X6_isSame_0 {p : Program} {l : Launch} {e : Env} {s : State} {m : MethodId} {args : Array Value} {below : List Frame} {meth : Method} {c : Code} {D : wD} {cy : Nat → ClassId} {X : va_W} {A : Nat → Prop} {S0 : wS} {post : Int32 → wS → Prop} (F : CallFix p m c cX6_isSame 3 s args wz_X6_isSame RX6) (hr : meth.sig.returnType = (some .boolean)) (hlocks : meth.locks = false) (hK : wK D cy A s) : ∀ {S : wS} {H : Heap} {locs : List Loc} {ls : Array Slot} {a0 : Nat} {a1 : Nat}, wp_X6_isSame_0 D post S a0 a1 → wO D cy X A s.heap S H locs → wX D S0 S → lv_has ls 3 [(0, .ref a0), (1, .ref a1)] → wM D S a0 → sK S a0 = 1 → wM D S a1 → sK S a1 = 1 → W p l e r_X6_isSame s m args below meth c H locs 0 0 (MQ below (va_Qi (fun r S9 => wX D S0 S9 ∧ post r S9) (wB D cy X A) A) args s 0 0 A) (F0 m 0 ls []) := by
  obtain ⟨hx, hb, hml, hown, hts⟩ := id F
  have hwg : ∀ w ∈ WG, w.before args s = true := fun w h => hts w (List.mem_cons_of_mem _ h)
  intro S H locs ls a0 a1 hp hW hE hl hL_a0 hK_a0 hL_a1 hK_a1
  unfold wp_X6_isSame_0 at hp
  refine lv_aload_n hx hb dX6_isSame_0 rfl (lv_at hl 0 rfl) ?_
  refine w_callI (va_runV (As := []) (rest := []) F (c_J4_length_8abf5 l hL_a0 hK_a0 hp H.size) (cwV (C := RJ4) 0 hts (wg_V wm_RX6_125 wy_J4_length_8abf5) rfl rfl rfl (by decide +kernel) ⟨Nat.le_of_ble_eq_true rfl, Nat.le_of_ble_eq_true rfl⟩) (w_preV hK hW hL_a0 hK_a0 (by decide) rfl) rfl rfl hl.1 rfl (lv_room (Nat.le_of_ble_eq_true rfl)) dX6_isSame_1 ⟨Nat.le_of_ble_eq_true rfl, Nat.le_of_ble_eq_true rfl⟩) hW (fun r_1 S_2 H locs hp hW => ?_)
  obtain ⟨hX_S_2, hp⟩ := hp
  refine W.widen (k := 0) (n := 0) (by decide) (by decide) ?_
  have hE := hE.trans hX_S_2
  have hK_a0 : sK S_2 a0 = 1 := (hX_S_2.2 a0 hL_a0).1.trans hK_a0
  have hL_a0 : wM D S_2 a0 := hX_S_2.M hL_a0
  have hK_a1 : sK S_2 a1 = 1 := (hX_S_2.2 a1 hL_a1).1.trans hK_a1
  have hL_a1 : wM D S_2 a1 := hX_S_2.M hL_a1
  refine lv_aload_n hx hb dX6_isSame_4 rfl (lv_at hl 1 rfl) ?_
  refine w_callI (va_runV (As := []) (rest := [.int r_1]) F (c_J4_length_8abf5 l hL_a1 hK_a1 hp H.size) (cwV (C := RJ4) 0 hts (wg_V wm_RX6_125 wy_J4_length_8abf5) rfl rfl rfl (by decide +kernel) ⟨Nat.le_of_ble_eq_true rfl, Nat.le_of_ble_eq_true rfl⟩) (w_preV hK hW hL_a1 hK_a1 (by decide) rfl) rfl rfl hl.1 rfl (lv_room (Nat.le_of_ble_eq_true rfl)) dX6_isSame_5 ⟨Nat.le_of_ble_eq_true rfl, Nat.le_of_ble_eq_true rfl⟩) hW (fun r_3 S_4 H locs hp hW => ?_)
  obtain ⟨hX_S_4, hp⟩ := hp
  refine W.widen (k := 0) (n := 0) (by decide) (by decide) ?_
  have hE := hE.trans hX_S_4
  have hK_a0 : sK S_4 a0 = 1 := (hX_S_4.2 a0 hL_a0).1.trans hK_a0
  have hL_a0 : wM D S_4 a0 := hX_S_4.M hL_a0
  have hK_a1 : sK S_4 a1 = 1 := (hX_S_4.2 a1 hL_a1).1.trans hK_a1
  have hL_a1 : wM D S_4 a1 := hX_S_4.M hL_a1
  refine lv_icmp_eq (tgt := 13) hx hb dX6_isSame_8 (by decide) (fun c_5 => ?_) (fun c_5 => ?_)
  · replace hp := hp.1 c_5
    refine lv_iconst (v := 0) hx hb dX6_isSame_13 (by decide) ?_
    refine lv_istore_n (lv' := [(2, .int (0 : Int32)), (0, .ref a0), (1, .ref a1)]) hx hb dX6_isSame_14 rfl hl (by decide) rfl (fun ls hl => ?_)
    obtain ⟨n_6, hp⟩ := hp
    exact t_X6_isSame_15 F hr hlocks hK n_6 hp hW hE (lv_sub hl [1, 2, 0] rfl) hL_a0 hK_a0 hL_a1 hK_a1
  · replace hp := hp.2 c_5
    refine lv_iconst (v := 0) hx hb dX6_isSame_11 (by decide) ?_
    exact w_zret hx hb hr hlocks hW hp.1 ⟨hE, hp.2⟩ dX6_isSame_12
set_option maxHeartbeats 4000000 in
set_option maxRecDepth 100000 in
theorem c_X6_isSame (l : Launch) {D : wD} {cy : Nat → ClassId} {X : va_W} {S0 : wS} {post : Int32 → wS → Prop} {a0 : Nat} {a1 : Nat} (hL_a0 : wM D S0 a0) (hK_a0 : sK S0 a0 = 1) (hL_a1 : wM D S0 a1) (hK_a1 : sK S0 a1 = 1) (hp : wp_X6_isSame D post S0 a0 a1) : mI D cy X l yX6_isSame wz_X6_isSame r_X6_isSame [.ref a0, .ref a1] S0 (fun r S9 => wX D S0 S9 ∧ post r S9) := by
  intro sz
  refine Met.ofW (cc := cX6_isSame) (maxL := 3) (ret := (some .boolean)) (by decide) rfl ?_
  intro p e s m args below meth c s₁ B hml hv
  obtain ⟨rfl, hsz, hP, hK, hD0, hRO⟩ := hv
  have hts := atoms_spec (ws := wz_X6_isSame) B.pre
  have hown : s.vm.findClass RX6 = some m.cls := findClass_of_methodNamed B.named
  subst hsz
  have hD := hD0.self (sz := s.heap.size)
  have F : CallFix p m c cX6_isSame 3 s _ wz_X6_isSame RX6 := ⟨B.exec, B.bytes, hml, hown, hts⟩
  have hr := B.returns
  have hlocks := B.notSynchronized
  generalize hAe : va_A (wL cy X S0) s.heap.size = A at hD hK ⊢
  have hA : ∀ q, s.heap.size ≤ q → A q := fun q h => by rw [← hAe]; exact Or.inr h
  have hW : wO D cy X A s.heap S0 s.heap [] := ⟨hP, hD, va_S.rf, hA, hRO⟩
  have hl := lv_entry ([.ref a0, .ref a1]) (n := 3) (Nat.le_of_ble_eq_true rfl)
  rw [lg_entry_eq]
  generalize (lg_sl ([.ref a0, .ref a1]) ++ List.replicate (3 - (lg_sl ([.ref a0, .ref a1])).length) Slot.unset).toArray = ls at hl ⊢
  have hl : lv_has ls 3 [(0, .ref a0), (1, .ref a1)] := hl
  unfold wp_X6_isSame at hp
  exact t_X6_isSame_0 F hr hlocks hK hp hW wX.rf (lv_sub hl [0, 1] rfl) hL_a0 hK_a0 hL_a1 hK_a1
def wp_X6_next_29 (D : wD) (post : Int32 → wS → Prop)  (S : wS) (a0 : Nat) (x2 : Int32) : Prop :=
∀ S_1 : wS, S_1 = uI S a0 2 ((sI S a0 2) + (1 : Int32)) →
narrow .char (.int x2) = .int x2 ∧ post x2 S_1
def wp_X6_next_0 (D : wD) (post : Int32 → wS → Prop)  (S : wS) (a0 : Nat) (a1 : Nat) : Prop :=
(((sI S a0 2) < 0 → wp_X6_next_29 D post S a0 (0 : Int32)) ∧
 (¬ (sI S a0 2) < 0 → wp_J4_length_8abf5 D (fun r_2 S_3 => 
((r_2 ≤ (sI S a0 2) → wp_X6_next_29 D post S_3 a0 (0 : Int32)) ∧
 (¬ r_2 ≤ (sI S a0 2) → wp_J4_charAt_5068e D (fun r_5 S_6 => 
wp_X6_next_29 D post S_6 a0 r_5) S_3 a1 (sI S_3 a0 2)))) S a1))
abbrev r_X6_next : Room := { frames := 4, cells := 0, slots := 0, locals := 88 }
def wp_X6_next (D : wD) (post : Int32 → wS → Prop) (S : wS) (a0 : Nat) (a1 : Nat) : Prop := wp_X6_next_0 D post S a0 a1
set_option maxHeartbeats 4000000 in
set_option maxRecDepth 100000 in
theorem t_X6_next_29 {p : Program} {l : Launch} {e : Env} {s : State} {m : MethodId} {args : Array Value} {below : List Frame} {meth : Method} {c : Code} {D : wD} {cy : Nat → ClassId} {X : va_W} {A : Nat → Prop} {S0 : wS} {post : Int32 → wS → Prop} (F : CallFix p m c cX6_next 3 s args wz_X6_next RX6) (hr : meth.sig.returnType = (some .char)) (hlocks : meth.locks = false) (hK : wK D cy A s) : ∀ {S : wS} {H : Heap} {locs : List Loc} {ls : Array Slot} {a0 : Nat} {x2 : Int32}, wp_X6_next_29 D post S a0 x2 → wO D cy X A s.heap S H locs → wX D S0 S → lv_has ls 3 [(0, .ref a0), (2, .int x2)] → wM D S a0 → sK S a0 = 11 → W p l e r_X6_next s m args below meth c H locs 0 0 (MQ below (va_Qi (fun r S9 => wX D S0 S9 ∧ post r S9) (wB D cy X A) A) args s 0 0 A) (F0 m 29 ls []) := by
  obtain ⟨hx, hb, hml, hown, hts⟩ := id F
  have hwg : ∀ w ∈ WG, w.before args s = true := fun w h => hts w (List.mem_cons_of_mem _ h)
  have i_11 : ∀ w ∈ u_ws RX6 TX6 3, w ∈ wz_X6_next := fun w h => List.mem_cons_of_mem _ (wu_11 w h)
  have k_18 := hwg _ wf_RX6_18
  intro S H locs ls a0 x2 hp hW hE hl hL_a0 hK_a0
  unfold wp_X6_next_29 at hp
  refine lv_aload_n hx hb dX6_next_29 rfl (lv_at hl 0 rfl) ?_
  refine lv_dup hx hb dX6_next_30 rfl ?_
  refine w_get (k := 11) (f := 2) (T := TX6) (v := .int (sI S a0 2)) F hK hW hL_a0 hK_a0 (by decide) rfl rfl (by decide) i_11 k_18 rfl dX6_next_31 ?_
  refine lv_iconst (v := 1) hx hb dX6_next_34 (by decide) ?_
  refine lv_iadd hx hb dX6_next_35 ?_
  refine w_putI (k := 11) (f := 2) (T := TX6) F hK hW hL_a0 hK_a0 (by decide) (by decide) rfl rfl (by decide) i_11 tyX6 tyX6_ok nmX6 k_18 rfl rfl (ty := .int) rfl rfl rfl dX6_next_36 (fun H locs hW => ?_)
  obtain ⟨S_1, eS_1⟩ : ∃ z : wS, z = uI S a0 2 ((sI S a0 2) + (1 : Int32)) := ⟨_, rfl⟩
  rw [← eS_1] at hW
  replace hp := hp S_1 eS_1
  have hX_S_1 : wX D S S_1 := by rw [eS_1]; exact wX_uI
  have hE := hE.trans hX_S_1
  have hK_a0 : sK S_1 a0 = 11 := (hX_S_1.2 a0 hL_a0).1.trans hK_a0
  have hL_a0 : wM D S_1 a0 := hX_S_1.M hL_a0
  refine lv_iload_n hx hb dX6_next_39 rfl (lv_at hl 1 rfl) ?_
  exact w_zret hx hb hr hlocks hW hp.1 ⟨hE, hp.2⟩ dX6_next_40
set_option maxHeartbeats 4000000 in
set_option maxRecDepth 100000 in
theorem t_X6_next_0 {p : Program} {l : Launch} {e : Env} {s : State} {m : MethodId} {args : Array Value} {below : List Frame} {meth : Method} {c : Code} {D : wD} {cy : Nat → ClassId} {X : va_W} {A : Nat → Prop} {S0 : wS} {post : Int32 → wS → Prop} (F : CallFix p m c cX6_next 3 s args wz_X6_next RX6) (hr : meth.sig.returnType = (some .char)) (hlocks : meth.locks = false) (hK : wK D cy A s) : ∀ {S : wS} {H : Heap} {locs : List Loc} {ls : Array Slot} {a0 : Nat} {a1 : Nat}, wp_X6_next_0 D post S a0 a1 → wO D cy X A s.heap S H locs → wX D S0 S → lv_has ls 3 [(0, .ref a0), (1, .ref a1)] → wM D S a0 → sK S a0 = 11 → wM D S a1 → sK S a1 = 1 → W p l e r_X6_next s m args below meth c H locs 0 0 (MQ below (va_Qi (fun r S9 => wX D S0 S9 ∧ post r S9) (wB D cy X A) A) args s 0 0 A) (F0 m 0 ls []) := by
  obtain ⟨hx, hb, hml, hown, hts⟩ := id F
  have hwg : ∀ w ∈ WG, w.before args s = true := fun w h => hts w (List.mem_cons_of_mem _ h)
  have i_11 : ∀ w ∈ u_ws RX6 TX6 3, w ∈ wz_X6_next := fun w h => List.mem_cons_of_mem _ (wu_11 w h)
  have k_18 := hwg _ wf_RX6_18
  intro S H locs ls a0 a1 hp hW hE hl hL_a0 hK_a0 hL_a1 hK_a1
  unfold wp_X6_next_0 at hp
  refine lv_iconst (v := 0) hx hb dX6_next_0 (by decide) ?_
  refine lv_istore_n (lv' := [(2, .int (0 : Int32)), (0, .ref a0), (1, .ref a1)]) hx hb dX6_next_1 rfl hl (by decide) rfl (fun ls hl => ?_)
  refine lv_aload_n hx hb dX6_next_2 rfl (lv_at hl 1 rfl) ?_
  refine w_get (k := 11) (f := 2) (T := TX6) (v := .int (sI S a0 2)) F hK hW hL_a0 hK_a0 (by decide) rfl rfl (by decide) i_11 k_18 rfl dX6_next_3 ?_
  refine lv_if_lt (tgt := 29) hx hb dX6_next_6 (by decide) (fun c_1 => ?_) (fun c_1 => ?_)
  · replace hp := hp.1 c_1
    exact t_X6_next_29 F hr hlocks hK hp hW hE (lv_sub hl [1, 0] rfl) hL_a0 hK_a0
  · replace hp := hp.2 c_1
    refine lv_aload_n hx hb dX6_next_9 rfl (lv_at hl 1 rfl) ?_
    refine w_get (k := 11) (f := 2) (T := TX6) (v := .int (sI S a0 2)) F hK hW hL_a0 hK_a0 (by decide) rfl rfl (by decide) i_11 k_18 rfl dX6_next_10 ?_
    refine lv_aload_n hx hb dX6_next_13 rfl (lv_at hl 2 rfl) ?_
    refine w_callI (va_runV (As := []) (rest := [.int (sI S a0 2)]) F (c_J4_length_8abf5 l hL_a1 hK_a1 hp H.size) (cwV (C := RJ4) 0 hts (wg_V wm_RX6_125 wy_J4_length_8abf5) rfl rfl rfl (by decide +kernel) ⟨Nat.le_of_ble_eq_true rfl, Nat.le_of_ble_eq_true rfl⟩) (w_preV hK hW hL_a1 hK_a1 (by decide) rfl) rfl rfl hl.1 rfl (lv_room (Nat.le_of_ble_eq_true rfl)) dX6_next_14 ⟨Nat.le_of_ble_eq_true rfl, Nat.le_of_ble_eq_true rfl⟩) hW (fun r_2 S_3 H locs hp hW => ?_)
    obtain ⟨hX_S_3, hp⟩ := hp
    refine W.widen (k := 0) (n := 0) (by decide) (by decide) ?_
    have hE := hE.trans hX_S_3
    have hK_a0 : sK S_3 a0 = 11 := (hX_S_3.2 a0 hL_a0).1.trans hK_a0
    have hL_a0 : wM D S_3 a0 := hX_S_3.M hL_a0
    have hK_a1 : sK S_3 a1 = 1 := (hX_S_3.2 a1 hL_a1).1.trans hK_a1
    have hL_a1 : wM D S_3 a1 := hX_S_3.M hL_a1
    refine lv_icmp_ge (tgt := 29) hx hb dX6_next_17 (by decide) (fun c_4 => ?_) (fun c_4 => ?_)
    · replace hp := hp.1 c_4
      exact t_X6_next_29 F hr hlocks hK hp hW hE (lv_sub hl [1, 0] rfl) hL_a0 hK_a0
    · replace hp := hp.2 c_4
      refine lv_aload_n hx hb dX6_next_20 rfl (lv_at hl 2 rfl) ?_
      refine lv_aload_n hx hb dX6_next_21 rfl (lv_at hl 1 rfl) ?_
      refine w_get (k := 11) (f := 2) (T := TX6) (v := .int (sI S_3 a0 2)) F hK hW hL_a0 hK_a0 (by decide) rfl rfl (by decide) i_11 k_18 rfl dX6_next_22 ?_
      refine w_callI (va_runV (As := [.int (sI S_3 a0 2)]) (rest := []) F (c_J4_charAt_5068e l hL_a1 hK_a1 hp H.size) (cwV (C := RJ4) 1 hts (wg_V wm_RX6_126 wy_J4_charAt_5068e) rfl rfl rfl (by decide +kernel) ⟨Nat.le_of_ble_eq_true rfl, Nat.le_of_ble_eq_true rfl⟩) (w_preV hK hW hL_a1 hK_a1 (by decide) rfl) rfl rfl hl.1 rfl (lv_room (Nat.le_of_ble_eq_true rfl)) dX6_next_25 ⟨Nat.le_of_ble_eq_true rfl, Nat.le_of_ble_eq_true rfl⟩) hW (fun r_5 S_6 H locs hp hW => ?_)
      obtain ⟨hX_S_6, hp⟩ := hp
      refine W.widen (k := 0) (n := 0) (by decide) (by decide) ?_
      have hE := hE.trans hX_S_6
      have hK_a0 : sK S_6 a0 = 11 := (hX_S_6.2 a0 hL_a0).1.trans hK_a0
      have hL_a0 : wM D S_6 a0 := hX_S_6.M hL_a0
      have hK_a1 : sK S_6 a1 = 1 := (hX_S_6.2 a1 hL_a1).1.trans hK_a1
      have hL_a1 : wM D S_6 a1 := hX_S_6.M hL_a1
      refine lv_istore_n (lv' := [(2, .int r_5), (0, .ref a0), (1, .ref a1)]) hx hb dX6_next_28 rfl hl (by decide) rfl (fun ls hl => ?_)
      exact t_X6_next_29 F hr hlocks hK hp hW hE (lv_sub hl [1, 0] rfl) hL_a0 hK_a0
set_option maxHeartbeats 4000000 in
set_option maxRecDepth 100000 in
theorem c_X6_next (l : Launch) {D : wD} {cy : Nat → ClassId} {X : va_W} {S0 : wS} {post : Int32 → wS → Prop} {a0 : Nat} {a1 : Nat} (hL_a0 : wM D S0 a0) (hK_a0 : sK S0 a0 = 11) (hL_a1 : wM D S0 a1) (hK_a1 : sK S0 a1 = 1) (hp : wp_X6_next D post S0 a0 a1) : mI D cy X l yX6_next wz_X6_next r_X6_next [.ref a0, .ref a1] S0 (fun r S9 => wX D S0 S9 ∧ post r S9) := by
  intro sz
  refine Met.ofW (cc := cX6_next) (maxL := 3) (ret := (some .char)) (by decide) rfl ?_
  intro p e s m args below meth c s₁ B hml hv
  obtain ⟨rfl, hsz, hP, hK, hD0, hRO⟩ := hv
  have hts := atoms_spec (ws := wz_X6_next) B.pre
  have hown : s.vm.findClass RX6 = some m.cls := findClass_of_methodNamed B.named
  subst hsz
  have hD := hD0.self (sz := s.heap.size)
  have F : CallFix p m c cX6_next 3 s _ wz_X6_next RX6 := ⟨B.exec, B.bytes, hml, hown, hts⟩
  have hr := B.returns
  have hlocks := B.notSynchronized
  generalize hAe : va_A (wL cy X S0) s.heap.size = A at hD hK ⊢
  have hA : ∀ q, s.heap.size ≤ q → A q := fun q h => by rw [← hAe]; exact Or.inr h
  have hW : wO D cy X A s.heap S0 s.heap [] := ⟨hP, hD, va_S.rf, hA, hRO⟩
  have hl := lv_entry ([.ref a0, .ref a1]) (n := 3) (Nat.le_of_ble_eq_true rfl)
  rw [lg_entry_eq]
  generalize (lg_sl ([.ref a0, .ref a1]) ++ List.replicate (3 - (lg_sl ([.ref a0, .ref a1])).length) Slot.unset).toArray = ls at hl ⊢
  have hl : lv_has ls 3 [(0, .ref a0), (1, .ref a1)] := hl
  unfold wp_X6_next at hp
  exact t_X6_next_0 F hr hlocks hK hp hW wX.rf (lv_sub hl [0, 1] rfl) hL_a0 hK_a0 hL_a1 hK_a1
def wp_X6_readPassing_67 (D : wD) (post : wS → Prop)  (S : wS) : Prop :=
post S
def wp_X6_readPassing_0 (D : wD) (post : wS → Prop)  (S : wS) (a0 : Nat) (a1 : Nat) (a2 : Nat) : Prop :=
wp_X6_next D (fun r_1 S_2 => 
∀ x_3 : Int32, x_3 = (r_1 - (97 : Int32)) →
wp_X6_next D (fun r_4 S_5 => 
∀ x_6 : Int32, x_6 = (r_4 - (49 : Int32)) →
((x_3 < 0 → wp_X6_readPassing_67 D post S_5) ∧
 (¬ x_3 < 0 → ∃ y_8 : Nat, sR S_5 a0 0 = some y_8 ∧ wM D S_5 y_8 ∧ sK S_5 y_8 = 5 ∧
(((sI S_5 y_8 0) ≤ x_3 → wp_X6_readPassing_67 D post S_5) ∧
 (¬ (sI S_5 y_8 0) ≤ x_3 → ((x_6 < 0 → wp_X6_readPassing_67 D post S_5) ∧
 (¬ x_6 < 0 → ∃ y_11 : Nat, sR S_5 a0 0 = some y_11 ∧ wM D S_5 y_11 ∧ sK S_5 y_11 = 5 ∧
(((sI S_5 y_11 1) ≤ x_6 → wp_X6_readPassing_67 D post S_5) ∧
 (¬ (sI S_5 y_11 1) ≤ x_6 → ∃ y_13 : Nat, sR S_5 a0 0 = some y_13 ∧ wM D S_5 y_13 ∧ sK S_5 y_13 = 5 ∧
∀ S_14 : wS, S_14 = uI S_5 a2 7 ((x_6 * (sI S_5 y_13 0)) + x_3) →
wp_X6_readPassing_67 D post S_14))))))))) S_2 a0 a1) S a0 a1
abbrev r_X6_readPassing : Room := { frames := 5, cells := 0, slots := 0, locals := 110 }
def wp_X6_readPassing (D : wD) (post : wS → Prop) (S : wS) (a0 : Nat) (a1 : Nat) (a2 : Nat) : Prop := wp_X6_readPassing_0 D post S a0 a1 a2
set_option maxHeartbeats 4000000 in
set_option maxRecDepth 100000 in
theorem t_X6_readPassing_67 {p : Program} {l : Launch} {e : Env} {s : State} {m : MethodId} {args : Array Value} {below : List Frame} {meth : Method} {c : Code} {D : wD} {cy : Nat → ClassId} {X : va_W} {A : Nat → Prop} {S0 : wS} {post : wS → Prop} (F : CallFix p m c cX6_readPassing 5 s args wz_X6_readPassing RX6) (hr : meth.sig.returnType = none) (hlocks : meth.locks = false) (hK : wK D cy A s) : ∀ {S : wS} {H : Heap} {locs : List Loc} {ls : Array Slot}, wp_X6_readPassing_67 D post S → wO D cy X A s.heap S H locs → wX D S0 S → lv_has ls 5 [] → W p l e r_X6_readPassing s m args below meth c H locs 0 0 (MQ below (va_Qv (fun S9 => wX D S0 S9 ∧ post S9) (wB D cy X A) A) args s 0 0 A) (F0 m 67 ls []) := by
  obtain ⟨hx, hb, hml, hown, hts⟩ := id F
  have hwg : ∀ w ∈ WG, w.before args s = true := fun w h => hts w (List.mem_cons_of_mem _ h)
  intro S H locs ls hp hW hE hl
  unfold wp_X6_readPassing_67 at hp
  exact w_vret hx hb hr hlocks hW ⟨hE, hp⟩ dX6_readPassing_67
set_option maxHeartbeats 4000000 in
set_option maxRecDepth 100000 in
theorem t_X6_readPassing_0 {p : Program} {l : Launch} {e : Env} {s : State} {m : MethodId} {args : Array Value} {below : List Frame} {meth : Method} {c : Code} {D : wD} {cy : Nat → ClassId} {X : va_W} {A : Nat → Prop} {S0 : wS} {post : wS → Prop} (F : CallFix p m c cX6_readPassing 5 s args wz_X6_readPassing RX6) (hr : meth.sig.returnType = none) (hlocks : meth.locks = false) (hK : wK D cy A s) : ∀ {S : wS} {H : Heap} {locs : List Loc} {ls : Array Slot} {a0 : Nat} {a1 : Nat} {a2 : Nat}, wp_X6_readPassing_0 D post S a0 a1 a2 → wO D cy X A s.heap S H locs → wX D S0 S → lv_has ls 5 [(0, .ref a0), (1, .ref a1), (2, .ref a2)] → wM D S a0 → sK S a0 = 11 → wM D S a1 → sK S a1 = 1 → wM D S a2 → sK S a2 = 12 → W p l e r_X6_readPassing s m args below meth c H locs 0 0 (MQ below (va_Qv (fun S9 => wX D S0 S9 ∧ post S9) (wB D cy X A) A) args s 0 0 A) (F0 m 0 ls []) := by
  obtain ⟨hx, hb, hml, hown, hts⟩ := id F
  have hwg : ∀ w ∈ WG, w.before args s = true := fun w h => hts w (List.mem_cons_of_mem _ h)
  have i_11 : ∀ w ∈ u_ws RX6 TX6 3, w ∈ wz_X6_readPassing := fun w h => List.mem_cons_of_mem _ (wu_11 w h)
  have i_12 : ∀ w ∈ u_ws RX7 TX7 8, w ∈ wz_X6_readPassing := fun w h => List.mem_cons_of_mem _ (wu_12 w h)
  have i_5 : ∀ w ∈ u_ws RX0 TX0 12, w ∈ wz_X6_readPassing := fun w h => List.mem_cons_of_mem _ (wu_5 w h)
  have k_22 := hwg _ wf_RX6_22
  intro S H locs ls a0 a1 a2 hp hW hE hl hL_a0 hK_a0 hL_a1 hK_a1 hL_a2 hK_a2
  unfold wp_X6_readPassing_0 at hp
  refine lv_aload_n hx hb dX6_readPassing_0 rfl (lv_at hl 0 rfl) ?_
  refine lv_aload_n hx hb dX6_readPassing_1 rfl (lv_at hl 1 rfl) ?_
  refine w_callI (va_runV (As := [.ref a1]) (rest := []) F (c_X6_next l hL_a0 hK_a0 hL_a1 hK_a1 hp H.size) (cwV (C := RX6) 1 hts (wg_V wm_RX6_99 wy_X6_next) rfl rfl rfl (by decide +kernel) ⟨Nat.le_of_ble_eq_true rfl, Nat.le_of_ble_eq_true rfl⟩) (w_preV hK hW hL_a0 hK_a0 (by decide) rfl) rfl rfl hl.1 rfl (lv_room (Nat.le_of_ble_eq_true rfl)) dX6_readPassing_2 ⟨Nat.le_of_ble_eq_true rfl, Nat.le_of_ble_eq_true rfl⟩) hW (fun r_1 S_2 H locs hp hW => ?_)
  obtain ⟨hX_S_2, hp⟩ := hp
  refine W.widen (k := 0) (n := 0) (by decide) (by decide) ?_
  have hE := hE.trans hX_S_2
  have hK_a0 : sK S_2 a0 = 11 := (hX_S_2.2 a0 hL_a0).1.trans hK_a0
  have hL_a0 : wM D S_2 a0 := hX_S_2.M hL_a0
  have hK_a1 : sK S_2 a1 = 1 := (hX_S_2.2 a1 hL_a1).1.trans hK_a1
  have hL_a1 : wM D S_2 a1 := hX_S_2.M hL_a1
  have hK_a2 : sK S_2 a2 = 12 := (hX_S_2.2 a2 hL_a2).1.trans hK_a2
  have hL_a2 : wM D S_2 a2 := hX_S_2.M hL_a2
  refine lv_bipush (v := 97) hx hb dX6_readPassing_5 (by decide) ?_
  refine lv_isub hx hb dX6_readPassing_7 ?_
  refine lv_topi (fun x_3 ex_3 => ?_)
  replace hp := hp x_3 ex_3
  refine lv_istore_n (lv' := [(3, .int x_3), (0, .ref a0), (1, .ref a1), (2, .ref a2)]) hx hb dX6_readPassing_8 rfl hl (by decide) rfl (fun ls hl => ?_)
  refine lv_aload_n hx hb dX6_readPassing_9 rfl (lv_at hl 1 rfl) ?_
  refine lv_aload_n hx hb dX6_readPassing_10 rfl (lv_at hl 2 rfl) ?_
  refine w_callI (va_runV (As := [.ref a1]) (rest := []) F (c_X6_next l hL_a0 hK_a0 hL_a1 hK_a1 hp H.size) (cwV (C := RX6) 1 hts (wg_V wm_RX6_99 wy_X6_next) rfl rfl rfl (by decide +kernel) ⟨Nat.le_of_ble_eq_true rfl, Nat.le_of_ble_eq_true rfl⟩) (w_preV hK hW hL_a0 hK_a0 (by decide) rfl) rfl rfl hl.1 rfl (lv_room (Nat.le_of_ble_eq_true rfl)) dX6_readPassing_11 ⟨Nat.le_of_ble_eq_true rfl, Nat.le_of_ble_eq_true rfl⟩) hW (fun r_4 S_5 H locs hp hW => ?_)
  obtain ⟨hX_S_5, hp⟩ := hp
  refine W.widen (k := 0) (n := 0) (by decide) (by decide) ?_
  have hE := hE.trans hX_S_5
  have hK_a0 : sK S_5 a0 = 11 := (hX_S_5.2 a0 hL_a0).1.trans hK_a0
  have hL_a0 : wM D S_5 a0 := hX_S_5.M hL_a0
  have hK_a1 : sK S_5 a1 = 1 := (hX_S_5.2 a1 hL_a1).1.trans hK_a1
  have hL_a1 : wM D S_5 a1 := hX_S_5.M hL_a1
  have hK_a2 : sK S_5 a2 = 12 := (hX_S_5.2 a2 hL_a2).1.trans hK_a2
  have hL_a2 : wM D S_5 a2 := hX_S_5.M hL_a2
  refine lv_bipush (v := 49) hx hb dX6_readPassing_14 (by decide) ?_
  refine lv_isub hx hb dX6_readPassing_16 ?_
  refine lv_topi (fun x_6 ex_6 => ?_)
  replace hp := hp x_6 ex_6
  refine lv_istore (lv' := [(4, .int x_6), (3, .int x_3), (0, .ref a0), (1, .ref a1), (2, .ref a2)]) hx hb dX6_readPassing_17 hl (by decide) rfl (fun ls hl => ?_)
  refine lv_iload_n hx hb dX6_readPassing_19 rfl (lv_at hl 1 rfl) ?_
  refine lv_if_lt (tgt := 67) hx hb dX6_readPassing_20 (by decide) (fun c_7 => ?_) (fun c_7 => ?_)
  · replace hp := hp.1 c_7
    exact t_X6_readPassing_67 F hr hlocks hK hp hW hE (lv_sub hl [] rfl)
  · replace hp := hp.2 c_7
    refine lv_iload_n hx hb dX6_readPassing_23 rfl (lv_at hl 1 rfl) ?_
    refine lv_aload_n hx hb dX6_readPassing_24 rfl (lv_at hl 2 rfl) ?_
    obtain ⟨y_8, ey_8, hL_y_8, hK_y_8, hp⟩ := hp
    refine w_get (k := 11) (f := 0) (T := TX6) (v := .ref y_8) F hK hW hL_a0 hK_a0 (by decide) rfl rfl (by decide) i_11 k_22 (by rw [show wv 11 0 S_5 a0 = va_rf (sR S_5 a0 0) from rfl, ey_8]; rfl) dX6_readPassing_25 ?_
    refine w_getN (k := 5) (f := 0) (T := TX0) (v := .int (sI S_5 y_8 0)) F hK hW hL_y_8 hK_y_8 (by decide) rfl rfl (by decide) i_5 (hK.2.1 (.fieldLinkNest "OpeningsCabinet$Papers" 81 "OpeningsCabinet$Board" "files" "I" "OpeningsCabinet") (by decide +kernel)) rfl dX6_readPassing_28 ?_
    refine lv_icmp_ge (tgt := 67) hx hb dX6_readPassing_31 (by decide) (fun c_9 => ?_) (fun c_9 => ?_)
    · replace hp := hp.1 c_9
      exact t_X6_readPassing_67 F hr hlocks hK hp hW hE (lv_sub hl [] rfl)
    · replace hp := hp.2 c_9
      refine lv_iload hx hb dX6_readPassing_34 (lv_at hl 0 rfl) ?_
      refine lv_if_lt (tgt := 67) hx hb dX6_readPassing_36 (by decide) (fun c_10 => ?_) (fun c_10 => ?_)
      · replace hp := hp.1 c_10
        exact t_X6_readPassing_67 F hr hlocks hK hp hW hE (lv_sub hl [] rfl)
      · replace hp := hp.2 c_10
        refine lv_iload hx hb dX6_readPassing_39 (lv_at hl 0 rfl) ?_
        refine lv_aload_n hx hb dX6_readPassing_41 rfl (lv_at hl 2 rfl) ?_
        obtain ⟨y_11, ey_11, hL_y_11, hK_y_11, hp⟩ := hp
        refine w_get (k := 11) (f := 0) (T := TX6) (v := .ref y_11) F hK hW hL_a0 hK_a0 (by decide) rfl rfl (by decide) i_11 k_22 (by rw [show wv 11 0 S_5 a0 = va_rf (sR S_5 a0 0) from rfl, ey_11]; rfl) dX6_readPassing_42 ?_
        refine w_getN (k := 5) (f := 1) (T := TX0) (v := .int (sI S_5 y_11 1)) F hK hW hL_y_11 hK_y_11 (by decide) rfl rfl (by decide) i_5 (hK.2.1 (.fieldLinkNest "OpeningsCabinet$Papers" 30 "OpeningsCabinet$Board" "ranks" "I" "OpeningsCabinet") (by decide +kernel)) rfl dX6_readPassing_45 ?_
        refine lv_icmp_ge (tgt := 67) hx hb dX6_readPassing_48 (by decide) (fun c_12 => ?_) (fun c_12 => ?_)
        · replace hp := hp.1 c_12
          exact t_X6_readPassing_67 F hr hlocks hK hp hW hE (lv_sub hl [] rfl)
        · replace hp := hp.2 c_12
          refine lv_aload_n hx hb dX6_readPassing_51 rfl (lv_at hl 4 rfl) ?_
          refine lv_iload hx hb dX6_readPassing_52 (lv_at hl 0 rfl) ?_
          refine lv_aload_n hx hb dX6_readPassing_54 rfl (lv_at hl 2 rfl) ?_
          obtain ⟨y_13, ey_13, hL_y_13, hK_y_13, hp⟩ := hp
          refine w_get (k := 11) (f := 0) (T := TX6) (v := .ref y_13) F hK hW hL_a0 hK_a0 (by decide) rfl rfl (by decide) i_11 k_22 (by rw [show wv 11 0 S_5 a0 = va_rf (sR S_5 a0 0) from rfl, ey_13]; rfl) dX6_readPassing_55 ?_
          refine w_getN (k := 5) (f := 0) (T := TX0) (v := .int (sI S_5 y_13 0)) F hK hW hL_y_13 hK_y_13 (by decide) rfl rfl (by decide) i_5 (hK.2.1 (.fieldLinkNest "OpeningsCabinet$Papers" 81 "OpeningsCabinet$Board" "files" "I" "OpeningsCabinet") (by decide +kernel)) rfl dX6_readPassing_58 ?_
          refine lv_imul hx hb dX6_readPassing_61 ?_
          refine lv_iload_n hx hb dX6_readPassing_62 rfl (lv_at hl 1 rfl) ?_
          refine lv_iadd hx hb dX6_readPassing_63 ?_
          refine w_putIN (k := 12) (f := 7) (T := TX7) F hK hW hL_a2 hK_a2 (by decide) (by decide) rfl rfl (by decide) i_12 tyX7 tyX7_ok nmX7 (hK.2.1 (.fieldLinkNest "OpeningsCabinet$Papers" 71 "OpeningsCabinet$Position" "passing" "I" "OpeningsCabinet") (by decide +kernel)) rfl rfl (ty := .int) rfl rfl rfl dX6_readPassing_64 (fun H locs hW => ?_)
          obtain ⟨S_14, eS_14⟩ : ∃ z : wS, z = uI S_5 a2 7 ((x_6 * (sI S_5 y_13 0)) + x_3) := ⟨_, rfl⟩
          rw [← eS_14] at hW
          replace hp := hp S_14 eS_14
          have hX_S_14 : wX D S_5 S_14 := by rw [eS_14]; exact wX_uI
          have hE := hE.trans hX_S_14
          have hK_a0 : sK S_14 a0 = 11 := (hX_S_14.2 a0 hL_a0).1.trans hK_a0
          have hL_a0 : wM D S_14 a0 := hX_S_14.M hL_a0
          have hK_a1 : sK S_14 a1 = 1 := (hX_S_14.2 a1 hL_a1).1.trans hK_a1
          have hL_a1 : wM D S_14 a1 := hX_S_14.M hL_a1
          have hK_a2 : sK S_14 a2 = 12 := (hX_S_14.2 a2 hL_a2).1.trans hK_a2
          have hL_a2 : wM D S_14 a2 := hX_S_14.M hL_a2
          exact t_X6_readPassing_67 F hr hlocks hK hp hW hE (lv_sub hl [] rfl)
set_option maxHeartbeats 4000000 in
set_option maxRecDepth 100000 in
theorem c_X6_readPassing (l : Launch) {D : wD} {cy : Nat → ClassId} {X : va_W} {S0 : wS} {post : wS → Prop} {a0 : Nat} {a1 : Nat} {a2 : Nat} (hL_a0 : wM D S0 a0) (hK_a0 : sK S0 a0 = 11) (hL_a1 : wM D S0 a1) (hK_a1 : sK S0 a1 = 1) (hL_a2 : wM D S0 a2) (hK_a2 : sK S0 a2 = 12) (hp : wp_X6_readPassing D post S0 a0 a1 a2) : mV D cy X l yX6_readPassing wz_X6_readPassing r_X6_readPassing [.ref a0, .ref a1, .ref a2] S0 (fun S9 => wX D S0 S9 ∧ post S9) := by
  intro sz
  refine Met.ofW (cc := cX6_readPassing) (maxL := 5) (ret := none) (by decide) rfl ?_
  intro p e s m args below meth c s₁ B hml hv
  obtain ⟨rfl, hsz, hP, hK, hD0, hRO⟩ := hv
  have hts := atoms_spec (ws := wz_X6_readPassing) B.pre
  have hown : s.vm.findClass RX6 = some m.cls := findClass_of_methodNamed B.named
  subst hsz
  have hD := hD0.self (sz := s.heap.size)
  have F : CallFix p m c cX6_readPassing 5 s _ wz_X6_readPassing RX6 := ⟨B.exec, B.bytes, hml, hown, hts⟩
  have hr := B.returns
  have hlocks := B.notSynchronized
  generalize hAe : va_A (wL cy X S0) s.heap.size = A at hD hK ⊢
  have hA : ∀ q, s.heap.size ≤ q → A q := fun q h => by rw [← hAe]; exact Or.inr h
  have hW : wO D cy X A s.heap S0 s.heap [] := ⟨hP, hD, va_S.rf, hA, hRO⟩
  have hl := lv_entry ([.ref a0, .ref a1, .ref a2]) (n := 5) (Nat.le_of_ble_eq_true rfl)
  rw [lg_entry_eq]
  generalize (lg_sl ([.ref a0, .ref a1, .ref a2]) ++ List.replicate (5 - (lg_sl ([.ref a0, .ref a1, .ref a2])).length) Slot.unset).toArray = ls at hl ⊢
  have hl : lv_has ls 5 [(0, .ref a0), (1, .ref a1), (2, .ref a2)] := hl
  unfold wp_X6_readPassing at hp
  exact t_X6_readPassing_0 F hr hlocks hK hp hW wX.rf (lv_sub hl [0, 1, 2] rfl) hL_a0 hK_a0 hL_a1 hK_a1 hL_a2 hK_a2
def wp_X6_readRights_64 (D : wD) (post : wS → Prop)  (S : wS) (a0 : Nat) : Prop :=
∀ S_1 : wS, S_1 = uI S a0 2 ((sI S a0 2) - (1 : Int32)) →
post S_1
def wp_X6_readRights_16 (D : wD) (post : wS → Prop)  : Nat → wS → Nat → Nat → Nat → Int32 → Int32 → Prop
  | 0, _, _, _, _, _, _ => False
  | n + 1, S, a0, a1, a2, x3, x4 =>
    ∀ y_1 : Nat, y_1 = D.2.2.1 10 →
    wp_J0_length_8abf5 D (fun r_2 S_3 => 
    ((r_2 ≤ x4 → wp_X6_readRights_64 D post S_3 a0) ∧
     (¬ r_2 ≤ x4 → ∀ y_5 : Nat, y_5 = D.2.2.1 10 →
    wp_J0_indexOf_0f7a4 D (fun r_6 S_7 => 
    ((r_6 < 0 → wp_X6_readRights_64 D post S_7 a0) ∧
     (¬ r_6 < 0 → ∀ y_9 : Nat, y_9 = D.2.2.1 10 →
    wp_J0_indexOf_0f7a4 D (fun r_10 S_11 => 
    ∀ S_12 : wS, S_12 = uI S_11 a2 6 ((sI S_7 a2 6) ||| ((1 : Int32) <<< (r_10 &&& 31))) →
    wp_X6_next D (fun r_13 S_14 => 
    ∀ x_15 : Int32, x_15 = x4 + 1 →
    wp_X6_readRights_16 D post n S_14 a0 a1 a2 r_13 x_15) S_12 a0 a1) S_7 y_9 x3))) S_3 y_5 x3))) S y_1
def wp_X6_readRights_0 (D : wD) (post : wS → Prop)  (S : wS) (a0 : Nat) (a1 : Nat) (a2 : Nat) : Prop :=
wp_X6_next D (fun r_1 S_2 => 
((¬ r_1 = (45 : Int32) → ∃ n_4 : Nat, wp_X6_readRights_16 D post n_4 S_2 a0 a1 a2 r_1 (0 : Int32)) ∧
 (r_1 = (45 : Int32) → post S_2))) S a0 a1
abbrev r_X6_readRights : Room := { frames := 7, cells := 0, slots := 0, locals := 159 }
def wp_X6_readRights (D : wD) (post : wS → Prop) (S : wS) (a0 : Nat) (a1 : Nat) (a2 : Nat) : Prop := wp_X6_readRights_0 D post S a0 a1 a2
set_option maxHeartbeats 4000000 in
set_option maxRecDepth 100000 in
theorem t_X6_readRights_64 {p : Program} {l : Launch} {e : Env} {s : State} {m : MethodId} {args : Array Value} {below : List Frame} {meth : Method} {c : Code} {D : wD} {cy : Nat → ClassId} {X : va_W} {A : Nat → Prop} {S0 : wS} {post : wS → Prop} (F : CallFix p m c cX6_readRights 5 s args wz_X6_readRights RX6) (hr : meth.sig.returnType = none) (hlocks : meth.locks = false) (hK : wK D cy A s) : ∀ {S : wS} {H : Heap} {locs : List Loc} {ls : Array Slot} {a0 : Nat}, wp_X6_readRights_64 D post S a0 → wO D cy X A s.heap S H locs → wX D S0 S → lv_has ls 5 [(0, .ref a0)] → wM D S a0 → sK S a0 = 11 → W p l e r_X6_readRights s m args below meth c H locs 0 0 (MQ below (va_Qv (fun S9 => wX D S0 S9 ∧ post S9) (wB D cy X A) A) args s 0 0 A) (F0 m 64 ls []) := by
  obtain ⟨hx, hb, hml, hown, hts⟩ := id F
  have hwg : ∀ w ∈ WG, w.before args s = true := fun w h => hts w (List.mem_cons_of_mem _ h)
  have i_11 : ∀ w ∈ u_ws RX6 TX6 3, w ∈ wz_X6_readRights := fun w h => List.mem_cons_of_mem _ (wu_11 w h)
  have k_18 := hwg _ wf_RX6_18
  intro S H locs ls a0 hp hW hE hl hL_a0 hK_a0
  unfold wp_X6_readRights_64 at hp
  refine lv_aload_n hx hb dX6_readRights_64 rfl (lv_at hl 0 rfl) ?_
  refine lv_dup hx hb dX6_readRights_65 rfl ?_
  refine w_get (k := 11) (f := 2) (T := TX6) (v := .int (sI S a0 2)) F hK hW hL_a0 hK_a0 (by decide) rfl rfl (by decide) i_11 k_18 rfl dX6_readRights_66 ?_
  refine lv_iconst (v := 1) hx hb dX6_readRights_69 (by decide) ?_
  refine lv_isub hx hb dX6_readRights_70 ?_
  refine w_putI (k := 11) (f := 2) (T := TX6) F hK hW hL_a0 hK_a0 (by decide) (by decide) rfl rfl (by decide) i_11 tyX6 tyX6_ok nmX6 k_18 rfl rfl (ty := .int) rfl rfl rfl dX6_readRights_71 (fun H locs hW => ?_)
  obtain ⟨S_1, eS_1⟩ : ∃ z : wS, z = uI S a0 2 ((sI S a0 2) - (1 : Int32)) := ⟨_, rfl⟩
  rw [← eS_1] at hW
  replace hp := hp S_1 eS_1
  have hX_S_1 : wX D S S_1 := by rw [eS_1]; exact wX_uI
  have hE := hE.trans hX_S_1
  have hK_a0 : sK S_1 a0 = 11 := (hX_S_1.2 a0 hL_a0).1.trans hK_a0
  have hL_a0 : wM D S_1 a0 := hX_S_1.M hL_a0
  exact w_vret hx hb hr hlocks hW ⟨hE, hp⟩ dX6_readRights_74
set_option maxHeartbeats 4000000 in
set_option maxRecDepth 100000 in
theorem t_X6_readRights_16 {p : Program} {l : Launch} {e : Env} {s : State} {m : MethodId} {args : Array Value} {below : List Frame} {meth : Method} {c : Code} {D : wD} {cy : Nat → ClassId} {X : va_W} {A : Nat → Prop} {S0 : wS} {post : wS → Prop} (F : CallFix p m c cX6_readRights 5 s args wz_X6_readRights RX6) (hr : meth.sig.returnType = none) (hlocks : meth.locks = false) (hK : wK D cy A s) : ∀ (n : Nat) {S : wS} {H : Heap} {locs : List Loc} {ls : Array Slot} {a0 : Nat} {a1 : Nat} {a2 : Nat} {x3 : Int32} {x4 : Int32}, wp_X6_readRights_16 D post n S a0 a1 a2 x3 x4 → wO D cy X A s.heap S H locs → wX D S0 S → lv_has ls 5 [(0, .ref a0), (1, .ref a1), (2, .ref a2), (3, .int x3), (4, .int x4)] → wM D S a0 → sK S a0 = 11 → wM D S a1 → sK S a1 = 1 → wM D S a2 → sK S a2 = 12 → W p l e r_X6_readRights s m args below meth c H locs 0 0 (MQ below (va_Qv (fun S9 => wX D S0 S9 ∧ post S9) (wB D cy X A) A) args s 0 0 A) (F0 m 16 ls []) := by
  obtain ⟨hx, hb, hml, hown, hts⟩ := id F
  have hwg : ∀ w ∈ WG, w.before args s = true := fun w h => hts w (List.mem_cons_of_mem _ h)
  have i_12 : ∀ w ∈ u_ws RX7 TX7 8, w ∈ wz_X6_readRights := fun w h => List.mem_cons_of_mem _ (wu_12 w h)
  intro n
  induction n with
  | zero =>
    intro S H locs ls a0 a1 a2 x3 x4 hp
    exact hp.elim
  | succ n ih =>
    intro S H locs ls a0 a1 a2 x3 x4 hp hW hE hl hL_a0 hK_a0 hL_a1 hK_a1 hL_a2 hK_a2
    unfold wp_X6_readRights_16 at hp
    refine lv_iload hx hb dX6_readRights_16 (lv_at hl 4 rfl) ?_
    refine w_str F hK (show ("OpeningsCabinet$Papers", 59, "KQkq", 10) ∈ wStr by decide +kernel) dX6_readRights_18 ?_
    obtain ⟨y_1, ey_1⟩ : ∃ z : Nat, z = D.2.2.1 10 := ⟨_, rfl⟩
    rw [← ey_1]
    replace hp := hp y_1 ey_1
    obtain ⟨hL_y_1, hK_y_1⟩ : wM D S y_1 ∧ sK S y_1 = 0 := by rw [ey_1]; exact w_strM hK hW (show ("OpeningsCabinet$Papers", 59, "KQkq", 10) ∈ wStr by decide +kernel)
    refine w_callI (va_runV (As := []) (rest := [.int x4]) F (c_J0_length_8abf5 l hL_y_1 hK_y_1 hp H.size) (cwV (C := RJ0) 0 hts (wg_V wm_RX6_61 wy_J0_length_8abf5) rfl rfl rfl (by decide +kernel) ⟨Nat.le_of_ble_eq_true rfl, Nat.le_of_ble_eq_true rfl⟩) (w_preV hK hW hL_y_1 hK_y_1 (by decide) rfl) rfl rfl hl.1 rfl (lv_room (Nat.le_of_ble_eq_true rfl)) dX6_readRights_20 ⟨Nat.le_of_ble_eq_true rfl, Nat.le_of_ble_eq_true rfl⟩) hW (fun r_2 S_3 H locs hp hW => ?_)
    obtain ⟨hX_S_3, hp⟩ := hp
    refine W.widen (k := 0) (n := 0) (by decide) (by decide) ?_
    have hE := hE.trans hX_S_3
    have hK_a0 : sK S_3 a0 = 11 := (hX_S_3.2 a0 hL_a0).1.trans hK_a0
    have hL_a0 : wM D S_3 a0 := hX_S_3.M hL_a0
    have hK_a1 : sK S_3 a1 = 1 := (hX_S_3.2 a1 hL_a1).1.trans hK_a1
    have hL_a1 : wM D S_3 a1 := hX_S_3.M hL_a1
    have hK_a2 : sK S_3 a2 = 12 := (hX_S_3.2 a2 hL_a2).1.trans hK_a2
    have hL_a2 : wM D S_3 a2 := hX_S_3.M hL_a2
    refine lv_icmp_ge (tgt := 64) hx hb dX6_readRights_23 (by decide) (fun c_4 => ?_) (fun c_4 => ?_)
    · replace hp := hp.1 c_4
      exact t_X6_readRights_64 F hr hlocks hK hp hW hE (lv_sub hl [0] rfl) hL_a0 hK_a0
    · replace hp := hp.2 c_4
      refine w_str F hK (show ("OpeningsCabinet$Papers", 59, "KQkq", 10) ∈ wStr by decide +kernel) dX6_readRights_26 ?_
      obtain ⟨y_5, ey_5⟩ : ∃ z : Nat, z = D.2.2.1 10 := ⟨_, rfl⟩
      rw [← ey_5]
      replace hp := hp y_5 ey_5
      obtain ⟨hL_y_5, hK_y_5⟩ : wM D S_3 y_5 ∧ sK S_3 y_5 = 0 := by rw [ey_5]; exact w_strM hK hW (show ("OpeningsCabinet$Papers", 59, "KQkq", 10) ∈ wStr by decide +kernel)
      refine lv_iload_n hx hb dX6_readRights_28 rfl (lv_at hl 3 rfl) ?_
      refine w_callI (va_runV (As := [.int x3]) (rest := []) F (c_J0_indexOf_0f7a4 l hL_y_5 hK_y_5 hp H.size) (cwV (C := RJ0) 1 hts (wg_V wm_RX6_127 wy_J0_indexOf_0f7a4) rfl rfl rfl (by decide +kernel) ⟨Nat.le_of_ble_eq_true rfl, Nat.le_of_ble_eq_true rfl⟩) (w_preV hK hW hL_y_5 hK_y_5 (by decide) rfl) rfl rfl hl.1 rfl (lv_room (Nat.le_of_ble_eq_true rfl)) dX6_readRights_29 ⟨Nat.le_of_ble_eq_true rfl, Nat.le_of_ble_eq_true rfl⟩) hW (fun r_6 S_7 H locs hp hW => ?_)
      obtain ⟨hX_S_7, hp⟩ := hp
      refine W.widen (k := 0) (n := 0) (by decide) (by decide) ?_
      have hE := hE.trans hX_S_7
      have hK_a0 : sK S_7 a0 = 11 := (hX_S_7.2 a0 hL_a0).1.trans hK_a0
      have hL_a0 : wM D S_7 a0 := hX_S_7.M hL_a0
      have hK_a1 : sK S_7 a1 = 1 := (hX_S_7.2 a1 hL_a1).1.trans hK_a1
      have hL_a1 : wM D S_7 a1 := hX_S_7.M hL_a1
      have hK_a2 : sK S_7 a2 = 12 := (hX_S_7.2 a2 hL_a2).1.trans hK_a2
      have hL_a2 : wM D S_7 a2 := hX_S_7.M hL_a2
      refine lv_if_lt (tgt := 64) hx hb dX6_readRights_32 (by decide) (fun c_8 => ?_) (fun c_8 => ?_)
      · replace hp := hp.1 c_8
        exact t_X6_readRights_64 F hr hlocks hK hp hW hE (lv_sub hl [0] rfl) hL_a0 hK_a0
      · replace hp := hp.2 c_8
        refine lv_aload_n hx hb dX6_readRights_35 rfl (lv_at hl 2 rfl) ?_
        refine lv_dup hx hb dX6_readRights_36 rfl ?_
        refine w_getN (k := 12) (f := 6) (T := TX7) (v := .int (sI S_7 a2 6)) F hK hW hL_a2 hK_a2 (by decide) rfl rfl (by decide) i_12 (hK.2.1 (.fieldLinkNest "OpeningsCabinet$Papers" 56 "OpeningsCabinet$Position" "rights" "I" "OpeningsCabinet") (by decide +kernel)) rfl dX6_readRights_37 ?_
        refine lv_iconst (v := 1) hx hb dX6_readRights_40 (by decide) ?_
        refine w_str F hK (show ("OpeningsCabinet$Papers", 59, "KQkq", 10) ∈ wStr by decide +kernel) dX6_readRights_41 ?_
        obtain ⟨y_9, ey_9⟩ : ∃ z : Nat, z = D.2.2.1 10 := ⟨_, rfl⟩
        rw [← ey_9]
        replace hp := hp y_9 ey_9
        obtain ⟨hL_y_9, hK_y_9⟩ : wM D S_7 y_9 ∧ sK S_7 y_9 = 0 := by rw [ey_9]; exact w_strM hK hW (show ("OpeningsCabinet$Papers", 59, "KQkq", 10) ∈ wStr by decide +kernel)
        refine lv_iload_n hx hb dX6_readRights_43 rfl (lv_at hl 3 rfl) ?_
        refine w_callI (va_runV (As := [.int x3]) (rest := [.int (1 : Int32), .int (sI S_7 a2 6), .ref a2]) F (c_J0_indexOf_0f7a4 l hL_y_9 hK_y_9 hp H.size) (cwV (C := RJ0) 1 hts (wg_V wm_RX6_127 wy_J0_indexOf_0f7a4) rfl rfl rfl (by decide +kernel) ⟨Nat.le_of_ble_eq_true rfl, Nat.le_of_ble_eq_true rfl⟩) (w_preV hK hW hL_y_9 hK_y_9 (by decide) rfl) rfl rfl hl.1 rfl (lv_room (Nat.le_of_ble_eq_true rfl)) dX6_readRights_44 ⟨Nat.le_of_ble_eq_true rfl, Nat.le_of_ble_eq_true rfl⟩) hW (fun r_10 S_11 H locs hp hW => ?_)
        obtain ⟨hX_S_11, hp⟩ := hp
        refine W.widen (k := 0) (n := 0) (by decide) (by decide) ?_
        have hE := hE.trans hX_S_11
        have hK_a0 : sK S_11 a0 = 11 := (hX_S_11.2 a0 hL_a0).1.trans hK_a0
        have hL_a0 : wM D S_11 a0 := hX_S_11.M hL_a0
        have hK_a1 : sK S_11 a1 = 1 := (hX_S_11.2 a1 hL_a1).1.trans hK_a1
        have hL_a1 : wM D S_11 a1 := hX_S_11.M hL_a1
        have hK_a2 : sK S_11 a2 = 12 := (hX_S_11.2 a2 hL_a2).1.trans hK_a2
        have hL_a2 : wM D S_11 a2 := hX_S_11.M hL_a2
        refine lv_ishl hx hb dX6_readRights_47 ?_
        refine lv_ior hx hb dX6_readRights_48 ?_
        refine w_putIN (k := 12) (f := 6) (T := TX7) F hK hW hL_a2 hK_a2 (by decide) (by decide) rfl rfl (by decide) i_12 tyX7 tyX7_ok nmX7 (hK.2.1 (.fieldLinkNest "OpeningsCabinet$Papers" 56 "OpeningsCabinet$Position" "rights" "I" "OpeningsCabinet") (by decide +kernel)) rfl rfl (ty := .int) rfl rfl rfl dX6_readRights_49 (fun H locs hW => ?_)
        obtain ⟨S_12, eS_12⟩ : ∃ z : wS, z = uI S_11 a2 6 ((sI S_7 a2 6) ||| ((1 : Int32) <<< (r_10 &&& 31))) := ⟨_, rfl⟩
        rw [← eS_12] at hW
        replace hp := hp S_12 eS_12
        have hX_S_12 : wX D S_11 S_12 := by rw [eS_12]; exact wX_uI
        have hE := hE.trans hX_S_12
        have hK_a0 : sK S_12 a0 = 11 := (hX_S_12.2 a0 hL_a0).1.trans hK_a0
        have hL_a0 : wM D S_12 a0 := hX_S_12.M hL_a0
        have hK_a1 : sK S_12 a1 = 1 := (hX_S_12.2 a1 hL_a1).1.trans hK_a1
        have hL_a1 : wM D S_12 a1 := hX_S_12.M hL_a1
        have hK_a2 : sK S_12 a2 = 12 := (hX_S_12.2 a2 hL_a2).1.trans hK_a2
        have hL_a2 : wM D S_12 a2 := hX_S_12.M hL_a2
        refine lv_aload_n hx hb dX6_readRights_52 rfl (lv_at hl 0 rfl) ?_
        refine lv_aload_n hx hb dX6_readRights_53 rfl (lv_at hl 1 rfl) ?_
        refine w_callI (va_runV (As := [.ref a1]) (rest := []) F (c_X6_next l hL_a0 hK_a0 hL_a1 hK_a1 hp H.size) (cwV (C := RX6) 1 hts (wg_V wm_RX6_99 wy_X6_next) rfl rfl rfl (by decide +kernel) ⟨Nat.le_of_ble_eq_true rfl, Nat.le_of_ble_eq_true rfl⟩) (w_preV hK hW hL_a0 hK_a0 (by decide) rfl) rfl rfl hl.1 rfl (lv_room (Nat.le_of_ble_eq_true rfl)) dX6_readRights_54 ⟨Nat.le_of_ble_eq_true rfl, Nat.le_of_ble_eq_true rfl⟩) hW (fun r_13 S_14 H locs hp hW => ?_)
        obtain ⟨hX_S_14, hp⟩ := hp
        refine W.widen (k := 0) (n := 0) (by decide) (by decide) ?_
        have hE := hE.trans hX_S_14
        have hK_a0 : sK S_14 a0 = 11 := (hX_S_14.2 a0 hL_a0).1.trans hK_a0
        have hL_a0 : wM D S_14 a0 := hX_S_14.M hL_a0
        have hK_a1 : sK S_14 a1 = 1 := (hX_S_14.2 a1 hL_a1).1.trans hK_a1
        have hL_a1 : wM D S_14 a1 := hX_S_14.M hL_a1
        have hK_a2 : sK S_14 a2 = 12 := (hX_S_14.2 a2 hL_a2).1.trans hK_a2
        have hL_a2 : wM D S_14 a2 := hX_S_14.M hL_a2
        refine lv_istore_n (lv' := [(3, .int r_13), (0, .ref a0), (1, .ref a1), (2, .ref a2), (4, .int x4)]) hx hb dX6_readRights_57 rfl hl (by decide) rfl (fun ls hl => ?_)
        obtain ⟨x_15, ex_15⟩ : ∃ z : Int32, z = x4 + 1 := ⟨_, rfl⟩
        replace hp := hp x_15 ex_15
        refine lv_iinc (v := x_15) (lv' := [(4, .int x_15), (3, .int r_13), (0, .ref a0), (1, .ref a1), (2, .ref a2)]) hx hb dX6_readRights_58 hl (k := 4) rfl (by rw [ex_15]; rfl) (by decide) rfl (fun ls hl => ?_)
        refine lv_goto (tgt := 16) hx hb dX6_readRights_61 (by decide) ?_
        exact ih hp hW hE (lv_sub hl [2, 3, 4, 1, 0] rfl) hL_a0 hK_a0 hL_a1 hK_a1 hL_a2 hK_a2
set_option maxHeartbeats 4000000 in
set_option maxRecDepth 100000 in
theorem t_X6_readRights_0 {p : Program} {l : Launch} {e : Env} {s : State} {m : MethodId} {args : Array Value} {below : List Frame} {meth : Method} {c : Code} {D : wD} {cy : Nat → ClassId} {X : va_W} {A : Nat → Prop} {S0 : wS} {post : wS → Prop} (F : CallFix p m c cX6_readRights 5 s args wz_X6_readRights RX6) (hr : meth.sig.returnType = none) (hlocks : meth.locks = false) (hK : wK D cy A s) : ∀ {S : wS} {H : Heap} {locs : List Loc} {ls : Array Slot} {a0 : Nat} {a1 : Nat} {a2 : Nat}, wp_X6_readRights_0 D post S a0 a1 a2 → wO D cy X A s.heap S H locs → wX D S0 S → lv_has ls 5 [(0, .ref a0), (1, .ref a1), (2, .ref a2)] → wM D S a0 → sK S a0 = 11 → wM D S a1 → sK S a1 = 1 → wM D S a2 → sK S a2 = 12 → W p l e r_X6_readRights s m args below meth c H locs 0 0 (MQ below (va_Qv (fun S9 => wX D S0 S9 ∧ post S9) (wB D cy X A) A) args s 0 0 A) (F0 m 0 ls []) := by
  obtain ⟨hx, hb, hml, hown, hts⟩ := id F
  have hwg : ∀ w ∈ WG, w.before args s = true := fun w h => hts w (List.mem_cons_of_mem _ h)
  intro S H locs ls a0 a1 a2 hp hW hE hl hL_a0 hK_a0 hL_a1 hK_a1 hL_a2 hK_a2
  unfold wp_X6_readRights_0 at hp
  refine lv_aload_n hx hb dX6_readRights_0 rfl (lv_at hl 0 rfl) ?_
  refine lv_aload_n hx hb dX6_readRights_1 rfl (lv_at hl 1 rfl) ?_
  refine w_callI (va_runV (As := [.ref a1]) (rest := []) F (c_X6_next l hL_a0 hK_a0 hL_a1 hK_a1 hp H.size) (cwV (C := RX6) 1 hts (wg_V wm_RX6_99 wy_X6_next) rfl rfl rfl (by decide +kernel) ⟨Nat.le_of_ble_eq_true rfl, Nat.le_of_ble_eq_true rfl⟩) (w_preV hK hW hL_a0 hK_a0 (by decide) rfl) rfl rfl hl.1 rfl (lv_room (Nat.le_of_ble_eq_true rfl)) dX6_readRights_2 ⟨Nat.le_of_ble_eq_true rfl, Nat.le_of_ble_eq_true rfl⟩) hW (fun r_1 S_2 H locs hp hW => ?_)
  obtain ⟨hX_S_2, hp⟩ := hp
  refine W.widen (k := 0) (n := 0) (by decide) (by decide) ?_
  have hE := hE.trans hX_S_2
  have hK_a0 : sK S_2 a0 = 11 := (hX_S_2.2 a0 hL_a0).1.trans hK_a0
  have hL_a0 : wM D S_2 a0 := hX_S_2.M hL_a0
  have hK_a1 : sK S_2 a1 = 1 := (hX_S_2.2 a1 hL_a1).1.trans hK_a1
  have hL_a1 : wM D S_2 a1 := hX_S_2.M hL_a1
  have hK_a2 : sK S_2 a2 = 12 := (hX_S_2.2 a2 hL_a2).1.trans hK_a2
  have hL_a2 : wM D S_2 a2 := hX_S_2.M hL_a2
  refine lv_istore_n (lv' := [(3, .int r_1), (0, .ref a0), (1, .ref a1), (2, .ref a2)]) hx hb dX6_readRights_5 rfl hl (by decide) rfl (fun ls hl => ?_)
  refine lv_iload_n hx hb dX6_readRights_6 rfl (lv_at hl 0 rfl) ?_
  refine lv_bipush (v := 45) hx hb dX6_readRights_7 (by decide) ?_
  refine lv_icmp_ne (tgt := 13) hx hb dX6_readRights_9 (by decide) (fun c_3 => ?_) (fun c_3 => ?_)
  · replace hp := hp.1 c_3
    refine lv_iconst (v := 0) hx hb dX6_readRights_13 (by decide) ?_
    refine lv_istore (lv' := [(4, .int (0 : Int32)), (3, .int r_1), (0, .ref a0), (1, .ref a1), (2, .ref a2)]) hx hb dX6_readRights_14 hl (by decide) rfl (fun ls hl => ?_)
    obtain ⟨n_4, hp⟩ := hp
    exact t_X6_readRights_16 F hr hlocks hK n_4 hp hW hE (lv_sub hl [2, 3, 4, 1, 0] rfl) hL_a0 hK_a0 hL_a1 hK_a1 hL_a2 hK_a2
  · replace hp := hp.2 c_3
    exact w_vret hx hb hr hlocks hW ⟨hE, hp⟩ dX6_readRights_12
set_option maxHeartbeats 4000000 in
set_option maxRecDepth 100000 in
theorem c_X6_readRights (l : Launch) {D : wD} {cy : Nat → ClassId} {X : va_W} {S0 : wS} {post : wS → Prop} {a0 : Nat} {a1 : Nat} {a2 : Nat} (hL_a0 : wM D S0 a0) (hK_a0 : sK S0 a0 = 11) (hL_a1 : wM D S0 a1) (hK_a1 : sK S0 a1 = 1) (hL_a2 : wM D S0 a2) (hK_a2 : sK S0 a2 = 12) (hp : wp_X6_readRights D post S0 a0 a1 a2) : mV D cy X l yX6_readRights wz_X6_readRights r_X6_readRights [.ref a0, .ref a1, .ref a2] S0 (fun S9 => wX D S0 S9 ∧ post S9) := by
  intro sz
  refine Met.ofW (cc := cX6_readRights) (maxL := 5) (ret := none) (by decide) rfl ?_
  intro p e s m args below meth c s₁ B hml hv
  obtain ⟨rfl, hsz, hP, hK, hD0, hRO⟩ := hv
  have hts := atoms_spec (ws := wz_X6_readRights) B.pre
  have hown : s.vm.findClass RX6 = some m.cls := findClass_of_methodNamed B.named
  subst hsz
  have hD := hD0.self (sz := s.heap.size)
  have F : CallFix p m c cX6_readRights 5 s _ wz_X6_readRights RX6 := ⟨B.exec, B.bytes, hml, hown, hts⟩
  have hr := B.returns
  have hlocks := B.notSynchronized
  generalize hAe : va_A (wL cy X S0) s.heap.size = A at hD hK ⊢
  have hA : ∀ q, s.heap.size ≤ q → A q := fun q h => by rw [← hAe]; exact Or.inr h
  have hW : wO D cy X A s.heap S0 s.heap [] := ⟨hP, hD, va_S.rf, hA, hRO⟩
  have hl := lv_entry ([.ref a0, .ref a1, .ref a2]) (n := 5) (Nat.le_of_ble_eq_true rfl)
  rw [lg_entry_eq]
  generalize (lg_sl ([.ref a0, .ref a1, .ref a2]) ++ List.replicate (5 - (lg_sl ([.ref a0, .ref a1, .ref a2])).length) Slot.unset).toArray = ls at hl ⊢
  have hl : lv_has ls 5 [(0, .ref a0), (1, .ref a1), (2, .ref a2)] := hl
  unfold wp_X6_readRights at hp
  exact t_X6_readRights_0 F hr hlocks hK hp hW wX.rf (lv_sub hl [0, 1, 2] rfl) hL_a0 hK_a0 hL_a1 hK_a1 hL_a2 hK_a2
def wp_X6_readSquares_95 (D : wD) (post : wS → Prop) (k_10 : wS → Nat → Nat → Nat → Int32 → Prop) (k_17 : wS → Nat → Nat → Nat → Int32 → Int32 → Prop) (S : wS) (a0 : Nat) (a1 : Nat) (a2 : Nat) (x3 : Int32) (x4 : Int32) : Prop :=
∀ x_1 : Int32, x_1 = x4 + 1 →
k_17 S a0 a1 a2 x3 x_1
def wp_X6_readSquares_17 (D : wD) (post : wS → Prop) (k_10 : wS → Nat → Nat → Nat → Int32 → Prop) : Nat → wS → Nat → Nat → Nat → Int32 → Int32 → Prop
  | 0, _, _, _, _, _, _ => False
  | n + 1, S, a0, a1, a2, x3, x4 =>
    ∃ y_1 : Nat, sR S a0 0 = some y_1 ∧ wM D S y_1 ∧ sK S y_1 = 5 ∧
    (((sI S y_1 0) ≤ x4 → wp_X6_next D (fun r_3 S_4 => 
    ∀ x_5 : Int32, x_5 = x3 + (-1) →
    k_10 S_4 a0 a1 a2 x_5) S a0 a1) ∧
     (¬ (sI S y_1 0) ≤ x4 → wp_X6_next D (fun r_6 S_7 => 
    ∀ y_8 : Nat, y_8 = D.2.2.1 1 →
    wp_J0_indexOf_0f7a4 D (fun r_9 S_10 => 
    ((r_9 ≤ 0 → ((r_6 ≤ (49 : Int32) → wp_X6_readSquares_95 D post k_10 (wp_X6_readSquares_17 D post k_10 n) S_10 a0 a1 a2 x3 x4) ∧
     (¬ r_6 ≤ (49 : Int32) → (((56 : Int32) < r_6 → wp_X6_readSquares_95 D post k_10 (wp_X6_readSquares_17 D post k_10 n) S_10 a0 a1 a2 x3 x4) ∧
     (¬ (56 : Int32) < r_6 → ∀ x_14 : Int32, x_14 = (x4 + (r_6 - (49 : Int32))) →
    wp_X6_readSquares_95 D post k_10 (wp_X6_readSquares_17 D post k_10 n) S_10 a0 a1 a2 x3 x_14))))) ∧
     (¬ r_9 ≤ 0 → ∃ y_15 : Nat, sR S_10 a0 0 = some y_15 ∧ wM D S_10 y_15 ∧ sK S_10 y_15 = 5 ∧
    wp_X7_place D (fun S_17 => 
    wp_X6_readSquares_95 D post k_10 (wp_X6_readSquares_17 D post k_10 n) S_17 a0 a1 a2 x3 x4) S_10 a2 ((x3 * (sI S_10 y_15 0)) + x4) r_9))) S_7 y_8 r_6) S a0 a1))
def wp_X6_readSquares_10 (D : wD) (post : wS → Prop)  : Nat → wS → Nat → Nat → Nat → Int32 → Prop
  | 0, _, _, _, _, _ => False
  | n + 1, S, a0, a1, a2, x3 =>
    ((x3 < 0 → post S) ∧
     (¬ x3 < 0 → ∃ n_2 : Nat, wp_X6_readSquares_17 D post (wp_X6_readSquares_10 D post n) n_2 S a0 a1 a2 x3 (0 : Int32)))
def wp_X6_readSquares_0 (D : wD) (post : wS → Prop)  (S : wS) (a0 : Nat) (a1 : Nat) (a2 : Nat) : Prop :=
∃ y_1 : Nat, sR S a0 0 = some y_1 ∧ wM D S y_1 ∧ sK S y_1 = 5 ∧
∀ x_2 : Int32, x_2 = ((sI S y_1 1) - (1 : Int32)) →
∃ n_3 : Nat, wp_X6_readSquares_10 D post n_3 S a0 a1 a2 x_2
abbrev r_X6_readSquares : Room := { frames := 7, cells := 0, slots := 0, locals := 159 }
def wp_X6_readSquares (D : wD) (post : wS → Prop) (S : wS) (a0 : Nat) (a1 : Nat) (a2 : Nat) : Prop := wp_X6_readSquares_0 D post S a0 a1 a2
set_option maxHeartbeats 4000000 in
set_option maxRecDepth 100000 in
theorem t_X6_readSquares_95 {p : Program} {l : Launch} {e : Env} {s : State} {m : MethodId} {args : Array Value} {below : List Frame} {meth : Method} {c : Code} {D : wD} {cy : Nat → ClassId} {X : va_W} {A : Nat → Prop} {S0 : wS} {post : wS → Prop} (F : CallFix p m c cX6_readSquares 7 s args wz_X6_readSquares RX6) (hr : meth.sig.returnType = none) (hlocks : meth.locks = false) (hK : wK D cy A s) {k_10 : wS → Nat → Nat → Nat → Int32 → Prop} (q_10 : ∀ {S : wS} {H : Heap} {locs : List Loc} {ls : Array Slot} {a0 : Nat} {a1 : Nat} {a2 : Nat} {x3 : Int32}, k_10 S a0 a1 a2 x3 → wO D cy X A s.heap S H locs → wX D S0 S → lv_has ls 7 [(0, .ref a0), (1, .ref a1), (2, .ref a2), (3, .int x3)] → wM D S a0 → sK S a0 = 11 → wM D S a1 → sK S a1 = 1 → wM D S a2 → sK S a2 = 12 → W p l e r_X6_readSquares s m args below meth c H locs 0 0 (MQ below (va_Qv (fun S9 => wX D S0 S9 ∧ post S9) (wB D cy X A) A) args s 0 0 A) (F0 m 10 ls [])) {k_17 : wS → Nat → Nat → Nat → Int32 → Int32 → Prop} (q_17 : ∀ {S : wS} {H : Heap} {locs : List Loc} {ls : Array Slot} {a0 : Nat} {a1 : Nat} {a2 : Nat} {x3 : Int32} {x4 : Int32}, k_17 S a0 a1 a2 x3 x4 → wO D cy X A s.heap S H locs → wX D S0 S → lv_has ls 7 [(0, .ref a0), (1, .ref a1), (2, .ref a2), (3, .int x3), (4, .int x4)] → wM D S a0 → sK S a0 = 11 → wM D S a1 → sK S a1 = 1 → wM D S a2 → sK S a2 = 12 → W p l e r_X6_readSquares s m args below meth c H locs 0 0 (MQ below (va_Qv (fun S9 => wX D S0 S9 ∧ post S9) (wB D cy X A) A) args s 0 0 A) (F0 m 17 ls [])) : ∀ {S : wS} {H : Heap} {locs : List Loc} {ls : Array Slot} {a0 : Nat} {a1 : Nat} {a2 : Nat} {x3 : Int32} {x4 : Int32}, wp_X6_readSquares_95 D post k_10 k_17 S a0 a1 a2 x3 x4 → wO D cy X A s.heap S H locs → wX D S0 S → lv_has ls 7 [(0, .ref a0), (1, .ref a1), (2, .ref a2), (3, .int x3), (4, .int x4)] → wM D S a0 → sK S a0 = 11 → wM D S a1 → sK S a1 = 1 → wM D S a2 → sK S a2 = 12 → W p l e r_X6_readSquares s m args below meth c H locs 0 0 (MQ below (va_Qv (fun S9 => wX D S0 S9 ∧ post S9) (wB D cy X A) A) args s 0 0 A) (F0 m 95 ls []) := by
  obtain ⟨hx, hb, hml, hown, hts⟩ := id F
  have hwg : ∀ w ∈ WG, w.before args s = true := fun w h => hts w (List.mem_cons_of_mem _ h)
  intro S H locs ls a0 a1 a2 x3 x4 hp hW hE hl hL_a0 hK_a0 hL_a1 hK_a1 hL_a2 hK_a2
  unfold wp_X6_readSquares_95 at hp
  obtain ⟨x_1, ex_1⟩ : ∃ z : Int32, z = x4 + 1 := ⟨_, rfl⟩
  replace hp := hp x_1 ex_1
  refine lv_iinc (v := x_1) (lv' := [(4, .int x_1), (0, .ref a0), (1, .ref a1), (2, .ref a2), (3, .int x3)]) hx hb dX6_readSquares_95 hl (k := 4) rfl (by rw [ex_1]; rfl) (by decide) rfl (fun ls hl => ?_)
  refine lv_goto (tgt := 17) hx hb dX6_readSquares_98 (by decide) ?_
  exact q_17 hp hW hE (lv_sub hl [1, 2, 3, 4, 0] rfl) hL_a0 hK_a0 hL_a1 hK_a1 hL_a2 hK_a2
set_option maxHeartbeats 4000000 in
set_option maxRecDepth 100000 in
theorem t_X6_readSquares_17 {p : Program} {l : Launch} {e : Env} {s : State} {m : MethodId} {args : Array Value} {below : List Frame} {meth : Method} {c : Code} {D : wD} {cy : Nat → ClassId} {X : va_W} {A : Nat → Prop} {S0 : wS} {post : wS → Prop} (F : CallFix p m c cX6_readSquares 7 s args wz_X6_readSquares RX6) (hr : meth.sig.returnType = none) (hlocks : meth.locks = false) (hK : wK D cy A s) {k_10 : wS → Nat → Nat → Nat → Int32 → Prop} (q_10 : ∀ {S : wS} {H : Heap} {locs : List Loc} {ls : Array Slot} {a0 : Nat} {a1 : Nat} {a2 : Nat} {x3 : Int32}, k_10 S a0 a1 a2 x3 → wO D cy X A s.heap S H locs → wX D S0 S → lv_has ls 7 [(0, .ref a0), (1, .ref a1), (2, .ref a2), (3, .int x3)] → wM D S a0 → sK S a0 = 11 → wM D S a1 → sK S a1 = 1 → wM D S a2 → sK S a2 = 12 → W p l e r_X6_readSquares s m args below meth c H locs 0 0 (MQ below (va_Qv (fun S9 => wX D S0 S9 ∧ post S9) (wB D cy X A) A) args s 0 0 A) (F0 m 10 ls [])) : ∀ (n : Nat) {S : wS} {H : Heap} {locs : List Loc} {ls : Array Slot} {a0 : Nat} {a1 : Nat} {a2 : Nat} {x3 : Int32} {x4 : Int32}, wp_X6_readSquares_17 D post k_10 n S a0 a1 a2 x3 x4 → wO D cy X A s.heap S H locs → wX D S0 S → lv_has ls 7 [(0, .ref a0), (1, .ref a1), (2, .ref a2), (3, .int x3), (4, .int x4)] → wM D S a0 → sK S a0 = 11 → wM D S a1 → sK S a1 = 1 → wM D S a2 → sK S a2 = 12 → W p l e r_X6_readSquares s m args below meth c H locs 0 0 (MQ below (va_Qv (fun S9 => wX D S0 S9 ∧ post S9) (wB D cy X A) A) args s 0 0 A) (F0 m 17 ls []) := by
  obtain ⟨hx, hb, hml, hown, hts⟩ := id F
  have hwg : ∀ w ∈ WG, w.before args s = true := fun w h => hts w (List.mem_cons_of_mem _ h)
  have i_11 : ∀ w ∈ u_ws RX6 TX6 3, w ∈ wz_X6_readSquares := fun w h => List.mem_cons_of_mem _ (wu_11 w h)
  have i_5 : ∀ w ∈ u_ws RX0 TX0 12, w ∈ wz_X6_readSquares := fun w h => List.mem_cons_of_mem _ (wu_5 w h)
  have k_22 := hwg _ wf_RX6_22
  intro n
  induction n with
  | zero =>
    intro S H locs ls a0 a1 a2 x3 x4 hp
    exact hp.elim
  | succ n ih =>
    intro S H locs ls a0 a1 a2 x3 x4 hp hW hE hl hL_a0 hK_a0 hL_a1 hK_a1 hL_a2 hK_a2
    unfold wp_X6_readSquares_17 at hp
    refine lv_iload hx hb dX6_readSquares_17 (lv_at hl 4 rfl) ?_
    refine lv_aload_n hx hb dX6_readSquares_19 rfl (lv_at hl 0 rfl) ?_
    obtain ⟨y_1, ey_1, hL_y_1, hK_y_1, hp⟩ := hp
    refine w_get (k := 11) (f := 0) (T := TX6) (v := .ref y_1) F hK hW hL_a0 hK_a0 (by decide) rfl rfl (by decide) i_11 k_22 (by rw [show wv 11 0 S a0 = va_rf (sR S a0 0) from rfl, ey_1]; rfl) dX6_readSquares_20 ?_
    refine w_getN (k := 5) (f := 0) (T := TX0) (v := .int (sI S y_1 0)) F hK hW hL_y_1 hK_y_1 (by decide) rfl rfl (by decide) i_5 (hK.2.1 (.fieldLinkNest "OpeningsCabinet$Papers" 81 "OpeningsCabinet$Board" "files" "I" "OpeningsCabinet") (by decide +kernel)) rfl dX6_readSquares_23 ?_
    refine lv_icmp_ge (tgt := 101) hx hb dX6_readSquares_26 (by decide) (fun c_2 => ?_) (fun c_2 => ?_)
    · replace hp := hp.1 c_2
      refine lv_aload_n hx hb dX6_readSquares_101 rfl (lv_at hl 0 rfl) ?_
      refine lv_aload_n hx hb dX6_readSquares_102 rfl (lv_at hl 1 rfl) ?_
      refine w_callI (va_runV (As := [.ref a1]) (rest := []) F (c_X6_next l hL_a0 hK_a0 hL_a1 hK_a1 hp H.size) (cwV (C := RX6) 1 hts (wg_V wm_RX6_99 wy_X6_next) rfl rfl rfl (by decide +kernel) ⟨Nat.le_of_ble_eq_true rfl, Nat.le_of_ble_eq_true rfl⟩) (w_preV hK hW hL_a0 hK_a0 (by decide) rfl) rfl rfl hl.1 rfl (lv_room (Nat.le_of_ble_eq_true rfl)) dX6_readSquares_103 ⟨Nat.le_of_ble_eq_true rfl, Nat.le_of_ble_eq_true rfl⟩) hW (fun r_3 S_4 H locs hp hW => ?_)
      obtain ⟨hX_S_4, hp⟩ := hp
      refine W.widen (k := 0) (n := 0) (by decide) (by decide) ?_
      have hE := hE.trans hX_S_4
      have hK_a0 : sK S_4 a0 = 11 := (hX_S_4.2 a0 hL_a0).1.trans hK_a0
      have hL_a0 : wM D S_4 a0 := hX_S_4.M hL_a0
      have hK_a1 : sK S_4 a1 = 1 := (hX_S_4.2 a1 hL_a1).1.trans hK_a1
      have hL_a1 : wM D S_4 a1 := hX_S_4.M hL_a1
      have hK_a2 : sK S_4 a2 = 12 := (hX_S_4.2 a2 hL_a2).1.trans hK_a2
      have hL_a2 : wM D S_4 a2 := hX_S_4.M hL_a2
      refine lv_pop hx hb dX6_readSquares_106 rfl ?_
      obtain ⟨x_5, ex_5⟩ : ∃ z : Int32, z = x3 + (-1) := ⟨_, rfl⟩
      replace hp := hp x_5 ex_5
      refine lv_iinc (v := x_5) (lv' := [(3, .int x_5), (0, .ref a0), (1, .ref a1), (2, .ref a2), (4, .int x4)]) hx hb dX6_readSquares_107 hl (k := 3) rfl (by rw [ex_5]; rfl) (by decide) rfl (fun ls hl => ?_)
      refine lv_goto (tgt := 10) hx hb dX6_readSquares_110 (by decide) ?_
      exact q_10 hp hW hE (lv_sub hl [1, 2, 3, 0] rfl) hL_a0 hK_a0 hL_a1 hK_a1 hL_a2 hK_a2
    · replace hp := hp.2 c_2
      refine lv_aload_n hx hb dX6_readSquares_29 rfl (lv_at hl 0 rfl) ?_
      refine lv_aload_n hx hb dX6_readSquares_30 rfl (lv_at hl 1 rfl) ?_
      refine w_callI (va_runV (As := [.ref a1]) (rest := []) F (c_X6_next l hL_a0 hK_a0 hL_a1 hK_a1 hp H.size) (cwV (C := RX6) 1 hts (wg_V wm_RX6_99 wy_X6_next) rfl rfl rfl (by decide +kernel) ⟨Nat.le_of_ble_eq_true rfl, Nat.le_of_ble_eq_true rfl⟩) (w_preV hK hW hL_a0 hK_a0 (by decide) rfl) rfl rfl hl.1 rfl (lv_room (Nat.le_of_ble_eq_true rfl)) dX6_readSquares_31 ⟨Nat.le_of_ble_eq_true rfl, Nat.le_of_ble_eq_true rfl⟩) hW (fun r_6 S_7 H locs hp hW => ?_)
      obtain ⟨hX_S_7, hp⟩ := hp
      refine W.widen (k := 0) (n := 0) (by decide) (by decide) ?_
      have hE := hE.trans hX_S_7
      have hK_a0 : sK S_7 a0 = 11 := (hX_S_7.2 a0 hL_a0).1.trans hK_a0
      have hL_a0 : wM D S_7 a0 := hX_S_7.M hL_a0
      have hK_a1 : sK S_7 a1 = 1 := (hX_S_7.2 a1 hL_a1).1.trans hK_a1
      have hL_a1 : wM D S_7 a1 := hX_S_7.M hL_a1
      have hK_a2 : sK S_7 a2 = 12 := (hX_S_7.2 a2 hL_a2).1.trans hK_a2
      have hL_a2 : wM D S_7 a2 := hX_S_7.M hL_a2
      refine lv_istore (lv' := [(5, .int r_6), (0, .ref a0), (1, .ref a1), (2, .ref a2), (3, .int x3), (4, .int x4)]) hx hb dX6_readSquares_34 hl (by decide) rfl (fun ls hl => ?_)
      refine w_str F hK (show ("OpeningsCabinet$Papers", 90, " KQRBNPkqrbnp", 1) ∈ wStr by decide +kernel) dX6_readSquares_36 ?_
      obtain ⟨y_8, ey_8⟩ : ∃ z : Nat, z = D.2.2.1 1 := ⟨_, rfl⟩
      rw [← ey_8]
      replace hp := hp y_8 ey_8
      obtain ⟨hL_y_8, hK_y_8⟩ : wM D S_7 y_8 ∧ sK S_7 y_8 = 0 := by rw [ey_8]; exact w_strM hK hW (show ("OpeningsCabinet$Papers", 90, " KQRBNPkqrbnp", 1) ∈ wStr by decide +kernel)
      refine lv_iload hx hb dX6_readSquares_38 (lv_at hl 0 rfl) ?_
      refine w_callI (va_runV (As := [.int r_6]) (rest := []) F (c_J0_indexOf_0f7a4 l hL_y_8 hK_y_8 hp H.size) (cwV (C := RJ0) 1 hts (wg_V wm_RX6_127 wy_J0_indexOf_0f7a4) rfl rfl rfl (by decide +kernel) ⟨Nat.le_of_ble_eq_true rfl, Nat.le_of_ble_eq_true rfl⟩) (w_preV hK hW hL_y_8 hK_y_8 (by decide) rfl) rfl rfl hl.1 rfl (lv_room (Nat.le_of_ble_eq_true rfl)) dX6_readSquares_40 ⟨Nat.le_of_ble_eq_true rfl, Nat.le_of_ble_eq_true rfl⟩) hW (fun r_9 S_10 H locs hp hW => ?_)
      obtain ⟨hX_S_10, hp⟩ := hp
      refine W.widen (k := 0) (n := 0) (by decide) (by decide) ?_
      have hE := hE.trans hX_S_10
      have hK_a0 : sK S_10 a0 = 11 := (hX_S_10.2 a0 hL_a0).1.trans hK_a0
      have hL_a0 : wM D S_10 a0 := hX_S_10.M hL_a0
      have hK_a1 : sK S_10 a1 = 1 := (hX_S_10.2 a1 hL_a1).1.trans hK_a1
      have hL_a1 : wM D S_10 a1 := hX_S_10.M hL_a1
      have hK_a2 : sK S_10 a2 = 12 := (hX_S_10.2 a2 hL_a2).1.trans hK_a2
      have hL_a2 : wM D S_10 a2 := hX_S_10.M hL_a2
      refine lv_istore (lv' := [(6, .int r_9), (5, .int r_6), (0, .ref a0), (1, .ref a1), (2, .ref a2), (3, .int x3), (4, .int x4)]) hx hb dX6_readSquares_43 hl (by decide) rfl (fun ls hl => ?_)
      refine lv_iload hx hb dX6_readSquares_45 (lv_at hl 0 rfl) ?_
      refine lv_if_le (tgt := 71) hx hb dX6_readSquares_47 (by decide) (fun c_11 => ?_) (fun c_11 => ?_)
      · replace hp := hp.1 c_11
        refine lv_iload hx hb dX6_readSquares_71 (lv_at hl 1 rfl) ?_
        refine lv_bipush (v := 49) hx hb dX6_readSquares_73 (by decide) ?_
        refine lv_icmp_le (tgt := 95) hx hb dX6_readSquares_75 (by decide) (fun c_12 => ?_) (fun c_12 => ?_)
        · replace hp := hp.1 c_12
          exact t_X6_readSquares_95 F hr hlocks hK q_10 ih hp hW hE (lv_sub hl [2, 3, 4, 5, 6] rfl) hL_a0 hK_a0 hL_a1 hK_a1 hL_a2 hK_a2
        · replace hp := hp.2 c_12
          refine lv_iload hx hb dX6_readSquares_78 (lv_at hl 1 rfl) ?_
          refine lv_bipush (v := 56) hx hb dX6_readSquares_80 (by decide) ?_
          refine lv_icmp_gt (tgt := 95) hx hb dX6_readSquares_82 (by decide) (fun c_13 => ?_) (fun c_13 => ?_)
          · replace hp := hp.1 c_13
            exact t_X6_readSquares_95 F hr hlocks hK q_10 ih hp hW hE (lv_sub hl [2, 3, 4, 5, 6] rfl) hL_a0 hK_a0 hL_a1 hK_a1 hL_a2 hK_a2
          · replace hp := hp.2 c_13
            refine lv_iload hx hb dX6_readSquares_85 (lv_at hl 6 rfl) ?_
            refine lv_iload hx hb dX6_readSquares_87 (lv_at hl 1 rfl) ?_
            refine lv_bipush (v := 49) hx hb dX6_readSquares_89 (by decide) ?_
            refine lv_isub hx hb dX6_readSquares_91 ?_
            refine lv_iadd hx hb dX6_readSquares_92 ?_
            refine lv_topi (fun x_14 ex_14 => ?_)
            replace hp := hp x_14 ex_14
            refine lv_istore (lv' := [(4, .int x_14), (6, .int r_9), (5, .int r_6), (0, .ref a0), (1, .ref a1), (2, .ref a2), (3, .int x3)]) hx hb dX6_readSquares_93 hl (by decide) rfl (fun ls hl => ?_)
            exact t_X6_readSquares_95 F hr hlocks hK q_10 ih hp hW hE (lv_sub hl [3, 4, 5, 6, 0] rfl) hL_a0 hK_a0 hL_a1 hK_a1 hL_a2 hK_a2
      · replace hp := hp.2 c_11
        refine lv_aload_n hx hb dX6_readSquares_50 rfl (lv_at hl 4 rfl) ?_
        refine lv_iload_n hx hb dX6_readSquares_51 rfl (lv_at hl 5 rfl) ?_
        refine lv_aload_n hx hb dX6_readSquares_52 rfl (lv_at hl 2 rfl) ?_
        obtain ⟨y_15, ey_15, hL_y_15, hK_y_15, hp⟩ := hp
        refine w_get (k := 11) (f := 0) (T := TX6) (v := .ref y_15) F hK hW hL_a0 hK_a0 (by decide) rfl rfl (by decide) i_11 k_22 (by rw [show wv 11 0 S_10 a0 = va_rf (sR S_10 a0 0) from rfl, ey_15]; rfl) dX6_readSquares_53 ?_
        refine w_getN (k := 5) (f := 0) (T := TX0) (v := .int (sI S_10 y_15 0)) F hK hW hL_y_15 hK_y_15 (by decide) rfl rfl (by decide) i_5 (hK.2.1 (.fieldLinkNest "OpeningsCabinet$Papers" 81 "OpeningsCabinet$Board" "files" "I" "OpeningsCabinet") (by decide +kernel)) rfl dX6_readSquares_56 ?_
        refine lv_imul hx hb dX6_readSquares_59 ?_
        refine lv_iload hx hb dX6_readSquares_60 (lv_at hl 6 rfl) ?_
        refine lv_iadd hx hb dX6_readSquares_62 ?_
        refine lv_iload hx hb dX6_readSquares_63 (lv_at hl 0 rfl) ?_
        refine w_callV (va_runV (As := [.int ((x3 * (sI S_10 y_15 0)) + x4), .int r_9]) (rest := []) F (c_X7_place l hL_a2 hK_a2 hp H.size) (cwV (C := RX7) 2 hts (wg_V wm_RX6_130 wy_X7_place) rfl rfl rfl (by decide +kernel) ⟨Nat.le_of_ble_eq_true rfl, Nat.le_of_ble_eq_true rfl⟩) (w_preV hK hW hL_a2 hK_a2 (by decide) rfl) rfl rfl hl.1 rfl (lv_room (Nat.le_of_ble_eq_true rfl)) dX6_readSquares_65 ⟨Nat.le_of_ble_eq_true rfl, Nat.le_of_ble_eq_true rfl⟩) hW (fun S_17 H locs hp hW => ?_)
        obtain ⟨hX_S_17, hp⟩ := hp
        refine W.widen (k := 0) (n := 0) (by decide) (by decide) ?_
        have hE := hE.trans hX_S_17
        have hK_a0 : sK S_17 a0 = 11 := (hX_S_17.2 a0 hL_a0).1.trans hK_a0
        have hL_a0 : wM D S_17 a0 := hX_S_17.M hL_a0
        have hK_a1 : sK S_17 a1 = 1 := (hX_S_17.2 a1 hL_a1).1.trans hK_a1
        have hL_a1 : wM D S_17 a1 := hX_S_17.M hL_a1
        have hK_a2 : sK S_17 a2 = 12 := (hX_S_17.2 a2 hL_a2).1.trans hK_a2
        have hL_a2 : wM D S_17 a2 := hX_S_17.M hL_a2
        refine lv_goto (tgt := 95) hx hb dX6_readSquares_68 (by decide) ?_
        exact t_X6_readSquares_95 F hr hlocks hK q_10 ih hp hW hE (lv_sub hl [2, 3, 4, 5, 6] rfl) hL_a0 hK_a0 hL_a1 hK_a1 hL_a2 hK_a2
set_option maxHeartbeats 4000000 in
set_option maxRecDepth 100000 in
theorem t_X6_readSquares_10 {p : Program} {l : Launch} {e : Env} {s : State} {m : MethodId} {args : Array Value} {below : List Frame} {meth : Method} {c : Code} {D : wD} {cy : Nat → ClassId} {X : va_W} {A : Nat → Prop} {S0 : wS} {post : wS → Prop} (F : CallFix p m c cX6_readSquares 7 s args wz_X6_readSquares RX6) (hr : meth.sig.returnType = none) (hlocks : meth.locks = false) (hK : wK D cy A s) : ∀ (n : Nat) {S : wS} {H : Heap} {locs : List Loc} {ls : Array Slot} {a0 : Nat} {a1 : Nat} {a2 : Nat} {x3 : Int32}, wp_X6_readSquares_10 D post n S a0 a1 a2 x3 → wO D cy X A s.heap S H locs → wX D S0 S → lv_has ls 7 [(0, .ref a0), (1, .ref a1), (2, .ref a2), (3, .int x3)] → wM D S a0 → sK S a0 = 11 → wM D S a1 → sK S a1 = 1 → wM D S a2 → sK S a2 = 12 → W p l e r_X6_readSquares s m args below meth c H locs 0 0 (MQ below (va_Qv (fun S9 => wX D S0 S9 ∧ post S9) (wB D cy X A) A) args s 0 0 A) (F0 m 10 ls []) := by
  obtain ⟨hx, hb, hml, hown, hts⟩ := id F
  have hwg : ∀ w ∈ WG, w.before args s = true := fun w h => hts w (List.mem_cons_of_mem _ h)
  intro n
  induction n with
  | zero =>
    intro S H locs ls a0 a1 a2 x3 hp
    exact hp.elim
  | succ n ih =>
    intro S H locs ls a0 a1 a2 x3 hp hW hE hl hL_a0 hK_a0 hL_a1 hK_a1 hL_a2 hK_a2
    unfold wp_X6_readSquares_10 at hp
    refine lv_iload_n hx hb dX6_readSquares_10 rfl (lv_at hl 3 rfl) ?_
    refine lv_if_lt (tgt := 113) hx hb dX6_readSquares_11 (by decide) (fun c_1 => ?_) (fun c_1 => ?_)
    · replace hp := hp.1 c_1
      exact w_vret hx hb hr hlocks hW ⟨hE, hp⟩ dX6_readSquares_113
    · replace hp := hp.2 c_1
      refine lv_iconst (v := 0) hx hb dX6_readSquares_14 (by decide) ?_
      refine lv_istore (lv' := [(4, .int (0 : Int32)), (0, .ref a0), (1, .ref a1), (2, .ref a2), (3, .int x3)]) hx hb dX6_readSquares_15 hl (by decide) rfl (fun ls hl => ?_)
      obtain ⟨n_2, hp⟩ := hp
      exact t_X6_readSquares_17 F hr hlocks hK ih n_2 hp hW hE (lv_sub hl [1, 2, 3, 4, 0] rfl) hL_a0 hK_a0 hL_a1 hK_a1 hL_a2 hK_a2
set_option maxHeartbeats 4000000 in
set_option maxRecDepth 100000 in
theorem t_X6_readSquares_0 {p : Program} {l : Launch} {e : Env} {s : State} {m : MethodId} {args : Array Value} {below : List Frame} {meth : Method} {c : Code} {D : wD} {cy : Nat → ClassId} {X : va_W} {A : Nat → Prop} {S0 : wS} {post : wS → Prop} (F : CallFix p m c cX6_readSquares 7 s args wz_X6_readSquares RX6) (hr : meth.sig.returnType = none) (hlocks : meth.locks = false) (hK : wK D cy A s) : ∀ {S : wS} {H : Heap} {locs : List Loc} {ls : Array Slot} {a0 : Nat} {a1 : Nat} {a2 : Nat}, wp_X6_readSquares_0 D post S a0 a1 a2 → wO D cy X A s.heap S H locs → wX D S0 S → lv_has ls 7 [(0, .ref a0), (1, .ref a1), (2, .ref a2)] → wM D S a0 → sK S a0 = 11 → wM D S a1 → sK S a1 = 1 → wM D S a2 → sK S a2 = 12 → W p l e r_X6_readSquares s m args below meth c H locs 0 0 (MQ below (va_Qv (fun S9 => wX D S0 S9 ∧ post S9) (wB D cy X A) A) args s 0 0 A) (F0 m 0 ls []) := by
  obtain ⟨hx, hb, hml, hown, hts⟩ := id F
  have hwg : ∀ w ∈ WG, w.before args s = true := fun w h => hts w (List.mem_cons_of_mem _ h)
  have i_11 : ∀ w ∈ u_ws RX6 TX6 3, w ∈ wz_X6_readSquares := fun w h => List.mem_cons_of_mem _ (wu_11 w h)
  have i_5 : ∀ w ∈ u_ws RX0 TX0 12, w ∈ wz_X6_readSquares := fun w h => List.mem_cons_of_mem _ (wu_5 w h)
  have k_22 := hwg _ wf_RX6_22
  intro S H locs ls a0 a1 a2 hp hW hE hl hL_a0 hK_a0 hL_a1 hK_a1 hL_a2 hK_a2
  unfold wp_X6_readSquares_0 at hp
  refine lv_aload_n hx hb dX6_readSquares_0 rfl (lv_at hl 0 rfl) ?_
  obtain ⟨y_1, ey_1, hL_y_1, hK_y_1, hp⟩ := hp
  refine w_get (k := 11) (f := 0) (T := TX6) (v := .ref y_1) F hK hW hL_a0 hK_a0 (by decide) rfl rfl (by decide) i_11 k_22 (by rw [show wv 11 0 S a0 = va_rf (sR S a0 0) from rfl, ey_1]; rfl) dX6_readSquares_1 ?_
  refine w_getN (k := 5) (f := 1) (T := TX0) (v := .int (sI S y_1 1)) F hK hW hL_y_1 hK_y_1 (by decide) rfl rfl (by decide) i_5 (hK.2.1 (.fieldLinkNest "OpeningsCabinet$Papers" 30 "OpeningsCabinet$Board" "ranks" "I" "OpeningsCabinet") (by decide +kernel)) rfl dX6_readSquares_4 ?_
  refine lv_iconst (v := 1) hx hb dX6_readSquares_7 (by decide) ?_
  refine lv_isub hx hb dX6_readSquares_8 ?_
  refine lv_topi (fun x_2 ex_2 => ?_)
  replace hp := hp x_2 ex_2
  refine lv_istore_n (lv' := [(3, .int x_2), (0, .ref a0), (1, .ref a1), (2, .ref a2)]) hx hb dX6_readSquares_9 rfl hl (by decide) rfl (fun ls hl => ?_)
  obtain ⟨n_3, hp⟩ := hp
  exact t_X6_readSquares_10 F hr hlocks hK n_3 hp hW hE (lv_sub hl [1, 2, 3, 0] rfl) hL_a0 hK_a0 hL_a1 hK_a1 hL_a2 hK_a2
set_option maxHeartbeats 4000000 in
set_option maxRecDepth 100000 in
theorem c_X6_readSquares (l : Launch) {D : wD} {cy : Nat → ClassId} {X : va_W} {S0 : wS} {post : wS → Prop} {a0 : Nat} {a1 : Nat} {a2 : Nat} (hL_a0 : wM D S0 a0) (hK_a0 : sK S0 a0 = 11) (hL_a1 : wM D S0 a1) (hK_a1 : sK S0 a1 = 1) (hL_a2 : wM D S0 a2) (hK_a2 : sK S0 a2 = 12) (hp : wp_X6_readSquares D post S0 a0 a1 a2) : mV D cy X l yX6_readSquares wz_X6_readSquares r_X6_readSquares [.ref a0, .ref a1, .ref a2] S0 (fun S9 => wX D S0 S9 ∧ post S9) := by
  intro sz
  refine Met.ofW (cc := cX6_readSquares) (maxL := 7) (ret := none) (by decide) rfl ?_
  intro p e s m args below meth c s₁ B hml hv
  obtain ⟨rfl, hsz, hP, hK, hD0, hRO⟩ := hv
  have hts := atoms_spec (ws := wz_X6_readSquares) B.pre
  have hown : s.vm.findClass RX6 = some m.cls := findClass_of_methodNamed B.named
  subst hsz
  have hD := hD0.self (sz := s.heap.size)
  have F : CallFix p m c cX6_readSquares 7 s _ wz_X6_readSquares RX6 := ⟨B.exec, B.bytes, hml, hown, hts⟩
  have hr := B.returns
  have hlocks := B.notSynchronized
  generalize hAe : va_A (wL cy X S0) s.heap.size = A at hD hK ⊢
  have hA : ∀ q, s.heap.size ≤ q → A q := fun q h => by rw [← hAe]; exact Or.inr h
  have hW : wO D cy X A s.heap S0 s.heap [] := ⟨hP, hD, va_S.rf, hA, hRO⟩
  have hl := lv_entry ([.ref a0, .ref a1, .ref a2]) (n := 7) (Nat.le_of_ble_eq_true rfl)
  rw [lg_entry_eq]
  generalize (lg_sl ([.ref a0, .ref a1, .ref a2]) ++ List.replicate (7 - (lg_sl ([.ref a0, .ref a1, .ref a2])).length) Slot.unset).toArray = ls at hl ⊢
  have hl : lv_has ls 7 [(0, .ref a0), (1, .ref a1), (2, .ref a2)] := hl
  unfold wp_X6_readSquares at hp
  exact t_X6_readSquares_0 F hr hlocks hK hp hW wX.rf (lv_sub hl [0, 1, 2] rfl) hL_a0 hK_a0 hL_a1 hK_a1 hL_a2 hK_a2
def wp_X6_writeRank_102 (D : wD) (post : wS → Prop)  (bc bs : Nat) (S : wS) : Prop :=
post S
def wp_X6_writeRank_84 (D : wD) (post : wS → Prop) (k_6 : Nat → Nat → wS → Nat → Nat → Int32 → Nat → Int32 → Int32 → Prop) (bc bs : Nat) (S : wS) (a0 : Nat) (a1 : Nat) (x2 : Int32) (a3 : Nat) (x4 : Int32) (x5 : Int32) : Prop :=
∀ x_1 : Int32, x_1 = x5 + 1 →
k_6 bc bs S a0 a1 x2 a3 x4 x_1
def wp_X6_writeRank_59 (D : wD) (post : wS → Prop) (k_6 : Nat → Nat → wS → Nat → Nat → Int32 → Nat → Int32 → Int32 → Prop) (bc bs : Nat) (S : wS) (a0 : Nat) (a1 : Nat) (x2 : Int32) (a3 : Nat) (x5 : Int32) (x6 : Int32) : Prop :=
∀ y_1 : Nat, y_1 = D.2.2.1 1 →
wp_J0_length_8abf5 D (fun r_2 S_3 => 
((r_2 ≤ x6 → wp_X6_writeRank_84 D post k_6 bc bs S_3 a0 a1 x2 a3 (0 : Int32) x5) ∧
 (¬ r_2 ≤ x6 → ∀ y_5 : Nat, y_5 = D.2.2.1 1 →
wp_J0_charAt_5068e D (fun r_6 S_7 => 
∃ m_10 z_11 : Nat, m_10 ≤ bc ∧ z_11 ≤ bs ∧
wp_J4_append_cf468 D (fun r_8 S_9 => 
wp_X6_writeRank_84 D post k_6 (bc - m_10) (bs - z_11) S_9 a0 a1 x2 a3 (0 : Int32) x5) m_10 z_11 S_7 a3 r_6) S_3 y_5 x6))) S y_1
def wp_X6_writeRank_6 (D : wD) (post : wS → Prop)  : Nat → Nat → Nat → wS → Nat → Nat → Int32 → Nat → Int32 → Int32 → Prop
  | 0, _, _, _, _, _, _, _, _, _ => False
  | n + 1, bc, bs, S, a0, a1, x2, a3, x4, x5 =>
    ∃ y_1 : Nat, sR S a0 0 = some y_1 ∧ wM D S y_1 ∧ sK S y_1 = 5 ∧
    (((sI S y_1 0) ≤ x5 → ((x4 ≤ 0 → wp_X6_writeRank_102 D post bc bs S) ∧
     (¬ x4 ≤ 0 → ∃ m_6 z_7 : Nat, m_6 ≤ bc ∧ z_7 ≤ bs ∧
    wp_J4_append_bf812 D (fun r_4 S_5 => 
    wp_X6_writeRank_102 D post (bc - m_6) (bs - z_7) S_5) m_6 z_7 S a3 x4))) ∧
     (¬ (sI S y_1 0) ≤ x5 → ∃ y_8 : Nat, sR S a0 0 = some y_8 ∧ wM D S y_8 ∧ sK S y_8 = 5 ∧
    wp_X7_pieceOn D (fun r_9 S_10 => 
    ((¬ r_9 = 0 → ((x4 ≤ 0 → wp_X6_writeRank_59 D post (wp_X6_writeRank_6 D post n) bc bs S_10 a0 a1 x2 a3 x5 r_9) ∧
     (¬ x4 ≤ 0 → ∃ m_15 z_16 : Nat, m_15 ≤ bc ∧ z_16 ≤ bs ∧
    wp_J4_append_bf812 D (fun r_13 S_14 => 
    wp_X6_writeRank_59 D post (wp_X6_writeRank_6 D post n) (bc - m_15) (bs - z_16) S_14 a0 a1 x2 a3 x5 r_9) m_15 z_16 S_10 a3 x4))) ∧
     (r_9 = 0 → ∀ x_17 : Int32, x_17 = x4 + 1 →
    wp_X6_writeRank_84 D post (wp_X6_writeRank_6 D post n) bc bs S_10 a0 a1 x2 a3 x_17 x5))) S a1 ((x2 * (sI S y_8 0)) + x5)))
def wp_X6_writeRank_0 (D : wD) (post : wS → Prop)  (bc bs : Nat) (S : wS) (a0 : Nat) (a1 : Nat) (x2 : Int32) (a3 : Nat) : Prop :=
∃ n_1 : Nat, wp_X6_writeRank_6 D post n_1 bc bs S a0 a1 x2 a3 (0 : Int32) (0 : Int32)
abbrev r_X6_writeRank (rC rS : Nat) : Room := { frames := 8, cells := rC, slots := rS, locals := 179 }
def wp_X6_writeRank (D : wD) (post : wS → Prop) (bc bs : Nat) (S : wS) (a0 : Nat) (a1 : Nat) (x2 : Int32) (a3 : Nat) : Prop := wp_X6_writeRank_0 D post bc bs S a0 a1 x2 a3
set_option maxHeartbeats 4000000 in
set_option maxRecDepth 100000 in
theorem t_X6_writeRank_102 {p : Program} {l : Launch} {e : Env} {s : State} {m : MethodId} {args : Array Value} {below : List Frame} {meth : Method} {c : Code} {D : wD} {cy : Nat → ClassId} {X : va_W} {A : Nat → Prop} {S0 : wS} {rC rS : Nat} {post : wS → Prop} (F : CallFix p m c cX6_writeRank 7 s args wz_X6_writeRank RX6) (hr : meth.sig.returnType = none) (hlocks : meth.locks = false) (hK : wK D cy A s) : ∀ {bc bs cells slots : Nat} (hbc : cells + bc ≤ rC) (hbs : slots + bs ≤ rS) {S : wS} {H : Heap} {locs : List Loc} {ls : Array Slot}, wp_X6_writeRank_102 D post bc bs S → wO D cy X A s.heap S H locs → wX D S0 S → lv_has ls 7 [] → W p l e (r_X6_writeRank rC rS) s m args below meth c H locs cells slots (MQ below (va_Qv (fun S9 => wX D S0 S9 ∧ post S9) (wB D cy X A) A) args s rC rS A) (F0 m 102 ls []) := by
  obtain ⟨hx, hb, hml, hown, hts⟩ := id F
  have hwg : ∀ w ∈ WG, w.before args s = true := fun w h => hts w (List.mem_cons_of_mem _ h)
  intro bc bs cells slots hbc hbs S H locs ls hp hW hE hl
  unfold wp_X6_writeRank_102 at hp
  refine W.widen (k := rC) (n := rS) (Nat.le_trans (Nat.le_add_right _ _) hbc) (Nat.le_trans (Nat.le_add_right _ _) hbs) ?_
  exact w_vret hx hb hr hlocks hW ⟨hE, hp⟩ dX6_writeRank_102
set_option maxHeartbeats 4000000 in
set_option maxRecDepth 100000 in
theorem t_X6_writeRank_84 {p : Program} {l : Launch} {e : Env} {s : State} {m : MethodId} {args : Array Value} {below : List Frame} {meth : Method} {c : Code} {D : wD} {cy : Nat → ClassId} {X : va_W} {A : Nat → Prop} {S0 : wS} {rC rS : Nat} {post : wS → Prop} (F : CallFix p m c cX6_writeRank 7 s args wz_X6_writeRank RX6) (hr : meth.sig.returnType = none) (hlocks : meth.locks = false) (hK : wK D cy A s) {k_6 : Nat → Nat → wS → Nat → Nat → Int32 → Nat → Int32 → Int32 → Prop} (q_6 : ∀ {bc bs cells slots : Nat} (hbc : cells + bc ≤ rC) (hbs : slots + bs ≤ rS) {S : wS} {H : Heap} {locs : List Loc} {ls : Array Slot} {a0 : Nat} {a1 : Nat} {x2 : Int32} {a3 : Nat} {x4 : Int32} {x5 : Int32}, k_6 bc bs S a0 a1 x2 a3 x4 x5 → wO D cy X A s.heap S H locs → wX D S0 S → lv_has ls 7 [(0, .ref a0), (1, .ref a1), (2, .int x2), (3, .ref a3), (4, .int x4), (5, .int x5)] → wM D S a0 → sK S a0 = 11 → wM D S a1 → sK S a1 = 12 → wM D S a3 → sK S a3 = 1 → W p l e (r_X6_writeRank rC rS) s m args below meth c H locs cells slots (MQ below (va_Qv (fun S9 => wX D S0 S9 ∧ post S9) (wB D cy X A) A) args s rC rS A) (F0 m 6 ls [])) : ∀ {bc bs cells slots : Nat} (hbc : cells + bc ≤ rC) (hbs : slots + bs ≤ rS) {S : wS} {H : Heap} {locs : List Loc} {ls : Array Slot} {a0 : Nat} {a1 : Nat} {x2 : Int32} {a3 : Nat} {x4 : Int32} {x5 : Int32}, wp_X6_writeRank_84 D post k_6 bc bs S a0 a1 x2 a3 x4 x5 → wO D cy X A s.heap S H locs → wX D S0 S → lv_has ls 7 [(0, .ref a0), (1, .ref a1), (2, .int x2), (3, .ref a3), (4, .int x4), (5, .int x5)] → wM D S a0 → sK S a0 = 11 → wM D S a1 → sK S a1 = 12 → wM D S a3 → sK S a3 = 1 → W p l e (r_X6_writeRank rC rS) s m args below meth c H locs cells slots (MQ below (va_Qv (fun S9 => wX D S0 S9 ∧ post S9) (wB D cy X A) A) args s rC rS A) (F0 m 84 ls []) := by
  obtain ⟨hx, hb, hml, hown, hts⟩ := id F
  have hwg : ∀ w ∈ WG, w.before args s = true := fun w h => hts w (List.mem_cons_of_mem _ h)
  intro bc bs cells slots hbc hbs S H locs ls a0 a1 x2 a3 x4 x5 hp hW hE hl hL_a0 hK_a0 hL_a1 hK_a1 hL_a3 hK_a3
  unfold wp_X6_writeRank_84 at hp
  obtain ⟨x_1, ex_1⟩ : ∃ z : Int32, z = x5 + 1 := ⟨_, rfl⟩
  replace hp := hp x_1 ex_1
  refine lv_iinc (v := x_1) (lv' := [(5, .int x_1), (0, .ref a0), (1, .ref a1), (2, .int x2), (3, .ref a3), (4, .int x4)]) hx hb dX6_writeRank_84 hl (k := 5) rfl (by rw [ex_1]; rfl) (by decide) rfl (fun ls hl => ?_)
  refine lv_goto (tgt := 6) hx hb dX6_writeRank_87 (by decide) ?_
  exact q_6 hbc hbs hp hW hE (lv_sub hl [1, 2, 3, 4, 5, 0] rfl) hL_a0 hK_a0 hL_a1 hK_a1 hL_a3 hK_a3
set_option maxHeartbeats 4000000 in
set_option maxRecDepth 100000 in
theorem t_X6_writeRank_59 {p : Program} {l : Launch} {e : Env} {s : State} {m : MethodId} {args : Array Value} {below : List Frame} {meth : Method} {c : Code} {D : wD} {cy : Nat → ClassId} {X : va_W} {A : Nat → Prop} {S0 : wS} {rC rS : Nat} {post : wS → Prop} (F : CallFix p m c cX6_writeRank 7 s args wz_X6_writeRank RX6) (hr : meth.sig.returnType = none) (hlocks : meth.locks = false) (hK : wK D cy A s) {k_6 : Nat → Nat → wS → Nat → Nat → Int32 → Nat → Int32 → Int32 → Prop} (q_6 : ∀ {bc bs cells slots : Nat} (hbc : cells + bc ≤ rC) (hbs : slots + bs ≤ rS) {S : wS} {H : Heap} {locs : List Loc} {ls : Array Slot} {a0 : Nat} {a1 : Nat} {x2 : Int32} {a3 : Nat} {x4 : Int32} {x5 : Int32}, k_6 bc bs S a0 a1 x2 a3 x4 x5 → wO D cy X A s.heap S H locs → wX D S0 S → lv_has ls 7 [(0, .ref a0), (1, .ref a1), (2, .int x2), (3, .ref a3), (4, .int x4), (5, .int x5)] → wM D S a0 → sK S a0 = 11 → wM D S a1 → sK S a1 = 12 → wM D S a3 → sK S a3 = 1 → W p l e (r_X6_writeRank rC rS) s m args below meth c H locs cells slots (MQ below (va_Qv (fun S9 => wX D S0 S9 ∧ post S9) (wB D cy X A) A) args s rC rS A) (F0 m 6 ls [])) : ∀ {bc bs cells slots : Nat} (hbc : cells + bc ≤ rC) (hbs : slots + bs ≤ rS) {S : wS} {H : Heap} {locs : List Loc} {ls : Array Slot} {a0 : Nat} {a1 : Nat} {x2 : Int32} {a3 : Nat} {x5 : Int32} {x6 : Int32}, wp_X6_writeRank_59 D post k_6 bc bs S a0 a1 x2 a3 x5 x6 → wO D cy X A s.heap S H locs → wX D S0 S → lv_has ls 7 [(0, .ref a0), (1, .ref a1), (2, .int x2), (3, .ref a3), (5, .int x5), (6, .int x6)] → wM D S a0 → sK S a0 = 11 → wM D S a1 → sK S a1 = 12 → wM D S a3 → sK S a3 = 1 → W p l e (r_X6_writeRank rC rS) s m args below meth c H locs cells slots (MQ below (va_Qv (fun S9 => wX D S0 S9 ∧ post S9) (wB D cy X A) A) args s rC rS A) (F0 m 59 ls []) := by
  obtain ⟨hx, hb, hml, hown, hts⟩ := id F
  have hwg : ∀ w ∈ WG, w.before args s = true := fun w h => hts w (List.mem_cons_of_mem _ h)
  intro bc bs cells slots hbc hbs S H locs ls a0 a1 x2 a3 x5 x6 hp hW hE hl hL_a0 hK_a0 hL_a1 hK_a1 hL_a3 hK_a3
  unfold wp_X6_writeRank_59 at hp
  refine lv_iconst (v := 0) hx hb dX6_writeRank_59 (by decide) ?_
  refine lv_istore (lv' := [(4, .int (0 : Int32)), (0, .ref a0), (1, .ref a1), (2, .int x2), (3, .ref a3), (5, .int x5), (6, .int x6)]) hx hb dX6_writeRank_60 hl (by decide) rfl (fun ls hl => ?_)
  refine lv_iload hx hb dX6_writeRank_62 (lv_at hl 6 rfl) ?_
  refine w_str F hK (show ("OpeningsCabinet$Papers", 90, " KQRBNPkqrbnp", 1) ∈ wStr by decide +kernel) dX6_writeRank_64 ?_
  obtain ⟨y_1, ey_1⟩ : ∃ z : Nat, z = D.2.2.1 1 := ⟨_, rfl⟩
  rw [← ey_1]
  replace hp := hp y_1 ey_1
  obtain ⟨hL_y_1, hK_y_1⟩ : wM D S y_1 ∧ sK S y_1 = 0 := by rw [ey_1]; exact w_strM hK hW (show ("OpeningsCabinet$Papers", 90, " KQRBNPkqrbnp", 1) ∈ wStr by decide +kernel)
  refine w_callI (va_runV (As := []) (rest := [.int x6]) F (c_J0_length_8abf5 l hL_y_1 hK_y_1 hp H.size) (cwV (C := RJ0) 0 hts (wg_V wm_RX6_61 wy_J0_length_8abf5) rfl rfl rfl (by decide +kernel) ⟨Nat.le_of_ble_eq_true rfl, Nat.le_of_ble_eq_true rfl⟩) (w_preV hK hW hL_y_1 hK_y_1 (by decide) rfl) rfl rfl hl.1 rfl (lv_room (Nat.le_of_ble_eq_true rfl)) dX6_writeRank_66 ⟨by show _ ≤ rC; exact Nat.le_trans (Nat.le_add_right _ _) hbc, by show _ ≤ rS; exact Nat.le_trans (Nat.le_add_right _ _) hbs⟩) hW (fun r_2 S_3 H locs hp hW => ?_)
  obtain ⟨hX_S_3, hp⟩ := hp
  refine w_same ?_
  have hE := hE.trans hX_S_3
  have hK_a0 : sK S_3 a0 = 11 := (hX_S_3.2 a0 hL_a0).1.trans hK_a0
  have hL_a0 : wM D S_3 a0 := hX_S_3.M hL_a0
  have hK_a1 : sK S_3 a1 = 12 := (hX_S_3.2 a1 hL_a1).1.trans hK_a1
  have hL_a1 : wM D S_3 a1 := hX_S_3.M hL_a1
  have hK_a3 : sK S_3 a3 = 1 := (hX_S_3.2 a3 hL_a3).1.trans hK_a3
  have hL_a3 : wM D S_3 a3 := hX_S_3.M hL_a3
  refine lv_icmp_ge (tgt := 84) hx hb dX6_writeRank_69 (by decide) (fun c_4 => ?_) (fun c_4 => ?_)
  · replace hp := hp.1 c_4
    exact t_X6_writeRank_84 F hr hlocks hK q_6 hbc hbs hp hW hE (lv_sub hl [1, 2, 3, 4, 0, 5] rfl) hL_a0 hK_a0 hL_a1 hK_a1 hL_a3 hK_a3
  · replace hp := hp.2 c_4
    refine lv_aload_n hx hb dX6_writeRank_72 rfl (lv_at hl 4 rfl) ?_
    refine w_str F hK (show ("OpeningsCabinet$Papers", 90, " KQRBNPkqrbnp", 1) ∈ wStr by decide +kernel) dX6_writeRank_73 ?_
    obtain ⟨y_5, ey_5⟩ : ∃ z : Nat, z = D.2.2.1 1 := ⟨_, rfl⟩
    rw [← ey_5]
    replace hp := hp y_5 ey_5
    obtain ⟨hL_y_5, hK_y_5⟩ : wM D S_3 y_5 ∧ sK S_3 y_5 = 0 := by rw [ey_5]; exact w_strM hK hW (show ("OpeningsCabinet$Papers", 90, " KQRBNPkqrbnp", 1) ∈ wStr by decide +kernel)
    refine lv_iload hx hb dX6_writeRank_75 (lv_at hl 6 rfl) ?_
    refine w_callI (va_runV (As := [.int x6]) (rest := [.ref a3]) F (c_J0_charAt_5068e l hL_y_5 hK_y_5 hp H.size) (cwV (C := RJ0) 1 hts (wg_V wm_RX6_67 wy_J0_charAt_5068e) rfl rfl rfl (by decide +kernel) ⟨Nat.le_of_ble_eq_true rfl, Nat.le_of_ble_eq_true rfl⟩) (w_preV hK hW hL_y_5 hK_y_5 (by decide) rfl) rfl rfl hl.1 rfl (lv_room (Nat.le_of_ble_eq_true rfl)) dX6_writeRank_77 ⟨by show _ ≤ rC; exact Nat.le_trans (Nat.le_add_right _ _) hbc, by show _ ≤ rS; exact Nat.le_trans (Nat.le_add_right _ _) hbs⟩) hW (fun r_6 S_7 H locs hp hW => ?_)
    obtain ⟨hX_S_7, hp⟩ := hp
    refine w_same ?_
    have hE := hE.trans hX_S_7
    have hK_a0 : sK S_7 a0 = 11 := (hX_S_7.2 a0 hL_a0).1.trans hK_a0
    have hL_a0 : wM D S_7 a0 := hX_S_7.M hL_a0
    have hK_a1 : sK S_7 a1 = 12 := (hX_S_7.2 a1 hL_a1).1.trans hK_a1
    have hL_a1 : wM D S_7 a1 := hX_S_7.M hL_a1
    have hK_a3 : sK S_7 a3 = 1 := (hX_S_7.2 a3 hL_a3).1.trans hK_a3
    have hL_a3 : wM D S_7 a3 := hX_S_7.M hL_a3
    obtain ⟨m_10, z_11, hm_10, hz_11, hp⟩ := hp
    refine w_callR (va_runV (As := [.int r_6]) (rest := []) F (c_J4_append_cf468 l hL_a3 hK_a3 hp H.size) (cwV (C := RJ4) 1 hts (wg_V wm_RX6_39 wy_J4_append_cf468) rfl rfl rfl (by decide +kernel) ⟨Nat.le_of_ble_eq_true rfl, Nat.le_of_ble_eq_true rfl⟩) (w_preV hK hW hL_a3 hK_a3 (by decide) rfl) rfl rfl hl.1 rfl (lv_room (Nat.le_of_ble_eq_true rfl)) dX6_writeRank_80 ⟨by show _ + m_10 ≤ rC; omega, by show _ + z_11 ≤ rS; omega⟩) hW (fun r_8 S_9 H locs hp hW => ?_)
    obtain ⟨hX_S_9, hp⟩ := hp
    refine W.widen (k := _ + m_10) (n := _ + z_11) (Nat.le_refl _) (Nat.le_refl _) ?_
    replace hbc := w_spend hbc (show m_10 ≤ bc by omega)
    replace hbs := w_spend hbs (show z_11 ≤ bs by omega)
    have hE := hE.trans hX_S_9
    have hK_a0 : sK S_9 a0 = 11 := (hX_S_9.2 a0 hL_a0).1.trans hK_a0
    have hL_a0 : wM D S_9 a0 := hX_S_9.M hL_a0
    have hK_a1 : sK S_9 a1 = 12 := (hX_S_9.2 a1 hL_a1).1.trans hK_a1
    have hL_a1 : wM D S_9 a1 := hX_S_9.M hL_a1
    have hK_a3 : sK S_9 a3 = 1 := (hX_S_9.2 a3 hL_a3).1.trans hK_a3
    have hL_a3 : wM D S_9 a3 := hX_S_9.M hL_a3
    refine lv_pop hx hb dX6_writeRank_83 (by cases r_8 <;> rfl) ?_
    exact t_X6_writeRank_84 F hr hlocks hK q_6 hbc hbs hp hW hE (lv_sub hl [1, 2, 3, 4, 0, 5] rfl) hL_a0 hK_a0 hL_a1 hK_a1 hL_a3 hK_a3
set_option maxHeartbeats 4000000 in
set_option maxRecDepth 100000 in
theorem t_X6_writeRank_6 {p : Program} {l : Launch} {e : Env} {s : State} {m : MethodId} {args : Array Value} {below : List Frame} {meth : Method} {c : Code} {D : wD} {cy : Nat → ClassId} {X : va_W} {A : Nat → Prop} {S0 : wS} {rC rS : Nat} {post : wS → Prop} (F : CallFix p m c cX6_writeRank 7 s args wz_X6_writeRank RX6) (hr : meth.sig.returnType = none) (hlocks : meth.locks = false) (hK : wK D cy A s) : ∀ (n : Nat) {bc bs cells slots : Nat} (hbc : cells + bc ≤ rC) (hbs : slots + bs ≤ rS) {S : wS} {H : Heap} {locs : List Loc} {ls : Array Slot} {a0 : Nat} {a1 : Nat} {x2 : Int32} {a3 : Nat} {x4 : Int32} {x5 : Int32}, wp_X6_writeRank_6 D post n bc bs S a0 a1 x2 a3 x4 x5 → wO D cy X A s.heap S H locs → wX D S0 S → lv_has ls 7 [(0, .ref a0), (1, .ref a1), (2, .int x2), (3, .ref a3), (4, .int x4), (5, .int x5)] → wM D S a0 → sK S a0 = 11 → wM D S a1 → sK S a1 = 12 → wM D S a3 → sK S a3 = 1 → W p l e (r_X6_writeRank rC rS) s m args below meth c H locs cells slots (MQ below (va_Qv (fun S9 => wX D S0 S9 ∧ post S9) (wB D cy X A) A) args s rC rS A) (F0 m 6 ls []) := by
  obtain ⟨hx, hb, hml, hown, hts⟩ := id F
  have hwg : ∀ w ∈ WG, w.before args s = true := fun w h => hts w (List.mem_cons_of_mem _ h)
  have i_11 : ∀ w ∈ u_ws RX6 TX6 3, w ∈ wz_X6_writeRank := fun w h => List.mem_cons_of_mem _ (wu_11 w h)
  have i_5 : ∀ w ∈ u_ws RX0 TX0 12, w ∈ wz_X6_writeRank := fun w h => List.mem_cons_of_mem _ (wu_5 w h)
  have k_22 := hwg _ wf_RX6_22
  intro n
  induction n with
  | zero =>
    intro bc bs cells slots hbc hbs S H locs ls a0 a1 x2 a3 x4 x5 hp
    exact hp.elim
  | succ n ih =>
    intro bc bs cells slots hbc hbs S H locs ls a0 a1 x2 a3 x4 x5 hp hW hE hl hL_a0 hK_a0 hL_a1 hK_a1 hL_a3 hK_a3
    unfold wp_X6_writeRank_6 at hp
    refine lv_iload hx hb dX6_writeRank_6 (lv_at hl 5 rfl) ?_
    refine lv_aload_n hx hb dX6_writeRank_8 rfl (lv_at hl 0 rfl) ?_
    obtain ⟨y_1, ey_1, hL_y_1, hK_y_1, hp⟩ := hp
    refine w_get (k := 11) (f := 0) (T := TX6) (v := .ref y_1) F hK hW hL_a0 hK_a0 (by decide) rfl rfl (by decide) i_11 k_22 (by rw [show wv 11 0 S a0 = va_rf (sR S a0 0) from rfl, ey_1]; rfl) dX6_writeRank_9 ?_
    refine w_getN (k := 5) (f := 0) (T := TX0) (v := .int (sI S y_1 0)) F hK hW hL_y_1 hK_y_1 (by decide) rfl rfl (by decide) i_5 (hK.2.1 (.fieldLinkNest "OpeningsCabinet$Papers" 81 "OpeningsCabinet$Board" "files" "I" "OpeningsCabinet") (by decide +kernel)) rfl dX6_writeRank_12 ?_
    refine lv_icmp_ge (tgt := 90) hx hb dX6_writeRank_15 (by decide) (fun c_2 => ?_) (fun c_2 => ?_)
    · replace hp := hp.1 c_2
      refine lv_iload hx hb dX6_writeRank_90 (lv_at hl 4 rfl) ?_
      refine lv_if_le (tgt := 102) hx hb dX6_writeRank_92 (by decide) (fun c_3 => ?_) (fun c_3 => ?_)
      · replace hp := hp.1 c_3
        exact t_X6_writeRank_102 F hr hlocks hK hbc hbs hp hW hE (lv_sub hl [] rfl)
      · replace hp := hp.2 c_3
        refine lv_aload_n hx hb dX6_writeRank_95 rfl (lv_at hl 3 rfl) ?_
        refine lv_iload hx hb dX6_writeRank_96 (lv_at hl 4 rfl) ?_
        obtain ⟨m_6, z_7, hm_6, hz_7, hp⟩ := hp
        refine w_callR (va_runV (As := [.int x4]) (rest := []) F (c_J4_append_bf812 l hL_a3 hK_a3 hp H.size) (cwV (C := RJ4) 1 hts (wg_V wm_RX6_87 wy_J4_append_bf812) rfl rfl rfl (by decide +kernel) ⟨Nat.le_of_ble_eq_true rfl, Nat.le_of_ble_eq_true rfl⟩) (w_preV hK hW hL_a3 hK_a3 (by decide) rfl) rfl rfl hl.1 rfl (lv_room (Nat.le_of_ble_eq_true rfl)) dX6_writeRank_98 ⟨by show _ + m_6 ≤ rC; omega, by show _ + z_7 ≤ rS; omega⟩) hW (fun r_4 S_5 H locs hp hW => ?_)
        obtain ⟨hX_S_5, hp⟩ := hp
        refine W.widen (k := _ + m_6) (n := _ + z_7) (Nat.le_refl _) (Nat.le_refl _) ?_
        replace hbc := w_spend hbc (show m_6 ≤ bc by omega)
        replace hbs := w_spend hbs (show z_7 ≤ bs by omega)
        have hE := hE.trans hX_S_5
        have hK_a0 : sK S_5 a0 = 11 := (hX_S_5.2 a0 hL_a0).1.trans hK_a0
        have hL_a0 : wM D S_5 a0 := hX_S_5.M hL_a0
        have hK_a1 : sK S_5 a1 = 12 := (hX_S_5.2 a1 hL_a1).1.trans hK_a1
        have hL_a1 : wM D S_5 a1 := hX_S_5.M hL_a1
        have hK_a3 : sK S_5 a3 = 1 := (hX_S_5.2 a3 hL_a3).1.trans hK_a3
        have hL_a3 : wM D S_5 a3 := hX_S_5.M hL_a3
        refine lv_pop hx hb dX6_writeRank_101 (by cases r_4 <;> rfl) ?_
        exact t_X6_writeRank_102 F hr hlocks hK hbc hbs hp hW hE (lv_sub hl [] rfl)
    · replace hp := hp.2 c_2
      refine lv_aload_n hx hb dX6_writeRank_18 rfl (lv_at hl 1 rfl) ?_
      refine lv_iload_n hx hb dX6_writeRank_19 rfl (lv_at hl 2 rfl) ?_
      refine lv_aload_n hx hb dX6_writeRank_20 rfl (lv_at hl 0 rfl) ?_
      obtain ⟨y_8, ey_8, hL_y_8, hK_y_8, hp⟩ := hp
      refine w_get (k := 11) (f := 0) (T := TX6) (v := .ref y_8) F hK hW hL_a0 hK_a0 (by decide) rfl rfl (by decide) i_11 k_22 (by rw [show wv 11 0 S a0 = va_rf (sR S a0 0) from rfl, ey_8]; rfl) dX6_writeRank_21 ?_
      refine w_getN (k := 5) (f := 0) (T := TX0) (v := .int (sI S y_8 0)) F hK hW hL_y_8 hK_y_8 (by decide) rfl rfl (by decide) i_5 (hK.2.1 (.fieldLinkNest "OpeningsCabinet$Papers" 81 "OpeningsCabinet$Board" "files" "I" "OpeningsCabinet") (by decide +kernel)) rfl dX6_writeRank_24 ?_
      refine lv_imul hx hb dX6_writeRank_27 ?_
      refine lv_iload hx hb dX6_writeRank_28 (lv_at hl 5 rfl) ?_
      refine lv_iadd hx hb dX6_writeRank_30 ?_
      refine w_callI (va_runV (As := [.int ((x2 * (sI S y_8 0)) + x5)]) (rest := []) F (c_X7_pieceOn l hL_a1 hK_a1 hp H.size) (cwV (C := RX7) 1 hts (wg_V wm_RX6_84 wy_X7_pieceOn) rfl rfl rfl (by decide +kernel) ⟨Nat.le_of_ble_eq_true rfl, Nat.le_of_ble_eq_true rfl⟩) (w_preV hK hW hL_a1 hK_a1 (by decide) rfl) rfl rfl hl.1 rfl (lv_room (Nat.le_of_ble_eq_true rfl)) dX6_writeRank_31 ⟨by show _ ≤ rC; exact Nat.le_trans (Nat.le_add_right _ _) hbc, by show _ ≤ rS; exact Nat.le_trans (Nat.le_add_right _ _) hbs⟩) hW (fun r_9 S_10 H locs hp hW => ?_)
      obtain ⟨hX_S_10, hp⟩ := hp
      refine w_same ?_
      have hE := hE.trans hX_S_10
      have hK_a0 : sK S_10 a0 = 11 := (hX_S_10.2 a0 hL_a0).1.trans hK_a0
      have hL_a0 : wM D S_10 a0 := hX_S_10.M hL_a0
      have hK_a1 : sK S_10 a1 = 12 := (hX_S_10.2 a1 hL_a1).1.trans hK_a1
      have hL_a1 : wM D S_10 a1 := hX_S_10.M hL_a1
      have hK_a3 : sK S_10 a3 = 1 := (hX_S_10.2 a3 hL_a3).1.trans hK_a3
      have hL_a3 : wM D S_10 a3 := hX_S_10.M hL_a3
      refine lv_istore (lv' := [(6, .int r_9), (0, .ref a0), (1, .ref a1), (2, .int x2), (3, .ref a3), (4, .int x4), (5, .int x5)]) hx hb dX6_writeRank_34 hl (by decide) rfl (fun ls hl => ?_)
      refine lv_iload hx hb dX6_writeRank_36 (lv_at hl 0 rfl) ?_
      refine lv_if_ne (tgt := 47) hx hb dX6_writeRank_38 (by decide) (fun c_11 => ?_) (fun c_11 => ?_)
      · replace hp := hp.1 c_11
        refine lv_iload hx hb dX6_writeRank_47 (lv_at hl 5 rfl) ?_
        refine lv_if_le (tgt := 59) hx hb dX6_writeRank_49 (by decide) (fun c_12 => ?_) (fun c_12 => ?_)
        · replace hp := hp.1 c_12
          exact t_X6_writeRank_59 F hr hlocks hK ih hbc hbs hp hW hE (lv_sub hl [1, 2, 3, 4, 6, 0] rfl) hL_a0 hK_a0 hL_a1 hK_a1 hL_a3 hK_a3
        · replace hp := hp.2 c_12
          refine lv_aload_n hx hb dX6_writeRank_52 rfl (lv_at hl 4 rfl) ?_
          refine lv_iload hx hb dX6_writeRank_53 (lv_at hl 5 rfl) ?_
          obtain ⟨m_15, z_16, hm_15, hz_16, hp⟩ := hp
          refine w_callR (va_runV (As := [.int x4]) (rest := []) F (c_J4_append_bf812 l hL_a3 hK_a3 hp H.size) (cwV (C := RJ4) 1 hts (wg_V wm_RX6_87 wy_J4_append_bf812) rfl rfl rfl (by decide +kernel) ⟨Nat.le_of_ble_eq_true rfl, Nat.le_of_ble_eq_true rfl⟩) (w_preV hK hW hL_a3 hK_a3 (by decide) rfl) rfl rfl hl.1 rfl (lv_room (Nat.le_of_ble_eq_true rfl)) dX6_writeRank_55 ⟨by show _ + m_15 ≤ rC; omega, by show _ + z_16 ≤ rS; omega⟩) hW (fun r_13 S_14 H locs hp hW => ?_)
          obtain ⟨hX_S_14, hp⟩ := hp
          refine W.widen (k := _ + m_15) (n := _ + z_16) (Nat.le_refl _) (Nat.le_refl _) ?_
          replace hbc := w_spend hbc (show m_15 ≤ bc by omega)
          replace hbs := w_spend hbs (show z_16 ≤ bs by omega)
          have hE := hE.trans hX_S_14
          have hK_a0 : sK S_14 a0 = 11 := (hX_S_14.2 a0 hL_a0).1.trans hK_a0
          have hL_a0 : wM D S_14 a0 := hX_S_14.M hL_a0
          have hK_a1 : sK S_14 a1 = 12 := (hX_S_14.2 a1 hL_a1).1.trans hK_a1
          have hL_a1 : wM D S_14 a1 := hX_S_14.M hL_a1
          have hK_a3 : sK S_14 a3 = 1 := (hX_S_14.2 a3 hL_a3).1.trans hK_a3
          have hL_a3 : wM D S_14 a3 := hX_S_14.M hL_a3
          refine lv_pop hx hb dX6_writeRank_58 (by cases r_13 <;> rfl) ?_
          exact t_X6_writeRank_59 F hr hlocks hK ih hbc hbs hp hW hE (lv_sub hl [1, 2, 3, 4, 6, 0] rfl) hL_a0 hK_a0 hL_a1 hK_a1 hL_a3 hK_a3
      · replace hp := hp.2 c_11
        obtain ⟨x_17, ex_17⟩ : ∃ z : Int32, z = x4 + 1 := ⟨_, rfl⟩
        replace hp := hp x_17 ex_17
        refine lv_iinc (v := x_17) (lv' := [(4, .int x_17), (6, .int r_9), (0, .ref a0), (1, .ref a1), (2, .int x2), (3, .ref a3), (5, .int x5)]) hx hb dX6_writeRank_41 hl (k := 5) rfl (by rw [ex_17]; rfl) (by decide) rfl (fun ls hl => ?_)
        refine lv_goto (tgt := 84) hx hb dX6_writeRank_44 (by decide) ?_
        exact t_X6_writeRank_84 F hr hlocks hK ih hbc hbs hp hW hE (lv_sub hl [2, 3, 4, 5, 0, 6] rfl) hL_a0 hK_a0 hL_a1 hK_a1 hL_a3 hK_a3
set_option maxHeartbeats 4000000 in
set_option maxRecDepth 100000 in
theorem t_X6_writeRank_0 {p : Program} {l : Launch} {e : Env} {s : State} {m : MethodId} {args : Array Value} {below : List Frame} {meth : Method} {c : Code} {D : wD} {cy : Nat → ClassId} {X : va_W} {A : Nat → Prop} {S0 : wS} {rC rS : Nat} {post : wS → Prop} (F : CallFix p m c cX6_writeRank 7 s args wz_X6_writeRank RX6) (hr : meth.sig.returnType = none) (hlocks : meth.locks = false) (hK : wK D cy A s) : ∀ {bc bs cells slots : Nat} (hbc : cells + bc ≤ rC) (hbs : slots + bs ≤ rS) {S : wS} {H : Heap} {locs : List Loc} {ls : Array Slot} {a0 : Nat} {a1 : Nat} {x2 : Int32} {a3 : Nat}, wp_X6_writeRank_0 D post bc bs S a0 a1 x2 a3 → wO D cy X A s.heap S H locs → wX D S0 S → lv_has ls 7 [(0, .ref a0), (1, .ref a1), (2, .int x2), (3, .ref a3)] → wM D S a0 → sK S a0 = 11 → wM D S a1 → sK S a1 = 12 → wM D S a3 → sK S a3 = 1 → W p l e (r_X6_writeRank rC rS) s m args below meth c H locs cells slots (MQ below (va_Qv (fun S9 => wX D S0 S9 ∧ post S9) (wB D cy X A) A) args s rC rS A) (F0 m 0 ls []) := by
  obtain ⟨hx, hb, hml, hown, hts⟩ := id F
  have hwg : ∀ w ∈ WG, w.before args s = true := fun w h => hts w (List.mem_cons_of_mem _ h)
  intro bc bs cells slots hbc hbs S H locs ls a0 a1 x2 a3 hp hW hE hl hL_a0 hK_a0 hL_a1 hK_a1 hL_a3 hK_a3
  unfold wp_X6_writeRank_0 at hp
  refine lv_iconst (v := 0) hx hb dX6_writeRank_0 (by decide) ?_
  refine lv_istore (lv' := [(4, .int (0 : Int32)), (0, .ref a0), (1, .ref a1), (2, .int x2), (3, .ref a3)]) hx hb dX6_writeRank_1 hl (by decide) rfl (fun ls hl => ?_)
  refine lv_iconst (v := 0) hx hb dX6_writeRank_3 (by decide) ?_
  refine lv_istore (lv' := [(5, .int (0 : Int32)), (4, .int (0 : Int32)), (0, .ref a0), (1, .ref a1), (2, .int x2), (3, .ref a3)]) hx hb dX6_writeRank_4 hl (by decide) rfl (fun ls hl => ?_)
  obtain ⟨n_1, hp⟩ := hp
  exact t_X6_writeRank_6 F hr hlocks hK n_1 hbc hbs hp hW hE (lv_sub hl [2, 3, 4, 5, 1, 0] rfl) hL_a0 hK_a0 hL_a1 hK_a1 hL_a3 hK_a3
set_option maxHeartbeats 4000000 in
set_option maxRecDepth 100000 in
theorem c_X6_writeRank (l : Launch) {rC rS : Nat} {D : wD} {cy : Nat → ClassId} {X : va_W} {S0 : wS} {post : wS → Prop} {a0 : Nat} {a1 : Nat} {x2 : Int32} {a3 : Nat} (hL_a0 : wM D S0 a0) (hK_a0 : sK S0 a0 = 11) (hL_a1 : wM D S0 a1) (hK_a1 : sK S0 a1 = 12) (hL_a3 : wM D S0 a3) (hK_a3 : sK S0 a3 = 1) (hp : wp_X6_writeRank D post rC rS S0 a0 a1 x2 a3) : mV D cy X l yX6_writeRank wz_X6_writeRank (r_X6_writeRank rC rS) [.ref a0, .ref a1, .int x2, .ref a3] S0 (fun S9 => wX D S0 S9 ∧ post S9) := by
  intro sz
  refine Met.ofW (cc := cX6_writeRank) (maxL := 7) (ret := none) (by decide) rfl ?_
  intro p e s m args below meth c s₁ B hml hv
  obtain ⟨rfl, hsz, hP, hK, hD0, hRO⟩ := hv
  have hts := atoms_spec (ws := wz_X6_writeRank) B.pre
  have hown : s.vm.findClass RX6 = some m.cls := findClass_of_methodNamed B.named
  subst hsz
  have hD := hD0.self (sz := s.heap.size)
  have F : CallFix p m c cX6_writeRank 7 s _ wz_X6_writeRank RX6 := ⟨B.exec, B.bytes, hml, hown, hts⟩
  have hr := B.returns
  have hlocks := B.notSynchronized
  generalize hAe : va_A (wL cy X S0) s.heap.size = A at hD hK ⊢
  have hA : ∀ q, s.heap.size ≤ q → A q := fun q h => by rw [← hAe]; exact Or.inr h
  have hW : wO D cy X A s.heap S0 s.heap [] := ⟨hP, hD, va_S.rf, hA, hRO⟩
  have hl := lv_entry ([.ref a0, .ref a1, .int x2, .ref a3]) (n := 7) (Nat.le_of_ble_eq_true rfl)
  rw [lg_entry_eq]
  generalize (lg_sl ([.ref a0, .ref a1, .int x2, .ref a3]) ++ List.replicate (7 - (lg_sl ([.ref a0, .ref a1, .int x2, .ref a3])).length) Slot.unset).toArray = ls at hl ⊢
  have hl : lv_has ls 7 [(0, .ref a0), (1, .ref a1), (2, .int x2), (3, .ref a3)] := hl
  unfold wp_X6_writeRank at hp
  exact t_X6_writeRank_0 F hr hlocks hK (Nat.le_of_eq (Nat.zero_add _)) (Nat.le_of_eq (Nat.zero_add _)) hp hW wX.rf (lv_sub hl [0, 1, 2, 3] rfl) hL_a0 hK_a0 hL_a1 hK_a1 hL_a3 hK_a3
def wp_X6_write_180 (D : wD) (post : wS → Prop)  (bc bs : Nat) (S : wS) : Prop :=
post S
def wp_X6_write_109 (D : wD) (post : wS → Prop) (k_78 : Nat → Nat → wS → Nat → Nat → Nat → Int32 → Prop) (bc bs : Nat) (S : wS) (a0 : Nat) (a1 : Nat) (a2 : Nat) (x3 : Int32) : Prop :=
∀ x_1 : Int32, x_1 = x3 + 1 →
k_78 bc bs S a0 a1 a2 x_1
def wp_X6_write_78 (D : wD) (post : wS → Prop)  : Nat → Nat → Nat → wS → Nat → Nat → Nat → Int32 → Prop
  | 0, _, _, _, _, _, _, _ => False
  | n + 1, bc, bs, S, a0, a1, a2, x3 =>
    ∀ y_1 : Nat, y_1 = D.2.2.1 10 →
    wp_J0_length_8abf5 D (fun r_2 S_3 => 
    ((r_2 ≤ x3 → ∃ m_7 z_8 : Nat, m_7 ≤ bc ∧ z_8 ≤ bs ∧
    wp_J4_append_cf468 D (fun r_5 S_6 => 
    ((¬ (sI S_6 a1 7) = (-1 : Int32) → ∃ y_10 : Nat, sR S_6 a0 0 = some y_10 ∧ wM D S_6 y_10 ∧ sK S_6 y_10 = 5 ∧
    wp_X0_fileAt D (fun r_11 S_12 => 
    ∃ m_15 z_16 : Nat, m_15 ≤ (bc - m_7) ∧ z_16 ≤ (bs - z_8) ∧
    wp_J4_append_cf468 D (fun r_13 S_14 => 
    ∃ y_17 : Nat, sR S_14 a0 0 = some y_17 ∧ wM D S_14 y_17 ∧ sK S_14 y_17 = 5 ∧
    wp_X0_rankAt D (fun r_18 S_19 => 
    ∃ m_22 z_23 : Nat, m_22 ≤ ((bc - m_7) - m_15) ∧ z_23 ≤ ((bs - z_8) - z_16) ∧
    wp_J4_append_cf468 D (fun r_20 S_21 => 
    wp_X6_write_180 D post (((bc - m_7) - m_15) - m_22) (((bs - z_8) - z_16) - z_23) S_21) m_22 z_23 S_19 a2 (ji2c ((49 : Int32) + r_18))) S_14 y_17 (sI S_14 a1 7)) m_15 z_16 S_12 a2 (ji2c ((97 : Int32) + r_11))) S_6 y_10 (sI S_6 a1 7)) ∧
     ((sI S_6 a1 7) = (-1 : Int32) → ∃ m_26 z_27 : Nat, m_26 ≤ (bc - m_7) ∧ z_27 ≤ (bs - z_8) ∧
    wp_J4_append_cf468 D (fun r_24 S_25 => 
    wp_X6_write_180 D post ((bc - m_7) - m_26) ((bs - z_8) - z_27) S_25) m_26 z_27 S_6 a2 (45 : Int32)))) m_7 z_8 S_3 a2 (32 : Int32)) ∧
     (¬ r_2 ≤ x3 → ((((jiushr (sI S_3 a1 6) x3) &&& (1 : Int32)) = 0 → wp_X6_write_109 D post (wp_X6_write_78 D post n) bc bs S_3 a0 a1 a2 x3) ∧
     (¬ ((jiushr (sI S_3 a1 6) x3) &&& (1 : Int32)) = 0 → ∀ y_29 : Nat, y_29 = D.2.2.1 10 →
    wp_J0_charAt_5068e D (fun r_30 S_31 => 
    ∃ m_34 z_35 : Nat, m_34 ≤ bc ∧ z_35 ≤ bs ∧
    wp_J4_append_cf468 D (fun r_32 S_33 => 
    wp_X6_write_109 D post (wp_X6_write_78 D post n) (bc - m_34) (bs - z_35) S_33 a0 a1 a2 x3) m_34 z_35 S_31 a2 r_30) S_3 y_29 x3))))) S y_1
def wp_X6_write_76 (D : wD) (post : wS → Prop)  (bc bs : Nat) (S : wS) (a0 : Nat) (a1 : Nat) (a2 : Nat) : Prop :=
∃ n_1 : Nat, wp_X6_write_78 D post n_1 bc bs S a0 a1 a2 (0 : Int32)
def wp_X6_write_58 (D : wD) (post : wS → Prop)  (bc bs : Nat) (S : wS) (a0 : Nat) (a1 : Nat) (a2 : Nat) (b0 : Nat) (b1 : Nat) : Prop :=
∃ m_3 z_4 : Nat, m_3 ≤ bc ∧ z_4 ≤ bs ∧
wp_J4_append_15ec4 D (fun r_1 S_2 => 
((¬ (sI S_2 a1 6) = 0 → wp_X6_write_76 D post (bc - m_3) (bs - z_4) S_2 a0 a1 a2) ∧
 ((sI S_2 a1 6) = 0 → ∃ m_8 z_9 : Nat, m_8 ≤ (bc - m_3) ∧ z_9 ≤ (bs - z_4) ∧
wp_J4_append_cf468 D (fun r_6 S_7 => 
wp_X6_write_76 D post ((bc - m_3) - m_8) ((bs - z_4) - z_9) S_7 a0 a1 a2) m_8 z_9 S_2 a2 (45 : Int32)))) m_3 z_4 S b0 b1
def wp_X6_write_37 (D : wD) (post : wS → Prop) (k_15 : Nat → Nat → wS → Nat → Nat → Nat → Int32 → Prop) (bc bs : Nat) (S : wS) (a0 : Nat) (a1 : Nat) (a2 : Nat) (x3 : Int32) : Prop :=
∀ x_1 : Int32, x_1 = x3 + (-1) →
k_15 bc bs S a0 a1 a2 x_1
def wp_X6_write_15 (D : wD) (post : wS → Prop)  : Nat → Nat → Nat → wS → Nat → Nat → Nat → Int32 → Prop
  | 0, _, _, _, _, _, _, _ => False
  | n + 1, bc, bs, S, a0, a1, a2, x3 =>
    ((x3 < 0 → (((sI S a1 5) = 0 → ∀ y_3 : Nat, y_3 = D.2.2.1 9 →
    wp_X6_write_58 D post bc bs S a0 a1 a2 a2 y_3) ∧
     (¬ (sI S a1 5) = 0 → ∀ y_4 : Nat, y_4 = D.2.2.1 8 →
    wp_X6_write_58 D post bc bs S a0 a1 a2 a2 y_4))) ∧
     (¬ x3 < 0 → ∃ m_7 z_8 : Nat, m_7 ≤ bc ∧ z_8 ≤ bs ∧
    wp_X6_writeRank D (fun S_6 => 
    ((x3 ≤ 0 → wp_X6_write_37 D post (wp_X6_write_15 D post n) (bc - m_7) (bs - z_8) S_6 a0 a1 a2 x3) ∧
     (¬ x3 ≤ 0 → ∃ m_12 z_13 : Nat, m_12 ≤ (bc - m_7) ∧ z_13 ≤ (bs - z_8) ∧
    wp_J4_append_cf468 D (fun r_10 S_11 => 
    wp_X6_write_37 D post (wp_X6_write_15 D post n) ((bc - m_7) - m_12) ((bs - z_8) - z_13) S_11 a0 a1 a2 x3) m_12 z_13 S_6 a2 (47 : Int32)))) m_7 z_8 S a0 a1 x3 a2))
def wp_X6_write_0 (D : wD) (post : wS → Prop)  (bc bs : Nat) (S : wS) (a0 : Nat) (a1 : Nat) (a2 : Nat) : Prop :=
∃ m_3 z_4 : Nat, m_3 ≤ bc ∧ z_4 ≤ bs ∧
wp_J4_setLength_d00df D (fun S_2 => 
∃ y_5 : Nat, sR S_2 a0 0 = some y_5 ∧ wM D S_2 y_5 ∧ sK S_2 y_5 = 5 ∧
∀ x_6 : Int32, x_6 = ((sI S_2 y_5 1) - (1 : Int32)) →
∃ n_7 : Nat, wp_X6_write_15 D post n_7 (bc - m_3) (bs - z_4) S_2 a0 a1 a2 x_6) m_3 z_4 S a2 (0 : Int32)
abbrev r_X6_write (rC rS : Nat) : Room := { frames := 16, cells := rC, slots := rS, locals := 354 }
def wp_X6_write (D : wD) (post : wS → Prop) (bc bs : Nat) (S : wS) (a0 : Nat) (a1 : Nat) (a2 : Nat) : Prop := wp_X6_write_0 D post bc bs S a0 a1 a2
set_option maxHeartbeats 4000000 in
set_option maxRecDepth 100000 in
theorem t_X6_write_180 {p : Program} {l : Launch} {e : Env} {s : State} {m : MethodId} {args : Array Value} {below : List Frame} {meth : Method} {c : Code} {D : wD} {cy : Nat → ClassId} {X : va_W} {A : Nat → Prop} {S0 : wS} {rC rS : Nat} {post : wS → Prop} (F : CallFix p m c cX6_write 4 s args wz_X6_write RX6) (hr : meth.sig.returnType = none) (hlocks : meth.locks = false) (hK : wK D cy A s) : ∀ {bc bs cells slots : Nat} (hbc : cells + bc ≤ rC) (hbs : slots + bs ≤ rS) {S : wS} {H : Heap} {locs : List Loc} {ls : Array Slot}, wp_X6_write_180 D post bc bs S → wO D cy X A s.heap S H locs → wX D S0 S → lv_has ls 4 [] → W p l e (r_X6_write rC rS) s m args below meth c H locs cells slots (MQ below (va_Qv (fun S9 => wX D S0 S9 ∧ post S9) (wB D cy X A) A) args s rC rS A) (F0 m 180 ls []) := by
  obtain ⟨hx, hb, hml, hown, hts⟩ := id F
  have hwg : ∀ w ∈ WG, w.before args s = true := fun w h => hts w (List.mem_cons_of_mem _ h)
  intro bc bs cells slots hbc hbs S H locs ls hp hW hE hl
  unfold wp_X6_write_180 at hp
  refine W.widen (k := rC) (n := rS) (Nat.le_trans (Nat.le_add_right _ _) hbc) (Nat.le_trans (Nat.le_add_right _ _) hbs) ?_
  exact w_vret hx hb hr hlocks hW ⟨hE, hp⟩ dX6_write_180
set_option maxHeartbeats 4000000 in
set_option maxRecDepth 100000 in
theorem t_X6_write_109 {p : Program} {l : Launch} {e : Env} {s : State} {m : MethodId} {args : Array Value} {below : List Frame} {meth : Method} {c : Code} {D : wD} {cy : Nat → ClassId} {X : va_W} {A : Nat → Prop} {S0 : wS} {rC rS : Nat} {post : wS → Prop} (F : CallFix p m c cX6_write 4 s args wz_X6_write RX6) (hr : meth.sig.returnType = none) (hlocks : meth.locks = false) (hK : wK D cy A s) {k_78 : Nat → Nat → wS → Nat → Nat → Nat → Int32 → Prop} (q_78 : ∀ {bc bs cells slots : Nat} (hbc : cells + bc ≤ rC) (hbs : slots + bs ≤ rS) {S : wS} {H : Heap} {locs : List Loc} {ls : Array Slot} {a0 : Nat} {a1 : Nat} {a2 : Nat} {x3 : Int32}, k_78 bc bs S a0 a1 a2 x3 → wO D cy X A s.heap S H locs → wX D S0 S → lv_has ls 4 [(0, .ref a0), (1, .ref a1), (2, .ref a2), (3, .int x3)] → wM D S a0 → sK S a0 = 11 → wM D S a1 → sK S a1 = 12 → wM D S a2 → sK S a2 = 1 → W p l e (r_X6_write rC rS) s m args below meth c H locs cells slots (MQ below (va_Qv (fun S9 => wX D S0 S9 ∧ post S9) (wB D cy X A) A) args s rC rS A) (F0 m 78 ls [])) : ∀ {bc bs cells slots : Nat} (hbc : cells + bc ≤ rC) (hbs : slots + bs ≤ rS) {S : wS} {H : Heap} {locs : List Loc} {ls : Array Slot} {a0 : Nat} {a1 : Nat} {a2 : Nat} {x3 : Int32}, wp_X6_write_109 D post k_78 bc bs S a0 a1 a2 x3 → wO D cy X A s.heap S H locs → wX D S0 S → lv_has ls 4 [(0, .ref a0), (1, .ref a1), (2, .ref a2), (3, .int x3)] → wM D S a0 → sK S a0 = 11 → wM D S a1 → sK S a1 = 12 → wM D S a2 → sK S a2 = 1 → W p l e (r_X6_write rC rS) s m args below meth c H locs cells slots (MQ below (va_Qv (fun S9 => wX D S0 S9 ∧ post S9) (wB D cy X A) A) args s rC rS A) (F0 m 109 ls []) := by
  obtain ⟨hx, hb, hml, hown, hts⟩ := id F
  have hwg : ∀ w ∈ WG, w.before args s = true := fun w h => hts w (List.mem_cons_of_mem _ h)
  intro bc bs cells slots hbc hbs S H locs ls a0 a1 a2 x3 hp hW hE hl hL_a0 hK_a0 hL_a1 hK_a1 hL_a2 hK_a2
  unfold wp_X6_write_109 at hp
  obtain ⟨x_1, ex_1⟩ : ∃ z : Int32, z = x3 + 1 := ⟨_, rfl⟩
  replace hp := hp x_1 ex_1
  refine lv_iinc (v := x_1) (lv' := [(3, .int x_1), (0, .ref a0), (1, .ref a1), (2, .ref a2)]) hx hb dX6_write_109 hl (k := 3) rfl (by rw [ex_1]; rfl) (by decide) rfl (fun ls hl => ?_)
  refine lv_goto (tgt := 78) hx hb dX6_write_112 (by decide) ?_
  exact q_78 hbc hbs hp hW hE (lv_sub hl [1, 2, 3, 0] rfl) hL_a0 hK_a0 hL_a1 hK_a1 hL_a2 hK_a2
set_option maxHeartbeats 4000000 in
set_option maxRecDepth 100000 in
theorem t_X6_write_78 {p : Program} {l : Launch} {e : Env} {s : State} {m : MethodId} {args : Array Value} {below : List Frame} {meth : Method} {c : Code} {D : wD} {cy : Nat → ClassId} {X : va_W} {A : Nat → Prop} {S0 : wS} {rC rS : Nat} {post : wS → Prop} (F : CallFix p m c cX6_write 4 s args wz_X6_write RX6) (hr : meth.sig.returnType = none) (hlocks : meth.locks = false) (hK : wK D cy A s) : ∀ (n : Nat) {bc bs cells slots : Nat} (hbc : cells + bc ≤ rC) (hbs : slots + bs ≤ rS) {S : wS} {H : Heap} {locs : List Loc} {ls : Array Slot} {a0 : Nat} {a1 : Nat} {a2 : Nat} {x3 : Int32}, wp_X6_write_78 D post n bc bs S a0 a1 a2 x3 → wO D cy X A s.heap S H locs → wX D S0 S → lv_has ls 4 [(0, .ref a0), (1, .ref a1), (2, .ref a2), (3, .int x3)] → wM D S a0 → sK S a0 = 11 → wM D S a1 → sK S a1 = 12 → wM D S a2 → sK S a2 = 1 → W p l e (r_X6_write rC rS) s m args below meth c H locs cells slots (MQ below (va_Qv (fun S9 => wX D S0 S9 ∧ post S9) (wB D cy X A) A) args s rC rS A) (F0 m 78 ls []) := by
  obtain ⟨hx, hb, hml, hown, hts⟩ := id F
  have hwg : ∀ w ∈ WG, w.before args s = true := fun w h => hts w (List.mem_cons_of_mem _ h)
  have i_11 : ∀ w ∈ u_ws RX6 TX6 3, w ∈ wz_X6_write := fun w h => List.mem_cons_of_mem _ (wu_11 w h)
  have i_12 : ∀ w ∈ u_ws RX7 TX7 8, w ∈ wz_X6_write := fun w h => List.mem_cons_of_mem _ (wu_12 w h)
  have k_22 := hwg _ wf_RX6_22
  intro n
  induction n with
  | zero =>
    intro bc bs cells slots hbc hbs S H locs ls a0 a1 a2 x3 hp
    exact hp.elim
  | succ n ih =>
    intro bc bs cells slots hbc hbs S H locs ls a0 a1 a2 x3 hp hW hE hl hL_a0 hK_a0 hL_a1 hK_a1 hL_a2 hK_a2
    unfold wp_X6_write_78 at hp
    refine lv_iload_n hx hb dX6_write_78 rfl (lv_at hl 3 rfl) ?_
    refine w_str F hK (show ("OpeningsCabinet$Papers", 59, "KQkq", 10) ∈ wStr by decide +kernel) dX6_write_79 ?_
    obtain ⟨y_1, ey_1⟩ : ∃ z : Nat, z = D.2.2.1 10 := ⟨_, rfl⟩
    rw [← ey_1]
    replace hp := hp y_1 ey_1
    obtain ⟨hL_y_1, hK_y_1⟩ : wM D S y_1 ∧ sK S y_1 = 0 := by rw [ey_1]; exact w_strM hK hW (show ("OpeningsCabinet$Papers", 59, "KQkq", 10) ∈ wStr by decide +kernel)
    refine w_callI (va_runV (As := []) (rest := [.int x3]) F (c_J0_length_8abf5 l hL_y_1 hK_y_1 hp H.size) (cwV (C := RJ0) 0 hts (wg_V wm_RX6_61 wy_J0_length_8abf5) rfl rfl rfl (by decide +kernel) ⟨Nat.le_of_ble_eq_true rfl, Nat.le_of_ble_eq_true rfl⟩) (w_preV hK hW hL_y_1 hK_y_1 (by decide) rfl) rfl rfl hl.1 rfl (lv_room (Nat.le_of_ble_eq_true rfl)) dX6_write_81 ⟨by show _ ≤ rC; exact Nat.le_trans (Nat.le_add_right _ _) hbc, by show _ ≤ rS; exact Nat.le_trans (Nat.le_add_right _ _) hbs⟩) hW (fun r_2 S_3 H locs hp hW => ?_)
    obtain ⟨hX_S_3, hp⟩ := hp
    refine w_same ?_
    have hE := hE.trans hX_S_3
    have hK_a0 : sK S_3 a0 = 11 := (hX_S_3.2 a0 hL_a0).1.trans hK_a0
    have hL_a0 : wM D S_3 a0 := hX_S_3.M hL_a0
    have hK_a1 : sK S_3 a1 = 12 := (hX_S_3.2 a1 hL_a1).1.trans hK_a1
    have hL_a1 : wM D S_3 a1 := hX_S_3.M hL_a1
    have hK_a2 : sK S_3 a2 = 1 := (hX_S_3.2 a2 hL_a2).1.trans hK_a2
    have hL_a2 : wM D S_3 a2 := hX_S_3.M hL_a2
    refine lv_icmp_ge (tgt := 115) hx hb dX6_write_84 (by decide) (fun c_4 => ?_) (fun c_4 => ?_)
    · replace hp := hp.1 c_4
      refine lv_aload_n hx hb dX6_write_115 rfl (lv_at hl 2 rfl) ?_
      refine lv_bipush (v := 32) hx hb dX6_write_116 (by decide) ?_
      obtain ⟨m_7, z_8, hm_7, hz_8, hp⟩ := hp
      refine w_callR (va_runV (As := [.int (32 : Int32)]) (rest := []) F (c_J4_append_cf468 l hL_a2 hK_a2 hp H.size) (cwV (C := RJ4) 1 hts (wg_V wm_RX6_39 wy_J4_append_cf468) rfl rfl rfl (by decide +kernel) ⟨Nat.le_of_ble_eq_true rfl, Nat.le_of_ble_eq_true rfl⟩) (w_preV hK hW hL_a2 hK_a2 (by decide) rfl) rfl rfl hl.1 rfl (lv_room (Nat.le_of_ble_eq_true rfl)) dX6_write_118 ⟨by show _ + m_7 ≤ rC; omega, by show _ + z_8 ≤ rS; omega⟩) hW (fun r_5 S_6 H locs hp hW => ?_)
      obtain ⟨hX_S_6, hp⟩ := hp
      refine W.widen (k := _ + m_7) (n := _ + z_8) (Nat.le_refl _) (Nat.le_refl _) ?_
      replace hbc := w_spend hbc (show m_7 ≤ bc by omega)
      replace hbs := w_spend hbs (show z_8 ≤ bs by omega)
      have hE := hE.trans hX_S_6
      have hK_a0 : sK S_6 a0 = 11 := (hX_S_6.2 a0 hL_a0).1.trans hK_a0
      have hL_a0 : wM D S_6 a0 := hX_S_6.M hL_a0
      have hK_a1 : sK S_6 a1 = 12 := (hX_S_6.2 a1 hL_a1).1.trans hK_a1
      have hL_a1 : wM D S_6 a1 := hX_S_6.M hL_a1
      have hK_a2 : sK S_6 a2 = 1 := (hX_S_6.2 a2 hL_a2).1.trans hK_a2
      have hL_a2 : wM D S_6 a2 := hX_S_6.M hL_a2
      refine lv_pop hx hb dX6_write_121 (by cases r_5 <;> rfl) ?_
      refine lv_aload_n hx hb dX6_write_122 rfl (lv_at hl 1 rfl) ?_
      refine w_getN (k := 12) (f := 7) (T := TX7) (v := .int (sI S_6 a1 7)) F hK hW hL_a1 hK_a1 (by decide) rfl rfl (by decide) i_12 (hK.2.1 (.fieldLinkNest "OpeningsCabinet$Papers" 71 "OpeningsCabinet$Position" "passing" "I" "OpeningsCabinet") (by decide +kernel)) rfl dX6_write_123 ?_
      refine lv_iconst (v := (-1)) hx hb dX6_write_126 (by decide) ?_
      refine lv_icmp_ne (tgt := 140) hx hb dX6_write_127 (by decide) (fun c_9 => ?_) (fun c_9 => ?_)
      · replace hp := hp.1 c_9
        refine lv_aload_n hx hb dX6_write_140 rfl (lv_at hl 2 rfl) ?_
        refine lv_bipush (v := 97) hx hb dX6_write_141 (by decide) ?_
        refine lv_aload_n hx hb dX6_write_143 rfl (lv_at hl 0 rfl) ?_
        obtain ⟨y_10, ey_10, hL_y_10, hK_y_10, hp⟩ := hp
        refine w_get (k := 11) (f := 0) (T := TX6) (v := .ref y_10) F hK hW hL_a0 hK_a0 (by decide) rfl rfl (by decide) i_11 k_22 (by rw [show wv 11 0 S_6 a0 = va_rf (sR S_6 a0 0) from rfl, ey_10]; rfl) dX6_write_144 ?_
        refine lv_aload_n hx hb dX6_write_147 rfl (lv_at hl 1 rfl) ?_
        refine w_getN (k := 12) (f := 7) (T := TX7) (v := .int (sI S_6 a1 7)) F hK hW hL_a1 hK_a1 (by decide) rfl rfl (by decide) i_12 (hK.2.1 (.fieldLinkNest "OpeningsCabinet$Papers" 71 "OpeningsCabinet$Position" "passing" "I" "OpeningsCabinet") (by decide +kernel)) rfl dX6_write_148 ?_
        refine w_callI (va_runV (As := [.int (sI S_6 a1 7)]) (rest := [.int (97 : Int32), .ref a2]) F (c_X0_fileAt l hL_y_10 hK_y_10 hp H.size) (cwV (C := RX0) 1 hts (wg_V wm_RX6_74 wy_X0_fileAt) rfl rfl rfl (by decide +kernel) ⟨Nat.le_of_ble_eq_true rfl, Nat.le_of_ble_eq_true rfl⟩) (w_preV hK hW hL_y_10 hK_y_10 (by decide) rfl) rfl rfl hl.1 rfl (lv_room (Nat.le_of_ble_eq_true rfl)) dX6_write_151 ⟨by show _ ≤ rC; exact Nat.le_trans (Nat.le_add_right _ _) hbc, by show _ ≤ rS; exact Nat.le_trans (Nat.le_add_right _ _) hbs⟩) hW (fun r_11 S_12 H locs hp hW => ?_)
        obtain ⟨hX_S_12, hp⟩ := hp
        refine w_same ?_
        have hE := hE.trans hX_S_12
        have hK_a0 : sK S_12 a0 = 11 := (hX_S_12.2 a0 hL_a0).1.trans hK_a0
        have hL_a0 : wM D S_12 a0 := hX_S_12.M hL_a0
        have hK_a1 : sK S_12 a1 = 12 := (hX_S_12.2 a1 hL_a1).1.trans hK_a1
        have hL_a1 : wM D S_12 a1 := hX_S_12.M hL_a1
        have hK_a2 : sK S_12 a2 = 1 := (hX_S_12.2 a2 hL_a2).1.trans hK_a2
        have hL_a2 : wM D S_12 a2 := hX_S_12.M hL_a2
        refine lv_iadd hx hb dX6_write_154 ?_
        refine lv_i2c (v := (ji2c ((97 : Int32) + r_11))) hx hb dX6_write_155 rfl ?_
        obtain ⟨m_15, z_16, hm_15, hz_16, hp⟩ := hp
        refine w_callR (va_runV (As := [.int (ji2c ((97 : Int32) + r_11))]) (rest := []) F (c_J4_append_cf468 l hL_a2 hK_a2 hp H.size) (cwV (C := RJ4) 1 hts (wg_V wm_RX6_39 wy_J4_append_cf468) rfl rfl rfl (by decide +kernel) ⟨Nat.le_of_ble_eq_true rfl, Nat.le_of_ble_eq_true rfl⟩) (w_preV hK hW hL_a2 hK_a2 (by decide) rfl) rfl rfl hl.1 rfl (lv_room (Nat.le_of_ble_eq_true rfl)) dX6_write_156 ⟨by show _ + m_15 ≤ rC; omega, by show _ + z_16 ≤ rS; omega⟩) hW (fun r_13 S_14 H locs hp hW => ?_)
        obtain ⟨hX_S_14, hp⟩ := hp
        refine W.widen (k := _ + m_15) (n := _ + z_16) (Nat.le_refl _) (Nat.le_refl _) ?_
        replace hbc := w_spend hbc (show m_15 ≤ (bc - m_7) by omega)
        replace hbs := w_spend hbs (show z_16 ≤ (bs - z_8) by omega)
        have hE := hE.trans hX_S_14
        have hK_a0 : sK S_14 a0 = 11 := (hX_S_14.2 a0 hL_a0).1.trans hK_a0
        have hL_a0 : wM D S_14 a0 := hX_S_14.M hL_a0
        have hK_a1 : sK S_14 a1 = 12 := (hX_S_14.2 a1 hL_a1).1.trans hK_a1
        have hL_a1 : wM D S_14 a1 := hX_S_14.M hL_a1
        have hK_a2 : sK S_14 a2 = 1 := (hX_S_14.2 a2 hL_a2).1.trans hK_a2
        have hL_a2 : wM D S_14 a2 := hX_S_14.M hL_a2
        refine lv_pop hx hb dX6_write_159 (by cases r_13 <;> rfl) ?_
        refine lv_aload_n hx hb dX6_write_160 rfl (lv_at hl 2 rfl) ?_
        refine lv_bipush (v := 49) hx hb dX6_write_161 (by decide) ?_
        refine lv_aload_n hx hb dX6_write_163 rfl (lv_at hl 0 rfl) ?_
        obtain ⟨y_17, ey_17, hL_y_17, hK_y_17, hp⟩ := hp
        refine w_get (k := 11) (f := 0) (T := TX6) (v := .ref y_17) F hK hW hL_a0 hK_a0 (by decide) rfl rfl (by decide) i_11 k_22 (by rw [show wv 11 0 S_14 a0 = va_rf (sR S_14 a0 0) from rfl, ey_17]; rfl) dX6_write_164 ?_
        refine lv_aload_n hx hb dX6_write_167 rfl (lv_at hl 1 rfl) ?_
        refine w_getN (k := 12) (f := 7) (T := TX7) (v := .int (sI S_14 a1 7)) F hK hW hL_a1 hK_a1 (by decide) rfl rfl (by decide) i_12 (hK.2.1 (.fieldLinkNest "OpeningsCabinet$Papers" 71 "OpeningsCabinet$Position" "passing" "I" "OpeningsCabinet") (by decide +kernel)) rfl dX6_write_168 ?_
        refine w_callI (va_runV (As := [.int (sI S_14 a1 7)]) (rest := [.int (49 : Int32), .ref a2]) F (c_X0_rankAt l hL_y_17 hK_y_17 hp H.size) (cwV (C := RX0) 1 hts (wg_V wm_RX6_78 wy_X0_rankAt) rfl rfl rfl (by decide +kernel) ⟨Nat.le_of_ble_eq_true rfl, Nat.le_of_ble_eq_true rfl⟩) (w_preV hK hW hL_y_17 hK_y_17 (by decide) rfl) rfl rfl hl.1 rfl (lv_room (Nat.le_of_ble_eq_true rfl)) dX6_write_171 ⟨by show _ ≤ rC; exact Nat.le_trans (Nat.le_add_right _ _) hbc, by show _ ≤ rS; exact Nat.le_trans (Nat.le_add_right _ _) hbs⟩) hW (fun r_18 S_19 H locs hp hW => ?_)
        obtain ⟨hX_S_19, hp⟩ := hp
        refine w_same ?_
        have hE := hE.trans hX_S_19
        have hK_a0 : sK S_19 a0 = 11 := (hX_S_19.2 a0 hL_a0).1.trans hK_a0
        have hL_a0 : wM D S_19 a0 := hX_S_19.M hL_a0
        have hK_a1 : sK S_19 a1 = 12 := (hX_S_19.2 a1 hL_a1).1.trans hK_a1
        have hL_a1 : wM D S_19 a1 := hX_S_19.M hL_a1
        have hK_a2 : sK S_19 a2 = 1 := (hX_S_19.2 a2 hL_a2).1.trans hK_a2
        have hL_a2 : wM D S_19 a2 := hX_S_19.M hL_a2
        refine lv_iadd hx hb dX6_write_174 ?_
        refine lv_i2c (v := (ji2c ((49 : Int32) + r_18))) hx hb dX6_write_175 rfl ?_
        obtain ⟨m_22, z_23, hm_22, hz_23, hp⟩ := hp
        refine w_callR (va_runV (As := [.int (ji2c ((49 : Int32) + r_18))]) (rest := []) F (c_J4_append_cf468 l hL_a2 hK_a2 hp H.size) (cwV (C := RJ4) 1 hts (wg_V wm_RX6_39 wy_J4_append_cf468) rfl rfl rfl (by decide +kernel) ⟨Nat.le_of_ble_eq_true rfl, Nat.le_of_ble_eq_true rfl⟩) (w_preV hK hW hL_a2 hK_a2 (by decide) rfl) rfl rfl hl.1 rfl (lv_room (Nat.le_of_ble_eq_true rfl)) dX6_write_176 ⟨by show _ + m_22 ≤ rC; omega, by show _ + z_23 ≤ rS; omega⟩) hW (fun r_20 S_21 H locs hp hW => ?_)
        obtain ⟨hX_S_21, hp⟩ := hp
        refine W.widen (k := _ + m_22) (n := _ + z_23) (Nat.le_refl _) (Nat.le_refl _) ?_
        replace hbc := w_spend hbc (show m_22 ≤ ((bc - m_7) - m_15) by omega)
        replace hbs := w_spend hbs (show z_23 ≤ ((bs - z_8) - z_16) by omega)
        have hE := hE.trans hX_S_21
        have hK_a0 : sK S_21 a0 = 11 := (hX_S_21.2 a0 hL_a0).1.trans hK_a0
        have hL_a0 : wM D S_21 a0 := hX_S_21.M hL_a0
        have hK_a1 : sK S_21 a1 = 12 := (hX_S_21.2 a1 hL_a1).1.trans hK_a1
        have hL_a1 : wM D S_21 a1 := hX_S_21.M hL_a1
        have hK_a2 : sK S_21 a2 = 1 := (hX_S_21.2 a2 hL_a2).1.trans hK_a2
        have hL_a2 : wM D S_21 a2 := hX_S_21.M hL_a2
        refine lv_pop hx hb dX6_write_179 (by cases r_20 <;> rfl) ?_
        exact t_X6_write_180 F hr hlocks hK hbc hbs hp hW hE (lv_sub hl [] rfl)
      · replace hp := hp.2 c_9
        refine lv_aload_n hx hb dX6_write_130 rfl (lv_at hl 2 rfl) ?_
        refine lv_bipush (v := 45) hx hb dX6_write_131 (by decide) ?_
        obtain ⟨m_26, z_27, hm_26, hz_27, hp⟩ := hp
        refine w_callR (va_runV (As := [.int (45 : Int32)]) (rest := []) F (c_J4_append_cf468 l hL_a2 hK_a2 hp H.size) (cwV (C := RJ4) 1 hts (wg_V wm_RX6_39 wy_J4_append_cf468) rfl rfl rfl (by decide +kernel) ⟨Nat.le_of_ble_eq_true rfl, Nat.le_of_ble_eq_true rfl⟩) (w_preV hK hW hL_a2 hK_a2 (by decide) rfl) rfl rfl hl.1 rfl (lv_room (Nat.le_of_ble_eq_true rfl)) dX6_write_133 ⟨by show _ + m_26 ≤ rC; omega, by show _ + z_27 ≤ rS; omega⟩) hW (fun r_24 S_25 H locs hp hW => ?_)
        obtain ⟨hX_S_25, hp⟩ := hp
        refine W.widen (k := _ + m_26) (n := _ + z_27) (Nat.le_refl _) (Nat.le_refl _) ?_
        replace hbc := w_spend hbc (show m_26 ≤ (bc - m_7) by omega)
        replace hbs := w_spend hbs (show z_27 ≤ (bs - z_8) by omega)
        have hE := hE.trans hX_S_25
        have hK_a0 : sK S_25 a0 = 11 := (hX_S_25.2 a0 hL_a0).1.trans hK_a0
        have hL_a0 : wM D S_25 a0 := hX_S_25.M hL_a0
        have hK_a1 : sK S_25 a1 = 12 := (hX_S_25.2 a1 hL_a1).1.trans hK_a1
        have hL_a1 : wM D S_25 a1 := hX_S_25.M hL_a1
        have hK_a2 : sK S_25 a2 = 1 := (hX_S_25.2 a2 hL_a2).1.trans hK_a2
        have hL_a2 : wM D S_25 a2 := hX_S_25.M hL_a2
        refine lv_pop hx hb dX6_write_136 (by cases r_24 <;> rfl) ?_
        refine lv_goto (tgt := 180) hx hb dX6_write_137 (by decide) ?_
        exact t_X6_write_180 F hr hlocks hK hbc hbs hp hW hE (lv_sub hl [] rfl)
    · replace hp := hp.2 c_4
      refine lv_aload_n hx hb dX6_write_87 rfl (lv_at hl 1 rfl) ?_
      refine w_getN (k := 12) (f := 6) (T := TX7) (v := .int (sI S_3 a1 6)) F hK hW hL_a1 hK_a1 (by decide) rfl rfl (by decide) i_12 (hK.2.1 (.fieldLinkNest "OpeningsCabinet$Papers" 56 "OpeningsCabinet$Position" "rights" "I" "OpeningsCabinet") (by decide +kernel)) rfl dX6_write_88 ?_
      refine lv_iload_n hx hb dX6_write_91 rfl (lv_at hl 3 rfl) ?_
      refine lv_iushr (v := (jiushr (sI S_3 a1 6) x3)) hx hb dX6_write_92 rfl ?_
      refine lv_iconst (v := 1) hx hb dX6_write_93 (by decide) ?_
      refine lv_iand hx hb dX6_write_94 ?_
      refine lv_if_eq (tgt := 109) hx hb dX6_write_95 (by decide) (fun c_28 => ?_) (fun c_28 => ?_)
      · replace hp := hp.1 c_28
        exact t_X6_write_109 F hr hlocks hK ih hbc hbs hp hW hE (lv_sub hl [0, 1, 2, 3] rfl) hL_a0 hK_a0 hL_a1 hK_a1 hL_a2 hK_a2
      · replace hp := hp.2 c_28
        refine lv_aload_n hx hb dX6_write_98 rfl (lv_at hl 2 rfl) ?_
        refine w_str F hK (show ("OpeningsCabinet$Papers", 59, "KQkq", 10) ∈ wStr by decide +kernel) dX6_write_99 ?_
        obtain ⟨y_29, ey_29⟩ : ∃ z : Nat, z = D.2.2.1 10 := ⟨_, rfl⟩
        rw [← ey_29]
        replace hp := hp y_29 ey_29
        obtain ⟨hL_y_29, hK_y_29⟩ : wM D S_3 y_29 ∧ sK S_3 y_29 = 0 := by rw [ey_29]; exact w_strM hK hW (show ("OpeningsCabinet$Papers", 59, "KQkq", 10) ∈ wStr by decide +kernel)
        refine lv_iload_n hx hb dX6_write_101 rfl (lv_at hl 3 rfl) ?_
        refine w_callI (va_runV (As := [.int x3]) (rest := [.ref a2]) F (c_J0_charAt_5068e l hL_y_29 hK_y_29 hp H.size) (cwV (C := RJ0) 1 hts (wg_V wm_RX6_67 wy_J0_charAt_5068e) rfl rfl rfl (by decide +kernel) ⟨Nat.le_of_ble_eq_true rfl, Nat.le_of_ble_eq_true rfl⟩) (w_preV hK hW hL_y_29 hK_y_29 (by decide) rfl) rfl rfl hl.1 rfl (lv_room (Nat.le_of_ble_eq_true rfl)) dX6_write_102 ⟨by show _ ≤ rC; exact Nat.le_trans (Nat.le_add_right _ _) hbc, by show _ ≤ rS; exact Nat.le_trans (Nat.le_add_right _ _) hbs⟩) hW (fun r_30 S_31 H locs hp hW => ?_)
        obtain ⟨hX_S_31, hp⟩ := hp
        refine w_same ?_
        have hE := hE.trans hX_S_31
        have hK_a0 : sK S_31 a0 = 11 := (hX_S_31.2 a0 hL_a0).1.trans hK_a0
        have hL_a0 : wM D S_31 a0 := hX_S_31.M hL_a0
        have hK_a1 : sK S_31 a1 = 12 := (hX_S_31.2 a1 hL_a1).1.trans hK_a1
        have hL_a1 : wM D S_31 a1 := hX_S_31.M hL_a1
        have hK_a2 : sK S_31 a2 = 1 := (hX_S_31.2 a2 hL_a2).1.trans hK_a2
        have hL_a2 : wM D S_31 a2 := hX_S_31.M hL_a2
        obtain ⟨m_34, z_35, hm_34, hz_35, hp⟩ := hp
        refine w_callR (va_runV (As := [.int r_30]) (rest := []) F (c_J4_append_cf468 l hL_a2 hK_a2 hp H.size) (cwV (C := RJ4) 1 hts (wg_V wm_RX6_39 wy_J4_append_cf468) rfl rfl rfl (by decide +kernel) ⟨Nat.le_of_ble_eq_true rfl, Nat.le_of_ble_eq_true rfl⟩) (w_preV hK hW hL_a2 hK_a2 (by decide) rfl) rfl rfl hl.1 rfl (lv_room (Nat.le_of_ble_eq_true rfl)) dX6_write_105 ⟨by show _ + m_34 ≤ rC; omega, by show _ + z_35 ≤ rS; omega⟩) hW (fun r_32 S_33 H locs hp hW => ?_)
        obtain ⟨hX_S_33, hp⟩ := hp
        refine W.widen (k := _ + m_34) (n := _ + z_35) (Nat.le_refl _) (Nat.le_refl _) ?_
        replace hbc := w_spend hbc (show m_34 ≤ bc by omega)
        replace hbs := w_spend hbs (show z_35 ≤ bs by omega)
        have hE := hE.trans hX_S_33
        have hK_a0 : sK S_33 a0 = 11 := (hX_S_33.2 a0 hL_a0).1.trans hK_a0
        have hL_a0 : wM D S_33 a0 := hX_S_33.M hL_a0
        have hK_a1 : sK S_33 a1 = 12 := (hX_S_33.2 a1 hL_a1).1.trans hK_a1
        have hL_a1 : wM D S_33 a1 := hX_S_33.M hL_a1
        have hK_a2 : sK S_33 a2 = 1 := (hX_S_33.2 a2 hL_a2).1.trans hK_a2
        have hL_a2 : wM D S_33 a2 := hX_S_33.M hL_a2
        refine lv_pop hx hb dX6_write_108 (by cases r_32 <;> rfl) ?_
        exact t_X6_write_109 F hr hlocks hK ih hbc hbs hp hW hE (lv_sub hl [0, 1, 2, 3] rfl) hL_a0 hK_a0 hL_a1 hK_a1 hL_a2 hK_a2
set_option maxHeartbeats 4000000 in
set_option maxRecDepth 100000 in
theorem t_X6_write_76 {p : Program} {l : Launch} {e : Env} {s : State} {m : MethodId} {args : Array Value} {below : List Frame} {meth : Method} {c : Code} {D : wD} {cy : Nat → ClassId} {X : va_W} {A : Nat → Prop} {S0 : wS} {rC rS : Nat} {post : wS → Prop} (F : CallFix p m c cX6_write 4 s args wz_X6_write RX6) (hr : meth.sig.returnType = none) (hlocks : meth.locks = false) (hK : wK D cy A s) : ∀ {bc bs cells slots : Nat} (hbc : cells + bc ≤ rC) (hbs : slots + bs ≤ rS) {S : wS} {H : Heap} {locs : List Loc} {ls : Array Slot} {a0 : Nat} {a1 : Nat} {a2 : Nat}, wp_X6_write_76 D post bc bs S a0 a1 a2 → wO D cy X A s.heap S H locs → wX D S0 S → lv_has ls 4 [(0, .ref a0), (1, .ref a1), (2, .ref a2)] → wM D S a0 → sK S a0 = 11 → wM D S a1 → sK S a1 = 12 → wM D S a2 → sK S a2 = 1 → W p l e (r_X6_write rC rS) s m args below meth c H locs cells slots (MQ below (va_Qv (fun S9 => wX D S0 S9 ∧ post S9) (wB D cy X A) A) args s rC rS A) (F0 m 76 ls []) := by
  obtain ⟨hx, hb, hml, hown, hts⟩ := id F
  have hwg : ∀ w ∈ WG, w.before args s = true := fun w h => hts w (List.mem_cons_of_mem _ h)
  intro bc bs cells slots hbc hbs S H locs ls a0 a1 a2 hp hW hE hl hL_a0 hK_a0 hL_a1 hK_a1 hL_a2 hK_a2
  unfold wp_X6_write_76 at hp
  refine lv_iconst (v := 0) hx hb dX6_write_76 (by decide) ?_
  refine lv_istore_n (lv' := [(3, .int (0 : Int32)), (0, .ref a0), (1, .ref a1), (2, .ref a2)]) hx hb dX6_write_77 rfl hl (by decide) rfl (fun ls hl => ?_)
  obtain ⟨n_1, hp⟩ := hp
  exact t_X6_write_78 F hr hlocks hK n_1 hbc hbs hp hW hE (lv_sub hl [1, 2, 3, 0] rfl) hL_a0 hK_a0 hL_a1 hK_a1 hL_a2 hK_a2
set_option maxHeartbeats 4000000 in
set_option maxRecDepth 100000 in
theorem t_X6_write_58 {p : Program} {l : Launch} {e : Env} {s : State} {m : MethodId} {args : Array Value} {below : List Frame} {meth : Method} {c : Code} {D : wD} {cy : Nat → ClassId} {X : va_W} {A : Nat → Prop} {S0 : wS} {rC rS : Nat} {post : wS → Prop} (F : CallFix p m c cX6_write 4 s args wz_X6_write RX6) (hr : meth.sig.returnType = none) (hlocks : meth.locks = false) (hK : wK D cy A s) : ∀ {bc bs cells slots : Nat} (hbc : cells + bc ≤ rC) (hbs : slots + bs ≤ rS) {S : wS} {H : Heap} {locs : List Loc} {ls : Array Slot} {a0 : Nat} {a1 : Nat} {a2 : Nat} {b0 : Nat} {b1 : Nat}, wp_X6_write_58 D post bc bs S a0 a1 a2 b0 b1 → wO D cy X A s.heap S H locs → wX D S0 S → lv_has ls 4 [(0, .ref a0), (1, .ref a1), (2, .ref a2)] → wM D S a0 → sK S a0 = 11 → wM D S a1 → sK S a1 = 12 → wM D S a2 → sK S a2 = 1 → wM D S b0 → sK S b0 = 1 → wM D S b1 → sK S b1 = 0 → W p l e (r_X6_write rC rS) s m args below meth c H locs cells slots (MQ below (va_Qv (fun S9 => wX D S0 S9 ∧ post S9) (wB D cy X A) A) args s rC rS A) (F0 m 58 ls [.ref b1, .ref b0]) := by
  obtain ⟨hx, hb, hml, hown, hts⟩ := id F
  have hwg : ∀ w ∈ WG, w.before args s = true := fun w h => hts w (List.mem_cons_of_mem _ h)
  have i_12 : ∀ w ∈ u_ws RX7 TX7 8, w ∈ wz_X6_write := fun w h => List.mem_cons_of_mem _ (wu_12 w h)
  intro bc bs cells slots hbc hbs S H locs ls a0 a1 a2 b0 b1 hp hW hE hl hL_a0 hK_a0 hL_a1 hK_a1 hL_a2 hK_a2 hL_b0 hK_b0 hL_b1 hK_b1
  unfold wp_X6_write_58 at hp
  obtain ⟨m_3, z_4, hm_3, hz_4, hp⟩ := hp
  refine w_callR (va_runV (As := [.ref b1]) (rest := []) F (c_J4_append_15ec4 l hL_b0 hK_b0 hL_b1 hK_b1 hp H.size) (cwV (C := RJ4) 1 hts (wg_V wm_RX6_53 wy_J4_append_15ec4) rfl rfl rfl (by decide +kernel) ⟨Nat.le_of_ble_eq_true rfl, Nat.le_of_ble_eq_true rfl⟩) (w_preV hK hW hL_b0 hK_b0 (by decide) rfl) rfl rfl hl.1 rfl (lv_room (Nat.le_of_ble_eq_true rfl)) dX6_write_58 ⟨by show _ + m_3 ≤ rC; omega, by show _ + z_4 ≤ rS; omega⟩) hW (fun r_1 S_2 H locs hp hW => ?_)
  obtain ⟨hX_S_2, hp⟩ := hp
  refine W.widen (k := _ + m_3) (n := _ + z_4) (Nat.le_refl _) (Nat.le_refl _) ?_
  replace hbc := w_spend hbc (show m_3 ≤ bc by omega)
  replace hbs := w_spend hbs (show z_4 ≤ bs by omega)
  have hE := hE.trans hX_S_2
  have hK_a0 : sK S_2 a0 = 11 := (hX_S_2.2 a0 hL_a0).1.trans hK_a0
  have hL_a0 : wM D S_2 a0 := hX_S_2.M hL_a0
  have hK_a1 : sK S_2 a1 = 12 := (hX_S_2.2 a1 hL_a1).1.trans hK_a1
  have hL_a1 : wM D S_2 a1 := hX_S_2.M hL_a1
  have hK_a2 : sK S_2 a2 = 1 := (hX_S_2.2 a2 hL_a2).1.trans hK_a2
  have hL_a2 : wM D S_2 a2 := hX_S_2.M hL_a2
  refine lv_pop hx hb dX6_write_61 (by cases r_1 <;> rfl) ?_
  refine lv_aload_n hx hb dX6_write_62 rfl (lv_at hl 1 rfl) ?_
  refine w_getN (k := 12) (f := 6) (T := TX7) (v := .int (sI S_2 a1 6)) F hK hW hL_a1 hK_a1 (by decide) rfl rfl (by decide) i_12 (hK.2.1 (.fieldLinkNest "OpeningsCabinet$Papers" 56 "OpeningsCabinet$Position" "rights" "I" "OpeningsCabinet") (by decide +kernel)) rfl dX6_write_63 ?_
  refine lv_if_ne (tgt := 76) hx hb dX6_write_66 (by decide) (fun c_5 => ?_) (fun c_5 => ?_)
  · replace hp := hp.1 c_5
    exact t_X6_write_76 F hr hlocks hK hbc hbs hp hW hE (lv_sub hl [0, 1, 2] rfl) hL_a0 hK_a0 hL_a1 hK_a1 hL_a2 hK_a2
  · replace hp := hp.2 c_5
    refine lv_aload_n hx hb dX6_write_69 rfl (lv_at hl 2 rfl) ?_
    refine lv_bipush (v := 45) hx hb dX6_write_70 (by decide) ?_
    obtain ⟨m_8, z_9, hm_8, hz_9, hp⟩ := hp
    refine w_callR (va_runV (As := [.int (45 : Int32)]) (rest := []) F (c_J4_append_cf468 l hL_a2 hK_a2 hp H.size) (cwV (C := RJ4) 1 hts (wg_V wm_RX6_39 wy_J4_append_cf468) rfl rfl rfl (by decide +kernel) ⟨Nat.le_of_ble_eq_true rfl, Nat.le_of_ble_eq_true rfl⟩) (w_preV hK hW hL_a2 hK_a2 (by decide) rfl) rfl rfl hl.1 rfl (lv_room (Nat.le_of_ble_eq_true rfl)) dX6_write_72 ⟨by show _ + m_8 ≤ rC; omega, by show _ + z_9 ≤ rS; omega⟩) hW (fun r_6 S_7 H locs hp hW => ?_)
    obtain ⟨hX_S_7, hp⟩ := hp
    refine W.widen (k := _ + m_8) (n := _ + z_9) (Nat.le_refl _) (Nat.le_refl _) ?_
    replace hbc := w_spend hbc (show m_8 ≤ (bc - m_3) by omega)
    replace hbs := w_spend hbs (show z_9 ≤ (bs - z_4) by omega)
    have hE := hE.trans hX_S_7
    have hK_a0 : sK S_7 a0 = 11 := (hX_S_7.2 a0 hL_a0).1.trans hK_a0
    have hL_a0 : wM D S_7 a0 := hX_S_7.M hL_a0
    have hK_a1 : sK S_7 a1 = 12 := (hX_S_7.2 a1 hL_a1).1.trans hK_a1
    have hL_a1 : wM D S_7 a1 := hX_S_7.M hL_a1
    have hK_a2 : sK S_7 a2 = 1 := (hX_S_7.2 a2 hL_a2).1.trans hK_a2
    have hL_a2 : wM D S_7 a2 := hX_S_7.M hL_a2
    refine lv_pop hx hb dX6_write_75 (by cases r_6 <;> rfl) ?_
    exact t_X6_write_76 F hr hlocks hK hbc hbs hp hW hE (lv_sub hl [0, 1, 2] rfl) hL_a0 hK_a0 hL_a1 hK_a1 hL_a2 hK_a2
set_option maxHeartbeats 4000000 in
set_option maxRecDepth 100000 in
theorem t_X6_write_37 {p : Program} {l : Launch} {e : Env} {s : State} {m : MethodId} {args : Array Value} {below : List Frame} {meth : Method} {c : Code} {D : wD} {cy : Nat → ClassId} {X : va_W} {A : Nat → Prop} {S0 : wS} {rC rS : Nat} {post : wS → Prop} (F : CallFix p m c cX6_write 4 s args wz_X6_write RX6) (hr : meth.sig.returnType = none) (hlocks : meth.locks = false) (hK : wK D cy A s) {k_15 : Nat → Nat → wS → Nat → Nat → Nat → Int32 → Prop} (q_15 : ∀ {bc bs cells slots : Nat} (hbc : cells + bc ≤ rC) (hbs : slots + bs ≤ rS) {S : wS} {H : Heap} {locs : List Loc} {ls : Array Slot} {a0 : Nat} {a1 : Nat} {a2 : Nat} {x3 : Int32}, k_15 bc bs S a0 a1 a2 x3 → wO D cy X A s.heap S H locs → wX D S0 S → lv_has ls 4 [(0, .ref a0), (1, .ref a1), (2, .ref a2), (3, .int x3)] → wM D S a0 → sK S a0 = 11 → wM D S a1 → sK S a1 = 12 → wM D S a2 → sK S a2 = 1 → W p l e (r_X6_write rC rS) s m args below meth c H locs cells slots (MQ below (va_Qv (fun S9 => wX D S0 S9 ∧ post S9) (wB D cy X A) A) args s rC rS A) (F0 m 15 ls [])) : ∀ {bc bs cells slots : Nat} (hbc : cells + bc ≤ rC) (hbs : slots + bs ≤ rS) {S : wS} {H : Heap} {locs : List Loc} {ls : Array Slot} {a0 : Nat} {a1 : Nat} {a2 : Nat} {x3 : Int32}, wp_X6_write_37 D post k_15 bc bs S a0 a1 a2 x3 → wO D cy X A s.heap S H locs → wX D S0 S → lv_has ls 4 [(0, .ref a0), (1, .ref a1), (2, .ref a2), (3, .int x3)] → wM D S a0 → sK S a0 = 11 → wM D S a1 → sK S a1 = 12 → wM D S a2 → sK S a2 = 1 → W p l e (r_X6_write rC rS) s m args below meth c H locs cells slots (MQ below (va_Qv (fun S9 => wX D S0 S9 ∧ post S9) (wB D cy X A) A) args s rC rS A) (F0 m 37 ls []) := by
  obtain ⟨hx, hb, hml, hown, hts⟩ := id F
  have hwg : ∀ w ∈ WG, w.before args s = true := fun w h => hts w (List.mem_cons_of_mem _ h)
  intro bc bs cells slots hbc hbs S H locs ls a0 a1 a2 x3 hp hW hE hl hL_a0 hK_a0 hL_a1 hK_a1 hL_a2 hK_a2
  unfold wp_X6_write_37 at hp
  obtain ⟨x_1, ex_1⟩ : ∃ z : Int32, z = x3 + (-1) := ⟨_, rfl⟩
  replace hp := hp x_1 ex_1
  refine lv_iinc (v := x_1) (lv' := [(3, .int x_1), (0, .ref a0), (1, .ref a1), (2, .ref a2)]) hx hb dX6_write_37 hl (k := 3) rfl (by rw [ex_1]; rfl) (by decide) rfl (fun ls hl => ?_)
  refine lv_goto (tgt := 15) hx hb dX6_write_40 (by decide) ?_
  exact q_15 hbc hbs hp hW hE (lv_sub hl [1, 2, 3, 0] rfl) hL_a0 hK_a0 hL_a1 hK_a1 hL_a2 hK_a2
set_option maxHeartbeats 4000000 in
set_option maxRecDepth 100000 in
theorem t_X6_write_15 {p : Program} {l : Launch} {e : Env} {s : State} {m : MethodId} {args : Array Value} {below : List Frame} {meth : Method} {c : Code} {D : wD} {cy : Nat → ClassId} {X : va_W} {A : Nat → Prop} {S0 : wS} {rC rS : Nat} {post : wS → Prop} (F : CallFix p m c cX6_write 4 s args wz_X6_write RX6) (hr : meth.sig.returnType = none) (hlocks : meth.locks = false) (hK : wK D cy A s) : ∀ (n : Nat) {bc bs cells slots : Nat} (hbc : cells + bc ≤ rC) (hbs : slots + bs ≤ rS) {S : wS} {H : Heap} {locs : List Loc} {ls : Array Slot} {a0 : Nat} {a1 : Nat} {a2 : Nat} {x3 : Int32}, wp_X6_write_15 D post n bc bs S a0 a1 a2 x3 → wO D cy X A s.heap S H locs → wX D S0 S → lv_has ls 4 [(0, .ref a0), (1, .ref a1), (2, .ref a2), (3, .int x3)] → wM D S a0 → sK S a0 = 11 → wM D S a1 → sK S a1 = 12 → wM D S a2 → sK S a2 = 1 → W p l e (r_X6_write rC rS) s m args below meth c H locs cells slots (MQ below (va_Qv (fun S9 => wX D S0 S9 ∧ post S9) (wB D cy X A) A) args s rC rS A) (F0 m 15 ls []) := by
  obtain ⟨hx, hb, hml, hown, hts⟩ := id F
  have hwg : ∀ w ∈ WG, w.before args s = true := fun w h => hts w (List.mem_cons_of_mem _ h)
  have i_12 : ∀ w ∈ u_ws RX7 TX7 8, w ∈ wz_X6_write := fun w h => List.mem_cons_of_mem _ (wu_12 w h)
  intro n
  induction n with
  | zero =>
    intro bc bs cells slots hbc hbs S H locs ls a0 a1 a2 x3 hp
    exact hp.elim
  | succ n ih =>
    intro bc bs cells slots hbc hbs S H locs ls a0 a1 a2 x3 hp hW hE hl hL_a0 hK_a0 hL_a1 hK_a1 hL_a2 hK_a2
    unfold wp_X6_write_15 at hp
    refine lv_iload_n hx hb dX6_write_15 rfl (lv_at hl 3 rfl) ?_
    refine lv_if_lt (tgt := 43) hx hb dX6_write_16 (by decide) (fun c_1 => ?_) (fun c_1 => ?_)
    · replace hp := hp.1 c_1
      refine lv_aload_n hx hb dX6_write_43 rfl (lv_at hl 2 rfl) ?_
      refine lv_aload_n hx hb dX6_write_44 rfl (lv_at hl 1 rfl) ?_
      refine w_getN (k := 12) (f := 5) (T := TX7) (v := .int (sI S a1 5)) F hK hW hL_a1 hK_a1 (by decide) rfl rfl (by decide) i_12 (hK.2.1 (.fieldLinkNest "OpeningsCabinet$Papers" 43 "OpeningsCabinet$Position" "isWhite" "Z" "OpeningsCabinet") (by decide +kernel)) rfl dX6_write_45 ?_
      refine lv_if_eq (tgt := 56) hx hb dX6_write_48 (by decide) (fun c_2 => ?_) (fun c_2 => ?_)
      · replace hp := hp.1 c_2
        refine w_str F hK (show ("OpeningsCabinet$Papers", 51, " b ", 9) ∈ wStr by decide +kernel) dX6_write_56 ?_
        obtain ⟨y_3, ey_3⟩ : ∃ z : Nat, z = D.2.2.1 9 := ⟨_, rfl⟩
        rw [← ey_3]
        replace hp := hp y_3 ey_3
        obtain ⟨hL_y_3, hK_y_3⟩ : wM D S y_3 ∧ sK S y_3 = 0 := by rw [ey_3]; exact w_strM hK hW (show ("OpeningsCabinet$Papers", 51, " b ", 9) ∈ wStr by decide +kernel)
        exact t_X6_write_58 F hr hlocks hK hbc hbs hp hW hE (lv_sub hl [0, 1, 2] rfl) hL_a0 hK_a0 hL_a1 hK_a1 hL_a2 hK_a2 hL_a2 hK_a2 hL_y_3 hK_y_3
      · replace hp := hp.2 c_2
        refine w_str F hK (show ("OpeningsCabinet$Papers", 49, " w ", 8) ∈ wStr by decide +kernel) dX6_write_51 ?_
        obtain ⟨y_4, ey_4⟩ : ∃ z : Nat, z = D.2.2.1 8 := ⟨_, rfl⟩
        rw [← ey_4]
        replace hp := hp y_4 ey_4
        obtain ⟨hL_y_4, hK_y_4⟩ : wM D S y_4 ∧ sK S y_4 = 0 := by rw [ey_4]; exact w_strM hK hW (show ("OpeningsCabinet$Papers", 49, " w ", 8) ∈ wStr by decide +kernel)
        refine lv_goto (tgt := 58) hx hb dX6_write_53 (by decide) ?_
        exact t_X6_write_58 F hr hlocks hK hbc hbs hp hW hE (lv_sub hl [0, 1, 2] rfl) hL_a0 hK_a0 hL_a1 hK_a1 hL_a2 hK_a2 hL_a2 hK_a2 hL_y_4 hK_y_4
    · replace hp := hp.2 c_1
      refine lv_aload_n hx hb dX6_write_19 rfl (lv_at hl 0 rfl) ?_
      refine lv_aload_n hx hb dX6_write_20 rfl (lv_at hl 1 rfl) ?_
      refine lv_iload_n hx hb dX6_write_21 rfl (lv_at hl 3 rfl) ?_
      refine lv_aload_n hx hb dX6_write_22 rfl (lv_at hl 2 rfl) ?_
      obtain ⟨m_7, z_8, hm_7, hz_8, hp⟩ := hp
      refine w_callV (va_runV (As := [.ref a1, .int x3, .ref a2]) (rest := []) F (c_X6_writeRank l hL_a0 hK_a0 hL_a1 hK_a1 hL_a2 hK_a2 hp H.size) (cwV (C := RX6) 3 hts (wg_V wm_RX6_35 wy_X6_writeRank) rfl rfl rfl (by decide +kernel) ⟨Nat.le_of_ble_eq_true rfl, Nat.le_of_ble_eq_true rfl⟩) (w_preV hK hW hL_a0 hK_a0 (by decide) rfl) rfl rfl hl.1 rfl (lv_room (Nat.le_of_ble_eq_true rfl)) dX6_write_23 ⟨by show _ + m_7 ≤ rC; omega, by show _ + z_8 ≤ rS; omega⟩) hW (fun S_6 H locs hp hW => ?_)
      obtain ⟨hX_S_6, hp⟩ := hp
      refine W.widen (k := _ + m_7) (n := _ + z_8) (Nat.le_refl _) (Nat.le_refl _) ?_
      replace hbc := w_spend hbc (show m_7 ≤ bc by omega)
      replace hbs := w_spend hbs (show z_8 ≤ bs by omega)
      have hE := hE.trans hX_S_6
      have hK_a0 : sK S_6 a0 = 11 := (hX_S_6.2 a0 hL_a0).1.trans hK_a0
      have hL_a0 : wM D S_6 a0 := hX_S_6.M hL_a0
      have hK_a1 : sK S_6 a1 = 12 := (hX_S_6.2 a1 hL_a1).1.trans hK_a1
      have hL_a1 : wM D S_6 a1 := hX_S_6.M hL_a1
      have hK_a2 : sK S_6 a2 = 1 := (hX_S_6.2 a2 hL_a2).1.trans hK_a2
      have hL_a2 : wM D S_6 a2 := hX_S_6.M hL_a2
      refine lv_iload_n hx hb dX6_write_26 rfl (lv_at hl 3 rfl) ?_
      refine lv_if_le (tgt := 37) hx hb dX6_write_27 (by decide) (fun c_9 => ?_) (fun c_9 => ?_)
      · replace hp := hp.1 c_9
        exact t_X6_write_37 F hr hlocks hK ih hbc hbs hp hW hE (lv_sub hl [0, 1, 2, 3] rfl) hL_a0 hK_a0 hL_a1 hK_a1 hL_a2 hK_a2
      · replace hp := hp.2 c_9
        refine lv_aload_n hx hb dX6_write_30 rfl (lv_at hl 2 rfl) ?_
        refine lv_bipush (v := 47) hx hb dX6_write_31 (by decide) ?_
        obtain ⟨m_12, z_13, hm_12, hz_13, hp⟩ := hp
        refine w_callR (va_runV (As := [.int (47 : Int32)]) (rest := []) F (c_J4_append_cf468 l hL_a2 hK_a2 hp H.size) (cwV (C := RJ4) 1 hts (wg_V wm_RX6_39 wy_J4_append_cf468) rfl rfl rfl (by decide +kernel) ⟨Nat.le_of_ble_eq_true rfl, Nat.le_of_ble_eq_true rfl⟩) (w_preV hK hW hL_a2 hK_a2 (by decide) rfl) rfl rfl hl.1 rfl (lv_room (Nat.le_of_ble_eq_true rfl)) dX6_write_33 ⟨by show _ + m_12 ≤ rC; omega, by show _ + z_13 ≤ rS; omega⟩) hW (fun r_10 S_11 H locs hp hW => ?_)
        obtain ⟨hX_S_11, hp⟩ := hp
        refine W.widen (k := _ + m_12) (n := _ + z_13) (Nat.le_refl _) (Nat.le_refl _) ?_
        replace hbc := w_spend hbc (show m_12 ≤ (bc - m_7) by omega)
        replace hbs := w_spend hbs (show z_13 ≤ (bs - z_8) by omega)
        have hE := hE.trans hX_S_11
        have hK_a0 : sK S_11 a0 = 11 := (hX_S_11.2 a0 hL_a0).1.trans hK_a0
        have hL_a0 : wM D S_11 a0 := hX_S_11.M hL_a0
        have hK_a1 : sK S_11 a1 = 12 := (hX_S_11.2 a1 hL_a1).1.trans hK_a1
        have hL_a1 : wM D S_11 a1 := hX_S_11.M hL_a1
        have hK_a2 : sK S_11 a2 = 1 := (hX_S_11.2 a2 hL_a2).1.trans hK_a2
        have hL_a2 : wM D S_11 a2 := hX_S_11.M hL_a2
        refine lv_pop hx hb dX6_write_36 (by cases r_10 <;> rfl) ?_
        exact t_X6_write_37 F hr hlocks hK ih hbc hbs hp hW hE (lv_sub hl [0, 1, 2, 3] rfl) hL_a0 hK_a0 hL_a1 hK_a1 hL_a2 hK_a2
set_option maxHeartbeats 4000000 in
set_option maxRecDepth 100000 in
theorem t_X6_write_0 {p : Program} {l : Launch} {e : Env} {s : State} {m : MethodId} {args : Array Value} {below : List Frame} {meth : Method} {c : Code} {D : wD} {cy : Nat → ClassId} {X : va_W} {A : Nat → Prop} {S0 : wS} {rC rS : Nat} {post : wS → Prop} (F : CallFix p m c cX6_write 4 s args wz_X6_write RX6) (hr : meth.sig.returnType = none) (hlocks : meth.locks = false) (hK : wK D cy A s) : ∀ {bc bs cells slots : Nat} (hbc : cells + bc ≤ rC) (hbs : slots + bs ≤ rS) {S : wS} {H : Heap} {locs : List Loc} {ls : Array Slot} {a0 : Nat} {a1 : Nat} {a2 : Nat}, wp_X6_write_0 D post bc bs S a0 a1 a2 → wO D cy X A s.heap S H locs → wX D S0 S → lv_has ls 4 [(0, .ref a0), (1, .ref a1), (2, .ref a2)] → wM D S a0 → sK S a0 = 11 → wM D S a1 → sK S a1 = 12 → wM D S a2 → sK S a2 = 1 → W p l e (r_X6_write rC rS) s m args below meth c H locs cells slots (MQ below (va_Qv (fun S9 => wX D S0 S9 ∧ post S9) (wB D cy X A) A) args s rC rS A) (F0 m 0 ls []) := by
  obtain ⟨hx, hb, hml, hown, hts⟩ := id F
  have hwg : ∀ w ∈ WG, w.before args s = true := fun w h => hts w (List.mem_cons_of_mem _ h)
  have i_11 : ∀ w ∈ u_ws RX6 TX6 3, w ∈ wz_X6_write := fun w h => List.mem_cons_of_mem _ (wu_11 w h)
  have i_5 : ∀ w ∈ u_ws RX0 TX0 12, w ∈ wz_X6_write := fun w h => List.mem_cons_of_mem _ (wu_5 w h)
  have k_22 := hwg _ wf_RX6_22
  intro bc bs cells slots hbc hbs S H locs ls a0 a1 a2 hp hW hE hl hL_a0 hK_a0 hL_a1 hK_a1 hL_a2 hK_a2
  unfold wp_X6_write_0 at hp
  refine lv_aload_n hx hb dX6_write_0 rfl (lv_at hl 2 rfl) ?_
  refine lv_iconst (v := 0) hx hb dX6_write_1 (by decide) ?_
  obtain ⟨m_3, z_4, hm_3, hz_4, hp⟩ := hp
  refine w_callV (va_runV (As := [.int (0 : Int32)]) (rest := []) F (c_J4_setLength_d00df l hL_a2 hK_a2 hp H.size) (cwV (C := RJ4) 1 hts (wg_V wm_RX6_26 wy_J4_setLength_d00df) rfl rfl rfl (by decide +kernel) ⟨Nat.le_of_ble_eq_true rfl, Nat.le_of_ble_eq_true rfl⟩) (w_preV hK hW hL_a2 hK_a2 (by decide) rfl) rfl rfl hl.1 rfl (lv_room (Nat.le_of_ble_eq_true rfl)) dX6_write_2 ⟨by show _ + m_3 ≤ rC; omega, by show _ + z_4 ≤ rS; omega⟩) hW (fun S_2 H locs hp hW => ?_)
  obtain ⟨hX_S_2, hp⟩ := hp
  refine W.widen (k := _ + m_3) (n := _ + z_4) (Nat.le_refl _) (Nat.le_refl _) ?_
  replace hbc := w_spend hbc (show m_3 ≤ bc by omega)
  replace hbs := w_spend hbs (show z_4 ≤ bs by omega)
  have hE := hE.trans hX_S_2
  have hK_a0 : sK S_2 a0 = 11 := (hX_S_2.2 a0 hL_a0).1.trans hK_a0
  have hL_a0 : wM D S_2 a0 := hX_S_2.M hL_a0
  have hK_a1 : sK S_2 a1 = 12 := (hX_S_2.2 a1 hL_a1).1.trans hK_a1
  have hL_a1 : wM D S_2 a1 := hX_S_2.M hL_a1
  have hK_a2 : sK S_2 a2 = 1 := (hX_S_2.2 a2 hL_a2).1.trans hK_a2
  have hL_a2 : wM D S_2 a2 := hX_S_2.M hL_a2
  refine lv_aload_n hx hb dX6_write_5 rfl (lv_at hl 0 rfl) ?_
  obtain ⟨y_5, ey_5, hL_y_5, hK_y_5, hp⟩ := hp
  refine w_get (k := 11) (f := 0) (T := TX6) (v := .ref y_5) F hK hW hL_a0 hK_a0 (by decide) rfl rfl (by decide) i_11 k_22 (by rw [show wv 11 0 S_2 a0 = va_rf (sR S_2 a0 0) from rfl, ey_5]; rfl) dX6_write_6 ?_
  refine w_getN (k := 5) (f := 1) (T := TX0) (v := .int (sI S_2 y_5 1)) F hK hW hL_y_5 hK_y_5 (by decide) rfl rfl (by decide) i_5 (hK.2.1 (.fieldLinkNest "OpeningsCabinet$Papers" 30 "OpeningsCabinet$Board" "ranks" "I" "OpeningsCabinet") (by decide +kernel)) rfl dX6_write_9 ?_
  refine lv_iconst (v := 1) hx hb dX6_write_12 (by decide) ?_
  refine lv_isub hx hb dX6_write_13 ?_
  refine lv_topi (fun x_6 ex_6 => ?_)
  replace hp := hp x_6 ex_6
  refine lv_istore_n (lv' := [(3, .int x_6), (0, .ref a0), (1, .ref a1), (2, .ref a2)]) hx hb dX6_write_14 rfl hl (by decide) rfl (fun ls hl => ?_)
  obtain ⟨n_7, hp⟩ := hp
  exact t_X6_write_15 F hr hlocks hK n_7 hbc hbs hp hW hE (lv_sub hl [1, 2, 3, 0] rfl) hL_a0 hK_a0 hL_a1 hK_a1 hL_a2 hK_a2
set_option maxHeartbeats 4000000 in
set_option maxRecDepth 100000 in
theorem c_X6_write (l : Launch) {rC rS : Nat} {D : wD} {cy : Nat → ClassId} {X : va_W} {S0 : wS} {post : wS → Prop} {a0 : Nat} {a1 : Nat} {a2 : Nat} (hL_a0 : wM D S0 a0) (hK_a0 : sK S0 a0 = 11) (hL_a1 : wM D S0 a1) (hK_a1 : sK S0 a1 = 12) (hL_a2 : wM D S0 a2) (hK_a2 : sK S0 a2 = 1) (hp : wp_X6_write D post rC rS S0 a0 a1 a2) : mV D cy X l yX6_write wz_X6_write (r_X6_write rC rS) [.ref a0, .ref a1, .ref a2] S0 (fun S9 => wX D S0 S9 ∧ post S9) := by
  intro sz
  refine Met.ofW (cc := cX6_write) (maxL := 4) (ret := none) (by decide) rfl ?_
  intro p e s m args below meth c s₁ B hml hv
  obtain ⟨rfl, hsz, hP, hK, hD0, hRO⟩ := hv
  have hts := atoms_spec (ws := wz_X6_write) B.pre
  have hown : s.vm.findClass RX6 = some m.cls := findClass_of_methodNamed B.named
  subst hsz
  have hD := hD0.self (sz := s.heap.size)
  have F : CallFix p m c cX6_write 4 s _ wz_X6_write RX6 := ⟨B.exec, B.bytes, hml, hown, hts⟩
  have hr := B.returns
  have hlocks := B.notSynchronized
  generalize hAe : va_A (wL cy X S0) s.heap.size = A at hD hK ⊢
  have hA : ∀ q, s.heap.size ≤ q → A q := fun q h => by rw [← hAe]; exact Or.inr h
  have hW : wO D cy X A s.heap S0 s.heap [] := ⟨hP, hD, va_S.rf, hA, hRO⟩
  have hl := lv_entry ([.ref a0, .ref a1, .ref a2]) (n := 4) (Nat.le_of_ble_eq_true rfl)
  rw [lg_entry_eq]
  generalize (lg_sl ([.ref a0, .ref a1, .ref a2]) ++ List.replicate (4 - (lg_sl ([.ref a0, .ref a1, .ref a2])).length) Slot.unset).toArray = ls at hl ⊢
  have hl : lv_has ls 4 [(0, .ref a0), (1, .ref a1), (2, .ref a2)] := hl
  unfold wp_X6_write at hp
  exact t_X6_write_0 F hr hlocks hK (Nat.le_of_eq (Nat.zero_add _)) (Nat.le_of_eq (Nat.zero_add _)) hp hW wX.rf (lv_sub hl [0, 1, 2] rfl) hL_a0 hK_a0 hL_a1 hK_a1 hL_a2 hK_a2
def wp_X6_reads_98 (D : wD) (post : Int32 → wS → Prop)  (bc bs : Nat) (S : wS) (t0 : Int32) : Prop :=
narrow .boolean (.int t0) = .int t0 ∧ post t0 S
def wp_X6_reads_97 (D : wD) (post : Int32 → wS → Prop)  (bc bs : Nat) (S : wS) : Prop :=
wp_X6_reads_98 D post bc bs S (0 : Int32)
def wp_X6_reads_31 (D : wD) (post : Int32 → wS → Prop)  (bc bs : Nat) (S : wS) (a0 : Nat) (a1 : Nat) (a2 : Nat) (b0 : Nat) (t1 : Int32) : Prop :=
narrow .boolean (.int t1) = .int t1 ∧ fits .boolean (.int t1) = true ∧
∀ S_1 : wS, S_1 = uI S b0 5 t1 →
wp_X6_next D (fun r_3 S_4 => 
wp_X6_readRights D (fun S_6 => 
wp_X6_next D (fun r_7 S_8 => 
wp_X6_readPassing D (fun S_10 => 
∃ y_11 : Nat, sR S_10 a0 1 = some y_11 ∧ wM D S_10 y_11 ∧ sK S_10 y_11 = 1 ∧
∃ m_14 z_15 : Nat, m_14 ≤ bc ∧ z_15 ≤ bs ∧
wp_X6_write D (fun S_13 => 
∃ y_16 : Nat, sR S_13 a0 1 = some y_16 ∧ wM D S_13 y_16 ∧ sK S_13 y_16 = 1 ∧
wp_X6_isSame D (fun r_17 S_18 => 
((r_17 = 0 → wp_X6_reads_97 D post (bc - m_14) (bs - z_15) S_18) ∧
 (¬ r_17 = 0 → wp_X7_isLawful D (fun r_20 S_21 => 
((r_20 = 0 → wp_X6_reads_97 D post (bc - m_14) (bs - z_15) S_21) ∧
 (¬ r_20 = 0 → wp_X6_isPassingSound D (fun r_23 S_24 => 
((r_23 = 0 → wp_X6_reads_97 D post (bc - m_14) (bs - z_15) S_24) ∧
 (¬ r_23 = 0 → wp_X6_reads_98 D post (bc - m_14) (bs - z_15) S_24 (1 : Int32)))) S_21 a0 a2))) S_18 a2))) S_13 a1 y_16) m_14 z_15 S_10 a0 a2 y_11) S_8 a0 a1 a2) S_6 a0 a1) S_4 a0 a1 a2) S_1 a0 a1
def wp_X6_reads_0 (D : wD) (post : Int32 → wS → Prop)  (bc bs : Nat) (S : wS) (a0 : Nat) (a1 : Nat) (a2 : Nat) : Prop :=
wp_X7_clear D (fun S_2 => 
∀ S_3 : wS, S_3 = uI S_2 a0 2 (0 : Int32) →
wp_X6_readSquares D (fun S_5 => 
wp_X6_next D (fun r_6 S_7 => 
((¬ r_6 = (119 : Int32) → wp_X6_reads_31 D post bc bs S_7 a0 a1 a2 a2 (0 : Int32)) ∧
 (r_6 = (119 : Int32) → wp_X6_reads_31 D post bc bs S_7 a0 a1 a2 a2 (1 : Int32)))) S_5 a0 a1) S_3 a0 a1 a2) S a2
abbrev r_X6_reads (rC rS : Nat) : Room := { frames := 17, cells := rC, slots := rS, locals := 377 }
def wp_X6_reads (D : wD) (post : Int32 → wS → Prop) (bc bs : Nat) (S : wS) (a0 : Nat) (a1 : Nat) (a2 : Nat) : Prop := wp_X6_reads_0 D post bc bs S a0 a1 a2
set_option maxHeartbeats 4000000 in
set_option maxRecDepth 100000 in
theorem t_X6_reads_98 {p : Program} {l : Launch} {e : Env} {s : State} {m : MethodId} {args : Array Value} {below : List Frame} {meth : Method} {c : Code} {D : wD} {cy : Nat → ClassId} {X : va_W} {A : Nat → Prop} {S0 : wS} {rC rS : Nat} {post : Int32 → wS → Prop} (F : CallFix p m c cX6_reads 3 s args wz_X6_reads RX6) (hr : meth.sig.returnType = (some .boolean)) (hlocks : meth.locks = false) (hK : wK D cy A s) : ∀ {bc bs cells slots : Nat} (hbc : cells + bc ≤ rC) (hbs : slots + bs ≤ rS) {S : wS} {H : Heap} {locs : List Loc} {ls : Array Slot} {t0 : Int32}, wp_X6_reads_98 D post bc bs S t0 → wO D cy X A s.heap S H locs → wX D S0 S → lv_has ls 3 [] → W p l e (r_X6_reads rC rS) s m args below meth c H locs cells slots (MQ below (va_Qi (fun r S9 => wX D S0 S9 ∧ post r S9) (wB D cy X A) A) args s rC rS A) (F0 m 98 ls [.int t0]) := by
  obtain ⟨hx, hb, hml, hown, hts⟩ := id F
  have hwg : ∀ w ∈ WG, w.before args s = true := fun w h => hts w (List.mem_cons_of_mem _ h)
  intro bc bs cells slots hbc hbs S H locs ls t0 hp hW hE hl
  unfold wp_X6_reads_98 at hp
  refine W.widen (k := rC) (n := rS) (Nat.le_trans (Nat.le_add_right _ _) hbc) (Nat.le_trans (Nat.le_add_right _ _) hbs) ?_
  exact w_zret hx hb hr hlocks hW hp.1 ⟨hE, hp.2⟩ dX6_reads_98
set_option maxHeartbeats 4000000 in
set_option maxRecDepth 100000 in
theorem t_X6_reads_97 {p : Program} {l : Launch} {e : Env} {s : State} {m : MethodId} {args : Array Value} {below : List Frame} {meth : Method} {c : Code} {D : wD} {cy : Nat → ClassId} {X : va_W} {A : Nat → Prop} {S0 : wS} {rC rS : Nat} {post : Int32 → wS → Prop} (F : CallFix p m c cX6_reads 3 s args wz_X6_reads RX6) (hr : meth.sig.returnType = (some .boolean)) (hlocks : meth.locks = false) (hK : wK D cy A s) : ∀ {bc bs cells slots : Nat} (hbc : cells + bc ≤ rC) (hbs : slots + bs ≤ rS) {S : wS} {H : Heap} {locs : List Loc} {ls : Array Slot}, wp_X6_reads_97 D post bc bs S → wO D cy X A s.heap S H locs → wX D S0 S → lv_has ls 3 [] → W p l e (r_X6_reads rC rS) s m args below meth c H locs cells slots (MQ below (va_Qi (fun r S9 => wX D S0 S9 ∧ post r S9) (wB D cy X A) A) args s rC rS A) (F0 m 97 ls []) := by
  obtain ⟨hx, hb, hml, hown, hts⟩ := id F
  have hwg : ∀ w ∈ WG, w.before args s = true := fun w h => hts w (List.mem_cons_of_mem _ h)
  intro bc bs cells slots hbc hbs S H locs ls hp hW hE hl
  unfold wp_X6_reads_97 at hp
  refine lv_iconst (v := 0) hx hb dX6_reads_97 (by decide) ?_
  exact t_X6_reads_98 F hr hlocks hK hbc hbs hp hW hE (lv_sub hl [] rfl)
set_option maxHeartbeats 4000000 in
set_option maxRecDepth 100000 in
theorem t_X6_reads_31 {p : Program} {l : Launch} {e : Env} {s : State} {m : MethodId} {args : Array Value} {below : List Frame} {meth : Method} {c : Code} {D : wD} {cy : Nat → ClassId} {X : va_W} {A : Nat → Prop} {S0 : wS} {rC rS : Nat} {post : Int32 → wS → Prop} (F : CallFix p m c cX6_reads 3 s args wz_X6_reads RX6) (hr : meth.sig.returnType = (some .boolean)) (hlocks : meth.locks = false) (hK : wK D cy A s) : ∀ {bc bs cells slots : Nat} (hbc : cells + bc ≤ rC) (hbs : slots + bs ≤ rS) {S : wS} {H : Heap} {locs : List Loc} {ls : Array Slot} {a0 : Nat} {a1 : Nat} {a2 : Nat} {b0 : Nat} {t1 : Int32}, wp_X6_reads_31 D post bc bs S a0 a1 a2 b0 t1 → wO D cy X A s.heap S H locs → wX D S0 S → lv_has ls 3 [(0, .ref a0), (1, .ref a1), (2, .ref a2)] → wM D S a0 → sK S a0 = 11 → wM D S a1 → sK S a1 = 1 → wM D S a2 → sK S a2 = 12 → wM D S b0 → sK S b0 = 12 → W p l e (r_X6_reads rC rS) s m args below meth c H locs cells slots (MQ below (va_Qi (fun r S9 => wX D S0 S9 ∧ post r S9) (wB D cy X A) A) args s rC rS A) (F0 m 31 ls [.int t1, .ref b0]) := by
  obtain ⟨hx, hb, hml, hown, hts⟩ := id F
  have hwg : ∀ w ∈ WG, w.before args s = true := fun w h => hts w (List.mem_cons_of_mem _ h)
  have i_11 : ∀ w ∈ u_ws RX6 TX6 3, w ∈ wz_X6_reads := fun w h => List.mem_cons_of_mem _ (wu_11 w h)
  have i_12 : ∀ w ∈ u_ws RX7 TX7 8, w ∈ wz_X6_reads := fun w h => List.mem_cons_of_mem _ (wu_12 w h)
  have k_12 := hwg _ wf_RX6_12
  intro bc bs cells slots hbc hbs S H locs ls a0 a1 a2 b0 t1 hp hW hE hl hL_a0 hK_a0 hL_a1 hK_a1 hL_a2 hK_a2 hL_b0 hK_b0
  unfold wp_X6_reads_31 at hp
  obtain ⟨h_2, h_2f, hp⟩ := hp
  refine w_putIN (k := 12) (f := 5) (T := TX7) F hK hW hL_b0 hK_b0 (by decide) (by decide) rfl rfl (by decide) i_12 tyX7 tyX7_ok nmX7 (hK.2.1 (.fieldLinkNest "OpeningsCabinet$Papers" 43 "OpeningsCabinet$Position" "isWhite" "Z" "OpeningsCabinet") (by decide +kernel)) rfl rfl (ty := .boolean) rfl h_2 h_2f dX6_reads_31 (fun H locs hW => ?_)
  obtain ⟨S_1, eS_1⟩ : ∃ z : wS, z = uI S b0 5 t1 := ⟨_, rfl⟩
  rw [← eS_1] at hW
  replace hp := hp S_1 eS_1
  have hX_S_1 : wX D S S_1 := by rw [eS_1]; exact wX_uI
  have hE := hE.trans hX_S_1
  have hK_a0 : sK S_1 a0 = 11 := (hX_S_1.2 a0 hL_a0).1.trans hK_a0
  have hL_a0 : wM D S_1 a0 := hX_S_1.M hL_a0
  have hK_a1 : sK S_1 a1 = 1 := (hX_S_1.2 a1 hL_a1).1.trans hK_a1
  have hL_a1 : wM D S_1 a1 := hX_S_1.M hL_a1
  have hK_a2 : sK S_1 a2 = 12 := (hX_S_1.2 a2 hL_a2).1.trans hK_a2
  have hL_a2 : wM D S_1 a2 := hX_S_1.M hL_a2
  refine lv_aload_n hx hb dX6_reads_34 rfl (lv_at hl 0 rfl) ?_
  refine lv_aload_n hx hb dX6_reads_35 rfl (lv_at hl 1 rfl) ?_
  refine w_callI (va_runV (As := [.ref a1]) (rest := []) F (c_X6_next l hL_a0 hK_a0 hL_a1 hK_a1 hp H.size) (cwV (C := RX6) 1 hts (wg_V wm_RX6_99 wy_X6_next) rfl rfl rfl (by decide +kernel) ⟨Nat.le_of_ble_eq_true rfl, Nat.le_of_ble_eq_true rfl⟩) (w_preV hK hW hL_a0 hK_a0 (by decide) rfl) rfl rfl hl.1 rfl (lv_room (Nat.le_of_ble_eq_true rfl)) dX6_reads_36 ⟨by show _ ≤ rC; exact Nat.le_trans (Nat.le_add_right _ _) hbc, by show _ ≤ rS; exact Nat.le_trans (Nat.le_add_right _ _) hbs⟩) hW (fun r_3 S_4 H locs hp hW => ?_)
  obtain ⟨hX_S_4, hp⟩ := hp
  refine w_same ?_
  have hE := hE.trans hX_S_4
  have hK_a0 : sK S_4 a0 = 11 := (hX_S_4.2 a0 hL_a0).1.trans hK_a0
  have hL_a0 : wM D S_4 a0 := hX_S_4.M hL_a0
  have hK_a1 : sK S_4 a1 = 1 := (hX_S_4.2 a1 hL_a1).1.trans hK_a1
  have hL_a1 : wM D S_4 a1 := hX_S_4.M hL_a1
  have hK_a2 : sK S_4 a2 = 12 := (hX_S_4.2 a2 hL_a2).1.trans hK_a2
  have hL_a2 : wM D S_4 a2 := hX_S_4.M hL_a2
  refine lv_pop hx hb dX6_reads_39 rfl ?_
  refine lv_aload_n hx hb dX6_reads_40 rfl (lv_at hl 0 rfl) ?_
  refine lv_aload_n hx hb dX6_reads_41 rfl (lv_at hl 1 rfl) ?_
  refine lv_aload_n hx hb dX6_reads_42 rfl (lv_at hl 2 rfl) ?_
  refine w_callV (va_runV (As := [.ref a1, .ref a2]) (rest := []) F (c_X6_readRights l hL_a0 hK_a0 hL_a1 hK_a1 hL_a2 hK_a2 hp H.size) (cwV (C := RX6) 2 hts (wg_V wm_RX6_103 wy_X6_readRights) rfl rfl rfl (by decide +kernel) ⟨Nat.le_of_ble_eq_true rfl, Nat.le_of_ble_eq_true rfl⟩) (w_preV hK hW hL_a0 hK_a0 (by decide) rfl) rfl rfl hl.1 rfl (lv_room (Nat.le_of_ble_eq_true rfl)) dX6_reads_43 ⟨by show _ ≤ rC; exact Nat.le_trans (Nat.le_add_right _ _) hbc, by show _ ≤ rS; exact Nat.le_trans (Nat.le_add_right _ _) hbs⟩) hW (fun S_6 H locs hp hW => ?_)
  obtain ⟨hX_S_6, hp⟩ := hp
  refine w_same ?_
  have hE := hE.trans hX_S_6
  have hK_a0 : sK S_6 a0 = 11 := (hX_S_6.2 a0 hL_a0).1.trans hK_a0
  have hL_a0 : wM D S_6 a0 := hX_S_6.M hL_a0
  have hK_a1 : sK S_6 a1 = 1 := (hX_S_6.2 a1 hL_a1).1.trans hK_a1
  have hL_a1 : wM D S_6 a1 := hX_S_6.M hL_a1
  have hK_a2 : sK S_6 a2 = 12 := (hX_S_6.2 a2 hL_a2).1.trans hK_a2
  have hL_a2 : wM D S_6 a2 := hX_S_6.M hL_a2
  refine lv_aload_n hx hb dX6_reads_46 rfl (lv_at hl 0 rfl) ?_
  refine lv_aload_n hx hb dX6_reads_47 rfl (lv_at hl 1 rfl) ?_
  refine w_callI (va_runV (As := [.ref a1]) (rest := []) F (c_X6_next l hL_a0 hK_a0 hL_a1 hK_a1 hp H.size) (cwV (C := RX6) 1 hts (wg_V wm_RX6_99 wy_X6_next) rfl rfl rfl (by decide +kernel) ⟨Nat.le_of_ble_eq_true rfl, Nat.le_of_ble_eq_true rfl⟩) (w_preV hK hW hL_a0 hK_a0 (by decide) rfl) rfl rfl hl.1 rfl (lv_room (Nat.le_of_ble_eq_true rfl)) dX6_reads_48 ⟨by show _ ≤ rC; exact Nat.le_trans (Nat.le_add_right _ _) hbc, by show _ ≤ rS; exact Nat.le_trans (Nat.le_add_right _ _) hbs⟩) hW (fun r_7 S_8 H locs hp hW => ?_)
  obtain ⟨hX_S_8, hp⟩ := hp
  refine w_same ?_
  have hE := hE.trans hX_S_8
  have hK_a0 : sK S_8 a0 = 11 := (hX_S_8.2 a0 hL_a0).1.trans hK_a0
  have hL_a0 : wM D S_8 a0 := hX_S_8.M hL_a0
  have hK_a1 : sK S_8 a1 = 1 := (hX_S_8.2 a1 hL_a1).1.trans hK_a1
  have hL_a1 : wM D S_8 a1 := hX_S_8.M hL_a1
  have hK_a2 : sK S_8 a2 = 12 := (hX_S_8.2 a2 hL_a2).1.trans hK_a2
  have hL_a2 : wM D S_8 a2 := hX_S_8.M hL_a2
  refine lv_pop hx hb dX6_reads_51 rfl ?_
  refine lv_aload_n hx hb dX6_reads_52 rfl (lv_at hl 0 rfl) ?_
  refine lv_aload_n hx hb dX6_reads_53 rfl (lv_at hl 1 rfl) ?_
  refine lv_aload_n hx hb dX6_reads_54 rfl (lv_at hl 2 rfl) ?_
  refine w_callV (va_runV (As := [.ref a1, .ref a2]) (rest := []) F (c_X6_readPassing l hL_a0 hK_a0 hL_a1 hK_a1 hL_a2 hK_a2 hp H.size) (cwV (C := RX6) 2 hts (wg_V wm_RX6_106 wy_X6_readPassing) rfl rfl rfl (by decide +kernel) ⟨Nat.le_of_ble_eq_true rfl, Nat.le_of_ble_eq_true rfl⟩) (w_preV hK hW hL_a0 hK_a0 (by decide) rfl) rfl rfl hl.1 rfl (lv_room (Nat.le_of_ble_eq_true rfl)) dX6_reads_55 ⟨by show _ ≤ rC; exact Nat.le_trans (Nat.le_add_right _ _) hbc, by show _ ≤ rS; exact Nat.le_trans (Nat.le_add_right _ _) hbs⟩) hW (fun S_10 H locs hp hW => ?_)
  obtain ⟨hX_S_10, hp⟩ := hp
  refine w_same ?_
  have hE := hE.trans hX_S_10
  have hK_a0 : sK S_10 a0 = 11 := (hX_S_10.2 a0 hL_a0).1.trans hK_a0
  have hL_a0 : wM D S_10 a0 := hX_S_10.M hL_a0
  have hK_a1 : sK S_10 a1 = 1 := (hX_S_10.2 a1 hL_a1).1.trans hK_a1
  have hL_a1 : wM D S_10 a1 := hX_S_10.M hL_a1
  have hK_a2 : sK S_10 a2 = 12 := (hX_S_10.2 a2 hL_a2).1.trans hK_a2
  have hL_a2 : wM D S_10 a2 := hX_S_10.M hL_a2
  refine lv_aload_n hx hb dX6_reads_58 rfl (lv_at hl 0 rfl) ?_
  refine lv_aload_n hx hb dX6_reads_59 rfl (lv_at hl 2 rfl) ?_
  refine lv_aload_n hx hb dX6_reads_60 rfl (lv_at hl 0 rfl) ?_
  obtain ⟨y_11, ey_11, hL_y_11, hK_y_11, hp⟩ := hp
  refine w_get (k := 11) (f := 1) (T := TX6) (v := .ref y_11) F hK hW hL_a0 hK_a0 (by decide) rfl rfl (by decide) i_11 k_12 (by rw [show wv 11 1 S_10 a0 = va_rf (sR S_10 a0 1) from rfl, ey_11]; rfl) dX6_reads_61 ?_
  obtain ⟨m_14, z_15, hm_14, hz_15, hp⟩ := hp
  refine w_callV (va_runV (As := [.ref a2, .ref y_11]) (rest := []) F (c_X6_write l hL_a0 hK_a0 hL_a2 hK_a2 hL_y_11 hK_y_11 hp H.size) (cwV (C := RX6) 2 hts (wg_V wm_RX6_109 wy_X6_write) rfl rfl rfl (by decide +kernel) ⟨Nat.le_of_ble_eq_true rfl, Nat.le_of_ble_eq_true rfl⟩) (w_preV hK hW hL_a0 hK_a0 (by decide) rfl) rfl rfl hl.1 rfl (lv_room (Nat.le_of_ble_eq_true rfl)) dX6_reads_64 ⟨by show _ + m_14 ≤ rC; omega, by show _ + z_15 ≤ rS; omega⟩) hW (fun S_13 H locs hp hW => ?_)
  obtain ⟨hX_S_13, hp⟩ := hp
  refine W.widen (k := _ + m_14) (n := _ + z_15) (Nat.le_refl _) (Nat.le_refl _) ?_
  replace hbc := w_spend hbc (show m_14 ≤ bc by omega)
  replace hbs := w_spend hbs (show z_15 ≤ bs by omega)
  have hE := hE.trans hX_S_13
  have hK_a0 : sK S_13 a0 = 11 := (hX_S_13.2 a0 hL_a0).1.trans hK_a0
  have hL_a0 : wM D S_13 a0 := hX_S_13.M hL_a0
  have hK_a1 : sK S_13 a1 = 1 := (hX_S_13.2 a1 hL_a1).1.trans hK_a1
  have hL_a1 : wM D S_13 a1 := hX_S_13.M hL_a1
  have hK_a2 : sK S_13 a2 = 12 := (hX_S_13.2 a2 hL_a2).1.trans hK_a2
  have hL_a2 : wM D S_13 a2 := hX_S_13.M hL_a2
  refine lv_aload_n hx hb dX6_reads_67 rfl (lv_at hl 1 rfl) ?_
  refine lv_aload_n hx hb dX6_reads_68 rfl (lv_at hl 0 rfl) ?_
  obtain ⟨y_16, ey_16, hL_y_16, hK_y_16, hp⟩ := hp
  refine w_get (k := 11) (f := 1) (T := TX6) (v := .ref y_16) F hK hW hL_a0 hK_a0 (by decide) rfl rfl (by decide) i_11 k_12 (by rw [show wv 11 1 S_13 a0 = va_rf (sR S_13 a0 1) from rfl, ey_16]; rfl) dX6_reads_69 ?_
  refine w_callI (va_runS (As := [.ref a1, .ref y_16]) (rest := []) F (c_X6_isSame l hL_a1 hK_a1 hL_y_16 hK_y_16 hp H.size) (va_cwS 2 hts (wg_S wm_RX6_113 wy_X6_isSame) rfl rfl rfl (by decide +kernel) ⟨Nat.le_of_ble_eq_true rfl, Nat.le_of_ble_eq_true rfl⟩) (w_preS hK hW) rfl rfl hl.1 rfl (lv_room (Nat.le_of_ble_eq_true rfl)) dX6_reads_72 ⟨by show _ ≤ rC; exact Nat.le_trans (Nat.le_add_right _ _) hbc, by show _ ≤ rS; exact Nat.le_trans (Nat.le_add_right _ _) hbs⟩) hW (fun r_17 S_18 H locs hp hW => ?_)
  obtain ⟨hX_S_18, hp⟩ := hp
  refine w_same ?_
  have hE := hE.trans hX_S_18
  have hK_a0 : sK S_18 a0 = 11 := (hX_S_18.2 a0 hL_a0).1.trans hK_a0
  have hL_a0 : wM D S_18 a0 := hX_S_18.M hL_a0
  have hK_a1 : sK S_18 a1 = 1 := (hX_S_18.2 a1 hL_a1).1.trans hK_a1
  have hL_a1 : wM D S_18 a1 := hX_S_18.M hL_a1
  have hK_a2 : sK S_18 a2 = 12 := (hX_S_18.2 a2 hL_a2).1.trans hK_a2
  have hL_a2 : wM D S_18 a2 := hX_S_18.M hL_a2
  refine lv_if_eq (tgt := 97) hx hb dX6_reads_75 (by decide) (fun c_19 => ?_) (fun c_19 => ?_)
  · replace hp := hp.1 c_19
    exact t_X6_reads_97 F hr hlocks hK hbc hbs hp hW hE (lv_sub hl [] rfl)
  · replace hp := hp.2 c_19
    refine lv_aload_n hx hb dX6_reads_78 rfl (lv_at hl 2 rfl) ?_
    refine w_callI (va_runV (As := []) (rest := []) F (c_X7_isLawful l hL_a2 hK_a2 hp H.size) (cwV (C := RX7) 0 hts (wg_V wm_RX6_117 wy_X7_isLawful) rfl rfl rfl (by decide +kernel) ⟨Nat.le_of_ble_eq_true rfl, Nat.le_of_ble_eq_true rfl⟩) (w_preV hK hW hL_a2 hK_a2 (by decide) rfl) rfl rfl hl.1 rfl (lv_room (Nat.le_of_ble_eq_true rfl)) dX6_reads_79 ⟨by show _ ≤ rC; exact Nat.le_trans (Nat.le_add_right _ _) hbc, by show _ ≤ rS; exact Nat.le_trans (Nat.le_add_right _ _) hbs⟩) hW (fun r_20 S_21 H locs hp hW => ?_)
    obtain ⟨hX_S_21, hp⟩ := hp
    refine w_same ?_
    have hE := hE.trans hX_S_21
    have hK_a0 : sK S_21 a0 = 11 := (hX_S_21.2 a0 hL_a0).1.trans hK_a0
    have hL_a0 : wM D S_21 a0 := hX_S_21.M hL_a0
    have hK_a1 : sK S_21 a1 = 1 := (hX_S_21.2 a1 hL_a1).1.trans hK_a1
    have hL_a1 : wM D S_21 a1 := hX_S_21.M hL_a1
    have hK_a2 : sK S_21 a2 = 12 := (hX_S_21.2 a2 hL_a2).1.trans hK_a2
    have hL_a2 : wM D S_21 a2 := hX_S_21.M hL_a2
    refine lv_if_eq (tgt := 97) hx hb dX6_reads_82 (by decide) (fun c_22 => ?_) (fun c_22 => ?_)
    · replace hp := hp.1 c_22
      exact t_X6_reads_97 F hr hlocks hK hbc hbs hp hW hE (lv_sub hl [] rfl)
    · replace hp := hp.2 c_22
      refine lv_aload_n hx hb dX6_reads_85 rfl (lv_at hl 0 rfl) ?_
      refine lv_aload_n hx hb dX6_reads_86 rfl (lv_at hl 2 rfl) ?_
      refine w_callI (va_runV (As := [.ref a2]) (rest := []) F (c_X6_isPassingSound l hL_a0 hK_a0 hL_a2 hK_a2 hp H.size) (cwV (C := RX6) 1 hts (wg_V wm_RX6_121 wy_X6_isPassingSound) rfl rfl rfl (by decide +kernel) ⟨Nat.le_of_ble_eq_true rfl, Nat.le_of_ble_eq_true rfl⟩) (w_preV hK hW hL_a0 hK_a0 (by decide) rfl) rfl rfl hl.1 rfl (lv_room (Nat.le_of_ble_eq_true rfl)) dX6_reads_87 ⟨by show _ ≤ rC; exact Nat.le_trans (Nat.le_add_right _ _) hbc, by show _ ≤ rS; exact Nat.le_trans (Nat.le_add_right _ _) hbs⟩) hW (fun r_23 S_24 H locs hp hW => ?_)
      obtain ⟨hX_S_24, hp⟩ := hp
      refine w_same ?_
      have hE := hE.trans hX_S_24
      have hK_a0 : sK S_24 a0 = 11 := (hX_S_24.2 a0 hL_a0).1.trans hK_a0
      have hL_a0 : wM D S_24 a0 := hX_S_24.M hL_a0
      have hK_a1 : sK S_24 a1 = 1 := (hX_S_24.2 a1 hL_a1).1.trans hK_a1
      have hL_a1 : wM D S_24 a1 := hX_S_24.M hL_a1
      have hK_a2 : sK S_24 a2 = 12 := (hX_S_24.2 a2 hL_a2).1.trans hK_a2
      have hL_a2 : wM D S_24 a2 := hX_S_24.M hL_a2
      refine lv_if_eq (tgt := 97) hx hb dX6_reads_90 (by decide) (fun c_25 => ?_) (fun c_25 => ?_)
      · replace hp := hp.1 c_25
        exact t_X6_reads_97 F hr hlocks hK hbc hbs hp hW hE (lv_sub hl [] rfl)
      · replace hp := hp.2 c_25
        refine lv_iconst (v := 1) hx hb dX6_reads_93 (by decide) ?_
        refine lv_goto (tgt := 98) hx hb dX6_reads_94 (by decide) ?_
        exact t_X6_reads_98 F hr hlocks hK hbc hbs hp hW hE (lv_sub hl [] rfl)
set_option maxHeartbeats 4000000 in
set_option maxRecDepth 100000 in
theorem t_X6_reads_0 {p : Program} {l : Launch} {e : Env} {s : State} {m : MethodId} {args : Array Value} {below : List Frame} {meth : Method} {c : Code} {D : wD} {cy : Nat → ClassId} {X : va_W} {A : Nat → Prop} {S0 : wS} {rC rS : Nat} {post : Int32 → wS → Prop} (F : CallFix p m c cX6_reads 3 s args wz_X6_reads RX6) (hr : meth.sig.returnType = (some .boolean)) (hlocks : meth.locks = false) (hK : wK D cy A s) : ∀ {bc bs cells slots : Nat} (hbc : cells + bc ≤ rC) (hbs : slots + bs ≤ rS) {S : wS} {H : Heap} {locs : List Loc} {ls : Array Slot} {a0 : Nat} {a1 : Nat} {a2 : Nat}, wp_X6_reads_0 D post bc bs S a0 a1 a2 → wO D cy X A s.heap S H locs → wX D S0 S → lv_has ls 3 [(0, .ref a0), (1, .ref a1), (2, .ref a2)] → wM D S a0 → sK S a0 = 11 → wM D S a1 → sK S a1 = 1 → wM D S a2 → sK S a2 = 12 → W p l e (r_X6_reads rC rS) s m args below meth c H locs cells slots (MQ below (va_Qi (fun r S9 => wX D S0 S9 ∧ post r S9) (wB D cy X A) A) args s rC rS A) (F0 m 0 ls []) := by
  obtain ⟨hx, hb, hml, hown, hts⟩ := id F
  have hwg : ∀ w ∈ WG, w.before args s = true := fun w h => hts w (List.mem_cons_of_mem _ h)
  have i_11 : ∀ w ∈ u_ws RX6 TX6 3, w ∈ wz_X6_reads := fun w h => List.mem_cons_of_mem _ (wu_11 w h)
  have k_18 := hwg _ wf_RX6_18
  intro bc bs cells slots hbc hbs S H locs ls a0 a1 a2 hp hW hE hl hL_a0 hK_a0 hL_a1 hK_a1 hL_a2 hK_a2
  unfold wp_X6_reads_0 at hp
  refine lv_aload_n hx hb dX6_reads_0 rfl (lv_at hl 2 rfl) ?_
  refine w_callV (va_runV (As := []) (rest := []) F (c_X7_clear l hL_a2 hK_a2 hp H.size) (cwV (C := RX7) 0 hts (wg_V wm_RX6_92 wy_X7_clear) rfl rfl rfl (by decide +kernel) ⟨Nat.le_of_ble_eq_true rfl, Nat.le_of_ble_eq_true rfl⟩) (w_preV hK hW hL_a2 hK_a2 (by decide) rfl) rfl rfl hl.1 rfl (lv_room (Nat.le_of_ble_eq_true rfl)) dX6_reads_1 ⟨by show _ ≤ rC; exact Nat.le_trans (Nat.le_add_right _ _) hbc, by show _ ≤ rS; exact Nat.le_trans (Nat.le_add_right _ _) hbs⟩) hW (fun S_2 H locs hp hW => ?_)
  obtain ⟨hX_S_2, hp⟩ := hp
  refine w_same ?_
  have hE := hE.trans hX_S_2
  have hK_a0 : sK S_2 a0 = 11 := (hX_S_2.2 a0 hL_a0).1.trans hK_a0
  have hL_a0 : wM D S_2 a0 := hX_S_2.M hL_a0
  have hK_a1 : sK S_2 a1 = 1 := (hX_S_2.2 a1 hL_a1).1.trans hK_a1
  have hL_a1 : wM D S_2 a1 := hX_S_2.M hL_a1
  have hK_a2 : sK S_2 a2 = 12 := (hX_S_2.2 a2 hL_a2).1.trans hK_a2
  have hL_a2 : wM D S_2 a2 := hX_S_2.M hL_a2
  refine lv_aload_n hx hb dX6_reads_4 rfl (lv_at hl 0 rfl) ?_
  refine lv_iconst (v := 0) hx hb dX6_reads_5 (by decide) ?_
  refine w_putI (k := 11) (f := 2) (T := TX6) F hK hW hL_a0 hK_a0 (by decide) (by decide) rfl rfl (by decide) i_11 tyX6 tyX6_ok nmX6 k_18 rfl rfl (ty := .int) rfl rfl rfl dX6_reads_6 (fun H locs hW => ?_)
  obtain ⟨S_3, eS_3⟩ : ∃ z : wS, z = uI S_2 a0 2 (0 : Int32) := ⟨_, rfl⟩
  rw [← eS_3] at hW
  replace hp := hp S_3 eS_3
  have hX_S_3 : wX D S_2 S_3 := by rw [eS_3]; exact wX_uI
  have hE := hE.trans hX_S_3
  have hK_a0 : sK S_3 a0 = 11 := (hX_S_3.2 a0 hL_a0).1.trans hK_a0
  have hL_a0 : wM D S_3 a0 := hX_S_3.M hL_a0
  have hK_a1 : sK S_3 a1 = 1 := (hX_S_3.2 a1 hL_a1).1.trans hK_a1
  have hL_a1 : wM D S_3 a1 := hX_S_3.M hL_a1
  have hK_a2 : sK S_3 a2 = 12 := (hX_S_3.2 a2 hL_a2).1.trans hK_a2
  have hL_a2 : wM D S_3 a2 := hX_S_3.M hL_a2
  refine lv_aload_n hx hb dX6_reads_9 rfl (lv_at hl 0 rfl) ?_
  refine lv_aload_n hx hb dX6_reads_10 rfl (lv_at hl 1 rfl) ?_
  refine lv_aload_n hx hb dX6_reads_11 rfl (lv_at hl 2 rfl) ?_
  refine w_callV (va_runV (As := [.ref a1, .ref a2]) (rest := []) F (c_X6_readSquares l hL_a0 hK_a0 hL_a1 hK_a1 hL_a2 hK_a2 hp H.size) (cwV (C := RX6) 2 hts (wg_V wm_RX6_95 wy_X6_readSquares) rfl rfl rfl (by decide +kernel) ⟨Nat.le_of_ble_eq_true rfl, Nat.le_of_ble_eq_true rfl⟩) (w_preV hK hW hL_a0 hK_a0 (by decide) rfl) rfl rfl hl.1 rfl (lv_room (Nat.le_of_ble_eq_true rfl)) dX6_reads_12 ⟨by show _ ≤ rC; exact Nat.le_trans (Nat.le_add_right _ _) hbc, by show _ ≤ rS; exact Nat.le_trans (Nat.le_add_right _ _) hbs⟩) hW (fun S_5 H locs hp hW => ?_)
  obtain ⟨hX_S_5, hp⟩ := hp
  refine w_same ?_
  have hE := hE.trans hX_S_5
  have hK_a0 : sK S_5 a0 = 11 := (hX_S_5.2 a0 hL_a0).1.trans hK_a0
  have hL_a0 : wM D S_5 a0 := hX_S_5.M hL_a0
  have hK_a1 : sK S_5 a1 = 1 := (hX_S_5.2 a1 hL_a1).1.trans hK_a1
  have hL_a1 : wM D S_5 a1 := hX_S_5.M hL_a1
  have hK_a2 : sK S_5 a2 = 12 := (hX_S_5.2 a2 hL_a2).1.trans hK_a2
  have hL_a2 : wM D S_5 a2 := hX_S_5.M hL_a2
  refine lv_aload_n hx hb dX6_reads_15 rfl (lv_at hl 2 rfl) ?_
  refine lv_aload_n hx hb dX6_reads_16 rfl (lv_at hl 0 rfl) ?_
  refine lv_aload_n hx hb dX6_reads_17 rfl (lv_at hl 1 rfl) ?_
  refine w_callI (va_runV (As := [.ref a1]) (rest := [.ref a2]) F (c_X6_next l hL_a0 hK_a0 hL_a1 hK_a1 hp H.size) (cwV (C := RX6) 1 hts (wg_V wm_RX6_99 wy_X6_next) rfl rfl rfl (by decide +kernel) ⟨Nat.le_of_ble_eq_true rfl, Nat.le_of_ble_eq_true rfl⟩) (w_preV hK hW hL_a0 hK_a0 (by decide) rfl) rfl rfl hl.1 rfl (lv_room (Nat.le_of_ble_eq_true rfl)) dX6_reads_18 ⟨by show _ ≤ rC; exact Nat.le_trans (Nat.le_add_right _ _) hbc, by show _ ≤ rS; exact Nat.le_trans (Nat.le_add_right _ _) hbs⟩) hW (fun r_6 S_7 H locs hp hW => ?_)
  obtain ⟨hX_S_7, hp⟩ := hp
  refine w_same ?_
  have hE := hE.trans hX_S_7
  have hK_a0 : sK S_7 a0 = 11 := (hX_S_7.2 a0 hL_a0).1.trans hK_a0
  have hL_a0 : wM D S_7 a0 := hX_S_7.M hL_a0
  have hK_a1 : sK S_7 a1 = 1 := (hX_S_7.2 a1 hL_a1).1.trans hK_a1
  have hL_a1 : wM D S_7 a1 := hX_S_7.M hL_a1
  have hK_a2 : sK S_7 a2 = 12 := (hX_S_7.2 a2 hL_a2).1.trans hK_a2
  have hL_a2 : wM D S_7 a2 := hX_S_7.M hL_a2
  refine lv_bipush (v := 119) hx hb dX6_reads_21 (by decide) ?_
  refine lv_icmp_ne (tgt := 30) hx hb dX6_reads_23 (by decide) (fun c_8 => ?_) (fun c_8 => ?_)
  · replace hp := hp.1 c_8
    refine lv_iconst (v := 0) hx hb dX6_reads_30 (by decide) ?_
    exact t_X6_reads_31 F hr hlocks hK hbc hbs hp hW hE (lv_sub hl [0, 1, 2] rfl) hL_a0 hK_a0 hL_a1 hK_a1 hL_a2 hK_a2 hL_a2 hK_a2
  · replace hp := hp.2 c_8
    refine lv_iconst (v := 1) hx hb dX6_reads_26 (by decide) ?_
    refine lv_goto (tgt := 31) hx hb dX6_reads_27 (by decide) ?_
    exact t_X6_reads_31 F hr hlocks hK hbc hbs hp hW hE (lv_sub hl [0, 1, 2] rfl) hL_a0 hK_a0 hL_a1 hK_a1 hL_a2 hK_a2 hL_a2 hK_a2
set_option maxHeartbeats 4000000 in
set_option maxRecDepth 100000 in
theorem c_X6_reads (l : Launch) {rC rS : Nat} {D : wD} {cy : Nat → ClassId} {X : va_W} {S0 : wS} {post : Int32 → wS → Prop} {a0 : Nat} {a1 : Nat} {a2 : Nat} (hL_a0 : wM D S0 a0) (hK_a0 : sK S0 a0 = 11) (hL_a1 : wM D S0 a1) (hK_a1 : sK S0 a1 = 1) (hL_a2 : wM D S0 a2) (hK_a2 : sK S0 a2 = 12) (hp : wp_X6_reads D post rC rS S0 a0 a1 a2) : mI D cy X l yX6_reads wz_X6_reads (r_X6_reads rC rS) [.ref a0, .ref a1, .ref a2] S0 (fun r S9 => wX D S0 S9 ∧ post r S9) := by
  intro sz
  refine Met.ofW (cc := cX6_reads) (maxL := 3) (ret := (some .boolean)) (by decide) rfl ?_
  intro p e s m args below meth c s₁ B hml hv
  obtain ⟨rfl, hsz, hP, hK, hD0, hRO⟩ := hv
  have hts := atoms_spec (ws := wz_X6_reads) B.pre
  have hown : s.vm.findClass RX6 = some m.cls := findClass_of_methodNamed B.named
  subst hsz
  have hD := hD0.self (sz := s.heap.size)
  have F : CallFix p m c cX6_reads 3 s _ wz_X6_reads RX6 := ⟨B.exec, B.bytes, hml, hown, hts⟩
  have hr := B.returns
  have hlocks := B.notSynchronized
  generalize hAe : va_A (wL cy X S0) s.heap.size = A at hD hK ⊢
  have hA : ∀ q, s.heap.size ≤ q → A q := fun q h => by rw [← hAe]; exact Or.inr h
  have hW : wO D cy X A s.heap S0 s.heap [] := ⟨hP, hD, va_S.rf, hA, hRO⟩
  have hl := lv_entry ([.ref a0, .ref a1, .ref a2]) (n := 3) (Nat.le_of_ble_eq_true rfl)
  rw [lg_entry_eq]
  generalize (lg_sl ([.ref a0, .ref a1, .ref a2]) ++ List.replicate (3 - (lg_sl ([.ref a0, .ref a1, .ref a2])).length) Slot.unset).toArray = ls at hl ⊢
  have hl : lv_has ls 3 [(0, .ref a0), (1, .ref a1), (2, .ref a2)] := hl
  unfold wp_X6_reads at hp
  exact t_X6_reads_0 F hr hlocks hK (Nat.le_of_eq (Nat.zero_add _)) (Nat.le_of_eq (Nat.zero_add _)) hp hW wX.rf (lv_sub hl [0, 1, 2] rfl) hL_a0 hK_a0 hL_a1 hK_a1 hL_a2 hK_a2
def wp_X11_readPaper_0 (D : wD) (post : Int32 → wS → Prop) (xp : String → wS → Prop)  (bc bs : Nat) (S : wS) (a0 : Nat) : Prop :=
∃ y_1 : Nat, sR S a0 7 = some y_1 ∧ wM D S y_1 ∧ sK S y_1 = 11 ∧
∃ y_2 : Nat, sR S a0 13 = some y_2 ∧ wM D S y_2 ∧ sK S y_2 = 1 ∧
∃ y_3 : Nat, sR S a0 3 = some y_3 ∧ wM D S y_3 ∧ sK S y_3 = 12 ∧
∃ m_6 z_7 : Nat, m_6 ≤ bc ∧ z_7 ≤ bs ∧
wp_X6_reads D (fun r_4 S_5 => 
∃ y_8 : Nat, sR S_5 a0 13 = some y_8 ∧ wM D S_5 y_8 ∧ sK S_5 y_8 = 1 ∧
∃ m_11 z_12 : Nat, m_11 ≤ (bc - m_6) ∧ z_12 ≤ (bs - z_7) ∧
wp_J4_setLength_d00df D (fun S_10 => 
((¬ r_4 = 0 → 1 ≤ ((bc - m_6) - m_11) ∧ 6 ≤ ((bs - z_7) - z_12) ∧
wp_X11_mustBeUnmoved D (fun S_15 => 
∃ y_17 : Nat, sR S_15 a0 2 = some y_17 ∧ wM D S_15 y_17 ∧ sK S_15 y_17 = 12 ∧
∃ y_18 : Nat, sR S_15 a0 3 = some y_18 ∧ wM D S_15 y_18 ∧ sK S_15 y_18 = 12 ∧
wp_X7_copy D (fun S_20 => 
∃ y_21 : Nat, sR S_20 a0 4 = some y_21 ∧ wM D S_20 y_21 ∧ sK S_20 y_21 = 8 ∧
∃ y_22 : Nat, sR S_20 a0 2 = some y_22 ∧ wM D S_20 y_22 ∧ sK S_20 y_22 = 12 ∧
wp_X3_begin D (fun S_24 => 
∃ y_25 : Nat, sR S_24 a0 2 = some y_25 ∧ wM D S_24 y_25 ∧ sK S_24 y_25 = 12 ∧
wp_X7_occupied D (fun r_26 S_27 => 
wp_J13_bitCount_95d88 D (fun r_28 S_29 => 
post r_28 S_29) S_27 r_26) S_24 y_25) S_20 y_21 y_22) S_15 y_17 y_18) xp S_10 a0) ∧
 (r_4 = 0 → 1 ≤ ((bc - m_6) - m_11) ∧ 6 ≤ ((bs - z_7) - z_12) ∧
xp "java/lang/IllegalArgumentException" S_10))) m_11 z_12 S_5 y_8 (0 : Int32)) m_6 z_7 S y_1 y_2 y_3
abbrev r_X11_readPaper (rC rS : Nat) : Room := { frames := 18, cells := rC, slots := rS, locals := 399 }
def wp_X11_readPaper (D : wD) (post : Int32 → wS → Prop) (xp : String → wS → Prop) (bc bs : Nat) (S : wS) (a0 : Nat) : Prop := wp_X11_readPaper_0 D post xp bc bs S a0
set_option maxHeartbeats 4000000 in
set_option maxRecDepth 100000 in
theorem t_X11_readPaper_0 {p : Program} {l : Launch} {e : Env} {s : State} {m : MethodId} {args : Array Value} {below : List Frame} {meth : Method} {c : Code} {D : wD} {cy : Nat → ClassId} {X : va_W} {A : Nat → Prop} {S0 : wS} {rC rS : Nat} {post : Int32 → wS → Prop} {xp : String → wS → Prop} (F : CallFix p m c cX11_readPaper 2 s args wz_X11_readPaper RX11) (hr : meth.sig.returnType = (some .int)) (hlocks : meth.locks = false) (hK : wK D cy A s) (hl0 : l.stackTraces = false) (hexc : ∀ x ∈ c.exceptionTable.toList, False) : ∀ {bc bs cells slots : Nat} (hbc : cells + bc ≤ rC) (hbs : slots + bs ≤ rS) {S : wS} {H : Heap} {locs : List Loc} {ls : Array Slot} {a0 : Nat}, wp_X11_readPaper_0 D post xp bc bs S a0 → wO D cy X A s.heap S H locs → wX D S0 S → lv_has ls 2 [(0, .ref a0)] → wM D S a0 → sK S a0 = 16 → W p l e (r_X11_readPaper rC rS) s m args below meth c H locs cells slots (vx_MQ below (va_Qi (fun r S9 => wX D S0 S9 ∧ post r S9) (wB D cy X A) A) (wEx D cy X A (fun E S9 => wX D S0 S9 ∧ xp E S9)) args s rC rS A) (F0 m 0 ls []) := by
  obtain ⟨hx, hb, hml, hown, hts⟩ := id F
  have hwg : ∀ w ∈ WG, w.before args s = true := fun w h => hts w (List.mem_cons_of_mem _ h)
  have i_16 : ∀ w ∈ u_ws RX11 TX11 18, w ∈ wz_X11_readPaper := fun w h => List.mem_cons_of_mem _ (wu_16 w h)
  have k_105 := hwg _ wf_RX11_105
  have k_28 := hwg _ wf_RX11_28
  have k_32 := hwg _ wf_RX11_32
  have k_40 := hwg _ wf_RX11_40
  have k_65 := hwg _ wf_RX11_65
  intro bc bs cells slots hbc hbs S H locs ls a0 hp hW hE hl hL_a0 hK_a0
  unfold wp_X11_readPaper_0 at hp
  refine lv_aload_n hx hb dX11_readPaper_0 rfl (lv_at hl 0 rfl) ?_
  obtain ⟨y_1, ey_1, hL_y_1, hK_y_1, hp⟩ := hp
  refine w_get (k := 16) (f := 7) (T := TX11) (v := .ref y_1) F hK hW hL_a0 hK_a0 (by decide) rfl rfl (by decide) i_16 k_65 (by rw [show wv 16 7 S a0 = va_rf (sR S a0 7) from rfl, ey_1]; rfl) dX11_readPaper_1 ?_
  refine lv_aload_n hx hb dX11_readPaper_4 rfl (lv_at hl 0 rfl) ?_
  obtain ⟨y_2, ey_2, hL_y_2, hK_y_2, hp⟩ := hp
  refine w_get (k := 16) (f := 13) (T := TX11) (v := .ref y_2) F hK hW hL_a0 hK_a0 (by decide) rfl rfl (by decide) i_16 k_105 (by rw [show wv 16 13 S a0 = va_rf (sR S a0 13) from rfl, ey_2]; rfl) dX11_readPaper_5 ?_
  refine lv_aload_n hx hb dX11_readPaper_8 rfl (lv_at hl 0 rfl) ?_
  obtain ⟨y_3, ey_3, hL_y_3, hK_y_3, hp⟩ := hp
  refine w_get (k := 16) (f := 3) (T := TX11) (v := .ref y_3) F hK hW hL_a0 hK_a0 (by decide) rfl rfl (by decide) i_16 k_32 (by rw [show wv 16 3 S a0 = va_rf (sR S a0 3) from rfl, ey_3]; rfl) dX11_readPaper_9 ?_
  obtain ⟨m_6, z_7, hm_6, hz_7, hp⟩ := hp
  refine w_callI (va_runV (As := [.ref y_2, .ref y_3]) (rest := []) F (c_X6_reads l hL_y_1 hK_y_1 hL_y_2 hK_y_2 hL_y_3 hK_y_3 hp H.size) (cwV (C := RX6) 2 hts (wg_V wm_RX11_187 wy_X6_reads) rfl rfl rfl (by decide +kernel) ⟨Nat.le_of_ble_eq_true rfl, Nat.le_of_ble_eq_true rfl⟩) (w_preV hK hW hL_y_1 hK_y_1 (by decide) rfl) rfl rfl hl.1 rfl (lv_room (Nat.le_of_ble_eq_true rfl)) dX11_readPaper_12 ⟨by show _ + m_6 ≤ rC; omega, by show _ + z_7 ≤ rS; omega⟩) hW (fun r_4 S_5 H locs hp hW => ?_)
  obtain ⟨hX_S_5, hp⟩ := hp
  refine W.widen (k := _ + m_6) (n := _ + z_7) (Nat.le_refl _) (Nat.le_refl _) ?_
  replace hbc := w_spend hbc (show m_6 ≤ bc by omega)
  replace hbs := w_spend hbs (show z_7 ≤ bs by omega)
  have hE := hE.trans hX_S_5
  have hK_a0 : sK S_5 a0 = 16 := (hX_S_5.2 a0 hL_a0).1.trans hK_a0
  have hL_a0 : wM D S_5 a0 := hX_S_5.M hL_a0
  refine lv_istore_n (lv' := [(1, .int r_4), (0, .ref a0)]) hx hb dX11_readPaper_15 rfl hl (by decide) rfl (fun ls hl => ?_)
  refine lv_aload_n hx hb dX11_readPaper_16 rfl (lv_at hl 1 rfl) ?_
  obtain ⟨y_8, ey_8, hL_y_8, hK_y_8, hp⟩ := hp
  refine w_get (k := 16) (f := 13) (T := TX11) (v := .ref y_8) F hK hW hL_a0 hK_a0 (by decide) rfl rfl (by decide) i_16 k_105 (by rw [show wv 16 13 S_5 a0 = va_rf (sR S_5 a0 13) from rfl, ey_8]; rfl) dX11_readPaper_17 ?_
  refine lv_iconst (v := 0) hx hb dX11_readPaper_20 (by decide) ?_
  obtain ⟨m_11, z_12, hm_11, hz_12, hp⟩ := hp
  refine w_callV (va_runV (As := [.int (0 : Int32)]) (rest := []) F (c_J4_setLength_d00df l hL_y_8 hK_y_8 hp H.size) (cwV (C := RJ4) 1 hts (wg_V wm_RX11_191 wy_J4_setLength_d00df) rfl rfl rfl (by decide +kernel) ⟨Nat.le_of_ble_eq_true rfl, Nat.le_of_ble_eq_true rfl⟩) (w_preV hK hW hL_y_8 hK_y_8 (by decide) rfl) rfl rfl hl.1 rfl (lv_room (Nat.le_of_ble_eq_true rfl)) dX11_readPaper_21 ⟨by show _ + m_11 ≤ rC; omega, by show _ + z_12 ≤ rS; omega⟩) hW (fun S_10 H locs hp hW => ?_)
  obtain ⟨hX_S_10, hp⟩ := hp
  refine W.widen (k := _ + m_11) (n := _ + z_12) (Nat.le_refl _) (Nat.le_refl _) ?_
  replace hbc := w_spend hbc (show m_11 ≤ (bc - m_6) by omega)
  replace hbs := w_spend hbs (show z_12 ≤ (bs - z_7) by omega)
  have hE := hE.trans hX_S_10
  have hK_a0 : sK S_10 a0 = 16 := (hX_S_10.2 a0 hL_a0).1.trans hK_a0
  have hL_a0 : wM D S_10 a0 := hX_S_10.M hL_a0
  refine lv_iload_n hx hb dX11_readPaper_24 rfl (lv_at hl 0 rfl) ?_
  refine lv_if_ne (tgt := 38) hx hb dX11_readPaper_25 (by decide) (fun c_13 => ?_) (fun c_13 => ?_)
  · replace hp := hp.1 c_13
    refine lv_aload_n hx hb dX11_readPaper_38 rfl (lv_at hl 1 rfl) ?_
    obtain ⟨h_16, h_16z, hp⟩ := hp
    refine x_callV (vx_runV (As := []) (rest := []) F (c_X11_mustBeUnmoved l hl0 hL_a0 hK_a0 hp H.size) (cwV (C := RX11) 0 hts (wg_V wm_RX11_165 wy_X11_mustBeUnmoved) rfl rfl rfl (by decide +kernel) ⟨Nat.le_of_ble_eq_true rfl, Nat.le_of_ble_eq_true rfl⟩) (w_preV hK hW hL_a0 hK_a0 (by decide) rfl) rfl rfl hl.1 rfl (lv_room (Nat.le_of_ble_eq_true rfl)) dX11_readPaper_39 ⟨by show _ + 1 ≤ rC; omega, by show _ + 6 ≤ rS; omega⟩) hW (fun E ce q9 S9 H locs hp hW h1 h2 h3 => x_out hexc hlocks ⟨hE.trans hp.1, hp.2⟩ hW h1 h2 h3 (by show _ + 1 ≤ rC; omega) (by show _ + 6 ≤ rS; omega)) (fun S_15 H locs hp hW => ?_)
    obtain ⟨hX_S_15, hp⟩ := hp
    refine W.widen (k := _ + 1) (n := _ + 6) (Nat.le_refl _) (Nat.le_refl _) ?_
    replace hbc := w_spend hbc (show 1 ≤ ((bc - m_6) - m_11) by omega)
    replace hbs := w_spend hbs (show 6 ≤ ((bs - z_7) - z_12) by omega)
    have hE := hE.trans hX_S_15
    have hK_a0 : sK S_15 a0 = 16 := (hX_S_15.2 a0 hL_a0).1.trans hK_a0
    have hL_a0 : wM D S_15 a0 := hX_S_15.M hL_a0
    refine lv_aload_n hx hb dX11_readPaper_42 rfl (lv_at hl 1 rfl) ?_
    obtain ⟨y_17, ey_17, hL_y_17, hK_y_17, hp⟩ := hp
    refine w_get (k := 16) (f := 2) (T := TX11) (v := .ref y_17) F hK hW hL_a0 hK_a0 (by decide) rfl rfl (by decide) i_16 k_28 (by rw [show wv 16 2 S_15 a0 = va_rf (sR S_15 a0 2) from rfl, ey_17]; rfl) dX11_readPaper_43 ?_
    refine lv_aload_n hx hb dX11_readPaper_46 rfl (lv_at hl 1 rfl) ?_
    obtain ⟨y_18, ey_18, hL_y_18, hK_y_18, hp⟩ := hp
    refine w_get (k := 16) (f := 3) (T := TX11) (v := .ref y_18) F hK hW hL_a0 hK_a0 (by decide) rfl rfl (by decide) i_16 k_32 (by rw [show wv 16 3 S_15 a0 = va_rf (sR S_15 a0 3) from rfl, ey_18]; rfl) dX11_readPaper_47 ?_
    refine w_callV (va_runV (As := [.ref y_18]) (rest := []) F (c_X7_copy l hL_y_17 hK_y_17 hL_y_18 hK_y_18 hp H.size) (cwV (C := RX7) 1 hts (wg_V wm_RX11_196 wy_X7_copy) rfl rfl rfl (by decide +kernel) ⟨Nat.le_of_ble_eq_true rfl, Nat.le_of_ble_eq_true rfl⟩) (w_preV hK hW hL_y_17 hK_y_17 (by decide) rfl) rfl rfl hl.1 rfl (lv_room (Nat.le_of_ble_eq_true rfl)) dX11_readPaper_50 ⟨by show _ ≤ rC; exact Nat.le_trans (Nat.le_add_right _ _) hbc, by show _ ≤ rS; exact Nat.le_trans (Nat.le_add_right _ _) hbs⟩) hW (fun S_20 H locs hp hW => ?_)
    obtain ⟨hX_S_20, hp⟩ := hp
    refine w_same ?_
    have hE := hE.trans hX_S_20
    have hK_a0 : sK S_20 a0 = 16 := (hX_S_20.2 a0 hL_a0).1.trans hK_a0
    have hL_a0 : wM D S_20 a0 := hX_S_20.M hL_a0
    refine lv_aload_n hx hb dX11_readPaper_53 rfl (lv_at hl 1 rfl) ?_
    obtain ⟨y_21, ey_21, hL_y_21, hK_y_21, hp⟩ := hp
    refine w_get (k := 16) (f := 4) (T := TX11) (v := .ref y_21) F hK hW hL_a0 hK_a0 (by decide) rfl rfl (by decide) i_16 k_40 (by rw [show wv 16 4 S_20 a0 = va_rf (sR S_20 a0 4) from rfl, ey_21]; rfl) dX11_readPaper_54 ?_
    refine lv_aload_n hx hb dX11_readPaper_57 rfl (lv_at hl 1 rfl) ?_
    obtain ⟨y_22, ey_22, hL_y_22, hK_y_22, hp⟩ := hp
    refine w_get (k := 16) (f := 2) (T := TX11) (v := .ref y_22) F hK hW hL_a0 hK_a0 (by decide) rfl rfl (by decide) i_16 k_28 (by rw [show wv 16 2 S_20 a0 = va_rf (sR S_20 a0 2) from rfl, ey_22]; rfl) dX11_readPaper_58 ?_
    refine w_callV (va_runV (As := [.ref y_22]) (rest := []) F (c_X3_begin l hL_y_21 hK_y_21 hL_y_22 hK_y_22 hp H.size) (cwV (C := RX3) 1 hts (wg_V wm_RX11_130 wy_X3_begin) rfl rfl rfl (by decide +kernel) ⟨Nat.le_of_ble_eq_true rfl, Nat.le_of_ble_eq_true rfl⟩) (w_preV hK hW hL_y_21 hK_y_21 (by decide) rfl) rfl rfl hl.1 rfl (lv_room (Nat.le_of_ble_eq_true rfl)) dX11_readPaper_61 ⟨by show _ ≤ rC; exact Nat.le_trans (Nat.le_add_right _ _) hbc, by show _ ≤ rS; exact Nat.le_trans (Nat.le_add_right _ _) hbs⟩) hW (fun S_24 H locs hp hW => ?_)
    obtain ⟨hX_S_24, hp⟩ := hp
    refine w_same ?_
    have hE := hE.trans hX_S_24
    have hK_a0 : sK S_24 a0 = 16 := (hX_S_24.2 a0 hL_a0).1.trans hK_a0
    have hL_a0 : wM D S_24 a0 := hX_S_24.M hL_a0
    refine lv_aload_n hx hb dX11_readPaper_64 rfl (lv_at hl 1 rfl) ?_
    obtain ⟨y_25, ey_25, hL_y_25, hK_y_25, hp⟩ := hp
    refine w_get (k := 16) (f := 2) (T := TX11) (v := .ref y_25) F hK hW hL_a0 hK_a0 (by decide) rfl rfl (by decide) i_16 k_28 (by rw [show wv 16 2 S_24 a0 = va_rf (sR S_24 a0 2) from rfl, ey_25]; rfl) dX11_readPaper_65 ?_
    refine w_callJ (va_runV (As := []) (rest := []) F (c_X7_occupied l hL_y_25 hK_y_25 hp H.size) (cwV (C := RX7) 0 hts (wg_V wm_RX11_199 wy_X7_occupied) rfl rfl rfl (by decide +kernel) ⟨Nat.le_of_ble_eq_true rfl, Nat.le_of_ble_eq_true rfl⟩) (w_preV hK hW hL_y_25 hK_y_25 (by decide) rfl) rfl rfl hl.1 rfl (lv_room (Nat.le_of_ble_eq_true rfl)) dX11_readPaper_68 ⟨by show _ ≤ rC; exact Nat.le_trans (Nat.le_add_right _ _) hbc, by show _ ≤ rS; exact Nat.le_trans (Nat.le_add_right _ _) hbs⟩) hW (fun r_26 S_27 H locs hp hW => ?_)
    obtain ⟨hX_S_27, hp⟩ := hp
    refine w_same ?_
    have hE := hE.trans hX_S_27
    have hK_a0 : sK S_27 a0 = 16 := (hX_S_27.2 a0 hL_a0).1.trans hK_a0
    have hL_a0 : wM D S_27 a0 := hX_S_27.M hL_a0
    refine w_callI (va_runS (As := [.long r_26]) (rest := []) F (c_J13_bitCount_95d88 l hp H.size) (va_cwS 1 hts (wg_S wm_RX11_203 wy_J13_bitCount_95d88) rfl rfl rfl (by decide +kernel) ⟨Nat.le_of_ble_eq_true rfl, Nat.le_of_ble_eq_true rfl⟩) (w_preS hK hW) rfl rfl hl.1 rfl (lv_room (Nat.le_of_ble_eq_true rfl)) dX11_readPaper_71 ⟨by show _ ≤ rC; exact Nat.le_trans (Nat.le_add_right _ _) hbc, by show _ ≤ rS; exact Nat.le_trans (Nat.le_add_right _ _) hbs⟩) hW (fun r_28 S_29 H locs hp hW => ?_)
    obtain ⟨hX_S_29, hp⟩ := hp
    refine w_same ?_
    have hE := hE.trans hX_S_29
    have hK_a0 : sK S_29 a0 = 16 := (hX_S_29.2 a0 hL_a0).1.trans hK_a0
    have hL_a0 : wM D S_29 a0 := hX_S_29.M hL_a0
    refine W.widen (k := rC) (n := rS) (Nat.le_trans (Nat.le_add_right _ _) hbc) (Nat.le_trans (Nat.le_add_right _ _) hbs) ?_
    refine vx_ret ?_
    exact w_iret hx hb hr hlocks hW ⟨hE, hp⟩ dX11_readPaper_74
  · replace hp := hp.2 c_13
    obtain ⟨hm1, hm2, hp⟩ := hp
    exact x_throw (ls := ls) F hK hW hl0 (by decide) (hwg _ wc_RX11_140) (hwg _ wi_java_lang_IllegalArgumentException) (show ("OpeningsCabinet", 194, "no paper of a proper position on this board", 16) ∈ wStr by decide +kernel) (wa_RX11_144 hwg hK.2.1) wa_RX11_144_ok hl.1 hexc hlocks dX11_readPaper_28 dX11_readPaper_31 dX11_readPaper_32 dX11_readPaper_34 dX11_readPaper_37 (Nat.le_of_ble_eq_true rfl) (Nat.le_of_ble_eq_true rfl) (by show _ ≤ rC; omega) (by show _ ≤ rS; omega) (by omega) (by omega) ⟨hE, hp⟩
set_option maxHeartbeats 4000000 in
set_option maxRecDepth 100000 in
theorem c_X11_readPaper (l : Launch) {rC rS : Nat} {D : wD} {cy : Nat → ClassId} {X : va_W} {S0 : wS} {post : Int32 → wS → Prop} {xp : String → wS → Prop} (hl0 : l.stackTraces = false) {a0 : Nat} (hL_a0 : wM D S0 a0) (hK_a0 : sK S0 a0 = 16) (hp : wp_X11_readPaper D post xp rC rS S0 a0) : xI D cy X l yX11_readPaper wz_X11_readPaper (r_X11_readPaper rC rS) [.ref a0] S0 (fun r S9 => wX D S0 S9 ∧ post r S9) (fun E S9 => wX D S0 S9 ∧ xp E S9) := by
  intro sz
  refine vx_ofW (cc := cX11_readPaper) (maxL := 2) (ret := (some .int)) (by decide) rfl ?_
  intro p e s m args below meth c s₁ B hml hexc hv
  obtain ⟨rfl, hsz, hP, hK, hD0, hRO⟩ := hv
  have hts := atoms_spec (ws := wz_X11_readPaper) B.pre
  have hown : s.vm.findClass RX11 = some m.cls := findClass_of_methodNamed B.named
  subst hsz
  have hD := hD0.self (sz := s.heap.size)
  have F : CallFix p m c cX11_readPaper 2 s _ wz_X11_readPaper RX11 := ⟨B.exec, B.bytes, hml, hown, hts⟩
  have hr := B.returns
  have hlocks := B.notSynchronized
  generalize hAe : va_A (wL cy X S0) s.heap.size = A at hD hK ⊢
  have hA : ∀ q, s.heap.size ≤ q → A q := fun q h => by rw [← hAe]; exact Or.inr h
  have hW : wO D cy X A s.heap S0 s.heap [] := ⟨hP, hD, va_S.rf, hA, hRO⟩
  have hl := lv_entry ([.ref a0]) (n := 2) (Nat.le_of_ble_eq_true rfl)
  rw [lg_entry_eq]
  generalize (lg_sl ([.ref a0]) ++ List.replicate (2 - (lg_sl ([.ref a0])).length) Slot.unset).toArray = ls at hl ⊢
  have hl : lv_has ls 2 [(0, .ref a0)] := hl
  unfold wp_X11_readPaper at hp
  exact t_X11_readPaper_0 F hr hlocks hK hl0 hexc (Nat.le_of_eq (Nat.zero_add _)) (Nat.le_of_eq (Nat.zero_add _)) hp hW wX.rf (lv_sub hl [0] rfl) hL_a0 hK_a0
def wp_X11_shareWon_39 (D : wD) (post : UInt32 → wS → Prop) (xp : String → wS → Prop)  (S : wS) (t0 : UInt32) : Prop :=
post t0 S
def wp_X11_shareWon_0 (D : wD) (post : UInt32 → wS → Prop) (xp : String → wS → Prop)  (S : wS) (a0 : Nat) (x1 : Int32) : Prop :=
wp_X11_shelfOf D (fun r_1 S_2 => 
∃ y_3 : Nat, sR S_2 a0 2 = some y_3 ∧ wM D S_2 y_3 ∧ sK S_2 y_3 = 12 ∧
∃ y_4 : Nat, r_1 = some y_4 ∧ wM D S_2 y_4 ∧ sK S_2 y_4 = 15 ∧
wp_X10_passing D (fun r_6 S_7 => 
(((Op.cmpValue (FP.fcmp (FP.i2f r_6) FP.fconst0) .l) ≤ 0 → wp_X11_shareWon_39 D post xp S_7 FP.fconst0) ∧
 (¬ (Op.cmpValue (FP.fcmp (FP.i2f r_6) FP.fconst0) .l) ≤ 0 → ∃ y_9 : Nat, sR S_7 a0 2 = some y_9 ∧ wM D S_7 y_9 ∧ sK S_7 y_9 = 12 ∧
wp_X10_passing D (fun r_10 S_11 => 
vf_n32 (FP.fdiv (FP.i2f r_10) (FP.i2f r_6)) ∧
wp_X11_shareWon_39 D post xp S_11 (FP.fdiv (FP.i2f r_10) (FP.i2f r_6))) S_7 y_4 y_9 (0 : Int32)))) S_2 y_4 y_3 (-1 : Int32)) xp S a0 x1
abbrev r_X11_shareWon : Room := { frames := 7, cells := 1, slots := 6, locals := 141 }
def wp_X11_shareWon (D : wD) (post : UInt32 → wS → Prop) (xp : String → wS → Prop) (S : wS) (a0 : Nat) (x1 : Int32) : Prop := wp_X11_shareWon_0 D post xp S a0 x1
set_option maxHeartbeats 4000000 in
set_option maxRecDepth 100000 in
theorem t_X11_shareWon_39 {p : Program} {l : Launch} {e : Env} {s : State} {m : MethodId} {args : Array Value} {below : List Frame} {meth : Method} {c : Code} {D : wD} {cy : Nat → ClassId} {X : va_W} {A : Nat → Prop} {S0 : wS} {post : UInt32 → wS → Prop} {xp : String → wS → Prop} (F : CallFix p m c cX11_shareWon 4 s args wz_X11_shareWon RX11) (hr : meth.sig.returnType = (some .float)) (hlocks : meth.locks = false) (hK : wK D cy A s) (hl0 : l.stackTraces = false) (hexc : ∀ x ∈ c.exceptionTable.toList, False) : ∀ {S : wS} {H : Heap} {locs : List Loc} {ls : Array Slot} {t0 : UInt32}, wp_X11_shareWon_39 D post xp S t0 → wO D cy X A s.heap S H locs → wX D S0 S → lv_has ls 4 [] → W p l e r_X11_shareWon s m args below meth c H locs 1 6 (vx_MQ below (va_Qf (fun r S9 => wX D S0 S9 ∧ post r S9) (wB D cy X A) A) (wEx D cy X A (fun E S9 => wX D S0 S9 ∧ xp E S9)) args s 1 6 A) (F0 m 39 ls [.float t0]) := by
  obtain ⟨hx, hb, hml, hown, hts⟩ := id F
  have hwg : ∀ w ∈ WG, w.before args s = true := fun w h => hts w (List.mem_cons_of_mem _ h)
  intro S H locs ls t0 hp hW hE hl
  unfold wp_X11_shareWon_39 at hp
  refine vx_ret ?_
  exact w_fret hx hb hr hlocks hW ⟨hE, hp⟩ dX11_shareWon_39
set_option maxHeartbeats 4000000 in
set_option maxRecDepth 100000 in
theorem t_X11_shareWon_0 {p : Program} {l : Launch} {e : Env} {s : State} {m : MethodId} {args : Array Value} {below : List Frame} {meth : Method} {c : Code} {D : wD} {cy : Nat → ClassId} {X : va_W} {A : Nat → Prop} {S0 : wS} {post : UInt32 → wS → Prop} {xp : String → wS → Prop} (F : CallFix p m c cX11_shareWon 4 s args wz_X11_shareWon RX11) (hr : meth.sig.returnType = (some .float)) (hlocks : meth.locks = false) (hK : wK D cy A s) (hl0 : l.stackTraces = false) (hexc : ∀ x ∈ c.exceptionTable.toList, False) : ∀ {S : wS} {H : Heap} {locs : List Loc} {ls : Array Slot} {a0 : Nat} {x1 : Int32}, wp_X11_shareWon_0 D post xp S a0 x1 → wO D cy X A s.heap S H locs → wX D S0 S → lv_has ls 4 [(0, .ref a0), (1, .int x1)] → wM D S a0 → sK S a0 = 16 → W p l e r_X11_shareWon s m args below meth c H locs 0 0 (vx_MQ below (va_Qf (fun r S9 => wX D S0 S9 ∧ post r S9) (wB D cy X A) A) (wEx D cy X A (fun E S9 => wX D S0 S9 ∧ xp E S9)) args s 1 6 A) (F0 m 0 ls []) := by
  obtain ⟨hx, hb, hml, hown, hts⟩ := id F
  have hwg : ∀ w ∈ WG, w.before args s = true := fun w h => hts w (List.mem_cons_of_mem _ h)
  have i_16 : ∀ w ∈ u_ws RX11 TX11 18, w ∈ wz_X11_shareWon := fun w h => List.mem_cons_of_mem _ (wu_16 w h)
  have k_28 := hwg _ wf_RX11_28
  intro S H locs ls a0 x1 hp hW hE hl hL_a0 hK_a0
  unfold wp_X11_shareWon_0 at hp
  refine lv_aload_n hx hb dX11_shareWon_0 rfl (lv_at hl 0 rfl) ?_
  refine lv_iload_n hx hb dX11_shareWon_1 rfl (lv_at hl 1 rfl) ?_
  refine x_callR (vx_runV (As := [.int x1]) (rest := []) F (c_X11_shelfOf l hl0 hL_a0 hK_a0 hp H.size) (cwV (C := RX11) 1 hts (wg_V wm_RX11_337 wy_X11_shelfOf) rfl rfl rfl (by decide +kernel) ⟨Nat.le_of_ble_eq_true rfl, Nat.le_of_ble_eq_true rfl⟩) (w_preV hK hW hL_a0 hK_a0 (by decide) rfl) rfl rfl hl.1 rfl (lv_room (Nat.le_of_ble_eq_true rfl)) dX11_shareWon_2 ⟨Nat.le_of_ble_eq_true rfl, Nat.le_of_ble_eq_true rfl⟩) hW (fun E ce q9 S9 H locs hp hW h1 h2 h3 => x_out hexc hlocks ⟨hE.trans hp.1, hp.2⟩ hW h1 h2 h3 (by decide) (by decide)) (fun r_1 S_2 H locs hp hW => ?_)
  obtain ⟨hX_S_2, hp⟩ := hp
  refine W.widen (k := 1) (n := 6) (by decide) (by decide) ?_
  have hE := hE.trans hX_S_2
  have hK_a0 : sK S_2 a0 = 16 := (hX_S_2.2 a0 hL_a0).1.trans hK_a0
  have hL_a0 : wM D S_2 a0 := hX_S_2.M hL_a0
  refine w_astore_n (lv' := [(2, va_rf r_1), (0, .ref a0), (1, .int x1)]) hx hb dX11_shareWon_5 rfl hl (by decide) rfl (fun ls hl => ?_)
  refine w_aload_n hx hb dX11_shareWon_6 rfl (lv_at hl 0 rfl) ?_
  refine lv_aload_n hx hb dX11_shareWon_7 rfl (lv_at hl 1 rfl) ?_
  obtain ⟨y_3, ey_3, hL_y_3, hK_y_3, hp⟩ := hp
  refine w_get (k := 16) (f := 2) (T := TX11) (v := .ref y_3) F hK hW hL_a0 hK_a0 (by decide) rfl rfl (by decide) i_16 k_28 (by rw [show wv 16 2 S_2 a0 = va_rf (sR S_2 a0 2) from rfl, ey_3]; rfl) dX11_shareWon_8 ?_
  refine lv_iconst (v := (-1)) hx hb dX11_shareWon_11 (by decide) ?_
  obtain ⟨y_4, h_5, hL_y_4, hK_y_4, hp⟩ := hp
  revert hp; revert hl; revert hW; revert hE; subst h_5; intro hE hW hl hp
  refine w_callI (va_runV (As := [.ref y_3, .int (-1 : Int32)]) (rest := []) F (c_X10_passing l hL_y_4 hK_y_4 hL_y_3 hK_y_3 hp H.size) (cwV (C := RX10) 2 hts (wg_V wm_RX11_362 wy_X10_passing) rfl rfl rfl (by decide +kernel) ⟨Nat.le_of_ble_eq_true rfl, Nat.le_of_ble_eq_true rfl⟩) (w_preV hK hW hL_y_4 hK_y_4 (by decide) rfl) rfl rfl hl.1 rfl (lv_room (Nat.le_of_ble_eq_true rfl)) dX11_shareWon_12 ⟨Nat.le_of_ble_eq_true rfl, Nat.le_of_ble_eq_true rfl⟩) hW (fun r_6 S_7 H locs hp hW => ?_)
  obtain ⟨hX_S_7, hp⟩ := hp
  refine W.widen (k := 1) (n := 6) (by decide) (by decide) ?_
  have hE := hE.trans hX_S_7
  have hK_a0 : sK S_7 a0 = 16 := (hX_S_7.2 a0 hL_a0).1.trans hK_a0
  have hL_a0 : wM D S_7 a0 := hX_S_7.M hL_a0
  have hK_y_4 : sK S_7 y_4 = 15 := (hX_S_7.2 y_4 hL_y_4).1.trans hK_y_4
  have hL_y_4 : wM D S_7 y_4 := hX_S_7.M hL_y_4
  refine lv_i2f hx hb dX11_shareWon_15 ?_
  refine lv_fstore_n (lv' := [(3, .float (FP.i2f r_6)), (2, .ref y_4), (0, .ref a0), (1, .int x1)]) hx hb dX11_shareWon_16 rfl hl (by decide) rfl (fun ls hl => ?_)
  refine lv_fload_n hx hb dX11_shareWon_17 rfl (lv_at hl 0 rfl) ?_
  refine lv_fconst0 hx hb dX11_shareWon_18 ?_
  refine lv_fcmp hx hb dX11_shareWon_19 ?_
  refine lv_if_le (tgt := 38) hx hb dX11_shareWon_20 (by decide) (fun c_8 => ?_) (fun c_8 => ?_)
  · replace hp := hp.1 c_8
    refine lv_fconst0 hx hb dX11_shareWon_38 ?_
    exact t_X11_shareWon_39 F hr hlocks hK hl0 hexc hp hW hE (lv_sub hl [] rfl)
  · replace hp := hp.2 c_8
    refine lv_aload_n hx hb dX11_shareWon_23 rfl (lv_at hl 1 rfl) ?_
    refine lv_aload_n hx hb dX11_shareWon_24 rfl (lv_at hl 2 rfl) ?_
    obtain ⟨y_9, ey_9, hL_y_9, hK_y_9, hp⟩ := hp
    refine w_get (k := 16) (f := 2) (T := TX11) (v := .ref y_9) F hK hW hL_a0 hK_a0 (by decide) rfl rfl (by decide) i_16 k_28 (by rw [show wv 16 2 S_7 a0 = va_rf (sR S_7 a0 2) from rfl, ey_9]; rfl) dX11_shareWon_25 ?_
    refine lv_iconst (v := 0) hx hb dX11_shareWon_28 (by decide) ?_
    refine w_callI (va_runV (As := [.ref y_9, .int (0 : Int32)]) (rest := []) F (c_X10_passing l hL_y_4 hK_y_4 hL_y_9 hK_y_9 hp H.size) (cwV (C := RX10) 2 hts (wg_V wm_RX11_362 wy_X10_passing) rfl rfl rfl (by decide +kernel) ⟨Nat.le_of_ble_eq_true rfl, Nat.le_of_ble_eq_true rfl⟩) (w_preV hK hW hL_y_4 hK_y_4 (by decide) rfl) rfl rfl hl.1 rfl (lv_room (Nat.le_of_ble_eq_true rfl)) dX11_shareWon_29 ⟨Nat.le_of_ble_eq_true rfl, Nat.le_of_ble_eq_true rfl⟩) hW (fun r_10 S_11 H locs hp hW => ?_)
    obtain ⟨hX_S_11, hp⟩ := hp
    refine W.widen (k := 1) (n := 6) (by decide) (by decide) ?_
    have hE := hE.trans hX_S_11
    have hK_a0 : sK S_11 a0 = 16 := (hX_S_11.2 a0 hL_a0).1.trans hK_a0
    have hL_a0 : wM D S_11 a0 := hX_S_11.M hL_a0
    have hK_y_4 : sK S_11 y_4 = 15 := (hX_S_11.2 y_4 hL_y_4).1.trans hK_y_4
    have hL_y_4 : wM D S_11 y_4 := hX_S_11.M hL_y_4
    refine lv_i2f hx hb dX11_shareWon_32 ?_
    refine lv_fload_n hx hb dX11_shareWon_33 rfl (lv_at hl 0 rfl) ?_
    obtain ⟨h_12, hp⟩ := hp
    refine lv_fdiv hx hb dX11_shareWon_34 h_12 ?_
    refine lv_goto (tgt := 39) hx hb dX11_shareWon_35 (by decide) ?_
    exact t_X11_shareWon_39 F hr hlocks hK hl0 hexc hp hW hE (lv_sub hl [] rfl)
set_option maxHeartbeats 4000000 in
set_option maxRecDepth 100000 in
theorem c_X11_shareWon (l : Launch) {D : wD} {cy : Nat → ClassId} {X : va_W} {S0 : wS} {post : UInt32 → wS → Prop} {xp : String → wS → Prop} (hl0 : l.stackTraces = false) {a0 : Nat} {x1 : Int32} (hL_a0 : wM D S0 a0) (hK_a0 : sK S0 a0 = 16) (hp : wp_X11_shareWon D post xp S0 a0 x1) : xF D cy X l yX11_shareWon wz_X11_shareWon r_X11_shareWon [.ref a0, .int x1] S0 (fun r S9 => wX D S0 S9 ∧ post r S9) (fun E S9 => wX D S0 S9 ∧ xp E S9) := by
  intro sz
  refine vx_ofW (cc := cX11_shareWon) (maxL := 4) (ret := (some .float)) (by decide) rfl ?_
  intro p e s m args below meth c s₁ B hml hexc hv
  obtain ⟨rfl, hsz, hP, hK, hD0, hRO⟩ := hv
  have hts := atoms_spec (ws := wz_X11_shareWon) B.pre
  have hown : s.vm.findClass RX11 = some m.cls := findClass_of_methodNamed B.named
  subst hsz
  have hD := hD0.self (sz := s.heap.size)
  have F : CallFix p m c cX11_shareWon 4 s _ wz_X11_shareWon RX11 := ⟨B.exec, B.bytes, hml, hown, hts⟩
  have hr := B.returns
  have hlocks := B.notSynchronized
  generalize hAe : va_A (wL cy X S0) s.heap.size = A at hD hK ⊢
  have hA : ∀ q, s.heap.size ≤ q → A q := fun q h => by rw [← hAe]; exact Or.inr h
  have hW : wO D cy X A s.heap S0 s.heap [] := ⟨hP, hD, va_S.rf, hA, hRO⟩
  have hl := lv_entry ([.ref a0, .int x1]) (n := 4) (Nat.le_of_ble_eq_true rfl)
  rw [lg_entry_eq]
  generalize (lg_sl ([.ref a0, .int x1]) ++ List.replicate (4 - (lg_sl ([.ref a0, .int x1])).length) Slot.unset).toArray = ls at hl ⊢
  have hl : lv_has ls 4 [(0, .ref a0), (1, .int x1)] := hl
  unfold wp_X11_shareWon at hp
  exact t_X11_shareWon_0 F hr hlocks hK hl0 hexc hp hW wX.rf (lv_sub hl [0, 1] rfl) hL_a0 hK_a0
def wp_X2_workOut_175 (D : wD) (post : wS → Prop)  (bc bs : Nat) (S : wS) (b0 : Nat) (t1 : Int32) (t2 : Int32) : Prop :=
b0 ∈ sL S ∧ vp_in t1 (sN S b0) ∧
∀ S_2 : wS, S_2 = uI S b0 (t1).toNatClampNeg t2 →
post S_2
def wp_X2_workOut_174 (D : wD) (post : wS → Prop)  (bc bs : Nat) (S : wS) (b0 : Nat) (t1 : Int32) : Prop :=
wp_X2_workOut_175 D post bc bs S b0 t1 (-1 : Int32)
def wp_X2_workOut_118 (D : wD) (post : wS → Prop)  (bc bs : Nat) (S : wS) (a0 : Nat) (x1 : Int32) : Prop :=
∃ y_1 : Nat, sR S a0 1 = some y_1 ∧ wM D S y_1 ∧ sK S y_1 = 23 ∧
y_1 ∈ sL S ∧ vp_in x1 (sN S y_1) ∧
∀ S_3 : wS, S_3 = uI S y_1 (x1).toNatClampNeg (vp_nar .boolean (1 : Int32)) →
∃ y_4 : Nat, sR S_3 a0 2 = some y_4 ∧ wM D S_3 y_4 ∧ sK S_3 y_4 = 21 ∧
y_4 ∈ sL S_3 ∧ vp_in x1 (sN S_3 y_4) ∧
∀ S_6 : wS, S_6 = uI S_3 y_4 (x1).toNatClampNeg (sI S_3 a0 7) →
∀ x_7 : Int32, x_7 = ((sI S_6 a0 7) - (1 : Int32)) →
∃ y_8 : Nat, sR S_6 a0 3 = some y_8 ∧ wM D S_6 y_8 ∧ sK S_6 y_8 = 21 ∧
((x_7 < 0 → wp_X2_workOut_174 D post bc bs S_6 y_8 x1) ∧
 (¬ x_7 < 0 → ∃ y_10 : Nat, sR S_6 a0 5 = some y_10 ∧ wM D S_6 y_10 ∧ sK S_6 y_10 = 21 ∧
(((Int32.ofNat (sN S_6 y_10)) ≤ x_7 → wp_X2_workOut_174 D post bc bs S_6 y_8 x1) ∧
 (¬ (Int32.ofNat (sN S_6 y_10)) ≤ x_7 → ∃ y_12 : Nat, sR S_6 a0 5 = some y_12 ∧ wM D S_6 y_12 ∧ sK S_6 y_12 = 21 ∧
vp_in x_7 (sN S_6 y_12) ∧
wp_X2_valueAt D (fun r_14 S_15 => 
wp_X2_workOut_175 D post bc bs S_15 y_8 x1 r_14) S_6 a0 x1 (sI S_6 y_12 (x_7).toNatClampNeg)))))
def wp_X2_workOut_84 (D : wD) (post : wS → Prop)  : Nat → Nat → Nat → wS → Nat → Int32 → Int32 → Prop
  | 0, _, _, _, _, _, _ => False
  | n + 1, bc, bs, S, a0, x1, x2 =>
    (((sI S a0 7) ≤ x2 → wp_X2_workOut_118 D post bc bs S a0 x1) ∧
     (¬ (sI S a0 7) ≤ x2 → ∃ y_2 : Nat, sR S a0 5 = some y_2 ∧ wM D S y_2 ∧ sK S y_2 = 21 ∧
    (((Int32.ofNat (sN S y_2)) ≤ x2 → wp_X2_workOut_118 D post bc bs S a0 x1) ∧
     (¬ (Int32.ofNat (sN S y_2)) ≤ x2 → ∃ y_4 : Nat, sR S a0 5 = some y_4 ∧ wM D S y_4 ∧ sK S y_4 = 21 ∧
    vp_in x2 (sN S y_4) ∧
    wp_X2_stepBack D (fun S_7 => 
    ∀ x_8 : Int32, x_8 = x2 + 1 →
    wp_X2_workOut_84 D post n bc bs S_7 a0 x1 x_8) S a0 x1 (sI S y_4 (x2).toNatClampNeg)))))
def wp_X2_workOut_65 (D : wD) (post : wS → Prop)  (bc bs : Nat) (S : wS) (a0 : Nat) (x1 : Int32) : Prop :=
∀ S_1 : wS, S_1 = uI S a0 7 (0 : Int32) →
wp_X2_forEachPlace D (fun S_3 => 
wp_X2_forEachPlace D (fun S_5 => 
∃ n_6 : Nat, wp_X2_workOut_84 D post n_6 bc bs S_5 a0 x1 (0 : Int32)) S_3 a0 x1 (0 : Int32)) S_1 a0 x1 (1 : Int32)
def wp_X2_workOut_30 (D : wD) (post : wS → Prop)  (bc bs : Nat) (S : wS) : Prop :=
post S
def wp_X2_workOut_0 (D : wD) (post : wS → Prop)  (bc bs : Nat) (S : wS) (a0 : Nat) (x1 : Int32) : Prop :=
wp_X2_isWorkedOut D (fun r_1 S_2 => 
((¬ r_1 = 0 → wp_X2_workOut_30 D post bc bs S_2) ∧
 (r_1 = 0 → ((x1 < (2 : Int32) → wp_X2_workOut_30 D post bc bs S_2) ∧
 (¬ x1 < (2 : Int32) → (((5 : Int32) < x1 → wp_X2_workOut_30 D post bc bs S_2) ∧
 (¬ (5 : Int32) < x1 → ∃ y_6 : Nat, sR S_2 a0 0 = some y_6 ∧ wM D S_2 y_6 ∧ sK S_2 y_6 = 5 ∧
(((sI S_2 y_6 2) ≤ (25 : Int32) → ∃ y_8 : Nat, sR S_2 a0 4 = some y_8 ∧ wM D S_2 y_8 ∧ sK S_2 y_8 = 21 ∧
((¬ (Int32.ofNat (sN S_2 y_8)) = 0 → wp_X2_workOut_65 D post bc bs S_2 a0 x1) ∧
 ((Int32.ofNat (sN S_2 y_8)) = 0 → ¬ (125000 : Int32) < 0 ∧ ((125000 : Int32)).toNatClampNeg ≤ 1000000 ∧ 1 ≤ bc ∧ ((125000 : Int32)).toNatClampNeg ≤ bs ∧ ∀ y_10 : Nat, ¬ wM D S_2 y_10 → ∀ S_11 : wS, S_11 = nA S_2 y_10 21 ((125000 : Int32)).toNatClampNeg →
∀ S_13 : wS, S_13 = uR S_11 a0 4 (some y_10) →
¬ (31250 : Int32) < 0 ∧ ((31250 : Int32)).toNatClampNeg ≤ 1000000 ∧ 1 ≤ (bc - 1) ∧ ((31250 : Int32)).toNatClampNeg ≤ (bs - ((125000 : Int32)).toNatClampNeg) ∧ ∀ y_14 : Nat, ¬ wM D S_13 y_14 → ∀ S_15 : wS, S_15 = nA S_13 y_14 21 ((31250 : Int32)).toNatClampNeg →
∀ S_17 : wS, S_17 = uR S_15 a0 5 (some y_14) →
¬ (15625 : Int32) < 0 ∧ ((15625 : Int32)).toNatClampNeg ≤ 1000000 ∧ 1 ≤ ((bc - 1) - 1) ∧ ((15625 : Int32)).toNatClampNeg ≤ ((bs - ((125000 : Int32)).toNatClampNeg) - ((31250 : Int32)).toNatClampNeg) ∧ ∀ y_18 : Nat, ¬ wM D S_17 y_18 → ∀ S_19 : wS, S_19 = nA S_17 y_18 21 ((15625 : Int32)).toNatClampNeg →
∀ S_21 : wS, S_21 = uR S_19 a0 6 (some y_18) →
wp_X2_workOut_65 D post (((bc - 1) - 1) - 1) (((bs - ((125000 : Int32)).toNatClampNeg) - ((31250 : Int32)).toNatClampNeg) - ((15625 : Int32)).toNatClampNeg) S_21 a0 x1))) ∧
 (¬ (sI S_2 y_6 2) ≤ (25 : Int32) → wp_X2_workOut_30 D post bc bs S_2))))))))) S a0 x1
abbrev r_X2_workOut (rC rS : Nat) : Room := { frames := 5, cells := rC, slots := rS, locals := 135 }
def wp_X2_workOut (D : wD) (post : wS → Prop) (bc bs : Nat) (S : wS) (a0 : Nat) (x1 : Int32) : Prop := wp_X2_workOut_0 D post bc bs S a0 x1
set_option maxHeartbeats 4000000 in
set_option maxRecDepth 100000 in
theorem t_X2_workOut_175 {p : Program} {l : Launch} {e : Env} {s : State} {m : MethodId} {args : Array Value} {below : List Frame} {meth : Method} {c : Code} {D : wD} {cy : Nat → ClassId} {X : va_W} {A : Nat → Prop} {S0 : wS} {rC rS : Nat} {post : wS → Prop} (F : CallFix p m c cX2_workOut 3 s args wz_X2_workOut RX2) (hr : meth.sig.returnType = none) (hlocks : meth.locks = false) (hK : wK D cy A s) : ∀ {bc bs cells slots : Nat} (hbc : cells + bc ≤ rC) (hbs : slots + bs ≤ rS) {S : wS} {H : Heap} {locs : List Loc} {ls : Array Slot} {b0 : Nat} {t1 : Int32} {t2 : Int32}, wp_X2_workOut_175 D post bc bs S b0 t1 t2 → wO D cy X A s.heap S H locs → wX D S0 S → lv_has ls 3 [] → wM D S b0 → sK S b0 = 21 → W p l e (r_X2_workOut rC rS) s m args below meth c H locs cells slots (MQ below (va_Qv (fun S9 => wX D S0 S9 ∧ post S9) (wB D cy X A) A) args s rC rS A) (F0 m 175 ls [.int t2, .int t1, .ref b0]) := by
  obtain ⟨hx, hb, hml, hown, hts⟩ := id F
  have hwg : ∀ w ∈ WG, w.before args s = true := fun w h => hts w (List.mem_cons_of_mem _ h)
  intro bc bs cells slots hbc hbs S H locs ls b0 t1 t2 hp hW hE hl hL_b0 hK_b0
  unfold wp_X2_workOut_175 at hp
  obtain ⟨h_1m, h_1, hp⟩ := hp
  refine w_ist F hK hW h_1m hK_b0 h_1 dX2_workOut_175 (fun H locs hW => ?_)
  obtain ⟨S_2, eS_2⟩ : ∃ z : wS, z = uI S b0 (t1).toNatClampNeg t2 := ⟨_, rfl⟩
  rw [← eS_2] at hW
  replace hp := hp S_2 eS_2
  have hX_S_2 : wX D S S_2 := by rw [eS_2]; exact wX_uI
  have hE := hE.trans hX_S_2
  refine W.widen (k := rC) (n := rS) (Nat.le_trans (Nat.le_add_right _ _) hbc) (Nat.le_trans (Nat.le_add_right _ _) hbs) ?_
  exact w_vret hx hb hr hlocks hW ⟨hE, hp⟩ dX2_workOut_176
set_option maxHeartbeats 4000000 in
set_option maxRecDepth 100000 in
theorem t_X2_workOut_174 {p : Program} {l : Launch} {e : Env} {s : State} {m : MethodId} {args : Array Value} {below : List Frame} {meth : Method} {c : Code} {D : wD} {cy : Nat → ClassId} {X : va_W} {A : Nat → Prop} {S0 : wS} {rC rS : Nat} {post : wS → Prop} (F : CallFix p m c cX2_workOut 3 s args wz_X2_workOut RX2) (hr : meth.sig.returnType = none) (hlocks : meth.locks = false) (hK : wK D cy A s) : ∀ {bc bs cells slots : Nat} (hbc : cells + bc ≤ rC) (hbs : slots + bs ≤ rS) {S : wS} {H : Heap} {locs : List Loc} {ls : Array Slot} {b0 : Nat} {t1 : Int32}, wp_X2_workOut_174 D post bc bs S b0 t1 → wO D cy X A s.heap S H locs → wX D S0 S → lv_has ls 3 [] → wM D S b0 → sK S b0 = 21 → W p l e (r_X2_workOut rC rS) s m args below meth c H locs cells slots (MQ below (va_Qv (fun S9 => wX D S0 S9 ∧ post S9) (wB D cy X A) A) args s rC rS A) (F0 m 174 ls [.int t1, .ref b0]) := by
  obtain ⟨hx, hb, hml, hown, hts⟩ := id F
  have hwg : ∀ w ∈ WG, w.before args s = true := fun w h => hts w (List.mem_cons_of_mem _ h)
  intro bc bs cells slots hbc hbs S H locs ls b0 t1 hp hW hE hl hL_b0 hK_b0
  unfold wp_X2_workOut_174 at hp
  refine lv_iconst (v := (-1)) hx hb dX2_workOut_174 (by decide) ?_
  exact t_X2_workOut_175 F hr hlocks hK hbc hbs hp hW hE (lv_sub hl [] rfl) hL_b0 hK_b0
set_option maxHeartbeats 4000000 in
set_option maxRecDepth 100000 in
theorem t_X2_workOut_118 {p : Program} {l : Launch} {e : Env} {s : State} {m : MethodId} {args : Array Value} {below : List Frame} {meth : Method} {c : Code} {D : wD} {cy : Nat → ClassId} {X : va_W} {A : Nat → Prop} {S0 : wS} {rC rS : Nat} {post : wS → Prop} (F : CallFix p m c cX2_workOut 3 s args wz_X2_workOut RX2) (hr : meth.sig.returnType = none) (hlocks : meth.locks = false) (hK : wK D cy A s) : ∀ {bc bs cells slots : Nat} (hbc : cells + bc ≤ rC) (hbs : slots + bs ≤ rS) {S : wS} {H : Heap} {locs : List Loc} {ls : Array Slot} {a0 : Nat} {x1 : Int32}, wp_X2_workOut_118 D post bc bs S a0 x1 → wO D cy X A s.heap S H locs → wX D S0 S → lv_has ls 3 [(0, .ref a0), (1, .int x1)] → wM D S a0 → sK S a0 = 7 → W p l e (r_X2_workOut rC rS) s m args below meth c H locs cells slots (MQ below (va_Qv (fun S9 => wX D S0 S9 ∧ post S9) (wB D cy X A) A) args s rC rS A) (F0 m 118 ls []) := by
  obtain ⟨hx, hb, hml, hown, hts⟩ := id F
  have hwg : ∀ w ∈ WG, w.before args s = true := fun w h => hts w (List.mem_cons_of_mem _ h)
  have i_7 : ∀ w ∈ u_ws RX2 TX2 8, w ∈ wz_X2_workOut := fun w h => List.mem_cons_of_mem _ (wu_7 w h)
  have k_11 := hwg _ wf_RX2_11
  have k_15 := hwg _ wf_RX2_15
  have k_19 := hwg _ wf_RX2_19
  have k_25 := hwg _ wf_RX2_25
  have k_31 := hwg _ wf_RX2_31
  intro bc bs cells slots hbc hbs S H locs ls a0 x1 hp hW hE hl hL_a0 hK_a0
  unfold wp_X2_workOut_118 at hp
  refine lv_aload_n hx hb dX2_workOut_118 rfl (lv_at hl 0 rfl) ?_
  obtain ⟨y_1, ey_1, hL_y_1, hK_y_1, hp⟩ := hp
  refine w_get (k := 7) (f := 1) (T := TX2) (v := .ref y_1) F hK hW hL_a0 hK_a0 (by decide) rfl rfl (by decide) i_7 k_11 (by rw [show wv 7 1 S a0 = va_rf (sR S a0 1) from rfl, ey_1]; rfl) dX2_workOut_119 ?_
  refine lv_iload_n hx hb dX2_workOut_122 rfl (lv_at hl 1 rfl) ?_
  refine lv_iconst (v := 1) hx hb dX2_workOut_123 (by decide) ?_
  obtain ⟨h_2m, h_2, hp⟩ := hp
  refine w_zst F hK hW h_2m hK_y_1 h_2 dX2_workOut_124 (fun H locs hW => ?_)
  obtain ⟨S_3, eS_3⟩ : ∃ z : wS, z = uI S y_1 (x1).toNatClampNeg (vp_nar .boolean (1 : Int32)) := ⟨_, rfl⟩
  rw [← eS_3] at hW
  replace hp := hp S_3 eS_3
  have hX_S_3 : wX D S S_3 := by rw [eS_3]; exact wX_uI
  have hE := hE.trans hX_S_3
  have hK_a0 : sK S_3 a0 = 7 := (hX_S_3.2 a0 hL_a0).1.trans hK_a0
  have hL_a0 : wM D S_3 a0 := hX_S_3.M hL_a0
  refine lv_aload_n hx hb dX2_workOut_125 rfl (lv_at hl 0 rfl) ?_
  obtain ⟨y_4, ey_4, hL_y_4, hK_y_4, hp⟩ := hp
  refine w_get (k := 7) (f := 2) (T := TX2) (v := .ref y_4) F hK hW hL_a0 hK_a0 (by decide) rfl rfl (by decide) i_7 k_15 (by rw [show wv 7 2 S_3 a0 = va_rf (sR S_3 a0 2) from rfl, ey_4]; rfl) dX2_workOut_126 ?_
  refine lv_iload_n hx hb dX2_workOut_129 rfl (lv_at hl 1 rfl) ?_
  refine lv_aload_n hx hb dX2_workOut_130 rfl (lv_at hl 0 rfl) ?_
  refine w_get (k := 7) (f := 7) (T := TX2) (v := .int (sI S_3 a0 7)) F hK hW hL_a0 hK_a0 (by decide) rfl rfl (by decide) i_7 k_31 rfl dX2_workOut_131 ?_
  obtain ⟨h_5m, h_5, hp⟩ := hp
  refine w_ist F hK hW h_5m hK_y_4 h_5 dX2_workOut_134 (fun H locs hW => ?_)
  obtain ⟨S_6, eS_6⟩ : ∃ z : wS, z = uI S_3 y_4 (x1).toNatClampNeg (sI S_3 a0 7) := ⟨_, rfl⟩
  rw [← eS_6] at hW
  replace hp := hp S_6 eS_6
  have hX_S_6 : wX D S_3 S_6 := by rw [eS_6]; exact wX_uI
  have hE := hE.trans hX_S_6
  have hK_a0 : sK S_6 a0 = 7 := (hX_S_6.2 a0 hL_a0).1.trans hK_a0
  have hL_a0 : wM D S_6 a0 := hX_S_6.M hL_a0
  refine lv_aload_n hx hb dX2_workOut_135 rfl (lv_at hl 0 rfl) ?_
  refine w_get (k := 7) (f := 7) (T := TX2) (v := .int (sI S_6 a0 7)) F hK hW hL_a0 hK_a0 (by decide) rfl rfl (by decide) i_7 k_31 rfl dX2_workOut_136 ?_
  refine lv_iconst (v := 1) hx hb dX2_workOut_139 (by decide) ?_
  refine lv_isub hx hb dX2_workOut_140 ?_
  refine lv_topi (fun x_7 ex_7 => ?_)
  replace hp := hp x_7 ex_7
  refine lv_istore_n (lv' := [(2, .int x_7), (0, .ref a0), (1, .int x1)]) hx hb dX2_workOut_141 rfl hl (by decide) rfl (fun ls hl => ?_)
  refine lv_aload_n hx hb dX2_workOut_142 rfl (lv_at hl 1 rfl) ?_
  obtain ⟨y_8, ey_8, hL_y_8, hK_y_8, hp⟩ := hp
  refine w_get (k := 7) (f := 3) (T := TX2) (v := .ref y_8) F hK hW hL_a0 hK_a0 (by decide) rfl rfl (by decide) i_7 k_19 (by rw [show wv 7 3 S_6 a0 = va_rf (sR S_6 a0 3) from rfl, ey_8]; rfl) dX2_workOut_143 ?_
  refine lv_iload_n hx hb dX2_workOut_146 rfl (lv_at hl 2 rfl) ?_
  refine lv_iload_n hx hb dX2_workOut_147 rfl (lv_at hl 0 rfl) ?_
  refine lv_if_lt (tgt := 174) hx hb dX2_workOut_148 (by decide) (fun c_9 => ?_) (fun c_9 => ?_)
  · replace hp := hp.1 c_9
    exact t_X2_workOut_174 F hr hlocks hK hbc hbs hp hW hE (lv_sub hl [] rfl) hL_y_8 hK_y_8
  · replace hp := hp.2 c_9
    refine lv_iload_n hx hb dX2_workOut_151 rfl (lv_at hl 0 rfl) ?_
    refine lv_aload_n hx hb dX2_workOut_152 rfl (lv_at hl 1 rfl) ?_
    obtain ⟨y_10, ey_10, hL_y_10, hK_y_10, hp⟩ := hp
    refine w_get (k := 7) (f := 5) (T := TX2) (v := .ref y_10) F hK hW hL_a0 hK_a0 (by decide) rfl rfl (by decide) i_7 k_25 (by rw [show wv 7 5 S_6 a0 = va_rf (sR S_6 a0 5) from rfl, ey_10]; rfl) dX2_workOut_153 ?_
    refine w_len F hK hW hL_y_10 hK_y_10 (by decide) dX2_workOut_156 ?_
    refine lv_icmp_ge (tgt := 174) hx hb dX2_workOut_157 (by decide) (fun c_11 => ?_) (fun c_11 => ?_)
    · replace hp := hp.1 c_11
      exact t_X2_workOut_174 F hr hlocks hK hbc hbs hp hW hE (lv_sub hl [] rfl) hL_y_8 hK_y_8
    · replace hp := hp.2 c_11
      refine lv_aload_n hx hb dX2_workOut_160 rfl (lv_at hl 1 rfl) ?_
      refine lv_iload_n hx hb dX2_workOut_161 rfl (lv_at hl 2 rfl) ?_
      refine lv_aload_n hx hb dX2_workOut_162 rfl (lv_at hl 1 rfl) ?_
      obtain ⟨y_12, ey_12, hL_y_12, hK_y_12, hp⟩ := hp
      refine w_get (k := 7) (f := 5) (T := TX2) (v := .ref y_12) F hK hW hL_a0 hK_a0 (by decide) rfl rfl (by decide) i_7 k_25 (by rw [show wv 7 5 S_6 a0 = va_rf (sR S_6 a0 5) from rfl, ey_12]; rfl) dX2_workOut_163 ?_
      refine lv_iload_n hx hb dX2_workOut_166 rfl (lv_at hl 0 rfl) ?_
      obtain ⟨h_13, hp⟩ := hp
      refine w_ild F hK hW hL_y_12 hK_y_12 h_13 dX2_workOut_167 ?_
      refine w_callI (va_runV (As := [.int x1, .int (sI S_6 y_12 (x_7).toNatClampNeg)]) (rest := [.int x1, .ref y_8]) F (c_X2_valueAt l hL_a0 hK_a0 hp H.size) (cwV (C := RX2) 2 hts (wg_V wm_RX2_100 wy_X2_valueAt) rfl rfl rfl (by decide +kernel) ⟨Nat.le_of_ble_eq_true rfl, Nat.le_of_ble_eq_true rfl⟩) (w_preV hK hW hL_a0 hK_a0 (by decide) rfl) rfl rfl hl.1 rfl (lv_room (Nat.le_of_ble_eq_true rfl)) dX2_workOut_168 ⟨by show _ ≤ rC; exact Nat.le_trans (Nat.le_add_right _ _) hbc, by show _ ≤ rS; exact Nat.le_trans (Nat.le_add_right _ _) hbs⟩) hW (fun r_14 S_15 H locs hp hW => ?_)
      obtain ⟨hX_S_15, hp⟩ := hp
      refine w_same ?_
      have hE := hE.trans hX_S_15
      have hK_a0 : sK S_15 a0 = 7 := (hX_S_15.2 a0 hL_a0).1.trans hK_a0
      have hL_a0 : wM D S_15 a0 := hX_S_15.M hL_a0
      have hK_y_8 : sK S_15 y_8 = 21 := (hX_S_15.2 y_8 hL_y_8).1.trans hK_y_8
      have hL_y_8 : wM D S_15 y_8 := hX_S_15.M hL_y_8
      refine lv_goto (tgt := 175) hx hb dX2_workOut_171 (by decide) ?_
      exact t_X2_workOut_175 F hr hlocks hK hbc hbs hp hW hE (lv_sub hl [] rfl) hL_y_8 hK_y_8
set_option maxHeartbeats 4000000 in
set_option maxRecDepth 100000 in
theorem t_X2_workOut_84 {p : Program} {l : Launch} {e : Env} {s : State} {m : MethodId} {args : Array Value} {below : List Frame} {meth : Method} {c : Code} {D : wD} {cy : Nat → ClassId} {X : va_W} {A : Nat → Prop} {S0 : wS} {rC rS : Nat} {post : wS → Prop} (F : CallFix p m c cX2_workOut 3 s args wz_X2_workOut RX2) (hr : meth.sig.returnType = none) (hlocks : meth.locks = false) (hK : wK D cy A s) : ∀ (n : Nat) {bc bs cells slots : Nat} (hbc : cells + bc ≤ rC) (hbs : slots + bs ≤ rS) {S : wS} {H : Heap} {locs : List Loc} {ls : Array Slot} {a0 : Nat} {x1 : Int32} {x2 : Int32}, wp_X2_workOut_84 D post n bc bs S a0 x1 x2 → wO D cy X A s.heap S H locs → wX D S0 S → lv_has ls 3 [(0, .ref a0), (1, .int x1), (2, .int x2)] → wM D S a0 → sK S a0 = 7 → W p l e (r_X2_workOut rC rS) s m args below meth c H locs cells slots (MQ below (va_Qv (fun S9 => wX D S0 S9 ∧ post S9) (wB D cy X A) A) args s rC rS A) (F0 m 84 ls []) := by
  obtain ⟨hx, hb, hml, hown, hts⟩ := id F
  have hwg : ∀ w ∈ WG, w.before args s = true := fun w h => hts w (List.mem_cons_of_mem _ h)
  have i_7 : ∀ w ∈ u_ws RX2 TX2 8, w ∈ wz_X2_workOut := fun w h => List.mem_cons_of_mem _ (wu_7 w h)
  have k_25 := hwg _ wf_RX2_25
  have k_31 := hwg _ wf_RX2_31
  intro n
  induction n with
  | zero =>
    intro bc bs cells slots hbc hbs S H locs ls a0 x1 x2 hp
    exact hp.elim
  | succ n ih =>
    intro bc bs cells slots hbc hbs S H locs ls a0 x1 x2 hp hW hE hl hL_a0 hK_a0
    unfold wp_X2_workOut_84 at hp
    refine lv_iload_n hx hb dX2_workOut_84 rfl (lv_at hl 2 rfl) ?_
    refine lv_aload_n hx hb dX2_workOut_85 rfl (lv_at hl 0 rfl) ?_
    refine w_get (k := 7) (f := 7) (T := TX2) (v := .int (sI S a0 7)) F hK hW hL_a0 hK_a0 (by decide) rfl rfl (by decide) i_7 k_31 rfl dX2_workOut_86 ?_
    refine lv_icmp_ge (tgt := 118) hx hb dX2_workOut_89 (by decide) (fun c_1 => ?_) (fun c_1 => ?_)
    · replace hp := hp.1 c_1
      exact t_X2_workOut_118 F hr hlocks hK hbc hbs hp hW hE (lv_sub hl [0, 1] rfl) hL_a0 hK_a0
    · replace hp := hp.2 c_1
      refine lv_iload_n hx hb dX2_workOut_92 rfl (lv_at hl 2 rfl) ?_
      refine lv_aload_n hx hb dX2_workOut_93 rfl (lv_at hl 0 rfl) ?_
      obtain ⟨y_2, ey_2, hL_y_2, hK_y_2, hp⟩ := hp
      refine w_get (k := 7) (f := 5) (T := TX2) (v := .ref y_2) F hK hW hL_a0 hK_a0 (by decide) rfl rfl (by decide) i_7 k_25 (by rw [show wv 7 5 S a0 = va_rf (sR S a0 5) from rfl, ey_2]; rfl) dX2_workOut_94 ?_
      refine w_len F hK hW hL_y_2 hK_y_2 (by decide) dX2_workOut_97 ?_
      refine lv_icmp_ge (tgt := 118) hx hb dX2_workOut_98 (by decide) (fun c_3 => ?_) (fun c_3 => ?_)
      · replace hp := hp.1 c_3
        exact t_X2_workOut_118 F hr hlocks hK hbc hbs hp hW hE (lv_sub hl [0, 1] rfl) hL_a0 hK_a0
      · replace hp := hp.2 c_3
        refine lv_aload_n hx hb dX2_workOut_101 rfl (lv_at hl 0 rfl) ?_
        refine lv_iload_n hx hb dX2_workOut_102 rfl (lv_at hl 1 rfl) ?_
        refine lv_aload_n hx hb dX2_workOut_103 rfl (lv_at hl 0 rfl) ?_
        obtain ⟨y_4, ey_4, hL_y_4, hK_y_4, hp⟩ := hp
        refine w_get (k := 7) (f := 5) (T := TX2) (v := .ref y_4) F hK hW hL_a0 hK_a0 (by decide) rfl rfl (by decide) i_7 k_25 (by rw [show wv 7 5 S a0 = va_rf (sR S a0 5) from rfl, ey_4]; rfl) dX2_workOut_104 ?_
        refine lv_iload_n hx hb dX2_workOut_107 rfl (lv_at hl 2 rfl) ?_
        obtain ⟨h_5, hp⟩ := hp
        refine w_ild F hK hW hL_y_4 hK_y_4 h_5 dX2_workOut_108 ?_
        refine w_callV (va_runV (As := [.int x1, .int (sI S y_4 (x2).toNatClampNeg)]) (rest := []) F (c_X2_stepBack l hL_a0 hK_a0 hp H.size) (cwV (C := RX2) 2 hts (wg_V wm_RX2_114 wy_X2_stepBack) rfl rfl rfl (by decide +kernel) ⟨Nat.le_of_ble_eq_true rfl, Nat.le_of_ble_eq_true rfl⟩) (w_preV hK hW hL_a0 hK_a0 (by decide) rfl) rfl rfl hl.1 rfl (lv_room (Nat.le_of_ble_eq_true rfl)) dX2_workOut_109 ⟨by show _ ≤ rC; exact Nat.le_trans (Nat.le_add_right _ _) hbc, by show _ ≤ rS; exact Nat.le_trans (Nat.le_add_right _ _) hbs⟩) hW (fun S_7 H locs hp hW => ?_)
        obtain ⟨hX_S_7, hp⟩ := hp
        refine w_same ?_
        have hE := hE.trans hX_S_7
        have hK_a0 : sK S_7 a0 = 7 := (hX_S_7.2 a0 hL_a0).1.trans hK_a0
        have hL_a0 : wM D S_7 a0 := hX_S_7.M hL_a0
        obtain ⟨x_8, ex_8⟩ : ∃ z : Int32, z = x2 + 1 := ⟨_, rfl⟩
        replace hp := hp x_8 ex_8
        refine lv_iinc (v := x_8) (lv' := [(2, .int x_8), (0, .ref a0), (1, .int x1)]) hx hb dX2_workOut_112 hl (k := 2) rfl (by rw [ex_8]; rfl) (by decide) rfl (fun ls hl => ?_)
        refine lv_goto (tgt := 84) hx hb dX2_workOut_115 (by decide) ?_
        exact ih hbc hbs hp hW hE (lv_sub hl [1, 2, 0] rfl) hL_a0 hK_a0
set_option maxHeartbeats 4000000 in
set_option maxRecDepth 100000 in
theorem t_X2_workOut_65 {p : Program} {l : Launch} {e : Env} {s : State} {m : MethodId} {args : Array Value} {below : List Frame} {meth : Method} {c : Code} {D : wD} {cy : Nat → ClassId} {X : va_W} {A : Nat → Prop} {S0 : wS} {rC rS : Nat} {post : wS → Prop} (F : CallFix p m c cX2_workOut 3 s args wz_X2_workOut RX2) (hr : meth.sig.returnType = none) (hlocks : meth.locks = false) (hK : wK D cy A s) : ∀ {bc bs cells slots : Nat} (hbc : cells + bc ≤ rC) (hbs : slots + bs ≤ rS) {S : wS} {H : Heap} {locs : List Loc} {ls : Array Slot} {a0 : Nat} {x1 : Int32}, wp_X2_workOut_65 D post bc bs S a0 x1 → wO D cy X A s.heap S H locs → wX D S0 S → lv_has ls 3 [(0, .ref a0), (1, .int x1)] → wM D S a0 → sK S a0 = 7 → W p l e (r_X2_workOut rC rS) s m args below meth c H locs cells slots (MQ below (va_Qv (fun S9 => wX D S0 S9 ∧ post S9) (wB D cy X A) A) args s rC rS A) (F0 m 65 ls []) := by
  obtain ⟨hx, hb, hml, hown, hts⟩ := id F
  have hwg : ∀ w ∈ WG, w.before args s = true := fun w h => hts w (List.mem_cons_of_mem _ h)
  have i_7 : ∀ w ∈ u_ws RX2 TX2 8, w ∈ wz_X2_workOut := fun w h => List.mem_cons_of_mem _ (wu_7 w h)
  have k_31 := hwg _ wf_RX2_31
  intro bc bs cells slots hbc hbs S H locs ls a0 x1 hp hW hE hl hL_a0 hK_a0
  unfold wp_X2_workOut_65 at hp
  refine lv_aload_n hx hb dX2_workOut_65 rfl (lv_at hl 0 rfl) ?_
  refine lv_iconst (v := 0) hx hb dX2_workOut_66 (by decide) ?_
  refine w_putI (k := 7) (f := 7) (T := TX2) F hK hW hL_a0 hK_a0 (by decide) (by decide) rfl rfl (by decide) i_7 tyX2 tyX2_ok nmX2 k_31 rfl rfl (ty := .int) rfl rfl rfl dX2_workOut_67 (fun H locs hW => ?_)
  obtain ⟨S_1, eS_1⟩ : ∃ z : wS, z = uI S a0 7 (0 : Int32) := ⟨_, rfl⟩
  rw [← eS_1] at hW
  replace hp := hp S_1 eS_1
  have hX_S_1 : wX D S S_1 := by rw [eS_1]; exact wX_uI
  have hE := hE.trans hX_S_1
  have hK_a0 : sK S_1 a0 = 7 := (hX_S_1.2 a0 hL_a0).1.trans hK_a0
  have hL_a0 : wM D S_1 a0 := hX_S_1.M hL_a0
  refine lv_aload_n hx hb dX2_workOut_70 rfl (lv_at hl 0 rfl) ?_
  refine lv_iload_n hx hb dX2_workOut_71 rfl (lv_at hl 1 rfl) ?_
  refine lv_iconst (v := 1) hx hb dX2_workOut_72 (by decide) ?_
  refine w_callV (va_runV (As := [.int x1, .int (1 : Int32)]) (rest := []) F (c_X2_forEachPlace l hL_a0 hK_a0 hp H.size) (cwV (C := RX2) 2 hts (wg_V wm_RX2_110 wy_X2_forEachPlace) rfl rfl rfl (by decide +kernel) ⟨Nat.le_of_ble_eq_true rfl, Nat.le_of_ble_eq_true rfl⟩) (w_preV hK hW hL_a0 hK_a0 (by decide) rfl) rfl rfl hl.1 rfl (lv_room (Nat.le_of_ble_eq_true rfl)) dX2_workOut_73 ⟨by show _ ≤ rC; exact Nat.le_trans (Nat.le_add_right _ _) hbc, by show _ ≤ rS; exact Nat.le_trans (Nat.le_add_right _ _) hbs⟩) hW (fun S_3 H locs hp hW => ?_)
  obtain ⟨hX_S_3, hp⟩ := hp
  refine w_same ?_
  have hE := hE.trans hX_S_3
  have hK_a0 : sK S_3 a0 = 7 := (hX_S_3.2 a0 hL_a0).1.trans hK_a0
  have hL_a0 : wM D S_3 a0 := hX_S_3.M hL_a0
  refine lv_aload_n hx hb dX2_workOut_76 rfl (lv_at hl 0 rfl) ?_
  refine lv_iload_n hx hb dX2_workOut_77 rfl (lv_at hl 1 rfl) ?_
  refine lv_iconst (v := 0) hx hb dX2_workOut_78 (by decide) ?_
  refine w_callV (va_runV (As := [.int x1, .int (0 : Int32)]) (rest := []) F (c_X2_forEachPlace l hL_a0 hK_a0 hp H.size) (cwV (C := RX2) 2 hts (wg_V wm_RX2_110 wy_X2_forEachPlace) rfl rfl rfl (by decide +kernel) ⟨Nat.le_of_ble_eq_true rfl, Nat.le_of_ble_eq_true rfl⟩) (w_preV hK hW hL_a0 hK_a0 (by decide) rfl) rfl rfl hl.1 rfl (lv_room (Nat.le_of_ble_eq_true rfl)) dX2_workOut_79 ⟨by show _ ≤ rC; exact Nat.le_trans (Nat.le_add_right _ _) hbc, by show _ ≤ rS; exact Nat.le_trans (Nat.le_add_right _ _) hbs⟩) hW (fun S_5 H locs hp hW => ?_)
  obtain ⟨hX_S_5, hp⟩ := hp
  refine w_same ?_
  have hE := hE.trans hX_S_5
  have hK_a0 : sK S_5 a0 = 7 := (hX_S_5.2 a0 hL_a0).1.trans hK_a0
  have hL_a0 : wM D S_5 a0 := hX_S_5.M hL_a0
  refine lv_iconst (v := 0) hx hb dX2_workOut_82 (by decide) ?_
  refine lv_istore_n (lv' := [(2, .int (0 : Int32)), (0, .ref a0), (1, .int x1)]) hx hb dX2_workOut_83 rfl hl (by decide) rfl (fun ls hl => ?_)
  obtain ⟨n_6, hp⟩ := hp
  exact t_X2_workOut_84 F hr hlocks hK n_6 hbc hbs hp hW hE (lv_sub hl [1, 2, 0] rfl) hL_a0 hK_a0
set_option maxHeartbeats 4000000 in
set_option maxRecDepth 100000 in
theorem t_X2_workOut_30 {p : Program} {l : Launch} {e : Env} {s : State} {m : MethodId} {args : Array Value} {below : List Frame} {meth : Method} {c : Code} {D : wD} {cy : Nat → ClassId} {X : va_W} {A : Nat → Prop} {S0 : wS} {rC rS : Nat} {post : wS → Prop} (F : CallFix p m c cX2_workOut 3 s args wz_X2_workOut RX2) (hr : meth.sig.returnType = none) (hlocks : meth.locks = false) (hK : wK D cy A s) : ∀ {bc bs cells slots : Nat} (hbc : cells + bc ≤ rC) (hbs : slots + bs ≤ rS) {S : wS} {H : Heap} {locs : List Loc} {ls : Array Slot}, wp_X2_workOut_30 D post bc bs S → wO D cy X A s.heap S H locs → wX D S0 S → lv_has ls 3 [] → W p l e (r_X2_workOut rC rS) s m args below meth c H locs cells slots (MQ below (va_Qv (fun S9 => wX D S0 S9 ∧ post S9) (wB D cy X A) A) args s rC rS A) (F0 m 30 ls []) := by
  obtain ⟨hx, hb, hml, hown, hts⟩ := id F
  have hwg : ∀ w ∈ WG, w.before args s = true := fun w h => hts w (List.mem_cons_of_mem _ h)
  intro bc bs cells slots hbc hbs S H locs ls hp hW hE hl
  unfold wp_X2_workOut_30 at hp
  refine W.widen (k := rC) (n := rS) (Nat.le_trans (Nat.le_add_right _ _) hbc) (Nat.le_trans (Nat.le_add_right _ _) hbs) ?_
  exact w_vret hx hb hr hlocks hW ⟨hE, hp⟩ dX2_workOut_30
set_option maxHeartbeats 4000000 in
set_option maxRecDepth 100000 in
theorem t_X2_workOut_0 {p : Program} {l : Launch} {e : Env} {s : State} {m : MethodId} {args : Array Value} {below : List Frame} {meth : Method} {c : Code} {D : wD} {cy : Nat → ClassId} {X : va_W} {A : Nat → Prop} {S0 : wS} {rC rS : Nat} {post : wS → Prop} (F : CallFix p m c cX2_workOut 3 s args wz_X2_workOut RX2) (hr : meth.sig.returnType = none) (hlocks : meth.locks = false) (hK : wK D cy A s) : ∀ {bc bs cells slots : Nat} (hbc : cells + bc ≤ rC) (hbs : slots + bs ≤ rS) {S : wS} {H : Heap} {locs : List Loc} {ls : Array Slot} {a0 : Nat} {x1 : Int32}, wp_X2_workOut_0 D post bc bs S a0 x1 → wO D cy X A s.heap S H locs → wX D S0 S → lv_has ls 3 [(0, .ref a0), (1, .int x1)] → wM D S a0 → sK S a0 = 7 → W p l e (r_X2_workOut rC rS) s m args below meth c H locs cells slots (MQ below (va_Qv (fun S9 => wX D S0 S9 ∧ post S9) (wB D cy X A) A) args s rC rS A) (F0 m 0 ls []) := by
  obtain ⟨hx, hb, hml, hown, hts⟩ := id F
  have hwg : ∀ w ∈ WG, w.before args s = true := fun w h => hts w (List.mem_cons_of_mem _ h)
  have i_5 : ∀ w ∈ u_ws RX0 TX0 12, w ∈ wz_X2_workOut := fun w h => List.mem_cons_of_mem _ (wu_5 w h)
  have i_7 : ∀ w ∈ u_ws RX2 TX2 8, w ∈ wz_X2_workOut := fun w h => List.mem_cons_of_mem _ (wu_7 w h)
  have k_22 := hwg _ wf_RX2_22
  have k_25 := hwg _ wf_RX2_25
  have k_28 := hwg _ wf_RX2_28
  have k_35 := hwg _ wf_RX2_35
  intro bc bs cells slots hbc hbs S H locs ls a0 x1 hp hW hE hl hL_a0 hK_a0
  unfold wp_X2_workOut_0 at hp
  refine lv_aload_n hx hb dX2_workOut_0 rfl (lv_at hl 0 rfl) ?_
  refine lv_iload_n hx hb dX2_workOut_1 rfl (lv_at hl 1 rfl) ?_
  refine w_callI (va_runV (As := [.int x1]) (rest := []) F (c_X2_isWorkedOut l hL_a0 hK_a0 hp H.size) (cwV (C := RX2) 1 hts (wg_V wm_RX2_45 wy_X2_isWorkedOut) rfl rfl rfl (by decide +kernel) ⟨Nat.le_of_ble_eq_true rfl, Nat.le_of_ble_eq_true rfl⟩) (w_preV hK hW hL_a0 hK_a0 (by decide) rfl) rfl rfl hl.1 rfl (lv_room (Nat.le_of_ble_eq_true rfl)) dX2_workOut_2 ⟨by show _ ≤ rC; exact Nat.le_trans (Nat.le_add_right _ _) hbc, by show _ ≤ rS; exact Nat.le_trans (Nat.le_add_right _ _) hbs⟩) hW (fun r_1 S_2 H locs hp hW => ?_)
  obtain ⟨hX_S_2, hp⟩ := hp
  refine w_same ?_
  have hE := hE.trans hX_S_2
  have hK_a0 : sK S_2 a0 = 7 := (hX_S_2.2 a0 hL_a0).1.trans hK_a0
  have hL_a0 : wM D S_2 a0 := hX_S_2.M hL_a0
  refine lv_if_ne (tgt := 30) hx hb dX2_workOut_5 (by decide) (fun c_3 => ?_) (fun c_3 => ?_)
  · replace hp := hp.1 c_3
    exact t_X2_workOut_30 F hr hlocks hK hbc hbs hp hW hE (lv_sub hl [] rfl)
  · replace hp := hp.2 c_3
    refine lv_iload_n hx hb dX2_workOut_8 rfl (lv_at hl 1 rfl) ?_
    refine lv_iconst (v := 2) hx hb dX2_workOut_9 (by decide) ?_
    refine lv_icmp_lt (tgt := 30) hx hb dX2_workOut_10 (by decide) (fun c_4 => ?_) (fun c_4 => ?_)
    · replace hp := hp.1 c_4
      exact t_X2_workOut_30 F hr hlocks hK hbc hbs hp hW hE (lv_sub hl [] rfl)
    · replace hp := hp.2 c_4
      refine lv_iload_n hx hb dX2_workOut_13 rfl (lv_at hl 1 rfl) ?_
      refine lv_iconst (v := 5) hx hb dX2_workOut_14 (by decide) ?_
      refine lv_icmp_gt (tgt := 30) hx hb dX2_workOut_15 (by decide) (fun c_5 => ?_) (fun c_5 => ?_)
      · replace hp := hp.1 c_5
        exact t_X2_workOut_30 F hr hlocks hK hbc hbs hp hW hE (lv_sub hl [] rfl)
      · replace hp := hp.2 c_5
        refine lv_aload_n hx hb dX2_workOut_18 rfl (lv_at hl 0 rfl) ?_
        obtain ⟨y_6, ey_6, hL_y_6, hK_y_6, hp⟩ := hp
        refine w_get (k := 7) (f := 0) (T := TX2) (v := .ref y_6) F hK hW hL_a0 hK_a0 (by decide) rfl rfl (by decide) i_7 k_35 (by rw [show wv 7 0 S_2 a0 = va_rf (sR S_2 a0 0) from rfl, ey_6]; rfl) dX2_workOut_19 ?_
        refine w_getN (k := 5) (f := 2) (T := TX0) (v := .int (sI S_2 y_6 2)) F hK hW hL_y_6 hK_y_6 (by decide) rfl rfl (by decide) i_5 (hK.2.1 (.fieldLinkNest "OpeningsCabinet$Endings" 104 "OpeningsCabinet$Board" "size" "I" "OpeningsCabinet") (by decide +kernel)) rfl dX2_workOut_22 ?_
        refine lv_bipush (v := 25) hx hb dX2_workOut_25 (by decide) ?_
        refine lv_icmp_le (tgt := 31) hx hb dX2_workOut_27 (by decide) (fun c_7 => ?_) (fun c_7 => ?_)
        · replace hp := hp.1 c_7
          refine lv_aload_n hx hb dX2_workOut_31 rfl (lv_at hl 0 rfl) ?_
          obtain ⟨y_8, ey_8, hL_y_8, hK_y_8, hp⟩ := hp
          refine w_get (k := 7) (f := 4) (T := TX2) (v := .ref y_8) F hK hW hL_a0 hK_a0 (by decide) rfl rfl (by decide) i_7 k_22 (by rw [show wv 7 4 S_2 a0 = va_rf (sR S_2 a0 4) from rfl, ey_8]; rfl) dX2_workOut_32 ?_
          refine w_len F hK hW hL_y_8 hK_y_8 (by decide) dX2_workOut_35 ?_
          refine lv_if_ne (tgt := 65) hx hb dX2_workOut_36 (by decide) (fun c_9 => ?_) (fun c_9 => ?_)
          · replace hp := hp.1 c_9
            exact t_X2_workOut_65 F hr hlocks hK hbc hbs hp hW hE (lv_sub hl [0, 1] rfl) hL_a0 hK_a0
          · replace hp := hp.2 c_9
            refine lv_aload_n hx hb dX2_workOut_39 rfl (lv_at hl 0 rfl) ?_
            refine lv_ldc hx hb hown (v := 125000) (hwg _ wI_RX2_109) dX2_workOut_40 ?_
            obtain ⟨h_12, h_12b, h_12c, h_12d, hp⟩ := hp
            refine w_newaI F hK hW (hwg _ wr_int) h_12 h_12b (by show _ ≤ rC; omega) (by show _ ≤ rS; omega) dX2_workOut_42 (fun y_10 H hq_y_10 hW => ?_)
            replace hbc := w_spend hbc (show 1 ≤ bc by omega)
            replace hbs := w_spend hbs (show ((125000 : Int32)).toNatClampNeg ≤ bs by omega)
            obtain ⟨S_11, eS_11⟩ : ∃ z : wS, z = nA S_2 y_10 21 ((125000 : Int32)).toNatClampNeg := ⟨_, rfl⟩
            rw [← eS_11] at hW
            replace hp := hp y_10 hq_y_10 S_11 eS_11
            have hX_S_11 : wX D S_2 S_11 := by rw [eS_11]; exact wX_nA hq_y_10
            have hE := hE.trans hX_S_11
            have hK_a0 : sK S_11 a0 = 7 := (hX_S_11.2 a0 hL_a0).1.trans hK_a0
            have hL_a0 : wM D S_11 a0 := hX_S_11.M hL_a0
            have hL_y_10 : wM D S_11 y_10 := by rw [eS_11]; exact Or.inl (List.mem_append_right _ List.mem_cons_self)
            have hK_y_10 : sK S_11 y_10 = 21 := by rw [eS_11]; exact va_up_self _ _ _
            refine w_putR (k := 7) (f := 4) (T := TX2) (g := (some y_10)) F hK hW hL_a0 hK_a0 (by decide) (by decide) rfl rfl (by decide) i_7 tyX2 tyX2_ok nmX2 k_22 rfl rfl (ty := (.array .int)) rfl (v_narrow _ _) (v_fitsA _ _) dX2_workOut_44 (fun H locs hW => ?_)
            obtain ⟨S_13, eS_13⟩ : ∃ z : wS, z = uR S_11 a0 4 (some y_10) := ⟨_, rfl⟩
            rw [← eS_13] at hW
            replace hp := hp S_13 eS_13
            have hX_S_13 : wX D S_11 S_13 := by rw [eS_13]; exact wX_uR
            have hE := hE.trans hX_S_13
            have hK_a0 : sK S_13 a0 = 7 := (hX_S_13.2 a0 hL_a0).1.trans hK_a0
            have hL_a0 : wM D S_13 a0 := hX_S_13.M hL_a0
            refine lv_aload_n hx hb dX2_workOut_47 rfl (lv_at hl 0 rfl) ?_
            refine lv_sipush (v := 31250) hx hb dX2_workOut_48 (by decide) ?_
            obtain ⟨h_16, h_16b, h_16c, h_16d, hp⟩ := hp
            refine w_newaI F hK hW (hwg _ wr_int) h_16 h_16b (by show _ ≤ rC; omega) (by show _ ≤ rS; omega) dX2_workOut_51 (fun y_14 H hq_y_14 hW => ?_)
            replace hbc := w_spend hbc (show 1 ≤ (bc - 1) by omega)
            replace hbs := w_spend hbs (show ((31250 : Int32)).toNatClampNeg ≤ (bs - ((125000 : Int32)).toNatClampNeg) by omega)
            obtain ⟨S_15, eS_15⟩ : ∃ z : wS, z = nA S_13 y_14 21 ((31250 : Int32)).toNatClampNeg := ⟨_, rfl⟩
            rw [← eS_15] at hW
            replace hp := hp y_14 hq_y_14 S_15 eS_15
            have hX_S_15 : wX D S_13 S_15 := by rw [eS_15]; exact wX_nA hq_y_14
            have hE := hE.trans hX_S_15
            have hK_a0 : sK S_15 a0 = 7 := (hX_S_15.2 a0 hL_a0).1.trans hK_a0
            have hL_a0 : wM D S_15 a0 := hX_S_15.M hL_a0
            have hL_y_14 : wM D S_15 y_14 := by rw [eS_15]; exact Or.inl (List.mem_append_right _ List.mem_cons_self)
            have hK_y_14 : sK S_15 y_14 = 21 := by rw [eS_15]; exact va_up_self _ _ _
            refine w_putR (k := 7) (f := 5) (T := TX2) (g := (some y_14)) F hK hW hL_a0 hK_a0 (by decide) (by decide) rfl rfl (by decide) i_7 tyX2 tyX2_ok nmX2 k_25 rfl rfl (ty := (.array .int)) rfl (v_narrow _ _) (v_fitsA _ _) dX2_workOut_53 (fun H locs hW => ?_)
            obtain ⟨S_17, eS_17⟩ : ∃ z : wS, z = uR S_15 a0 5 (some y_14) := ⟨_, rfl⟩
            rw [← eS_17] at hW
            replace hp := hp S_17 eS_17
            have hX_S_17 : wX D S_15 S_17 := by rw [eS_17]; exact wX_uR
            have hE := hE.trans hX_S_17
            have hK_a0 : sK S_17 a0 = 7 := (hX_S_17.2 a0 hL_a0).1.trans hK_a0
            have hL_a0 : wM D S_17 a0 := hX_S_17.M hL_a0
            refine lv_aload_n hx hb dX2_workOut_56 rfl (lv_at hl 0 rfl) ?_
            refine lv_sipush (v := 15625) hx hb dX2_workOut_57 (by decide) ?_
            obtain ⟨h_20, h_20b, h_20c, h_20d, hp⟩ := hp
            refine w_newaI F hK hW (hwg _ wr_int) h_20 h_20b (by show _ ≤ rC; omega) (by show _ ≤ rS; omega) dX2_workOut_60 (fun y_18 H hq_y_18 hW => ?_)
            replace hbc := w_spend hbc (show 1 ≤ ((bc - 1) - 1) by omega)
            replace hbs := w_spend hbs (show ((15625 : Int32)).toNatClampNeg ≤ ((bs - ((125000 : Int32)).toNatClampNeg) - ((31250 : Int32)).toNatClampNeg) by omega)
            obtain ⟨S_19, eS_19⟩ : ∃ z : wS, z = nA S_17 y_18 21 ((15625 : Int32)).toNatClampNeg := ⟨_, rfl⟩
            rw [← eS_19] at hW
            replace hp := hp y_18 hq_y_18 S_19 eS_19
            have hX_S_19 : wX D S_17 S_19 := by rw [eS_19]; exact wX_nA hq_y_18
            have hE := hE.trans hX_S_19
            have hK_a0 : sK S_19 a0 = 7 := (hX_S_19.2 a0 hL_a0).1.trans hK_a0
            have hL_a0 : wM D S_19 a0 := hX_S_19.M hL_a0
            have hL_y_18 : wM D S_19 y_18 := by rw [eS_19]; exact Or.inl (List.mem_append_right _ List.mem_cons_self)
            have hK_y_18 : sK S_19 y_18 = 21 := by rw [eS_19]; exact va_up_self _ _ _
            refine w_putR (k := 7) (f := 6) (T := TX2) (g := (some y_18)) F hK hW hL_a0 hK_a0 (by decide) (by decide) rfl rfl (by decide) i_7 tyX2 tyX2_ok nmX2 k_28 rfl rfl (ty := (.array .int)) rfl (v_narrow _ _) (v_fitsA _ _) dX2_workOut_62 (fun H locs hW => ?_)
            obtain ⟨S_21, eS_21⟩ : ∃ z : wS, z = uR S_19 a0 6 (some y_18) := ⟨_, rfl⟩
            rw [← eS_21] at hW
            replace hp := hp S_21 eS_21
            have hX_S_21 : wX D S_19 S_21 := by rw [eS_21]; exact wX_uR
            have hE := hE.trans hX_S_21
            have hK_a0 : sK S_21 a0 = 7 := (hX_S_21.2 a0 hL_a0).1.trans hK_a0
            have hL_a0 : wM D S_21 a0 := hX_S_21.M hL_a0
            exact t_X2_workOut_65 F hr hlocks hK hbc hbs hp hW hE (lv_sub hl [0, 1] rfl) hL_a0 hK_a0
        · replace hp := hp.2 c_7
          exact t_X2_workOut_30 F hr hlocks hK hbc hbs hp hW hE (lv_sub hl [] rfl)
set_option maxHeartbeats 4000000 in
set_option maxRecDepth 100000 in
theorem c_X2_workOut (l : Launch) {rC rS : Nat} {D : wD} {cy : Nat → ClassId} {X : va_W} {S0 : wS} {post : wS → Prop} {a0 : Nat} {x1 : Int32} (hL_a0 : wM D S0 a0) (hK_a0 : sK S0 a0 = 7) (hp : wp_X2_workOut D post rC rS S0 a0 x1) : mV D cy X l yX2_workOut wz_X2_workOut (r_X2_workOut rC rS) [.ref a0, .int x1] S0 (fun S9 => wX D S0 S9 ∧ post S9) := by
  intro sz
  refine Met.ofW (cc := cX2_workOut) (maxL := 3) (ret := none) (by decide) rfl ?_
  intro p e s m args below meth c s₁ B hml hv
  obtain ⟨rfl, hsz, hP, hK, hD0, hRO⟩ := hv
  have hts := atoms_spec (ws := wz_X2_workOut) B.pre
  have hown : s.vm.findClass RX2 = some m.cls := findClass_of_methodNamed B.named
  subst hsz
  have hD := hD0.self (sz := s.heap.size)
  have F : CallFix p m c cX2_workOut 3 s _ wz_X2_workOut RX2 := ⟨B.exec, B.bytes, hml, hown, hts⟩
  have hr := B.returns
  have hlocks := B.notSynchronized
  generalize hAe : va_A (wL cy X S0) s.heap.size = A at hD hK ⊢
  have hA : ∀ q, s.heap.size ≤ q → A q := fun q h => by rw [← hAe]; exact Or.inr h
  have hW : wO D cy X A s.heap S0 s.heap [] := ⟨hP, hD, va_S.rf, hA, hRO⟩
  have hl := lv_entry ([.ref a0, .int x1]) (n := 3) (Nat.le_of_ble_eq_true rfl)
  rw [lg_entry_eq]
  generalize (lg_sl ([.ref a0, .int x1]) ++ List.replicate (3 - (lg_sl ([.ref a0, .int x1])).length) Slot.unset).toArray = ls at hl ⊢
  have hl : lv_has ls 3 [(0, .ref a0), (1, .int x1)] := hl
  unfold wp_X2_workOut at hp
  exact t_X2_workOut_0 F hr hlocks hK (Nat.le_of_eq (Nat.zero_add _)) (Nat.le_of_eq (Nat.zero_add _)) hp hW wX.rf (lv_sub hl [0, 1] rfl) hL_a0 hK_a0
def wp_X11_solve_0 (D : wD) (post : Int32 → wS → Prop) (xp : String → wS → Prop)  (bc bs : Nat) (S : wS) (a0 : Nat) (x1 : Int32) : Prop :=
1 ≤ bc ∧ 6 ≤ bs ∧
wp_X11_mustBeEndingKind D (fun S_2 => 
∃ y_4 : Nat, sR S_2 a0 0 = some y_4 ∧ wM D S_2 y_4 ∧ sK S_2 y_4 = 5 ∧
(((sI S_2 y_4 2) ≤ (25 : Int32) → ∃ y_6 : Nat, sR S_2 a0 12 = some y_6 ∧ wM D S_2 y_6 ∧ sK S_2 y_6 = 7 ∧
∃ m_9 z_10 : Nat, m_9 ≤ (bc - 1) ∧ z_10 ≤ (bs - 6) ∧
wp_X2_workOut D (fun S_8 => 
∃ y_11 : Nat, sR S_8 a0 12 = some y_11 ∧ wM D S_8 y_11 ∧ sK S_8 y_11 = 7 ∧
wp_X2_winsOf D (fun r_12 S_13 => 
post r_12 S_13) S_8 y_11 x1) m_9 z_10 S_2 y_6 x1) ∧
 (¬ (sI S_2 y_4 2) ≤ (25 : Int32) → 1 ≤ (bc - 1) ∧ 6 ≤ (bs - 6) ∧
xp "java/lang/IllegalStateException" S_2))) xp S x1
abbrev r_X11_solve (rC rS : Nat) : Room := { frames := 7, cells := rC, slots := rS, locals := 157 }
def wp_X11_solve (D : wD) (post : Int32 → wS → Prop) (xp : String → wS → Prop) (bc bs : Nat) (S : wS) (a0 : Nat) (x1 : Int32) : Prop := wp_X11_solve_0 D post xp bc bs S a0 x1
set_option maxHeartbeats 4000000 in
set_option maxRecDepth 100000 in
theorem t_X11_solve_0 {p : Program} {l : Launch} {e : Env} {s : State} {m : MethodId} {args : Array Value} {below : List Frame} {meth : Method} {c : Code} {D : wD} {cy : Nat → ClassId} {X : va_W} {A : Nat → Prop} {S0 : wS} {rC rS : Nat} {post : Int32 → wS → Prop} {xp : String → wS → Prop} (F : CallFix p m c cX11_solve 2 s args wz_X11_solve RX11) (hr : meth.sig.returnType = (some .int)) (hlocks : meth.locks = false) (hK : wK D cy A s) (hl0 : l.stackTraces = false) (hexc : ∀ x ∈ c.exceptionTable.toList, False) : ∀ {bc bs cells slots : Nat} (hbc : cells + bc ≤ rC) (hbs : slots + bs ≤ rS) {S : wS} {H : Heap} {locs : List Loc} {ls : Array Slot} {a0 : Nat} {x1 : Int32}, wp_X11_solve_0 D post xp bc bs S a0 x1 → wO D cy X A s.heap S H locs → wX D S0 S → lv_has ls 2 [(0, .ref a0), (1, .int x1)] → wM D S a0 → sK S a0 = 16 → W p l e (r_X11_solve rC rS) s m args below meth c H locs cells slots (vx_MQ below (va_Qi (fun r S9 => wX D S0 S9 ∧ post r S9) (wB D cy X A) A) (wEx D cy X A (fun E S9 => wX D S0 S9 ∧ xp E S9)) args s rC rS A) (F0 m 0 ls []) := by
  obtain ⟨hx, hb, hml, hown, hts⟩ := id F
  have hwg : ∀ w ∈ WG, w.before args s = true := fun w h => hts w (List.mem_cons_of_mem _ h)
  have i_16 : ∀ w ∈ u_ws RX11 TX11 18, w ∈ wz_X11_solve := fun w h => List.mem_cons_of_mem _ (wu_16 w h)
  have i_5 : ∀ w ∈ u_ws RX0 TX0 12, w ∈ wz_X11_solve := fun w h => List.mem_cons_of_mem _ (wu_5 w h)
  have k_12 := hwg _ wf_RX11_12
  have k_98 := hwg _ wf_RX11_98
  intro bc bs cells slots hbc hbs S H locs ls a0 x1 hp hW hE hl hL_a0 hK_a0
  unfold wp_X11_solve_0 at hp
  refine lv_iload_n hx hb dX11_solve_0 rfl (lv_at hl 1 rfl) ?_
  obtain ⟨h_3, h_3z, hp⟩ := hp
  refine x_callV (vx_runS (As := [.int x1]) (rest := []) F (c_X11_mustBeEndingKind l hl0 hp H.size) (va_cwS 1 hts (wg_S wm_RX11_446 wy_X11_mustBeEndingKind) rfl rfl rfl (by decide +kernel) ⟨Nat.le_of_ble_eq_true rfl, Nat.le_of_ble_eq_true rfl⟩) (w_preS hK hW) rfl rfl hl.1 rfl (lv_room (Nat.le_of_ble_eq_true rfl)) dX11_solve_1 ⟨by show _ + 1 ≤ rC; omega, by show _ + 6 ≤ rS; omega⟩) hW (fun E ce q9 S9 H locs hp hW h1 h2 h3 => x_out hexc hlocks ⟨hE.trans hp.1, hp.2⟩ hW h1 h2 h3 (by show _ + 1 ≤ rC; omega) (by show _ + 6 ≤ rS; omega)) (fun S_2 H locs hp hW => ?_)
  obtain ⟨hX_S_2, hp⟩ := hp
  refine W.widen (k := _ + 1) (n := _ + 6) (Nat.le_refl _) (Nat.le_refl _) ?_
  replace hbc := w_spend hbc (show 1 ≤ bc by omega)
  replace hbs := w_spend hbs (show 6 ≤ bs by omega)
  have hE := hE.trans hX_S_2
  have hK_a0 : sK S_2 a0 = 16 := (hX_S_2.2 a0 hL_a0).1.trans hK_a0
  have hL_a0 : wM D S_2 a0 := hX_S_2.M hL_a0
  refine lv_aload_n hx hb dX11_solve_4 rfl (lv_at hl 0 rfl) ?_
  obtain ⟨y_4, ey_4, hL_y_4, hK_y_4, hp⟩ := hp
  refine w_get (k := 16) (f := 0) (T := TX11) (v := .ref y_4) F hK hW hL_a0 hK_a0 (by decide) rfl rfl (by decide) i_16 k_12 (by rw [show wv 16 0 S_2 a0 = va_rf (sR S_2 a0 0) from rfl, ey_4]; rfl) dX11_solve_5 ?_
  refine w_getN (k := 5) (f := 2) (T := TX0) (v := .int (sI S_2 y_4 2)) F hK hW hL_y_4 hK_y_4 (by decide) rfl rfl (by decide) i_5 (hK.2.1 (.fieldLinkNest "OpeningsCabinet" 154 "OpeningsCabinet$Board" "size" "I" "OpeningsCabinet") (by decide +kernel)) rfl dX11_solve_8 ?_
  refine lv_bipush (v := 25) hx hb dX11_solve_11 (by decide) ?_
  refine lv_icmp_le (tgt := 27) hx hb dX11_solve_13 (by decide) (fun c_5 => ?_) (fun c_5 => ?_)
  · replace hp := hp.1 c_5
    refine lv_aload_n hx hb dX11_solve_27 rfl (lv_at hl 0 rfl) ?_
    obtain ⟨y_6, ey_6, hL_y_6, hK_y_6, hp⟩ := hp
    refine w_get (k := 16) (f := 12) (T := TX11) (v := .ref y_6) F hK hW hL_a0 hK_a0 (by decide) rfl rfl (by decide) i_16 k_98 (by rw [show wv 16 12 S_2 a0 = va_rf (sR S_2 a0 12) from rfl, ey_6]; rfl) dX11_solve_28 ?_
    refine lv_iload_n hx hb dX11_solve_31 rfl (lv_at hl 1 rfl) ?_
    obtain ⟨m_9, z_10, hm_9, hz_10, hp⟩ := hp
    refine w_callV (va_runV (As := [.int x1]) (rest := []) F (c_X2_workOut l hL_y_6 hK_y_6 hp H.size) (cwV (C := RX2) 1 hts (wg_V wm_RX11_451 wy_X2_workOut) rfl rfl rfl (by decide +kernel) ⟨Nat.le_of_ble_eq_true rfl, Nat.le_of_ble_eq_true rfl⟩) (w_preV hK hW hL_y_6 hK_y_6 (by decide) rfl) rfl rfl hl.1 rfl (lv_room (Nat.le_of_ble_eq_true rfl)) dX11_solve_32 ⟨by show _ + m_9 ≤ rC; omega, by show _ + z_10 ≤ rS; omega⟩) hW (fun S_8 H locs hp hW => ?_)
    obtain ⟨hX_S_8, hp⟩ := hp
    refine W.widen (k := _ + m_9) (n := _ + z_10) (Nat.le_refl _) (Nat.le_refl _) ?_
    replace hbc := w_spend hbc (show m_9 ≤ (bc - 1) by omega)
    replace hbs := w_spend hbs (show z_10 ≤ (bs - 6) by omega)
    have hE := hE.trans hX_S_8
    have hK_a0 : sK S_8 a0 = 16 := (hX_S_8.2 a0 hL_a0).1.trans hK_a0
    have hL_a0 : wM D S_8 a0 := hX_S_8.M hL_a0
    refine lv_aload_n hx hb dX11_solve_35 rfl (lv_at hl 0 rfl) ?_
    obtain ⟨y_11, ey_11, hL_y_11, hK_y_11, hp⟩ := hp
    refine w_get (k := 16) (f := 12) (T := TX11) (v := .ref y_11) F hK hW hL_a0 hK_a0 (by decide) rfl rfl (by decide) i_16 k_98 (by rw [show wv 16 12 S_8 a0 = va_rf (sR S_8 a0 12) from rfl, ey_11]; rfl) dX11_solve_36 ?_
    refine lv_iload_n hx hb dX11_solve_39 rfl (lv_at hl 1 rfl) ?_
    refine w_callI (va_runV (As := [.int x1]) (rest := []) F (c_X2_winsOf l hL_y_11 hK_y_11 hp H.size) (cwV (C := RX2) 1 hts (wg_V wm_RX11_454 wy_X2_winsOf) rfl rfl rfl (by decide +kernel) ⟨Nat.le_of_ble_eq_true rfl, Nat.le_of_ble_eq_true rfl⟩) (w_preV hK hW hL_y_11 hK_y_11 (by decide) rfl) rfl rfl hl.1 rfl (lv_room (Nat.le_of_ble_eq_true rfl)) dX11_solve_40 ⟨by show _ ≤ rC; exact Nat.le_trans (Nat.le_add_right _ _) hbc, by show _ ≤ rS; exact Nat.le_trans (Nat.le_add_right _ _) hbs⟩) hW (fun r_12 S_13 H locs hp hW => ?_)
    obtain ⟨hX_S_13, hp⟩ := hp
    refine w_same ?_
    have hE := hE.trans hX_S_13
    have hK_a0 : sK S_13 a0 = 16 := (hX_S_13.2 a0 hL_a0).1.trans hK_a0
    have hL_a0 : wM D S_13 a0 := hX_S_13.M hL_a0
    refine W.widen (k := rC) (n := rS) (Nat.le_trans (Nat.le_add_right _ _) hbc) (Nat.le_trans (Nat.le_add_right _ _) hbs) ?_
    refine vx_ret ?_
    exact w_iret hx hb hr hlocks hW ⟨hE, hp⟩ dX11_solve_43
  · replace hp := hp.2 c_5
    obtain ⟨hm1, hm2, hp⟩ := hp
    exact x_throwW (ls := ls) F hK hW hl0 (by decide) (hwg _ wc_RX11_285) (hwg _ wi_java_lang_IllegalStateException) (show ("OpeningsCabinet", 449, "the board has more than 25 squares", 43) ∈ wStr by decide +kernel) (wa_RX11_289 hwg hK.2.1) wa_RX11_289_ok hl.1 hexc hlocks dX11_solve_16 dX11_solve_19 dX11_solve_20 dX11_solve_23 dX11_solve_26 (Nat.le_of_ble_eq_true rfl) (Nat.le_of_ble_eq_true rfl) (by show _ ≤ rC; omega) (by show _ ≤ rS; omega) (by omega) (by omega) ⟨hE, hp⟩
set_option maxHeartbeats 4000000 in
set_option maxRecDepth 100000 in
theorem c_X11_solve (l : Launch) {rC rS : Nat} {D : wD} {cy : Nat → ClassId} {X : va_W} {S0 : wS} {post : Int32 → wS → Prop} {xp : String → wS → Prop} (hl0 : l.stackTraces = false) {a0 : Nat} {x1 : Int32} (hL_a0 : wM D S0 a0) (hK_a0 : sK S0 a0 = 16) (hp : wp_X11_solve D post xp rC rS S0 a0 x1) : xI D cy X l yX11_solve wz_X11_solve (r_X11_solve rC rS) [.ref a0, .int x1] S0 (fun r S9 => wX D S0 S9 ∧ post r S9) (fun E S9 => wX D S0 S9 ∧ xp E S9) := by
  intro sz
  refine vx_ofW (cc := cX11_solve) (maxL := 2) (ret := (some .int)) (by decide) rfl ?_
  intro p e s m args below meth c s₁ B hml hexc hv
  obtain ⟨rfl, hsz, hP, hK, hD0, hRO⟩ := hv
  have hts := atoms_spec (ws := wz_X11_solve) B.pre
  have hown : s.vm.findClass RX11 = some m.cls := findClass_of_methodNamed B.named
  subst hsz
  have hD := hD0.self (sz := s.heap.size)
  have F : CallFix p m c cX11_solve 2 s _ wz_X11_solve RX11 := ⟨B.exec, B.bytes, hml, hown, hts⟩
  have hr := B.returns
  have hlocks := B.notSynchronized
  generalize hAe : va_A (wL cy X S0) s.heap.size = A at hD hK ⊢
  have hA : ∀ q, s.heap.size ≤ q → A q := fun q h => by rw [← hAe]; exact Or.inr h
  have hW : wO D cy X A s.heap S0 s.heap [] := ⟨hP, hD, va_S.rf, hA, hRO⟩
  have hl := lv_entry ([.ref a0, .int x1]) (n := 2) (Nat.le_of_ble_eq_true rfl)
  rw [lg_entry_eq]
  generalize (lg_sl ([.ref a0, .int x1]) ++ List.replicate (2 - (lg_sl ([.ref a0, .int x1])).length) Slot.unset).toArray = ls at hl ⊢
  have hl : lv_has ls 2 [(0, .ref a0), (1, .int x1)] := hl
  unfold wp_X11_solve at hp
  exact t_X11_solve_0 F hr hlocks hK hl0 hexc (Nat.le_of_eq (Nat.zero_add _)) (Nat.le_of_eq (Nat.zero_add _)) hp hW wX.rf (lv_sub hl [0, 1] rfl) hL_a0 hK_a0
def wp_X11_type_133 (D : wD) (post : Int32 → wS → Prop) (xp : String → wS → Prop) (k_101 : Nat → Nat → wS → Nat → Int64 → Int32 → Prop) (bc bs : Nat) (S : wS) (a0 : Nat) (x1 : Int64) (x4 : Int32) : Prop :=
∀ x_1 : Int32, x_1 = x4 + (-8) →
k_101 bc bs S a0 x1 x_1
def wp_X11_type_101 (D : wD) (post : Int32 → wS → Prop) (xp : String → wS → Prop)  : Nat → Nat → Nat → wS → Nat → Int64 → Int32 → Prop
  | 0, _, _, _, _, _, _ => False
  | n + 1, bc, bs, S, a0, x1, x4 =>
    ((x4 < 0 → ∃ y_2 : Nat, sR S a0 13 = some y_2 ∧ wM D S y_2 ∧ sK S y_2 = 1 ∧
    wp_J4_length_8abf5 D (fun r_3 S_4 => 
    post r_3 S_4) S y_2) ∧
     (¬ x4 < 0 → ∀ x_5 : Int32, x_5 = (ji2c (Int64.toInt32 ((jlushr x1 x4) &&& (255 : Int64)))) →
    ((x_5 = 0 → wp_X11_type_133 D post xp (wp_X11_type_101 D post xp n) bc bs S a0 x1 x4) ∧
     (¬ x_5 = 0 → ∃ y_7 : Nat, sR S a0 13 = some y_7 ∧ wM D S y_7 ∧ sK S y_7 = 1 ∧
    ∃ m_10 z_11 : Nat, m_10 ≤ bc ∧ z_11 ≤ bs ∧
    wp_J4_append_cf468 D (fun r_8 S_9 => 
    wp_X11_type_133 D post xp (wp_X11_type_101 D post xp n) (bc - m_10) (bs - z_11) S_9 a0 x1 x4) m_10 z_11 S y_7 x_5))))
def wp_X11_type_63 (D : wD) (post : Int32 → wS → Prop) (xp : String → wS → Prop) (k_6 : Nat → Nat → wS → Nat → Int64 → Int32 → Int32 → Prop) (bc bs : Nat) (S : wS) (a0 : Nat) (x1 : Int64) (x4 : Int32) (t0 : Int32) (t1 : Int32) : Prop :=
∀ x_1 : Int32, x_1 = (t0 + t1) →
∀ x_2 : Int32, x_2 = x4 + (-8) →
k_6 bc bs S a0 x1 x_1 x_2
def wp_X11_type_52 (D : wD) (post : Int32 → wS → Prop) (xp : String → wS → Prop) (k_6 : Nat → Nat → wS → Nat → Int64 → Int32 → Int32 → Prop) (bc bs : Nat) (S : wS) (a0 : Nat) (x1 : Int64) (x3 : Int32) (x4 : Int32) (x5 : Int32) : Prop :=
((¬ x5 = 0 → wp_X11_type_63 D post xp k_6 bc bs S a0 x1 x4 x3 (1 : Int32)) ∧
 (x5 = 0 → wp_X11_type_63 D post xp k_6 bc bs S a0 x1 x4 x3 (0 : Int32)))
def wp_X11_type_41 (D : wD) (post : Int32 → wS → Prop) (xp : String → wS → Prop)  (bc bs : Nat) (S : wS) : Prop :=
1 ≤ bc ∧ 6 ≤ bs ∧
xp "java/lang/IllegalArgumentException" S
def wp_X11_type_6 (D : wD) (post : Int32 → wS → Prop) (xp : String → wS → Prop)  : Nat → Nat → Nat → wS → Nat → Int64 → Int32 → Int32 → Prop
  | 0, _, _, _, _, _, _, _ => False
  | n + 1, bc, bs, S, a0, x1, x3, x4 =>
    ((x4 < 0 → ∃ y_2 : Nat, sR S a0 13 = some y_2 ∧ wM D S y_2 ∧ sK S y_2 = 1 ∧
    wp_J4_length_8abf5 D (fun r_3 S_4 => 
    (((r_3 + x3) ≤ (500 : Int32) → ∃ n_6 : Nat, wp_X11_type_101 D post xp n_6 bc bs S_4 a0 x1 (56 : Int32)) ∧
     (¬ (r_3 + x3) ≤ (500 : Int32) → 1 ≤ bc ∧ 6 ≤ bs ∧
    xp "java/lang/IllegalStateException" S_4))) S y_2) ∧
     (¬ x4 < 0 → ∀ x_7 : Int32, x_7 = (Int64.toInt32 ((jlushr x1 x4) &&& (255 : Int64))) →
    ((x_7 = 0 → wp_X11_type_52 D post xp (wp_X11_type_6 D post xp n) bc bs S a0 x1 x3 x4 x_7) ∧
     (¬ x_7 = 0 → ((x_7 < (32 : Int32) → wp_X11_type_41 D post xp bc bs S) ∧
     (¬ x_7 < (32 : Int32) → ((x_7 ≤ (126 : Int32) → wp_X11_type_52 D post xp (wp_X11_type_6 D post xp n) bc bs S a0 x1 x3 x4 x_7) ∧
     (¬ x_7 ≤ (126 : Int32) → wp_X11_type_41 D post xp bc bs S))))))))
def wp_X11_type_0 (D : wD) (post : Int32 → wS → Prop) (xp : String → wS → Prop)  (bc bs : Nat) (S : wS) (a0 : Nat) (x1 : Int64) : Prop :=
∃ n_1 : Nat, wp_X11_type_6 D post xp n_1 bc bs S a0 x1 (0 : Int32) (56 : Int32)
abbrev r_X11_type (rC rS : Nat) : Room := { frames := 8, cells := rC, slots := rS, locals := 179 }
def wp_X11_type (D : wD) (post : Int32 → wS → Prop) (xp : String → wS → Prop) (bc bs : Nat) (S : wS) (a0 : Nat) (x1 : Int64) : Prop := wp_X11_type_0 D post xp bc bs S a0 x1
set_option maxHeartbeats 4000000 in
set_option maxRecDepth 100000 in
theorem t_X11_type_133 {p : Program} {l : Launch} {e : Env} {s : State} {m : MethodId} {args : Array Value} {below : List Frame} {meth : Method} {c : Code} {D : wD} {cy : Nat → ClassId} {X : va_W} {A : Nat → Prop} {S0 : wS} {rC rS : Nat} {post : Int32 → wS → Prop} {xp : String → wS → Prop} (F : CallFix p m c cX11_type 6 s args wz_X11_type RX11) (hr : meth.sig.returnType = (some .int)) (hlocks : meth.locks = false) (hK : wK D cy A s) (hl0 : l.stackTraces = false) (hexc : ∀ x ∈ c.exceptionTable.toList, False) {k_101 : Nat → Nat → wS → Nat → Int64 → Int32 → Prop} (q_101 : ∀ {bc bs cells slots : Nat} (hbc : cells + bc ≤ rC) (hbs : slots + bs ≤ rS) {S : wS} {H : Heap} {locs : List Loc} {ls : Array Slot} {a0 : Nat} {x1 : Int64} {x4 : Int32}, k_101 bc bs S a0 x1 x4 → wO D cy X A s.heap S H locs → wX D S0 S → lv_has ls 6 [(0, .ref a0), (1, .long x1), (4, .int x4)] → wM D S a0 → sK S a0 = 16 → W p l e (r_X11_type rC rS) s m args below meth c H locs cells slots (vx_MQ below (va_Qi (fun r S9 => wX D S0 S9 ∧ post r S9) (wB D cy X A) A) (wEx D cy X A (fun E S9 => wX D S0 S9 ∧ xp E S9)) args s rC rS A) (F0 m 101 ls [])) : ∀ {bc bs cells slots : Nat} (hbc : cells + bc ≤ rC) (hbs : slots + bs ≤ rS) {S : wS} {H : Heap} {locs : List Loc} {ls : Array Slot} {a0 : Nat} {x1 : Int64} {x4 : Int32}, wp_X11_type_133 D post xp k_101 bc bs S a0 x1 x4 → wO D cy X A s.heap S H locs → wX D S0 S → lv_has ls 6 [(0, .ref a0), (1, .long x1), (4, .int x4)] → wM D S a0 → sK S a0 = 16 → W p l e (r_X11_type rC rS) s m args below meth c H locs cells slots (vx_MQ below (va_Qi (fun r S9 => wX D S0 S9 ∧ post r S9) (wB D cy X A) A) (wEx D cy X A (fun E S9 => wX D S0 S9 ∧ xp E S9)) args s rC rS A) (F0 m 133 ls []) := by
  obtain ⟨hx, hb, hml, hown, hts⟩ := id F
  have hwg : ∀ w ∈ WG, w.before args s = true := fun w h => hts w (List.mem_cons_of_mem _ h)
  intro bc bs cells slots hbc hbs S H locs ls a0 x1 x4 hp hW hE hl hL_a0 hK_a0
  unfold wp_X11_type_133 at hp
  obtain ⟨x_1, ex_1⟩ : ∃ z : Int32, z = x4 + (-8) := ⟨_, rfl⟩
  replace hp := hp x_1 ex_1
  refine lv_iinc (v := x_1) (lv' := [(4, .int x_1), (0, .ref a0), (1, .long x1)]) hx hb dX11_type_133 hl (k := 2) rfl (by rw [ex_1]; rfl) (by decide) rfl (fun ls hl => ?_)
  refine lv_goto (tgt := 101) hx hb dX11_type_136 (by decide) ?_
  exact q_101 hbc hbs hp hW hE (lv_sub hl [1, 2, 0] rfl) hL_a0 hK_a0
set_option maxHeartbeats 4000000 in
set_option maxRecDepth 100000 in
theorem t_X11_type_101 {p : Program} {l : Launch} {e : Env} {s : State} {m : MethodId} {args : Array Value} {below : List Frame} {meth : Method} {c : Code} {D : wD} {cy : Nat → ClassId} {X : va_W} {A : Nat → Prop} {S0 : wS} {rC rS : Nat} {post : Int32 → wS → Prop} {xp : String → wS → Prop} (F : CallFix p m c cX11_type 6 s args wz_X11_type RX11) (hr : meth.sig.returnType = (some .int)) (hlocks : meth.locks = false) (hK : wK D cy A s) (hl0 : l.stackTraces = false) (hexc : ∀ x ∈ c.exceptionTable.toList, False) : ∀ (n : Nat) {bc bs cells slots : Nat} (hbc : cells + bc ≤ rC) (hbs : slots + bs ≤ rS) {S : wS} {H : Heap} {locs : List Loc} {ls : Array Slot} {a0 : Nat} {x1 : Int64} {x4 : Int32}, wp_X11_type_101 D post xp n bc bs S a0 x1 x4 → wO D cy X A s.heap S H locs → wX D S0 S → lv_has ls 6 [(0, .ref a0), (1, .long x1), (4, .int x4)] → wM D S a0 → sK S a0 = 16 → W p l e (r_X11_type rC rS) s m args below meth c H locs cells slots (vx_MQ below (va_Qi (fun r S9 => wX D S0 S9 ∧ post r S9) (wB D cy X A) A) (wEx D cy X A (fun E S9 => wX D S0 S9 ∧ xp E S9)) args s rC rS A) (F0 m 101 ls []) := by
  obtain ⟨hx, hb, hml, hown, hts⟩ := id F
  have hwg : ∀ w ∈ WG, w.before args s = true := fun w h => hts w (List.mem_cons_of_mem _ h)
  have i_16 : ∀ w ∈ u_ws RX11 TX11 18, w ∈ wz_X11_type := fun w h => List.mem_cons_of_mem _ (wu_16 w h)
  have k_105 := hwg _ wf_RX11_105
  intro n
  induction n with
  | zero =>
    intro bc bs cells slots hbc hbs S H locs ls a0 x1 x4 hp
    exact hp.elim
  | succ n ih =>
    intro bc bs cells slots hbc hbs S H locs ls a0 x1 x4 hp hW hE hl hL_a0 hK_a0
    unfold wp_X11_type_101 at hp
    refine lv_iload hx hb dX11_type_101 (lv_at hl 2 rfl) ?_
    refine lv_if_lt (tgt := 139) hx hb dX11_type_103 (by decide) (fun c_1 => ?_) (fun c_1 => ?_)
    · replace hp := hp.1 c_1
      refine lv_aload_n hx hb dX11_type_139 rfl (lv_at hl 0 rfl) ?_
      obtain ⟨y_2, ey_2, hL_y_2, hK_y_2, hp⟩ := hp
      refine w_get (k := 16) (f := 13) (T := TX11) (v := .ref y_2) F hK hW hL_a0 hK_a0 (by decide) rfl rfl (by decide) i_16 k_105 (by rw [show wv 16 13 S a0 = va_rf (sR S a0 13) from rfl, ey_2]; rfl) dX11_type_140 ?_
      refine w_callI (va_runV (As := []) (rest := []) F (c_J4_length_8abf5 l hL_y_2 hK_y_2 hp H.size) (cwV (C := RJ4) 0 hts (wg_V wm_RX11_232 wy_J4_length_8abf5) rfl rfl rfl (by decide +kernel) ⟨Nat.le_of_ble_eq_true rfl, Nat.le_of_ble_eq_true rfl⟩) (w_preV hK hW hL_y_2 hK_y_2 (by decide) rfl) rfl rfl hl.1 rfl (lv_room (Nat.le_of_ble_eq_true rfl)) dX11_type_143 ⟨by show _ ≤ rC; exact Nat.le_trans (Nat.le_add_right _ _) hbc, by show _ ≤ rS; exact Nat.le_trans (Nat.le_add_right _ _) hbs⟩) hW (fun r_3 S_4 H locs hp hW => ?_)
      obtain ⟨hX_S_4, hp⟩ := hp
      refine w_same ?_
      have hE := hE.trans hX_S_4
      have hK_a0 : sK S_4 a0 = 16 := (hX_S_4.2 a0 hL_a0).1.trans hK_a0
      have hL_a0 : wM D S_4 a0 := hX_S_4.M hL_a0
      refine W.widen (k := rC) (n := rS) (Nat.le_trans (Nat.le_add_right _ _) hbc) (Nat.le_trans (Nat.le_add_right _ _) hbs) ?_
      refine vx_ret ?_
      exact w_iret hx hb hr hlocks hW ⟨hE, hp⟩ dX11_type_146
    · replace hp := hp.2 c_1
      refine lv_lload_n hx hb dX11_type_106 rfl (lv_at hl 1 rfl) ?_
      refine lv_iload hx hb dX11_type_107 (lv_at hl 2 rfl) ?_
      refine lv_lushr (v := (jlushr x1 x4)) hx hb dX11_type_109 rfl ?_
      refine lv_ldc2 (v := 255) hx hb hown (hwg _ wJ_RX11_279) dX11_type_110 ?_
      refine lv_land hx hb dX11_type_113 ?_
      refine lv_l2i (v := (Int64.toInt32 ((jlushr x1 x4) &&& (255 : Int64)))) hx hb dX11_type_114 rfl ?_
      refine lv_i2c (v := (ji2c (Int64.toInt32 ((jlushr x1 x4) &&& (255 : Int64))))) hx hb dX11_type_115 rfl ?_
      refine lv_topi (fun x_5 ex_5 => ?_)
      replace hp := hp x_5 ex_5
      refine lv_istore (lv' := [(5, .int x_5), (0, .ref a0), (1, .long x1), (4, .int x4)]) hx hb dX11_type_116 hl (by decide) rfl (fun ls hl => ?_)
      refine lv_iload hx hb dX11_type_118 (lv_at hl 0 rfl) ?_
      refine lv_if_eq (tgt := 133) hx hb dX11_type_120 (by decide) (fun c_6 => ?_) (fun c_6 => ?_)
      · replace hp := hp.1 c_6
        exact t_X11_type_133 F hr hlocks hK hl0 hexc ih hbc hbs hp hW hE (lv_sub hl [1, 2, 3] rfl) hL_a0 hK_a0
      · replace hp := hp.2 c_6
        refine lv_aload_n hx hb dX11_type_123 rfl (lv_at hl 1 rfl) ?_
        obtain ⟨y_7, ey_7, hL_y_7, hK_y_7, hp⟩ := hp
        refine w_get (k := 16) (f := 13) (T := TX11) (v := .ref y_7) F hK hW hL_a0 hK_a0 (by decide) rfl rfl (by decide) i_16 k_105 (by rw [show wv 16 13 S a0 = va_rf (sR S a0 13) from rfl, ey_7]; rfl) dX11_type_124 ?_
        refine lv_iload hx hb dX11_type_127 (lv_at hl 0 rfl) ?_
        obtain ⟨m_10, z_11, hm_10, hz_11, hp⟩ := hp
        refine w_callR (va_runV (As := [.int x_5]) (rest := []) F (c_J4_append_cf468 l hL_y_7 hK_y_7 hp H.size) (cwV (C := RJ4) 1 hts (wg_V wm_RX11_281 wy_J4_append_cf468) rfl rfl rfl (by decide +kernel) ⟨Nat.le_of_ble_eq_true rfl, Nat.le_of_ble_eq_true rfl⟩) (w_preV hK hW hL_y_7 hK_y_7 (by decide) rfl) rfl rfl hl.1 rfl (lv_room (Nat.le_of_ble_eq_true rfl)) dX11_type_129 ⟨by show _ + m_10 ≤ rC; omega, by show _ + z_11 ≤ rS; omega⟩) hW (fun r_8 S_9 H locs hp hW => ?_)
        obtain ⟨hX_S_9, hp⟩ := hp
        refine W.widen (k := _ + m_10) (n := _ + z_11) (Nat.le_refl _) (Nat.le_refl _) ?_
        replace hbc := w_spend hbc (show m_10 ≤ bc by omega)
        replace hbs := w_spend hbs (show z_11 ≤ bs by omega)
        have hE := hE.trans hX_S_9
        have hK_a0 : sK S_9 a0 = 16 := (hX_S_9.2 a0 hL_a0).1.trans hK_a0
        have hL_a0 : wM D S_9 a0 := hX_S_9.M hL_a0
        refine lv_pop hx hb dX11_type_132 (by cases r_8 <;> rfl) ?_
        exact t_X11_type_133 F hr hlocks hK hl0 hexc ih hbc hbs hp hW hE (lv_sub hl [1, 2, 3] rfl) hL_a0 hK_a0
set_option maxHeartbeats 4000000 in
set_option maxRecDepth 100000 in
theorem t_X11_type_63 {p : Program} {l : Launch} {e : Env} {s : State} {m : MethodId} {args : Array Value} {below : List Frame} {meth : Method} {c : Code} {D : wD} {cy : Nat → ClassId} {X : va_W} {A : Nat → Prop} {S0 : wS} {rC rS : Nat} {post : Int32 → wS → Prop} {xp : String → wS → Prop} (F : CallFix p m c cX11_type 6 s args wz_X11_type RX11) (hr : meth.sig.returnType = (some .int)) (hlocks : meth.locks = false) (hK : wK D cy A s) (hl0 : l.stackTraces = false) (hexc : ∀ x ∈ c.exceptionTable.toList, False) {k_6 : Nat → Nat → wS → Nat → Int64 → Int32 → Int32 → Prop} (q_6 : ∀ {bc bs cells slots : Nat} (hbc : cells + bc ≤ rC) (hbs : slots + bs ≤ rS) {S : wS} {H : Heap} {locs : List Loc} {ls : Array Slot} {a0 : Nat} {x1 : Int64} {x3 : Int32} {x4 : Int32}, k_6 bc bs S a0 x1 x3 x4 → wO D cy X A s.heap S H locs → wX D S0 S → lv_has ls 6 [(0, .ref a0), (1, .long x1), (3, .int x3), (4, .int x4)] → wM D S a0 → sK S a0 = 16 → W p l e (r_X11_type rC rS) s m args below meth c H locs cells slots (vx_MQ below (va_Qi (fun r S9 => wX D S0 S9 ∧ post r S9) (wB D cy X A) A) (wEx D cy X A (fun E S9 => wX D S0 S9 ∧ xp E S9)) args s rC rS A) (F0 m 6 ls [])) : ∀ {bc bs cells slots : Nat} (hbc : cells + bc ≤ rC) (hbs : slots + bs ≤ rS) {S : wS} {H : Heap} {locs : List Loc} {ls : Array Slot} {a0 : Nat} {x1 : Int64} {x4 : Int32} {t0 : Int32} {t1 : Int32}, wp_X11_type_63 D post xp k_6 bc bs S a0 x1 x4 t0 t1 → wO D cy X A s.heap S H locs → wX D S0 S → lv_has ls 6 [(0, .ref a0), (1, .long x1), (4, .int x4)] → wM D S a0 → sK S a0 = 16 → W p l e (r_X11_type rC rS) s m args below meth c H locs cells slots (vx_MQ below (va_Qi (fun r S9 => wX D S0 S9 ∧ post r S9) (wB D cy X A) A) (wEx D cy X A (fun E S9 => wX D S0 S9 ∧ xp E S9)) args s rC rS A) (F0 m 63 ls [.int t1, .int t0]) := by
  obtain ⟨hx, hb, hml, hown, hts⟩ := id F
  have hwg : ∀ w ∈ WG, w.before args s = true := fun w h => hts w (List.mem_cons_of_mem _ h)
  intro bc bs cells slots hbc hbs S H locs ls a0 x1 x4 t0 t1 hp hW hE hl hL_a0 hK_a0
  unfold wp_X11_type_63 at hp
  refine lv_iadd hx hb dX11_type_63 ?_
  refine lv_topi (fun x_1 ex_1 => ?_)
  replace hp := hp x_1 ex_1
  refine lv_istore_n (lv' := [(3, .int x_1), (0, .ref a0), (1, .long x1), (4, .int x4)]) hx hb dX11_type_64 rfl hl (by decide) rfl (fun ls hl => ?_)
  obtain ⟨x_2, ex_2⟩ : ∃ z : Int32, z = x4 + (-8) := ⟨_, rfl⟩
  replace hp := hp x_2 ex_2
  refine lv_iinc (v := x_2) (lv' := [(4, .int x_2), (3, .int x_1), (0, .ref a0), (1, .long x1)]) hx hb dX11_type_65 hl (k := 3) rfl (by rw [ex_2]; rfl) (by decide) rfl (fun ls hl => ?_)
  refine lv_goto (tgt := 6) hx hb dX11_type_68 (by decide) ?_
  exact q_6 hbc hbs hp hW hE (lv_sub hl [2, 3, 1, 0] rfl) hL_a0 hK_a0
set_option maxHeartbeats 4000000 in
set_option maxRecDepth 100000 in
theorem t_X11_type_52 {p : Program} {l : Launch} {e : Env} {s : State} {m : MethodId} {args : Array Value} {below : List Frame} {meth : Method} {c : Code} {D : wD} {cy : Nat → ClassId} {X : va_W} {A : Nat → Prop} {S0 : wS} {rC rS : Nat} {post : Int32 → wS → Prop} {xp : String → wS → Prop} (F : CallFix p m c cX11_type 6 s args wz_X11_type RX11) (hr : meth.sig.returnType = (some .int)) (hlocks : meth.locks = false) (hK : wK D cy A s) (hl0 : l.stackTraces = false) (hexc : ∀ x ∈ c.exceptionTable.toList, False) {k_6 : Nat → Nat → wS → Nat → Int64 → Int32 → Int32 → Prop} (q_6 : ∀ {bc bs cells slots : Nat} (hbc : cells + bc ≤ rC) (hbs : slots + bs ≤ rS) {S : wS} {H : Heap} {locs : List Loc} {ls : Array Slot} {a0 : Nat} {x1 : Int64} {x3 : Int32} {x4 : Int32}, k_6 bc bs S a0 x1 x3 x4 → wO D cy X A s.heap S H locs → wX D S0 S → lv_has ls 6 [(0, .ref a0), (1, .long x1), (3, .int x3), (4, .int x4)] → wM D S a0 → sK S a0 = 16 → W p l e (r_X11_type rC rS) s m args below meth c H locs cells slots (vx_MQ below (va_Qi (fun r S9 => wX D S0 S9 ∧ post r S9) (wB D cy X A) A) (wEx D cy X A (fun E S9 => wX D S0 S9 ∧ xp E S9)) args s rC rS A) (F0 m 6 ls [])) : ∀ {bc bs cells slots : Nat} (hbc : cells + bc ≤ rC) (hbs : slots + bs ≤ rS) {S : wS} {H : Heap} {locs : List Loc} {ls : Array Slot} {a0 : Nat} {x1 : Int64} {x3 : Int32} {x4 : Int32} {x5 : Int32}, wp_X11_type_52 D post xp k_6 bc bs S a0 x1 x3 x4 x5 → wO D cy X A s.heap S H locs → wX D S0 S → lv_has ls 6 [(0, .ref a0), (1, .long x1), (3, .int x3), (4, .int x4), (5, .int x5)] → wM D S a0 → sK S a0 = 16 → W p l e (r_X11_type rC rS) s m args below meth c H locs cells slots (vx_MQ below (va_Qi (fun r S9 => wX D S0 S9 ∧ post r S9) (wB D cy X A) A) (wEx D cy X A (fun E S9 => wX D S0 S9 ∧ xp E S9)) args s rC rS A) (F0 m 52 ls []) := by
  obtain ⟨hx, hb, hml, hown, hts⟩ := id F
  have hwg : ∀ w ∈ WG, w.before args s = true := fun w h => hts w (List.mem_cons_of_mem _ h)
  intro bc bs cells slots hbc hbs S H locs ls a0 x1 x3 x4 x5 hp hW hE hl hL_a0 hK_a0
  unfold wp_X11_type_52 at hp
  refine lv_iload_n hx hb dX11_type_52 rfl (lv_at hl 2 rfl) ?_
  refine lv_iload hx hb dX11_type_53 (lv_at hl 4 rfl) ?_
  refine lv_if_ne (tgt := 62) hx hb dX11_type_55 (by decide) (fun c_1 => ?_) (fun c_1 => ?_)
  · replace hp := hp.1 c_1
    refine lv_iconst (v := 1) hx hb dX11_type_62 (by decide) ?_
    exact t_X11_type_63 F hr hlocks hK hl0 hexc q_6 hbc hbs hp hW hE (lv_sub hl [0, 1, 3] rfl) hL_a0 hK_a0
  · replace hp := hp.2 c_1
    refine lv_iconst (v := 0) hx hb dX11_type_58 (by decide) ?_
    refine lv_goto (tgt := 63) hx hb dX11_type_59 (by decide) ?_
    exact t_X11_type_63 F hr hlocks hK hl0 hexc q_6 hbc hbs hp hW hE (lv_sub hl [0, 1, 3] rfl) hL_a0 hK_a0
set_option maxHeartbeats 4000000 in
set_option maxRecDepth 100000 in
theorem t_X11_type_41 {p : Program} {l : Launch} {e : Env} {s : State} {m : MethodId} {args : Array Value} {below : List Frame} {meth : Method} {c : Code} {D : wD} {cy : Nat → ClassId} {X : va_W} {A : Nat → Prop} {S0 : wS} {rC rS : Nat} {post : Int32 → wS → Prop} {xp : String → wS → Prop} (F : CallFix p m c cX11_type 6 s args wz_X11_type RX11) (hr : meth.sig.returnType = (some .int)) (hlocks : meth.locks = false) (hK : wK D cy A s) (hl0 : l.stackTraces = false) (hexc : ∀ x ∈ c.exceptionTable.toList, False) : ∀ {bc bs cells slots : Nat} (hbc : cells + bc ≤ rC) (hbs : slots + bs ≤ rS) {S : wS} {H : Heap} {locs : List Loc} {ls : Array Slot}, wp_X11_type_41 D post xp bc bs S → wO D cy X A s.heap S H locs → wX D S0 S → lv_has ls 6 [] → W p l e (r_X11_type rC rS) s m args below meth c H locs cells slots (vx_MQ below (va_Qi (fun r S9 => wX D S0 S9 ∧ post r S9) (wB D cy X A) A) (wEx D cy X A (fun E S9 => wX D S0 S9 ∧ xp E S9)) args s rC rS A) (F0 m 41 ls []) := by
  obtain ⟨hx, hb, hml, hown, hts⟩ := id F
  have hwg : ∀ w ∈ WG, w.before args s = true := fun w h => hts w (List.mem_cons_of_mem _ h)
  intro bc bs cells slots hbc hbs S H locs ls hp hW hE hl
  unfold wp_X11_type_41 at hp
  obtain ⟨hm1, hm2, hp⟩ := hp
  exact x_throwW (ls := ls) F hK hW hl0 (by decide) (hwg _ wc_RX11_140) (hwg _ wi_java_lang_IllegalArgumentException) (show ("OpeningsCabinet", 315, "a byte of a text is 32 to 126", 24) ∈ wStr by decide +kernel) (wa_RX11_144 hwg hK.2.1) wa_RX11_144_ok hl.1 hexc hlocks dX11_type_41 dX11_type_44 dX11_type_45 dX11_type_48 dX11_type_51 (Nat.le_of_ble_eq_true rfl) (Nat.le_of_ble_eq_true rfl) (by show _ ≤ rC; omega) (by show _ ≤ rS; omega) (by omega) (by omega) ⟨hE, hp⟩
set_option maxHeartbeats 4000000 in
set_option maxRecDepth 100000 in
theorem t_X11_type_6 {p : Program} {l : Launch} {e : Env} {s : State} {m : MethodId} {args : Array Value} {below : List Frame} {meth : Method} {c : Code} {D : wD} {cy : Nat → ClassId} {X : va_W} {A : Nat → Prop} {S0 : wS} {rC rS : Nat} {post : Int32 → wS → Prop} {xp : String → wS → Prop} (F : CallFix p m c cX11_type 6 s args wz_X11_type RX11) (hr : meth.sig.returnType = (some .int)) (hlocks : meth.locks = false) (hK : wK D cy A s) (hl0 : l.stackTraces = false) (hexc : ∀ x ∈ c.exceptionTable.toList, False) : ∀ (n : Nat) {bc bs cells slots : Nat} (hbc : cells + bc ≤ rC) (hbs : slots + bs ≤ rS) {S : wS} {H : Heap} {locs : List Loc} {ls : Array Slot} {a0 : Nat} {x1 : Int64} {x3 : Int32} {x4 : Int32}, wp_X11_type_6 D post xp n bc bs S a0 x1 x3 x4 → wO D cy X A s.heap S H locs → wX D S0 S → lv_has ls 6 [(0, .ref a0), (1, .long x1), (3, .int x3), (4, .int x4)] → wM D S a0 → sK S a0 = 16 → W p l e (r_X11_type rC rS) s m args below meth c H locs cells slots (vx_MQ below (va_Qi (fun r S9 => wX D S0 S9 ∧ post r S9) (wB D cy X A) A) (wEx D cy X A (fun E S9 => wX D S0 S9 ∧ xp E S9)) args s rC rS A) (F0 m 6 ls []) := by
  obtain ⟨hx, hb, hml, hown, hts⟩ := id F
  have hwg : ∀ w ∈ WG, w.before args s = true := fun w h => hts w (List.mem_cons_of_mem _ h)
  have i_16 : ∀ w ∈ u_ws RX11 TX11 18, w ∈ wz_X11_type := fun w h => List.mem_cons_of_mem _ (wu_16 w h)
  have k_105 := hwg _ wf_RX11_105
  intro n
  induction n with
  | zero =>
    intro bc bs cells slots hbc hbs S H locs ls a0 x1 x3 x4 hp
    exact hp.elim
  | succ n ih =>
    intro bc bs cells slots hbc hbs S H locs ls a0 x1 x3 x4 hp hW hE hl hL_a0 hK_a0
    unfold wp_X11_type_6 at hp
    refine lv_iload hx hb dX11_type_6 (lv_at hl 3 rfl) ?_
    refine lv_if_lt (tgt := 71) hx hb dX11_type_8 (by decide) (fun c_1 => ?_) (fun c_1 => ?_)
    · replace hp := hp.1 c_1
      refine lv_aload_n hx hb dX11_type_71 rfl (lv_at hl 0 rfl) ?_
      obtain ⟨y_2, ey_2, hL_y_2, hK_y_2, hp⟩ := hp
      refine w_get (k := 16) (f := 13) (T := TX11) (v := .ref y_2) F hK hW hL_a0 hK_a0 (by decide) rfl rfl (by decide) i_16 k_105 (by rw [show wv 16 13 S a0 = va_rf (sR S a0 13) from rfl, ey_2]; rfl) dX11_type_72 ?_
      refine w_callI (va_runV (As := []) (rest := []) F (c_J4_length_8abf5 l hL_y_2 hK_y_2 hp H.size) (cwV (C := RJ4) 0 hts (wg_V wm_RX11_232 wy_J4_length_8abf5) rfl rfl rfl (by decide +kernel) ⟨Nat.le_of_ble_eq_true rfl, Nat.le_of_ble_eq_true rfl⟩) (w_preV hK hW hL_y_2 hK_y_2 (by decide) rfl) rfl rfl hl.1 rfl (lv_room (Nat.le_of_ble_eq_true rfl)) dX11_type_75 ⟨by show _ ≤ rC; exact Nat.le_trans (Nat.le_add_right _ _) hbc, by show _ ≤ rS; exact Nat.le_trans (Nat.le_add_right _ _) hbs⟩) hW (fun r_3 S_4 H locs hp hW => ?_)
      obtain ⟨hX_S_4, hp⟩ := hp
      refine w_same ?_
      have hE := hE.trans hX_S_4
      have hK_a0 : sK S_4 a0 = 16 := (hX_S_4.2 a0 hL_a0).1.trans hK_a0
      have hL_a0 : wM D S_4 a0 := hX_S_4.M hL_a0
      refine lv_iload_n hx hb dX11_type_78 rfl (lv_at hl 2 rfl) ?_
      refine lv_iadd hx hb dX11_type_79 ?_
      refine lv_sipush (v := 500) hx hb dX11_type_80 (by decide) ?_
      refine lv_icmp_le (tgt := 97) hx hb dX11_type_83 (by decide) (fun c_5 => ?_) (fun c_5 => ?_)
      · replace hp := hp.1 c_5
        refine lv_bipush (v := 56) hx hb dX11_type_97 (by decide) ?_
        refine lv_istore (lv' := [(4, .int (56 : Int32)), (0, .ref a0), (1, .long x1), (3, .int x3)]) hx hb dX11_type_99 hl (by decide) rfl (fun ls hl => ?_)
        obtain ⟨n_6, hp⟩ := hp
        exact t_X11_type_101 F hr hlocks hK hl0 hexc n_6 hbc hbs hp hW hE (lv_sub hl [1, 2, 0] rfl) hL_a0 hK_a0
      · replace hp := hp.2 c_5
        obtain ⟨hm1, hm2, hp⟩ := hp
        exact x_throwW (ls := ls) F hK hW hl0 (by decide) (hwg _ wc_RX11_285) (hwg _ wi_java_lang_IllegalStateException) (show ("OpeningsCabinet", 317, "a text has at most 500 bytes", 25) ∈ wStr by decide +kernel) (wa_RX11_289 hwg hK.2.1) wa_RX11_289_ok hl.1 hexc hlocks dX11_type_86 dX11_type_89 dX11_type_90 dX11_type_93 dX11_type_96 (Nat.le_of_ble_eq_true rfl) (Nat.le_of_ble_eq_true rfl) (by show _ ≤ rC; omega) (by show _ ≤ rS; omega) (by omega) (by omega) ⟨hE, hp⟩
    · replace hp := hp.2 c_1
      refine lv_lload_n hx hb dX11_type_11 rfl (lv_at hl 1 rfl) ?_
      refine lv_iload hx hb dX11_type_12 (lv_at hl 3 rfl) ?_
      refine lv_lushr (v := (jlushr x1 x4)) hx hb dX11_type_14 rfl ?_
      refine lv_ldc2 (v := 255) hx hb hown (hwg _ wJ_RX11_279) dX11_type_15 ?_
      refine lv_land hx hb dX11_type_18 ?_
      refine lv_l2i (v := (Int64.toInt32 ((jlushr x1 x4) &&& (255 : Int64)))) hx hb dX11_type_19 rfl ?_
      refine lv_topi (fun x_7 ex_7 => ?_)
      replace hp := hp x_7 ex_7
      refine lv_istore (lv' := [(5, .int x_7), (0, .ref a0), (1, .long x1), (3, .int x3), (4, .int x4)]) hx hb dX11_type_20 hl (by decide) rfl (fun ls hl => ?_)
      refine lv_iload hx hb dX11_type_22 (lv_at hl 0 rfl) ?_
      refine lv_if_eq (tgt := 52) hx hb dX11_type_24 (by decide) (fun c_8 => ?_) (fun c_8 => ?_)
      · replace hp := hp.1 c_8
        exact t_X11_type_52 F hr hlocks hK hl0 hexc ih hbc hbs hp hW hE (lv_sub hl [1, 2, 3, 4, 0] rfl) hL_a0 hK_a0
      · replace hp := hp.2 c_8
        refine lv_iload hx hb dX11_type_27 (lv_at hl 0 rfl) ?_
        refine lv_bipush (v := 32) hx hb dX11_type_29 (by decide) ?_
        refine lv_icmp_lt (tgt := 41) hx hb dX11_type_31 (by decide) (fun c_9 => ?_) (fun c_9 => ?_)
        · replace hp := hp.1 c_9
          exact t_X11_type_41 F hr hlocks hK hl0 hexc hbc hbs hp hW hE (lv_sub hl [] rfl)
        · replace hp := hp.2 c_9
          refine lv_iload hx hb dX11_type_34 (lv_at hl 0 rfl) ?_
          refine lv_bipush (v := 126) hx hb dX11_type_36 (by decide) ?_
          refine lv_icmp_le (tgt := 52) hx hb dX11_type_38 (by decide) (fun c_10 => ?_) (fun c_10 => ?_)
          · replace hp := hp.1 c_10
            exact t_X11_type_52 F hr hlocks hK hl0 hexc ih hbc hbs hp hW hE (lv_sub hl [1, 2, 3, 4, 0] rfl) hL_a0 hK_a0
          · replace hp := hp.2 c_10
            exact t_X11_type_41 F hr hlocks hK hl0 hexc hbc hbs hp hW hE (lv_sub hl [] rfl)
set_option maxHeartbeats 4000000 in
set_option maxRecDepth 100000 in
theorem t_X11_type_0 {p : Program} {l : Launch} {e : Env} {s : State} {m : MethodId} {args : Array Value} {below : List Frame} {meth : Method} {c : Code} {D : wD} {cy : Nat → ClassId} {X : va_W} {A : Nat → Prop} {S0 : wS} {rC rS : Nat} {post : Int32 → wS → Prop} {xp : String → wS → Prop} (F : CallFix p m c cX11_type 6 s args wz_X11_type RX11) (hr : meth.sig.returnType = (some .int)) (hlocks : meth.locks = false) (hK : wK D cy A s) (hl0 : l.stackTraces = false) (hexc : ∀ x ∈ c.exceptionTable.toList, False) : ∀ {bc bs cells slots : Nat} (hbc : cells + bc ≤ rC) (hbs : slots + bs ≤ rS) {S : wS} {H : Heap} {locs : List Loc} {ls : Array Slot} {a0 : Nat} {x1 : Int64}, wp_X11_type_0 D post xp bc bs S a0 x1 → wO D cy X A s.heap S H locs → wX D S0 S → lv_has ls 6 [(0, .ref a0), (1, .long x1)] → wM D S a0 → sK S a0 = 16 → W p l e (r_X11_type rC rS) s m args below meth c H locs cells slots (vx_MQ below (va_Qi (fun r S9 => wX D S0 S9 ∧ post r S9) (wB D cy X A) A) (wEx D cy X A (fun E S9 => wX D S0 S9 ∧ xp E S9)) args s rC rS A) (F0 m 0 ls []) := by
  obtain ⟨hx, hb, hml, hown, hts⟩ := id F
  have hwg : ∀ w ∈ WG, w.before args s = true := fun w h => hts w (List.mem_cons_of_mem _ h)
  intro bc bs cells slots hbc hbs S H locs ls a0 x1 hp hW hE hl hL_a0 hK_a0
  unfold wp_X11_type_0 at hp
  refine lv_iconst (v := 0) hx hb dX11_type_0 (by decide) ?_
  refine lv_istore_n (lv' := [(3, .int (0 : Int32)), (0, .ref a0), (1, .long x1)]) hx hb dX11_type_1 rfl hl (by decide) rfl (fun ls hl => ?_)
  refine lv_bipush (v := 56) hx hb dX11_type_2 (by decide) ?_
  refine lv_istore (lv' := [(4, .int (56 : Int32)), (3, .int (0 : Int32)), (0, .ref a0), (1, .long x1)]) hx hb dX11_type_4 hl (by decide) rfl (fun ls hl => ?_)
  obtain ⟨n_1, hp⟩ := hp
  exact t_X11_type_6 F hr hlocks hK hl0 hexc n_1 hbc hbs hp hW hE (lv_sub hl [2, 3, 1, 0] rfl) hL_a0 hK_a0
set_option maxHeartbeats 4000000 in
set_option maxRecDepth 100000 in
theorem c_X11_type (l : Launch) {rC rS : Nat} {D : wD} {cy : Nat → ClassId} {X : va_W} {S0 : wS} {post : Int32 → wS → Prop} {xp : String → wS → Prop} (hl0 : l.stackTraces = false) {a0 : Nat} {x1 : Int64} (hL_a0 : wM D S0 a0) (hK_a0 : sK S0 a0 = 16) (hp : wp_X11_type D post xp rC rS S0 a0 x1) : xI D cy X l yX11_type wz_X11_type (r_X11_type rC rS) [.ref a0, .long x1] S0 (fun r S9 => wX D S0 S9 ∧ post r S9) (fun E S9 => wX D S0 S9 ∧ xp E S9) := by
  intro sz
  refine vx_ofW (cc := cX11_type) (maxL := 6) (ret := (some .int)) (by decide) rfl ?_
  intro p e s m args below meth c s₁ B hml hexc hv
  obtain ⟨rfl, hsz, hP, hK, hD0, hRO⟩ := hv
  have hts := atoms_spec (ws := wz_X11_type) B.pre
  have hown : s.vm.findClass RX11 = some m.cls := findClass_of_methodNamed B.named
  subst hsz
  have hD := hD0.self (sz := s.heap.size)
  have F : CallFix p m c cX11_type 6 s _ wz_X11_type RX11 := ⟨B.exec, B.bytes, hml, hown, hts⟩
  have hr := B.returns
  have hlocks := B.notSynchronized
  generalize hAe : va_A (wL cy X S0) s.heap.size = A at hD hK ⊢
  have hA : ∀ q, s.heap.size ≤ q → A q := fun q h => by rw [← hAe]; exact Or.inr h
  have hW : wO D cy X A s.heap S0 s.heap [] := ⟨hP, hD, va_S.rf, hA, hRO⟩
  have hl := lv_entry ([.ref a0, .long x1]) (n := 6) (Nat.le_of_ble_eq_true rfl)
  rw [lg_entry_eq]
  generalize (lg_sl ([.ref a0, .long x1]) ++ List.replicate (6 - (lg_sl ([.ref a0, .long x1])).length) Slot.unset).toArray = ls at hl ⊢
  have hl : lv_has ls 6 [(0, .ref a0), (1, .long x1)] := hl
  unfold wp_X11_type at hp
  exact t_X11_type_0 F hr hlocks hK hl0 hexc (Nat.le_of_eq (Nat.zero_add _)) (Nat.le_of_eq (Nat.zero_add _)) hp hW wX.rf (lv_sub hl [0, 1] rfl) hL_a0 hK_a0
def wp_X11_writeMove_59 (D : wD) (post : Int32 → wS → Prop) (xp : String → wS → Prop) (k_27 : Nat → Nat → wS → Nat → Int64 → Int32 → Prop) (bc bs : Nat) (S : wS) (a0 : Nat) (x2 : Int64) (x4 : Int32) : Prop :=
∀ x_1 : Int32, x_1 = x4 + (-8) →
k_27 bc bs S a0 x2 x_1
def wp_X11_writeMove_27 (D : wD) (post : Int32 → wS → Prop) (xp : String → wS → Prop)  : Nat → Nat → Nat → wS → Nat → Int64 → Int32 → Prop
  | 0, _, _, _, _, _, _ => False
  | n + 1, bc, bs, S, a0, x2, x4 =>
    ((x4 < 0 → ∃ y_2 : Nat, sR S a0 14 = some y_2 ∧ wM D S y_2 ∧ sK S y_2 = 1 ∧
    wp_J4_length_8abf5 D (fun r_3 S_4 => 
    post r_3 S_4) S y_2) ∧
     (¬ x4 < 0 → ∀ x_5 : Int32, x_5 = (ji2c (Int64.toInt32 ((jlushr x2 x4) &&& (255 : Int64)))) →
    ((x_5 = 0 → wp_X11_writeMove_59 D post xp (wp_X11_writeMove_27 D post xp n) bc bs S a0 x2 x4) ∧
     (¬ x_5 = 0 → ∃ y_7 : Nat, sR S a0 14 = some y_7 ∧ wM D S y_7 ∧ sK S y_7 = 1 ∧
    ∃ m_10 z_11 : Nat, m_10 ≤ bc ∧ z_11 ≤ bs ∧
    wp_J4_append_cf468 D (fun r_8 S_9 => 
    wp_X11_writeMove_59 D post xp (wp_X11_writeMove_27 D post xp n) (bc - m_10) (bs - z_11) S_9 a0 x2 x4) m_10 z_11 S y_7 x_5))))
def wp_X11_writeMove_0 (D : wD) (post : Int32 → wS → Prop) (xp : String → wS → Prop)  (bc bs : Nat) (S : wS) (a0 : Nat) (x1 : Int32) : Prop :=
2 ≤ bc ∧ 12 ≤ bs ∧
wp_X11_codeOf D (fun r_1 S_2 => 
∃ y_4 : Nat, sR S_2 a0 5 = some y_4 ∧ wM D S_2 y_4 ∧ sK S_2 y_4 = 9 ∧
wp_X4_wordOf D (fun r_5 S_6 => 
∃ y_7 : Nat, sR S_6 a0 14 = some y_7 ∧ wM D S_6 y_7 ∧ sK S_6 y_7 = 1 ∧
∃ m_10 z_11 : Nat, m_10 ≤ (bc - 2) ∧ z_11 ≤ (bs - 12) ∧
wp_J4_setLength_d00df D (fun S_9 => 
∃ n_12 : Nat, wp_X11_writeMove_27 D post xp n_12 ((bc - 2) - m_10) ((bs - 12) - z_11) S_9 a0 r_5 (56 : Int32)) m_10 z_11 S_6 y_7 (0 : Int32)) S_2 y_4 x1) xp S a0 x1
abbrev r_X11_writeMove (rC rS : Nat) : Room := { frames := 16, cells := rC, slots := rS, locals := 354 }
def wp_X11_writeMove (D : wD) (post : Int32 → wS → Prop) (xp : String → wS → Prop) (bc bs : Nat) (S : wS) (a0 : Nat) (x1 : Int32) : Prop := wp_X11_writeMove_0 D post xp bc bs S a0 x1
set_option maxHeartbeats 4000000 in
set_option maxRecDepth 100000 in
theorem t_X11_writeMove_59 {p : Program} {l : Launch} {e : Env} {s : State} {m : MethodId} {args : Array Value} {below : List Frame} {meth : Method} {c : Code} {D : wD} {cy : Nat → ClassId} {X : va_W} {A : Nat → Prop} {S0 : wS} {rC rS : Nat} {post : Int32 → wS → Prop} {xp : String → wS → Prop} (F : CallFix p m c cX11_writeMove 6 s args wz_X11_writeMove RX11) (hr : meth.sig.returnType = (some .int)) (hlocks : meth.locks = false) (hK : wK D cy A s) (hl0 : l.stackTraces = false) (hexc : ∀ x ∈ c.exceptionTable.toList, False) {k_27 : Nat → Nat → wS → Nat → Int64 → Int32 → Prop} (q_27 : ∀ {bc bs cells slots : Nat} (hbc : cells + bc ≤ rC) (hbs : slots + bs ≤ rS) {S : wS} {H : Heap} {locs : List Loc} {ls : Array Slot} {a0 : Nat} {x2 : Int64} {x4 : Int32}, k_27 bc bs S a0 x2 x4 → wO D cy X A s.heap S H locs → wX D S0 S → lv_has ls 6 [(0, .ref a0), (2, .long x2), (4, .int x4)] → wM D S a0 → sK S a0 = 16 → W p l e (r_X11_writeMove rC rS) s m args below meth c H locs cells slots (vx_MQ below (va_Qi (fun r S9 => wX D S0 S9 ∧ post r S9) (wB D cy X A) A) (wEx D cy X A (fun E S9 => wX D S0 S9 ∧ xp E S9)) args s rC rS A) (F0 m 27 ls [])) : ∀ {bc bs cells slots : Nat} (hbc : cells + bc ≤ rC) (hbs : slots + bs ≤ rS) {S : wS} {H : Heap} {locs : List Loc} {ls : Array Slot} {a0 : Nat} {x2 : Int64} {x4 : Int32}, wp_X11_writeMove_59 D post xp k_27 bc bs S a0 x2 x4 → wO D cy X A s.heap S H locs → wX D S0 S → lv_has ls 6 [(0, .ref a0), (2, .long x2), (4, .int x4)] → wM D S a0 → sK S a0 = 16 → W p l e (r_X11_writeMove rC rS) s m args below meth c H locs cells slots (vx_MQ below (va_Qi (fun r S9 => wX D S0 S9 ∧ post r S9) (wB D cy X A) A) (wEx D cy X A (fun E S9 => wX D S0 S9 ∧ xp E S9)) args s rC rS A) (F0 m 59 ls []) := by
  obtain ⟨hx, hb, hml, hown, hts⟩ := id F
  have hwg : ∀ w ∈ WG, w.before args s = true := fun w h => hts w (List.mem_cons_of_mem _ h)
  intro bc bs cells slots hbc hbs S H locs ls a0 x2 x4 hp hW hE hl hL_a0 hK_a0
  unfold wp_X11_writeMove_59 at hp
  obtain ⟨x_1, ex_1⟩ : ∃ z : Int32, z = x4 + (-8) := ⟨_, rfl⟩
  replace hp := hp x_1 ex_1
  refine lv_iinc (v := x_1) (lv' := [(4, .int x_1), (0, .ref a0), (2, .long x2)]) hx hb dX11_writeMove_59 hl (k := 2) rfl (by rw [ex_1]; rfl) (by decide) rfl (fun ls hl => ?_)
  refine lv_goto (tgt := 27) hx hb dX11_writeMove_62 (by decide) ?_
  exact q_27 hbc hbs hp hW hE (lv_sub hl [1, 2, 0] rfl) hL_a0 hK_a0
set_option maxHeartbeats 4000000 in
set_option maxRecDepth 100000 in
theorem t_X11_writeMove_27 {p : Program} {l : Launch} {e : Env} {s : State} {m : MethodId} {args : Array Value} {below : List Frame} {meth : Method} {c : Code} {D : wD} {cy : Nat → ClassId} {X : va_W} {A : Nat → Prop} {S0 : wS} {rC rS : Nat} {post : Int32 → wS → Prop} {xp : String → wS → Prop} (F : CallFix p m c cX11_writeMove 6 s args wz_X11_writeMove RX11) (hr : meth.sig.returnType = (some .int)) (hlocks : meth.locks = false) (hK : wK D cy A s) (hl0 : l.stackTraces = false) (hexc : ∀ x ∈ c.exceptionTable.toList, False) : ∀ (n : Nat) {bc bs cells slots : Nat} (hbc : cells + bc ≤ rC) (hbs : slots + bs ≤ rS) {S : wS} {H : Heap} {locs : List Loc} {ls : Array Slot} {a0 : Nat} {x2 : Int64} {x4 : Int32}, wp_X11_writeMove_27 D post xp n bc bs S a0 x2 x4 → wO D cy X A s.heap S H locs → wX D S0 S → lv_has ls 6 [(0, .ref a0), (2, .long x2), (4, .int x4)] → wM D S a0 → sK S a0 = 16 → W p l e (r_X11_writeMove rC rS) s m args below meth c H locs cells slots (vx_MQ below (va_Qi (fun r S9 => wX D S0 S9 ∧ post r S9) (wB D cy X A) A) (wEx D cy X A (fun E S9 => wX D S0 S9 ∧ xp E S9)) args s rC rS A) (F0 m 27 ls []) := by
  obtain ⟨hx, hb, hml, hown, hts⟩ := id F
  have hwg : ∀ w ∈ WG, w.before args s = true := fun w h => hts w (List.mem_cons_of_mem _ h)
  have i_16 : ∀ w ∈ u_ws RX11 TX11 18, w ∈ wz_X11_writeMove := fun w h => List.mem_cons_of_mem _ (wu_16 w h)
  have k_109 := hwg _ wf_RX11_109
  intro n
  induction n with
  | zero =>
    intro bc bs cells slots hbc hbs S H locs ls a0 x2 x4 hp
    exact hp.elim
  | succ n ih =>
    intro bc bs cells slots hbc hbs S H locs ls a0 x2 x4 hp hW hE hl hL_a0 hK_a0
    unfold wp_X11_writeMove_27 at hp
    refine lv_iload hx hb dX11_writeMove_27 (lv_at hl 2 rfl) ?_
    refine lv_if_lt (tgt := 65) hx hb dX11_writeMove_29 (by decide) (fun c_1 => ?_) (fun c_1 => ?_)
    · replace hp := hp.1 c_1
      refine lv_aload_n hx hb dX11_writeMove_65 rfl (lv_at hl 0 rfl) ?_
      obtain ⟨y_2, ey_2, hL_y_2, hK_y_2, hp⟩ := hp
      refine w_get (k := 16) (f := 14) (T := TX11) (v := .ref y_2) F hK hW hL_a0 hK_a0 (by decide) rfl rfl (by decide) i_16 k_109 (by rw [show wv 16 14 S a0 = va_rf (sR S a0 14) from rfl, ey_2]; rfl) dX11_writeMove_66 ?_
      refine w_callI (va_runV (As := []) (rest := []) F (c_J4_length_8abf5 l hL_y_2 hK_y_2 hp H.size) (cwV (C := RJ4) 0 hts (wg_V wm_RX11_232 wy_J4_length_8abf5) rfl rfl rfl (by decide +kernel) ⟨Nat.le_of_ble_eq_true rfl, Nat.le_of_ble_eq_true rfl⟩) (w_preV hK hW hL_y_2 hK_y_2 (by decide) rfl) rfl rfl hl.1 rfl (lv_room (Nat.le_of_ble_eq_true rfl)) dX11_writeMove_69 ⟨by show _ ≤ rC; exact Nat.le_trans (Nat.le_add_right _ _) hbc, by show _ ≤ rS; exact Nat.le_trans (Nat.le_add_right _ _) hbs⟩) hW (fun r_3 S_4 H locs hp hW => ?_)
      obtain ⟨hX_S_4, hp⟩ := hp
      refine w_same ?_
      have hE := hE.trans hX_S_4
      have hK_a0 : sK S_4 a0 = 16 := (hX_S_4.2 a0 hL_a0).1.trans hK_a0
      have hL_a0 : wM D S_4 a0 := hX_S_4.M hL_a0
      refine W.widen (k := rC) (n := rS) (Nat.le_trans (Nat.le_add_right _ _) hbc) (Nat.le_trans (Nat.le_add_right _ _) hbs) ?_
      refine vx_ret ?_
      exact w_iret hx hb hr hlocks hW ⟨hE, hp⟩ dX11_writeMove_72
    · replace hp := hp.2 c_1
      refine lv_lload_n hx hb dX11_writeMove_32 rfl (lv_at hl 1 rfl) ?_
      refine lv_iload hx hb dX11_writeMove_33 (lv_at hl 2 rfl) ?_
      refine lv_lushr (v := (jlushr x2 x4)) hx hb dX11_writeMove_35 rfl ?_
      refine lv_ldc2 (v := 255) hx hb hown (hwg _ wJ_RX11_279) dX11_writeMove_36 ?_
      refine lv_land hx hb dX11_writeMove_39 ?_
      refine lv_l2i (v := (Int64.toInt32 ((jlushr x2 x4) &&& (255 : Int64)))) hx hb dX11_writeMove_40 rfl ?_
      refine lv_i2c (v := (ji2c (Int64.toInt32 ((jlushr x2 x4) &&& (255 : Int64))))) hx hb dX11_writeMove_41 rfl ?_
      refine lv_topi (fun x_5 ex_5 => ?_)
      replace hp := hp x_5 ex_5
      refine lv_istore (lv' := [(5, .int x_5), (0, .ref a0), (2, .long x2), (4, .int x4)]) hx hb dX11_writeMove_42 hl (by decide) rfl (fun ls hl => ?_)
      refine lv_iload hx hb dX11_writeMove_44 (lv_at hl 0 rfl) ?_
      refine lv_if_eq (tgt := 59) hx hb dX11_writeMove_46 (by decide) (fun c_6 => ?_) (fun c_6 => ?_)
      · replace hp := hp.1 c_6
        exact t_X11_writeMove_59 F hr hlocks hK hl0 hexc ih hbc hbs hp hW hE (lv_sub hl [1, 2, 3] rfl) hL_a0 hK_a0
      · replace hp := hp.2 c_6
        refine lv_aload_n hx hb dX11_writeMove_49 rfl (lv_at hl 1 rfl) ?_
        obtain ⟨y_7, ey_7, hL_y_7, hK_y_7, hp⟩ := hp
        refine w_get (k := 16) (f := 14) (T := TX11) (v := .ref y_7) F hK hW hL_a0 hK_a0 (by decide) rfl rfl (by decide) i_16 k_109 (by rw [show wv 16 14 S a0 = va_rf (sR S a0 14) from rfl, ey_7]; rfl) dX11_writeMove_50 ?_
        refine lv_iload hx hb dX11_writeMove_53 (lv_at hl 0 rfl) ?_
        obtain ⟨m_10, z_11, hm_10, hz_11, hp⟩ := hp
        refine w_callR (va_runV (As := [.int x_5]) (rest := []) F (c_J4_append_cf468 l hL_y_7 hK_y_7 hp H.size) (cwV (C := RJ4) 1 hts (wg_V wm_RX11_281 wy_J4_append_cf468) rfl rfl rfl (by decide +kernel) ⟨Nat.le_of_ble_eq_true rfl, Nat.le_of_ble_eq_true rfl⟩) (w_preV hK hW hL_y_7 hK_y_7 (by decide) rfl) rfl rfl hl.1 rfl (lv_room (Nat.le_of_ble_eq_true rfl)) dX11_writeMove_55 ⟨by show _ + m_10 ≤ rC; omega, by show _ + z_11 ≤ rS; omega⟩) hW (fun r_8 S_9 H locs hp hW => ?_)
        obtain ⟨hX_S_9, hp⟩ := hp
        refine W.widen (k := _ + m_10) (n := _ + z_11) (Nat.le_refl _) (Nat.le_refl _) ?_
        replace hbc := w_spend hbc (show m_10 ≤ bc by omega)
        replace hbs := w_spend hbs (show z_11 ≤ bs by omega)
        have hE := hE.trans hX_S_9
        have hK_a0 : sK S_9 a0 = 16 := (hX_S_9.2 a0 hL_a0).1.trans hK_a0
        have hL_a0 : wM D S_9 a0 := hX_S_9.M hL_a0
        refine lv_pop hx hb dX11_writeMove_58 (by cases r_8 <;> rfl) ?_
        exact t_X11_writeMove_59 F hr hlocks hK hl0 hexc ih hbc hbs hp hW hE (lv_sub hl [1, 2, 3] rfl) hL_a0 hK_a0
set_option maxHeartbeats 4000000 in
set_option maxRecDepth 100000 in
theorem t_X11_writeMove_0 {p : Program} {l : Launch} {e : Env} {s : State} {m : MethodId} {args : Array Value} {below : List Frame} {meth : Method} {c : Code} {D : wD} {cy : Nat → ClassId} {X : va_W} {A : Nat → Prop} {S0 : wS} {rC rS : Nat} {post : Int32 → wS → Prop} {xp : String → wS → Prop} (F : CallFix p m c cX11_writeMove 6 s args wz_X11_writeMove RX11) (hr : meth.sig.returnType = (some .int)) (hlocks : meth.locks = false) (hK : wK D cy A s) (hl0 : l.stackTraces = false) (hexc : ∀ x ∈ c.exceptionTable.toList, False) : ∀ {bc bs cells slots : Nat} (hbc : cells + bc ≤ rC) (hbs : slots + bs ≤ rS) {S : wS} {H : Heap} {locs : List Loc} {ls : Array Slot} {a0 : Nat} {x1 : Int32}, wp_X11_writeMove_0 D post xp bc bs S a0 x1 → wO D cy X A s.heap S H locs → wX D S0 S → lv_has ls 6 [(0, .ref a0), (1, .int x1)] → wM D S a0 → sK S a0 = 16 → W p l e (r_X11_writeMove rC rS) s m args below meth c H locs cells slots (vx_MQ below (va_Qi (fun r S9 => wX D S0 S9 ∧ post r S9) (wB D cy X A) A) (wEx D cy X A (fun E S9 => wX D S0 S9 ∧ xp E S9)) args s rC rS A) (F0 m 0 ls []) := by
  obtain ⟨hx, hb, hml, hown, hts⟩ := id F
  have hwg : ∀ w ∈ WG, w.before args s = true := fun w h => hts w (List.mem_cons_of_mem _ h)
  have i_16 : ∀ w ∈ u_ws RX11 TX11 18, w ∈ wz_X11_writeMove := fun w h => List.mem_cons_of_mem _ (wu_16 w h)
  have k_109 := hwg _ wf_RX11_109
  have k_49 := hwg _ wf_RX11_49
  intro bc bs cells slots hbc hbs S H locs ls a0 x1 hp hW hE hl hL_a0 hK_a0
  unfold wp_X11_writeMove_0 at hp
  refine lv_aload_n hx hb dX11_writeMove_0 rfl (lv_at hl 0 rfl) ?_
  refine lv_iload_n hx hb dX11_writeMove_1 rfl (lv_at hl 1 rfl) ?_
  obtain ⟨h_3, h_3z, hp⟩ := hp
  refine x_callI (vx_runV (As := [.int x1]) (rest := []) F (c_X11_codeOf l hl0 hL_a0 hK_a0 hp H.size) (cwV (C := RX11) 1 hts (wg_V wm_RX11_264 wy_X11_codeOf) rfl rfl rfl (by decide +kernel) ⟨Nat.le_of_ble_eq_true rfl, Nat.le_of_ble_eq_true rfl⟩) (w_preV hK hW hL_a0 hK_a0 (by decide) rfl) rfl rfl hl.1 rfl (lv_room (Nat.le_of_ble_eq_true rfl)) dX11_writeMove_2 ⟨by show _ + 2 ≤ rC; omega, by show _ + 12 ≤ rS; omega⟩) hW (fun E ce q9 S9 H locs hp hW h1 h2 h3 => x_out hexc hlocks ⟨hE.trans hp.1, hp.2⟩ hW h1 h2 h3 (by show _ + 2 ≤ rC; omega) (by show _ + 12 ≤ rS; omega)) (fun r_1 S_2 H locs hp hW => ?_)
  obtain ⟨hX_S_2, hp⟩ := hp
  refine W.widen (k := _ + 2) (n := _ + 12) (Nat.le_refl _) (Nat.le_refl _) ?_
  replace hbc := w_spend hbc (show 2 ≤ bc by omega)
  replace hbs := w_spend hbs (show 12 ≤ bs by omega)
  have hE := hE.trans hX_S_2
  have hK_a0 : sK S_2 a0 = 16 := (hX_S_2.2 a0 hL_a0).1.trans hK_a0
  have hL_a0 : wM D S_2 a0 := hX_S_2.M hL_a0
  refine lv_pop hx hb dX11_writeMove_5 rfl ?_
  refine lv_aload_n hx hb dX11_writeMove_6 rfl (lv_at hl 0 rfl) ?_
  obtain ⟨y_4, ey_4, hL_y_4, hK_y_4, hp⟩ := hp
  refine w_get (k := 16) (f := 5) (T := TX11) (v := .ref y_4) F hK hW hL_a0 hK_a0 (by decide) rfl rfl (by decide) i_16 k_49 (by rw [show wv 16 5 S_2 a0 = va_rf (sR S_2 a0 5) from rfl, ey_4]; rfl) dX11_writeMove_7 ?_
  refine lv_iload_n hx hb dX11_writeMove_10 rfl (lv_at hl 1 rfl) ?_
  refine w_callJ (va_runV (As := [.int x1]) (rest := []) F (c_X4_wordOf l hL_y_4 hK_y_4 hp H.size) (cwV (C := RX4) 1 hts (wg_V wm_RX11_276 wy_X4_wordOf) rfl rfl rfl (by decide +kernel) ⟨Nat.le_of_ble_eq_true rfl, Nat.le_of_ble_eq_true rfl⟩) (w_preV hK hW hL_y_4 hK_y_4 (by decide) rfl) rfl rfl hl.1 rfl (lv_room (Nat.le_of_ble_eq_true rfl)) dX11_writeMove_11 ⟨by show _ ≤ rC; exact Nat.le_trans (Nat.le_add_right _ _) hbc, by show _ ≤ rS; exact Nat.le_trans (Nat.le_add_right _ _) hbs⟩) hW (fun r_5 S_6 H locs hp hW => ?_)
  obtain ⟨hX_S_6, hp⟩ := hp
  refine w_same ?_
  have hE := hE.trans hX_S_6
  have hK_a0 : sK S_6 a0 = 16 := (hX_S_6.2 a0 hL_a0).1.trans hK_a0
  have hL_a0 : wM D S_6 a0 := hX_S_6.M hL_a0
  refine lv_lstore_n (lv' := [(2, .long r_5), (0, .ref a0), (1, .int x1)]) hx hb dX11_writeMove_14 rfl hl (by decide) rfl (fun ls hl => ?_)
  refine lv_aload_n hx hb dX11_writeMove_15 rfl (lv_at hl 1 rfl) ?_
  obtain ⟨y_7, ey_7, hL_y_7, hK_y_7, hp⟩ := hp
  refine w_get (k := 16) (f := 14) (T := TX11) (v := .ref y_7) F hK hW hL_a0 hK_a0 (by decide) rfl rfl (by decide) i_16 k_109 (by rw [show wv 16 14 S_6 a0 = va_rf (sR S_6 a0 14) from rfl, ey_7]; rfl) dX11_writeMove_16 ?_
  refine lv_iconst (v := 0) hx hb dX11_writeMove_19 (by decide) ?_
  obtain ⟨m_10, z_11, hm_10, hz_11, hp⟩ := hp
  refine w_callV (va_runV (As := [.int (0 : Int32)]) (rest := []) F (c_J4_setLength_d00df l hL_y_7 hK_y_7 hp H.size) (cwV (C := RJ4) 1 hts (wg_V wm_RX11_191 wy_J4_setLength_d00df) rfl rfl rfl (by decide +kernel) ⟨Nat.le_of_ble_eq_true rfl, Nat.le_of_ble_eq_true rfl⟩) (w_preV hK hW hL_y_7 hK_y_7 (by decide) rfl) rfl rfl hl.1 rfl (lv_room (Nat.le_of_ble_eq_true rfl)) dX11_writeMove_20 ⟨by show _ + m_10 ≤ rC; omega, by show _ + z_11 ≤ rS; omega⟩) hW (fun S_9 H locs hp hW => ?_)
  obtain ⟨hX_S_9, hp⟩ := hp
  refine W.widen (k := _ + m_10) (n := _ + z_11) (Nat.le_refl _) (Nat.le_refl _) ?_
  replace hbc := w_spend hbc (show m_10 ≤ (bc - 2) by omega)
  replace hbs := w_spend hbs (show z_11 ≤ (bs - 12) by omega)
  have hE := hE.trans hX_S_9
  have hK_a0 : sK S_9 a0 = 16 := (hX_S_9.2 a0 hL_a0).1.trans hK_a0
  have hL_a0 : wM D S_9 a0 := hX_S_9.M hL_a0
  refine lv_bipush (v := 56) hx hb dX11_writeMove_23 (by decide) ?_
  refine lv_istore (lv' := [(4, .int (56 : Int32)), (2, .long r_5), (0, .ref a0), (1, .int x1)]) hx hb dX11_writeMove_25 hl (by decide) rfl (fun ls hl => ?_)
  obtain ⟨n_12, hp⟩ := hp
  exact t_X11_writeMove_27 F hr hlocks hK hl0 hexc n_12 hbc hbs hp hW hE (lv_sub hl [2, 1, 0] rfl) hL_a0 hK_a0
set_option maxHeartbeats 4000000 in
set_option maxRecDepth 100000 in
theorem c_X11_writeMove (l : Launch) {rC rS : Nat} {D : wD} {cy : Nat → ClassId} {X : va_W} {S0 : wS} {post : Int32 → wS → Prop} {xp : String → wS → Prop} (hl0 : l.stackTraces = false) {a0 : Nat} {x1 : Int32} (hL_a0 : wM D S0 a0) (hK_a0 : sK S0 a0 = 16) (hp : wp_X11_writeMove D post xp rC rS S0 a0 x1) : xI D cy X l yX11_writeMove wz_X11_writeMove (r_X11_writeMove rC rS) [.ref a0, .int x1] S0 (fun r S9 => wX D S0 S9 ∧ post r S9) (fun E S9 => wX D S0 S9 ∧ xp E S9) := by
  intro sz
  refine vx_ofW (cc := cX11_writeMove) (maxL := 6) (ret := (some .int)) (by decide) rfl ?_
  intro p e s m args below meth c s₁ B hml hexc hv
  obtain ⟨rfl, hsz, hP, hK, hD0, hRO⟩ := hv
  have hts := atoms_spec (ws := wz_X11_writeMove) B.pre
  have hown : s.vm.findClass RX11 = some m.cls := findClass_of_methodNamed B.named
  subst hsz
  have hD := hD0.self (sz := s.heap.size)
  have F : CallFix p m c cX11_writeMove 6 s _ wz_X11_writeMove RX11 := ⟨B.exec, B.bytes, hml, hown, hts⟩
  have hr := B.returns
  have hlocks := B.notSynchronized
  generalize hAe : va_A (wL cy X S0) s.heap.size = A at hD hK ⊢
  have hA : ∀ q, s.heap.size ≤ q → A q := fun q h => by rw [← hAe]; exact Or.inr h
  have hW : wO D cy X A s.heap S0 s.heap [] := ⟨hP, hD, va_S.rf, hA, hRO⟩
  have hl := lv_entry ([.ref a0, .int x1]) (n := 6) (Nat.le_of_ble_eq_true rfl)
  rw [lg_entry_eq]
  generalize (lg_sl ([.ref a0, .int x1]) ++ List.replicate (6 - (lg_sl ([.ref a0, .int x1])).length) Slot.unset).toArray = ls at hl ⊢
  have hl : lv_has ls 6 [(0, .ref a0), (1, .int x1)] := hl
  unfold wp_X11_writeMove at hp
  exact t_X11_writeMove_0 F hr hlocks hK hl0 hexc (Nat.le_of_eq (Nat.zero_add _)) (Nat.le_of_eq (Nat.zero_add _)) hp hW wX.rf (lv_sub hl [0, 1] rfl) hL_a0 hK_a0
def wp_X11_writePaper_0 (D : wD) (post : Int32 → wS → Prop)  (bc bs : Nat) (S : wS) (a0 : Nat) : Prop :=
∃ y_1 : Nat, sR S a0 7 = some y_1 ∧ wM D S y_1 ∧ sK S y_1 = 11 ∧
∃ y_2 : Nat, sR S a0 2 = some y_2 ∧ wM D S y_2 ∧ sK S y_2 = 12 ∧
∃ y_3 : Nat, sR S a0 14 = some y_3 ∧ wM D S y_3 ∧ sK S y_3 = 1 ∧
∃ m_6 z_7 : Nat, m_6 ≤ bc ∧ z_7 ≤ bs ∧
wp_X6_write D (fun S_5 => 
∃ y_8 : Nat, sR S_5 a0 14 = some y_8 ∧ wM D S_5 y_8 ∧ sK S_5 y_8 = 1 ∧
wp_J4_length_8abf5 D (fun r_9 S_10 => 
post r_9 S_10) S_5 y_8) m_6 z_7 S y_1 y_2 y_3
abbrev r_X11_writePaper (rC rS : Nat) : Room := { frames := 17, cells := rC, slots := rS, locals := 377 }
def wp_X11_writePaper (D : wD) (post : Int32 → wS → Prop) (bc bs : Nat) (S : wS) (a0 : Nat) : Prop := wp_X11_writePaper_0 D post bc bs S a0
set_option maxHeartbeats 4000000 in
set_option maxRecDepth 100000 in
theorem t_X11_writePaper_0 {p : Program} {l : Launch} {e : Env} {s : State} {m : MethodId} {args : Array Value} {below : List Frame} {meth : Method} {c : Code} {D : wD} {cy : Nat → ClassId} {X : va_W} {A : Nat → Prop} {S0 : wS} {rC rS : Nat} {post : Int32 → wS → Prop} (F : CallFix p m c cX11_writePaper 1 s args wz_X11_writePaper RX11) (hr : meth.sig.returnType = (some .int)) (hlocks : meth.locks = false) (hK : wK D cy A s) : ∀ {bc bs cells slots : Nat} (hbc : cells + bc ≤ rC) (hbs : slots + bs ≤ rS) {S : wS} {H : Heap} {locs : List Loc} {ls : Array Slot} {a0 : Nat}, wp_X11_writePaper_0 D post bc bs S a0 → wO D cy X A s.heap S H locs → wX D S0 S → lv_has ls 1 [(0, .ref a0)] → wM D S a0 → sK S a0 = 16 → W p l e (r_X11_writePaper rC rS) s m args below meth c H locs cells slots (MQ below (va_Qi (fun r S9 => wX D S0 S9 ∧ post r S9) (wB D cy X A) A) args s rC rS A) (F0 m 0 ls []) := by
  obtain ⟨hx, hb, hml, hown, hts⟩ := id F
  have hwg : ∀ w ∈ WG, w.before args s = true := fun w h => hts w (List.mem_cons_of_mem _ h)
  have i_16 : ∀ w ∈ u_ws RX11 TX11 18, w ∈ wz_X11_writePaper := fun w h => List.mem_cons_of_mem _ (wu_16 w h)
  have k_109 := hwg _ wf_RX11_109
  have k_28 := hwg _ wf_RX11_28
  have k_65 := hwg _ wf_RX11_65
  intro bc bs cells slots hbc hbs S H locs ls a0 hp hW hE hl hL_a0 hK_a0
  unfold wp_X11_writePaper_0 at hp
  refine lv_aload_n hx hb dX11_writePaper_0 rfl (lv_at hl 0 rfl) ?_
  obtain ⟨y_1, ey_1, hL_y_1, hK_y_1, hp⟩ := hp
  refine w_get (k := 16) (f := 7) (T := TX11) (v := .ref y_1) F hK hW hL_a0 hK_a0 (by decide) rfl rfl (by decide) i_16 k_65 (by rw [show wv 16 7 S a0 = va_rf (sR S a0 7) from rfl, ey_1]; rfl) dX11_writePaper_1 ?_
  refine lv_aload_n hx hb dX11_writePaper_4 rfl (lv_at hl 0 rfl) ?_
  obtain ⟨y_2, ey_2, hL_y_2, hK_y_2, hp⟩ := hp
  refine w_get (k := 16) (f := 2) (T := TX11) (v := .ref y_2) F hK hW hL_a0 hK_a0 (by decide) rfl rfl (by decide) i_16 k_28 (by rw [show wv 16 2 S a0 = va_rf (sR S a0 2) from rfl, ey_2]; rfl) dX11_writePaper_5 ?_
  refine lv_aload_n hx hb dX11_writePaper_8 rfl (lv_at hl 0 rfl) ?_
  obtain ⟨y_3, ey_3, hL_y_3, hK_y_3, hp⟩ := hp
  refine w_get (k := 16) (f := 14) (T := TX11) (v := .ref y_3) F hK hW hL_a0 hK_a0 (by decide) rfl rfl (by decide) i_16 k_109 (by rw [show wv 16 14 S a0 = va_rf (sR S a0 14) from rfl, ey_3]; rfl) dX11_writePaper_9 ?_
  obtain ⟨m_6, z_7, hm_6, hz_7, hp⟩ := hp
  refine w_callV (va_runV (As := [.ref y_2, .ref y_3]) (rest := []) F (c_X6_write l hL_y_1 hK_y_1 hL_y_2 hK_y_2 hL_y_3 hK_y_3 hp H.size) (cwV (C := RX6) 2 hts (wg_V wm_RX11_228 wy_X6_write) rfl rfl rfl (by decide +kernel) ⟨Nat.le_of_ble_eq_true rfl, Nat.le_of_ble_eq_true rfl⟩) (w_preV hK hW hL_y_1 hK_y_1 (by decide) rfl) rfl rfl hl.1 rfl (lv_room (Nat.le_of_ble_eq_true rfl)) dX11_writePaper_12 ⟨by show _ + m_6 ≤ rC; omega, by show _ + z_7 ≤ rS; omega⟩) hW (fun S_5 H locs hp hW => ?_)
  obtain ⟨hX_S_5, hp⟩ := hp
  refine W.widen (k := _ + m_6) (n := _ + z_7) (Nat.le_refl _) (Nat.le_refl _) ?_
  replace hbc := w_spend hbc (show m_6 ≤ bc by omega)
  replace hbs := w_spend hbs (show z_7 ≤ bs by omega)
  have hE := hE.trans hX_S_5
  have hK_a0 : sK S_5 a0 = 16 := (hX_S_5.2 a0 hL_a0).1.trans hK_a0
  have hL_a0 : wM D S_5 a0 := hX_S_5.M hL_a0
  refine lv_aload_n hx hb dX11_writePaper_15 rfl (lv_at hl 0 rfl) ?_
  obtain ⟨y_8, ey_8, hL_y_8, hK_y_8, hp⟩ := hp
  refine w_get (k := 16) (f := 14) (T := TX11) (v := .ref y_8) F hK hW hL_a0 hK_a0 (by decide) rfl rfl (by decide) i_16 k_109 (by rw [show wv 16 14 S_5 a0 = va_rf (sR S_5 a0 14) from rfl, ey_8]; rfl) dX11_writePaper_16 ?_
  refine w_callI (va_runV (As := []) (rest := []) F (c_J4_length_8abf5 l hL_y_8 hK_y_8 hp H.size) (cwV (C := RJ4) 0 hts (wg_V wm_RX11_232 wy_J4_length_8abf5) rfl rfl rfl (by decide +kernel) ⟨Nat.le_of_ble_eq_true rfl, Nat.le_of_ble_eq_true rfl⟩) (w_preV hK hW hL_y_8 hK_y_8 (by decide) rfl) rfl rfl hl.1 rfl (lv_room (Nat.le_of_ble_eq_true rfl)) dX11_writePaper_19 ⟨by show _ ≤ rC; exact Nat.le_trans (Nat.le_add_right _ _) hbc, by show _ ≤ rS; exact Nat.le_trans (Nat.le_add_right _ _) hbs⟩) hW (fun r_9 S_10 H locs hp hW => ?_)
  obtain ⟨hX_S_10, hp⟩ := hp
  refine w_same ?_
  have hE := hE.trans hX_S_10
  have hK_a0 : sK S_10 a0 = 16 := (hX_S_10.2 a0 hL_a0).1.trans hK_a0
  have hL_a0 : wM D S_10 a0 := hX_S_10.M hL_a0
  refine W.widen (k := rC) (n := rS) (Nat.le_trans (Nat.le_add_right _ _) hbc) (Nat.le_trans (Nat.le_add_right _ _) hbs) ?_
  exact w_iret hx hb hr hlocks hW ⟨hE, hp⟩ dX11_writePaper_22
set_option maxHeartbeats 4000000 in
set_option maxRecDepth 100000 in
theorem c_X11_writePaper (l : Launch) {rC rS : Nat} {D : wD} {cy : Nat → ClassId} {X : va_W} {S0 : wS} {post : Int32 → wS → Prop} {a0 : Nat} (hL_a0 : wM D S0 a0) (hK_a0 : sK S0 a0 = 16) (hp : wp_X11_writePaper D post rC rS S0 a0) : mI D cy X l yX11_writePaper wz_X11_writePaper (r_X11_writePaper rC rS) [.ref a0] S0 (fun r S9 => wX D S0 S9 ∧ post r S9) := by
  intro sz
  refine Met.ofW (cc := cX11_writePaper) (maxL := 1) (ret := (some .int)) (by decide) rfl ?_
  intro p e s m args below meth c s₁ B hml hv
  obtain ⟨rfl, hsz, hP, hK, hD0, hRO⟩ := hv
  have hts := atoms_spec (ws := wz_X11_writePaper) B.pre
  have hown : s.vm.findClass RX11 = some m.cls := findClass_of_methodNamed B.named
  subst hsz
  have hD := hD0.self (sz := s.heap.size)
  have F : CallFix p m c cX11_writePaper 1 s _ wz_X11_writePaper RX11 := ⟨B.exec, B.bytes, hml, hown, hts⟩
  have hr := B.returns
  have hlocks := B.notSynchronized
  generalize hAe : va_A (wL cy X S0) s.heap.size = A at hD hK ⊢
  have hA : ∀ q, s.heap.size ≤ q → A q := fun q h => by rw [← hAe]; exact Or.inr h
  have hW : wO D cy X A s.heap S0 s.heap [] := ⟨hP, hD, va_S.rf, hA, hRO⟩
  have hl := lv_entry ([.ref a0]) (n := 1) (Nat.le_of_ble_eq_true rfl)
  rw [lg_entry_eq]
  generalize (lg_sl ([.ref a0]) ++ List.replicate (1 - (lg_sl ([.ref a0])).length) Slot.unset).toArray = ls at hl ⊢
  have hl : lv_has ls 1 [(0, .ref a0)] := hl
  unfold wp_X11_writePaper at hp
  exact t_X11_writePaper_0 F hr hlocks hK (Nat.le_of_eq (Nat.zero_add _)) (Nat.le_of_eq (Nat.zero_add _)) hp hW wX.rf (lv_sub hl [0] rfl) hL_a0 hK_a0
def wp_X12_init_326 (D : wD) (post : wS → Prop) (k_267 : wS → Nat → Int32 → Prop) (S : wS) (a0 : Nat) (x1 : Int32) (t0 : Int32) : Prop :=
∃ y_1 : Nat, sR S a0 8 = some y_1 ∧ wM D S y_1 ∧ sK S y_1 = 21 ∧
y_1 ∈ sL S ∧ vp_in x1 (sN S y_1) ∧
∀ S_3 : wS, S_3 = uI S y_1 (x1).toNatClampNeg t0 →
∃ y_4 : Nat, sR S_3 a0 8 = some y_4 ∧ wM D S_3 y_4 ∧ sK S_3 y_4 = 21 ∧
y_4 ∈ sL S_3 ∧ vp_in ((8 : Int32) + x1) (sN S_3 y_4) ∧
∀ S_6 : wS, S_6 = uI S_3 y_4 (((8 : Int32) + x1)).toNatClampNeg (6 : Int32) →
∃ y_7 : Nat, sR S_6 a0 8 = some y_7 ∧ wM D S_6 y_7 ∧ sK S_6 y_7 = 21 ∧
y_7 ∈ sL S_6 ∧ vp_in ((48 : Int32) + x1) (sN S_6 y_7) ∧
∀ S_9 : wS, S_9 = uI S_6 y_7 (((48 : Int32) + x1)).toNatClampNeg (12 : Int32) →
∃ y_10 : Nat, sR S_9 a0 8 = some y_10 ∧ wM D S_9 y_10 ∧ sK S_9 y_10 = 21 ∧
y_10 ∈ sL S_9 ∧ vp_in ((56 : Int32) + x1) (sN S_9 y_10) ∧
∀ S_12 : wS, S_12 = uI S_9 y_10 (((56 : Int32) + x1)).toNatClampNeg (t0 + (6 : Int32)) →
∀ x_13 : Int32, x_13 = x1 + 1 →
k_267 S_12 a0 x_13
def wp_X12_init_312 (D : wD) (post : wS → Prop) (k_267 : wS → Nat → Int32 → Prop) (S : wS) (a0 : Nat) (x1 : Int32) : Prop :=
wp_X12_init_326 D post k_267 S a0 x1 (4 : Int32)
def wp_X12_init_298 (D : wD) (post : wS → Prop) (k_267 : wS → Nat → Int32 → Prop) (S : wS) (a0 : Nat) (x1 : Int32) : Prop :=
wp_X12_init_326 D post k_267 S a0 x1 (5 : Int32)
def wp_X12_init_283 (D : wD) (post : wS → Prop) (k_267 : wS → Nat → Int32 → Prop) (S : wS) (a0 : Nat) (x1 : Int32) : Prop :=
wp_X12_init_326 D post k_267 S a0 x1 (3 : Int32)
def wp_X12_init_267 (D : wD) (post : wS → Prop)  : Nat → wS → Nat → Int32 → Prop
  | 0, _, _, _ => False
  | n + 1, S, a0, x1 =>
    (((8 : Int32) ≤ x1 → ∃ y_2 : Nat, sR S a0 8 = some y_2 ∧ wM D S y_2 ∧ sK S y_2 = 21 ∧
    y_2 ∈ sL S ∧ vp_in (65 : Int32) (sN S y_2) ∧
    ∀ S_4 : wS, S_4 = uI S y_2 ((65 : Int32)).toNatClampNeg (15 : Int32) →
    post S_4) ∧
     (¬ (8 : Int32) ≤ x1 → ((x1 = 0 → wp_X12_init_283 D post (wp_X12_init_267 D post n) S a0 x1) ∧
     (¬ x1 = 0 → ((¬ x1 = (7 : Int32) → ((x1 = (1 : Int32) → wp_X12_init_298 D post (wp_X12_init_267 D post n) S a0 x1) ∧
     (¬ x1 = (1 : Int32) → ((¬ x1 = (6 : Int32) → ((x1 = (2 : Int32) → wp_X12_init_312 D post (wp_X12_init_267 D post n) S a0 x1) ∧
     (¬ x1 = (2 : Int32) → ((¬ x1 = (5 : Int32) → ((¬ x1 = (3 : Int32) → wp_X12_init_326 D post (wp_X12_init_267 D post n) S a0 x1 (1 : Int32)) ∧
     (x1 = (3 : Int32) → wp_X12_init_326 D post (wp_X12_init_267 D post n) S a0 x1 (2 : Int32)))) ∧
     (x1 = (5 : Int32) → wp_X12_init_312 D post (wp_X12_init_267 D post n) S a0 x1))))) ∧
     (x1 = (6 : Int32) → wp_X12_init_298 D post (wp_X12_init_267 D post n) S a0 x1))))) ∧
     (x1 = (7 : Int32) → wp_X12_init_283 D post (wp_X12_init_267 D post n) S a0 x1))))))
def wp_X12_init_0 (D : wD) (post : wS → Prop)  (S : wS) (a0 : Nat) : Prop :=
∀ S_1 : wS, S_1 = uI S a0 1 (8 : Int32) →
∀ S_2 : wS, S_2 = uI S_1 a0 2 (8 : Int32) →
¬ (536 : Int32) < 0 ∧ ((536 : Int32)).toNatClampNeg ≤ 536 ∧ ∀ y_3 : Nat, ¬ wM D S_2 y_3 → ∀ S_4 : wS, S_4 = nA S_2 y_3 21 ((536 : Int32)).toNatClampNeg →
∀ S_6 : wS, S_6 = uR S_4 a0 3 (some y_3) →
¬ (2560 : Int32) < 0 ∧ ((2560 : Int32)).toNatClampNeg ≤ 2560 ∧ ∀ y_7 : Nat, ¬ wM D S_6 y_7 → ∀ S_8 : wS, S_8 = nA S_6 y_7 21 ((2560 : Int32)).toNatClampNeg →
∀ S_10 : wS, S_10 = uR S_8 a0 4 (some y_7) →
¬ (2560 : Int32) < 0 ∧ ((2560 : Int32)).toNatClampNeg ≤ 2560 ∧ ∀ y_11 : Nat, ¬ wM D S_10 y_11 → ∀ S_12 : wS, S_12 = nA S_10 y_11 21 ((2560 : Int32)).toNatClampNeg →
∀ S_14 : wS, S_14 = uR S_12 a0 5 (some y_11) →
¬ (2560 : Int32) < 0 ∧ ((2560 : Int32)).toNatClampNeg ≤ 2560 ∧ ∀ y_15 : Nat, ¬ wM D S_14 y_15 → ∀ S_16 : wS, S_16 = nA S_14 y_15 21 ((2560 : Int32)).toNatClampNeg →
∀ S_18 : wS, S_18 = uR S_16 a0 6 (some y_15) →
¬ (8 : Int32) < 0 ∧ ((8 : Int32)).toNatClampNeg ≤ 8 ∧ ∀ y_19 : Nat, ¬ wM D S_18 y_19 → ∀ S_20 : wS, S_20 = nA S_18 y_19 21 ((8 : Int32)).toNatClampNeg →
∀ S_22 : wS, S_22 = uR S_20 a0 7 (some y_19) →
¬ (5427 : Int32) < 0 ∧ ((5427 : Int32)).toNatClampNeg ≤ 5427 ∧ ∀ y_23 : Nat, ¬ wM D S_22 y_23 → ∀ S_24 : wS, S_24 = nA S_22 y_23 21 ((5427 : Int32)).toNatClampNeg →
∀ S_26 : wS, S_26 = uR S_24 a0 8 (some y_23) →
¬ (80 : Int32) < 0 ∧ ((80 : Int32)).toNatClampNeg ≤ 80 ∧ ∀ y_27 : Nat, ¬ wM D S_26 y_27 → ∀ S_28 : wS, S_28 = nA S_26 y_27 21 ((80 : Int32)).toNatClampNeg →
∀ S_30 : wS, S_30 = uR S_28 a0 9 (some y_27) →
¬ (80 : Int32) < 0 ∧ ((80 : Int32)).toNatClampNeg ≤ 80 ∧ ∀ y_31 : Nat, ¬ wM D S_30 y_31 → ∀ S_32 : wS, S_32 = nA S_30 y_31 23 ((80 : Int32)).toNatClampNeg →
∀ S_34 : wS, S_34 = uR S_32 a0 10 (some y_31) →
¬ (500 : Int32) < 0 ∧ ((500 : Int32)).toNatClampNeg ≤ 500 ∧ ∀ y_35 : Nat, ¬ wM D S_34 y_35 → ∀ S_36 : wS, S_36 = nA S_34 y_35 21 ((500 : Int32)).toNatClampNeg →
∀ S_38 : wS, S_38 = uR S_36 a0 12 (some y_35) →
¬ (128 : Int32) < 0 ∧ ((128 : Int32)).toNatClampNeg ≤ 128 ∧ ∀ y_39 : Nat, ¬ wM D S_38 y_39 → ∀ S_40 : wS, S_40 = nA S_38 y_39 21 ((128 : Int32)).toNatClampNeg →
∀ S_42 : wS, S_42 = uR S_40 a0 14 (some y_39) →
¬ (3840 : Int32) < 0 ∧ ((3840 : Int32)).toNatClampNeg ≤ 3840 ∧ ∀ y_43 : Nat, ¬ wM D S_42 y_43 → ∀ S_44 : wS, S_44 = nA S_42 y_43 21 ((3840 : Int32)).toNatClampNeg →
∀ S_46 : wS, S_46 = uR S_44 a0 17 (some y_43) →
¬ (320 : Int32) < 0 ∧ ((320 : Int32)).toNatClampNeg ≤ 320 ∧ ∀ y_47 : Nat, ¬ wM D S_46 y_47 → ∀ S_48 : wS, S_48 = nA S_46 y_47 21 ((320 : Int32)).toNatClampNeg →
∀ S_50 : wS, S_50 = uR S_48 a0 18 (some y_47) →
¬ (320 : Int32) < 0 ∧ ((320 : Int32)).toNatClampNeg ≤ 320 ∧ ∀ y_51 : Nat, ¬ wM D S_50 y_51 → ∀ S_52 : wS, S_52 = nA S_50 y_51 21 ((320 : Int32)).toNatClampNeg →
∀ S_54 : wS, S_54 = uR S_52 a0 19 (some y_51) →
¬ (670 : Int32) < 0 ∧ ((670 : Int32)).toNatClampNeg ≤ 670 ∧ ∀ y_55 : Nat, ¬ wM D S_54 y_55 → ∀ S_56 : wS, S_56 = nA S_54 y_55 21 ((670 : Int32)).toNatClampNeg →
∀ S_58 : wS, S_58 = uR S_56 a0 20 (some y_55) →
¬ (670 : Int32) < 0 ∧ ((670 : Int32)).toNatClampNeg ≤ 670 ∧ ∀ y_59 : Nat, ¬ wM D S_58 y_59 → ∀ S_60 : wS, S_60 = nA S_58 y_59 21 ((670 : Int32)).toNatClampNeg →
∀ S_62 : wS, S_62 = uR S_60 a0 21 (some y_59) →
¬ (10 : Int32) < 0 ∧ ((10 : Int32)).toNatClampNeg ≤ 10 ∧ ∀ y_63 : Nat, ¬ wM D S_62 y_63 → ∀ S_64 : wS, S_64 = nA S_62 y_63 21 ((10 : Int32)).toNatClampNeg →
∀ S_66 : wS, S_66 = uR S_64 a0 22 (some y_63) →
¬ (500 : Int32) < 0 ∧ ((500 : Int32)).toNatClampNeg ≤ 500 ∧ ∀ y_67 : Nat, ¬ wM D S_66 y_67 → ∀ S_68 : wS, S_68 = nA S_66 y_67 21 ((500 : Int32)).toNatClampNeg →
∀ S_70 : wS, S_70 = uR S_68 a0 23 (some y_67) →
¬ (2 : Int32) < 0 ∧ ((2 : Int32)).toNatClampNeg ≤ 2 ∧ ∀ y_71 : Nat, ¬ wM D S_70 y_71 → ∀ S_72 : wS, S_72 = nA S_70 y_71 21 ((2 : Int32)).toNatClampNeg →
∀ S_74 : wS, S_74 = uR S_72 a0 30 (some y_71) →
¬ (434160 : Int32) < 0 ∧ ((434160 : Int32)).toNatClampNeg ≤ 434160 ∧ ∀ y_75 : Nat, ¬ wM D S_74 y_75 → ∀ S_76 : wS, S_76 = nA S_74 y_75 21 ((434160 : Int32)).toNatClampNeg →
∀ S_78 : wS, S_78 = uR S_76 a0 31 (some y_75) →
¬ (6400 : Int32) < 0 ∧ ((6400 : Int32)).toNatClampNeg ≤ 6400 ∧ ∀ y_79 : Nat, ¬ wM D S_78 y_79 → ∀ S_80 : wS, S_80 = nA S_78 y_79 21 ((6400 : Int32)).toNatClampNeg →
∀ S_82 : wS, S_82 = uR S_80 a0 32 (some y_79) →
¬ (80 : Int32) < 0 ∧ ((80 : Int32)).toNatClampNeg ≤ 80 ∧ ∀ y_83 : Nat, ¬ wM D S_82 y_83 → ∀ S_84 : wS, S_84 = nA S_82 y_83 21 ((80 : Int32)).toNatClampNeg →
∀ S_86 : wS, S_86 = uR S_84 a0 33 (some y_83) →
¬ (80 : Int32) < 0 ∧ ((80 : Int32)).toNatClampNeg ≤ 80 ∧ ∀ y_87 : Nat, ¬ wM D S_86 y_87 → ∀ S_88 : wS, S_88 = nA S_86 y_87 21 ((80 : Int32)).toNatClampNeg →
∀ S_90 : wS, S_90 = uR S_88 a0 34 (some y_87) →
¬ (80 : Int32) < 0 ∧ ((80 : Int32)).toNatClampNeg ≤ 80 ∧ ∀ y_91 : Nat, ¬ wM D S_90 y_91 → ∀ S_92 : wS, S_92 = nA S_90 y_91 21 ((80 : Int32)).toNatClampNeg →
∀ S_94 : wS, S_94 = uR S_92 a0 35 (some y_91) →
¬ (80 : Int32) < 0 ∧ ((80 : Int32)).toNatClampNeg ≤ 80 ∧ ∀ y_95 : Nat, ¬ wM D S_94 y_95 → ∀ S_96 : wS, S_96 = nA S_94 y_95 21 ((80 : Int32)).toNatClampNeg →
∀ S_98 : wS, S_98 = uR S_96 a0 36 (some y_95) →
¬ (80 : Int32) < 0 ∧ ((80 : Int32)).toNatClampNeg ≤ 80 ∧ ∀ y_99 : Nat, ¬ wM D S_98 y_99 → ∀ S_100 : wS, S_100 = nA S_98 y_99 21 ((80 : Int32)).toNatClampNeg →
∀ S_102 : wS, S_102 = uR S_100 a0 37 (some y_99) →
¬ (80 : Int32) < 0 ∧ ((80 : Int32)).toNatClampNeg ≤ 80 ∧ ∀ y_103 : Nat, ¬ wM D S_102 y_103 → ∀ S_104 : wS, S_104 = nA S_102 y_103 21 ((80 : Int32)).toNatClampNeg →
∀ S_106 : wS, S_106 = uR S_104 a0 38 (some y_103) →
¬ (64 : Int32) < 0 ∧ ((64 : Int32)).toNatClampNeg ≤ 64 ∧ ∀ y_107 : Nat, ¬ wM D S_106 y_107 → ∀ S_108 : wS, S_108 = nA S_106 y_107 21 ((64 : Int32)).toNatClampNeg →
∀ S_110 : wS, S_110 = uR S_108 a0 40 (some y_107) →
¬ (125000 : Int32) < 0 ∧ ((125000 : Int32)).toNatClampNeg ≤ 125000 ∧ ∀ y_111 : Nat, ¬ wM D S_110 y_111 → ∀ S_112 : wS, S_112 = nA S_110 y_111 21 ((125000 : Int32)).toNatClampNeg →
∀ S_114 : wS, S_114 = uR S_112 a0 41 (some y_111) →
¬ (6 : Int32) < 0 ∧ ((6 : Int32)).toNatClampNeg ≤ 6 ∧ ∀ y_115 : Nat, ¬ wM D S_114 y_115 → ∀ S_116 : wS, S_116 = nA S_114 y_115 23 ((6 : Int32)).toNatClampNeg →
∀ S_118 : wS, S_118 = uR S_116 a0 42 (some y_115) →
wp_X12_resets D (fun S_120 => 
∃ n_121 : Nat, wp_X12_init_267 D post n_121 S_120 a0 (0 : Int32)) S_118 a0
abbrev r_X12_init : Room := { frames := 1, cells := 29, slots := 586881, locals := 60 }
def wp_X12_init (D : wD) (post : wS → Prop) (S : wS) (a0 : Nat) : Prop := wp_X12_init_0 D post S a0
set_option maxHeartbeats 4000000 in
set_option maxRecDepth 100000 in
theorem t_X12_init_326 {p : Program} {l : Launch} {e : Env} {s : State} {m : MethodId} {args : Array Value} {below : List Frame} {meth : Method} {c : Code} {D : wD} {cy : Nat → ClassId} {X : va_W} {A : Nat → Prop} {S0 : wS} {post : wS → Prop} (F : CallFix p m c cX12_init 3 s args wz_X12_init RX12) (hr : meth.sig.returnType = none) (hlocks : meth.locks = false) (hK : wK D cy A s) (hin : meth.name = "<init>") {k_267 : wS → Nat → Int32 → Prop} (q_267 : ∀ {S : wS} {H : Heap} {locs : List Loc} {ls : Array Slot} {a0 : Nat} {x1 : Int32}, k_267 S a0 x1 → wO D cy X A s.heap S H locs → wX D S0 S → lv_has ls 3 [(0, .ref a0), (1, .int x1)] → wM D S a0 → sK S a0 = 17 → W p l e r_X12_init s m args below meth c H locs 29 586881 (MQ below (va_Qv (fun S9 => wX D S0 S9 ∧ post S9) (wB D cy X A) A) args s 29 586881 A) (F0 m 267 ls [])) : ∀ {S : wS} {H : Heap} {locs : List Loc} {ls : Array Slot} {a0 : Nat} {x1 : Int32} {t0 : Int32}, wp_X12_init_326 D post k_267 S a0 x1 t0 → wO D cy X A s.heap S H locs → wX D S0 S → lv_has ls 3 [(0, .ref a0), (1, .int x1)] → wM D S a0 → sK S a0 = 17 → W p l e r_X12_init s m args below meth c H locs 29 586881 (MQ below (va_Qv (fun S9 => wX D S0 S9 ∧ post S9) (wB D cy X A) A) args s 29 586881 A) (F0 m 326 ls [.int t0]) := by
  obtain ⟨hx, hb, hml, hown, hts⟩ := id F
  have hwg : ∀ w ∈ WG, w.before args s = true := fun w h => hts w (List.mem_cons_of_mem _ h)
  have i_17 : ∀ w ∈ u_ws RX12 TX12 43, w ∈ wz_X12_init := fun w h => List.mem_cons_of_mem _ (wu_17 w h)
  have k_32 := hwg _ wf_RX12_32
  intro S H locs ls a0 x1 t0 hp hW hE hl hL_a0 hK_a0
  unfold wp_X12_init_326 at hp
  refine lv_istore_n (lv' := [(2, .int t0), (0, .ref a0), (1, .int x1)]) hx hb dX12_init_326 rfl hl (by decide) rfl (fun ls hl => ?_)
  refine lv_aload_n hx hb dX12_init_327 rfl (lv_at hl 1 rfl) ?_
  obtain ⟨y_1, ey_1, hL_y_1, hK_y_1, hp⟩ := hp
  refine w_get (k := 17) (f := 8) (T := TX12) (v := .ref y_1) F hK hW hL_a0 hK_a0 (by decide) rfl rfl (by decide) i_17 k_32 (by rw [show wv 17 8 S a0 = va_rf (sR S a0 8) from rfl, ey_1]; rfl) dX12_init_328 ?_
  refine lv_iload_n hx hb dX12_init_331 rfl (lv_at hl 2 rfl) ?_
  refine lv_iload_n hx hb dX12_init_332 rfl (lv_at hl 0 rfl) ?_
  obtain ⟨h_2m, h_2, hp⟩ := hp
  refine w_ist F hK hW h_2m hK_y_1 h_2 dX12_init_333 (fun H locs hW => ?_)
  obtain ⟨S_3, eS_3⟩ : ∃ z : wS, z = uI S y_1 (x1).toNatClampNeg t0 := ⟨_, rfl⟩
  rw [← eS_3] at hW
  replace hp := hp S_3 eS_3
  have hX_S_3 : wX D S S_3 := by rw [eS_3]; exact wX_uI
  have hE := hE.trans hX_S_3
  have hK_a0 : sK S_3 a0 = 17 := (hX_S_3.2 a0 hL_a0).1.trans hK_a0
  have hL_a0 : wM D S_3 a0 := hX_S_3.M hL_a0
  refine lv_aload_n hx hb dX12_init_334 rfl (lv_at hl 1 rfl) ?_
  obtain ⟨y_4, ey_4, hL_y_4, hK_y_4, hp⟩ := hp
  refine w_get (k := 17) (f := 8) (T := TX12) (v := .ref y_4) F hK hW hL_a0 hK_a0 (by decide) rfl rfl (by decide) i_17 k_32 (by rw [show wv 17 8 S_3 a0 = va_rf (sR S_3 a0 8) from rfl, ey_4]; rfl) dX12_init_335 ?_
  refine lv_bipush (v := 8) hx hb dX12_init_338 (by decide) ?_
  refine lv_iload_n hx hb dX12_init_340 rfl (lv_at hl 2 rfl) ?_
  refine lv_iadd hx hb dX12_init_341 ?_
  refine lv_bipush (v := 6) hx hb dX12_init_342 (by decide) ?_
  obtain ⟨h_5m, h_5, hp⟩ := hp
  refine w_ist F hK hW h_5m hK_y_4 h_5 dX12_init_344 (fun H locs hW => ?_)
  obtain ⟨S_6, eS_6⟩ : ∃ z : wS, z = uI S_3 y_4 (((8 : Int32) + x1)).toNatClampNeg (6 : Int32) := ⟨_, rfl⟩
  rw [← eS_6] at hW
  replace hp := hp S_6 eS_6
  have hX_S_6 : wX D S_3 S_6 := by rw [eS_6]; exact wX_uI
  have hE := hE.trans hX_S_6
  have hK_a0 : sK S_6 a0 = 17 := (hX_S_6.2 a0 hL_a0).1.trans hK_a0
  have hL_a0 : wM D S_6 a0 := hX_S_6.M hL_a0
  refine lv_aload_n hx hb dX12_init_345 rfl (lv_at hl 1 rfl) ?_
  obtain ⟨y_7, ey_7, hL_y_7, hK_y_7, hp⟩ := hp
  refine w_get (k := 17) (f := 8) (T := TX12) (v := .ref y_7) F hK hW hL_a0 hK_a0 (by decide) rfl rfl (by decide) i_17 k_32 (by rw [show wv 17 8 S_6 a0 = va_rf (sR S_6 a0 8) from rfl, ey_7]; rfl) dX12_init_346 ?_
  refine lv_bipush (v := 48) hx hb dX12_init_349 (by decide) ?_
  refine lv_iload_n hx hb dX12_init_351 rfl (lv_at hl 2 rfl) ?_
  refine lv_iadd hx hb dX12_init_352 ?_
  refine lv_bipush (v := 12) hx hb dX12_init_353 (by decide) ?_
  obtain ⟨h_8m, h_8, hp⟩ := hp
  refine w_ist F hK hW h_8m hK_y_7 h_8 dX12_init_355 (fun H locs hW => ?_)
  obtain ⟨S_9, eS_9⟩ : ∃ z : wS, z = uI S_6 y_7 (((48 : Int32) + x1)).toNatClampNeg (12 : Int32) := ⟨_, rfl⟩
  rw [← eS_9] at hW
  replace hp := hp S_9 eS_9
  have hX_S_9 : wX D S_6 S_9 := by rw [eS_9]; exact wX_uI
  have hE := hE.trans hX_S_9
  have hK_a0 : sK S_9 a0 = 17 := (hX_S_9.2 a0 hL_a0).1.trans hK_a0
  have hL_a0 : wM D S_9 a0 := hX_S_9.M hL_a0
  refine lv_aload_n hx hb dX12_init_356 rfl (lv_at hl 1 rfl) ?_
  obtain ⟨y_10, ey_10, hL_y_10, hK_y_10, hp⟩ := hp
  refine w_get (k := 17) (f := 8) (T := TX12) (v := .ref y_10) F hK hW hL_a0 hK_a0 (by decide) rfl rfl (by decide) i_17 k_32 (by rw [show wv 17 8 S_9 a0 = va_rf (sR S_9 a0 8) from rfl, ey_10]; rfl) dX12_init_357 ?_
  refine lv_bipush (v := 56) hx hb dX12_init_360 (by decide) ?_
  refine lv_iload_n hx hb dX12_init_362 rfl (lv_at hl 2 rfl) ?_
  refine lv_iadd hx hb dX12_init_363 ?_
  refine lv_iload_n hx hb dX12_init_364 rfl (lv_at hl 0 rfl) ?_
  refine lv_bipush (v := 6) hx hb dX12_init_365 (by decide) ?_
  refine lv_iadd hx hb dX12_init_367 ?_
  obtain ⟨h_11m, h_11, hp⟩ := hp
  refine w_ist F hK hW h_11m hK_y_10 h_11 dX12_init_368 (fun H locs hW => ?_)
  obtain ⟨S_12, eS_12⟩ : ∃ z : wS, z = uI S_9 y_10 (((56 : Int32) + x1)).toNatClampNeg (t0 + (6 : Int32)) := ⟨_, rfl⟩
  rw [← eS_12] at hW
  replace hp := hp S_12 eS_12
  have hX_S_12 : wX D S_9 S_12 := by rw [eS_12]; exact wX_uI
  have hE := hE.trans hX_S_12
  have hK_a0 : sK S_12 a0 = 17 := (hX_S_12.2 a0 hL_a0).1.trans hK_a0
  have hL_a0 : wM D S_12 a0 := hX_S_12.M hL_a0
  obtain ⟨x_13, ex_13⟩ : ∃ z : Int32, z = x1 + 1 := ⟨_, rfl⟩
  replace hp := hp x_13 ex_13
  refine lv_iinc (v := x_13) (lv' := [(1, .int x_13), (2, .int t0), (0, .ref a0)]) hx hb dX12_init_369 hl (k := 2) rfl (by rw [ex_13]; rfl) (by decide) rfl (fun ls hl => ?_)
  refine lv_goto (tgt := 267) hx hb dX12_init_372 (by decide) ?_
  exact q_267 hp hW hE (lv_sub hl [2, 0] rfl) hL_a0 hK_a0
set_option maxHeartbeats 4000000 in
set_option maxRecDepth 100000 in
theorem t_X12_init_312 {p : Program} {l : Launch} {e : Env} {s : State} {m : MethodId} {args : Array Value} {below : List Frame} {meth : Method} {c : Code} {D : wD} {cy : Nat → ClassId} {X : va_W} {A : Nat → Prop} {S0 : wS} {post : wS → Prop} (F : CallFix p m c cX12_init 3 s args wz_X12_init RX12) (hr : meth.sig.returnType = none) (hlocks : meth.locks = false) (hK : wK D cy A s) (hin : meth.name = "<init>") {k_267 : wS → Nat → Int32 → Prop} (q_267 : ∀ {S : wS} {H : Heap} {locs : List Loc} {ls : Array Slot} {a0 : Nat} {x1 : Int32}, k_267 S a0 x1 → wO D cy X A s.heap S H locs → wX D S0 S → lv_has ls 3 [(0, .ref a0), (1, .int x1)] → wM D S a0 → sK S a0 = 17 → W p l e r_X12_init s m args below meth c H locs 29 586881 (MQ below (va_Qv (fun S9 => wX D S0 S9 ∧ post S9) (wB D cy X A) A) args s 29 586881 A) (F0 m 267 ls [])) : ∀ {S : wS} {H : Heap} {locs : List Loc} {ls : Array Slot} {a0 : Nat} {x1 : Int32}, wp_X12_init_312 D post k_267 S a0 x1 → wO D cy X A s.heap S H locs → wX D S0 S → lv_has ls 3 [(0, .ref a0), (1, .int x1)] → wM D S a0 → sK S a0 = 17 → W p l e r_X12_init s m args below meth c H locs 29 586881 (MQ below (va_Qv (fun S9 => wX D S0 S9 ∧ post S9) (wB D cy X A) A) args s 29 586881 A) (F0 m 312 ls []) := by
  obtain ⟨hx, hb, hml, hown, hts⟩ := id F
  have hwg : ∀ w ∈ WG, w.before args s = true := fun w h => hts w (List.mem_cons_of_mem _ h)
  intro S H locs ls a0 x1 hp hW hE hl hL_a0 hK_a0
  unfold wp_X12_init_312 at hp
  refine lv_iconst (v := 4) hx hb dX12_init_312 (by decide) ?_
  refine lv_goto (tgt := 326) hx hb dX12_init_313 (by decide) ?_
  exact t_X12_init_326 F hr hlocks hK hin q_267 hp hW hE (lv_sub hl [0, 1] rfl) hL_a0 hK_a0
set_option maxHeartbeats 4000000 in
set_option maxRecDepth 100000 in
theorem t_X12_init_298 {p : Program} {l : Launch} {e : Env} {s : State} {m : MethodId} {args : Array Value} {below : List Frame} {meth : Method} {c : Code} {D : wD} {cy : Nat → ClassId} {X : va_W} {A : Nat → Prop} {S0 : wS} {post : wS → Prop} (F : CallFix p m c cX12_init 3 s args wz_X12_init RX12) (hr : meth.sig.returnType = none) (hlocks : meth.locks = false) (hK : wK D cy A s) (hin : meth.name = "<init>") {k_267 : wS → Nat → Int32 → Prop} (q_267 : ∀ {S : wS} {H : Heap} {locs : List Loc} {ls : Array Slot} {a0 : Nat} {x1 : Int32}, k_267 S a0 x1 → wO D cy X A s.heap S H locs → wX D S0 S → lv_has ls 3 [(0, .ref a0), (1, .int x1)] → wM D S a0 → sK S a0 = 17 → W p l e r_X12_init s m args below meth c H locs 29 586881 (MQ below (va_Qv (fun S9 => wX D S0 S9 ∧ post S9) (wB D cy X A) A) args s 29 586881 A) (F0 m 267 ls [])) : ∀ {S : wS} {H : Heap} {locs : List Loc} {ls : Array Slot} {a0 : Nat} {x1 : Int32}, wp_X12_init_298 D post k_267 S a0 x1 → wO D cy X A s.heap S H locs → wX D S0 S → lv_has ls 3 [(0, .ref a0), (1, .int x1)] → wM D S a0 → sK S a0 = 17 → W p l e r_X12_init s m args below meth c H locs 29 586881 (MQ below (va_Qv (fun S9 => wX D S0 S9 ∧ post S9) (wB D cy X A) A) args s 29 586881 A) (F0 m 298 ls []) := by
  obtain ⟨hx, hb, hml, hown, hts⟩ := id F
  have hwg : ∀ w ∈ WG, w.before args s = true := fun w h => hts w (List.mem_cons_of_mem _ h)
  intro S H locs ls a0 x1 hp hW hE hl hL_a0 hK_a0
  unfold wp_X12_init_298 at hp
  refine lv_iconst (v := 5) hx hb dX12_init_298 (by decide) ?_
  refine lv_goto (tgt := 326) hx hb dX12_init_299 (by decide) ?_
  exact t_X12_init_326 F hr hlocks hK hin q_267 hp hW hE (lv_sub hl [0, 1] rfl) hL_a0 hK_a0
set_option maxHeartbeats 4000000 in
set_option maxRecDepth 100000 in
theorem t_X12_init_283 {p : Program} {l : Launch} {e : Env} {s : State} {m : MethodId} {args : Array Value} {below : List Frame} {meth : Method} {c : Code} {D : wD} {cy : Nat → ClassId} {X : va_W} {A : Nat → Prop} {S0 : wS} {post : wS → Prop} (F : CallFix p m c cX12_init 3 s args wz_X12_init RX12) (hr : meth.sig.returnType = none) (hlocks : meth.locks = false) (hK : wK D cy A s) (hin : meth.name = "<init>") {k_267 : wS → Nat → Int32 → Prop} (q_267 : ∀ {S : wS} {H : Heap} {locs : List Loc} {ls : Array Slot} {a0 : Nat} {x1 : Int32}, k_267 S a0 x1 → wO D cy X A s.heap S H locs → wX D S0 S → lv_has ls 3 [(0, .ref a0), (1, .int x1)] → wM D S a0 → sK S a0 = 17 → W p l e r_X12_init s m args below meth c H locs 29 586881 (MQ below (va_Qv (fun S9 => wX D S0 S9 ∧ post S9) (wB D cy X A) A) args s 29 586881 A) (F0 m 267 ls [])) : ∀ {S : wS} {H : Heap} {locs : List Loc} {ls : Array Slot} {a0 : Nat} {x1 : Int32}, wp_X12_init_283 D post k_267 S a0 x1 → wO D cy X A s.heap S H locs → wX D S0 S → lv_has ls 3 [(0, .ref a0), (1, .int x1)] → wM D S a0 → sK S a0 = 17 → W p l e r_X12_init s m args below meth c H locs 29 586881 (MQ below (va_Qv (fun S9 => wX D S0 S9 ∧ post S9) (wB D cy X A) A) args s 29 586881 A) (F0 m 283 ls []) := by
  obtain ⟨hx, hb, hml, hown, hts⟩ := id F
  have hwg : ∀ w ∈ WG, w.before args s = true := fun w h => hts w (List.mem_cons_of_mem _ h)
  intro S H locs ls a0 x1 hp hW hE hl hL_a0 hK_a0
  unfold wp_X12_init_283 at hp
  refine lv_iconst (v := 3) hx hb dX12_init_283 (by decide) ?_
  refine lv_goto (tgt := 326) hx hb dX12_init_284 (by decide) ?_
  exact t_X12_init_326 F hr hlocks hK hin q_267 hp hW hE (lv_sub hl [0, 1] rfl) hL_a0 hK_a0
set_option maxHeartbeats 4000000 in
set_option maxRecDepth 100000 in
theorem t_X12_init_267 {p : Program} {l : Launch} {e : Env} {s : State} {m : MethodId} {args : Array Value} {below : List Frame} {meth : Method} {c : Code} {D : wD} {cy : Nat → ClassId} {X : va_W} {A : Nat → Prop} {S0 : wS} {post : wS → Prop} (F : CallFix p m c cX12_init 3 s args wz_X12_init RX12) (hr : meth.sig.returnType = none) (hlocks : meth.locks = false) (hK : wK D cy A s) (hin : meth.name = "<init>") : ∀ (n : Nat) {S : wS} {H : Heap} {locs : List Loc} {ls : Array Slot} {a0 : Nat} {x1 : Int32}, wp_X12_init_267 D post n S a0 x1 → wO D cy X A s.heap S H locs → wX D S0 S → lv_has ls 3 [(0, .ref a0), (1, .int x1)] → wM D S a0 → sK S a0 = 17 → W p l e r_X12_init s m args below meth c H locs 29 586881 (MQ below (va_Qv (fun S9 => wX D S0 S9 ∧ post S9) (wB D cy X A) A) args s 29 586881 A) (F0 m 267 ls []) := by
  obtain ⟨hx, hb, hml, hown, hts⟩ := id F
  have hwg : ∀ w ∈ WG, w.before args s = true := fun w h => hts w (List.mem_cons_of_mem _ h)
  have i_17 : ∀ w ∈ u_ws RX12 TX12 43, w ∈ wz_X12_init := fun w h => List.mem_cons_of_mem _ (wu_17 w h)
  have k_32 := hwg _ wf_RX12_32
  intro n
  induction n with
  | zero =>
    intro S H locs ls a0 x1 hp
    exact hp.elim
  | succ n ih =>
    intro S H locs ls a0 x1 hp hW hE hl hL_a0 hK_a0
    unfold wp_X12_init_267 at hp
    refine lv_iload_n hx hb dX12_init_267 rfl (lv_at hl 1 rfl) ?_
    refine lv_bipush (v := 8) hx hb dX12_init_268 (by decide) ?_
    refine lv_icmp_ge (tgt := 375) hx hb dX12_init_270 (by decide) (fun c_1 => ?_) (fun c_1 => ?_)
    · replace hp := hp.1 c_1
      refine lv_aload_n hx hb dX12_init_375 rfl (lv_at hl 0 rfl) ?_
      obtain ⟨y_2, ey_2, hL_y_2, hK_y_2, hp⟩ := hp
      refine w_get (k := 17) (f := 8) (T := TX12) (v := .ref y_2) F hK hW hL_a0 hK_a0 (by decide) rfl rfl (by decide) i_17 k_32 (by rw [show wv 17 8 S a0 = va_rf (sR S a0 8) from rfl, ey_2]; rfl) dX12_init_376 ?_
      refine lv_bipush (v := 65) hx hb dX12_init_379 (by decide) ?_
      refine lv_bipush (v := 15) hx hb dX12_init_381 (by decide) ?_
      obtain ⟨h_3m, h_3, hp⟩ := hp
      refine w_ist F hK hW h_3m hK_y_2 h_3 dX12_init_383 (fun H locs hW => ?_)
      obtain ⟨S_4, eS_4⟩ : ∃ z : wS, z = uI S y_2 ((65 : Int32)).toNatClampNeg (15 : Int32) := ⟨_, rfl⟩
      rw [← eS_4] at hW
      replace hp := hp S_4 eS_4
      have hX_S_4 : wX D S S_4 := by rw [eS_4]; exact wX_uI
      have hE := hE.trans hX_S_4
      have hK_a0 : sK S_4 a0 = 17 := (hX_S_4.2 a0 hL_a0).1.trans hK_a0
      have hL_a0 : wM D S_4 a0 := hX_S_4.M hL_a0
      exact w_vret hx hb hr hlocks hW ⟨hE, hp⟩ dX12_init_384
    · replace hp := hp.2 c_1
      refine lv_iload_n hx hb dX12_init_273 rfl (lv_at hl 1 rfl) ?_
      refine lv_if_eq (tgt := 283) hx hb dX12_init_274 (by decide) (fun c_5 => ?_) (fun c_5 => ?_)
      · replace hp := hp.1 c_5
        exact t_X12_init_283 F hr hlocks hK hin ih hp hW hE (lv_sub hl [0, 1] rfl) hL_a0 hK_a0
      · replace hp := hp.2 c_5
        refine lv_iload_n hx hb dX12_init_277 rfl (lv_at hl 1 rfl) ?_
        refine lv_bipush (v := 7) hx hb dX12_init_278 (by decide) ?_
        refine lv_icmp_ne (tgt := 287) hx hb dX12_init_280 (by decide) (fun c_6 => ?_) (fun c_6 => ?_)
        · replace hp := hp.1 c_6
          refine lv_iload_n hx hb dX12_init_287 rfl (lv_at hl 1 rfl) ?_
          refine lv_iconst (v := 1) hx hb dX12_init_288 (by decide) ?_
          refine lv_icmp_eq (tgt := 298) hx hb dX12_init_289 (by decide) (fun c_7 => ?_) (fun c_7 => ?_)
          · replace hp := hp.1 c_7
            exact t_X12_init_298 F hr hlocks hK hin ih hp hW hE (lv_sub hl [0, 1] rfl) hL_a0 hK_a0
          · replace hp := hp.2 c_7
            refine lv_iload_n hx hb dX12_init_292 rfl (lv_at hl 1 rfl) ?_
            refine lv_bipush (v := 6) hx hb dX12_init_293 (by decide) ?_
            refine lv_icmp_ne (tgt := 302) hx hb dX12_init_295 (by decide) (fun c_8 => ?_) (fun c_8 => ?_)
            · replace hp := hp.1 c_8
              refine lv_iload_n hx hb dX12_init_302 rfl (lv_at hl 1 rfl) ?_
              refine lv_iconst (v := 2) hx hb dX12_init_303 (by decide) ?_
              refine lv_icmp_eq (tgt := 312) hx hb dX12_init_304 (by decide) (fun c_9 => ?_) (fun c_9 => ?_)
              · replace hp := hp.1 c_9
                exact t_X12_init_312 F hr hlocks hK hin ih hp hW hE (lv_sub hl [0, 1] rfl) hL_a0 hK_a0
              · replace hp := hp.2 c_9
                refine lv_iload_n hx hb dX12_init_307 rfl (lv_at hl 1 rfl) ?_
                refine lv_iconst (v := 5) hx hb dX12_init_308 (by decide) ?_
                refine lv_icmp_ne (tgt := 316) hx hb dX12_init_309 (by decide) (fun c_10 => ?_) (fun c_10 => ?_)
                · replace hp := hp.1 c_10
                  refine lv_iload_n hx hb dX12_init_316 rfl (lv_at hl 1 rfl) ?_
                  refine lv_iconst (v := 3) hx hb dX12_init_317 (by decide) ?_
                  refine lv_icmp_ne (tgt := 325) hx hb dX12_init_318 (by decide) (fun c_11 => ?_) (fun c_11 => ?_)
                  · replace hp := hp.1 c_11
                    refine lv_iconst (v := 1) hx hb dX12_init_325 (by decide) ?_
                    exact t_X12_init_326 F hr hlocks hK hin ih hp hW hE (lv_sub hl [0, 1] rfl) hL_a0 hK_a0
                  · replace hp := hp.2 c_11
                    refine lv_iconst (v := 2) hx hb dX12_init_321 (by decide) ?_
                    refine lv_goto (tgt := 326) hx hb dX12_init_322 (by decide) ?_
                    exact t_X12_init_326 F hr hlocks hK hin ih hp hW hE (lv_sub hl [0, 1] rfl) hL_a0 hK_a0
                · replace hp := hp.2 c_10
                  exact t_X12_init_312 F hr hlocks hK hin ih hp hW hE (lv_sub hl [0, 1] rfl) hL_a0 hK_a0
            · replace hp := hp.2 c_8
              exact t_X12_init_298 F hr hlocks hK hin ih hp hW hE (lv_sub hl [0, 1] rfl) hL_a0 hK_a0
        · replace hp := hp.2 c_6
          exact t_X12_init_283 F hr hlocks hK hin ih hp hW hE (lv_sub hl [0, 1] rfl) hL_a0 hK_a0
set_option maxHeartbeats 4000000 in
set_option maxRecDepth 100000 in
theorem t_X12_init_0 {p : Program} {l : Launch} {e : Env} {s : State} {m : MethodId} {args : Array Value} {below : List Frame} {meth : Method} {c : Code} {D : wD} {cy : Nat → ClassId} {X : va_W} {A : Nat → Prop} {S0 : wS} {post : wS → Prop} (F : CallFix p m c cX12_init 3 s args wz_X12_init RX12) (hr : meth.sig.returnType = none) (hlocks : meth.locks = false) (hK : wK D cy A s) (hin : meth.name = "<init>") : ∀ {S : wS} {H : Heap} {locs : List Loc} {ls : Array Slot} {a0 : Nat}, wp_X12_init_0 D post S a0 → wO D cy X A s.heap S H locs → wX D S0 S → lv_has ls 3 [(0, .ref a0)] → wM D S a0 → sK S a0 = 17 → W p l e r_X12_init s m args below meth c H locs 0 0 (MQ below (va_Qv (fun S9 => wX D S0 S9 ∧ post S9) (wB D cy X A) A) args s 29 586881 A) (F0 m 0 ls []) := by
  obtain ⟨hx, hb, hml, hown, hts⟩ := id F
  have hwg : ∀ w ∈ WG, w.before args s = true := fun w h => hts w (List.mem_cons_of_mem _ h)
  have i_17 : ∀ w ∈ u_ws RX12 TX12 43, w ∈ wz_X12_init := fun w h => List.mem_cons_of_mem _ (wu_17 w h)
  have k_101 := hwg _ wf_RX12_101
  have k_104 := hwg _ wf_RX12_104
  have k_13 := hwg _ wf_RX12_13
  have k_16 := hwg _ wf_RX12_16
  have k_20 := hwg _ wf_RX12_20
  have k_23 := hwg _ wf_RX12_23
  have k_26 := hwg _ wf_RX12_26
  have k_29 := hwg _ wf_RX12_29
  have k_32 := hwg _ wf_RX12_32
  have k_35 := hwg _ wf_RX12_35
  have k_38 := hwg _ wf_RX12_38
  have k_42 := hwg _ wf_RX12_42
  have k_45 := hwg _ wf_RX12_45
  have k_48 := hwg _ wf_RX12_48
  have k_51 := hwg _ wf_RX12_51
  have k_54 := hwg _ wf_RX12_54
  have k_57 := hwg _ wf_RX12_57
  have k_60 := hwg _ wf_RX12_60
  have k_63 := hwg _ wf_RX12_63
  have k_66 := hwg _ wf_RX12_66
  have k_69 := hwg _ wf_RX12_69
  have k_73 := hwg _ wf_RX12_73
  have k_76 := hwg _ wf_RX12_76
  have k_79 := hwg _ wf_RX12_79
  have k_82 := hwg _ wf_RX12_82
  have k_85 := hwg _ wf_RX12_85
  have k_88 := hwg _ wf_RX12_88
  have k_9 := hwg _ wf_RX12_9
  have k_91 := hwg _ wf_RX12_91
  have k_94 := hwg _ wf_RX12_94
  have k_97 := hwg _ wf_RX12_97
  intro S H locs ls a0 hp hW hE hl hL_a0 hK_a0
  unfold wp_X12_init_0 at hp
  refine lv_aload_n hx hb dX12_init_0 rfl (lv_at hl 0 rfl) ?_
  refine W.objInit hx hb hown (hwg _ wm_RX12_3) (hwg _ wobj.1) (hwg _ wobj.2) rfl (by rw [hml]; exact hl.1) rfl dX12_init_1 (Nat.le_of_ble_eq_true rfl) (Nat.le_of_ble_eq_true rfl) ?_
  refine W.eq (g2 := F0 m 4 ls []) rfl ?_
  refine lv_aload_n hx hb dX12_init_4 rfl (lv_at hl 0 rfl) ?_
  refine lv_bipush (v := 8) hx hb dX12_init_5 (by decide) ?_
  refine w_putI (k := 17) (f := 1) (T := TX12) F hK hW hL_a0 hK_a0 (by decide) (by decide) rfl rfl (by decide) i_17 tyX12 tyX12_ok nmX12 k_9 rfl rfl (ty := .int) rfl rfl rfl dX12_init_7 (fun H locs hW => ?_)
  obtain ⟨S_1, eS_1⟩ : ∃ z : wS, z = uI S a0 1 (8 : Int32) := ⟨_, rfl⟩
  rw [← eS_1] at hW
  replace hp := hp S_1 eS_1
  have hX_S_1 : wX D S S_1 := by rw [eS_1]; exact wX_uI
  have hE := hE.trans hX_S_1
  have hK_a0 : sK S_1 a0 = 17 := (hX_S_1.2 a0 hL_a0).1.trans hK_a0
  have hL_a0 : wM D S_1 a0 := hX_S_1.M hL_a0
  refine lv_aload_n hx hb dX12_init_10 rfl (lv_at hl 0 rfl) ?_
  refine lv_bipush (v := 8) hx hb dX12_init_11 (by decide) ?_
  refine w_putI (k := 17) (f := 2) (T := TX12) F hK hW hL_a0 hK_a0 (by decide) (by decide) rfl rfl (by decide) i_17 tyX12 tyX12_ok nmX12 k_13 rfl rfl (ty := .int) rfl rfl rfl dX12_init_13 (fun H locs hW => ?_)
  obtain ⟨S_2, eS_2⟩ : ∃ z : wS, z = uI S_1 a0 2 (8 : Int32) := ⟨_, rfl⟩
  rw [← eS_2] at hW
  replace hp := hp S_2 eS_2
  have hX_S_2 : wX D S_1 S_2 := by rw [eS_2]; exact wX_uI
  have hE := hE.trans hX_S_2
  have hK_a0 : sK S_2 a0 = 17 := (hX_S_2.2 a0 hL_a0).1.trans hK_a0
  have hL_a0 : wM D S_2 a0 := hX_S_2.M hL_a0
  refine lv_aload_n hx hb dX12_init_16 rfl (lv_at hl 0 rfl) ?_
  refine lv_sipush (v := 536) hx hb dX12_init_17 (by decide) ?_
  obtain ⟨h_5, h_5b, hp⟩ := hp
  refine w_newaI F hK hW (hwg _ wr_int) h_5 (by omega) (Nat.le_of_ble_eq_true rfl) (Nat.le_trans (Nat.add_le_add_left h_5b _) (Nat.le_of_ble_eq_true rfl)) dX12_init_20 (fun y_3 H hq_y_3 hW => ?_)
  refine W.widen (k := 1) (n := 536) (by decide) (Nat.add_le_add_left h_5b _) ?_
  obtain ⟨S_4, eS_4⟩ : ∃ z : wS, z = nA S_2 y_3 21 ((536 : Int32)).toNatClampNeg := ⟨_, rfl⟩
  rw [← eS_4] at hW
  replace hp := hp y_3 hq_y_3 S_4 eS_4
  have hX_S_4 : wX D S_2 S_4 := by rw [eS_4]; exact wX_nA hq_y_3
  have hE := hE.trans hX_S_4
  have hK_a0 : sK S_4 a0 = 17 := (hX_S_4.2 a0 hL_a0).1.trans hK_a0
  have hL_a0 : wM D S_4 a0 := hX_S_4.M hL_a0
  have hL_y_3 : wM D S_4 y_3 := by rw [eS_4]; exact Or.inl (List.mem_append_right _ List.mem_cons_self)
  have hK_y_3 : sK S_4 y_3 = 21 := by rw [eS_4]; exact va_up_self _ _ _
  refine w_putRF (k := 17) (f := 3) (T := TX12) (g := (some y_3)) F hK hW hL_a0 hK_a0 (by decide) (by decide) rfl rfl (by decide) i_17 tyX12 tyX12_ok nmX12 k_16 rfl rfl hin rfl (ty := (.array .int)) rfl (v_narrow _ _) (v_fitsA _ _) dX12_init_22 (fun H locs hW => ?_)
  obtain ⟨S_6, eS_6⟩ : ∃ z : wS, z = uR S_4 a0 3 (some y_3) := ⟨_, rfl⟩
  rw [← eS_6] at hW
  replace hp := hp S_6 eS_6
  have hX_S_6 : wX D S_4 S_6 := by rw [eS_6]; exact wX_uR
  have hE := hE.trans hX_S_6
  have hK_a0 : sK S_6 a0 = 17 := (hX_S_6.2 a0 hL_a0).1.trans hK_a0
  have hL_a0 : wM D S_6 a0 := hX_S_6.M hL_a0
  refine lv_aload_n hx hb dX12_init_25 rfl (lv_at hl 0 rfl) ?_
  refine lv_sipush (v := 2560) hx hb dX12_init_26 (by decide) ?_
  obtain ⟨h_9, h_9b, hp⟩ := hp
  refine w_newaI F hK hW (hwg _ wr_int) h_9 (by omega) (Nat.le_of_ble_eq_true rfl) (Nat.le_trans (Nat.add_le_add_left h_9b _) (Nat.le_of_ble_eq_true rfl)) dX12_init_29 (fun y_7 H hq_y_7 hW => ?_)
  refine W.widen (k := 2) (n := 3096) (by decide) (Nat.add_le_add_left h_9b _) ?_
  obtain ⟨S_8, eS_8⟩ : ∃ z : wS, z = nA S_6 y_7 21 ((2560 : Int32)).toNatClampNeg := ⟨_, rfl⟩
  rw [← eS_8] at hW
  replace hp := hp y_7 hq_y_7 S_8 eS_8
  have hX_S_8 : wX D S_6 S_8 := by rw [eS_8]; exact wX_nA hq_y_7
  have hE := hE.trans hX_S_8
  have hK_a0 : sK S_8 a0 = 17 := (hX_S_8.2 a0 hL_a0).1.trans hK_a0
  have hL_a0 : wM D S_8 a0 := hX_S_8.M hL_a0
  have hL_y_7 : wM D S_8 y_7 := by rw [eS_8]; exact Or.inl (List.mem_append_right _ List.mem_cons_self)
  have hK_y_7 : sK S_8 y_7 = 21 := by rw [eS_8]; exact va_up_self _ _ _
  refine w_putRF (k := 17) (f := 4) (T := TX12) (g := (some y_7)) F hK hW hL_a0 hK_a0 (by decide) (by decide) rfl rfl (by decide) i_17 tyX12 tyX12_ok nmX12 k_20 rfl rfl hin rfl (ty := (.array .int)) rfl (v_narrow _ _) (v_fitsA _ _) dX12_init_31 (fun H locs hW => ?_)
  obtain ⟨S_10, eS_10⟩ : ∃ z : wS, z = uR S_8 a0 4 (some y_7) := ⟨_, rfl⟩
  rw [← eS_10] at hW
  replace hp := hp S_10 eS_10
  have hX_S_10 : wX D S_8 S_10 := by rw [eS_10]; exact wX_uR
  have hE := hE.trans hX_S_10
  have hK_a0 : sK S_10 a0 = 17 := (hX_S_10.2 a0 hL_a0).1.trans hK_a0
  have hL_a0 : wM D S_10 a0 := hX_S_10.M hL_a0
  refine lv_aload_n hx hb dX12_init_34 rfl (lv_at hl 0 rfl) ?_
  refine lv_sipush (v := 2560) hx hb dX12_init_35 (by decide) ?_
  obtain ⟨h_13, h_13b, hp⟩ := hp
  refine w_newaI F hK hW (hwg _ wr_int) h_13 (by omega) (Nat.le_of_ble_eq_true rfl) (Nat.le_trans (Nat.add_le_add_left h_13b _) (Nat.le_of_ble_eq_true rfl)) dX12_init_38 (fun y_11 H hq_y_11 hW => ?_)
  refine W.widen (k := 3) (n := 5656) (by decide) (Nat.add_le_add_left h_13b _) ?_
  obtain ⟨S_12, eS_12⟩ : ∃ z : wS, z = nA S_10 y_11 21 ((2560 : Int32)).toNatClampNeg := ⟨_, rfl⟩
  rw [← eS_12] at hW
  replace hp := hp y_11 hq_y_11 S_12 eS_12
  have hX_S_12 : wX D S_10 S_12 := by rw [eS_12]; exact wX_nA hq_y_11
  have hE := hE.trans hX_S_12
  have hK_a0 : sK S_12 a0 = 17 := (hX_S_12.2 a0 hL_a0).1.trans hK_a0
  have hL_a0 : wM D S_12 a0 := hX_S_12.M hL_a0
  have hL_y_11 : wM D S_12 y_11 := by rw [eS_12]; exact Or.inl (List.mem_append_right _ List.mem_cons_self)
  have hK_y_11 : sK S_12 y_11 = 21 := by rw [eS_12]; exact va_up_self _ _ _
  refine w_putRF (k := 17) (f := 5) (T := TX12) (g := (some y_11)) F hK hW hL_a0 hK_a0 (by decide) (by decide) rfl rfl (by decide) i_17 tyX12 tyX12_ok nmX12 k_23 rfl rfl hin rfl (ty := (.array .int)) rfl (v_narrow _ _) (v_fitsA _ _) dX12_init_40 (fun H locs hW => ?_)
  obtain ⟨S_14, eS_14⟩ : ∃ z : wS, z = uR S_12 a0 5 (some y_11) := ⟨_, rfl⟩
  rw [← eS_14] at hW
  replace hp := hp S_14 eS_14
  have hX_S_14 : wX D S_12 S_14 := by rw [eS_14]; exact wX_uR
  have hE := hE.trans hX_S_14
  have hK_a0 : sK S_14 a0 = 17 := (hX_S_14.2 a0 hL_a0).1.trans hK_a0
  have hL_a0 : wM D S_14 a0 := hX_S_14.M hL_a0
  refine lv_aload_n hx hb dX12_init_43 rfl (lv_at hl 0 rfl) ?_
  refine lv_sipush (v := 2560) hx hb dX12_init_44 (by decide) ?_
  obtain ⟨h_17, h_17b, hp⟩ := hp
  refine w_newaI F hK hW (hwg _ wr_int) h_17 (by omega) (Nat.le_of_ble_eq_true rfl) (Nat.le_trans (Nat.add_le_add_left h_17b _) (Nat.le_of_ble_eq_true rfl)) dX12_init_47 (fun y_15 H hq_y_15 hW => ?_)
  refine W.widen (k := 4) (n := 8216) (by decide) (Nat.add_le_add_left h_17b _) ?_
  obtain ⟨S_16, eS_16⟩ : ∃ z : wS, z = nA S_14 y_15 21 ((2560 : Int32)).toNatClampNeg := ⟨_, rfl⟩
  rw [← eS_16] at hW
  replace hp := hp y_15 hq_y_15 S_16 eS_16
  have hX_S_16 : wX D S_14 S_16 := by rw [eS_16]; exact wX_nA hq_y_15
  have hE := hE.trans hX_S_16
  have hK_a0 : sK S_16 a0 = 17 := (hX_S_16.2 a0 hL_a0).1.trans hK_a0
  have hL_a0 : wM D S_16 a0 := hX_S_16.M hL_a0
  have hL_y_15 : wM D S_16 y_15 := by rw [eS_16]; exact Or.inl (List.mem_append_right _ List.mem_cons_self)
  have hK_y_15 : sK S_16 y_15 = 21 := by rw [eS_16]; exact va_up_self _ _ _
  refine w_putRF (k := 17) (f := 6) (T := TX12) (g := (some y_15)) F hK hW hL_a0 hK_a0 (by decide) (by decide) rfl rfl (by decide) i_17 tyX12 tyX12_ok nmX12 k_26 rfl rfl hin rfl (ty := (.array .int)) rfl (v_narrow _ _) (v_fitsA _ _) dX12_init_49 (fun H locs hW => ?_)
  obtain ⟨S_18, eS_18⟩ : ∃ z : wS, z = uR S_16 a0 6 (some y_15) := ⟨_, rfl⟩
  rw [← eS_18] at hW
  replace hp := hp S_18 eS_18
  have hX_S_18 : wX D S_16 S_18 := by rw [eS_18]; exact wX_uR
  have hE := hE.trans hX_S_18
  have hK_a0 : sK S_18 a0 = 17 := (hX_S_18.2 a0 hL_a0).1.trans hK_a0
  have hL_a0 : wM D S_18 a0 := hX_S_18.M hL_a0
  refine lv_aload_n hx hb dX12_init_52 rfl (lv_at hl 0 rfl) ?_
  refine lv_bipush (v := 8) hx hb dX12_init_53 (by decide) ?_
  obtain ⟨h_21, h_21b, hp⟩ := hp
  refine w_newaI F hK hW (hwg _ wr_int) h_21 (by omega) (Nat.le_of_ble_eq_true rfl) (Nat.le_trans (Nat.add_le_add_left h_21b _) (Nat.le_of_ble_eq_true rfl)) dX12_init_55 (fun y_19 H hq_y_19 hW => ?_)
  refine W.widen (k := 5) (n := 8224) (by decide) (Nat.add_le_add_left h_21b _) ?_
  obtain ⟨S_20, eS_20⟩ : ∃ z : wS, z = nA S_18 y_19 21 ((8 : Int32)).toNatClampNeg := ⟨_, rfl⟩
  rw [← eS_20] at hW
  replace hp := hp y_19 hq_y_19 S_20 eS_20
  have hX_S_20 : wX D S_18 S_20 := by rw [eS_20]; exact wX_nA hq_y_19
  have hE := hE.trans hX_S_20
  have hK_a0 : sK S_20 a0 = 17 := (hX_S_20.2 a0 hL_a0).1.trans hK_a0
  have hL_a0 : wM D S_20 a0 := hX_S_20.M hL_a0
  have hL_y_19 : wM D S_20 y_19 := by rw [eS_20]; exact Or.inl (List.mem_append_right _ List.mem_cons_self)
  have hK_y_19 : sK S_20 y_19 = 21 := by rw [eS_20]; exact va_up_self _ _ _
  refine w_putRF (k := 17) (f := 7) (T := TX12) (g := (some y_19)) F hK hW hL_a0 hK_a0 (by decide) (by decide) rfl rfl (by decide) i_17 tyX12 tyX12_ok nmX12 k_29 rfl rfl hin rfl (ty := (.array .int)) rfl (v_narrow _ _) (v_fitsA _ _) dX12_init_57 (fun H locs hW => ?_)
  obtain ⟨S_22, eS_22⟩ : ∃ z : wS, z = uR S_20 a0 7 (some y_19) := ⟨_, rfl⟩
  rw [← eS_22] at hW
  replace hp := hp S_22 eS_22
  have hX_S_22 : wX D S_20 S_22 := by rw [eS_22]; exact wX_uR
  have hE := hE.trans hX_S_22
  have hK_a0 : sK S_22 a0 = 17 := (hX_S_22.2 a0 hL_a0).1.trans hK_a0
  have hL_a0 : wM D S_22 a0 := hX_S_22.M hL_a0
  refine lv_aload_n hx hb dX12_init_60 rfl (lv_at hl 0 rfl) ?_
  refine lv_sipush (v := 5427) hx hb dX12_init_61 (by decide) ?_
  obtain ⟨h_25, h_25b, hp⟩ := hp
  refine w_newaI F hK hW (hwg _ wr_int) h_25 (by omega) (Nat.le_of_ble_eq_true rfl) (Nat.le_trans (Nat.add_le_add_left h_25b _) (Nat.le_of_ble_eq_true rfl)) dX12_init_64 (fun y_23 H hq_y_23 hW => ?_)
  refine W.widen (k := 6) (n := 13651) (by decide) (Nat.add_le_add_left h_25b _) ?_
  obtain ⟨S_24, eS_24⟩ : ∃ z : wS, z = nA S_22 y_23 21 ((5427 : Int32)).toNatClampNeg := ⟨_, rfl⟩
  rw [← eS_24] at hW
  replace hp := hp y_23 hq_y_23 S_24 eS_24
  have hX_S_24 : wX D S_22 S_24 := by rw [eS_24]; exact wX_nA hq_y_23
  have hE := hE.trans hX_S_24
  have hK_a0 : sK S_24 a0 = 17 := (hX_S_24.2 a0 hL_a0).1.trans hK_a0
  have hL_a0 : wM D S_24 a0 := hX_S_24.M hL_a0
  have hL_y_23 : wM D S_24 y_23 := by rw [eS_24]; exact Or.inl (List.mem_append_right _ List.mem_cons_self)
  have hK_y_23 : sK S_24 y_23 = 21 := by rw [eS_24]; exact va_up_self _ _ _
  refine w_putRF (k := 17) (f := 8) (T := TX12) (g := (some y_23)) F hK hW hL_a0 hK_a0 (by decide) (by decide) rfl rfl (by decide) i_17 tyX12 tyX12_ok nmX12 k_32 rfl rfl hin rfl (ty := (.array .int)) rfl (v_narrow _ _) (v_fitsA _ _) dX12_init_66 (fun H locs hW => ?_)
  obtain ⟨S_26, eS_26⟩ : ∃ z : wS, z = uR S_24 a0 8 (some y_23) := ⟨_, rfl⟩
  rw [← eS_26] at hW
  replace hp := hp S_26 eS_26
  have hX_S_26 : wX D S_24 S_26 := by rw [eS_26]; exact wX_uR
  have hE := hE.trans hX_S_26
  have hK_a0 : sK S_26 a0 = 17 := (hX_S_26.2 a0 hL_a0).1.trans hK_a0
  have hL_a0 : wM D S_26 a0 := hX_S_26.M hL_a0
  refine lv_aload_n hx hb dX12_init_69 rfl (lv_at hl 0 rfl) ?_
  refine lv_bipush (v := 80) hx hb dX12_init_70 (by decide) ?_
  obtain ⟨h_29, h_29b, hp⟩ := hp
  refine w_newaI F hK hW (hwg _ wr_int) h_29 (by omega) (Nat.le_of_ble_eq_true rfl) (Nat.le_trans (Nat.add_le_add_left h_29b _) (Nat.le_of_ble_eq_true rfl)) dX12_init_72 (fun y_27 H hq_y_27 hW => ?_)
  refine W.widen (k := 7) (n := 13731) (by decide) (Nat.add_le_add_left h_29b _) ?_
  obtain ⟨S_28, eS_28⟩ : ∃ z : wS, z = nA S_26 y_27 21 ((80 : Int32)).toNatClampNeg := ⟨_, rfl⟩
  rw [← eS_28] at hW
  replace hp := hp y_27 hq_y_27 S_28 eS_28
  have hX_S_28 : wX D S_26 S_28 := by rw [eS_28]; exact wX_nA hq_y_27
  have hE := hE.trans hX_S_28
  have hK_a0 : sK S_28 a0 = 17 := (hX_S_28.2 a0 hL_a0).1.trans hK_a0
  have hL_a0 : wM D S_28 a0 := hX_S_28.M hL_a0
  have hL_y_27 : wM D S_28 y_27 := by rw [eS_28]; exact Or.inl (List.mem_append_right _ List.mem_cons_self)
  have hK_y_27 : sK S_28 y_27 = 21 := by rw [eS_28]; exact va_up_self _ _ _
  refine w_putRF (k := 17) (f := 9) (T := TX12) (g := (some y_27)) F hK hW hL_a0 hK_a0 (by decide) (by decide) rfl rfl (by decide) i_17 tyX12 tyX12_ok nmX12 k_35 rfl rfl hin rfl (ty := (.array .int)) rfl (v_narrow _ _) (v_fitsA _ _) dX12_init_74 (fun H locs hW => ?_)
  obtain ⟨S_30, eS_30⟩ : ∃ z : wS, z = uR S_28 a0 9 (some y_27) := ⟨_, rfl⟩
  rw [← eS_30] at hW
  replace hp := hp S_30 eS_30
  have hX_S_30 : wX D S_28 S_30 := by rw [eS_30]; exact wX_uR
  have hE := hE.trans hX_S_30
  have hK_a0 : sK S_30 a0 = 17 := (hX_S_30.2 a0 hL_a0).1.trans hK_a0
  have hL_a0 : wM D S_30 a0 := hX_S_30.M hL_a0
  refine lv_aload_n hx hb dX12_init_77 rfl (lv_at hl 0 rfl) ?_
  refine lv_bipush (v := 80) hx hb dX12_init_78 (by decide) ?_
  obtain ⟨h_33, h_33b, hp⟩ := hp
  refine w_newaZ F hK hW (hwg _ wr_boolean) h_33 (by omega) (Nat.le_of_ble_eq_true rfl) (Nat.le_trans (Nat.add_le_add_left h_33b _) (Nat.le_of_ble_eq_true rfl)) dX12_init_80 (fun y_31 H hq_y_31 hW => ?_)
  refine W.widen (k := 8) (n := 13811) (by decide) (Nat.add_le_add_left h_33b _) ?_
  obtain ⟨S_32, eS_32⟩ : ∃ z : wS, z = nA S_30 y_31 23 ((80 : Int32)).toNatClampNeg := ⟨_, rfl⟩
  rw [← eS_32] at hW
  replace hp := hp y_31 hq_y_31 S_32 eS_32
  have hX_S_32 : wX D S_30 S_32 := by rw [eS_32]; exact wX_nA hq_y_31
  have hE := hE.trans hX_S_32
  have hK_a0 : sK S_32 a0 = 17 := (hX_S_32.2 a0 hL_a0).1.trans hK_a0
  have hL_a0 : wM D S_32 a0 := hX_S_32.M hL_a0
  have hL_y_31 : wM D S_32 y_31 := by rw [eS_32]; exact Or.inl (List.mem_append_right _ List.mem_cons_self)
  have hK_y_31 : sK S_32 y_31 = 23 := by rw [eS_32]; exact va_up_self _ _ _
  refine w_putRF (k := 17) (f := 10) (T := TX12) (g := (some y_31)) F hK hW hL_a0 hK_a0 (by decide) (by decide) rfl rfl (by decide) i_17 tyX12 tyX12_ok nmX12 k_38 rfl rfl hin rfl (ty := (.array .boolean)) rfl (v_narrow _ _) (v_fitsA _ _) dX12_init_82 (fun H locs hW => ?_)
  obtain ⟨S_34, eS_34⟩ : ∃ z : wS, z = uR S_32 a0 10 (some y_31) := ⟨_, rfl⟩
  rw [← eS_34] at hW
  replace hp := hp S_34 eS_34
  have hX_S_34 : wX D S_32 S_34 := by rw [eS_34]; exact wX_uR
  have hE := hE.trans hX_S_34
  have hK_a0 : sK S_34 a0 = 17 := (hX_S_34.2 a0 hL_a0).1.trans hK_a0
  have hL_a0 : wM D S_34 a0 := hX_S_34.M hL_a0
  refine lv_aload_n hx hb dX12_init_85 rfl (lv_at hl 0 rfl) ?_
  refine lv_sipush (v := 500) hx hb dX12_init_86 (by decide) ?_
  obtain ⟨h_37, h_37b, hp⟩ := hp
  refine w_newaI F hK hW (hwg _ wr_int) h_37 (by omega) (Nat.le_of_ble_eq_true rfl) (Nat.le_trans (Nat.add_le_add_left h_37b _) (Nat.le_of_ble_eq_true rfl)) dX12_init_89 (fun y_35 H hq_y_35 hW => ?_)
  refine W.widen (k := 9) (n := 14311) (by decide) (Nat.add_le_add_left h_37b _) ?_
  obtain ⟨S_36, eS_36⟩ : ∃ z : wS, z = nA S_34 y_35 21 ((500 : Int32)).toNatClampNeg := ⟨_, rfl⟩
  rw [← eS_36] at hW
  replace hp := hp y_35 hq_y_35 S_36 eS_36
  have hX_S_36 : wX D S_34 S_36 := by rw [eS_36]; exact wX_nA hq_y_35
  have hE := hE.trans hX_S_36
  have hK_a0 : sK S_36 a0 = 17 := (hX_S_36.2 a0 hL_a0).1.trans hK_a0
  have hL_a0 : wM D S_36 a0 := hX_S_36.M hL_a0
  have hL_y_35 : wM D S_36 y_35 := by rw [eS_36]; exact Or.inl (List.mem_append_right _ List.mem_cons_self)
  have hK_y_35 : sK S_36 y_35 = 21 := by rw [eS_36]; exact va_up_self _ _ _
  refine w_putRF (k := 17) (f := 12) (T := TX12) (g := (some y_35)) F hK hW hL_a0 hK_a0 (by decide) (by decide) rfl rfl (by decide) i_17 tyX12 tyX12_ok nmX12 k_42 rfl rfl hin rfl (ty := (.array .int)) rfl (v_narrow _ _) (v_fitsA _ _) dX12_init_91 (fun H locs hW => ?_)
  obtain ⟨S_38, eS_38⟩ : ∃ z : wS, z = uR S_36 a0 12 (some y_35) := ⟨_, rfl⟩
  rw [← eS_38] at hW
  replace hp := hp S_38 eS_38
  have hX_S_38 : wX D S_36 S_38 := by rw [eS_38]; exact wX_uR
  have hE := hE.trans hX_S_38
  have hK_a0 : sK S_38 a0 = 17 := (hX_S_38.2 a0 hL_a0).1.trans hK_a0
  have hL_a0 : wM D S_38 a0 := hX_S_38.M hL_a0
  refine lv_aload_n hx hb dX12_init_94 rfl (lv_at hl 0 rfl) ?_
  refine lv_sipush (v := 128) hx hb dX12_init_95 (by decide) ?_
  obtain ⟨h_41, h_41b, hp⟩ := hp
  refine w_newaI F hK hW (hwg _ wr_int) h_41 (by omega) (Nat.le_of_ble_eq_true rfl) (Nat.le_trans (Nat.add_le_add_left h_41b _) (Nat.le_of_ble_eq_true rfl)) dX12_init_98 (fun y_39 H hq_y_39 hW => ?_)
  refine W.widen (k := 10) (n := 14439) (by decide) (Nat.add_le_add_left h_41b _) ?_
  obtain ⟨S_40, eS_40⟩ : ∃ z : wS, z = nA S_38 y_39 21 ((128 : Int32)).toNatClampNeg := ⟨_, rfl⟩
  rw [← eS_40] at hW
  replace hp := hp y_39 hq_y_39 S_40 eS_40
  have hX_S_40 : wX D S_38 S_40 := by rw [eS_40]; exact wX_nA hq_y_39
  have hE := hE.trans hX_S_40
  have hK_a0 : sK S_40 a0 = 17 := (hX_S_40.2 a0 hL_a0).1.trans hK_a0
  have hL_a0 : wM D S_40 a0 := hX_S_40.M hL_a0
  have hL_y_39 : wM D S_40 y_39 := by rw [eS_40]; exact Or.inl (List.mem_append_right _ List.mem_cons_self)
  have hK_y_39 : sK S_40 y_39 = 21 := by rw [eS_40]; exact va_up_self _ _ _
  refine w_putRF (k := 17) (f := 14) (T := TX12) (g := (some y_39)) F hK hW hL_a0 hK_a0 (by decide) (by decide) rfl rfl (by decide) i_17 tyX12 tyX12_ok nmX12 k_45 rfl rfl hin rfl (ty := (.array .int)) rfl (v_narrow _ _) (v_fitsA _ _) dX12_init_100 (fun H locs hW => ?_)
  obtain ⟨S_42, eS_42⟩ : ∃ z : wS, z = uR S_40 a0 14 (some y_39) := ⟨_, rfl⟩
  rw [← eS_42] at hW
  replace hp := hp S_42 eS_42
  have hX_S_42 : wX D S_40 S_42 := by rw [eS_42]; exact wX_uR
  have hE := hE.trans hX_S_42
  have hK_a0 : sK S_42 a0 = 17 := (hX_S_42.2 a0 hL_a0).1.trans hK_a0
  have hL_a0 : wM D S_42 a0 := hX_S_42.M hL_a0
  refine lv_aload_n hx hb dX12_init_103 rfl (lv_at hl 0 rfl) ?_
  refine lv_sipush (v := 3840) hx hb dX12_init_104 (by decide) ?_
  obtain ⟨h_45, h_45b, hp⟩ := hp
  refine w_newaI F hK hW (hwg _ wr_int) h_45 (by omega) (Nat.le_of_ble_eq_true rfl) (Nat.le_trans (Nat.add_le_add_left h_45b _) (Nat.le_of_ble_eq_true rfl)) dX12_init_107 (fun y_43 H hq_y_43 hW => ?_)
  refine W.widen (k := 11) (n := 18279) (by decide) (Nat.add_le_add_left h_45b _) ?_
  obtain ⟨S_44, eS_44⟩ : ∃ z : wS, z = nA S_42 y_43 21 ((3840 : Int32)).toNatClampNeg := ⟨_, rfl⟩
  rw [← eS_44] at hW
  replace hp := hp y_43 hq_y_43 S_44 eS_44
  have hX_S_44 : wX D S_42 S_44 := by rw [eS_44]; exact wX_nA hq_y_43
  have hE := hE.trans hX_S_44
  have hK_a0 : sK S_44 a0 = 17 := (hX_S_44.2 a0 hL_a0).1.trans hK_a0
  have hL_a0 : wM D S_44 a0 := hX_S_44.M hL_a0
  have hL_y_43 : wM D S_44 y_43 := by rw [eS_44]; exact Or.inl (List.mem_append_right _ List.mem_cons_self)
  have hK_y_43 : sK S_44 y_43 = 21 := by rw [eS_44]; exact va_up_self _ _ _
  refine w_putRF (k := 17) (f := 17) (T := TX12) (g := (some y_43)) F hK hW hL_a0 hK_a0 (by decide) (by decide) rfl rfl (by decide) i_17 tyX12 tyX12_ok nmX12 k_48 rfl rfl hin rfl (ty := (.array .int)) rfl (v_narrow _ _) (v_fitsA _ _) dX12_init_109 (fun H locs hW => ?_)
  obtain ⟨S_46, eS_46⟩ : ∃ z : wS, z = uR S_44 a0 17 (some y_43) := ⟨_, rfl⟩
  rw [← eS_46] at hW
  replace hp := hp S_46 eS_46
  have hX_S_46 : wX D S_44 S_46 := by rw [eS_46]; exact wX_uR
  have hE := hE.trans hX_S_46
  have hK_a0 : sK S_46 a0 = 17 := (hX_S_46.2 a0 hL_a0).1.trans hK_a0
  have hL_a0 : wM D S_46 a0 := hX_S_46.M hL_a0
  refine lv_aload_n hx hb dX12_init_112 rfl (lv_at hl 0 rfl) ?_
  refine lv_sipush (v := 320) hx hb dX12_init_113 (by decide) ?_
  obtain ⟨h_49, h_49b, hp⟩ := hp
  refine w_newaI F hK hW (hwg _ wr_int) h_49 (by omega) (Nat.le_of_ble_eq_true rfl) (Nat.le_trans (Nat.add_le_add_left h_49b _) (Nat.le_of_ble_eq_true rfl)) dX12_init_116 (fun y_47 H hq_y_47 hW => ?_)
  refine W.widen (k := 12) (n := 18599) (by decide) (Nat.add_le_add_left h_49b _) ?_
  obtain ⟨S_48, eS_48⟩ : ∃ z : wS, z = nA S_46 y_47 21 ((320 : Int32)).toNatClampNeg := ⟨_, rfl⟩
  rw [← eS_48] at hW
  replace hp := hp y_47 hq_y_47 S_48 eS_48
  have hX_S_48 : wX D S_46 S_48 := by rw [eS_48]; exact wX_nA hq_y_47
  have hE := hE.trans hX_S_48
  have hK_a0 : sK S_48 a0 = 17 := (hX_S_48.2 a0 hL_a0).1.trans hK_a0
  have hL_a0 : wM D S_48 a0 := hX_S_48.M hL_a0
  have hL_y_47 : wM D S_48 y_47 := by rw [eS_48]; exact Or.inl (List.mem_append_right _ List.mem_cons_self)
  have hK_y_47 : sK S_48 y_47 = 21 := by rw [eS_48]; exact va_up_self _ _ _
  refine w_putRF (k := 17) (f := 18) (T := TX12) (g := (some y_47)) F hK hW hL_a0 hK_a0 (by decide) (by decide) rfl rfl (by decide) i_17 tyX12 tyX12_ok nmX12 k_51 rfl rfl hin rfl (ty := (.array .int)) rfl (v_narrow _ _) (v_fitsA _ _) dX12_init_118 (fun H locs hW => ?_)
  obtain ⟨S_50, eS_50⟩ : ∃ z : wS, z = uR S_48 a0 18 (some y_47) := ⟨_, rfl⟩
  rw [← eS_50] at hW
  replace hp := hp S_50 eS_50
  have hX_S_50 : wX D S_48 S_50 := by rw [eS_50]; exact wX_uR
  have hE := hE.trans hX_S_50
  have hK_a0 : sK S_50 a0 = 17 := (hX_S_50.2 a0 hL_a0).1.trans hK_a0
  have hL_a0 : wM D S_50 a0 := hX_S_50.M hL_a0
  refine lv_aload_n hx hb dX12_init_121 rfl (lv_at hl 0 rfl) ?_
  refine lv_sipush (v := 320) hx hb dX12_init_122 (by decide) ?_
  obtain ⟨h_53, h_53b, hp⟩ := hp
  refine w_newaI F hK hW (hwg _ wr_int) h_53 (by omega) (Nat.le_of_ble_eq_true rfl) (Nat.le_trans (Nat.add_le_add_left h_53b _) (Nat.le_of_ble_eq_true rfl)) dX12_init_125 (fun y_51 H hq_y_51 hW => ?_)
  refine W.widen (k := 13) (n := 18919) (by decide) (Nat.add_le_add_left h_53b _) ?_
  obtain ⟨S_52, eS_52⟩ : ∃ z : wS, z = nA S_50 y_51 21 ((320 : Int32)).toNatClampNeg := ⟨_, rfl⟩
  rw [← eS_52] at hW
  replace hp := hp y_51 hq_y_51 S_52 eS_52
  have hX_S_52 : wX D S_50 S_52 := by rw [eS_52]; exact wX_nA hq_y_51
  have hE := hE.trans hX_S_52
  have hK_a0 : sK S_52 a0 = 17 := (hX_S_52.2 a0 hL_a0).1.trans hK_a0
  have hL_a0 : wM D S_52 a0 := hX_S_52.M hL_a0
  have hL_y_51 : wM D S_52 y_51 := by rw [eS_52]; exact Or.inl (List.mem_append_right _ List.mem_cons_self)
  have hK_y_51 : sK S_52 y_51 = 21 := by rw [eS_52]; exact va_up_self _ _ _
  refine w_putRF (k := 17) (f := 19) (T := TX12) (g := (some y_51)) F hK hW hL_a0 hK_a0 (by decide) (by decide) rfl rfl (by decide) i_17 tyX12 tyX12_ok nmX12 k_54 rfl rfl hin rfl (ty := (.array .int)) rfl (v_narrow _ _) (v_fitsA _ _) dX12_init_127 (fun H locs hW => ?_)
  obtain ⟨S_54, eS_54⟩ : ∃ z : wS, z = uR S_52 a0 19 (some y_51) := ⟨_, rfl⟩
  rw [← eS_54] at hW
  replace hp := hp S_54 eS_54
  have hX_S_54 : wX D S_52 S_54 := by rw [eS_54]; exact wX_uR
  have hE := hE.trans hX_S_54
  have hK_a0 : sK S_54 a0 = 17 := (hX_S_54.2 a0 hL_a0).1.trans hK_a0
  have hL_a0 : wM D S_54 a0 := hX_S_54.M hL_a0
  refine lv_aload_n hx hb dX12_init_130 rfl (lv_at hl 0 rfl) ?_
  refine lv_sipush (v := 670) hx hb dX12_init_131 (by decide) ?_
  obtain ⟨h_57, h_57b, hp⟩ := hp
  refine w_newaI F hK hW (hwg _ wr_int) h_57 (by omega) (Nat.le_of_ble_eq_true rfl) (Nat.le_trans (Nat.add_le_add_left h_57b _) (Nat.le_of_ble_eq_true rfl)) dX12_init_134 (fun y_55 H hq_y_55 hW => ?_)
  refine W.widen (k := 14) (n := 19589) (by decide) (Nat.add_le_add_left h_57b _) ?_
  obtain ⟨S_56, eS_56⟩ : ∃ z : wS, z = nA S_54 y_55 21 ((670 : Int32)).toNatClampNeg := ⟨_, rfl⟩
  rw [← eS_56] at hW
  replace hp := hp y_55 hq_y_55 S_56 eS_56
  have hX_S_56 : wX D S_54 S_56 := by rw [eS_56]; exact wX_nA hq_y_55
  have hE := hE.trans hX_S_56
  have hK_a0 : sK S_56 a0 = 17 := (hX_S_56.2 a0 hL_a0).1.trans hK_a0
  have hL_a0 : wM D S_56 a0 := hX_S_56.M hL_a0
  have hL_y_55 : wM D S_56 y_55 := by rw [eS_56]; exact Or.inl (List.mem_append_right _ List.mem_cons_self)
  have hK_y_55 : sK S_56 y_55 = 21 := by rw [eS_56]; exact va_up_self _ _ _
  refine w_putRF (k := 17) (f := 20) (T := TX12) (g := (some y_55)) F hK hW hL_a0 hK_a0 (by decide) (by decide) rfl rfl (by decide) i_17 tyX12 tyX12_ok nmX12 k_57 rfl rfl hin rfl (ty := (.array .int)) rfl (v_narrow _ _) (v_fitsA _ _) dX12_init_136 (fun H locs hW => ?_)
  obtain ⟨S_58, eS_58⟩ : ∃ z : wS, z = uR S_56 a0 20 (some y_55) := ⟨_, rfl⟩
  rw [← eS_58] at hW
  replace hp := hp S_58 eS_58
  have hX_S_58 : wX D S_56 S_58 := by rw [eS_58]; exact wX_uR
  have hE := hE.trans hX_S_58
  have hK_a0 : sK S_58 a0 = 17 := (hX_S_58.2 a0 hL_a0).1.trans hK_a0
  have hL_a0 : wM D S_58 a0 := hX_S_58.M hL_a0
  refine lv_aload_n hx hb dX12_init_139 rfl (lv_at hl 0 rfl) ?_
  refine lv_sipush (v := 670) hx hb dX12_init_140 (by decide) ?_
  obtain ⟨h_61, h_61b, hp⟩ := hp
  refine w_newaI F hK hW (hwg _ wr_int) h_61 (by omega) (Nat.le_of_ble_eq_true rfl) (Nat.le_trans (Nat.add_le_add_left h_61b _) (Nat.le_of_ble_eq_true rfl)) dX12_init_143 (fun y_59 H hq_y_59 hW => ?_)
  refine W.widen (k := 15) (n := 20259) (by decide) (Nat.add_le_add_left h_61b _) ?_
  obtain ⟨S_60, eS_60⟩ : ∃ z : wS, z = nA S_58 y_59 21 ((670 : Int32)).toNatClampNeg := ⟨_, rfl⟩
  rw [← eS_60] at hW
  replace hp := hp y_59 hq_y_59 S_60 eS_60
  have hX_S_60 : wX D S_58 S_60 := by rw [eS_60]; exact wX_nA hq_y_59
  have hE := hE.trans hX_S_60
  have hK_a0 : sK S_60 a0 = 17 := (hX_S_60.2 a0 hL_a0).1.trans hK_a0
  have hL_a0 : wM D S_60 a0 := hX_S_60.M hL_a0
  have hL_y_59 : wM D S_60 y_59 := by rw [eS_60]; exact Or.inl (List.mem_append_right _ List.mem_cons_self)
  have hK_y_59 : sK S_60 y_59 = 21 := by rw [eS_60]; exact va_up_self _ _ _
  refine w_putRF (k := 17) (f := 21) (T := TX12) (g := (some y_59)) F hK hW hL_a0 hK_a0 (by decide) (by decide) rfl rfl (by decide) i_17 tyX12 tyX12_ok nmX12 k_60 rfl rfl hin rfl (ty := (.array .int)) rfl (v_narrow _ _) (v_fitsA _ _) dX12_init_145 (fun H locs hW => ?_)
  obtain ⟨S_62, eS_62⟩ : ∃ z : wS, z = uR S_60 a0 21 (some y_59) := ⟨_, rfl⟩
  rw [← eS_62] at hW
  replace hp := hp S_62 eS_62
  have hX_S_62 : wX D S_60 S_62 := by rw [eS_62]; exact wX_uR
  have hE := hE.trans hX_S_62
  have hK_a0 : sK S_62 a0 = 17 := (hX_S_62.2 a0 hL_a0).1.trans hK_a0
  have hL_a0 : wM D S_62 a0 := hX_S_62.M hL_a0
  refine lv_aload_n hx hb dX12_init_148 rfl (lv_at hl 0 rfl) ?_
  refine lv_bipush (v := 10) hx hb dX12_init_149 (by decide) ?_
  obtain ⟨h_65, h_65b, hp⟩ := hp
  refine w_newaI F hK hW (hwg _ wr_int) h_65 (by omega) (Nat.le_of_ble_eq_true rfl) (Nat.le_trans (Nat.add_le_add_left h_65b _) (Nat.le_of_ble_eq_true rfl)) dX12_init_151 (fun y_63 H hq_y_63 hW => ?_)
  refine W.widen (k := 16) (n := 20269) (by decide) (Nat.add_le_add_left h_65b _) ?_
  obtain ⟨S_64, eS_64⟩ : ∃ z : wS, z = nA S_62 y_63 21 ((10 : Int32)).toNatClampNeg := ⟨_, rfl⟩
  rw [← eS_64] at hW
  replace hp := hp y_63 hq_y_63 S_64 eS_64
  have hX_S_64 : wX D S_62 S_64 := by rw [eS_64]; exact wX_nA hq_y_63
  have hE := hE.trans hX_S_64
  have hK_a0 : sK S_64 a0 = 17 := (hX_S_64.2 a0 hL_a0).1.trans hK_a0
  have hL_a0 : wM D S_64 a0 := hX_S_64.M hL_a0
  have hL_y_63 : wM D S_64 y_63 := by rw [eS_64]; exact Or.inl (List.mem_append_right _ List.mem_cons_self)
  have hK_y_63 : sK S_64 y_63 = 21 := by rw [eS_64]; exact va_up_self _ _ _
  refine w_putRF (k := 17) (f := 22) (T := TX12) (g := (some y_63)) F hK hW hL_a0 hK_a0 (by decide) (by decide) rfl rfl (by decide) i_17 tyX12 tyX12_ok nmX12 k_63 rfl rfl hin rfl (ty := (.array .int)) rfl (v_narrow _ _) (v_fitsA _ _) dX12_init_153 (fun H locs hW => ?_)
  obtain ⟨S_66, eS_66⟩ : ∃ z : wS, z = uR S_64 a0 22 (some y_63) := ⟨_, rfl⟩
  rw [← eS_66] at hW
  replace hp := hp S_66 eS_66
  have hX_S_66 : wX D S_64 S_66 := by rw [eS_66]; exact wX_uR
  have hE := hE.trans hX_S_66
  have hK_a0 : sK S_66 a0 = 17 := (hX_S_66.2 a0 hL_a0).1.trans hK_a0
  have hL_a0 : wM D S_66 a0 := hX_S_66.M hL_a0
  refine lv_aload_n hx hb dX12_init_156 rfl (lv_at hl 0 rfl) ?_
  refine lv_sipush (v := 500) hx hb dX12_init_157 (by decide) ?_
  obtain ⟨h_69, h_69b, hp⟩ := hp
  refine w_newaI F hK hW (hwg _ wr_int) h_69 (by omega) (Nat.le_of_ble_eq_true rfl) (Nat.le_trans (Nat.add_le_add_left h_69b _) (Nat.le_of_ble_eq_true rfl)) dX12_init_160 (fun y_67 H hq_y_67 hW => ?_)
  refine W.widen (k := 17) (n := 20769) (by decide) (Nat.add_le_add_left h_69b _) ?_
  obtain ⟨S_68, eS_68⟩ : ∃ z : wS, z = nA S_66 y_67 21 ((500 : Int32)).toNatClampNeg := ⟨_, rfl⟩
  rw [← eS_68] at hW
  replace hp := hp y_67 hq_y_67 S_68 eS_68
  have hX_S_68 : wX D S_66 S_68 := by rw [eS_68]; exact wX_nA hq_y_67
  have hE := hE.trans hX_S_68
  have hK_a0 : sK S_68 a0 = 17 := (hX_S_68.2 a0 hL_a0).1.trans hK_a0
  have hL_a0 : wM D S_68 a0 := hX_S_68.M hL_a0
  have hL_y_67 : wM D S_68 y_67 := by rw [eS_68]; exact Or.inl (List.mem_append_right _ List.mem_cons_self)
  have hK_y_67 : sK S_68 y_67 = 21 := by rw [eS_68]; exact va_up_self _ _ _
  refine w_putRF (k := 17) (f := 23) (T := TX12) (g := (some y_67)) F hK hW hL_a0 hK_a0 (by decide) (by decide) rfl rfl (by decide) i_17 tyX12 tyX12_ok nmX12 k_66 rfl rfl hin rfl (ty := (.array .int)) rfl (v_narrow _ _) (v_fitsA _ _) dX12_init_162 (fun H locs hW => ?_)
  obtain ⟨S_70, eS_70⟩ : ∃ z : wS, z = uR S_68 a0 23 (some y_67) := ⟨_, rfl⟩
  rw [← eS_70] at hW
  replace hp := hp S_70 eS_70
  have hX_S_70 : wX D S_68 S_70 := by rw [eS_70]; exact wX_uR
  have hE := hE.trans hX_S_70
  have hK_a0 : sK S_70 a0 = 17 := (hX_S_70.2 a0 hL_a0).1.trans hK_a0
  have hL_a0 : wM D S_70 a0 := hX_S_70.M hL_a0
  refine lv_aload_n hx hb dX12_init_165 rfl (lv_at hl 0 rfl) ?_
  refine lv_iconst (v := 2) hx hb dX12_init_166 (by decide) ?_
  obtain ⟨h_73, h_73b, hp⟩ := hp
  refine w_newaI F hK hW (hwg _ wr_int) h_73 (by omega) (Nat.le_of_ble_eq_true rfl) (Nat.le_trans (Nat.add_le_add_left h_73b _) (Nat.le_of_ble_eq_true rfl)) dX12_init_167 (fun y_71 H hq_y_71 hW => ?_)
  refine W.widen (k := 18) (n := 20771) (by decide) (Nat.add_le_add_left h_73b _) ?_
  obtain ⟨S_72, eS_72⟩ : ∃ z : wS, z = nA S_70 y_71 21 ((2 : Int32)).toNatClampNeg := ⟨_, rfl⟩
  rw [← eS_72] at hW
  replace hp := hp y_71 hq_y_71 S_72 eS_72
  have hX_S_72 : wX D S_70 S_72 := by rw [eS_72]; exact wX_nA hq_y_71
  have hE := hE.trans hX_S_72
  have hK_a0 : sK S_72 a0 = 17 := (hX_S_72.2 a0 hL_a0).1.trans hK_a0
  have hL_a0 : wM D S_72 a0 := hX_S_72.M hL_a0
  have hL_y_71 : wM D S_72 y_71 := by rw [eS_72]; exact Or.inl (List.mem_append_right _ List.mem_cons_self)
  have hK_y_71 : sK S_72 y_71 = 21 := by rw [eS_72]; exact va_up_self _ _ _
  refine w_putRF (k := 17) (f := 30) (T := TX12) (g := (some y_71)) F hK hW hL_a0 hK_a0 (by decide) (by decide) rfl rfl (by decide) i_17 tyX12 tyX12_ok nmX12 k_69 rfl rfl hin rfl (ty := (.array .int)) rfl (v_narrow _ _) (v_fitsA _ _) dX12_init_169 (fun H locs hW => ?_)
  obtain ⟨S_74, eS_74⟩ : ∃ z : wS, z = uR S_72 a0 30 (some y_71) := ⟨_, rfl⟩
  rw [← eS_74] at hW
  replace hp := hp S_74 eS_74
  have hX_S_74 : wX D S_72 S_74 := by rw [eS_74]; exact wX_uR
  have hE := hE.trans hX_S_74
  have hK_a0 : sK S_74 a0 = 17 := (hX_S_74.2 a0 hL_a0).1.trans hK_a0
  have hL_a0 : wM D S_74 a0 := hX_S_74.M hL_a0
  refine lv_aload_n hx hb dX12_init_172 rfl (lv_at hl 0 rfl) ?_
  refine lv_ldc hx hb hown (v := 434160) (hwg _ wI_RX12_72) dX12_init_173 ?_
  obtain ⟨h_77, h_77b, hp⟩ := hp
  refine w_newaI F hK hW (hwg _ wr_int) h_77 (by omega) (Nat.le_of_ble_eq_true rfl) (Nat.le_trans (Nat.add_le_add_left h_77b _) (Nat.le_of_ble_eq_true rfl)) dX12_init_175 (fun y_75 H hq_y_75 hW => ?_)
  refine W.widen (k := 19) (n := 454931) (by decide) (Nat.add_le_add_left h_77b _) ?_
  obtain ⟨S_76, eS_76⟩ : ∃ z : wS, z = nA S_74 y_75 21 ((434160 : Int32)).toNatClampNeg := ⟨_, rfl⟩
  rw [← eS_76] at hW
  replace hp := hp y_75 hq_y_75 S_76 eS_76
  have hX_S_76 : wX D S_74 S_76 := by rw [eS_76]; exact wX_nA hq_y_75
  have hE := hE.trans hX_S_76
  have hK_a0 : sK S_76 a0 = 17 := (hX_S_76.2 a0 hL_a0).1.trans hK_a0
  have hL_a0 : wM D S_76 a0 := hX_S_76.M hL_a0
  have hL_y_75 : wM D S_76 y_75 := by rw [eS_76]; exact Or.inl (List.mem_append_right _ List.mem_cons_self)
  have hK_y_75 : sK S_76 y_75 = 21 := by rw [eS_76]; exact va_up_self _ _ _
  refine w_putRF (k := 17) (f := 31) (T := TX12) (g := (some y_75)) F hK hW hL_a0 hK_a0 (by decide) (by decide) rfl rfl (by decide) i_17 tyX12 tyX12_ok nmX12 k_73 rfl rfl hin rfl (ty := (.array .int)) rfl (v_narrow _ _) (v_fitsA _ _) dX12_init_177 (fun H locs hW => ?_)
  obtain ⟨S_78, eS_78⟩ : ∃ z : wS, z = uR S_76 a0 31 (some y_75) := ⟨_, rfl⟩
  rw [← eS_78] at hW
  replace hp := hp S_78 eS_78
  have hX_S_78 : wX D S_76 S_78 := by rw [eS_78]; exact wX_uR
  have hE := hE.trans hX_S_78
  have hK_a0 : sK S_78 a0 = 17 := (hX_S_78.2 a0 hL_a0).1.trans hK_a0
  have hL_a0 : wM D S_78 a0 := hX_S_78.M hL_a0
  refine lv_aload_n hx hb dX12_init_180 rfl (lv_at hl 0 rfl) ?_
  refine lv_sipush (v := 6400) hx hb dX12_init_181 (by decide) ?_
  obtain ⟨h_81, h_81b, hp⟩ := hp
  refine w_newaI F hK hW (hwg _ wr_int) h_81 (by omega) (Nat.le_of_ble_eq_true rfl) (Nat.le_trans (Nat.add_le_add_left h_81b _) (Nat.le_of_ble_eq_true rfl)) dX12_init_184 (fun y_79 H hq_y_79 hW => ?_)
  refine W.widen (k := 20) (n := 461331) (by decide) (Nat.add_le_add_left h_81b _) ?_
  obtain ⟨S_80, eS_80⟩ : ∃ z : wS, z = nA S_78 y_79 21 ((6400 : Int32)).toNatClampNeg := ⟨_, rfl⟩
  rw [← eS_80] at hW
  replace hp := hp y_79 hq_y_79 S_80 eS_80
  have hX_S_80 : wX D S_78 S_80 := by rw [eS_80]; exact wX_nA hq_y_79
  have hE := hE.trans hX_S_80
  have hK_a0 : sK S_80 a0 = 17 := (hX_S_80.2 a0 hL_a0).1.trans hK_a0
  have hL_a0 : wM D S_80 a0 := hX_S_80.M hL_a0
  have hL_y_79 : wM D S_80 y_79 := by rw [eS_80]; exact Or.inl (List.mem_append_right _ List.mem_cons_self)
  have hK_y_79 : sK S_80 y_79 = 21 := by rw [eS_80]; exact va_up_self _ _ _
  refine w_putRF (k := 17) (f := 32) (T := TX12) (g := (some y_79)) F hK hW hL_a0 hK_a0 (by decide) (by decide) rfl rfl (by decide) i_17 tyX12 tyX12_ok nmX12 k_76 rfl rfl hin rfl (ty := (.array .int)) rfl (v_narrow _ _) (v_fitsA _ _) dX12_init_186 (fun H locs hW => ?_)
  obtain ⟨S_82, eS_82⟩ : ∃ z : wS, z = uR S_80 a0 32 (some y_79) := ⟨_, rfl⟩
  rw [← eS_82] at hW
  replace hp := hp S_82 eS_82
  have hX_S_82 : wX D S_80 S_82 := by rw [eS_82]; exact wX_uR
  have hE := hE.trans hX_S_82
  have hK_a0 : sK S_82 a0 = 17 := (hX_S_82.2 a0 hL_a0).1.trans hK_a0
  have hL_a0 : wM D S_82 a0 := hX_S_82.M hL_a0
  refine lv_aload_n hx hb dX12_init_189 rfl (lv_at hl 0 rfl) ?_
  refine lv_bipush (v := 80) hx hb dX12_init_190 (by decide) ?_
  obtain ⟨h_85, h_85b, hp⟩ := hp
  refine w_newaI F hK hW (hwg _ wr_int) h_85 (by omega) (Nat.le_of_ble_eq_true rfl) (Nat.le_trans (Nat.add_le_add_left h_85b _) (Nat.le_of_ble_eq_true rfl)) dX12_init_192 (fun y_83 H hq_y_83 hW => ?_)
  refine W.widen (k := 21) (n := 461411) (by decide) (Nat.add_le_add_left h_85b _) ?_
  obtain ⟨S_84, eS_84⟩ : ∃ z : wS, z = nA S_82 y_83 21 ((80 : Int32)).toNatClampNeg := ⟨_, rfl⟩
  rw [← eS_84] at hW
  replace hp := hp y_83 hq_y_83 S_84 eS_84
  have hX_S_84 : wX D S_82 S_84 := by rw [eS_84]; exact wX_nA hq_y_83
  have hE := hE.trans hX_S_84
  have hK_a0 : sK S_84 a0 = 17 := (hX_S_84.2 a0 hL_a0).1.trans hK_a0
  have hL_a0 : wM D S_84 a0 := hX_S_84.M hL_a0
  have hL_y_83 : wM D S_84 y_83 := by rw [eS_84]; exact Or.inl (List.mem_append_right _ List.mem_cons_self)
  have hK_y_83 : sK S_84 y_83 = 21 := by rw [eS_84]; exact va_up_self _ _ _
  refine w_putRF (k := 17) (f := 33) (T := TX12) (g := (some y_83)) F hK hW hL_a0 hK_a0 (by decide) (by decide) rfl rfl (by decide) i_17 tyX12 tyX12_ok nmX12 k_79 rfl rfl hin rfl (ty := (.array .int)) rfl (v_narrow _ _) (v_fitsA _ _) dX12_init_194 (fun H locs hW => ?_)
  obtain ⟨S_86, eS_86⟩ : ∃ z : wS, z = uR S_84 a0 33 (some y_83) := ⟨_, rfl⟩
  rw [← eS_86] at hW
  replace hp := hp S_86 eS_86
  have hX_S_86 : wX D S_84 S_86 := by rw [eS_86]; exact wX_uR
  have hE := hE.trans hX_S_86
  have hK_a0 : sK S_86 a0 = 17 := (hX_S_86.2 a0 hL_a0).1.trans hK_a0
  have hL_a0 : wM D S_86 a0 := hX_S_86.M hL_a0
  refine lv_aload_n hx hb dX12_init_197 rfl (lv_at hl 0 rfl) ?_
  refine lv_bipush (v := 80) hx hb dX12_init_198 (by decide) ?_
  obtain ⟨h_89, h_89b, hp⟩ := hp
  refine w_newaI F hK hW (hwg _ wr_int) h_89 (by omega) (Nat.le_of_ble_eq_true rfl) (Nat.le_trans (Nat.add_le_add_left h_89b _) (Nat.le_of_ble_eq_true rfl)) dX12_init_200 (fun y_87 H hq_y_87 hW => ?_)
  refine W.widen (k := 22) (n := 461491) (by decide) (Nat.add_le_add_left h_89b _) ?_
  obtain ⟨S_88, eS_88⟩ : ∃ z : wS, z = nA S_86 y_87 21 ((80 : Int32)).toNatClampNeg := ⟨_, rfl⟩
  rw [← eS_88] at hW
  replace hp := hp y_87 hq_y_87 S_88 eS_88
  have hX_S_88 : wX D S_86 S_88 := by rw [eS_88]; exact wX_nA hq_y_87
  have hE := hE.trans hX_S_88
  have hK_a0 : sK S_88 a0 = 17 := (hX_S_88.2 a0 hL_a0).1.trans hK_a0
  have hL_a0 : wM D S_88 a0 := hX_S_88.M hL_a0
  have hL_y_87 : wM D S_88 y_87 := by rw [eS_88]; exact Or.inl (List.mem_append_right _ List.mem_cons_self)
  have hK_y_87 : sK S_88 y_87 = 21 := by rw [eS_88]; exact va_up_self _ _ _
  refine w_putRF (k := 17) (f := 34) (T := TX12) (g := (some y_87)) F hK hW hL_a0 hK_a0 (by decide) (by decide) rfl rfl (by decide) i_17 tyX12 tyX12_ok nmX12 k_82 rfl rfl hin rfl (ty := (.array .int)) rfl (v_narrow _ _) (v_fitsA _ _) dX12_init_202 (fun H locs hW => ?_)
  obtain ⟨S_90, eS_90⟩ : ∃ z : wS, z = uR S_88 a0 34 (some y_87) := ⟨_, rfl⟩
  rw [← eS_90] at hW
  replace hp := hp S_90 eS_90
  have hX_S_90 : wX D S_88 S_90 := by rw [eS_90]; exact wX_uR
  have hE := hE.trans hX_S_90
  have hK_a0 : sK S_90 a0 = 17 := (hX_S_90.2 a0 hL_a0).1.trans hK_a0
  have hL_a0 : wM D S_90 a0 := hX_S_90.M hL_a0
  refine lv_aload_n hx hb dX12_init_205 rfl (lv_at hl 0 rfl) ?_
  refine lv_bipush (v := 80) hx hb dX12_init_206 (by decide) ?_
  obtain ⟨h_93, h_93b, hp⟩ := hp
  refine w_newaI F hK hW (hwg _ wr_int) h_93 (by omega) (Nat.le_of_ble_eq_true rfl) (Nat.le_trans (Nat.add_le_add_left h_93b _) (Nat.le_of_ble_eq_true rfl)) dX12_init_208 (fun y_91 H hq_y_91 hW => ?_)
  refine W.widen (k := 23) (n := 461571) (by decide) (Nat.add_le_add_left h_93b _) ?_
  obtain ⟨S_92, eS_92⟩ : ∃ z : wS, z = nA S_90 y_91 21 ((80 : Int32)).toNatClampNeg := ⟨_, rfl⟩
  rw [← eS_92] at hW
  replace hp := hp y_91 hq_y_91 S_92 eS_92
  have hX_S_92 : wX D S_90 S_92 := by rw [eS_92]; exact wX_nA hq_y_91
  have hE := hE.trans hX_S_92
  have hK_a0 : sK S_92 a0 = 17 := (hX_S_92.2 a0 hL_a0).1.trans hK_a0
  have hL_a0 : wM D S_92 a0 := hX_S_92.M hL_a0
  have hL_y_91 : wM D S_92 y_91 := by rw [eS_92]; exact Or.inl (List.mem_append_right _ List.mem_cons_self)
  have hK_y_91 : sK S_92 y_91 = 21 := by rw [eS_92]; exact va_up_self _ _ _
  refine w_putRF (k := 17) (f := 35) (T := TX12) (g := (some y_91)) F hK hW hL_a0 hK_a0 (by decide) (by decide) rfl rfl (by decide) i_17 tyX12 tyX12_ok nmX12 k_85 rfl rfl hin rfl (ty := (.array .int)) rfl (v_narrow _ _) (v_fitsA _ _) dX12_init_210 (fun H locs hW => ?_)
  obtain ⟨S_94, eS_94⟩ : ∃ z : wS, z = uR S_92 a0 35 (some y_91) := ⟨_, rfl⟩
  rw [← eS_94] at hW
  replace hp := hp S_94 eS_94
  have hX_S_94 : wX D S_92 S_94 := by rw [eS_94]; exact wX_uR
  have hE := hE.trans hX_S_94
  have hK_a0 : sK S_94 a0 = 17 := (hX_S_94.2 a0 hL_a0).1.trans hK_a0
  have hL_a0 : wM D S_94 a0 := hX_S_94.M hL_a0
  refine lv_aload_n hx hb dX12_init_213 rfl (lv_at hl 0 rfl) ?_
  refine lv_bipush (v := 80) hx hb dX12_init_214 (by decide) ?_
  obtain ⟨h_97, h_97b, hp⟩ := hp
  refine w_newaI F hK hW (hwg _ wr_int) h_97 (by omega) (Nat.le_of_ble_eq_true rfl) (Nat.le_trans (Nat.add_le_add_left h_97b _) (Nat.le_of_ble_eq_true rfl)) dX12_init_216 (fun y_95 H hq_y_95 hW => ?_)
  refine W.widen (k := 24) (n := 461651) (by decide) (Nat.add_le_add_left h_97b _) ?_
  obtain ⟨S_96, eS_96⟩ : ∃ z : wS, z = nA S_94 y_95 21 ((80 : Int32)).toNatClampNeg := ⟨_, rfl⟩
  rw [← eS_96] at hW
  replace hp := hp y_95 hq_y_95 S_96 eS_96
  have hX_S_96 : wX D S_94 S_96 := by rw [eS_96]; exact wX_nA hq_y_95
  have hE := hE.trans hX_S_96
  have hK_a0 : sK S_96 a0 = 17 := (hX_S_96.2 a0 hL_a0).1.trans hK_a0
  have hL_a0 : wM D S_96 a0 := hX_S_96.M hL_a0
  have hL_y_95 : wM D S_96 y_95 := by rw [eS_96]; exact Or.inl (List.mem_append_right _ List.mem_cons_self)
  have hK_y_95 : sK S_96 y_95 = 21 := by rw [eS_96]; exact va_up_self _ _ _
  refine w_putRF (k := 17) (f := 36) (T := TX12) (g := (some y_95)) F hK hW hL_a0 hK_a0 (by decide) (by decide) rfl rfl (by decide) i_17 tyX12 tyX12_ok nmX12 k_88 rfl rfl hin rfl (ty := (.array .int)) rfl (v_narrow _ _) (v_fitsA _ _) dX12_init_218 (fun H locs hW => ?_)
  obtain ⟨S_98, eS_98⟩ : ∃ z : wS, z = uR S_96 a0 36 (some y_95) := ⟨_, rfl⟩
  rw [← eS_98] at hW
  replace hp := hp S_98 eS_98
  have hX_S_98 : wX D S_96 S_98 := by rw [eS_98]; exact wX_uR
  have hE := hE.trans hX_S_98
  have hK_a0 : sK S_98 a0 = 17 := (hX_S_98.2 a0 hL_a0).1.trans hK_a0
  have hL_a0 : wM D S_98 a0 := hX_S_98.M hL_a0
  refine lv_aload_n hx hb dX12_init_221 rfl (lv_at hl 0 rfl) ?_
  refine lv_bipush (v := 80) hx hb dX12_init_222 (by decide) ?_
  obtain ⟨h_101, h_101b, hp⟩ := hp
  refine w_newaI F hK hW (hwg _ wr_int) h_101 (by omega) (Nat.le_of_ble_eq_true rfl) (Nat.le_trans (Nat.add_le_add_left h_101b _) (Nat.le_of_ble_eq_true rfl)) dX12_init_224 (fun y_99 H hq_y_99 hW => ?_)
  refine W.widen (k := 25) (n := 461731) (by decide) (Nat.add_le_add_left h_101b _) ?_
  obtain ⟨S_100, eS_100⟩ : ∃ z : wS, z = nA S_98 y_99 21 ((80 : Int32)).toNatClampNeg := ⟨_, rfl⟩
  rw [← eS_100] at hW
  replace hp := hp y_99 hq_y_99 S_100 eS_100
  have hX_S_100 : wX D S_98 S_100 := by rw [eS_100]; exact wX_nA hq_y_99
  have hE := hE.trans hX_S_100
  have hK_a0 : sK S_100 a0 = 17 := (hX_S_100.2 a0 hL_a0).1.trans hK_a0
  have hL_a0 : wM D S_100 a0 := hX_S_100.M hL_a0
  have hL_y_99 : wM D S_100 y_99 := by rw [eS_100]; exact Or.inl (List.mem_append_right _ List.mem_cons_self)
  have hK_y_99 : sK S_100 y_99 = 21 := by rw [eS_100]; exact va_up_self _ _ _
  refine w_putRF (k := 17) (f := 37) (T := TX12) (g := (some y_99)) F hK hW hL_a0 hK_a0 (by decide) (by decide) rfl rfl (by decide) i_17 tyX12 tyX12_ok nmX12 k_91 rfl rfl hin rfl (ty := (.array .int)) rfl (v_narrow _ _) (v_fitsA _ _) dX12_init_226 (fun H locs hW => ?_)
  obtain ⟨S_102, eS_102⟩ : ∃ z : wS, z = uR S_100 a0 37 (some y_99) := ⟨_, rfl⟩
  rw [← eS_102] at hW
  replace hp := hp S_102 eS_102
  have hX_S_102 : wX D S_100 S_102 := by rw [eS_102]; exact wX_uR
  have hE := hE.trans hX_S_102
  have hK_a0 : sK S_102 a0 = 17 := (hX_S_102.2 a0 hL_a0).1.trans hK_a0
  have hL_a0 : wM D S_102 a0 := hX_S_102.M hL_a0
  refine lv_aload_n hx hb dX12_init_229 rfl (lv_at hl 0 rfl) ?_
  refine lv_bipush (v := 80) hx hb dX12_init_230 (by decide) ?_
  obtain ⟨h_105, h_105b, hp⟩ := hp
  refine w_newaI F hK hW (hwg _ wr_int) h_105 (by omega) (Nat.le_of_ble_eq_true rfl) (Nat.le_trans (Nat.add_le_add_left h_105b _) (Nat.le_of_ble_eq_true rfl)) dX12_init_232 (fun y_103 H hq_y_103 hW => ?_)
  refine W.widen (k := 26) (n := 461811) (by decide) (Nat.add_le_add_left h_105b _) ?_
  obtain ⟨S_104, eS_104⟩ : ∃ z : wS, z = nA S_102 y_103 21 ((80 : Int32)).toNatClampNeg := ⟨_, rfl⟩
  rw [← eS_104] at hW
  replace hp := hp y_103 hq_y_103 S_104 eS_104
  have hX_S_104 : wX D S_102 S_104 := by rw [eS_104]; exact wX_nA hq_y_103
  have hE := hE.trans hX_S_104
  have hK_a0 : sK S_104 a0 = 17 := (hX_S_104.2 a0 hL_a0).1.trans hK_a0
  have hL_a0 : wM D S_104 a0 := hX_S_104.M hL_a0
  have hL_y_103 : wM D S_104 y_103 := by rw [eS_104]; exact Or.inl (List.mem_append_right _ List.mem_cons_self)
  have hK_y_103 : sK S_104 y_103 = 21 := by rw [eS_104]; exact va_up_self _ _ _
  refine w_putRF (k := 17) (f := 38) (T := TX12) (g := (some y_103)) F hK hW hL_a0 hK_a0 (by decide) (by decide) rfl rfl (by decide) i_17 tyX12 tyX12_ok nmX12 k_94 rfl rfl hin rfl (ty := (.array .int)) rfl (v_narrow _ _) (v_fitsA _ _) dX12_init_234 (fun H locs hW => ?_)
  obtain ⟨S_106, eS_106⟩ : ∃ z : wS, z = uR S_104 a0 38 (some y_103) := ⟨_, rfl⟩
  rw [← eS_106] at hW
  replace hp := hp S_106 eS_106
  have hX_S_106 : wX D S_104 S_106 := by rw [eS_106]; exact wX_uR
  have hE := hE.trans hX_S_106
  have hK_a0 : sK S_106 a0 = 17 := (hX_S_106.2 a0 hL_a0).1.trans hK_a0
  have hL_a0 : wM D S_106 a0 := hX_S_106.M hL_a0
  refine lv_aload_n hx hb dX12_init_237 rfl (lv_at hl 0 rfl) ?_
  refine lv_bipush (v := 64) hx hb dX12_init_238 (by decide) ?_
  obtain ⟨h_109, h_109b, hp⟩ := hp
  refine w_newaI F hK hW (hwg _ wr_int) h_109 (by omega) (Nat.le_of_ble_eq_true rfl) (Nat.le_trans (Nat.add_le_add_left h_109b _) (Nat.le_of_ble_eq_true rfl)) dX12_init_240 (fun y_107 H hq_y_107 hW => ?_)
  refine W.widen (k := 27) (n := 461875) (by decide) (Nat.add_le_add_left h_109b _) ?_
  obtain ⟨S_108, eS_108⟩ : ∃ z : wS, z = nA S_106 y_107 21 ((64 : Int32)).toNatClampNeg := ⟨_, rfl⟩
  rw [← eS_108] at hW
  replace hp := hp y_107 hq_y_107 S_108 eS_108
  have hX_S_108 : wX D S_106 S_108 := by rw [eS_108]; exact wX_nA hq_y_107
  have hE := hE.trans hX_S_108
  have hK_a0 : sK S_108 a0 = 17 := (hX_S_108.2 a0 hL_a0).1.trans hK_a0
  have hL_a0 : wM D S_108 a0 := hX_S_108.M hL_a0
  have hL_y_107 : wM D S_108 y_107 := by rw [eS_108]; exact Or.inl (List.mem_append_right _ List.mem_cons_self)
  have hK_y_107 : sK S_108 y_107 = 21 := by rw [eS_108]; exact va_up_self _ _ _
  refine w_putRF (k := 17) (f := 40) (T := TX12) (g := (some y_107)) F hK hW hL_a0 hK_a0 (by decide) (by decide) rfl rfl (by decide) i_17 tyX12 tyX12_ok nmX12 k_97 rfl rfl hin rfl (ty := (.array .int)) rfl (v_narrow _ _) (v_fitsA _ _) dX12_init_242 (fun H locs hW => ?_)
  obtain ⟨S_110, eS_110⟩ : ∃ z : wS, z = uR S_108 a0 40 (some y_107) := ⟨_, rfl⟩
  rw [← eS_110] at hW
  replace hp := hp S_110 eS_110
  have hX_S_110 : wX D S_108 S_110 := by rw [eS_110]; exact wX_uR
  have hE := hE.trans hX_S_110
  have hK_a0 : sK S_110 a0 = 17 := (hX_S_110.2 a0 hL_a0).1.trans hK_a0
  have hL_a0 : wM D S_110 a0 := hX_S_110.M hL_a0
  refine lv_aload_n hx hb dX12_init_245 rfl (lv_at hl 0 rfl) ?_
  refine lv_ldc hx hb hown (v := 125000) (hwg _ wI_RX12_100) dX12_init_246 ?_
  obtain ⟨h_113, h_113b, hp⟩ := hp
  refine w_newaI F hK hW (hwg _ wr_int) h_113 (by omega) (Nat.le_of_ble_eq_true rfl) (Nat.le_trans (Nat.add_le_add_left h_113b _) (Nat.le_of_ble_eq_true rfl)) dX12_init_248 (fun y_111 H hq_y_111 hW => ?_)
  refine W.widen (k := 28) (n := 586875) (by decide) (Nat.add_le_add_left h_113b _) ?_
  obtain ⟨S_112, eS_112⟩ : ∃ z : wS, z = nA S_110 y_111 21 ((125000 : Int32)).toNatClampNeg := ⟨_, rfl⟩
  rw [← eS_112] at hW
  replace hp := hp y_111 hq_y_111 S_112 eS_112
  have hX_S_112 : wX D S_110 S_112 := by rw [eS_112]; exact wX_nA hq_y_111
  have hE := hE.trans hX_S_112
  have hK_a0 : sK S_112 a0 = 17 := (hX_S_112.2 a0 hL_a0).1.trans hK_a0
  have hL_a0 : wM D S_112 a0 := hX_S_112.M hL_a0
  have hL_y_111 : wM D S_112 y_111 := by rw [eS_112]; exact Or.inl (List.mem_append_right _ List.mem_cons_self)
  have hK_y_111 : sK S_112 y_111 = 21 := by rw [eS_112]; exact va_up_self _ _ _
  refine w_putRF (k := 17) (f := 41) (T := TX12) (g := (some y_111)) F hK hW hL_a0 hK_a0 (by decide) (by decide) rfl rfl (by decide) i_17 tyX12 tyX12_ok nmX12 k_101 rfl rfl hin rfl (ty := (.array .int)) rfl (v_narrow _ _) (v_fitsA _ _) dX12_init_250 (fun H locs hW => ?_)
  obtain ⟨S_114, eS_114⟩ : ∃ z : wS, z = uR S_112 a0 41 (some y_111) := ⟨_, rfl⟩
  rw [← eS_114] at hW
  replace hp := hp S_114 eS_114
  have hX_S_114 : wX D S_112 S_114 := by rw [eS_114]; exact wX_uR
  have hE := hE.trans hX_S_114
  have hK_a0 : sK S_114 a0 = 17 := (hX_S_114.2 a0 hL_a0).1.trans hK_a0
  have hL_a0 : wM D S_114 a0 := hX_S_114.M hL_a0
  refine lv_aload_n hx hb dX12_init_253 rfl (lv_at hl 0 rfl) ?_
  refine lv_bipush (v := 6) hx hb dX12_init_254 (by decide) ?_
  obtain ⟨h_117, h_117b, hp⟩ := hp
  refine w_newaZ F hK hW (hwg _ wr_boolean) h_117 (by omega) (Nat.le_of_ble_eq_true rfl) (Nat.le_trans (Nat.add_le_add_left h_117b _) (Nat.le_of_ble_eq_true rfl)) dX12_init_256 (fun y_115 H hq_y_115 hW => ?_)
  refine W.widen (k := 29) (n := 586881) (by decide) (Nat.add_le_add_left h_117b _) ?_
  obtain ⟨S_116, eS_116⟩ : ∃ z : wS, z = nA S_114 y_115 23 ((6 : Int32)).toNatClampNeg := ⟨_, rfl⟩
  rw [← eS_116] at hW
  replace hp := hp y_115 hq_y_115 S_116 eS_116
  have hX_S_116 : wX D S_114 S_116 := by rw [eS_116]; exact wX_nA hq_y_115
  have hE := hE.trans hX_S_116
  have hK_a0 : sK S_116 a0 = 17 := (hX_S_116.2 a0 hL_a0).1.trans hK_a0
  have hL_a0 : wM D S_116 a0 := hX_S_116.M hL_a0
  have hL_y_115 : wM D S_116 y_115 := by rw [eS_116]; exact Or.inl (List.mem_append_right _ List.mem_cons_self)
  have hK_y_115 : sK S_116 y_115 = 23 := by rw [eS_116]; exact va_up_self _ _ _
  refine w_putRF (k := 17) (f := 42) (T := TX12) (g := (some y_115)) F hK hW hL_a0 hK_a0 (by decide) (by decide) rfl rfl (by decide) i_17 tyX12 tyX12_ok nmX12 k_104 rfl rfl hin rfl (ty := (.array .boolean)) rfl (v_narrow _ _) (v_fitsA _ _) dX12_init_258 (fun H locs hW => ?_)
  obtain ⟨S_118, eS_118⟩ : ∃ z : wS, z = uR S_116 a0 42 (some y_115) := ⟨_, rfl⟩
  rw [← eS_118] at hW
  replace hp := hp S_118 eS_118
  have hX_S_118 : wX D S_116 S_118 := by rw [eS_118]; exact wX_uR
  have hE := hE.trans hX_S_118
  have hK_a0 : sK S_118 a0 = 17 := (hX_S_118.2 a0 hL_a0).1.trans hK_a0
  have hL_a0 : wM D S_118 a0 := hX_S_118.M hL_a0
  refine lv_aload_n hx hb dX12_init_261 rfl (lv_at hl 0 rfl) ?_
  refine w_callV (va_runV (As := []) (rest := []) F (c_X12_resets l hL_a0 hK_a0 hp H.size) (cwV (C := RX12) 0 hts (wg_V wm_RX12_107 wy_X12_resets) rfl rfl rfl (by decide +kernel) ⟨Nat.le_of_ble_eq_true rfl, Nat.le_of_ble_eq_true rfl⟩) (w_preV hK hW hL_a0 hK_a0 (by decide) rfl) rfl rfl hl.1 rfl (lv_room (Nat.le_of_ble_eq_true rfl)) dX12_init_262 ⟨Nat.le_of_ble_eq_true rfl, Nat.le_of_ble_eq_true rfl⟩) hW (fun S_120 H locs hp hW => ?_)
  obtain ⟨hX_S_120, hp⟩ := hp
  refine W.widen (k := 29) (n := 586881) (by decide) (by decide) ?_
  have hE := hE.trans hX_S_120
  have hK_a0 : sK S_120 a0 = 17 := (hX_S_120.2 a0 hL_a0).1.trans hK_a0
  have hL_a0 : wM D S_120 a0 := hX_S_120.M hL_a0
  refine lv_iconst (v := 0) hx hb dX12_init_265 (by decide) ?_
  refine lv_istore_n (lv' := [(1, .int (0 : Int32)), (0, .ref a0)]) hx hb dX12_init_266 rfl hl (by decide) rfl (fun ls hl => ?_)
  obtain ⟨n_121, hp⟩ := hp
  exact t_X12_init_267 F hr hlocks hK hin n_121 hp hW hE (lv_sub hl [1, 0] rfl) hL_a0 hK_a0
set_option maxHeartbeats 4000000 in
set_option maxRecDepth 100000 in
theorem c_X12_init (l : Launch) {D : wD} {cy : Nat → ClassId} {X : va_W} {S0 : wS} {post : wS → Prop} {a0 : Nat} (hL_a0 : wM D S0 a0) (hK_a0 : sK S0 a0 = 17) (hp : wp_X12_init D post S0 a0) : mV D cy X l yX12_init wz_X12_init r_X12_init [.ref a0] S0 (fun S9 => wX D S0 S9 ∧ post S9) := by
  intro sz
  refine Met.ofW (cc := cX12_init) (maxL := 3) (ret := none) (by decide) rfl ?_
  intro p e s m args below meth c s₁ B hml hv
  obtain ⟨rfl, hsz, hP, hK, hD0, hRO⟩ := hv
  have hts := atoms_spec (ws := wz_X12_init) B.pre
  have hown : s.vm.findClass RX12 = some m.cls := findClass_of_methodNamed B.named
  subst hsz
  have hD := hD0.self (sz := s.heap.size)
  have F : CallFix p m c cX12_init 3 s _ wz_X12_init RX12 := ⟨B.exec, B.bytes, hml, hown, hts⟩
  have hr := B.returns
  have hlocks := B.notSynchronized
  have hin : meth.name = "<init>" := (name_of_methodNamed B.named B.method).1
  generalize hAe : va_A (wL cy X S0) s.heap.size = A at hD hK ⊢
  have hA : ∀ q, s.heap.size ≤ q → A q := fun q h => by rw [← hAe]; exact Or.inr h
  have hW : wO D cy X A s.heap S0 s.heap [] := ⟨hP, hD, va_S.rf, hA, hRO⟩
  have hl := lv_entry ([.ref a0]) (n := 3) (Nat.le_of_ble_eq_true rfl)
  rw [lg_entry_eq]
  generalize (lg_sl ([.ref a0]) ++ List.replicate (3 - (lg_sl ([.ref a0])).length) Slot.unset).toArray = ls at hl ⊢
  have hl : lv_has ls 3 [(0, .ref a0)] := hl
  unfold wp_X12_init at hp
  exact t_X12_init_0 F hr hlocks hK hin hp hW wX.rf (lv_sub hl [0] rfl) hL_a0 hK_a0
