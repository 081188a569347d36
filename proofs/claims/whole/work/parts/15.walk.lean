theorem dX12_gamesOf_0 : decode cX12_gamesOf 0 = .ok (.aload_n 0, 1) := by decide +kernel
theorem dX12_gamesOf_1 : decode cX12_gamesOf 1 = .ok (.iload_n 1, 1) := by decide +kernel
theorem dX12_gamesOf_2 : decode cX12_gamesOf 2 = .ok (.iload_n 2, 1) := by decide +kernel
theorem dX12_gamesOf_3 : decode cX12_gamesOf 3 = .ok (.invokevirtual 452, 3) := by decide +kernel
theorem dX12_gamesOf_6 : decode cX12_gamesOf 6 = .ok (.istore_n 3, 1) := by decide +kernel
theorem dX12_gamesOf_7 : decode cX12_gamesOf 7 = .ok (.iload_n 3, 1) := by decide +kernel
theorem dX12_gamesOf_8 : decode cX12_gamesOf 8 = .ok (.iconst (-1), 1) := by decide +kernel
theorem dX12_gamesOf_9 : decode cX12_gamesOf 9 = .ok (.if_icmp .ne 7, 3) := by decide +kernel
theorem dX12_gamesOf_12 : decode cX12_gamesOf 12 = .ok (.iconst 0, 1) := by decide +kernel
theorem dX12_gamesOf_13 : decode cX12_gamesOf 13 = .ok (.goto 9, 3) := by decide +kernel
theorem dX12_gamesOf_16 : decode cX12_gamesOf 16 = .ok (.aload_n 0, 1) := by decide +kernel
theorem dX12_gamesOf_17 : decode cX12_gamesOf 17 = .ok (.getfield 54, 3) := by decide +kernel
theorem dX12_gamesOf_20 : decode cX12_gamesOf 20 = .ok (.iload_n 3, 1) := by decide +kernel
theorem dX12_gamesOf_21 : decode cX12_gamesOf 21 = .ok (.iaload, 1) := by decide +kernel
theorem dX12_gamesOf_22 : decode cX12_gamesOf 22 = .ok (.ireturn, 1) := by decide +kernel
theorem dX12_holds_0 : decode cX12_holds 0 = .ok (.aload_n 0, 1) := by decide +kernel
theorem dX12_holds_1 : decode cX12_holds 1 = .ok (.iconst 0, 1) := by decide +kernel
theorem dX12_holds_2 : decode cX12_holds 2 = .ok (.putfield 110, 3) := by decide +kernel
theorem dX12_holds_5 : decode cX12_holds 5 = .ok (.iconst 0, 1) := by decide +kernel
theorem dX12_holds_6 : decode cX12_holds 6 = .ok (.istore_n 1, 1) := by decide +kernel
theorem dX12_holds_7 : decode cX12_holds 7 = .ok (.iload_n 1, 1) := by decide +kernel
theorem dX12_holds_8 : decode cX12_holds 8 = .ok (.aload_n 0, 1) := by decide +kernel
theorem dX12_holds_9 : decode cX12_holds 9 = .ok (.invokevirtual 113, 3) := by decide +kernel
theorem dX12_holds_12 : decode cX12_holds 12 = .ok (.if_icmp .ge 75, 3) := by decide +kernel
theorem dX12_holds_15 : decode cX12_holds 15 = .ok (.aload_n 0, 1) := by decide +kernel
theorem dX12_holds_16 : decode cX12_holds 16 = .ok (.getfield 32, 3) := by decide +kernel
theorem dX12_holds_19 : decode cX12_holds 19 = .ok (.aload_n 0, 1) := by decide +kernel
theorem dX12_holds_20 : decode cX12_holds 20 = .ok (.invokevirtual 127, 3) := by decide +kernel
theorem dX12_holds_23 : decode cX12_holds 23 = .ok (.iload_n 1, 1) := by decide +kernel
theorem dX12_holds_24 : decode cX12_holds 24 = .ok (.iadd, 1) := by decide +kernel
theorem dX12_holds_25 : decode cX12_holds 25 = .ok (.iaload, 1) := by decide +kernel
theorem dX12_holds_26 : decode cX12_holds 26 = .ok (.istore_n 2, 1) := by decide +kernel
theorem dX12_holds_27 : decode cX12_holds 27 = .ok (.aload_n 0, 1) := by decide +kernel
theorem dX12_holds_28 : decode cX12_holds 28 = .ok (.getfield 97, 3) := by decide +kernel
theorem dX12_holds_31 : decode cX12_holds 31 = .ok (.iload_n 1, 1) := by decide +kernel
theorem dX12_holds_32 : decode cX12_holds 32 = .ok (.iaload, 1) := by decide +kernel
theorem dX12_holds_33 : decode cX12_holds 33 = .ok (.istore_n 3, 1) := by decide +kernel
theorem dX12_holds_34 : decode cX12_holds 34 = .ok (.iload_n 3, 1) := by decide +kernel
theorem dX12_holds_35 : decode cX12_holds 35 = .ok (.bipush 15, 2) := by decide +kernel
theorem dX12_holds_37 : decode cX12_holds 37 = .ok (.if_icmp .eq 44, 3) := by decide +kernel
theorem dX12_holds_40 : decode cX12_holds 40 = .ok (.iload_n 3, 1) := by decide +kernel
theorem dX12_holds_41 : decode cX12_holds 41 = .ok (.bipush 13, 2) := by decide +kernel
theorem dX12_holds_43 : decode cX12_holds 43 = .ok (.if_icmp .ne 14, 3) := by decide +kernel
theorem dX12_holds_46 : decode cX12_holds 46 = .ok (.iload_n 2, 1) := by decide +kernel
theorem dX12_holds_47 : decode cX12_holds 47 = .ok (.iconst 1, 1) := by decide +kernel
theorem dX12_holds_48 : decode cX12_holds 48 = .ok (.invokestatic 154, 3) := by decide +kernel
theorem dX12_holds_51 : decode cX12_holds 51 = .ok (.ifCond .eq 28, 3) := by decide +kernel
theorem dX12_holds_54 : decode cX12_holds 54 = .ok (.goto 27, 3) := by decide +kernel
theorem dX12_holds_57 : decode cX12_holds 57 = .ok (.iload_n 3, 1) := by decide +kernel
theorem dX12_holds_58 : decode cX12_holds 58 = .ok (.bipush 14, 2) := by decide +kernel
theorem dX12_holds_60 : decode cX12_holds 60 = .ok (.if_icmp .ne 14, 3) := by decide +kernel
theorem dX12_holds_63 : decode cX12_holds 63 = .ok (.iload_n 2, 1) := by decide +kernel
theorem dX12_holds_64 : decode cX12_holds 64 = .ok (.iconst 0, 1) := by decide +kernel
theorem dX12_holds_65 : decode cX12_holds 65 = .ok (.invokestatic 154, 3) := by decide +kernel
theorem dX12_holds_68 : decode cX12_holds 68 = .ok (.ifCond .eq 11, 3) := by decide +kernel
theorem dX12_holds_71 : decode cX12_holds 71 = .ok (.goto 10, 3) := by decide +kernel
theorem dX12_holds_74 : decode cX12_holds 74 = .ok (.iload_n 3, 1) := by decide +kernel
theorem dX12_holds_75 : decode cX12_holds 75 = .ok (.iload_n 2, 1) := by decide +kernel
theorem dX12_holds_76 : decode cX12_holds 76 = .ok (.if_icmp .eq 5, 3) := by decide +kernel
theorem dX12_holds_79 : decode cX12_holds 79 = .ok (.iconst 0, 1) := by decide +kernel
theorem dX12_holds_80 : decode cX12_holds 80 = .ok (.ireturn, 1) := by decide +kernel
theorem dX12_holds_81 : decode cX12_holds 81 = .ok (.iinc 1 1, 3) := by decide +kernel
theorem dX12_holds_84 : decode cX12_holds 84 = .ok (.goto (-77), 3) := by decide +kernel
theorem dX12_holds_87 : decode cX12_holds 87 = .ok (.iconst 1, 1) := by decide +kernel
theorem dX12_holds_88 : decode cX12_holds 88 = .ok (.ireturn, 1) := by decide +kernel
theorem dX12_resets_0 : decode cX12_resets 0 = .ok (.iconst 0, 1) := by decide +kernel
theorem dX12_resets_1 : decode cX12_resets 1 = .ok (.istore_n 1, 1) := by decide +kernel
theorem dX12_resets_2 : decode cX12_resets 2 = .ok (.iload_n 1, 1) := by decide +kernel
theorem dX12_resets_3 : decode cX12_resets 3 = .ok (.bipush 67, 2) := by decide +kernel
theorem dX12_resets_5 : decode cX12_resets 5 = .ok (.if_icmp .ge 16, 3) := by decide +kernel
theorem dX12_resets_8 : decode cX12_resets 8 = .ok (.aload_n 0, 1) := by decide +kernel
theorem dX12_resets_9 : decode cX12_resets 9 = .ok (.getfield 32, 3) := by decide +kernel
theorem dX12_resets_12 : decode cX12_resets 12 = .ok (.iload_n 1, 1) := by decide +kernel
theorem dX12_resets_13 : decode cX12_resets 13 = .ok (.iconst 0, 1) := by decide +kernel
theorem dX12_resets_14 : decode cX12_resets 14 = .ok (.iastore, 1) := by decide +kernel
theorem dX12_resets_15 : decode cX12_resets 15 = .ok (.iinc 1 1, 3) := by decide +kernel
theorem dX12_resets_18 : decode cX12_resets 18 = .ok (.goto (-16), 3) := by decide +kernel
theorem dX12_resets_21 : decode cX12_resets 21 = .ok (.aload_n 0, 1) := by decide +kernel
theorem dX12_resets_22 : decode cX12_resets 22 = .ok (.getfield 32, 3) := by decide +kernel
theorem dX12_resets_25 : decode cX12_resets 25 = .ok (.bipush 64, 2) := by decide +kernel
theorem dX12_resets_27 : decode cX12_resets 27 = .ok (.iconst 1, 1) := by decide +kernel
theorem dX12_resets_28 : decode cX12_resets 28 = .ok (.iastore, 1) := by decide +kernel
theorem dX12_resets_29 : decode cX12_resets 29 = .ok (.aload_n 0, 1) := by decide +kernel
theorem dX12_resets_30 : decode cX12_resets 30 = .ok (.getfield 32, 3) := by decide +kernel
theorem dX12_resets_33 : decode cX12_resets 33 = .ok (.bipush 66, 2) := by decide +kernel
theorem dX12_resets_35 : decode cX12_resets 35 = .ok (.iconst (-1), 1) := by decide +kernel
theorem dX12_resets_36 : decode cX12_resets 36 = .ok (.iastore, 1) := by decide +kernel
theorem dX12_resets_37 : decode cX12_resets 37 = .ok (.aload_n 0, 1) := by decide +kernel
theorem dX12_resets_38 : decode cX12_resets 38 = .ok (.iconst 0, 1) := by decide +kernel
theorem dX12_resets_39 : decode cX12_resets 39 = .ok (.putfield 121, 3) := by decide +kernel
theorem dX12_resets_42 : decode cX12_resets 42 = .ok (.aload_n 0, 1) := by decide +kernel
theorem dX12_resets_43 : decode cX12_resets 43 = .ok (.getfield 69, 3) := by decide +kernel
theorem dX12_resets_46 : decode cX12_resets 46 = .ok (.iconst 0, 1) := by decide +kernel
theorem dX12_resets_47 : decode cX12_resets 47 = .ok (.iconst 0, 1) := by decide +kernel
theorem dX12_resets_48 : decode cX12_resets 48 = .ok (.iastore, 1) := by decide +kernel
theorem dX12_resets_49 : decode cX12_resets 49 = .ok (.aload_n 0, 1) := by decide +kernel
theorem dX12_resets_50 : decode cX12_resets 50 = .ok (.getfield 69, 3) := by decide +kernel
theorem dX12_resets_53 : decode cX12_resets 53 = .ok (.iconst 1, 1) := by decide +kernel
theorem dX12_resets_54 : decode cX12_resets 54 = .ok (.iconst 0, 1) := by decide +kernel
theorem dX12_resets_55 : decode cX12_resets 55 = .ok (.iastore, 1) := by decide +kernel
theorem dX12_resets_56 : decode cX12_resets 56 = .ok (.aload_n 0, 1) := by decide +kernel
theorem dX12_resets_57 : decode cX12_resets 57 = .ok (.iconst 0, 1) := by decide +kernel
theorem dX12_resets_58 : decode cX12_resets 58 = .ok (.putfield 124, 3) := by decide +kernel
theorem dX12_resets_61 : decode cX12_resets 61 = .ok (.iconst 0, 1) := by decide +kernel
theorem dX12_resets_62 : decode cX12_resets 62 = .ok (.istore_n 1, 1) := by decide +kernel
theorem dX12_resets_63 : decode cX12_resets 63 = .ok (.iload_n 1, 1) := by decide +kernel
theorem dX12_resets_64 : decode cX12_resets 64 = .ok (.bipush 64, 2) := by decide +kernel
theorem dX12_resets_66 : decode cX12_resets 66 = .ok (.if_icmp .ge 17, 3) := by decide +kernel
theorem dX12_resets_69 : decode cX12_resets 69 = .ok (.aload_n 0, 1) := by decide +kernel
theorem dX12_resets_70 : decode cX12_resets 70 = .ok (.getfield 97, 3) := by decide +kernel
theorem dX12_resets_73 : decode cX12_resets 73 = .ok (.iload_n 1, 1) := by decide +kernel
theorem dX12_resets_74 : decode cX12_resets 74 = .ok (.bipush 15, 2) := by decide +kernel
theorem dX12_resets_76 : decode cX12_resets 76 = .ok (.iastore, 1) := by decide +kernel
theorem dX12_resets_77 : decode cX12_resets 77 = .ok (.iinc 1 1, 3) := by decide +kernel
theorem dX12_resets_80 : decode cX12_resets 80 = .ok (.goto (-17), 3) := by decide +kernel
theorem dX12_resets_83 : decode cX12_resets 83 = .ok (.iconst 0, 1) := by decide +kernel
theorem dX12_resets_84 : decode cX12_resets 84 = .ok (.istore_n 1, 1) := by decide +kernel
theorem dX12_resets_85 : decode cX12_resets 85 = .ok (.iload_n 1, 1) := by decide +kernel
theorem dX12_resets_86 : decode cX12_resets 86 = .ok (.bipush 6, 2) := by decide +kernel
theorem dX12_resets_88 : decode cX12_resets 88 = .ok (.if_icmp .ge 16, 3) := by decide +kernel
theorem dX12_resets_91 : decode cX12_resets 91 = .ok (.aload_n 0, 1) := by decide +kernel
theorem dX12_resets_92 : decode cX12_resets 92 = .ok (.getfield 104, 3) := by decide +kernel
theorem dX12_resets_95 : decode cX12_resets 95 = .ok (.iload_n 1, 1) := by decide +kernel
theorem dX12_resets_96 : decode cX12_resets 96 = .ok (.iconst 0, 1) := by decide +kernel
theorem dX12_resets_97 : decode cX12_resets 97 = .ok (.bastore, 1) := by decide +kernel
theorem dX12_resets_98 : decode cX12_resets 98 = .ok (.iinc 1 1, 3) := by decide +kernel
theorem dX12_resets_101 : decode cX12_resets 101 = .ok (.goto (-16), 3) := by decide +kernel
theorem dX12_resets_104 : decode cX12_resets 104 = .ok (.return_, 1) := by decide +kernel
theorem dX12_writes_0 : decode cX12_writes 0 = .ok (.aload_n 0, 1) := by decide +kernel
theorem dX12_writes_1 : decode cX12_writes 1 = .ok (.getfield 45, 3) := by decide +kernel
theorem dX12_writes_4 : decode cX12_writes 4 = .ok (.aload_n 0, 1) := by decide +kernel
theorem dX12_writes_5 : decode cX12_writes 5 = .ok (.getfield 244, 3) := by decide +kernel
theorem dX12_writes_8 : decode cX12_writes 8 = .ok (.iload_n 1, 1) := by decide +kernel
theorem dX12_writes_9 : decode cX12_writes 9 = .ok (.iastore, 1) := by decide +kernel
theorem dX12_writes_10 : decode cX12_writes 10 = .ok (.aload_n 0, 1) := by decide +kernel
theorem dX12_writes_11 : decode cX12_writes 11 = .ok (.dup, 1) := by decide +kernel
theorem dX12_writes_12 : decode cX12_writes 12 = .ok (.getfield 244, 3) := by decide +kernel
theorem dX12_writes_15 : decode cX12_writes 15 = .ok (.iconst 1, 1) := by decide +kernel
theorem dX12_writes_16 : decode cX12_writes 16 = .ok (.iadd, 1) := by decide +kernel
theorem dX12_writes_17 : decode cX12_writes 17 = .ok (.putfield 244, 3) := by decide +kernel
theorem dX12_writes_20 : decode cX12_writes 20 = .ok (.return_, 1) := by decide +kernel
theorem dX12_writesSquare_0 : decode cX12_writesSquare 0 = .ok (.aload_n 0, 1) := by decide +kernel
theorem dX12_writesSquare_1 : decode cX12_writesSquare 1 = .ok (.bipush 97, 2) := by decide +kernel
theorem dX12_writesSquare_3 : decode cX12_writesSquare 3 = .ok (.aload_n 0, 1) := by decide +kernel
theorem dX12_writesSquare_4 : decode cX12_writesSquare 4 = .ok (.iload_n 1, 1) := by decide +kernel
theorem dX12_writesSquare_5 : decode cX12_writesSquare 5 = .ok (.invokevirtual 134, 3) := by decide +kernel
theorem dX12_writesSquare_8 : decode cX12_writesSquare 8 = .ok (.iadd, 1) := by decide +kernel
theorem dX12_writesSquare_9 : decode cX12_writesSquare 9 = .ok (.invokevirtual 247, 3) := by decide +kernel
theorem dX12_writesSquare_12 : decode cX12_writesSquare 12 = .ok (.aload_n 0, 1) := by decide +kernel
theorem dX12_writesSquare_13 : decode cX12_writesSquare 13 = .ok (.bipush 49, 2) := by decide +kernel
theorem dX12_writesSquare_15 : decode cX12_writesSquare 15 = .ok (.aload_n 0, 1) := by decide +kernel
theorem dX12_writesSquare_16 : decode cX12_writesSquare 16 = .ok (.iload_n 1, 1) := by decide +kernel
theorem dX12_writesSquare_17 : decode cX12_writesSquare 17 = .ok (.invokevirtual 138, 3) := by decide +kernel
theorem dX12_writesSquare_20 : decode cX12_writesSquare 20 = .ok (.iadd, 1) := by decide +kernel
theorem dX12_writesSquare_21 : decode cX12_writesSquare 21 = .ok (.invokevirtual 247, 3) := by decide +kernel
theorem dX12_writesSquare_24 : decode cX12_writesSquare 24 = .ok (.return_, 1) := by decide +kernel
theorem dX12_writesPaper_0 : decode cX12_writesPaper 0 = .ok (.aload_n 0, 1) := by decide +kernel
theorem dX12_writesPaper_1 : decode cX12_writesPaper 1 = .ok (.iconst 0, 1) := by decide +kernel
theorem dX12_writesPaper_2 : decode cX12_writesPaper 2 = .ok (.putfield 244, 3) := by decide +kernel
theorem dX12_writesPaper_5 : decode cX12_writesPaper 5 = .ok (.aload_n 0, 1) := by decide +kernel
theorem dX12_writesPaper_6 : decode cX12_writesPaper 6 = .ok (.getfield 13, 3) := by decide +kernel
theorem dX12_writesPaper_9 : decode cX12_writesPaper 9 = .ok (.iconst 1, 1) := by decide +kernel
theorem dX12_writesPaper_10 : decode cX12_writesPaper 10 = .ok (.isub, 1) := by decide +kernel
theorem dX12_writesPaper_11 : decode cX12_writesPaper 11 = .ok (.istore_n 1, 1) := by decide +kernel
theorem dX12_writesPaper_12 : decode cX12_writesPaper 12 = .ok (.iload_n 1, 1) := by decide +kernel
theorem dX12_writesPaper_13 : decode cX12_writesPaper 13 = .ok (.ifCond .lt 130, 3) := by decide +kernel
theorem dX12_writesPaper_16 : decode cX12_writesPaper 16 = .ok (.iconst 0, 1) := by decide +kernel
theorem dX12_writesPaper_17 : decode cX12_writesPaper 17 = .ok (.istore_n 2, 1) := by decide +kernel
theorem dX12_writesPaper_18 : decode cX12_writesPaper 18 = .ok (.iconst 0, 1) := by decide +kernel
theorem dX12_writesPaper_19 : decode cX12_writesPaper 19 = .ok (.istore_n 3, 1) := by decide +kernel
theorem dX12_writesPaper_20 : decode cX12_writesPaper 20 = .ok (.iload_n 3, 1) := by decide +kernel
theorem dX12_writesPaper_21 : decode cX12_writesPaper 21 = .ok (.aload_n 0, 1) := by decide +kernel
theorem dX12_writesPaper_22 : decode cX12_writesPaper 22 = .ok (.getfield 9, 3) := by decide +kernel
theorem dX12_writesPaper_25 : decode cX12_writesPaper 25 = .ok (.if_icmp .ge 85, 3) := by decide +kernel
theorem dX12_writesPaper_28 : decode cX12_writesPaper 28 = .ok (.aload_n 0, 1) := by decide +kernel
theorem dX12_writesPaper_29 : decode cX12_writesPaper 29 = .ok (.iconst 0, 1) := by decide +kernel
theorem dX12_writesPaper_30 : decode cX12_writesPaper 30 = .ok (.aload_n 0, 1) := by decide +kernel
theorem dX12_writesPaper_31 : decode cX12_writesPaper 31 = .ok (.getfield 9, 3) := by decide +kernel
theorem dX12_writesPaper_34 : decode cX12_writesPaper 34 = .ok (.iload_n 1, 1) := by decide +kernel
theorem dX12_writesPaper_35 : decode cX12_writesPaper 35 = .ok (.imul, 1) := by decide +kernel
theorem dX12_writesPaper_36 : decode cX12_writesPaper 36 = .ok (.iload_n 3, 1) := by decide +kernel
theorem dX12_writesPaper_37 : decode cX12_writesPaper 37 = .ok (.iadd, 1) := by decide +kernel
theorem dX12_writesPaper_38 : decode cX12_writesPaper 38 = .ok (.invokevirtual 141, 3) := by decide +kernel
theorem dX12_writesPaper_41 : decode cX12_writesPaper 41 = .ok (.istore 4, 2) := by decide +kernel
theorem dX12_writesPaper_43 : decode cX12_writesPaper 43 = .ok (.iload 4, 2) := by decide +kernel
theorem dX12_writesPaper_45 : decode cX12_writesPaper 45 = .ok (.ifCond .eq 15, 3) := by decide +kernel
theorem dX12_writesPaper_48 : decode cX12_writesPaper 48 = .ok (.iload_n 2, 1) := by decide +kernel
theorem dX12_writesPaper_49 : decode cX12_writesPaper 49 = .ok (.ifCond .le 11, 3) := by decide +kernel
theorem dX12_writesPaper_52 : decode cX12_writesPaper 52 = .ok (.aload_n 0, 1) := by decide +kernel
theorem dX12_writesPaper_53 : decode cX12_writesPaper 53 = .ok (.bipush 48, 2) := by decide +kernel
theorem dX12_writesPaper_55 : decode cX12_writesPaper 55 = .ok (.iload_n 2, 1) := by decide +kernel
theorem dX12_writesPaper_56 : decode cX12_writesPaper 56 = .ok (.iadd, 1) := by decide +kernel
theorem dX12_writesPaper_57 : decode cX12_writesPaper 57 = .ok (.invokevirtual 247, 3) := by decide +kernel
theorem dX12_writesPaper_60 : decode cX12_writesPaper 60 = .ok (.iload 4, 2) := by decide +kernel
theorem dX12_writesPaper_62 : decode cX12_writesPaper 62 = .ok (.ifCond .ne 9, 3) := by decide +kernel
theorem dX12_writesPaper_65 : decode cX12_writesPaper 65 = .ok (.iload_n 2, 1) := by decide +kernel
theorem dX12_writesPaper_66 : decode cX12_writesPaper 66 = .ok (.iconst 1, 1) := by decide +kernel
theorem dX12_writesPaper_67 : decode cX12_writesPaper 67 = .ok (.iadd, 1) := by decide +kernel
theorem dX12_writesPaper_68 : decode cX12_writesPaper 68 = .ok (.goto 4, 3) := by decide +kernel
theorem dX12_writesPaper_71 : decode cX12_writesPaper 71 = .ok (.iconst 0, 1) := by decide +kernel
theorem dX12_writesPaper_72 : decode cX12_writesPaper 72 = .ok (.istore_n 2, 1) := by decide +kernel
theorem dX12_writesPaper_73 : decode cX12_writesPaper 73 = .ok (.iload 4, 2) := by decide +kernel
theorem dX12_writesPaper_75 : decode cX12_writesPaper 75 = .ok (.ifCond .eq 29, 3) := by decide +kernel
theorem dX12_writesPaper_78 : decode cX12_writesPaper 78 = .ok (.aload_n 0, 1) := by decide +kernel
theorem dX12_writesPaper_79 : decode cX12_writesPaper 79 = .ok (.iload 4, 2) := by decide +kernel
theorem dX12_writesPaper_81 : decode cX12_writesPaper 81 = .ok (.invokestatic 148, 3) := by decide +kernel
theorem dX12_writesPaper_84 : decode cX12_writesPaper 84 = .ok (.invokestatic 250, 3) := by decide +kernel
theorem dX12_writesPaper_87 : decode cX12_writesPaper 87 = .ok (.iload 4, 2) := by decide +kernel
theorem dX12_writesPaper_89 : decode cX12_writesPaper 89 = .ok (.bipush 6, 2) := by decide +kernel
theorem dX12_writesPaper_91 : decode cX12_writesPaper 91 = .ok (.if_icmp .le 8, 3) := by decide +kernel
theorem dX12_writesPaper_94 : decode cX12_writesPaper 94 = .ok (.bipush 32, 2) := by decide +kernel
theorem dX12_writesPaper_96 : decode cX12_writesPaper 96 = .ok (.goto 4, 3) := by decide +kernel
theorem dX12_writesPaper_99 : decode cX12_writesPaper 99 = .ok (.iconst 0, 1) := by decide +kernel
theorem dX12_writesPaper_100 : decode cX12_writesPaper 100 = .ok (.iadd, 1) := by decide +kernel
theorem dX12_writesPaper_101 : decode cX12_writesPaper 101 = .ok (.invokevirtual 247, 3) := by decide +kernel
theorem dX12_writesPaper_104 : decode cX12_writesPaper 104 = .ok (.iinc 3 1, 3) := by decide +kernel
theorem dX12_writesPaper_107 : decode cX12_writesPaper 107 = .ok (.goto (-87), 3) := by decide +kernel
theorem dX12_writesPaper_110 : decode cX12_writesPaper 110 = .ok (.iload_n 2, 1) := by decide +kernel
theorem dX12_writesPaper_111 : decode cX12_writesPaper 111 = .ok (.ifCond .le 11, 3) := by decide +kernel
theorem dX12_writesPaper_114 : decode cX12_writesPaper 114 = .ok (.aload_n 0, 1) := by decide +kernel
theorem dX12_writesPaper_115 : decode cX12_writesPaper 115 = .ok (.bipush 48, 2) := by decide +kernel
theorem dX12_writesPaper_117 : decode cX12_writesPaper 117 = .ok (.iload_n 2, 1) := by decide +kernel
theorem dX12_writesPaper_118 : decode cX12_writesPaper 118 = .ok (.iadd, 1) := by decide +kernel
theorem dX12_writesPaper_119 : decode cX12_writesPaper 119 = .ok (.invokevirtual 247, 3) := by decide +kernel
theorem dX12_writesPaper_122 : decode cX12_writesPaper 122 = .ok (.aload_n 0, 1) := by decide +kernel
theorem dX12_writesPaper_123 : decode cX12_writesPaper 123 = .ok (.iload_n 1, 1) := by decide +kernel
theorem dX12_writesPaper_124 : decode cX12_writesPaper 124 = .ok (.ifCond .le 8, 3) := by decide +kernel
theorem dX12_writesPaper_127 : decode cX12_writesPaper 127 = .ok (.bipush 47, 2) := by decide +kernel
theorem dX12_writesPaper_129 : decode cX12_writesPaper 129 = .ok (.goto 5, 3) := by decide +kernel
theorem dX12_writesPaper_132 : decode cX12_writesPaper 132 = .ok (.bipush 32, 2) := by decide +kernel
theorem dX12_writesPaper_134 : decode cX12_writesPaper 134 = .ok (.invokevirtual 247, 3) := by decide +kernel
theorem dX12_writesPaper_137 : decode cX12_writesPaper 137 = .ok (.iinc 1 (-1), 3) := by decide +kernel
theorem dX12_writesPaper_140 : decode cX12_writesPaper 140 = .ok (.goto (-128), 3) := by decide +kernel
theorem dX12_writesPaper_143 : decode cX12_writesPaper 143 = .ok (.aload_n 0, 1) := by decide +kernel
theorem dX12_writesPaper_144 : decode cX12_writesPaper 144 = .ok (.aload_n 0, 1) := by decide +kernel
theorem dX12_writesPaper_145 : decode cX12_writesPaper 145 = .ok (.iconst 0, 1) := by decide +kernel
theorem dX12_writesPaper_146 : decode cX12_writesPaper 146 = .ok (.invokevirtual 183, 3) := by decide +kernel
theorem dX12_writesPaper_149 : decode cX12_writesPaper 149 = .ok (.iconst 1, 1) := by decide +kernel
theorem dX12_writesPaper_150 : decode cX12_writesPaper 150 = .ok (.if_icmp .ne 8, 3) := by decide +kernel
theorem dX12_writesPaper_153 : decode cX12_writesPaper 153 = .ok (.bipush 119, 2) := by decide +kernel
theorem dX12_writesPaper_155 : decode cX12_writesPaper 155 = .ok (.goto 5, 3) := by decide +kernel
theorem dX12_writesPaper_158 : decode cX12_writesPaper 158 = .ok (.bipush 98, 2) := by decide +kernel
theorem dX12_writesPaper_160 : decode cX12_writesPaper 160 = .ok (.invokevirtual 247, 3) := by decide +kernel
theorem dX12_writesPaper_163 : decode cX12_writesPaper 163 = .ok (.aload_n 0, 1) := by decide +kernel
theorem dX12_writesPaper_164 : decode cX12_writesPaper 164 = .ok (.bipush 32, 2) := by decide +kernel
theorem dX12_writesPaper_166 : decode cX12_writesPaper 166 = .ok (.invokevirtual 247, 3) := by decide +kernel
theorem dX12_writesPaper_169 : decode cX12_writesPaper 169 = .ok (.aload_n 0, 1) := by decide +kernel
theorem dX12_writesPaper_170 : decode cX12_writesPaper 170 = .ok (.getfield 16, 3) := by decide +kernel
theorem dX12_writesPaper_173 : decode cX12_writesPaper 173 = .ok (.bipush 65, 2) := by decide +kernel
theorem dX12_writesPaper_175 : decode cX12_writesPaper 175 = .ok (.iaload, 1) := by decide +kernel
theorem dX12_writesPaper_176 : decode cX12_writesPaper 176 = .ok (.istore_n 1, 1) := by decide +kernel
theorem dX12_writesPaper_177 : decode cX12_writesPaper 177 = .ok (.iconst 0, 1) := by decide +kernel
theorem dX12_writesPaper_178 : decode cX12_writesPaper 178 = .ok (.istore_n 2, 1) := by decide +kernel
theorem dX12_writesPaper_179 : decode cX12_writesPaper 179 = .ok (.iload_n 2, 1) := by decide +kernel
theorem dX12_writesPaper_180 : decode cX12_writesPaper 180 = .ok (.iconst 4, 1) := by decide +kernel
theorem dX12_writesPaper_181 : decode cX12_writesPaper 181 = .ok (.if_icmp .ge 47, 3) := by decide +kernel
theorem dX12_writesPaper_184 : decode cX12_writesPaper 184 = .ok (.iload_n 1, 1) := by decide +kernel
theorem dX12_writesPaper_185 : decode cX12_writesPaper 185 = .ok (.iload_n 2, 1) := by decide +kernel
theorem dX12_writesPaper_186 : decode cX12_writesPaper 186 = .ok (.ishr, 1) := by decide +kernel
theorem dX12_writesPaper_187 : decode cX12_writesPaper 187 = .ok (.iconst 1, 1) := by decide +kernel
theorem dX12_writesPaper_188 : decode cX12_writesPaper 188 = .ok (.iand, 1) := by decide +kernel
theorem dX12_writesPaper_189 : decode cX12_writesPaper 189 = .ok (.iconst 1, 1) := by decide +kernel
theorem dX12_writesPaper_190 : decode cX12_writesPaper 190 = .ok (.if_icmp .ne 32, 3) := by decide +kernel
theorem dX12_writesPaper_193 : decode cX12_writesPaper 193 = .ok (.aload_n 0, 1) := by decide +kernel
theorem dX12_writesPaper_194 : decode cX12_writesPaper 194 = .ok (.iload_n 2, 1) := by decide +kernel
theorem dX12_writesPaper_195 : decode cX12_writesPaper 195 = .ok (.iconst 2, 1) := by decide +kernel
theorem dX12_writesPaper_196 : decode cX12_writesPaper 196 = .ok (.irem, 1) := by decide +kernel
theorem dX12_writesPaper_197 : decode cX12_writesPaper 197 = .ok (.ifCond .ne 8, 3) := by decide +kernel
theorem dX12_writesPaper_200 : decode cX12_writesPaper 200 = .ok (.bipush 75, 2) := by decide +kernel
theorem dX12_writesPaper_202 : decode cX12_writesPaper 202 = .ok (.goto 5, 3) := by decide +kernel
theorem dX12_writesPaper_205 : decode cX12_writesPaper 205 = .ok (.bipush 81, 2) := by decide +kernel
theorem dX12_writesPaper_207 : decode cX12_writesPaper 207 = .ok (.iload_n 2, 1) := by decide +kernel
theorem dX12_writesPaper_208 : decode cX12_writesPaper 208 = .ok (.iconst 2, 1) := by decide +kernel
theorem dX12_writesPaper_209 : decode cX12_writesPaper 209 = .ok (.if_icmp .ge 7, 3) := by decide +kernel
theorem dX12_writesPaper_212 : decode cX12_writesPaper 212 = .ok (.iconst 0, 1) := by decide +kernel
theorem dX12_writesPaper_213 : decode cX12_writesPaper 213 = .ok (.goto 5, 3) := by decide +kernel
theorem dX12_writesPaper_216 : decode cX12_writesPaper 216 = .ok (.bipush 32, 2) := by decide +kernel
theorem dX12_writesPaper_218 : decode cX12_writesPaper 218 = .ok (.iadd, 1) := by decide +kernel
theorem dX12_writesPaper_219 : decode cX12_writesPaper 219 = .ok (.invokevirtual 247, 3) := by decide +kernel
theorem dX12_writesPaper_222 : decode cX12_writesPaper 222 = .ok (.iinc 2 1, 3) := by decide +kernel
theorem dX12_writesPaper_225 : decode cX12_writesPaper 225 = .ok (.goto (-46), 3) := by decide +kernel
theorem dX12_writesPaper_228 : decode cX12_writesPaper 228 = .ok (.iload_n 1, 1) := by decide +kernel
theorem dX12_writesPaper_229 : decode cX12_writesPaper 229 = .ok (.ifCond .ne 9, 3) := by decide +kernel
theorem dX12_writesPaper_232 : decode cX12_writesPaper 232 = .ok (.aload_n 0, 1) := by decide +kernel
theorem dX12_writesPaper_233 : decode cX12_writesPaper 233 = .ok (.bipush 45, 2) := by decide +kernel
theorem dX12_writesPaper_235 : decode cX12_writesPaper 235 = .ok (.invokevirtual 247, 3) := by decide +kernel
theorem dX12_writesPaper_238 : decode cX12_writesPaper 238 = .ok (.aload_n 0, 1) := by decide +kernel
theorem dX12_writesPaper_239 : decode cX12_writesPaper 239 = .ok (.bipush 32, 2) := by decide +kernel
theorem dX12_writesPaper_241 : decode cX12_writesPaper 241 = .ok (.invokevirtual 247, 3) := by decide +kernel
theorem dX12_writesPaper_244 : decode cX12_writesPaper 244 = .ok (.aload_n 0, 1) := by decide +kernel
theorem dX12_writesPaper_245 : decode cX12_writesPaper 245 = .ok (.iconst 0, 1) := by decide +kernel
theorem dX12_writesPaper_246 : decode cX12_writesPaper 246 = .ok (.invokevirtual 201, 3) := by decide +kernel
theorem dX12_writesPaper_249 : decode cX12_writesPaper 249 = .ok (.iconst (-1), 1) := by decide +kernel
theorem dX12_writesPaper_250 : decode cX12_writesPaper 250 = .ok (.if_icmp .ne 12, 3) := by decide +kernel
theorem dX12_writesPaper_253 : decode cX12_writesPaper 253 = .ok (.aload_n 0, 1) := by decide +kernel
theorem dX12_writesPaper_254 : decode cX12_writesPaper 254 = .ok (.bipush 45, 2) := by decide +kernel
theorem dX12_writesPaper_256 : decode cX12_writesPaper 256 = .ok (.invokevirtual 247, 3) := by decide +kernel
theorem dX12_writesPaper_259 : decode cX12_writesPaper 259 = .ok (.goto 12, 3) := by decide +kernel
theorem dX12_writesPaper_262 : decode cX12_writesPaper 262 = .ok (.aload_n 0, 1) := by decide +kernel
theorem dX12_writesPaper_263 : decode cX12_writesPaper 263 = .ok (.aload_n 0, 1) := by decide +kernel
theorem dX12_writesPaper_264 : decode cX12_writesPaper 264 = .ok (.iconst 0, 1) := by decide +kernel
theorem dX12_writesPaper_265 : decode cX12_writesPaper 265 = .ok (.invokevirtual 201, 3) := by decide +kernel
theorem dX12_writesPaper_268 : decode cX12_writesPaper 268 = .ok (.invokevirtual 253, 3) := by decide +kernel
theorem dX12_writesPaper_271 : decode cX12_writesPaper 271 = .ok (.return_, 1) := by decide +kernel
theorem dX12_isAsWritten_0 : decode cX12_isAsWritten 0 = .ok (.aload_n 0, 1) := by decide +kernel
theorem dX12_isAsWritten_1 : decode cX12_isAsWritten 1 = .ok (.invokevirtual 256, 3) := by decide +kernel
theorem dX12_isAsWritten_4 : decode cX12_isAsWritten 4 = .ok (.aload_n 0, 1) := by decide +kernel
theorem dX12_isAsWritten_5 : decode cX12_isAsWritten 5 = .ok (.getfield 244, 3) := by decide +kernel
theorem dX12_isAsWritten_8 : decode cX12_isAsWritten 8 = .ok (.aload_n 0, 1) := by decide +kernel
theorem dX12_isAsWritten_9 : decode cX12_isAsWritten 9 = .ok (.getfield 259, 3) := by decide +kernel
theorem dX12_isAsWritten_12 : decode cX12_isAsWritten 12 = .ok (.if_icmp .ne 7, 3) := by decide +kernel
theorem dX12_isAsWritten_15 : decode cX12_isAsWritten 15 = .ok (.iconst 1, 1) := by decide +kernel
theorem dX12_isAsWritten_16 : decode cX12_isAsWritten 16 = .ok (.goto 4, 3) := by decide +kernel
theorem dX12_isAsWritten_19 : decode cX12_isAsWritten 19 = .ok (.iconst 0, 1) := by decide +kernel
theorem dX12_isAsWritten_20 : decode cX12_isAsWritten 20 = .ok (.istore_n 1, 1) := by decide +kernel
theorem dX12_isAsWritten_21 : decode cX12_isAsWritten 21 = .ok (.iconst 0, 1) := by decide +kernel
theorem dX12_isAsWritten_22 : decode cX12_isAsWritten 22 = .ok (.istore_n 2, 1) := by decide +kernel
theorem dX12_isAsWritten_23 : decode cX12_isAsWritten 23 = .ok (.iload_n 2, 1) := by decide +kernel
theorem dX12_isAsWritten_24 : decode cX12_isAsWritten 24 = .ok (.aload_n 0, 1) := by decide +kernel
theorem dX12_isAsWritten_25 : decode cX12_isAsWritten 25 = .ok (.getfield 259, 3) := by decide +kernel
theorem dX12_isAsWritten_28 : decode cX12_isAsWritten 28 = .ok (.if_icmp .ge 34, 3) := by decide +kernel
theorem dX12_isAsWritten_31 : decode cX12_isAsWritten 31 = .ok (.iload_n 1, 1) := by decide +kernel
theorem dX12_isAsWritten_32 : decode cX12_isAsWritten 32 = .ok (.ifCond .eq 30, 3) := by decide +kernel
theorem dX12_isAsWritten_35 : decode cX12_isAsWritten 35 = .ok (.aload_n 0, 1) := by decide +kernel
theorem dX12_isAsWritten_36 : decode cX12_isAsWritten 36 = .ok (.getfield 45, 3) := by decide +kernel
theorem dX12_isAsWritten_39 : decode cX12_isAsWritten 39 = .ok (.iload_n 2, 1) := by decide +kernel
theorem dX12_isAsWritten_40 : decode cX12_isAsWritten 40 = .ok (.iaload, 1) := by decide +kernel
theorem dX12_isAsWritten_41 : decode cX12_isAsWritten 41 = .ok (.aload_n 0, 1) := by decide +kernel
theorem dX12_isAsWritten_42 : decode cX12_isAsWritten 42 = .ok (.getfield 42, 3) := by decide +kernel
theorem dX12_isAsWritten_45 : decode cX12_isAsWritten 45 = .ok (.iload_n 2, 1) := by decide +kernel
theorem dX12_isAsWritten_46 : decode cX12_isAsWritten 46 = .ok (.iaload, 1) := by decide +kernel
theorem dX12_isAsWritten_47 : decode cX12_isAsWritten 47 = .ok (.if_icmp .ne 7, 3) := by decide +kernel
theorem dX12_isAsWritten_50 : decode cX12_isAsWritten 50 = .ok (.iconst 1, 1) := by decide +kernel
theorem dX12_isAsWritten_51 : decode cX12_isAsWritten 51 = .ok (.goto 4, 3) := by decide +kernel
theorem dX12_isAsWritten_54 : decode cX12_isAsWritten 54 = .ok (.iconst 0, 1) := by decide +kernel
theorem dX12_isAsWritten_55 : decode cX12_isAsWritten 55 = .ok (.istore_n 1, 1) := by decide +kernel
theorem dX12_isAsWritten_56 : decode cX12_isAsWritten 56 = .ok (.iinc 2 1, 3) := by decide +kernel
theorem dX12_isAsWritten_59 : decode cX12_isAsWritten 59 = .ok (.goto (-36), 3) := by decide +kernel
theorem dX12_isAsWritten_62 : decode cX12_isAsWritten 62 = .ok (.iload_n 1, 1) := by decide +kernel
theorem dX12_isAsWritten_63 : decode cX12_isAsWritten 63 = .ok (.ireturn, 1) := by decide +kernel
theorem dX12_isMove_0 : decode cX12_isMove 0 = .ok (.aload_n 0, 1) := by decide +kernel
theorem dX12_isMove_1 : decode cX12_isMove 1 = .ok (.iconst 0, 1) := by decide +kernel
theorem dX12_isMove_2 : decode cX12_isMove 2 = .ok (.invokevirtual 233, 3) := by decide +kernel
theorem dX12_isMove_5 : decode cX12_isMove 5 = .ok (.iload_n 1, 1) := by decide +kernel
theorem dX12_isMove_6 : decode cX12_isMove 6 = .ok (.iconst 0, 1) := by decide +kernel
theorem dX12_isMove_7 : decode cX12_isMove 7 = .ok (.aload_n 0, 1) := by decide +kernel
theorem dX12_isMove_8 : decode cX12_isMove 8 = .ok (.getfield 29, 3) := by decide +kernel
theorem dX12_isMove_11 : decode cX12_isMove 11 = .ok (.iconst 0, 1) := by decide +kernel
theorem dX12_isMove_12 : decode cX12_isMove 12 = .ok (.iaload, 1) := by decide +kernel
theorem dX12_isMove_13 : decode cX12_isMove 13 = .ok (.iconst 1, 1) := by decide +kernel
theorem dX12_isMove_14 : decode cX12_isMove 14 = .ok (.isub, 1) := by decide +kernel
theorem dX12_isMove_15 : decode cX12_isMove 15 = .ok (.invokestatic 117, 3) := by decide +kernel
theorem dX12_isMove_18 : decode cX12_isMove 18 = .ok (.ireturn, 1) := by decide +kernel
theorem dX12_isAskedMove_0 : decode cX12_isAskedMove 0 = .ok (.aload_n 0, 1) := by decide +kernel
theorem dX12_isAskedMove_1 : decode cX12_isAskedMove 1 = .ok (.aload_n 0, 1) := by decide +kernel
theorem dX12_isAskedMove_2 : decode cX12_isAskedMove 2 = .ok (.invokevirtual 284, 3) := by decide +kernel
theorem dX12_isAskedMove_5 : decode cX12_isAskedMove 5 = .ok (.iconst 1, 1) := by decide +kernel
theorem dX12_isAskedMove_6 : decode cX12_isAskedMove 6 = .ok (.invokevirtual 237, 3) := by decide +kernel
theorem dX12_isAskedMove_9 : decode cX12_isAskedMove 9 = .ok (.ifCond .eq 20, 3) := by decide +kernel
theorem dX12_isAskedMove_12 : decode cX12_isAskedMove 12 = .ok (.aload_n 0, 1) := by decide +kernel
theorem dX12_isAskedMove_13 : decode cX12_isAskedMove 13 = .ok (.aload_n 0, 1) := by decide +kernel
theorem dX12_isAskedMove_14 : decode cX12_isAskedMove 14 = .ok (.iload_n 1, 1) := by decide +kernel
theorem dX12_isAskedMove_15 : decode cX12_isAskedMove 15 = .ok (.invokevirtual 290, 3) := by decide +kernel
theorem dX12_isAskedMove_18 : decode cX12_isAskedMove 18 = .ok (.iconst 2, 1) := by decide +kernel
theorem dX12_isAskedMove_19 : decode cX12_isAskedMove 19 = .ok (.invokevirtual 237, 3) := by decide +kernel
theorem dX12_isAskedMove_22 : decode cX12_isAskedMove 22 = .ok (.ifCond .eq 7, 3) := by decide +kernel
theorem dX12_isAskedMove_25 : decode cX12_isAskedMove 25 = .ok (.iconst 1, 1) := by decide +kernel
theorem dX12_isAskedMove_26 : decode cX12_isAskedMove 26 = .ok (.goto 4, 3) := by decide +kernel
theorem dX12_isAskedMove_29 : decode cX12_isAskedMove 29 = .ok (.iconst 0, 1) := by decide +kernel
theorem dX12_isAskedMove_30 : decode cX12_isAskedMove 30 = .ok (.ireturn, 1) := by decide +kernel
theorem dX12_isAttacked_0 : decode cX12_isAttacked 0 = .ok (.aload_n 0, 1) := by decide +kernel
theorem dX12_isAttacked_1 : decode cX12_isAttacked 1 = .ok (.aload_n 0, 1) := by decide +kernel
theorem dX12_isAttacked_2 : decode cX12_isAttacked 2 = .ok (.iload_n 1, 1) := by decide +kernel
theorem dX12_isAttacked_3 : decode cX12_isAttacked 3 = .ok (.invokevirtual 241, 3) := by decide +kernel
theorem dX12_isAttacked_6 : decode cX12_isAttacked 6 = .ok (.iconst 1, 1) := by decide +kernel
theorem dX12_isAttacked_7 : decode cX12_isAttacked 7 = .ok (.invokevirtual 237, 3) := by decide +kernel
theorem dX12_isAttacked_10 : decode cX12_isAttacked 10 = .ok (.ifCond .ne 5, 3) := by decide +kernel
theorem dX12_isAttacked_13 : decode cX12_isAttacked 13 = .ok (.iconst 0, 1) := by decide +kernel
theorem dX12_isAttacked_14 : decode cX12_isAttacked 14 = .ok (.ireturn, 1) := by decide +kernel
theorem dX12_isAttacked_15 : decode cX12_isAttacked 15 = .ok (.aload_n 0, 1) := by decide +kernel
theorem dX12_isAttacked_16 : decode cX12_isAttacked 16 = .ok (.invokevirtual 192, 3) := by decide +kernel
theorem dX12_isAttacked_19 : decode cX12_isAttacked 19 = .ok (.aload_n 0, 1) := by decide +kernel
theorem dX12_isAttacked_20 : decode cX12_isAttacked 20 = .ok (.iconst 0, 1) := by decide +kernel
theorem dX12_isAttacked_21 : decode cX12_isAttacked 21 = .ok (.iload_n 1, 1) := by decide +kernel
theorem dX12_isAttacked_22 : decode cX12_isAttacked 22 = .ok (.iload_n 2, 1) := by decide +kernel
theorem dX12_isAttacked_23 : decode cX12_isAttacked 23 = .ok (.ifCond .eq 7, 3) := by decide +kernel
theorem dX12_isAttacked_26 : decode cX12_isAttacked 26 = .ok (.iconst 1, 1) := by decide +kernel
theorem dX12_isAttacked_27 : decode cX12_isAttacked 27 = .ok (.goto 4, 3) := by decide +kernel
theorem dX12_isAttacked_30 : decode cX12_isAttacked 30 = .ok (.iconst 0, 1) := by decide +kernel
theorem dX12_isAttacked_31 : decode cX12_isAttacked 31 = .ok (.invokevirtual 167, 3) := by decide +kernel
theorem dX12_isAttacked_34 : decode cX12_isAttacked 34 = .ok (.ireturn, 1) := by decide +kernel
theorem dX12_isDead_0 : decode cX12_isDead 0 = .ok (.iconst 0, 1) := by decide +kernel
theorem dX12_isDead_1 : decode cX12_isDead 1 = .ok (.istore_n 1, 1) := by decide +kernel
theorem dX12_isDead_2 : decode cX12_isDead 2 = .ok (.iconst 0, 1) := by decide +kernel
theorem dX12_isDead_3 : decode cX12_isDead 3 = .ok (.istore_n 2, 1) := by decide +kernel
theorem dX12_isDead_4 : decode cX12_isDead 4 = .ok (.iload_n 2, 1) := by decide +kernel
theorem dX12_isDead_5 : decode cX12_isDead 5 = .ok (.aload_n 0, 1) := by decide +kernel
theorem dX12_isDead_6 : decode cX12_isDead 6 = .ok (.invokevirtual 113, 3) := by decide +kernel
theorem dX12_isDead_9 : decode cX12_isDead 9 = .ok (.if_icmp .ge 50, 3) := by decide +kernel
theorem dX12_isDead_12 : decode cX12_isDead 12 = .ok (.aload_n 0, 1) := by decide +kernel
theorem dX12_isDead_13 : decode cX12_isDead 13 = .ok (.iconst 0, 1) := by decide +kernel
theorem dX12_isDead_14 : decode cX12_isDead 14 = .ok (.iload_n 2, 1) := by decide +kernel
theorem dX12_isDead_15 : decode cX12_isDead 15 = .ok (.invokevirtual 141, 3) := by decide +kernel
theorem dX12_isDead_18 : decode cX12_isDead 18 = .ok (.invokestatic 148, 3) := by decide +kernel
theorem dX12_isDead_21 : decode cX12_isDead 21 = .ok (.istore_n 3, 1) := by decide +kernel
theorem dX12_isDead_22 : decode cX12_isDead 22 = .ok (.iload_n 1, 1) := by decide +kernel
theorem dX12_isDead_23 : decode cX12_isDead 23 = .ok (.iload_n 3, 1) := by decide +kernel
theorem dX12_isDead_24 : decode cX12_isDead 24 = .ok (.ifCond .eq 8, 3) := by decide +kernel
theorem dX12_isDead_27 : decode cX12_isDead 27 = .ok (.iload_n 3, 1) := by decide +kernel
theorem dX12_isDead_28 : decode cX12_isDead 28 = .ok (.iconst 1, 1) := by decide +kernel
theorem dX12_isDead_29 : decode cX12_isDead 29 = .ok (.if_icmp .ne 7, 3) := by decide +kernel
theorem dX12_isDead_32 : decode cX12_isDead 32 = .ok (.iconst 0, 1) := by decide +kernel
theorem dX12_isDead_33 : decode cX12_isDead 33 = .ok (.goto 18, 3) := by decide +kernel
theorem dX12_isDead_36 : decode cX12_isDead 36 = .ok (.iload_n 3, 1) := by decide +kernel
theorem dX12_isDead_37 : decode cX12_isDead 37 = .ok (.iconst 4, 1) := by decide +kernel
theorem dX12_isDead_38 : decode cX12_isDead 38 = .ok (.if_icmp .eq 8, 3) := by decide +kernel
theorem dX12_isDead_41 : decode cX12_isDead 41 = .ok (.iload_n 3, 1) := by decide +kernel
theorem dX12_isDead_42 : decode cX12_isDead 42 = .ok (.iconst 5, 1) := by decide +kernel
theorem dX12_isDead_43 : decode cX12_isDead 43 = .ok (.if_icmp .ne 7, 3) := by decide +kernel
theorem dX12_isDead_46 : decode cX12_isDead 46 = .ok (.iconst 1, 1) := by decide +kernel
theorem dX12_isDead_47 : decode cX12_isDead 47 = .ok (.goto 4, 3) := by decide +kernel
theorem dX12_isDead_50 : decode cX12_isDead 50 = .ok (.iconst 2, 1) := by decide +kernel
theorem dX12_isDead_51 : decode cX12_isDead 51 = .ok (.iadd, 1) := by decide +kernel
theorem dX12_isDead_52 : decode cX12_isDead 52 = .ok (.istore_n 1, 1) := by decide +kernel
theorem dX12_isDead_53 : decode cX12_isDead 53 = .ok (.iinc 2 1, 3) := by decide +kernel
theorem dX12_isDead_56 : decode cX12_isDead 56 = .ok (.goto (-52), 3) := by decide +kernel
theorem dX12_isDead_59 : decode cX12_isDead 59 = .ok (.iload_n 1, 1) := by decide +kernel
theorem dX12_isDead_60 : decode cX12_isDead 60 = .ok (.iconst 1, 1) := by decide +kernel
theorem dX12_isDead_61 : decode cX12_isDead 61 = .ok (.if_icmp .gt 7, 3) := by decide +kernel
theorem dX12_isDead_64 : decode cX12_isDead 64 = .ok (.iconst 1, 1) := by decide +kernel
theorem dX12_isDead_65 : decode cX12_isDead 65 = .ok (.goto 4, 3) := by decide +kernel
theorem dX12_isDead_68 : decode cX12_isDead 68 = .ok (.iconst 0, 1) := by decide +kernel
theorem dX12_isDead_69 : decode cX12_isDead 69 = .ok (.ireturn, 1) := by decide +kernel
theorem dX12_isOld_0 : decode cX12_isOld 0 = .ok (.iload_n 1, 1) := by decide +kernel
theorem dX12_isOld_1 : decode cX12_isOld 1 = .ok (.iload_n 2, 1) := by decide +kernel
theorem dX12_isOld_2 : decode cX12_isOld 2 = .ok (.iload_n 3, 1) := by decide +kernel
theorem dX12_isOld_3 : decode cX12_isOld 3 = .ok (.invokestatic 403, 3) := by decide +kernel
theorem dX12_isOld_6 : decode cX12_isOld 6 = .ok (.istore 4, 2) := by decide +kernel
theorem dX12_isOld_8 : decode cX12_isOld 8 = .ok (.iconst 0, 1) := by decide +kernel
theorem dX12_isOld_9 : decode cX12_isOld 9 = .ok (.istore 5, 2) := by decide +kernel
theorem dX12_isOld_11 : decode cX12_isOld 11 = .ok (.iload 5, 2) := by decide +kernel
theorem dX12_isOld_13 : decode cX12_isOld 13 = .ok (.iload_n 2, 1) := by decide +kernel
theorem dX12_isOld_14 : decode cX12_isOld 14 = .ok (.if_icmp .ge 27, 3) := by decide +kernel
theorem dX12_isOld_17 : decode cX12_isOld 17 = .ok (.aload_n 0, 1) := by decide +kernel
theorem dX12_isOld_18 : decode cX12_isOld 18 = .ok (.iload_n 1, 1) := by decide +kernel
theorem dX12_isOld_19 : decode cX12_isOld 19 = .ok (.iload 5, 2) := by decide +kernel
theorem dX12_isOld_21 : decode cX12_isOld 21 = .ok (.aload_n 0, 1) := by decide +kernel
theorem dX12_isOld_22 : decode cX12_isOld 22 = .ok (.getfield 73, 3) := by decide +kernel
theorem dX12_isOld_25 : decode cX12_isOld 25 = .ok (.iload 4, 2) := by decide +kernel
theorem dX12_isOld_27 : decode cX12_isOld 27 = .ok (.invokevirtual 410, 3) := by decide +kernel
theorem dX12_isOld_30 : decode cX12_isOld 30 = .ok (.ifCond .eq 5, 3) := by decide +kernel
theorem dX12_isOld_33 : decode cX12_isOld 33 = .ok (.iconst 1, 1) := by decide +kernel
theorem dX12_isOld_34 : decode cX12_isOld 34 = .ok (.ireturn, 1) := by decide +kernel
theorem dX12_isOld_35 : decode cX12_isOld 35 = .ok (.iinc 5 1, 3) := by decide +kernel
theorem dX12_isOld_38 : decode cX12_isOld 38 = .ok (.goto (-27), 3) := by decide +kernel
theorem dX12_isOld_41 : decode cX12_isOld 41 = .ok (.iconst 0, 1) := by decide +kernel
theorem dX12_isOld_42 : decode cX12_isOld 42 = .ok (.istore 5, 2) := by decide +kernel
theorem dX12_isOld_44 : decode cX12_isOld 44 = .ok (.iload 5, 2) := by decide +kernel
theorem dX12_isOld_46 : decode cX12_isOld 46 = .ok (.iload_n 3, 1) := by decide +kernel
theorem dX12_isOld_47 : decode cX12_isOld 47 = .ok (.if_icmp .ge 34, 3) := by decide +kernel
theorem dX12_isOld_50 : decode cX12_isOld 50 = .ok (.aload_n 0, 1) := by decide +kernel
theorem dX12_isOld_51 : decode cX12_isOld 51 = .ok (.getfield 73, 3) := by decide +kernel
theorem dX12_isOld_54 : decode cX12_isOld 54 = .ok (.iload_n 1, 1) := by decide +kernel
theorem dX12_isOld_55 : decode cX12_isOld 55 = .ok (.iload_n 2, 1) := by decide +kernel
theorem dX12_isOld_56 : decode cX12_isOld 56 = .ok (.iload 5, 2) := by decide +kernel
theorem dX12_isOld_58 : decode cX12_isOld 58 = .ok (.invokestatic 403, 3) := by decide +kernel
theorem dX12_isOld_61 : decode cX12_isOld 61 = .ok (.aload_n 0, 1) := by decide +kernel
theorem dX12_isOld_62 : decode cX12_isOld 62 = .ok (.getfield 73, 3) := by decide +kernel
theorem dX12_isOld_65 : decode cX12_isOld 65 = .ok (.iload 4, 2) := by decide +kernel
theorem dX12_isOld_67 : decode cX12_isOld 67 = .ok (.invokestatic 330, 3) := by decide +kernel
theorem dX12_isOld_70 : decode cX12_isOld 70 = .ok (.ifCond .eq 5, 3) := by decide +kernel
theorem dX12_isOld_73 : decode cX12_isOld 73 = .ok (.iconst 1, 1) := by decide +kernel
theorem dX12_isOld_74 : decode cX12_isOld 74 = .ok (.ireturn, 1) := by decide +kernel
theorem dX12_isOld_75 : decode cX12_isOld 75 = .ok (.iinc 5 1, 3) := by decide +kernel
theorem dX12_isOld_78 : decode cX12_isOld 78 = .ok (.goto (-34), 3) := by decide +kernel
theorem dX12_isOld_81 : decode cX12_isOld 81 = .ok (.iconst 0, 1) := by decide +kernel
theorem dX12_isOld_82 : decode cX12_isOld 82 = .ok (.ireturn, 1) := by decide +kernel
theorem dX12_isOpenFile_0 : decode cX12_isOpenFile 0 = .ok (.aload_n 0, 1) := by decide +kernel
theorem dX12_isOpenFile_1 : decode cX12_isOpenFile 1 = .ok (.iload_n 1, 1) := by decide +kernel
theorem dX12_isOpenFile_2 : decode cX12_isOpenFile 2 = .ok (.iconst 0, 1) := by decide +kernel
theorem dX12_isOpenFile_3 : decode cX12_isOpenFile 3 = .ok (.aload_n 0, 1) := by decide +kernel
theorem dX12_isOpenFile_4 : decode cX12_isOpenFile 4 = .ok (.getfield 9, 3) := by decide +kernel
theorem dX12_isOpenFile_7 : decode cX12_isOpenFile 7 = .ok (.iconst 1, 1) := by decide +kernel
theorem dX12_isOpenFile_8 : decode cX12_isOpenFile 8 = .ok (.isub, 1) := by decide +kernel
theorem dX12_isOpenFile_9 : decode cX12_isOpenFile 9 = .ok (.invokestatic 117, 3) := by decide +kernel
theorem dX12_isOpenFile_12 : decode cX12_isOpenFile 12 = .ok (.iconst 1, 1) := by decide +kernel
theorem dX12_isOpenFile_13 : decode cX12_isOpenFile 13 = .ok (.invokevirtual 237, 3) := by decide +kernel
theorem dX12_isOpenFile_16 : decode cX12_isOpenFile 16 = .ok (.ifCond .ne 5, 3) := by decide +kernel
theorem dX12_isOpenFile_19 : decode cX12_isOpenFile 19 = .ok (.iconst 0, 1) := by decide +kernel
theorem dX12_isOpenFile_20 : decode cX12_isOpenFile 20 = .ok (.ireturn, 1) := by decide +kernel
theorem dX12_isOpenFile_21 : decode cX12_isOpenFile 21 = .ok (.iconst 0, 1) := by decide +kernel
theorem dX12_isOpenFile_22 : decode cX12_isOpenFile 22 = .ok (.istore_n 2, 1) := by decide +kernel
theorem dX12_isOpenFile_23 : decode cX12_isOpenFile 23 = .ok (.iload_n 2, 1) := by decide +kernel
theorem dX12_isOpenFile_24 : decode cX12_isOpenFile 24 = .ok (.aload_n 0, 1) := by decide +kernel
theorem dX12_isOpenFile_25 : decode cX12_isOpenFile 25 = .ok (.getfield 13, 3) := by decide +kernel
theorem dX12_isOpenFile_28 : decode cX12_isOpenFile 28 = .ok (.if_icmp .ge 37, 3) := by decide +kernel
theorem dX12_isOpenFile_31 : decode cX12_isOpenFile 31 = .ok (.aload_n 0, 1) := by decide +kernel
theorem dX12_isOpenFile_32 : decode cX12_isOpenFile 32 = .ok (.getfield 32, 3) := by decide +kernel
theorem dX12_isOpenFile_35 : decode cX12_isOpenFile 35 = .ok (.aload_n 0, 1) := by decide +kernel
theorem dX12_isOpenFile_36 : decode cX12_isOpenFile 36 = .ok (.invokevirtual 127, 3) := by decide +kernel
theorem dX12_isOpenFile_39 : decode cX12_isOpenFile 39 = .ok (.aload_n 0, 1) := by decide +kernel
theorem dX12_isOpenFile_40 : decode cX12_isOpenFile 40 = .ok (.getfield 9, 3) := by decide +kernel
theorem dX12_isOpenFile_43 : decode cX12_isOpenFile 43 = .ok (.iload_n 2, 1) := by decide +kernel
theorem dX12_isOpenFile_44 : decode cX12_isOpenFile 44 = .ok (.imul, 1) := by decide +kernel
theorem dX12_isOpenFile_45 : decode cX12_isOpenFile 45 = .ok (.iadd, 1) := by decide +kernel
theorem dX12_isOpenFile_46 : decode cX12_isOpenFile 46 = .ok (.iload_n 1, 1) := by decide +kernel
theorem dX12_isOpenFile_47 : decode cX12_isOpenFile 47 = .ok (.iadd, 1) := by decide +kernel
theorem dX12_isOpenFile_48 : decode cX12_isOpenFile 48 = .ok (.iaload, 1) := by decide +kernel
theorem dX12_isOpenFile_49 : decode cX12_isOpenFile 49 = .ok (.invokestatic 148, 3) := by decide +kernel
theorem dX12_isOpenFile_52 : decode cX12_isOpenFile 52 = .ok (.bipush 6, 2) := by decide +kernel
theorem dX12_isOpenFile_54 : decode cX12_isOpenFile 54 = .ok (.if_icmp .ne 5, 3) := by decide +kernel
theorem dX12_isOpenFile_57 : decode cX12_isOpenFile 57 = .ok (.iconst 0, 1) := by decide +kernel
theorem dX12_isOpenFile_58 : decode cX12_isOpenFile 58 = .ok (.ireturn, 1) := by decide +kernel
theorem dX12_isOpenFile_59 : decode cX12_isOpenFile 59 = .ok (.iinc 2 1, 3) := by decide +kernel
theorem dX12_isOpenFile_62 : decode cX12_isOpenFile 62 = .ok (.goto (-39), 3) := by decide +kernel
theorem dX12_isOpenFile_65 : decode cX12_isOpenFile 65 = .ok (.iconst 1, 1) := by decide +kernel
theorem dX12_isOpenFile_66 : decode cX12_isOpenFile 66 = .ok (.ireturn, 1) := by decide +kernel
theorem dX12_isPassingRight_0 : decode cX12_isPassingRight 0 = .ok (.aload_n 0, 1) := by decide +kernel
theorem dX12_isPassingRight_1 : decode cX12_isPassingRight 1 = .ok (.iload_n 1, 1) := by decide +kernel
theorem dX12_isPassingRight_2 : decode cX12_isPassingRight 2 = .ok (.invokevirtual 201, 3) := by decide +kernel
theorem dX12_isPassingRight_5 : decode cX12_isPassingRight 5 = .ok (.istore_n 2, 1) := by decide +kernel
theorem dX12_isPassingRight_6 : decode cX12_isPassingRight 6 = .ok (.iload_n 2, 1) := by decide +kernel
theorem dX12_isPassingRight_7 : decode cX12_isPassingRight 7 = .ok (.iconst (-1), 1) := by decide +kernel
theorem dX12_isPassingRight_8 : decode cX12_isPassingRight 8 = .ok (.if_icmp .ne 5, 3) := by decide +kernel
theorem dX12_isPassingRight_11 : decode cX12_isPassingRight 11 = .ok (.iconst 1, 1) := by decide +kernel
theorem dX12_isPassingRight_12 : decode cX12_isPassingRight 12 = .ok (.ireturn, 1) := by decide +kernel
theorem dX12_isPassingRight_13 : decode cX12_isPassingRight 13 = .ok (.iconst 1, 1) := by decide +kernel
theorem dX12_isPassingRight_14 : decode cX12_isPassingRight 14 = .ok (.aload_n 0, 1) := by decide +kernel
theorem dX12_isPassingRight_15 : decode cX12_isPassingRight 15 = .ok (.iload_n 1, 1) := by decide +kernel
theorem dX12_isPassingRight_16 : decode cX12_isPassingRight 16 = .ok (.invokevirtual 183, 3) := by decide +kernel
theorem dX12_isPassingRight_19 : decode cX12_isPassingRight 19 = .ok (.isub, 1) := by decide +kernel
theorem dX12_isPassingRight_20 : decode cX12_isPassingRight 20 = .ok (.istore_n 3, 1) := by decide +kernel
theorem dX12_isPassingRight_21 : decode cX12_isPassingRight 21 = .ok (.iload_n 3, 1) := by decide +kernel
theorem dX12_isPassingRight_22 : decode cX12_isPassingRight 22 = .ok (.iconst 1, 1) := by decide +kernel
theorem dX12_isPassingRight_23 : decode cX12_isPassingRight 23 = .ok (.if_icmp .ne 7, 3) := by decide +kernel
theorem dX12_isPassingRight_26 : decode cX12_isPassingRight 26 = .ok (.iconst 1, 1) := by decide +kernel
theorem dX12_isPassingRight_27 : decode cX12_isPassingRight 27 = .ok (.goto 4, 3) := by decide +kernel
theorem dX12_isPassingRight_30 : decode cX12_isPassingRight 30 = .ok (.iconst (-1), 1) := by decide +kernel
theorem dX12_isPassingRight_31 : decode cX12_isPassingRight 31 = .ok (.istore 4, 2) := by decide +kernel
theorem dX12_isPassingRight_33 : decode cX12_isPassingRight 33 = .ok (.aload_n 0, 1) := by decide +kernel
theorem dX12_isPassingRight_34 : decode cX12_isPassingRight 34 = .ok (.getfield 13, 3) := by decide +kernel
theorem dX12_isPassingRight_37 : decode cX12_isPassingRight 37 = .ok (.bipush 6, 2) := by decide +kernel
theorem dX12_isPassingRight_39 : decode cX12_isPassingRight 39 = .ok (.if_icmp .lt 47, 3) := by decide +kernel
theorem dX12_isPassingRight_42 : decode cX12_isPassingRight 42 = .ok (.aload_n 0, 1) := by decide +kernel
theorem dX12_isPassingRight_43 : decode cX12_isPassingRight 43 = .ok (.iload_n 2, 1) := by decide +kernel
theorem dX12_isPassingRight_44 : decode cX12_isPassingRight 44 = .ok (.invokevirtual 138, 3) := by decide +kernel
theorem dX12_isPassingRight_47 : decode cX12_isPassingRight 47 = .ok (.aload_n 0, 1) := by decide +kernel
theorem dX12_isPassingRight_48 : decode cX12_isPassingRight 48 = .ok (.iload_n 3, 1) := by decide +kernel
theorem dX12_isPassingRight_49 : decode cX12_isPassingRight 49 = .ok (.invokevirtual 170, 3) := by decide +kernel
theorem dX12_isPassingRight_52 : decode cX12_isPassingRight 52 = .ok (.iconst 2, 1) := by decide +kernel
theorem dX12_isPassingRight_53 : decode cX12_isPassingRight 53 = .ok (.iload 4, 2) := by decide +kernel
theorem dX12_isPassingRight_55 : decode cX12_isPassingRight 55 = .ok (.imul, 1) := by decide +kernel
theorem dX12_isPassingRight_56 : decode cX12_isPassingRight 56 = .ok (.iadd, 1) := by decide +kernel
theorem dX12_isPassingRight_57 : decode cX12_isPassingRight 57 = .ok (.if_icmp .ne 29, 3) := by decide +kernel
theorem dX12_isPassingRight_60 : decode cX12_isPassingRight 60 = .ok (.aload_n 0, 1) := by decide +kernel
theorem dX12_isPassingRight_61 : decode cX12_isPassingRight 61 = .ok (.iload_n 1, 1) := by decide +kernel
theorem dX12_isPassingRight_62 : decode cX12_isPassingRight 62 = .ok (.iload_n 2, 1) := by decide +kernel
theorem dX12_isPassingRight_63 : decode cX12_isPassingRight 63 = .ok (.invokevirtual 141, 3) := by decide +kernel
theorem dX12_isPassingRight_66 : decode cX12_isPassingRight 66 = .ok (.ifCond .ne 20, 3) := by decide +kernel
theorem dX12_isPassingRight_69 : decode cX12_isPassingRight 69 = .ok (.aload_n 0, 1) := by decide +kernel
theorem dX12_isPassingRight_70 : decode cX12_isPassingRight 70 = .ok (.iload_n 1, 1) := by decide +kernel
theorem dX12_isPassingRight_71 : decode cX12_isPassingRight 71 = .ok (.iload_n 2, 1) := by decide +kernel
theorem dX12_isPassingRight_72 : decode cX12_isPassingRight 72 = .ok (.iload 4, 2) := by decide +kernel
theorem dX12_isPassingRight_74 : decode cX12_isPassingRight 74 = .ok (.aload_n 0, 1) := by decide +kernel
theorem dX12_isPassingRight_75 : decode cX12_isPassingRight 75 = .ok (.getfield 9, 3) := by decide +kernel
theorem dX12_isPassingRight_78 : decode cX12_isPassingRight 78 = .ok (.imul, 1) := by decide +kernel
theorem dX12_isPassingRight_79 : decode cX12_isPassingRight 79 = .ok (.isub, 1) := by decide +kernel
theorem dX12_isPassingRight_80 : decode cX12_isPassingRight 80 = .ok (.invokevirtual 141, 3) := by decide +kernel
theorem dX12_isPassingRight_83 : decode cX12_isPassingRight 83 = .ok (.ifCond .eq 5, 3) := by decide +kernel
theorem dX12_isPassingRight_86 : decode cX12_isPassingRight 86 = .ok (.iconst 0, 1) := by decide +kernel
theorem dX12_isPassingRight_87 : decode cX12_isPassingRight 87 = .ok (.ireturn, 1) := by decide +kernel
theorem dX12_isPassingRight_88 : decode cX12_isPassingRight 88 = .ok (.iload_n 2, 1) := by decide +kernel
theorem dX12_isPassingRight_89 : decode cX12_isPassingRight 89 = .ok (.iload 4, 2) := by decide +kernel
theorem dX12_isPassingRight_91 : decode cX12_isPassingRight 91 = .ok (.aload_n 0, 1) := by decide +kernel
theorem dX12_isPassingRight_92 : decode cX12_isPassingRight 92 = .ok (.getfield 9, 3) := by decide +kernel
theorem dX12_isPassingRight_95 : decode cX12_isPassingRight 95 = .ok (.imul, 1) := by decide +kernel
theorem dX12_isPassingRight_96 : decode cX12_isPassingRight 96 = .ok (.iadd, 1) := by decide +kernel
theorem dX12_isPassingRight_97 : decode cX12_isPassingRight 97 = .ok (.istore 5, 2) := by decide +kernel
theorem dX12_isPassingRight_99 : decode cX12_isPassingRight 99 = .ok (.aload_n 0, 1) := by decide +kernel
theorem dX12_isPassingRight_100 : decode cX12_isPassingRight 100 = .ok (.iload_n 1, 1) := by decide +kernel
theorem dX12_isPassingRight_101 : decode cX12_isPassingRight 101 = .ok (.iload 5, 2) := by decide +kernel
theorem dX12_isPassingRight_103 : decode cX12_isPassingRight 103 = .ok (.invokevirtual 141, 3) := by decide +kernel
theorem dX12_isPassingRight_106 : decode cX12_isPassingRight 106 = .ok (.bipush 6, 2) := by decide +kernel
theorem dX12_isPassingRight_108 : decode cX12_isPassingRight 108 = .ok (.iload_n 3, 1) := by decide +kernel
theorem dX12_isPassingRight_109 : decode cX12_isPassingRight 109 = .ok (.invokestatic 161, 3) := by decide +kernel
theorem dX12_isPassingRight_112 : decode cX12_isPassingRight 112 = .ok (.if_icmp .ne 25, 3) := by decide +kernel
theorem dX12_isPassingRight_115 : decode cX12_isPassingRight 115 = .ok (.aload_n 0, 1) := by decide +kernel
theorem dX12_isPassingRight_116 : decode cX12_isPassingRight 116 = .ok (.iload_n 1, 1) := by decide +kernel
theorem dX12_isPassingRight_117 : decode cX12_isPassingRight 117 = .ok (.iload 5, 2) := by decide +kernel
theorem dX12_isPassingRight_119 : decode cX12_isPassingRight 119 = .ok (.bipush 6, 2) := by decide +kernel
theorem dX12_isPassingRight_121 : decode cX12_isPassingRight 121 = .ok (.iconst 1, 1) := by decide +kernel
theorem dX12_isPassingRight_122 : decode cX12_isPassingRight 122 = .ok (.iload_n 3, 1) := by decide +kernel
theorem dX12_isPassingRight_123 : decode cX12_isPassingRight 123 = .ok (.isub, 1) := by decide +kernel
theorem dX12_isPassingRight_124 : decode cX12_isPassingRight 124 = .ok (.invokestatic 161, 3) := by decide +kernel
theorem dX12_isPassingRight_127 : decode cX12_isPassingRight 127 = .ok (.invokevirtual 217, 3) := by decide +kernel
theorem dX12_isPassingRight_130 : decode cX12_isPassingRight 130 = .ok (.ifCond .eq 7, 3) := by decide +kernel
theorem dX12_isPassingRight_133 : decode cX12_isPassingRight 133 = .ok (.iconst 1, 1) := by decide +kernel
theorem dX12_isPassingRight_134 : decode cX12_isPassingRight 134 = .ok (.goto 4, 3) := by decide +kernel
theorem dX12_isPassingRight_137 : decode cX12_isPassingRight 137 = .ok (.iconst 0, 1) := by decide +kernel
theorem dX12_isPassingRight_138 : decode cX12_isPassingRight 138 = .ok (.ireturn, 1) := by decide +kernel
theorem dX12_isPinned_0 : decode cX12_isPinned 0 = .ok (.aload_n 0, 1) := by decide +kernel
theorem dX12_isPinned_1 : decode cX12_isPinned 1 = .ok (.aload_n 0, 1) := by decide +kernel
theorem dX12_isPinned_2 : decode cX12_isPinned 2 = .ok (.iload_n 1, 1) := by decide +kernel
theorem dX12_isPinned_3 : decode cX12_isPinned 3 = .ok (.invokevirtual 241, 3) := by decide +kernel
theorem dX12_isPinned_6 : decode cX12_isPinned 6 = .ok (.iconst 1, 1) := by decide +kernel
theorem dX12_isPinned_7 : decode cX12_isPinned 7 = .ok (.invokevirtual 237, 3) := by decide +kernel
theorem dX12_isPinned_10 : decode cX12_isPinned 10 = .ok (.ifCond .eq 15, 3) := by decide +kernel
theorem dX12_isPinned_13 : decode cX12_isPinned 13 = .ok (.aload_n 0, 1) := by decide +kernel
theorem dX12_isPinned_14 : decode cX12_isPinned 14 = .ok (.aload_n 0, 1) := by decide +kernel
theorem dX12_isPinned_15 : decode cX12_isPinned 15 = .ok (.invokevirtual 284, 3) := by decide +kernel
theorem dX12_isPinned_18 : decode cX12_isPinned 18 = .ok (.iconst 2, 1) := by decide +kernel
theorem dX12_isPinned_19 : decode cX12_isPinned 19 = .ok (.invokevirtual 237, 3) := by decide +kernel
theorem dX12_isPinned_22 : decode cX12_isPinned 22 = .ok (.ifCond .ne 5, 3) := by decide +kernel
theorem dX12_isPinned_25 : decode cX12_isPinned 25 = .ok (.iconst 0, 1) := by decide +kernel
theorem dX12_isPinned_26 : decode cX12_isPinned 26 = .ok (.ireturn, 1) := by decide +kernel
theorem dX12_isPinned_27 : decode cX12_isPinned 27 = .ok (.aload_n 0, 1) := by decide +kernel
theorem dX12_isPinned_28 : decode cX12_isPinned 28 = .ok (.iconst 0, 1) := by decide +kernel
theorem dX12_isPinned_29 : decode cX12_isPinned 29 = .ok (.invokevirtual 183, 3) := by decide +kernel
theorem dX12_isPinned_32 : decode cX12_isPinned 32 = .ok (.istore_n 2, 1) := by decide +kernel
theorem dX12_isPinned_33 : decode cX12_isPinned 33 = .ok (.aload_n 0, 1) := by decide +kernel
theorem dX12_isPinned_34 : decode cX12_isPinned 34 = .ok (.iconst 0, 1) := by decide +kernel
theorem dX12_isPinned_35 : decode cX12_isPinned 35 = .ok (.iload_n 1, 1) := by decide +kernel
theorem dX12_isPinned_36 : decode cX12_isPinned 36 = .ok (.invokevirtual 141, 3) := by decide +kernel
theorem dX12_isPinned_39 : decode cX12_isPinned 39 = .ok (.iload_n 2, 1) := by decide +kernel
theorem dX12_isPinned_40 : decode cX12_isPinned 40 = .ok (.invokestatic 154, 3) := by decide +kernel
theorem dX12_isPinned_43 : decode cX12_isPinned 43 = .ok (.ifCond .eq 16, 3) := by decide +kernel
theorem dX12_isPinned_46 : decode cX12_isPinned 46 = .ok (.aload_n 0, 1) := by decide +kernel
theorem dX12_isPinned_47 : decode cX12_isPinned 47 = .ok (.iconst 0, 1) := by decide +kernel
theorem dX12_isPinned_48 : decode cX12_isPinned 48 = .ok (.iload_n 1, 1) := by decide +kernel
theorem dX12_isPinned_49 : decode cX12_isPinned 49 = .ok (.invokevirtual 141, 3) := by decide +kernel
theorem dX12_isPinned_52 : decode cX12_isPinned 52 = .ok (.invokestatic 148, 3) := by decide +kernel
theorem dX12_isPinned_55 : decode cX12_isPinned 55 = .ok (.iconst 1, 1) := by decide +kernel
theorem dX12_isPinned_56 : decode cX12_isPinned 56 = .ok (.if_icmp .ne 5, 3) := by decide +kernel
theorem dX12_isPinned_59 : decode cX12_isPinned 59 = .ok (.iconst 0, 1) := by decide +kernel
theorem dX12_isPinned_60 : decode cX12_isPinned 60 = .ok (.ireturn, 1) := by decide +kernel
theorem dX12_isPinned_61 : decode cX12_isPinned 61 = .ok (.aload_n 0, 1) := by decide +kernel
theorem dX12_isPinned_62 : decode cX12_isPinned 62 = .ok (.iconst 0, 1) := by decide +kernel
theorem dX12_isPinned_63 : decode cX12_isPinned 63 = .ok (.iload_n 2, 1) := by decide +kernel
theorem dX12_isPinned_64 : decode cX12_isPinned 64 = .ok (.invokevirtual 164, 3) := by decide +kernel
theorem dX12_isPinned_67 : decode cX12_isPinned 67 = .ok (.istore_n 3, 1) := by decide +kernel
theorem dX12_isPinned_68 : decode cX12_isPinned 68 = .ok (.bipush 67, 2) := by decide +kernel
theorem dX12_isPinned_70 : decode cX12_isPinned 70 = .ok (.aload_n 0, 1) := by decide +kernel
theorem dX12_isPinned_71 : decode cX12_isPinned 71 = .ok (.getfield 16, 3) := by decide +kernel
theorem dX12_isPinned_74 : decode cX12_isPinned 74 = .ok (.iconst 0, 1) := by decide +kernel
theorem dX12_isPinned_75 : decode cX12_isPinned 75 = .ok (.aload_n 0, 1) := by decide +kernel
theorem dX12_isPinned_76 : decode cX12_isPinned 76 = .ok (.getfield 16, 3) := by decide +kernel
theorem dX12_isPinned_79 : decode cX12_isPinned 79 = .ok (.bipush 67, 2) := by decide +kernel
theorem dX12_isPinned_81 : decode cX12_isPinned 81 = .ok (.invokestatic 130, 3) := by decide +kernel
theorem dX12_isPinned_84 : decode cX12_isPinned 84 = .ok (.aload_n 0, 1) := by decide +kernel
theorem dX12_isPinned_85 : decode cX12_isPinned 85 = .ok (.iconst 1, 1) := by decide +kernel
theorem dX12_isPinned_86 : decode cX12_isPinned 86 = .ok (.iload_n 1, 1) := by decide +kernel
theorem dX12_isPinned_87 : decode cX12_isPinned 87 = .ok (.iconst 0, 1) := by decide +kernel
theorem dX12_isPinned_88 : decode cX12_isPinned 88 = .ok (.invokevirtual 207, 3) := by decide +kernel
theorem dX12_isPinned_91 : decode cX12_isPinned 91 = .ok (.iconst 0, 1) := by decide +kernel
theorem dX12_isPinned_92 : decode cX12_isPinned 92 = .ok (.istore 4, 2) := by decide +kernel
theorem dX12_isPinned_94 : decode cX12_isPinned 94 = .ok (.iload 4, 2) := by decide +kernel
theorem dX12_isPinned_96 : decode cX12_isPinned 96 = .ok (.aload_n 0, 1) := by decide +kernel
theorem dX12_isPinned_97 : decode cX12_isPinned 97 = .ok (.invokevirtual 113, 3) := by decide +kernel
theorem dX12_isPinned_100 : decode cX12_isPinned 100 = .ok (.if_icmp .ge 67, 3) := by decide +kernel
theorem dX12_isPinned_103 : decode cX12_isPinned 103 = .ok (.aload_n 0, 1) := by decide +kernel
theorem dX12_isPinned_104 : decode cX12_isPinned 104 = .ok (.iconst 0, 1) := by decide +kernel
theorem dX12_isPinned_105 : decode cX12_isPinned 105 = .ok (.iload 4, 2) := by decide +kernel
theorem dX12_isPinned_107 : decode cX12_isPinned 107 = .ok (.invokevirtual 141, 3) := by decide +kernel
theorem dX12_isPinned_110 : decode cX12_isPinned 110 = .ok (.iconst 1, 1) := by decide +kernel
theorem dX12_isPinned_111 : decode cX12_isPinned 111 = .ok (.iload_n 2, 1) := by decide +kernel
theorem dX12_isPinned_112 : decode cX12_isPinned 112 = .ok (.isub, 1) := by decide +kernel
theorem dX12_isPinned_113 : decode cX12_isPinned 113 = .ok (.invokestatic 154, 3) := by decide +kernel
theorem dX12_isPinned_116 : decode cX12_isPinned 116 = .ok (.ifCond .eq 45, 3) := by decide +kernel
theorem dX12_isPinned_119 : decode cX12_isPinned 119 = .ok (.aload_n 0, 1) := by decide +kernel
theorem dX12_isPinned_120 : decode cX12_isPinned 120 = .ok (.iconst 0, 1) := by decide +kernel
theorem dX12_isPinned_121 : decode cX12_isPinned 121 = .ok (.iload 4, 2) := by decide +kernel
theorem dX12_isPinned_123 : decode cX12_isPinned 123 = .ok (.invokevirtual 141, 3) := by decide +kernel
theorem dX12_isPinned_126 : decode cX12_isPinned 126 = .ok (.invokestatic 148, 3) := by decide +kernel
theorem dX12_isPinned_129 : decode cX12_isPinned 129 = .ok (.iconst 2, 1) := by decide +kernel
theorem dX12_isPinned_130 : decode cX12_isPinned 130 = .ok (.iconst 4, 1) := by decide +kernel
theorem dX12_isPinned_131 : decode cX12_isPinned 131 = .ok (.invokestatic 117, 3) := by decide +kernel
theorem dX12_isPinned_134 : decode cX12_isPinned 134 = .ok (.ifCond .eq 27, 3) := by decide +kernel
theorem dX12_isPinned_137 : decode cX12_isPinned 137 = .ok (.aload_n 0, 1) := by decide +kernel
theorem dX12_isPinned_138 : decode cX12_isPinned 138 = .ok (.iconst 1, 1) := by decide +kernel
theorem dX12_isPinned_139 : decode cX12_isPinned 139 = .ok (.iload 4, 2) := by decide +kernel
theorem dX12_isPinned_141 : decode cX12_isPinned 141 = .ok (.iload_n 3, 1) := by decide +kernel
theorem dX12_isPinned_142 : decode cX12_isPinned 142 = .ok (.invokevirtual 158, 3) := by decide +kernel
theorem dX12_isPinned_145 : decode cX12_isPinned 145 = .ok (.ifCond .eq 16, 3) := by decide +kernel
theorem dX12_isPinned_148 : decode cX12_isPinned 148 = .ok (.aload_n 0, 1) := by decide +kernel
theorem dX12_isPinned_149 : decode cX12_isPinned 149 = .ok (.iconst 0, 1) := by decide +kernel
theorem dX12_isPinned_150 : decode cX12_isPinned 150 = .ok (.iload 4, 2) := by decide +kernel
theorem dX12_isPinned_152 : decode cX12_isPinned 152 = .ok (.iload_n 3, 1) := by decide +kernel
theorem dX12_isPinned_153 : decode cX12_isPinned 153 = .ok (.invokevirtual 158, 3) := by decide +kernel
theorem dX12_isPinned_156 : decode cX12_isPinned 156 = .ok (.ifCond .ne 5, 3) := by decide +kernel
theorem dX12_isPinned_159 : decode cX12_isPinned 159 = .ok (.iconst 1, 1) := by decide +kernel
theorem dX12_isPinned_160 : decode cX12_isPinned 160 = .ok (.ireturn, 1) := by decide +kernel
theorem dX12_isPinned_161 : decode cX12_isPinned 161 = .ok (.iinc 4 1, 3) := by decide +kernel
theorem dX12_isPinned_164 : decode cX12_isPinned 164 = .ok (.goto (-70), 3) := by decide +kernel
theorem dX12_isPinned_167 : decode cX12_isPinned 167 = .ok (.iconst 0, 1) := by decide +kernel
theorem dX12_isPinned_168 : decode cX12_isPinned 168 = .ok (.ireturn, 1) := by decide +kernel
theorem dX12_isProper_0 : decode cX12_isProper 0 = .ok (.aload_n 0, 1) := by decide +kernel
theorem dX12_isProper_1 : decode cX12_isProper 1 = .ok (.iconst 0, 1) := by decide +kernel
theorem dX12_isProper_2 : decode cX12_isProper 2 = .ok (.putfield 110, 3) := by decide +kernel
theorem dX12_isProper_5 : decode cX12_isProper 5 = .ok (.aload_n 0, 1) := by decide +kernel
theorem dX12_isProper_6 : decode cX12_isProper 6 = .ok (.invokevirtual 192, 3) := by decide +kernel
theorem dX12_isProper_9 : decode cX12_isProper 9 = .ok (.aload_n 0, 1) := by decide +kernel
theorem dX12_isProper_10 : decode cX12_isProper 10 = .ok (.iconst 0, 1) := by decide +kernel
theorem dX12_isProper_11 : decode cX12_isProper 11 = .ok (.invokevirtual 189, 3) := by decide +kernel
theorem dX12_isProper_14 : decode cX12_isProper 14 = .ok (.ireturn, 1) := by decide +kernel
theorem dX12_isThere_0 : decode cX12_isThere 0 = .ok (.iconst 0, 1) := by decide +kernel
theorem dX12_isThere_1 : decode cX12_isThere 1 = .ok (.istore_n 2, 1) := by decide +kernel
theorem dX12_isThere_2 : decode cX12_isThere 2 = .ok (.iload_n 2, 1) := by decide +kernel
theorem dX12_isThere_3 : decode cX12_isThere 3 = .ok (.aload_n 0, 1) := by decide +kernel
theorem dX12_isThere_4 : decode cX12_isThere 4 = .ok (.getfield 69, 3) := by decide +kernel
theorem dX12_isThere_7 : decode cX12_isThere 7 = .ok (.iconst 0, 1) := by decide +kernel
theorem dX12_isThere_8 : decode cX12_isThere 8 = .ok (.iaload, 1) := by decide +kernel
theorem dX12_isThere_9 : decode cX12_isThere 9 = .ok (.if_icmp .ge 20, 3) := by decide +kernel
theorem dX12_isThere_12 : decode cX12_isThere 12 = .ok (.aload_n 0, 1) := by decide +kernel
theorem dX12_isThere_13 : decode cX12_isThere 13 = .ok (.iload_n 2, 1) := by decide +kernel
theorem dX12_isThere_14 : decode cX12_isThere 14 = .ok (.iload_n 1, 1) := by decide +kernel
theorem dX12_isThere_15 : decode cX12_isThere 15 = .ok (.invokevirtual 458, 3) := by decide +kernel
theorem dX12_isThere_18 : decode cX12_isThere 18 = .ok (.ifCond .eq 5, 3) := by decide +kernel
theorem dX12_isThere_21 : decode cX12_isThere 21 = .ok (.iconst 1, 1) := by decide +kernel
theorem dX12_isThere_22 : decode cX12_isThere 22 = .ok (.ireturn, 1) := by decide +kernel
theorem dX12_isThere_23 : decode cX12_isThere 23 = .ok (.iinc 2 1, 3) := by decide +kernel
theorem dX12_isThere_26 : decode cX12_isThere 26 = .ok (.goto (-24), 3) := by decide +kernel
theorem dX12_isThere_29 : decode cX12_isThere 29 = .ok (.iconst 0, 1) := by decide +kernel
theorem dX12_isThere_30 : decode cX12_isThere 30 = .ok (.ireturn, 1) := by decide +kernel
theorem dX12_isWhiteToMove_0 : decode cX12_isWhiteToMove 0 = .ok (.aload_n 0, 1) := by decide +kernel
theorem dX12_isWhiteToMove_1 : decode cX12_isWhiteToMove 1 = .ok (.iconst 0, 1) := by decide +kernel
theorem dX12_isWhiteToMove_2 : decode cX12_isWhiteToMove 2 = .ok (.putfield 110, 3) := by decide +kernel
theorem dX12_isWhiteToMove_5 : decode cX12_isWhiteToMove 5 = .ok (.aload_n 0, 1) := by decide +kernel
theorem dX12_isWhiteToMove_6 : decode cX12_isWhiteToMove 6 = .ok (.getfield 32, 3) := by decide +kernel
theorem dX12_isWhiteToMove_9 : decode cX12_isWhiteToMove 9 = .ok (.aload_n 0, 1) := by decide +kernel
theorem dX12_isWhiteToMove_10 : decode cX12_isWhiteToMove 10 = .ok (.invokevirtual 127, 3) := by decide +kernel
theorem dX12_isWhiteToMove_13 : decode cX12_isWhiteToMove 13 = .ok (.bipush 64, 2) := by decide +kernel
theorem dX12_isWhiteToMove_15 : decode cX12_isWhiteToMove 15 = .ok (.iadd, 1) := by decide +kernel
theorem dX12_isWhiteToMove_16 : decode cX12_isWhiteToMove 16 = .ok (.iaload, 1) := by decide +kernel
theorem dX12_isWhiteToMove_17 : decode cX12_isWhiteToMove 17 = .ok (.iconst 1, 1) := by decide +kernel
theorem dX12_isWhiteToMove_18 : decode cX12_isWhiteToMove 18 = .ok (.if_icmp .ne 7, 3) := by decide +kernel
theorem dX12_isWhiteToMove_21 : decode cX12_isWhiteToMove 21 = .ok (.iconst 1, 1) := by decide +kernel
theorem dX12_isWhiteToMove_22 : decode cX12_isWhiteToMove 22 = .ok (.goto 4, 3) := by decide +kernel
theorem dX12_isWhiteToMove_25 : decode cX12_isWhiteToMove 25 = .ok (.iconst 0, 1) := by decide +kernel
theorem dX12_isWhiteToMove_26 : decode cX12_isWhiteToMove 26 = .ok (.ireturn, 1) := by decide +kernel
theorem dX12_keyCount_0 : decode cX12_keyCount 0 = .ok (.aload_n 0, 1) := by decide +kernel
theorem dX12_keyCount_1 : decode cX12_keyCount 1 = .ok (.aload_n 0, 1) := by decide +kernel
theorem dX12_keyCount_2 : decode cX12_keyCount 2 = .ok (.invokevirtual 284, 3) := by decide +kernel
theorem dX12_keyCount_5 : decode cX12_keyCount 5 = .ok (.iconst 1, 1) := by decide +kernel
theorem dX12_keyCount_6 : decode cX12_keyCount 6 = .ok (.invokevirtual 237, 3) := by decide +kernel
theorem dX12_keyCount_9 : decode cX12_keyCount 9 = .ok (.ifCond .ne 5, 3) := by decide +kernel
theorem dX12_keyCount_12 : decode cX12_keyCount 12 = .ok (.iconst 0, 1) := by decide +kernel
theorem dX12_keyCount_13 : decode cX12_keyCount 13 = .ok (.ireturn, 1) := by decide +kernel
theorem dX12_keyCount_14 : decode cX12_keyCount 14 = .ok (.aload_n 0, 1) := by decide +kernel
theorem dX12_keyCount_15 : decode cX12_keyCount 15 = .ok (.invokevirtual 473, 3) := by decide +kernel
theorem dX12_keyCount_18 : decode cX12_keyCount 18 = .ok (.istore_n 1, 1) := by decide +kernel
theorem dX12_keyCount_19 : decode cX12_keyCount 19 = .ok (.iload_n 1, 1) := by decide +kernel
theorem dX12_keyCount_20 : decode cX12_keyCount 20 = .ok (.iconst (-1), 1) := by decide +kernel
theorem dX12_keyCount_21 : decode cX12_keyCount 21 = .ok (.if_icmp .ne 7, 3) := by decide +kernel
theorem dX12_keyCount_24 : decode cX12_keyCount 24 = .ok (.iconst 0, 1) := by decide +kernel
theorem dX12_keyCount_25 : decode cX12_keyCount 25 = .ok (.goto 8, 3) := by decide +kernel
theorem dX12_keyCount_28 : decode cX12_keyCount 28 = .ok (.aload_n 0, 1) := by decide +kernel
theorem dX12_keyCount_29 : decode cX12_keyCount 29 = .ok (.iload_n 1, 1) := by decide +kernel
theorem dX12_keyCount_30 : decode cX12_keyCount 30 = .ok (.invokevirtual 470, 3) := by decide +kernel
theorem dX12_keyCount_33 : decode cX12_keyCount 33 = .ok (.ireturn, 1) := by decide +kernel
theorem dX12_longest_0 : decode cX12_longest 0 = .ok (.aload_n 0, 1) := by decide +kernel
theorem dX12_longest_1 : decode cX12_longest 1 = .ok (.iload_n 1, 1) := by decide +kernel
theorem dX12_longest_2 : decode cX12_longest 2 = .ok (.invokestatic 500, 3) := by decide +kernel
theorem dX12_longest_5 : decode cX12_longest 5 = .ok (.iconst 1, 1) := by decide +kernel
theorem dX12_longest_6 : decode cX12_longest 6 = .ok (.invokevirtual 237, 3) := by decide +kernel
theorem dX12_longest_9 : decode cX12_longest 9 = .ok (.ifCond .eq 17, 3) := by decide +kernel
theorem dX12_longest_12 : decode cX12_longest 12 = .ok (.aload_n 0, 1) := by decide +kernel
theorem dX12_longest_13 : decode cX12_longest 13 = .ok (.aload_n 0, 1) := by decide +kernel
theorem dX12_longest_14 : decode cX12_longest 14 = .ok (.getfield 104, 3) := by decide +kernel
theorem dX12_longest_17 : decode cX12_longest 17 = .ok (.iload_n 1, 1) := by decide +kernel
theorem dX12_longest_18 : decode cX12_longest 18 = .ok (.baload, 1) := by decide +kernel
theorem dX12_longest_19 : decode cX12_longest 19 = .ok (.iconst 2, 1) := by decide +kernel
theorem dX12_longest_20 : decode cX12_longest 20 = .ok (.invokevirtual 237, 3) := by decide +kernel
theorem dX12_longest_23 : decode cX12_longest 23 = .ok (.ifCond .ne 5, 3) := by decide +kernel
theorem dX12_longest_26 : decode cX12_longest 26 = .ok (.iconst 0, 1) := by decide +kernel
theorem dX12_longest_27 : decode cX12_longest 27 = .ok (.ireturn, 1) := by decide +kernel
theorem dX12_longest_28 : decode cX12_longest 28 = .ok (.iconst (-1), 1) := by decide +kernel
theorem dX12_longest_29 : decode cX12_longest 29 = .ok (.istore_n 2, 1) := by decide +kernel
theorem dX12_longest_30 : decode cX12_longest 30 = .ok (.iconst 0, 1) := by decide +kernel
theorem dX12_longest_31 : decode cX12_longest 31 = .ok (.istore_n 3, 1) := by decide +kernel
theorem dX12_longest_32 : decode cX12_longest 32 = .ok (.iload_n 3, 1) := by decide +kernel
theorem dX12_longest_33 : decode cX12_longest 33 = .ok (.sipush 31250, 3) := by decide +kernel
theorem dX12_longest_36 : decode cX12_longest 36 = .ok (.if_icmp .ge 38, 3) := by decide +kernel
theorem dX12_longest_39 : decode cX12_longest 39 = .ok (.aload_n 0, 1) := by decide +kernel
theorem dX12_longest_40 : decode cX12_longest 40 = .ok (.getfield 101, 3) := by decide +kernel
theorem dX12_longest_43 : decode cX12_longest 43 = .ok (.sipush 31250, 3) := by decide +kernel
theorem dX12_longest_46 : decode cX12_longest 46 = .ok (.iload_n 1, 1) := by decide +kernel
theorem dX12_longest_47 : decode cX12_longest 47 = .ok (.iconst 2, 1) := by decide +kernel
theorem dX12_longest_48 : decode cX12_longest 48 = .ok (.isub, 1) := by decide +kernel
theorem dX12_longest_49 : decode cX12_longest 49 = .ok (.imul, 1) := by decide +kernel
theorem dX12_longest_50 : decode cX12_longest 50 = .ok (.iload_n 3, 1) := by decide +kernel
theorem dX12_longest_51 : decode cX12_longest 51 = .ok (.iadd, 1) := by decide +kernel
theorem dX12_longest_52 : decode cX12_longest 52 = .ok (.iaload, 1) := by decide +kernel
theorem dX12_longest_53 : decode cX12_longest 53 = .ok (.istore 4, 2) := by decide +kernel
theorem dX12_longest_55 : decode cX12_longest 55 = .ok (.iload 4, 2) := by decide +kernel
theorem dX12_longest_57 : decode cX12_longest 57 = .ok (.iload_n 2, 1) := by decide +kernel
theorem dX12_longest_58 : decode cX12_longest 58 = .ok (.if_icmp .le 8, 3) := by decide +kernel
theorem dX12_longest_61 : decode cX12_longest 61 = .ok (.iload 4, 2) := by decide +kernel
theorem dX12_longest_63 : decode cX12_longest 63 = .ok (.goto 4, 3) := by decide +kernel
theorem dX12_longest_66 : decode cX12_longest 66 = .ok (.iload_n 2, 1) := by decide +kernel
theorem dX12_longest_67 : decode cX12_longest 67 = .ok (.istore_n 2, 1) := by decide +kernel
theorem dX12_longest_68 : decode cX12_longest 68 = .ok (.iinc 3 1, 3) := by decide +kernel
theorem dX12_longest_71 : decode cX12_longest 71 = .ok (.goto (-39), 3) := by decide +kernel
theorem dX12_longest_74 : decode cX12_longest 74 = .ok (.iload_n 2, 1) := by decide +kernel
theorem dX12_longest_75 : decode cX12_longest 75 = .ok (.ireturn, 1) := by decide +kernel
theorem dX12_madeCount_0 : decode cX12_madeCount 0 = .ok (.aload_n 0, 1) := by decide +kernel
theorem dX12_madeCount_1 : decode cX12_madeCount 1 = .ok (.iconst 0, 1) := by decide +kernel
theorem dX12_madeCount_2 : decode cX12_madeCount 2 = .ok (.putfield 110, 3) := by decide +kernel
theorem dX12_madeCount_5 : decode cX12_madeCount 5 = .ok (.aload_n 0, 1) := by decide +kernel
theorem dX12_madeCount_6 : decode cX12_madeCount 6 = .ok (.getfield 121, 3) := by decide +kernel
theorem dX12_madeCount_9 : decode cX12_madeCount 9 = .ok (.ireturn, 1) := by decide +kernel
theorem dX12_mainMove_0 : decode cX12_mainMove 0 = .ok (.aload_n 0, 1) := by decide +kernel
theorem dX12_mainMove_1 : decode cX12_mainMove 1 = .ok (.iload_n 1, 1) := by decide +kernel
theorem dX12_mainMove_2 : decode cX12_mainMove 2 = .ok (.invokevirtual 443, 3) := by decide +kernel
theorem dX12_mainMove_5 : decode cX12_mainMove 5 = .ok (.iconst (-1), 1) := by decide +kernel
theorem dX12_mainMove_6 : decode cX12_mainMove 6 = .ok (.istore_n 2, 1) := by decide +kernel
theorem dX12_mainMove_7 : decode cX12_mainMove 7 = .ok (.iconst 0, 1) := by decide +kernel
theorem dX12_mainMove_8 : decode cX12_mainMove 8 = .ok (.istore_n 3, 1) := by decide +kernel
theorem dX12_mainMove_9 : decode cX12_mainMove 9 = .ok (.iload_n 3, 1) := by decide +kernel
theorem dX12_mainMove_10 : decode cX12_mainMove 10 = .ok (.aload_n 0, 1) := by decide +kernel
theorem dX12_mainMove_11 : decode cX12_mainMove 11 = .ok (.getfield 29, 3) := by decide +kernel
theorem dX12_mainMove_14 : decode cX12_mainMove 14 = .ok (.iconst 0, 1) := by decide +kernel
theorem dX12_mainMove_15 : decode cX12_mainMove 15 = .ok (.iaload, 1) := by decide +kernel
theorem dX12_mainMove_16 : decode cX12_mainMove 16 = .ok (.if_icmp .ge 64, 3) := by decide +kernel
theorem dX12_mainMove_19 : decode cX12_mainMove 19 = .ok (.aload_n 0, 1) := by decide +kernel
theorem dX12_mainMove_20 : decode cX12_mainMove 20 = .ok (.getfield 54, 3) := by decide +kernel
theorem dX12_mainMove_23 : decode cX12_mainMove 23 = .ok (.iload_n 3, 1) := by decide +kernel
theorem dX12_mainMove_24 : decode cX12_mainMove 24 = .ok (.iaload, 1) := by decide +kernel
theorem dX12_mainMove_25 : decode cX12_mainMove 25 = .ok (.ifCond .le 49, 3) := by decide +kernel
theorem dX12_mainMove_28 : decode cX12_mainMove 28 = .ok (.iload_n 2, 1) := by decide +kernel
theorem dX12_mainMove_29 : decode cX12_mainMove 29 = .ok (.iconst (-1), 1) := by decide +kernel
theorem dX12_mainMove_30 : decode cX12_mainMove 30 = .ok (.if_icmp .eq 42, 3) := by decide +kernel
theorem dX12_mainMove_33 : decode cX12_mainMove 33 = .ok (.aload_n 0, 1) := by decide +kernel
theorem dX12_mainMove_34 : decode cX12_mainMove 34 = .ok (.getfield 54, 3) := by decide +kernel
theorem dX12_mainMove_37 : decode cX12_mainMove 37 = .ok (.iload_n 3, 1) := by decide +kernel
theorem dX12_mainMove_38 : decode cX12_mainMove 38 = .ok (.iaload, 1) := by decide +kernel
theorem dX12_mainMove_39 : decode cX12_mainMove 39 = .ok (.aload_n 0, 1) := by decide +kernel
theorem dX12_mainMove_40 : decode cX12_mainMove 40 = .ok (.getfield 54, 3) := by decide +kernel
theorem dX12_mainMove_43 : decode cX12_mainMove 43 = .ok (.iload_n 2, 1) := by decide +kernel
theorem dX12_mainMove_44 : decode cX12_mainMove 44 = .ok (.iaload, 1) := by decide +kernel
theorem dX12_mainMove_45 : decode cX12_mainMove 45 = .ok (.if_icmp .gt 27, 3) := by decide +kernel
theorem dX12_mainMove_48 : decode cX12_mainMove 48 = .ok (.aload_n 0, 1) := by decide +kernel
theorem dX12_mainMove_49 : decode cX12_mainMove 49 = .ok (.getfield 54, 3) := by decide +kernel
theorem dX12_mainMove_52 : decode cX12_mainMove 52 = .ok (.iload_n 3, 1) := by decide +kernel
theorem dX12_mainMove_53 : decode cX12_mainMove 53 = .ok (.iaload, 1) := by decide +kernel
theorem dX12_mainMove_54 : decode cX12_mainMove 54 = .ok (.aload_n 0, 1) := by decide +kernel
theorem dX12_mainMove_55 : decode cX12_mainMove 55 = .ok (.getfield 54, 3) := by decide +kernel
theorem dX12_mainMove_58 : decode cX12_mainMove 58 = .ok (.iload_n 2, 1) := by decide +kernel
theorem dX12_mainMove_59 : decode cX12_mainMove 59 = .ok (.iaload, 1) := by decide +kernel
theorem dX12_mainMove_60 : decode cX12_mainMove 60 = .ok (.if_icmp .ne 14, 3) := by decide +kernel
theorem dX12_mainMove_63 : decode cX12_mainMove 63 = .ok (.aload_n 0, 1) := by decide +kernel
theorem dX12_mainMove_64 : decode cX12_mainMove 64 = .ok (.iload_n 3, 1) := by decide +kernel
theorem dX12_mainMove_65 : decode cX12_mainMove 65 = .ok (.iload_n 2, 1) := by decide +kernel
theorem dX12_mainMove_66 : decode cX12_mainMove 66 = .ok (.invokevirtual 437, 3) := by decide +kernel
theorem dX12_mainMove_69 : decode cX12_mainMove 69 = .ok (.ifCond .eq 5, 3) := by decide +kernel
theorem dX12_mainMove_72 : decode cX12_mainMove 72 = .ok (.iload_n 3, 1) := by decide +kernel
theorem dX12_mainMove_73 : decode cX12_mainMove 73 = .ok (.istore_n 2, 1) := by decide +kernel
theorem dX12_mainMove_74 : decode cX12_mainMove 74 = .ok (.iinc 3 1, 3) := by decide +kernel
theorem dX12_mainMove_77 : decode cX12_mainMove 77 = .ok (.goto (-68), 3) := by decide +kernel
theorem dX12_mainMove_80 : decode cX12_mainMove 80 = .ok (.iload_n 2, 1) := by decide +kernel
theorem dX12_mainMove_81 : decode cX12_mainMove 81 = .ok (.ireturn, 1) := by decide +kernel
theorem dX12_worth_0 : decode cX12_worth 0 = .ok (.iload_n 0, 1) := by decide +kernel
theorem dX12_worth_1 : decode cX12_worth 1 = .ok (.iconst 2, 1) := by decide +kernel
theorem dX12_worth_2 : decode cX12_worth 2 = .ok (.if_icmp .ne 8, 3) := by decide +kernel
theorem dX12_worth_5 : decode cX12_worth 5 = .ok (.bipush 9, 2) := by decide +kernel
theorem dX12_worth_7 : decode cX12_worth 7 = .ok (.goto 37, 3) := by decide +kernel
theorem dX12_worth_10 : decode cX12_worth 10 = .ok (.iload_n 0, 1) := by decide +kernel
theorem dX12_worth_11 : decode cX12_worth 11 = .ok (.iconst 3, 1) := by decide +kernel
theorem dX12_worth_12 : decode cX12_worth 12 = .ok (.if_icmp .ne 7, 3) := by decide +kernel
theorem dX12_worth_15 : decode cX12_worth 15 = .ok (.iconst 5, 1) := by decide +kernel
theorem dX12_worth_16 : decode cX12_worth 16 = .ok (.goto 28, 3) := by decide +kernel
theorem dX12_worth_19 : decode cX12_worth 19 = .ok (.iload_n 0, 1) := by decide +kernel
theorem dX12_worth_20 : decode cX12_worth 20 = .ok (.iconst 4, 1) := by decide +kernel
theorem dX12_worth_21 : decode cX12_worth 21 = .ok (.if_icmp .eq 8, 3) := by decide +kernel
theorem dX12_worth_24 : decode cX12_worth 24 = .ok (.iload_n 0, 1) := by decide +kernel
theorem dX12_worth_25 : decode cX12_worth 25 = .ok (.iconst 5, 1) := by decide +kernel
theorem dX12_worth_26 : decode cX12_worth 26 = .ok (.if_icmp .ne 7, 3) := by decide +kernel
theorem dX12_worth_29 : decode cX12_worth 29 = .ok (.iconst 3, 1) := by decide +kernel
theorem dX12_worth_30 : decode cX12_worth 30 = .ok (.goto 14, 3) := by decide +kernel
theorem dX12_worth_33 : decode cX12_worth 33 = .ok (.iload_n 0, 1) := by decide +kernel
theorem dX12_worth_34 : decode cX12_worth 34 = .ok (.bipush 6, 2) := by decide +kernel
theorem dX12_worth_36 : decode cX12_worth 36 = .ok (.if_icmp .ne 7, 3) := by decide +kernel
theorem dX12_worth_39 : decode cX12_worth 39 = .ok (.iconst 1, 1) := by decide +kernel
theorem dX12_worth_40 : decode cX12_worth 40 = .ok (.goto 4, 3) := by decide +kernel
theorem dX12_worth_43 : decode cX12_worth 43 = .ok (.iconst 0, 1) := by decide +kernel
theorem dX12_worth_44 : decode cX12_worth 44 = .ok (.ireturn, 1) := by decide +kernel
def wp_X12_gamesOf_22 (D : wD) (post : Int32 → wS → Prop)  (S : wS) (t0 : Int32) : Prop :=
post t0 S
def wp_X12_gamesOf_0 (D : wD) (post : Int32 → wS → Prop)  (S : wS) (a0 : Nat) (x1 : Int32) (x2 : Int32) : Prop :=
wp_X12_asksContinuation D (fun r_1 S_2 => 
((¬ r_1 = (-1 : Int32) → ∃ y_4 : Nat, sR S_2 a0 19 = some y_4 ∧ wM D S_2 y_4 ∧ sK S_2 y_4 = 21 ∧
vp_in r_1 (sN S_2 y_4) ∧
wp_X12_gamesOf_22 D post S_2 (sI S_2 y_4 (r_1).toNatClampNeg)) ∧
 (r_1 = (-1 : Int32) → wp_X12_gamesOf_22 D post S_2 (0 : Int32)))) S a0 x1 x2
abbrev r_X12_gamesOf : Room := { frames := 12, cells := 0, slots := 0, locals := 287 }
def wp_X12_gamesOf (D : wD) (post : Int32 → wS → Prop) (S : wS) (a0 : Nat) (x1 : Int32) (x2 : Int32) : Prop := wp_X12_gamesOf_0 D post S a0 x1 x2
set_option maxHeartbeats 4000000 in
set_option maxRecDepth 100000 in
theorem t_X12_gamesOf_22 {p : Program} {l : Launch} {e : Env} {s : State} {m : MethodId} {args : Array Value} {below : List Frame} {meth : Method} {c : Code} {D : wD} {cy : Nat → ClassId} {X : va_W} {A : Nat → Prop} {S0 : wS} {post : Int32 → wS → Prop} (F : CallFix p m c cX12_gamesOf 4 s args wz_X12_gamesOf RX12) (hr : meth.sig.returnType = (some .int)) (hlocks : meth.locks = false) (hK : wK D cy A s) : ∀ {S : wS} {H : Heap} {locs : List Loc} {ls : Array Slot} {t0 : Int32}, wp_X12_gamesOf_22 D post S t0 → wO D cy X A s.heap S H locs → wX D S0 S → lv_has ls 4 [] → W p l e r_X12_gamesOf s m args below meth c H locs 0 0 (MQ below (va_Qi (fun r S9 => wX D S0 S9 ∧ post r S9) (wB D cy X A) A) args s 0 0 A) (F0 m 22 ls [.int t0]) := by
  obtain ⟨hx, hb, hml, hown, hts⟩ := id F
  have hwg : ∀ w ∈ WG, w.before args s = true := fun w h => hts w (List.mem_cons_of_mem _ h)
  intro S H locs ls t0 hp hW hE hl
  unfold wp_X12_gamesOf_22 at hp
  exact w_iret hx hb hr hlocks hW ⟨hE, hp⟩ dX12_gamesOf_22
set_option maxHeartbeats 4000000 in
set_option maxRecDepth 100000 in
theorem t_X12_gamesOf_0 {p : Program} {l : Launch} {e : Env} {s : State} {m : MethodId} {args : Array Value} {below : List Frame} {meth : Method} {c : Code} {D : wD} {cy : Nat → ClassId} {X : va_W} {A : Nat → Prop} {S0 : wS} {post : Int32 → wS → Prop} (F : CallFix p m c cX12_gamesOf 4 s args wz_X12_gamesOf RX12) (hr : meth.sig.returnType = (some .int)) (hlocks : meth.locks = false) (hK : wK D cy A s) : ∀ {S : wS} {H : Heap} {locs : List Loc} {ls : Array Slot} {a0 : Nat} {x1 : Int32} {x2 : Int32}, wp_X12_gamesOf_0 D post S a0 x1 x2 → wO D cy X A s.heap S H locs → wX D S0 S → lv_has ls 4 [(0, .ref a0), (1, .int x1), (2, .int x2)] → wM D S a0 → sK S a0 = 17 → W p l e r_X12_gamesOf s m args below meth c H locs 0 0 (MQ below (va_Qi (fun r S9 => wX D S0 S9 ∧ post r S9) (wB D cy X A) A) args s 0 0 A) (F0 m 0 ls []) := by
  obtain ⟨hx, hb, hml, hown, hts⟩ := id F
  have hwg : ∀ w ∈ WG, w.before args s = true := fun w h => hts w (List.mem_cons_of_mem _ h)
  have i_17 : ∀ w ∈ u_ws RX12 TX12 43, w ∈ wz_X12_gamesOf := fun w h => List.mem_cons_of_mem _ (wu_17 w h)
  have k_54 := hwg _ wf_RX12_54
  intro S H locs ls a0 x1 x2 hp hW hE hl hL_a0 hK_a0
  unfold wp_X12_gamesOf_0 at hp
  refine lv_aload_n hx hb dX12_gamesOf_0 rfl (lv_at hl 0 rfl) ?_
  refine lv_iload_n hx hb dX12_gamesOf_1 rfl (lv_at hl 1 rfl) ?_
  refine lv_iload_n hx hb dX12_gamesOf_2 rfl (lv_at hl 2 rfl) ?_
  refine w_callI (va_runV (As := [.int x1, .int x2]) (rest := []) F (c_X12_asksContinuation l hL_a0 hK_a0 hp H.size) (cwV (C := RX12) 2 hts (wg_V wm_RX12_452 wy_X12_asksContinuation) rfl rfl rfl (by decide +kernel) ⟨Nat.le_of_ble_eq_true rfl, Nat.le_of_ble_eq_true rfl⟩) (w_preV hK hW hL_a0 hK_a0 (by decide) rfl) rfl rfl hl.1 rfl (lv_room (Nat.le_of_ble_eq_true rfl)) dX12_gamesOf_3 ⟨Nat.le_of_ble_eq_true rfl, Nat.le_of_ble_eq_true rfl⟩) hW (fun r_1 S_2 H locs hp hW => ?_)
  obtain ⟨hX_S_2, hp⟩ := hp
  refine W.widen (k := 0) (n := 0) (by decide) (by decide) ?_
  have hE := hE.trans hX_S_2
  have hK_a0 : sK S_2 a0 = 17 := (hX_S_2.2 a0 hL_a0).1.trans hK_a0
  have hL_a0 : wM D S_2 a0 := hX_S_2.M hL_a0
  refine lv_istore_n (lv' := [(3, .int r_1), (0, .ref a0), (1, .int x1), (2, .int x2)]) hx hb dX12_gamesOf_6 rfl hl (by decide) rfl (fun ls hl => ?_)
  refine lv_iload_n hx hb dX12_gamesOf_7 rfl (lv_at hl 0 rfl) ?_
  refine lv_iconst (v := (-1)) hx hb dX12_gamesOf_8 (by decide) ?_
  refine lv_icmp_ne (tgt := 16) hx hb dX12_gamesOf_9 (by decide) (fun c_3 => ?_) (fun c_3 => ?_)
  · replace hp := hp.1 c_3
    refine lv_aload_n hx hb dX12_gamesOf_16 rfl (lv_at hl 1 rfl) ?_
    obtain ⟨y_4, ey_4, hL_y_4, hK_y_4, hp⟩ := hp
    refine w_get (k := 17) (f := 19) (T := TX12) (v := .ref y_4) F hK hW hL_a0 hK_a0 (by decide) rfl rfl (by decide) i_17 k_54 (by rw [show wv 17 19 S_2 a0 = va_rf (sR S_2 a0 19) from rfl, ey_4]; rfl) dX12_gamesOf_17 ?_
    refine lv_iload_n hx hb dX12_gamesOf_20 rfl (lv_at hl 0 rfl) ?_
    obtain ⟨h_5, hp⟩ := hp
    refine w_ild F hK hW hL_y_4 hK_y_4 h_5 dX12_gamesOf_21 ?_
    exact t_X12_gamesOf_22 F hr hlocks hK hp hW hE (lv_sub hl [] rfl)
  · replace hp := hp.2 c_3
    refine lv_iconst (v := 0) hx hb dX12_gamesOf_12 (by decide) ?_
    refine lv_goto (tgt := 22) hx hb dX12_gamesOf_13 (by decide) ?_
    exact t_X12_gamesOf_22 F hr hlocks hK hp hW hE (lv_sub hl [] rfl)
set_option maxHeartbeats 4000000 in
set_option maxRecDepth 100000 in
theorem c_X12_gamesOf (l : Launch) {D : wD} {cy : Nat → ClassId} {X : va_W} {S0 : wS} {post : Int32 → wS → Prop} {a0 : Nat} {x1 : Int32} {x2 : Int32} (hL_a0 : wM D S0 a0) (hK_a0 : sK S0 a0 = 17) (hp : wp_X12_gamesOf D post S0 a0 x1 x2) : mI D cy X l yX12_gamesOf wz_X12_gamesOf r_X12_gamesOf [.ref a0, .int x1, .int x2] S0 (fun r S9 => wX D S0 S9 ∧ post r S9) := by
  intro sz
  refine Met.ofW (cc := cX12_gamesOf) (maxL := 4) (ret := (some .int)) (by decide) rfl ?_
  intro p e s m args below meth c s₁ B hml hv
  obtain ⟨rfl, hsz, hP, hK, hD0, hRO⟩ := hv
  have hts := atoms_spec (ws := wz_X12_gamesOf) B.pre
  have hown : s.vm.findClass RX12 = some m.cls := findClass_of_methodNamed B.named
  subst hsz
  have hD := hD0.self (sz := s.heap.size)
  have F : CallFix p m c cX12_gamesOf 4 s _ wz_X12_gamesOf RX12 := ⟨B.exec, B.bytes, hml, hown, hts⟩
  have hr := B.returns
  have hlocks := B.notSynchronized
  generalize hAe : va_A (wL cy X S0) s.heap.size = A at hD hK ⊢
  have hA : ∀ q, s.heap.size ≤ q → A q := fun q h => by rw [← hAe]; exact Or.inr h
  have hW : wO D cy X A s.heap S0 s.heap [] := ⟨hP, hD, va_S.rf, hA, hRO⟩
  have hl := lv_entry ([.ref a0, .int x1, .int x2]) (n := 4) (Nat.le_of_ble_eq_true rfl)
  rw [lg_entry_eq]
  generalize (lg_sl ([.ref a0, .int x1, .int x2]) ++ List.replicate (4 - (lg_sl ([.ref a0, .int x1, .int x2])).length) Slot.unset).toArray = ls at hl ⊢
  have hl : lv_has ls 4 [(0, .ref a0), (1, .int x1), (2, .int x2)] := hl
  unfold wp_X12_gamesOf at hp
  exact t_X12_gamesOf_0 F hr hlocks hK hp hW wX.rf (lv_sub hl [0, 1, 2] rfl) hL_a0 hK_a0
def wp_X12_holds_81 (D : wD) (post : Int32 → wS → Prop) (k_7 : wS → Nat → Int32 → Prop) (S : wS) (a0 : Nat) (x1 : Int32) : Prop :=
∀ x_1 : Int32, x_1 = x1 + 1 →
k_7 S a0 x_1
def wp_X12_holds_79 (D : wD) (post : Int32 → wS → Prop)  (S : wS) : Prop :=
narrow .boolean (.int (0 : Int32)) = .int (0 : Int32) ∧ post (0 : Int32) S
def wp_X12_holds_7 (D : wD) (post : Int32 → wS → Prop)  : Nat → wS → Nat → Int32 → Prop
  | 0, _, _, _ => False
  | n + 1, S, a0, x1 =>
    wp_X12_squares D (fun r_1 S_2 => 
    ((r_1 ≤ x1 → narrow .boolean (.int (1 : Int32)) = .int (1 : Int32) ∧ post (1 : Int32) S_2) ∧
     (¬ r_1 ≤ x1 → ∃ y_4 : Nat, sR S_2 a0 8 = some y_4 ∧ wM D S_2 y_4 ∧ sK S_2 y_4 = 21 ∧
    wp_X12_presentAt D (fun r_5 S_6 => 
    vp_in (r_5 + x1) (sN S_6 y_4) ∧
    ∀ x_8 : Int32, x_8 = (sI S_6 y_4 ((r_5 + x1)).toNatClampNeg) →
    ∃ y_9 : Nat, sR S_6 a0 40 = some y_9 ∧ wM D S_6 y_9 ∧ sK S_6 y_9 = 21 ∧
    vp_in x1 (sN S_6 y_9) ∧
    ∀ x_11 : Int32, x_11 = (sI S_6 y_9 (x1).toNatClampNeg) →
    ((x_11 = (15 : Int32) → wp_X12_holds_81 D post (wp_X12_holds_7 D post n) S_6 a0 x1) ∧
     (¬ x_11 = (15 : Int32) → ((¬ x_11 = (13 : Int32) → ((¬ x_11 = (14 : Int32) → ((x_11 = x_8 → wp_X12_holds_81 D post (wp_X12_holds_7 D post n) S_6 a0 x1) ∧
     (¬ x_11 = x_8 → wp_X12_holds_79 D post S_6))) ∧
     (x_11 = (14 : Int32) → wp_X12_isOf D (fun r_16 S_17 => 
    ((r_16 = 0 → wp_X12_holds_79 D post S_17) ∧
     (¬ r_16 = 0 → wp_X12_holds_81 D post (wp_X12_holds_7 D post n) S_17 a0 x1))) S_6 x_8 (0 : Int32)))) ∧
     (x_11 = (13 : Int32) → wp_X12_isOf D (fun r_19 S_20 => 
    ((r_19 = 0 → wp_X12_holds_79 D post S_20) ∧
     (¬ r_19 = 0 → wp_X12_holds_81 D post (wp_X12_holds_7 D post n) S_20 a0 x1))) S_6 x_8 (1 : Int32)))))) S_2 a0))) S a0
def wp_X12_holds_0 (D : wD) (post : Int32 → wS → Prop)  (S : wS) (a0 : Nat) : Prop :=
∀ S_1 : wS, S_1 = uI S a0 0 (0 : Int32) →
∃ n_2 : Nat, wp_X12_holds_7 D post n_2 S_1 a0 (0 : Int32)
abbrev r_X12_holds : Room := { frames := 1, cells := 0, slots := 0, locals := 21 }
def wp_X12_holds (D : wD) (post : Int32 → wS → Prop) (S : wS) (a0 : Nat) : Prop := wp_X12_holds_0 D post S a0
set_option maxHeartbeats 4000000 in
set_option maxRecDepth 100000 in
theorem t_X12_holds_81 {p : Program} {l : Launch} {e : Env} {s : State} {m : MethodId} {args : Array Value} {below : List Frame} {meth : Method} {c : Code} {D : wD} {cy : Nat → ClassId} {X : va_W} {A : Nat → Prop} {S0 : wS} {post : Int32 → wS → Prop} (F : CallFix p m c cX12_holds 4 s args wz_X12_holds RX12) (hr : meth.sig.returnType = (some .boolean)) (hlocks : meth.locks = false) (hK : wK D cy A s) {k_7 : wS → Nat → Int32 → Prop} (q_7 : ∀ {S : wS} {H : Heap} {locs : List Loc} {ls : Array Slot} {a0 : Nat} {x1 : Int32}, k_7 S a0 x1 → wO D cy X A s.heap S H locs → wX D S0 S → lv_has ls 4 [(0, .ref a0), (1, .int x1)] → wM D S a0 → sK S a0 = 17 → W p l e r_X12_holds s m args below meth c H locs 0 0 (MQ below (va_Qi (fun r S9 => wX D S0 S9 ∧ post r S9) (wB D cy X A) A) args s 0 0 A) (F0 m 7 ls [])) : ∀ {S : wS} {H : Heap} {locs : List Loc} {ls : Array Slot} {a0 : Nat} {x1 : Int32}, wp_X12_holds_81 D post k_7 S a0 x1 → wO D cy X A s.heap S H locs → wX D S0 S → lv_has ls 4 [(0, .ref a0), (1, .int x1)] → wM D S a0 → sK S a0 = 17 → W p l e r_X12_holds s m args below meth c H locs 0 0 (MQ below (va_Qi (fun r S9 => wX D S0 S9 ∧ post r S9) (wB D cy X A) A) args s 0 0 A) (F0 m 81 ls []) := by
  obtain ⟨hx, hb, hml, hown, hts⟩ := id F
  have hwg : ∀ w ∈ WG, w.before args s = true := fun w h => hts w (List.mem_cons_of_mem _ h)
  intro S H locs ls a0 x1 hp hW hE hl hL_a0 hK_a0
  unfold wp_X12_holds_81 at hp
  obtain ⟨x_1, ex_1⟩ : ∃ z : Int32, z = x1 + 1 := ⟨_, rfl⟩
  replace hp := hp x_1 ex_1
  refine lv_iinc (v := x_1) (lv' := [(1, .int x_1), (0, .ref a0)]) hx hb dX12_holds_81 hl (k := 1) rfl (by rw [ex_1]; rfl) (by decide) rfl (fun ls hl => ?_)
  refine lv_goto (tgt := 7) hx hb dX12_holds_84 (by decide) ?_
  exact q_7 hp hW hE (lv_sub hl [1, 0] rfl) hL_a0 hK_a0
set_option maxHeartbeats 4000000 in
set_option maxRecDepth 100000 in
theorem t_X12_holds_79 {p : Program} {l : Launch} {e : Env} {s : State} {m : MethodId} {args : Array Value} {below : List Frame} {meth : Method} {c : Code} {D : wD} {cy : Nat → ClassId} {X : va_W} {A : Nat → Prop} {S0 : wS} {post : Int32 → wS → Prop} (F : CallFix p m c cX12_holds 4 s args wz_X12_holds RX12) (hr : meth.sig.returnType = (some .boolean)) (hlocks : meth.locks = false) (hK : wK D cy A s) : ∀ {S : wS} {H : Heap} {locs : List Loc} {ls : Array Slot}, wp_X12_holds_79 D post S → wO D cy X A s.heap S H locs → wX D S0 S → lv_has ls 4 [] → W p l e r_X12_holds s m args below meth c H locs 0 0 (MQ below (va_Qi (fun r S9 => wX D S0 S9 ∧ post r S9) (wB D cy X A) A) args s 0 0 A) (F0 m 79 ls []) := by
  obtain ⟨hx, hb, hml, hown, hts⟩ := id F
  have hwg : ∀ w ∈ WG, w.before args s = true := fun w h => hts w (List.mem_cons_of_mem _ h)
  intro S H locs ls hp hW hE hl
  unfold wp_X12_holds_79 at hp
  refine lv_iconst (v := 0) hx hb dX12_holds_79 (by decide) ?_
  exact w_zret hx hb hr hlocks hW hp.1 ⟨hE, hp.2⟩ dX12_holds_80
set_option maxHeartbeats 4000000 in
set_option maxRecDepth 100000 in
theorem t_X12_holds_7 {p : Program} {l : Launch} {e : Env} {s : State} {m : MethodId} {args : Array Value} {below : List Frame} {meth : Method} {c : Code} {D : wD} {cy : Nat → ClassId} {X : va_W} {A : Nat → Prop} {S0 : wS} {post : Int32 → wS → Prop} (F : CallFix p m c cX12_holds 4 s args wz_X12_holds RX12) (hr : meth.sig.returnType = (some .boolean)) (hlocks : meth.locks = false) (hK : wK D cy A s) : ∀ (n : Nat) {S : wS} {H : Heap} {locs : List Loc} {ls : Array Slot} {a0 : Nat} {x1 : Int32}, wp_X12_holds_7 D post n S a0 x1 → wO D cy X A s.heap S H locs → wX D S0 S → lv_has ls 4 [(0, .ref a0), (1, .int x1)] → wM D S a0 → sK S a0 = 17 → W p l e r_X12_holds s m args below meth c H locs 0 0 (MQ below (va_Qi (fun r S9 => wX D S0 S9 ∧ post r S9) (wB D cy X A) A) args s 0 0 A) (F0 m 7 ls []) := by
  obtain ⟨hx, hb, hml, hown, hts⟩ := id F
  have hwg : ∀ w ∈ WG, w.before args s = true := fun w h => hts w (List.mem_cons_of_mem _ h)
  have i_17 : ∀ w ∈ u_ws RX12 TX12 43, w ∈ wz_X12_holds := fun w h => List.mem_cons_of_mem _ (wu_17 w h)
  have k_32 := hwg _ wf_RX12_32
  have k_97 := hwg _ wf_RX12_97
  intro n
  induction n with
  | zero =>
    intro S H locs ls a0 x1 hp
    exact hp.elim
  | succ n ih =>
    intro S H locs ls a0 x1 hp hW hE hl hL_a0 hK_a0
    unfold wp_X12_holds_7 at hp
    refine lv_iload_n hx hb dX12_holds_7 rfl (lv_at hl 1 rfl) ?_
    refine lv_aload_n hx hb dX12_holds_8 rfl (lv_at hl 0 rfl) ?_
    refine w_callI (va_runV (As := []) (rest := [.int x1]) F (c_X12_squares l hL_a0 hK_a0 hp H.size) (cwV (C := RX12) 0 hts (wg_V wm_RX12_113 wy_X12_squares) rfl rfl rfl (by decide +kernel) ⟨Nat.le_of_ble_eq_true rfl, Nat.le_of_ble_eq_true rfl⟩) (w_preV hK hW hL_a0 hK_a0 (by decide) rfl) rfl rfl hl.1 rfl (lv_room (Nat.le_of_ble_eq_true rfl)) dX12_holds_9 ⟨Nat.le_of_ble_eq_true rfl, Nat.le_of_ble_eq_true rfl⟩) hW (fun r_1 S_2 H locs hp hW => ?_)
    obtain ⟨hX_S_2, hp⟩ := hp
    refine W.widen (k := 0) (n := 0) (by decide) (by decide) ?_
    have hE := hE.trans hX_S_2
    have hK_a0 : sK S_2 a0 = 17 := (hX_S_2.2 a0 hL_a0).1.trans hK_a0
    have hL_a0 : wM D S_2 a0 := hX_S_2.M hL_a0
    refine lv_icmp_ge (tgt := 87) hx hb dX12_holds_12 (by decide) (fun c_3 => ?_) (fun c_3 => ?_)
    · replace hp := hp.1 c_3
      refine lv_iconst (v := 1) hx hb dX12_holds_87 (by decide) ?_
      exact w_zret hx hb hr hlocks hW hp.1 ⟨hE, hp.2⟩ dX12_holds_88
    · replace hp := hp.2 c_3
      refine lv_aload_n hx hb dX12_holds_15 rfl (lv_at hl 0 rfl) ?_
      obtain ⟨y_4, ey_4, hL_y_4, hK_y_4, hp⟩ := hp
      refine w_get (k := 17) (f := 8) (T := TX12) (v := .ref y_4) F hK hW hL_a0 hK_a0 (by decide) rfl rfl (by decide) i_17 k_32 (by rw [show wv 17 8 S_2 a0 = va_rf (sR S_2 a0 8) from rfl, ey_4]; rfl) dX12_holds_16 ?_
      refine lv_aload_n hx hb dX12_holds_19 rfl (lv_at hl 0 rfl) ?_
      refine w_callI (va_runV (As := []) (rest := [.ref y_4]) F (c_X12_presentAt l hL_a0 hK_a0 hp H.size) (cwV (C := RX12) 0 hts (wg_V wm_RX12_127 wy_X12_presentAt) rfl rfl rfl (by decide +kernel) ⟨Nat.le_of_ble_eq_true rfl, Nat.le_of_ble_eq_true rfl⟩) (w_preV hK hW hL_a0 hK_a0 (by decide) rfl) rfl rfl hl.1 rfl (lv_room (Nat.le_of_ble_eq_true rfl)) dX12_holds_20 ⟨Nat.le_of_ble_eq_true rfl, Nat.le_of_ble_eq_true rfl⟩) hW (fun r_5 S_6 H locs hp hW => ?_)
      obtain ⟨hX_S_6, hp⟩ := hp
      refine W.widen (k := 0) (n := 0) (by decide) (by decide) ?_
      have hE := hE.trans hX_S_6
      have hK_a0 : sK S_6 a0 = 17 := (hX_S_6.2 a0 hL_a0).1.trans hK_a0
      have hL_a0 : wM D S_6 a0 := hX_S_6.M hL_a0
      have hK_y_4 : sK S_6 y_4 = 21 := (hX_S_6.2 y_4 hL_y_4).1.trans hK_y_4
      have hL_y_4 : wM D S_6 y_4 := hX_S_6.M hL_y_4
      refine lv_iload_n hx hb dX12_holds_23 rfl (lv_at hl 1 rfl) ?_
      refine lv_iadd hx hb dX12_holds_24 ?_
      obtain ⟨h_7, hp⟩ := hp
      refine w_ild F hK hW hL_y_4 hK_y_4 h_7 dX12_holds_25 ?_
      refine lv_topi (fun x_8 ex_8 => ?_)
      replace hp := hp x_8 ex_8
      refine lv_istore_n (lv' := [(2, .int x_8), (0, .ref a0), (1, .int x1)]) hx hb dX12_holds_26 rfl hl (by decide) rfl (fun ls hl => ?_)
      refine lv_aload_n hx hb dX12_holds_27 rfl (lv_at hl 1 rfl) ?_
      obtain ⟨y_9, ey_9, hL_y_9, hK_y_9, hp⟩ := hp
      refine w_get (k := 17) (f := 40) (T := TX12) (v := .ref y_9) F hK hW hL_a0 hK_a0 (by decide) rfl rfl (by decide) i_17 k_97 (by rw [show wv 17 40 S_6 a0 = va_rf (sR S_6 a0 40) from rfl, ey_9]; rfl) dX12_holds_28 ?_
      refine lv_iload_n hx hb dX12_holds_31 rfl (lv_at hl 2 rfl) ?_
      obtain ⟨h_10, hp⟩ := hp
      refine w_ild F hK hW hL_y_9 hK_y_9 h_10 dX12_holds_32 ?_
      refine lv_topi (fun x_11 ex_11 => ?_)
      replace hp := hp x_11 ex_11
      refine lv_istore_n (lv' := [(3, .int x_11), (2, .int x_8), (0, .ref a0), (1, .int x1)]) hx hb dX12_holds_33 rfl hl (by decide) rfl (fun ls hl => ?_)
      refine lv_iload_n hx hb dX12_holds_34 rfl (lv_at hl 0 rfl) ?_
      refine lv_bipush (v := 15) hx hb dX12_holds_35 (by decide) ?_
      refine lv_icmp_eq (tgt := 81) hx hb dX12_holds_37 (by decide) (fun c_12 => ?_) (fun c_12 => ?_)
      · replace hp := hp.1 c_12
        exact t_X12_holds_81 F hr hlocks hK ih hp hW hE (lv_sub hl [2, 3] rfl) hL_a0 hK_a0
      · replace hp := hp.2 c_12
        refine lv_iload_n hx hb dX12_holds_40 rfl (lv_at hl 0 rfl) ?_
        refine lv_bipush (v := 13) hx hb dX12_holds_41 (by decide) ?_
        refine lv_icmp_ne (tgt := 57) hx hb dX12_holds_43 (by decide) (fun c_13 => ?_) (fun c_13 => ?_)
        · replace hp := hp.1 c_13
          refine lv_iload_n hx hb dX12_holds_57 rfl (lv_at hl 0 rfl) ?_
          refine lv_bipush (v := 14) hx hb dX12_holds_58 (by decide) ?_
          refine lv_icmp_ne (tgt := 74) hx hb dX12_holds_60 (by decide) (fun c_14 => ?_) (fun c_14 => ?_)
          · replace hp := hp.1 c_14
            refine lv_iload_n hx hb dX12_holds_74 rfl (lv_at hl 0 rfl) ?_
            refine lv_iload_n hx hb dX12_holds_75 rfl (lv_at hl 1 rfl) ?_
            refine lv_icmp_eq (tgt := 81) hx hb dX12_holds_76 (by decide) (fun c_15 => ?_) (fun c_15 => ?_)
            · replace hp := hp.1 c_15
              exact t_X12_holds_81 F hr hlocks hK ih hp hW hE (lv_sub hl [2, 3] rfl) hL_a0 hK_a0
            · replace hp := hp.2 c_15
              exact t_X12_holds_79 F hr hlocks hK hp hW hE (lv_sub hl [] rfl)
          · replace hp := hp.2 c_14
            refine lv_iload_n hx hb dX12_holds_63 rfl (lv_at hl 1 rfl) ?_
            refine lv_iconst (v := 0) hx hb dX12_holds_64 (by decide) ?_
            refine w_callI (va_runS (As := [.int x_8, .int (0 : Int32)]) (rest := []) F (c_X12_isOf l hp H.size) (va_cwS 2 hts (wg_S wm_RX12_154 wy_X12_isOf) rfl rfl rfl (by decide +kernel) ⟨Nat.le_of_ble_eq_true rfl, Nat.le_of_ble_eq_true rfl⟩) (w_preS hK hW) rfl rfl hl.1 rfl (lv_room (Nat.le_of_ble_eq_true rfl)) dX12_holds_65 ⟨Nat.le_of_ble_eq_true rfl, Nat.le_of_ble_eq_true rfl⟩) hW (fun r_16 S_17 H locs hp hW => ?_)
            obtain ⟨hX_S_17, hp⟩ := hp
            refine W.widen (k := 0) (n := 0) (by decide) (by decide) ?_
            have hE := hE.trans hX_S_17
            have hK_a0 : sK S_17 a0 = 17 := (hX_S_17.2 a0 hL_a0).1.trans hK_a0
            have hL_a0 : wM D S_17 a0 := hX_S_17.M hL_a0
            refine lv_if_eq (tgt := 79) hx hb dX12_holds_68 (by decide) (fun c_18 => ?_) (fun c_18 => ?_)
            · replace hp := hp.1 c_18
              exact t_X12_holds_79 F hr hlocks hK hp hW hE (lv_sub hl [] rfl)
            · replace hp := hp.2 c_18
              refine lv_goto (tgt := 81) hx hb dX12_holds_71 (by decide) ?_
              exact t_X12_holds_81 F hr hlocks hK ih hp hW hE (lv_sub hl [2, 3] rfl) hL_a0 hK_a0
        · replace hp := hp.2 c_13
          refine lv_iload_n hx hb dX12_holds_46 rfl (lv_at hl 1 rfl) ?_
          refine lv_iconst (v := 1) hx hb dX12_holds_47 (by decide) ?_
          refine w_callI (va_runS (As := [.int x_8, .int (1 : Int32)]) (rest := []) F (c_X12_isOf l hp H.size) (va_cwS 2 hts (wg_S wm_RX12_154 wy_X12_isOf) rfl rfl rfl (by decide +kernel) ⟨Nat.le_of_ble_eq_true rfl, Nat.le_of_ble_eq_true rfl⟩) (w_preS hK hW) rfl rfl hl.1 rfl (lv_room (Nat.le_of_ble_eq_true rfl)) dX12_holds_48 ⟨Nat.le_of_ble_eq_true rfl, Nat.le_of_ble_eq_true rfl⟩) hW (fun r_19 S_20 H locs hp hW => ?_)
          obtain ⟨hX_S_20, hp⟩ := hp
          refine W.widen (k := 0) (n := 0) (by decide) (by decide) ?_
          have hE := hE.trans hX_S_20
          have hK_a0 : sK S_20 a0 = 17 := (hX_S_20.2 a0 hL_a0).1.trans hK_a0
          have hL_a0 : wM D S_20 a0 := hX_S_20.M hL_a0
          refine lv_if_eq (tgt := 79) hx hb dX12_holds_51 (by decide) (fun c_21 => ?_) (fun c_21 => ?_)
          · replace hp := hp.1 c_21
            exact t_X12_holds_79 F hr hlocks hK hp hW hE (lv_sub hl [] rfl)
          · replace hp := hp.2 c_21
            refine lv_goto (tgt := 81) hx hb dX12_holds_54 (by decide) ?_
            exact t_X12_holds_81 F hr hlocks hK ih hp hW hE (lv_sub hl [2, 3] rfl) hL_a0 hK_a0
set_option maxHeartbeats 4000000 in
set_option maxRecDepth 100000 in
theorem t_X12_holds_0 {p : Program} {l : Launch} {e : Env} {s : State} {m : MethodId} {args : Array Value} {below : List Frame} {meth : Method} {c : Code} {D : wD} {cy : Nat → ClassId} {X : va_W} {A : Nat → Prop} {S0 : wS} {post : Int32 → wS → Prop} (F : CallFix p m c cX12_holds 4 s args wz_X12_holds RX12) (hr : meth.sig.returnType = (some .boolean)) (hlocks : meth.locks = false) (hK : wK D cy A s) : ∀ {S : wS} {H : Heap} {locs : List Loc} {ls : Array Slot} {a0 : Nat}, wp_X12_holds_0 D post S a0 → wO D cy X A s.heap S H locs → wX D S0 S → lv_has ls 4 [(0, .ref a0)] → wM D S a0 → sK S a0 = 17 → W p l e r_X12_holds s m args below meth c H locs 0 0 (MQ below (va_Qi (fun r S9 => wX D S0 S9 ∧ post r S9) (wB D cy X A) A) args s 0 0 A) (F0 m 0 ls []) := by
  obtain ⟨hx, hb, hml, hown, hts⟩ := id F
  have hwg : ∀ w ∈ WG, w.before args s = true := fun w h => hts w (List.mem_cons_of_mem _ h)
  have i_17 : ∀ w ∈ u_ws RX12 TX12 43, w ∈ wz_X12_holds := fun w h => List.mem_cons_of_mem _ (wu_17 w h)
  have k_110 := hwg _ wf_RX12_110
  intro S H locs ls a0 hp hW hE hl hL_a0 hK_a0
  unfold wp_X12_holds_0 at hp
  refine lv_aload_n hx hb dX12_holds_0 rfl (lv_at hl 0 rfl) ?_
  refine lv_iconst (v := 0) hx hb dX12_holds_1 (by decide) ?_
  refine w_putI (k := 17) (f := 0) (T := TX12) F hK hW hL_a0 hK_a0 (by decide) (by decide) rfl rfl (by decide) i_17 tyX12 tyX12_ok nmX12 k_110 rfl rfl (ty := .int) rfl rfl rfl dX12_holds_2 (fun H locs hW => ?_)
  obtain ⟨S_1, eS_1⟩ : ∃ z : wS, z = uI S a0 0 (0 : Int32) := ⟨_, rfl⟩
  rw [← eS_1] at hW
  replace hp := hp S_1 eS_1
  have hX_S_1 : wX D S S_1 := by rw [eS_1]; exact wX_uI
  have hE := hE.trans hX_S_1
  have hK_a0 : sK S_1 a0 = 17 := (hX_S_1.2 a0 hL_a0).1.trans hK_a0
  have hL_a0 : wM D S_1 a0 := hX_S_1.M hL_a0
  refine lv_iconst (v := 0) hx hb dX12_holds_5 (by decide) ?_
  refine lv_istore_n (lv' := [(1, .int (0 : Int32)), (0, .ref a0)]) hx hb dX12_holds_6 rfl hl (by decide) rfl (fun ls hl => ?_)
  obtain ⟨n_2, hp⟩ := hp
  exact t_X12_holds_7 F hr hlocks hK n_2 hp hW hE (lv_sub hl [1, 0] rfl) hL_a0 hK_a0
set_option maxHeartbeats 4000000 in
set_option maxRecDepth 100000 in
theorem c_X12_holds (l : Launch) {D : wD} {cy : Nat → ClassId} {X : va_W} {S0 : wS} {post : Int32 → wS → Prop} {a0 : Nat} (hL_a0 : wM D S0 a0) (hK_a0 : sK S0 a0 = 17) (hp : wp_X12_holds D post S0 a0) : mI D cy X l yX12_holds wz_X12_holds r_X12_holds [.ref a0] S0 (fun r S9 => wX D S0 S9 ∧ post r S9) := by
  intro sz
  refine Met.ofW (cc := cX12_holds) (maxL := 4) (ret := (some .boolean)) (by decide) rfl ?_
  intro p e s m args below meth c s₁ B hml hv
  obtain ⟨rfl, hsz, hP, hK, hD0, hRO⟩ := hv
  have hts := atoms_spec (ws := wz_X12_holds) B.pre
  have hown : s.vm.findClass RX12 = some m.cls := findClass_of_methodNamed B.named
  subst hsz
  have hD := hD0.self (sz := s.heap.size)
  have F : CallFix p m c cX12_holds 4 s _ wz_X12_holds RX12 := ⟨B.exec, B.bytes, hml, hown, hts⟩
  have hr := B.returns
  have hlocks := B.notSynchronized
  generalize hAe : va_A (wL cy X S0) s.heap.size = A at hD hK ⊢
  have hA : ∀ q, s.heap.size ≤ q → A q := fun q h => by rw [← hAe]; exact Or.inr h
  have hW : wO D cy X A s.heap S0 s.heap [] := ⟨hP, hD, va_S.rf, hA, hRO⟩
  have hl := lv_entry ([.ref a0]) (n := 4) (Nat.le_of_ble_eq_true rfl)
  rw [lg_entry_eq]
  generalize (lg_sl ([.ref a0]) ++ List.replicate (4 - (lg_sl ([.ref a0])).length) Slot.unset).toArray = ls at hl ⊢
  have hl : lv_has ls 4 [(0, .ref a0)] := hl
  unfold wp_X12_holds at hp
  exact t_X12_holds_0 F hr hlocks hK hp hW wX.rf (lv_sub hl [0] rfl) hL_a0 hK_a0
def wp_X12_resets_85 (D : wD) (post : wS → Prop)  : Nat → wS → Nat → Int32 → Prop
  | 0, _, _, _ => False
  | n + 1, S, a0, x1 =>
    (((6 : Int32) ≤ x1 → post S) ∧
     (¬ (6 : Int32) ≤ x1 → ∃ y_2 : Nat, sR S a0 42 = some y_2 ∧ wM D S y_2 ∧ sK S y_2 = 23 ∧
    y_2 ∈ sL S ∧ vp_in x1 (sN S y_2) ∧
    ∀ S_4 : wS, S_4 = uI S y_2 (x1).toNatClampNeg (vp_nar .boolean (0 : Int32)) →
    ∀ x_5 : Int32, x_5 = x1 + 1 →
    wp_X12_resets_85 D post n S_4 a0 x_5))
def wp_X12_resets_63 (D : wD) (post : wS → Prop)  : Nat → wS → Nat → Int32 → Prop
  | 0, _, _, _ => False
  | n + 1, S, a0, x1 =>
    (((64 : Int32) ≤ x1 → ∃ n_2 : Nat, wp_X12_resets_85 D post n_2 S a0 (0 : Int32)) ∧
     (¬ (64 : Int32) ≤ x1 → ∃ y_3 : Nat, sR S a0 40 = some y_3 ∧ wM D S y_3 ∧ sK S y_3 = 21 ∧
    y_3 ∈ sL S ∧ vp_in x1 (sN S y_3) ∧
    ∀ S_5 : wS, S_5 = uI S y_3 (x1).toNatClampNeg (15 : Int32) →
    ∀ x_6 : Int32, x_6 = x1 + 1 →
    wp_X12_resets_63 D post n S_5 a0 x_6))
def wp_X12_resets_2 (D : wD) (post : wS → Prop)  : Nat → wS → Nat → Int32 → Prop
  | 0, _, _, _ => False
  | n + 1, S, a0, x1 =>
    (((67 : Int32) ≤ x1 → ∃ y_2 : Nat, sR S a0 8 = some y_2 ∧ wM D S y_2 ∧ sK S y_2 = 21 ∧
    y_2 ∈ sL S ∧ vp_in (64 : Int32) (sN S y_2) ∧
    ∀ S_4 : wS, S_4 = uI S y_2 ((64 : Int32)).toNatClampNeg (1 : Int32) →
    ∃ y_5 : Nat, sR S_4 a0 8 = some y_5 ∧ wM D S_4 y_5 ∧ sK S_4 y_5 = 21 ∧
    y_5 ∈ sL S_4 ∧ vp_in (66 : Int32) (sN S_4 y_5) ∧
    ∀ S_7 : wS, S_7 = uI S_4 y_5 ((66 : Int32)).toNatClampNeg (-1 : Int32) →
    ∀ S_8 : wS, S_8 = uI S_7 a0 11 (0 : Int32) →
    ∃ y_9 : Nat, sR S_8 a0 30 = some y_9 ∧ wM D S_8 y_9 ∧ sK S_8 y_9 = 21 ∧
    y_9 ∈ sL S_8 ∧ vp_in (0 : Int32) (sN S_8 y_9) ∧
    ∀ S_11 : wS, S_11 = uI S_8 y_9 ((0 : Int32)).toNatClampNeg (0 : Int32) →
    ∃ y_12 : Nat, sR S_11 a0 30 = some y_12 ∧ wM D S_11 y_12 ∧ sK S_11 y_12 = 21 ∧
    y_12 ∈ sL S_11 ∧ vp_in (1 : Int32) (sN S_11 y_12) ∧
    ∀ S_14 : wS, S_14 = uI S_11 y_12 ((1 : Int32)).toNatClampNeg (0 : Int32) →
    ∀ S_15 : wS, S_15 = uI S_14 a0 39 (0 : Int32) →
    ∃ n_16 : Nat, wp_X12_resets_63 D post n_16 S_15 a0 (0 : Int32)) ∧
     (¬ (67 : Int32) ≤ x1 → ∃ y_17 : Nat, sR S a0 8 = some y_17 ∧ wM D S y_17 ∧ sK S y_17 = 21 ∧
    y_17 ∈ sL S ∧ vp_in x1 (sN S y_17) ∧
    ∀ S_19 : wS, S_19 = uI S y_17 (x1).toNatClampNeg (0 : Int32) →
    ∀ x_20 : Int32, x_20 = x1 + 1 →
    wp_X12_resets_2 D post n S_19 a0 x_20))
def wp_X12_resets_0 (D : wD) (post : wS → Prop)  (S : wS) (a0 : Nat) : Prop :=
∃ n_1 : Nat, wp_X12_resets_2 D post n_1 S a0 (0 : Int32)
abbrev r_X12_resets : Room := { frames := 0, cells := 0, slots := 0, locals := 0 }
def wp_X12_resets (D : wD) (post : wS → Prop) (S : wS) (a0 : Nat) : Prop := wp_X12_resets_0 D post S a0
set_option maxHeartbeats 4000000 in
set_option maxRecDepth 100000 in
theorem t_X12_resets_85 {p : Program} {l : Launch} {e : Env} {s : State} {m : MethodId} {args : Array Value} {below : List Frame} {meth : Method} {c : Code} {D : wD} {cy : Nat → ClassId} {X : va_W} {A : Nat → Prop} {S0 : wS} {post : wS → Prop} (F : CallFix p m c cX12_resets 2 s args wz_X12_resets RX12) (hr : meth.sig.returnType = none) (hlocks : meth.locks = false) (hK : wK D cy A s) : ∀ (n : Nat) {S : wS} {H : Heap} {locs : List Loc} {ls : Array Slot} {a0 : Nat} {x1 : Int32}, wp_X12_resets_85 D post n S a0 x1 → wO D cy X A s.heap S H locs → wX D S0 S → lv_has ls 2 [(0, .ref a0), (1, .int x1)] → wM D S a0 → sK S a0 = 17 → W p l e r_X12_resets s m args below meth c H locs 0 0 (MQ below (va_Qv (fun S9 => wX D S0 S9 ∧ post S9) (wB D cy X A) A) args s 0 0 A) (F0 m 85 ls []) := by
  obtain ⟨hx, hb, hml, hown, hts⟩ := id F
  have hwg : ∀ w ∈ WG, w.before args s = true := fun w h => hts w (List.mem_cons_of_mem _ h)
  have i_17 : ∀ w ∈ u_ws RX12 TX12 43, w ∈ wz_X12_resets := fun w h => List.mem_cons_of_mem _ (wu_17 w h)
  have k_104 := hwg _ wf_RX12_104
  intro n
  induction n with
  | zero =>
    intro S H locs ls a0 x1 hp
    exact hp.elim
  | succ n ih =>
    intro S H locs ls a0 x1 hp hW hE hl hL_a0 hK_a0
    unfold wp_X12_resets_85 at hp
    refine lv_iload_n hx hb dX12_resets_85 rfl (lv_at hl 1 rfl) ?_
    refine lv_bipush (v := 6) hx hb dX12_resets_86 (by decide) ?_
    refine lv_icmp_ge (tgt := 104) hx hb dX12_resets_88 (by decide) (fun c_1 => ?_) (fun c_1 => ?_)
    · replace hp := hp.1 c_1
      exact w_vret hx hb hr hlocks hW ⟨hE, hp⟩ dX12_resets_104
    · replace hp := hp.2 c_1
      refine lv_aload_n hx hb dX12_resets_91 rfl (lv_at hl 0 rfl) ?_
      obtain ⟨y_2, ey_2, hL_y_2, hK_y_2, hp⟩ := hp
      refine w_get (k := 17) (f := 42) (T := TX12) (v := .ref y_2) F hK hW hL_a0 hK_a0 (by decide) rfl rfl (by decide) i_17 k_104 (by rw [show wv 17 42 S a0 = va_rf (sR S a0 42) from rfl, ey_2]; rfl) dX12_resets_92 ?_
      refine lv_iload_n hx hb dX12_resets_95 rfl (lv_at hl 1 rfl) ?_
      refine lv_iconst (v := 0) hx hb dX12_resets_96 (by decide) ?_
      obtain ⟨h_3m, h_3, hp⟩ := hp
      refine w_zst F hK hW h_3m hK_y_2 h_3 dX12_resets_97 (fun H locs hW => ?_)
      obtain ⟨S_4, eS_4⟩ : ∃ z : wS, z = uI S y_2 (x1).toNatClampNeg (vp_nar .boolean (0 : Int32)) := ⟨_, rfl⟩
      rw [← eS_4] at hW
      replace hp := hp S_4 eS_4
      have hX_S_4 : wX D S S_4 := by rw [eS_4]; exact wX_uI
      have hE := hE.trans hX_S_4
      have hK_a0 : sK S_4 a0 = 17 := (hX_S_4.2 a0 hL_a0).1.trans hK_a0
      have hL_a0 : wM D S_4 a0 := hX_S_4.M hL_a0
      obtain ⟨x_5, ex_5⟩ : ∃ z : Int32, z = x1 + 1 := ⟨_, rfl⟩
      replace hp := hp x_5 ex_5
      refine lv_iinc (v := x_5) (lv' := [(1, .int x_5), (0, .ref a0)]) hx hb dX12_resets_98 hl (k := 1) rfl (by rw [ex_5]; rfl) (by decide) rfl (fun ls hl => ?_)
      refine lv_goto (tgt := 85) hx hb dX12_resets_101 (by decide) ?_
      exact ih hp hW hE (lv_sub hl [1, 0] rfl) hL_a0 hK_a0
set_option maxHeartbeats 4000000 in
set_option maxRecDepth 100000 in
theorem t_X12_resets_63 {p : Program} {l : Launch} {e : Env} {s : State} {m : MethodId} {args : Array Value} {below : List Frame} {meth : Method} {c : Code} {D : wD} {cy : Nat → ClassId} {X : va_W} {A : Nat → Prop} {S0 : wS} {post : wS → Prop} (F : CallFix p m c cX12_resets 2 s args wz_X12_resets RX12) (hr : meth.sig.returnType = none) (hlocks : meth.locks = false) (hK : wK D cy A s) : ∀ (n : Nat) {S : wS} {H : Heap} {locs : List Loc} {ls : Array Slot} {a0 : Nat} {x1 : Int32}, wp_X12_resets_63 D post n S a0 x1 → wO D cy X A s.heap S H locs → wX D S0 S → lv_has ls 2 [(0, .ref a0), (1, .int x1)] → wM D S a0 → sK S a0 = 17 → W p l e r_X12_resets s m args below meth c H locs 0 0 (MQ below (va_Qv (fun S9 => wX D S0 S9 ∧ post S9) (wB D cy X A) A) args s 0 0 A) (F0 m 63 ls []) := by
  obtain ⟨hx, hb, hml, hown, hts⟩ := id F
  have hwg : ∀ w ∈ WG, w.before args s = true := fun w h => hts w (List.mem_cons_of_mem _ h)
  have i_17 : ∀ w ∈ u_ws RX12 TX12 43, w ∈ wz_X12_resets := fun w h => List.mem_cons_of_mem _ (wu_17 w h)
  have k_97 := hwg _ wf_RX12_97
  intro n
  induction n with
  | zero =>
    intro S H locs ls a0 x1 hp
    exact hp.elim
  | succ n ih =>
    intro S H locs ls a0 x1 hp hW hE hl hL_a0 hK_a0
    unfold wp_X12_resets_63 at hp
    refine lv_iload_n hx hb dX12_resets_63 rfl (lv_at hl 1 rfl) ?_
    refine lv_bipush (v := 64) hx hb dX12_resets_64 (by decide) ?_
    refine lv_icmp_ge (tgt := 83) hx hb dX12_resets_66 (by decide) (fun c_1 => ?_) (fun c_1 => ?_)
    · replace hp := hp.1 c_1
      refine lv_iconst (v := 0) hx hb dX12_resets_83 (by decide) ?_
      refine lv_istore_n (lv' := [(1, .int (0 : Int32)), (0, .ref a0)]) hx hb dX12_resets_84 rfl hl (by decide) rfl (fun ls hl => ?_)
      obtain ⟨n_2, hp⟩ := hp
      exact t_X12_resets_85 F hr hlocks hK n_2 hp hW hE (lv_sub hl [1, 0] rfl) hL_a0 hK_a0
    · replace hp := hp.2 c_1
      refine lv_aload_n hx hb dX12_resets_69 rfl (lv_at hl 0 rfl) ?_
      obtain ⟨y_3, ey_3, hL_y_3, hK_y_3, hp⟩ := hp
      refine w_get (k := 17) (f := 40) (T := TX12) (v := .ref y_3) F hK hW hL_a0 hK_a0 (by decide) rfl rfl (by decide) i_17 k_97 (by rw [show wv 17 40 S a0 = va_rf (sR S a0 40) from rfl, ey_3]; rfl) dX12_resets_70 ?_
      refine lv_iload_n hx hb dX12_resets_73 rfl (lv_at hl 1 rfl) ?_
      refine lv_bipush (v := 15) hx hb dX12_resets_74 (by decide) ?_
      obtain ⟨h_4m, h_4, hp⟩ := hp
      refine w_ist F hK hW h_4m hK_y_3 h_4 dX12_resets_76 (fun H locs hW => ?_)
      obtain ⟨S_5, eS_5⟩ : ∃ z : wS, z = uI S y_3 (x1).toNatClampNeg (15 : Int32) := ⟨_, rfl⟩
      rw [← eS_5] at hW
      replace hp := hp S_5 eS_5
      have hX_S_5 : wX D S S_5 := by rw [eS_5]; exact wX_uI
      have hE := hE.trans hX_S_5
      have hK_a0 : sK S_5 a0 = 17 := (hX_S_5.2 a0 hL_a0).1.trans hK_a0
      have hL_a0 : wM D S_5 a0 := hX_S_5.M hL_a0
      obtain ⟨x_6, ex_6⟩ : ∃ z : Int32, z = x1 + 1 := ⟨_, rfl⟩
      replace hp := hp x_6 ex_6
      refine lv_iinc (v := x_6) (lv' := [(1, .int x_6), (0, .ref a0)]) hx hb dX12_resets_77 hl (k := 1) rfl (by rw [ex_6]; rfl) (by decide) rfl (fun ls hl => ?_)
      refine lv_goto (tgt := 63) hx hb dX12_resets_80 (by decide) ?_
      exact ih hp hW hE (lv_sub hl [1, 0] rfl) hL_a0 hK_a0
set_option maxHeartbeats 4000000 in
set_option maxRecDepth 100000 in
theorem t_X12_resets_2 {p : Program} {l : Launch} {e : Env} {s : State} {m : MethodId} {args : Array Value} {below : List Frame} {meth : Method} {c : Code} {D : wD} {cy : Nat → ClassId} {X : va_W} {A : Nat → Prop} {S0 : wS} {post : wS → Prop} (F : CallFix p m c cX12_resets 2 s args wz_X12_resets RX12) (hr : meth.sig.returnType = none) (hlocks : meth.locks = false) (hK : wK D cy A s) : ∀ (n : Nat) {S : wS} {H : Heap} {locs : List Loc} {ls : Array Slot} {a0 : Nat} {x1 : Int32}, wp_X12_resets_2 D post n S a0 x1 → wO D cy X A s.heap S H locs → wX D S0 S → lv_has ls 2 [(0, .ref a0), (1, .int x1)] → wM D S a0 → sK S a0 = 17 → W p l e r_X12_resets s m args below meth c H locs 0 0 (MQ below (va_Qv (fun S9 => wX D S0 S9 ∧ post S9) (wB D cy X A) A) args s 0 0 A) (F0 m 2 ls []) := by
  obtain ⟨hx, hb, hml, hown, hts⟩ := id F
  have hwg : ∀ w ∈ WG, w.before args s = true := fun w h => hts w (List.mem_cons_of_mem _ h)
  have i_17 : ∀ w ∈ u_ws RX12 TX12 43, w ∈ wz_X12_resets := fun w h => List.mem_cons_of_mem _ (wu_17 w h)
  have k_121 := hwg _ wf_RX12_121
  have k_124 := hwg _ wf_RX12_124
  have k_32 := hwg _ wf_RX12_32
  have k_69 := hwg _ wf_RX12_69
  intro n
  induction n with
  | zero =>
    intro S H locs ls a0 x1 hp
    exact hp.elim
  | succ n ih =>
    intro S H locs ls a0 x1 hp hW hE hl hL_a0 hK_a0
    unfold wp_X12_resets_2 at hp
    refine lv_iload_n hx hb dX12_resets_2 rfl (lv_at hl 1 rfl) ?_
    refine lv_bipush (v := 67) hx hb dX12_resets_3 (by decide) ?_
    refine lv_icmp_ge (tgt := 21) hx hb dX12_resets_5 (by decide) (fun c_1 => ?_) (fun c_1 => ?_)
    · replace hp := hp.1 c_1
      refine lv_aload_n hx hb dX12_resets_21 rfl (lv_at hl 0 rfl) ?_
      obtain ⟨y_2, ey_2, hL_y_2, hK_y_2, hp⟩ := hp
      refine w_get (k := 17) (f := 8) (T := TX12) (v := .ref y_2) F hK hW hL_a0 hK_a0 (by decide) rfl rfl (by decide) i_17 k_32 (by rw [show wv 17 8 S a0 = va_rf (sR S a0 8) from rfl, ey_2]; rfl) dX12_resets_22 ?_
      refine lv_bipush (v := 64) hx hb dX12_resets_25 (by decide) ?_
      refine lv_iconst (v := 1) hx hb dX12_resets_27 (by decide) ?_
      obtain ⟨h_3m, h_3, hp⟩ := hp
      refine w_ist F hK hW h_3m hK_y_2 h_3 dX12_resets_28 (fun H locs hW => ?_)
      obtain ⟨S_4, eS_4⟩ : ∃ z : wS, z = uI S y_2 ((64 : Int32)).toNatClampNeg (1 : Int32) := ⟨_, rfl⟩
      rw [← eS_4] at hW
      replace hp := hp S_4 eS_4
      have hX_S_4 : wX D S S_4 := by rw [eS_4]; exact wX_uI
      have hE := hE.trans hX_S_4
      have hK_a0 : sK S_4 a0 = 17 := (hX_S_4.2 a0 hL_a0).1.trans hK_a0
      have hL_a0 : wM D S_4 a0 := hX_S_4.M hL_a0
      refine lv_aload_n hx hb dX12_resets_29 rfl (lv_at hl 0 rfl) ?_
      obtain ⟨y_5, ey_5, hL_y_5, hK_y_5, hp⟩ := hp
      refine w_get (k := 17) (f := 8) (T := TX12) (v := .ref y_5) F hK hW hL_a0 hK_a0 (by decide) rfl rfl (by decide) i_17 k_32 (by rw [show wv 17 8 S_4 a0 = va_rf (sR S_4 a0 8) from rfl, ey_5]; rfl) dX12_resets_30 ?_
      refine lv_bipush (v := 66) hx hb dX12_resets_33 (by decide) ?_
      refine lv_iconst (v := (-1)) hx hb dX12_resets_35 (by decide) ?_
      obtain ⟨h_6m, h_6, hp⟩ := hp
      refine w_ist F hK hW h_6m hK_y_5 h_6 dX12_resets_36 (fun H locs hW => ?_)
      obtain ⟨S_7, eS_7⟩ : ∃ z : wS, z = uI S_4 y_5 ((66 : Int32)).toNatClampNeg (-1 : Int32) := ⟨_, rfl⟩
      rw [← eS_7] at hW
      replace hp := hp S_7 eS_7
      have hX_S_7 : wX D S_4 S_7 := by rw [eS_7]; exact wX_uI
      have hE := hE.trans hX_S_7
      have hK_a0 : sK S_7 a0 = 17 := (hX_S_7.2 a0 hL_a0).1.trans hK_a0
      have hL_a0 : wM D S_7 a0 := hX_S_7.M hL_a0
      refine lv_aload_n hx hb dX12_resets_37 rfl (lv_at hl 0 rfl) ?_
      refine lv_iconst (v := 0) hx hb dX12_resets_38 (by decide) ?_
      refine w_putI (k := 17) (f := 11) (T := TX12) F hK hW hL_a0 hK_a0 (by decide) (by decide) rfl rfl (by decide) i_17 tyX12 tyX12_ok nmX12 k_121 rfl rfl (ty := .int) rfl rfl rfl dX12_resets_39 (fun H locs hW => ?_)
      obtain ⟨S_8, eS_8⟩ : ∃ z : wS, z = uI S_7 a0 11 (0 : Int32) := ⟨_, rfl⟩
      rw [← eS_8] at hW
      replace hp := hp S_8 eS_8
      have hX_S_8 : wX D S_7 S_8 := by rw [eS_8]; exact wX_uI
      have hE := hE.trans hX_S_8
      have hK_a0 : sK S_8 a0 = 17 := (hX_S_8.2 a0 hL_a0).1.trans hK_a0
      have hL_a0 : wM D S_8 a0 := hX_S_8.M hL_a0
      refine lv_aload_n hx hb dX12_resets_42 rfl (lv_at hl 0 rfl) ?_
      obtain ⟨y_9, ey_9, hL_y_9, hK_y_9, hp⟩ := hp
      refine w_get (k := 17) (f := 30) (T := TX12) (v := .ref y_9) F hK hW hL_a0 hK_a0 (by decide) rfl rfl (by decide) i_17 k_69 (by rw [show wv 17 30 S_8 a0 = va_rf (sR S_8 a0 30) from rfl, ey_9]; rfl) dX12_resets_43 ?_
      refine lv_iconst (v := 0) hx hb dX12_resets_46 (by decide) ?_
      refine lv_iconst (v := 0) hx hb dX12_resets_47 (by decide) ?_
      obtain ⟨h_10m, h_10, hp⟩ := hp
      refine w_ist F hK hW h_10m hK_y_9 h_10 dX12_resets_48 (fun H locs hW => ?_)
      obtain ⟨S_11, eS_11⟩ : ∃ z : wS, z = uI S_8 y_9 ((0 : Int32)).toNatClampNeg (0 : Int32) := ⟨_, rfl⟩
      rw [← eS_11] at hW
      replace hp := hp S_11 eS_11
      have hX_S_11 : wX D S_8 S_11 := by rw [eS_11]; exact wX_uI
      have hE := hE.trans hX_S_11
      have hK_a0 : sK S_11 a0 = 17 := (hX_S_11.2 a0 hL_a0).1.trans hK_a0
      have hL_a0 : wM D S_11 a0 := hX_S_11.M hL_a0
      refine lv_aload_n hx hb dX12_resets_49 rfl (lv_at hl 0 rfl) ?_
      obtain ⟨y_12, ey_12, hL_y_12, hK_y_12, hp⟩ := hp
      refine w_get (k := 17) (f := 30) (T := TX12) (v := .ref y_12) F hK hW hL_a0 hK_a0 (by decide) rfl rfl (by decide) i_17 k_69 (by rw [show wv 17 30 S_11 a0 = va_rf (sR S_11 a0 30) from rfl, ey_12]; rfl) dX12_resets_50 ?_
      refine lv_iconst (v := 1) hx hb dX12_resets_53 (by decide) ?_
      refine lv_iconst (v := 0) hx hb dX12_resets_54 (by decide) ?_
      obtain ⟨h_13m, h_13, hp⟩ := hp
      refine w_ist F hK hW h_13m hK_y_12 h_13 dX12_resets_55 (fun H locs hW => ?_)
      obtain ⟨S_14, eS_14⟩ : ∃ z : wS, z = uI S_11 y_12 ((1 : Int32)).toNatClampNeg (0 : Int32) := ⟨_, rfl⟩
      rw [← eS_14] at hW
      replace hp := hp S_14 eS_14
      have hX_S_14 : wX D S_11 S_14 := by rw [eS_14]; exact wX_uI
      have hE := hE.trans hX_S_14
      have hK_a0 : sK S_14 a0 = 17 := (hX_S_14.2 a0 hL_a0).1.trans hK_a0
      have hL_a0 : wM D S_14 a0 := hX_S_14.M hL_a0
      refine lv_aload_n hx hb dX12_resets_56 rfl (lv_at hl 0 rfl) ?_
      refine lv_iconst (v := 0) hx hb dX12_resets_57 (by decide) ?_
      refine w_putI (k := 17) (f := 39) (T := TX12) F hK hW hL_a0 hK_a0 (by decide) (by decide) rfl rfl (by decide) i_17 tyX12 tyX12_ok nmX12 k_124 rfl rfl (ty := .int) rfl rfl rfl dX12_resets_58 (fun H locs hW => ?_)
      obtain ⟨S_15, eS_15⟩ : ∃ z : wS, z = uI S_14 a0 39 (0 : Int32) := ⟨_, rfl⟩
      rw [← eS_15] at hW
      replace hp := hp S_15 eS_15
      have hX_S_15 : wX D S_14 S_15 := by rw [eS_15]; exact wX_uI
      have hE := hE.trans hX_S_15
      have hK_a0 : sK S_15 a0 = 17 := (hX_S_15.2 a0 hL_a0).1.trans hK_a0
      have hL_a0 : wM D S_15 a0 := hX_S_15.M hL_a0
      refine lv_iconst (v := 0) hx hb dX12_resets_61 (by decide) ?_
      refine lv_istore_n (lv' := [(1, .int (0 : Int32)), (0, .ref a0)]) hx hb dX12_resets_62 rfl hl (by decide) rfl (fun ls hl => ?_)
      obtain ⟨n_16, hp⟩ := hp
      exact t_X12_resets_63 F hr hlocks hK n_16 hp hW hE (lv_sub hl [1, 0] rfl) hL_a0 hK_a0
    · replace hp := hp.2 c_1
      refine lv_aload_n hx hb dX12_resets_8 rfl (lv_at hl 0 rfl) ?_
      obtain ⟨y_17, ey_17, hL_y_17, hK_y_17, hp⟩ := hp
      refine w_get (k := 17) (f := 8) (T := TX12) (v := .ref y_17) F hK hW hL_a0 hK_a0 (by decide) rfl rfl (by decide) i_17 k_32 (by rw [show wv 17 8 S a0 = va_rf (sR S a0 8) from rfl, ey_17]; rfl) dX12_resets_9 ?_
      refine lv_iload_n hx hb dX12_resets_12 rfl (lv_at hl 1 rfl) ?_
      refine lv_iconst (v := 0) hx hb dX12_resets_13 (by decide) ?_
      obtain ⟨h_18m, h_18, hp⟩ := hp
      refine w_ist F hK hW h_18m hK_y_17 h_18 dX12_resets_14 (fun H locs hW => ?_)
      obtain ⟨S_19, eS_19⟩ : ∃ z : wS, z = uI S y_17 (x1).toNatClampNeg (0 : Int32) := ⟨_, rfl⟩
      rw [← eS_19] at hW
      replace hp := hp S_19 eS_19
      have hX_S_19 : wX D S S_19 := by rw [eS_19]; exact wX_uI
      have hE := hE.trans hX_S_19
      have hK_a0 : sK S_19 a0 = 17 := (hX_S_19.2 a0 hL_a0).1.trans hK_a0
      have hL_a0 : wM D S_19 a0 := hX_S_19.M hL_a0
      obtain ⟨x_20, ex_20⟩ : ∃ z : Int32, z = x1 + 1 := ⟨_, rfl⟩
      replace hp := hp x_20 ex_20
      refine lv_iinc (v := x_20) (lv' := [(1, .int x_20), (0, .ref a0)]) hx hb dX12_resets_15 hl (k := 1) rfl (by rw [ex_20]; rfl) (by decide) rfl (fun ls hl => ?_)
      refine lv_goto (tgt := 2) hx hb dX12_resets_18 (by decide) ?_
      exact ih hp hW hE (lv_sub hl [1, 0] rfl) hL_a0 hK_a0
set_option maxHeartbeats 4000000 in
set_option maxRecDepth 100000 in
theorem t_X12_resets_0 {p : Program} {l : Launch} {e : Env} {s : State} {m : MethodId} {args : Array Value} {below : List Frame} {meth : Method} {c : Code} {D : wD} {cy : Nat → ClassId} {X : va_W} {A : Nat → Prop} {S0 : wS} {post : wS → Prop} (F : CallFix p m c cX12_resets 2 s args wz_X12_resets RX12) (hr : meth.sig.returnType = none) (hlocks : meth.locks = false) (hK : wK D cy A s) : ∀ {S : wS} {H : Heap} {locs : List Loc} {ls : Array Slot} {a0 : Nat}, wp_X12_resets_0 D post S a0 → wO D cy X A s.heap S H locs → wX D S0 S → lv_has ls 2 [(0, .ref a0)] → wM D S a0 → sK S a0 = 17 → W p l e r_X12_resets s m args below meth c H locs 0 0 (MQ below (va_Qv (fun S9 => wX D S0 S9 ∧ post S9) (wB D cy X A) A) args s 0 0 A) (F0 m 0 ls []) := by
  obtain ⟨hx, hb, hml, hown, hts⟩ := id F
  have hwg : ∀ w ∈ WG, w.before args s = true := fun w h => hts w (List.mem_cons_of_mem _ h)
  intro S H locs ls a0 hp hW hE hl hL_a0 hK_a0
  unfold wp_X12_resets_0 at hp
  refine lv_iconst (v := 0) hx hb dX12_resets_0 (by decide) ?_
  refine lv_istore_n (lv' := [(1, .int (0 : Int32)), (0, .ref a0)]) hx hb dX12_resets_1 rfl hl (by decide) rfl (fun ls hl => ?_)
  obtain ⟨n_1, hp⟩ := hp
  exact t_X12_resets_2 F hr hlocks hK n_1 hp hW hE (lv_sub hl [1, 0] rfl) hL_a0 hK_a0
set_option maxHeartbeats 4000000 in
set_option maxRecDepth 100000 in
theorem c_X12_resets (l : Launch) {D : wD} {cy : Nat → ClassId} {X : va_W} {S0 : wS} {post : wS → Prop} {a0 : Nat} (hL_a0 : wM D S0 a0) (hK_a0 : sK S0 a0 = 17) (hp : wp_X12_resets D post S0 a0) : mV D cy X l yX12_resets wz_X12_resets r_X12_resets [.ref a0] S0 (fun S9 => wX D S0 S9 ∧ post S9) := by
  intro sz
  refine Met.ofW (cc := cX12_resets) (maxL := 2) (ret := none) (by decide) rfl ?_
  intro p e s m args below meth c s₁ B hml hv
  obtain ⟨rfl, hsz, hP, hK, hD0, hRO⟩ := hv
  have hts := atoms_spec (ws := wz_X12_resets) B.pre
  have hown : s.vm.findClass RX12 = some m.cls := findClass_of_methodNamed B.named
  subst hsz
  have hD := hD0.self (sz := s.heap.size)
  have F : CallFix p m c cX12_resets 2 s _ wz_X12_resets RX12 := ⟨B.exec, B.bytes, hml, hown, hts⟩
  have hr := B.returns
  have hlocks := B.notSynchronized
  generalize hAe : va_A (wL cy X S0) s.heap.size = A at hD hK ⊢
  have hA : ∀ q, s.heap.size ≤ q → A q := fun q h => by rw [← hAe]; exact Or.inr h
  have hW : wO D cy X A s.heap S0 s.heap [] := ⟨hP, hD, va_S.rf, hA, hRO⟩
  have hl := lv_entry ([.ref a0]) (n := 2) (Nat.le_of_ble_eq_true rfl)
  rw [lg_entry_eq]
  generalize (lg_sl ([.ref a0]) ++ List.replicate (2 - (lg_sl ([.ref a0])).length) Slot.unset).toArray = ls at hl ⊢
  have hl : lv_has ls 2 [(0, .ref a0)] := hl
  unfold wp_X12_resets at hp
  exact t_X12_resets_0 F hr hlocks hK hp hW wX.rf (lv_sub hl [0] rfl) hL_a0 hK_a0
def wp_X12_writes_0 (D : wD) (post : wS → Prop)  (S : wS) (a0 : Nat) (x1 : Int32) : Prop :=
∃ y_1 : Nat, sR S a0 14 = some y_1 ∧ wM D S y_1 ∧ sK S y_1 = 21 ∧
y_1 ∈ sL S ∧ vp_in (sI S a0 15) (sN S y_1) ∧
∀ S_3 : wS, S_3 = uI S y_1 ((sI S a0 15)).toNatClampNeg x1 →
∀ S_4 : wS, S_4 = uI S_3 a0 15 ((sI S_3 a0 15) + (1 : Int32)) →
post S_4
abbrev r_X12_writes : Room := { frames := 0, cells := 0, slots := 0, locals := 0 }
def wp_X12_writes (D : wD) (post : wS → Prop) (S : wS) (a0 : Nat) (x1 : Int32) : Prop := wp_X12_writes_0 D post S a0 x1
set_option maxHeartbeats 4000000 in
set_option maxRecDepth 100000 in
theorem t_X12_writes_0 {p : Program} {l : Launch} {e : Env} {s : State} {m : MethodId} {args : Array Value} {below : List Frame} {meth : Method} {c : Code} {D : wD} {cy : Nat → ClassId} {X : va_W} {A : Nat → Prop} {S0 : wS} {post : wS → Prop} (F : CallFix p m c cX12_writes 2 s args wz_X12_writes RX12) (hr : meth.sig.returnType = none) (hlocks : meth.locks = false) (hK : wK D cy A s) : ∀ {S : wS} {H : Heap} {locs : List Loc} {ls : Array Slot} {a0 : Nat} {x1 : Int32}, wp_X12_writes_0 D post S a0 x1 → wO D cy X A s.heap S H locs → wX D S0 S → lv_has ls 2 [(0, .ref a0), (1, .int x1)] → wM D S a0 → sK S a0 = 17 → W p l e r_X12_writes s m args below meth c H locs 0 0 (MQ below (va_Qv (fun S9 => wX D S0 S9 ∧ post S9) (wB D cy X A) A) args s 0 0 A) (F0 m 0 ls []) := by
  obtain ⟨hx, hb, hml, hown, hts⟩ := id F
  have hwg : ∀ w ∈ WG, w.before args s = true := fun w h => hts w (List.mem_cons_of_mem _ h)
  have i_17 : ∀ w ∈ u_ws RX12 TX12 43, w ∈ wz_X12_writes := fun w h => List.mem_cons_of_mem _ (wu_17 w h)
  have k_244 := hwg _ wf_RX12_244
  have k_45 := hwg _ wf_RX12_45
  intro S H locs ls a0 x1 hp hW hE hl hL_a0 hK_a0
  unfold wp_X12_writes_0 at hp
  refine lv_aload_n hx hb dX12_writes_0 rfl (lv_at hl 0 rfl) ?_
  obtain ⟨y_1, ey_1, hL_y_1, hK_y_1, hp⟩ := hp
  refine w_get (k := 17) (f := 14) (T := TX12) (v := .ref y_1) F hK hW hL_a0 hK_a0 (by decide) rfl rfl (by decide) i_17 k_45 (by rw [show wv 17 14 S a0 = va_rf (sR S a0 14) from rfl, ey_1]; rfl) dX12_writes_1 ?_
  refine lv_aload_n hx hb dX12_writes_4 rfl (lv_at hl 0 rfl) ?_
  refine w_get (k := 17) (f := 15) (T := TX12) (v := .int (sI S a0 15)) F hK hW hL_a0 hK_a0 (by decide) rfl rfl (by decide) i_17 k_244 rfl dX12_writes_5 ?_
  refine lv_iload_n hx hb dX12_writes_8 rfl (lv_at hl 1 rfl) ?_
  obtain ⟨h_2m, h_2, hp⟩ := hp
  refine w_ist F hK hW h_2m hK_y_1 h_2 dX12_writes_9 (fun H locs hW => ?_)
  obtain ⟨S_3, eS_3⟩ : ∃ z : wS, z = uI S y_1 ((sI S a0 15)).toNatClampNeg x1 := ⟨_, rfl⟩
  rw [← eS_3] at hW
  replace hp := hp S_3 eS_3
  have hX_S_3 : wX D S S_3 := by rw [eS_3]; exact wX_uI
  have hE := hE.trans hX_S_3
  have hK_a0 : sK S_3 a0 = 17 := (hX_S_3.2 a0 hL_a0).1.trans hK_a0
  have hL_a0 : wM D S_3 a0 := hX_S_3.M hL_a0
  refine lv_aload_n hx hb dX12_writes_10 rfl (lv_at hl 0 rfl) ?_
  refine lv_dup hx hb dX12_writes_11 rfl ?_
  refine w_get (k := 17) (f := 15) (T := TX12) (v := .int (sI S_3 a0 15)) F hK hW hL_a0 hK_a0 (by decide) rfl rfl (by decide) i_17 k_244 rfl dX12_writes_12 ?_
  refine lv_iconst (v := 1) hx hb dX12_writes_15 (by decide) ?_
  refine lv_iadd hx hb dX12_writes_16 ?_
  refine w_putI (k := 17) (f := 15) (T := TX12) F hK hW hL_a0 hK_a0 (by decide) (by decide) rfl rfl (by decide) i_17 tyX12 tyX12_ok nmX12 k_244 rfl rfl (ty := .int) rfl rfl rfl dX12_writes_17 (fun H locs hW => ?_)
  obtain ⟨S_4, eS_4⟩ : ∃ z : wS, z = uI S_3 a0 15 ((sI S_3 a0 15) + (1 : Int32)) := ⟨_, rfl⟩
  rw [← eS_4] at hW
  replace hp := hp S_4 eS_4
  have hX_S_4 : wX D S_3 S_4 := by rw [eS_4]; exact wX_uI
  have hE := hE.trans hX_S_4
  have hK_a0 : sK S_4 a0 = 17 := (hX_S_4.2 a0 hL_a0).1.trans hK_a0
  have hL_a0 : wM D S_4 a0 := hX_S_4.M hL_a0
  exact w_vret hx hb hr hlocks hW ⟨hE, hp⟩ dX12_writes_20
set_option maxHeartbeats 4000000 in
set_option maxRecDepth 100000 in
theorem c_X12_writes (l : Launch) {D : wD} {cy : Nat → ClassId} {X : va_W} {S0 : wS} {post : wS → Prop} {a0 : Nat} {x1 : Int32} (hL_a0 : wM D S0 a0) (hK_a0 : sK S0 a0 = 17) (hp : wp_X12_writes D post S0 a0 x1) : mV D cy X l yX12_writes wz_X12_writes r_X12_writes [.ref a0, .int x1] S0 (fun S9 => wX D S0 S9 ∧ post S9) := by
  intro sz
  refine Met.ofW (cc := cX12_writes) (maxL := 2) (ret := none) (by decide) rfl ?_
  intro p e s m args below meth c s₁ B hml hv
  obtain ⟨rfl, hsz, hP, hK, hD0, hRO⟩ := hv
  have hts := atoms_spec (ws := wz_X12_writes) B.pre
  have hown : s.vm.findClass RX12 = some m.cls := findClass_of_methodNamed B.named
  subst hsz
  have hD := hD0.self (sz := s.heap.size)
  have F : CallFix p m c cX12_writes 2 s _ wz_X12_writes RX12 := ⟨B.exec, B.bytes, hml, hown, hts⟩
  have hr := B.returns
  have hlocks := B.notSynchronized
  generalize hAe : va_A (wL cy X S0) s.heap.size = A at hD hK ⊢
  have hA : ∀ q, s.heap.size ≤ q → A q := fun q h => by rw [← hAe]; exact Or.inr h
  have hW : wO D cy X A s.heap S0 s.heap [] := ⟨hP, hD, va_S.rf, hA, hRO⟩
  have hl := lv_entry ([.ref a0, .int x1]) (n := 2) (Nat.le_of_ble_eq_true rfl)
  rw [lg_entry_eq]
  generalize (lg_sl ([.ref a0, .int x1]) ++ List.replicate (2 - (lg_sl ([.ref a0, .int x1])).length) Slot.unset).toArray = ls at hl ⊢
  have hl : lv_has ls 2 [(0, .ref a0), (1, .int x1)] := hl
  unfold wp_X12_writes at hp
  exact t_X12_writes_0 F hr hlocks hK hp hW wX.rf (lv_sub hl [0, 1] rfl) hL_a0 hK_a0
def wp_X12_writesSquare_0 (D : wD) (post : wS → Prop)  (S : wS) (a0 : Nat) (x1 : Int32) : Prop :=
wp_X12_fileOf D (fun r_1 S_2 => 
wp_X12_writes D (fun S_4 => 
wp_X12_rankOf D (fun r_5 S_6 => 
wp_X12_writes D (fun S_8 => 
post S_8) S_6 a0 ((49 : Int32) + r_5)) S_4 a0 x1) S_2 a0 ((97 : Int32) + r_1)) S a0 x1
abbrev r_X12_writesSquare : Room := { frames := 1, cells := 0, slots := 0, locals := 21 }
def wp_X12_writesSquare (D : wD) (post : wS → Prop) (S : wS) (a0 : Nat) (x1 : Int32) : Prop := wp_X12_writesSquare_0 D post S a0 x1
set_option maxHeartbeats 4000000 in
set_option maxRecDepth 100000 in
theorem t_X12_writesSquare_0 {p : Program} {l : Launch} {e : Env} {s : State} {m : MethodId} {args : Array Value} {below : List Frame} {meth : Method} {c : Code} {D : wD} {cy : Nat → ClassId} {X : va_W} {A : Nat → Prop} {S0 : wS} {post : wS → Prop} (F : CallFix p m c cX12_writesSquare 2 s args wz_X12_writesSquare RX12) (hr : meth.sig.returnType = none) (hlocks : meth.locks = false) (hK : wK D cy A s) : ∀ {S : wS} {H : Heap} {locs : List Loc} {ls : Array Slot} {a0 : Nat} {x1 : Int32}, wp_X12_writesSquare_0 D post S a0 x1 → wO D cy X A s.heap S H locs → wX D S0 S → lv_has ls 2 [(0, .ref a0), (1, .int x1)] → wM D S a0 → sK S a0 = 17 → W p l e r_X12_writesSquare s m args below meth c H locs 0 0 (MQ below (va_Qv (fun S9 => wX D S0 S9 ∧ post S9) (wB D cy X A) A) args s 0 0 A) (F0 m 0 ls []) := by
  obtain ⟨hx, hb, hml, hown, hts⟩ := id F
  have hwg : ∀ w ∈ WG, w.before args s = true := fun w h => hts w (List.mem_cons_of_mem _ h)
  intro S H locs ls a0 x1 hp hW hE hl hL_a0 hK_a0
  unfold wp_X12_writesSquare_0 at hp
  refine lv_aload_n hx hb dX12_writesSquare_0 rfl (lv_at hl 0 rfl) ?_
  refine lv_bipush (v := 97) hx hb dX12_writesSquare_1 (by decide) ?_
  refine lv_aload_n hx hb dX12_writesSquare_3 rfl (lv_at hl 0 rfl) ?_
  refine lv_iload_n hx hb dX12_writesSquare_4 rfl (lv_at hl 1 rfl) ?_
  refine w_callI (va_runV (As := [.int x1]) (rest := [.int (97 : Int32), .ref a0]) F (c_X12_fileOf l hL_a0 hK_a0 hp H.size) (cwV (C := RX12) 1 hts (wg_V wm_RX12_134 wy_X12_fileOf) rfl rfl rfl (by decide +kernel) ⟨Nat.le_of_ble_eq_true rfl, Nat.le_of_ble_eq_true rfl⟩) (w_preV hK hW hL_a0 hK_a0 (by decide) rfl) rfl rfl hl.1 rfl (lv_room (Nat.le_of_ble_eq_true rfl)) dX12_writesSquare_5 ⟨Nat.le_of_ble_eq_true rfl, Nat.le_of_ble_eq_true rfl⟩) hW (fun r_1 S_2 H locs hp hW => ?_)
  obtain ⟨hX_S_2, hp⟩ := hp
  refine W.widen (k := 0) (n := 0) (by decide) (by decide) ?_
  have hE := hE.trans hX_S_2
  have hK_a0 : sK S_2 a0 = 17 := (hX_S_2.2 a0 hL_a0).1.trans hK_a0
  have hL_a0 : wM D S_2 a0 := hX_S_2.M hL_a0
  refine lv_iadd hx hb dX12_writesSquare_8 ?_
  refine w_callV (va_runV (As := [.int ((97 : Int32) + r_1)]) (rest := []) F (c_X12_writes l hL_a0 hK_a0 hp H.size) (cwV (C := RX12) 1 hts (wg_V wm_RX12_247 wy_X12_writes) rfl rfl rfl (by decide +kernel) ⟨Nat.le_of_ble_eq_true rfl, Nat.le_of_ble_eq_true rfl⟩) (w_preV hK hW hL_a0 hK_a0 (by decide) rfl) rfl rfl hl.1 rfl (lv_room (Nat.le_of_ble_eq_true rfl)) dX12_writesSquare_9 ⟨Nat.le_of_ble_eq_true rfl, Nat.le_of_ble_eq_true rfl⟩) hW (fun S_4 H locs hp hW => ?_)
  obtain ⟨hX_S_4, hp⟩ := hp
  refine W.widen (k := 0) (n := 0) (by decide) (by decide) ?_
  have hE := hE.trans hX_S_4
  have hK_a0 : sK S_4 a0 = 17 := (hX_S_4.2 a0 hL_a0).1.trans hK_a0
  have hL_a0 : wM D S_4 a0 := hX_S_4.M hL_a0
  refine lv_aload_n hx hb dX12_writesSquare_12 rfl (lv_at hl 0 rfl) ?_
  refine lv_bipush (v := 49) hx hb dX12_writesSquare_13 (by decide) ?_
  refine lv_aload_n hx hb dX12_writesSquare_15 rfl (lv_at hl 0 rfl) ?_
  refine lv_iload_n hx hb dX12_writesSquare_16 rfl (lv_at hl 1 rfl) ?_
  refine w_callI (va_runV (As := [.int x1]) (rest := [.int (49 : Int32), .ref a0]) F (c_X12_rankOf l hL_a0 hK_a0 hp H.size) (cwV (C := RX12) 1 hts (wg_V wm_RX12_138 wy_X12_rankOf) rfl rfl rfl (by decide +kernel) ⟨Nat.le_of_ble_eq_true rfl, Nat.le_of_ble_eq_true rfl⟩) (w_preV hK hW hL_a0 hK_a0 (by decide) rfl) rfl rfl hl.1 rfl (lv_room (Nat.le_of_ble_eq_true rfl)) dX12_writesSquare_17 ⟨Nat.le_of_ble_eq_true rfl, Nat.le_of_ble_eq_true rfl⟩) hW (fun r_5 S_6 H locs hp hW => ?_)
  obtain ⟨hX_S_6, hp⟩ := hp
  refine W.widen (k := 0) (n := 0) (by decide) (by decide) ?_
  have hE := hE.trans hX_S_6
  have hK_a0 : sK S_6 a0 = 17 := (hX_S_6.2 a0 hL_a0).1.trans hK_a0
  have hL_a0 : wM D S_6 a0 := hX_S_6.M hL_a0
  refine lv_iadd hx hb dX12_writesSquare_20 ?_
  refine w_callV (va_runV (As := [.int ((49 : Int32) + r_5)]) (rest := []) F (c_X12_writes l hL_a0 hK_a0 hp H.size) (cwV (C := RX12) 1 hts (wg_V wm_RX12_247 wy_X12_writes) rfl rfl rfl (by decide +kernel) ⟨Nat.le_of_ble_eq_true rfl, Nat.le_of_ble_eq_true rfl⟩) (w_preV hK hW hL_a0 hK_a0 (by decide) rfl) rfl rfl hl.1 rfl (lv_room (Nat.le_of_ble_eq_true rfl)) dX12_writesSquare_21 ⟨Nat.le_of_ble_eq_true rfl, Nat.le_of_ble_eq_true rfl⟩) hW (fun S_8 H locs hp hW => ?_)
  obtain ⟨hX_S_8, hp⟩ := hp
  refine W.widen (k := 0) (n := 0) (by decide) (by decide) ?_
  have hE := hE.trans hX_S_8
  have hK_a0 : sK S_8 a0 = 17 := (hX_S_8.2 a0 hL_a0).1.trans hK_a0
  have hL_a0 : wM D S_8 a0 := hX_S_8.M hL_a0
  exact w_vret hx hb hr hlocks hW ⟨hE, hp⟩ dX12_writesSquare_24
set_option maxHeartbeats 4000000 in
set_option maxRecDepth 100000 in
theorem c_X12_writesSquare (l : Launch) {D : wD} {cy : Nat → ClassId} {X : va_W} {S0 : wS} {post : wS → Prop} {a0 : Nat} {x1 : Int32} (hL_a0 : wM D S0 a0) (hK_a0 : sK S0 a0 = 17) (hp : wp_X12_writesSquare D post S0 a0 x1) : mV D cy X l yX12_writesSquare wz_X12_writesSquare r_X12_writesSquare [.ref a0, .int x1] S0 (fun S9 => wX D S0 S9 ∧ post S9) := by
  intro sz
  refine Met.ofW (cc := cX12_writesSquare) (maxL := 2) (ret := none) (by decide) rfl ?_
  intro p e s m args below meth c s₁ B hml hv
  obtain ⟨rfl, hsz, hP, hK, hD0, hRO⟩ := hv
  have hts := atoms_spec (ws := wz_X12_writesSquare) B.pre
  have hown : s.vm.findClass RX12 = some m.cls := findClass_of_methodNamed B.named
  subst hsz
  have hD := hD0.self (sz := s.heap.size)
  have F : CallFix p m c cX12_writesSquare 2 s _ wz_X12_writesSquare RX12 := ⟨B.exec, B.bytes, hml, hown, hts⟩
  have hr := B.returns
  have hlocks := B.notSynchronized
  generalize hAe : va_A (wL cy X S0) s.heap.size = A at hD hK ⊢
  have hA : ∀ q, s.heap.size ≤ q → A q := fun q h => by rw [← hAe]; exact Or.inr h
  have hW : wO D cy X A s.heap S0 s.heap [] := ⟨hP, hD, va_S.rf, hA, hRO⟩
  have hl := lv_entry ([.ref a0, .int x1]) (n := 2) (Nat.le_of_ble_eq_true rfl)
  rw [lg_entry_eq]
  generalize (lg_sl ([.ref a0, .int x1]) ++ List.replicate (2 - (lg_sl ([.ref a0, .int x1])).length) Slot.unset).toArray = ls at hl ⊢
  have hl : lv_has ls 2 [(0, .ref a0), (1, .int x1)] := hl
  unfold wp_X12_writesSquare at hp
  exact t_X12_writesSquare_0 F hr hlocks hK hp hW wX.rf (lv_sub hl [0, 1] rfl) hL_a0 hK_a0
def wp_X12_writesPaper_271 (D : wD) (post : wS → Prop)  (S : wS) : Prop :=
post S
def wp_X12_writesPaper_238 (D : wD) (post : wS → Prop)  (S : wS) (a0 : Nat) : Prop :=
wp_X12_writes D (fun S_2 => 
wp_X12_passing D (fun r_3 S_4 => 
((¬ r_3 = (-1 : Int32) → wp_X12_passing D (fun r_6 S_7 => 
wp_X12_writesSquare D (fun S_9 => 
wp_X12_writesPaper_271 D post S_9) S_7 a0 r_6) S_4 a0 (0 : Int32)) ∧
 (r_3 = (-1 : Int32) → wp_X12_writes D (fun S_11 => 
wp_X12_writesPaper_271 D post S_11) S_4 a0 (45 : Int32)))) S_2 a0 (0 : Int32)) S a0 (32 : Int32)
def wp_X12_writesPaper_222 (D : wD) (post : wS → Prop) (k_179 : wS → Nat → Int32 → Int32 → Prop) (S : wS) (a0 : Nat) (x1 : Int32) (x2 : Int32) : Prop :=
∀ x_1 : Int32, x_1 = x2 + 1 →
k_179 S a0 x1 x_1
def wp_X12_writesPaper_218 (D : wD) (post : wS → Prop) (k_179 : wS → Nat → Int32 → Int32 → Prop) (S : wS) (a0 : Nat) (x1 : Int32) (x2 : Int32) (b0 : Nat) (t1 : Int32) (t2 : Int32) : Prop :=
wp_X12_writes D (fun S_2 => 
wp_X12_writesPaper_222 D post k_179 S_2 a0 x1 x2) S b0 (t1 + t2)
def wp_X12_writesPaper_207 (D : wD) (post : wS → Prop) (k_179 : wS → Nat → Int32 → Int32 → Prop) (S : wS) (a0 : Nat) (x1 : Int32) (x2 : Int32) (b0 : Nat) (t1 : Int32) : Prop :=
(((2 : Int32) ≤ x2 → wp_X12_writesPaper_218 D post k_179 S a0 x1 x2 b0 t1 (32 : Int32)) ∧
 (¬ (2 : Int32) ≤ x2 → wp_X12_writesPaper_218 D post k_179 S a0 x1 x2 b0 t1 (0 : Int32)))
def wp_X12_writesPaper_179 (D : wD) (post : wS → Prop)  : Nat → wS → Nat → Int32 → Int32 → Prop
  | 0, _, _, _, _ => False
  | n + 1, S, a0, x1, x2 =>
    (((4 : Int32) ≤ x2 → ((¬ x1 = 0 → wp_X12_writesPaper_238 D post S a0) ∧
     (x1 = 0 → wp_X12_writes D (fun S_4 => 
    wp_X12_writesPaper_238 D post S_4 a0) S a0 (45 : Int32)))) ∧
     (¬ (4 : Int32) ≤ x2 → ((¬ ((x1 >>> (x2 &&& 31)) &&& (1 : Int32)) = (1 : Int32) → wp_X12_writesPaper_222 D post (wp_X12_writesPaper_179 D post n) S a0 x1 x2) ∧
     (((x1 >>> (x2 &&& 31)) &&& (1 : Int32)) = (1 : Int32) → ¬ (2 : Int32) = 0 ∧
    ((¬ (x2 - x2 / (2 : Int32) * (2 : Int32)) = 0 → wp_X12_writesPaper_207 D post (wp_X12_writesPaper_179 D post n) S a0 x1 x2 a0 (81 : Int32)) ∧
     ((x2 - x2 / (2 : Int32) * (2 : Int32)) = 0 → wp_X12_writesPaper_207 D post (wp_X12_writesPaper_179 D post n) S a0 x1 x2 a0 (75 : Int32)))))))
def wp_X12_writesPaper_160 (D : wD) (post : wS → Prop)  (S : wS) (a0 : Nat) (b0 : Nat) (t1 : Int32) : Prop :=
wp_X12_writes D (fun S_2 => 
wp_X12_writes D (fun S_4 => 
∃ y_5 : Nat, sR S_4 a0 3 = some y_5 ∧ wM D S_4 y_5 ∧ sK S_4 y_5 = 21 ∧
vp_in (65 : Int32) (sN S_4 y_5) ∧
∀ x_7 : Int32, x_7 = (sI S_4 y_5 ((65 : Int32)).toNatClampNeg) →
∃ n_8 : Nat, wp_X12_writesPaper_179 D post n_8 S_4 a0 x_7 (0 : Int32)) S_2 a0 (32 : Int32)) S b0 t1
def wp_X12_writesPaper_134 (D : wD) (post : wS → Prop) (k_12 : wS → Nat → Int32 → Prop) (S : wS) (a0 : Nat) (x1 : Int32) (b0 : Nat) (t1 : Int32) : Prop :=
wp_X12_writes D (fun S_2 => 
∀ x_3 : Int32, x_3 = x1 + (-1) →
k_12 S_2 a0 x_3) S b0 t1
def wp_X12_writesPaper_122 (D : wD) (post : wS → Prop) (k_12 : wS → Nat → Int32 → Prop) (S : wS) (a0 : Nat) (x1 : Int32) : Prop :=
((x1 ≤ 0 → wp_X12_writesPaper_134 D post k_12 S a0 x1 a0 (32 : Int32)) ∧
 (¬ x1 ≤ 0 → wp_X12_writesPaper_134 D post k_12 S a0 x1 a0 (47 : Int32)))
def wp_X12_writesPaper_104 (D : wD) (post : wS → Prop) (k_12 : wS → Nat → Int32 → Prop) (k_20 : wS → Nat → Int32 → Int32 → Int32 → Prop) (S : wS) (a0 : Nat) (x1 : Int32) (x2 : Int32) (x3 : Int32) : Prop :=
∀ x_1 : Int32, x_1 = x3 + 1 →
k_20 S a0 x1 x2 x_1
def wp_X12_writesPaper_100 (D : wD) (post : wS → Prop) (k_12 : wS → Nat → Int32 → Prop) (k_20 : wS → Nat → Int32 → Int32 → Int32 → Prop) (S : wS) (a0 : Nat) (x1 : Int32) (x2 : Int32) (x3 : Int32) (b0 : Nat) (t1 : Int32) (t2 : Int32) : Prop :=
wp_X12_writes D (fun S_2 => 
wp_X12_writesPaper_104 D post k_12 k_20 S_2 a0 x1 x2 x3) S b0 (t1 + t2)
def wp_X12_writesPaper_72 (D : wD) (post : wS → Prop) (k_12 : wS → Nat → Int32 → Prop) (k_20 : wS → Nat → Int32 → Int32 → Int32 → Prop) (S : wS) (a0 : Nat) (x1 : Int32) (x3 : Int32) (x4 : Int32) (t0 : Int32) : Prop :=
((x4 = 0 → wp_X12_writesPaper_104 D post k_12 k_20 S a0 x1 t0 x3) ∧
 (¬ x4 = 0 → wp_X12_kindOf D (fun r_2 S_3 => 
wp_X12_letterOf D (fun r_4 S_5 => 
((x4 ≤ (6 : Int32) → wp_X12_writesPaper_100 D post k_12 k_20 S_5 a0 x1 t0 x3 a0 r_4 (0 : Int32)) ∧
 (¬ x4 ≤ (6 : Int32) → wp_X12_writesPaper_100 D post k_12 k_20 S_5 a0 x1 t0 x3 a0 r_4 (32 : Int32)))) S_3 r_2) S x4))
def wp_X12_writesPaper_60 (D : wD) (post : wS → Prop) (k_12 : wS → Nat → Int32 → Prop) (k_20 : wS → Nat → Int32 → Int32 → Int32 → Prop) (S : wS) (a0 : Nat) (x1 : Int32) (x2 : Int32) (x3 : Int32) (x4 : Int32) : Prop :=
((¬ x4 = 0 → wp_X12_writesPaper_72 D post k_12 k_20 S a0 x1 x3 x4 (0 : Int32)) ∧
 (x4 = 0 → wp_X12_writesPaper_72 D post k_12 k_20 S a0 x1 x3 x4 (x2 + (1 : Int32))))
def wp_X12_writesPaper_20 (D : wD) (post : wS → Prop) (k_12 : wS → Nat → Int32 → Prop) : Nat → wS → Nat → Int32 → Int32 → Int32 → Prop
  | 0, _, _, _, _, _ => False
  | n + 1, S, a0, x1, x2, x3 =>
    (((sI S a0 1) ≤ x3 → ((x2 ≤ 0 → wp_X12_writesPaper_122 D post k_12 S a0 x1) ∧
     (¬ x2 ≤ 0 → wp_X12_writes D (fun S_4 => 
    wp_X12_writesPaper_122 D post k_12 S_4 a0 x1) S a0 ((48 : Int32) + x2)))) ∧
     (¬ (sI S a0 1) ≤ x3 → wp_X12_on D (fun r_5 S_6 => 
    ((r_5 = 0 → wp_X12_writesPaper_60 D post k_12 (wp_X12_writesPaper_20 D post k_12 n) S_6 a0 x1 x2 x3 r_5) ∧
     (¬ r_5 = 0 → ((x2 ≤ 0 → wp_X12_writesPaper_60 D post k_12 (wp_X12_writesPaper_20 D post k_12 n) S_6 a0 x1 x2 x3 r_5) ∧
     (¬ x2 ≤ 0 → wp_X12_writes D (fun S_10 => 
    wp_X12_writesPaper_60 D post k_12 (wp_X12_writesPaper_20 D post k_12 n) S_10 a0 x1 x2 x3 r_5) S_6 a0 ((48 : Int32) + x2)))))) S a0 (0 : Int32) (((sI S a0 1) * x1) + x3)))
def wp_X12_writesPaper_12 (D : wD) (post : wS → Prop)  : Nat → wS → Nat → Int32 → Prop
  | 0, _, _, _ => False
  | n + 1, S, a0, x1 =>
    ((x1 < 0 → wp_X12_side D (fun r_2 S_3 => 
    ((¬ r_2 = (1 : Int32) → wp_X12_writesPaper_160 D post S_3 a0 a0 (98 : Int32)) ∧
     (r_2 = (1 : Int32) → wp_X12_writesPaper_160 D post S_3 a0 a0 (119 : Int32)))) S a0 (0 : Int32)) ∧
     (¬ x1 < 0 → ∃ n_5 : Nat, wp_X12_writesPaper_20 D post (wp_X12_writesPaper_12 D post n) n_5 S a0 x1 (0 : Int32) (0 : Int32)))
def wp_X12_writesPaper_0 (D : wD) (post : wS → Prop)  (S : wS) (a0 : Nat) : Prop :=
∀ S_1 : wS, S_1 = uI S a0 15 (0 : Int32) →
∀ x_2 : Int32, x_2 = ((sI S_1 a0 2) - (1 : Int32)) →
∃ n_3 : Nat, wp_X12_writesPaper_12 D post n_3 S_1 a0 x_2
abbrev r_X12_writesPaper : Room := { frames := 2, cells := 0, slots := 0, locals := 42 }
def wp_X12_writesPaper (D : wD) (post : wS → Prop) (S : wS) (a0 : Nat) : Prop := wp_X12_writesPaper_0 D post S a0
set_option maxHeartbeats 4000000 in
set_option maxRecDepth 100000 in
theorem t_X12_writesPaper_271 {p : Program} {l : Launch} {e : Env} {s : State} {m : MethodId} {args : Array Value} {below : List Frame} {meth : Method} {c : Code} {D : wD} {cy : Nat → ClassId} {X : va_W} {A : Nat → Prop} {S0 : wS} {post : wS → Prop} (F : CallFix p m c cX12_writesPaper 5 s args wz_X12_writesPaper RX12) (hr : meth.sig.returnType = none) (hlocks : meth.locks = false) (hK : wK D cy A s) : ∀ {S : wS} {H : Heap} {locs : List Loc} {ls : Array Slot}, wp_X12_writesPaper_271 D post S → wO D cy X A s.heap S H locs → wX D S0 S → lv_has ls 5 [] → W p l e r_X12_writesPaper s m args below meth c H locs 0 0 (MQ below (va_Qv (fun S9 => wX D S0 S9 ∧ post S9) (wB D cy X A) A) args s 0 0 A) (F0 m 271 ls []) := by
  obtain ⟨hx, hb, hml, hown, hts⟩ := id F
  have hwg : ∀ w ∈ WG, w.before args s = true := fun w h => hts w (List.mem_cons_of_mem _ h)
  intro S H locs ls hp hW hE hl
  unfold wp_X12_writesPaper_271 at hp
  exact w_vret hx hb hr hlocks hW ⟨hE, hp⟩ dX12_writesPaper_271
set_option maxHeartbeats 4000000 in
set_option maxRecDepth 100000 in
theorem t_X12_writesPaper_238 {p : Program} {l : Launch} {e : Env} {s : State} {m : MethodId} {args : Array Value} {below : List Frame} {meth : Method} {c : Code} {D : wD} {cy : Nat → ClassId} {X : va_W} {A : Nat → Prop} {S0 : wS} {post : wS → Prop} (F : CallFix p m c cX12_writesPaper 5 s args wz_X12_writesPaper RX12) (hr : meth.sig.returnType = none) (hlocks : meth.locks = false) (hK : wK D cy A s) : ∀ {S : wS} {H : Heap} {locs : List Loc} {ls : Array Slot} {a0 : Nat}, wp_X12_writesPaper_238 D post S a0 → wO D cy X A s.heap S H locs → wX D S0 S → lv_has ls 5 [(0, .ref a0)] → wM D S a0 → sK S a0 = 17 → W p l e r_X12_writesPaper s m args below meth c H locs 0 0 (MQ below (va_Qv (fun S9 => wX D S0 S9 ∧ post S9) (wB D cy X A) A) args s 0 0 A) (F0 m 238 ls []) := by
  obtain ⟨hx, hb, hml, hown, hts⟩ := id F
  have hwg : ∀ w ∈ WG, w.before args s = true := fun w h => hts w (List.mem_cons_of_mem _ h)
  intro S H locs ls a0 hp hW hE hl hL_a0 hK_a0
  unfold wp_X12_writesPaper_238 at hp
  refine lv_aload_n hx hb dX12_writesPaper_238 rfl (lv_at hl 0 rfl) ?_
  refine lv_bipush (v := 32) hx hb dX12_writesPaper_239 (by decide) ?_
  refine w_callV (va_runV (As := [.int (32 : Int32)]) (rest := []) F (c_X12_writes l hL_a0 hK_a0 hp H.size) (cwV (C := RX12) 1 hts (wg_V wm_RX12_247 wy_X12_writes) rfl rfl rfl (by decide +kernel) ⟨Nat.le_of_ble_eq_true rfl, Nat.le_of_ble_eq_true rfl⟩) (w_preV hK hW hL_a0 hK_a0 (by decide) rfl) rfl rfl hl.1 rfl (lv_room (Nat.le_of_ble_eq_true rfl)) dX12_writesPaper_241 ⟨Nat.le_of_ble_eq_true rfl, Nat.le_of_ble_eq_true rfl⟩) hW (fun S_2 H locs hp hW => ?_)
  obtain ⟨hX_S_2, hp⟩ := hp
  refine W.widen (k := 0) (n := 0) (by decide) (by decide) ?_
  have hE := hE.trans hX_S_2
  have hK_a0 : sK S_2 a0 = 17 := (hX_S_2.2 a0 hL_a0).1.trans hK_a0
  have hL_a0 : wM D S_2 a0 := hX_S_2.M hL_a0
  refine lv_aload_n hx hb dX12_writesPaper_244 rfl (lv_at hl 0 rfl) ?_
  refine lv_iconst (v := 0) hx hb dX12_writesPaper_245 (by decide) ?_
  refine w_callI (va_runV (As := [.int (0 : Int32)]) (rest := []) F (c_X12_passing l hL_a0 hK_a0 hp H.size) (cwV (C := RX12) 1 hts (wg_V wm_RX12_201 wy_X12_passing) rfl rfl rfl (by decide +kernel) ⟨Nat.le_of_ble_eq_true rfl, Nat.le_of_ble_eq_true rfl⟩) (w_preV hK hW hL_a0 hK_a0 (by decide) rfl) rfl rfl hl.1 rfl (lv_room (Nat.le_of_ble_eq_true rfl)) dX12_writesPaper_246 ⟨Nat.le_of_ble_eq_true rfl, Nat.le_of_ble_eq_true rfl⟩) hW (fun r_3 S_4 H locs hp hW => ?_)
  obtain ⟨hX_S_4, hp⟩ := hp
  refine W.widen (k := 0) (n := 0) (by decide) (by decide) ?_
  have hE := hE.trans hX_S_4
  have hK_a0 : sK S_4 a0 = 17 := (hX_S_4.2 a0 hL_a0).1.trans hK_a0
  have hL_a0 : wM D S_4 a0 := hX_S_4.M hL_a0
  refine lv_iconst (v := (-1)) hx hb dX12_writesPaper_249 (by decide) ?_
  refine lv_icmp_ne (tgt := 262) hx hb dX12_writesPaper_250 (by decide) (fun c_5 => ?_) (fun c_5 => ?_)
  · replace hp := hp.1 c_5
    refine lv_aload_n hx hb dX12_writesPaper_262 rfl (lv_at hl 0 rfl) ?_
    refine lv_aload_n hx hb dX12_writesPaper_263 rfl (lv_at hl 0 rfl) ?_
    refine lv_iconst (v := 0) hx hb dX12_writesPaper_264 (by decide) ?_
    refine w_callI (va_runV (As := [.int (0 : Int32)]) (rest := [.ref a0]) F (c_X12_passing l hL_a0 hK_a0 hp H.size) (cwV (C := RX12) 1 hts (wg_V wm_RX12_201 wy_X12_passing) rfl rfl rfl (by decide +kernel) ⟨Nat.le_of_ble_eq_true rfl, Nat.le_of_ble_eq_true rfl⟩) (w_preV hK hW hL_a0 hK_a0 (by decide) rfl) rfl rfl hl.1 rfl (lv_room (Nat.le_of_ble_eq_true rfl)) dX12_writesPaper_265 ⟨Nat.le_of_ble_eq_true rfl, Nat.le_of_ble_eq_true rfl⟩) hW (fun r_6 S_7 H locs hp hW => ?_)
    obtain ⟨hX_S_7, hp⟩ := hp
    refine W.widen (k := 0) (n := 0) (by decide) (by decide) ?_
    have hE := hE.trans hX_S_7
    have hK_a0 : sK S_7 a0 = 17 := (hX_S_7.2 a0 hL_a0).1.trans hK_a0
    have hL_a0 : wM D S_7 a0 := hX_S_7.M hL_a0
    refine w_callV (va_runV (As := [.int r_6]) (rest := []) F (c_X12_writesSquare l hL_a0 hK_a0 hp H.size) (cwV (C := RX12) 1 hts (wg_V wm_RX12_253 wy_X12_writesSquare) rfl rfl rfl (by decide +kernel) ⟨Nat.le_of_ble_eq_true rfl, Nat.le_of_ble_eq_true rfl⟩) (w_preV hK hW hL_a0 hK_a0 (by decide) rfl) rfl rfl hl.1 rfl (lv_room (Nat.le_of_ble_eq_true rfl)) dX12_writesPaper_268 ⟨Nat.le_of_ble_eq_true rfl, Nat.le_of_ble_eq_true rfl⟩) hW (fun S_9 H locs hp hW => ?_)
    obtain ⟨hX_S_9, hp⟩ := hp
    refine W.widen (k := 0) (n := 0) (by decide) (by decide) ?_
    have hE := hE.trans hX_S_9
    have hK_a0 : sK S_9 a0 = 17 := (hX_S_9.2 a0 hL_a0).1.trans hK_a0
    have hL_a0 : wM D S_9 a0 := hX_S_9.M hL_a0
    exact t_X12_writesPaper_271 F hr hlocks hK hp hW hE (lv_sub hl [] rfl)
  · replace hp := hp.2 c_5
    refine lv_aload_n hx hb dX12_writesPaper_253 rfl (lv_at hl 0 rfl) ?_
    refine lv_bipush (v := 45) hx hb dX12_writesPaper_254 (by decide) ?_
    refine w_callV (va_runV (As := [.int (45 : Int32)]) (rest := []) F (c_X12_writes l hL_a0 hK_a0 hp H.size) (cwV (C := RX12) 1 hts (wg_V wm_RX12_247 wy_X12_writes) rfl rfl rfl (by decide +kernel) ⟨Nat.le_of_ble_eq_true rfl, Nat.le_of_ble_eq_true rfl⟩) (w_preV hK hW hL_a0 hK_a0 (by decide) rfl) rfl rfl hl.1 rfl (lv_room (Nat.le_of_ble_eq_true rfl)) dX12_writesPaper_256 ⟨Nat.le_of_ble_eq_true rfl, Nat.le_of_ble_eq_true rfl⟩) hW (fun S_11 H locs hp hW => ?_)
    obtain ⟨hX_S_11, hp⟩ := hp
    refine W.widen (k := 0) (n := 0) (by decide) (by decide) ?_
    have hE := hE.trans hX_S_11
    have hK_a0 : sK S_11 a0 = 17 := (hX_S_11.2 a0 hL_a0).1.trans hK_a0
    have hL_a0 : wM D S_11 a0 := hX_S_11.M hL_a0
    refine lv_goto (tgt := 271) hx hb dX12_writesPaper_259 (by decide) ?_
    exact t_X12_writesPaper_271 F hr hlocks hK hp hW hE (lv_sub hl [] rfl)
set_option maxHeartbeats 4000000 in
set_option maxRecDepth 100000 in
theorem t_X12_writesPaper_222 {p : Program} {l : Launch} {e : Env} {s : State} {m : MethodId} {args : Array Value} {below : List Frame} {meth : Method} {c : Code} {D : wD} {cy : Nat → ClassId} {X : va_W} {A : Nat → Prop} {S0 : wS} {post : wS → Prop} (F : CallFix p m c cX12_writesPaper 5 s args wz_X12_writesPaper RX12) (hr : meth.sig.returnType = none) (hlocks : meth.locks = false) (hK : wK D cy A s) {k_179 : wS → Nat → Int32 → Int32 → Prop} (q_179 : ∀ {S : wS} {H : Heap} {locs : List Loc} {ls : Array Slot} {a0 : Nat} {x1 : Int32} {x2 : Int32}, k_179 S a0 x1 x2 → wO D cy X A s.heap S H locs → wX D S0 S → lv_has ls 5 [(0, .ref a0), (1, .int x1), (2, .int x2)] → wM D S a0 → sK S a0 = 17 → W p l e r_X12_writesPaper s m args below meth c H locs 0 0 (MQ below (va_Qv (fun S9 => wX D S0 S9 ∧ post S9) (wB D cy X A) A) args s 0 0 A) (F0 m 179 ls [])) : ∀ {S : wS} {H : Heap} {locs : List Loc} {ls : Array Slot} {a0 : Nat} {x1 : Int32} {x2 : Int32}, wp_X12_writesPaper_222 D post k_179 S a0 x1 x2 → wO D cy X A s.heap S H locs → wX D S0 S → lv_has ls 5 [(0, .ref a0), (1, .int x1), (2, .int x2)] → wM D S a0 → sK S a0 = 17 → W p l e r_X12_writesPaper s m args below meth c H locs 0 0 (MQ below (va_Qv (fun S9 => wX D S0 S9 ∧ post S9) (wB D cy X A) A) args s 0 0 A) (F0 m 222 ls []) := by
  obtain ⟨hx, hb, hml, hown, hts⟩ := id F
  have hwg : ∀ w ∈ WG, w.before args s = true := fun w h => hts w (List.mem_cons_of_mem _ h)
  intro S H locs ls a0 x1 x2 hp hW hE hl hL_a0 hK_a0
  unfold wp_X12_writesPaper_222 at hp
  obtain ⟨x_1, ex_1⟩ : ∃ z : Int32, z = x2 + 1 := ⟨_, rfl⟩
  replace hp := hp x_1 ex_1
  refine lv_iinc (v := x_1) (lv' := [(2, .int x_1), (0, .ref a0), (1, .int x1)]) hx hb dX12_writesPaper_222 hl (k := 2) rfl (by rw [ex_1]; rfl) (by decide) rfl (fun ls hl => ?_)
  refine lv_goto (tgt := 179) hx hb dX12_writesPaper_225 (by decide) ?_
  exact q_179 hp hW hE (lv_sub hl [1, 2, 0] rfl) hL_a0 hK_a0
set_option maxHeartbeats 4000000 in
set_option maxRecDepth 100000 in
theorem t_X12_writesPaper_218 {p : Program} {l : Launch} {e : Env} {s : State} {m : MethodId} {args : Array Value} {below : List Frame} {meth : Method} {c : Code} {D : wD} {cy : Nat → ClassId} {X : va_W} {A : Nat → Prop} {S0 : wS} {post : wS → Prop} (F : CallFix p m c cX12_writesPaper 5 s args wz_X12_writesPaper RX12) (hr : meth.sig.returnType = none) (hlocks : meth.locks = false) (hK : wK D cy A s) {k_179 : wS → Nat → Int32 → Int32 → Prop} (q_179 : ∀ {S : wS} {H : Heap} {locs : List Loc} {ls : Array Slot} {a0 : Nat} {x1 : Int32} {x2 : Int32}, k_179 S a0 x1 x2 → wO D cy X A s.heap S H locs → wX D S0 S → lv_has ls 5 [(0, .ref a0), (1, .int x1), (2, .int x2)] → wM D S a0 → sK S a0 = 17 → W p l e r_X12_writesPaper s m args below meth c H locs 0 0 (MQ below (va_Qv (fun S9 => wX D S0 S9 ∧ post S9) (wB D cy X A) A) args s 0 0 A) (F0 m 179 ls [])) : ∀ {S : wS} {H : Heap} {locs : List Loc} {ls : Array Slot} {a0 : Nat} {x1 : Int32} {x2 : Int32} {b0 : Nat} {t1 : Int32} {t2 : Int32}, wp_X12_writesPaper_218 D post k_179 S a0 x1 x2 b0 t1 t2 → wO D cy X A s.heap S H locs → wX D S0 S → lv_has ls 5 [(0, .ref a0), (1, .int x1), (2, .int x2)] → wM D S a0 → sK S a0 = 17 → wM D S b0 → sK S b0 = 17 → W p l e r_X12_writesPaper s m args below meth c H locs 0 0 (MQ below (va_Qv (fun S9 => wX D S0 S9 ∧ post S9) (wB D cy X A) A) args s 0 0 A) (F0 m 218 ls [.int t2, .int t1, .ref b0]) := by
  obtain ⟨hx, hb, hml, hown, hts⟩ := id F
  have hwg : ∀ w ∈ WG, w.before args s = true := fun w h => hts w (List.mem_cons_of_mem _ h)
  intro S H locs ls a0 x1 x2 b0 t1 t2 hp hW hE hl hL_a0 hK_a0 hL_b0 hK_b0
  unfold wp_X12_writesPaper_218 at hp
  refine lv_iadd hx hb dX12_writesPaper_218 ?_
  refine w_callV (va_runV (As := [.int (t1 + t2)]) (rest := []) F (c_X12_writes l hL_b0 hK_b0 hp H.size) (cwV (C := RX12) 1 hts (wg_V wm_RX12_247 wy_X12_writes) rfl rfl rfl (by decide +kernel) ⟨Nat.le_of_ble_eq_true rfl, Nat.le_of_ble_eq_true rfl⟩) (w_preV hK hW hL_b0 hK_b0 (by decide) rfl) rfl rfl hl.1 rfl (lv_room (Nat.le_of_ble_eq_true rfl)) dX12_writesPaper_219 ⟨Nat.le_of_ble_eq_true rfl, Nat.le_of_ble_eq_true rfl⟩) hW (fun S_2 H locs hp hW => ?_)
  obtain ⟨hX_S_2, hp⟩ := hp
  refine W.widen (k := 0) (n := 0) (by decide) (by decide) ?_
  have hE := hE.trans hX_S_2
  have hK_a0 : sK S_2 a0 = 17 := (hX_S_2.2 a0 hL_a0).1.trans hK_a0
  have hL_a0 : wM D S_2 a0 := hX_S_2.M hL_a0
  exact t_X12_writesPaper_222 F hr hlocks hK q_179 hp hW hE (lv_sub hl [0, 1, 2] rfl) hL_a0 hK_a0
set_option maxHeartbeats 4000000 in
set_option maxRecDepth 100000 in
theorem t_X12_writesPaper_207 {p : Program} {l : Launch} {e : Env} {s : State} {m : MethodId} {args : Array Value} {below : List Frame} {meth : Method} {c : Code} {D : wD} {cy : Nat → ClassId} {X : va_W} {A : Nat → Prop} {S0 : wS} {post : wS → Prop} (F : CallFix p m c cX12_writesPaper 5 s args wz_X12_writesPaper RX12) (hr : meth.sig.returnType = none) (hlocks : meth.locks = false) (hK : wK D cy A s) {k_179 : wS → Nat → Int32 → Int32 → Prop} (q_179 : ∀ {S : wS} {H : Heap} {locs : List Loc} {ls : Array Slot} {a0 : Nat} {x1 : Int32} {x2 : Int32}, k_179 S a0 x1 x2 → wO D cy X A s.heap S H locs → wX D S0 S → lv_has ls 5 [(0, .ref a0), (1, .int x1), (2, .int x2)] → wM D S a0 → sK S a0 = 17 → W p l e r_X12_writesPaper s m args below meth c H locs 0 0 (MQ below (va_Qv (fun S9 => wX D S0 S9 ∧ post S9) (wB D cy X A) A) args s 0 0 A) (F0 m 179 ls [])) : ∀ {S : wS} {H : Heap} {locs : List Loc} {ls : Array Slot} {a0 : Nat} {x1 : Int32} {x2 : Int32} {b0 : Nat} {t1 : Int32}, wp_X12_writesPaper_207 D post k_179 S a0 x1 x2 b0 t1 → wO D cy X A s.heap S H locs → wX D S0 S → lv_has ls 5 [(0, .ref a0), (1, .int x1), (2, .int x2)] → wM D S a0 → sK S a0 = 17 → wM D S b0 → sK S b0 = 17 → W p l e r_X12_writesPaper s m args below meth c H locs 0 0 (MQ below (va_Qv (fun S9 => wX D S0 S9 ∧ post S9) (wB D cy X A) A) args s 0 0 A) (F0 m 207 ls [.int t1, .ref b0]) := by
  obtain ⟨hx, hb, hml, hown, hts⟩ := id F
  have hwg : ∀ w ∈ WG, w.before args s = true := fun w h => hts w (List.mem_cons_of_mem _ h)
  intro S H locs ls a0 x1 x2 b0 t1 hp hW hE hl hL_a0 hK_a0 hL_b0 hK_b0
  unfold wp_X12_writesPaper_207 at hp
  refine lv_iload_n hx hb dX12_writesPaper_207 rfl (lv_at hl 2 rfl) ?_
  refine lv_iconst (v := 2) hx hb dX12_writesPaper_208 (by decide) ?_
  refine lv_icmp_ge (tgt := 216) hx hb dX12_writesPaper_209 (by decide) (fun c_1 => ?_) (fun c_1 => ?_)
  · replace hp := hp.1 c_1
    refine lv_bipush (v := 32) hx hb dX12_writesPaper_216 (by decide) ?_
    exact t_X12_writesPaper_218 F hr hlocks hK q_179 hp hW hE (lv_sub hl [0, 1, 2] rfl) hL_a0 hK_a0 hL_b0 hK_b0
  · replace hp := hp.2 c_1
    refine lv_iconst (v := 0) hx hb dX12_writesPaper_212 (by decide) ?_
    refine lv_goto (tgt := 218) hx hb dX12_writesPaper_213 (by decide) ?_
    exact t_X12_writesPaper_218 F hr hlocks hK q_179 hp hW hE (lv_sub hl [0, 1, 2] rfl) hL_a0 hK_a0 hL_b0 hK_b0
set_option maxHeartbeats 4000000 in
set_option maxRecDepth 100000 in
theorem t_X12_writesPaper_179 {p : Program} {l : Launch} {e : Env} {s : State} {m : MethodId} {args : Array Value} {below : List Frame} {meth : Method} {c : Code} {D : wD} {cy : Nat → ClassId} {X : va_W} {A : Nat → Prop} {S0 : wS} {post : wS → Prop} (F : CallFix p m c cX12_writesPaper 5 s args wz_X12_writesPaper RX12) (hr : meth.sig.returnType = none) (hlocks : meth.locks = false) (hK : wK D cy A s) : ∀ (n : Nat) {S : wS} {H : Heap} {locs : List Loc} {ls : Array Slot} {a0 : Nat} {x1 : Int32} {x2 : Int32}, wp_X12_writesPaper_179 D post n S a0 x1 x2 → wO D cy X A s.heap S H locs → wX D S0 S → lv_has ls 5 [(0, .ref a0), (1, .int x1), (2, .int x2)] → wM D S a0 → sK S a0 = 17 → W p l e r_X12_writesPaper s m args below meth c H locs 0 0 (MQ below (va_Qv (fun S9 => wX D S0 S9 ∧ post S9) (wB D cy X A) A) args s 0 0 A) (F0 m 179 ls []) := by
  obtain ⟨hx, hb, hml, hown, hts⟩ := id F
  have hwg : ∀ w ∈ WG, w.before args s = true := fun w h => hts w (List.mem_cons_of_mem _ h)
  intro n
  induction n with
  | zero =>
    intro S H locs ls a0 x1 x2 hp
    exact hp.elim
  | succ n ih =>
    intro S H locs ls a0 x1 x2 hp hW hE hl hL_a0 hK_a0
    unfold wp_X12_writesPaper_179 at hp
    refine lv_iload_n hx hb dX12_writesPaper_179 rfl (lv_at hl 2 rfl) ?_
    refine lv_iconst (v := 4) hx hb dX12_writesPaper_180 (by decide) ?_
    refine lv_icmp_ge (tgt := 228) hx hb dX12_writesPaper_181 (by decide) (fun c_1 => ?_) (fun c_1 => ?_)
    · replace hp := hp.1 c_1
      refine lv_iload_n hx hb dX12_writesPaper_228 rfl (lv_at hl 1 rfl) ?_
      refine lv_if_ne (tgt := 238) hx hb dX12_writesPaper_229 (by decide) (fun c_2 => ?_) (fun c_2 => ?_)
      · replace hp := hp.1 c_2
        exact t_X12_writesPaper_238 F hr hlocks hK hp hW hE (lv_sub hl [0] rfl) hL_a0 hK_a0
      · replace hp := hp.2 c_2
        refine lv_aload_n hx hb dX12_writesPaper_232 rfl (lv_at hl 0 rfl) ?_
        refine lv_bipush (v := 45) hx hb dX12_writesPaper_233 (by decide) ?_
        refine w_callV (va_runV (As := [.int (45 : Int32)]) (rest := []) F (c_X12_writes l hL_a0 hK_a0 hp H.size) (cwV (C := RX12) 1 hts (wg_V wm_RX12_247 wy_X12_writes) rfl rfl rfl (by decide +kernel) ⟨Nat.le_of_ble_eq_true rfl, Nat.le_of_ble_eq_true rfl⟩) (w_preV hK hW hL_a0 hK_a0 (by decide) rfl) rfl rfl hl.1 rfl (lv_room (Nat.le_of_ble_eq_true rfl)) dX12_writesPaper_235 ⟨Nat.le_of_ble_eq_true rfl, Nat.le_of_ble_eq_true rfl⟩) hW (fun S_4 H locs hp hW => ?_)
        obtain ⟨hX_S_4, hp⟩ := hp
        refine W.widen (k := 0) (n := 0) (by decide) (by decide) ?_
        have hE := hE.trans hX_S_4
        have hK_a0 : sK S_4 a0 = 17 := (hX_S_4.2 a0 hL_a0).1.trans hK_a0
        have hL_a0 : wM D S_4 a0 := hX_S_4.M hL_a0
        exact t_X12_writesPaper_238 F hr hlocks hK hp hW hE (lv_sub hl [0] rfl) hL_a0 hK_a0
    · replace hp := hp.2 c_1
      refine lv_iload_n hx hb dX12_writesPaper_184 rfl (lv_at hl 1 rfl) ?_
      refine lv_iload_n hx hb dX12_writesPaper_185 rfl (lv_at hl 2 rfl) ?_
      refine lv_ishr hx hb dX12_writesPaper_186 ?_
      refine lv_iconst (v := 1) hx hb dX12_writesPaper_187 (by decide) ?_
      refine lv_iand hx hb dX12_writesPaper_188 ?_
      refine lv_iconst (v := 1) hx hb dX12_writesPaper_189 (by decide) ?_
      refine lv_icmp_ne (tgt := 222) hx hb dX12_writesPaper_190 (by decide) (fun c_5 => ?_) (fun c_5 => ?_)
      · replace hp := hp.1 c_5
        exact t_X12_writesPaper_222 F hr hlocks hK ih hp hW hE (lv_sub hl [0, 1, 2] rfl) hL_a0 hK_a0
      · replace hp := hp.2 c_5
        refine lv_aload_n hx hb dX12_writesPaper_193 rfl (lv_at hl 0 rfl) ?_
        refine lv_iload_n hx hb dX12_writesPaper_194 rfl (lv_at hl 2 rfl) ?_
        refine lv_iconst (v := 2) hx hb dX12_writesPaper_195 (by decide) ?_
        obtain ⟨h_6, hp⟩ := hp
        refine lv_irem hx hb dX12_writesPaper_196 h_6 ?_
        refine lv_if_ne (tgt := 205) hx hb dX12_writesPaper_197 (by decide) (fun c_7 => ?_) (fun c_7 => ?_)
        · replace hp := hp.1 c_7
          refine lv_bipush (v := 81) hx hb dX12_writesPaper_205 (by decide) ?_
          exact t_X12_writesPaper_207 F hr hlocks hK ih hp hW hE (lv_sub hl [0, 1, 2] rfl) hL_a0 hK_a0 hL_a0 hK_a0
        · replace hp := hp.2 c_7
          refine lv_bipush (v := 75) hx hb dX12_writesPaper_200 (by decide) ?_
          refine lv_goto (tgt := 207) hx hb dX12_writesPaper_202 (by decide) ?_
          exact t_X12_writesPaper_207 F hr hlocks hK ih hp hW hE (lv_sub hl [0, 1, 2] rfl) hL_a0 hK_a0 hL_a0 hK_a0
set_option maxHeartbeats 4000000 in
set_option maxRecDepth 100000 in
theorem t_X12_writesPaper_160 {p : Program} {l : Launch} {e : Env} {s : State} {m : MethodId} {args : Array Value} {below : List Frame} {meth : Method} {c : Code} {D : wD} {cy : Nat → ClassId} {X : va_W} {A : Nat → Prop} {S0 : wS} {post : wS → Prop} (F : CallFix p m c cX12_writesPaper 5 s args wz_X12_writesPaper RX12) (hr : meth.sig.returnType = none) (hlocks : meth.locks = false) (hK : wK D cy A s) : ∀ {S : wS} {H : Heap} {locs : List Loc} {ls : Array Slot} {a0 : Nat} {b0 : Nat} {t1 : Int32}, wp_X12_writesPaper_160 D post S a0 b0 t1 → wO D cy X A s.heap S H locs → wX D S0 S → lv_has ls 5 [(0, .ref a0)] → wM D S a0 → sK S a0 = 17 → wM D S b0 → sK S b0 = 17 → W p l e r_X12_writesPaper s m args below meth c H locs 0 0 (MQ below (va_Qv (fun S9 => wX D S0 S9 ∧ post S9) (wB D cy X A) A) args s 0 0 A) (F0 m 160 ls [.int t1, .ref b0]) := by
  obtain ⟨hx, hb, hml, hown, hts⟩ := id F
  have hwg : ∀ w ∈ WG, w.before args s = true := fun w h => hts w (List.mem_cons_of_mem _ h)
  have i_17 : ∀ w ∈ u_ws RX12 TX12 43, w ∈ wz_X12_writesPaper := fun w h => List.mem_cons_of_mem _ (wu_17 w h)
  have k_16 := hwg _ wf_RX12_16
  intro S H locs ls a0 b0 t1 hp hW hE hl hL_a0 hK_a0 hL_b0 hK_b0
  unfold wp_X12_writesPaper_160 at hp
  refine w_callV (va_runV (As := [.int t1]) (rest := []) F (c_X12_writes l hL_b0 hK_b0 hp H.size) (cwV (C := RX12) 1 hts (wg_V wm_RX12_247 wy_X12_writes) rfl rfl rfl (by decide +kernel) ⟨Nat.le_of_ble_eq_true rfl, Nat.le_of_ble_eq_true rfl⟩) (w_preV hK hW hL_b0 hK_b0 (by decide) rfl) rfl rfl hl.1 rfl (lv_room (Nat.le_of_ble_eq_true rfl)) dX12_writesPaper_160 ⟨Nat.le_of_ble_eq_true rfl, Nat.le_of_ble_eq_true rfl⟩) hW (fun S_2 H locs hp hW => ?_)
  obtain ⟨hX_S_2, hp⟩ := hp
  refine W.widen (k := 0) (n := 0) (by decide) (by decide) ?_
  have hE := hE.trans hX_S_2
  have hK_a0 : sK S_2 a0 = 17 := (hX_S_2.2 a0 hL_a0).1.trans hK_a0
  have hL_a0 : wM D S_2 a0 := hX_S_2.M hL_a0
  refine lv_aload_n hx hb dX12_writesPaper_163 rfl (lv_at hl 0 rfl) ?_
  refine lv_bipush (v := 32) hx hb dX12_writesPaper_164 (by decide) ?_
  refine w_callV (va_runV (As := [.int (32 : Int32)]) (rest := []) F (c_X12_writes l hL_a0 hK_a0 hp H.size) (cwV (C := RX12) 1 hts (wg_V wm_RX12_247 wy_X12_writes) rfl rfl rfl (by decide +kernel) ⟨Nat.le_of_ble_eq_true rfl, Nat.le_of_ble_eq_true rfl⟩) (w_preV hK hW hL_a0 hK_a0 (by decide) rfl) rfl rfl hl.1 rfl (lv_room (Nat.le_of_ble_eq_true rfl)) dX12_writesPaper_166 ⟨Nat.le_of_ble_eq_true rfl, Nat.le_of_ble_eq_true rfl⟩) hW (fun S_4 H locs hp hW => ?_)
  obtain ⟨hX_S_4, hp⟩ := hp
  refine W.widen (k := 0) (n := 0) (by decide) (by decide) ?_
  have hE := hE.trans hX_S_4
  have hK_a0 : sK S_4 a0 = 17 := (hX_S_4.2 a0 hL_a0).1.trans hK_a0
  have hL_a0 : wM D S_4 a0 := hX_S_4.M hL_a0
  refine lv_aload_n hx hb dX12_writesPaper_169 rfl (lv_at hl 0 rfl) ?_
  obtain ⟨y_5, ey_5, hL_y_5, hK_y_5, hp⟩ := hp
  refine w_get (k := 17) (f := 3) (T := TX12) (v := .ref y_5) F hK hW hL_a0 hK_a0 (by decide) rfl rfl (by decide) i_17 k_16 (by rw [show wv 17 3 S_4 a0 = va_rf (sR S_4 a0 3) from rfl, ey_5]; rfl) dX12_writesPaper_170 ?_
  refine lv_bipush (v := 65) hx hb dX12_writesPaper_173 (by decide) ?_
  obtain ⟨h_6, hp⟩ := hp
  refine w_ild F hK hW hL_y_5 hK_y_5 h_6 dX12_writesPaper_175 ?_
  refine lv_topi (fun x_7 ex_7 => ?_)
  replace hp := hp x_7 ex_7
  refine lv_istore_n (lv' := [(1, .int x_7), (0, .ref a0)]) hx hb dX12_writesPaper_176 rfl hl (by decide) rfl (fun ls hl => ?_)
  refine lv_iconst (v := 0) hx hb dX12_writesPaper_177 (by decide) ?_
  refine lv_istore_n (lv' := [(2, .int (0 : Int32)), (1, .int x_7), (0, .ref a0)]) hx hb dX12_writesPaper_178 rfl hl (by decide) rfl (fun ls hl => ?_)
  obtain ⟨n_8, hp⟩ := hp
  exact t_X12_writesPaper_179 F hr hlocks hK n_8 hp hW hE (lv_sub hl [2, 1, 0] rfl) hL_a0 hK_a0
set_option maxHeartbeats 4000000 in
set_option maxRecDepth 100000 in
theorem t_X12_writesPaper_134 {p : Program} {l : Launch} {e : Env} {s : State} {m : MethodId} {args : Array Value} {below : List Frame} {meth : Method} {c : Code} {D : wD} {cy : Nat → ClassId} {X : va_W} {A : Nat → Prop} {S0 : wS} {post : wS → Prop} (F : CallFix p m c cX12_writesPaper 5 s args wz_X12_writesPaper RX12) (hr : meth.sig.returnType = none) (hlocks : meth.locks = false) (hK : wK D cy A s) {k_12 : wS → Nat → Int32 → Prop} (q_12 : ∀ {S : wS} {H : Heap} {locs : List Loc} {ls : Array Slot} {a0 : Nat} {x1 : Int32}, k_12 S a0 x1 → wO D cy X A s.heap S H locs → wX D S0 S → lv_has ls 5 [(0, .ref a0), (1, .int x1)] → wM D S a0 → sK S a0 = 17 → W p l e r_X12_writesPaper s m args below meth c H locs 0 0 (MQ below (va_Qv (fun S9 => wX D S0 S9 ∧ post S9) (wB D cy X A) A) args s 0 0 A) (F0 m 12 ls [])) : ∀ {S : wS} {H : Heap} {locs : List Loc} {ls : Array Slot} {a0 : Nat} {x1 : Int32} {b0 : Nat} {t1 : Int32}, wp_X12_writesPaper_134 D post k_12 S a0 x1 b0 t1 → wO D cy X A s.heap S H locs → wX D S0 S → lv_has ls 5 [(0, .ref a0), (1, .int x1)] → wM D S a0 → sK S a0 = 17 → wM D S b0 → sK S b0 = 17 → W p l e r_X12_writesPaper s m args below meth c H locs 0 0 (MQ below (va_Qv (fun S9 => wX D S0 S9 ∧ post S9) (wB D cy X A) A) args s 0 0 A) (F0 m 134 ls [.int t1, .ref b0]) := by
  obtain ⟨hx, hb, hml, hown, hts⟩ := id F
  have hwg : ∀ w ∈ WG, w.before args s = true := fun w h => hts w (List.mem_cons_of_mem _ h)
  intro S H locs ls a0 x1 b0 t1 hp hW hE hl hL_a0 hK_a0 hL_b0 hK_b0
  unfold wp_X12_writesPaper_134 at hp
  refine w_callV (va_runV (As := [.int t1]) (rest := []) F (c_X12_writes l hL_b0 hK_b0 hp H.size) (cwV (C := RX12) 1 hts (wg_V wm_RX12_247 wy_X12_writes) rfl rfl rfl (by decide +kernel) ⟨Nat.le_of_ble_eq_true rfl, Nat.le_of_ble_eq_true rfl⟩) (w_preV hK hW hL_b0 hK_b0 (by decide) rfl) rfl rfl hl.1 rfl (lv_room (Nat.le_of_ble_eq_true rfl)) dX12_writesPaper_134 ⟨Nat.le_of_ble_eq_true rfl, Nat.le_of_ble_eq_true rfl⟩) hW (fun S_2 H locs hp hW => ?_)
  obtain ⟨hX_S_2, hp⟩ := hp
  refine W.widen (k := 0) (n := 0) (by decide) (by decide) ?_
  have hE := hE.trans hX_S_2
  have hK_a0 : sK S_2 a0 = 17 := (hX_S_2.2 a0 hL_a0).1.trans hK_a0
  have hL_a0 : wM D S_2 a0 := hX_S_2.M hL_a0
  obtain ⟨x_3, ex_3⟩ : ∃ z : Int32, z = x1 + (-1) := ⟨_, rfl⟩
  replace hp := hp x_3 ex_3
  refine lv_iinc (v := x_3) (lv' := [(1, .int x_3), (0, .ref a0)]) hx hb dX12_writesPaper_137 hl (k := 1) rfl (by rw [ex_3]; rfl) (by decide) rfl (fun ls hl => ?_)
  refine lv_goto (tgt := 12) hx hb dX12_writesPaper_140 (by decide) ?_
  exact q_12 hp hW hE (lv_sub hl [1, 0] rfl) hL_a0 hK_a0
set_option maxHeartbeats 4000000 in
set_option maxRecDepth 100000 in
theorem t_X12_writesPaper_122 {p : Program} {l : Launch} {e : Env} {s : State} {m : MethodId} {args : Array Value} {below : List Frame} {meth : Method} {c : Code} {D : wD} {cy : Nat → ClassId} {X : va_W} {A : Nat → Prop} {S0 : wS} {post : wS → Prop} (F : CallFix p m c cX12_writesPaper 5 s args wz_X12_writesPaper RX12) (hr : meth.sig.returnType = none) (hlocks : meth.locks = false) (hK : wK D cy A s) {k_12 : wS → Nat → Int32 → Prop} (q_12 : ∀ {S : wS} {H : Heap} {locs : List Loc} {ls : Array Slot} {a0 : Nat} {x1 : Int32}, k_12 S a0 x1 → wO D cy X A s.heap S H locs → wX D S0 S → lv_has ls 5 [(0, .ref a0), (1, .int x1)] → wM D S a0 → sK S a0 = 17 → W p l e r_X12_writesPaper s m args below meth c H locs 0 0 (MQ below (va_Qv (fun S9 => wX D S0 S9 ∧ post S9) (wB D cy X A) A) args s 0 0 A) (F0 m 12 ls [])) : ∀ {S : wS} {H : Heap} {locs : List Loc} {ls : Array Slot} {a0 : Nat} {x1 : Int32}, wp_X12_writesPaper_122 D post k_12 S a0 x1 → wO D cy X A s.heap S H locs → wX D S0 S → lv_has ls 5 [(0, .ref a0), (1, .int x1)] → wM D S a0 → sK S a0 = 17 → W p l e r_X12_writesPaper s m args below meth c H locs 0 0 (MQ below (va_Qv (fun S9 => wX D S0 S9 ∧ post S9) (wB D cy X A) A) args s 0 0 A) (F0 m 122 ls []) := by
  obtain ⟨hx, hb, hml, hown, hts⟩ := id F
  have hwg : ∀ w ∈ WG, w.before args s = true := fun w h => hts w (List.mem_cons_of_mem _ h)
  intro S H locs ls a0 x1 hp hW hE hl hL_a0 hK_a0
  unfold wp_X12_writesPaper_122 at hp
  refine lv_aload_n hx hb dX12_writesPaper_122 rfl (lv_at hl 0 rfl) ?_
  refine lv_iload_n hx hb dX12_writesPaper_123 rfl (lv_at hl 1 rfl) ?_
  refine lv_if_le (tgt := 132) hx hb dX12_writesPaper_124 (by decide) (fun c_1 => ?_) (fun c_1 => ?_)
  · replace hp := hp.1 c_1
    refine lv_bipush (v := 32) hx hb dX12_writesPaper_132 (by decide) ?_
    exact t_X12_writesPaper_134 F hr hlocks hK q_12 hp hW hE (lv_sub hl [0, 1] rfl) hL_a0 hK_a0 hL_a0 hK_a0
  · replace hp := hp.2 c_1
    refine lv_bipush (v := 47) hx hb dX12_writesPaper_127 (by decide) ?_
    refine lv_goto (tgt := 134) hx hb dX12_writesPaper_129 (by decide) ?_
    exact t_X12_writesPaper_134 F hr hlocks hK q_12 hp hW hE (lv_sub hl [0, 1] rfl) hL_a0 hK_a0 hL_a0 hK_a0
set_option maxHeartbeats 4000000 in
set_option maxRecDepth 100000 in
theorem t_X12_writesPaper_104 {p : Program} {l : Launch} {e : Env} {s : State} {m : MethodId} {args : Array Value} {below : List Frame} {meth : Method} {c : Code} {D : wD} {cy : Nat → ClassId} {X : va_W} {A : Nat → Prop} {S0 : wS} {post : wS → Prop} (F : CallFix p m c cX12_writesPaper 5 s args wz_X12_writesPaper RX12) (hr : meth.sig.returnType = none) (hlocks : meth.locks = false) (hK : wK D cy A s) {k_12 : wS → Nat → Int32 → Prop} (q_12 : ∀ {S : wS} {H : Heap} {locs : List Loc} {ls : Array Slot} {a0 : Nat} {x1 : Int32}, k_12 S a0 x1 → wO D cy X A s.heap S H locs → wX D S0 S → lv_has ls 5 [(0, .ref a0), (1, .int x1)] → wM D S a0 → sK S a0 = 17 → W p l e r_X12_writesPaper s m args below meth c H locs 0 0 (MQ below (va_Qv (fun S9 => wX D S0 S9 ∧ post S9) (wB D cy X A) A) args s 0 0 A) (F0 m 12 ls [])) {k_20 : wS → Nat → Int32 → Int32 → Int32 → Prop} (q_20 : ∀ {S : wS} {H : Heap} {locs : List Loc} {ls : Array Slot} {a0 : Nat} {x1 : Int32} {x2 : Int32} {x3 : Int32}, k_20 S a0 x1 x2 x3 → wO D cy X A s.heap S H locs → wX D S0 S → lv_has ls 5 [(0, .ref a0), (1, .int x1), (2, .int x2), (3, .int x3)] → wM D S a0 → sK S a0 = 17 → W p l e r_X12_writesPaper s m args below meth c H locs 0 0 (MQ below (va_Qv (fun S9 => wX D S0 S9 ∧ post S9) (wB D cy X A) A) args s 0 0 A) (F0 m 20 ls [])) : ∀ {S : wS} {H : Heap} {locs : List Loc} {ls : Array Slot} {a0 : Nat} {x1 : Int32} {x2 : Int32} {x3 : Int32}, wp_X12_writesPaper_104 D post k_12 k_20 S a0 x1 x2 x3 → wO D cy X A s.heap S H locs → wX D S0 S → lv_has ls 5 [(0, .ref a0), (1, .int x1), (2, .int x2), (3, .int x3)] → wM D S a0 → sK S a0 = 17 → W p l e r_X12_writesPaper s m args below meth c H locs 0 0 (MQ below (va_Qv (fun S9 => wX D S0 S9 ∧ post S9) (wB D cy X A) A) args s 0 0 A) (F0 m 104 ls []) := by
  obtain ⟨hx, hb, hml, hown, hts⟩ := id F
  have hwg : ∀ w ∈ WG, w.before args s = true := fun w h => hts w (List.mem_cons_of_mem _ h)
  intro S H locs ls a0 x1 x2 x3 hp hW hE hl hL_a0 hK_a0
  unfold wp_X12_writesPaper_104 at hp
  obtain ⟨x_1, ex_1⟩ : ∃ z : Int32, z = x3 + 1 := ⟨_, rfl⟩
  replace hp := hp x_1 ex_1
  refine lv_iinc (v := x_1) (lv' := [(3, .int x_1), (0, .ref a0), (1, .int x1), (2, .int x2)]) hx hb dX12_writesPaper_104 hl (k := 3) rfl (by rw [ex_1]; rfl) (by decide) rfl (fun ls hl => ?_)
  refine lv_goto (tgt := 20) hx hb dX12_writesPaper_107 (by decide) ?_
  exact q_20 hp hW hE (lv_sub hl [1, 2, 3, 0] rfl) hL_a0 hK_a0
set_option maxHeartbeats 4000000 in
set_option maxRecDepth 100000 in
theorem t_X12_writesPaper_100 {p : Program} {l : Launch} {e : Env} {s : State} {m : MethodId} {args : Array Value} {below : List Frame} {meth : Method} {c : Code} {D : wD} {cy : Nat → ClassId} {X : va_W} {A : Nat → Prop} {S0 : wS} {post : wS → Prop} (F : CallFix p m c cX12_writesPaper 5 s args wz_X12_writesPaper RX12) (hr : meth.sig.returnType = none) (hlocks : meth.locks = false) (hK : wK D cy A s) {k_12 : wS → Nat → Int32 → Prop} (q_12 : ∀ {S : wS} {H : Heap} {locs : List Loc} {ls : Array Slot} {a0 : Nat} {x1 : Int32}, k_12 S a0 x1 → wO D cy X A s.heap S H locs → wX D S0 S → lv_has ls 5 [(0, .ref a0), (1, .int x1)] → wM D S a0 → sK S a0 = 17 → W p l e r_X12_writesPaper s m args below meth c H locs 0 0 (MQ below (va_Qv (fun S9 => wX D S0 S9 ∧ post S9) (wB D cy X A) A) args s 0 0 A) (F0 m 12 ls [])) {k_20 : wS → Nat → Int32 → Int32 → Int32 → Prop} (q_20 : ∀ {S : wS} {H : Heap} {locs : List Loc} {ls : Array Slot} {a0 : Nat} {x1 : Int32} {x2 : Int32} {x3 : Int32}, k_20 S a0 x1 x2 x3 → wO D cy X A s.heap S H locs → wX D S0 S → lv_has ls 5 [(0, .ref a0), (1, .int x1), (2, .int x2), (3, .int x3)] → wM D S a0 → sK S a0 = 17 → W p l e r_X12_writesPaper s m args below meth c H locs 0 0 (MQ below (va_Qv (fun S9 => wX D S0 S9 ∧ post S9) (wB D cy X A) A) args s 0 0 A) (F0 m 20 ls [])) : ∀ {S : wS} {H : Heap} {locs : List Loc} {ls : Array Slot} {a0 : Nat} {x1 : Int32} {x2 : Int32} {x3 : Int32} {b0 : Nat} {t1 : Int32} {t2 : Int32}, wp_X12_writesPaper_100 D post k_12 k_20 S a0 x1 x2 x3 b0 t1 t2 → wO D cy X A s.heap S H locs → wX D S0 S → lv_has ls 5 [(0, .ref a0), (1, .int x1), (2, .int x2), (3, .int x3)] → wM D S a0 → sK S a0 = 17 → wM D S b0 → sK S b0 = 17 → W p l e r_X12_writesPaper s m args below meth c H locs 0 0 (MQ below (va_Qv (fun S9 => wX D S0 S9 ∧ post S9) (wB D cy X A) A) args s 0 0 A) (F0 m 100 ls [.int t2, .int t1, .ref b0]) := by
  obtain ⟨hx, hb, hml, hown, hts⟩ := id F
  have hwg : ∀ w ∈ WG, w.before args s = true := fun w h => hts w (List.mem_cons_of_mem _ h)
  intro S H locs ls a0 x1 x2 x3 b0 t1 t2 hp hW hE hl hL_a0 hK_a0 hL_b0 hK_b0
  unfold wp_X12_writesPaper_100 at hp
  refine lv_iadd hx hb dX12_writesPaper_100 ?_
  refine w_callV (va_runV (As := [.int (t1 + t2)]) (rest := []) F (c_X12_writes l hL_b0 hK_b0 hp H.size) (cwV (C := RX12) 1 hts (wg_V wm_RX12_247 wy_X12_writes) rfl rfl rfl (by decide +kernel) ⟨Nat.le_of_ble_eq_true rfl, Nat.le_of_ble_eq_true rfl⟩) (w_preV hK hW hL_b0 hK_b0 (by decide) rfl) rfl rfl hl.1 rfl (lv_room (Nat.le_of_ble_eq_true rfl)) dX12_writesPaper_101 ⟨Nat.le_of_ble_eq_true rfl, Nat.le_of_ble_eq_true rfl⟩) hW (fun S_2 H locs hp hW => ?_)
  obtain ⟨hX_S_2, hp⟩ := hp
  refine W.widen (k := 0) (n := 0) (by decide) (by decide) ?_
  have hE := hE.trans hX_S_2
  have hK_a0 : sK S_2 a0 = 17 := (hX_S_2.2 a0 hL_a0).1.trans hK_a0
  have hL_a0 : wM D S_2 a0 := hX_S_2.M hL_a0
  exact t_X12_writesPaper_104 F hr hlocks hK q_12 q_20 hp hW hE (lv_sub hl [0, 1, 2, 3] rfl) hL_a0 hK_a0
set_option maxHeartbeats 4000000 in
set_option maxRecDepth 100000 in
theorem t_X12_writesPaper_72 {p : Program} {l : Launch} {e : Env} {s : State} {m : MethodId} {args : Array Value} {below : List Frame} {meth : Method} {c : Code} {D : wD} {cy : Nat → ClassId} {X : va_W} {A : Nat → Prop} {S0 : wS} {post : wS → Prop} (F : CallFix p m c cX12_writesPaper 5 s args wz_X12_writesPaper RX12) (hr : meth.sig.returnType = none) (hlocks : meth.locks = false) (hK : wK D cy A s) {k_12 : wS → Nat → Int32 → Prop} (q_12 : ∀ {S : wS} {H : Heap} {locs : List Loc} {ls : Array Slot} {a0 : Nat} {x1 : Int32}, k_12 S a0 x1 → wO D cy X A s.heap S H locs → wX D S0 S → lv_has ls 5 [(0, .ref a0), (1, .int x1)] → wM D S a0 → sK S a0 = 17 → W p l e r_X12_writesPaper s m args below meth c H locs 0 0 (MQ below (va_Qv (fun S9 => wX D S0 S9 ∧ post S9) (wB D cy X A) A) args s 0 0 A) (F0 m 12 ls [])) {k_20 : wS → Nat → Int32 → Int32 → Int32 → Prop} (q_20 : ∀ {S : wS} {H : Heap} {locs : List Loc} {ls : Array Slot} {a0 : Nat} {x1 : Int32} {x2 : Int32} {x3 : Int32}, k_20 S a0 x1 x2 x3 → wO D cy X A s.heap S H locs → wX D S0 S → lv_has ls 5 [(0, .ref a0), (1, .int x1), (2, .int x2), (3, .int x3)] → wM D S a0 → sK S a0 = 17 → W p l e r_X12_writesPaper s m args below meth c H locs 0 0 (MQ below (va_Qv (fun S9 => wX D S0 S9 ∧ post S9) (wB D cy X A) A) args s 0 0 A) (F0 m 20 ls [])) : ∀ {S : wS} {H : Heap} {locs : List Loc} {ls : Array Slot} {a0 : Nat} {x1 : Int32} {x3 : Int32} {x4 : Int32} {t0 : Int32}, wp_X12_writesPaper_72 D post k_12 k_20 S a0 x1 x3 x4 t0 → wO D cy X A s.heap S H locs → wX D S0 S → lv_has ls 5 [(0, .ref a0), (1, .int x1), (3, .int x3), (4, .int x4)] → wM D S a0 → sK S a0 = 17 → W p l e r_X12_writesPaper s m args below meth c H locs 0 0 (MQ below (va_Qv (fun S9 => wX D S0 S9 ∧ post S9) (wB D cy X A) A) args s 0 0 A) (F0 m 72 ls [.int t0]) := by
  obtain ⟨hx, hb, hml, hown, hts⟩ := id F
  have hwg : ∀ w ∈ WG, w.before args s = true := fun w h => hts w (List.mem_cons_of_mem _ h)
  intro S H locs ls a0 x1 x3 x4 t0 hp hW hE hl hL_a0 hK_a0
  unfold wp_X12_writesPaper_72 at hp
  refine lv_istore_n (lv' := [(2, .int t0), (0, .ref a0), (1, .int x1), (3, .int x3), (4, .int x4)]) hx hb dX12_writesPaper_72 rfl hl (by decide) rfl (fun ls hl => ?_)
  refine lv_iload hx hb dX12_writesPaper_73 (lv_at hl 4 rfl) ?_
  refine lv_if_eq (tgt := 104) hx hb dX12_writesPaper_75 (by decide) (fun c_1 => ?_) (fun c_1 => ?_)
  · replace hp := hp.1 c_1
    exact t_X12_writesPaper_104 F hr hlocks hK q_12 q_20 hp hW hE (lv_sub hl [1, 2, 0, 3] rfl) hL_a0 hK_a0
  · replace hp := hp.2 c_1
    refine lv_aload_n hx hb dX12_writesPaper_78 rfl (lv_at hl 1 rfl) ?_
    refine lv_iload hx hb dX12_writesPaper_79 (lv_at hl 4 rfl) ?_
    refine w_callI (va_runS (As := [.int x4]) (rest := [.ref a0]) F (c_X12_kindOf l hp H.size) (va_cwS 1 hts (wg_S wm_RX12_148 wy_X12_kindOf) rfl rfl rfl (by decide +kernel) ⟨Nat.le_of_ble_eq_true rfl, Nat.le_of_ble_eq_true rfl⟩) (w_preS hK hW) rfl rfl hl.1 rfl (lv_room (Nat.le_of_ble_eq_true rfl)) dX12_writesPaper_81 ⟨Nat.le_of_ble_eq_true rfl, Nat.le_of_ble_eq_true rfl⟩) hW (fun r_2 S_3 H locs hp hW => ?_)
    obtain ⟨hX_S_3, hp⟩ := hp
    refine W.widen (k := 0) (n := 0) (by decide) (by decide) ?_
    have hE := hE.trans hX_S_3
    have hK_a0 : sK S_3 a0 = 17 := (hX_S_3.2 a0 hL_a0).1.trans hK_a0
    have hL_a0 : wM D S_3 a0 := hX_S_3.M hL_a0
    refine w_callI (va_runS (As := [.int r_2]) (rest := [.ref a0]) F (c_X12_letterOf l hp H.size) (va_cwS 1 hts (wg_S wm_RX12_250 wy_X12_letterOf) rfl rfl rfl (by decide +kernel) ⟨Nat.le_of_ble_eq_true rfl, Nat.le_of_ble_eq_true rfl⟩) (w_preS hK hW) rfl rfl hl.1 rfl (lv_room (Nat.le_of_ble_eq_true rfl)) dX12_writesPaper_84 ⟨Nat.le_of_ble_eq_true rfl, Nat.le_of_ble_eq_true rfl⟩) hW (fun r_4 S_5 H locs hp hW => ?_)
    obtain ⟨hX_S_5, hp⟩ := hp
    refine W.widen (k := 0) (n := 0) (by decide) (by decide) ?_
    have hE := hE.trans hX_S_5
    have hK_a0 : sK S_5 a0 = 17 := (hX_S_5.2 a0 hL_a0).1.trans hK_a0
    have hL_a0 : wM D S_5 a0 := hX_S_5.M hL_a0
    refine lv_iload hx hb dX12_writesPaper_87 (lv_at hl 4 rfl) ?_
    refine lv_bipush (v := 6) hx hb dX12_writesPaper_89 (by decide) ?_
    refine lv_icmp_le (tgt := 99) hx hb dX12_writesPaper_91 (by decide) (fun c_6 => ?_) (fun c_6 => ?_)
    · replace hp := hp.1 c_6
      refine lv_iconst (v := 0) hx hb dX12_writesPaper_99 (by decide) ?_
      exact t_X12_writesPaper_100 F hr hlocks hK q_12 q_20 hp hW hE (lv_sub hl [1, 2, 0, 3] rfl) hL_a0 hK_a0 hL_a0 hK_a0
    · replace hp := hp.2 c_6
      refine lv_bipush (v := 32) hx hb dX12_writesPaper_94 (by decide) ?_
      refine lv_goto (tgt := 100) hx hb dX12_writesPaper_96 (by decide) ?_
      exact t_X12_writesPaper_100 F hr hlocks hK q_12 q_20 hp hW hE (lv_sub hl [1, 2, 0, 3] rfl) hL_a0 hK_a0 hL_a0 hK_a0
set_option maxHeartbeats 4000000 in
set_option maxRecDepth 100000 in
theorem t_X12_writesPaper_60 {p : Program} {l : Launch} {e : Env} {s : State} {m : MethodId} {args : Array Value} {below : List Frame} {meth : Method} {c : Code} {D : wD} {cy : Nat → ClassId} {X : va_W} {A : Nat → Prop} {S0 : wS} {post : wS → Prop} (F : CallFix p m c cX12_writesPaper 5 s args wz_X12_writesPaper RX12) (hr : meth.sig.returnType = none) (hlocks : meth.locks = false) (hK : wK D cy A s) {k_12 : wS → Nat → Int32 → Prop} (q_12 : ∀ {S : wS} {H : Heap} {locs : List Loc} {ls : Array Slot} {a0 : Nat} {x1 : Int32}, k_12 S a0 x1 → wO D cy X A s.heap S H locs → wX D S0 S → lv_has ls 5 [(0, .ref a0), (1, .int x1)] → wM D S a0 → sK S a0 = 17 → W p l e r_X12_writesPaper s m args below meth c H locs 0 0 (MQ below (va_Qv (fun S9 => wX D S0 S9 ∧ post S9) (wB D cy X A) A) args s 0 0 A) (F0 m 12 ls [])) {k_20 : wS → Nat → Int32 → Int32 → Int32 → Prop} (q_20 : ∀ {S : wS} {H : Heap} {locs : List Loc} {ls : Array Slot} {a0 : Nat} {x1 : Int32} {x2 : Int32} {x3 : Int32}, k_20 S a0 x1 x2 x3 → wO D cy X A s.heap S H locs → wX D S0 S → lv_has ls 5 [(0, .ref a0), (1, .int x1), (2, .int x2), (3, .int x3)] → wM D S a0 → sK S a0 = 17 → W p l e r_X12_writesPaper s m args below meth c H locs 0 0 (MQ below (va_Qv (fun S9 => wX D S0 S9 ∧ post S9) (wB D cy X A) A) args s 0 0 A) (F0 m 20 ls [])) : ∀ {S : wS} {H : Heap} {locs : List Loc} {ls : Array Slot} {a0 : Nat} {x1 : Int32} {x2 : Int32} {x3 : Int32} {x4 : Int32}, wp_X12_writesPaper_60 D post k_12 k_20 S a0 x1 x2 x3 x4 → wO D cy X A s.heap S H locs → wX D S0 S → lv_has ls 5 [(0, .ref a0), (1, .int x1), (2, .int x2), (3, .int x3), (4, .int x4)] → wM D S a0 → sK S a0 = 17 → W p l e r_X12_writesPaper s m args below meth c H locs 0 0 (MQ below (va_Qv (fun S9 => wX D S0 S9 ∧ post S9) (wB D cy X A) A) args s 0 0 A) (F0 m 60 ls []) := by
  obtain ⟨hx, hb, hml, hown, hts⟩ := id F
  have hwg : ∀ w ∈ WG, w.before args s = true := fun w h => hts w (List.mem_cons_of_mem _ h)
  intro S H locs ls a0 x1 x2 x3 x4 hp hW hE hl hL_a0 hK_a0
  unfold wp_X12_writesPaper_60 at hp
  refine lv_iload hx hb dX12_writesPaper_60 (lv_at hl 4 rfl) ?_
  refine lv_if_ne (tgt := 71) hx hb dX12_writesPaper_62 (by decide) (fun c_1 => ?_) (fun c_1 => ?_)
  · replace hp := hp.1 c_1
    refine lv_iconst (v := 0) hx hb dX12_writesPaper_71 (by decide) ?_
    exact t_X12_writesPaper_72 F hr hlocks hK q_12 q_20 hp hW hE (lv_sub hl [0, 1, 3, 4] rfl) hL_a0 hK_a0
  · replace hp := hp.2 c_1
    refine lv_iload_n hx hb dX12_writesPaper_65 rfl (lv_at hl 2 rfl) ?_
    refine lv_iconst (v := 1) hx hb dX12_writesPaper_66 (by decide) ?_
    refine lv_iadd hx hb dX12_writesPaper_67 ?_
    refine lv_goto (tgt := 72) hx hb dX12_writesPaper_68 (by decide) ?_
    exact t_X12_writesPaper_72 F hr hlocks hK q_12 q_20 hp hW hE (lv_sub hl [0, 1, 3, 4] rfl) hL_a0 hK_a0
set_option maxHeartbeats 4000000 in
set_option maxRecDepth 100000 in
theorem t_X12_writesPaper_20 {p : Program} {l : Launch} {e : Env} {s : State} {m : MethodId} {args : Array Value} {below : List Frame} {meth : Method} {c : Code} {D : wD} {cy : Nat → ClassId} {X : va_W} {A : Nat → Prop} {S0 : wS} {post : wS → Prop} (F : CallFix p m c cX12_writesPaper 5 s args wz_X12_writesPaper RX12) (hr : meth.sig.returnType = none) (hlocks : meth.locks = false) (hK : wK D cy A s) {k_12 : wS → Nat → Int32 → Prop} (q_12 : ∀ {S : wS} {H : Heap} {locs : List Loc} {ls : Array Slot} {a0 : Nat} {x1 : Int32}, k_12 S a0 x1 → wO D cy X A s.heap S H locs → wX D S0 S → lv_has ls 5 [(0, .ref a0), (1, .int x1)] → wM D S a0 → sK S a0 = 17 → W p l e r_X12_writesPaper s m args below meth c H locs 0 0 (MQ below (va_Qv (fun S9 => wX D S0 S9 ∧ post S9) (wB D cy X A) A) args s 0 0 A) (F0 m 12 ls [])) : ∀ (n : Nat) {S : wS} {H : Heap} {locs : List Loc} {ls : Array Slot} {a0 : Nat} {x1 : Int32} {x2 : Int32} {x3 : Int32}, wp_X12_writesPaper_20 D post k_12 n S a0 x1 x2 x3 → wO D cy X A s.heap S H locs → wX D S0 S → lv_has ls 5 [(0, .ref a0), (1, .int x1), (2, .int x2), (3, .int x3)] → wM D S a0 → sK S a0 = 17 → W p l e r_X12_writesPaper s m args below meth c H locs 0 0 (MQ below (va_Qv (fun S9 => wX D S0 S9 ∧ post S9) (wB D cy X A) A) args s 0 0 A) (F0 m 20 ls []) := by
  obtain ⟨hx, hb, hml, hown, hts⟩ := id F
  have hwg : ∀ w ∈ WG, w.before args s = true := fun w h => hts w (List.mem_cons_of_mem _ h)
  have i_17 : ∀ w ∈ u_ws RX12 TX12 43, w ∈ wz_X12_writesPaper := fun w h => List.mem_cons_of_mem _ (wu_17 w h)
  have k_9 := hwg _ wf_RX12_9
  intro n
  induction n with
  | zero =>
    intro S H locs ls a0 x1 x2 x3 hp
    exact hp.elim
  | succ n ih =>
    intro S H locs ls a0 x1 x2 x3 hp hW hE hl hL_a0 hK_a0
    unfold wp_X12_writesPaper_20 at hp
    refine lv_iload_n hx hb dX12_writesPaper_20 rfl (lv_at hl 3 rfl) ?_
    refine lv_aload_n hx hb dX12_writesPaper_21 rfl (lv_at hl 0 rfl) ?_
    refine w_get (k := 17) (f := 1) (T := TX12) (v := .int (sI S a0 1)) F hK hW hL_a0 hK_a0 (by decide) rfl rfl (by decide) i_17 k_9 rfl dX12_writesPaper_22 ?_
    refine lv_icmp_ge (tgt := 110) hx hb dX12_writesPaper_25 (by decide) (fun c_1 => ?_) (fun c_1 => ?_)
    · replace hp := hp.1 c_1
      refine lv_iload_n hx hb dX12_writesPaper_110 rfl (lv_at hl 2 rfl) ?_
      refine lv_if_le (tgt := 122) hx hb dX12_writesPaper_111 (by decide) (fun c_2 => ?_) (fun c_2 => ?_)
      · replace hp := hp.1 c_2
        exact t_X12_writesPaper_122 F hr hlocks hK q_12 hp hW hE (lv_sub hl [0, 1] rfl) hL_a0 hK_a0
      · replace hp := hp.2 c_2
        refine lv_aload_n hx hb dX12_writesPaper_114 rfl (lv_at hl 0 rfl) ?_
        refine lv_bipush (v := 48) hx hb dX12_writesPaper_115 (by decide) ?_
        refine lv_iload_n hx hb dX12_writesPaper_117 rfl (lv_at hl 2 rfl) ?_
        refine lv_iadd hx hb dX12_writesPaper_118 ?_
        refine w_callV (va_runV (As := [.int ((48 : Int32) + x2)]) (rest := []) F (c_X12_writes l hL_a0 hK_a0 hp H.size) (cwV (C := RX12) 1 hts (wg_V wm_RX12_247 wy_X12_writes) rfl rfl rfl (by decide +kernel) ⟨Nat.le_of_ble_eq_true rfl, Nat.le_of_ble_eq_true rfl⟩) (w_preV hK hW hL_a0 hK_a0 (by decide) rfl) rfl rfl hl.1 rfl (lv_room (Nat.le_of_ble_eq_true rfl)) dX12_writesPaper_119 ⟨Nat.le_of_ble_eq_true rfl, Nat.le_of_ble_eq_true rfl⟩) hW (fun S_4 H locs hp hW => ?_)
        obtain ⟨hX_S_4, hp⟩ := hp
        refine W.widen (k := 0) (n := 0) (by decide) (by decide) ?_
        have hE := hE.trans hX_S_4
        have hK_a0 : sK S_4 a0 = 17 := (hX_S_4.2 a0 hL_a0).1.trans hK_a0
        have hL_a0 : wM D S_4 a0 := hX_S_4.M hL_a0
        exact t_X12_writesPaper_122 F hr hlocks hK q_12 hp hW hE (lv_sub hl [0, 1] rfl) hL_a0 hK_a0
    · replace hp := hp.2 c_1
      refine lv_aload_n hx hb dX12_writesPaper_28 rfl (lv_at hl 0 rfl) ?_
      refine lv_iconst (v := 0) hx hb dX12_writesPaper_29 (by decide) ?_
      refine lv_aload_n hx hb dX12_writesPaper_30 rfl (lv_at hl 0 rfl) ?_
      refine w_get (k := 17) (f := 1) (T := TX12) (v := .int (sI S a0 1)) F hK hW hL_a0 hK_a0 (by decide) rfl rfl (by decide) i_17 k_9 rfl dX12_writesPaper_31 ?_
      refine lv_iload_n hx hb dX12_writesPaper_34 rfl (lv_at hl 1 rfl) ?_
      refine lv_imul hx hb dX12_writesPaper_35 ?_
      refine lv_iload_n hx hb dX12_writesPaper_36 rfl (lv_at hl 3 rfl) ?_
      refine lv_iadd hx hb dX12_writesPaper_37 ?_
      refine w_callI (va_runV (As := [.int (0 : Int32), .int (((sI S a0 1) * x1) + x3)]) (rest := []) F (c_X12_on l hL_a0 hK_a0 hp H.size) (cwV (C := RX12) 2 hts (wg_V wm_RX12_141 wy_X12_on) rfl rfl rfl (by decide +kernel) ⟨Nat.le_of_ble_eq_true rfl, Nat.le_of_ble_eq_true rfl⟩) (w_preV hK hW hL_a0 hK_a0 (by decide) rfl) rfl rfl hl.1 rfl (lv_room (Nat.le_of_ble_eq_true rfl)) dX12_writesPaper_38 ⟨Nat.le_of_ble_eq_true rfl, Nat.le_of_ble_eq_true rfl⟩) hW (fun r_5 S_6 H locs hp hW => ?_)
      obtain ⟨hX_S_6, hp⟩ := hp
      refine W.widen (k := 0) (n := 0) (by decide) (by decide) ?_
      have hE := hE.trans hX_S_6
      have hK_a0 : sK S_6 a0 = 17 := (hX_S_6.2 a0 hL_a0).1.trans hK_a0
      have hL_a0 : wM D S_6 a0 := hX_S_6.M hL_a0
      refine lv_istore (lv' := [(4, .int r_5), (0, .ref a0), (1, .int x1), (2, .int x2), (3, .int x3)]) hx hb dX12_writesPaper_41 hl (by decide) rfl (fun ls hl => ?_)
      refine lv_iload hx hb dX12_writesPaper_43 (lv_at hl 0 rfl) ?_
      refine lv_if_eq (tgt := 60) hx hb dX12_writesPaper_45 (by decide) (fun c_7 => ?_) (fun c_7 => ?_)
      · replace hp := hp.1 c_7
        exact t_X12_writesPaper_60 F hr hlocks hK q_12 ih hp hW hE (lv_sub hl [1, 2, 3, 4, 0] rfl) hL_a0 hK_a0
      · replace hp := hp.2 c_7
        refine lv_iload_n hx hb dX12_writesPaper_48 rfl (lv_at hl 3 rfl) ?_
        refine lv_if_le (tgt := 60) hx hb dX12_writesPaper_49 (by decide) (fun c_8 => ?_) (fun c_8 => ?_)
        · replace hp := hp.1 c_8
          exact t_X12_writesPaper_60 F hr hlocks hK q_12 ih hp hW hE (lv_sub hl [1, 2, 3, 4, 0] rfl) hL_a0 hK_a0
        · replace hp := hp.2 c_8
          refine lv_aload_n hx hb dX12_writesPaper_52 rfl (lv_at hl 1 rfl) ?_
          refine lv_bipush (v := 48) hx hb dX12_writesPaper_53 (by decide) ?_
          refine lv_iload_n hx hb dX12_writesPaper_55 rfl (lv_at hl 3 rfl) ?_
          refine lv_iadd hx hb dX12_writesPaper_56 ?_
          refine w_callV (va_runV (As := [.int ((48 : Int32) + x2)]) (rest := []) F (c_X12_writes l hL_a0 hK_a0 hp H.size) (cwV (C := RX12) 1 hts (wg_V wm_RX12_247 wy_X12_writes) rfl rfl rfl (by decide +kernel) ⟨Nat.le_of_ble_eq_true rfl, Nat.le_of_ble_eq_true rfl⟩) (w_preV hK hW hL_a0 hK_a0 (by decide) rfl) rfl rfl hl.1 rfl (lv_room (Nat.le_of_ble_eq_true rfl)) dX12_writesPaper_57 ⟨Nat.le_of_ble_eq_true rfl, Nat.le_of_ble_eq_true rfl⟩) hW (fun S_10 H locs hp hW => ?_)
          obtain ⟨hX_S_10, hp⟩ := hp
          refine W.widen (k := 0) (n := 0) (by decide) (by decide) ?_
          have hE := hE.trans hX_S_10
          have hK_a0 : sK S_10 a0 = 17 := (hX_S_10.2 a0 hL_a0).1.trans hK_a0
          have hL_a0 : wM D S_10 a0 := hX_S_10.M hL_a0
          exact t_X12_writesPaper_60 F hr hlocks hK q_12 ih hp hW hE (lv_sub hl [1, 2, 3, 4, 0] rfl) hL_a0 hK_a0
set_option maxHeartbeats 4000000 in
set_option maxRecDepth 100000 in
theorem t_X12_writesPaper_12 {p : Program} {l : Launch} {e : Env} {s : State} {m : MethodId} {args : Array Value} {below : List Frame} {meth : Method} {c : Code} {D : wD} {cy : Nat → ClassId} {X : va_W} {A : Nat → Prop} {S0 : wS} {post : wS → Prop} (F : CallFix p m c cX12_writesPaper 5 s args wz_X12_writesPaper RX12) (hr : meth.sig.returnType = none) (hlocks : meth.locks = false) (hK : wK D cy A s) : ∀ (n : Nat) {S : wS} {H : Heap} {locs : List Loc} {ls : Array Slot} {a0 : Nat} {x1 : Int32}, wp_X12_writesPaper_12 D post n S a0 x1 → wO D cy X A s.heap S H locs → wX D S0 S → lv_has ls 5 [(0, .ref a0), (1, .int x1)] → wM D S a0 → sK S a0 = 17 → W p l e r_X12_writesPaper s m args below meth c H locs 0 0 (MQ below (va_Qv (fun S9 => wX D S0 S9 ∧ post S9) (wB D cy X A) A) args s 0 0 A) (F0 m 12 ls []) := by
  obtain ⟨hx, hb, hml, hown, hts⟩ := id F
  have hwg : ∀ w ∈ WG, w.before args s = true := fun w h => hts w (List.mem_cons_of_mem _ h)
  intro n
  induction n with
  | zero =>
    intro S H locs ls a0 x1 hp
    exact hp.elim
  | succ n ih =>
    intro S H locs ls a0 x1 hp hW hE hl hL_a0 hK_a0
    unfold wp_X12_writesPaper_12 at hp
    refine lv_iload_n hx hb dX12_writesPaper_12 rfl (lv_at hl 1 rfl) ?_
    refine lv_if_lt (tgt := 143) hx hb dX12_writesPaper_13 (by decide) (fun c_1 => ?_) (fun c_1 => ?_)
    · replace hp := hp.1 c_1
      refine lv_aload_n hx hb dX12_writesPaper_143 rfl (lv_at hl 0 rfl) ?_
      refine lv_aload_n hx hb dX12_writesPaper_144 rfl (lv_at hl 0 rfl) ?_
      refine lv_iconst (v := 0) hx hb dX12_writesPaper_145 (by decide) ?_
      refine w_callI (va_runV (As := [.int (0 : Int32)]) (rest := [.ref a0]) F (c_X12_side l hL_a0 hK_a0 hp H.size) (cwV (C := RX12) 1 hts (wg_V wm_RX12_183 wy_X12_side) rfl rfl rfl (by decide +kernel) ⟨Nat.le_of_ble_eq_true rfl, Nat.le_of_ble_eq_true rfl⟩) (w_preV hK hW hL_a0 hK_a0 (by decide) rfl) rfl rfl hl.1 rfl (lv_room (Nat.le_of_ble_eq_true rfl)) dX12_writesPaper_146 ⟨Nat.le_of_ble_eq_true rfl, Nat.le_of_ble_eq_true rfl⟩) hW (fun r_2 S_3 H locs hp hW => ?_)
      obtain ⟨hX_S_3, hp⟩ := hp
      refine W.widen (k := 0) (n := 0) (by decide) (by decide) ?_
      have hE := hE.trans hX_S_3
      have hK_a0 : sK S_3 a0 = 17 := (hX_S_3.2 a0 hL_a0).1.trans hK_a0
      have hL_a0 : wM D S_3 a0 := hX_S_3.M hL_a0
      refine lv_iconst (v := 1) hx hb dX12_writesPaper_149 (by decide) ?_
      refine lv_icmp_ne (tgt := 158) hx hb dX12_writesPaper_150 (by decide) (fun c_4 => ?_) (fun c_4 => ?_)
      · replace hp := hp.1 c_4
        refine lv_bipush (v := 98) hx hb dX12_writesPaper_158 (by decide) ?_
        exact t_X12_writesPaper_160 F hr hlocks hK hp hW hE (lv_sub hl [0] rfl) hL_a0 hK_a0 hL_a0 hK_a0
      · replace hp := hp.2 c_4
        refine lv_bipush (v := 119) hx hb dX12_writesPaper_153 (by decide) ?_
        refine lv_goto (tgt := 160) hx hb dX12_writesPaper_155 (by decide) ?_
        exact t_X12_writesPaper_160 F hr hlocks hK hp hW hE (lv_sub hl [0] rfl) hL_a0 hK_a0 hL_a0 hK_a0
    · replace hp := hp.2 c_1
      refine lv_iconst (v := 0) hx hb dX12_writesPaper_16 (by decide) ?_
      refine lv_istore_n (lv' := [(2, .int (0 : Int32)), (0, .ref a0), (1, .int x1)]) hx hb dX12_writesPaper_17 rfl hl (by decide) rfl (fun ls hl => ?_)
      refine lv_iconst (v := 0) hx hb dX12_writesPaper_18 (by decide) ?_
      refine lv_istore_n (lv' := [(3, .int (0 : Int32)), (2, .int (0 : Int32)), (0, .ref a0), (1, .int x1)]) hx hb dX12_writesPaper_19 rfl hl (by decide) rfl (fun ls hl => ?_)
      obtain ⟨n_5, hp⟩ := hp
      exact t_X12_writesPaper_20 F hr hlocks hK ih n_5 hp hW hE (lv_sub hl [2, 3, 1, 0] rfl) hL_a0 hK_a0
set_option maxHeartbeats 4000000 in
set_option maxRecDepth 100000 in
theorem t_X12_writesPaper_0 {p : Program} {l : Launch} {e : Env} {s : State} {m : MethodId} {args : Array Value} {below : List Frame} {meth : Method} {c : Code} {D : wD} {cy : Nat → ClassId} {X : va_W} {A : Nat → Prop} {S0 : wS} {post : wS → Prop} (F : CallFix p m c cX12_writesPaper 5 s args wz_X12_writesPaper RX12) (hr : meth.sig.returnType = none) (hlocks : meth.locks = false) (hK : wK D cy A s) : ∀ {S : wS} {H : Heap} {locs : List Loc} {ls : Array Slot} {a0 : Nat}, wp_X12_writesPaper_0 D post S a0 → wO D cy X A s.heap S H locs → wX D S0 S → lv_has ls 5 [(0, .ref a0)] → wM D S a0 → sK S a0 = 17 → W p l e r_X12_writesPaper s m args below meth c H locs 0 0 (MQ below (va_Qv (fun S9 => wX D S0 S9 ∧ post S9) (wB D cy X A) A) args s 0 0 A) (F0 m 0 ls []) := by
  obtain ⟨hx, hb, hml, hown, hts⟩ := id F
  have hwg : ∀ w ∈ WG, w.before args s = true := fun w h => hts w (List.mem_cons_of_mem _ h)
  have i_17 : ∀ w ∈ u_ws RX12 TX12 43, w ∈ wz_X12_writesPaper := fun w h => List.mem_cons_of_mem _ (wu_17 w h)
  have k_13 := hwg _ wf_RX12_13
  have k_244 := hwg _ wf_RX12_244
  intro S H locs ls a0 hp hW hE hl hL_a0 hK_a0
  unfold wp_X12_writesPaper_0 at hp
  refine lv_aload_n hx hb dX12_writesPaper_0 rfl (lv_at hl 0 rfl) ?_
  refine lv_iconst (v := 0) hx hb dX12_writesPaper_1 (by decide) ?_
  refine w_putI (k := 17) (f := 15) (T := TX12) F hK hW hL_a0 hK_a0 (by decide) (by decide) rfl rfl (by decide) i_17 tyX12 tyX12_ok nmX12 k_244 rfl rfl (ty := .int) rfl rfl rfl dX12_writesPaper_2 (fun H locs hW => ?_)
  obtain ⟨S_1, eS_1⟩ : ∃ z : wS, z = uI S a0 15 (0 : Int32) := ⟨_, rfl⟩
  rw [← eS_1] at hW
  replace hp := hp S_1 eS_1
  have hX_S_1 : wX D S S_1 := by rw [eS_1]; exact wX_uI
  have hE := hE.trans hX_S_1
  have hK_a0 : sK S_1 a0 = 17 := (hX_S_1.2 a0 hL_a0).1.trans hK_a0
  have hL_a0 : wM D S_1 a0 := hX_S_1.M hL_a0
  refine lv_aload_n hx hb dX12_writesPaper_5 rfl (lv_at hl 0 rfl) ?_
  refine w_get (k := 17) (f := 2) (T := TX12) (v := .int (sI S_1 a0 2)) F hK hW hL_a0 hK_a0 (by decide) rfl rfl (by decide) i_17 k_13 rfl dX12_writesPaper_6 ?_
  refine lv_iconst (v := 1) hx hb dX12_writesPaper_9 (by decide) ?_
  refine lv_isub hx hb dX12_writesPaper_10 ?_
  refine lv_topi (fun x_2 ex_2 => ?_)
  replace hp := hp x_2 ex_2
  refine lv_istore_n (lv' := [(1, .int x_2), (0, .ref a0)]) hx hb dX12_writesPaper_11 rfl hl (by decide) rfl (fun ls hl => ?_)
  obtain ⟨n_3, hp⟩ := hp
  exact t_X12_writesPaper_12 F hr hlocks hK n_3 hp hW hE (lv_sub hl [1, 0] rfl) hL_a0 hK_a0
set_option maxHeartbeats 4000000 in
set_option maxRecDepth 100000 in
theorem c_X12_writesPaper (l : Launch) {D : wD} {cy : Nat → ClassId} {X : va_W} {S0 : wS} {post : wS → Prop} {a0 : Nat} (hL_a0 : wM D S0 a0) (hK_a0 : sK S0 a0 = 17) (hp : wp_X12_writesPaper D post S0 a0) : mV D cy X l yX12_writesPaper wz_X12_writesPaper r_X12_writesPaper [.ref a0] S0 (fun S9 => wX D S0 S9 ∧ post S9) := by
  intro sz
  refine Met.ofW (cc := cX12_writesPaper) (maxL := 5) (ret := none) (by decide) rfl ?_
  intro p e s m args below meth c s₁ B hml hv
  obtain ⟨rfl, hsz, hP, hK, hD0, hRO⟩ := hv
  have hts := atoms_spec (ws := wz_X12_writesPaper) B.pre
  have hown : s.vm.findClass RX12 = some m.cls := findClass_of_methodNamed B.named
  subst hsz
  have hD := hD0.self (sz := s.heap.size)
  have F : CallFix p m c cX12_writesPaper 5 s _ wz_X12_writesPaper RX12 := ⟨B.exec, B.bytes, hml, hown, hts⟩
  have hr := B.returns
  have hlocks := B.notSynchronized
  generalize hAe : va_A (wL cy X S0) s.heap.size = A at hD hK ⊢
  have hA : ∀ q, s.heap.size ≤ q → A q := fun q h => by rw [← hAe]; exact Or.inr h
  have hW : wO D cy X A s.heap S0 s.heap [] := ⟨hP, hD, va_S.rf, hA, hRO⟩
  have hl := lv_entry ([.ref a0]) (n := 5) (Nat.le_of_ble_eq_true rfl)
  rw [lg_entry_eq]
  generalize (lg_sl ([.ref a0]) ++ List.replicate (5 - (lg_sl ([.ref a0])).length) Slot.unset).toArray = ls at hl ⊢
  have hl : lv_has ls 5 [(0, .ref a0)] := hl
  unfold wp_X12_writesPaper at hp
  exact t_X12_writesPaper_0 F hr hlocks hK hp hW wX.rf (lv_sub hl [0] rfl) hL_a0 hK_a0
def wp_X12_isAsWritten_62 (D : wD) (post : Int32 → wS → Prop)  (S : wS) (x1 : Int32) : Prop :=
narrow .boolean (.int x1) = .int x1 ∧ post x1 S
def wp_X12_isAsWritten_55 (D : wD) (post : Int32 → wS → Prop) (k_23 : wS → Nat → Int32 → Int32 → Prop) (S : wS) (a0 : Nat) (x2 : Int32) (t0 : Int32) : Prop :=
∀ x_1 : Int32, x_1 = x2 + 1 →
k_23 S a0 t0 x_1
def wp_X12_isAsWritten_23 (D : wD) (post : Int32 → wS → Prop)  : Nat → wS → Nat → Int32 → Int32 → Prop
  | 0, _, _, _, _ => False
  | n + 1, S, a0, x1, x2 =>
    (((sI S a0 13) ≤ x2 → wp_X12_isAsWritten_62 D post S x1) ∧
     (¬ (sI S a0 13) ≤ x2 → ((x1 = 0 → wp_X12_isAsWritten_62 D post S x1) ∧
     (¬ x1 = 0 → ∃ y_3 : Nat, sR S a0 14 = some y_3 ∧ wM D S y_3 ∧ sK S y_3 = 21 ∧
    vp_in x2 (sN S y_3) ∧
    ∃ y_5 : Nat, sR S a0 12 = some y_5 ∧ wM D S y_5 ∧ sK S y_5 = 21 ∧
    vp_in x2 (sN S y_5) ∧
    ((¬ (sI S y_3 (x2).toNatClampNeg) = (sI S y_5 (x2).toNatClampNeg) → wp_X12_isAsWritten_55 D post (wp_X12_isAsWritten_23 D post n) S a0 x2 (0 : Int32)) ∧
     ((sI S y_3 (x2).toNatClampNeg) = (sI S y_5 (x2).toNatClampNeg) → wp_X12_isAsWritten_55 D post (wp_X12_isAsWritten_23 D post n) S a0 x2 (1 : Int32)))))))
def wp_X12_isAsWritten_20 (D : wD) (post : Int32 → wS → Prop)  (S : wS) (a0 : Nat) (t0 : Int32) : Prop :=
∃ n_1 : Nat, wp_X12_isAsWritten_23 D post n_1 S a0 t0 (0 : Int32)
def wp_X12_isAsWritten_0 (D : wD) (post : Int32 → wS → Prop)  (S : wS) (a0 : Nat) : Prop :=
wp_X12_writesPaper D (fun S_2 => 
((¬ (sI S_2 a0 15) = (sI S_2 a0 13) → wp_X12_isAsWritten_20 D post S_2 a0 (0 : Int32)) ∧
 ((sI S_2 a0 15) = (sI S_2 a0 13) → wp_X12_isAsWritten_20 D post S_2 a0 (1 : Int32)))) S a0
abbrev r_X12_isAsWritten : Room := { frames := 3, cells := 0, slots := 0, locals := 66 }
def wp_X12_isAsWritten (D : wD) (post : Int32 → wS → Prop) (S : wS) (a0 : Nat) : Prop := wp_X12_isAsWritten_0 D post S a0
set_option maxHeartbeats 4000000 in
set_option maxRecDepth 100000 in
theorem t_X12_isAsWritten_62 {p : Program} {l : Launch} {e : Env} {s : State} {m : MethodId} {args : Array Value} {below : List Frame} {meth : Method} {c : Code} {D : wD} {cy : Nat → ClassId} {X : va_W} {A : Nat → Prop} {S0 : wS} {post : Int32 → wS → Prop} (F : CallFix p m c cX12_isAsWritten 3 s args wz_X12_isAsWritten RX12) (hr : meth.sig.returnType = (some .boolean)) (hlocks : meth.locks = false) (hK : wK D cy A s) : ∀ {S : wS} {H : Heap} {locs : List Loc} {ls : Array Slot} {x1 : Int32}, wp_X12_isAsWritten_62 D post S x1 → wO D cy X A s.heap S H locs → wX D S0 S → lv_has ls 3 [(1, .int x1)] → W p l e r_X12_isAsWritten s m args below meth c H locs 0 0 (MQ below (va_Qi (fun r S9 => wX D S0 S9 ∧ post r S9) (wB D cy X A) A) args s 0 0 A) (F0 m 62 ls []) := by
  obtain ⟨hx, hb, hml, hown, hts⟩ := id F
  have hwg : ∀ w ∈ WG, w.before args s = true := fun w h => hts w (List.mem_cons_of_mem _ h)
  intro S H locs ls x1 hp hW hE hl
  unfold wp_X12_isAsWritten_62 at hp
  refine lv_iload_n hx hb dX12_isAsWritten_62 rfl (lv_at hl 0 rfl) ?_
  exact w_zret hx hb hr hlocks hW hp.1 ⟨hE, hp.2⟩ dX12_isAsWritten_63
set_option maxHeartbeats 4000000 in
set_option maxRecDepth 100000 in
theorem t_X12_isAsWritten_55 {p : Program} {l : Launch} {e : Env} {s : State} {m : MethodId} {args : Array Value} {below : List Frame} {meth : Method} {c : Code} {D : wD} {cy : Nat → ClassId} {X : va_W} {A : Nat → Prop} {S0 : wS} {post : Int32 → wS → Prop} (F : CallFix p m c cX12_isAsWritten 3 s args wz_X12_isAsWritten RX12) (hr : meth.sig.returnType = (some .boolean)) (hlocks : meth.locks = false) (hK : wK D cy A s) {k_23 : wS → Nat → Int32 → Int32 → Prop} (q_23 : ∀ {S : wS} {H : Heap} {locs : List Loc} {ls : Array Slot} {a0 : Nat} {x1 : Int32} {x2 : Int32}, k_23 S a0 x1 x2 → wO D cy X A s.heap S H locs → wX D S0 S → lv_has ls 3 [(0, .ref a0), (1, .int x1), (2, .int x2)] → wM D S a0 → sK S a0 = 17 → W p l e r_X12_isAsWritten s m args below meth c H locs 0 0 (MQ below (va_Qi (fun r S9 => wX D S0 S9 ∧ post r S9) (wB D cy X A) A) args s 0 0 A) (F0 m 23 ls [])) : ∀ {S : wS} {H : Heap} {locs : List Loc} {ls : Array Slot} {a0 : Nat} {x2 : Int32} {t0 : Int32}, wp_X12_isAsWritten_55 D post k_23 S a0 x2 t0 → wO D cy X A s.heap S H locs → wX D S0 S → lv_has ls 3 [(0, .ref a0), (2, .int x2)] → wM D S a0 → sK S a0 = 17 → W p l e r_X12_isAsWritten s m args below meth c H locs 0 0 (MQ below (va_Qi (fun r S9 => wX D S0 S9 ∧ post r S9) (wB D cy X A) A) args s 0 0 A) (F0 m 55 ls [.int t0]) := by
  obtain ⟨hx, hb, hml, hown, hts⟩ := id F
  have hwg : ∀ w ∈ WG, w.before args s = true := fun w h => hts w (List.mem_cons_of_mem _ h)
  intro S H locs ls a0 x2 t0 hp hW hE hl hL_a0 hK_a0
  unfold wp_X12_isAsWritten_55 at hp
  refine lv_istore_n (lv' := [(1, .int t0), (0, .ref a0), (2, .int x2)]) hx hb dX12_isAsWritten_55 rfl hl (by decide) rfl (fun ls hl => ?_)
  obtain ⟨x_1, ex_1⟩ : ∃ z : Int32, z = x2 + 1 := ⟨_, rfl⟩
  replace hp := hp x_1 ex_1
  refine lv_iinc (v := x_1) (lv' := [(2, .int x_1), (1, .int t0), (0, .ref a0)]) hx hb dX12_isAsWritten_56 hl (k := 2) rfl (by rw [ex_1]; rfl) (by decide) rfl (fun ls hl => ?_)
  refine lv_goto (tgt := 23) hx hb dX12_isAsWritten_59 (by decide) ?_
  exact q_23 hp hW hE (lv_sub hl [2, 1, 0] rfl) hL_a0 hK_a0
set_option maxHeartbeats 4000000 in
set_option maxRecDepth 100000 in
theorem t_X12_isAsWritten_23 {p : Program} {l : Launch} {e : Env} {s : State} {m : MethodId} {args : Array Value} {below : List Frame} {meth : Method} {c : Code} {D : wD} {cy : Nat → ClassId} {X : va_W} {A : Nat → Prop} {S0 : wS} {post : Int32 → wS → Prop} (F : CallFix p m c cX12_isAsWritten 3 s args wz_X12_isAsWritten RX12) (hr : meth.sig.returnType = (some .boolean)) (hlocks : meth.locks = false) (hK : wK D cy A s) : ∀ (n : Nat) {S : wS} {H : Heap} {locs : List Loc} {ls : Array Slot} {a0 : Nat} {x1 : Int32} {x2 : Int32}, wp_X12_isAsWritten_23 D post n S a0 x1 x2 → wO D cy X A s.heap S H locs → wX D S0 S → lv_has ls 3 [(0, .ref a0), (1, .int x1), (2, .int x2)] → wM D S a0 → sK S a0 = 17 → W p l e r_X12_isAsWritten s m args below meth c H locs 0 0 (MQ below (va_Qi (fun r S9 => wX D S0 S9 ∧ post r S9) (wB D cy X A) A) args s 0 0 A) (F0 m 23 ls []) := by
  obtain ⟨hx, hb, hml, hown, hts⟩ := id F
  have hwg : ∀ w ∈ WG, w.before args s = true := fun w h => hts w (List.mem_cons_of_mem _ h)
  have i_17 : ∀ w ∈ u_ws RX12 TX12 43, w ∈ wz_X12_isAsWritten := fun w h => List.mem_cons_of_mem _ (wu_17 w h)
  have k_259 := hwg _ wf_RX12_259
  have k_42 := hwg _ wf_RX12_42
  have k_45 := hwg _ wf_RX12_45
  intro n
  induction n with
  | zero =>
    intro S H locs ls a0 x1 x2 hp
    exact hp.elim
  | succ n ih =>
    intro S H locs ls a0 x1 x2 hp hW hE hl hL_a0 hK_a0
    unfold wp_X12_isAsWritten_23 at hp
    refine lv_iload_n hx hb dX12_isAsWritten_23 rfl (lv_at hl 2 rfl) ?_
    refine lv_aload_n hx hb dX12_isAsWritten_24 rfl (lv_at hl 0 rfl) ?_
    refine w_get (k := 17) (f := 13) (T := TX12) (v := .int (sI S a0 13)) F hK hW hL_a0 hK_a0 (by decide) rfl rfl (by decide) i_17 k_259 rfl dX12_isAsWritten_25 ?_
    refine lv_icmp_ge (tgt := 62) hx hb dX12_isAsWritten_28 (by decide) (fun c_1 => ?_) (fun c_1 => ?_)
    · replace hp := hp.1 c_1
      exact t_X12_isAsWritten_62 F hr hlocks hK hp hW hE (lv_sub hl [1] rfl)
    · replace hp := hp.2 c_1
      refine lv_iload_n hx hb dX12_isAsWritten_31 rfl (lv_at hl 1 rfl) ?_
      refine lv_if_eq (tgt := 62) hx hb dX12_isAsWritten_32 (by decide) (fun c_2 => ?_) (fun c_2 => ?_)
      · replace hp := hp.1 c_2
        exact t_X12_isAsWritten_62 F hr hlocks hK hp hW hE (lv_sub hl [1] rfl)
      · replace hp := hp.2 c_2
        refine lv_aload_n hx hb dX12_isAsWritten_35 rfl (lv_at hl 0 rfl) ?_
        obtain ⟨y_3, ey_3, hL_y_3, hK_y_3, hp⟩ := hp
        refine w_get (k := 17) (f := 14) (T := TX12) (v := .ref y_3) F hK hW hL_a0 hK_a0 (by decide) rfl rfl (by decide) i_17 k_45 (by rw [show wv 17 14 S a0 = va_rf (sR S a0 14) from rfl, ey_3]; rfl) dX12_isAsWritten_36 ?_
        refine lv_iload_n hx hb dX12_isAsWritten_39 rfl (lv_at hl 2 rfl) ?_
        obtain ⟨h_4, hp⟩ := hp
        refine w_ild F hK hW hL_y_3 hK_y_3 h_4 dX12_isAsWritten_40 ?_
        refine lv_aload_n hx hb dX12_isAsWritten_41 rfl (lv_at hl 0 rfl) ?_
        obtain ⟨y_5, ey_5, hL_y_5, hK_y_5, hp⟩ := hp
        refine w_get (k := 17) (f := 12) (T := TX12) (v := .ref y_5) F hK hW hL_a0 hK_a0 (by decide) rfl rfl (by decide) i_17 k_42 (by rw [show wv 17 12 S a0 = va_rf (sR S a0 12) from rfl, ey_5]; rfl) dX12_isAsWritten_42 ?_
        refine lv_iload_n hx hb dX12_isAsWritten_45 rfl (lv_at hl 2 rfl) ?_
        obtain ⟨h_6, hp⟩ := hp
        refine w_ild F hK hW hL_y_5 hK_y_5 h_6 dX12_isAsWritten_46 ?_
        refine lv_icmp_ne (tgt := 54) hx hb dX12_isAsWritten_47 (by decide) (fun c_7 => ?_) (fun c_7 => ?_)
        · replace hp := hp.1 c_7
          refine lv_iconst (v := 0) hx hb dX12_isAsWritten_54 (by decide) ?_
          exact t_X12_isAsWritten_55 F hr hlocks hK ih hp hW hE (lv_sub hl [0, 2] rfl) hL_a0 hK_a0
        · replace hp := hp.2 c_7
          refine lv_iconst (v := 1) hx hb dX12_isAsWritten_50 (by decide) ?_
          refine lv_goto (tgt := 55) hx hb dX12_isAsWritten_51 (by decide) ?_
          exact t_X12_isAsWritten_55 F hr hlocks hK ih hp hW hE (lv_sub hl [0, 2] rfl) hL_a0 hK_a0
set_option maxHeartbeats 4000000 in
set_option maxRecDepth 100000 in
theorem t_X12_isAsWritten_20 {p : Program} {l : Launch} {e : Env} {s : State} {m : MethodId} {args : Array Value} {below : List Frame} {meth : Method} {c : Code} {D : wD} {cy : Nat → ClassId} {X : va_W} {A : Nat → Prop} {S0 : wS} {post : Int32 → wS → Prop} (F : CallFix p m c cX12_isAsWritten 3 s args wz_X12_isAsWritten RX12) (hr : meth.sig.returnType = (some .boolean)) (hlocks : meth.locks = false) (hK : wK D cy A s) : ∀ {S : wS} {H : Heap} {locs : List Loc} {ls : Array Slot} {a0 : Nat} {t0 : Int32}, wp_X12_isAsWritten_20 D post S a0 t0 → wO D cy X A s.heap S H locs → wX D S0 S → lv_has ls 3 [(0, .ref a0)] → wM D S a0 → sK S a0 = 17 → W p l e r_X12_isAsWritten s m args below meth c H locs 0 0 (MQ below (va_Qi (fun r S9 => wX D S0 S9 ∧ post r S9) (wB D cy X A) A) args s 0 0 A) (F0 m 20 ls [.int t0]) := by
  obtain ⟨hx, hb, hml, hown, hts⟩ := id F
  have hwg : ∀ w ∈ WG, w.before args s = true := fun w h => hts w (List.mem_cons_of_mem _ h)
  intro S H locs ls a0 t0 hp hW hE hl hL_a0 hK_a0
  unfold wp_X12_isAsWritten_20 at hp
  refine lv_istore_n (lv' := [(1, .int t0), (0, .ref a0)]) hx hb dX12_isAsWritten_20 rfl hl (by decide) rfl (fun ls hl => ?_)
  refine lv_iconst (v := 0) hx hb dX12_isAsWritten_21 (by decide) ?_
  refine lv_istore_n (lv' := [(2, .int (0 : Int32)), (1, .int t0), (0, .ref a0)]) hx hb dX12_isAsWritten_22 rfl hl (by decide) rfl (fun ls hl => ?_)
  obtain ⟨n_1, hp⟩ := hp
  exact t_X12_isAsWritten_23 F hr hlocks hK n_1 hp hW hE (lv_sub hl [2, 1, 0] rfl) hL_a0 hK_a0
set_option maxHeartbeats 4000000 in
set_option maxRecDepth 100000 in
theorem t_X12_isAsWritten_0 {p : Program} {l : Launch} {e : Env} {s : State} {m : MethodId} {args : Array Value} {below : List Frame} {meth : Method} {c : Code} {D : wD} {cy : Nat → ClassId} {X : va_W} {A : Nat → Prop} {S0 : wS} {post : Int32 → wS → Prop} (F : CallFix p m c cX12_isAsWritten 3 s args wz_X12_isAsWritten RX12) (hr : meth.sig.returnType = (some .boolean)) (hlocks : meth.locks = false) (hK : wK D cy A s) : ∀ {S : wS} {H : Heap} {locs : List Loc} {ls : Array Slot} {a0 : Nat}, wp_X12_isAsWritten_0 D post S a0 → wO D cy X A s.heap S H locs → wX D S0 S → lv_has ls 3 [(0, .ref a0)] → wM D S a0 → sK S a0 = 17 → W p l e r_X12_isAsWritten s m args below meth c H locs 0 0 (MQ below (va_Qi (fun r S9 => wX D S0 S9 ∧ post r S9) (wB D cy X A) A) args s 0 0 A) (F0 m 0 ls []) := by
  obtain ⟨hx, hb, hml, hown, hts⟩ := id F
  have hwg : ∀ w ∈ WG, w.before args s = true := fun w h => hts w (List.mem_cons_of_mem _ h)
  have i_17 : ∀ w ∈ u_ws RX12 TX12 43, w ∈ wz_X12_isAsWritten := fun w h => List.mem_cons_of_mem _ (wu_17 w h)
  have k_244 := hwg _ wf_RX12_244
  have k_259 := hwg _ wf_RX12_259
  intro S H locs ls a0 hp hW hE hl hL_a0 hK_a0
  unfold wp_X12_isAsWritten_0 at hp
  refine lv_aload_n hx hb dX12_isAsWritten_0 rfl (lv_at hl 0 rfl) ?_
  refine w_callV (va_runV (As := []) (rest := []) F (c_X12_writesPaper l hL_a0 hK_a0 hp H.size) (cwV (C := RX12) 0 hts (wg_V wm_RX12_256 wy_X12_writesPaper) rfl rfl rfl (by decide +kernel) ⟨Nat.le_of_ble_eq_true rfl, Nat.le_of_ble_eq_true rfl⟩) (w_preV hK hW hL_a0 hK_a0 (by decide) rfl) rfl rfl hl.1 rfl (lv_room (Nat.le_of_ble_eq_true rfl)) dX12_isAsWritten_1 ⟨Nat.le_of_ble_eq_true rfl, Nat.le_of_ble_eq_true rfl⟩) hW (fun S_2 H locs hp hW => ?_)
  obtain ⟨hX_S_2, hp⟩ := hp
  refine W.widen (k := 0) (n := 0) (by decide) (by decide) ?_
  have hE := hE.trans hX_S_2
  have hK_a0 : sK S_2 a0 = 17 := (hX_S_2.2 a0 hL_a0).1.trans hK_a0
  have hL_a0 : wM D S_2 a0 := hX_S_2.M hL_a0
  refine lv_aload_n hx hb dX12_isAsWritten_4 rfl (lv_at hl 0 rfl) ?_
  refine w_get (k := 17) (f := 15) (T := TX12) (v := .int (sI S_2 a0 15)) F hK hW hL_a0 hK_a0 (by decide) rfl rfl (by decide) i_17 k_244 rfl dX12_isAsWritten_5 ?_
  refine lv_aload_n hx hb dX12_isAsWritten_8 rfl (lv_at hl 0 rfl) ?_
  refine w_get (k := 17) (f := 13) (T := TX12) (v := .int (sI S_2 a0 13)) F hK hW hL_a0 hK_a0 (by decide) rfl rfl (by decide) i_17 k_259 rfl dX12_isAsWritten_9 ?_
  refine lv_icmp_ne (tgt := 19) hx hb dX12_isAsWritten_12 (by decide) (fun c_3 => ?_) (fun c_3 => ?_)
  · replace hp := hp.1 c_3
    refine lv_iconst (v := 0) hx hb dX12_isAsWritten_19 (by decide) ?_
    exact t_X12_isAsWritten_20 F hr hlocks hK hp hW hE (lv_sub hl [0] rfl) hL_a0 hK_a0
  · replace hp := hp.2 c_3
    refine lv_iconst (v := 1) hx hb dX12_isAsWritten_15 (by decide) ?_
    refine lv_goto (tgt := 20) hx hb dX12_isAsWritten_16 (by decide) ?_
    exact t_X12_isAsWritten_20 F hr hlocks hK hp hW hE (lv_sub hl [0] rfl) hL_a0 hK_a0
set_option maxHeartbeats 4000000 in
set_option maxRecDepth 100000 in
theorem c_X12_isAsWritten (l : Launch) {D : wD} {cy : Nat → ClassId} {X : va_W} {S0 : wS} {post : Int32 → wS → Prop} {a0 : Nat} (hL_a0 : wM D S0 a0) (hK_a0 : sK S0 a0 = 17) (hp : wp_X12_isAsWritten D post S0 a0) : mI D cy X l yX12_isAsWritten wz_X12_isAsWritten r_X12_isAsWritten [.ref a0] S0 (fun r S9 => wX D S0 S9 ∧ post r S9) := by
  intro sz
  refine Met.ofW (cc := cX12_isAsWritten) (maxL := 3) (ret := (some .boolean)) (by decide) rfl ?_
  intro p e s m args below meth c s₁ B hml hv
  obtain ⟨rfl, hsz, hP, hK, hD0, hRO⟩ := hv
  have hts := atoms_spec (ws := wz_X12_isAsWritten) B.pre
  have hown : s.vm.findClass RX12 = some m.cls := findClass_of_methodNamed B.named
  subst hsz
  have hD := hD0.self (sz := s.heap.size)
  have F : CallFix p m c cX12_isAsWritten 3 s _ wz_X12_isAsWritten RX12 := ⟨B.exec, B.bytes, hml, hown, hts⟩
  have hr := B.returns
  have hlocks := B.notSynchronized
  generalize hAe : va_A (wL cy X S0) s.heap.size = A at hD hK ⊢
  have hA : ∀ q, s.heap.size ≤ q → A q := fun q h => by rw [← hAe]; exact Or.inr h
  have hW : wO D cy X A s.heap S0 s.heap [] := ⟨hP, hD, va_S.rf, hA, hRO⟩
  have hl := lv_entry ([.ref a0]) (n := 3) (Nat.le_of_ble_eq_true rfl)
  rw [lg_entry_eq]
  generalize (lg_sl ([.ref a0]) ++ List.replicate (3 - (lg_sl ([.ref a0])).length) Slot.unset).toArray = ls at hl ⊢
  have hl : lv_has ls 3 [(0, .ref a0)] := hl
  unfold wp_X12_isAsWritten at hp
  exact t_X12_isAsWritten_0 F hr hlocks hK hp hW wX.rf (lv_sub hl [0] rfl) hL_a0 hK_a0
def wp_X12_isMove_0 (D : wD) (post : Int32 → wS → Prop)  (S : wS) (a0 : Nat) (x1 : Int32) : Prop :=
wp_X12_moves D (fun S_2 => 
∃ y_3 : Nat, sR S_2 a0 7 = some y_3 ∧ wM D S_2 y_3 ∧ sK S_2 y_3 = 21 ∧
vp_in (0 : Int32) (sN S_2 y_3) ∧
wp_X12_in D (fun r_5 S_6 => 
narrow .boolean (.int r_5) = .int r_5 ∧ post r_5 S_6) S_2 x1 (0 : Int32) ((sI S_2 y_3 ((0 : Int32)).toNatClampNeg) - (1 : Int32))) S a0 (0 : Int32)
abbrev r_X12_isMove : Room := { frames := 7, cells := 0, slots := 0, locals := 177 }
def wp_X12_isMove (D : wD) (post : Int32 → wS → Prop) (S : wS) (a0 : Nat) (x1 : Int32) : Prop := wp_X12_isMove_0 D post S a0 x1
set_option maxHeartbeats 4000000 in
set_option maxRecDepth 100000 in
theorem t_X12_isMove_0 {p : Program} {l : Launch} {e : Env} {s : State} {m : MethodId} {args : Array Value} {below : List Frame} {meth : Method} {c : Code} {D : wD} {cy : Nat → ClassId} {X : va_W} {A : Nat → Prop} {S0 : wS} {post : Int32 → wS → Prop} (F : CallFix p m c cX12_isMove 2 s args wz_X12_isMove RX12) (hr : meth.sig.returnType = (some .boolean)) (hlocks : meth.locks = false) (hK : wK D cy A s) : ∀ {S : wS} {H : Heap} {locs : List Loc} {ls : Array Slot} {a0 : Nat} {x1 : Int32}, wp_X12_isMove_0 D post S a0 x1 → wO D cy X A s.heap S H locs → wX D S0 S → lv_has ls 2 [(0, .ref a0), (1, .int x1)] → wM D S a0 → sK S a0 = 17 → W p l e r_X12_isMove s m args below meth c H locs 0 0 (MQ below (va_Qi (fun r S9 => wX D S0 S9 ∧ post r S9) (wB D cy X A) A) args s 0 0 A) (F0 m 0 ls []) := by
  obtain ⟨hx, hb, hml, hown, hts⟩ := id F
  have hwg : ∀ w ∈ WG, w.before args s = true := fun w h => hts w (List.mem_cons_of_mem _ h)
  have i_17 : ∀ w ∈ u_ws RX12 TX12 43, w ∈ wz_X12_isMove := fun w h => List.mem_cons_of_mem _ (wu_17 w h)
  have k_29 := hwg _ wf_RX12_29
  intro S H locs ls a0 x1 hp hW hE hl hL_a0 hK_a0
  unfold wp_X12_isMove_0 at hp
  refine lv_aload_n hx hb dX12_isMove_0 rfl (lv_at hl 0 rfl) ?_
  refine lv_iconst (v := 0) hx hb dX12_isMove_1 (by decide) ?_
  refine w_callV (va_runV (As := [.int (0 : Int32)]) (rest := []) F (c_X12_moves l hL_a0 hK_a0 hp H.size) (cwV (C := RX12) 1 hts (wg_V wm_RX12_233 wy_X12_moves) rfl rfl rfl (by decide +kernel) ⟨Nat.le_of_ble_eq_true rfl, Nat.le_of_ble_eq_true rfl⟩) (w_preV hK hW hL_a0 hK_a0 (by decide) rfl) rfl rfl hl.1 rfl (lv_room (Nat.le_of_ble_eq_true rfl)) dX12_isMove_2 ⟨Nat.le_of_ble_eq_true rfl, Nat.le_of_ble_eq_true rfl⟩) hW (fun S_2 H locs hp hW => ?_)
  obtain ⟨hX_S_2, hp⟩ := hp
  refine W.widen (k := 0) (n := 0) (by decide) (by decide) ?_
  have hE := hE.trans hX_S_2
  have hK_a0 : sK S_2 a0 = 17 := (hX_S_2.2 a0 hL_a0).1.trans hK_a0
  have hL_a0 : wM D S_2 a0 := hX_S_2.M hL_a0
  refine lv_iload_n hx hb dX12_isMove_5 rfl (lv_at hl 1 rfl) ?_
  refine lv_iconst (v := 0) hx hb dX12_isMove_6 (by decide) ?_
  refine lv_aload_n hx hb dX12_isMove_7 rfl (lv_at hl 0 rfl) ?_
  obtain ⟨y_3, ey_3, hL_y_3, hK_y_3, hp⟩ := hp
  refine w_get (k := 17) (f := 7) (T := TX12) (v := .ref y_3) F hK hW hL_a0 hK_a0 (by decide) rfl rfl (by decide) i_17 k_29 (by rw [show wv 17 7 S_2 a0 = va_rf (sR S_2 a0 7) from rfl, ey_3]; rfl) dX12_isMove_8 ?_
  refine lv_iconst (v := 0) hx hb dX12_isMove_11 (by decide) ?_
  obtain ⟨h_4, hp⟩ := hp
  refine w_ild F hK hW hL_y_3 hK_y_3 h_4 dX12_isMove_12 ?_
  refine lv_iconst (v := 1) hx hb dX12_isMove_13 (by decide) ?_
  refine lv_isub hx hb dX12_isMove_14 ?_
  refine w_callI (va_runS (As := [.int x1, .int (0 : Int32), .int ((sI S_2 y_3 ((0 : Int32)).toNatClampNeg) - (1 : Int32))]) (rest := []) F (c_X12_in l hp H.size) (va_cwS 3 hts (wg_S wm_RX12_117 wy_X12_in) rfl rfl rfl (by decide +kernel) ⟨Nat.le_of_ble_eq_true rfl, Nat.le_of_ble_eq_true rfl⟩) (w_preS hK hW) rfl rfl hl.1 rfl (lv_room (Nat.le_of_ble_eq_true rfl)) dX12_isMove_15 ⟨Nat.le_of_ble_eq_true rfl, Nat.le_of_ble_eq_true rfl⟩) hW (fun r_5 S_6 H locs hp hW => ?_)
  obtain ⟨hX_S_6, hp⟩ := hp
  refine W.widen (k := 0) (n := 0) (by decide) (by decide) ?_
  have hE := hE.trans hX_S_6
  have hK_a0 : sK S_6 a0 = 17 := (hX_S_6.2 a0 hL_a0).1.trans hK_a0
  have hL_a0 : wM D S_6 a0 := hX_S_6.M hL_a0
  exact w_zret hx hb hr hlocks hW hp.1 ⟨hE, hp.2⟩ dX12_isMove_18
set_option maxHeartbeats 4000000 in
set_option maxRecDepth 100000 in
theorem c_X12_isMove (l : Launch) {D : wD} {cy : Nat → ClassId} {X : va_W} {S0 : wS} {post : Int32 → wS → Prop} {a0 : Nat} {x1 : Int32} (hL_a0 : wM D S0 a0) (hK_a0 : sK S0 a0 = 17) (hp : wp_X12_isMove D post S0 a0 x1) : mI D cy X l yX12_isMove wz_X12_isMove r_X12_isMove [.ref a0, .int x1] S0 (fun r S9 => wX D S0 S9 ∧ post r S9) := by
  intro sz
  refine Met.ofW (cc := cX12_isMove) (maxL := 2) (ret := (some .boolean)) (by decide) rfl ?_
  intro p e s m args below meth c s₁ B hml hv
  obtain ⟨rfl, hsz, hP, hK, hD0, hRO⟩ := hv
  have hts := atoms_spec (ws := wz_X12_isMove) B.pre
  have hown : s.vm.findClass RX12 = some m.cls := findClass_of_methodNamed B.named
  subst hsz
  have hD := hD0.self (sz := s.heap.size)
  have F : CallFix p m c cX12_isMove 2 s _ wz_X12_isMove RX12 := ⟨B.exec, B.bytes, hml, hown, hts⟩
  have hr := B.returns
  have hlocks := B.notSynchronized
  generalize hAe : va_A (wL cy X S0) s.heap.size = A at hD hK ⊢
  have hA : ∀ q, s.heap.size ≤ q → A q := fun q h => by rw [← hAe]; exact Or.inr h
  have hW : wO D cy X A s.heap S0 s.heap [] := ⟨hP, hD, va_S.rf, hA, hRO⟩
  have hl := lv_entry ([.ref a0, .int x1]) (n := 2) (Nat.le_of_ble_eq_true rfl)
  rw [lg_entry_eq]
  generalize (lg_sl ([.ref a0, .int x1]) ++ List.replicate (2 - (lg_sl ([.ref a0, .int x1])).length) Slot.unset).toArray = ls at hl ⊢
  have hl : lv_has ls 2 [(0, .ref a0), (1, .int x1)] := hl
  unfold wp_X12_isMove at hp
  exact t_X12_isMove_0 F hr hlocks hK hp hW wX.rf (lv_sub hl [0, 1] rfl) hL_a0 hK_a0
def wp_X12_isAskedMove_30 (D : wD) (post : Int32 → wS → Prop)  (S : wS) (t0 : Int32) : Prop :=
narrow .boolean (.int t0) = .int t0 ∧ post t0 S
def wp_X12_isAskedMove_29 (D : wD) (post : Int32 → wS → Prop)  (S : wS) : Prop :=
wp_X12_isAskedMove_30 D post S (0 : Int32)
def wp_X12_isAskedMove_0 (D : wD) (post : Int32 → wS → Prop)  (S : wS) (a0 : Nat) (x1 : Int32) : Prop :=
wp_X12_isAskable D (fun r_1 S_2 => 
wp_X12_can D (fun r_3 S_4 => 
((r_3 = 0 → wp_X12_isAskedMove_29 D post S_4) ∧
 (¬ r_3 = 0 → wp_X12_isMove D (fun r_6 S_7 => 
wp_X12_can D (fun r_8 S_9 => 
((r_8 = 0 → wp_X12_isAskedMove_29 D post S_9) ∧
 (¬ r_8 = 0 → wp_X12_isAskedMove_30 D post S_9 (1 : Int32)))) S_7 a0 r_6 (2 : Int32)) S_4 a0 x1))) S_2 a0 r_1 (1 : Int32)) S a0
abbrev r_X12_isAskedMove : Room := { frames := 8, cells := 0, slots := 0, locals := 198 }
def wp_X12_isAskedMove (D : wD) (post : Int32 → wS → Prop) (S : wS) (a0 : Nat) (x1 : Int32) : Prop := wp_X12_isAskedMove_0 D post S a0 x1
set_option maxHeartbeats 4000000 in
set_option maxRecDepth 100000 in
theorem t_X12_isAskedMove_30 {p : Program} {l : Launch} {e : Env} {s : State} {m : MethodId} {args : Array Value} {below : List Frame} {meth : Method} {c : Code} {D : wD} {cy : Nat → ClassId} {X : va_W} {A : Nat → Prop} {S0 : wS} {post : Int32 → wS → Prop} (F : CallFix p m c cX12_isAskedMove 2 s args wz_X12_isAskedMove RX12) (hr : meth.sig.returnType = (some .boolean)) (hlocks : meth.locks = false) (hK : wK D cy A s) : ∀ {S : wS} {H : Heap} {locs : List Loc} {ls : Array Slot} {t0 : Int32}, wp_X12_isAskedMove_30 D post S t0 → wO D cy X A s.heap S H locs → wX D S0 S → lv_has ls 2 [] → W p l e r_X12_isAskedMove s m args below meth c H locs 0 0 (MQ below (va_Qi (fun r S9 => wX D S0 S9 ∧ post r S9) (wB D cy X A) A) args s 0 0 A) (F0 m 30 ls [.int t0]) := by
  obtain ⟨hx, hb, hml, hown, hts⟩ := id F
  have hwg : ∀ w ∈ WG, w.before args s = true := fun w h => hts w (List.mem_cons_of_mem _ h)
  intro S H locs ls t0 hp hW hE hl
  unfold wp_X12_isAskedMove_30 at hp
  exact w_zret hx hb hr hlocks hW hp.1 ⟨hE, hp.2⟩ dX12_isAskedMove_30
set_option maxHeartbeats 4000000 in
set_option maxRecDepth 100000 in
theorem t_X12_isAskedMove_29 {p : Program} {l : Launch} {e : Env} {s : State} {m : MethodId} {args : Array Value} {below : List Frame} {meth : Method} {c : Code} {D : wD} {cy : Nat → ClassId} {X : va_W} {A : Nat → Prop} {S0 : wS} {post : Int32 → wS → Prop} (F : CallFix p m c cX12_isAskedMove 2 s args wz_X12_isAskedMove RX12) (hr : meth.sig.returnType = (some .boolean)) (hlocks : meth.locks = false) (hK : wK D cy A s) : ∀ {S : wS} {H : Heap} {locs : List Loc} {ls : Array Slot}, wp_X12_isAskedMove_29 D post S → wO D cy X A s.heap S H locs → wX D S0 S → lv_has ls 2 [] → W p l e r_X12_isAskedMove s m args below meth c H locs 0 0 (MQ below (va_Qi (fun r S9 => wX D S0 S9 ∧ post r S9) (wB D cy X A) A) args s 0 0 A) (F0 m 29 ls []) := by
  obtain ⟨hx, hb, hml, hown, hts⟩ := id F
  have hwg : ∀ w ∈ WG, w.before args s = true := fun w h => hts w (List.mem_cons_of_mem _ h)
  intro S H locs ls hp hW hE hl
  unfold wp_X12_isAskedMove_29 at hp
  refine lv_iconst (v := 0) hx hb dX12_isAskedMove_29 (by decide) ?_
  exact t_X12_isAskedMove_30 F hr hlocks hK hp hW hE (lv_sub hl [] rfl)
set_option maxHeartbeats 4000000 in
set_option maxRecDepth 100000 in
theorem t_X12_isAskedMove_0 {p : Program} {l : Launch} {e : Env} {s : State} {m : MethodId} {args : Array Value} {below : List Frame} {meth : Method} {c : Code} {D : wD} {cy : Nat → ClassId} {X : va_W} {A : Nat → Prop} {S0 : wS} {post : Int32 → wS → Prop} (F : CallFix p m c cX12_isAskedMove 2 s args wz_X12_isAskedMove RX12) (hr : meth.sig.returnType = (some .boolean)) (hlocks : meth.locks = false) (hK : wK D cy A s) : ∀ {S : wS} {H : Heap} {locs : List Loc} {ls : Array Slot} {a0 : Nat} {x1 : Int32}, wp_X12_isAskedMove_0 D post S a0 x1 → wO D cy X A s.heap S H locs → wX D S0 S → lv_has ls 2 [(0, .ref a0), (1, .int x1)] → wM D S a0 → sK S a0 = 17 → W p l e r_X12_isAskedMove s m args below meth c H locs 0 0 (MQ below (va_Qi (fun r S9 => wX D S0 S9 ∧ post r S9) (wB D cy X A) A) args s 0 0 A) (F0 m 0 ls []) := by
  obtain ⟨hx, hb, hml, hown, hts⟩ := id F
  have hwg : ∀ w ∈ WG, w.before args s = true := fun w h => hts w (List.mem_cons_of_mem _ h)
  intro S H locs ls a0 x1 hp hW hE hl hL_a0 hK_a0
  unfold wp_X12_isAskedMove_0 at hp
  refine lv_aload_n hx hb dX12_isAskedMove_0 rfl (lv_at hl 0 rfl) ?_
  refine lv_aload_n hx hb dX12_isAskedMove_1 rfl (lv_at hl 0 rfl) ?_
  refine w_callI (va_runV (As := []) (rest := [.ref a0]) F (c_X12_isAskable l hL_a0 hK_a0 hp H.size) (cwV (C := RX12) 0 hts (wg_V wm_RX12_284 wy_X12_isAskable) rfl rfl rfl (by decide +kernel) ⟨Nat.le_of_ble_eq_true rfl, Nat.le_of_ble_eq_true rfl⟩) (w_preV hK hW hL_a0 hK_a0 (by decide) rfl) rfl rfl hl.1 rfl (lv_room (Nat.le_of_ble_eq_true rfl)) dX12_isAskedMove_2 ⟨Nat.le_of_ble_eq_true rfl, Nat.le_of_ble_eq_true rfl⟩) hW (fun r_1 S_2 H locs hp hW => ?_)
  obtain ⟨hX_S_2, hp⟩ := hp
  refine W.widen (k := 0) (n := 0) (by decide) (by decide) ?_
  have hE := hE.trans hX_S_2
  have hK_a0 : sK S_2 a0 = 17 := (hX_S_2.2 a0 hL_a0).1.trans hK_a0
  have hL_a0 : wM D S_2 a0 := hX_S_2.M hL_a0
  refine lv_iconst (v := 1) hx hb dX12_isAskedMove_5 (by decide) ?_
  refine w_callI (va_runV (As := [.int r_1, .int (1 : Int32)]) (rest := []) F (c_X12_can l hL_a0 hK_a0 hp H.size) (cwV (C := RX12) 2 hts (wg_V wm_RX12_237 wy_X12_can) rfl rfl rfl (by decide +kernel) ⟨Nat.le_of_ble_eq_true rfl, Nat.le_of_ble_eq_true rfl⟩) (w_preV hK hW hL_a0 hK_a0 (by decide) rfl) rfl rfl hl.1 rfl (lv_room (Nat.le_of_ble_eq_true rfl)) dX12_isAskedMove_6 ⟨Nat.le_of_ble_eq_true rfl, Nat.le_of_ble_eq_true rfl⟩) hW (fun r_3 S_4 H locs hp hW => ?_)
  obtain ⟨hX_S_4, hp⟩ := hp
  refine W.widen (k := 0) (n := 0) (by decide) (by decide) ?_
  have hE := hE.trans hX_S_4
  have hK_a0 : sK S_4 a0 = 17 := (hX_S_4.2 a0 hL_a0).1.trans hK_a0
  have hL_a0 : wM D S_4 a0 := hX_S_4.M hL_a0
  refine lv_if_eq (tgt := 29) hx hb dX12_isAskedMove_9 (by decide) (fun c_5 => ?_) (fun c_5 => ?_)
  · replace hp := hp.1 c_5
    exact t_X12_isAskedMove_29 F hr hlocks hK hp hW hE (lv_sub hl [] rfl)
  · replace hp := hp.2 c_5
    refine lv_aload_n hx hb dX12_isAskedMove_12 rfl (lv_at hl 0 rfl) ?_
    refine lv_aload_n hx hb dX12_isAskedMove_13 rfl (lv_at hl 0 rfl) ?_
    refine lv_iload_n hx hb dX12_isAskedMove_14 rfl (lv_at hl 1 rfl) ?_
    refine w_callI (va_runV (As := [.int x1]) (rest := [.ref a0]) F (c_X12_isMove l hL_a0 hK_a0 hp H.size) (cwV (C := RX12) 1 hts (wg_V wm_RX12_290 wy_X12_isMove) rfl rfl rfl (by decide +kernel) ⟨Nat.le_of_ble_eq_true rfl, Nat.le_of_ble_eq_true rfl⟩) (w_preV hK hW hL_a0 hK_a0 (by decide) rfl) rfl rfl hl.1 rfl (lv_room (Nat.le_of_ble_eq_true rfl)) dX12_isAskedMove_15 ⟨Nat.le_of_ble_eq_true rfl, Nat.le_of_ble_eq_true rfl⟩) hW (fun r_6 S_7 H locs hp hW => ?_)
    obtain ⟨hX_S_7, hp⟩ := hp
    refine W.widen (k := 0) (n := 0) (by decide) (by decide) ?_
    have hE := hE.trans hX_S_7
    have hK_a0 : sK S_7 a0 = 17 := (hX_S_7.2 a0 hL_a0).1.trans hK_a0
    have hL_a0 : wM D S_7 a0 := hX_S_7.M hL_a0
    refine lv_iconst (v := 2) hx hb dX12_isAskedMove_18 (by decide) ?_
    refine w_callI (va_runV (As := [.int r_6, .int (2 : Int32)]) (rest := []) F (c_X12_can l hL_a0 hK_a0 hp H.size) (cwV (C := RX12) 2 hts (wg_V wm_RX12_237 wy_X12_can) rfl rfl rfl (by decide +kernel) ⟨Nat.le_of_ble_eq_true rfl, Nat.le_of_ble_eq_true rfl⟩) (w_preV hK hW hL_a0 hK_a0 (by decide) rfl) rfl rfl hl.1 rfl (lv_room (Nat.le_of_ble_eq_true rfl)) dX12_isAskedMove_19 ⟨Nat.le_of_ble_eq_true rfl, Nat.le_of_ble_eq_true rfl⟩) hW (fun r_8 S_9 H locs hp hW => ?_)
    obtain ⟨hX_S_9, hp⟩ := hp
    refine W.widen (k := 0) (n := 0) (by decide) (by decide) ?_
    have hE := hE.trans hX_S_9
    have hK_a0 : sK S_9 a0 = 17 := (hX_S_9.2 a0 hL_a0).1.trans hK_a0
    have hL_a0 : wM D S_9 a0 := hX_S_9.M hL_a0
    refine lv_if_eq (tgt := 29) hx hb dX12_isAskedMove_22 (by decide) (fun c_10 => ?_) (fun c_10 => ?_)
    · replace hp := hp.1 c_10
      exact t_X12_isAskedMove_29 F hr hlocks hK hp hW hE (lv_sub hl [] rfl)
    · replace hp := hp.2 c_10
      refine lv_iconst (v := 1) hx hb dX12_isAskedMove_25 (by decide) ?_
      refine lv_goto (tgt := 30) hx hb dX12_isAskedMove_26 (by decide) ?_
      exact t_X12_isAskedMove_30 F hr hlocks hK hp hW hE (lv_sub hl [] rfl)
set_option maxHeartbeats 4000000 in
set_option maxRecDepth 100000 in
theorem c_X12_isAskedMove (l : Launch) {D : wD} {cy : Nat → ClassId} {X : va_W} {S0 : wS} {post : Int32 → wS → Prop} {a0 : Nat} {x1 : Int32} (hL_a0 : wM D S0 a0) (hK_a0 : sK S0 a0 = 17) (hp : wp_X12_isAskedMove D post S0 a0 x1) : mI D cy X l yX12_isAskedMove wz_X12_isAskedMove r_X12_isAskedMove [.ref a0, .int x1] S0 (fun r S9 => wX D S0 S9 ∧ post r S9) := by
  intro sz
  refine Met.ofW (cc := cX12_isAskedMove) (maxL := 2) (ret := (some .boolean)) (by decide) rfl ?_
  intro p e s m args below meth c s₁ B hml hv
  obtain ⟨rfl, hsz, hP, hK, hD0, hRO⟩ := hv
  have hts := atoms_spec (ws := wz_X12_isAskedMove) B.pre
  have hown : s.vm.findClass RX12 = some m.cls := findClass_of_methodNamed B.named
  subst hsz
  have hD := hD0.self (sz := s.heap.size)
  have F : CallFix p m c cX12_isAskedMove 2 s _ wz_X12_isAskedMove RX12 := ⟨B.exec, B.bytes, hml, hown, hts⟩
  have hr := B.returns
  have hlocks := B.notSynchronized
  generalize hAe : va_A (wL cy X S0) s.heap.size = A at hD hK ⊢
  have hA : ∀ q, s.heap.size ≤ q → A q := fun q h => by rw [← hAe]; exact Or.inr h
  have hW : wO D cy X A s.heap S0 s.heap [] := ⟨hP, hD, va_S.rf, hA, hRO⟩
  have hl := lv_entry ([.ref a0, .int x1]) (n := 2) (Nat.le_of_ble_eq_true rfl)
  rw [lg_entry_eq]
  generalize (lg_sl ([.ref a0, .int x1]) ++ List.replicate (2 - (lg_sl ([.ref a0, .int x1])).length) Slot.unset).toArray = ls at hl ⊢
  have hl : lv_has ls 2 [(0, .ref a0), (1, .int x1)] := hl
  unfold wp_X12_isAskedMove at hp
  exact t_X12_isAskedMove_0 F hr hlocks hK hp hW wX.rf (lv_sub hl [0, 1] rfl) hL_a0 hK_a0
def wp_X12_isAttacked_31 (D : wD) (post : Int32 → wS → Prop)  (S : wS) (b0 : Nat) (t1 : Int32) (t2 : Int32) (t3 : Int32) : Prop :=
wp_X12_isAttackedBy D (fun r_1 S_2 => 
narrow .boolean (.int r_1) = .int r_1 ∧ post r_1 S_2) S b0 t1 t2 t3
def wp_X12_isAttacked_0 (D : wD) (post : Int32 → wS → Prop)  (S : wS) (a0 : Nat) (x1 : Int32) (x2 : Int32) : Prop :=
wp_X12_isSquare D (fun r_1 S_2 => 
wp_X12_can D (fun r_3 S_4 => 
((¬ r_3 = 0 → wp_X12_loads D (fun S_7 => 
((x2 = 0 → wp_X12_isAttacked_31 D post S_7 a0 (0 : Int32) x1 (0 : Int32)) ∧
 (¬ x2 = 0 → wp_X12_isAttacked_31 D post S_7 a0 (0 : Int32) x1 (1 : Int32)))) S_4 a0) ∧
 (r_3 = 0 → narrow .boolean (.int (0 : Int32)) = .int (0 : Int32) ∧ post (0 : Int32) S_4))) S_2 a0 r_1 (1 : Int32)) S a0 x1
abbrev r_X12_isAttacked : Room := { frames := 4, cells := 0, slots := 0, locals := 99 }
def wp_X12_isAttacked (D : wD) (post : Int32 → wS → Prop) (S : wS) (a0 : Nat) (x1 : Int32) (x2 : Int32) : Prop := wp_X12_isAttacked_0 D post S a0 x1 x2
set_option maxHeartbeats 4000000 in
set_option maxRecDepth 100000 in
theorem t_X12_isAttacked_31 {p : Program} {l : Launch} {e : Env} {s : State} {m : MethodId} {args : Array Value} {below : List Frame} {meth : Method} {c : Code} {D : wD} {cy : Nat → ClassId} {X : va_W} {A : Nat → Prop} {S0 : wS} {post : Int32 → wS → Prop} (F : CallFix p m c cX12_isAttacked 3 s args wz_X12_isAttacked RX12) (hr : meth.sig.returnType = (some .boolean)) (hlocks : meth.locks = false) (hK : wK D cy A s) : ∀ {S : wS} {H : Heap} {locs : List Loc} {ls : Array Slot} {b0 : Nat} {t1 : Int32} {t2 : Int32} {t3 : Int32}, wp_X12_isAttacked_31 D post S b0 t1 t2 t3 → wO D cy X A s.heap S H locs → wX D S0 S → lv_has ls 3 [] → wM D S b0 → sK S b0 = 17 → W p l e r_X12_isAttacked s m args below meth c H locs 0 0 (MQ below (va_Qi (fun r S9 => wX D S0 S9 ∧ post r S9) (wB D cy X A) A) args s 0 0 A) (F0 m 31 ls [.int t3, .int t2, .int t1, .ref b0]) := by
  obtain ⟨hx, hb, hml, hown, hts⟩ := id F
  have hwg : ∀ w ∈ WG, w.before args s = true := fun w h => hts w (List.mem_cons_of_mem _ h)
  intro S H locs ls b0 t1 t2 t3 hp hW hE hl hL_b0 hK_b0
  unfold wp_X12_isAttacked_31 at hp
  refine w_callI (va_runV (As := [.int t1, .int t2, .int t3]) (rest := []) F (c_X12_isAttackedBy l hL_b0 hK_b0 hp H.size) (cwV (C := RX12) 3 hts (wg_V wm_RX12_167 wy_X12_isAttackedBy) rfl rfl rfl (by decide +kernel) ⟨Nat.le_of_ble_eq_true rfl, Nat.le_of_ble_eq_true rfl⟩) (w_preV hK hW hL_b0 hK_b0 (by decide) rfl) rfl rfl hl.1 rfl (lv_room (Nat.le_of_ble_eq_true rfl)) dX12_isAttacked_31 ⟨Nat.le_of_ble_eq_true rfl, Nat.le_of_ble_eq_true rfl⟩) hW (fun r_1 S_2 H locs hp hW => ?_)
  obtain ⟨hX_S_2, hp⟩ := hp
  refine W.widen (k := 0) (n := 0) (by decide) (by decide) ?_
  have hE := hE.trans hX_S_2
  exact w_zret hx hb hr hlocks hW hp.1 ⟨hE, hp.2⟩ dX12_isAttacked_34
set_option maxHeartbeats 4000000 in
set_option maxRecDepth 100000 in
theorem t_X12_isAttacked_0 {p : Program} {l : Launch} {e : Env} {s : State} {m : MethodId} {args : Array Value} {below : List Frame} {meth : Method} {c : Code} {D : wD} {cy : Nat → ClassId} {X : va_W} {A : Nat → Prop} {S0 : wS} {post : Int32 → wS → Prop} (F : CallFix p m c cX12_isAttacked 3 s args wz_X12_isAttacked RX12) (hr : meth.sig.returnType = (some .boolean)) (hlocks : meth.locks = false) (hK : wK D cy A s) : ∀ {S : wS} {H : Heap} {locs : List Loc} {ls : Array Slot} {a0 : Nat} {x1 : Int32} {x2 : Int32}, wp_X12_isAttacked_0 D post S a0 x1 x2 → wO D cy X A s.heap S H locs → wX D S0 S → lv_has ls 3 [(0, .ref a0), (1, .int x1), (2, .int x2)] → wM D S a0 → sK S a0 = 17 → W p l e r_X12_isAttacked s m args below meth c H locs 0 0 (MQ below (va_Qi (fun r S9 => wX D S0 S9 ∧ post r S9) (wB D cy X A) A) args s 0 0 A) (F0 m 0 ls []) := by
  obtain ⟨hx, hb, hml, hown, hts⟩ := id F
  have hwg : ∀ w ∈ WG, w.before args s = true := fun w h => hts w (List.mem_cons_of_mem _ h)
  intro S H locs ls a0 x1 x2 hp hW hE hl hL_a0 hK_a0
  unfold wp_X12_isAttacked_0 at hp
  refine lv_aload_n hx hb dX12_isAttacked_0 rfl (lv_at hl 0 rfl) ?_
  refine lv_aload_n hx hb dX12_isAttacked_1 rfl (lv_at hl 0 rfl) ?_
  refine lv_iload_n hx hb dX12_isAttacked_2 rfl (lv_at hl 1 rfl) ?_
  refine w_callI (va_runV (As := [.int x1]) (rest := [.ref a0]) F (c_X12_isSquare l hL_a0 hK_a0 hp H.size) (cwV (C := RX12) 1 hts (wg_V wm_RX12_241 wy_X12_isSquare) rfl rfl rfl (by decide +kernel) ⟨Nat.le_of_ble_eq_true rfl, Nat.le_of_ble_eq_true rfl⟩) (w_preV hK hW hL_a0 hK_a0 (by decide) rfl) rfl rfl hl.1 rfl (lv_room (Nat.le_of_ble_eq_true rfl)) dX12_isAttacked_3 ⟨Nat.le_of_ble_eq_true rfl, Nat.le_of_ble_eq_true rfl⟩) hW (fun r_1 S_2 H locs hp hW => ?_)
  obtain ⟨hX_S_2, hp⟩ := hp
  refine W.widen (k := 0) (n := 0) (by decide) (by decide) ?_
  have hE := hE.trans hX_S_2
  have hK_a0 : sK S_2 a0 = 17 := (hX_S_2.2 a0 hL_a0).1.trans hK_a0
  have hL_a0 : wM D S_2 a0 := hX_S_2.M hL_a0
  refine lv_iconst (v := 1) hx hb dX12_isAttacked_6 (by decide) ?_
  refine w_callI (va_runV (As := [.int r_1, .int (1 : Int32)]) (rest := []) F (c_X12_can l hL_a0 hK_a0 hp H.size) (cwV (C := RX12) 2 hts (wg_V wm_RX12_237 wy_X12_can) rfl rfl rfl (by decide +kernel) ⟨Nat.le_of_ble_eq_true rfl, Nat.le_of_ble_eq_true rfl⟩) (w_preV hK hW hL_a0 hK_a0 (by decide) rfl) rfl rfl hl.1 rfl (lv_room (Nat.le_of_ble_eq_true rfl)) dX12_isAttacked_7 ⟨Nat.le_of_ble_eq_true rfl, Nat.le_of_ble_eq_true rfl⟩) hW (fun r_3 S_4 H locs hp hW => ?_)
  obtain ⟨hX_S_4, hp⟩ := hp
  refine W.widen (k := 0) (n := 0) (by decide) (by decide) ?_
  have hE := hE.trans hX_S_4
  have hK_a0 : sK S_4 a0 = 17 := (hX_S_4.2 a0 hL_a0).1.trans hK_a0
  have hL_a0 : wM D S_4 a0 := hX_S_4.M hL_a0
  refine lv_if_ne (tgt := 15) hx hb dX12_isAttacked_10 (by decide) (fun c_5 => ?_) (fun c_5 => ?_)
  · replace hp := hp.1 c_5
    refine lv_aload_n hx hb dX12_isAttacked_15 rfl (lv_at hl 0 rfl) ?_
    refine w_callV (va_runV (As := []) (rest := []) F (c_X12_loads l hL_a0 hK_a0 hp H.size) (cwV (C := RX12) 0 hts (wg_V wm_RX12_192 wy_X12_loads) rfl rfl rfl (by decide +kernel) ⟨Nat.le_of_ble_eq_true rfl, Nat.le_of_ble_eq_true rfl⟩) (w_preV hK hW hL_a0 hK_a0 (by decide) rfl) rfl rfl hl.1 rfl (lv_room (Nat.le_of_ble_eq_true rfl)) dX12_isAttacked_16 ⟨Nat.le_of_ble_eq_true rfl, Nat.le_of_ble_eq_true rfl⟩) hW (fun S_7 H locs hp hW => ?_)
    obtain ⟨hX_S_7, hp⟩ := hp
    refine W.widen (k := 0) (n := 0) (by decide) (by decide) ?_
    have hE := hE.trans hX_S_7
    have hK_a0 : sK S_7 a0 = 17 := (hX_S_7.2 a0 hL_a0).1.trans hK_a0
    have hL_a0 : wM D S_7 a0 := hX_S_7.M hL_a0
    refine lv_aload_n hx hb dX12_isAttacked_19 rfl (lv_at hl 0 rfl) ?_
    refine lv_iconst (v := 0) hx hb dX12_isAttacked_20 (by decide) ?_
    refine lv_iload_n hx hb dX12_isAttacked_21 rfl (lv_at hl 1 rfl) ?_
    refine lv_iload_n hx hb dX12_isAttacked_22 rfl (lv_at hl 2 rfl) ?_
    refine lv_if_eq (tgt := 30) hx hb dX12_isAttacked_23 (by decide) (fun c_8 => ?_) (fun c_8 => ?_)
    · replace hp := hp.1 c_8
      refine lv_iconst (v := 0) hx hb dX12_isAttacked_30 (by decide) ?_
      exact t_X12_isAttacked_31 F hr hlocks hK hp hW hE (lv_sub hl [] rfl) hL_a0 hK_a0
    · replace hp := hp.2 c_8
      refine lv_iconst (v := 1) hx hb dX12_isAttacked_26 (by decide) ?_
      refine lv_goto (tgt := 31) hx hb dX12_isAttacked_27 (by decide) ?_
      exact t_X12_isAttacked_31 F hr hlocks hK hp hW hE (lv_sub hl [] rfl) hL_a0 hK_a0
  · replace hp := hp.2 c_5
    refine lv_iconst (v := 0) hx hb dX12_isAttacked_13 (by decide) ?_
    exact w_zret hx hb hr hlocks hW hp.1 ⟨hE, hp.2⟩ dX12_isAttacked_14
set_option maxHeartbeats 4000000 in
set_option maxRecDepth 100000 in
theorem c_X12_isAttacked (l : Launch) {D : wD} {cy : Nat → ClassId} {X : va_W} {S0 : wS} {post : Int32 → wS → Prop} {a0 : Nat} {x1 : Int32} {x2 : Int32} (hL_a0 : wM D S0 a0) (hK_a0 : sK S0 a0 = 17) (hp : wp_X12_isAttacked D post S0 a0 x1 x2) : mI D cy X l yX12_isAttacked wz_X12_isAttacked r_X12_isAttacked [.ref a0, .int x1, .int x2] S0 (fun r S9 => wX D S0 S9 ∧ post r S9) := by
  intro sz
  refine Met.ofW (cc := cX12_isAttacked) (maxL := 3) (ret := (some .boolean)) (by decide) rfl ?_
  intro p e s m args below meth c s₁ B hml hv
  obtain ⟨rfl, hsz, hP, hK, hD0, hRO⟩ := hv
  have hts := atoms_spec (ws := wz_X12_isAttacked) B.pre
  have hown : s.vm.findClass RX12 = some m.cls := findClass_of_methodNamed B.named
  subst hsz
  have hD := hD0.self (sz := s.heap.size)
  have F : CallFix p m c cX12_isAttacked 3 s _ wz_X12_isAttacked RX12 := ⟨B.exec, B.bytes, hml, hown, hts⟩
  have hr := B.returns
  have hlocks := B.notSynchronized
  generalize hAe : va_A (wL cy X S0) s.heap.size = A at hD hK ⊢
  have hA : ∀ q, s.heap.size ≤ q → A q := fun q h => by rw [← hAe]; exact Or.inr h
  have hW : wO D cy X A s.heap S0 s.heap [] := ⟨hP, hD, va_S.rf, hA, hRO⟩
  have hl := lv_entry ([.ref a0, .int x1, .int x2]) (n := 3) (Nat.le_of_ble_eq_true rfl)
  rw [lg_entry_eq]
  generalize (lg_sl ([.ref a0, .int x1, .int x2]) ++ List.replicate (3 - (lg_sl ([.ref a0, .int x1, .int x2])).length) Slot.unset).toArray = ls at hl ⊢
  have hl : lv_has ls 3 [(0, .ref a0), (1, .int x1), (2, .int x2)] := hl
  unfold wp_X12_isAttacked at hp
  exact t_X12_isAttacked_0 F hr hlocks hK hp hW wX.rf (lv_sub hl [0, 1, 2] rfl) hL_a0 hK_a0
def wp_X12_isDead_69 (D : wD) (post : Int32 → wS → Prop)  (S : wS) (t0 : Int32) : Prop :=
narrow .boolean (.int t0) = .int t0 ∧ post t0 S
def wp_X12_isDead_51 (D : wD) (post : Int32 → wS → Prop) (k_4 : wS → Nat → Int32 → Int32 → Prop) (S : wS) (a0 : Nat) (x2 : Int32) (t0 : Int32) (t1 : Int32) : Prop :=
∀ x_1 : Int32, x_1 = (t0 + t1) →
∀ x_2 : Int32, x_2 = x2 + 1 →
k_4 S a0 x_1 x_2
def wp_X12_isDead_46 (D : wD) (post : Int32 → wS → Prop) (k_4 : wS → Nat → Int32 → Int32 → Prop) (S : wS) (a0 : Nat) (x2 : Int32) (t0 : Int32) : Prop :=
wp_X12_isDead_51 D post k_4 S a0 x2 t0 (1 : Int32)
def wp_X12_isDead_32 (D : wD) (post : Int32 → wS → Prop) (k_4 : wS → Nat → Int32 → Int32 → Prop) (S : wS) (a0 : Nat) (x2 : Int32) (t0 : Int32) : Prop :=
wp_X12_isDead_51 D post k_4 S a0 x2 t0 (0 : Int32)
def wp_X12_isDead_4 (D : wD) (post : Int32 → wS → Prop)  : Nat → wS → Nat → Int32 → Int32 → Prop
  | 0, _, _, _, _ => False
  | n + 1, S, a0, x1, x2 =>
    wp_X12_squares D (fun r_1 S_2 => 
    ((r_1 ≤ x2 → (((1 : Int32) < x1 → wp_X12_isDead_69 D post S_2 (0 : Int32)) ∧
     (¬ (1 : Int32) < x1 → wp_X12_isDead_69 D post S_2 (1 : Int32)))) ∧
     (¬ r_1 ≤ x2 → wp_X12_on D (fun r_5 S_6 => 
    wp_X12_kindOf D (fun r_7 S_8 => 
    ((r_7 = 0 → wp_X12_isDead_32 D post (wp_X12_isDead_4 D post n) S_8 a0 x2 x1) ∧
     (¬ r_7 = 0 → ((¬ r_7 = (1 : Int32) → ((r_7 = (4 : Int32) → wp_X12_isDead_46 D post (wp_X12_isDead_4 D post n) S_8 a0 x2 x1) ∧
     (¬ r_7 = (4 : Int32) → ((¬ r_7 = (5 : Int32) → wp_X12_isDead_51 D post (wp_X12_isDead_4 D post n) S_8 a0 x2 x1 (2 : Int32)) ∧
     (r_7 = (5 : Int32) → wp_X12_isDead_46 D post (wp_X12_isDead_4 D post n) S_8 a0 x2 x1))))) ∧
     (r_7 = (1 : Int32) → wp_X12_isDead_32 D post (wp_X12_isDead_4 D post n) S_8 a0 x2 x1))))) S_6 r_5) S_2 a0 (0 : Int32) x2))) S a0
def wp_X12_isDead_0 (D : wD) (post : Int32 → wS → Prop)  (S : wS) (a0 : Nat) : Prop :=
∃ n_1 : Nat, wp_X12_isDead_4 D post n_1 S a0 (0 : Int32) (0 : Int32)
abbrev r_X12_isDead : Room := { frames := 1, cells := 0, slots := 0, locals := 22 }
def wp_X12_isDead (D : wD) (post : Int32 → wS → Prop) (S : wS) (a0 : Nat) : Prop := wp_X12_isDead_0 D post S a0
set_option maxHeartbeats 4000000 in
set_option maxRecDepth 100000 in
theorem t_X12_isDead_69 {p : Program} {l : Launch} {e : Env} {s : State} {m : MethodId} {args : Array Value} {below : List Frame} {meth : Method} {c : Code} {D : wD} {cy : Nat → ClassId} {X : va_W} {A : Nat → Prop} {S0 : wS} {post : Int32 → wS → Prop} (F : CallFix p m c cX12_isDead 4 s args wz_X12_isDead RX12) (hr : meth.sig.returnType = (some .boolean)) (hlocks : meth.locks = false) (hK : wK D cy A s) : ∀ {S : wS} {H : Heap} {locs : List Loc} {ls : Array Slot} {t0 : Int32}, wp_X12_isDead_69 D post S t0 → wO D cy X A s.heap S H locs → wX D S0 S → lv_has ls 4 [] → W p l e r_X12_isDead s m args below meth c H locs 0 0 (MQ below (va_Qi (fun r S9 => wX D S0 S9 ∧ post r S9) (wB D cy X A) A) args s 0 0 A) (F0 m 69 ls [.int t0]) := by
  obtain ⟨hx, hb, hml, hown, hts⟩ := id F
  have hwg : ∀ w ∈ WG, w.before args s = true := fun w h => hts w (List.mem_cons_of_mem _ h)
  intro S H locs ls t0 hp hW hE hl
  unfold wp_X12_isDead_69 at hp
  exact w_zret hx hb hr hlocks hW hp.1 ⟨hE, hp.2⟩ dX12_isDead_69
set_option maxHeartbeats 4000000 in
set_option maxRecDepth 100000 in
theorem t_X12_isDead_51 {p : Program} {l : Launch} {e : Env} {s : State} {m : MethodId} {args : Array Value} {below : List Frame} {meth : Method} {c : Code} {D : wD} {cy : Nat → ClassId} {X : va_W} {A : Nat → Prop} {S0 : wS} {post : Int32 → wS → Prop} (F : CallFix p m c cX12_isDead 4 s args wz_X12_isDead RX12) (hr : meth.sig.returnType = (some .boolean)) (hlocks : meth.locks = false) (hK : wK D cy A s) {k_4 : wS → Nat → Int32 → Int32 → Prop} (q_4 : ∀ {S : wS} {H : Heap} {locs : List Loc} {ls : Array Slot} {a0 : Nat} {x1 : Int32} {x2 : Int32}, k_4 S a0 x1 x2 → wO D cy X A s.heap S H locs → wX D S0 S → lv_has ls 4 [(0, .ref a0), (1, .int x1), (2, .int x2)] → wM D S a0 → sK S a0 = 17 → W p l e r_X12_isDead s m args below meth c H locs 0 0 (MQ below (va_Qi (fun r S9 => wX D S0 S9 ∧ post r S9) (wB D cy X A) A) args s 0 0 A) (F0 m 4 ls [])) : ∀ {S : wS} {H : Heap} {locs : List Loc} {ls : Array Slot} {a0 : Nat} {x2 : Int32} {t0 : Int32} {t1 : Int32}, wp_X12_isDead_51 D post k_4 S a0 x2 t0 t1 → wO D cy X A s.heap S H locs → wX D S0 S → lv_has ls 4 [(0, .ref a0), (2, .int x2)] → wM D S a0 → sK S a0 = 17 → W p l e r_X12_isDead s m args below meth c H locs 0 0 (MQ below (va_Qi (fun r S9 => wX D S0 S9 ∧ post r S9) (wB D cy X A) A) args s 0 0 A) (F0 m 51 ls [.int t1, .int t0]) := by
  obtain ⟨hx, hb, hml, hown, hts⟩ := id F
  have hwg : ∀ w ∈ WG, w.before args s = true := fun w h => hts w (List.mem_cons_of_mem _ h)
  intro S H locs ls a0 x2 t0 t1 hp hW hE hl hL_a0 hK_a0
  unfold wp_X12_isDead_51 at hp
  refine lv_iadd hx hb dX12_isDead_51 ?_
  refine lv_topi (fun x_1 ex_1 => ?_)
  replace hp := hp x_1 ex_1
  refine lv_istore_n (lv' := [(1, .int x_1), (0, .ref a0), (2, .int x2)]) hx hb dX12_isDead_52 rfl hl (by decide) rfl (fun ls hl => ?_)
  obtain ⟨x_2, ex_2⟩ : ∃ z : Int32, z = x2 + 1 := ⟨_, rfl⟩
  replace hp := hp x_2 ex_2
  refine lv_iinc (v := x_2) (lv' := [(2, .int x_2), (1, .int x_1), (0, .ref a0)]) hx hb dX12_isDead_53 hl (k := 2) rfl (by rw [ex_2]; rfl) (by decide) rfl (fun ls hl => ?_)
  refine lv_goto (tgt := 4) hx hb dX12_isDead_56 (by decide) ?_
  exact q_4 hp hW hE (lv_sub hl [2, 1, 0] rfl) hL_a0 hK_a0
set_option maxHeartbeats 4000000 in
set_option maxRecDepth 100000 in
theorem t_X12_isDead_46 {p : Program} {l : Launch} {e : Env} {s : State} {m : MethodId} {args : Array Value} {below : List Frame} {meth : Method} {c : Code} {D : wD} {cy : Nat → ClassId} {X : va_W} {A : Nat → Prop} {S0 : wS} {post : Int32 → wS → Prop} (F : CallFix p m c cX12_isDead 4 s args wz_X12_isDead RX12) (hr : meth.sig.returnType = (some .boolean)) (hlocks : meth.locks = false) (hK : wK D cy A s) {k_4 : wS → Nat → Int32 → Int32 → Prop} (q_4 : ∀ {S : wS} {H : Heap} {locs : List Loc} {ls : Array Slot} {a0 : Nat} {x1 : Int32} {x2 : Int32}, k_4 S a0 x1 x2 → wO D cy X A s.heap S H locs → wX D S0 S → lv_has ls 4 [(0, .ref a0), (1, .int x1), (2, .int x2)] → wM D S a0 → sK S a0 = 17 → W p l e r_X12_isDead s m args below meth c H locs 0 0 (MQ below (va_Qi (fun r S9 => wX D S0 S9 ∧ post r S9) (wB D cy X A) A) args s 0 0 A) (F0 m 4 ls [])) : ∀ {S : wS} {H : Heap} {locs : List Loc} {ls : Array Slot} {a0 : Nat} {x2 : Int32} {t0 : Int32}, wp_X12_isDead_46 D post k_4 S a0 x2 t0 → wO D cy X A s.heap S H locs → wX D S0 S → lv_has ls 4 [(0, .ref a0), (2, .int x2)] → wM D S a0 → sK S a0 = 17 → W p l e r_X12_isDead s m args below meth c H locs 0 0 (MQ below (va_Qi (fun r S9 => wX D S0 S9 ∧ post r S9) (wB D cy X A) A) args s 0 0 A) (F0 m 46 ls [.int t0]) := by
  obtain ⟨hx, hb, hml, hown, hts⟩ := id F
  have hwg : ∀ w ∈ WG, w.before args s = true := fun w h => hts w (List.mem_cons_of_mem _ h)
  intro S H locs ls a0 x2 t0 hp hW hE hl hL_a0 hK_a0
  unfold wp_X12_isDead_46 at hp
  refine lv_iconst (v := 1) hx hb dX12_isDead_46 (by decide) ?_
  refine lv_goto (tgt := 51) hx hb dX12_isDead_47 (by decide) ?_
  exact t_X12_isDead_51 F hr hlocks hK q_4 hp hW hE (lv_sub hl [0, 1] rfl) hL_a0 hK_a0
set_option maxHeartbeats 4000000 in
set_option maxRecDepth 100000 in
theorem t_X12_isDead_32 {p : Program} {l : Launch} {e : Env} {s : State} {m : MethodId} {args : Array Value} {below : List Frame} {meth : Method} {c : Code} {D : wD} {cy : Nat → ClassId} {X : va_W} {A : Nat → Prop} {S0 : wS} {post : Int32 → wS → Prop} (F : CallFix p m c cX12_isDead 4 s args wz_X12_isDead RX12) (hr : meth.sig.returnType = (some .boolean)) (hlocks : meth.locks = false) (hK : wK D cy A s) {k_4 : wS → Nat → Int32 → Int32 → Prop} (q_4 : ∀ {S : wS} {H : Heap} {locs : List Loc} {ls : Array Slot} {a0 : Nat} {x1 : Int32} {x2 : Int32}, k_4 S a0 x1 x2 → wO D cy X A s.heap S H locs → wX D S0 S → lv_has ls 4 [(0, .ref a0), (1, .int x1), (2, .int x2)] → wM D S a0 → sK S a0 = 17 → W p l e r_X12_isDead s m args below meth c H locs 0 0 (MQ below (va_Qi (fun r S9 => wX D S0 S9 ∧ post r S9) (wB D cy X A) A) args s 0 0 A) (F0 m 4 ls [])) : ∀ {S : wS} {H : Heap} {locs : List Loc} {ls : Array Slot} {a0 : Nat} {x2 : Int32} {t0 : Int32}, wp_X12_isDead_32 D post k_4 S a0 x2 t0 → wO D cy X A s.heap S H locs → wX D S0 S → lv_has ls 4 [(0, .ref a0), (2, .int x2)] → wM D S a0 → sK S a0 = 17 → W p l e r_X12_isDead s m args below meth c H locs 0 0 (MQ below (va_Qi (fun r S9 => wX D S0 S9 ∧ post r S9) (wB D cy X A) A) args s 0 0 A) (F0 m 32 ls [.int t0]) := by
  obtain ⟨hx, hb, hml, hown, hts⟩ := id F
  have hwg : ∀ w ∈ WG, w.before args s = true := fun w h => hts w (List.mem_cons_of_mem _ h)
  intro S H locs ls a0 x2 t0 hp hW hE hl hL_a0 hK_a0
  unfold wp_X12_isDead_32 at hp
  refine lv_iconst (v := 0) hx hb dX12_isDead_32 (by decide) ?_
  refine lv_goto (tgt := 51) hx hb dX12_isDead_33 (by decide) ?_
  exact t_X12_isDead_51 F hr hlocks hK q_4 hp hW hE (lv_sub hl [0, 1] rfl) hL_a0 hK_a0
set_option maxHeartbeats 4000000 in
set_option maxRecDepth 100000 in
theorem t_X12_isDead_4 {p : Program} {l : Launch} {e : Env} {s : State} {m : MethodId} {args : Array Value} {below : List Frame} {meth : Method} {c : Code} {D : wD} {cy : Nat → ClassId} {X : va_W} {A : Nat → Prop} {S0 : wS} {post : Int32 → wS → Prop} (F : CallFix p m c cX12_isDead 4 s args wz_X12_isDead RX12) (hr : meth.sig.returnType = (some .boolean)) (hlocks : meth.locks = false) (hK : wK D cy A s) : ∀ (n : Nat) {S : wS} {H : Heap} {locs : List Loc} {ls : Array Slot} {a0 : Nat} {x1 : Int32} {x2 : Int32}, wp_X12_isDead_4 D post n S a0 x1 x2 → wO D cy X A s.heap S H locs → wX D S0 S → lv_has ls 4 [(0, .ref a0), (1, .int x1), (2, .int x2)] → wM D S a0 → sK S a0 = 17 → W p l e r_X12_isDead s m args below meth c H locs 0 0 (MQ below (va_Qi (fun r S9 => wX D S0 S9 ∧ post r S9) (wB D cy X A) A) args s 0 0 A) (F0 m 4 ls []) := by
  obtain ⟨hx, hb, hml, hown, hts⟩ := id F
  have hwg : ∀ w ∈ WG, w.before args s = true := fun w h => hts w (List.mem_cons_of_mem _ h)
  intro n
  induction n with
  | zero =>
    intro S H locs ls a0 x1 x2 hp
    exact hp.elim
  | succ n ih =>
    intro S H locs ls a0 x1 x2 hp hW hE hl hL_a0 hK_a0
    unfold wp_X12_isDead_4 at hp
    refine lv_iload_n hx hb dX12_isDead_4 rfl (lv_at hl 2 rfl) ?_
    refine lv_aload_n hx hb dX12_isDead_5 rfl (lv_at hl 0 rfl) ?_
    refine w_callI (va_runV (As := []) (rest := [.int x2]) F (c_X12_squares l hL_a0 hK_a0 hp H.size) (cwV (C := RX12) 0 hts (wg_V wm_RX12_113 wy_X12_squares) rfl rfl rfl (by decide +kernel) ⟨Nat.le_of_ble_eq_true rfl, Nat.le_of_ble_eq_true rfl⟩) (w_preV hK hW hL_a0 hK_a0 (by decide) rfl) rfl rfl hl.1 rfl (lv_room (Nat.le_of_ble_eq_true rfl)) dX12_isDead_6 ⟨Nat.le_of_ble_eq_true rfl, Nat.le_of_ble_eq_true rfl⟩) hW (fun r_1 S_2 H locs hp hW => ?_)
    obtain ⟨hX_S_2, hp⟩ := hp
    refine W.widen (k := 0) (n := 0) (by decide) (by decide) ?_
    have hE := hE.trans hX_S_2
    have hK_a0 : sK S_2 a0 = 17 := (hX_S_2.2 a0 hL_a0).1.trans hK_a0
    have hL_a0 : wM D S_2 a0 := hX_S_2.M hL_a0
    refine lv_icmp_ge (tgt := 59) hx hb dX12_isDead_9 (by decide) (fun c_3 => ?_) (fun c_3 => ?_)
    · replace hp := hp.1 c_3
      refine lv_iload_n hx hb dX12_isDead_59 rfl (lv_at hl 1 rfl) ?_
      refine lv_iconst (v := 1) hx hb dX12_isDead_60 (by decide) ?_
      refine lv_icmp_gt (tgt := 68) hx hb dX12_isDead_61 (by decide) (fun c_4 => ?_) (fun c_4 => ?_)
      · replace hp := hp.1 c_4
        refine lv_iconst (v := 0) hx hb dX12_isDead_68 (by decide) ?_
        exact t_X12_isDead_69 F hr hlocks hK hp hW hE (lv_sub hl [] rfl)
      · replace hp := hp.2 c_4
        refine lv_iconst (v := 1) hx hb dX12_isDead_64 (by decide) ?_
        refine lv_goto (tgt := 69) hx hb dX12_isDead_65 (by decide) ?_
        exact t_X12_isDead_69 F hr hlocks hK hp hW hE (lv_sub hl [] rfl)
    · replace hp := hp.2 c_3
      refine lv_aload_n hx hb dX12_isDead_12 rfl (lv_at hl 0 rfl) ?_
      refine lv_iconst (v := 0) hx hb dX12_isDead_13 (by decide) ?_
      refine lv_iload_n hx hb dX12_isDead_14 rfl (lv_at hl 2 rfl) ?_
      refine w_callI (va_runV (As := [.int (0 : Int32), .int x2]) (rest := []) F (c_X12_on l hL_a0 hK_a0 hp H.size) (cwV (C := RX12) 2 hts (wg_V wm_RX12_141 wy_X12_on) rfl rfl rfl (by decide +kernel) ⟨Nat.le_of_ble_eq_true rfl, Nat.le_of_ble_eq_true rfl⟩) (w_preV hK hW hL_a0 hK_a0 (by decide) rfl) rfl rfl hl.1 rfl (lv_room (Nat.le_of_ble_eq_true rfl)) dX12_isDead_15 ⟨Nat.le_of_ble_eq_true rfl, Nat.le_of_ble_eq_true rfl⟩) hW (fun r_5 S_6 H locs hp hW => ?_)
      obtain ⟨hX_S_6, hp⟩ := hp
      refine W.widen (k := 0) (n := 0) (by decide) (by decide) ?_
      have hE := hE.trans hX_S_6
      have hK_a0 : sK S_6 a0 = 17 := (hX_S_6.2 a0 hL_a0).1.trans hK_a0
      have hL_a0 : wM D S_6 a0 := hX_S_6.M hL_a0
      refine w_callI (va_runS (As := [.int r_5]) (rest := []) F (c_X12_kindOf l hp H.size) (va_cwS 1 hts (wg_S wm_RX12_148 wy_X12_kindOf) rfl rfl rfl (by decide +kernel) ⟨Nat.le_of_ble_eq_true rfl, Nat.le_of_ble_eq_true rfl⟩) (w_preS hK hW) rfl rfl hl.1 rfl (lv_room (Nat.le_of_ble_eq_true rfl)) dX12_isDead_18 ⟨Nat.le_of_ble_eq_true rfl, Nat.le_of_ble_eq_true rfl⟩) hW (fun r_7 S_8 H locs hp hW => ?_)
      obtain ⟨hX_S_8, hp⟩ := hp
      refine W.widen (k := 0) (n := 0) (by decide) (by decide) ?_
      have hE := hE.trans hX_S_8
      have hK_a0 : sK S_8 a0 = 17 := (hX_S_8.2 a0 hL_a0).1.trans hK_a0
      have hL_a0 : wM D S_8 a0 := hX_S_8.M hL_a0
      refine lv_istore_n (lv' := [(3, .int r_7), (0, .ref a0), (1, .int x1), (2, .int x2)]) hx hb dX12_isDead_21 rfl hl (by decide) rfl (fun ls hl => ?_)
      refine lv_iload_n hx hb dX12_isDead_22 rfl (lv_at hl 2 rfl) ?_
      refine lv_iload_n hx hb dX12_isDead_23 rfl (lv_at hl 0 rfl) ?_
      refine lv_if_eq (tgt := 32) hx hb dX12_isDead_24 (by decide) (fun c_9 => ?_) (fun c_9 => ?_)
      · replace hp := hp.1 c_9
        exact t_X12_isDead_32 F hr hlocks hK ih hp hW hE (lv_sub hl [1, 3] rfl) hL_a0 hK_a0
      · replace hp := hp.2 c_9
        refine lv_iload_n hx hb dX12_isDead_27 rfl (lv_at hl 0 rfl) ?_
        refine lv_iconst (v := 1) hx hb dX12_isDead_28 (by decide) ?_
        refine lv_icmp_ne (tgt := 36) hx hb dX12_isDead_29 (by decide) (fun c_10 => ?_) (fun c_10 => ?_)
        · replace hp := hp.1 c_10
          refine lv_iload_n hx hb dX12_isDead_36 rfl (lv_at hl 0 rfl) ?_
          refine lv_iconst (v := 4) hx hb dX12_isDead_37 (by decide) ?_
          refine lv_icmp_eq (tgt := 46) hx hb dX12_isDead_38 (by decide) (fun c_11 => ?_) (fun c_11 => ?_)
          · replace hp := hp.1 c_11
            exact t_X12_isDead_46 F hr hlocks hK ih hp hW hE (lv_sub hl [1, 3] rfl) hL_a0 hK_a0
          · replace hp := hp.2 c_11
            refine lv_iload_n hx hb dX12_isDead_41 rfl (lv_at hl 0 rfl) ?_
            refine lv_iconst (v := 5) hx hb dX12_isDead_42 (by decide) ?_
            refine lv_icmp_ne (tgt := 50) hx hb dX12_isDead_43 (by decide) (fun c_12 => ?_) (fun c_12 => ?_)
            · replace hp := hp.1 c_12
              refine lv_iconst (v := 2) hx hb dX12_isDead_50 (by decide) ?_
              exact t_X12_isDead_51 F hr hlocks hK ih hp hW hE (lv_sub hl [1, 3] rfl) hL_a0 hK_a0
            · replace hp := hp.2 c_12
              exact t_X12_isDead_46 F hr hlocks hK ih hp hW hE (lv_sub hl [1, 3] rfl) hL_a0 hK_a0
        · replace hp := hp.2 c_10
          exact t_X12_isDead_32 F hr hlocks hK ih hp hW hE (lv_sub hl [1, 3] rfl) hL_a0 hK_a0
set_option maxHeartbeats 4000000 in
set_option maxRecDepth 100000 in
theorem t_X12_isDead_0 {p : Program} {l : Launch} {e : Env} {s : State} {m : MethodId} {args : Array Value} {below : List Frame} {meth : Method} {c : Code} {D : wD} {cy : Nat → ClassId} {X : va_W} {A : Nat → Prop} {S0 : wS} {post : Int32 → wS → Prop} (F : CallFix p m c cX12_isDead 4 s args wz_X12_isDead RX12) (hr : meth.sig.returnType = (some .boolean)) (hlocks : meth.locks = false) (hK : wK D cy A s) : ∀ {S : wS} {H : Heap} {locs : List Loc} {ls : Array Slot} {a0 : Nat}, wp_X12_isDead_0 D post S a0 → wO D cy X A s.heap S H locs → wX D S0 S → lv_has ls 4 [(0, .ref a0)] → wM D S a0 → sK S a0 = 17 → W p l e r_X12_isDead s m args below meth c H locs 0 0 (MQ below (va_Qi (fun r S9 => wX D S0 S9 ∧ post r S9) (wB D cy X A) A) args s 0 0 A) (F0 m 0 ls []) := by
  obtain ⟨hx, hb, hml, hown, hts⟩ := id F
  have hwg : ∀ w ∈ WG, w.before args s = true := fun w h => hts w (List.mem_cons_of_mem _ h)
  intro S H locs ls a0 hp hW hE hl hL_a0 hK_a0
  unfold wp_X12_isDead_0 at hp
  refine lv_iconst (v := 0) hx hb dX12_isDead_0 (by decide) ?_
  refine lv_istore_n (lv' := [(1, .int (0 : Int32)), (0, .ref a0)]) hx hb dX12_isDead_1 rfl hl (by decide) rfl (fun ls hl => ?_)
  refine lv_iconst (v := 0) hx hb dX12_isDead_2 (by decide) ?_
  refine lv_istore_n (lv' := [(2, .int (0 : Int32)), (1, .int (0 : Int32)), (0, .ref a0)]) hx hb dX12_isDead_3 rfl hl (by decide) rfl (fun ls hl => ?_)
  obtain ⟨n_1, hp⟩ := hp
  exact t_X12_isDead_4 F hr hlocks hK n_1 hp hW hE (lv_sub hl [2, 1, 0] rfl) hL_a0 hK_a0
set_option maxHeartbeats 4000000 in
set_option maxRecDepth 100000 in
theorem c_X12_isDead (l : Launch) {D : wD} {cy : Nat → ClassId} {X : va_W} {S0 : wS} {post : Int32 → wS → Prop} {a0 : Nat} (hL_a0 : wM D S0 a0) (hK_a0 : sK S0 a0 = 17) (hp : wp_X12_isDead D post S0 a0) : mI D cy X l yX12_isDead wz_X12_isDead r_X12_isDead [.ref a0] S0 (fun r S9 => wX D S0 S9 ∧ post r S9) := by
  intro sz
  refine Met.ofW (cc := cX12_isDead) (maxL := 4) (ret := (some .boolean)) (by decide) rfl ?_
  intro p e s m args below meth c s₁ B hml hv
  obtain ⟨rfl, hsz, hP, hK, hD0, hRO⟩ := hv
  have hts := atoms_spec (ws := wz_X12_isDead) B.pre
  have hown : s.vm.findClass RX12 = some m.cls := findClass_of_methodNamed B.named
  subst hsz
  have hD := hD0.self (sz := s.heap.size)
  have F : CallFix p m c cX12_isDead 4 s _ wz_X12_isDead RX12 := ⟨B.exec, B.bytes, hml, hown, hts⟩
  have hr := B.returns
  have hlocks := B.notSynchronized
  generalize hAe : va_A (wL cy X S0) s.heap.size = A at hD hK ⊢
  have hA : ∀ q, s.heap.size ≤ q → A q := fun q h => by rw [← hAe]; exact Or.inr h
  have hW : wO D cy X A s.heap S0 s.heap [] := ⟨hP, hD, va_S.rf, hA, hRO⟩
  have hl := lv_entry ([.ref a0]) (n := 4) (Nat.le_of_ble_eq_true rfl)
  rw [lg_entry_eq]
  generalize (lg_sl ([.ref a0]) ++ List.replicate (4 - (lg_sl ([.ref a0])).length) Slot.unset).toArray = ls at hl ⊢
  have hl : lv_has ls 4 [(0, .ref a0)] := hl
  unfold wp_X12_isDead at hp
  exact t_X12_isDead_0 F hr hlocks hK hp hW wX.rf (lv_sub hl [0] rfl) hL_a0 hK_a0
def wp_X12_isOld_44 (D : wD) (post : Int32 → wS → Prop)  : Nat → wS → Nat → Int32 → Int32 → Int32 → Int32 → Int32 → Prop
  | 0, _, _, _, _, _, _, _ => False
  | n + 1, S, a0, x1, x2, x3, x4, x5 =>
    ((x3 ≤ x5 → narrow .boolean (.int (0 : Int32)) = .int (0 : Int32) ∧ post (0 : Int32) S) ∧
     (¬ x3 ≤ x5 → ∃ y_2 : Nat, sR S a0 31 = some y_2 ∧ wM D S y_2 ∧ sK S y_2 = 21 ∧
    wp_X12_placeOf D (fun r_3 S_4 => 
    ∃ y_5 : Nat, sR S_4 a0 31 = some y_5 ∧ wM D S_4 y_5 ∧ sK S_4 y_5 = 21 ∧
    wp_X12_isSame D (fun r_6 S_7 => 
    ((r_6 = 0 → ∀ x_9 : Int32, x_9 = x5 + 1 →
    wp_X12_isOld_44 D post n S_7 a0 x1 x2 x3 x4 x_9) ∧
     (¬ r_6 = 0 → narrow .boolean (.int (1 : Int32)) = .int (1 : Int32) ∧ post (1 : Int32) S_7))) S_4 y_2 r_3 y_5 x4) S x1 x2 x5))
def wp_X12_isOld_11 (D : wD) (post : Int32 → wS → Prop)  : Nat → wS → Nat → Int32 → Int32 → Int32 → Int32 → Int32 → Prop
  | 0, _, _, _, _, _, _, _ => False
  | n + 1, S, a0, x1, x2, x3, x4, x5 =>
    ((x2 ≤ x5 → ∃ n_2 : Nat, wp_X12_isOld_44 D post n_2 S a0 x1 x2 x3 x4 (0 : Int32)) ∧
     (¬ x2 ≤ x5 → ∃ y_3 : Nat, sR S a0 31 = some y_3 ∧ wM D S y_3 ∧ sK S y_3 = 21 ∧
    wp_X12_passes D (fun r_4 S_5 => 
    ((r_4 = 0 → ∀ x_7 : Int32, x_7 = x5 + 1 →
    wp_X12_isOld_11 D post n S_5 a0 x1 x2 x3 x4 x_7) ∧
     (¬ r_4 = 0 → narrow .boolean (.int (1 : Int32)) = .int (1 : Int32) ∧ post (1 : Int32) S_5))) S a0 x1 x5 y_3 x4))
def wp_X12_isOld_0 (D : wD) (post : Int32 → wS → Prop)  (S : wS) (a0 : Nat) (x1 : Int32) (x2 : Int32) (x3 : Int32) : Prop :=
wp_X12_placeOf D (fun r_1 S_2 => 
∃ n_3 : Nat, wp_X12_isOld_11 D post n_3 S_2 a0 x1 x2 x3 r_1 (0 : Int32)) S x1 x2 x3
abbrev r_X12_isOld : Room := { frames := 2, cells := 0, slots := 0, locals := 49 }
def wp_X12_isOld (D : wD) (post : Int32 → wS → Prop) (S : wS) (a0 : Nat) (x1 : Int32) (x2 : Int32) (x3 : Int32) : Prop := wp_X12_isOld_0 D post S a0 x1 x2 x3
set_option maxHeartbeats 4000000 in
set_option maxRecDepth 100000 in
theorem t_X12_isOld_44 {p : Program} {l : Launch} {e : Env} {s : State} {m : MethodId} {args : Array Value} {below : List Frame} {meth : Method} {c : Code} {D : wD} {cy : Nat → ClassId} {X : va_W} {A : Nat → Prop} {S0 : wS} {post : Int32 → wS → Prop} (F : CallFix p m c cX12_isOld 6 s args wz_X12_isOld RX12) (hr : meth.sig.returnType = (some .boolean)) (hlocks : meth.locks = false) (hK : wK D cy A s) : ∀ (n : Nat) {S : wS} {H : Heap} {locs : List Loc} {ls : Array Slot} {a0 : Nat} {x1 : Int32} {x2 : Int32} {x3 : Int32} {x4 : Int32} {x5 : Int32}, wp_X12_isOld_44 D post n S a0 x1 x2 x3 x4 x5 → wO D cy X A s.heap S H locs → wX D S0 S → lv_has ls 6 [(0, .ref a0), (1, .int x1), (2, .int x2), (3, .int x3), (4, .int x4), (5, .int x5)] → wM D S a0 → sK S a0 = 17 → W p l e r_X12_isOld s m args below meth c H locs 0 0 (MQ below (va_Qi (fun r S9 => wX D S0 S9 ∧ post r S9) (wB D cy X A) A) args s 0 0 A) (F0 m 44 ls []) := by
  obtain ⟨hx, hb, hml, hown, hts⟩ := id F
  have hwg : ∀ w ∈ WG, w.before args s = true := fun w h => hts w (List.mem_cons_of_mem _ h)
  have i_17 : ∀ w ∈ u_ws RX12 TX12 43, w ∈ wz_X12_isOld := fun w h => List.mem_cons_of_mem _ (wu_17 w h)
  have k_73 := hwg _ wf_RX12_73
  intro n
  induction n with
  | zero =>
    intro S H locs ls a0 x1 x2 x3 x4 x5 hp
    exact hp.elim
  | succ n ih =>
    intro S H locs ls a0 x1 x2 x3 x4 x5 hp hW hE hl hL_a0 hK_a0
    unfold wp_X12_isOld_44 at hp
    refine lv_iload hx hb dX12_isOld_44 (lv_at hl 5 rfl) ?_
    refine lv_iload_n hx hb dX12_isOld_46 rfl (lv_at hl 3 rfl) ?_
    refine lv_icmp_ge (tgt := 81) hx hb dX12_isOld_47 (by decide) (fun c_1 => ?_) (fun c_1 => ?_)
    · replace hp := hp.1 c_1
      refine lv_iconst (v := 0) hx hb dX12_isOld_81 (by decide) ?_
      exact w_zret hx hb hr hlocks hW hp.1 ⟨hE, hp.2⟩ dX12_isOld_82
    · replace hp := hp.2 c_1
      refine lv_aload_n hx hb dX12_isOld_50 rfl (lv_at hl 0 rfl) ?_
      obtain ⟨y_2, ey_2, hL_y_2, hK_y_2, hp⟩ := hp
      refine w_get (k := 17) (f := 31) (T := TX12) (v := .ref y_2) F hK hW hL_a0 hK_a0 (by decide) rfl rfl (by decide) i_17 k_73 (by rw [show wv 17 31 S a0 = va_rf (sR S a0 31) from rfl, ey_2]; rfl) dX12_isOld_51 ?_
      refine lv_iload_n hx hb dX12_isOld_54 rfl (lv_at hl 1 rfl) ?_
      refine lv_iload_n hx hb dX12_isOld_55 rfl (lv_at hl 2 rfl) ?_
      refine lv_iload hx hb dX12_isOld_56 (lv_at hl 5 rfl) ?_
      refine w_callI (va_runS (As := [.int x1, .int x2, .int x5]) (rest := [.ref y_2]) F (c_X12_placeOf l hp H.size) (va_cwS 3 hts (wg_S wm_RX12_403 wy_X12_placeOf) rfl rfl rfl (by decide +kernel) ⟨Nat.le_of_ble_eq_true rfl, Nat.le_of_ble_eq_true rfl⟩) (w_preS hK hW) rfl rfl hl.1 rfl (lv_room (Nat.le_of_ble_eq_true rfl)) dX12_isOld_58 ⟨Nat.le_of_ble_eq_true rfl, Nat.le_of_ble_eq_true rfl⟩) hW (fun r_3 S_4 H locs hp hW => ?_)
      obtain ⟨hX_S_4, hp⟩ := hp
      refine W.widen (k := 0) (n := 0) (by decide) (by decide) ?_
      have hE := hE.trans hX_S_4
      have hK_a0 : sK S_4 a0 = 17 := (hX_S_4.2 a0 hL_a0).1.trans hK_a0
      have hL_a0 : wM D S_4 a0 := hX_S_4.M hL_a0
      have hK_y_2 : sK S_4 y_2 = 21 := (hX_S_4.2 y_2 hL_y_2).1.trans hK_y_2
      have hL_y_2 : wM D S_4 y_2 := hX_S_4.M hL_y_2
      refine lv_aload_n hx hb dX12_isOld_61 rfl (lv_at hl 0 rfl) ?_
      obtain ⟨y_5, ey_5, hL_y_5, hK_y_5, hp⟩ := hp
      refine w_get (k := 17) (f := 31) (T := TX12) (v := .ref y_5) F hK hW hL_a0 hK_a0 (by decide) rfl rfl (by decide) i_17 k_73 (by rw [show wv 17 31 S_4 a0 = va_rf (sR S_4 a0 31) from rfl, ey_5]; rfl) dX12_isOld_62 ?_
      refine lv_iload hx hb dX12_isOld_65 (lv_at hl 4 rfl) ?_
      refine w_callI (va_runS (As := [.ref y_2, .int r_3, .ref y_5, .int x4]) (rest := []) F (c_X12_isSame l hL_y_2 hK_y_2 hL_y_5 hK_y_5 hp H.size) (va_cwS 4 hts (wg_S wm_RX12_330 wy_X12_isSame) rfl rfl rfl (by decide +kernel) ⟨Nat.le_of_ble_eq_true rfl, Nat.le_of_ble_eq_true rfl⟩) (w_preS hK hW) rfl rfl hl.1 rfl (lv_room (Nat.le_of_ble_eq_true rfl)) dX12_isOld_67 ⟨Nat.le_of_ble_eq_true rfl, Nat.le_of_ble_eq_true rfl⟩) hW (fun r_6 S_7 H locs hp hW => ?_)
      obtain ⟨hX_S_7, hp⟩ := hp
      refine W.widen (k := 0) (n := 0) (by decide) (by decide) ?_
      have hE := hE.trans hX_S_7
      have hK_a0 : sK S_7 a0 = 17 := (hX_S_7.2 a0 hL_a0).1.trans hK_a0
      have hL_a0 : wM D S_7 a0 := hX_S_7.M hL_a0
      refine lv_if_eq (tgt := 75) hx hb dX12_isOld_70 (by decide) (fun c_8 => ?_) (fun c_8 => ?_)
      · replace hp := hp.1 c_8
        obtain ⟨x_9, ex_9⟩ : ∃ z : Int32, z = x5 + 1 := ⟨_, rfl⟩
        replace hp := hp x_9 ex_9
        refine lv_iinc (v := x_9) (lv' := [(5, .int x_9), (0, .ref a0), (1, .int x1), (2, .int x2), (3, .int x3), (4, .int x4)]) hx hb dX12_isOld_75 hl (k := 5) rfl (by rw [ex_9]; rfl) (by decide) rfl (fun ls hl => ?_)
        refine lv_goto (tgt := 44) hx hb dX12_isOld_78 (by decide) ?_
        exact ih hp hW hE (lv_sub hl [1, 2, 3, 4, 5, 0] rfl) hL_a0 hK_a0
      · replace hp := hp.2 c_8
        refine lv_iconst (v := 1) hx hb dX12_isOld_73 (by decide) ?_
        exact w_zret hx hb hr hlocks hW hp.1 ⟨hE, hp.2⟩ dX12_isOld_74
set_option maxHeartbeats 4000000 in
set_option maxRecDepth 100000 in
theorem t_X12_isOld_11 {p : Program} {l : Launch} {e : Env} {s : State} {m : MethodId} {args : Array Value} {below : List Frame} {meth : Method} {c : Code} {D : wD} {cy : Nat → ClassId} {X : va_W} {A : Nat → Prop} {S0 : wS} {post : Int32 → wS → Prop} (F : CallFix p m c cX12_isOld 6 s args wz_X12_isOld RX12) (hr : meth.sig.returnType = (some .boolean)) (hlocks : meth.locks = false) (hK : wK D cy A s) : ∀ (n : Nat) {S : wS} {H : Heap} {locs : List Loc} {ls : Array Slot} {a0 : Nat} {x1 : Int32} {x2 : Int32} {x3 : Int32} {x4 : Int32} {x5 : Int32}, wp_X12_isOld_11 D post n S a0 x1 x2 x3 x4 x5 → wO D cy X A s.heap S H locs → wX D S0 S → lv_has ls 6 [(0, .ref a0), (1, .int x1), (2, .int x2), (3, .int x3), (4, .int x4), (5, .int x5)] → wM D S a0 → sK S a0 = 17 → W p l e r_X12_isOld s m args below meth c H locs 0 0 (MQ below (va_Qi (fun r S9 => wX D S0 S9 ∧ post r S9) (wB D cy X A) A) args s 0 0 A) (F0 m 11 ls []) := by
  obtain ⟨hx, hb, hml, hown, hts⟩ := id F
  have hwg : ∀ w ∈ WG, w.before args s = true := fun w h => hts w (List.mem_cons_of_mem _ h)
  have i_17 : ∀ w ∈ u_ws RX12 TX12 43, w ∈ wz_X12_isOld := fun w h => List.mem_cons_of_mem _ (wu_17 w h)
  have k_73 := hwg _ wf_RX12_73
  intro n
  induction n with
  | zero =>
    intro S H locs ls a0 x1 x2 x3 x4 x5 hp
    exact hp.elim
  | succ n ih =>
    intro S H locs ls a0 x1 x2 x3 x4 x5 hp hW hE hl hL_a0 hK_a0
    unfold wp_X12_isOld_11 at hp
    refine lv_iload hx hb dX12_isOld_11 (lv_at hl 5 rfl) ?_
    refine lv_iload_n hx hb dX12_isOld_13 rfl (lv_at hl 2 rfl) ?_
    refine lv_icmp_ge (tgt := 41) hx hb dX12_isOld_14 (by decide) (fun c_1 => ?_) (fun c_1 => ?_)
    · replace hp := hp.1 c_1
      refine lv_iconst (v := 0) hx hb dX12_isOld_41 (by decide) ?_
      refine lv_istore (lv' := [(5, .int (0 : Int32)), (0, .ref a0), (1, .int x1), (2, .int x2), (3, .int x3), (4, .int x4)]) hx hb dX12_isOld_42 hl (by decide) rfl (fun ls hl => ?_)
      obtain ⟨n_2, hp⟩ := hp
      exact t_X12_isOld_44 F hr hlocks hK n_2 hp hW hE (lv_sub hl [1, 2, 3, 4, 5, 0] rfl) hL_a0 hK_a0
    · replace hp := hp.2 c_1
      refine lv_aload_n hx hb dX12_isOld_17 rfl (lv_at hl 0 rfl) ?_
      refine lv_iload_n hx hb dX12_isOld_18 rfl (lv_at hl 1 rfl) ?_
      refine lv_iload hx hb dX12_isOld_19 (lv_at hl 5 rfl) ?_
      refine lv_aload_n hx hb dX12_isOld_21 rfl (lv_at hl 0 rfl) ?_
      obtain ⟨y_3, ey_3, hL_y_3, hK_y_3, hp⟩ := hp
      refine w_get (k := 17) (f := 31) (T := TX12) (v := .ref y_3) F hK hW hL_a0 hK_a0 (by decide) rfl rfl (by decide) i_17 k_73 (by rw [show wv 17 31 S a0 = va_rf (sR S a0 31) from rfl, ey_3]; rfl) dX12_isOld_22 ?_
      refine lv_iload hx hb dX12_isOld_25 (lv_at hl 4 rfl) ?_
      refine w_callI (va_runV (As := [.int x1, .int x5, .ref y_3, .int x4]) (rest := []) F (c_X12_passes l hL_a0 hK_a0 hL_y_3 hK_y_3 hp H.size) (cwV (C := RX12) 4 hts (wg_V wm_RX12_410 wy_X12_passes) rfl rfl rfl (by decide +kernel) ⟨Nat.le_of_ble_eq_true rfl, Nat.le_of_ble_eq_true rfl⟩) (w_preV hK hW hL_a0 hK_a0 (by decide) rfl) rfl rfl hl.1 rfl (lv_room (Nat.le_of_ble_eq_true rfl)) dX12_isOld_27 ⟨Nat.le_of_ble_eq_true rfl, Nat.le_of_ble_eq_true rfl⟩) hW (fun r_4 S_5 H locs hp hW => ?_)
      obtain ⟨hX_S_5, hp⟩ := hp
      refine W.widen (k := 0) (n := 0) (by decide) (by decide) ?_
      have hE := hE.trans hX_S_5
      have hK_a0 : sK S_5 a0 = 17 := (hX_S_5.2 a0 hL_a0).1.trans hK_a0
      have hL_a0 : wM D S_5 a0 := hX_S_5.M hL_a0
      refine lv_if_eq (tgt := 35) hx hb dX12_isOld_30 (by decide) (fun c_6 => ?_) (fun c_6 => ?_)
      · replace hp := hp.1 c_6
        obtain ⟨x_7, ex_7⟩ : ∃ z : Int32, z = x5 + 1 := ⟨_, rfl⟩
        replace hp := hp x_7 ex_7
        refine lv_iinc (v := x_7) (lv' := [(5, .int x_7), (0, .ref a0), (1, .int x1), (2, .int x2), (3, .int x3), (4, .int x4)]) hx hb dX12_isOld_35 hl (k := 5) rfl (by rw [ex_7]; rfl) (by decide) rfl (fun ls hl => ?_)
        refine lv_goto (tgt := 11) hx hb dX12_isOld_38 (by decide) ?_
        exact ih hp hW hE (lv_sub hl [1, 2, 3, 4, 5, 0] rfl) hL_a0 hK_a0
      · replace hp := hp.2 c_6
        refine lv_iconst (v := 1) hx hb dX12_isOld_33 (by decide) ?_
        exact w_zret hx hb hr hlocks hW hp.1 ⟨hE, hp.2⟩ dX12_isOld_34
set_option maxHeartbeats 4000000 in
set_option maxRecDepth 100000 in
theorem t_X12_isOld_0 {p : Program} {l : Launch} {e : Env} {s : State} {m : MethodId} {args : Array Value} {below : List Frame} {meth : Method} {c : Code} {D : wD} {cy : Nat → ClassId} {X : va_W} {A : Nat → Prop} {S0 : wS} {post : Int32 → wS → Prop} (F : CallFix p m c cX12_isOld 6 s args wz_X12_isOld RX12) (hr : meth.sig.returnType = (some .boolean)) (hlocks : meth.locks = false) (hK : wK D cy A s) : ∀ {S : wS} {H : Heap} {locs : List Loc} {ls : Array Slot} {a0 : Nat} {x1 : Int32} {x2 : Int32} {x3 : Int32}, wp_X12_isOld_0 D post S a0 x1 x2 x3 → wO D cy X A s.heap S H locs → wX D S0 S → lv_has ls 6 [(0, .ref a0), (1, .int x1), (2, .int x2), (3, .int x3)] → wM D S a0 → sK S a0 = 17 → W p l e r_X12_isOld s m args below meth c H locs 0 0 (MQ below (va_Qi (fun r S9 => wX D S0 S9 ∧ post r S9) (wB D cy X A) A) args s 0 0 A) (F0 m 0 ls []) := by
  obtain ⟨hx, hb, hml, hown, hts⟩ := id F
  have hwg : ∀ w ∈ WG, w.before args s = true := fun w h => hts w (List.mem_cons_of_mem _ h)
  intro S H locs ls a0 x1 x2 x3 hp hW hE hl hL_a0 hK_a0
  unfold wp_X12_isOld_0 at hp
  refine lv_iload_n hx hb dX12_isOld_0 rfl (lv_at hl 1 rfl) ?_
  refine lv_iload_n hx hb dX12_isOld_1 rfl (lv_at hl 2 rfl) ?_
  refine lv_iload_n hx hb dX12_isOld_2 rfl (lv_at hl 3 rfl) ?_
  refine w_callI (va_runS (As := [.int x1, .int x2, .int x3]) (rest := []) F (c_X12_placeOf l hp H.size) (va_cwS 3 hts (wg_S wm_RX12_403 wy_X12_placeOf) rfl rfl rfl (by decide +kernel) ⟨Nat.le_of_ble_eq_true rfl, Nat.le_of_ble_eq_true rfl⟩) (w_preS hK hW) rfl rfl hl.1 rfl (lv_room (Nat.le_of_ble_eq_true rfl)) dX12_isOld_3 ⟨Nat.le_of_ble_eq_true rfl, Nat.le_of_ble_eq_true rfl⟩) hW (fun r_1 S_2 H locs hp hW => ?_)
  obtain ⟨hX_S_2, hp⟩ := hp
  refine W.widen (k := 0) (n := 0) (by decide) (by decide) ?_
  have hE := hE.trans hX_S_2
  have hK_a0 : sK S_2 a0 = 17 := (hX_S_2.2 a0 hL_a0).1.trans hK_a0
  have hL_a0 : wM D S_2 a0 := hX_S_2.M hL_a0
  refine lv_istore (lv' := [(4, .int r_1), (0, .ref a0), (1, .int x1), (2, .int x2), (3, .int x3)]) hx hb dX12_isOld_6 hl (by decide) rfl (fun ls hl => ?_)
  refine lv_iconst (v := 0) hx hb dX12_isOld_8 (by decide) ?_
  refine lv_istore (lv' := [(5, .int (0 : Int32)), (4, .int r_1), (0, .ref a0), (1, .int x1), (2, .int x2), (3, .int x3)]) hx hb dX12_isOld_9 hl (by decide) rfl (fun ls hl => ?_)
  obtain ⟨n_3, hp⟩ := hp
  exact t_X12_isOld_11 F hr hlocks hK n_3 hp hW hE (lv_sub hl [2, 3, 4, 5, 1, 0] rfl) hL_a0 hK_a0
set_option maxHeartbeats 4000000 in
set_option maxRecDepth 100000 in
theorem c_X12_isOld (l : Launch) {D : wD} {cy : Nat → ClassId} {X : va_W} {S0 : wS} {post : Int32 → wS → Prop} {a0 : Nat} {x1 : Int32} {x2 : Int32} {x3 : Int32} (hL_a0 : wM D S0 a0) (hK_a0 : sK S0 a0 = 17) (hp : wp_X12_isOld D post S0 a0 x1 x2 x3) : mI D cy X l yX12_isOld wz_X12_isOld r_X12_isOld [.ref a0, .int x1, .int x2, .int x3] S0 (fun r S9 => wX D S0 S9 ∧ post r S9) := by
  intro sz
  refine Met.ofW (cc := cX12_isOld) (maxL := 6) (ret := (some .boolean)) (by decide) rfl ?_
  intro p e s m args below meth c s₁ B hml hv
  obtain ⟨rfl, hsz, hP, hK, hD0, hRO⟩ := hv
  have hts := atoms_spec (ws := wz_X12_isOld) B.pre
  have hown : s.vm.findClass RX12 = some m.cls := findClass_of_methodNamed B.named
  subst hsz
  have hD := hD0.self (sz := s.heap.size)
  have F : CallFix p m c cX12_isOld 6 s _ wz_X12_isOld RX12 := ⟨B.exec, B.bytes, hml, hown, hts⟩
  have hr := B.returns
  have hlocks := B.notSynchronized
  generalize hAe : va_A (wL cy X S0) s.heap.size = A at hD hK ⊢
  have hA : ∀ q, s.heap.size ≤ q → A q := fun q h => by rw [← hAe]; exact Or.inr h
  have hW : wO D cy X A s.heap S0 s.heap [] := ⟨hP, hD, va_S.rf, hA, hRO⟩
  have hl := lv_entry ([.ref a0, .int x1, .int x2, .int x3]) (n := 6) (Nat.le_of_ble_eq_true rfl)
  rw [lg_entry_eq]
  generalize (lg_sl ([.ref a0, .int x1, .int x2, .int x3]) ++ List.replicate (6 - (lg_sl ([.ref a0, .int x1, .int x2, .int x3])).length) Slot.unset).toArray = ls at hl ⊢
  have hl : lv_has ls 6 [(0, .ref a0), (1, .int x1), (2, .int x2), (3, .int x3)] := hl
  unfold wp_X12_isOld at hp
  exact t_X12_isOld_0 F hr hlocks hK hp hW wX.rf (lv_sub hl [0, 1, 2, 3] rfl) hL_a0 hK_a0
def wp_X12_isOpenFile_23 (D : wD) (post : Int32 → wS → Prop)  : Nat → wS → Nat → Int32 → Int32 → Prop
  | 0, _, _, _, _ => False
  | n + 1, S, a0, x1, x2 =>
    (((sI S a0 2) ≤ x2 → narrow .boolean (.int (1 : Int32)) = .int (1 : Int32) ∧ post (1 : Int32) S) ∧
     (¬ (sI S a0 2) ≤ x2 → ∃ y_2 : Nat, sR S a0 8 = some y_2 ∧ wM D S y_2 ∧ sK S y_2 = 21 ∧
    wp_X12_presentAt D (fun r_3 S_4 => 
    vp_in ((r_3 + ((sI S_4 a0 1) * x2)) + x1) (sN S_4 y_2) ∧
    wp_X12_kindOf D (fun r_6 S_7 => 
    ((¬ r_6 = (6 : Int32) → ∀ x_9 : Int32, x_9 = x2 + 1 →
    wp_X12_isOpenFile_23 D post n S_7 a0 x1 x_9) ∧
     (r_6 = (6 : Int32) → narrow .boolean (.int (0 : Int32)) = .int (0 : Int32) ∧ post (0 : Int32) S_7))) S_4 (sI S_4 y_2 (((r_3 + ((sI S_4 a0 1) * x2)) + x1)).toNatClampNeg)) S a0))
def wp_X12_isOpenFile_0 (D : wD) (post : Int32 → wS → Prop)  (S : wS) (a0 : Nat) (x1 : Int32) : Prop :=
wp_X12_in D (fun r_1 S_2 => 
wp_X12_can D (fun r_3 S_4 => 
((¬ r_3 = 0 → ∃ n_6 : Nat, wp_X12_isOpenFile_23 D post n_6 S_4 a0 x1 (0 : Int32)) ∧
 (r_3 = 0 → narrow .boolean (.int (0 : Int32)) = .int (0 : Int32) ∧ post (0 : Int32) S_4))) S_2 a0 r_1 (1 : Int32)) S x1 (0 : Int32) ((sI S a0 1) - (1 : Int32))
abbrev r_X12_isOpenFile : Room := { frames := 1, cells := 0, slots := 0, locals := 22 }
def wp_X12_isOpenFile (D : wD) (post : Int32 → wS → Prop) (S : wS) (a0 : Nat) (x1 : Int32) : Prop := wp_X12_isOpenFile_0 D post S a0 x1
set_option maxHeartbeats 4000000 in
set_option maxRecDepth 100000 in
theorem t_X12_isOpenFile_23 {p : Program} {l : Launch} {e : Env} {s : State} {m : MethodId} {args : Array Value} {below : List Frame} {meth : Method} {c : Code} {D : wD} {cy : Nat → ClassId} {X : va_W} {A : Nat → Prop} {S0 : wS} {post : Int32 → wS → Prop} (F : CallFix p m c cX12_isOpenFile 3 s args wz_X12_isOpenFile RX12) (hr : meth.sig.returnType = (some .boolean)) (hlocks : meth.locks = false) (hK : wK D cy A s) : ∀ (n : Nat) {S : wS} {H : Heap} {locs : List Loc} {ls : Array Slot} {a0 : Nat} {x1 : Int32} {x2 : Int32}, wp_X12_isOpenFile_23 D post n S a0 x1 x2 → wO D cy X A s.heap S H locs → wX D S0 S → lv_has ls 3 [(0, .ref a0), (1, .int x1), (2, .int x2)] → wM D S a0 → sK S a0 = 17 → W p l e r_X12_isOpenFile s m args below meth c H locs 0 0 (MQ below (va_Qi (fun r S9 => wX D S0 S9 ∧ post r S9) (wB D cy X A) A) args s 0 0 A) (F0 m 23 ls []) := by
  obtain ⟨hx, hb, hml, hown, hts⟩ := id F
  have hwg : ∀ w ∈ WG, w.before args s = true := fun w h => hts w (List.mem_cons_of_mem _ h)
  have i_17 : ∀ w ∈ u_ws RX12 TX12 43, w ∈ wz_X12_isOpenFile := fun w h => List.mem_cons_of_mem _ (wu_17 w h)
  have k_13 := hwg _ wf_RX12_13
  have k_32 := hwg _ wf_RX12_32
  have k_9 := hwg _ wf_RX12_9
  intro n
  induction n with
  | zero =>
    intro S H locs ls a0 x1 x2 hp
    exact hp.elim
  | succ n ih =>
    intro S H locs ls a0 x1 x2 hp hW hE hl hL_a0 hK_a0
    unfold wp_X12_isOpenFile_23 at hp
    refine lv_iload_n hx hb dX12_isOpenFile_23 rfl (lv_at hl 2 rfl) ?_
    refine lv_aload_n hx hb dX12_isOpenFile_24 rfl (lv_at hl 0 rfl) ?_
    refine w_get (k := 17) (f := 2) (T := TX12) (v := .int (sI S a0 2)) F hK hW hL_a0 hK_a0 (by decide) rfl rfl (by decide) i_17 k_13 rfl dX12_isOpenFile_25 ?_
    refine lv_icmp_ge (tgt := 65) hx hb dX12_isOpenFile_28 (by decide) (fun c_1 => ?_) (fun c_1 => ?_)
    · replace hp := hp.1 c_1
      refine lv_iconst (v := 1) hx hb dX12_isOpenFile_65 (by decide) ?_
      exact w_zret hx hb hr hlocks hW hp.1 ⟨hE, hp.2⟩ dX12_isOpenFile_66
    · replace hp := hp.2 c_1
      refine lv_aload_n hx hb dX12_isOpenFile_31 rfl (lv_at hl 0 rfl) ?_
      obtain ⟨y_2, ey_2, hL_y_2, hK_y_2, hp⟩ := hp
      refine w_get (k := 17) (f := 8) (T := TX12) (v := .ref y_2) F hK hW hL_a0 hK_a0 (by decide) rfl rfl (by decide) i_17 k_32 (by rw [show wv 17 8 S a0 = va_rf (sR S a0 8) from rfl, ey_2]; rfl) dX12_isOpenFile_32 ?_
      refine lv_aload_n hx hb dX12_isOpenFile_35 rfl (lv_at hl 0 rfl) ?_
      refine w_callI (va_runV (As := []) (rest := [.ref y_2]) F (c_X12_presentAt l hL_a0 hK_a0 hp H.size) (cwV (C := RX12) 0 hts (wg_V wm_RX12_127 wy_X12_presentAt) rfl rfl rfl (by decide +kernel) ⟨Nat.le_of_ble_eq_true rfl, Nat.le_of_ble_eq_true rfl⟩) (w_preV hK hW hL_a0 hK_a0 (by decide) rfl) rfl rfl hl.1 rfl (lv_room (Nat.le_of_ble_eq_true rfl)) dX12_isOpenFile_36 ⟨Nat.le_of_ble_eq_true rfl, Nat.le_of_ble_eq_true rfl⟩) hW (fun r_3 S_4 H locs hp hW => ?_)
      obtain ⟨hX_S_4, hp⟩ := hp
      refine W.widen (k := 0) (n := 0) (by decide) (by decide) ?_
      have hE := hE.trans hX_S_4
      have hK_a0 : sK S_4 a0 = 17 := (hX_S_4.2 a0 hL_a0).1.trans hK_a0
      have hL_a0 : wM D S_4 a0 := hX_S_4.M hL_a0
      have hK_y_2 : sK S_4 y_2 = 21 := (hX_S_4.2 y_2 hL_y_2).1.trans hK_y_2
      have hL_y_2 : wM D S_4 y_2 := hX_S_4.M hL_y_2
      refine lv_aload_n hx hb dX12_isOpenFile_39 rfl (lv_at hl 0 rfl) ?_
      refine w_get (k := 17) (f := 1) (T := TX12) (v := .int (sI S_4 a0 1)) F hK hW hL_a0 hK_a0 (by decide) rfl rfl (by decide) i_17 k_9 rfl dX12_isOpenFile_40 ?_
      refine lv_iload_n hx hb dX12_isOpenFile_43 rfl (lv_at hl 2 rfl) ?_
      refine lv_imul hx hb dX12_isOpenFile_44 ?_
      refine lv_iadd hx hb dX12_isOpenFile_45 ?_
      refine lv_iload_n hx hb dX12_isOpenFile_46 rfl (lv_at hl 1 rfl) ?_
      refine lv_iadd hx hb dX12_isOpenFile_47 ?_
      obtain ⟨h_5, hp⟩ := hp
      refine w_ild F hK hW hL_y_2 hK_y_2 h_5 dX12_isOpenFile_48 ?_
      refine w_callI (va_runS (As := [.int (sI S_4 y_2 (((r_3 + ((sI S_4 a0 1) * x2)) + x1)).toNatClampNeg)]) (rest := []) F (c_X12_kindOf l hp H.size) (va_cwS 1 hts (wg_S wm_RX12_148 wy_X12_kindOf) rfl rfl rfl (by decide +kernel) ⟨Nat.le_of_ble_eq_true rfl, Nat.le_of_ble_eq_true rfl⟩) (w_preS hK hW) rfl rfl hl.1 rfl (lv_room (Nat.le_of_ble_eq_true rfl)) dX12_isOpenFile_49 ⟨Nat.le_of_ble_eq_true rfl, Nat.le_of_ble_eq_true rfl⟩) hW (fun r_6 S_7 H locs hp hW => ?_)
      obtain ⟨hX_S_7, hp⟩ := hp
      refine W.widen (k := 0) (n := 0) (by decide) (by decide) ?_
      have hE := hE.trans hX_S_7
      have hK_a0 : sK S_7 a0 = 17 := (hX_S_7.2 a0 hL_a0).1.trans hK_a0
      have hL_a0 : wM D S_7 a0 := hX_S_7.M hL_a0
      refine lv_bipush (v := 6) hx hb dX12_isOpenFile_52 (by decide) ?_
      refine lv_icmp_ne (tgt := 59) hx hb dX12_isOpenFile_54 (by decide) (fun c_8 => ?_) (fun c_8 => ?_)
      · replace hp := hp.1 c_8
        obtain ⟨x_9, ex_9⟩ : ∃ z : Int32, z = x2 + 1 := ⟨_, rfl⟩
        replace hp := hp x_9 ex_9
        refine lv_iinc (v := x_9) (lv' := [(2, .int x_9), (0, .ref a0), (1, .int x1)]) hx hb dX12_isOpenFile_59 hl (k := 2) rfl (by rw [ex_9]; rfl) (by decide) rfl (fun ls hl => ?_)
        refine lv_goto (tgt := 23) hx hb dX12_isOpenFile_62 (by decide) ?_
        exact ih hp hW hE (lv_sub hl [1, 2, 0] rfl) hL_a0 hK_a0
      · replace hp := hp.2 c_8
        refine lv_iconst (v := 0) hx hb dX12_isOpenFile_57 (by decide) ?_
        exact w_zret hx hb hr hlocks hW hp.1 ⟨hE, hp.2⟩ dX12_isOpenFile_58
set_option maxHeartbeats 4000000 in
set_option maxRecDepth 100000 in
theorem t_X12_isOpenFile_0 {p : Program} {l : Launch} {e : Env} {s : State} {m : MethodId} {args : Array Value} {below : List Frame} {meth : Method} {c : Code} {D : wD} {cy : Nat → ClassId} {X : va_W} {A : Nat → Prop} {S0 : wS} {post : Int32 → wS → Prop} (F : CallFix p m c cX12_isOpenFile 3 s args wz_X12_isOpenFile RX12) (hr : meth.sig.returnType = (some .boolean)) (hlocks : meth.locks = false) (hK : wK D cy A s) : ∀ {S : wS} {H : Heap} {locs : List Loc} {ls : Array Slot} {a0 : Nat} {x1 : Int32}, wp_X12_isOpenFile_0 D post S a0 x1 → wO D cy X A s.heap S H locs → wX D S0 S → lv_has ls 3 [(0, .ref a0), (1, .int x1)] → wM D S a0 → sK S a0 = 17 → W p l e r_X12_isOpenFile s m args below meth c H locs 0 0 (MQ below (va_Qi (fun r S9 => wX D S0 S9 ∧ post r S9) (wB D cy X A) A) args s 0 0 A) (F0 m 0 ls []) := by
  obtain ⟨hx, hb, hml, hown, hts⟩ := id F
  have hwg : ∀ w ∈ WG, w.before args s = true := fun w h => hts w (List.mem_cons_of_mem _ h)
  have i_17 : ∀ w ∈ u_ws RX12 TX12 43, w ∈ wz_X12_isOpenFile := fun w h => List.mem_cons_of_mem _ (wu_17 w h)
  have k_9 := hwg _ wf_RX12_9
  intro S H locs ls a0 x1 hp hW hE hl hL_a0 hK_a0
  unfold wp_X12_isOpenFile_0 at hp
  refine lv_aload_n hx hb dX12_isOpenFile_0 rfl (lv_at hl 0 rfl) ?_
  refine lv_iload_n hx hb dX12_isOpenFile_1 rfl (lv_at hl 1 rfl) ?_
  refine lv_iconst (v := 0) hx hb dX12_isOpenFile_2 (by decide) ?_
  refine lv_aload_n hx hb dX12_isOpenFile_3 rfl (lv_at hl 0 rfl) ?_
  refine w_get (k := 17) (f := 1) (T := TX12) (v := .int (sI S a0 1)) F hK hW hL_a0 hK_a0 (by decide) rfl rfl (by decide) i_17 k_9 rfl dX12_isOpenFile_4 ?_
  refine lv_iconst (v := 1) hx hb dX12_isOpenFile_7 (by decide) ?_
  refine lv_isub hx hb dX12_isOpenFile_8 ?_
  refine w_callI (va_runS (As := [.int x1, .int (0 : Int32), .int ((sI S a0 1) - (1 : Int32))]) (rest := [.ref a0]) F (c_X12_in l hp H.size) (va_cwS 3 hts (wg_S wm_RX12_117 wy_X12_in) rfl rfl rfl (by decide +kernel) ⟨Nat.le_of_ble_eq_true rfl, Nat.le_of_ble_eq_true rfl⟩) (w_preS hK hW) rfl rfl hl.1 rfl (lv_room (Nat.le_of_ble_eq_true rfl)) dX12_isOpenFile_9 ⟨Nat.le_of_ble_eq_true rfl, Nat.le_of_ble_eq_true rfl⟩) hW (fun r_1 S_2 H locs hp hW => ?_)
  obtain ⟨hX_S_2, hp⟩ := hp
  refine W.widen (k := 0) (n := 0) (by decide) (by decide) ?_
  have hE := hE.trans hX_S_2
  have hK_a0 : sK S_2 a0 = 17 := (hX_S_2.2 a0 hL_a0).1.trans hK_a0
  have hL_a0 : wM D S_2 a0 := hX_S_2.M hL_a0
  refine lv_iconst (v := 1) hx hb dX12_isOpenFile_12 (by decide) ?_
  refine w_callI (va_runV (As := [.int r_1, .int (1 : Int32)]) (rest := []) F (c_X12_can l hL_a0 hK_a0 hp H.size) (cwV (C := RX12) 2 hts (wg_V wm_RX12_237 wy_X12_can) rfl rfl rfl (by decide +kernel) ⟨Nat.le_of_ble_eq_true rfl, Nat.le_of_ble_eq_true rfl⟩) (w_preV hK hW hL_a0 hK_a0 (by decide) rfl) rfl rfl hl.1 rfl (lv_room (Nat.le_of_ble_eq_true rfl)) dX12_isOpenFile_13 ⟨Nat.le_of_ble_eq_true rfl, Nat.le_of_ble_eq_true rfl⟩) hW (fun r_3 S_4 H locs hp hW => ?_)
  obtain ⟨hX_S_4, hp⟩ := hp
  refine W.widen (k := 0) (n := 0) (by decide) (by decide) ?_
  have hE := hE.trans hX_S_4
  have hK_a0 : sK S_4 a0 = 17 := (hX_S_4.2 a0 hL_a0).1.trans hK_a0
  have hL_a0 : wM D S_4 a0 := hX_S_4.M hL_a0
  refine lv_if_ne (tgt := 21) hx hb dX12_isOpenFile_16 (by decide) (fun c_5 => ?_) (fun c_5 => ?_)
  · replace hp := hp.1 c_5
    refine lv_iconst (v := 0) hx hb dX12_isOpenFile_21 (by decide) ?_
    refine lv_istore_n (lv' := [(2, .int (0 : Int32)), (0, .ref a0), (1, .int x1)]) hx hb dX12_isOpenFile_22 rfl hl (by decide) rfl (fun ls hl => ?_)
    obtain ⟨n_6, hp⟩ := hp
    exact t_X12_isOpenFile_23 F hr hlocks hK n_6 hp hW hE (lv_sub hl [1, 2, 0] rfl) hL_a0 hK_a0
  · replace hp := hp.2 c_5
    refine lv_iconst (v := 0) hx hb dX12_isOpenFile_19 (by decide) ?_
    exact w_zret hx hb hr hlocks hW hp.1 ⟨hE, hp.2⟩ dX12_isOpenFile_20
set_option maxHeartbeats 4000000 in
set_option maxRecDepth 100000 in
theorem c_X12_isOpenFile (l : Launch) {D : wD} {cy : Nat → ClassId} {X : va_W} {S0 : wS} {post : Int32 → wS → Prop} {a0 : Nat} {x1 : Int32} (hL_a0 : wM D S0 a0) (hK_a0 : sK S0 a0 = 17) (hp : wp_X12_isOpenFile D post S0 a0 x1) : mI D cy X l yX12_isOpenFile wz_X12_isOpenFile r_X12_isOpenFile [.ref a0, .int x1] S0 (fun r S9 => wX D S0 S9 ∧ post r S9) := by
  intro sz
  refine Met.ofW (cc := cX12_isOpenFile) (maxL := 3) (ret := (some .boolean)) (by decide) rfl ?_
  intro p e s m args below meth c s₁ B hml hv
  obtain ⟨rfl, hsz, hP, hK, hD0, hRO⟩ := hv
  have hts := atoms_spec (ws := wz_X12_isOpenFile) B.pre
  have hown : s.vm.findClass RX12 = some m.cls := findClass_of_methodNamed B.named
  subst hsz
  have hD := hD0.self (sz := s.heap.size)
  have F : CallFix p m c cX12_isOpenFile 3 s _ wz_X12_isOpenFile RX12 := ⟨B.exec, B.bytes, hml, hown, hts⟩
  have hr := B.returns
  have hlocks := B.notSynchronized
  generalize hAe : va_A (wL cy X S0) s.heap.size = A at hD hK ⊢
  have hA : ∀ q, s.heap.size ≤ q → A q := fun q h => by rw [← hAe]; exact Or.inr h
  have hW : wO D cy X A s.heap S0 s.heap [] := ⟨hP, hD, va_S.rf, hA, hRO⟩
  have hl := lv_entry ([.ref a0, .int x1]) (n := 3) (Nat.le_of_ble_eq_true rfl)
  rw [lg_entry_eq]
  generalize (lg_sl ([.ref a0, .int x1]) ++ List.replicate (3 - (lg_sl ([.ref a0, .int x1])).length) Slot.unset).toArray = ls at hl ⊢
  have hl : lv_has ls 3 [(0, .ref a0), (1, .int x1)] := hl
  unfold wp_X12_isOpenFile at hp
  exact t_X12_isOpenFile_0 F hr hlocks hK hp hW wX.rf (lv_sub hl [0, 1] rfl) hL_a0 hK_a0
def wp_X12_isPassingRight_138 (D : wD) (post : Int32 → wS → Prop)  (S : wS) (t0 : Int32) : Prop :=
narrow .boolean (.int t0) = .int t0 ∧ post t0 S
def wp_X12_isPassingRight_137 (D : wD) (post : Int32 → wS → Prop)  (S : wS) : Prop :=
wp_X12_isPassingRight_138 D post S (0 : Int32)
def wp_X12_isPassingRight_86 (D : wD) (post : Int32 → wS → Prop)  (S : wS) : Prop :=
narrow .boolean (.int (0 : Int32)) = .int (0 : Int32) ∧ post (0 : Int32) S
def wp_X12_isPassingRight_31 (D : wD) (post : Int32 → wS → Prop)  (S : wS) (a0 : Nat) (x1 : Int32) (x2 : Int32) (x3 : Int32) (t0 : Int32) : Prop :=
(((sI S a0 2) < (6 : Int32) → wp_X12_isPassingRight_86 D post S) ∧
 (¬ (sI S a0 2) < (6 : Int32) → wp_X12_rankOf D (fun r_2 S_3 => 
wp_X12_firstRank D (fun r_4 S_5 => 
((¬ r_2 = (r_4 + ((2 : Int32) * t0)) → wp_X12_isPassingRight_86 D post S_5) ∧
 (r_2 = (r_4 + ((2 : Int32) * t0)) → wp_X12_on D (fun r_7 S_8 => 
((¬ r_7 = 0 → wp_X12_isPassingRight_86 D post S_8) ∧
 (r_7 = 0 → wp_X12_on D (fun r_10 S_11 => 
((r_10 = 0 → ∀ x_13 : Int32, x_13 = (x2 + (t0 * (sI S_11 a0 1))) →
wp_X12_on D (fun r_14 S_15 => 
wp_X12_pieceOf D (fun r_16 S_17 => 
((¬ r_14 = r_16 → wp_X12_isPassingRight_137 D post S_17) ∧
 (r_14 = r_16 → wp_X12_pieceOf D (fun r_19 S_20 => 
wp_X12_isBeside D (fun r_21 S_22 => 
((r_21 = 0 → wp_X12_isPassingRight_137 D post S_22) ∧
 (¬ r_21 = 0 → wp_X12_isPassingRight_138 D post S_22 (1 : Int32)))) S_20 a0 x1 x_13 r_19) S_17 (6 : Int32) ((1 : Int32) - x3)))) S_15 (6 : Int32) x3) S_11 a0 x1 x_13) ∧
 (¬ r_10 = 0 → wp_X12_isPassingRight_86 D post S_11))) S_8 a0 x1 (x2 - (t0 * (sI S_8 a0 1)))))) S_5 a0 x1 x2))) S_3 a0 x3) S a0 x2))
def wp_X12_isPassingRight_0 (D : wD) (post : Int32 → wS → Prop)  (S : wS) (a0 : Nat) (x1 : Int32) : Prop :=
wp_X12_passing D (fun r_1 S_2 => 
((¬ r_1 = (-1 : Int32) → wp_X12_side D (fun r_4 S_5 => 
∀ x_6 : Int32, x_6 = ((1 : Int32) - r_4) →
((¬ x_6 = (1 : Int32) → wp_X12_isPassingRight_31 D post S_5 a0 x1 r_1 x_6 (-1 : Int32)) ∧
 (x_6 = (1 : Int32) → wp_X12_isPassingRight_31 D post S_5 a0 x1 r_1 x_6 (1 : Int32)))) S_2 a0 x1) ∧
 (r_1 = (-1 : Int32) → narrow .boolean (.int (1 : Int32)) = .int (1 : Int32) ∧ post (1 : Int32) S_2))) S a0 x1
abbrev r_X12_isPassingRight : Room := { frames := 2, cells := 0, slots := 0, locals := 45 }
def wp_X12_isPassingRight (D : wD) (post : Int32 → wS → Prop) (S : wS) (a0 : Nat) (x1 : Int32) : Prop := wp_X12_isPassingRight_0 D post S a0 x1
set_option maxHeartbeats 4000000 in
set_option maxRecDepth 100000 in
theorem t_X12_isPassingRight_138 {p : Program} {l : Launch} {e : Env} {s : State} {m : MethodId} {args : Array Value} {below : List Frame} {meth : Method} {c : Code} {D : wD} {cy : Nat → ClassId} {X : va_W} {A : Nat → Prop} {S0 : wS} {post : Int32 → wS → Prop} (F : CallFix p m c cX12_isPassingRight 6 s args wz_X12_isPassingRight RX12) (hr : meth.sig.returnType = (some .boolean)) (hlocks : meth.locks = false) (hK : wK D cy A s) : ∀ {S : wS} {H : Heap} {locs : List Loc} {ls : Array Slot} {t0 : Int32}, wp_X12_isPassingRight_138 D post S t0 → wO D cy X A s.heap S H locs → wX D S0 S → lv_has ls 6 [] → W p l e r_X12_isPassingRight s m args below meth c H locs 0 0 (MQ below (va_Qi (fun r S9 => wX D S0 S9 ∧ post r S9) (wB D cy X A) A) args s 0 0 A) (F0 m 138 ls [.int t0]) := by
  obtain ⟨hx, hb, hml, hown, hts⟩ := id F
  have hwg : ∀ w ∈ WG, w.before args s = true := fun w h => hts w (List.mem_cons_of_mem _ h)
  intro S H locs ls t0 hp hW hE hl
  unfold wp_X12_isPassingRight_138 at hp
  exact w_zret hx hb hr hlocks hW hp.1 ⟨hE, hp.2⟩ dX12_isPassingRight_138
set_option maxHeartbeats 4000000 in
set_option maxRecDepth 100000 in
theorem t_X12_isPassingRight_137 {p : Program} {l : Launch} {e : Env} {s : State} {m : MethodId} {args : Array Value} {below : List Frame} {meth : Method} {c : Code} {D : wD} {cy : Nat → ClassId} {X : va_W} {A : Nat → Prop} {S0 : wS} {post : Int32 → wS → Prop} (F : CallFix p m c cX12_isPassingRight 6 s args wz_X12_isPassingRight RX12) (hr : meth.sig.returnType = (some .boolean)) (hlocks : meth.locks = false) (hK : wK D cy A s) : ∀ {S : wS} {H : Heap} {locs : List Loc} {ls : Array Slot}, wp_X12_isPassingRight_137 D post S → wO D cy X A s.heap S H locs → wX D S0 S → lv_has ls 6 [] → W p l e r_X12_isPassingRight s m args below meth c H locs 0 0 (MQ below (va_Qi (fun r S9 => wX D S0 S9 ∧ post r S9) (wB D cy X A) A) args s 0 0 A) (F0 m 137 ls []) := by
  obtain ⟨hx, hb, hml, hown, hts⟩ := id F
  have hwg : ∀ w ∈ WG, w.before args s = true := fun w h => hts w (List.mem_cons_of_mem _ h)
  intro S H locs ls hp hW hE hl
  unfold wp_X12_isPassingRight_137 at hp
  refine lv_iconst (v := 0) hx hb dX12_isPassingRight_137 (by decide) ?_
  exact t_X12_isPassingRight_138 F hr hlocks hK hp hW hE (lv_sub hl [] rfl)
set_option maxHeartbeats 4000000 in
set_option maxRecDepth 100000 in
theorem t_X12_isPassingRight_86 {p : Program} {l : Launch} {e : Env} {s : State} {m : MethodId} {args : Array Value} {below : List Frame} {meth : Method} {c : Code} {D : wD} {cy : Nat → ClassId} {X : va_W} {A : Nat → Prop} {S0 : wS} {post : Int32 → wS → Prop} (F : CallFix p m c cX12_isPassingRight 6 s args wz_X12_isPassingRight RX12) (hr : meth.sig.returnType = (some .boolean)) (hlocks : meth.locks = false) (hK : wK D cy A s) : ∀ {S : wS} {H : Heap} {locs : List Loc} {ls : Array Slot}, wp_X12_isPassingRight_86 D post S → wO D cy X A s.heap S H locs → wX D S0 S → lv_has ls 6 [] → W p l e r_X12_isPassingRight s m args below meth c H locs 0 0 (MQ below (va_Qi (fun r S9 => wX D S0 S9 ∧ post r S9) (wB D cy X A) A) args s 0 0 A) (F0 m 86 ls []) := by
  obtain ⟨hx, hb, hml, hown, hts⟩ := id F
  have hwg : ∀ w ∈ WG, w.before args s = true := fun w h => hts w (List.mem_cons_of_mem _ h)
  intro S H locs ls hp hW hE hl
  unfold wp_X12_isPassingRight_86 at hp
  refine lv_iconst (v := 0) hx hb dX12_isPassingRight_86 (by decide) ?_
  exact w_zret hx hb hr hlocks hW hp.1 ⟨hE, hp.2⟩ dX12_isPassingRight_87
set_option maxHeartbeats 4000000 in
set_option maxRecDepth 100000 in
theorem t_X12_isPassingRight_31 {p : Program} {l : Launch} {e : Env} {s : State} {m : MethodId} {args : Array Value} {below : List Frame} {meth : Method} {c : Code} {D : wD} {cy : Nat → ClassId} {X : va_W} {A : Nat → Prop} {S0 : wS} {post : Int32 → wS → Prop} (F : CallFix p m c cX12_isPassingRight 6 s args wz_X12_isPassingRight RX12) (hr : meth.sig.returnType = (some .boolean)) (hlocks : meth.locks = false) (hK : wK D cy A s) : ∀ {S : wS} {H : Heap} {locs : List Loc} {ls : Array Slot} {a0 : Nat} {x1 : Int32} {x2 : Int32} {x3 : Int32} {t0 : Int32}, wp_X12_isPassingRight_31 D post S a0 x1 x2 x3 t0 → wO D cy X A s.heap S H locs → wX D S0 S → lv_has ls 6 [(0, .ref a0), (1, .int x1), (2, .int x2), (3, .int x3)] → wM D S a0 → sK S a0 = 17 → W p l e r_X12_isPassingRight s m args below meth c H locs 0 0 (MQ below (va_Qi (fun r S9 => wX D S0 S9 ∧ post r S9) (wB D cy X A) A) args s 0 0 A) (F0 m 31 ls [.int t0]) := by
  obtain ⟨hx, hb, hml, hown, hts⟩ := id F
  have hwg : ∀ w ∈ WG, w.before args s = true := fun w h => hts w (List.mem_cons_of_mem _ h)
  have i_17 : ∀ w ∈ u_ws RX12 TX12 43, w ∈ wz_X12_isPassingRight := fun w h => List.mem_cons_of_mem _ (wu_17 w h)
  have k_13 := hwg _ wf_RX12_13
  have k_9 := hwg _ wf_RX12_9
  intro S H locs ls a0 x1 x2 x3 t0 hp hW hE hl hL_a0 hK_a0
  unfold wp_X12_isPassingRight_31 at hp
  refine lv_istore (lv' := [(4, .int t0), (0, .ref a0), (1, .int x1), (2, .int x2), (3, .int x3)]) hx hb dX12_isPassingRight_31 hl (by decide) rfl (fun ls hl => ?_)
  refine lv_aload_n hx hb dX12_isPassingRight_33 rfl (lv_at hl 1 rfl) ?_
  refine w_get (k := 17) (f := 2) (T := TX12) (v := .int (sI S a0 2)) F hK hW hL_a0 hK_a0 (by decide) rfl rfl (by decide) i_17 k_13 rfl dX12_isPassingRight_34 ?_
  refine lv_bipush (v := 6) hx hb dX12_isPassingRight_37 (by decide) ?_
  refine lv_icmp_lt (tgt := 86) hx hb dX12_isPassingRight_39 (by decide) (fun c_1 => ?_) (fun c_1 => ?_)
  · replace hp := hp.1 c_1
    exact t_X12_isPassingRight_86 F hr hlocks hK hp hW hE (lv_sub hl [] rfl)
  · replace hp := hp.2 c_1
    refine lv_aload_n hx hb dX12_isPassingRight_42 rfl (lv_at hl 1 rfl) ?_
    refine lv_iload_n hx hb dX12_isPassingRight_43 rfl (lv_at hl 3 rfl) ?_
    refine w_callI (va_runV (As := [.int x2]) (rest := []) F (c_X12_rankOf l hL_a0 hK_a0 hp H.size) (cwV (C := RX12) 1 hts (wg_V wm_RX12_138 wy_X12_rankOf) rfl rfl rfl (by decide +kernel) ⟨Nat.le_of_ble_eq_true rfl, Nat.le_of_ble_eq_true rfl⟩) (w_preV hK hW hL_a0 hK_a0 (by decide) rfl) rfl rfl hl.1 rfl (lv_room (Nat.le_of_ble_eq_true rfl)) dX12_isPassingRight_44 ⟨Nat.le_of_ble_eq_true rfl, Nat.le_of_ble_eq_true rfl⟩) hW (fun r_2 S_3 H locs hp hW => ?_)
    obtain ⟨hX_S_3, hp⟩ := hp
    refine W.widen (k := 0) (n := 0) (by decide) (by decide) ?_
    have hE := hE.trans hX_S_3
    have hK_a0 : sK S_3 a0 = 17 := (hX_S_3.2 a0 hL_a0).1.trans hK_a0
    have hL_a0 : wM D S_3 a0 := hX_S_3.M hL_a0
    refine lv_aload_n hx hb dX12_isPassingRight_47 rfl (lv_at hl 1 rfl) ?_
    refine lv_iload_n hx hb dX12_isPassingRight_48 rfl (lv_at hl 4 rfl) ?_
    refine w_callI (va_runV (As := [.int x3]) (rest := [.int r_2]) F (c_X12_firstRank l hL_a0 hK_a0 hp H.size) (cwV (C := RX12) 1 hts (wg_V wm_RX12_170 wy_X12_firstRank) rfl rfl rfl (by decide +kernel) ⟨Nat.le_of_ble_eq_true rfl, Nat.le_of_ble_eq_true rfl⟩) (w_preV hK hW hL_a0 hK_a0 (by decide) rfl) rfl rfl hl.1 rfl (lv_room (Nat.le_of_ble_eq_true rfl)) dX12_isPassingRight_49 ⟨Nat.le_of_ble_eq_true rfl, Nat.le_of_ble_eq_true rfl⟩) hW (fun r_4 S_5 H locs hp hW => ?_)
    obtain ⟨hX_S_5, hp⟩ := hp
    refine W.widen (k := 0) (n := 0) (by decide) (by decide) ?_
    have hE := hE.trans hX_S_5
    have hK_a0 : sK S_5 a0 = 17 := (hX_S_5.2 a0 hL_a0).1.trans hK_a0
    have hL_a0 : wM D S_5 a0 := hX_S_5.M hL_a0
    refine lv_iconst (v := 2) hx hb dX12_isPassingRight_52 (by decide) ?_
    refine lv_iload hx hb dX12_isPassingRight_53 (lv_at hl 0 rfl) ?_
    refine lv_imul hx hb dX12_isPassingRight_55 ?_
    refine lv_iadd hx hb dX12_isPassingRight_56 ?_
    refine lv_icmp_ne (tgt := 86) hx hb dX12_isPassingRight_57 (by decide) (fun c_6 => ?_) (fun c_6 => ?_)
    · replace hp := hp.1 c_6
      exact t_X12_isPassingRight_86 F hr hlocks hK hp hW hE (lv_sub hl [] rfl)
    · replace hp := hp.2 c_6
      refine lv_aload_n hx hb dX12_isPassingRight_60 rfl (lv_at hl 1 rfl) ?_
      refine lv_iload_n hx hb dX12_isPassingRight_61 rfl (lv_at hl 2 rfl) ?_
      refine lv_iload_n hx hb dX12_isPassingRight_62 rfl (lv_at hl 3 rfl) ?_
      refine w_callI (va_runV (As := [.int x1, .int x2]) (rest := []) F (c_X12_on l hL_a0 hK_a0 hp H.size) (cwV (C := RX12) 2 hts (wg_V wm_RX12_141 wy_X12_on) rfl rfl rfl (by decide +kernel) ⟨Nat.le_of_ble_eq_true rfl, Nat.le_of_ble_eq_true rfl⟩) (w_preV hK hW hL_a0 hK_a0 (by decide) rfl) rfl rfl hl.1 rfl (lv_room (Nat.le_of_ble_eq_true rfl)) dX12_isPassingRight_63 ⟨Nat.le_of_ble_eq_true rfl, Nat.le_of_ble_eq_true rfl⟩) hW (fun r_7 S_8 H locs hp hW => ?_)
      obtain ⟨hX_S_8, hp⟩ := hp
      refine W.widen (k := 0) (n := 0) (by decide) (by decide) ?_
      have hE := hE.trans hX_S_8
      have hK_a0 : sK S_8 a0 = 17 := (hX_S_8.2 a0 hL_a0).1.trans hK_a0
      have hL_a0 : wM D S_8 a0 := hX_S_8.M hL_a0
      refine lv_if_ne (tgt := 86) hx hb dX12_isPassingRight_66 (by decide) (fun c_9 => ?_) (fun c_9 => ?_)
      · replace hp := hp.1 c_9
        exact t_X12_isPassingRight_86 F hr hlocks hK hp hW hE (lv_sub hl [] rfl)
      · replace hp := hp.2 c_9
        refine lv_aload_n hx hb dX12_isPassingRight_69 rfl (lv_at hl 1 rfl) ?_
        refine lv_iload_n hx hb dX12_isPassingRight_70 rfl (lv_at hl 2 rfl) ?_
        refine lv_iload_n hx hb dX12_isPassingRight_71 rfl (lv_at hl 3 rfl) ?_
        refine lv_iload hx hb dX12_isPassingRight_72 (lv_at hl 0 rfl) ?_
        refine lv_aload_n hx hb dX12_isPassingRight_74 rfl (lv_at hl 1 rfl) ?_
        refine w_get (k := 17) (f := 1) (T := TX12) (v := .int (sI S_8 a0 1)) F hK hW hL_a0 hK_a0 (by decide) rfl rfl (by decide) i_17 k_9 rfl dX12_isPassingRight_75 ?_
        refine lv_imul hx hb dX12_isPassingRight_78 ?_
        refine lv_isub hx hb dX12_isPassingRight_79 ?_
        refine w_callI (va_runV (As := [.int x1, .int (x2 - (t0 * (sI S_8 a0 1)))]) (rest := []) F (c_X12_on l hL_a0 hK_a0 hp H.size) (cwV (C := RX12) 2 hts (wg_V wm_RX12_141 wy_X12_on) rfl rfl rfl (by decide +kernel) ⟨Nat.le_of_ble_eq_true rfl, Nat.le_of_ble_eq_true rfl⟩) (w_preV hK hW hL_a0 hK_a0 (by decide) rfl) rfl rfl hl.1 rfl (lv_room (Nat.le_of_ble_eq_true rfl)) dX12_isPassingRight_80 ⟨Nat.le_of_ble_eq_true rfl, Nat.le_of_ble_eq_true rfl⟩) hW (fun r_10 S_11 H locs hp hW => ?_)
        obtain ⟨hX_S_11, hp⟩ := hp
        refine W.widen (k := 0) (n := 0) (by decide) (by decide) ?_
        have hE := hE.trans hX_S_11
        have hK_a0 : sK S_11 a0 = 17 := (hX_S_11.2 a0 hL_a0).1.trans hK_a0
        have hL_a0 : wM D S_11 a0 := hX_S_11.M hL_a0
        refine lv_if_eq (tgt := 88) hx hb dX12_isPassingRight_83 (by decide) (fun c_12 => ?_) (fun c_12 => ?_)
        · replace hp := hp.1 c_12
          refine lv_iload_n hx hb dX12_isPassingRight_88 rfl (lv_at hl 3 rfl) ?_
          refine lv_iload hx hb dX12_isPassingRight_89 (lv_at hl 0 rfl) ?_
          refine lv_aload_n hx hb dX12_isPassingRight_91 rfl (lv_at hl 1 rfl) ?_
          refine w_get (k := 17) (f := 1) (T := TX12) (v := .int (sI S_11 a0 1)) F hK hW hL_a0 hK_a0 (by decide) rfl rfl (by decide) i_17 k_9 rfl dX12_isPassingRight_92 ?_
          refine lv_imul hx hb dX12_isPassingRight_95 ?_
          refine lv_iadd hx hb dX12_isPassingRight_96 ?_
          refine lv_topi (fun x_13 ex_13 => ?_)
          replace hp := hp x_13 ex_13
          refine lv_istore (lv' := [(5, .int x_13), (4, .int t0), (0, .ref a0), (1, .int x1), (2, .int x2), (3, .int x3)]) hx hb dX12_isPassingRight_97 hl (by decide) rfl (fun ls hl => ?_)
          refine lv_aload_n hx hb dX12_isPassingRight_99 rfl (lv_at hl 2 rfl) ?_
          refine lv_iload_n hx hb dX12_isPassingRight_100 rfl (lv_at hl 3 rfl) ?_
          refine lv_iload hx hb dX12_isPassingRight_101 (lv_at hl 0 rfl) ?_
          refine w_callI (va_runV (As := [.int x1, .int x_13]) (rest := []) F (c_X12_on l hL_a0 hK_a0 hp H.size) (cwV (C := RX12) 2 hts (wg_V wm_RX12_141 wy_X12_on) rfl rfl rfl (by decide +kernel) ⟨Nat.le_of_ble_eq_true rfl, Nat.le_of_ble_eq_true rfl⟩) (w_preV hK hW hL_a0 hK_a0 (by decide) rfl) rfl rfl hl.1 rfl (lv_room (Nat.le_of_ble_eq_true rfl)) dX12_isPassingRight_103 ⟨Nat.le_of_ble_eq_true rfl, Nat.le_of_ble_eq_true rfl⟩) hW (fun r_14 S_15 H locs hp hW => ?_)
          obtain ⟨hX_S_15, hp⟩ := hp
          refine W.widen (k := 0) (n := 0) (by decide) (by decide) ?_
          have hE := hE.trans hX_S_15
          have hK_a0 : sK S_15 a0 = 17 := (hX_S_15.2 a0 hL_a0).1.trans hK_a0
          have hL_a0 : wM D S_15 a0 := hX_S_15.M hL_a0
          refine lv_bipush (v := 6) hx hb dX12_isPassingRight_106 (by decide) ?_
          refine lv_iload_n hx hb dX12_isPassingRight_108 rfl (lv_at hl 5 rfl) ?_
          refine w_callI (va_runS (As := [.int (6 : Int32), .int x3]) (rest := [.int r_14]) F (c_X12_pieceOf l hp H.size) (va_cwS 2 hts (wg_S wm_RX12_161 wy_X12_pieceOf) rfl rfl rfl (by decide +kernel) ⟨Nat.le_of_ble_eq_true rfl, Nat.le_of_ble_eq_true rfl⟩) (w_preS hK hW) rfl rfl hl.1 rfl (lv_room (Nat.le_of_ble_eq_true rfl)) dX12_isPassingRight_109 ⟨Nat.le_of_ble_eq_true rfl, Nat.le_of_ble_eq_true rfl⟩) hW (fun r_16 S_17 H locs hp hW => ?_)
          obtain ⟨hX_S_17, hp⟩ := hp
          refine W.widen (k := 0) (n := 0) (by decide) (by decide) ?_
          have hE := hE.trans hX_S_17
          have hK_a0 : sK S_17 a0 = 17 := (hX_S_17.2 a0 hL_a0).1.trans hK_a0
          have hL_a0 : wM D S_17 a0 := hX_S_17.M hL_a0
          refine lv_icmp_ne (tgt := 137) hx hb dX12_isPassingRight_112 (by decide) (fun c_18 => ?_) (fun c_18 => ?_)
          · replace hp := hp.1 c_18
            exact t_X12_isPassingRight_137 F hr hlocks hK hp hW hE (lv_sub hl [] rfl)
          · replace hp := hp.2 c_18
            refine lv_aload_n hx hb dX12_isPassingRight_115 rfl (lv_at hl 2 rfl) ?_
            refine lv_iload_n hx hb dX12_isPassingRight_116 rfl (lv_at hl 3 rfl) ?_
            refine lv_iload hx hb dX12_isPassingRight_117 (lv_at hl 0 rfl) ?_
            refine lv_bipush (v := 6) hx hb dX12_isPassingRight_119 (by decide) ?_
            refine lv_iconst (v := 1) hx hb dX12_isPassingRight_121 (by decide) ?_
            refine lv_iload_n hx hb dX12_isPassingRight_122 rfl (lv_at hl 5 rfl) ?_
            refine lv_isub hx hb dX12_isPassingRight_123 ?_
            refine w_callI (va_runS (As := [.int (6 : Int32), .int ((1 : Int32) - x3)]) (rest := [.int x_13, .int x1, .ref a0]) F (c_X12_pieceOf l hp H.size) (va_cwS 2 hts (wg_S wm_RX12_161 wy_X12_pieceOf) rfl rfl rfl (by decide +kernel) ⟨Nat.le_of_ble_eq_true rfl, Nat.le_of_ble_eq_true rfl⟩) (w_preS hK hW) rfl rfl hl.1 rfl (lv_room (Nat.le_of_ble_eq_true rfl)) dX12_isPassingRight_124 ⟨Nat.le_of_ble_eq_true rfl, Nat.le_of_ble_eq_true rfl⟩) hW (fun r_19 S_20 H locs hp hW => ?_)
            obtain ⟨hX_S_20, hp⟩ := hp
            refine W.widen (k := 0) (n := 0) (by decide) (by decide) ?_
            have hE := hE.trans hX_S_20
            have hK_a0 : sK S_20 a0 = 17 := (hX_S_20.2 a0 hL_a0).1.trans hK_a0
            have hL_a0 : wM D S_20 a0 := hX_S_20.M hL_a0
            refine w_callI (va_runV (As := [.int x1, .int x_13, .int r_19]) (rest := []) F (c_X12_isBeside l hL_a0 hK_a0 hp H.size) (cwV (C := RX12) 3 hts (wg_V wm_RX12_217 wy_X12_isBeside) rfl rfl rfl (by decide +kernel) ⟨Nat.le_of_ble_eq_true rfl, Nat.le_of_ble_eq_true rfl⟩) (w_preV hK hW hL_a0 hK_a0 (by decide) rfl) rfl rfl hl.1 rfl (lv_room (Nat.le_of_ble_eq_true rfl)) dX12_isPassingRight_127 ⟨Nat.le_of_ble_eq_true rfl, Nat.le_of_ble_eq_true rfl⟩) hW (fun r_21 S_22 H locs hp hW => ?_)
            obtain ⟨hX_S_22, hp⟩ := hp
            refine W.widen (k := 0) (n := 0) (by decide) (by decide) ?_
            have hE := hE.trans hX_S_22
            have hK_a0 : sK S_22 a0 = 17 := (hX_S_22.2 a0 hL_a0).1.trans hK_a0
            have hL_a0 : wM D S_22 a0 := hX_S_22.M hL_a0
            refine lv_if_eq (tgt := 137) hx hb dX12_isPassingRight_130 (by decide) (fun c_23 => ?_) (fun c_23 => ?_)
            · replace hp := hp.1 c_23
              exact t_X12_isPassingRight_137 F hr hlocks hK hp hW hE (lv_sub hl [] rfl)
            · replace hp := hp.2 c_23
              refine lv_iconst (v := 1) hx hb dX12_isPassingRight_133 (by decide) ?_
              refine lv_goto (tgt := 138) hx hb dX12_isPassingRight_134 (by decide) ?_
              exact t_X12_isPassingRight_138 F hr hlocks hK hp hW hE (lv_sub hl [] rfl)
        · replace hp := hp.2 c_12
          exact t_X12_isPassingRight_86 F hr hlocks hK hp hW hE (lv_sub hl [] rfl)
set_option maxHeartbeats 4000000 in
set_option maxRecDepth 100000 in
theorem t_X12_isPassingRight_0 {p : Program} {l : Launch} {e : Env} {s : State} {m : MethodId} {args : Array Value} {below : List Frame} {meth : Method} {c : Code} {D : wD} {cy : Nat → ClassId} {X : va_W} {A : Nat → Prop} {S0 : wS} {post : Int32 → wS → Prop} (F : CallFix p m c cX12_isPassingRight 6 s args wz_X12_isPassingRight RX12) (hr : meth.sig.returnType = (some .boolean)) (hlocks : meth.locks = false) (hK : wK D cy A s) : ∀ {S : wS} {H : Heap} {locs : List Loc} {ls : Array Slot} {a0 : Nat} {x1 : Int32}, wp_X12_isPassingRight_0 D post S a0 x1 → wO D cy X A s.heap S H locs → wX D S0 S → lv_has ls 6 [(0, .ref a0), (1, .int x1)] → wM D S a0 → sK S a0 = 17 → W p l e r_X12_isPassingRight s m args below meth c H locs 0 0 (MQ below (va_Qi (fun r S9 => wX D S0 S9 ∧ post r S9) (wB D cy X A) A) args s 0 0 A) (F0 m 0 ls []) := by
  obtain ⟨hx, hb, hml, hown, hts⟩ := id F
  have hwg : ∀ w ∈ WG, w.before args s = true := fun w h => hts w (List.mem_cons_of_mem _ h)
  intro S H locs ls a0 x1 hp hW hE hl hL_a0 hK_a0
  unfold wp_X12_isPassingRight_0 at hp
  refine lv_aload_n hx hb dX12_isPassingRight_0 rfl (lv_at hl 0 rfl) ?_
  refine lv_iload_n hx hb dX12_isPassingRight_1 rfl (lv_at hl 1 rfl) ?_
  refine w_callI (va_runV (As := [.int x1]) (rest := []) F (c_X12_passing l hL_a0 hK_a0 hp H.size) (cwV (C := RX12) 1 hts (wg_V wm_RX12_201 wy_X12_passing) rfl rfl rfl (by decide +kernel) ⟨Nat.le_of_ble_eq_true rfl, Nat.le_of_ble_eq_true rfl⟩) (w_preV hK hW hL_a0 hK_a0 (by decide) rfl) rfl rfl hl.1 rfl (lv_room (Nat.le_of_ble_eq_true rfl)) dX12_isPassingRight_2 ⟨Nat.le_of_ble_eq_true rfl, Nat.le_of_ble_eq_true rfl⟩) hW (fun r_1 S_2 H locs hp hW => ?_)
  obtain ⟨hX_S_2, hp⟩ := hp
  refine W.widen (k := 0) (n := 0) (by decide) (by decide) ?_
  have hE := hE.trans hX_S_2
  have hK_a0 : sK S_2 a0 = 17 := (hX_S_2.2 a0 hL_a0).1.trans hK_a0
  have hL_a0 : wM D S_2 a0 := hX_S_2.M hL_a0
  refine lv_istore_n (lv' := [(2, .int r_1), (0, .ref a0), (1, .int x1)]) hx hb dX12_isPassingRight_5 rfl hl (by decide) rfl (fun ls hl => ?_)
  refine lv_iload_n hx hb dX12_isPassingRight_6 rfl (lv_at hl 0 rfl) ?_
  refine lv_iconst (v := (-1)) hx hb dX12_isPassingRight_7 (by decide) ?_
  refine lv_icmp_ne (tgt := 13) hx hb dX12_isPassingRight_8 (by decide) (fun c_3 => ?_) (fun c_3 => ?_)
  · replace hp := hp.1 c_3
    refine lv_iconst (v := 1) hx hb dX12_isPassingRight_13 (by decide) ?_
    refine lv_aload_n hx hb dX12_isPassingRight_14 rfl (lv_at hl 1 rfl) ?_
    refine lv_iload_n hx hb dX12_isPassingRight_15 rfl (lv_at hl 2 rfl) ?_
    refine w_callI (va_runV (As := [.int x1]) (rest := [.int (1 : Int32)]) F (c_X12_side l hL_a0 hK_a0 hp H.size) (cwV (C := RX12) 1 hts (wg_V wm_RX12_183 wy_X12_side) rfl rfl rfl (by decide +kernel) ⟨Nat.le_of_ble_eq_true rfl, Nat.le_of_ble_eq_true rfl⟩) (w_preV hK hW hL_a0 hK_a0 (by decide) rfl) rfl rfl hl.1 rfl (lv_room (Nat.le_of_ble_eq_true rfl)) dX12_isPassingRight_16 ⟨Nat.le_of_ble_eq_true rfl, Nat.le_of_ble_eq_true rfl⟩) hW (fun r_4 S_5 H locs hp hW => ?_)
    obtain ⟨hX_S_5, hp⟩ := hp
    refine W.widen (k := 0) (n := 0) (by decide) (by decide) ?_
    have hE := hE.trans hX_S_5
    have hK_a0 : sK S_5 a0 = 17 := (hX_S_5.2 a0 hL_a0).1.trans hK_a0
    have hL_a0 : wM D S_5 a0 := hX_S_5.M hL_a0
    refine lv_isub hx hb dX12_isPassingRight_19 ?_
    refine lv_topi (fun x_6 ex_6 => ?_)
    replace hp := hp x_6 ex_6
    refine lv_istore_n (lv' := [(3, .int x_6), (2, .int r_1), (0, .ref a0), (1, .int x1)]) hx hb dX12_isPassingRight_20 rfl hl (by decide) rfl (fun ls hl => ?_)
    refine lv_iload_n hx hb dX12_isPassingRight_21 rfl (lv_at hl 0 rfl) ?_
    refine lv_iconst (v := 1) hx hb dX12_isPassingRight_22 (by decide) ?_
    refine lv_icmp_ne (tgt := 30) hx hb dX12_isPassingRight_23 (by decide) (fun c_7 => ?_) (fun c_7 => ?_)
    · replace hp := hp.1 c_7
      refine lv_iconst (v := (-1)) hx hb dX12_isPassingRight_30 (by decide) ?_
      exact t_X12_isPassingRight_31 F hr hlocks hK hp hW hE (lv_sub hl [2, 3, 1, 0] rfl) hL_a0 hK_a0
    · replace hp := hp.2 c_7
      refine lv_iconst (v := 1) hx hb dX12_isPassingRight_26 (by decide) ?_
      refine lv_goto (tgt := 31) hx hb dX12_isPassingRight_27 (by decide) ?_
      exact t_X12_isPassingRight_31 F hr hlocks hK hp hW hE (lv_sub hl [2, 3, 1, 0] rfl) hL_a0 hK_a0
  · replace hp := hp.2 c_3
    refine lv_iconst (v := 1) hx hb dX12_isPassingRight_11 (by decide) ?_
    exact w_zret hx hb hr hlocks hW hp.1 ⟨hE, hp.2⟩ dX12_isPassingRight_12
set_option maxHeartbeats 4000000 in
set_option maxRecDepth 100000 in
theorem c_X12_isPassingRight (l : Launch) {D : wD} {cy : Nat → ClassId} {X : va_W} {S0 : wS} {post : Int32 → wS → Prop} {a0 : Nat} {x1 : Int32} (hL_a0 : wM D S0 a0) (hK_a0 : sK S0 a0 = 17) (hp : wp_X12_isPassingRight D post S0 a0 x1) : mI D cy X l yX12_isPassingRight wz_X12_isPassingRight r_X12_isPassingRight [.ref a0, .int x1] S0 (fun r S9 => wX D S0 S9 ∧ post r S9) := by
  intro sz
  refine Met.ofW (cc := cX12_isPassingRight) (maxL := 6) (ret := (some .boolean)) (by decide) rfl ?_
  intro p e s m args below meth c s₁ B hml hv
  obtain ⟨rfl, hsz, hP, hK, hD0, hRO⟩ := hv
  have hts := atoms_spec (ws := wz_X12_isPassingRight) B.pre
  have hown : s.vm.findClass RX12 = some m.cls := findClass_of_methodNamed B.named
  subst hsz
  have hD := hD0.self (sz := s.heap.size)
  have F : CallFix p m c cX12_isPassingRight 6 s _ wz_X12_isPassingRight RX12 := ⟨B.exec, B.bytes, hml, hown, hts⟩
  have hr := B.returns
  have hlocks := B.notSynchronized
  generalize hAe : va_A (wL cy X S0) s.heap.size = A at hD hK ⊢
  have hA : ∀ q, s.heap.size ≤ q → A q := fun q h => by rw [← hAe]; exact Or.inr h
  have hW : wO D cy X A s.heap S0 s.heap [] := ⟨hP, hD, va_S.rf, hA, hRO⟩
  have hl := lv_entry ([.ref a0, .int x1]) (n := 6) (Nat.le_of_ble_eq_true rfl)
  rw [lg_entry_eq]
  generalize (lg_sl ([.ref a0, .int x1]) ++ List.replicate (6 - (lg_sl ([.ref a0, .int x1])).length) Slot.unset).toArray = ls at hl ⊢
  have hl : lv_has ls 6 [(0, .ref a0), (1, .int x1)] := hl
  unfold wp_X12_isPassingRight at hp
  exact t_X12_isPassingRight_0 F hr hlocks hK hp hW wX.rf (lv_sub hl [0, 1] rfl) hL_a0 hK_a0
def wp_X12_isPinned_161 (D : wD) (post : Int32 → wS → Prop) (k_94 : wS → Nat → Int32 → Int32 → Int32 → Prop) (S : wS) (a0 : Nat) (x2 : Int32) (x3 : Int32) (x4 : Int32) : Prop :=
∀ x_1 : Int32, x_1 = x4 + 1 →
k_94 S a0 x2 x3 x_1
def wp_X12_isPinned_94 (D : wD) (post : Int32 → wS → Prop)  : Nat → wS → Nat → Int32 → Int32 → Int32 → Prop
  | 0, _, _, _, _, _ => False
  | n + 1, S, a0, x2, x3, x4 =>
    wp_X12_squares D (fun r_1 S_2 => 
    ((r_1 ≤ x4 → narrow .boolean (.int (0 : Int32)) = .int (0 : Int32) ∧ post (0 : Int32) S_2) ∧
     (¬ r_1 ≤ x4 → wp_X12_on D (fun r_4 S_5 => 
    wp_X12_isOf D (fun r_6 S_7 => 
    ((r_6 = 0 → wp_X12_isPinned_161 D post (wp_X12_isPinned_94 D post n) S_7 a0 x2 x3 x4) ∧
     (¬ r_6 = 0 → wp_X12_on D (fun r_9 S_10 => 
    wp_X12_kindOf D (fun r_11 S_12 => 
    wp_X12_in D (fun r_13 S_14 => 
    ((r_13 = 0 → wp_X12_isPinned_161 D post (wp_X12_isPinned_94 D post n) S_14 a0 x2 x3 x4) ∧
     (¬ r_13 = 0 → wp_X12_attacks D (fun r_16 S_17 => 
    ((r_16 = 0 → wp_X12_isPinned_161 D post (wp_X12_isPinned_94 D post n) S_17 a0 x2 x3 x4) ∧
     (¬ r_16 = 0 → wp_X12_attacks D (fun r_19 S_20 => 
    ((¬ r_19 = 0 → wp_X12_isPinned_161 D post (wp_X12_isPinned_94 D post n) S_20 a0 x2 x3 x4) ∧
     (r_19 = 0 → narrow .boolean (.int (1 : Int32)) = .int (1 : Int32) ∧ post (1 : Int32) S_20))) S_17 a0 (0 : Int32) x4 x3))) S_14 a0 (1 : Int32) x4 x3))) S_12 r_11 (2 : Int32) (4 : Int32)) S_10 r_9) S_7 a0 (0 : Int32) x4))) S_5 r_4 ((1 : Int32) - x2)) S_2 a0 (0 : Int32) x4))) S a0
def wp_X12_isPinned_59 (D : wD) (post : Int32 → wS → Prop)  (S : wS) : Prop :=
narrow .boolean (.int (0 : Int32)) = .int (0 : Int32) ∧ post (0 : Int32) S
def wp_X12_isPinned_25 (D : wD) (post : Int32 → wS → Prop)  (S : wS) : Prop :=
narrow .boolean (.int (0 : Int32)) = .int (0 : Int32) ∧ post (0 : Int32) S
def wp_X12_isPinned_0 (D : wD) (post : Int32 → wS → Prop)  (S : wS) (a0 : Nat) (x1 : Int32) : Prop :=
wp_X12_isSquare D (fun r_1 S_2 => 
wp_X12_can D (fun r_3 S_4 => 
((r_3 = 0 → wp_X12_isPinned_25 D post S_4) ∧
 (¬ r_3 = 0 → wp_X12_isAskable D (fun r_6 S_7 => 
wp_X12_can D (fun r_8 S_9 => 
((¬ r_8 = 0 → wp_X12_side D (fun r_11 S_12 => 
wp_X12_on D (fun r_13 S_14 => 
wp_X12_isOf D (fun r_15 S_16 => 
((r_15 = 0 → wp_X12_isPinned_59 D post S_16) ∧
 (¬ r_15 = 0 → wp_X12_on D (fun r_18 S_19 => 
wp_X12_kindOf D (fun r_20 S_21 => 
((¬ r_20 = (1 : Int32) → wp_X12_kingOf D (fun r_23 S_24 => 
∃ y_25 : Nat, sR S_24 a0 3 = some y_25 ∧ wM D S_24 y_25 ∧ sK S_24 y_25 = 21 ∧
∃ y_26 : Nat, sR S_24 a0 3 = some y_26 ∧ wM D S_24 y_26 ∧ sK S_24 y_26 = 21 ∧
wp_X12_copies D (fun S_28 => 
wp_X12_lay D (fun S_30 => 
∃ n_31 : Nat, wp_X12_isPinned_94 D post n_31 S_30 a0 r_11 r_23 (0 : Int32)) S_28 a0 (1 : Int32) x1 (0 : Int32)) S_24 (67 : Int32) y_25 (0 : Int32) y_26 (67 : Int32)) S_21 a0 (0 : Int32) r_11) ∧
 (r_20 = (1 : Int32) → wp_X12_isPinned_59 D post S_21))) S_19 r_18) S_16 a0 (0 : Int32) x1))) S_14 r_13 r_11) S_12 a0 (0 : Int32) x1) S_9 a0 (0 : Int32)) ∧
 (r_8 = 0 → wp_X12_isPinned_25 D post S_9))) S_7 a0 r_6 (2 : Int32)) S_4 a0))) S_2 a0 r_1 (1 : Int32)) S a0 x1
abbrev r_X12_isPinned : Room := { frames := 7, cells := 0, slots := 0, locals := 164 }
def wp_X12_isPinned (D : wD) (post : Int32 → wS → Prop) (S : wS) (a0 : Nat) (x1 : Int32) : Prop := wp_X12_isPinned_0 D post S a0 x1
set_option maxHeartbeats 4000000 in
set_option maxRecDepth 100000 in
theorem t_X12_isPinned_161 {p : Program} {l : Launch} {e : Env} {s : State} {m : MethodId} {args : Array Value} {below : List Frame} {meth : Method} {c : Code} {D : wD} {cy : Nat → ClassId} {X : va_W} {A : Nat → Prop} {S0 : wS} {post : Int32 → wS → Prop} (F : CallFix p m c cX12_isPinned 5 s args wz_X12_isPinned RX12) (hr : meth.sig.returnType = (some .boolean)) (hlocks : meth.locks = false) (hK : wK D cy A s) {k_94 : wS → Nat → Int32 → Int32 → Int32 → Prop} (q_94 : ∀ {S : wS} {H : Heap} {locs : List Loc} {ls : Array Slot} {a0 : Nat} {x2 : Int32} {x3 : Int32} {x4 : Int32}, k_94 S a0 x2 x3 x4 → wO D cy X A s.heap S H locs → wX D S0 S → lv_has ls 5 [(0, .ref a0), (2, .int x2), (3, .int x3), (4, .int x4)] → wM D S a0 → sK S a0 = 17 → W p l e r_X12_isPinned s m args below meth c H locs 0 0 (MQ below (va_Qi (fun r S9 => wX D S0 S9 ∧ post r S9) (wB D cy X A) A) args s 0 0 A) (F0 m 94 ls [])) : ∀ {S : wS} {H : Heap} {locs : List Loc} {ls : Array Slot} {a0 : Nat} {x2 : Int32} {x3 : Int32} {x4 : Int32}, wp_X12_isPinned_161 D post k_94 S a0 x2 x3 x4 → wO D cy X A s.heap S H locs → wX D S0 S → lv_has ls 5 [(0, .ref a0), (2, .int x2), (3, .int x3), (4, .int x4)] → wM D S a0 → sK S a0 = 17 → W p l e r_X12_isPinned s m args below meth c H locs 0 0 (MQ below (va_Qi (fun r S9 => wX D S0 S9 ∧ post r S9) (wB D cy X A) A) args s 0 0 A) (F0 m 161 ls []) := by
  obtain ⟨hx, hb, hml, hown, hts⟩ := id F
  have hwg : ∀ w ∈ WG, w.before args s = true := fun w h => hts w (List.mem_cons_of_mem _ h)
  intro S H locs ls a0 x2 x3 x4 hp hW hE hl hL_a0 hK_a0
  unfold wp_X12_isPinned_161 at hp
  obtain ⟨x_1, ex_1⟩ : ∃ z : Int32, z = x4 + 1 := ⟨_, rfl⟩
  replace hp := hp x_1 ex_1
  refine lv_iinc (v := x_1) (lv' := [(4, .int x_1), (0, .ref a0), (2, .int x2), (3, .int x3)]) hx hb dX12_isPinned_161 hl (k := 3) rfl (by rw [ex_1]; rfl) (by decide) rfl (fun ls hl => ?_)
  refine lv_goto (tgt := 94) hx hb dX12_isPinned_164 (by decide) ?_
  exact q_94 hp hW hE (lv_sub hl [1, 2, 3, 0] rfl) hL_a0 hK_a0
set_option maxHeartbeats 4000000 in
set_option maxRecDepth 100000 in
theorem t_X12_isPinned_94 {p : Program} {l : Launch} {e : Env} {s : State} {m : MethodId} {args : Array Value} {below : List Frame} {meth : Method} {c : Code} {D : wD} {cy : Nat → ClassId} {X : va_W} {A : Nat → Prop} {S0 : wS} {post : Int32 → wS → Prop} (F : CallFix p m c cX12_isPinned 5 s args wz_X12_isPinned RX12) (hr : meth.sig.returnType = (some .boolean)) (hlocks : meth.locks = false) (hK : wK D cy A s) : ∀ (n : Nat) {S : wS} {H : Heap} {locs : List Loc} {ls : Array Slot} {a0 : Nat} {x2 : Int32} {x3 : Int32} {x4 : Int32}, wp_X12_isPinned_94 D post n S a0 x2 x3 x4 → wO D cy X A s.heap S H locs → wX D S0 S → lv_has ls 5 [(0, .ref a0), (2, .int x2), (3, .int x3), (4, .int x4)] → wM D S a0 → sK S a0 = 17 → W p l e r_X12_isPinned s m args below meth c H locs 0 0 (MQ below (va_Qi (fun r S9 => wX D S0 S9 ∧ post r S9) (wB D cy X A) A) args s 0 0 A) (F0 m 94 ls []) := by
  obtain ⟨hx, hb, hml, hown, hts⟩ := id F
  have hwg : ∀ w ∈ WG, w.before args s = true := fun w h => hts w (List.mem_cons_of_mem _ h)
  intro n
  induction n with
  | zero =>
    intro S H locs ls a0 x2 x3 x4 hp
    exact hp.elim
  | succ n ih =>
    intro S H locs ls a0 x2 x3 x4 hp hW hE hl hL_a0 hK_a0
    unfold wp_X12_isPinned_94 at hp
    refine lv_iload hx hb dX12_isPinned_94 (lv_at hl 3 rfl) ?_
    refine lv_aload_n hx hb dX12_isPinned_96 rfl (lv_at hl 0 rfl) ?_
    refine w_callI (va_runV (As := []) (rest := [.int x4]) F (c_X12_squares l hL_a0 hK_a0 hp H.size) (cwV (C := RX12) 0 hts (wg_V wm_RX12_113 wy_X12_squares) rfl rfl rfl (by decide +kernel) ⟨Nat.le_of_ble_eq_true rfl, Nat.le_of_ble_eq_true rfl⟩) (w_preV hK hW hL_a0 hK_a0 (by decide) rfl) rfl rfl hl.1 rfl (lv_room (Nat.le_of_ble_eq_true rfl)) dX12_isPinned_97 ⟨Nat.le_of_ble_eq_true rfl, Nat.le_of_ble_eq_true rfl⟩) hW (fun r_1 S_2 H locs hp hW => ?_)
    obtain ⟨hX_S_2, hp⟩ := hp
    refine W.widen (k := 0) (n := 0) (by decide) (by decide) ?_
    have hE := hE.trans hX_S_2
    have hK_a0 : sK S_2 a0 = 17 := (hX_S_2.2 a0 hL_a0).1.trans hK_a0
    have hL_a0 : wM D S_2 a0 := hX_S_2.M hL_a0
    refine lv_icmp_ge (tgt := 167) hx hb dX12_isPinned_100 (by decide) (fun c_3 => ?_) (fun c_3 => ?_)
    · replace hp := hp.1 c_3
      refine lv_iconst (v := 0) hx hb dX12_isPinned_167 (by decide) ?_
      exact w_zret hx hb hr hlocks hW hp.1 ⟨hE, hp.2⟩ dX12_isPinned_168
    · replace hp := hp.2 c_3
      refine lv_aload_n hx hb dX12_isPinned_103 rfl (lv_at hl 0 rfl) ?_
      refine lv_iconst (v := 0) hx hb dX12_isPinned_104 (by decide) ?_
      refine lv_iload hx hb dX12_isPinned_105 (lv_at hl 3 rfl) ?_
      refine w_callI (va_runV (As := [.int (0 : Int32), .int x4]) (rest := []) F (c_X12_on l hL_a0 hK_a0 hp H.size) (cwV (C := RX12) 2 hts (wg_V wm_RX12_141 wy_X12_on) rfl rfl rfl (by decide +kernel) ⟨Nat.le_of_ble_eq_true rfl, Nat.le_of_ble_eq_true rfl⟩) (w_preV hK hW hL_a0 hK_a0 (by decide) rfl) rfl rfl hl.1 rfl (lv_room (Nat.le_of_ble_eq_true rfl)) dX12_isPinned_107 ⟨Nat.le_of_ble_eq_true rfl, Nat.le_of_ble_eq_true rfl⟩) hW (fun r_4 S_5 H locs hp hW => ?_)
      obtain ⟨hX_S_5, hp⟩ := hp
      refine W.widen (k := 0) (n := 0) (by decide) (by decide) ?_
      have hE := hE.trans hX_S_5
      have hK_a0 : sK S_5 a0 = 17 := (hX_S_5.2 a0 hL_a0).1.trans hK_a0
      have hL_a0 : wM D S_5 a0 := hX_S_5.M hL_a0
      refine lv_iconst (v := 1) hx hb dX12_isPinned_110 (by decide) ?_
      refine lv_iload_n hx hb dX12_isPinned_111 rfl (lv_at hl 1 rfl) ?_
      refine lv_isub hx hb dX12_isPinned_112 ?_
      refine w_callI (va_runS (As := [.int r_4, .int ((1 : Int32) - x2)]) (rest := []) F (c_X12_isOf l hp H.size) (va_cwS 2 hts (wg_S wm_RX12_154 wy_X12_isOf) rfl rfl rfl (by decide +kernel) ⟨Nat.le_of_ble_eq_true rfl, Nat.le_of_ble_eq_true rfl⟩) (w_preS hK hW) rfl rfl hl.1 rfl (lv_room (Nat.le_of_ble_eq_true rfl)) dX12_isPinned_113 ⟨Nat.le_of_ble_eq_true rfl, Nat.le_of_ble_eq_true rfl⟩) hW (fun r_6 S_7 H locs hp hW => ?_)
      obtain ⟨hX_S_7, hp⟩ := hp
      refine W.widen (k := 0) (n := 0) (by decide) (by decide) ?_
      have hE := hE.trans hX_S_7
      have hK_a0 : sK S_7 a0 = 17 := (hX_S_7.2 a0 hL_a0).1.trans hK_a0
      have hL_a0 : wM D S_7 a0 := hX_S_7.M hL_a0
      refine lv_if_eq (tgt := 161) hx hb dX12_isPinned_116 (by decide) (fun c_8 => ?_) (fun c_8 => ?_)
      · replace hp := hp.1 c_8
        exact t_X12_isPinned_161 F hr hlocks hK ih hp hW hE (lv_sub hl [0, 1, 2, 3] rfl) hL_a0 hK_a0
      · replace hp := hp.2 c_8
        refine lv_aload_n hx hb dX12_isPinned_119 rfl (lv_at hl 0 rfl) ?_
        refine lv_iconst (v := 0) hx hb dX12_isPinned_120 (by decide) ?_
        refine lv_iload hx hb dX12_isPinned_121 (lv_at hl 3 rfl) ?_
        refine w_callI (va_runV (As := [.int (0 : Int32), .int x4]) (rest := []) F (c_X12_on l hL_a0 hK_a0 hp H.size) (cwV (C := RX12) 2 hts (wg_V wm_RX12_141 wy_X12_on) rfl rfl rfl (by decide +kernel) ⟨Nat.le_of_ble_eq_true rfl, Nat.le_of_ble_eq_true rfl⟩) (w_preV hK hW hL_a0 hK_a0 (by decide) rfl) rfl rfl hl.1 rfl (lv_room (Nat.le_of_ble_eq_true rfl)) dX12_isPinned_123 ⟨Nat.le_of_ble_eq_true rfl, Nat.le_of_ble_eq_true rfl⟩) hW (fun r_9 S_10 H locs hp hW => ?_)
        obtain ⟨hX_S_10, hp⟩ := hp
        refine W.widen (k := 0) (n := 0) (by decide) (by decide) ?_
        have hE := hE.trans hX_S_10
        have hK_a0 : sK S_10 a0 = 17 := (hX_S_10.2 a0 hL_a0).1.trans hK_a0
        have hL_a0 : wM D S_10 a0 := hX_S_10.M hL_a0
        refine w_callI (va_runS (As := [.int r_9]) (rest := []) F (c_X12_kindOf l hp H.size) (va_cwS 1 hts (wg_S wm_RX12_148 wy_X12_kindOf) rfl rfl rfl (by decide +kernel) ⟨Nat.le_of_ble_eq_true rfl, Nat.le_of_ble_eq_true rfl⟩) (w_preS hK hW) rfl rfl hl.1 rfl (lv_room (Nat.le_of_ble_eq_true rfl)) dX12_isPinned_126 ⟨Nat.le_of_ble_eq_true rfl, Nat.le_of_ble_eq_true rfl⟩) hW (fun r_11 S_12 H locs hp hW => ?_)
        obtain ⟨hX_S_12, hp⟩ := hp
        refine W.widen (k := 0) (n := 0) (by decide) (by decide) ?_
        have hE := hE.trans hX_S_12
        have hK_a0 : sK S_12 a0 = 17 := (hX_S_12.2 a0 hL_a0).1.trans hK_a0
        have hL_a0 : wM D S_12 a0 := hX_S_12.M hL_a0
        refine lv_iconst (v := 2) hx hb dX12_isPinned_129 (by decide) ?_
        refine lv_iconst (v := 4) hx hb dX12_isPinned_130 (by decide) ?_
        refine w_callI (va_runS (As := [.int r_11, .int (2 : Int32), .int (4 : Int32)]) (rest := []) F (c_X12_in l hp H.size) (va_cwS 3 hts (wg_S wm_RX12_117 wy_X12_in) rfl rfl rfl (by decide +kernel) ⟨Nat.le_of_ble_eq_true rfl, Nat.le_of_ble_eq_true rfl⟩) (w_preS hK hW) rfl rfl hl.1 rfl (lv_room (Nat.le_of_ble_eq_true rfl)) dX12_isPinned_131 ⟨Nat.le_of_ble_eq_true rfl, Nat.le_of_ble_eq_true rfl⟩) hW (fun r_13 S_14 H locs hp hW => ?_)
        obtain ⟨hX_S_14, hp⟩ := hp
        refine W.widen (k := 0) (n := 0) (by decide) (by decide) ?_
        have hE := hE.trans hX_S_14
        have hK_a0 : sK S_14 a0 = 17 := (hX_S_14.2 a0 hL_a0).1.trans hK_a0
        have hL_a0 : wM D S_14 a0 := hX_S_14.M hL_a0
        refine lv_if_eq (tgt := 161) hx hb dX12_isPinned_134 (by decide) (fun c_15 => ?_) (fun c_15 => ?_)
        · replace hp := hp.1 c_15
          exact t_X12_isPinned_161 F hr hlocks hK ih hp hW hE (lv_sub hl [0, 1, 2, 3] rfl) hL_a0 hK_a0
        · replace hp := hp.2 c_15
          refine lv_aload_n hx hb dX12_isPinned_137 rfl (lv_at hl 0 rfl) ?_
          refine lv_iconst (v := 1) hx hb dX12_isPinned_138 (by decide) ?_
          refine lv_iload hx hb dX12_isPinned_139 (lv_at hl 3 rfl) ?_
          refine lv_iload_n hx hb dX12_isPinned_141 rfl (lv_at hl 2 rfl) ?_
          refine w_callI (va_runV (As := [.int (1 : Int32), .int x4, .int x3]) (rest := []) F (c_X12_attacks l hL_a0 hK_a0 hp H.size) (cwV (C := RX12) 3 hts (wg_V wm_RX12_158 wy_X12_attacks) rfl rfl rfl (by decide +kernel) ⟨Nat.le_of_ble_eq_true rfl, Nat.le_of_ble_eq_true rfl⟩) (w_preV hK hW hL_a0 hK_a0 (by decide) rfl) rfl rfl hl.1 rfl (lv_room (Nat.le_of_ble_eq_true rfl)) dX12_isPinned_142 ⟨Nat.le_of_ble_eq_true rfl, Nat.le_of_ble_eq_true rfl⟩) hW (fun r_16 S_17 H locs hp hW => ?_)
          obtain ⟨hX_S_17, hp⟩ := hp
          refine W.widen (k := 0) (n := 0) (by decide) (by decide) ?_
          have hE := hE.trans hX_S_17
          have hK_a0 : sK S_17 a0 = 17 := (hX_S_17.2 a0 hL_a0).1.trans hK_a0
          have hL_a0 : wM D S_17 a0 := hX_S_17.M hL_a0
          refine lv_if_eq (tgt := 161) hx hb dX12_isPinned_145 (by decide) (fun c_18 => ?_) (fun c_18 => ?_)
          · replace hp := hp.1 c_18
            exact t_X12_isPinned_161 F hr hlocks hK ih hp hW hE (lv_sub hl [0, 1, 2, 3] rfl) hL_a0 hK_a0
          · replace hp := hp.2 c_18
            refine lv_aload_n hx hb dX12_isPinned_148 rfl (lv_at hl 0 rfl) ?_
            refine lv_iconst (v := 0) hx hb dX12_isPinned_149 (by decide) ?_
            refine lv_iload hx hb dX12_isPinned_150 (lv_at hl 3 rfl) ?_
            refine lv_iload_n hx hb dX12_isPinned_152 rfl (lv_at hl 2 rfl) ?_
            refine w_callI (va_runV (As := [.int (0 : Int32), .int x4, .int x3]) (rest := []) F (c_X12_attacks l hL_a0 hK_a0 hp H.size) (cwV (C := RX12) 3 hts (wg_V wm_RX12_158 wy_X12_attacks) rfl rfl rfl (by decide +kernel) ⟨Nat.le_of_ble_eq_true rfl, Nat.le_of_ble_eq_true rfl⟩) (w_preV hK hW hL_a0 hK_a0 (by decide) rfl) rfl rfl hl.1 rfl (lv_room (Nat.le_of_ble_eq_true rfl)) dX12_isPinned_153 ⟨Nat.le_of_ble_eq_true rfl, Nat.le_of_ble_eq_true rfl⟩) hW (fun r_19 S_20 H locs hp hW => ?_)
            obtain ⟨hX_S_20, hp⟩ := hp
            refine W.widen (k := 0) (n := 0) (by decide) (by decide) ?_
            have hE := hE.trans hX_S_20
            have hK_a0 : sK S_20 a0 = 17 := (hX_S_20.2 a0 hL_a0).1.trans hK_a0
            have hL_a0 : wM D S_20 a0 := hX_S_20.M hL_a0
            refine lv_if_ne (tgt := 161) hx hb dX12_isPinned_156 (by decide) (fun c_21 => ?_) (fun c_21 => ?_)
            · replace hp := hp.1 c_21
              exact t_X12_isPinned_161 F hr hlocks hK ih hp hW hE (lv_sub hl [0, 1, 2, 3] rfl) hL_a0 hK_a0
            · replace hp := hp.2 c_21
              refine lv_iconst (v := 1) hx hb dX12_isPinned_159 (by decide) ?_
              exact w_zret hx hb hr hlocks hW hp.1 ⟨hE, hp.2⟩ dX12_isPinned_160
set_option maxHeartbeats 4000000 in
set_option maxRecDepth 100000 in
theorem t_X12_isPinned_59 {p : Program} {l : Launch} {e : Env} {s : State} {m : MethodId} {args : Array Value} {below : List Frame} {meth : Method} {c : Code} {D : wD} {cy : Nat → ClassId} {X : va_W} {A : Nat → Prop} {S0 : wS} {post : Int32 → wS → Prop} (F : CallFix p m c cX12_isPinned 5 s args wz_X12_isPinned RX12) (hr : meth.sig.returnType = (some .boolean)) (hlocks : meth.locks = false) (hK : wK D cy A s) : ∀ {S : wS} {H : Heap} {locs : List Loc} {ls : Array Slot}, wp_X12_isPinned_59 D post S → wO D cy X A s.heap S H locs → wX D S0 S → lv_has ls 5 [] → W p l e r_X12_isPinned s m args below meth c H locs 0 0 (MQ below (va_Qi (fun r S9 => wX D S0 S9 ∧ post r S9) (wB D cy X A) A) args s 0 0 A) (F0 m 59 ls []) := by
  obtain ⟨hx, hb, hml, hown, hts⟩ := id F
  have hwg : ∀ w ∈ WG, w.before args s = true := fun w h => hts w (List.mem_cons_of_mem _ h)
  intro S H locs ls hp hW hE hl
  unfold wp_X12_isPinned_59 at hp
  refine lv_iconst (v := 0) hx hb dX12_isPinned_59 (by decide) ?_
  exact w_zret hx hb hr hlocks hW hp.1 ⟨hE, hp.2⟩ dX12_isPinned_60
set_option maxHeartbeats 4000000 in
set_option maxRecDepth 100000 in
theorem t_X12_isPinned_25 {p : Program} {l : Launch} {e : Env} {s : State} {m : MethodId} {args : Array Value} {below : List Frame} {meth : Method} {c : Code} {D : wD} {cy : Nat → ClassId} {X : va_W} {A : Nat → Prop} {S0 : wS} {post : Int32 → wS → Prop} (F : CallFix p m c cX12_isPinned 5 s args wz_X12_isPinned RX12) (hr : meth.sig.returnType = (some .boolean)) (hlocks : meth.locks = false) (hK : wK D cy A s) : ∀ {S : wS} {H : Heap} {locs : List Loc} {ls : Array Slot}, wp_X12_isPinned_25 D post S → wO D cy X A s.heap S H locs → wX D S0 S → lv_has ls 5 [] → W p l e r_X12_isPinned s m args below meth c H locs 0 0 (MQ below (va_Qi (fun r S9 => wX D S0 S9 ∧ post r S9) (wB D cy X A) A) args s 0 0 A) (F0 m 25 ls []) := by
  obtain ⟨hx, hb, hml, hown, hts⟩ := id F
  have hwg : ∀ w ∈ WG, w.before args s = true := fun w h => hts w (List.mem_cons_of_mem _ h)
  intro S H locs ls hp hW hE hl
  unfold wp_X12_isPinned_25 at hp
  refine lv_iconst (v := 0) hx hb dX12_isPinned_25 (by decide) ?_
  exact w_zret hx hb hr hlocks hW hp.1 ⟨hE, hp.2⟩ dX12_isPinned_26
set_option maxHeartbeats 4000000 in
set_option maxRecDepth 100000 in
theorem t_X12_isPinned_0 {p : Program} {l : Launch} {e : Env} {s : State} {m : MethodId} {args : Array Value} {below : List Frame} {meth : Method} {c : Code} {D : wD} {cy : Nat → ClassId} {X : va_W} {A : Nat → Prop} {S0 : wS} {post : Int32 → wS → Prop} (F : CallFix p m c cX12_isPinned 5 s args wz_X12_isPinned RX12) (hr : meth.sig.returnType = (some .boolean)) (hlocks : meth.locks = false) (hK : wK D cy A s) : ∀ {S : wS} {H : Heap} {locs : List Loc} {ls : Array Slot} {a0 : Nat} {x1 : Int32}, wp_X12_isPinned_0 D post S a0 x1 → wO D cy X A s.heap S H locs → wX D S0 S → lv_has ls 5 [(0, .ref a0), (1, .int x1)] → wM D S a0 → sK S a0 = 17 → W p l e r_X12_isPinned s m args below meth c H locs 0 0 (MQ below (va_Qi (fun r S9 => wX D S0 S9 ∧ post r S9) (wB D cy X A) A) args s 0 0 A) (F0 m 0 ls []) := by
  obtain ⟨hx, hb, hml, hown, hts⟩ := id F
  have hwg : ∀ w ∈ WG, w.before args s = true := fun w h => hts w (List.mem_cons_of_mem _ h)
  have i_17 : ∀ w ∈ u_ws RX12 TX12 43, w ∈ wz_X12_isPinned := fun w h => List.mem_cons_of_mem _ (wu_17 w h)
  have k_16 := hwg _ wf_RX12_16
  intro S H locs ls a0 x1 hp hW hE hl hL_a0 hK_a0
  unfold wp_X12_isPinned_0 at hp
  refine lv_aload_n hx hb dX12_isPinned_0 rfl (lv_at hl 0 rfl) ?_
  refine lv_aload_n hx hb dX12_isPinned_1 rfl (lv_at hl 0 rfl) ?_
  refine lv_iload_n hx hb dX12_isPinned_2 rfl (lv_at hl 1 rfl) ?_
  refine w_callI (va_runV (As := [.int x1]) (rest := [.ref a0]) F (c_X12_isSquare l hL_a0 hK_a0 hp H.size) (cwV (C := RX12) 1 hts (wg_V wm_RX12_241 wy_X12_isSquare) rfl rfl rfl (by decide +kernel) ⟨Nat.le_of_ble_eq_true rfl, Nat.le_of_ble_eq_true rfl⟩) (w_preV hK hW hL_a0 hK_a0 (by decide) rfl) rfl rfl hl.1 rfl (lv_room (Nat.le_of_ble_eq_true rfl)) dX12_isPinned_3 ⟨Nat.le_of_ble_eq_true rfl, Nat.le_of_ble_eq_true rfl⟩) hW (fun r_1 S_2 H locs hp hW => ?_)
  obtain ⟨hX_S_2, hp⟩ := hp
  refine W.widen (k := 0) (n := 0) (by decide) (by decide) ?_
  have hE := hE.trans hX_S_2
  have hK_a0 : sK S_2 a0 = 17 := (hX_S_2.2 a0 hL_a0).1.trans hK_a0
  have hL_a0 : wM D S_2 a0 := hX_S_2.M hL_a0
  refine lv_iconst (v := 1) hx hb dX12_isPinned_6 (by decide) ?_
  refine w_callI (va_runV (As := [.int r_1, .int (1 : Int32)]) (rest := []) F (c_X12_can l hL_a0 hK_a0 hp H.size) (cwV (C := RX12) 2 hts (wg_V wm_RX12_237 wy_X12_can) rfl rfl rfl (by decide +kernel) ⟨Nat.le_of_ble_eq_true rfl, Nat.le_of_ble_eq_true rfl⟩) (w_preV hK hW hL_a0 hK_a0 (by decide) rfl) rfl rfl hl.1 rfl (lv_room (Nat.le_of_ble_eq_true rfl)) dX12_isPinned_7 ⟨Nat.le_of_ble_eq_true rfl, Nat.le_of_ble_eq_true rfl⟩) hW (fun r_3 S_4 H locs hp hW => ?_)
  obtain ⟨hX_S_4, hp⟩ := hp
  refine W.widen (k := 0) (n := 0) (by decide) (by decide) ?_
  have hE := hE.trans hX_S_4
  have hK_a0 : sK S_4 a0 = 17 := (hX_S_4.2 a0 hL_a0).1.trans hK_a0
  have hL_a0 : wM D S_4 a0 := hX_S_4.M hL_a0
  refine lv_if_eq (tgt := 25) hx hb dX12_isPinned_10 (by decide) (fun c_5 => ?_) (fun c_5 => ?_)
  · replace hp := hp.1 c_5
    exact t_X12_isPinned_25 F hr hlocks hK hp hW hE (lv_sub hl [] rfl)
  · replace hp := hp.2 c_5
    refine lv_aload_n hx hb dX12_isPinned_13 rfl (lv_at hl 0 rfl) ?_
    refine lv_aload_n hx hb dX12_isPinned_14 rfl (lv_at hl 0 rfl) ?_
    refine w_callI (va_runV (As := []) (rest := [.ref a0]) F (c_X12_isAskable l hL_a0 hK_a0 hp H.size) (cwV (C := RX12) 0 hts (wg_V wm_RX12_284 wy_X12_isAskable) rfl rfl rfl (by decide +kernel) ⟨Nat.le_of_ble_eq_true rfl, Nat.le_of_ble_eq_true rfl⟩) (w_preV hK hW hL_a0 hK_a0 (by decide) rfl) rfl rfl hl.1 rfl (lv_room (Nat.le_of_ble_eq_true rfl)) dX12_isPinned_15 ⟨Nat.le_of_ble_eq_true rfl, Nat.le_of_ble_eq_true rfl⟩) hW (fun r_6 S_7 H locs hp hW => ?_)
    obtain ⟨hX_S_7, hp⟩ := hp
    refine W.widen (k := 0) (n := 0) (by decide) (by decide) ?_
    have hE := hE.trans hX_S_7
    have hK_a0 : sK S_7 a0 = 17 := (hX_S_7.2 a0 hL_a0).1.trans hK_a0
    have hL_a0 : wM D S_7 a0 := hX_S_7.M hL_a0
    refine lv_iconst (v := 2) hx hb dX12_isPinned_18 (by decide) ?_
    refine w_callI (va_runV (As := [.int r_6, .int (2 : Int32)]) (rest := []) F (c_X12_can l hL_a0 hK_a0 hp H.size) (cwV (C := RX12) 2 hts (wg_V wm_RX12_237 wy_X12_can) rfl rfl rfl (by decide +kernel) ⟨Nat.le_of_ble_eq_true rfl, Nat.le_of_ble_eq_true rfl⟩) (w_preV hK hW hL_a0 hK_a0 (by decide) rfl) rfl rfl hl.1 rfl (lv_room (Nat.le_of_ble_eq_true rfl)) dX12_isPinned_19 ⟨Nat.le_of_ble_eq_true rfl, Nat.le_of_ble_eq_true rfl⟩) hW (fun r_8 S_9 H locs hp hW => ?_)
    obtain ⟨hX_S_9, hp⟩ := hp
    refine W.widen (k := 0) (n := 0) (by decide) (by decide) ?_
    have hE := hE.trans hX_S_9
    have hK_a0 : sK S_9 a0 = 17 := (hX_S_9.2 a0 hL_a0).1.trans hK_a0
    have hL_a0 : wM D S_9 a0 := hX_S_9.M hL_a0
    refine lv_if_ne (tgt := 27) hx hb dX12_isPinned_22 (by decide) (fun c_10 => ?_) (fun c_10 => ?_)
    · replace hp := hp.1 c_10
      refine lv_aload_n hx hb dX12_isPinned_27 rfl (lv_at hl 0 rfl) ?_
      refine lv_iconst (v := 0) hx hb dX12_isPinned_28 (by decide) ?_
      refine w_callI (va_runV (As := [.int (0 : Int32)]) (rest := []) F (c_X12_side l hL_a0 hK_a0 hp H.size) (cwV (C := RX12) 1 hts (wg_V wm_RX12_183 wy_X12_side) rfl rfl rfl (by decide +kernel) ⟨Nat.le_of_ble_eq_true rfl, Nat.le_of_ble_eq_true rfl⟩) (w_preV hK hW hL_a0 hK_a0 (by decide) rfl) rfl rfl hl.1 rfl (lv_room (Nat.le_of_ble_eq_true rfl)) dX12_isPinned_29 ⟨Nat.le_of_ble_eq_true rfl, Nat.le_of_ble_eq_true rfl⟩) hW (fun r_11 S_12 H locs hp hW => ?_)
      obtain ⟨hX_S_12, hp⟩ := hp
      refine W.widen (k := 0) (n := 0) (by decide) (by decide) ?_
      have hE := hE.trans hX_S_12
      have hK_a0 : sK S_12 a0 = 17 := (hX_S_12.2 a0 hL_a0).1.trans hK_a0
      have hL_a0 : wM D S_12 a0 := hX_S_12.M hL_a0
      refine lv_istore_n (lv' := [(2, .int r_11), (0, .ref a0), (1, .int x1)]) hx hb dX12_isPinned_32 rfl hl (by decide) rfl (fun ls hl => ?_)
      refine lv_aload_n hx hb dX12_isPinned_33 rfl (lv_at hl 1 rfl) ?_
      refine lv_iconst (v := 0) hx hb dX12_isPinned_34 (by decide) ?_
      refine lv_iload_n hx hb dX12_isPinned_35 rfl (lv_at hl 2 rfl) ?_
      refine w_callI (va_runV (As := [.int (0 : Int32), .int x1]) (rest := []) F (c_X12_on l hL_a0 hK_a0 hp H.size) (cwV (C := RX12) 2 hts (wg_V wm_RX12_141 wy_X12_on) rfl rfl rfl (by decide +kernel) ⟨Nat.le_of_ble_eq_true rfl, Nat.le_of_ble_eq_true rfl⟩) (w_preV hK hW hL_a0 hK_a0 (by decide) rfl) rfl rfl hl.1 rfl (lv_room (Nat.le_of_ble_eq_true rfl)) dX12_isPinned_36 ⟨Nat.le_of_ble_eq_true rfl, Nat.le_of_ble_eq_true rfl⟩) hW (fun r_13 S_14 H locs hp hW => ?_)
      obtain ⟨hX_S_14, hp⟩ := hp
      refine W.widen (k := 0) (n := 0) (by decide) (by decide) ?_
      have hE := hE.trans hX_S_14
      have hK_a0 : sK S_14 a0 = 17 := (hX_S_14.2 a0 hL_a0).1.trans hK_a0
      have hL_a0 : wM D S_14 a0 := hX_S_14.M hL_a0
      refine lv_iload_n hx hb dX12_isPinned_39 rfl (lv_at hl 0 rfl) ?_
      refine w_callI (va_runS (As := [.int r_13, .int r_11]) (rest := []) F (c_X12_isOf l hp H.size) (va_cwS 2 hts (wg_S wm_RX12_154 wy_X12_isOf) rfl rfl rfl (by decide +kernel) ⟨Nat.le_of_ble_eq_true rfl, Nat.le_of_ble_eq_true rfl⟩) (w_preS hK hW) rfl rfl hl.1 rfl (lv_room (Nat.le_of_ble_eq_true rfl)) dX12_isPinned_40 ⟨Nat.le_of_ble_eq_true rfl, Nat.le_of_ble_eq_true rfl⟩) hW (fun r_15 S_16 H locs hp hW => ?_)
      obtain ⟨hX_S_16, hp⟩ := hp
      refine W.widen (k := 0) (n := 0) (by decide) (by decide) ?_
      have hE := hE.trans hX_S_16
      have hK_a0 : sK S_16 a0 = 17 := (hX_S_16.2 a0 hL_a0).1.trans hK_a0
      have hL_a0 : wM D S_16 a0 := hX_S_16.M hL_a0
      refine lv_if_eq (tgt := 59) hx hb dX12_isPinned_43 (by decide) (fun c_17 => ?_) (fun c_17 => ?_)
      · replace hp := hp.1 c_17
        exact t_X12_isPinned_59 F hr hlocks hK hp hW hE (lv_sub hl [] rfl)
      · replace hp := hp.2 c_17
        refine lv_aload_n hx hb dX12_isPinned_46 rfl (lv_at hl 1 rfl) ?_
        refine lv_iconst (v := 0) hx hb dX12_isPinned_47 (by decide) ?_
        refine lv_iload_n hx hb dX12_isPinned_48 rfl (lv_at hl 2 rfl) ?_
        refine w_callI (va_runV (As := [.int (0 : Int32), .int x1]) (rest := []) F (c_X12_on l hL_a0 hK_a0 hp H.size) (cwV (C := RX12) 2 hts (wg_V wm_RX12_141 wy_X12_on) rfl rfl rfl (by decide +kernel) ⟨Nat.le_of_ble_eq_true rfl, Nat.le_of_ble_eq_true rfl⟩) (w_preV hK hW hL_a0 hK_a0 (by decide) rfl) rfl rfl hl.1 rfl (lv_room (Nat.le_of_ble_eq_true rfl)) dX12_isPinned_49 ⟨Nat.le_of_ble_eq_true rfl, Nat.le_of_ble_eq_true rfl⟩) hW (fun r_18 S_19 H locs hp hW => ?_)
        obtain ⟨hX_S_19, hp⟩ := hp
        refine W.widen (k := 0) (n := 0) (by decide) (by decide) ?_
        have hE := hE.trans hX_S_19
        have hK_a0 : sK S_19 a0 = 17 := (hX_S_19.2 a0 hL_a0).1.trans hK_a0
        have hL_a0 : wM D S_19 a0 := hX_S_19.M hL_a0
        refine w_callI (va_runS (As := [.int r_18]) (rest := []) F (c_X12_kindOf l hp H.size) (va_cwS 1 hts (wg_S wm_RX12_148 wy_X12_kindOf) rfl rfl rfl (by decide +kernel) ⟨Nat.le_of_ble_eq_true rfl, Nat.le_of_ble_eq_true rfl⟩) (w_preS hK hW) rfl rfl hl.1 rfl (lv_room (Nat.le_of_ble_eq_true rfl)) dX12_isPinned_52 ⟨Nat.le_of_ble_eq_true rfl, Nat.le_of_ble_eq_true rfl⟩) hW (fun r_20 S_21 H locs hp hW => ?_)
        obtain ⟨hX_S_21, hp⟩ := hp
        refine W.widen (k := 0) (n := 0) (by decide) (by decide) ?_
        have hE := hE.trans hX_S_21
        have hK_a0 : sK S_21 a0 = 17 := (hX_S_21.2 a0 hL_a0).1.trans hK_a0
        have hL_a0 : wM D S_21 a0 := hX_S_21.M hL_a0
        refine lv_iconst (v := 1) hx hb dX12_isPinned_55 (by decide) ?_
        refine lv_icmp_ne (tgt := 61) hx hb dX12_isPinned_56 (by decide) (fun c_22 => ?_) (fun c_22 => ?_)
        · replace hp := hp.1 c_22
          refine lv_aload_n hx hb dX12_isPinned_61 rfl (lv_at hl 1 rfl) ?_
          refine lv_iconst (v := 0) hx hb dX12_isPinned_62 (by decide) ?_
          refine lv_iload_n hx hb dX12_isPinned_63 rfl (lv_at hl 0 rfl) ?_
          refine w_callI (va_runV (As := [.int (0 : Int32), .int r_11]) (rest := []) F (c_X12_kingOf l hL_a0 hK_a0 hp H.size) (cwV (C := RX12) 2 hts (wg_V wm_RX12_164 wy_X12_kingOf) rfl rfl rfl (by decide +kernel) ⟨Nat.le_of_ble_eq_true rfl, Nat.le_of_ble_eq_true rfl⟩) (w_preV hK hW hL_a0 hK_a0 (by decide) rfl) rfl rfl hl.1 rfl (lv_room (Nat.le_of_ble_eq_true rfl)) dX12_isPinned_64 ⟨Nat.le_of_ble_eq_true rfl, Nat.le_of_ble_eq_true rfl⟩) hW (fun r_23 S_24 H locs hp hW => ?_)
          obtain ⟨hX_S_24, hp⟩ := hp
          refine W.widen (k := 0) (n := 0) (by decide) (by decide) ?_
          have hE := hE.trans hX_S_24
          have hK_a0 : sK S_24 a0 = 17 := (hX_S_24.2 a0 hL_a0).1.trans hK_a0
          have hL_a0 : wM D S_24 a0 := hX_S_24.M hL_a0
          refine lv_istore_n (lv' := [(3, .int r_23), (2, .int r_11), (0, .ref a0), (1, .int x1)]) hx hb dX12_isPinned_67 rfl hl (by decide) rfl (fun ls hl => ?_)
          refine lv_bipush (v := 67) hx hb dX12_isPinned_68 (by decide) ?_
          refine lv_aload_n hx hb dX12_isPinned_70 rfl (lv_at hl 2 rfl) ?_
          obtain ⟨y_25, ey_25, hL_y_25, hK_y_25, hp⟩ := hp
          refine w_get (k := 17) (f := 3) (T := TX12) (v := .ref y_25) F hK hW hL_a0 hK_a0 (by decide) rfl rfl (by decide) i_17 k_16 (by rw [show wv 17 3 S_24 a0 = va_rf (sR S_24 a0 3) from rfl, ey_25]; rfl) dX12_isPinned_71 ?_
          refine lv_iconst (v := 0) hx hb dX12_isPinned_74 (by decide) ?_
          refine lv_aload_n hx hb dX12_isPinned_75 rfl (lv_at hl 2 rfl) ?_
          obtain ⟨y_26, ey_26, hL_y_26, hK_y_26, hp⟩ := hp
          refine w_get (k := 17) (f := 3) (T := TX12) (v := .ref y_26) F hK hW hL_a0 hK_a0 (by decide) rfl rfl (by decide) i_17 k_16 (by rw [show wv 17 3 S_24 a0 = va_rf (sR S_24 a0 3) from rfl, ey_26]; rfl) dX12_isPinned_76 ?_
          refine lv_bipush (v := 67) hx hb dX12_isPinned_79 (by decide) ?_
          refine w_callV (va_runS (As := [.int (67 : Int32), .ref y_25, .int (0 : Int32), .ref y_26, .int (67 : Int32)]) (rest := []) F (c_X12_copies l hL_y_25 hK_y_25 hL_y_26 hK_y_26 hp H.size) (va_cwS 5 hts (wg_S wm_RX12_130 wy_X12_copies) rfl rfl rfl (by decide +kernel) ⟨Nat.le_of_ble_eq_true rfl, Nat.le_of_ble_eq_true rfl⟩) (w_preS hK hW) rfl rfl hl.1 rfl (lv_room (Nat.le_of_ble_eq_true rfl)) dX12_isPinned_81 ⟨Nat.le_of_ble_eq_true rfl, Nat.le_of_ble_eq_true rfl⟩) hW (fun S_28 H locs hp hW => ?_)
          obtain ⟨hX_S_28, hp⟩ := hp
          refine W.widen (k := 0) (n := 0) (by decide) (by decide) ?_
          have hE := hE.trans hX_S_28
          have hK_a0 : sK S_28 a0 = 17 := (hX_S_28.2 a0 hL_a0).1.trans hK_a0
          have hL_a0 : wM D S_28 a0 := hX_S_28.M hL_a0
          refine lv_aload_n hx hb dX12_isPinned_84 rfl (lv_at hl 2 rfl) ?_
          refine lv_iconst (v := 1) hx hb dX12_isPinned_85 (by decide) ?_
          refine lv_iload_n hx hb dX12_isPinned_86 rfl (lv_at hl 3 rfl) ?_
          refine lv_iconst (v := 0) hx hb dX12_isPinned_87 (by decide) ?_
          refine w_callV (va_runV (As := [.int (1 : Int32), .int x1, .int (0 : Int32)]) (rest := []) F (c_X12_lay l hL_a0 hK_a0 hp H.size) (cwV (C := RX12) 3 hts (wg_V wm_RX12_207 wy_X12_lay) rfl rfl rfl (by decide +kernel) ⟨Nat.le_of_ble_eq_true rfl, Nat.le_of_ble_eq_true rfl⟩) (w_preV hK hW hL_a0 hK_a0 (by decide) rfl) rfl rfl hl.1 rfl (lv_room (Nat.le_of_ble_eq_true rfl)) dX12_isPinned_88 ⟨Nat.le_of_ble_eq_true rfl, Nat.le_of_ble_eq_true rfl⟩) hW (fun S_30 H locs hp hW => ?_)
          obtain ⟨hX_S_30, hp⟩ := hp
          refine W.widen (k := 0) (n := 0) (by decide) (by decide) ?_
          have hE := hE.trans hX_S_30
          have hK_a0 : sK S_30 a0 = 17 := (hX_S_30.2 a0 hL_a0).1.trans hK_a0
          have hL_a0 : wM D S_30 a0 := hX_S_30.M hL_a0
          refine lv_iconst (v := 0) hx hb dX12_isPinned_91 (by decide) ?_
          refine lv_istore (lv' := [(4, .int (0 : Int32)), (3, .int r_23), (2, .int r_11), (0, .ref a0), (1, .int x1)]) hx hb dX12_isPinned_92 hl (by decide) rfl (fun ls hl => ?_)
          obtain ⟨n_31, hp⟩ := hp
          exact t_X12_isPinned_94 F hr hlocks hK n_31 hp hW hE (lv_sub hl [3, 2, 1, 0] rfl) hL_a0 hK_a0
        · replace hp := hp.2 c_22
          exact t_X12_isPinned_59 F hr hlocks hK hp hW hE (lv_sub hl [] rfl)
    · replace hp := hp.2 c_10
      exact t_X12_isPinned_25 F hr hlocks hK hp hW hE (lv_sub hl [] rfl)
set_option maxHeartbeats 4000000 in
set_option maxRecDepth 100000 in
theorem c_X12_isPinned (l : Launch) {D : wD} {cy : Nat → ClassId} {X : va_W} {S0 : wS} {post : Int32 → wS → Prop} {a0 : Nat} {x1 : Int32} (hL_a0 : wM D S0 a0) (hK_a0 : sK S0 a0 = 17) (hp : wp_X12_isPinned D post S0 a0 x1) : mI D cy X l yX12_isPinned wz_X12_isPinned r_X12_isPinned [.ref a0, .int x1] S0 (fun r S9 => wX D S0 S9 ∧ post r S9) := by
  intro sz
  refine Met.ofW (cc := cX12_isPinned) (maxL := 5) (ret := (some .boolean)) (by decide) rfl ?_
  intro p e s m args below meth c s₁ B hml hv
  obtain ⟨rfl, hsz, hP, hK, hD0, hRO⟩ := hv
  have hts := atoms_spec (ws := wz_X12_isPinned) B.pre
  have hown : s.vm.findClass RX12 = some m.cls := findClass_of_methodNamed B.named
  subst hsz
  have hD := hD0.self (sz := s.heap.size)
  have F : CallFix p m c cX12_isPinned 5 s _ wz_X12_isPinned RX12 := ⟨B.exec, B.bytes, hml, hown, hts⟩
  have hr := B.returns
  have hlocks := B.notSynchronized
  generalize hAe : va_A (wL cy X S0) s.heap.size = A at hD hK ⊢
  have hA : ∀ q, s.heap.size ≤ q → A q := fun q h => by rw [← hAe]; exact Or.inr h
  have hW : wO D cy X A s.heap S0 s.heap [] := ⟨hP, hD, va_S.rf, hA, hRO⟩
  have hl := lv_entry ([.ref a0, .int x1]) (n := 5) (Nat.le_of_ble_eq_true rfl)
  rw [lg_entry_eq]
  generalize (lg_sl ([.ref a0, .int x1]) ++ List.replicate (5 - (lg_sl ([.ref a0, .int x1])).length) Slot.unset).toArray = ls at hl ⊢
  have hl : lv_has ls 5 [(0, .ref a0), (1, .int x1)] := hl
  unfold wp_X12_isPinned at hp
  exact t_X12_isPinned_0 F hr hlocks hK hp hW wX.rf (lv_sub hl [0, 1] rfl) hL_a0 hK_a0
def wp_X12_isProper_0 (D : wD) (post : Int32 → wS → Prop)  (S : wS) (a0 : Nat) : Prop :=
∀ S_1 : wS, S_1 = uI S a0 0 (0 : Int32) →
wp_X12_loads D (fun S_3 => 
wp_X12_isProperAt D (fun r_4 S_5 => 
narrow .boolean (.int r_4) = .int r_4 ∧ post r_4 S_5) S_3 a0 (0 : Int32)) S_1 a0
abbrev r_X12_isProper : Room := { frames := 6, cells := 0, slots := 0, locals := 143 }
def wp_X12_isProper (D : wD) (post : Int32 → wS → Prop) (S : wS) (a0 : Nat) : Prop := wp_X12_isProper_0 D post S a0
set_option maxHeartbeats 4000000 in
set_option maxRecDepth 100000 in
theorem t_X12_isProper_0 {p : Program} {l : Launch} {e : Env} {s : State} {m : MethodId} {args : Array Value} {below : List Frame} {meth : Method} {c : Code} {D : wD} {cy : Nat → ClassId} {X : va_W} {A : Nat → Prop} {S0 : wS} {post : Int32 → wS → Prop} (F : CallFix p m c cX12_isProper 1 s args wz_X12_isProper RX12) (hr : meth.sig.returnType = (some .boolean)) (hlocks : meth.locks = false) (hK : wK D cy A s) : ∀ {S : wS} {H : Heap} {locs : List Loc} {ls : Array Slot} {a0 : Nat}, wp_X12_isProper_0 D post S a0 → wO D cy X A s.heap S H locs → wX D S0 S → lv_has ls 1 [(0, .ref a0)] → wM D S a0 → sK S a0 = 17 → W p l e r_X12_isProper s m args below meth c H locs 0 0 (MQ below (va_Qi (fun r S9 => wX D S0 S9 ∧ post r S9) (wB D cy X A) A) args s 0 0 A) (F0 m 0 ls []) := by
  obtain ⟨hx, hb, hml, hown, hts⟩ := id F
  have hwg : ∀ w ∈ WG, w.before args s = true := fun w h => hts w (List.mem_cons_of_mem _ h)
  have i_17 : ∀ w ∈ u_ws RX12 TX12 43, w ∈ wz_X12_isProper := fun w h => List.mem_cons_of_mem _ (wu_17 w h)
  have k_110 := hwg _ wf_RX12_110
  intro S H locs ls a0 hp hW hE hl hL_a0 hK_a0
  unfold wp_X12_isProper_0 at hp
  refine lv_aload_n hx hb dX12_isProper_0 rfl (lv_at hl 0 rfl) ?_
  refine lv_iconst (v := 0) hx hb dX12_isProper_1 (by decide) ?_
  refine w_putI (k := 17) (f := 0) (T := TX12) F hK hW hL_a0 hK_a0 (by decide) (by decide) rfl rfl (by decide) i_17 tyX12 tyX12_ok nmX12 k_110 rfl rfl (ty := .int) rfl rfl rfl dX12_isProper_2 (fun H locs hW => ?_)
  obtain ⟨S_1, eS_1⟩ : ∃ z : wS, z = uI S a0 0 (0 : Int32) := ⟨_, rfl⟩
  rw [← eS_1] at hW
  replace hp := hp S_1 eS_1
  have hX_S_1 : wX D S S_1 := by rw [eS_1]; exact wX_uI
  have hE := hE.trans hX_S_1
  have hK_a0 : sK S_1 a0 = 17 := (hX_S_1.2 a0 hL_a0).1.trans hK_a0
  have hL_a0 : wM D S_1 a0 := hX_S_1.M hL_a0
  refine lv_aload_n hx hb dX12_isProper_5 rfl (lv_at hl 0 rfl) ?_
  refine w_callV (va_runV (As := []) (rest := []) F (c_X12_loads l hL_a0 hK_a0 hp H.size) (cwV (C := RX12) 0 hts (wg_V wm_RX12_192 wy_X12_loads) rfl rfl rfl (by decide +kernel) ⟨Nat.le_of_ble_eq_true rfl, Nat.le_of_ble_eq_true rfl⟩) (w_preV hK hW hL_a0 hK_a0 (by decide) rfl) rfl rfl hl.1 rfl (lv_room (Nat.le_of_ble_eq_true rfl)) dX12_isProper_6 ⟨Nat.le_of_ble_eq_true rfl, Nat.le_of_ble_eq_true rfl⟩) hW (fun S_3 H locs hp hW => ?_)
  obtain ⟨hX_S_3, hp⟩ := hp
  refine W.widen (k := 0) (n := 0) (by decide) (by decide) ?_
  have hE := hE.trans hX_S_3
  have hK_a0 : sK S_3 a0 = 17 := (hX_S_3.2 a0 hL_a0).1.trans hK_a0
  have hL_a0 : wM D S_3 a0 := hX_S_3.M hL_a0
  refine lv_aload_n hx hb dX12_isProper_9 rfl (lv_at hl 0 rfl) ?_
  refine lv_iconst (v := 0) hx hb dX12_isProper_10 (by decide) ?_
  refine w_callI (va_runV (As := [.int (0 : Int32)]) (rest := []) F (c_X12_isProperAt l hL_a0 hK_a0 hp H.size) (cwV (C := RX12) 1 hts (wg_V wm_RX12_189 wy_X12_isProperAt) rfl rfl rfl (by decide +kernel) ⟨Nat.le_of_ble_eq_true rfl, Nat.le_of_ble_eq_true rfl⟩) (w_preV hK hW hL_a0 hK_a0 (by decide) rfl) rfl rfl hl.1 rfl (lv_room (Nat.le_of_ble_eq_true rfl)) dX12_isProper_11 ⟨Nat.le_of_ble_eq_true rfl, Nat.le_of_ble_eq_true rfl⟩) hW (fun r_4 S_5 H locs hp hW => ?_)
  obtain ⟨hX_S_5, hp⟩ := hp
  refine W.widen (k := 0) (n := 0) (by decide) (by decide) ?_
  have hE := hE.trans hX_S_5
  have hK_a0 : sK S_5 a0 = 17 := (hX_S_5.2 a0 hL_a0).1.trans hK_a0
  have hL_a0 : wM D S_5 a0 := hX_S_5.M hL_a0
  exact w_zret hx hb hr hlocks hW hp.1 ⟨hE, hp.2⟩ dX12_isProper_14
set_option maxHeartbeats 4000000 in
set_option maxRecDepth 100000 in
theorem c_X12_isProper (l : Launch) {D : wD} {cy : Nat → ClassId} {X : va_W} {S0 : wS} {post : Int32 → wS → Prop} {a0 : Nat} (hL_a0 : wM D S0 a0) (hK_a0 : sK S0 a0 = 17) (hp : wp_X12_isProper D post S0 a0) : mI D cy X l yX12_isProper wz_X12_isProper r_X12_isProper [.ref a0] S0 (fun r S9 => wX D S0 S9 ∧ post r S9) := by
  intro sz
  refine Met.ofW (cc := cX12_isProper) (maxL := 1) (ret := (some .boolean)) (by decide) rfl ?_
  intro p e s m args below meth c s₁ B hml hv
  obtain ⟨rfl, hsz, hP, hK, hD0, hRO⟩ := hv
  have hts := atoms_spec (ws := wz_X12_isProper) B.pre
  have hown : s.vm.findClass RX12 = some m.cls := findClass_of_methodNamed B.named
  subst hsz
  have hD := hD0.self (sz := s.heap.size)
  have F : CallFix p m c cX12_isProper 1 s _ wz_X12_isProper RX12 := ⟨B.exec, B.bytes, hml, hown, hts⟩
  have hr := B.returns
  have hlocks := B.notSynchronized
  generalize hAe : va_A (wL cy X S0) s.heap.size = A at hD hK ⊢
  have hA : ∀ q, s.heap.size ≤ q → A q := fun q h => by rw [← hAe]; exact Or.inr h
  have hW : wO D cy X A s.heap S0 s.heap [] := ⟨hP, hD, va_S.rf, hA, hRO⟩
  have hl := lv_entry ([.ref a0]) (n := 1) (Nat.le_of_ble_eq_true rfl)
  rw [lg_entry_eq]
  generalize (lg_sl ([.ref a0]) ++ List.replicate (1 - (lg_sl ([.ref a0])).length) Slot.unset).toArray = ls at hl ⊢
  have hl : lv_has ls 1 [(0, .ref a0)] := hl
  unfold wp_X12_isProper at hp
  exact t_X12_isProper_0 F hr hlocks hK hp hW wX.rf (lv_sub hl [0] rfl) hL_a0 hK_a0
def wp_X12_isThere_2 (D : wD) (post : Int32 → wS → Prop)  : Nat → wS → Nat → Int32 → Int32 → Prop
  | 0, _, _, _, _ => False
  | n + 1, S, a0, x1, x2 =>
    ∃ y_1 : Nat, sR S a0 30 = some y_1 ∧ wM D S y_1 ∧ sK S y_1 = 21 ∧
    vp_in (0 : Int32) (sN S y_1) ∧
    (((sI S y_1 ((0 : Int32)).toNatClampNeg) ≤ x2 → narrow .boolean (.int (0 : Int32)) = .int (0 : Int32) ∧ post (0 : Int32) S) ∧
     (¬ (sI S y_1 ((0 : Int32)).toNatClampNeg) ≤ x2 → wp_X12_areAlike D (fun r_4 S_5 => 
    ((r_4 = 0 → ∀ x_7 : Int32, x_7 = x2 + 1 →
    wp_X12_isThere_2 D post n S_5 a0 x1 x_7) ∧
     (¬ r_4 = 0 → narrow .boolean (.int (1 : Int32)) = .int (1 : Int32) ∧ post (1 : Int32) S_5))) S a0 x2 x1))
def wp_X12_isThere_0 (D : wD) (post : Int32 → wS → Prop)  (S : wS) (a0 : Nat) (x1 : Int32) : Prop :=
∃ n_1 : Nat, wp_X12_isThere_2 D post n_1 S a0 x1 (0 : Int32)
abbrev r_X12_isThere : Room := { frames := 2, cells := 0, slots := 0, locals := 47 }
def wp_X12_isThere (D : wD) (post : Int32 → wS → Prop) (S : wS) (a0 : Nat) (x1 : Int32) : Prop := wp_X12_isThere_0 D post S a0 x1
set_option maxHeartbeats 4000000 in
set_option maxRecDepth 100000 in
theorem t_X12_isThere_2 {p : Program} {l : Launch} {e : Env} {s : State} {m : MethodId} {args : Array Value} {below : List Frame} {meth : Method} {c : Code} {D : wD} {cy : Nat → ClassId} {X : va_W} {A : Nat → Prop} {S0 : wS} {post : Int32 → wS → Prop} (F : CallFix p m c cX12_isThere 3 s args wz_X12_isThere RX12) (hr : meth.sig.returnType = (some .boolean)) (hlocks : meth.locks = false) (hK : wK D cy A s) : ∀ (n : Nat) {S : wS} {H : Heap} {locs : List Loc} {ls : Array Slot} {a0 : Nat} {x1 : Int32} {x2 : Int32}, wp_X12_isThere_2 D post n S a0 x1 x2 → wO D cy X A s.heap S H locs → wX D S0 S → lv_has ls 3 [(0, .ref a0), (1, .int x1), (2, .int x2)] → wM D S a0 → sK S a0 = 17 → W p l e r_X12_isThere s m args below meth c H locs 0 0 (MQ below (va_Qi (fun r S9 => wX D S0 S9 ∧ post r S9) (wB D cy X A) A) args s 0 0 A) (F0 m 2 ls []) := by
  obtain ⟨hx, hb, hml, hown, hts⟩ := id F
  have hwg : ∀ w ∈ WG, w.before args s = true := fun w h => hts w (List.mem_cons_of_mem _ h)
  have i_17 : ∀ w ∈ u_ws RX12 TX12 43, w ∈ wz_X12_isThere := fun w h => List.mem_cons_of_mem _ (wu_17 w h)
  have k_69 := hwg _ wf_RX12_69
  intro n
  induction n with
  | zero =>
    intro S H locs ls a0 x1 x2 hp
    exact hp.elim
  | succ n ih =>
    intro S H locs ls a0 x1 x2 hp hW hE hl hL_a0 hK_a0
    unfold wp_X12_isThere_2 at hp
    refine lv_iload_n hx hb dX12_isThere_2 rfl (lv_at hl 2 rfl) ?_
    refine lv_aload_n hx hb dX12_isThere_3 rfl (lv_at hl 0 rfl) ?_
    obtain ⟨y_1, ey_1, hL_y_1, hK_y_1, hp⟩ := hp
    refine w_get (k := 17) (f := 30) (T := TX12) (v := .ref y_1) F hK hW hL_a0 hK_a0 (by decide) rfl rfl (by decide) i_17 k_69 (by rw [show wv 17 30 S a0 = va_rf (sR S a0 30) from rfl, ey_1]; rfl) dX12_isThere_4 ?_
    refine lv_iconst (v := 0) hx hb dX12_isThere_7 (by decide) ?_
    obtain ⟨h_2, hp⟩ := hp
    refine w_ild F hK hW hL_y_1 hK_y_1 h_2 dX12_isThere_8 ?_
    refine lv_icmp_ge (tgt := 29) hx hb dX12_isThere_9 (by decide) (fun c_3 => ?_) (fun c_3 => ?_)
    · replace hp := hp.1 c_3
      refine lv_iconst (v := 0) hx hb dX12_isThere_29 (by decide) ?_
      exact w_zret hx hb hr hlocks hW hp.1 ⟨hE, hp.2⟩ dX12_isThere_30
    · replace hp := hp.2 c_3
      refine lv_aload_n hx hb dX12_isThere_12 rfl (lv_at hl 0 rfl) ?_
      refine lv_iload_n hx hb dX12_isThere_13 rfl (lv_at hl 2 rfl) ?_
      refine lv_iload_n hx hb dX12_isThere_14 rfl (lv_at hl 1 rfl) ?_
      refine w_callI (va_runV (As := [.int x2, .int x1]) (rest := []) F (c_X12_areAlike l hL_a0 hK_a0 hp H.size) (cwV (C := RX12) 2 hts (wg_V wm_RX12_458 wy_X12_areAlike) rfl rfl rfl (by decide +kernel) ⟨Nat.le_of_ble_eq_true rfl, Nat.le_of_ble_eq_true rfl⟩) (w_preV hK hW hL_a0 hK_a0 (by decide) rfl) rfl rfl hl.1 rfl (lv_room (Nat.le_of_ble_eq_true rfl)) dX12_isThere_15 ⟨Nat.le_of_ble_eq_true rfl, Nat.le_of_ble_eq_true rfl⟩) hW (fun r_4 S_5 H locs hp hW => ?_)
      obtain ⟨hX_S_5, hp⟩ := hp
      refine W.widen (k := 0) (n := 0) (by decide) (by decide) ?_
      have hE := hE.trans hX_S_5
      have hK_a0 : sK S_5 a0 = 17 := (hX_S_5.2 a0 hL_a0).1.trans hK_a0
      have hL_a0 : wM D S_5 a0 := hX_S_5.M hL_a0
      refine lv_if_eq (tgt := 23) hx hb dX12_isThere_18 (by decide) (fun c_6 => ?_) (fun c_6 => ?_)
      · replace hp := hp.1 c_6
        obtain ⟨x_7, ex_7⟩ : ∃ z : Int32, z = x2 + 1 := ⟨_, rfl⟩
        replace hp := hp x_7 ex_7
        refine lv_iinc (v := x_7) (lv' := [(2, .int x_7), (0, .ref a0), (1, .int x1)]) hx hb dX12_isThere_23 hl (k := 2) rfl (by rw [ex_7]; rfl) (by decide) rfl (fun ls hl => ?_)
        refine lv_goto (tgt := 2) hx hb dX12_isThere_26 (by decide) ?_
        exact ih hp hW hE (lv_sub hl [1, 2, 0] rfl) hL_a0 hK_a0
      · replace hp := hp.2 c_6
        refine lv_iconst (v := 1) hx hb dX12_isThere_21 (by decide) ?_
        exact w_zret hx hb hr hlocks hW hp.1 ⟨hE, hp.2⟩ dX12_isThere_22
set_option maxHeartbeats 4000000 in
set_option maxRecDepth 100000 in
theorem t_X12_isThere_0 {p : Program} {l : Launch} {e : Env} {s : State} {m : MethodId} {args : Array Value} {below : List Frame} {meth : Method} {c : Code} {D : wD} {cy : Nat → ClassId} {X : va_W} {A : Nat → Prop} {S0 : wS} {post : Int32 → wS → Prop} (F : CallFix p m c cX12_isThere 3 s args wz_X12_isThere RX12) (hr : meth.sig.returnType = (some .boolean)) (hlocks : meth.locks = false) (hK : wK D cy A s) : ∀ {S : wS} {H : Heap} {locs : List Loc} {ls : Array Slot} {a0 : Nat} {x1 : Int32}, wp_X12_isThere_0 D post S a0 x1 → wO D cy X A s.heap S H locs → wX D S0 S → lv_has ls 3 [(0, .ref a0), (1, .int x1)] → wM D S a0 → sK S a0 = 17 → W p l e r_X12_isThere s m args below meth c H locs 0 0 (MQ below (va_Qi (fun r S9 => wX D S0 S9 ∧ post r S9) (wB D cy X A) A) args s 0 0 A) (F0 m 0 ls []) := by
  obtain ⟨hx, hb, hml, hown, hts⟩ := id F
  have hwg : ∀ w ∈ WG, w.before args s = true := fun w h => hts w (List.mem_cons_of_mem _ h)
  intro S H locs ls a0 x1 hp hW hE hl hL_a0 hK_a0
  unfold wp_X12_isThere_0 at hp
  refine lv_iconst (v := 0) hx hb dX12_isThere_0 (by decide) ?_
  refine lv_istore_n (lv' := [(2, .int (0 : Int32)), (0, .ref a0), (1, .int x1)]) hx hb dX12_isThere_1 rfl hl (by decide) rfl (fun ls hl => ?_)
  obtain ⟨n_1, hp⟩ := hp
  exact t_X12_isThere_2 F hr hlocks hK n_1 hp hW hE (lv_sub hl [1, 2, 0] rfl) hL_a0 hK_a0
set_option maxHeartbeats 4000000 in
set_option maxRecDepth 100000 in
theorem c_X12_isThere (l : Launch) {D : wD} {cy : Nat → ClassId} {X : va_W} {S0 : wS} {post : Int32 → wS → Prop} {a0 : Nat} {x1 : Int32} (hL_a0 : wM D S0 a0) (hK_a0 : sK S0 a0 = 17) (hp : wp_X12_isThere D post S0 a0 x1) : mI D cy X l yX12_isThere wz_X12_isThere r_X12_isThere [.ref a0, .int x1] S0 (fun r S9 => wX D S0 S9 ∧ post r S9) := by
  intro sz
  refine Met.ofW (cc := cX12_isThere) (maxL := 3) (ret := (some .boolean)) (by decide) rfl ?_
  intro p e s m args below meth c s₁ B hml hv
  obtain ⟨rfl, hsz, hP, hK, hD0, hRO⟩ := hv
  have hts := atoms_spec (ws := wz_X12_isThere) B.pre
  have hown : s.vm.findClass RX12 = some m.cls := findClass_of_methodNamed B.named
  subst hsz
  have hD := hD0.self (sz := s.heap.size)
  have F : CallFix p m c cX12_isThere 3 s _ wz_X12_isThere RX12 := ⟨B.exec, B.bytes, hml, hown, hts⟩
  have hr := B.returns
  have hlocks := B.notSynchronized
  generalize hAe : va_A (wL cy X S0) s.heap.size = A at hD hK ⊢
  have hA : ∀ q, s.heap.size ≤ q → A q := fun q h => by rw [← hAe]; exact Or.inr h
  have hW : wO D cy X A s.heap S0 s.heap [] := ⟨hP, hD, va_S.rf, hA, hRO⟩
  have hl := lv_entry ([.ref a0, .int x1]) (n := 3) (Nat.le_of_ble_eq_true rfl)
  rw [lg_entry_eq]
  generalize (lg_sl ([.ref a0, .int x1]) ++ List.replicate (3 - (lg_sl ([.ref a0, .int x1])).length) Slot.unset).toArray = ls at hl ⊢
  have hl : lv_has ls 3 [(0, .ref a0), (1, .int x1)] := hl
  unfold wp_X12_isThere at hp
  exact t_X12_isThere_0 F hr hlocks hK hp hW wX.rf (lv_sub hl [0, 1] rfl) hL_a0 hK_a0
def wp_X12_isWhiteToMove_26 (D : wD) (post : Int32 → wS → Prop)  (S : wS) (t0 : Int32) : Prop :=
narrow .boolean (.int t0) = .int t0 ∧ post t0 S
def wp_X12_isWhiteToMove_0 (D : wD) (post : Int32 → wS → Prop)  (S : wS) (a0 : Nat) : Prop :=
∀ S_1 : wS, S_1 = uI S a0 0 (0 : Int32) →
∃ y_2 : Nat, sR S_1 a0 8 = some y_2 ∧ wM D S_1 y_2 ∧ sK S_1 y_2 = 21 ∧
wp_X12_presentAt D (fun r_3 S_4 => 
vp_in (r_3 + (64 : Int32)) (sN S_4 y_2) ∧
((¬ (sI S_4 y_2 ((r_3 + (64 : Int32))).toNatClampNeg) = (1 : Int32) → wp_X12_isWhiteToMove_26 D post S_4 (0 : Int32)) ∧
 ((sI S_4 y_2 ((r_3 + (64 : Int32))).toNatClampNeg) = (1 : Int32) → wp_X12_isWhiteToMove_26 D post S_4 (1 : Int32)))) S_1 a0
abbrev r_X12_isWhiteToMove : Room := { frames := 1, cells := 0, slots := 0, locals := 20 }
def wp_X12_isWhiteToMove (D : wD) (post : Int32 → wS → Prop) (S : wS) (a0 : Nat) : Prop := wp_X12_isWhiteToMove_0 D post S a0
set_option maxHeartbeats 4000000 in
set_option maxRecDepth 100000 in
theorem t_X12_isWhiteToMove_26 {p : Program} {l : Launch} {e : Env} {s : State} {m : MethodId} {args : Array Value} {below : List Frame} {meth : Method} {c : Code} {D : wD} {cy : Nat → ClassId} {X : va_W} {A : Nat → Prop} {S0 : wS} {post : Int32 → wS → Prop} (F : CallFix p m c cX12_isWhiteToMove 1 s args wz_X12_isWhiteToMove RX12) (hr : meth.sig.returnType = (some .boolean)) (hlocks : meth.locks = false) (hK : wK D cy A s) : ∀ {S : wS} {H : Heap} {locs : List Loc} {ls : Array Slot} {t0 : Int32}, wp_X12_isWhiteToMove_26 D post S t0 → wO D cy X A s.heap S H locs → wX D S0 S → lv_has ls 1 [] → W p l e r_X12_isWhiteToMove s m args below meth c H locs 0 0 (MQ below (va_Qi (fun r S9 => wX D S0 S9 ∧ post r S9) (wB D cy X A) A) args s 0 0 A) (F0 m 26 ls [.int t0]) := by
  obtain ⟨hx, hb, hml, hown, hts⟩ := id F
  have hwg : ∀ w ∈ WG, w.before args s = true := fun w h => hts w (List.mem_cons_of_mem _ h)
  intro S H locs ls t0 hp hW hE hl
  unfold wp_X12_isWhiteToMove_26 at hp
  exact w_zret hx hb hr hlocks hW hp.1 ⟨hE, hp.2⟩ dX12_isWhiteToMove_26
set_option maxHeartbeats 4000000 in
set_option maxRecDepth 100000 in
theorem t_X12_isWhiteToMove_0 {p : Program} {l : Launch} {e : Env} {s : State} {m : MethodId} {args : Array Value} {below : List Frame} {meth : Method} {c : Code} {D : wD} {cy : Nat → ClassId} {X : va_W} {A : Nat → Prop} {S0 : wS} {post : Int32 → wS → Prop} (F : CallFix p m c cX12_isWhiteToMove 1 s args wz_X12_isWhiteToMove RX12) (hr : meth.sig.returnType = (some .boolean)) (hlocks : meth.locks = false) (hK : wK D cy A s) : ∀ {S : wS} {H : Heap} {locs : List Loc} {ls : Array Slot} {a0 : Nat}, wp_X12_isWhiteToMove_0 D post S a0 → wO D cy X A s.heap S H locs → wX D S0 S → lv_has ls 1 [(0, .ref a0)] → wM D S a0 → sK S a0 = 17 → W p l e r_X12_isWhiteToMove s m args below meth c H locs 0 0 (MQ below (va_Qi (fun r S9 => wX D S0 S9 ∧ post r S9) (wB D cy X A) A) args s 0 0 A) (F0 m 0 ls []) := by
  obtain ⟨hx, hb, hml, hown, hts⟩ := id F
  have hwg : ∀ w ∈ WG, w.before args s = true := fun w h => hts w (List.mem_cons_of_mem _ h)
  have i_17 : ∀ w ∈ u_ws RX12 TX12 43, w ∈ wz_X12_isWhiteToMove := fun w h => List.mem_cons_of_mem _ (wu_17 w h)
  have k_110 := hwg _ wf_RX12_110
  have k_32 := hwg _ wf_RX12_32
  intro S H locs ls a0 hp hW hE hl hL_a0 hK_a0
  unfold wp_X12_isWhiteToMove_0 at hp
  refine lv_aload_n hx hb dX12_isWhiteToMove_0 rfl (lv_at hl 0 rfl) ?_
  refine lv_iconst (v := 0) hx hb dX12_isWhiteToMove_1 (by decide) ?_
  refine w_putI (k := 17) (f := 0) (T := TX12) F hK hW hL_a0 hK_a0 (by decide) (by decide) rfl rfl (by decide) i_17 tyX12 tyX12_ok nmX12 k_110 rfl rfl (ty := .int) rfl rfl rfl dX12_isWhiteToMove_2 (fun H locs hW => ?_)
  obtain ⟨S_1, eS_1⟩ : ∃ z : wS, z = uI S a0 0 (0 : Int32) := ⟨_, rfl⟩
  rw [← eS_1] at hW
  replace hp := hp S_1 eS_1
  have hX_S_1 : wX D S S_1 := by rw [eS_1]; exact wX_uI
  have hE := hE.trans hX_S_1
  have hK_a0 : sK S_1 a0 = 17 := (hX_S_1.2 a0 hL_a0).1.trans hK_a0
  have hL_a0 : wM D S_1 a0 := hX_S_1.M hL_a0
  refine lv_aload_n hx hb dX12_isWhiteToMove_5 rfl (lv_at hl 0 rfl) ?_
  obtain ⟨y_2, ey_2, hL_y_2, hK_y_2, hp⟩ := hp
  refine w_get (k := 17) (f := 8) (T := TX12) (v := .ref y_2) F hK hW hL_a0 hK_a0 (by decide) rfl rfl (by decide) i_17 k_32 (by rw [show wv 17 8 S_1 a0 = va_rf (sR S_1 a0 8) from rfl, ey_2]; rfl) dX12_isWhiteToMove_6 ?_
  refine lv_aload_n hx hb dX12_isWhiteToMove_9 rfl (lv_at hl 0 rfl) ?_
  refine w_callI (va_runV (As := []) (rest := [.ref y_2]) F (c_X12_presentAt l hL_a0 hK_a0 hp H.size) (cwV (C := RX12) 0 hts (wg_V wm_RX12_127 wy_X12_presentAt) rfl rfl rfl (by decide +kernel) ⟨Nat.le_of_ble_eq_true rfl, Nat.le_of_ble_eq_true rfl⟩) (w_preV hK hW hL_a0 hK_a0 (by decide) rfl) rfl rfl hl.1 rfl (lv_room (Nat.le_of_ble_eq_true rfl)) dX12_isWhiteToMove_10 ⟨Nat.le_of_ble_eq_true rfl, Nat.le_of_ble_eq_true rfl⟩) hW (fun r_3 S_4 H locs hp hW => ?_)
  obtain ⟨hX_S_4, hp⟩ := hp
  refine W.widen (k := 0) (n := 0) (by decide) (by decide) ?_
  have hE := hE.trans hX_S_4
  have hK_a0 : sK S_4 a0 = 17 := (hX_S_4.2 a0 hL_a0).1.trans hK_a0
  have hL_a0 : wM D S_4 a0 := hX_S_4.M hL_a0
  have hK_y_2 : sK S_4 y_2 = 21 := (hX_S_4.2 y_2 hL_y_2).1.trans hK_y_2
  have hL_y_2 : wM D S_4 y_2 := hX_S_4.M hL_y_2
  refine lv_bipush (v := 64) hx hb dX12_isWhiteToMove_13 (by decide) ?_
  refine lv_iadd hx hb dX12_isWhiteToMove_15 ?_
  obtain ⟨h_5, hp⟩ := hp
  refine w_ild F hK hW hL_y_2 hK_y_2 h_5 dX12_isWhiteToMove_16 ?_
  refine lv_iconst (v := 1) hx hb dX12_isWhiteToMove_17 (by decide) ?_
  refine lv_icmp_ne (tgt := 25) hx hb dX12_isWhiteToMove_18 (by decide) (fun c_6 => ?_) (fun c_6 => ?_)
  · replace hp := hp.1 c_6
    refine lv_iconst (v := 0) hx hb dX12_isWhiteToMove_25 (by decide) ?_
    exact t_X12_isWhiteToMove_26 F hr hlocks hK hp hW hE (lv_sub hl [] rfl)
  · replace hp := hp.2 c_6
    refine lv_iconst (v := 1) hx hb dX12_isWhiteToMove_21 (by decide) ?_
    refine lv_goto (tgt := 26) hx hb dX12_isWhiteToMove_22 (by decide) ?_
    exact t_X12_isWhiteToMove_26 F hr hlocks hK hp hW hE (lv_sub hl [] rfl)
set_option maxHeartbeats 4000000 in
set_option maxRecDepth 100000 in
theorem c_X12_isWhiteToMove (l : Launch) {D : wD} {cy : Nat → ClassId} {X : va_W} {S0 : wS} {post : Int32 → wS → Prop} {a0 : Nat} (hL_a0 : wM D S0 a0) (hK_a0 : sK S0 a0 = 17) (hp : wp_X12_isWhiteToMove D post S0 a0) : mI D cy X l yX12_isWhiteToMove wz_X12_isWhiteToMove r_X12_isWhiteToMove [.ref a0] S0 (fun r S9 => wX D S0 S9 ∧ post r S9) := by
  intro sz
  refine Met.ofW (cc := cX12_isWhiteToMove) (maxL := 1) (ret := (some .boolean)) (by decide) rfl ?_
  intro p e s m args below meth c s₁ B hml hv
  obtain ⟨rfl, hsz, hP, hK, hD0, hRO⟩ := hv
  have hts := atoms_spec (ws := wz_X12_isWhiteToMove) B.pre
  have hown : s.vm.findClass RX12 = some m.cls := findClass_of_methodNamed B.named
  subst hsz
  have hD := hD0.self (sz := s.heap.size)
  have F : CallFix p m c cX12_isWhiteToMove 1 s _ wz_X12_isWhiteToMove RX12 := ⟨B.exec, B.bytes, hml, hown, hts⟩
  have hr := B.returns
  have hlocks := B.notSynchronized
  generalize hAe : va_A (wL cy X S0) s.heap.size = A at hD hK ⊢
  have hA : ∀ q, s.heap.size ≤ q → A q := fun q h => by rw [← hAe]; exact Or.inr h
  have hW : wO D cy X A s.heap S0 s.heap [] := ⟨hP, hD, va_S.rf, hA, hRO⟩
  have hl := lv_entry ([.ref a0]) (n := 1) (Nat.le_of_ble_eq_true rfl)
  rw [lg_entry_eq]
  generalize (lg_sl ([.ref a0]) ++ List.replicate (1 - (lg_sl ([.ref a0])).length) Slot.unset).toArray = ls at hl ⊢
  have hl : lv_has ls 1 [(0, .ref a0)] := hl
  unfold wp_X12_isWhiteToMove at hp
  exact t_X12_isWhiteToMove_0 F hr hlocks hK hp hW wX.rf (lv_sub hl [0] rfl) hL_a0 hK_a0
def wp_X12_keyCount_33 (D : wD) (post : Int32 → wS → Prop)  (S : wS) (t0 : Int32) : Prop :=
post t0 S
def wp_X12_keyCount_0 (D : wD) (post : Int32 → wS → Prop)  (S : wS) (a0 : Nat) : Prop :=
wp_X12_isAskable D (fun r_1 S_2 => 
wp_X12_can D (fun r_3 S_4 => 
((¬ r_3 = 0 → wp_X12_matesIn D (fun r_6 S_7 => 
((¬ r_6 = (-1 : Int32) → wp_X12_keys D (fun r_9 S_10 => 
wp_X12_keyCount_33 D post S_10 r_9) S_7 a0 r_6) ∧
 (r_6 = (-1 : Int32) → wp_X12_keyCount_33 D post S_7 (0 : Int32)))) S_4 a0) ∧
 (r_3 = 0 → post (0 : Int32) S_4))) S_2 a0 r_1 (1 : Int32)) S a0
abbrev r_X12_keyCount : Room := { frames := 12, cells := 0, slots := 0, locals := 286 }
def wp_X12_keyCount (D : wD) (post : Int32 → wS → Prop) (S : wS) (a0 : Nat) : Prop := wp_X12_keyCount_0 D post S a0
set_option maxHeartbeats 4000000 in
set_option maxRecDepth 100000 in
theorem t_X12_keyCount_33 {p : Program} {l : Launch} {e : Env} {s : State} {m : MethodId} {args : Array Value} {below : List Frame} {meth : Method} {c : Code} {D : wD} {cy : Nat → ClassId} {X : va_W} {A : Nat → Prop} {S0 : wS} {post : Int32 → wS → Prop} (F : CallFix p m c cX12_keyCount 2 s args wz_X12_keyCount RX12) (hr : meth.sig.returnType = (some .int)) (hlocks : meth.locks = false) (hK : wK D cy A s) : ∀ {S : wS} {H : Heap} {locs : List Loc} {ls : Array Slot} {t0 : Int32}, wp_X12_keyCount_33 D post S t0 → wO D cy X A s.heap S H locs → wX D S0 S → lv_has ls 2 [] → W p l e r_X12_keyCount s m args below meth c H locs 0 0 (MQ below (va_Qi (fun r S9 => wX D S0 S9 ∧ post r S9) (wB D cy X A) A) args s 0 0 A) (F0 m 33 ls [.int t0]) := by
  obtain ⟨hx, hb, hml, hown, hts⟩ := id F
  have hwg : ∀ w ∈ WG, w.before args s = true := fun w h => hts w (List.mem_cons_of_mem _ h)
  intro S H locs ls t0 hp hW hE hl
  unfold wp_X12_keyCount_33 at hp
  exact w_iret hx hb hr hlocks hW ⟨hE, hp⟩ dX12_keyCount_33
set_option maxHeartbeats 4000000 in
set_option maxRecDepth 100000 in
theorem t_X12_keyCount_0 {p : Program} {l : Launch} {e : Env} {s : State} {m : MethodId} {args : Array Value} {below : List Frame} {meth : Method} {c : Code} {D : wD} {cy : Nat → ClassId} {X : va_W} {A : Nat → Prop} {S0 : wS} {post : Int32 → wS → Prop} (F : CallFix p m c cX12_keyCount 2 s args wz_X12_keyCount RX12) (hr : meth.sig.returnType = (some .int)) (hlocks : meth.locks = false) (hK : wK D cy A s) : ∀ {S : wS} {H : Heap} {locs : List Loc} {ls : Array Slot} {a0 : Nat}, wp_X12_keyCount_0 D post S a0 → wO D cy X A s.heap S H locs → wX D S0 S → lv_has ls 2 [(0, .ref a0)] → wM D S a0 → sK S a0 = 17 → W p l e r_X12_keyCount s m args below meth c H locs 0 0 (MQ below (va_Qi (fun r S9 => wX D S0 S9 ∧ post r S9) (wB D cy X A) A) args s 0 0 A) (F0 m 0 ls []) := by
  obtain ⟨hx, hb, hml, hown, hts⟩ := id F
  have hwg : ∀ w ∈ WG, w.before args s = true := fun w h => hts w (List.mem_cons_of_mem _ h)
  intro S H locs ls a0 hp hW hE hl hL_a0 hK_a0
  unfold wp_X12_keyCount_0 at hp
  refine lv_aload_n hx hb dX12_keyCount_0 rfl (lv_at hl 0 rfl) ?_
  refine lv_aload_n hx hb dX12_keyCount_1 rfl (lv_at hl 0 rfl) ?_
  refine w_callI (va_runV (As := []) (rest := [.ref a0]) F (c_X12_isAskable l hL_a0 hK_a0 hp H.size) (cwV (C := RX12) 0 hts (wg_V wm_RX12_284 wy_X12_isAskable) rfl rfl rfl (by decide +kernel) ⟨Nat.le_of_ble_eq_true rfl, Nat.le_of_ble_eq_true rfl⟩) (w_preV hK hW hL_a0 hK_a0 (by decide) rfl) rfl rfl hl.1 rfl (lv_room (Nat.le_of_ble_eq_true rfl)) dX12_keyCount_2 ⟨Nat.le_of_ble_eq_true rfl, Nat.le_of_ble_eq_true rfl⟩) hW (fun r_1 S_2 H locs hp hW => ?_)
  obtain ⟨hX_S_2, hp⟩ := hp
  refine W.widen (k := 0) (n := 0) (by decide) (by decide) ?_
  have hE := hE.trans hX_S_2
  have hK_a0 : sK S_2 a0 = 17 := (hX_S_2.2 a0 hL_a0).1.trans hK_a0
  have hL_a0 : wM D S_2 a0 := hX_S_2.M hL_a0
  refine lv_iconst (v := 1) hx hb dX12_keyCount_5 (by decide) ?_
  refine w_callI (va_runV (As := [.int r_1, .int (1 : Int32)]) (rest := []) F (c_X12_can l hL_a0 hK_a0 hp H.size) (cwV (C := RX12) 2 hts (wg_V wm_RX12_237 wy_X12_can) rfl rfl rfl (by decide +kernel) ⟨Nat.le_of_ble_eq_true rfl, Nat.le_of_ble_eq_true rfl⟩) (w_preV hK hW hL_a0 hK_a0 (by decide) rfl) rfl rfl hl.1 rfl (lv_room (Nat.le_of_ble_eq_true rfl)) dX12_keyCount_6 ⟨Nat.le_of_ble_eq_true rfl, Nat.le_of_ble_eq_true rfl⟩) hW (fun r_3 S_4 H locs hp hW => ?_)
  obtain ⟨hX_S_4, hp⟩ := hp
  refine W.widen (k := 0) (n := 0) (by decide) (by decide) ?_
  have hE := hE.trans hX_S_4
  have hK_a0 : sK S_4 a0 = 17 := (hX_S_4.2 a0 hL_a0).1.trans hK_a0
  have hL_a0 : wM D S_4 a0 := hX_S_4.M hL_a0
  refine lv_if_ne (tgt := 14) hx hb dX12_keyCount_9 (by decide) (fun c_5 => ?_) (fun c_5 => ?_)
  · replace hp := hp.1 c_5
    refine lv_aload_n hx hb dX12_keyCount_14 rfl (lv_at hl 0 rfl) ?_
    refine w_callI (va_runV (As := []) (rest := []) F (c_X12_matesIn l hL_a0 hK_a0 hp H.size) (cwV (C := RX12) 0 hts (wg_V wm_RX12_473 wy_X12_matesIn) rfl rfl rfl (by decide +kernel) ⟨Nat.le_of_ble_eq_true rfl, Nat.le_of_ble_eq_true rfl⟩) (w_preV hK hW hL_a0 hK_a0 (by decide) rfl) rfl rfl hl.1 rfl (lv_room (Nat.le_of_ble_eq_true rfl)) dX12_keyCount_15 ⟨Nat.le_of_ble_eq_true rfl, Nat.le_of_ble_eq_true rfl⟩) hW (fun r_6 S_7 H locs hp hW => ?_)
    obtain ⟨hX_S_7, hp⟩ := hp
    refine W.widen (k := 0) (n := 0) (by decide) (by decide) ?_
    have hE := hE.trans hX_S_7
    have hK_a0 : sK S_7 a0 = 17 := (hX_S_7.2 a0 hL_a0).1.trans hK_a0
    have hL_a0 : wM D S_7 a0 := hX_S_7.M hL_a0
    refine lv_istore_n (lv' := [(1, .int r_6), (0, .ref a0)]) hx hb dX12_keyCount_18 rfl hl (by decide) rfl (fun ls hl => ?_)
    refine lv_iload_n hx hb dX12_keyCount_19 rfl (lv_at hl 0 rfl) ?_
    refine lv_iconst (v := (-1)) hx hb dX12_keyCount_20 (by decide) ?_
    refine lv_icmp_ne (tgt := 28) hx hb dX12_keyCount_21 (by decide) (fun c_8 => ?_) (fun c_8 => ?_)
    · replace hp := hp.1 c_8
      refine lv_aload_n hx hb dX12_keyCount_28 rfl (lv_at hl 1 rfl) ?_
      refine lv_iload_n hx hb dX12_keyCount_29 rfl (lv_at hl 0 rfl) ?_
      refine w_callI (va_runV (As := [.int r_6]) (rest := []) F (c_X12_keys l hL_a0 hK_a0 hp H.size) (cwV (C := RX12) 1 hts (wg_V wm_RX12_470 wy_X12_keys) rfl rfl rfl (by decide +kernel) ⟨Nat.le_of_ble_eq_true rfl, Nat.le_of_ble_eq_true rfl⟩) (w_preV hK hW hL_a0 hK_a0 (by decide) rfl) rfl rfl hl.1 rfl (lv_room (Nat.le_of_ble_eq_true rfl)) dX12_keyCount_30 ⟨Nat.le_of_ble_eq_true rfl, Nat.le_of_ble_eq_true rfl⟩) hW (fun r_9 S_10 H locs hp hW => ?_)
      obtain ⟨hX_S_10, hp⟩ := hp
      refine W.widen (k := 0) (n := 0) (by decide) (by decide) ?_
      have hE := hE.trans hX_S_10
      have hK_a0 : sK S_10 a0 = 17 := (hX_S_10.2 a0 hL_a0).1.trans hK_a0
      have hL_a0 : wM D S_10 a0 := hX_S_10.M hL_a0
      exact t_X12_keyCount_33 F hr hlocks hK hp hW hE (lv_sub hl [] rfl)
    · replace hp := hp.2 c_8
      refine lv_iconst (v := 0) hx hb dX12_keyCount_24 (by decide) ?_
      refine lv_goto (tgt := 33) hx hb dX12_keyCount_25 (by decide) ?_
      exact t_X12_keyCount_33 F hr hlocks hK hp hW hE (lv_sub hl [] rfl)
  · replace hp := hp.2 c_5
    refine lv_iconst (v := 0) hx hb dX12_keyCount_12 (by decide) ?_
    exact w_iret hx hb hr hlocks hW ⟨hE, hp⟩ dX12_keyCount_13
set_option maxHeartbeats 4000000 in
set_option maxRecDepth 100000 in
theorem c_X12_keyCount (l : Launch) {D : wD} {cy : Nat → ClassId} {X : va_W} {S0 : wS} {post : Int32 → wS → Prop} {a0 : Nat} (hL_a0 : wM D S0 a0) (hK_a0 : sK S0 a0 = 17) (hp : wp_X12_keyCount D post S0 a0) : mI D cy X l yX12_keyCount wz_X12_keyCount r_X12_keyCount [.ref a0] S0 (fun r S9 => wX D S0 S9 ∧ post r S9) := by
  intro sz
  refine Met.ofW (cc := cX12_keyCount) (maxL := 2) (ret := (some .int)) (by decide) rfl ?_
  intro p e s m args below meth c s₁ B hml hv
  obtain ⟨rfl, hsz, hP, hK, hD0, hRO⟩ := hv
  have hts := atoms_spec (ws := wz_X12_keyCount) B.pre
  have hown : s.vm.findClass RX12 = some m.cls := findClass_of_methodNamed B.named
  subst hsz
  have hD := hD0.self (sz := s.heap.size)
  have F : CallFix p m c cX12_keyCount 2 s _ wz_X12_keyCount RX12 := ⟨B.exec, B.bytes, hml, hown, hts⟩
  have hr := B.returns
  have hlocks := B.notSynchronized
  generalize hAe : va_A (wL cy X S0) s.heap.size = A at hD hK ⊢
  have hA : ∀ q, s.heap.size ≤ q → A q := fun q h => by rw [← hAe]; exact Or.inr h
  have hW : wO D cy X A s.heap S0 s.heap [] := ⟨hP, hD, va_S.rf, hA, hRO⟩
  have hl := lv_entry ([.ref a0]) (n := 2) (Nat.le_of_ble_eq_true rfl)
  rw [lg_entry_eq]
  generalize (lg_sl ([.ref a0]) ++ List.replicate (2 - (lg_sl ([.ref a0])).length) Slot.unset).toArray = ls at hl ⊢
  have hl : lv_has ls 2 [(0, .ref a0)] := hl
  unfold wp_X12_keyCount at hp
  exact t_X12_keyCount_0 F hr hlocks hK hp hW wX.rf (lv_sub hl [0] rfl) hL_a0 hK_a0
def wp_X12_longest_67 (D : wD) (post : Int32 → wS → Prop) (k_32 : wS → Nat → Int32 → Int32 → Int32 → Prop) (S : wS) (a0 : Nat) (x1 : Int32) (x3 : Int32) (t0 : Int32) : Prop :=
∀ x_1 : Int32, x_1 = x3 + 1 →
k_32 S a0 x1 t0 x_1
def wp_X12_longest_32 (D : wD) (post : Int32 → wS → Prop)  : Nat → wS → Nat → Int32 → Int32 → Int32 → Prop
  | 0, _, _, _, _, _ => False
  | n + 1, S, a0, x1, x2, x3 =>
    (((31250 : Int32) ≤ x3 → post x2 S) ∧
     (¬ (31250 : Int32) ≤ x3 → ∃ y_2 : Nat, sR S a0 41 = some y_2 ∧ wM D S y_2 ∧ sK S y_2 = 21 ∧
    vp_in (((31250 : Int32) * (x1 - (2 : Int32))) + x3) (sN S y_2) ∧
    ∀ x_4 : Int32, x_4 = (sI S y_2 ((((31250 : Int32) * (x1 - (2 : Int32))) + x3)).toNatClampNeg) →
    ((x_4 ≤ x2 → wp_X12_longest_67 D post (wp_X12_longest_32 D post n) S a0 x1 x3 x2) ∧
     (¬ x_4 ≤ x2 → wp_X12_longest_67 D post (wp_X12_longest_32 D post n) S a0 x1 x3 x_4))))
def wp_X12_longest_26 (D : wD) (post : Int32 → wS → Prop)  (S : wS) : Prop :=
post (0 : Int32) S
def wp_X12_longest_0 (D : wD) (post : Int32 → wS → Prop)  (S : wS) (a0 : Nat) (x1 : Int32) : Prop :=
wp_X12_isEndingKind D (fun r_1 S_2 => 
wp_X12_can D (fun r_3 S_4 => 
((r_3 = 0 → wp_X12_longest_26 D post S_4) ∧
 (¬ r_3 = 0 → ∃ y_6 : Nat, sR S_4 a0 42 = some y_6 ∧ wM D S_4 y_6 ∧ sK S_4 y_6 = 23 ∧
vp_in x1 (sN S_4 y_6) ∧
wp_X12_can D (fun r_8 S_9 => 
((¬ r_8 = 0 → ∃ n_11 : Nat, wp_X12_longest_32 D post n_11 S_9 a0 x1 (-1 : Int32) (0 : Int32)) ∧
 (r_8 = 0 → wp_X12_longest_26 D post S_9))) S_4 a0 (sI S_4 y_6 (x1).toNatClampNeg) (2 : Int32)))) S_2 a0 r_1 (1 : Int32)) S x1
abbrev r_X12_longest : Room := { frames := 2, cells := 0, slots := 0, locals := 42 }
def wp_X12_longest (D : wD) (post : Int32 → wS → Prop) (S : wS) (a0 : Nat) (x1 : Int32) : Prop := wp_X12_longest_0 D post S a0 x1
set_option maxHeartbeats 4000000 in
set_option maxRecDepth 100000 in
theorem t_X12_longest_67 {p : Program} {l : Launch} {e : Env} {s : State} {m : MethodId} {args : Array Value} {below : List Frame} {meth : Method} {c : Code} {D : wD} {cy : Nat → ClassId} {X : va_W} {A : Nat → Prop} {S0 : wS} {post : Int32 → wS → Prop} (F : CallFix p m c cX12_longest 5 s args wz_X12_longest RX12) (hr : meth.sig.returnType = (some .int)) (hlocks : meth.locks = false) (hK : wK D cy A s) {k_32 : wS → Nat → Int32 → Int32 → Int32 → Prop} (q_32 : ∀ {S : wS} {H : Heap} {locs : List Loc} {ls : Array Slot} {a0 : Nat} {x1 : Int32} {x2 : Int32} {x3 : Int32}, k_32 S a0 x1 x2 x3 → wO D cy X A s.heap S H locs → wX D S0 S → lv_has ls 5 [(0, .ref a0), (1, .int x1), (2, .int x2), (3, .int x3)] → wM D S a0 → sK S a0 = 17 → W p l e r_X12_longest s m args below meth c H locs 0 0 (MQ below (va_Qi (fun r S9 => wX D S0 S9 ∧ post r S9) (wB D cy X A) A) args s 0 0 A) (F0 m 32 ls [])) : ∀ {S : wS} {H : Heap} {locs : List Loc} {ls : Array Slot} {a0 : Nat} {x1 : Int32} {x3 : Int32} {t0 : Int32}, wp_X12_longest_67 D post k_32 S a0 x1 x3 t0 → wO D cy X A s.heap S H locs → wX D S0 S → lv_has ls 5 [(0, .ref a0), (1, .int x1), (3, .int x3)] → wM D S a0 → sK S a0 = 17 → W p l e r_X12_longest s m args below meth c H locs 0 0 (MQ below (va_Qi (fun r S9 => wX D S0 S9 ∧ post r S9) (wB D cy X A) A) args s 0 0 A) (F0 m 67 ls [.int t0]) := by
  obtain ⟨hx, hb, hml, hown, hts⟩ := id F
  have hwg : ∀ w ∈ WG, w.before args s = true := fun w h => hts w (List.mem_cons_of_mem _ h)
  intro S H locs ls a0 x1 x3 t0 hp hW hE hl hL_a0 hK_a0
  unfold wp_X12_longest_67 at hp
  refine lv_istore_n (lv' := [(2, .int t0), (0, .ref a0), (1, .int x1), (3, .int x3)]) hx hb dX12_longest_67 rfl hl (by decide) rfl (fun ls hl => ?_)
  obtain ⟨x_1, ex_1⟩ : ∃ z : Int32, z = x3 + 1 := ⟨_, rfl⟩
  replace hp := hp x_1 ex_1
  refine lv_iinc (v := x_1) (lv' := [(3, .int x_1), (2, .int t0), (0, .ref a0), (1, .int x1)]) hx hb dX12_longest_68 hl (k := 3) rfl (by rw [ex_1]; rfl) (by decide) rfl (fun ls hl => ?_)
  refine lv_goto (tgt := 32) hx hb dX12_longest_71 (by decide) ?_
  exact q_32 hp hW hE (lv_sub hl [2, 3, 1, 0] rfl) hL_a0 hK_a0
set_option maxHeartbeats 4000000 in
set_option maxRecDepth 100000 in
theorem t_X12_longest_32 {p : Program} {l : Launch} {e : Env} {s : State} {m : MethodId} {args : Array Value} {below : List Frame} {meth : Method} {c : Code} {D : wD} {cy : Nat → ClassId} {X : va_W} {A : Nat → Prop} {S0 : wS} {post : Int32 → wS → Prop} (F : CallFix p m c cX12_longest 5 s args wz_X12_longest RX12) (hr : meth.sig.returnType = (some .int)) (hlocks : meth.locks = false) (hK : wK D cy A s) : ∀ (n : Nat) {S : wS} {H : Heap} {locs : List Loc} {ls : Array Slot} {a0 : Nat} {x1 : Int32} {x2 : Int32} {x3 : Int32}, wp_X12_longest_32 D post n S a0 x1 x2 x3 → wO D cy X A s.heap S H locs → wX D S0 S → lv_has ls 5 [(0, .ref a0), (1, .int x1), (2, .int x2), (3, .int x3)] → wM D S a0 → sK S a0 = 17 → W p l e r_X12_longest s m args below meth c H locs 0 0 (MQ below (va_Qi (fun r S9 => wX D S0 S9 ∧ post r S9) (wB D cy X A) A) args s 0 0 A) (F0 m 32 ls []) := by
  obtain ⟨hx, hb, hml, hown, hts⟩ := id F
  have hwg : ∀ w ∈ WG, w.before args s = true := fun w h => hts w (List.mem_cons_of_mem _ h)
  have i_17 : ∀ w ∈ u_ws RX12 TX12 43, w ∈ wz_X12_longest := fun w h => List.mem_cons_of_mem _ (wu_17 w h)
  have k_101 := hwg _ wf_RX12_101
  intro n
  induction n with
  | zero =>
    intro S H locs ls a0 x1 x2 x3 hp
    exact hp.elim
  | succ n ih =>
    intro S H locs ls a0 x1 x2 x3 hp hW hE hl hL_a0 hK_a0
    unfold wp_X12_longest_32 at hp
    refine lv_iload_n hx hb dX12_longest_32 rfl (lv_at hl 3 rfl) ?_
    refine lv_sipush (v := 31250) hx hb dX12_longest_33 (by decide) ?_
    refine lv_icmp_ge (tgt := 74) hx hb dX12_longest_36 (by decide) (fun c_1 => ?_) (fun c_1 => ?_)
    · replace hp := hp.1 c_1
      refine lv_iload_n hx hb dX12_longest_74 rfl (lv_at hl 2 rfl) ?_
      exact w_iret hx hb hr hlocks hW ⟨hE, hp⟩ dX12_longest_75
    · replace hp := hp.2 c_1
      refine lv_aload_n hx hb dX12_longest_39 rfl (lv_at hl 0 rfl) ?_
      obtain ⟨y_2, ey_2, hL_y_2, hK_y_2, hp⟩ := hp
      refine w_get (k := 17) (f := 41) (T := TX12) (v := .ref y_2) F hK hW hL_a0 hK_a0 (by decide) rfl rfl (by decide) i_17 k_101 (by rw [show wv 17 41 S a0 = va_rf (sR S a0 41) from rfl, ey_2]; rfl) dX12_longest_40 ?_
      refine lv_sipush (v := 31250) hx hb dX12_longest_43 (by decide) ?_
      refine lv_iload_n hx hb dX12_longest_46 rfl (lv_at hl 1 rfl) ?_
      refine lv_iconst (v := 2) hx hb dX12_longest_47 (by decide) ?_
      refine lv_isub hx hb dX12_longest_48 ?_
      refine lv_imul hx hb dX12_longest_49 ?_
      refine lv_iload_n hx hb dX12_longest_50 rfl (lv_at hl 3 rfl) ?_
      refine lv_iadd hx hb dX12_longest_51 ?_
      obtain ⟨h_3, hp⟩ := hp
      refine w_ild F hK hW hL_y_2 hK_y_2 h_3 dX12_longest_52 ?_
      refine lv_topi (fun x_4 ex_4 => ?_)
      replace hp := hp x_4 ex_4
      refine lv_istore (lv' := [(4, .int x_4), (0, .ref a0), (1, .int x1), (2, .int x2), (3, .int x3)]) hx hb dX12_longest_53 hl (by decide) rfl (fun ls hl => ?_)
      refine lv_iload hx hb dX12_longest_55 (lv_at hl 0 rfl) ?_
      refine lv_iload_n hx hb dX12_longest_57 rfl (lv_at hl 3 rfl) ?_
      refine lv_icmp_le (tgt := 66) hx hb dX12_longest_58 (by decide) (fun c_5 => ?_) (fun c_5 => ?_)
      · replace hp := hp.1 c_5
        refine lv_iload_n hx hb dX12_longest_66 rfl (lv_at hl 3 rfl) ?_
        exact t_X12_longest_67 F hr hlocks hK ih hp hW hE (lv_sub hl [1, 2, 4] rfl) hL_a0 hK_a0
      · replace hp := hp.2 c_5
        refine lv_iload hx hb dX12_longest_61 (lv_at hl 0 rfl) ?_
        refine lv_goto (tgt := 67) hx hb dX12_longest_63 (by decide) ?_
        exact t_X12_longest_67 F hr hlocks hK ih hp hW hE (lv_sub hl [1, 2, 4] rfl) hL_a0 hK_a0
set_option maxHeartbeats 4000000 in
set_option maxRecDepth 100000 in
theorem t_X12_longest_26 {p : Program} {l : Launch} {e : Env} {s : State} {m : MethodId} {args : Array Value} {below : List Frame} {meth : Method} {c : Code} {D : wD} {cy : Nat → ClassId} {X : va_W} {A : Nat → Prop} {S0 : wS} {post : Int32 → wS → Prop} (F : CallFix p m c cX12_longest 5 s args wz_X12_longest RX12) (hr : meth.sig.returnType = (some .int)) (hlocks : meth.locks = false) (hK : wK D cy A s) : ∀ {S : wS} {H : Heap} {locs : List Loc} {ls : Array Slot}, wp_X12_longest_26 D post S → wO D cy X A s.heap S H locs → wX D S0 S → lv_has ls 5 [] → W p l e r_X12_longest s m args below meth c H locs 0 0 (MQ below (va_Qi (fun r S9 => wX D S0 S9 ∧ post r S9) (wB D cy X A) A) args s 0 0 A) (F0 m 26 ls []) := by
  obtain ⟨hx, hb, hml, hown, hts⟩ := id F
  have hwg : ∀ w ∈ WG, w.before args s = true := fun w h => hts w (List.mem_cons_of_mem _ h)
  intro S H locs ls hp hW hE hl
  unfold wp_X12_longest_26 at hp
  refine lv_iconst (v := 0) hx hb dX12_longest_26 (by decide) ?_
  exact w_iret hx hb hr hlocks hW ⟨hE, hp⟩ dX12_longest_27
set_option maxHeartbeats 4000000 in
set_option maxRecDepth 100000 in
theorem t_X12_longest_0 {p : Program} {l : Launch} {e : Env} {s : State} {m : MethodId} {args : Array Value} {below : List Frame} {meth : Method} {c : Code} {D : wD} {cy : Nat → ClassId} {X : va_W} {A : Nat → Prop} {S0 : wS} {post : Int32 → wS → Prop} (F : CallFix p m c cX12_longest 5 s args wz_X12_longest RX12) (hr : meth.sig.returnType = (some .int)) (hlocks : meth.locks = false) (hK : wK D cy A s) : ∀ {S : wS} {H : Heap} {locs : List Loc} {ls : Array Slot} {a0 : Nat} {x1 : Int32}, wp_X12_longest_0 D post S a0 x1 → wO D cy X A s.heap S H locs → wX D S0 S → lv_has ls 5 [(0, .ref a0), (1, .int x1)] → wM D S a0 → sK S a0 = 17 → W p l e r_X12_longest s m args below meth c H locs 0 0 (MQ below (va_Qi (fun r S9 => wX D S0 S9 ∧ post r S9) (wB D cy X A) A) args s 0 0 A) (F0 m 0 ls []) := by
  obtain ⟨hx, hb, hml, hown, hts⟩ := id F
  have hwg : ∀ w ∈ WG, w.before args s = true := fun w h => hts w (List.mem_cons_of_mem _ h)
  have i_17 : ∀ w ∈ u_ws RX12 TX12 43, w ∈ wz_X12_longest := fun w h => List.mem_cons_of_mem _ (wu_17 w h)
  have k_104 := hwg _ wf_RX12_104
  intro S H locs ls a0 x1 hp hW hE hl hL_a0 hK_a0
  unfold wp_X12_longest_0 at hp
  refine lv_aload_n hx hb dX12_longest_0 rfl (lv_at hl 0 rfl) ?_
  refine lv_iload_n hx hb dX12_longest_1 rfl (lv_at hl 1 rfl) ?_
  refine w_callI (va_runS (As := [.int x1]) (rest := [.ref a0]) F (c_X12_isEndingKind l hp H.size) (va_cwS 1 hts (wg_S wm_RX12_500 wy_X12_isEndingKind) rfl rfl rfl (by decide +kernel) ⟨Nat.le_of_ble_eq_true rfl, Nat.le_of_ble_eq_true rfl⟩) (w_preS hK hW) rfl rfl hl.1 rfl (lv_room (Nat.le_of_ble_eq_true rfl)) dX12_longest_2 ⟨Nat.le_of_ble_eq_true rfl, Nat.le_of_ble_eq_true rfl⟩) hW (fun r_1 S_2 H locs hp hW => ?_)
  obtain ⟨hX_S_2, hp⟩ := hp
  refine W.widen (k := 0) (n := 0) (by decide) (by decide) ?_
  have hE := hE.trans hX_S_2
  have hK_a0 : sK S_2 a0 = 17 := (hX_S_2.2 a0 hL_a0).1.trans hK_a0
  have hL_a0 : wM D S_2 a0 := hX_S_2.M hL_a0
  refine lv_iconst (v := 1) hx hb dX12_longest_5 (by decide) ?_
  refine w_callI (va_runV (As := [.int r_1, .int (1 : Int32)]) (rest := []) F (c_X12_can l hL_a0 hK_a0 hp H.size) (cwV (C := RX12) 2 hts (wg_V wm_RX12_237 wy_X12_can) rfl rfl rfl (by decide +kernel) ⟨Nat.le_of_ble_eq_true rfl, Nat.le_of_ble_eq_true rfl⟩) (w_preV hK hW hL_a0 hK_a0 (by decide) rfl) rfl rfl hl.1 rfl (lv_room (Nat.le_of_ble_eq_true rfl)) dX12_longest_6 ⟨Nat.le_of_ble_eq_true rfl, Nat.le_of_ble_eq_true rfl⟩) hW (fun r_3 S_4 H locs hp hW => ?_)
  obtain ⟨hX_S_4, hp⟩ := hp
  refine W.widen (k := 0) (n := 0) (by decide) (by decide) ?_
  have hE := hE.trans hX_S_4
  have hK_a0 : sK S_4 a0 = 17 := (hX_S_4.2 a0 hL_a0).1.trans hK_a0
  have hL_a0 : wM D S_4 a0 := hX_S_4.M hL_a0
  refine lv_if_eq (tgt := 26) hx hb dX12_longest_9 (by decide) (fun c_5 => ?_) (fun c_5 => ?_)
  · replace hp := hp.1 c_5
    exact t_X12_longest_26 F hr hlocks hK hp hW hE (lv_sub hl [] rfl)
  · replace hp := hp.2 c_5
    refine lv_aload_n hx hb dX12_longest_12 rfl (lv_at hl 0 rfl) ?_
    refine lv_aload_n hx hb dX12_longest_13 rfl (lv_at hl 0 rfl) ?_
    obtain ⟨y_6, ey_6, hL_y_6, hK_y_6, hp⟩ := hp
    refine w_get (k := 17) (f := 42) (T := TX12) (v := .ref y_6) F hK hW hL_a0 hK_a0 (by decide) rfl rfl (by decide) i_17 k_104 (by rw [show wv 17 42 S_4 a0 = va_rf (sR S_4 a0 42) from rfl, ey_6]; rfl) dX12_longest_14 ?_
    refine lv_iload_n hx hb dX12_longest_17 rfl (lv_at hl 1 rfl) ?_
    obtain ⟨h_7, hp⟩ := hp
    refine w_zld F hK hW hL_y_6 hK_y_6 h_7 dX12_longest_18 ?_
    refine lv_iconst (v := 2) hx hb dX12_longest_19 (by decide) ?_
    refine w_callI (va_runV (As := [.int (sI S_4 y_6 (x1).toNatClampNeg), .int (2 : Int32)]) (rest := []) F (c_X12_can l hL_a0 hK_a0 hp H.size) (cwV (C := RX12) 2 hts (wg_V wm_RX12_237 wy_X12_can) rfl rfl rfl (by decide +kernel) ⟨Nat.le_of_ble_eq_true rfl, Nat.le_of_ble_eq_true rfl⟩) (w_preV hK hW hL_a0 hK_a0 (by decide) rfl) rfl rfl hl.1 rfl (lv_room (Nat.le_of_ble_eq_true rfl)) dX12_longest_20 ⟨Nat.le_of_ble_eq_true rfl, Nat.le_of_ble_eq_true rfl⟩) hW (fun r_8 S_9 H locs hp hW => ?_)
    obtain ⟨hX_S_9, hp⟩ := hp
    refine W.widen (k := 0) (n := 0) (by decide) (by decide) ?_
    have hE := hE.trans hX_S_9
    have hK_a0 : sK S_9 a0 = 17 := (hX_S_9.2 a0 hL_a0).1.trans hK_a0
    have hL_a0 : wM D S_9 a0 := hX_S_9.M hL_a0
    refine lv_if_ne (tgt := 28) hx hb dX12_longest_23 (by decide) (fun c_10 => ?_) (fun c_10 => ?_)
    · replace hp := hp.1 c_10
      refine lv_iconst (v := (-1)) hx hb dX12_longest_28 (by decide) ?_
      refine lv_istore_n (lv' := [(2, .int (-1 : Int32)), (0, .ref a0), (1, .int x1)]) hx hb dX12_longest_29 rfl hl (by decide) rfl (fun ls hl => ?_)
      refine lv_iconst (v := 0) hx hb dX12_longest_30 (by decide) ?_
      refine lv_istore_n (lv' := [(3, .int (0 : Int32)), (2, .int (-1 : Int32)), (0, .ref a0), (1, .int x1)]) hx hb dX12_longest_31 rfl hl (by decide) rfl (fun ls hl => ?_)
      obtain ⟨n_11, hp⟩ := hp
      exact t_X12_longest_32 F hr hlocks hK n_11 hp hW hE (lv_sub hl [2, 3, 1, 0] rfl) hL_a0 hK_a0
    · replace hp := hp.2 c_10
      exact t_X12_longest_26 F hr hlocks hK hp hW hE (lv_sub hl [] rfl)
set_option maxHeartbeats 4000000 in
set_option maxRecDepth 100000 in
theorem c_X12_longest (l : Launch) {D : wD} {cy : Nat → ClassId} {X : va_W} {S0 : wS} {post : Int32 → wS → Prop} {a0 : Nat} {x1 : Int32} (hL_a0 : wM D S0 a0) (hK_a0 : sK S0 a0 = 17) (hp : wp_X12_longest D post S0 a0 x1) : mI D cy X l yX12_longest wz_X12_longest r_X12_longest [.ref a0, .int x1] S0 (fun r S9 => wX D S0 S9 ∧ post r S9) := by
  intro sz
  refine Met.ofW (cc := cX12_longest) (maxL := 5) (ret := (some .int)) (by decide) rfl ?_
  intro p e s m args below meth c s₁ B hml hv
  obtain ⟨rfl, hsz, hP, hK, hD0, hRO⟩ := hv
  have hts := atoms_spec (ws := wz_X12_longest) B.pre
  have hown : s.vm.findClass RX12 = some m.cls := findClass_of_methodNamed B.named
  subst hsz
  have hD := hD0.self (sz := s.heap.size)
  have F : CallFix p m c cX12_longest 5 s _ wz_X12_longest RX12 := ⟨B.exec, B.bytes, hml, hown, hts⟩
  have hr := B.returns
  have hlocks := B.notSynchronized
  generalize hAe : va_A (wL cy X S0) s.heap.size = A at hD hK ⊢
  have hA : ∀ q, s.heap.size ≤ q → A q := fun q h => by rw [← hAe]; exact Or.inr h
  have hW : wO D cy X A s.heap S0 s.heap [] := ⟨hP, hD, va_S.rf, hA, hRO⟩
  have hl := lv_entry ([.ref a0, .int x1]) (n := 5) (Nat.le_of_ble_eq_true rfl)
  rw [lg_entry_eq]
  generalize (lg_sl ([.ref a0, .int x1]) ++ List.replicate (5 - (lg_sl ([.ref a0, .int x1])).length) Slot.unset).toArray = ls at hl ⊢
  have hl : lv_has ls 5 [(0, .ref a0), (1, .int x1)] := hl
  unfold wp_X12_longest at hp
  exact t_X12_longest_0 F hr hlocks hK hp hW wX.rf (lv_sub hl [0, 1] rfl) hL_a0 hK_a0
def wp_X12_madeCount_0 (D : wD) (post : Int32 → wS → Prop)  (S : wS) (a0 : Nat) : Prop :=
∀ S_1 : wS, S_1 = uI S a0 0 (0 : Int32) →
post (sI S_1 a0 11) S_1
abbrev r_X12_madeCount : Room := { frames := 0, cells := 0, slots := 0, locals := 0 }
def wp_X12_madeCount (D : wD) (post : Int32 → wS → Prop) (S : wS) (a0 : Nat) : Prop := wp_X12_madeCount_0 D post S a0
set_option maxHeartbeats 4000000 in
set_option maxRecDepth 100000 in
theorem t_X12_madeCount_0 {p : Program} {l : Launch} {e : Env} {s : State} {m : MethodId} {args : Array Value} {below : List Frame} {meth : Method} {c : Code} {D : wD} {cy : Nat → ClassId} {X : va_W} {A : Nat → Prop} {S0 : wS} {post : Int32 → wS → Prop} (F : CallFix p m c cX12_madeCount 1 s args wz_X12_madeCount RX12) (hr : meth.sig.returnType = (some .int)) (hlocks : meth.locks = false) (hK : wK D cy A s) : ∀ {S : wS} {H : Heap} {locs : List Loc} {ls : Array Slot} {a0 : Nat}, wp_X12_madeCount_0 D post S a0 → wO D cy X A s.heap S H locs → wX D S0 S → lv_has ls 1 [(0, .ref a0)] → wM D S a0 → sK S a0 = 17 → W p l e r_X12_madeCount s m args below meth c H locs 0 0 (MQ below (va_Qi (fun r S9 => wX D S0 S9 ∧ post r S9) (wB D cy X A) A) args s 0 0 A) (F0 m 0 ls []) := by
  obtain ⟨hx, hb, hml, hown, hts⟩ := id F
  have hwg : ∀ w ∈ WG, w.before args s = true := fun w h => hts w (List.mem_cons_of_mem _ h)
  have i_17 : ∀ w ∈ u_ws RX12 TX12 43, w ∈ wz_X12_madeCount := fun w h => List.mem_cons_of_mem _ (wu_17 w h)
  have k_110 := hwg _ wf_RX12_110
  have k_121 := hwg _ wf_RX12_121
  intro S H locs ls a0 hp hW hE hl hL_a0 hK_a0
  unfold wp_X12_madeCount_0 at hp
  refine lv_aload_n hx hb dX12_madeCount_0 rfl (lv_at hl 0 rfl) ?_
  refine lv_iconst (v := 0) hx hb dX12_madeCount_1 (by decide) ?_
  refine w_putI (k := 17) (f := 0) (T := TX12) F hK hW hL_a0 hK_a0 (by decide) (by decide) rfl rfl (by decide) i_17 tyX12 tyX12_ok nmX12 k_110 rfl rfl (ty := .int) rfl rfl rfl dX12_madeCount_2 (fun H locs hW => ?_)
  obtain ⟨S_1, eS_1⟩ : ∃ z : wS, z = uI S a0 0 (0 : Int32) := ⟨_, rfl⟩
  rw [← eS_1] at hW
  replace hp := hp S_1 eS_1
  have hX_S_1 : wX D S S_1 := by rw [eS_1]; exact wX_uI
  have hE := hE.trans hX_S_1
  have hK_a0 : sK S_1 a0 = 17 := (hX_S_1.2 a0 hL_a0).1.trans hK_a0
  have hL_a0 : wM D S_1 a0 := hX_S_1.M hL_a0
  refine lv_aload_n hx hb dX12_madeCount_5 rfl (lv_at hl 0 rfl) ?_
  refine w_get (k := 17) (f := 11) (T := TX12) (v := .int (sI S_1 a0 11)) F hK hW hL_a0 hK_a0 (by decide) rfl rfl (by decide) i_17 k_121 rfl dX12_madeCount_6 ?_
  exact w_iret hx hb hr hlocks hW ⟨hE, hp⟩ dX12_madeCount_9
set_option maxHeartbeats 4000000 in
set_option maxRecDepth 100000 in
theorem c_X12_madeCount (l : Launch) {D : wD} {cy : Nat → ClassId} {X : va_W} {S0 : wS} {post : Int32 → wS → Prop} {a0 : Nat} (hL_a0 : wM D S0 a0) (hK_a0 : sK S0 a0 = 17) (hp : wp_X12_madeCount D post S0 a0) : mI D cy X l yX12_madeCount wz_X12_madeCount r_X12_madeCount [.ref a0] S0 (fun r S9 => wX D S0 S9 ∧ post r S9) := by
  intro sz
  refine Met.ofW (cc := cX12_madeCount) (maxL := 1) (ret := (some .int)) (by decide) rfl ?_
  intro p e s m args below meth c s₁ B hml hv
  obtain ⟨rfl, hsz, hP, hK, hD0, hRO⟩ := hv
  have hts := atoms_spec (ws := wz_X12_madeCount) B.pre
  have hown : s.vm.findClass RX12 = some m.cls := findClass_of_methodNamed B.named
  subst hsz
  have hD := hD0.self (sz := s.heap.size)
  have F : CallFix p m c cX12_madeCount 1 s _ wz_X12_madeCount RX12 := ⟨B.exec, B.bytes, hml, hown, hts⟩
  have hr := B.returns
  have hlocks := B.notSynchronized
  generalize hAe : va_A (wL cy X S0) s.heap.size = A at hD hK ⊢
  have hA : ∀ q, s.heap.size ≤ q → A q := fun q h => by rw [← hAe]; exact Or.inr h
  have hW : wO D cy X A s.heap S0 s.heap [] := ⟨hP, hD, va_S.rf, hA, hRO⟩
  have hl := lv_entry ([.ref a0]) (n := 1) (Nat.le_of_ble_eq_true rfl)
  rw [lg_entry_eq]
  generalize (lg_sl ([.ref a0]) ++ List.replicate (1 - (lg_sl ([.ref a0])).length) Slot.unset).toArray = ls at hl ⊢
  have hl : lv_has ls 1 [(0, .ref a0)] := hl
  unfold wp_X12_madeCount at hp
  exact t_X12_madeCount_0 F hr hlocks hK hp hW wX.rf (lv_sub hl [0] rfl) hL_a0 hK_a0
def wp_X12_mainMove_74 (D : wD) (post : Int32 → wS → Prop) (k_9 : wS → Nat → Int32 → Int32 → Prop) (S : wS) (a0 : Nat) (x2 : Int32) (x3 : Int32) : Prop :=
∀ x_1 : Int32, x_1 = x3 + 1 →
k_9 S a0 x2 x_1
def wp_X12_mainMove_72 (D : wD) (post : Int32 → wS → Prop) (k_9 : wS → Nat → Int32 → Int32 → Prop) (S : wS) (a0 : Nat) (x3 : Int32) : Prop :=
wp_X12_mainMove_74 D post k_9 S a0 x3 x3
def wp_X12_mainMove_9 (D : wD) (post : Int32 → wS → Prop)  : Nat → wS → Nat → Int32 → Int32 → Prop
  | 0, _, _, _, _ => False
  | n + 1, S, a0, x2, x3 =>
    ∃ y_1 : Nat, sR S a0 7 = some y_1 ∧ wM D S y_1 ∧ sK S y_1 = 21 ∧
    vp_in (0 : Int32) (sN S y_1) ∧
    (((sI S y_1 ((0 : Int32)).toNatClampNeg) ≤ x3 → post x2 S) ∧
     (¬ (sI S y_1 ((0 : Int32)).toNatClampNeg) ≤ x3 → ∃ y_4 : Nat, sR S a0 19 = some y_4 ∧ wM D S y_4 ∧ sK S y_4 = 21 ∧
    vp_in x3 (sN S y_4) ∧
    (((sI S y_4 (x3).toNatClampNeg) ≤ 0 → wp_X12_mainMove_74 D post (wp_X12_mainMove_9 D post n) S a0 x2 x3) ∧
     (¬ (sI S y_4 (x3).toNatClampNeg) ≤ 0 → ((x2 = (-1 : Int32) → wp_X12_mainMove_72 D post (wp_X12_mainMove_9 D post n) S a0 x3) ∧
     (¬ x2 = (-1 : Int32) → ∃ y_8 : Nat, sR S a0 19 = some y_8 ∧ wM D S y_8 ∧ sK S y_8 = 21 ∧
    vp_in x3 (sN S y_8) ∧
    ∃ y_10 : Nat, sR S a0 19 = some y_10 ∧ wM D S y_10 ∧ sK S y_10 = 21 ∧
    vp_in x2 (sN S y_10) ∧
    (((sI S y_10 (x2).toNatClampNeg) < (sI S y_8 (x3).toNatClampNeg) → wp_X12_mainMove_72 D post (wp_X12_mainMove_9 D post n) S a0 x3) ∧
     (¬ (sI S y_10 (x2).toNatClampNeg) < (sI S y_8 (x3).toNatClampNeg) → ∃ y_13 : Nat, sR S a0 19 = some y_13 ∧ wM D S y_13 ∧ sK S y_13 = 21 ∧
    vp_in x3 (sN S y_13) ∧
    ∃ y_15 : Nat, sR S a0 19 = some y_15 ∧ wM D S y_15 ∧ sK S y_15 = 21 ∧
    vp_in x2 (sN S y_15) ∧
    ((¬ (sI S y_13 (x3).toNatClampNeg) = (sI S y_15 (x2).toNatClampNeg) → wp_X12_mainMove_74 D post (wp_X12_mainMove_9 D post n) S a0 x2 x3) ∧
     ((sI S y_13 (x3).toNatClampNeg) = (sI S y_15 (x2).toNatClampNeg) → wp_X12_isAhead D (fun r_18 S_19 => 
    ((r_18 = 0 → wp_X12_mainMove_74 D post (wp_X12_mainMove_9 D post n) S_19 a0 x2 x3) ∧
     (¬ r_18 = 0 → wp_X12_mainMove_72 D post (wp_X12_mainMove_9 D post n) S_19 a0 x3))) S a0 x3 x2))))))))))
def wp_X12_mainMove_0 (D : wD) (post : Int32 → wS → Prop)  (S : wS) (a0 : Nat) (x1 : Int32) : Prop :=
wp_X12_laysContinuations D (fun S_2 => 
∃ n_3 : Nat, wp_X12_mainMove_9 D post n_3 S_2 a0 (-1 : Int32) (0 : Int32)) S a0 x1
abbrev r_X12_mainMove : Room := { frames := 11, cells := 0, slots := 0, locals := 264 }
def wp_X12_mainMove (D : wD) (post : Int32 → wS → Prop) (S : wS) (a0 : Nat) (x1 : Int32) : Prop := wp_X12_mainMove_0 D post S a0 x1
set_option maxHeartbeats 4000000 in
set_option maxRecDepth 100000 in
theorem t_X12_mainMove_74 {p : Program} {l : Launch} {e : Env} {s : State} {m : MethodId} {args : Array Value} {below : List Frame} {meth : Method} {c : Code} {D : wD} {cy : Nat → ClassId} {X : va_W} {A : Nat → Prop} {S0 : wS} {post : Int32 → wS → Prop} (F : CallFix p m c cX12_mainMove 4 s args wz_X12_mainMove RX12) (hr : meth.sig.returnType = (some .int)) (hlocks : meth.locks = false) (hK : wK D cy A s) {k_9 : wS → Nat → Int32 → Int32 → Prop} (q_9 : ∀ {S : wS} {H : Heap} {locs : List Loc} {ls : Array Slot} {a0 : Nat} {x2 : Int32} {x3 : Int32}, k_9 S a0 x2 x3 → wO D cy X A s.heap S H locs → wX D S0 S → lv_has ls 4 [(0, .ref a0), (2, .int x2), (3, .int x3)] → wM D S a0 → sK S a0 = 17 → W p l e r_X12_mainMove s m args below meth c H locs 0 0 (MQ below (va_Qi (fun r S9 => wX D S0 S9 ∧ post r S9) (wB D cy X A) A) args s 0 0 A) (F0 m 9 ls [])) : ∀ {S : wS} {H : Heap} {locs : List Loc} {ls : Array Slot} {a0 : Nat} {x2 : Int32} {x3 : Int32}, wp_X12_mainMove_74 D post k_9 S a0 x2 x3 → wO D cy X A s.heap S H locs → wX D S0 S → lv_has ls 4 [(0, .ref a0), (2, .int x2), (3, .int x3)] → wM D S a0 → sK S a0 = 17 → W p l e r_X12_mainMove s m args below meth c H locs 0 0 (MQ below (va_Qi (fun r S9 => wX D S0 S9 ∧ post r S9) (wB D cy X A) A) args s 0 0 A) (F0 m 74 ls []) := by
  obtain ⟨hx, hb, hml, hown, hts⟩ := id F
  have hwg : ∀ w ∈ WG, w.before args s = true := fun w h => hts w (List.mem_cons_of_mem _ h)
  intro S H locs ls a0 x2 x3 hp hW hE hl hL_a0 hK_a0
  unfold wp_X12_mainMove_74 at hp
  obtain ⟨x_1, ex_1⟩ : ∃ z : Int32, z = x3 + 1 := ⟨_, rfl⟩
  replace hp := hp x_1 ex_1
  refine lv_iinc (v := x_1) (lv' := [(3, .int x_1), (0, .ref a0), (2, .int x2)]) hx hb dX12_mainMove_74 hl (k := 2) rfl (by rw [ex_1]; rfl) (by decide) rfl (fun ls hl => ?_)
  refine lv_goto (tgt := 9) hx hb dX12_mainMove_77 (by decide) ?_
  exact q_9 hp hW hE (lv_sub hl [1, 2, 0] rfl) hL_a0 hK_a0
set_option maxHeartbeats 4000000 in
set_option maxRecDepth 100000 in
theorem t_X12_mainMove_72 {p : Program} {l : Launch} {e : Env} {s : State} {m : MethodId} {args : Array Value} {below : List Frame} {meth : Method} {c : Code} {D : wD} {cy : Nat → ClassId} {X : va_W} {A : Nat → Prop} {S0 : wS} {post : Int32 → wS → Prop} (F : CallFix p m c cX12_mainMove 4 s args wz_X12_mainMove RX12) (hr : meth.sig.returnType = (some .int)) (hlocks : meth.locks = false) (hK : wK D cy A s) {k_9 : wS → Nat → Int32 → Int32 → Prop} (q_9 : ∀ {S : wS} {H : Heap} {locs : List Loc} {ls : Array Slot} {a0 : Nat} {x2 : Int32} {x3 : Int32}, k_9 S a0 x2 x3 → wO D cy X A s.heap S H locs → wX D S0 S → lv_has ls 4 [(0, .ref a0), (2, .int x2), (3, .int x3)] → wM D S a0 → sK S a0 = 17 → W p l e r_X12_mainMove s m args below meth c H locs 0 0 (MQ below (va_Qi (fun r S9 => wX D S0 S9 ∧ post r S9) (wB D cy X A) A) args s 0 0 A) (F0 m 9 ls [])) : ∀ {S : wS} {H : Heap} {locs : List Loc} {ls : Array Slot} {a0 : Nat} {x3 : Int32}, wp_X12_mainMove_72 D post k_9 S a0 x3 → wO D cy X A s.heap S H locs → wX D S0 S → lv_has ls 4 [(0, .ref a0), (3, .int x3)] → wM D S a0 → sK S a0 = 17 → W p l e r_X12_mainMove s m args below meth c H locs 0 0 (MQ below (va_Qi (fun r S9 => wX D S0 S9 ∧ post r S9) (wB D cy X A) A) args s 0 0 A) (F0 m 72 ls []) := by
  obtain ⟨hx, hb, hml, hown, hts⟩ := id F
  have hwg : ∀ w ∈ WG, w.before args s = true := fun w h => hts w (List.mem_cons_of_mem _ h)
  intro S H locs ls a0 x3 hp hW hE hl hL_a0 hK_a0
  unfold wp_X12_mainMove_72 at hp
  refine lv_iload_n hx hb dX12_mainMove_72 rfl (lv_at hl 1 rfl) ?_
  refine lv_istore_n (lv' := [(2, .int x3), (0, .ref a0), (3, .int x3)]) hx hb dX12_mainMove_73 rfl hl (by decide) rfl (fun ls hl => ?_)
  exact t_X12_mainMove_74 F hr hlocks hK q_9 hp hW hE (lv_sub hl [1, 0, 2] rfl) hL_a0 hK_a0
set_option maxHeartbeats 4000000 in
set_option maxRecDepth 100000 in
theorem t_X12_mainMove_9 {p : Program} {l : Launch} {e : Env} {s : State} {m : MethodId} {args : Array Value} {below : List Frame} {meth : Method} {c : Code} {D : wD} {cy : Nat → ClassId} {X : va_W} {A : Nat → Prop} {S0 : wS} {post : Int32 → wS → Prop} (F : CallFix p m c cX12_mainMove 4 s args wz_X12_mainMove RX12) (hr : meth.sig.returnType = (some .int)) (hlocks : meth.locks = false) (hK : wK D cy A s) : ∀ (n : Nat) {S : wS} {H : Heap} {locs : List Loc} {ls : Array Slot} {a0 : Nat} {x2 : Int32} {x3 : Int32}, wp_X12_mainMove_9 D post n S a0 x2 x3 → wO D cy X A s.heap S H locs → wX D S0 S → lv_has ls 4 [(0, .ref a0), (2, .int x2), (3, .int x3)] → wM D S a0 → sK S a0 = 17 → W p l e r_X12_mainMove s m args below meth c H locs 0 0 (MQ below (va_Qi (fun r S9 => wX D S0 S9 ∧ post r S9) (wB D cy X A) A) args s 0 0 A) (F0 m 9 ls []) := by
  obtain ⟨hx, hb, hml, hown, hts⟩ := id F
  have hwg : ∀ w ∈ WG, w.before args s = true := fun w h => hts w (List.mem_cons_of_mem _ h)
  have i_17 : ∀ w ∈ u_ws RX12 TX12 43, w ∈ wz_X12_mainMove := fun w h => List.mem_cons_of_mem _ (wu_17 w h)
  have k_29 := hwg _ wf_RX12_29
  have k_54 := hwg _ wf_RX12_54
  intro n
  induction n with
  | zero =>
    intro S H locs ls a0 x2 x3 hp
    exact hp.elim
  | succ n ih =>
    intro S H locs ls a0 x2 x3 hp hW hE hl hL_a0 hK_a0
    unfold wp_X12_mainMove_9 at hp
    refine lv_iload_n hx hb dX12_mainMove_9 rfl (lv_at hl 2 rfl) ?_
    refine lv_aload_n hx hb dX12_mainMove_10 rfl (lv_at hl 0 rfl) ?_
    obtain ⟨y_1, ey_1, hL_y_1, hK_y_1, hp⟩ := hp
    refine w_get (k := 17) (f := 7) (T := TX12) (v := .ref y_1) F hK hW hL_a0 hK_a0 (by decide) rfl rfl (by decide) i_17 k_29 (by rw [show wv 17 7 S a0 = va_rf (sR S a0 7) from rfl, ey_1]; rfl) dX12_mainMove_11 ?_
    refine lv_iconst (v := 0) hx hb dX12_mainMove_14 (by decide) ?_
    obtain ⟨h_2, hp⟩ := hp
    refine w_ild F hK hW hL_y_1 hK_y_1 h_2 dX12_mainMove_15 ?_
    refine lv_icmp_ge (tgt := 80) hx hb dX12_mainMove_16 (by decide) (fun c_3 => ?_) (fun c_3 => ?_)
    · replace hp := hp.1 c_3
      refine lv_iload_n hx hb dX12_mainMove_80 rfl (lv_at hl 1 rfl) ?_
      exact w_iret hx hb hr hlocks hW ⟨hE, hp⟩ dX12_mainMove_81
    · replace hp := hp.2 c_3
      refine lv_aload_n hx hb dX12_mainMove_19 rfl (lv_at hl 0 rfl) ?_
      obtain ⟨y_4, ey_4, hL_y_4, hK_y_4, hp⟩ := hp
      refine w_get (k := 17) (f := 19) (T := TX12) (v := .ref y_4) F hK hW hL_a0 hK_a0 (by decide) rfl rfl (by decide) i_17 k_54 (by rw [show wv 17 19 S a0 = va_rf (sR S a0 19) from rfl, ey_4]; rfl) dX12_mainMove_20 ?_
      refine lv_iload_n hx hb dX12_mainMove_23 rfl (lv_at hl 2 rfl) ?_
      obtain ⟨h_5, hp⟩ := hp
      refine w_ild F hK hW hL_y_4 hK_y_4 h_5 dX12_mainMove_24 ?_
      refine lv_if_le (tgt := 74) hx hb dX12_mainMove_25 (by decide) (fun c_6 => ?_) (fun c_6 => ?_)
      · replace hp := hp.1 c_6
        exact t_X12_mainMove_74 F hr hlocks hK ih hp hW hE (lv_sub hl [0, 1, 2] rfl) hL_a0 hK_a0
      · replace hp := hp.2 c_6
        refine lv_iload_n hx hb dX12_mainMove_28 rfl (lv_at hl 1 rfl) ?_
        refine lv_iconst (v := (-1)) hx hb dX12_mainMove_29 (by decide) ?_
        refine lv_icmp_eq (tgt := 72) hx hb dX12_mainMove_30 (by decide) (fun c_7 => ?_) (fun c_7 => ?_)
        · replace hp := hp.1 c_7
          exact t_X12_mainMove_72 F hr hlocks hK ih hp hW hE (lv_sub hl [0, 2] rfl) hL_a0 hK_a0
        · replace hp := hp.2 c_7
          refine lv_aload_n hx hb dX12_mainMove_33 rfl (lv_at hl 0 rfl) ?_
          obtain ⟨y_8, ey_8, hL_y_8, hK_y_8, hp⟩ := hp
          refine w_get (k := 17) (f := 19) (T := TX12) (v := .ref y_8) F hK hW hL_a0 hK_a0 (by decide) rfl rfl (by decide) i_17 k_54 (by rw [show wv 17 19 S a0 = va_rf (sR S a0 19) from rfl, ey_8]; rfl) dX12_mainMove_34 ?_
          refine lv_iload_n hx hb dX12_mainMove_37 rfl (lv_at hl 2 rfl) ?_
          obtain ⟨h_9, hp⟩ := hp
          refine w_ild F hK hW hL_y_8 hK_y_8 h_9 dX12_mainMove_38 ?_
          refine lv_aload_n hx hb dX12_mainMove_39 rfl (lv_at hl 0 rfl) ?_
          obtain ⟨y_10, ey_10, hL_y_10, hK_y_10, hp⟩ := hp
          refine w_get (k := 17) (f := 19) (T := TX12) (v := .ref y_10) F hK hW hL_a0 hK_a0 (by decide) rfl rfl (by decide) i_17 k_54 (by rw [show wv 17 19 S a0 = va_rf (sR S a0 19) from rfl, ey_10]; rfl) dX12_mainMove_40 ?_
          refine lv_iload_n hx hb dX12_mainMove_43 rfl (lv_at hl 1 rfl) ?_
          obtain ⟨h_11, hp⟩ := hp
          refine w_ild F hK hW hL_y_10 hK_y_10 h_11 dX12_mainMove_44 ?_
          refine lv_icmp_gt (tgt := 72) hx hb dX12_mainMove_45 (by decide) (fun c_12 => ?_) (fun c_12 => ?_)
          · replace hp := hp.1 c_12
            exact t_X12_mainMove_72 F hr hlocks hK ih hp hW hE (lv_sub hl [0, 2] rfl) hL_a0 hK_a0
          · replace hp := hp.2 c_12
            refine lv_aload_n hx hb dX12_mainMove_48 rfl (lv_at hl 0 rfl) ?_
            obtain ⟨y_13, ey_13, hL_y_13, hK_y_13, hp⟩ := hp
            refine w_get (k := 17) (f := 19) (T := TX12) (v := .ref y_13) F hK hW hL_a0 hK_a0 (by decide) rfl rfl (by decide) i_17 k_54 (by rw [show wv 17 19 S a0 = va_rf (sR S a0 19) from rfl, ey_13]; rfl) dX12_mainMove_49 ?_
            refine lv_iload_n hx hb dX12_mainMove_52 rfl (lv_at hl 2 rfl) ?_
            obtain ⟨h_14, hp⟩ := hp
            refine w_ild F hK hW hL_y_13 hK_y_13 h_14 dX12_mainMove_53 ?_
            refine lv_aload_n hx hb dX12_mainMove_54 rfl (lv_at hl 0 rfl) ?_
            obtain ⟨y_15, ey_15, hL_y_15, hK_y_15, hp⟩ := hp
            refine w_get (k := 17) (f := 19) (T := TX12) (v := .ref y_15) F hK hW hL_a0 hK_a0 (by decide) rfl rfl (by decide) i_17 k_54 (by rw [show wv 17 19 S a0 = va_rf (sR S a0 19) from rfl, ey_15]; rfl) dX12_mainMove_55 ?_
            refine lv_iload_n hx hb dX12_mainMove_58 rfl (lv_at hl 1 rfl) ?_
            obtain ⟨h_16, hp⟩ := hp
            refine w_ild F hK hW hL_y_15 hK_y_15 h_16 dX12_mainMove_59 ?_
            refine lv_icmp_ne (tgt := 74) hx hb dX12_mainMove_60 (by decide) (fun c_17 => ?_) (fun c_17 => ?_)
            · replace hp := hp.1 c_17
              exact t_X12_mainMove_74 F hr hlocks hK ih hp hW hE (lv_sub hl [0, 1, 2] rfl) hL_a0 hK_a0
            · replace hp := hp.2 c_17
              refine lv_aload_n hx hb dX12_mainMove_63 rfl (lv_at hl 0 rfl) ?_
              refine lv_iload_n hx hb dX12_mainMove_64 rfl (lv_at hl 2 rfl) ?_
              refine lv_iload_n hx hb dX12_mainMove_65 rfl (lv_at hl 1 rfl) ?_
              refine w_callI (va_runV (As := [.int x3, .int x2]) (rest := []) F (c_X12_isAhead l hL_a0 hK_a0 hp H.size) (cwV (C := RX12) 2 hts (wg_V wm_RX12_437 wy_X12_isAhead) rfl rfl rfl (by decide +kernel) ⟨Nat.le_of_ble_eq_true rfl, Nat.le_of_ble_eq_true rfl⟩) (w_preV hK hW hL_a0 hK_a0 (by decide) rfl) rfl rfl hl.1 rfl (lv_room (Nat.le_of_ble_eq_true rfl)) dX12_mainMove_66 ⟨Nat.le_of_ble_eq_true rfl, Nat.le_of_ble_eq_true rfl⟩) hW (fun r_18 S_19 H locs hp hW => ?_)
              obtain ⟨hX_S_19, hp⟩ := hp
              refine W.widen (k := 0) (n := 0) (by decide) (by decide) ?_
              have hE := hE.trans hX_S_19
              have hK_a0 : sK S_19 a0 = 17 := (hX_S_19.2 a0 hL_a0).1.trans hK_a0
              have hL_a0 : wM D S_19 a0 := hX_S_19.M hL_a0
              refine lv_if_eq (tgt := 74) hx hb dX12_mainMove_69 (by decide) (fun c_20 => ?_) (fun c_20 => ?_)
              · replace hp := hp.1 c_20
                exact t_X12_mainMove_74 F hr hlocks hK ih hp hW hE (lv_sub hl [0, 1, 2] rfl) hL_a0 hK_a0
              · replace hp := hp.2 c_20
                exact t_X12_mainMove_72 F hr hlocks hK ih hp hW hE (lv_sub hl [0, 2] rfl) hL_a0 hK_a0
set_option maxHeartbeats 4000000 in
set_option maxRecDepth 100000 in
theorem t_X12_mainMove_0 {p : Program} {l : Launch} {e : Env} {s : State} {m : MethodId} {args : Array Value} {below : List Frame} {meth : Method} {c : Code} {D : wD} {cy : Nat → ClassId} {X : va_W} {A : Nat → Prop} {S0 : wS} {post : Int32 → wS → Prop} (F : CallFix p m c cX12_mainMove 4 s args wz_X12_mainMove RX12) (hr : meth.sig.returnType = (some .int)) (hlocks : meth.locks = false) (hK : wK D cy A s) : ∀ {S : wS} {H : Heap} {locs : List Loc} {ls : Array Slot} {a0 : Nat} {x1 : Int32}, wp_X12_mainMove_0 D post S a0 x1 → wO D cy X A s.heap S H locs → wX D S0 S → lv_has ls 4 [(0, .ref a0), (1, .int x1)] → wM D S a0 → sK S a0 = 17 → W p l e r_X12_mainMove s m args below meth c H locs 0 0 (MQ below (va_Qi (fun r S9 => wX D S0 S9 ∧ post r S9) (wB D cy X A) A) args s 0 0 A) (F0 m 0 ls []) := by
  obtain ⟨hx, hb, hml, hown, hts⟩ := id F
  have hwg : ∀ w ∈ WG, w.before args s = true := fun w h => hts w (List.mem_cons_of_mem _ h)
  intro S H locs ls a0 x1 hp hW hE hl hL_a0 hK_a0
  unfold wp_X12_mainMove_0 at hp
  refine lv_aload_n hx hb dX12_mainMove_0 rfl (lv_at hl 0 rfl) ?_
  refine lv_iload_n hx hb dX12_mainMove_1 rfl (lv_at hl 1 rfl) ?_
  refine w_callV (va_runV (As := [.int x1]) (rest := []) F (c_X12_laysContinuations l hL_a0 hK_a0 hp H.size) (cwV (C := RX12) 1 hts (wg_V wm_RX12_443 wy_X12_laysContinuations) rfl rfl rfl (by decide +kernel) ⟨Nat.le_of_ble_eq_true rfl, Nat.le_of_ble_eq_true rfl⟩) (w_preV hK hW hL_a0 hK_a0 (by decide) rfl) rfl rfl hl.1 rfl (lv_room (Nat.le_of_ble_eq_true rfl)) dX12_mainMove_2 ⟨Nat.le_of_ble_eq_true rfl, Nat.le_of_ble_eq_true rfl⟩) hW (fun S_2 H locs hp hW => ?_)
  obtain ⟨hX_S_2, hp⟩ := hp
  refine W.widen (k := 0) (n := 0) (by decide) (by decide) ?_
  have hE := hE.trans hX_S_2
  have hK_a0 : sK S_2 a0 = 17 := (hX_S_2.2 a0 hL_a0).1.trans hK_a0
  have hL_a0 : wM D S_2 a0 := hX_S_2.M hL_a0
  refine lv_iconst (v := (-1)) hx hb dX12_mainMove_5 (by decide) ?_
  refine lv_istore_n (lv' := [(2, .int (-1 : Int32)), (0, .ref a0), (1, .int x1)]) hx hb dX12_mainMove_6 rfl hl (by decide) rfl (fun ls hl => ?_)
  refine lv_iconst (v := 0) hx hb dX12_mainMove_7 (by decide) ?_
  refine lv_istore_n (lv' := [(3, .int (0 : Int32)), (2, .int (-1 : Int32)), (0, .ref a0), (1, .int x1)]) hx hb dX12_mainMove_8 rfl hl (by decide) rfl (fun ls hl => ?_)
  obtain ⟨n_3, hp⟩ := hp
  exact t_X12_mainMove_9 F hr hlocks hK n_3 hp hW hE (lv_sub hl [2, 1, 0] rfl) hL_a0 hK_a0
set_option maxHeartbeats 4000000 in
set_option maxRecDepth 100000 in
theorem c_X12_mainMove (l : Launch) {D : wD} {cy : Nat → ClassId} {X : va_W} {S0 : wS} {post : Int32 → wS → Prop} {a0 : Nat} {x1 : Int32} (hL_a0 : wM D S0 a0) (hK_a0 : sK S0 a0 = 17) (hp : wp_X12_mainMove D post S0 a0 x1) : mI D cy X l yX12_mainMove wz_X12_mainMove r_X12_mainMove [.ref a0, .int x1] S0 (fun r S9 => wX D S0 S9 ∧ post r S9) := by
  intro sz
  refine Met.ofW (cc := cX12_mainMove) (maxL := 4) (ret := (some .int)) (by decide) rfl ?_
  intro p e s m args below meth c s₁ B hml hv
  obtain ⟨rfl, hsz, hP, hK, hD0, hRO⟩ := hv
  have hts := atoms_spec (ws := wz_X12_mainMove) B.pre
  have hown : s.vm.findClass RX12 = some m.cls := findClass_of_methodNamed B.named
  subst hsz
  have hD := hD0.self (sz := s.heap.size)
  have F : CallFix p m c cX12_mainMove 4 s _ wz_X12_mainMove RX12 := ⟨B.exec, B.bytes, hml, hown, hts⟩
  have hr := B.returns
  have hlocks := B.notSynchronized
  generalize hAe : va_A (wL cy X S0) s.heap.size = A at hD hK ⊢
  have hA : ∀ q, s.heap.size ≤ q → A q := fun q h => by rw [← hAe]; exact Or.inr h
  have hW : wO D cy X A s.heap S0 s.heap [] := ⟨hP, hD, va_S.rf, hA, hRO⟩
  have hl := lv_entry ([.ref a0, .int x1]) (n := 4) (Nat.le_of_ble_eq_true rfl)
  rw [lg_entry_eq]
  generalize (lg_sl ([.ref a0, .int x1]) ++ List.replicate (4 - (lg_sl ([.ref a0, .int x1])).length) Slot.unset).toArray = ls at hl ⊢
  have hl : lv_has ls 4 [(0, .ref a0), (1, .int x1)] := hl
  unfold wp_X12_mainMove at hp
  exact t_X12_mainMove_0 F hr hlocks hK hp hW wX.rf (lv_sub hl [0, 1] rfl) hL_a0 hK_a0
def wp_X12_worth_44 (D : wD) (post : Int32 → wS → Prop)  (S : wS) (t0 : Int32) : Prop :=
post t0 S
def wp_X12_worth_29 (D : wD) (post : Int32 → wS → Prop)  (S : wS) : Prop :=
wp_X12_worth_44 D post S (3 : Int32)
def wp_X12_worth_0 (D : wD) (post : Int32 → wS → Prop)  (S : wS) (x0 : Int32) : Prop :=
((¬ x0 = (2 : Int32) → ((¬ x0 = (3 : Int32) → ((x0 = (4 : Int32) → wp_X12_worth_29 D post S) ∧
 (¬ x0 = (4 : Int32) → ((¬ x0 = (5 : Int32) → ((¬ x0 = (6 : Int32) → wp_X12_worth_44 D post S (0 : Int32)) ∧
 (x0 = (6 : Int32) → wp_X12_worth_44 D post S (1 : Int32)))) ∧
 (x0 = (5 : Int32) → wp_X12_worth_29 D post S))))) ∧
 (x0 = (3 : Int32) → wp_X12_worth_44 D post S (5 : Int32)))) ∧
 (x0 = (2 : Int32) → wp_X12_worth_44 D post S (9 : Int32)))
abbrev r_X12_worth : Room := { frames := 0, cells := 0, slots := 0, locals := 0 }
def wp_X12_worth (D : wD) (post : Int32 → wS → Prop) (S : wS) (x0 : Int32) : Prop := wp_X12_worth_0 D post S x0
set_option maxHeartbeats 4000000 in
set_option maxRecDepth 100000 in
theorem t_X12_worth_44 {p : Program} {l : Launch} {e : Env} {s : State} {m : MethodId} {args : Array Value} {below : List Frame} {meth : Method} {c : Code} {D : wD} {cy : Nat → ClassId} {X : va_W} {A : Nat → Prop} {S0 : wS} {post : Int32 → wS → Prop} (F : CallFix p m c cX12_worth 1 s args wz_X12_worth RX12) (hr : meth.sig.returnType = (some .int)) (hlocks : meth.locks = false) (hK : wK D cy A s) : ∀ {S : wS} {H : Heap} {locs : List Loc} {ls : Array Slot} {t0 : Int32}, wp_X12_worth_44 D post S t0 → wO D cy X A s.heap S H locs → wX D S0 S → lv_has ls 1 [] → W p l e r_X12_worth s m args below meth c H locs 0 0 (MQ below (va_Qi (fun r S9 => wX D S0 S9 ∧ post r S9) (wB D cy X A) A) args s 0 0 A) (F0 m 44 ls [.int t0]) := by
  obtain ⟨hx, hb, hml, hown, hts⟩ := id F
  have hwg : ∀ w ∈ WG, w.before args s = true := fun w h => hts w (List.mem_cons_of_mem _ h)
  intro S H locs ls t0 hp hW hE hl
  unfold wp_X12_worth_44 at hp
  exact w_iret hx hb hr hlocks hW ⟨hE, hp⟩ dX12_worth_44
set_option maxHeartbeats 4000000 in
set_option maxRecDepth 100000 in
theorem t_X12_worth_29 {p : Program} {l : Launch} {e : Env} {s : State} {m : MethodId} {args : Array Value} {below : List Frame} {meth : Method} {c : Code} {D : wD} {cy : Nat → ClassId} {X : va_W} {A : Nat → Prop} {S0 : wS} {post : Int32 → wS → Prop} (F : CallFix p m c cX12_worth 1 s args wz_X12_worth RX12) (hr : meth.sig.returnType = (some .int)) (hlocks : meth.locks = false) (hK : wK D cy A s) : ∀ {S : wS} {H : Heap} {locs : List Loc} {ls : Array Slot}, wp_X12_worth_29 D post S → wO D cy X A s.heap S H locs → wX D S0 S → lv_has ls 1 [] → W p l e r_X12_worth s m args below meth c H locs 0 0 (MQ below (va_Qi (fun r S9 => wX D S0 S9 ∧ post r S9) (wB D cy X A) A) args s 0 0 A) (F0 m 29 ls []) := by
  obtain ⟨hx, hb, hml, hown, hts⟩ := id F
  have hwg : ∀ w ∈ WG, w.before args s = true := fun w h => hts w (List.mem_cons_of_mem _ h)
  intro S H locs ls hp hW hE hl
  unfold wp_X12_worth_29 at hp
  refine lv_iconst (v := 3) hx hb dX12_worth_29 (by decide) ?_
  refine lv_goto (tgt := 44) hx hb dX12_worth_30 (by decide) ?_
  exact t_X12_worth_44 F hr hlocks hK hp hW hE (lv_sub hl [] rfl)
set_option maxHeartbeats 4000000 in
set_option maxRecDepth 100000 in
theorem t_X12_worth_0 {p : Program} {l : Launch} {e : Env} {s : State} {m : MethodId} {args : Array Value} {below : List Frame} {meth : Method} {c : Code} {D : wD} {cy : Nat → ClassId} {X : va_W} {A : Nat → Prop} {S0 : wS} {post : Int32 → wS → Prop} (F : CallFix p m c cX12_worth 1 s args wz_X12_worth RX12) (hr : meth.sig.returnType = (some .int)) (hlocks : meth.locks = false) (hK : wK D cy A s) : ∀ {S : wS} {H : Heap} {locs : List Loc} {ls : Array Slot} {x0 : Int32}, wp_X12_worth_0 D post S x0 → wO D cy X A s.heap S H locs → wX D S0 S → lv_has ls 1 [(0, .int x0)] → W p l e r_X12_worth s m args below meth c H locs 0 0 (MQ below (va_Qi (fun r S9 => wX D S0 S9 ∧ post r S9) (wB D cy X A) A) args s 0 0 A) (F0 m 0 ls []) := by
  obtain ⟨hx, hb, hml, hown, hts⟩ := id F
  have hwg : ∀ w ∈ WG, w.before args s = true := fun w h => hts w (List.mem_cons_of_mem _ h)
  intro S H locs ls x0 hp hW hE hl
  unfold wp_X12_worth_0 at hp
  refine lv_iload_n hx hb dX12_worth_0 rfl (lv_at hl 0 rfl) ?_
  refine lv_iconst (v := 2) hx hb dX12_worth_1 (by decide) ?_
  refine lv_icmp_ne (tgt := 10) hx hb dX12_worth_2 (by decide) (fun c_1 => ?_) (fun c_1 => ?_)
  · replace hp := hp.1 c_1
    refine lv_iload_n hx hb dX12_worth_10 rfl (lv_at hl 0 rfl) ?_
    refine lv_iconst (v := 3) hx hb dX12_worth_11 (by decide) ?_
    refine lv_icmp_ne (tgt := 19) hx hb dX12_worth_12 (by decide) (fun c_2 => ?_) (fun c_2 => ?_)
    · replace hp := hp.1 c_2
      refine lv_iload_n hx hb dX12_worth_19 rfl (lv_at hl 0 rfl) ?_
      refine lv_iconst (v := 4) hx hb dX12_worth_20 (by decide) ?_
      refine lv_icmp_eq (tgt := 29) hx hb dX12_worth_21 (by decide) (fun c_3 => ?_) (fun c_3 => ?_)
      · replace hp := hp.1 c_3
        exact t_X12_worth_29 F hr hlocks hK hp hW hE (lv_sub hl [] rfl)
      · replace hp := hp.2 c_3
        refine lv_iload_n hx hb dX12_worth_24 rfl (lv_at hl 0 rfl) ?_
        refine lv_iconst (v := 5) hx hb dX12_worth_25 (by decide) ?_
        refine lv_icmp_ne (tgt := 33) hx hb dX12_worth_26 (by decide) (fun c_4 => ?_) (fun c_4 => ?_)
        · replace hp := hp.1 c_4
          refine lv_iload_n hx hb dX12_worth_33 rfl (lv_at hl 0 rfl) ?_
          refine lv_bipush (v := 6) hx hb dX12_worth_34 (by decide) ?_
          refine lv_icmp_ne (tgt := 43) hx hb dX12_worth_36 (by decide) (fun c_5 => ?_) (fun c_5 => ?_)
          · replace hp := hp.1 c_5
            refine lv_iconst (v := 0) hx hb dX12_worth_43 (by decide) ?_
            exact t_X12_worth_44 F hr hlocks hK hp hW hE (lv_sub hl [] rfl)
          · replace hp := hp.2 c_5
            refine lv_iconst (v := 1) hx hb dX12_worth_39 (by decide) ?_
            refine lv_goto (tgt := 44) hx hb dX12_worth_40 (by decide) ?_
            exact t_X12_worth_44 F hr hlocks hK hp hW hE (lv_sub hl [] rfl)
        · replace hp := hp.2 c_4
          exact t_X12_worth_29 F hr hlocks hK hp hW hE (lv_sub hl [] rfl)
    · replace hp := hp.2 c_2
      refine lv_iconst (v := 5) hx hb dX12_worth_15 (by decide) ?_
      refine lv_goto (tgt := 44) hx hb dX12_worth_16 (by decide) ?_
      exact t_X12_worth_44 F hr hlocks hK hp hW hE (lv_sub hl [] rfl)
  · replace hp := hp.2 c_1
    refine lv_bipush (v := 9) hx hb dX12_worth_5 (by decide) ?_
    refine lv_goto (tgt := 44) hx hb dX12_worth_7 (by decide) ?_
    exact t_X12_worth_44 F hr hlocks hK hp hW hE (lv_sub hl [] rfl)
set_option maxHeartbeats 4000000 in
set_option maxRecDepth 100000 in
theorem c_X12_worth (l : Launch) {D : wD} {cy : Nat → ClassId} {X : va_W} {S0 : wS} {post : Int32 → wS → Prop} {x0 : Int32} (hp : wp_X12_worth D post S0 x0) : mI D cy X l yX12_worth wz_X12_worth r_X12_worth [.int x0] S0 (fun r S9 => wX D S0 S9 ∧ post r S9) := by
  intro sz
  refine Met.ofW (cc := cX12_worth) (maxL := 1) (ret := (some .int)) (by decide) rfl ?_
  intro p e s m args below meth c s₁ B hml hv
  obtain ⟨rfl, hsz, hP, hK, hD0, hRO⟩ := hv
  have hts := atoms_spec (ws := wz_X12_worth) B.pre
  have hown : s.vm.findClass RX12 = some m.cls := findClass_of_methodNamed B.named
  subst hsz
  have hD := hD0.self (sz := s.heap.size)
  have F : CallFix p m c cX12_worth 1 s _ wz_X12_worth RX12 := ⟨B.exec, B.bytes, hml, hown, hts⟩
  have hr := B.returns
  have hlocks := B.notSynchronized
  generalize hAe : va_A (wL cy X S0) s.heap.size = A at hD hK ⊢
  have hA : ∀ q, s.heap.size ≤ q → A q := fun q h => by rw [← hAe]; exact Or.inr h
  have hW : wO D cy X A s.heap S0 s.heap [] := ⟨hP, hD, va_S.rf, hA, hRO⟩
  have hl := lv_entry ([.int x0]) (n := 1) (Nat.le_of_ble_eq_true rfl)
  rw [lg_entry_eq]
  generalize (lg_sl ([.int x0]) ++ List.replicate (1 - (lg_sl ([.int x0])).length) Slot.unset).toArray = ls at hl ⊢
  have hl : lv_has ls 1 [(0, .int x0)] := hl
  unfold wp_X12_worth at hp
  exact t_X12_worth_0 F hr hlocks hK hp hW wX.rf (lv_sub hl [0] rfl)
