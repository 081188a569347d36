theorem dX11_rights_0 : decode cX11_rights 0 = .ok (.aload_n 0, 1) := by decide +kernel
theorem dX11_rights_1 : decode cX11_rights 1 = .ok (.getfield 28, 3) := by decide +kernel
theorem dX11_rights_4 : decode cX11_rights 4 = .ok (.getfield 175, 3) := by decide +kernel
theorem dX11_rights_7 : decode cX11_rights 7 = .ok (.ireturn, 1) := by decide +kernel
theorem dX11_setSide_0 : decode cX11_setSide 0 = .ok (.iload_n 2, 1) := by decide +kernel
theorem dX11_setSide_1 : decode cX11_setSide 1 = .ok (.ifCond .lt 9, 3) := by decide +kernel
theorem dX11_setSide_4 : decode cX11_setSide 4 = .ok (.iload_n 2, 1) := by decide +kernel
theorem dX11_setSide_5 : decode cX11_setSide 5 = .ok (.bipush 15, 2) := by decide +kernel
theorem dX11_setSide_7 : decode cX11_setSide 7 = .ok (.if_icmp .le 13, 3) := by decide +kernel
theorem dX11_setSide_10 : decode cX11_setSide 10 = .ok (.new 140, 3) := by decide +kernel
theorem dX11_setSide_13 : decode cX11_setSide 13 = .ok (.dup, 1) := by decide +kernel
theorem dX11_setSide_14 : decode cX11_setSide 14 = .ok (.ldc 181, 2) := by decide +kernel
theorem dX11_setSide_16 : decode cX11_setSide 16 = .ok (.invokespecial 144, 3) := by decide +kernel
theorem dX11_setSide_19 : decode cX11_setSide 19 = .ok (.athrow, 1) := by decide +kernel
theorem dX11_setSide_20 : decode cX11_setSide 20 = .ok (.aload_n 0, 1) := by decide +kernel
theorem dX11_setSide_21 : decode cX11_setSide 21 = .ok (.invokevirtual 165, 3) := by decide +kernel
theorem dX11_setSide_24 : decode cX11_setSide 24 = .ok (.aload_n 0, 1) := by decide +kernel
theorem dX11_setSide_25 : decode cX11_setSide 25 = .ok (.getfield 28, 3) := by decide +kernel
theorem dX11_setSide_28 : decode cX11_setSide 28 = .ok (.getfield 175, 3) := by decide +kernel
theorem dX11_setSide_31 : decode cX11_setSide 31 = .ok (.istore_n 3, 1) := by decide +kernel
theorem dX11_setSide_32 : decode cX11_setSide 32 = .ok (.aload_n 0, 1) := by decide +kernel
theorem dX11_setSide_33 : decode cX11_setSide 33 = .ok (.getfield 28, 3) := by decide +kernel
theorem dX11_setSide_36 : decode cX11_setSide 36 = .ok (.iload_n 1, 1) := by decide +kernel
theorem dX11_setSide_37 : decode cX11_setSide 37 = .ok (.putfield 183, 3) := by decide +kernel
theorem dX11_setSide_40 : decode cX11_setSide 40 = .ok (.aload_n 0, 1) := by decide +kernel
theorem dX11_setSide_41 : decode cX11_setSide 41 = .ok (.getfield 28, 3) := by decide +kernel
theorem dX11_setSide_44 : decode cX11_setSide 44 = .ok (.iload_n 2, 1) := by decide +kernel
theorem dX11_setSide_45 : decode cX11_setSide 45 = .ok (.putfield 175, 3) := by decide +kernel
theorem dX11_setSide_48 : decode cX11_setSide 48 = .ok (.aload_n 0, 1) := by decide +kernel
theorem dX11_setSide_49 : decode cX11_setSide 49 = .ok (.getfield 28, 3) := by decide +kernel
theorem dX11_setSide_52 : decode cX11_setSide 52 = .ok (.iconst (-1), 1) := by decide +kernel
theorem dX11_setSide_53 : decode cX11_setSide 53 = .ok (.putfield 178, 3) := by decide +kernel
theorem dX11_setSide_56 : decode cX11_setSide 56 = .ok (.aload_n 0, 1) := by decide +kernel
theorem dX11_setSide_57 : decode cX11_setSide 57 = .ok (.getfield 40, 3) := by decide +kernel
theorem dX11_setSide_60 : decode cX11_setSide 60 = .ok (.aload_n 0, 1) := by decide +kernel
theorem dX11_setSide_61 : decode cX11_setSide 61 = .ok (.getfield 28, 3) := by decide +kernel
theorem dX11_setSide_64 : decode cX11_setSide 64 = .ok (.invokevirtual 130, 3) := by decide +kernel
theorem dX11_setSide_67 : decode cX11_setSide 67 = .ok (.iload_n 3, 1) := by decide +kernel
theorem dX11_setSide_68 : decode cX11_setSide 68 = .ok (.ireturn, 1) := by decide +kernel
theorem dX2_winsOf_0 : decode cX2_winsOf 0 = .ok (.aload_n 0, 1) := by decide +kernel
theorem dX2_winsOf_1 : decode cX2_winsOf 1 = .ok (.iload_n 1, 1) := by decide +kernel
theorem dX2_winsOf_2 : decode cX2_winsOf 2 = .ok (.invokevirtual 45, 3) := by decide +kernel
theorem dX2_winsOf_5 : decode cX2_winsOf 5 = .ok (.ifCond .eq 21, 3) := by decide +kernel
theorem dX2_winsOf_8 : decode cX2_winsOf 8 = .ok (.iload_n 1, 1) := by decide +kernel
theorem dX2_winsOf_9 : decode cX2_winsOf 9 = .ok (.aload_n 0, 1) := by decide +kernel
theorem dX2_winsOf_10 : decode cX2_winsOf 10 = .ok (.getfield 15, 3) := by decide +kernel
theorem dX2_winsOf_13 : decode cX2_winsOf 13 = .ok (.arraylength, 1) := by decide +kernel
theorem dX2_winsOf_14 : decode cX2_winsOf 14 = .ok (.if_icmp .ge 12, 3) := by decide +kernel
theorem dX2_winsOf_17 : decode cX2_winsOf 17 = .ok (.aload_n 0, 1) := by decide +kernel
theorem dX2_winsOf_18 : decode cX2_winsOf 18 = .ok (.getfield 15, 3) := by decide +kernel
theorem dX2_winsOf_21 : decode cX2_winsOf 21 = .ok (.iload_n 1, 1) := by decide +kernel
theorem dX2_winsOf_22 : decode cX2_winsOf 22 = .ok (.iaload, 1) := by decide +kernel
theorem dX2_winsOf_23 : decode cX2_winsOf 23 = .ok (.goto 4, 3) := by decide +kernel
theorem dX2_winsOf_26 : decode cX2_winsOf 26 = .ok (.iconst 0, 1) := by decide +kernel
theorem dX2_winsOf_27 : decode cX2_winsOf 27 = .ok (.ireturn, 1) := by decide +kernel
theorem dX2_isChecking_0 : decode cX2_isChecking 0 = .ok (.aload_n 0, 1) := by decide +kernel
theorem dX2_isChecking_1 : decode cX2_isChecking 1 = .ok (.getfield 35, 3) := by decide +kernel
theorem dX2_isChecking_4 : decode cX2_isChecking 4 = .ok (.iload_n 1, 1) := by decide +kernel
theorem dX2_isChecking_5 : decode cX2_isChecking 5 = .ok (.iload 4, 2) := by decide +kernel
theorem dX2_isChecking_7 : decode cX2_isChecking 7 = .ok (.lconst 1, 1) := by decide +kernel
theorem dX2_isChecking_8 : decode cX2_isChecking 8 = .ok (.iload_n 2, 1) := by decide +kernel
theorem dX2_isChecking_9 : decode cX2_isChecking 9 = .ok (.lshl, 1) := by decide +kernel
theorem dX2_isChecking_10 : decode cX2_isChecking 10 = .ok (.lconst 1, 1) := by decide +kernel
theorem dX2_isChecking_11 : decode cX2_isChecking 11 = .ok (.iload_n 3, 1) := by decide +kernel
theorem dX2_isChecking_12 : decode cX2_isChecking 12 = .ok (.lshl, 1) := by decide +kernel
theorem dX2_isChecking_13 : decode cX2_isChecking 13 = .ok (.lor, 1) := by decide +kernel
theorem dX2_isChecking_14 : decode cX2_isChecking 14 = .ok (.invokevirtual 130, 3) := by decide +kernel
theorem dX2_isChecking_17 : decode cX2_isChecking 17 = .ok (.iload_n 3, 1) := by decide +kernel
theorem dX2_isChecking_18 : decode cX2_isChecking 18 = .ok (.invokestatic 134, 3) := by decide +kernel
theorem dX2_isChecking_21 : decode cX2_isChecking 21 = .ok (.ireturn, 1) := by decide +kernel
theorem dX2_setValue_0 : decode cX2_setValue 0 = .ok (.iload_n 1, 1) := by decide +kernel
theorem dX2_setValue_1 : decode cX2_setValue 1 = .ok (.iconst 2, 1) := by decide +kernel
theorem dX2_setValue_2 : decode cX2_setValue 2 = .ok (.isub, 1) := by decide +kernel
theorem dX2_setValue_3 : decode cX2_setValue 3 = .ok (.sipush 31250, 3) := by decide +kernel
theorem dX2_setValue_6 : decode cX2_setValue 6 = .ok (.imul, 1) := by decide +kernel
theorem dX2_setValue_7 : decode cX2_setValue 7 = .ok (.iload_n 2, 1) := by decide +kernel
theorem dX2_setValue_8 : decode cX2_setValue 8 = .ok (.iadd, 1) := by decide +kernel
theorem dX2_setValue_9 : decode cX2_setValue 9 = .ok (.istore 4, 2) := by decide +kernel
theorem dX2_setValue_11 : decode cX2_setValue 11 = .ok (.iload_n 2, 1) := by decide +kernel
theorem dX2_setValue_12 : decode cX2_setValue 12 = .ok (.ifCond .lt 33, 3) := by decide +kernel
theorem dX2_setValue_15 : decode cX2_setValue 15 = .ok (.iload_n 2, 1) := by decide +kernel
theorem dX2_setValue_16 : decode cX2_setValue 16 = .ok (.sipush 31250, 3) := by decide +kernel
theorem dX2_setValue_19 : decode cX2_setValue 19 = .ok (.if_icmp .ge 26, 3) := by decide +kernel
theorem dX2_setValue_22 : decode cX2_setValue 22 = .ok (.iload 4, 2) := by decide +kernel
theorem dX2_setValue_24 : decode cX2_setValue 24 = .ok (.ifCond .lt 21, 3) := by decide +kernel
theorem dX2_setValue_27 : decode cX2_setValue 27 = .ok (.iload 4, 2) := by decide +kernel
theorem dX2_setValue_29 : decode cX2_setValue 29 = .ok (.aload_n 0, 1) := by decide +kernel
theorem dX2_setValue_30 : decode cX2_setValue 30 = .ok (.getfield 22, 3) := by decide +kernel
theorem dX2_setValue_33 : decode cX2_setValue 33 = .ok (.arraylength, 1) := by decide +kernel
theorem dX2_setValue_34 : decode cX2_setValue 34 = .ok (.if_icmp .ge 11, 3) := by decide +kernel
theorem dX2_setValue_37 : decode cX2_setValue 37 = .ok (.aload_n 0, 1) := by decide +kernel
theorem dX2_setValue_38 : decode cX2_setValue 38 = .ok (.getfield 22, 3) := by decide +kernel
theorem dX2_setValue_41 : decode cX2_setValue 41 = .ok (.iload 4, 2) := by decide +kernel
theorem dX2_setValue_43 : decode cX2_setValue 43 = .ok (.iload_n 3, 1) := by decide +kernel
theorem dX2_setValue_44 : decode cX2_setValue 44 = .ok (.iastore, 1) := by decide +kernel
theorem dX2_setValue_45 : decode cX2_setValue 45 = .ok (.return_, 1) := by decide +kernel
theorem dX2_win_0 : decode cX2_win 0 = .ok (.aload_n 0, 1) := by decide +kernel
theorem dX2_win_1 : decode cX2_win 1 = .ok (.getfield 31, 3) := by decide +kernel
theorem dX2_win_4 : decode cX2_win 4 = .ok (.ifCond .lt 42, 3) := by decide +kernel
theorem dX2_win_7 : decode cX2_win 7 = .ok (.aload_n 0, 1) := by decide +kernel
theorem dX2_win_8 : decode cX2_win 8 = .ok (.getfield 31, 3) := by decide +kernel
theorem dX2_win_11 : decode cX2_win 11 = .ok (.aload_n 0, 1) := by decide +kernel
theorem dX2_win_12 : decode cX2_win 12 = .ok (.getfield 25, 3) := by decide +kernel
theorem dX2_win_15 : decode cX2_win 15 = .ok (.arraylength, 1) := by decide +kernel
theorem dX2_win_16 : decode cX2_win 16 = .ok (.if_icmp .ge 30, 3) := by decide +kernel
theorem dX2_win_19 : decode cX2_win 19 = .ok (.aload_n 0, 1) := by decide +kernel
theorem dX2_win_20 : decode cX2_win 20 = .ok (.iload_n 1, 1) := by decide +kernel
theorem dX2_win_21 : decode cX2_win 21 = .ok (.iload_n 2, 1) := by decide +kernel
theorem dX2_win_22 : decode cX2_win 22 = .ok (.iload_n 3, 1) := by decide +kernel
theorem dX2_win_23 : decode cX2_win 23 = .ok (.invokevirtual 142, 3) := by decide +kernel
theorem dX2_win_26 : decode cX2_win 26 = .ok (.aload_n 0, 1) := by decide +kernel
theorem dX2_win_27 : decode cX2_win 27 = .ok (.getfield 25, 3) := by decide +kernel
theorem dX2_win_30 : decode cX2_win 30 = .ok (.aload_n 0, 1) := by decide +kernel
theorem dX2_win_31 : decode cX2_win 31 = .ok (.getfield 31, 3) := by decide +kernel
theorem dX2_win_34 : decode cX2_win 34 = .ok (.iload_n 2, 1) := by decide +kernel
theorem dX2_win_35 : decode cX2_win 35 = .ok (.iastore, 1) := by decide +kernel
theorem dX2_win_36 : decode cX2_win 36 = .ok (.aload_n 0, 1) := by decide +kernel
theorem dX2_win_37 : decode cX2_win 37 = .ok (.dup, 1) := by decide +kernel
theorem dX2_win_38 : decode cX2_win 38 = .ok (.getfield 31, 3) := by decide +kernel
theorem dX2_win_41 : decode cX2_win 41 = .ok (.iconst 1, 1) := by decide +kernel
theorem dX2_win_42 : decode cX2_win 42 = .ok (.iadd, 1) := by decide +kernel
theorem dX2_win_43 : decode cX2_win 43 = .ok (.putfield 31, 3) := by decide +kernel
theorem dX2_win_46 : decode cX2_win 46 = .ok (.return_, 1) := by decide +kernel
theorem dX2_countMovesOfBlack_0 : decode cX2_countMovesOfBlack 0 = .ok (.iconst 0, 1) := by decide +kernel
theorem dX2_countMovesOfBlack_1 : decode cX2_countMovesOfBlack 1 = .ok (.iload_n 2, 1) := by decide +kernel
theorem dX2_countMovesOfBlack_2 : decode cX2_countMovesOfBlack 2 = .ok (.iload_n 3, 1) := by decide +kernel
theorem dX2_countMovesOfBlack_3 : decode cX2_countMovesOfBlack 3 = .ok (.iload 4, 2) := by decide +kernel
theorem dX2_countMovesOfBlack_5 : decode cX2_countMovesOfBlack 5 = .ok (.invokestatic 96, 3) := by decide +kernel
theorem dX2_countMovesOfBlack_8 : decode cX2_countMovesOfBlack 8 = .ok (.istore 5, 2) := by decide +kernel
theorem dX2_countMovesOfBlack_10 : decode cX2_countMovesOfBlack 10 = .ok (.aload_n 0, 1) := by decide +kernel
theorem dX2_countMovesOfBlack_11 : decode cX2_countMovesOfBlack 11 = .ok (.iload_n 1, 1) := by decide +kernel
theorem dX2_countMovesOfBlack_12 : decode cX2_countMovesOfBlack 12 = .ok (.iload 5, 2) := by decide +kernel
theorem dX2_countMovesOfBlack_14 : decode cX2_countMovesOfBlack 14 = .ok (.invokevirtual 100, 3) := by decide +kernel
theorem dX2_countMovesOfBlack_17 : decode cX2_countMovesOfBlack 17 = .ok (.bipush (-2), 2) := by decide +kernel
theorem dX2_countMovesOfBlack_19 : decode cX2_countMovesOfBlack 19 = .ok (.if_icmp .eq 18, 3) := by decide +kernel
theorem dX2_countMovesOfBlack_22 : decode cX2_countMovesOfBlack 22 = .ok (.iload 5, 2) := by decide +kernel
theorem dX2_countMovesOfBlack_24 : decode cX2_countMovesOfBlack 24 = .ok (.ifCond .lt 13, 3) := by decide +kernel
theorem dX2_countMovesOfBlack_27 : decode cX2_countMovesOfBlack 27 = .ok (.iload 5, 2) := by decide +kernel
theorem dX2_countMovesOfBlack_29 : decode cX2_countMovesOfBlack 29 = .ok (.aload_n 0, 1) := by decide +kernel
theorem dX2_countMovesOfBlack_30 : decode cX2_countMovesOfBlack 30 = .ok (.getfield 28, 3) := by decide +kernel
theorem dX2_countMovesOfBlack_33 : decode cX2_countMovesOfBlack 33 = .ok (.arraylength, 1) := by decide +kernel
theorem dX2_countMovesOfBlack_34 : decode cX2_countMovesOfBlack 34 = .ok (.if_icmp .lt 4, 3) := by decide +kernel
theorem dX2_countMovesOfBlack_37 : decode cX2_countMovesOfBlack 37 = .ok (.return_, 1) := by decide +kernel
theorem dX2_countMovesOfBlack_38 : decode cX2_countMovesOfBlack 38 = .ok (.aload_n 0, 1) := by decide +kernel
theorem dX2_countMovesOfBlack_39 : decode cX2_countMovesOfBlack 39 = .ok (.getfield 35, 3) := by decide +kernel
theorem dX2_countMovesOfBlack_42 : decode cX2_countMovesOfBlack 42 = .ok (.iconst 1, 1) := by decide +kernel
theorem dX2_countMovesOfBlack_43 : decode cX2_countMovesOfBlack 43 = .ok (.iload_n 3, 1) := by decide +kernel
theorem dX2_countMovesOfBlack_44 : decode cX2_countMovesOfBlack 44 = .ok (.lconst 0, 1) := by decide +kernel
theorem dX2_countMovesOfBlack_45 : decode cX2_countMovesOfBlack 45 = .ok (.invokevirtual 130, 3) := by decide +kernel
theorem dX2_countMovesOfBlack_48 : decode cX2_countMovesOfBlack 48 = .ok (.lstore 6, 2) := by decide +kernel
theorem dX2_countMovesOfBlack_50 : decode cX2_countMovesOfBlack 50 = .ok (.iconst 0, 1) := by decide +kernel
theorem dX2_countMovesOfBlack_51 : decode cX2_countMovesOfBlack 51 = .ok (.istore 8, 2) := by decide +kernel
theorem dX2_countMovesOfBlack_53 : decode cX2_countMovesOfBlack 53 = .ok (.iconst 0, 1) := by decide +kernel
theorem dX2_countMovesOfBlack_54 : decode cX2_countMovesOfBlack 54 = .ok (.istore 9, 2) := by decide +kernel
theorem dX2_countMovesOfBlack_56 : decode cX2_countMovesOfBlack 56 = .ok (.iload 9, 2) := by decide +kernel
theorem dX2_countMovesOfBlack_58 : decode cX2_countMovesOfBlack 58 = .ok (.aload_n 0, 1) := by decide +kernel
theorem dX2_countMovesOfBlack_59 : decode cX2_countMovesOfBlack 59 = .ok (.getfield 35, 3) := by decide +kernel
theorem dX2_countMovesOfBlack_62 : decode cX2_countMovesOfBlack 62 = .ok (.getfield 104, 3) := by decide +kernel
theorem dX2_countMovesOfBlack_65 : decode cX2_countMovesOfBlack 65 = .ok (.if_icmp .ge 41, 3) := by decide +kernel
theorem dX2_countMovesOfBlack_68 : decode cX2_countMovesOfBlack 68 = .ok (.lload 6, 2) := by decide +kernel
theorem dX2_countMovesOfBlack_70 : decode cX2_countMovesOfBlack 70 = .ok (.iload 9, 2) := by decide +kernel
theorem dX2_countMovesOfBlack_72 : decode cX2_countMovesOfBlack 72 = .ok (.invokestatic 134, 3) := by decide +kernel
theorem dX2_countMovesOfBlack_75 : decode cX2_countMovesOfBlack 75 = .ok (.ifCond .eq 25, 3) := by decide +kernel
theorem dX2_countMovesOfBlack_78 : decode cX2_countMovesOfBlack 78 = .ok (.aload_n 0, 1) := by decide +kernel
theorem dX2_countMovesOfBlack_79 : decode cX2_countMovesOfBlack 79 = .ok (.iload_n 1, 1) := by decide +kernel
theorem dX2_countMovesOfBlack_80 : decode cX2_countMovesOfBlack 80 = .ok (.iconst 1, 1) := by decide +kernel
theorem dX2_countMovesOfBlack_81 : decode cX2_countMovesOfBlack 81 = .ok (.iload_n 2, 1) := by decide +kernel
theorem dX2_countMovesOfBlack_82 : decode cX2_countMovesOfBlack 82 = .ok (.iload 9, 2) := by decide +kernel
theorem dX2_countMovesOfBlack_84 : decode cX2_countMovesOfBlack 84 = .ok (.iload 4, 2) := by decide +kernel
theorem dX2_countMovesOfBlack_86 : decode cX2_countMovesOfBlack 86 = .ok (.invokestatic 96, 3) := by decide +kernel
theorem dX2_countMovesOfBlack_89 : decode cX2_countMovesOfBlack 89 = .ok (.invokevirtual 100, 3) := by decide +kernel
theorem dX2_countMovesOfBlack_92 : decode cX2_countMovesOfBlack 92 = .ok (.bipush (-2), 2) := by decide +kernel
theorem dX2_countMovesOfBlack_94 : decode cX2_countMovesOfBlack 94 = .ok (.if_icmp .eq 6, 3) := by decide +kernel
theorem dX2_countMovesOfBlack_97 : decode cX2_countMovesOfBlack 97 = .ok (.iinc 8 1, 3) := by decide +kernel
theorem dX2_countMovesOfBlack_100 : decode cX2_countMovesOfBlack 100 = .ok (.iinc 9 1, 3) := by decide +kernel
theorem dX2_countMovesOfBlack_103 : decode cX2_countMovesOfBlack 103 = .ok (.goto (-47), 3) := by decide +kernel
theorem dX2_countMovesOfBlack_106 : decode cX2_countMovesOfBlack 106 = .ok (.lload 6, 2) := by decide +kernel
theorem dX2_countMovesOfBlack_108 : decode cX2_countMovesOfBlack 108 = .ok (.iload 4, 2) := by decide +kernel
theorem dX2_countMovesOfBlack_110 : decode cX2_countMovesOfBlack 110 = .ok (.invokestatic 134, 3) := by decide +kernel
theorem dX2_countMovesOfBlack_113 : decode cX2_countMovesOfBlack 113 = .ok (.ifCond .eq 25, 3) := by decide +kernel
theorem dX2_countMovesOfBlack_116 : decode cX2_countMovesOfBlack 116 = .ok (.aload_n 0, 1) := by decide +kernel
theorem dX2_countMovesOfBlack_117 : decode cX2_countMovesOfBlack 117 = .ok (.getfield 35, 3) := by decide +kernel
theorem dX2_countMovesOfBlack_120 : decode cX2_countMovesOfBlack 120 = .ok (.iconst 1, 1) := by decide +kernel
theorem dX2_countMovesOfBlack_121 : decode cX2_countMovesOfBlack 121 = .ok (.iload_n 2, 1) := by decide +kernel
theorem dX2_countMovesOfBlack_122 : decode cX2_countMovesOfBlack 122 = .ok (.lconst 0, 1) := by decide +kernel
theorem dX2_countMovesOfBlack_123 : decode cX2_countMovesOfBlack 123 = .ok (.invokevirtual 130, 3) := by decide +kernel
theorem dX2_countMovesOfBlack_126 : decode cX2_countMovesOfBlack 126 = .ok (.iload 4, 2) := by decide +kernel
theorem dX2_countMovesOfBlack_128 : decode cX2_countMovesOfBlack 128 = .ok (.invokestatic 134, 3) := by decide +kernel
theorem dX2_countMovesOfBlack_131 : decode cX2_countMovesOfBlack 131 = .ok (.ifCond .ne 7, 3) := by decide +kernel
theorem dX2_countMovesOfBlack_134 : decode cX2_countMovesOfBlack 134 = .ok (.bipush 100, 2) := by decide +kernel
theorem dX2_countMovesOfBlack_136 : decode cX2_countMovesOfBlack 136 = .ok (.istore 8, 2) := by decide +kernel
theorem dX2_countMovesOfBlack_138 : decode cX2_countMovesOfBlack 138 = .ok (.aload_n 0, 1) := by decide +kernel
theorem dX2_countMovesOfBlack_139 : decode cX2_countMovesOfBlack 139 = .ok (.getfield 28, 3) := by decide +kernel
theorem dX2_countMovesOfBlack_142 : decode cX2_countMovesOfBlack 142 = .ok (.iload 5, 2) := by decide +kernel
theorem dX2_countMovesOfBlack_144 : decode cX2_countMovesOfBlack 144 = .ok (.iload 8, 2) := by decide +kernel
theorem dX2_countMovesOfBlack_146 : decode cX2_countMovesOfBlack 146 = .ok (.iastore, 1) := by decide +kernel
theorem dX2_countMovesOfBlack_147 : decode cX2_countMovesOfBlack 147 = .ok (.iload 8, 2) := by decide +kernel
theorem dX2_countMovesOfBlack_149 : decode cX2_countMovesOfBlack 149 = .ok (.ifCond .ne 23, 3) := by decide +kernel
theorem dX2_countMovesOfBlack_152 : decode cX2_countMovesOfBlack 152 = .ok (.aload_n 0, 1) := by decide +kernel
theorem dX2_countMovesOfBlack_153 : decode cX2_countMovesOfBlack 153 = .ok (.iload_n 1, 1) := by decide +kernel
theorem dX2_countMovesOfBlack_154 : decode cX2_countMovesOfBlack 154 = .ok (.iload_n 2, 1) := by decide +kernel
theorem dX2_countMovesOfBlack_155 : decode cX2_countMovesOfBlack 155 = .ok (.iload_n 3, 1) := by decide +kernel
theorem dX2_countMovesOfBlack_156 : decode cX2_countMovesOfBlack 156 = .ok (.iload 4, 2) := by decide +kernel
theorem dX2_countMovesOfBlack_158 : decode cX2_countMovesOfBlack 158 = .ok (.invokevirtual 138, 3) := by decide +kernel
theorem dX2_countMovesOfBlack_161 : decode cX2_countMovesOfBlack 161 = .ok (.ifCond .eq 11, 3) := by decide +kernel
theorem dX2_countMovesOfBlack_164 : decode cX2_countMovesOfBlack 164 = .ok (.aload_n 0, 1) := by decide +kernel
theorem dX2_countMovesOfBlack_165 : decode cX2_countMovesOfBlack 165 = .ok (.iload_n 1, 1) := by decide +kernel
theorem dX2_countMovesOfBlack_166 : decode cX2_countMovesOfBlack 166 = .ok (.iload 5, 2) := by decide +kernel
theorem dX2_countMovesOfBlack_168 : decode cX2_countMovesOfBlack 168 = .ok (.iconst 0, 1) := by decide +kernel
theorem dX2_countMovesOfBlack_169 : decode cX2_countMovesOfBlack 169 = .ok (.invokevirtual 146, 3) := by decide +kernel
theorem dX2_countMovesOfBlack_172 : decode cX2_countMovesOfBlack 172 = .ok (.return_, 1) := by decide +kernel
theorem dX2_mark_0 : decode cX2_mark 0 = .ok (.iload_n 2, 1) := by decide +kernel
theorem dX2_mark_1 : decode cX2_mark 1 = .ok (.iload_n 3, 1) := by decide +kernel
theorem dX2_mark_2 : decode cX2_mark 2 = .ok (.if_icmp .eq 36, 3) := by decide +kernel
theorem dX2_mark_5 : decode cX2_mark 5 = .ok (.iload_n 2, 1) := by decide +kernel
theorem dX2_mark_6 : decode cX2_mark 6 = .ok (.iload 4, 2) := by decide +kernel
theorem dX2_mark_8 : decode cX2_mark 8 = .ok (.if_icmp .eq 30, 3) := by decide +kernel
theorem dX2_mark_11 : decode cX2_mark 11 = .ok (.iload_n 3, 1) := by decide +kernel
theorem dX2_mark_12 : decode cX2_mark 12 = .ok (.iload 4, 2) := by decide +kernel
theorem dX2_mark_14 : decode cX2_mark 14 = .ok (.if_icmp .eq 24, 3) := by decide +kernel
theorem dX2_mark_17 : decode cX2_mark 17 = .ok (.aload_n 0, 1) := by decide +kernel
theorem dX2_mark_18 : decode cX2_mark 18 = .ok (.getfield 35, 3) := by decide +kernel
theorem dX2_mark_21 : decode cX2_mark 21 = .ok (.iconst 1, 1) := by decide +kernel
theorem dX2_mark_22 : decode cX2_mark 22 = .ok (.iload_n 2, 1) := by decide +kernel
theorem dX2_mark_23 : decode cX2_mark 23 = .ok (.lconst 0, 1) := by decide +kernel
theorem dX2_mark_24 : decode cX2_mark 24 = .ok (.invokevirtual 130, 3) := by decide +kernel
theorem dX2_mark_27 : decode cX2_mark 27 = .ok (.iload_n 3, 1) := by decide +kernel
theorem dX2_mark_28 : decode cX2_mark 28 = .ok (.invokestatic 134, 3) := by decide +kernel
theorem dX2_mark_31 : decode cX2_mark 31 = .ok (.ifCond .ne 7, 3) := by decide +kernel
theorem dX2_mark_34 : decode cX2_mark 34 = .ok (.iconst 1, 1) := by decide +kernel
theorem dX2_mark_35 : decode cX2_mark 35 = .ok (.goto 4, 3) := by decide +kernel
theorem dX2_mark_38 : decode cX2_mark 38 = .ok (.iconst 0, 1) := by decide +kernel
theorem dX2_mark_39 : decode cX2_mark 39 = .ok (.istore 5, 2) := by decide +kernel
theorem dX2_mark_41 : decode cX2_mark 41 = .ok (.iload 5, 2) := by decide +kernel
theorem dX2_mark_43 : decode cX2_mark 43 = .ok (.ifCond .eq 19, 3) := by decide +kernel
theorem dX2_mark_46 : decode cX2_mark 46 = .ok (.aload_n 0, 1) := by decide +kernel
theorem dX2_mark_47 : decode cX2_mark 47 = .ok (.iload_n 1, 1) := by decide +kernel
theorem dX2_mark_48 : decode cX2_mark 48 = .ok (.iload_n 2, 1) := by decide +kernel
theorem dX2_mark_49 : decode cX2_mark 49 = .ok (.iload_n 3, 1) := by decide +kernel
theorem dX2_mark_50 : decode cX2_mark 50 = .ok (.iload 4, 2) := by decide +kernel
theorem dX2_mark_52 : decode cX2_mark 52 = .ok (.invokevirtual 138, 3) := by decide +kernel
theorem dX2_mark_55 : decode cX2_mark 55 = .ok (.ifCond .eq 7, 3) := by decide +kernel
theorem dX2_mark_58 : decode cX2_mark 58 = .ok (.iconst 1, 1) := by decide +kernel
theorem dX2_mark_59 : decode cX2_mark 59 = .ok (.goto 4, 3) := by decide +kernel
theorem dX2_mark_62 : decode cX2_mark 62 = .ok (.iconst 0, 1) := by decide +kernel
theorem dX2_mark_63 : decode cX2_mark 63 = .ok (.istore 6, 2) := by decide +kernel
theorem dX2_mark_65 : decode cX2_mark 65 = .ok (.aload_n 0, 1) := by decide +kernel
theorem dX2_mark_66 : decode cX2_mark 66 = .ok (.iload_n 1, 1) := by decide +kernel
theorem dX2_mark_67 : decode cX2_mark 67 = .ok (.iconst 0, 1) := by decide +kernel
theorem dX2_mark_68 : decode cX2_mark 68 = .ok (.iload_n 2, 1) := by decide +kernel
theorem dX2_mark_69 : decode cX2_mark 69 = .ok (.iload_n 3, 1) := by decide +kernel
theorem dX2_mark_70 : decode cX2_mark 70 = .ok (.iload 4, 2) := by decide +kernel
theorem dX2_mark_72 : decode cX2_mark 72 = .ok (.invokestatic 96, 3) := by decide +kernel
theorem dX2_mark_75 : decode cX2_mark 75 = .ok (.iload 5, 2) := by decide +kernel
theorem dX2_mark_77 : decode cX2_mark 77 = .ok (.ifCond .eq 7, 3) := by decide +kernel
theorem dX2_mark_80 : decode cX2_mark 80 = .ok (.iconst (-1), 1) := by decide +kernel
theorem dX2_mark_81 : decode cX2_mark 81 = .ok (.goto 5, 3) := by decide +kernel
theorem dX2_mark_84 : decode cX2_mark 84 = .ok (.bipush (-2), 2) := by decide +kernel
theorem dX2_mark_86 : decode cX2_mark 86 = .ok (.invokevirtual 142, 3) := by decide +kernel
theorem dX2_mark_89 : decode cX2_mark 89 = .ok (.aload_n 0, 1) := by decide +kernel
theorem dX2_mark_90 : decode cX2_mark 90 = .ok (.iload_n 1, 1) := by decide +kernel
theorem dX2_mark_91 : decode cX2_mark 91 = .ok (.iconst 1, 1) := by decide +kernel
theorem dX2_mark_92 : decode cX2_mark 92 = .ok (.iload_n 2, 1) := by decide +kernel
theorem dX2_mark_93 : decode cX2_mark 93 = .ok (.iload_n 3, 1) := by decide +kernel
theorem dX2_mark_94 : decode cX2_mark 94 = .ok (.iload 4, 2) := by decide +kernel
theorem dX2_mark_96 : decode cX2_mark 96 = .ok (.invokestatic 96, 3) := by decide +kernel
theorem dX2_mark_99 : decode cX2_mark 99 = .ok (.iload 5, 2) := by decide +kernel
theorem dX2_mark_101 : decode cX2_mark 101 = .ok (.ifCond .eq 12, 3) := by decide +kernel
theorem dX2_mark_104 : decode cX2_mark 104 = .ok (.iload 6, 2) := by decide +kernel
theorem dX2_mark_106 : decode cX2_mark 106 = .ok (.ifCond .ne 7, 3) := by decide +kernel
theorem dX2_mark_109 : decode cX2_mark 109 = .ok (.iconst (-1), 1) := by decide +kernel
theorem dX2_mark_110 : decode cX2_mark 110 = .ok (.goto 5, 3) := by decide +kernel
theorem dX2_mark_113 : decode cX2_mark 113 = .ok (.bipush (-2), 2) := by decide +kernel
theorem dX2_mark_115 : decode cX2_mark 115 = .ok (.invokevirtual 142, 3) := by decide +kernel
theorem dX2_mark_118 : decode cX2_mark 118 = .ok (.return_, 1) := by decide +kernel
theorem dX2_forEachPlace_0 : decode cX2_forEachPlace 0 = .ok (.aload_n 0, 1) := by decide +kernel
theorem dX2_forEachPlace_1 : decode cX2_forEachPlace 1 = .ok (.getfield 35, 3) := by decide +kernel
theorem dX2_forEachPlace_4 : decode cX2_forEachPlace 4 = .ok (.getfield 104, 3) := by decide +kernel
theorem dX2_forEachPlace_7 : decode cX2_forEachPlace 7 = .ok (.bipush 25, 2) := by decide +kernel
theorem dX2_forEachPlace_9 : decode cX2_forEachPlace 9 = .ok (.invokestatic 118, 3) := by decide +kernel
theorem dX2_forEachPlace_12 : decode cX2_forEachPlace 12 = .ok (.istore_n 3, 1) := by decide +kernel
theorem dX2_forEachPlace_13 : decode cX2_forEachPlace 13 = .ok (.iconst 0, 1) := by decide +kernel
theorem dX2_forEachPlace_14 : decode cX2_forEachPlace 14 = .ok (.istore 4, 2) := by decide +kernel
theorem dX2_forEachPlace_16 : decode cX2_forEachPlace 16 = .ok (.iload 4, 2) := by decide +kernel
theorem dX2_forEachPlace_18 : decode cX2_forEachPlace 18 = .ok (.iload_n 3, 1) := by decide +kernel
theorem dX2_forEachPlace_19 : decode cX2_forEachPlace 19 = .ok (.if_icmp .ge 68, 3) := by decide +kernel
theorem dX2_forEachPlace_22 : decode cX2_forEachPlace 22 = .ok (.iconst 0, 1) := by decide +kernel
theorem dX2_forEachPlace_23 : decode cX2_forEachPlace 23 = .ok (.istore 5, 2) := by decide +kernel
theorem dX2_forEachPlace_25 : decode cX2_forEachPlace 25 = .ok (.iload 5, 2) := by decide +kernel
theorem dX2_forEachPlace_27 : decode cX2_forEachPlace 27 = .ok (.iload_n 3, 1) := by decide +kernel
theorem dX2_forEachPlace_28 : decode cX2_forEachPlace 28 = .ok (.if_icmp .ge 53, 3) := by decide +kernel
theorem dX2_forEachPlace_31 : decode cX2_forEachPlace 31 = .ok (.iconst 0, 1) := by decide +kernel
theorem dX2_forEachPlace_32 : decode cX2_forEachPlace 32 = .ok (.istore 6, 2) := by decide +kernel
theorem dX2_forEachPlace_34 : decode cX2_forEachPlace 34 = .ok (.iload 6, 2) := by decide +kernel
theorem dX2_forEachPlace_36 : decode cX2_forEachPlace 36 = .ok (.iload_n 3, 1) := by decide +kernel
theorem dX2_forEachPlace_37 : decode cX2_forEachPlace 37 = .ok (.if_icmp .ge 38, 3) := by decide +kernel
theorem dX2_forEachPlace_40 : decode cX2_forEachPlace 40 = .ok (.iload_n 2, 1) := by decide +kernel
theorem dX2_forEachPlace_41 : decode cX2_forEachPlace 41 = .ok (.ifCond .eq 17, 3) := by decide +kernel
theorem dX2_forEachPlace_44 : decode cX2_forEachPlace 44 = .ok (.aload_n 0, 1) := by decide +kernel
theorem dX2_forEachPlace_45 : decode cX2_forEachPlace 45 = .ok (.iload_n 1, 1) := by decide +kernel
theorem dX2_forEachPlace_46 : decode cX2_forEachPlace 46 = .ok (.iload 4, 2) := by decide +kernel
theorem dX2_forEachPlace_48 : decode cX2_forEachPlace 48 = .ok (.iload 5, 2) := by decide +kernel
theorem dX2_forEachPlace_50 : decode cX2_forEachPlace 50 = .ok (.iload 6, 2) := by decide +kernel
theorem dX2_forEachPlace_52 : decode cX2_forEachPlace 52 = .ok (.invokevirtual 123, 3) := by decide +kernel
theorem dX2_forEachPlace_55 : decode cX2_forEachPlace 55 = .ok (.goto 14, 3) := by decide +kernel
theorem dX2_forEachPlace_58 : decode cX2_forEachPlace 58 = .ok (.aload_n 0, 1) := by decide +kernel
theorem dX2_forEachPlace_59 : decode cX2_forEachPlace 59 = .ok (.iload_n 1, 1) := by decide +kernel
theorem dX2_forEachPlace_60 : decode cX2_forEachPlace 60 = .ok (.iload 4, 2) := by decide +kernel
theorem dX2_forEachPlace_62 : decode cX2_forEachPlace 62 = .ok (.iload 5, 2) := by decide +kernel
theorem dX2_forEachPlace_64 : decode cX2_forEachPlace 64 = .ok (.iload 6, 2) := by decide +kernel
theorem dX2_forEachPlace_66 : decode cX2_forEachPlace 66 = .ok (.invokevirtual 127, 3) := by decide +kernel
theorem dX2_forEachPlace_69 : decode cX2_forEachPlace 69 = .ok (.iinc 6 1, 3) := by decide +kernel
theorem dX2_forEachPlace_72 : decode cX2_forEachPlace 72 = .ok (.goto (-38), 3) := by decide +kernel
theorem dX2_forEachPlace_75 : decode cX2_forEachPlace 75 = .ok (.iinc 5 1, 3) := by decide +kernel
theorem dX2_forEachPlace_78 : decode cX2_forEachPlace 78 = .ok (.goto (-53), 3) := by decide +kernel
theorem dX2_forEachPlace_81 : decode cX2_forEachPlace 81 = .ok (.iinc 4 1, 3) := by decide +kernel
theorem dX2_forEachPlace_84 : decode cX2_forEachPlace 84 = .ok (.goto (-68), 3) := by decide +kernel
theorem dX2_forEachPlace_87 : decode cX2_forEachPlace 87 = .ok (.return_, 1) := by decide +kernel
theorem dX2_loseMove_0 : decode cX2_loseMove 0 = .ok (.aload_n 0, 1) := by decide +kernel
theorem dX2_loseMove_1 : decode cX2_loseMove 1 = .ok (.iload_n 1, 1) := by decide +kernel
theorem dX2_loseMove_2 : decode cX2_loseMove 2 = .ok (.iload_n 2, 1) := by decide +kernel
theorem dX2_loseMove_3 : decode cX2_loseMove 3 = .ok (.invokevirtual 100, 3) := by decide +kernel
theorem dX2_loseMove_6 : decode cX2_loseMove 6 = .ok (.iconst (-1), 1) := by decide +kernel
theorem dX2_loseMove_7 : decode cX2_loseMove 7 = .ok (.if_icmp .ne 16, 3) := by decide +kernel
theorem dX2_loseMove_10 : decode cX2_loseMove 10 = .ok (.iload_n 2, 1) := by decide +kernel
theorem dX2_loseMove_11 : decode cX2_loseMove 11 = .ok (.ifCond .lt 12, 3) := by decide +kernel
theorem dX2_loseMove_14 : decode cX2_loseMove 14 = .ok (.iload_n 2, 1) := by decide +kernel
theorem dX2_loseMove_15 : decode cX2_loseMove 15 = .ok (.aload_n 0, 1) := by decide +kernel
theorem dX2_loseMove_16 : decode cX2_loseMove 16 = .ok (.getfield 28, 3) := by decide +kernel
theorem dX2_loseMove_19 : decode cX2_loseMove 19 = .ok (.arraylength, 1) := by decide +kernel
theorem dX2_loseMove_20 : decode cX2_loseMove 20 = .ok (.if_icmp .lt 4, 3) := by decide +kernel
theorem dX2_loseMove_23 : decode cX2_loseMove 23 = .ok (.return_, 1) := by decide +kernel
theorem dX2_loseMove_24 : decode cX2_loseMove 24 = .ok (.aload_n 0, 1) := by decide +kernel
theorem dX2_loseMove_25 : decode cX2_loseMove 25 = .ok (.getfield 28, 3) := by decide +kernel
theorem dX2_loseMove_28 : decode cX2_loseMove 28 = .ok (.iload_n 2, 1) := by decide +kernel
theorem dX2_loseMove_29 : decode cX2_loseMove 29 = .ok (.dup2, 1) := by decide +kernel
theorem dX2_loseMove_30 : decode cX2_loseMove 30 = .ok (.iaload, 1) := by decide +kernel
theorem dX2_loseMove_31 : decode cX2_loseMove 31 = .ok (.iconst 1, 1) := by decide +kernel
theorem dX2_loseMove_32 : decode cX2_loseMove 32 = .ok (.isub, 1) := by decide +kernel
theorem dX2_loseMove_33 : decode cX2_loseMove 33 = .ok (.iastore, 1) := by decide +kernel
theorem dX2_loseMove_34 : decode cX2_loseMove 34 = .ok (.aload_n 0, 1) := by decide +kernel
theorem dX2_loseMove_35 : decode cX2_loseMove 35 = .ok (.getfield 28, 3) := by decide +kernel
theorem dX2_loseMove_38 : decode cX2_loseMove 38 = .ok (.iload_n 2, 1) := by decide +kernel
theorem dX2_loseMove_39 : decode cX2_loseMove 39 = .ok (.iaload, 1) := by decide +kernel
theorem dX2_loseMove_40 : decode cX2_loseMove 40 = .ok (.ifCond .ne 10, 3) := by decide +kernel
theorem dX2_loseMove_43 : decode cX2_loseMove 43 = .ok (.aload_n 0, 1) := by decide +kernel
theorem dX2_loseMove_44 : decode cX2_loseMove 44 = .ok (.iload_n 1, 1) := by decide +kernel
theorem dX2_loseMove_45 : decode cX2_loseMove 45 = .ok (.iload_n 2, 1) := by decide +kernel
theorem dX2_loseMove_46 : decode cX2_loseMove 46 = .ok (.iload_n 3, 1) := by decide +kernel
theorem dX2_loseMove_47 : decode cX2_loseMove 47 = .ok (.invokevirtual 146, 3) := by decide +kernel
theorem dX2_loseMove_50 : decode cX2_loseMove 50 = .ok (.return_, 1) := by decide +kernel
theorem dX2_reachWin_0 : decode cX2_reachWin 0 = .ok (.aload_n 0, 1) := by decide +kernel
theorem dX2_reachWin_1 : decode cX2_reachWin 1 = .ok (.iload_n 1, 1) := by decide +kernel
theorem dX2_reachWin_2 : decode cX2_reachWin 2 = .ok (.iload_n 2, 1) := by decide +kernel
theorem dX2_reachWin_3 : decode cX2_reachWin 3 = .ok (.invokevirtual 100, 3) := by decide +kernel
theorem dX2_reachWin_6 : decode cX2_reachWin 6 = .ok (.iconst (-1), 1) := by decide +kernel
theorem dX2_reachWin_7 : decode cX2_reachWin 7 = .ok (.if_icmp .ne 10, 3) := by decide +kernel
theorem dX2_reachWin_10 : decode cX2_reachWin 10 = .ok (.aload_n 0, 1) := by decide +kernel
theorem dX2_reachWin_11 : decode cX2_reachWin 11 = .ok (.iload_n 1, 1) := by decide +kernel
theorem dX2_reachWin_12 : decode cX2_reachWin 12 = .ok (.iload_n 2, 1) := by decide +kernel
theorem dX2_reachWin_13 : decode cX2_reachWin 13 = .ok (.iload_n 3, 1) := by decide +kernel
theorem dX2_reachWin_14 : decode cX2_reachWin 14 = .ok (.invokevirtual 146, 3) := by decide +kernel
theorem dX2_reachWin_17 : decode cX2_reachWin 17 = .ok (.return_, 1) := by decide +kernel
theorem dX2_stepBack_0 : decode cX2_stepBack 0 = .ok (.iload_n 2, 1) := by decide +kernel
theorem dX2_stepBack_1 : decode cX2_stepBack 1 = .ok (.sipush 15625, 3) := by decide +kernel
theorem dX2_stepBack_4 : decode cX2_stepBack 4 = .ok (.if_icmp .lt 7, 3) := by decide +kernel
theorem dX2_stepBack_7 : decode cX2_stepBack 7 = .ok (.iconst 1, 1) := by decide +kernel
theorem dX2_stepBack_8 : decode cX2_stepBack 8 = .ok (.goto 4, 3) := by decide +kernel
theorem dX2_stepBack_11 : decode cX2_stepBack 11 = .ok (.iconst 0, 1) := by decide +kernel
theorem dX2_stepBack_12 : decode cX2_stepBack 12 = .ok (.istore_n 3, 1) := by decide +kernel
theorem dX2_stepBack_13 : decode cX2_stepBack 13 = .ok (.iload_n 3, 1) := by decide +kernel
theorem dX2_stepBack_14 : decode cX2_stepBack 14 = .ok (.ifCond .eq 11, 3) := by decide +kernel
theorem dX2_stepBack_17 : decode cX2_stepBack 17 = .ok (.iload_n 2, 1) := by decide +kernel
theorem dX2_stepBack_18 : decode cX2_stepBack 18 = .ok (.sipush 15625, 3) := by decide +kernel
theorem dX2_stepBack_21 : decode cX2_stepBack 21 = .ok (.isub, 1) := by decide +kernel
theorem dX2_stepBack_22 : decode cX2_stepBack 22 = .ok (.goto 4, 3) := by decide +kernel
theorem dX2_stepBack_25 : decode cX2_stepBack 25 = .ok (.iload_n 2, 1) := by decide +kernel
theorem dX2_stepBack_26 : decode cX2_stepBack 26 = .ok (.istore 4, 2) := by decide +kernel
theorem dX2_stepBack_28 : decode cX2_stepBack 28 = .ok (.iload 4, 2) := by decide +kernel
theorem dX2_stepBack_30 : decode cX2_stepBack 30 = .ok (.bipush 25, 2) := by decide +kernel
theorem dX2_stepBack_32 : decode cX2_stepBack 32 = .ok (.irem, 1) := by decide +kernel
theorem dX2_stepBack_33 : decode cX2_stepBack 33 = .ok (.istore 5, 2) := by decide +kernel
theorem dX2_stepBack_35 : decode cX2_stepBack 35 = .ok (.iload 4, 2) := by decide +kernel
theorem dX2_stepBack_37 : decode cX2_stepBack 37 = .ok (.bipush 25, 2) := by decide +kernel
theorem dX2_stepBack_39 : decode cX2_stepBack 39 = .ok (.idiv, 1) := by decide +kernel
theorem dX2_stepBack_40 : decode cX2_stepBack 40 = .ok (.bipush 25, 2) := by decide +kernel
theorem dX2_stepBack_42 : decode cX2_stepBack 42 = .ok (.irem, 1) := by decide +kernel
theorem dX2_stepBack_43 : decode cX2_stepBack 43 = .ok (.istore 6, 2) := by decide +kernel
theorem dX2_stepBack_45 : decode cX2_stepBack 45 = .ok (.iload 4, 2) := by decide +kernel
theorem dX2_stepBack_47 : decode cX2_stepBack 47 = .ok (.bipush 25, 2) := by decide +kernel
theorem dX2_stepBack_49 : decode cX2_stepBack 49 = .ok (.idiv, 1) := by decide +kernel
theorem dX2_stepBack_50 : decode cX2_stepBack 50 = .ok (.bipush 25, 2) := by decide +kernel
theorem dX2_stepBack_52 : decode cX2_stepBack 52 = .ok (.idiv, 1) := by decide +kernel
theorem dX2_stepBack_53 : decode cX2_stepBack 53 = .ok (.istore 7, 2) := by decide +kernel
theorem dX2_stepBack_55 : decode cX2_stepBack 55 = .ok (.aload_n 0, 1) := by decide +kernel
theorem dX2_stepBack_56 : decode cX2_stepBack 56 = .ok (.iload_n 1, 1) := by decide +kernel
theorem dX2_stepBack_57 : decode cX2_stepBack 57 = .ok (.iload_n 2, 1) := by decide +kernel
theorem dX2_stepBack_58 : decode cX2_stepBack 58 = .ok (.invokevirtual 100, 3) := by decide +kernel
theorem dX2_stepBack_61 : decode cX2_stepBack 61 = .ok (.iconst 1, 1) := by decide +kernel
theorem dX2_stepBack_62 : decode cX2_stepBack 62 = .ok (.iadd, 1) := by decide +kernel
theorem dX2_stepBack_63 : decode cX2_stepBack 63 = .ok (.istore 8, 2) := by decide +kernel
theorem dX2_stepBack_65 : decode cX2_stepBack 65 = .ok (.aload_n 0, 1) := by decide +kernel
theorem dX2_stepBack_66 : decode cX2_stepBack 66 = .ok (.getfield 35, 3) := by decide +kernel
theorem dX2_stepBack_69 : decode cX2_stepBack 69 = .ok (.iconst 1, 1) := by decide +kernel
theorem dX2_stepBack_70 : decode cX2_stepBack 70 = .ok (.iload 7, 2) := by decide +kernel
theorem dX2_stepBack_72 : decode cX2_stepBack 72 = .ok (.lconst 0, 1) := by decide +kernel
theorem dX2_stepBack_73 : decode cX2_stepBack 73 = .ok (.invokevirtual 130, 3) := by decide +kernel
theorem dX2_stepBack_76 : decode cX2_stepBack 76 = .ok (.lstore 9, 2) := by decide +kernel
theorem dX2_stepBack_78 : decode cX2_stepBack 78 = .ok (.aload_n 0, 1) := by decide +kernel
theorem dX2_stepBack_79 : decode cX2_stepBack 79 = .ok (.getfield 35, 3) := by decide +kernel
theorem dX2_stepBack_82 : decode cX2_stepBack 82 = .ok (.iconst 1, 1) := by decide +kernel
theorem dX2_stepBack_83 : decode cX2_stepBack 83 = .ok (.iload 6, 2) := by decide +kernel
theorem dX2_stepBack_85 : decode cX2_stepBack 85 = .ok (.lconst 0, 1) := by decide +kernel
theorem dX2_stepBack_86 : decode cX2_stepBack 86 = .ok (.invokevirtual 130, 3) := by decide +kernel
theorem dX2_stepBack_89 : decode cX2_stepBack 89 = .ok (.lstore 11, 2) := by decide +kernel
theorem dX2_stepBack_91 : decode cX2_stepBack 91 = .ok (.aload_n 0, 1) := by decide +kernel
theorem dX2_stepBack_92 : decode cX2_stepBack 92 = .ok (.getfield 35, 3) := by decide +kernel
theorem dX2_stepBack_95 : decode cX2_stepBack 95 = .ok (.iload_n 1, 1) := by decide +kernel
theorem dX2_stepBack_96 : decode cX2_stepBack 96 = .ok (.iload 5, 2) := by decide +kernel
theorem dX2_stepBack_98 : decode cX2_stepBack 98 = .ok (.lconst 1, 1) := by decide +kernel
theorem dX2_stepBack_99 : decode cX2_stepBack 99 = .ok (.iload 7, 2) := by decide +kernel
theorem dX2_stepBack_101 : decode cX2_stepBack 101 = .ok (.lshl, 1) := by decide +kernel
theorem dX2_stepBack_102 : decode cX2_stepBack 102 = .ok (.lconst 1, 1) := by decide +kernel
theorem dX2_stepBack_103 : decode cX2_stepBack 103 = .ok (.iload 6, 2) := by decide +kernel
theorem dX2_stepBack_105 : decode cX2_stepBack 105 = .ok (.lshl, 1) := by decide +kernel
theorem dX2_stepBack_106 : decode cX2_stepBack 106 = .ok (.lor, 1) := by decide +kernel
theorem dX2_stepBack_107 : decode cX2_stepBack 107 = .ok (.invokevirtual 130, 3) := by decide +kernel
theorem dX2_stepBack_110 : decode cX2_stepBack 110 = .ok (.lstore 13, 2) := by decide +kernel
theorem dX2_stepBack_112 : decode cX2_stepBack 112 = .ok (.iconst 0, 1) := by decide +kernel
theorem dX2_stepBack_113 : decode cX2_stepBack 113 = .ok (.istore 15, 2) := by decide +kernel
theorem dX2_stepBack_115 : decode cX2_stepBack 115 = .ok (.iload 15, 2) := by decide +kernel
theorem dX2_stepBack_117 : decode cX2_stepBack 117 = .ok (.aload_n 0, 1) := by decide +kernel
theorem dX2_stepBack_118 : decode cX2_stepBack 118 = .ok (.getfield 35, 3) := by decide +kernel
theorem dX2_stepBack_121 : decode cX2_stepBack 121 = .ok (.getfield 104, 3) := by decide +kernel
theorem dX2_stepBack_124 : decode cX2_stepBack 124 = .ok (.if_icmp .ge 102, 3) := by decide +kernel
theorem dX2_stepBack_127 : decode cX2_stepBack 127 = .ok (.iload_n 3, 1) := by decide +kernel
theorem dX2_stepBack_128 : decode cX2_stepBack 128 = .ok (.ifCond .eq 30, 3) := by decide +kernel
theorem dX2_stepBack_131 : decode cX2_stepBack 131 = .ok (.lload 11, 2) := by decide +kernel
theorem dX2_stepBack_133 : decode cX2_stepBack 133 = .ok (.iload 15, 2) := by decide +kernel
theorem dX2_stepBack_135 : decode cX2_stepBack 135 = .ok (.invokestatic 134, 3) := by decide +kernel
theorem dX2_stepBack_138 : decode cX2_stepBack 138 = .ok (.ifCond .eq 20, 3) := by decide +kernel
theorem dX2_stepBack_141 : decode cX2_stepBack 141 = .ok (.aload_n 0, 1) := by decide +kernel
theorem dX2_stepBack_142 : decode cX2_stepBack 142 = .ok (.iload_n 1, 1) := by decide +kernel
theorem dX2_stepBack_143 : decode cX2_stepBack 143 = .ok (.iconst 0, 1) := by decide +kernel
theorem dX2_stepBack_144 : decode cX2_stepBack 144 = .ok (.iload 7, 2) := by decide +kernel
theorem dX2_stepBack_146 : decode cX2_stepBack 146 = .ok (.iload 15, 2) := by decide +kernel
theorem dX2_stepBack_148 : decode cX2_stepBack 148 = .ok (.iload 5, 2) := by decide +kernel
theorem dX2_stepBack_150 : decode cX2_stepBack 150 = .ok (.invokestatic 96, 3) := by decide +kernel
theorem dX2_stepBack_153 : decode cX2_stepBack 153 = .ok (.iload 8, 2) := by decide +kernel
theorem dX2_stepBack_155 : decode cX2_stepBack 155 = .ok (.invokevirtual 149, 3) := by decide +kernel
theorem dX2_stepBack_158 : decode cX2_stepBack 158 = .ok (.iload_n 3, 1) := by decide +kernel
theorem dX2_stepBack_159 : decode cX2_stepBack 159 = .ok (.ifCond .ne 30, 3) := by decide +kernel
theorem dX2_stepBack_162 : decode cX2_stepBack 162 = .ok (.lload 9, 2) := by decide +kernel
theorem dX2_stepBack_164 : decode cX2_stepBack 164 = .ok (.iload 15, 2) := by decide +kernel
theorem dX2_stepBack_166 : decode cX2_stepBack 166 = .ok (.invokestatic 134, 3) := by decide +kernel
theorem dX2_stepBack_169 : decode cX2_stepBack 169 = .ok (.ifCond .eq 20, 3) := by decide +kernel
theorem dX2_stepBack_172 : decode cX2_stepBack 172 = .ok (.aload_n 0, 1) := by decide +kernel
theorem dX2_stepBack_173 : decode cX2_stepBack 173 = .ok (.iload_n 1, 1) := by decide +kernel
theorem dX2_stepBack_174 : decode cX2_stepBack 174 = .ok (.iconst 1, 1) := by decide +kernel
theorem dX2_stepBack_175 : decode cX2_stepBack 175 = .ok (.iload 15, 2) := by decide +kernel
theorem dX2_stepBack_177 : decode cX2_stepBack 177 = .ok (.iload 6, 2) := by decide +kernel
theorem dX2_stepBack_179 : decode cX2_stepBack 179 = .ok (.iload 5, 2) := by decide +kernel
theorem dX2_stepBack_181 : decode cX2_stepBack 181 = .ok (.invokestatic 96, 3) := by decide +kernel
theorem dX2_stepBack_184 : decode cX2_stepBack 184 = .ok (.iload 8, 2) := by decide +kernel
theorem dX2_stepBack_186 : decode cX2_stepBack 186 = .ok (.invokevirtual 152, 3) := by decide +kernel
theorem dX2_stepBack_189 : decode cX2_stepBack 189 = .ok (.iload_n 3, 1) := by decide +kernel
theorem dX2_stepBack_190 : decode cX2_stepBack 190 = .ok (.ifCond .ne 30, 3) := by decide +kernel
theorem dX2_stepBack_193 : decode cX2_stepBack 193 = .ok (.lload 13, 2) := by decide +kernel
theorem dX2_stepBack_195 : decode cX2_stepBack 195 = .ok (.iload 15, 2) := by decide +kernel
theorem dX2_stepBack_197 : decode cX2_stepBack 197 = .ok (.invokestatic 134, 3) := by decide +kernel
theorem dX2_stepBack_200 : decode cX2_stepBack 200 = .ok (.ifCond .eq 20, 3) := by decide +kernel
theorem dX2_stepBack_203 : decode cX2_stepBack 203 = .ok (.aload_n 0, 1) := by decide +kernel
theorem dX2_stepBack_204 : decode cX2_stepBack 204 = .ok (.iload_n 1, 1) := by decide +kernel
theorem dX2_stepBack_205 : decode cX2_stepBack 205 = .ok (.iconst 1, 1) := by decide +kernel
theorem dX2_stepBack_206 : decode cX2_stepBack 206 = .ok (.iload 7, 2) := by decide +kernel
theorem dX2_stepBack_208 : decode cX2_stepBack 208 = .ok (.iload 6, 2) := by decide +kernel
theorem dX2_stepBack_210 : decode cX2_stepBack 210 = .ok (.iload 15, 2) := by decide +kernel
theorem dX2_stepBack_212 : decode cX2_stepBack 212 = .ok (.invokestatic 96, 3) := by decide +kernel
theorem dX2_stepBack_215 : decode cX2_stepBack 215 = .ok (.iload 8, 2) := by decide +kernel
theorem dX2_stepBack_217 : decode cX2_stepBack 217 = .ok (.invokevirtual 152, 3) := by decide +kernel
theorem dX2_stepBack_220 : decode cX2_stepBack 220 = .ok (.iinc 15 1, 3) := by decide +kernel
theorem dX2_stepBack_223 : decode cX2_stepBack 223 = .ok (.goto (-108), 3) := by decide +kernel
theorem dX2_stepBack_226 : decode cX2_stepBack 226 = .ok (.return_, 1) := by decide +kernel
theorem dX11_startHere_0 : decode cX11_startHere 0 = .ok (.aload_n 0, 1) := by decide +kernel
theorem dX11_startHere_1 : decode cX11_startHere 1 = .ok (.getfield 40, 3) := by decide +kernel
theorem dX11_startHere_4 : decode cX11_startHere 4 = .ok (.getfield 157, 3) := by decide +kernel
theorem dX11_startHere_7 : decode cX11_startHere 7 = .ok (.istore_n 1, 1) := by decide +kernel
theorem dX11_startHere_8 : decode cX11_startHere 8 = .ok (.aload_n 0, 1) := by decide +kernel
theorem dX11_startHere_9 : decode cX11_startHere 9 = .ok (.getfield 40, 3) := by decide +kernel
theorem dX11_startHere_12 : decode cX11_startHere 12 = .ok (.aload_n 0, 1) := by decide +kernel
theorem dX11_startHere_13 : decode cX11_startHere 13 = .ok (.getfield 28, 3) := by decide +kernel
theorem dX11_startHere_16 : decode cX11_startHere 16 = .ok (.invokevirtual 130, 3) := by decide +kernel
theorem dX11_startHere_19 : decode cX11_startHere 19 = .ok (.iload_n 1, 1) := by decide +kernel
theorem dX11_startHere_20 : decode cX11_startHere 20 = .ok (.ireturn, 1) := by decide +kernel
theorem dX11_state_0 : decode cX11_state 0 = .ok (.aload_n 0, 1) := by decide +kernel
theorem dX11_state_1 : decode cX11_state 1 = .ok (.invokevirtual 217, 3) := by decide +kernel
theorem dX11_state_4 : decode cX11_state 4 = .ok (.aload_n 0, 1) := by decide +kernel
theorem dX11_state_5 : decode cX11_state 5 = .ok (.invokevirtual 293, 3) := by decide +kernel
theorem dX11_state_8 : decode cX11_state 8 = .ok (.ireturn, 1) := by decide +kernel
theorem dX11_takeBack_0 : decode cX11_takeBack 0 = .ok (.aload_n 0, 1) := by decide +kernel
theorem dX11_takeBack_1 : decode cX11_takeBack 1 = .ok (.getfield 40, 3) := by decide +kernel
theorem dX11_takeBack_4 : decode cX11_takeBack 4 = .ok (.getfield 157, 3) := by decide +kernel
theorem dX11_takeBack_7 : decode cX11_takeBack 7 = .ok (.ifCond .ne 14, 3) := by decide +kernel
theorem dX11_takeBack_10 : decode cX11_takeBack 10 = .ok (.new 285, 3) := by decide +kernel
theorem dX11_takeBack_13 : decode cX11_takeBack 13 = .ok (.dup, 1) := by decide +kernel
theorem dX11_takeBack_14 : decode cX11_takeBack 14 = .ok (.ldc_w 296, 3) := by decide +kernel
theorem dX11_takeBack_17 : decode cX11_takeBack 17 = .ok (.invokespecial 289, 3) := by decide +kernel
theorem dX11_takeBack_20 : decode cX11_takeBack 20 = .ok (.athrow, 1) := by decide +kernel
theorem dX11_takeBack_21 : decode cX11_takeBack 21 = .ok (.aload_n 0, 1) := by decide +kernel
theorem dX11_takeBack_22 : decode cX11_takeBack 22 = .ok (.getfield 40, 3) := by decide +kernel
theorem dX11_takeBack_25 : decode cX11_takeBack 25 = .ok (.dup, 1) := by decide +kernel
theorem dX11_takeBack_26 : decode cX11_takeBack 26 = .ok (.getfield 157, 3) := by decide +kernel
theorem dX11_takeBack_29 : decode cX11_takeBack 29 = .ok (.iconst 1, 1) := by decide +kernel
theorem dX11_takeBack_30 : decode cX11_takeBack 30 = .ok (.isub, 1) := by decide +kernel
theorem dX11_takeBack_31 : decode cX11_takeBack 31 = .ok (.putfield 157, 3) := by decide +kernel
theorem dX11_takeBack_34 : decode cX11_takeBack 34 = .ok (.aload_n 0, 1) := by decide +kernel
theorem dX11_takeBack_35 : decode cX11_takeBack 35 = .ok (.getfield 28, 3) := by decide +kernel
theorem dX11_takeBack_38 : decode cX11_takeBack 38 = .ok (.aload_n 0, 1) := by decide +kernel
theorem dX11_takeBack_39 : decode cX11_takeBack 39 = .ok (.getfield 40, 3) := by decide +kernel
theorem dX11_takeBack_42 : decode cX11_takeBack 42 = .ok (.getfield 298, 3) := by decide +kernel
theorem dX11_takeBack_45 : decode cX11_takeBack 45 = .ok (.aload_n 0, 1) := by decide +kernel
theorem dX11_takeBack_46 : decode cX11_takeBack 46 = .ok (.getfield 40, 3) := by decide +kernel
theorem dX11_takeBack_49 : decode cX11_takeBack 49 = .ok (.getfield 157, 3) := by decide +kernel
theorem dX11_takeBack_52 : decode cX11_takeBack 52 = .ok (.invokevirtual 302, 3) := by decide +kernel
theorem dX11_takeBack_55 : decode cX11_takeBack 55 = .ok (.aload_n 0, 1) := by decide +kernel
theorem dX11_takeBack_56 : decode cX11_takeBack 56 = .ok (.getfield 40, 3) := by decide +kernel
theorem dX11_takeBack_59 : decode cX11_takeBack 59 = .ok (.getfield 157, 3) := by decide +kernel
theorem dX11_takeBack_62 : decode cX11_takeBack 62 = .ok (.ireturn, 1) := by decide +kernel
theorem dX11_variationMoves_0 : decode cX11_variationMoves 0 = .ok (.aload_n 0, 1) := by decide +kernel
theorem dX11_variationMoves_1 : decode cX11_variationMoves 1 = .ok (.getfield 116, 3) := by decide +kernel
theorem dX11_variationMoves_4 : decode cX11_variationMoves 4 = .ok (.ireturn, 1) := by decide +kernel
def wp_X11_rights_0 (D : wD) (post : Int32 → wS → Prop)  (S : wS) (a0 : Nat) : Prop :=
∃ y_1 : Nat, sR S a0 2 = some y_1 ∧ wM D S y_1 ∧ sK S y_1 = 12 ∧
post (sI S y_1 6) S
abbrev r_X11_rights : Room := { frames := 0, cells := 0, slots := 0, locals := 0 }
def wp_X11_rights (D : wD) (post : Int32 → wS → Prop) (S : wS) (a0 : Nat) : Prop := wp_X11_rights_0 D post S a0
set_option maxHeartbeats 4000000 in
set_option maxRecDepth 100000 in
theorem t_X11_rights_0 {p : Program} {l : Launch} {e : Env} {s : State} {m : MethodId} {args : Array Value} {below : List Frame} {meth : Method} {c : Code} {D : wD} {cy : Nat → ClassId} {X : va_W} {A : Nat → Prop} {S0 : wS} {post : Int32 → wS → Prop} (F : CallFix p m c cX11_rights 1 s args wz_X11_rights RX11) (hr : meth.sig.returnType = (some .int)) (hlocks : meth.locks = false) (hK : wK D cy A s) : ∀ {S : wS} {H : Heap} {locs : List Loc} {ls : Array Slot} {a0 : Nat}, wp_X11_rights_0 D post S a0 → wO D cy X A s.heap S H locs → wX D S0 S → lv_has ls 1 [(0, .ref a0)] → wM D S a0 → sK S a0 = 16 → W p l e r_X11_rights s m args below meth c H locs 0 0 (MQ below (va_Qi (fun r S9 => wX D S0 S9 ∧ post r S9) (wB D cy X A) A) args s 0 0 A) (F0 m 0 ls []) := by
  obtain ⟨hx, hb, hml, hown, hts⟩ := id F
  have hwg : ∀ w ∈ WG, w.before args s = true := fun w h => hts w (List.mem_cons_of_mem _ h)
  have i_12 : ∀ w ∈ u_ws RX7 TX7 8, w ∈ wz_X11_rights := fun w h => List.mem_cons_of_mem _ (wu_12 w h)
  have i_16 : ∀ w ∈ u_ws RX11 TX11 18, w ∈ wz_X11_rights := fun w h => List.mem_cons_of_mem _ (wu_16 w h)
  have k_28 := hwg _ wf_RX11_28
  intro S H locs ls a0 hp hW hE hl hL_a0 hK_a0
  unfold wp_X11_rights_0 at hp
  refine lv_aload_n hx hb dX11_rights_0 rfl (lv_at hl 0 rfl) ?_
  obtain ⟨y_1, ey_1, hL_y_1, hK_y_1, hp⟩ := hp
  refine w_get (k := 16) (f := 2) (T := TX11) (v := .ref y_1) F hK hW hL_a0 hK_a0 (by decide) rfl rfl (by decide) i_16 k_28 (by rw [show wv 16 2 S a0 = va_rf (sR S a0 2) from rfl, ey_1]; rfl) dX11_rights_1 ?_
  refine w_getN (k := 12) (f := 6) (T := TX7) (v := .int (sI S y_1 6)) F hK hW hL_y_1 hK_y_1 (by decide) rfl rfl (by decide) i_12 (hK.2.1 (.fieldLinkNest "OpeningsCabinet" 175 "OpeningsCabinet$Position" "rights" "I" "OpeningsCabinet") (by decide +kernel)) rfl dX11_rights_4 ?_
  exact w_iret hx hb hr hlocks hW ⟨hE, hp⟩ dX11_rights_7
set_option maxHeartbeats 4000000 in
set_option maxRecDepth 100000 in
theorem c_X11_rights (l : Launch) {D : wD} {cy : Nat → ClassId} {X : va_W} {S0 : wS} {post : Int32 → wS → Prop} {a0 : Nat} (hL_a0 : wM D S0 a0) (hK_a0 : sK S0 a0 = 16) (hp : wp_X11_rights D post S0 a0) : mI D cy X l yX11_rights wz_X11_rights r_X11_rights [.ref a0] S0 (fun r S9 => wX D S0 S9 ∧ post r S9) := by
  intro sz
  refine Met.ofW (cc := cX11_rights) (maxL := 1) (ret := (some .int)) (by decide) rfl ?_
  intro p e s m args below meth c s₁ B hml hv
  obtain ⟨rfl, hsz, hP, hK, hD0, hRO⟩ := hv
  have hts := atoms_spec (ws := wz_X11_rights) B.pre
  have hown : s.vm.findClass RX11 = some m.cls := findClass_of_methodNamed B.named
  subst hsz
  have hD := hD0.self (sz := s.heap.size)
  have F : CallFix p m c cX11_rights 1 s _ wz_X11_rights RX11 := ⟨B.exec, B.bytes, hml, hown, hts⟩
  have hr := B.returns
  have hlocks := B.notSynchronized
  generalize hAe : va_A (wL cy X S0) s.heap.size = A at hD hK ⊢
  have hA : ∀ q, s.heap.size ≤ q → A q := fun q h => by rw [← hAe]; exact Or.inr h
  have hW : wO D cy X A s.heap S0 s.heap [] := ⟨hP, hD, va_S.rf, hA, hRO⟩
  have hl := lv_entry ([.ref a0]) (n := 1) (Nat.le_of_ble_eq_true rfl)
  rw [lg_entry_eq]
  generalize (lg_sl ([.ref a0]) ++ List.replicate (1 - (lg_sl ([.ref a0])).length) Slot.unset).toArray = ls at hl ⊢
  have hl : lv_has ls 1 [(0, .ref a0)] := hl
  unfold wp_X11_rights at hp
  exact t_X11_rights_0 F hr hlocks hK hp hW wX.rf (lv_sub hl [0] rfl) hL_a0 hK_a0
def wp_X11_setSide_10 (D : wD) (post : Int32 → wS → Prop) (xp : String → wS → Prop)  (S : wS) : Prop :=
xp "java/lang/IllegalArgumentException" S
def wp_X11_setSide_0 (D : wD) (post : Int32 → wS → Prop) (xp : String → wS → Prop)  (S : wS) (a0 : Nat) (x1 : Int32) (x2 : Int32) : Prop :=
((x2 < 0 → wp_X11_setSide_10 D post xp S) ∧
 (¬ x2 < 0 → ((x2 ≤ (15 : Int32) → wp_X11_mustBeUnmoved D (fun S_4 => 
∃ y_5 : Nat, sR S_4 a0 2 = some y_5 ∧ wM D S_4 y_5 ∧ sK S_4 y_5 = 12 ∧
∀ x_6 : Int32, x_6 = (sI S_4 y_5 6) →
∃ y_7 : Nat, sR S_4 a0 2 = some y_7 ∧ wM D S_4 y_7 ∧ sK S_4 y_7 = 12 ∧
narrow .boolean (.int x1) = .int x1 ∧ fits .boolean (.int x1) = true ∧
∀ S_8 : wS, S_8 = uI S_4 y_7 5 x1 →
∃ y_10 : Nat, sR S_8 a0 2 = some y_10 ∧ wM D S_8 y_10 ∧ sK S_8 y_10 = 12 ∧
∀ S_11 : wS, S_11 = uI S_8 y_10 6 x2 →
∃ y_12 : Nat, sR S_11 a0 2 = some y_12 ∧ wM D S_11 y_12 ∧ sK S_11 y_12 = 12 ∧
∀ S_13 : wS, S_13 = uI S_11 y_12 7 (-1 : Int32) →
∃ y_14 : Nat, sR S_13 a0 4 = some y_14 ∧ wM D S_13 y_14 ∧ sK S_13 y_14 = 8 ∧
∃ y_15 : Nat, sR S_13 a0 2 = some y_15 ∧ wM D S_13 y_15 ∧ sK S_13 y_15 = 12 ∧
wp_X3_begin D (fun S_17 => 
post x_6 S_17) S_13 y_14 y_15) xp S a0) ∧
 (¬ x2 ≤ (15 : Int32) → wp_X11_setSide_10 D post xp S))))
abbrev r_X11_setSide : Room := { frames := 7, cells := 1, slots := 6, locals := 140 }
def wp_X11_setSide (D : wD) (post : Int32 → wS → Prop) (xp : String → wS → Prop) (S : wS) (a0 : Nat) (x1 : Int32) (x2 : Int32) : Prop := wp_X11_setSide_0 D post xp S a0 x1 x2
set_option maxHeartbeats 4000000 in
set_option maxRecDepth 100000 in
theorem t_X11_setSide_10 {p : Program} {l : Launch} {e : Env} {s : State} {m : MethodId} {args : Array Value} {below : List Frame} {meth : Method} {c : Code} {D : wD} {cy : Nat → ClassId} {X : va_W} {A : Nat → Prop} {S0 : wS} {post : Int32 → wS → Prop} {xp : String → wS → Prop} (F : CallFix p m c cX11_setSide 4 s args wz_X11_setSide RX11) (hr : meth.sig.returnType = (some .int)) (hlocks : meth.locks = false) (hK : wK D cy A s) (hl0 : l.stackTraces = false) (hexc : ∀ x ∈ c.exceptionTable.toList, False) : ∀ {S : wS} {H : Heap} {locs : List Loc} {ls : Array Slot}, wp_X11_setSide_10 D post xp S → wO D cy X A s.heap S H locs → wX D S0 S → lv_has ls 4 [] → W p l e r_X11_setSide s m args below meth c H locs 0 0 (vx_MQ below (va_Qi (fun r S9 => wX D S0 S9 ∧ post r S9) (wB D cy X A) A) (wEx D cy X A (fun E S9 => wX D S0 S9 ∧ xp E S9)) args s 1 6 A) (F0 m 10 ls []) := by
  obtain ⟨hx, hb, hml, hown, hts⟩ := id F
  have hwg : ∀ w ∈ WG, w.before args s = true := fun w h => hts w (List.mem_cons_of_mem _ h)
  intro S H locs ls hp hW hE hl
  unfold wp_X11_setSide_10 at hp
  exact x_throw (ls := ls) F hK hW hl0 (by decide) (hwg _ wc_RX11_140) (hwg _ wi_java_lang_IllegalArgumentException) (show ("OpeningsCabinet", 181, "rights are 0 to 15", 15) ∈ wStr by decide +kernel) (wa_RX11_144 hwg hK.2.1) wa_RX11_144_ok hl.1 hexc hlocks dX11_setSide_10 dX11_setSide_13 dX11_setSide_14 dX11_setSide_16 dX11_setSide_19 (Nat.le_of_ble_eq_true rfl) (Nat.le_of_ble_eq_true rfl) (Nat.le_of_ble_eq_true rfl) (Nat.le_of_ble_eq_true rfl) (by decide) (by decide) ⟨hE, hp⟩
set_option maxHeartbeats 4000000 in
set_option maxRecDepth 100000 in
theorem t_X11_setSide_0 {p : Program} {l : Launch} {e : Env} {s : State} {m : MethodId} {args : Array Value} {below : List Frame} {meth : Method} {c : Code} {D : wD} {cy : Nat → ClassId} {X : va_W} {A : Nat → Prop} {S0 : wS} {post : Int32 → wS → Prop} {xp : String → wS → Prop} (F : CallFix p m c cX11_setSide 4 s args wz_X11_setSide RX11) (hr : meth.sig.returnType = (some .int)) (hlocks : meth.locks = false) (hK : wK D cy A s) (hl0 : l.stackTraces = false) (hexc : ∀ x ∈ c.exceptionTable.toList, False) : ∀ {S : wS} {H : Heap} {locs : List Loc} {ls : Array Slot} {a0 : Nat} {x1 : Int32} {x2 : Int32}, wp_X11_setSide_0 D post xp S a0 x1 x2 → wO D cy X A s.heap S H locs → wX D S0 S → lv_has ls 4 [(0, .ref a0), (1, .int x1), (2, .int x2)] → wM D S a0 → sK S a0 = 16 → W p l e r_X11_setSide s m args below meth c H locs 0 0 (vx_MQ below (va_Qi (fun r S9 => wX D S0 S9 ∧ post r S9) (wB D cy X A) A) (wEx D cy X A (fun E S9 => wX D S0 S9 ∧ xp E S9)) args s 1 6 A) (F0 m 0 ls []) := by
  obtain ⟨hx, hb, hml, hown, hts⟩ := id F
  have hwg : ∀ w ∈ WG, w.before args s = true := fun w h => hts w (List.mem_cons_of_mem _ h)
  have i_12 : ∀ w ∈ u_ws RX7 TX7 8, w ∈ wz_X11_setSide := fun w h => List.mem_cons_of_mem _ (wu_12 w h)
  have i_16 : ∀ w ∈ u_ws RX11 TX11 18, w ∈ wz_X11_setSide := fun w h => List.mem_cons_of_mem _ (wu_16 w h)
  have k_28 := hwg _ wf_RX11_28
  have k_40 := hwg _ wf_RX11_40
  intro S H locs ls a0 x1 x2 hp hW hE hl hL_a0 hK_a0
  unfold wp_X11_setSide_0 at hp
  refine lv_iload_n hx hb dX11_setSide_0 rfl (lv_at hl 2 rfl) ?_
  refine lv_if_lt (tgt := 10) hx hb dX11_setSide_1 (by decide) (fun c_1 => ?_) (fun c_1 => ?_)
  · replace hp := hp.1 c_1
    exact t_X11_setSide_10 F hr hlocks hK hl0 hexc hp hW hE (lv_sub hl [] rfl)
  · replace hp := hp.2 c_1
    refine lv_iload_n hx hb dX11_setSide_4 rfl (lv_at hl 2 rfl) ?_
    refine lv_bipush (v := 15) hx hb dX11_setSide_5 (by decide) ?_
    refine lv_icmp_le (tgt := 20) hx hb dX11_setSide_7 (by decide) (fun c_2 => ?_) (fun c_2 => ?_)
    · replace hp := hp.1 c_2
      refine lv_aload_n hx hb dX11_setSide_20 rfl (lv_at hl 0 rfl) ?_
      refine x_callV (vx_runV (As := []) (rest := []) F (c_X11_mustBeUnmoved l hl0 hL_a0 hK_a0 hp H.size) (cwV (C := RX11) 0 hts (wg_V wm_RX11_165 wy_X11_mustBeUnmoved) rfl rfl rfl (by decide +kernel) ⟨Nat.le_of_ble_eq_true rfl, Nat.le_of_ble_eq_true rfl⟩) (w_preV hK hW hL_a0 hK_a0 (by decide) rfl) rfl rfl hl.1 rfl (lv_room (Nat.le_of_ble_eq_true rfl)) dX11_setSide_21 ⟨Nat.le_of_ble_eq_true rfl, Nat.le_of_ble_eq_true rfl⟩) hW (fun E ce q9 S9 H locs hp hW h1 h2 h3 => x_out hexc hlocks ⟨hE.trans hp.1, hp.2⟩ hW h1 h2 h3 (by decide) (by decide)) (fun S_4 H locs hp hW => ?_)
      obtain ⟨hX_S_4, hp⟩ := hp
      refine W.widen (k := 1) (n := 6) (by decide) (by decide) ?_
      have hE := hE.trans hX_S_4
      have hK_a0 : sK S_4 a0 = 16 := (hX_S_4.2 a0 hL_a0).1.trans hK_a0
      have hL_a0 : wM D S_4 a0 := hX_S_4.M hL_a0
      refine lv_aload_n hx hb dX11_setSide_24 rfl (lv_at hl 0 rfl) ?_
      obtain ⟨y_5, ey_5, hL_y_5, hK_y_5, hp⟩ := hp
      refine w_get (k := 16) (f := 2) (T := TX11) (v := .ref y_5) F hK hW hL_a0 hK_a0 (by decide) rfl rfl (by decide) i_16 k_28 (by rw [show wv 16 2 S_4 a0 = va_rf (sR S_4 a0 2) from rfl, ey_5]; rfl) dX11_setSide_25 ?_
      refine w_getN (k := 12) (f := 6) (T := TX7) (v := .int (sI S_4 y_5 6)) F hK hW hL_y_5 hK_y_5 (by decide) rfl rfl (by decide) i_12 (hK.2.1 (.fieldLinkNest "OpeningsCabinet" 175 "OpeningsCabinet$Position" "rights" "I" "OpeningsCabinet") (by decide +kernel)) rfl dX11_setSide_28 ?_
      refine lv_topi (fun x_6 ex_6 => ?_)
      replace hp := hp x_6 ex_6
      refine lv_istore_n (lv' := [(3, .int x_6), (0, .ref a0), (1, .int x1), (2, .int x2)]) hx hb dX11_setSide_31 rfl hl (by decide) rfl (fun ls hl => ?_)
      refine lv_aload_n hx hb dX11_setSide_32 rfl (lv_at hl 1 rfl) ?_
      obtain ⟨y_7, ey_7, hL_y_7, hK_y_7, hp⟩ := hp
      refine w_get (k := 16) (f := 2) (T := TX11) (v := .ref y_7) F hK hW hL_a0 hK_a0 (by decide) rfl rfl (by decide) i_16 k_28 (by rw [show wv 16 2 S_4 a0 = va_rf (sR S_4 a0 2) from rfl, ey_7]; rfl) dX11_setSide_33 ?_
      refine lv_iload_n hx hb dX11_setSide_36 rfl (lv_at hl 2 rfl) ?_
      obtain ⟨h_9, h_9f, hp⟩ := hp
      refine w_putIN (k := 12) (f := 5) (T := TX7) F hK hW hL_y_7 hK_y_7 (by decide) (by decide) rfl rfl (by decide) i_12 tyX7 tyX7_ok nmX7 (hK.2.1 (.fieldLinkNest "OpeningsCabinet" 183 "OpeningsCabinet$Position" "isWhite" "Z" "OpeningsCabinet") (by decide +kernel)) rfl rfl (ty := .boolean) rfl h_9 h_9f dX11_setSide_37 (fun H locs hW => ?_)
      obtain ⟨S_8, eS_8⟩ : ∃ z : wS, z = uI S_4 y_7 5 x1 := ⟨_, rfl⟩
      rw [← eS_8] at hW
      replace hp := hp S_8 eS_8
      have hX_S_8 : wX D S_4 S_8 := by rw [eS_8]; exact wX_uI
      have hE := hE.trans hX_S_8
      have hK_a0 : sK S_8 a0 = 16 := (hX_S_8.2 a0 hL_a0).1.trans hK_a0
      have hL_a0 : wM D S_8 a0 := hX_S_8.M hL_a0
      refine lv_aload_n hx hb dX11_setSide_40 rfl (lv_at hl 1 rfl) ?_
      obtain ⟨y_10, ey_10, hL_y_10, hK_y_10, hp⟩ := hp
      refine w_get (k := 16) (f := 2) (T := TX11) (v := .ref y_10) F hK hW hL_a0 hK_a0 (by decide) rfl rfl (by decide) i_16 k_28 (by rw [show wv 16 2 S_8 a0 = va_rf (sR S_8 a0 2) from rfl, ey_10]; rfl) dX11_setSide_41 ?_
      refine lv_iload_n hx hb dX11_setSide_44 rfl (lv_at hl 3 rfl) ?_
      refine w_putIN (k := 12) (f := 6) (T := TX7) F hK hW hL_y_10 hK_y_10 (by decide) (by decide) rfl rfl (by decide) i_12 tyX7 tyX7_ok nmX7 (hK.2.1 (.fieldLinkNest "OpeningsCabinet" 175 "OpeningsCabinet$Position" "rights" "I" "OpeningsCabinet") (by decide +kernel)) rfl rfl (ty := .int) rfl rfl rfl dX11_setSide_45 (fun H locs hW => ?_)
      obtain ⟨S_11, eS_11⟩ : ∃ z : wS, z = uI S_8 y_10 6 x2 := ⟨_, rfl⟩
      rw [← eS_11] at hW
      replace hp := hp S_11 eS_11
      have hX_S_11 : wX D S_8 S_11 := by rw [eS_11]; exact wX_uI
      have hE := hE.trans hX_S_11
      have hK_a0 : sK S_11 a0 = 16 := (hX_S_11.2 a0 hL_a0).1.trans hK_a0
      have hL_a0 : wM D S_11 a0 := hX_S_11.M hL_a0
      refine lv_aload_n hx hb dX11_setSide_48 rfl (lv_at hl 1 rfl) ?_
      obtain ⟨y_12, ey_12, hL_y_12, hK_y_12, hp⟩ := hp
      refine w_get (k := 16) (f := 2) (T := TX11) (v := .ref y_12) F hK hW hL_a0 hK_a0 (by decide) rfl rfl (by decide) i_16 k_28 (by rw [show wv 16 2 S_11 a0 = va_rf (sR S_11 a0 2) from rfl, ey_12]; rfl) dX11_setSide_49 ?_
      refine lv_iconst (v := (-1)) hx hb dX11_setSide_52 (by decide) ?_
      refine w_putIN (k := 12) (f := 7) (T := TX7) F hK hW hL_y_12 hK_y_12 (by decide) (by decide) rfl rfl (by decide) i_12 tyX7 tyX7_ok nmX7 (hK.2.1 (.fieldLinkNest "OpeningsCabinet" 178 "OpeningsCabinet$Position" "passing" "I" "OpeningsCabinet") (by decide +kernel)) rfl rfl (ty := .int) rfl rfl rfl dX11_setSide_53 (fun H locs hW => ?_)
      obtain ⟨S_13, eS_13⟩ : ∃ z : wS, z = uI S_11 y_12 7 (-1 : Int32) := ⟨_, rfl⟩
      rw [← eS_13] at hW
      replace hp := hp S_13 eS_13
      have hX_S_13 : wX D S_11 S_13 := by rw [eS_13]; exact wX_uI
      have hE := hE.trans hX_S_13
      have hK_a0 : sK S_13 a0 = 16 := (hX_S_13.2 a0 hL_a0).1.trans hK_a0
      have hL_a0 : wM D S_13 a0 := hX_S_13.M hL_a0
      refine lv_aload_n hx hb dX11_setSide_56 rfl (lv_at hl 1 rfl) ?_
      obtain ⟨y_14, ey_14, hL_y_14, hK_y_14, hp⟩ := hp
      refine w_get (k := 16) (f := 4) (T := TX11) (v := .ref y_14) F hK hW hL_a0 hK_a0 (by decide) rfl rfl (by decide) i_16 k_40 (by rw [show wv 16 4 S_13 a0 = va_rf (sR S_13 a0 4) from rfl, ey_14]; rfl) dX11_setSide_57 ?_
      refine lv_aload_n hx hb dX11_setSide_60 rfl (lv_at hl 1 rfl) ?_
      obtain ⟨y_15, ey_15, hL_y_15, hK_y_15, hp⟩ := hp
      refine w_get (k := 16) (f := 2) (T := TX11) (v := .ref y_15) F hK hW hL_a0 hK_a0 (by decide) rfl rfl (by decide) i_16 k_28 (by rw [show wv 16 2 S_13 a0 = va_rf (sR S_13 a0 2) from rfl, ey_15]; rfl) dX11_setSide_61 ?_
      refine w_callV (va_runV (As := [.ref y_15]) (rest := []) F (c_X3_begin l hL_y_14 hK_y_14 hL_y_15 hK_y_15 hp H.size) (cwV (C := RX3) 1 hts (wg_V wm_RX11_130 wy_X3_begin) rfl rfl rfl (by decide +kernel) ⟨Nat.le_of_ble_eq_true rfl, Nat.le_of_ble_eq_true rfl⟩) (w_preV hK hW hL_y_14 hK_y_14 (by decide) rfl) rfl rfl hl.1 rfl (lv_room (Nat.le_of_ble_eq_true rfl)) dX11_setSide_64 ⟨Nat.le_of_ble_eq_true rfl, Nat.le_of_ble_eq_true rfl⟩) hW (fun S_17 H locs hp hW => ?_)
      obtain ⟨hX_S_17, hp⟩ := hp
      refine W.widen (k := 1) (n := 6) (by decide) (by decide) ?_
      have hE := hE.trans hX_S_17
      have hK_a0 : sK S_17 a0 = 16 := (hX_S_17.2 a0 hL_a0).1.trans hK_a0
      have hL_a0 : wM D S_17 a0 := hX_S_17.M hL_a0
      refine lv_iload_n hx hb dX11_setSide_67 rfl (lv_at hl 0 rfl) ?_
      refine vx_ret ?_
      exact w_iret hx hb hr hlocks hW ⟨hE, hp⟩ dX11_setSide_68
    · replace hp := hp.2 c_2
      exact t_X11_setSide_10 F hr hlocks hK hl0 hexc hp hW hE (lv_sub hl [] rfl)
set_option maxHeartbeats 4000000 in
set_option maxRecDepth 100000 in
theorem c_X11_setSide (l : Launch) {D : wD} {cy : Nat → ClassId} {X : va_W} {S0 : wS} {post : Int32 → wS → Prop} {xp : String → wS → Prop} (hl0 : l.stackTraces = false) {a0 : Nat} {x1 : Int32} {x2 : Int32} (hL_a0 : wM D S0 a0) (hK_a0 : sK S0 a0 = 16) (hp : wp_X11_setSide D post xp S0 a0 x1 x2) : xI D cy X l yX11_setSide wz_X11_setSide r_X11_setSide [.ref a0, .int x1, .int x2] S0 (fun r S9 => wX D S0 S9 ∧ post r S9) (fun E S9 => wX D S0 S9 ∧ xp E S9) := by
  intro sz
  refine vx_ofW (cc := cX11_setSide) (maxL := 4) (ret := (some .int)) (by decide) rfl ?_
  intro p e s m args below meth c s₁ B hml hexc hv
  obtain ⟨rfl, hsz, hP, hK, hD0, hRO⟩ := hv
  have hts := atoms_spec (ws := wz_X11_setSide) B.pre
  have hown : s.vm.findClass RX11 = some m.cls := findClass_of_methodNamed B.named
  subst hsz
  have hD := hD0.self (sz := s.heap.size)
  have F : CallFix p m c cX11_setSide 4 s _ wz_X11_setSide RX11 := ⟨B.exec, B.bytes, hml, hown, hts⟩
  have hr := B.returns
  have hlocks := B.notSynchronized
  generalize hAe : va_A (wL cy X S0) s.heap.size = A at hD hK ⊢
  have hA : ∀ q, s.heap.size ≤ q → A q := fun q h => by rw [← hAe]; exact Or.inr h
  have hW : wO D cy X A s.heap S0 s.heap [] := ⟨hP, hD, va_S.rf, hA, hRO⟩
  have hl := lv_entry ([.ref a0, .int x1, .int x2]) (n := 4) (Nat.le_of_ble_eq_true rfl)
  rw [lg_entry_eq]
  generalize (lg_sl ([.ref a0, .int x1, .int x2]) ++ List.replicate (4 - (lg_sl ([.ref a0, .int x1, .int x2])).length) Slot.unset).toArray = ls at hl ⊢
  have hl : lv_has ls 4 [(0, .ref a0), (1, .int x1), (2, .int x2)] := hl
  unfold wp_X11_setSide at hp
  exact t_X11_setSide_0 F hr hlocks hK hl0 hexc hp hW wX.rf (lv_sub hl [0, 1, 2] rfl) hL_a0 hK_a0
def wp_X2_winsOf_27 (D : wD) (post : Int32 → wS → Prop)  (S : wS) (t0 : Int32) : Prop :=
post t0 S
def wp_X2_winsOf_26 (D : wD) (post : Int32 → wS → Prop)  (S : wS) : Prop :=
wp_X2_winsOf_27 D post S (0 : Int32)
def wp_X2_winsOf_0 (D : wD) (post : Int32 → wS → Prop)  (S : wS) (a0 : Nat) (x1 : Int32) : Prop :=
wp_X2_isWorkedOut D (fun r_1 S_2 => 
((r_1 = 0 → wp_X2_winsOf_26 D post S_2) ∧
 (¬ r_1 = 0 → ∃ y_4 : Nat, sR S_2 a0 2 = some y_4 ∧ wM D S_2 y_4 ∧ sK S_2 y_4 = 21 ∧
(((Int32.ofNat (sN S_2 y_4)) ≤ x1 → wp_X2_winsOf_26 D post S_2) ∧
 (¬ (Int32.ofNat (sN S_2 y_4)) ≤ x1 → ∃ y_6 : Nat, sR S_2 a0 2 = some y_6 ∧ wM D S_2 y_6 ∧ sK S_2 y_6 = 21 ∧
vp_in x1 (sN S_2 y_6) ∧
wp_X2_winsOf_27 D post S_2 (sI S_2 y_6 (x1).toNatClampNeg)))))) S a0 x1
abbrev r_X2_winsOf : Room := { frames := 1, cells := 0, slots := 0, locals := 21 }
def wp_X2_winsOf (D : wD) (post : Int32 → wS → Prop) (S : wS) (a0 : Nat) (x1 : Int32) : Prop := wp_X2_winsOf_0 D post S a0 x1
set_option maxHeartbeats 4000000 in
set_option maxRecDepth 100000 in
theorem t_X2_winsOf_27 {p : Program} {l : Launch} {e : Env} {s : State} {m : MethodId} {args : Array Value} {below : List Frame} {meth : Method} {c : Code} {D : wD} {cy : Nat → ClassId} {X : va_W} {A : Nat → Prop} {S0 : wS} {post : Int32 → wS → Prop} (F : CallFix p m c cX2_winsOf 2 s args wz_X2_winsOf RX2) (hr : meth.sig.returnType = (some .int)) (hlocks : meth.locks = false) (hK : wK D cy A s) : ∀ {S : wS} {H : Heap} {locs : List Loc} {ls : Array Slot} {t0 : Int32}, wp_X2_winsOf_27 D post S t0 → wO D cy X A s.heap S H locs → wX D S0 S → lv_has ls 2 [] → W p l e r_X2_winsOf s m args below meth c H locs 0 0 (MQ below (va_Qi (fun r S9 => wX D S0 S9 ∧ post r S9) (wB D cy X A) A) args s 0 0 A) (F0 m 27 ls [.int t0]) := by
  obtain ⟨hx, hb, hml, hown, hts⟩ := id F
  have hwg : ∀ w ∈ WG, w.before args s = true := fun w h => hts w (List.mem_cons_of_mem _ h)
  intro S H locs ls t0 hp hW hE hl
  unfold wp_X2_winsOf_27 at hp
  exact w_iret hx hb hr hlocks hW ⟨hE, hp⟩ dX2_winsOf_27
set_option maxHeartbeats 4000000 in
set_option maxRecDepth 100000 in
theorem t_X2_winsOf_26 {p : Program} {l : Launch} {e : Env} {s : State} {m : MethodId} {args : Array Value} {below : List Frame} {meth : Method} {c : Code} {D : wD} {cy : Nat → ClassId} {X : va_W} {A : Nat → Prop} {S0 : wS} {post : Int32 → wS → Prop} (F : CallFix p m c cX2_winsOf 2 s args wz_X2_winsOf RX2) (hr : meth.sig.returnType = (some .int)) (hlocks : meth.locks = false) (hK : wK D cy A s) : ∀ {S : wS} {H : Heap} {locs : List Loc} {ls : Array Slot}, wp_X2_winsOf_26 D post S → wO D cy X A s.heap S H locs → wX D S0 S → lv_has ls 2 [] → W p l e r_X2_winsOf s m args below meth c H locs 0 0 (MQ below (va_Qi (fun r S9 => wX D S0 S9 ∧ post r S9) (wB D cy X A) A) args s 0 0 A) (F0 m 26 ls []) := by
  obtain ⟨hx, hb, hml, hown, hts⟩ := id F
  have hwg : ∀ w ∈ WG, w.before args s = true := fun w h => hts w (List.mem_cons_of_mem _ h)
  intro S H locs ls hp hW hE hl
  unfold wp_X2_winsOf_26 at hp
  refine lv_iconst (v := 0) hx hb dX2_winsOf_26 (by decide) ?_
  exact t_X2_winsOf_27 F hr hlocks hK hp hW hE (lv_sub hl [] rfl)
set_option maxHeartbeats 4000000 in
set_option maxRecDepth 100000 in
theorem t_X2_winsOf_0 {p : Program} {l : Launch} {e : Env} {s : State} {m : MethodId} {args : Array Value} {below : List Frame} {meth : Method} {c : Code} {D : wD} {cy : Nat → ClassId} {X : va_W} {A : Nat → Prop} {S0 : wS} {post : Int32 → wS → Prop} (F : CallFix p m c cX2_winsOf 2 s args wz_X2_winsOf RX2) (hr : meth.sig.returnType = (some .int)) (hlocks : meth.locks = false) (hK : wK D cy A s) : ∀ {S : wS} {H : Heap} {locs : List Loc} {ls : Array Slot} {a0 : Nat} {x1 : Int32}, wp_X2_winsOf_0 D post S a0 x1 → wO D cy X A s.heap S H locs → wX D S0 S → lv_has ls 2 [(0, .ref a0), (1, .int x1)] → wM D S a0 → sK S a0 = 7 → W p l e r_X2_winsOf s m args below meth c H locs 0 0 (MQ below (va_Qi (fun r S9 => wX D S0 S9 ∧ post r S9) (wB D cy X A) A) args s 0 0 A) (F0 m 0 ls []) := by
  obtain ⟨hx, hb, hml, hown, hts⟩ := id F
  have hwg : ∀ w ∈ WG, w.before args s = true := fun w h => hts w (List.mem_cons_of_mem _ h)
  have i_7 : ∀ w ∈ u_ws RX2 TX2 8, w ∈ wz_X2_winsOf := fun w h => List.mem_cons_of_mem _ (wu_7 w h)
  have k_15 := hwg _ wf_RX2_15
  intro S H locs ls a0 x1 hp hW hE hl hL_a0 hK_a0
  unfold wp_X2_winsOf_0 at hp
  refine lv_aload_n hx hb dX2_winsOf_0 rfl (lv_at hl 0 rfl) ?_
  refine lv_iload_n hx hb dX2_winsOf_1 rfl (lv_at hl 1 rfl) ?_
  refine w_callI (va_runV (As := [.int x1]) (rest := []) F (c_X2_isWorkedOut l hL_a0 hK_a0 hp H.size) (cwV (C := RX2) 1 hts (wg_V wm_RX2_45 wy_X2_isWorkedOut) rfl rfl rfl (by decide +kernel) ⟨Nat.le_of_ble_eq_true rfl, Nat.le_of_ble_eq_true rfl⟩) (w_preV hK hW hL_a0 hK_a0 (by decide) rfl) rfl rfl hl.1 rfl (lv_room (Nat.le_of_ble_eq_true rfl)) dX2_winsOf_2 ⟨Nat.le_of_ble_eq_true rfl, Nat.le_of_ble_eq_true rfl⟩) hW (fun r_1 S_2 H locs hp hW => ?_)
  obtain ⟨hX_S_2, hp⟩ := hp
  refine W.widen (k := 0) (n := 0) (by decide) (by decide) ?_
  have hE := hE.trans hX_S_2
  have hK_a0 : sK S_2 a0 = 7 := (hX_S_2.2 a0 hL_a0).1.trans hK_a0
  have hL_a0 : wM D S_2 a0 := hX_S_2.M hL_a0
  refine lv_if_eq (tgt := 26) hx hb dX2_winsOf_5 (by decide) (fun c_3 => ?_) (fun c_3 => ?_)
  · replace hp := hp.1 c_3
    exact t_X2_winsOf_26 F hr hlocks hK hp hW hE (lv_sub hl [] rfl)
  · replace hp := hp.2 c_3
    refine lv_iload_n hx hb dX2_winsOf_8 rfl (lv_at hl 1 rfl) ?_
    refine lv_aload_n hx hb dX2_winsOf_9 rfl (lv_at hl 0 rfl) ?_
    obtain ⟨y_4, ey_4, hL_y_4, hK_y_4, hp⟩ := hp
    refine w_get (k := 7) (f := 2) (T := TX2) (v := .ref y_4) F hK hW hL_a0 hK_a0 (by decide) rfl rfl (by decide) i_7 k_15 (by rw [show wv 7 2 S_2 a0 = va_rf (sR S_2 a0 2) from rfl, ey_4]; rfl) dX2_winsOf_10 ?_
    refine w_len F hK hW hL_y_4 hK_y_4 (by decide) dX2_winsOf_13 ?_
    refine lv_icmp_ge (tgt := 26) hx hb dX2_winsOf_14 (by decide) (fun c_5 => ?_) (fun c_5 => ?_)
    · replace hp := hp.1 c_5
      exact t_X2_winsOf_26 F hr hlocks hK hp hW hE (lv_sub hl [] rfl)
    · replace hp := hp.2 c_5
      refine lv_aload_n hx hb dX2_winsOf_17 rfl (lv_at hl 0 rfl) ?_
      obtain ⟨y_6, ey_6, hL_y_6, hK_y_6, hp⟩ := hp
      refine w_get (k := 7) (f := 2) (T := TX2) (v := .ref y_6) F hK hW hL_a0 hK_a0 (by decide) rfl rfl (by decide) i_7 k_15 (by rw [show wv 7 2 S_2 a0 = va_rf (sR S_2 a0 2) from rfl, ey_6]; rfl) dX2_winsOf_18 ?_
      refine lv_iload_n hx hb dX2_winsOf_21 rfl (lv_at hl 1 rfl) ?_
      obtain ⟨h_7, hp⟩ := hp
      refine w_ild F hK hW hL_y_6 hK_y_6 h_7 dX2_winsOf_22 ?_
      refine lv_goto (tgt := 27) hx hb dX2_winsOf_23 (by decide) ?_
      exact t_X2_winsOf_27 F hr hlocks hK hp hW hE (lv_sub hl [] rfl)
set_option maxHeartbeats 4000000 in
set_option maxRecDepth 100000 in
theorem c_X2_winsOf (l : Launch) {D : wD} {cy : Nat → ClassId} {X : va_W} {S0 : wS} {post : Int32 → wS → Prop} {a0 : Nat} {x1 : Int32} (hL_a0 : wM D S0 a0) (hK_a0 : sK S0 a0 = 7) (hp : wp_X2_winsOf D post S0 a0 x1) : mI D cy X l yX2_winsOf wz_X2_winsOf r_X2_winsOf [.ref a0, .int x1] S0 (fun r S9 => wX D S0 S9 ∧ post r S9) := by
  intro sz
  refine Met.ofW (cc := cX2_winsOf) (maxL := 2) (ret := (some .int)) (by decide) rfl ?_
  intro p e s m args below meth c s₁ B hml hv
  obtain ⟨rfl, hsz, hP, hK, hD0, hRO⟩ := hv
  have hts := atoms_spec (ws := wz_X2_winsOf) B.pre
  have hown : s.vm.findClass RX2 = some m.cls := findClass_of_methodNamed B.named
  subst hsz
  have hD := hD0.self (sz := s.heap.size)
  have F : CallFix p m c cX2_winsOf 2 s _ wz_X2_winsOf RX2 := ⟨B.exec, B.bytes, hml, hown, hts⟩
  have hr := B.returns
  have hlocks := B.notSynchronized
  generalize hAe : va_A (wL cy X S0) s.heap.size = A at hD hK ⊢
  have hA : ∀ q, s.heap.size ≤ q → A q := fun q h => by rw [← hAe]; exact Or.inr h
  have hW : wO D cy X A s.heap S0 s.heap [] := ⟨hP, hD, va_S.rf, hA, hRO⟩
  have hl := lv_entry ([.ref a0, .int x1]) (n := 2) (Nat.le_of_ble_eq_true rfl)
  rw [lg_entry_eq]
  generalize (lg_sl ([.ref a0, .int x1]) ++ List.replicate (2 - (lg_sl ([.ref a0, .int x1])).length) Slot.unset).toArray = ls at hl ⊢
  have hl : lv_has ls 2 [(0, .ref a0), (1, .int x1)] := hl
  unfold wp_X2_winsOf at hp
  exact t_X2_winsOf_0 F hr hlocks hK hp hW wX.rf (lv_sub hl [0, 1] rfl) hL_a0 hK_a0
def wp_X2_isChecking_0 (D : wD) (post : Int32 → wS → Prop)  (S : wS) (a0 : Nat) (x1 : Int32) (x2 : Int32) (x3 : Int32) (x4 : Int32) : Prop :=
∃ y_1 : Nat, sR S a0 0 = some y_1 ∧ wM D S y_1 ∧ sK S y_1 = 5 ∧
wp_X0_reach D (fun r_2 S_3 => 
wp_X11_contains D (fun r_4 S_5 => 
narrow .boolean (.int r_4) = .int r_4 ∧ post r_4 S_5) S_3 r_2 x3) S y_1 x1 x4 ((jlshl (1 : Int64) x2) ||| (jlshl (1 : Int64) x3))
abbrev r_X2_isChecking : Room := { frames := 2, cells := 0, slots := 0, locals := 56 }
def wp_X2_isChecking (D : wD) (post : Int32 → wS → Prop) (S : wS) (a0 : Nat) (x1 : Int32) (x2 : Int32) (x3 : Int32) (x4 : Int32) : Prop := wp_X2_isChecking_0 D post S a0 x1 x2 x3 x4
set_option maxHeartbeats 4000000 in
set_option maxRecDepth 100000 in
theorem t_X2_isChecking_0 {p : Program} {l : Launch} {e : Env} {s : State} {m : MethodId} {args : Array Value} {below : List Frame} {meth : Method} {c : Code} {D : wD} {cy : Nat → ClassId} {X : va_W} {A : Nat → Prop} {S0 : wS} {post : Int32 → wS → Prop} (F : CallFix p m c cX2_isChecking 5 s args wz_X2_isChecking RX2) (hr : meth.sig.returnType = (some .boolean)) (hlocks : meth.locks = false) (hK : wK D cy A s) : ∀ {S : wS} {H : Heap} {locs : List Loc} {ls : Array Slot} {a0 : Nat} {x1 : Int32} {x2 : Int32} {x3 : Int32} {x4 : Int32}, wp_X2_isChecking_0 D post S a0 x1 x2 x3 x4 → wO D cy X A s.heap S H locs → wX D S0 S → lv_has ls 5 [(0, .ref a0), (1, .int x1), (2, .int x2), (3, .int x3), (4, .int x4)] → wM D S a0 → sK S a0 = 7 → W p l e r_X2_isChecking s m args below meth c H locs 0 0 (MQ below (va_Qi (fun r S9 => wX D S0 S9 ∧ post r S9) (wB D cy X A) A) args s 0 0 A) (F0 m 0 ls []) := by
  obtain ⟨hx, hb, hml, hown, hts⟩ := id F
  have hwg : ∀ w ∈ WG, w.before args s = true := fun w h => hts w (List.mem_cons_of_mem _ h)
  have i_7 : ∀ w ∈ u_ws RX2 TX2 8, w ∈ wz_X2_isChecking := fun w h => List.mem_cons_of_mem _ (wu_7 w h)
  have k_35 := hwg _ wf_RX2_35
  intro S H locs ls a0 x1 x2 x3 x4 hp hW hE hl hL_a0 hK_a0
  unfold wp_X2_isChecking_0 at hp
  refine lv_aload_n hx hb dX2_isChecking_0 rfl (lv_at hl 0 rfl) ?_
  obtain ⟨y_1, ey_1, hL_y_1, hK_y_1, hp⟩ := hp
  refine w_get (k := 7) (f := 0) (T := TX2) (v := .ref y_1) F hK hW hL_a0 hK_a0 (by decide) rfl rfl (by decide) i_7 k_35 (by rw [show wv 7 0 S a0 = va_rf (sR S a0 0) from rfl, ey_1]; rfl) dX2_isChecking_1 ?_
  refine lv_iload_n hx hb dX2_isChecking_4 rfl (lv_at hl 1 rfl) ?_
  refine lv_iload hx hb dX2_isChecking_5 (lv_at hl 4 rfl) ?_
  refine lv_lconst (v := 1) hx hb dX2_isChecking_7 (by decide) ?_
  refine lv_iload_n hx hb dX2_isChecking_8 rfl (lv_at hl 2 rfl) ?_
  refine lv_lshl (v := (jlshl (1 : Int64) x2)) hx hb dX2_isChecking_9 rfl ?_
  refine lv_lconst (v := 1) hx hb dX2_isChecking_10 (by decide) ?_
  refine lv_iload_n hx hb dX2_isChecking_11 rfl (lv_at hl 3 rfl) ?_
  refine lv_lshl (v := (jlshl (1 : Int64) x3)) hx hb dX2_isChecking_12 rfl ?_
  refine lv_lor hx hb dX2_isChecking_13 ?_
  refine w_callJ (va_runV (As := [.int x1, .int x4, .long ((jlshl (1 : Int64) x2) ||| (jlshl (1 : Int64) x3))]) (rest := []) F (c_X0_reach l hL_y_1 hK_y_1 hp H.size) (cwV (C := RX0) 3 hts (wg_V wm_RX2_130 wy_X0_reach) rfl rfl rfl (by decide +kernel) ⟨Nat.le_of_ble_eq_true rfl, Nat.le_of_ble_eq_true rfl⟩) (w_preV hK hW hL_y_1 hK_y_1 (by decide) rfl) rfl rfl hl.1 rfl (lv_room (Nat.le_of_ble_eq_true rfl)) dX2_isChecking_14 ⟨Nat.le_of_ble_eq_true rfl, Nat.le_of_ble_eq_true rfl⟩) hW (fun r_2 S_3 H locs hp hW => ?_)
  obtain ⟨hX_S_3, hp⟩ := hp
  refine W.widen (k := 0) (n := 0) (by decide) (by decide) ?_
  have hE := hE.trans hX_S_3
  have hK_a0 : sK S_3 a0 = 7 := (hX_S_3.2 a0 hL_a0).1.trans hK_a0
  have hL_a0 : wM D S_3 a0 := hX_S_3.M hL_a0
  refine lv_iload_n hx hb dX2_isChecking_17 rfl (lv_at hl 3 rfl) ?_
  refine w_callI (va_runSN (As := [.long r_2, .int x3]) (rest := []) F (c_X11_contains l hp H.size) ⟨va_cnB (host := "OpeningsCabinet") 2 hts (wg_cons wy_X11_contains.2.2) rfl rfl rfl (hK.2.1 (.methodLinkNest "OpeningsCabinet$Endings" 134 ⟨"OpeningsCabinet", "contains", "(JI)Z"⟩ "OpeningsCabinet") (by decide +kernel)) (hwg _ wy_X11_contains.2.1) ⟨by decide, by decide, by decide +kernel⟩ ⟨Nat.le_of_ble_eq_true rfl, Nat.le_of_ble_eq_true rfl⟩, hwg _ wy_X11_contains.1, trivial⟩ (w_preS hK hW) rfl rfl hl.1 rfl (lv_room (Nat.le_of_ble_eq_true rfl)) dX2_isChecking_18 ⟨Nat.le_of_ble_eq_true rfl, Nat.le_of_ble_eq_true rfl⟩) hW (fun r_4 S_5 H locs hp hW => ?_)
  obtain ⟨hX_S_5, hp⟩ := hp
  refine W.widen (k := 0) (n := 0) (by decide) (by decide) ?_
  have hE := hE.trans hX_S_5
  have hK_a0 : sK S_5 a0 = 7 := (hX_S_5.2 a0 hL_a0).1.trans hK_a0
  have hL_a0 : wM D S_5 a0 := hX_S_5.M hL_a0
  exact w_zret hx hb hr hlocks hW hp.1 ⟨hE, hp.2⟩ dX2_isChecking_21
set_option maxHeartbeats 4000000 in
set_option maxRecDepth 100000 in
theorem c_X2_isChecking (l : Launch) {D : wD} {cy : Nat → ClassId} {X : va_W} {S0 : wS} {post : Int32 → wS → Prop} {a0 : Nat} {x1 : Int32} {x2 : Int32} {x3 : Int32} {x4 : Int32} (hL_a0 : wM D S0 a0) (hK_a0 : sK S0 a0 = 7) (hp : wp_X2_isChecking D post S0 a0 x1 x2 x3 x4) : mI D cy X l yX2_isChecking wz_X2_isChecking r_X2_isChecking [.ref a0, .int x1, .int x2, .int x3, .int x4] S0 (fun r S9 => wX D S0 S9 ∧ post r S9) := by
  intro sz
  refine Met.ofW (cc := cX2_isChecking) (maxL := 5) (ret := (some .boolean)) (by decide) rfl ?_
  intro p e s m args below meth c s₁ B hml hv
  obtain ⟨rfl, hsz, hP, hK, hD0, hRO⟩ := hv
  have hts := atoms_spec (ws := wz_X2_isChecking) B.pre
  have hown : s.vm.findClass RX2 = some m.cls := findClass_of_methodNamed B.named
  subst hsz
  have hD := hD0.self (sz := s.heap.size)
  have F : CallFix p m c cX2_isChecking 5 s _ wz_X2_isChecking RX2 := ⟨B.exec, B.bytes, hml, hown, hts⟩
  have hr := B.returns
  have hlocks := B.notSynchronized
  generalize hAe : va_A (wL cy X S0) s.heap.size = A at hD hK ⊢
  have hA : ∀ q, s.heap.size ≤ q → A q := fun q h => by rw [← hAe]; exact Or.inr h
  have hW : wO D cy X A s.heap S0 s.heap [] := ⟨hP, hD, va_S.rf, hA, hRO⟩
  have hl := lv_entry ([.ref a0, .int x1, .int x2, .int x3, .int x4]) (n := 5) (Nat.le_of_ble_eq_true rfl)
  rw [lg_entry_eq]
  generalize (lg_sl ([.ref a0, .int x1, .int x2, .int x3, .int x4]) ++ List.replicate (5 - (lg_sl ([.ref a0, .int x1, .int x2, .int x3, .int x4])).length) Slot.unset).toArray = ls at hl ⊢
  have hl : lv_has ls 5 [(0, .ref a0), (1, .int x1), (2, .int x2), (3, .int x3), (4, .int x4)] := hl
  unfold wp_X2_isChecking at hp
  exact t_X2_isChecking_0 F hr hlocks hK hp hW wX.rf (lv_sub hl [0, 1, 2, 3, 4] rfl) hL_a0 hK_a0
def wp_X2_setValue_45 (D : wD) (post : wS → Prop)  (S : wS) : Prop :=
post S
def wp_X2_setValue_0 (D : wD) (post : wS → Prop)  (S : wS) (a0 : Nat) (x1 : Int32) (x2 : Int32) (x3 : Int32) : Prop :=
∀ x_1 : Int32, x_1 = (((x1 - (2 : Int32)) * (31250 : Int32)) + x2) →
((x2 < 0 → wp_X2_setValue_45 D post S) ∧
 (¬ x2 < 0 → (((31250 : Int32) ≤ x2 → wp_X2_setValue_45 D post S) ∧
 (¬ (31250 : Int32) ≤ x2 → ((x_1 < 0 → wp_X2_setValue_45 D post S) ∧
 (¬ x_1 < 0 → ∃ y_5 : Nat, sR S a0 4 = some y_5 ∧ wM D S y_5 ∧ sK S y_5 = 21 ∧
(((Int32.ofNat (sN S y_5)) ≤ x_1 → wp_X2_setValue_45 D post S) ∧
 (¬ (Int32.ofNat (sN S y_5)) ≤ x_1 → ∃ y_7 : Nat, sR S a0 4 = some y_7 ∧ wM D S y_7 ∧ sK S y_7 = 21 ∧
y_7 ∈ sL S ∧ vp_in x_1 (sN S y_7) ∧
∀ S_9 : wS, S_9 = uI S y_7 (x_1).toNatClampNeg x3 →
wp_X2_setValue_45 D post S_9))))))))
abbrev r_X2_setValue : Room := { frames := 0, cells := 0, slots := 0, locals := 0 }
def wp_X2_setValue (D : wD) (post : wS → Prop) (S : wS) (a0 : Nat) (x1 : Int32) (x2 : Int32) (x3 : Int32) : Prop := wp_X2_setValue_0 D post S a0 x1 x2 x3
set_option maxHeartbeats 4000000 in
set_option maxRecDepth 100000 in
theorem t_X2_setValue_45 {p : Program} {l : Launch} {e : Env} {s : State} {m : MethodId} {args : Array Value} {below : List Frame} {meth : Method} {c : Code} {D : wD} {cy : Nat → ClassId} {X : va_W} {A : Nat → Prop} {S0 : wS} {post : wS → Prop} (F : CallFix p m c cX2_setValue 5 s args wz_X2_setValue RX2) (hr : meth.sig.returnType = none) (hlocks : meth.locks = false) (hK : wK D cy A s) : ∀ {S : wS} {H : Heap} {locs : List Loc} {ls : Array Slot}, wp_X2_setValue_45 D post S → wO D cy X A s.heap S H locs → wX D S0 S → lv_has ls 5 [] → W p l e r_X2_setValue s m args below meth c H locs 0 0 (MQ below (va_Qv (fun S9 => wX D S0 S9 ∧ post S9) (wB D cy X A) A) args s 0 0 A) (F0 m 45 ls []) := by
  obtain ⟨hx, hb, hml, hown, hts⟩ := id F
  have hwg : ∀ w ∈ WG, w.before args s = true := fun w h => hts w (List.mem_cons_of_mem _ h)
  intro S H locs ls hp hW hE hl
  unfold wp_X2_setValue_45 at hp
  exact w_vret hx hb hr hlocks hW ⟨hE, hp⟩ dX2_setValue_45
set_option maxHeartbeats 4000000 in
set_option maxRecDepth 100000 in
theorem t_X2_setValue_0 {p : Program} {l : Launch} {e : Env} {s : State} {m : MethodId} {args : Array Value} {below : List Frame} {meth : Method} {c : Code} {D : wD} {cy : Nat → ClassId} {X : va_W} {A : Nat → Prop} {S0 : wS} {post : wS → Prop} (F : CallFix p m c cX2_setValue 5 s args wz_X2_setValue RX2) (hr : meth.sig.returnType = none) (hlocks : meth.locks = false) (hK : wK D cy A s) : ∀ {S : wS} {H : Heap} {locs : List Loc} {ls : Array Slot} {a0 : Nat} {x1 : Int32} {x2 : Int32} {x3 : Int32}, wp_X2_setValue_0 D post S a0 x1 x2 x3 → wO D cy X A s.heap S H locs → wX D S0 S → lv_has ls 5 [(0, .ref a0), (1, .int x1), (2, .int x2), (3, .int x3)] → wM D S a0 → sK S a0 = 7 → W p l e r_X2_setValue s m args below meth c H locs 0 0 (MQ below (va_Qv (fun S9 => wX D S0 S9 ∧ post S9) (wB D cy X A) A) args s 0 0 A) (F0 m 0 ls []) := by
  obtain ⟨hx, hb, hml, hown, hts⟩ := id F
  have hwg : ∀ w ∈ WG, w.before args s = true := fun w h => hts w (List.mem_cons_of_mem _ h)
  have i_7 : ∀ w ∈ u_ws RX2 TX2 8, w ∈ wz_X2_setValue := fun w h => List.mem_cons_of_mem _ (wu_7 w h)
  have k_22 := hwg _ wf_RX2_22
  intro S H locs ls a0 x1 x2 x3 hp hW hE hl hL_a0 hK_a0
  unfold wp_X2_setValue_0 at hp
  refine lv_iload_n hx hb dX2_setValue_0 rfl (lv_at hl 1 rfl) ?_
  refine lv_iconst (v := 2) hx hb dX2_setValue_1 (by decide) ?_
  refine lv_isub hx hb dX2_setValue_2 ?_
  refine lv_sipush (v := 31250) hx hb dX2_setValue_3 (by decide) ?_
  refine lv_imul hx hb dX2_setValue_6 ?_
  refine lv_iload_n hx hb dX2_setValue_7 rfl (lv_at hl 2 rfl) ?_
  refine lv_iadd hx hb dX2_setValue_8 ?_
  refine lv_topi (fun x_1 ex_1 => ?_)
  replace hp := hp x_1 ex_1
  refine lv_istore (lv' := [(4, .int x_1), (0, .ref a0), (1, .int x1), (2, .int x2), (3, .int x3)]) hx hb dX2_setValue_9 hl (by decide) rfl (fun ls hl => ?_)
  refine lv_iload_n hx hb dX2_setValue_11 rfl (lv_at hl 3 rfl) ?_
  refine lv_if_lt (tgt := 45) hx hb dX2_setValue_12 (by decide) (fun c_2 => ?_) (fun c_2 => ?_)
  · replace hp := hp.1 c_2
    exact t_X2_setValue_45 F hr hlocks hK hp hW hE (lv_sub hl [] rfl)
  · replace hp := hp.2 c_2
    refine lv_iload_n hx hb dX2_setValue_15 rfl (lv_at hl 3 rfl) ?_
    refine lv_sipush (v := 31250) hx hb dX2_setValue_16 (by decide) ?_
    refine lv_icmp_ge (tgt := 45) hx hb dX2_setValue_19 (by decide) (fun c_3 => ?_) (fun c_3 => ?_)
    · replace hp := hp.1 c_3
      exact t_X2_setValue_45 F hr hlocks hK hp hW hE (lv_sub hl [] rfl)
    · replace hp := hp.2 c_3
      refine lv_iload hx hb dX2_setValue_22 (lv_at hl 0 rfl) ?_
      refine lv_if_lt (tgt := 45) hx hb dX2_setValue_24 (by decide) (fun c_4 => ?_) (fun c_4 => ?_)
      · replace hp := hp.1 c_4
        exact t_X2_setValue_45 F hr hlocks hK hp hW hE (lv_sub hl [] rfl)
      · replace hp := hp.2 c_4
        refine lv_iload hx hb dX2_setValue_27 (lv_at hl 0 rfl) ?_
        refine lv_aload_n hx hb dX2_setValue_29 rfl (lv_at hl 1 rfl) ?_
        obtain ⟨y_5, ey_5, hL_y_5, hK_y_5, hp⟩ := hp
        refine w_get (k := 7) (f := 4) (T := TX2) (v := .ref y_5) F hK hW hL_a0 hK_a0 (by decide) rfl rfl (by decide) i_7 k_22 (by rw [show wv 7 4 S a0 = va_rf (sR S a0 4) from rfl, ey_5]; rfl) dX2_setValue_30 ?_
        refine w_len F hK hW hL_y_5 hK_y_5 (by decide) dX2_setValue_33 ?_
        refine lv_icmp_ge (tgt := 45) hx hb dX2_setValue_34 (by decide) (fun c_6 => ?_) (fun c_6 => ?_)
        · replace hp := hp.1 c_6
          exact t_X2_setValue_45 F hr hlocks hK hp hW hE (lv_sub hl [] rfl)
        · replace hp := hp.2 c_6
          refine lv_aload_n hx hb dX2_setValue_37 rfl (lv_at hl 1 rfl) ?_
          obtain ⟨y_7, ey_7, hL_y_7, hK_y_7, hp⟩ := hp
          refine w_get (k := 7) (f := 4) (T := TX2) (v := .ref y_7) F hK hW hL_a0 hK_a0 (by decide) rfl rfl (by decide) i_7 k_22 (by rw [show wv 7 4 S a0 = va_rf (sR S a0 4) from rfl, ey_7]; rfl) dX2_setValue_38 ?_
          refine lv_iload hx hb dX2_setValue_41 (lv_at hl 0 rfl) ?_
          refine lv_iload_n hx hb dX2_setValue_43 rfl (lv_at hl 4 rfl) ?_
          obtain ⟨h_8m, h_8, hp⟩ := hp
          refine w_ist F hK hW h_8m hK_y_7 h_8 dX2_setValue_44 (fun H locs hW => ?_)
          obtain ⟨S_9, eS_9⟩ : ∃ z : wS, z = uI S y_7 (x_1).toNatClampNeg x3 := ⟨_, rfl⟩
          rw [← eS_9] at hW
          replace hp := hp S_9 eS_9
          have hX_S_9 : wX D S S_9 := by rw [eS_9]; exact wX_uI
          have hE := hE.trans hX_S_9
          have hK_a0 : sK S_9 a0 = 7 := (hX_S_9.2 a0 hL_a0).1.trans hK_a0
          have hL_a0 : wM D S_9 a0 := hX_S_9.M hL_a0
          exact t_X2_setValue_45 F hr hlocks hK hp hW hE (lv_sub hl [] rfl)
set_option maxHeartbeats 4000000 in
set_option maxRecDepth 100000 in
theorem c_X2_setValue (l : Launch) {D : wD} {cy : Nat → ClassId} {X : va_W} {S0 : wS} {post : wS → Prop} {a0 : Nat} {x1 : Int32} {x2 : Int32} {x3 : Int32} (hL_a0 : wM D S0 a0) (hK_a0 : sK S0 a0 = 7) (hp : wp_X2_setValue D post S0 a0 x1 x2 x3) : mV D cy X l yX2_setValue wz_X2_setValue r_X2_setValue [.ref a0, .int x1, .int x2, .int x3] S0 (fun S9 => wX D S0 S9 ∧ post S9) := by
  intro sz
  refine Met.ofW (cc := cX2_setValue) (maxL := 5) (ret := none) (by decide) rfl ?_
  intro p e s m args below meth c s₁ B hml hv
  obtain ⟨rfl, hsz, hP, hK, hD0, hRO⟩ := hv
  have hts := atoms_spec (ws := wz_X2_setValue) B.pre
  have hown : s.vm.findClass RX2 = some m.cls := findClass_of_methodNamed B.named
  subst hsz
  have hD := hD0.self (sz := s.heap.size)
  have F : CallFix p m c cX2_setValue 5 s _ wz_X2_setValue RX2 := ⟨B.exec, B.bytes, hml, hown, hts⟩
  have hr := B.returns
  have hlocks := B.notSynchronized
  generalize hAe : va_A (wL cy X S0) s.heap.size = A at hD hK ⊢
  have hA : ∀ q, s.heap.size ≤ q → A q := fun q h => by rw [← hAe]; exact Or.inr h
  have hW : wO D cy X A s.heap S0 s.heap [] := ⟨hP, hD, va_S.rf, hA, hRO⟩
  have hl := lv_entry ([.ref a0, .int x1, .int x2, .int x3]) (n := 5) (Nat.le_of_ble_eq_true rfl)
  rw [lg_entry_eq]
  generalize (lg_sl ([.ref a0, .int x1, .int x2, .int x3]) ++ List.replicate (5 - (lg_sl ([.ref a0, .int x1, .int x2, .int x3])).length) Slot.unset).toArray = ls at hl ⊢
  have hl : lv_has ls 5 [(0, .ref a0), (1, .int x1), (2, .int x2), (3, .int x3)] := hl
  unfold wp_X2_setValue at hp
  exact t_X2_setValue_0 F hr hlocks hK hp hW wX.rf (lv_sub hl [0, 1, 2, 3] rfl) hL_a0 hK_a0
def wp_X2_win_46 (D : wD) (post : wS → Prop)  (S : wS) : Prop :=
post S
def wp_X2_win_0 (D : wD) (post : wS → Prop)  (S : wS) (a0 : Nat) (x1 : Int32) (x2 : Int32) (x3 : Int32) : Prop :=
(((sI S a0 7) < 0 → wp_X2_win_46 D post S) ∧
 (¬ (sI S a0 7) < 0 → ∃ y_2 : Nat, sR S a0 5 = some y_2 ∧ wM D S y_2 ∧ sK S y_2 = 21 ∧
(((Int32.ofNat (sN S y_2)) ≤ (sI S a0 7) → wp_X2_win_46 D post S) ∧
 (¬ (Int32.ofNat (sN S y_2)) ≤ (sI S a0 7) → wp_X2_setValue D (fun S_5 => 
∃ y_6 : Nat, sR S_5 a0 5 = some y_6 ∧ wM D S_5 y_6 ∧ sK S_5 y_6 = 21 ∧
y_6 ∈ sL S_5 ∧ vp_in (sI S_5 a0 7) (sN S_5 y_6) ∧
∀ S_8 : wS, S_8 = uI S_5 y_6 ((sI S_5 a0 7)).toNatClampNeg x2 →
∀ S_9 : wS, S_9 = uI S_8 a0 7 ((sI S_8 a0 7) + (1 : Int32)) →
wp_X2_win_46 D post S_9) S a0 x1 x2 x3))))
abbrev r_X2_win : Room := { frames := 1, cells := 0, slots := 0, locals := 24 }
def wp_X2_win (D : wD) (post : wS → Prop) (S : wS) (a0 : Nat) (x1 : Int32) (x2 : Int32) (x3 : Int32) : Prop := wp_X2_win_0 D post S a0 x1 x2 x3
set_option maxHeartbeats 4000000 in
set_option maxRecDepth 100000 in
theorem t_X2_win_46 {p : Program} {l : Launch} {e : Env} {s : State} {m : MethodId} {args : Array Value} {below : List Frame} {meth : Method} {c : Code} {D : wD} {cy : Nat → ClassId} {X : va_W} {A : Nat → Prop} {S0 : wS} {post : wS → Prop} (F : CallFix p m c cX2_win 4 s args wz_X2_win RX2) (hr : meth.sig.returnType = none) (hlocks : meth.locks = false) (hK : wK D cy A s) : ∀ {S : wS} {H : Heap} {locs : List Loc} {ls : Array Slot}, wp_X2_win_46 D post S → wO D cy X A s.heap S H locs → wX D S0 S → lv_has ls 4 [] → W p l e r_X2_win s m args below meth c H locs 0 0 (MQ below (va_Qv (fun S9 => wX D S0 S9 ∧ post S9) (wB D cy X A) A) args s 0 0 A) (F0 m 46 ls []) := by
  obtain ⟨hx, hb, hml, hown, hts⟩ := id F
  have hwg : ∀ w ∈ WG, w.before args s = true := fun w h => hts w (List.mem_cons_of_mem _ h)
  intro S H locs ls hp hW hE hl
  unfold wp_X2_win_46 at hp
  exact w_vret hx hb hr hlocks hW ⟨hE, hp⟩ dX2_win_46
set_option maxHeartbeats 4000000 in
set_option maxRecDepth 100000 in
theorem t_X2_win_0 {p : Program} {l : Launch} {e : Env} {s : State} {m : MethodId} {args : Array Value} {below : List Frame} {meth : Method} {c : Code} {D : wD} {cy : Nat → ClassId} {X : va_W} {A : Nat → Prop} {S0 : wS} {post : wS → Prop} (F : CallFix p m c cX2_win 4 s args wz_X2_win RX2) (hr : meth.sig.returnType = none) (hlocks : meth.locks = false) (hK : wK D cy A s) : ∀ {S : wS} {H : Heap} {locs : List Loc} {ls : Array Slot} {a0 : Nat} {x1 : Int32} {x2 : Int32} {x3 : Int32}, wp_X2_win_0 D post S a0 x1 x2 x3 → wO D cy X A s.heap S H locs → wX D S0 S → lv_has ls 4 [(0, .ref a0), (1, .int x1), (2, .int x2), (3, .int x3)] → wM D S a0 → sK S a0 = 7 → W p l e r_X2_win s m args below meth c H locs 0 0 (MQ below (va_Qv (fun S9 => wX D S0 S9 ∧ post S9) (wB D cy X A) A) args s 0 0 A) (F0 m 0 ls []) := by
  obtain ⟨hx, hb, hml, hown, hts⟩ := id F
  have hwg : ∀ w ∈ WG, w.before args s = true := fun w h => hts w (List.mem_cons_of_mem _ h)
  have i_7 : ∀ w ∈ u_ws RX2 TX2 8, w ∈ wz_X2_win := fun w h => List.mem_cons_of_mem _ (wu_7 w h)
  have k_25 := hwg _ wf_RX2_25
  have k_31 := hwg _ wf_RX2_31
  intro S H locs ls a0 x1 x2 x3 hp hW hE hl hL_a0 hK_a0
  unfold wp_X2_win_0 at hp
  refine lv_aload_n hx hb dX2_win_0 rfl (lv_at hl 0 rfl) ?_
  refine w_get (k := 7) (f := 7) (T := TX2) (v := .int (sI S a0 7)) F hK hW hL_a0 hK_a0 (by decide) rfl rfl (by decide) i_7 k_31 rfl dX2_win_1 ?_
  refine lv_if_lt (tgt := 46) hx hb dX2_win_4 (by decide) (fun c_1 => ?_) (fun c_1 => ?_)
  · replace hp := hp.1 c_1
    exact t_X2_win_46 F hr hlocks hK hp hW hE (lv_sub hl [] rfl)
  · replace hp := hp.2 c_1
    refine lv_aload_n hx hb dX2_win_7 rfl (lv_at hl 0 rfl) ?_
    refine w_get (k := 7) (f := 7) (T := TX2) (v := .int (sI S a0 7)) F hK hW hL_a0 hK_a0 (by decide) rfl rfl (by decide) i_7 k_31 rfl dX2_win_8 ?_
    refine lv_aload_n hx hb dX2_win_11 rfl (lv_at hl 0 rfl) ?_
    obtain ⟨y_2, ey_2, hL_y_2, hK_y_2, hp⟩ := hp
    refine w_get (k := 7) (f := 5) (T := TX2) (v := .ref y_2) F hK hW hL_a0 hK_a0 (by decide) rfl rfl (by decide) i_7 k_25 (by rw [show wv 7 5 S a0 = va_rf (sR S a0 5) from rfl, ey_2]; rfl) dX2_win_12 ?_
    refine w_len F hK hW hL_y_2 hK_y_2 (by decide) dX2_win_15 ?_
    refine lv_icmp_ge (tgt := 46) hx hb dX2_win_16 (by decide) (fun c_3 => ?_) (fun c_3 => ?_)
    · replace hp := hp.1 c_3
      exact t_X2_win_46 F hr hlocks hK hp hW hE (lv_sub hl [] rfl)
    · replace hp := hp.2 c_3
      refine lv_aload_n hx hb dX2_win_19 rfl (lv_at hl 0 rfl) ?_
      refine lv_iload_n hx hb dX2_win_20 rfl (lv_at hl 1 rfl) ?_
      refine lv_iload_n hx hb dX2_win_21 rfl (lv_at hl 2 rfl) ?_
      refine lv_iload_n hx hb dX2_win_22 rfl (lv_at hl 3 rfl) ?_
      refine w_callV (va_runV (As := [.int x1, .int x2, .int x3]) (rest := []) F (c_X2_setValue l hL_a0 hK_a0 hp H.size) (cwV (C := RX2) 3 hts (wg_V wm_RX2_142 wy_X2_setValue) rfl rfl rfl (by decide +kernel) ⟨Nat.le_of_ble_eq_true rfl, Nat.le_of_ble_eq_true rfl⟩) (w_preV hK hW hL_a0 hK_a0 (by decide) rfl) rfl rfl hl.1 rfl (lv_room (Nat.le_of_ble_eq_true rfl)) dX2_win_23 ⟨Nat.le_of_ble_eq_true rfl, Nat.le_of_ble_eq_true rfl⟩) hW (fun S_5 H locs hp hW => ?_)
      obtain ⟨hX_S_5, hp⟩ := hp
      refine W.widen (k := 0) (n := 0) (by decide) (by decide) ?_
      have hE := hE.trans hX_S_5
      have hK_a0 : sK S_5 a0 = 7 := (hX_S_5.2 a0 hL_a0).1.trans hK_a0
      have hL_a0 : wM D S_5 a0 := hX_S_5.M hL_a0
      refine lv_aload_n hx hb dX2_win_26 rfl (lv_at hl 0 rfl) ?_
      obtain ⟨y_6, ey_6, hL_y_6, hK_y_6, hp⟩ := hp
      refine w_get (k := 7) (f := 5) (T := TX2) (v := .ref y_6) F hK hW hL_a0 hK_a0 (by decide) rfl rfl (by decide) i_7 k_25 (by rw [show wv 7 5 S_5 a0 = va_rf (sR S_5 a0 5) from rfl, ey_6]; rfl) dX2_win_27 ?_
      refine lv_aload_n hx hb dX2_win_30 rfl (lv_at hl 0 rfl) ?_
      refine w_get (k := 7) (f := 7) (T := TX2) (v := .int (sI S_5 a0 7)) F hK hW hL_a0 hK_a0 (by decide) rfl rfl (by decide) i_7 k_31 rfl dX2_win_31 ?_
      refine lv_iload_n hx hb dX2_win_34 rfl (lv_at hl 2 rfl) ?_
      obtain ⟨h_7m, h_7, hp⟩ := hp
      refine w_ist F hK hW h_7m hK_y_6 h_7 dX2_win_35 (fun H locs hW => ?_)
      obtain ⟨S_8, eS_8⟩ : ∃ z : wS, z = uI S_5 y_6 ((sI S_5 a0 7)).toNatClampNeg x2 := ⟨_, rfl⟩
      rw [← eS_8] at hW
      replace hp := hp S_8 eS_8
      have hX_S_8 : wX D S_5 S_8 := by rw [eS_8]; exact wX_uI
      have hE := hE.trans hX_S_8
      have hK_a0 : sK S_8 a0 = 7 := (hX_S_8.2 a0 hL_a0).1.trans hK_a0
      have hL_a0 : wM D S_8 a0 := hX_S_8.M hL_a0
      refine lv_aload_n hx hb dX2_win_36 rfl (lv_at hl 0 rfl) ?_
      refine lv_dup hx hb dX2_win_37 rfl ?_
      refine w_get (k := 7) (f := 7) (T := TX2) (v := .int (sI S_8 a0 7)) F hK hW hL_a0 hK_a0 (by decide) rfl rfl (by decide) i_7 k_31 rfl dX2_win_38 ?_
      refine lv_iconst (v := 1) hx hb dX2_win_41 (by decide) ?_
      refine lv_iadd hx hb dX2_win_42 ?_
      refine w_putI (k := 7) (f := 7) (T := TX2) F hK hW hL_a0 hK_a0 (by decide) (by decide) rfl rfl (by decide) i_7 tyX2 tyX2_ok nmX2 k_31 rfl rfl (ty := .int) rfl rfl rfl dX2_win_43 (fun H locs hW => ?_)
      obtain ⟨S_9, eS_9⟩ : ∃ z : wS, z = uI S_8 a0 7 ((sI S_8 a0 7) + (1 : Int32)) := ⟨_, rfl⟩
      rw [← eS_9] at hW
      replace hp := hp S_9 eS_9
      have hX_S_9 : wX D S_8 S_9 := by rw [eS_9]; exact wX_uI
      have hE := hE.trans hX_S_9
      have hK_a0 : sK S_9 a0 = 7 := (hX_S_9.2 a0 hL_a0).1.trans hK_a0
      have hL_a0 : wM D S_9 a0 := hX_S_9.M hL_a0
      exact t_X2_win_46 F hr hlocks hK hp hW hE (lv_sub hl [] rfl)
set_option maxHeartbeats 4000000 in
set_option maxRecDepth 100000 in
theorem c_X2_win (l : Launch) {D : wD} {cy : Nat → ClassId} {X : va_W} {S0 : wS} {post : wS → Prop} {a0 : Nat} {x1 : Int32} {x2 : Int32} {x3 : Int32} (hL_a0 : wM D S0 a0) (hK_a0 : sK S0 a0 = 7) (hp : wp_X2_win D post S0 a0 x1 x2 x3) : mV D cy X l yX2_win wz_X2_win r_X2_win [.ref a0, .int x1, .int x2, .int x3] S0 (fun S9 => wX D S0 S9 ∧ post S9) := by
  intro sz
  refine Met.ofW (cc := cX2_win) (maxL := 4) (ret := none) (by decide) rfl ?_
  intro p e s m args below meth c s₁ B hml hv
  obtain ⟨rfl, hsz, hP, hK, hD0, hRO⟩ := hv
  have hts := atoms_spec (ws := wz_X2_win) B.pre
  have hown : s.vm.findClass RX2 = some m.cls := findClass_of_methodNamed B.named
  subst hsz
  have hD := hD0.self (sz := s.heap.size)
  have F : CallFix p m c cX2_win 4 s _ wz_X2_win RX2 := ⟨B.exec, B.bytes, hml, hown, hts⟩
  have hr := B.returns
  have hlocks := B.notSynchronized
  generalize hAe : va_A (wL cy X S0) s.heap.size = A at hD hK ⊢
  have hA : ∀ q, s.heap.size ≤ q → A q := fun q h => by rw [← hAe]; exact Or.inr h
  have hW : wO D cy X A s.heap S0 s.heap [] := ⟨hP, hD, va_S.rf, hA, hRO⟩
  have hl := lv_entry ([.ref a0, .int x1, .int x2, .int x3]) (n := 4) (Nat.le_of_ble_eq_true rfl)
  rw [lg_entry_eq]
  generalize (lg_sl ([.ref a0, .int x1, .int x2, .int x3]) ++ List.replicate (4 - (lg_sl ([.ref a0, .int x1, .int x2, .int x3])).length) Slot.unset).toArray = ls at hl ⊢
  have hl : lv_has ls 4 [(0, .ref a0), (1, .int x1), (2, .int x2), (3, .int x3)] := hl
  unfold wp_X2_win at hp
  exact t_X2_win_0 F hr hlocks hK hp hW wX.rf (lv_sub hl [0, 1, 2, 3] rfl) hL_a0 hK_a0
def wp_X2_countMovesOfBlack_172 (D : wD) (post : wS → Prop)  (S : wS) : Prop :=
post S
def wp_X2_countMovesOfBlack_138 (D : wD) (post : wS → Prop)  (S : wS) (a0 : Nat) (x1 : Int32) (x2 : Int32) (x3 : Int32) (x4 : Int32) (x5 : Int32) (x8 : Int32) : Prop :=
∃ y_1 : Nat, sR S a0 6 = some y_1 ∧ wM D S y_1 ∧ sK S y_1 = 21 ∧
y_1 ∈ sL S ∧ vp_in x5 (sN S y_1) ∧
∀ S_3 : wS, S_3 = uI S y_1 (x5).toNatClampNeg x8 →
((¬ x8 = 0 → wp_X2_countMovesOfBlack_172 D post S_3) ∧
 (x8 = 0 → wp_X2_isChecking D (fun r_5 S_6 => 
((r_5 = 0 → wp_X2_countMovesOfBlack_172 D post S_6) ∧
 (¬ r_5 = 0 → wp_X2_win D (fun S_9 => 
wp_X2_countMovesOfBlack_172 D post S_9) S_6 a0 x1 x5 (0 : Int32)))) S_3 a0 x1 x2 x3 x4))
def wp_X2_countMovesOfBlack_100 (D : wD) (post : wS → Prop) (k_56 : wS → Nat → Int32 → Int32 → Int32 → Int32 → Int32 → Int64 → Int32 → Int32 → Prop) (S : wS) (a0 : Nat) (x1 : Int32) (x2 : Int32) (x3 : Int32) (x4 : Int32) (x5 : Int32) (x6 : Int64) (x8 : Int32) (x9 : Int32) : Prop :=
∀ x_1 : Int32, x_1 = x9 + 1 →
k_56 S a0 x1 x2 x3 x4 x5 x6 x8 x_1
def wp_X2_countMovesOfBlack_56 (D : wD) (post : wS → Prop)  : Nat → wS → Nat → Int32 → Int32 → Int32 → Int32 → Int32 → Int64 → Int32 → Int32 → Prop
  | 0, _, _, _, _, _, _, _, _, _, _ => False
  | n + 1, S, a0, x1, x2, x3, x4, x5, x6, x8, x9 =>
    ∃ y_1 : Nat, sR S a0 0 = some y_1 ∧ wM D S y_1 ∧ sK S y_1 = 5 ∧
    (((sI S y_1 2) ≤ x9 → wp_X11_contains D (fun r_3 S_4 => 
    ((r_3 = 0 → wp_X2_countMovesOfBlack_138 D post S_4 a0 x1 x2 x3 x4 x5 x8) ∧
     (¬ r_3 = 0 → ∃ y_6 : Nat, sR S_4 a0 0 = some y_6 ∧ wM D S_4 y_6 ∧ sK S_4 y_6 = 5 ∧
    wp_X0_reach D (fun r_7 S_8 => 
    wp_X11_contains D (fun r_9 S_10 => 
    ((¬ r_9 = 0 → wp_X2_countMovesOfBlack_138 D post S_10 a0 x1 x2 x3 x4 x5 x8) ∧
     (r_9 = 0 → wp_X2_countMovesOfBlack_138 D post S_10 a0 x1 x2 x3 x4 x5 (100 : Int32)))) S_8 r_7 x4) S_4 y_6 (1 : Int32) x2 (0 : Int64)))) S x6 x4) ∧
     (¬ (sI S y_1 2) ≤ x9 → wp_X11_contains D (fun r_12 S_13 => 
    ((r_12 = 0 → wp_X2_countMovesOfBlack_100 D post (wp_X2_countMovesOfBlack_56 D post n) S_13 a0 x1 x2 x3 x4 x5 x6 x8 x9) ∧
     (¬ r_12 = 0 → wp_X2_indexOf D (fun r_15 S_16 => 
    wp_X2_valueAt D (fun r_17 S_18 => 
    ((r_17 = (-2 : Int32) → wp_X2_countMovesOfBlack_100 D post (wp_X2_countMovesOfBlack_56 D post n) S_18 a0 x1 x2 x3 x4 x5 x6 x8 x9) ∧
     (¬ r_17 = (-2 : Int32) → ∀ x_20 : Int32, x_20 = x8 + 1 →
    wp_X2_countMovesOfBlack_100 D post (wp_X2_countMovesOfBlack_56 D post n) S_18 a0 x1 x2 x3 x4 x5 x6 x_20 x9))) S_16 a0 x1 r_15) S_13 (1 : Int32) x2 x9 x4))) S x6 x9))
def wp_X2_countMovesOfBlack_37 (D : wD) (post : wS → Prop)  (S : wS) : Prop :=
post S
def wp_X2_countMovesOfBlack_0 (D : wD) (post : wS → Prop)  (S : wS) (a0 : Nat) (x1 : Int32) (x2 : Int32) (x3 : Int32) (x4 : Int32) : Prop :=
wp_X2_indexOf D (fun r_1 S_2 => 
wp_X2_valueAt D (fun r_3 S_4 => 
((r_3 = (-2 : Int32) → wp_X2_countMovesOfBlack_37 D post S_4) ∧
 (¬ r_3 = (-2 : Int32) → ((r_1 < 0 → wp_X2_countMovesOfBlack_37 D post S_4) ∧
 (¬ r_1 < 0 → ∃ y_7 : Nat, sR S_4 a0 6 = some y_7 ∧ wM D S_4 y_7 ∧ sK S_4 y_7 = 21 ∧
((r_1 < (Int32.ofNat (sN S_4 y_7)) → ∃ y_9 : Nat, sR S_4 a0 0 = some y_9 ∧ wM D S_4 y_9 ∧ sK S_4 y_9 = 5 ∧
wp_X0_reach D (fun r_10 S_11 => 
∃ n_12 : Nat, wp_X2_countMovesOfBlack_56 D post n_12 S_11 a0 x1 x2 x3 x4 r_1 r_10 (0 : Int32) (0 : Int32)) S_4 y_9 (1 : Int32) x3 (0 : Int64)) ∧
 (¬ r_1 < (Int32.ofNat (sN S_4 y_7)) → wp_X2_countMovesOfBlack_37 D post S_4))))))) S_2 a0 x1 r_1) S (0 : Int32) x2 x3 x4
abbrev r_X2_countMovesOfBlack : Room := { frames := 3, cells := 0, slots := 0, locals := 80 }
def wp_X2_countMovesOfBlack (D : wD) (post : wS → Prop) (S : wS) (a0 : Nat) (x1 : Int32) (x2 : Int32) (x3 : Int32) (x4 : Int32) : Prop := wp_X2_countMovesOfBlack_0 D post S a0 x1 x2 x3 x4
set_option maxHeartbeats 4000000 in
set_option maxRecDepth 100000 in
theorem t_X2_countMovesOfBlack_172 {p : Program} {l : Launch} {e : Env} {s : State} {m : MethodId} {args : Array Value} {below : List Frame} {meth : Method} {c : Code} {D : wD} {cy : Nat → ClassId} {X : va_W} {A : Nat → Prop} {S0 : wS} {post : wS → Prop} (F : CallFix p m c cX2_countMovesOfBlack 10 s args wz_X2_countMovesOfBlack RX2) (hr : meth.sig.returnType = none) (hlocks : meth.locks = false) (hK : wK D cy A s) : ∀ {S : wS} {H : Heap} {locs : List Loc} {ls : Array Slot}, wp_X2_countMovesOfBlack_172 D post S → wO D cy X A s.heap S H locs → wX D S0 S → lv_has ls 10 [] → W p l e r_X2_countMovesOfBlack s m args below meth c H locs 0 0 (MQ below (va_Qv (fun S9 => wX D S0 S9 ∧ post S9) (wB D cy X A) A) args s 0 0 A) (F0 m 172 ls []) := by
  obtain ⟨hx, hb, hml, hown, hts⟩ := id F
  have hwg : ∀ w ∈ WG, w.before args s = true := fun w h => hts w (List.mem_cons_of_mem _ h)
  intro S H locs ls hp hW hE hl
  unfold wp_X2_countMovesOfBlack_172 at hp
  exact w_vret hx hb hr hlocks hW ⟨hE, hp⟩ dX2_countMovesOfBlack_172
set_option maxHeartbeats 4000000 in
set_option maxRecDepth 100000 in
theorem t_X2_countMovesOfBlack_138 {p : Program} {l : Launch} {e : Env} {s : State} {m : MethodId} {args : Array Value} {below : List Frame} {meth : Method} {c : Code} {D : wD} {cy : Nat → ClassId} {X : va_W} {A : Nat → Prop} {S0 : wS} {post : wS → Prop} (F : CallFix p m c cX2_countMovesOfBlack 10 s args wz_X2_countMovesOfBlack RX2) (hr : meth.sig.returnType = none) (hlocks : meth.locks = false) (hK : wK D cy A s) : ∀ {S : wS} {H : Heap} {locs : List Loc} {ls : Array Slot} {a0 : Nat} {x1 : Int32} {x2 : Int32} {x3 : Int32} {x4 : Int32} {x5 : Int32} {x8 : Int32}, wp_X2_countMovesOfBlack_138 D post S a0 x1 x2 x3 x4 x5 x8 → wO D cy X A s.heap S H locs → wX D S0 S → lv_has ls 10 [(0, .ref a0), (1, .int x1), (2, .int x2), (3, .int x3), (4, .int x4), (5, .int x5), (8, .int x8)] → wM D S a0 → sK S a0 = 7 → W p l e r_X2_countMovesOfBlack s m args below meth c H locs 0 0 (MQ below (va_Qv (fun S9 => wX D S0 S9 ∧ post S9) (wB D cy X A) A) args s 0 0 A) (F0 m 138 ls []) := by
  obtain ⟨hx, hb, hml, hown, hts⟩ := id F
  have hwg : ∀ w ∈ WG, w.before args s = true := fun w h => hts w (List.mem_cons_of_mem _ h)
  have i_7 : ∀ w ∈ u_ws RX2 TX2 8, w ∈ wz_X2_countMovesOfBlack := fun w h => List.mem_cons_of_mem _ (wu_7 w h)
  have k_28 := hwg _ wf_RX2_28
  intro S H locs ls a0 x1 x2 x3 x4 x5 x8 hp hW hE hl hL_a0 hK_a0
  unfold wp_X2_countMovesOfBlack_138 at hp
  refine lv_aload_n hx hb dX2_countMovesOfBlack_138 rfl (lv_at hl 0 rfl) ?_
  obtain ⟨y_1, ey_1, hL_y_1, hK_y_1, hp⟩ := hp
  refine w_get (k := 7) (f := 6) (T := TX2) (v := .ref y_1) F hK hW hL_a0 hK_a0 (by decide) rfl rfl (by decide) i_7 k_28 (by rw [show wv 7 6 S a0 = va_rf (sR S a0 6) from rfl, ey_1]; rfl) dX2_countMovesOfBlack_139 ?_
  refine lv_iload hx hb dX2_countMovesOfBlack_142 (lv_at hl 5 rfl) ?_
  refine lv_iload hx hb dX2_countMovesOfBlack_144 (lv_at hl 6 rfl) ?_
  obtain ⟨h_2m, h_2, hp⟩ := hp
  refine w_ist F hK hW h_2m hK_y_1 h_2 dX2_countMovesOfBlack_146 (fun H locs hW => ?_)
  obtain ⟨S_3, eS_3⟩ : ∃ z : wS, z = uI S y_1 (x5).toNatClampNeg x8 := ⟨_, rfl⟩
  rw [← eS_3] at hW
  replace hp := hp S_3 eS_3
  have hX_S_3 : wX D S S_3 := by rw [eS_3]; exact wX_uI
  have hE := hE.trans hX_S_3
  have hK_a0 : sK S_3 a0 = 7 := (hX_S_3.2 a0 hL_a0).1.trans hK_a0
  have hL_a0 : wM D S_3 a0 := hX_S_3.M hL_a0
  refine lv_iload hx hb dX2_countMovesOfBlack_147 (lv_at hl 6 rfl) ?_
  refine lv_if_ne (tgt := 172) hx hb dX2_countMovesOfBlack_149 (by decide) (fun c_4 => ?_) (fun c_4 => ?_)
  · replace hp := hp.1 c_4
    exact t_X2_countMovesOfBlack_172 F hr hlocks hK hp hW hE (lv_sub hl [] rfl)
  · replace hp := hp.2 c_4
    refine lv_aload_n hx hb dX2_countMovesOfBlack_152 rfl (lv_at hl 0 rfl) ?_
    refine lv_iload_n hx hb dX2_countMovesOfBlack_153 rfl (lv_at hl 1 rfl) ?_
    refine lv_iload_n hx hb dX2_countMovesOfBlack_154 rfl (lv_at hl 2 rfl) ?_
    refine lv_iload_n hx hb dX2_countMovesOfBlack_155 rfl (lv_at hl 3 rfl) ?_
    refine lv_iload hx hb dX2_countMovesOfBlack_156 (lv_at hl 4 rfl) ?_
    refine w_callI (va_runV (As := [.int x1, .int x2, .int x3, .int x4]) (rest := []) F (c_X2_isChecking l hL_a0 hK_a0 hp H.size) (cwV (C := RX2) 4 hts (wg_V wm_RX2_138 wy_X2_isChecking) rfl rfl rfl (by decide +kernel) ⟨Nat.le_of_ble_eq_true rfl, Nat.le_of_ble_eq_true rfl⟩) (w_preV hK hW hL_a0 hK_a0 (by decide) rfl) rfl rfl hl.1 rfl (lv_room (Nat.le_of_ble_eq_true rfl)) dX2_countMovesOfBlack_158 ⟨Nat.le_of_ble_eq_true rfl, Nat.le_of_ble_eq_true rfl⟩) hW (fun r_5 S_6 H locs hp hW => ?_)
    obtain ⟨hX_S_6, hp⟩ := hp
    refine W.widen (k := 0) (n := 0) (by decide) (by decide) ?_
    have hE := hE.trans hX_S_6
    have hK_a0 : sK S_6 a0 = 7 := (hX_S_6.2 a0 hL_a0).1.trans hK_a0
    have hL_a0 : wM D S_6 a0 := hX_S_6.M hL_a0
    refine lv_if_eq (tgt := 172) hx hb dX2_countMovesOfBlack_161 (by decide) (fun c_7 => ?_) (fun c_7 => ?_)
    · replace hp := hp.1 c_7
      exact t_X2_countMovesOfBlack_172 F hr hlocks hK hp hW hE (lv_sub hl [] rfl)
    · replace hp := hp.2 c_7
      refine lv_aload_n hx hb dX2_countMovesOfBlack_164 rfl (lv_at hl 0 rfl) ?_
      refine lv_iload_n hx hb dX2_countMovesOfBlack_165 rfl (lv_at hl 1 rfl) ?_
      refine lv_iload hx hb dX2_countMovesOfBlack_166 (lv_at hl 5 rfl) ?_
      refine lv_iconst (v := 0) hx hb dX2_countMovesOfBlack_168 (by decide) ?_
      refine w_callV (va_runV (As := [.int x1, .int x5, .int (0 : Int32)]) (rest := []) F (c_X2_win l hL_a0 hK_a0 hp H.size) (cwV (C := RX2) 3 hts (wg_V wm_RX2_146 wy_X2_win) rfl rfl rfl (by decide +kernel) ⟨Nat.le_of_ble_eq_true rfl, Nat.le_of_ble_eq_true rfl⟩) (w_preV hK hW hL_a0 hK_a0 (by decide) rfl) rfl rfl hl.1 rfl (lv_room (Nat.le_of_ble_eq_true rfl)) dX2_countMovesOfBlack_169 ⟨Nat.le_of_ble_eq_true rfl, Nat.le_of_ble_eq_true rfl⟩) hW (fun S_9 H locs hp hW => ?_)
      obtain ⟨hX_S_9, hp⟩ := hp
      refine W.widen (k := 0) (n := 0) (by decide) (by decide) ?_
      have hE := hE.trans hX_S_9
      have hK_a0 : sK S_9 a0 = 7 := (hX_S_9.2 a0 hL_a0).1.trans hK_a0
      have hL_a0 : wM D S_9 a0 := hX_S_9.M hL_a0
      exact t_X2_countMovesOfBlack_172 F hr hlocks hK hp hW hE (lv_sub hl [] rfl)
set_option maxHeartbeats 4000000 in
set_option maxRecDepth 100000 in
theorem t_X2_countMovesOfBlack_100 {p : Program} {l : Launch} {e : Env} {s : State} {m : MethodId} {args : Array Value} {below : List Frame} {meth : Method} {c : Code} {D : wD} {cy : Nat → ClassId} {X : va_W} {A : Nat → Prop} {S0 : wS} {post : wS → Prop} (F : CallFix p m c cX2_countMovesOfBlack 10 s args wz_X2_countMovesOfBlack RX2) (hr : meth.sig.returnType = none) (hlocks : meth.locks = false) (hK : wK D cy A s) {k_56 : wS → Nat → Int32 → Int32 → Int32 → Int32 → Int32 → Int64 → Int32 → Int32 → Prop} (q_56 : ∀ {S : wS} {H : Heap} {locs : List Loc} {ls : Array Slot} {a0 : Nat} {x1 : Int32} {x2 : Int32} {x3 : Int32} {x4 : Int32} {x5 : Int32} {x6 : Int64} {x8 : Int32} {x9 : Int32}, k_56 S a0 x1 x2 x3 x4 x5 x6 x8 x9 → wO D cy X A s.heap S H locs → wX D S0 S → lv_has ls 10 [(0, .ref a0), (1, .int x1), (2, .int x2), (3, .int x3), (4, .int x4), (5, .int x5), (6, .long x6), (8, .int x8), (9, .int x9)] → wM D S a0 → sK S a0 = 7 → W p l e r_X2_countMovesOfBlack s m args below meth c H locs 0 0 (MQ below (va_Qv (fun S9 => wX D S0 S9 ∧ post S9) (wB D cy X A) A) args s 0 0 A) (F0 m 56 ls [])) : ∀ {S : wS} {H : Heap} {locs : List Loc} {ls : Array Slot} {a0 : Nat} {x1 : Int32} {x2 : Int32} {x3 : Int32} {x4 : Int32} {x5 : Int32} {x6 : Int64} {x8 : Int32} {x9 : Int32}, wp_X2_countMovesOfBlack_100 D post k_56 S a0 x1 x2 x3 x4 x5 x6 x8 x9 → wO D cy X A s.heap S H locs → wX D S0 S → lv_has ls 10 [(0, .ref a0), (1, .int x1), (2, .int x2), (3, .int x3), (4, .int x4), (5, .int x5), (6, .long x6), (8, .int x8), (9, .int x9)] → wM D S a0 → sK S a0 = 7 → W p l e r_X2_countMovesOfBlack s m args below meth c H locs 0 0 (MQ below (va_Qv (fun S9 => wX D S0 S9 ∧ post S9) (wB D cy X A) A) args s 0 0 A) (F0 m 100 ls []) := by
  obtain ⟨hx, hb, hml, hown, hts⟩ := id F
  have hwg : ∀ w ∈ WG, w.before args s = true := fun w h => hts w (List.mem_cons_of_mem _ h)
  intro S H locs ls a0 x1 x2 x3 x4 x5 x6 x8 x9 hp hW hE hl hL_a0 hK_a0
  unfold wp_X2_countMovesOfBlack_100 at hp
  obtain ⟨x_1, ex_1⟩ : ∃ z : Int32, z = x9 + 1 := ⟨_, rfl⟩
  replace hp := hp x_1 ex_1
  refine lv_iinc (v := x_1) (lv' := [(9, .int x_1), (0, .ref a0), (1, .int x1), (2, .int x2), (3, .int x3), (4, .int x4), (5, .int x5), (6, .long x6), (8, .int x8)]) hx hb dX2_countMovesOfBlack_100 hl (k := 8) rfl (by rw [ex_1]; rfl) (by decide) rfl (fun ls hl => ?_)
  refine lv_goto (tgt := 56) hx hb dX2_countMovesOfBlack_103 (by decide) ?_
  exact q_56 hp hW hE (lv_sub hl [1, 2, 3, 4, 5, 6, 7, 8, 0] rfl) hL_a0 hK_a0
set_option maxHeartbeats 4000000 in
set_option maxRecDepth 100000 in
theorem t_X2_countMovesOfBlack_56 {p : Program} {l : Launch} {e : Env} {s : State} {m : MethodId} {args : Array Value} {below : List Frame} {meth : Method} {c : Code} {D : wD} {cy : Nat → ClassId} {X : va_W} {A : Nat → Prop} {S0 : wS} {post : wS → Prop} (F : CallFix p m c cX2_countMovesOfBlack 10 s args wz_X2_countMovesOfBlack RX2) (hr : meth.sig.returnType = none) (hlocks : meth.locks = false) (hK : wK D cy A s) : ∀ (n : Nat) {S : wS} {H : Heap} {locs : List Loc} {ls : Array Slot} {a0 : Nat} {x1 : Int32} {x2 : Int32} {x3 : Int32} {x4 : Int32} {x5 : Int32} {x6 : Int64} {x8 : Int32} {x9 : Int32}, wp_X2_countMovesOfBlack_56 D post n S a0 x1 x2 x3 x4 x5 x6 x8 x9 → wO D cy X A s.heap S H locs → wX D S0 S → lv_has ls 10 [(0, .ref a0), (1, .int x1), (2, .int x2), (3, .int x3), (4, .int x4), (5, .int x5), (6, .long x6), (8, .int x8), (9, .int x9)] → wM D S a0 → sK S a0 = 7 → W p l e r_X2_countMovesOfBlack s m args below meth c H locs 0 0 (MQ below (va_Qv (fun S9 => wX D S0 S9 ∧ post S9) (wB D cy X A) A) args s 0 0 A) (F0 m 56 ls []) := by
  obtain ⟨hx, hb, hml, hown, hts⟩ := id F
  have hwg : ∀ w ∈ WG, w.before args s = true := fun w h => hts w (List.mem_cons_of_mem _ h)
  have i_5 : ∀ w ∈ u_ws RX0 TX0 12, w ∈ wz_X2_countMovesOfBlack := fun w h => List.mem_cons_of_mem _ (wu_5 w h)
  have i_7 : ∀ w ∈ u_ws RX2 TX2 8, w ∈ wz_X2_countMovesOfBlack := fun w h => List.mem_cons_of_mem _ (wu_7 w h)
  have k_35 := hwg _ wf_RX2_35
  intro n
  induction n with
  | zero =>
    intro S H locs ls a0 x1 x2 x3 x4 x5 x6 x8 x9 hp
    exact hp.elim
  | succ n ih =>
    intro S H locs ls a0 x1 x2 x3 x4 x5 x6 x8 x9 hp hW hE hl hL_a0 hK_a0
    unfold wp_X2_countMovesOfBlack_56 at hp
    refine lv_iload hx hb dX2_countMovesOfBlack_56 (lv_at hl 8 rfl) ?_
    refine lv_aload_n hx hb dX2_countMovesOfBlack_58 rfl (lv_at hl 0 rfl) ?_
    obtain ⟨y_1, ey_1, hL_y_1, hK_y_1, hp⟩ := hp
    refine w_get (k := 7) (f := 0) (T := TX2) (v := .ref y_1) F hK hW hL_a0 hK_a0 (by decide) rfl rfl (by decide) i_7 k_35 (by rw [show wv 7 0 S a0 = va_rf (sR S a0 0) from rfl, ey_1]; rfl) dX2_countMovesOfBlack_59 ?_
    refine w_getN (k := 5) (f := 2) (T := TX0) (v := .int (sI S y_1 2)) F hK hW hL_y_1 hK_y_1 (by decide) rfl rfl (by decide) i_5 (hK.2.1 (.fieldLinkNest "OpeningsCabinet$Endings" 104 "OpeningsCabinet$Board" "size" "I" "OpeningsCabinet") (by decide +kernel)) rfl dX2_countMovesOfBlack_62 ?_
    refine lv_icmp_ge (tgt := 106) hx hb dX2_countMovesOfBlack_65 (by decide) (fun c_2 => ?_) (fun c_2 => ?_)
    · replace hp := hp.1 c_2
      refine lv_lload hx hb dX2_countMovesOfBlack_106 (lv_at hl 6 rfl) ?_
      refine lv_iload hx hb dX2_countMovesOfBlack_108 (lv_at hl 4 rfl) ?_
      refine w_callI (va_runSN (As := [.long x6, .int x4]) (rest := []) F (c_X11_contains l hp H.size) ⟨va_cnB (host := "OpeningsCabinet") 2 hts (wg_cons wy_X11_contains.2.2) rfl rfl rfl (hK.2.1 (.methodLinkNest "OpeningsCabinet$Endings" 134 ⟨"OpeningsCabinet", "contains", "(JI)Z"⟩ "OpeningsCabinet") (by decide +kernel)) (hwg _ wy_X11_contains.2.1) ⟨by decide, by decide, by decide +kernel⟩ ⟨Nat.le_of_ble_eq_true rfl, Nat.le_of_ble_eq_true rfl⟩, hwg _ wy_X11_contains.1, trivial⟩ (w_preS hK hW) rfl rfl hl.1 rfl (lv_room (Nat.le_of_ble_eq_true rfl)) dX2_countMovesOfBlack_110 ⟨Nat.le_of_ble_eq_true rfl, Nat.le_of_ble_eq_true rfl⟩) hW (fun r_3 S_4 H locs hp hW => ?_)
      obtain ⟨hX_S_4, hp⟩ := hp
      refine W.widen (k := 0) (n := 0) (by decide) (by decide) ?_
      have hE := hE.trans hX_S_4
      have hK_a0 : sK S_4 a0 = 7 := (hX_S_4.2 a0 hL_a0).1.trans hK_a0
      have hL_a0 : wM D S_4 a0 := hX_S_4.M hL_a0
      refine lv_if_eq (tgt := 138) hx hb dX2_countMovesOfBlack_113 (by decide) (fun c_5 => ?_) (fun c_5 => ?_)
      · replace hp := hp.1 c_5
        exact t_X2_countMovesOfBlack_138 F hr hlocks hK hp hW hE (lv_sub hl [0, 1, 2, 3, 4, 5, 7] rfl) hL_a0 hK_a0
      · replace hp := hp.2 c_5
        refine lv_aload_n hx hb dX2_countMovesOfBlack_116 rfl (lv_at hl 0 rfl) ?_
        obtain ⟨y_6, ey_6, hL_y_6, hK_y_6, hp⟩ := hp
        refine w_get (k := 7) (f := 0) (T := TX2) (v := .ref y_6) F hK hW hL_a0 hK_a0 (by decide) rfl rfl (by decide) i_7 k_35 (by rw [show wv 7 0 S_4 a0 = va_rf (sR S_4 a0 0) from rfl, ey_6]; rfl) dX2_countMovesOfBlack_117 ?_
        refine lv_iconst (v := 1) hx hb dX2_countMovesOfBlack_120 (by decide) ?_
        refine lv_iload_n hx hb dX2_countMovesOfBlack_121 rfl (lv_at hl 2 rfl) ?_
        refine lv_lconst (v := 0) hx hb dX2_countMovesOfBlack_122 (by decide) ?_
        refine w_callJ (va_runV (As := [.int (1 : Int32), .int x2, .long (0 : Int64)]) (rest := []) F (c_X0_reach l hL_y_6 hK_y_6 hp H.size) (cwV (C := RX0) 3 hts (wg_V wm_RX2_130 wy_X0_reach) rfl rfl rfl (by decide +kernel) ⟨Nat.le_of_ble_eq_true rfl, Nat.le_of_ble_eq_true rfl⟩) (w_preV hK hW hL_y_6 hK_y_6 (by decide) rfl) rfl rfl hl.1 rfl (lv_room (Nat.le_of_ble_eq_true rfl)) dX2_countMovesOfBlack_123 ⟨Nat.le_of_ble_eq_true rfl, Nat.le_of_ble_eq_true rfl⟩) hW (fun r_7 S_8 H locs hp hW => ?_)
        obtain ⟨hX_S_8, hp⟩ := hp
        refine W.widen (k := 0) (n := 0) (by decide) (by decide) ?_
        have hE := hE.trans hX_S_8
        have hK_a0 : sK S_8 a0 = 7 := (hX_S_8.2 a0 hL_a0).1.trans hK_a0
        have hL_a0 : wM D S_8 a0 := hX_S_8.M hL_a0
        refine lv_iload hx hb dX2_countMovesOfBlack_126 (lv_at hl 4 rfl) ?_
        refine w_callI (va_runSN (As := [.long r_7, .int x4]) (rest := []) F (c_X11_contains l hp H.size) ⟨va_cnB (host := "OpeningsCabinet") 2 hts (wg_cons wy_X11_contains.2.2) rfl rfl rfl (hK.2.1 (.methodLinkNest "OpeningsCabinet$Endings" 134 ⟨"OpeningsCabinet", "contains", "(JI)Z"⟩ "OpeningsCabinet") (by decide +kernel)) (hwg _ wy_X11_contains.2.1) ⟨by decide, by decide, by decide +kernel⟩ ⟨Nat.le_of_ble_eq_true rfl, Nat.le_of_ble_eq_true rfl⟩, hwg _ wy_X11_contains.1, trivial⟩ (w_preS hK hW) rfl rfl hl.1 rfl (lv_room (Nat.le_of_ble_eq_true rfl)) dX2_countMovesOfBlack_128 ⟨Nat.le_of_ble_eq_true rfl, Nat.le_of_ble_eq_true rfl⟩) hW (fun r_9 S_10 H locs hp hW => ?_)
        obtain ⟨hX_S_10, hp⟩ := hp
        refine W.widen (k := 0) (n := 0) (by decide) (by decide) ?_
        have hE := hE.trans hX_S_10
        have hK_a0 : sK S_10 a0 = 7 := (hX_S_10.2 a0 hL_a0).1.trans hK_a0
        have hL_a0 : wM D S_10 a0 := hX_S_10.M hL_a0
        refine lv_if_ne (tgt := 138) hx hb dX2_countMovesOfBlack_131 (by decide) (fun c_11 => ?_) (fun c_11 => ?_)
        · replace hp := hp.1 c_11
          exact t_X2_countMovesOfBlack_138 F hr hlocks hK hp hW hE (lv_sub hl [0, 1, 2, 3, 4, 5, 7] rfl) hL_a0 hK_a0
        · replace hp := hp.2 c_11
          refine lv_bipush (v := 100) hx hb dX2_countMovesOfBlack_134 (by decide) ?_
          refine lv_istore (lv' := [(8, .int (100 : Int32)), (0, .ref a0), (1, .int x1), (2, .int x2), (3, .int x3), (4, .int x4), (5, .int x5), (6, .long x6), (9, .int x9)]) hx hb dX2_countMovesOfBlack_136 hl (by decide) rfl (fun ls hl => ?_)
          exact t_X2_countMovesOfBlack_138 F hr hlocks hK hp hW hE (lv_sub hl [1, 2, 3, 4, 5, 6, 0] rfl) hL_a0 hK_a0
    · replace hp := hp.2 c_2
      refine lv_lload hx hb dX2_countMovesOfBlack_68 (lv_at hl 6 rfl) ?_
      refine lv_iload hx hb dX2_countMovesOfBlack_70 (lv_at hl 8 rfl) ?_
      refine w_callI (va_runSN (As := [.long x6, .int x9]) (rest := []) F (c_X11_contains l hp H.size) ⟨va_cnB (host := "OpeningsCabinet") 2 hts (wg_cons wy_X11_contains.2.2) rfl rfl rfl (hK.2.1 (.methodLinkNest "OpeningsCabinet$Endings" 134 ⟨"OpeningsCabinet", "contains", "(JI)Z"⟩ "OpeningsCabinet") (by decide +kernel)) (hwg _ wy_X11_contains.2.1) ⟨by decide, by decide, by decide +kernel⟩ ⟨Nat.le_of_ble_eq_true rfl, Nat.le_of_ble_eq_true rfl⟩, hwg _ wy_X11_contains.1, trivial⟩ (w_preS hK hW) rfl rfl hl.1 rfl (lv_room (Nat.le_of_ble_eq_true rfl)) dX2_countMovesOfBlack_72 ⟨Nat.le_of_ble_eq_true rfl, Nat.le_of_ble_eq_true rfl⟩) hW (fun r_12 S_13 H locs hp hW => ?_)
      obtain ⟨hX_S_13, hp⟩ := hp
      refine W.widen (k := 0) (n := 0) (by decide) (by decide) ?_
      have hE := hE.trans hX_S_13
      have hK_a0 : sK S_13 a0 = 7 := (hX_S_13.2 a0 hL_a0).1.trans hK_a0
      have hL_a0 : wM D S_13 a0 := hX_S_13.M hL_a0
      refine lv_if_eq (tgt := 100) hx hb dX2_countMovesOfBlack_75 (by decide) (fun c_14 => ?_) (fun c_14 => ?_)
      · replace hp := hp.1 c_14
        exact t_X2_countMovesOfBlack_100 F hr hlocks hK ih hp hW hE (lv_sub hl [0, 1, 2, 3, 4, 5, 6, 7, 8] rfl) hL_a0 hK_a0
      · replace hp := hp.2 c_14
        refine lv_aload_n hx hb dX2_countMovesOfBlack_78 rfl (lv_at hl 0 rfl) ?_
        refine lv_iload_n hx hb dX2_countMovesOfBlack_79 rfl (lv_at hl 1 rfl) ?_
        refine lv_iconst (v := 1) hx hb dX2_countMovesOfBlack_80 (by decide) ?_
        refine lv_iload_n hx hb dX2_countMovesOfBlack_81 rfl (lv_at hl 2 rfl) ?_
        refine lv_iload hx hb dX2_countMovesOfBlack_82 (lv_at hl 8 rfl) ?_
        refine lv_iload hx hb dX2_countMovesOfBlack_84 (lv_at hl 4 rfl) ?_
        refine w_callI (va_runS (As := [.int (1 : Int32), .int x2, .int x9, .int x4]) (rest := [.int x1, .ref a0]) F (c_X2_indexOf l hp H.size) (va_cwS 4 hts (wg_S wm_RX2_96 wy_X2_indexOf) rfl rfl rfl (by decide +kernel) ⟨Nat.le_of_ble_eq_true rfl, Nat.le_of_ble_eq_true rfl⟩) (w_preS hK hW) rfl rfl hl.1 rfl (lv_room (Nat.le_of_ble_eq_true rfl)) dX2_countMovesOfBlack_86 ⟨Nat.le_of_ble_eq_true rfl, Nat.le_of_ble_eq_true rfl⟩) hW (fun r_15 S_16 H locs hp hW => ?_)
        obtain ⟨hX_S_16, hp⟩ := hp
        refine W.widen (k := 0) (n := 0) (by decide) (by decide) ?_
        have hE := hE.trans hX_S_16
        have hK_a0 : sK S_16 a0 = 7 := (hX_S_16.2 a0 hL_a0).1.trans hK_a0
        have hL_a0 : wM D S_16 a0 := hX_S_16.M hL_a0
        refine w_callI (va_runV (As := [.int x1, .int r_15]) (rest := []) F (c_X2_valueAt l hL_a0 hK_a0 hp H.size) (cwV (C := RX2) 2 hts (wg_V wm_RX2_100 wy_X2_valueAt) rfl rfl rfl (by decide +kernel) ⟨Nat.le_of_ble_eq_true rfl, Nat.le_of_ble_eq_true rfl⟩) (w_preV hK hW hL_a0 hK_a0 (by decide) rfl) rfl rfl hl.1 rfl (lv_room (Nat.le_of_ble_eq_true rfl)) dX2_countMovesOfBlack_89 ⟨Nat.le_of_ble_eq_true rfl, Nat.le_of_ble_eq_true rfl⟩) hW (fun r_17 S_18 H locs hp hW => ?_)
        obtain ⟨hX_S_18, hp⟩ := hp
        refine W.widen (k := 0) (n := 0) (by decide) (by decide) ?_
        have hE := hE.trans hX_S_18
        have hK_a0 : sK S_18 a0 = 7 := (hX_S_18.2 a0 hL_a0).1.trans hK_a0
        have hL_a0 : wM D S_18 a0 := hX_S_18.M hL_a0
        refine lv_bipush (v := (-2)) hx hb dX2_countMovesOfBlack_92 (by decide) ?_
        refine lv_icmp_eq (tgt := 100) hx hb dX2_countMovesOfBlack_94 (by decide) (fun c_19 => ?_) (fun c_19 => ?_)
        · replace hp := hp.1 c_19
          exact t_X2_countMovesOfBlack_100 F hr hlocks hK ih hp hW hE (lv_sub hl [0, 1, 2, 3, 4, 5, 6, 7, 8] rfl) hL_a0 hK_a0
        · replace hp := hp.2 c_19
          obtain ⟨x_20, ex_20⟩ : ∃ z : Int32, z = x8 + 1 := ⟨_, rfl⟩
          replace hp := hp x_20 ex_20
          refine lv_iinc (v := x_20) (lv' := [(8, .int x_20), (0, .ref a0), (1, .int x1), (2, .int x2), (3, .int x3), (4, .int x4), (5, .int x5), (6, .long x6), (9, .int x9)]) hx hb dX2_countMovesOfBlack_97 hl (k := 7) rfl (by rw [ex_20]; rfl) (by decide) rfl (fun ls hl => ?_)
          exact t_X2_countMovesOfBlack_100 F hr hlocks hK ih hp hW hE (lv_sub hl [1, 2, 3, 4, 5, 6, 7, 0, 8] rfl) hL_a0 hK_a0
set_option maxHeartbeats 4000000 in
set_option maxRecDepth 100000 in
theorem t_X2_countMovesOfBlack_37 {p : Program} {l : Launch} {e : Env} {s : State} {m : MethodId} {args : Array Value} {below : List Frame} {meth : Method} {c : Code} {D : wD} {cy : Nat → ClassId} {X : va_W} {A : Nat → Prop} {S0 : wS} {post : wS → Prop} (F : CallFix p m c cX2_countMovesOfBlack 10 s args wz_X2_countMovesOfBlack RX2) (hr : meth.sig.returnType = none) (hlocks : meth.locks = false) (hK : wK D cy A s) : ∀ {S : wS} {H : Heap} {locs : List Loc} {ls : Array Slot}, wp_X2_countMovesOfBlack_37 D post S → wO D cy X A s.heap S H locs → wX D S0 S → lv_has ls 10 [] → W p l e r_X2_countMovesOfBlack s m args below meth c H locs 0 0 (MQ below (va_Qv (fun S9 => wX D S0 S9 ∧ post S9) (wB D cy X A) A) args s 0 0 A) (F0 m 37 ls []) := by
  obtain ⟨hx, hb, hml, hown, hts⟩ := id F
  have hwg : ∀ w ∈ WG, w.before args s = true := fun w h => hts w (List.mem_cons_of_mem _ h)
  intro S H locs ls hp hW hE hl
  unfold wp_X2_countMovesOfBlack_37 at hp
  exact w_vret hx hb hr hlocks hW ⟨hE, hp⟩ dX2_countMovesOfBlack_37
set_option maxHeartbeats 4000000 in
set_option maxRecDepth 100000 in
theorem t_X2_countMovesOfBlack_0 {p : Program} {l : Launch} {e : Env} {s : State} {m : MethodId} {args : Array Value} {below : List Frame} {meth : Method} {c : Code} {D : wD} {cy : Nat → ClassId} {X : va_W} {A : Nat → Prop} {S0 : wS} {post : wS → Prop} (F : CallFix p m c cX2_countMovesOfBlack 10 s args wz_X2_countMovesOfBlack RX2) (hr : meth.sig.returnType = none) (hlocks : meth.locks = false) (hK : wK D cy A s) : ∀ {S : wS} {H : Heap} {locs : List Loc} {ls : Array Slot} {a0 : Nat} {x1 : Int32} {x2 : Int32} {x3 : Int32} {x4 : Int32}, wp_X2_countMovesOfBlack_0 D post S a0 x1 x2 x3 x4 → wO D cy X A s.heap S H locs → wX D S0 S → lv_has ls 10 [(0, .ref a0), (1, .int x1), (2, .int x2), (3, .int x3), (4, .int x4)] → wM D S a0 → sK S a0 = 7 → W p l e r_X2_countMovesOfBlack s m args below meth c H locs 0 0 (MQ below (va_Qv (fun S9 => wX D S0 S9 ∧ post S9) (wB D cy X A) A) args s 0 0 A) (F0 m 0 ls []) := by
  obtain ⟨hx, hb, hml, hown, hts⟩ := id F
  have hwg : ∀ w ∈ WG, w.before args s = true := fun w h => hts w (List.mem_cons_of_mem _ h)
  have i_7 : ∀ w ∈ u_ws RX2 TX2 8, w ∈ wz_X2_countMovesOfBlack := fun w h => List.mem_cons_of_mem _ (wu_7 w h)
  have k_28 := hwg _ wf_RX2_28
  have k_35 := hwg _ wf_RX2_35
  intro S H locs ls a0 x1 x2 x3 x4 hp hW hE hl hL_a0 hK_a0
  unfold wp_X2_countMovesOfBlack_0 at hp
  refine lv_iconst (v := 0) hx hb dX2_countMovesOfBlack_0 (by decide) ?_
  refine lv_iload_n hx hb dX2_countMovesOfBlack_1 rfl (lv_at hl 2 rfl) ?_
  refine lv_iload_n hx hb dX2_countMovesOfBlack_2 rfl (lv_at hl 3 rfl) ?_
  refine lv_iload hx hb dX2_countMovesOfBlack_3 (lv_at hl 4 rfl) ?_
  refine w_callI (va_runS (As := [.int (0 : Int32), .int x2, .int x3, .int x4]) (rest := []) F (c_X2_indexOf l hp H.size) (va_cwS 4 hts (wg_S wm_RX2_96 wy_X2_indexOf) rfl rfl rfl (by decide +kernel) ⟨Nat.le_of_ble_eq_true rfl, Nat.le_of_ble_eq_true rfl⟩) (w_preS hK hW) rfl rfl hl.1 rfl (lv_room (Nat.le_of_ble_eq_true rfl)) dX2_countMovesOfBlack_5 ⟨Nat.le_of_ble_eq_true rfl, Nat.le_of_ble_eq_true rfl⟩) hW (fun r_1 S_2 H locs hp hW => ?_)
  obtain ⟨hX_S_2, hp⟩ := hp
  refine W.widen (k := 0) (n := 0) (by decide) (by decide) ?_
  have hE := hE.trans hX_S_2
  have hK_a0 : sK S_2 a0 = 7 := (hX_S_2.2 a0 hL_a0).1.trans hK_a0
  have hL_a0 : wM D S_2 a0 := hX_S_2.M hL_a0
  refine lv_istore (lv' := [(5, .int r_1), (0, .ref a0), (1, .int x1), (2, .int x2), (3, .int x3), (4, .int x4)]) hx hb dX2_countMovesOfBlack_8 hl (by decide) rfl (fun ls hl => ?_)
  refine lv_aload_n hx hb dX2_countMovesOfBlack_10 rfl (lv_at hl 1 rfl) ?_
  refine lv_iload_n hx hb dX2_countMovesOfBlack_11 rfl (lv_at hl 2 rfl) ?_
  refine lv_iload hx hb dX2_countMovesOfBlack_12 (lv_at hl 0 rfl) ?_
  refine w_callI (va_runV (As := [.int x1, .int r_1]) (rest := []) F (c_X2_valueAt l hL_a0 hK_a0 hp H.size) (cwV (C := RX2) 2 hts (wg_V wm_RX2_100 wy_X2_valueAt) rfl rfl rfl (by decide +kernel) ⟨Nat.le_of_ble_eq_true rfl, Nat.le_of_ble_eq_true rfl⟩) (w_preV hK hW hL_a0 hK_a0 (by decide) rfl) rfl rfl hl.1 rfl (lv_room (Nat.le_of_ble_eq_true rfl)) dX2_countMovesOfBlack_14 ⟨Nat.le_of_ble_eq_true rfl, Nat.le_of_ble_eq_true rfl⟩) hW (fun r_3 S_4 H locs hp hW => ?_)
  obtain ⟨hX_S_4, hp⟩ := hp
  refine W.widen (k := 0) (n := 0) (by decide) (by decide) ?_
  have hE := hE.trans hX_S_4
  have hK_a0 : sK S_4 a0 = 7 := (hX_S_4.2 a0 hL_a0).1.trans hK_a0
  have hL_a0 : wM D S_4 a0 := hX_S_4.M hL_a0
  refine lv_bipush (v := (-2)) hx hb dX2_countMovesOfBlack_17 (by decide) ?_
  refine lv_icmp_eq (tgt := 37) hx hb dX2_countMovesOfBlack_19 (by decide) (fun c_5 => ?_) (fun c_5 => ?_)
  · replace hp := hp.1 c_5
    exact t_X2_countMovesOfBlack_37 F hr hlocks hK hp hW hE (lv_sub hl [] rfl)
  · replace hp := hp.2 c_5
    refine lv_iload hx hb dX2_countMovesOfBlack_22 (lv_at hl 0 rfl) ?_
    refine lv_if_lt (tgt := 37) hx hb dX2_countMovesOfBlack_24 (by decide) (fun c_6 => ?_) (fun c_6 => ?_)
    · replace hp := hp.1 c_6
      exact t_X2_countMovesOfBlack_37 F hr hlocks hK hp hW hE (lv_sub hl [] rfl)
    · replace hp := hp.2 c_6
      refine lv_iload hx hb dX2_countMovesOfBlack_27 (lv_at hl 0 rfl) ?_
      refine lv_aload_n hx hb dX2_countMovesOfBlack_29 rfl (lv_at hl 1 rfl) ?_
      obtain ⟨y_7, ey_7, hL_y_7, hK_y_7, hp⟩ := hp
      refine w_get (k := 7) (f := 6) (T := TX2) (v := .ref y_7) F hK hW hL_a0 hK_a0 (by decide) rfl rfl (by decide) i_7 k_28 (by rw [show wv 7 6 S_4 a0 = va_rf (sR S_4 a0 6) from rfl, ey_7]; rfl) dX2_countMovesOfBlack_30 ?_
      refine w_len F hK hW hL_y_7 hK_y_7 (by decide) dX2_countMovesOfBlack_33 ?_
      refine lv_icmp_lt (tgt := 38) hx hb dX2_countMovesOfBlack_34 (by decide) (fun c_8 => ?_) (fun c_8 => ?_)
      · replace hp := hp.1 c_8
        refine lv_aload_n hx hb dX2_countMovesOfBlack_38 rfl (lv_at hl 1 rfl) ?_
        obtain ⟨y_9, ey_9, hL_y_9, hK_y_9, hp⟩ := hp
        refine w_get (k := 7) (f := 0) (T := TX2) (v := .ref y_9) F hK hW hL_a0 hK_a0 (by decide) rfl rfl (by decide) i_7 k_35 (by rw [show wv 7 0 S_4 a0 = va_rf (sR S_4 a0 0) from rfl, ey_9]; rfl) dX2_countMovesOfBlack_39 ?_
        refine lv_iconst (v := 1) hx hb dX2_countMovesOfBlack_42 (by decide) ?_
        refine lv_iload_n hx hb dX2_countMovesOfBlack_43 rfl (lv_at hl 4 rfl) ?_
        refine lv_lconst (v := 0) hx hb dX2_countMovesOfBlack_44 (by decide) ?_
        refine w_callJ (va_runV (As := [.int (1 : Int32), .int x3, .long (0 : Int64)]) (rest := []) F (c_X0_reach l hL_y_9 hK_y_9 hp H.size) (cwV (C := RX0) 3 hts (wg_V wm_RX2_130 wy_X0_reach) rfl rfl rfl (by decide +kernel) ⟨Nat.le_of_ble_eq_true rfl, Nat.le_of_ble_eq_true rfl⟩) (w_preV hK hW hL_y_9 hK_y_9 (by decide) rfl) rfl rfl hl.1 rfl (lv_room (Nat.le_of_ble_eq_true rfl)) dX2_countMovesOfBlack_45 ⟨Nat.le_of_ble_eq_true rfl, Nat.le_of_ble_eq_true rfl⟩) hW (fun r_10 S_11 H locs hp hW => ?_)
        obtain ⟨hX_S_11, hp⟩ := hp
        refine W.widen (k := 0) (n := 0) (by decide) (by decide) ?_
        have hE := hE.trans hX_S_11
        have hK_a0 : sK S_11 a0 = 7 := (hX_S_11.2 a0 hL_a0).1.trans hK_a0
        have hL_a0 : wM D S_11 a0 := hX_S_11.M hL_a0
        refine lv_lstore (lv' := [(6, .long r_10), (5, .int r_1), (0, .ref a0), (1, .int x1), (2, .int x2), (3, .int x3), (4, .int x4)]) hx hb dX2_countMovesOfBlack_48 hl (by decide) rfl (fun ls hl => ?_)
        refine lv_iconst (v := 0) hx hb dX2_countMovesOfBlack_50 (by decide) ?_
        refine lv_istore (lv' := [(8, .int (0 : Int32)), (6, .long r_10), (5, .int r_1), (0, .ref a0), (1, .int x1), (2, .int x2), (3, .int x3), (4, .int x4)]) hx hb dX2_countMovesOfBlack_51 hl (by decide) rfl (fun ls hl => ?_)
        refine lv_iconst (v := 0) hx hb dX2_countMovesOfBlack_53 (by decide) ?_
        refine lv_istore (lv' := [(9, .int (0 : Int32)), (8, .int (0 : Int32)), (6, .long r_10), (5, .int r_1), (0, .ref a0), (1, .int x1), (2, .int x2), (3, .int x3), (4, .int x4)]) hx hb dX2_countMovesOfBlack_54 hl (by decide) rfl (fun ls hl => ?_)
        obtain ⟨n_12, hp⟩ := hp
        exact t_X2_countMovesOfBlack_56 F hr hlocks hK n_12 hp hW hE (lv_sub hl [4, 5, 6, 7, 8, 3, 2, 1, 0] rfl) hL_a0 hK_a0
      · replace hp := hp.2 c_8
        exact t_X2_countMovesOfBlack_37 F hr hlocks hK hp hW hE (lv_sub hl [] rfl)
set_option maxHeartbeats 4000000 in
set_option maxRecDepth 100000 in
theorem c_X2_countMovesOfBlack (l : Launch) {D : wD} {cy : Nat → ClassId} {X : va_W} {S0 : wS} {post : wS → Prop} {a0 : Nat} {x1 : Int32} {x2 : Int32} {x3 : Int32} {x4 : Int32} (hL_a0 : wM D S0 a0) (hK_a0 : sK S0 a0 = 7) (hp : wp_X2_countMovesOfBlack D post S0 a0 x1 x2 x3 x4) : mV D cy X l yX2_countMovesOfBlack wz_X2_countMovesOfBlack r_X2_countMovesOfBlack [.ref a0, .int x1, .int x2, .int x3, .int x4] S0 (fun S9 => wX D S0 S9 ∧ post S9) := by
  intro sz
  refine Met.ofW (cc := cX2_countMovesOfBlack) (maxL := 10) (ret := none) (by decide) rfl ?_
  intro p e s m args below meth c s₁ B hml hv
  obtain ⟨rfl, hsz, hP, hK, hD0, hRO⟩ := hv
  have hts := atoms_spec (ws := wz_X2_countMovesOfBlack) B.pre
  have hown : s.vm.findClass RX2 = some m.cls := findClass_of_methodNamed B.named
  subst hsz
  have hD := hD0.self (sz := s.heap.size)
  have F : CallFix p m c cX2_countMovesOfBlack 10 s _ wz_X2_countMovesOfBlack RX2 := ⟨B.exec, B.bytes, hml, hown, hts⟩
  have hr := B.returns
  have hlocks := B.notSynchronized
  generalize hAe : va_A (wL cy X S0) s.heap.size = A at hD hK ⊢
  have hA : ∀ q, s.heap.size ≤ q → A q := fun q h => by rw [← hAe]; exact Or.inr h
  have hW : wO D cy X A s.heap S0 s.heap [] := ⟨hP, hD, va_S.rf, hA, hRO⟩
  have hl := lv_entry ([.ref a0, .int x1, .int x2, .int x3, .int x4]) (n := 10) (Nat.le_of_ble_eq_true rfl)
  rw [lg_entry_eq]
  generalize (lg_sl ([.ref a0, .int x1, .int x2, .int x3, .int x4]) ++ List.replicate (10 - (lg_sl ([.ref a0, .int x1, .int x2, .int x3, .int x4])).length) Slot.unset).toArray = ls at hl ⊢
  have hl : lv_has ls 10 [(0, .ref a0), (1, .int x1), (2, .int x2), (3, .int x3), (4, .int x4)] := hl
  unfold wp_X2_countMovesOfBlack at hp
  exact t_X2_countMovesOfBlack_0 F hr hlocks hK hp hW wX.rf (lv_sub hl [0, 1, 2, 3, 4] rfl) hL_a0 hK_a0
def wp_X2_mark_115 (D : wD) (post : wS → Prop)  (S : wS) (b0 : Nat) (t1 : Int32) (t2 : Int32) (t3 : Int32) : Prop :=
wp_X2_setValue D (fun S_2 => 
post S_2) S b0 t1 t2 t3
def wp_X2_mark_113 (D : wD) (post : wS → Prop)  (S : wS) (b0 : Nat) (t1 : Int32) (t2 : Int32) : Prop :=
wp_X2_mark_115 D post S b0 t1 t2 (-2 : Int32)
def wp_X2_mark_86 (D : wD) (post : wS → Prop)  (S : wS) (a0 : Nat) (x1 : Int32) (x2 : Int32) (x3 : Int32) (x4 : Int32) (x5 : Int32) (x6 : Int32) (b0 : Nat) (t1 : Int32) (t2 : Int32) (t3 : Int32) : Prop :=
wp_X2_setValue D (fun S_2 => 
wp_X2_indexOf D (fun r_3 S_4 => 
((x5 = 0 → wp_X2_mark_113 D post S_4 a0 x1 r_3) ∧
 (¬ x5 = 0 → ((¬ x6 = 0 → wp_X2_mark_113 D post S_4 a0 x1 r_3) ∧
 (x6 = 0 → wp_X2_mark_115 D post S_4 a0 x1 r_3 (-1 : Int32)))))) S_2 (1 : Int32) x2 x3 x4) S b0 t1 t2 t3
def wp_X2_mark_63 (D : wD) (post : wS → Prop)  (S : wS) (a0 : Nat) (x1 : Int32) (x2 : Int32) (x3 : Int32) (x4 : Int32) (x5 : Int32) (t0 : Int32) : Prop :=
wp_X2_indexOf D (fun r_1 S_2 => 
((x5 = 0 → wp_X2_mark_86 D post S_2 a0 x1 x2 x3 x4 x5 t0 a0 x1 r_1 (-2 : Int32)) ∧
 (¬ x5 = 0 → wp_X2_mark_86 D post S_2 a0 x1 x2 x3 x4 x5 t0 a0 x1 r_1 (-1 : Int32)))) S (0 : Int32) x2 x3 x4
def wp_X2_mark_62 (D : wD) (post : wS → Prop)  (S : wS) (a0 : Nat) (x1 : Int32) (x2 : Int32) (x3 : Int32) (x4 : Int32) (x5 : Int32) : Prop :=
wp_X2_mark_63 D post S a0 x1 x2 x3 x4 x5 (0 : Int32)
def wp_X2_mark_39 (D : wD) (post : wS → Prop)  (S : wS) (a0 : Nat) (x1 : Int32) (x2 : Int32) (x3 : Int32) (x4 : Int32) (t0 : Int32) : Prop :=
((t0 = 0 → wp_X2_mark_62 D post S a0 x1 x2 x3 x4 t0) ∧
 (¬ t0 = 0 → wp_X2_isChecking D (fun r_2 S_3 => 
((r_2 = 0 → wp_X2_mark_62 D post S_3 a0 x1 x2 x3 x4 t0) ∧
 (¬ r_2 = 0 → wp_X2_mark_63 D post S_3 a0 x1 x2 x3 x4 t0 (1 : Int32)))) S a0 x1 x2 x3 x4))
def wp_X2_mark_38 (D : wD) (post : wS → Prop)  (S : wS) (a0 : Nat) (x1 : Int32) (x2 : Int32) (x3 : Int32) (x4 : Int32) : Prop :=
wp_X2_mark_39 D post S a0 x1 x2 x3 x4 (0 : Int32)
def wp_X2_mark_0 (D : wD) (post : wS → Prop)  (S : wS) (a0 : Nat) (x1 : Int32) (x2 : Int32) (x3 : Int32) (x4 : Int32) : Prop :=
((x2 = x3 → wp_X2_mark_38 D post S a0 x1 x2 x3 x4) ∧
 (¬ x2 = x3 → ((x2 = x4 → wp_X2_mark_38 D post S a0 x1 x2 x3 x4) ∧
 (¬ x2 = x4 → ((x3 = x4 → wp_X2_mark_38 D post S a0 x1 x2 x3 x4) ∧
 (¬ x3 = x4 → ∃ y_4 : Nat, sR S a0 0 = some y_4 ∧ wM D S y_4 ∧ sK S y_4 = 5 ∧
wp_X0_reach D (fun r_5 S_6 => 
wp_X11_contains D (fun r_7 S_8 => 
((¬ r_7 = 0 → wp_X2_mark_38 D post S_8 a0 x1 x2 x3 x4) ∧
 (r_7 = 0 → wp_X2_mark_39 D post S_8 a0 x1 x2 x3 x4 (1 : Int32)))) S_6 r_5 x3) S y_4 (1 : Int32) x2 (0 : Int64)))))))
abbrev r_X2_mark : Room := { frames := 3, cells := 0, slots := 0, locals := 80 }
def wp_X2_mark (D : wD) (post : wS → Prop) (S : wS) (a0 : Nat) (x1 : Int32) (x2 : Int32) (x3 : Int32) (x4 : Int32) : Prop := wp_X2_mark_0 D post S a0 x1 x2 x3 x4
set_option maxHeartbeats 4000000 in
set_option maxRecDepth 100000 in
theorem t_X2_mark_115 {p : Program} {l : Launch} {e : Env} {s : State} {m : MethodId} {args : Array Value} {below : List Frame} {meth : Method} {c : Code} {D : wD} {cy : Nat → ClassId} {X : va_W} {A : Nat → Prop} {S0 : wS} {post : wS → Prop} (F : CallFix p m c cX2_mark 7 s args wz_X2_mark RX2) (hr : meth.sig.returnType = none) (hlocks : meth.locks = false) (hK : wK D cy A s) : ∀ {S : wS} {H : Heap} {locs : List Loc} {ls : Array Slot} {b0 : Nat} {t1 : Int32} {t2 : Int32} {t3 : Int32}, wp_X2_mark_115 D post S b0 t1 t2 t3 → wO D cy X A s.heap S H locs → wX D S0 S → lv_has ls 7 [] → wM D S b0 → sK S b0 = 7 → W p l e r_X2_mark s m args below meth c H locs 0 0 (MQ below (va_Qv (fun S9 => wX D S0 S9 ∧ post S9) (wB D cy X A) A) args s 0 0 A) (F0 m 115 ls [.int t3, .int t2, .int t1, .ref b0]) := by
  obtain ⟨hx, hb, hml, hown, hts⟩ := id F
  have hwg : ∀ w ∈ WG, w.before args s = true := fun w h => hts w (List.mem_cons_of_mem _ h)
  intro S H locs ls b0 t1 t2 t3 hp hW hE hl hL_b0 hK_b0
  unfold wp_X2_mark_115 at hp
  refine w_callV (va_runV (As := [.int t1, .int t2, .int t3]) (rest := []) F (c_X2_setValue l hL_b0 hK_b0 hp H.size) (cwV (C := RX2) 3 hts (wg_V wm_RX2_142 wy_X2_setValue) rfl rfl rfl (by decide +kernel) ⟨Nat.le_of_ble_eq_true rfl, Nat.le_of_ble_eq_true rfl⟩) (w_preV hK hW hL_b0 hK_b0 (by decide) rfl) rfl rfl hl.1 rfl (lv_room (Nat.le_of_ble_eq_true rfl)) dX2_mark_115 ⟨Nat.le_of_ble_eq_true rfl, Nat.le_of_ble_eq_true rfl⟩) hW (fun S_2 H locs hp hW => ?_)
  obtain ⟨hX_S_2, hp⟩ := hp
  refine W.widen (k := 0) (n := 0) (by decide) (by decide) ?_
  have hE := hE.trans hX_S_2
  exact w_vret hx hb hr hlocks hW ⟨hE, hp⟩ dX2_mark_118
set_option maxHeartbeats 4000000 in
set_option maxRecDepth 100000 in
theorem t_X2_mark_113 {p : Program} {l : Launch} {e : Env} {s : State} {m : MethodId} {args : Array Value} {below : List Frame} {meth : Method} {c : Code} {D : wD} {cy : Nat → ClassId} {X : va_W} {A : Nat → Prop} {S0 : wS} {post : wS → Prop} (F : CallFix p m c cX2_mark 7 s args wz_X2_mark RX2) (hr : meth.sig.returnType = none) (hlocks : meth.locks = false) (hK : wK D cy A s) : ∀ {S : wS} {H : Heap} {locs : List Loc} {ls : Array Slot} {b0 : Nat} {t1 : Int32} {t2 : Int32}, wp_X2_mark_113 D post S b0 t1 t2 → wO D cy X A s.heap S H locs → wX D S0 S → lv_has ls 7 [] → wM D S b0 → sK S b0 = 7 → W p l e r_X2_mark s m args below meth c H locs 0 0 (MQ below (va_Qv (fun S9 => wX D S0 S9 ∧ post S9) (wB D cy X A) A) args s 0 0 A) (F0 m 113 ls [.int t2, .int t1, .ref b0]) := by
  obtain ⟨hx, hb, hml, hown, hts⟩ := id F
  have hwg : ∀ w ∈ WG, w.before args s = true := fun w h => hts w (List.mem_cons_of_mem _ h)
  intro S H locs ls b0 t1 t2 hp hW hE hl hL_b0 hK_b0
  unfold wp_X2_mark_113 at hp
  refine lv_bipush (v := (-2)) hx hb dX2_mark_113 (by decide) ?_
  exact t_X2_mark_115 F hr hlocks hK hp hW hE (lv_sub hl [] rfl) hL_b0 hK_b0
set_option maxHeartbeats 4000000 in
set_option maxRecDepth 100000 in
theorem t_X2_mark_86 {p : Program} {l : Launch} {e : Env} {s : State} {m : MethodId} {args : Array Value} {below : List Frame} {meth : Method} {c : Code} {D : wD} {cy : Nat → ClassId} {X : va_W} {A : Nat → Prop} {S0 : wS} {post : wS → Prop} (F : CallFix p m c cX2_mark 7 s args wz_X2_mark RX2) (hr : meth.sig.returnType = none) (hlocks : meth.locks = false) (hK : wK D cy A s) : ∀ {S : wS} {H : Heap} {locs : List Loc} {ls : Array Slot} {a0 : Nat} {x1 : Int32} {x2 : Int32} {x3 : Int32} {x4 : Int32} {x5 : Int32} {x6 : Int32} {b0 : Nat} {t1 : Int32} {t2 : Int32} {t3 : Int32}, wp_X2_mark_86 D post S a0 x1 x2 x3 x4 x5 x6 b0 t1 t2 t3 → wO D cy X A s.heap S H locs → wX D S0 S → lv_has ls 7 [(0, .ref a0), (1, .int x1), (2, .int x2), (3, .int x3), (4, .int x4), (5, .int x5), (6, .int x6)] → wM D S a0 → sK S a0 = 7 → wM D S b0 → sK S b0 = 7 → W p l e r_X2_mark s m args below meth c H locs 0 0 (MQ below (va_Qv (fun S9 => wX D S0 S9 ∧ post S9) (wB D cy X A) A) args s 0 0 A) (F0 m 86 ls [.int t3, .int t2, .int t1, .ref b0]) := by
  obtain ⟨hx, hb, hml, hown, hts⟩ := id F
  have hwg : ∀ w ∈ WG, w.before args s = true := fun w h => hts w (List.mem_cons_of_mem _ h)
  intro S H locs ls a0 x1 x2 x3 x4 x5 x6 b0 t1 t2 t3 hp hW hE hl hL_a0 hK_a0 hL_b0 hK_b0
  unfold wp_X2_mark_86 at hp
  refine w_callV (va_runV (As := [.int t1, .int t2, .int t3]) (rest := []) F (c_X2_setValue l hL_b0 hK_b0 hp H.size) (cwV (C := RX2) 3 hts (wg_V wm_RX2_142 wy_X2_setValue) rfl rfl rfl (by decide +kernel) ⟨Nat.le_of_ble_eq_true rfl, Nat.le_of_ble_eq_true rfl⟩) (w_preV hK hW hL_b0 hK_b0 (by decide) rfl) rfl rfl hl.1 rfl (lv_room (Nat.le_of_ble_eq_true rfl)) dX2_mark_86 ⟨Nat.le_of_ble_eq_true rfl, Nat.le_of_ble_eq_true rfl⟩) hW (fun S_2 H locs hp hW => ?_)
  obtain ⟨hX_S_2, hp⟩ := hp
  refine W.widen (k := 0) (n := 0) (by decide) (by decide) ?_
  have hE := hE.trans hX_S_2
  have hK_a0 : sK S_2 a0 = 7 := (hX_S_2.2 a0 hL_a0).1.trans hK_a0
  have hL_a0 : wM D S_2 a0 := hX_S_2.M hL_a0
  refine lv_aload_n hx hb dX2_mark_89 rfl (lv_at hl 0 rfl) ?_
  refine lv_iload_n hx hb dX2_mark_90 rfl (lv_at hl 1 rfl) ?_
  refine lv_iconst (v := 1) hx hb dX2_mark_91 (by decide) ?_
  refine lv_iload_n hx hb dX2_mark_92 rfl (lv_at hl 2 rfl) ?_
  refine lv_iload_n hx hb dX2_mark_93 rfl (lv_at hl 3 rfl) ?_
  refine lv_iload hx hb dX2_mark_94 (lv_at hl 4 rfl) ?_
  refine w_callI (va_runS (As := [.int (1 : Int32), .int x2, .int x3, .int x4]) (rest := [.int x1, .ref a0]) F (c_X2_indexOf l hp H.size) (va_cwS 4 hts (wg_S wm_RX2_96 wy_X2_indexOf) rfl rfl rfl (by decide +kernel) ⟨Nat.le_of_ble_eq_true rfl, Nat.le_of_ble_eq_true rfl⟩) (w_preS hK hW) rfl rfl hl.1 rfl (lv_room (Nat.le_of_ble_eq_true rfl)) dX2_mark_96 ⟨Nat.le_of_ble_eq_true rfl, Nat.le_of_ble_eq_true rfl⟩) hW (fun r_3 S_4 H locs hp hW => ?_)
  obtain ⟨hX_S_4, hp⟩ := hp
  refine W.widen (k := 0) (n := 0) (by decide) (by decide) ?_
  have hE := hE.trans hX_S_4
  have hK_a0 : sK S_4 a0 = 7 := (hX_S_4.2 a0 hL_a0).1.trans hK_a0
  have hL_a0 : wM D S_4 a0 := hX_S_4.M hL_a0
  refine lv_iload hx hb dX2_mark_99 (lv_at hl 5 rfl) ?_
  refine lv_if_eq (tgt := 113) hx hb dX2_mark_101 (by decide) (fun c_5 => ?_) (fun c_5 => ?_)
  · replace hp := hp.1 c_5
    exact t_X2_mark_113 F hr hlocks hK hp hW hE (lv_sub hl [] rfl) hL_a0 hK_a0
  · replace hp := hp.2 c_5
    refine lv_iload hx hb dX2_mark_104 (lv_at hl 6 rfl) ?_
    refine lv_if_ne (tgt := 113) hx hb dX2_mark_106 (by decide) (fun c_6 => ?_) (fun c_6 => ?_)
    · replace hp := hp.1 c_6
      exact t_X2_mark_113 F hr hlocks hK hp hW hE (lv_sub hl [] rfl) hL_a0 hK_a0
    · replace hp := hp.2 c_6
      refine lv_iconst (v := (-1)) hx hb dX2_mark_109 (by decide) ?_
      refine lv_goto (tgt := 115) hx hb dX2_mark_110 (by decide) ?_
      exact t_X2_mark_115 F hr hlocks hK hp hW hE (lv_sub hl [] rfl) hL_a0 hK_a0
set_option maxHeartbeats 4000000 in
set_option maxRecDepth 100000 in
theorem t_X2_mark_63 {p : Program} {l : Launch} {e : Env} {s : State} {m : MethodId} {args : Array Value} {below : List Frame} {meth : Method} {c : Code} {D : wD} {cy : Nat → ClassId} {X : va_W} {A : Nat → Prop} {S0 : wS} {post : wS → Prop} (F : CallFix p m c cX2_mark 7 s args wz_X2_mark RX2) (hr : meth.sig.returnType = none) (hlocks : meth.locks = false) (hK : wK D cy A s) : ∀ {S : wS} {H : Heap} {locs : List Loc} {ls : Array Slot} {a0 : Nat} {x1 : Int32} {x2 : Int32} {x3 : Int32} {x4 : Int32} {x5 : Int32} {t0 : Int32}, wp_X2_mark_63 D post S a0 x1 x2 x3 x4 x5 t0 → wO D cy X A s.heap S H locs → wX D S0 S → lv_has ls 7 [(0, .ref a0), (1, .int x1), (2, .int x2), (3, .int x3), (4, .int x4), (5, .int x5)] → wM D S a0 → sK S a0 = 7 → W p l e r_X2_mark s m args below meth c H locs 0 0 (MQ below (va_Qv (fun S9 => wX D S0 S9 ∧ post S9) (wB D cy X A) A) args s 0 0 A) (F0 m 63 ls [.int t0]) := by
  obtain ⟨hx, hb, hml, hown, hts⟩ := id F
  have hwg : ∀ w ∈ WG, w.before args s = true := fun w h => hts w (List.mem_cons_of_mem _ h)
  intro S H locs ls a0 x1 x2 x3 x4 x5 t0 hp hW hE hl hL_a0 hK_a0
  unfold wp_X2_mark_63 at hp
  refine lv_istore (lv' := [(6, .int t0), (0, .ref a0), (1, .int x1), (2, .int x2), (3, .int x3), (4, .int x4), (5, .int x5)]) hx hb dX2_mark_63 hl (by decide) rfl (fun ls hl => ?_)
  refine lv_aload_n hx hb dX2_mark_65 rfl (lv_at hl 1 rfl) ?_
  refine lv_iload_n hx hb dX2_mark_66 rfl (lv_at hl 2 rfl) ?_
  refine lv_iconst (v := 0) hx hb dX2_mark_67 (by decide) ?_
  refine lv_iload_n hx hb dX2_mark_68 rfl (lv_at hl 3 rfl) ?_
  refine lv_iload_n hx hb dX2_mark_69 rfl (lv_at hl 4 rfl) ?_
  refine lv_iload hx hb dX2_mark_70 (lv_at hl 5 rfl) ?_
  refine w_callI (va_runS (As := [.int (0 : Int32), .int x2, .int x3, .int x4]) (rest := [.int x1, .ref a0]) F (c_X2_indexOf l hp H.size) (va_cwS 4 hts (wg_S wm_RX2_96 wy_X2_indexOf) rfl rfl rfl (by decide +kernel) ⟨Nat.le_of_ble_eq_true rfl, Nat.le_of_ble_eq_true rfl⟩) (w_preS hK hW) rfl rfl hl.1 rfl (lv_room (Nat.le_of_ble_eq_true rfl)) dX2_mark_72 ⟨Nat.le_of_ble_eq_true rfl, Nat.le_of_ble_eq_true rfl⟩) hW (fun r_1 S_2 H locs hp hW => ?_)
  obtain ⟨hX_S_2, hp⟩ := hp
  refine W.widen (k := 0) (n := 0) (by decide) (by decide) ?_
  have hE := hE.trans hX_S_2
  have hK_a0 : sK S_2 a0 = 7 := (hX_S_2.2 a0 hL_a0).1.trans hK_a0
  have hL_a0 : wM D S_2 a0 := hX_S_2.M hL_a0
  refine lv_iload hx hb dX2_mark_75 (lv_at hl 6 rfl) ?_
  refine lv_if_eq (tgt := 84) hx hb dX2_mark_77 (by decide) (fun c_3 => ?_) (fun c_3 => ?_)
  · replace hp := hp.1 c_3
    refine lv_bipush (v := (-2)) hx hb dX2_mark_84 (by decide) ?_
    exact t_X2_mark_86 F hr hlocks hK hp hW hE (lv_sub hl [1, 2, 3, 4, 5, 6, 0] rfl) hL_a0 hK_a0 hL_a0 hK_a0
  · replace hp := hp.2 c_3
    refine lv_iconst (v := (-1)) hx hb dX2_mark_80 (by decide) ?_
    refine lv_goto (tgt := 86) hx hb dX2_mark_81 (by decide) ?_
    exact t_X2_mark_86 F hr hlocks hK hp hW hE (lv_sub hl [1, 2, 3, 4, 5, 6, 0] rfl) hL_a0 hK_a0 hL_a0 hK_a0
set_option maxHeartbeats 4000000 in
set_option maxRecDepth 100000 in
theorem t_X2_mark_62 {p : Program} {l : Launch} {e : Env} {s : State} {m : MethodId} {args : Array Value} {below : List Frame} {meth : Method} {c : Code} {D : wD} {cy : Nat → ClassId} {X : va_W} {A : Nat → Prop} {S0 : wS} {post : wS → Prop} (F : CallFix p m c cX2_mark 7 s args wz_X2_mark RX2) (hr : meth.sig.returnType = none) (hlocks : meth.locks = false) (hK : wK D cy A s) : ∀ {S : wS} {H : Heap} {locs : List Loc} {ls : Array Slot} {a0 : Nat} {x1 : Int32} {x2 : Int32} {x3 : Int32} {x4 : Int32} {x5 : Int32}, wp_X2_mark_62 D post S a0 x1 x2 x3 x4 x5 → wO D cy X A s.heap S H locs → wX D S0 S → lv_has ls 7 [(0, .ref a0), (1, .int x1), (2, .int x2), (3, .int x3), (4, .int x4), (5, .int x5)] → wM D S a0 → sK S a0 = 7 → W p l e r_X2_mark s m args below meth c H locs 0 0 (MQ below (va_Qv (fun S9 => wX D S0 S9 ∧ post S9) (wB D cy X A) A) args s 0 0 A) (F0 m 62 ls []) := by
  obtain ⟨hx, hb, hml, hown, hts⟩ := id F
  have hwg : ∀ w ∈ WG, w.before args s = true := fun w h => hts w (List.mem_cons_of_mem _ h)
  intro S H locs ls a0 x1 x2 x3 x4 x5 hp hW hE hl hL_a0 hK_a0
  unfold wp_X2_mark_62 at hp
  refine lv_iconst (v := 0) hx hb dX2_mark_62 (by decide) ?_
  exact t_X2_mark_63 F hr hlocks hK hp hW hE (lv_sub hl [0, 1, 2, 3, 4, 5] rfl) hL_a0 hK_a0
set_option maxHeartbeats 4000000 in
set_option maxRecDepth 100000 in
theorem t_X2_mark_39 {p : Program} {l : Launch} {e : Env} {s : State} {m : MethodId} {args : Array Value} {below : List Frame} {meth : Method} {c : Code} {D : wD} {cy : Nat → ClassId} {X : va_W} {A : Nat → Prop} {S0 : wS} {post : wS → Prop} (F : CallFix p m c cX2_mark 7 s args wz_X2_mark RX2) (hr : meth.sig.returnType = none) (hlocks : meth.locks = false) (hK : wK D cy A s) : ∀ {S : wS} {H : Heap} {locs : List Loc} {ls : Array Slot} {a0 : Nat} {x1 : Int32} {x2 : Int32} {x3 : Int32} {x4 : Int32} {t0 : Int32}, wp_X2_mark_39 D post S a0 x1 x2 x3 x4 t0 → wO D cy X A s.heap S H locs → wX D S0 S → lv_has ls 7 [(0, .ref a0), (1, .int x1), (2, .int x2), (3, .int x3), (4, .int x4)] → wM D S a0 → sK S a0 = 7 → W p l e r_X2_mark s m args below meth c H locs 0 0 (MQ below (va_Qv (fun S9 => wX D S0 S9 ∧ post S9) (wB D cy X A) A) args s 0 0 A) (F0 m 39 ls [.int t0]) := by
  obtain ⟨hx, hb, hml, hown, hts⟩ := id F
  have hwg : ∀ w ∈ WG, w.before args s = true := fun w h => hts w (List.mem_cons_of_mem _ h)
  intro S H locs ls a0 x1 x2 x3 x4 t0 hp hW hE hl hL_a0 hK_a0
  unfold wp_X2_mark_39 at hp
  refine lv_istore (lv' := [(5, .int t0), (0, .ref a0), (1, .int x1), (2, .int x2), (3, .int x3), (4, .int x4)]) hx hb dX2_mark_39 hl (by decide) rfl (fun ls hl => ?_)
  refine lv_iload hx hb dX2_mark_41 (lv_at hl 0 rfl) ?_
  refine lv_if_eq (tgt := 62) hx hb dX2_mark_43 (by decide) (fun c_1 => ?_) (fun c_1 => ?_)
  · replace hp := hp.1 c_1
    exact t_X2_mark_62 F hr hlocks hK hp hW hE (lv_sub hl [1, 2, 3, 4, 5, 0] rfl) hL_a0 hK_a0
  · replace hp := hp.2 c_1
    refine lv_aload_n hx hb dX2_mark_46 rfl (lv_at hl 1 rfl) ?_
    refine lv_iload_n hx hb dX2_mark_47 rfl (lv_at hl 2 rfl) ?_
    refine lv_iload_n hx hb dX2_mark_48 rfl (lv_at hl 3 rfl) ?_
    refine lv_iload_n hx hb dX2_mark_49 rfl (lv_at hl 4 rfl) ?_
    refine lv_iload hx hb dX2_mark_50 (lv_at hl 5 rfl) ?_
    refine w_callI (va_runV (As := [.int x1, .int x2, .int x3, .int x4]) (rest := []) F (c_X2_isChecking l hL_a0 hK_a0 hp H.size) (cwV (C := RX2) 4 hts (wg_V wm_RX2_138 wy_X2_isChecking) rfl rfl rfl (by decide +kernel) ⟨Nat.le_of_ble_eq_true rfl, Nat.le_of_ble_eq_true rfl⟩) (w_preV hK hW hL_a0 hK_a0 (by decide) rfl) rfl rfl hl.1 rfl (lv_room (Nat.le_of_ble_eq_true rfl)) dX2_mark_52 ⟨Nat.le_of_ble_eq_true rfl, Nat.le_of_ble_eq_true rfl⟩) hW (fun r_2 S_3 H locs hp hW => ?_)
    obtain ⟨hX_S_3, hp⟩ := hp
    refine W.widen (k := 0) (n := 0) (by decide) (by decide) ?_
    have hE := hE.trans hX_S_3
    have hK_a0 : sK S_3 a0 = 7 := (hX_S_3.2 a0 hL_a0).1.trans hK_a0
    have hL_a0 : wM D S_3 a0 := hX_S_3.M hL_a0
    refine lv_if_eq (tgt := 62) hx hb dX2_mark_55 (by decide) (fun c_4 => ?_) (fun c_4 => ?_)
    · replace hp := hp.1 c_4
      exact t_X2_mark_62 F hr hlocks hK hp hW hE (lv_sub hl [1, 2, 3, 4, 5, 0] rfl) hL_a0 hK_a0
    · replace hp := hp.2 c_4
      refine lv_iconst (v := 1) hx hb dX2_mark_58 (by decide) ?_
      refine lv_goto (tgt := 63) hx hb dX2_mark_59 (by decide) ?_
      exact t_X2_mark_63 F hr hlocks hK hp hW hE (lv_sub hl [1, 2, 3, 4, 5, 0] rfl) hL_a0 hK_a0
set_option maxHeartbeats 4000000 in
set_option maxRecDepth 100000 in
theorem t_X2_mark_38 {p : Program} {l : Launch} {e : Env} {s : State} {m : MethodId} {args : Array Value} {below : List Frame} {meth : Method} {c : Code} {D : wD} {cy : Nat → ClassId} {X : va_W} {A : Nat → Prop} {S0 : wS} {post : wS → Prop} (F : CallFix p m c cX2_mark 7 s args wz_X2_mark RX2) (hr : meth.sig.returnType = none) (hlocks : meth.locks = false) (hK : wK D cy A s) : ∀ {S : wS} {H : Heap} {locs : List Loc} {ls : Array Slot} {a0 : Nat} {x1 : Int32} {x2 : Int32} {x3 : Int32} {x4 : Int32}, wp_X2_mark_38 D post S a0 x1 x2 x3 x4 → wO D cy X A s.heap S H locs → wX D S0 S → lv_has ls 7 [(0, .ref a0), (1, .int x1), (2, .int x2), (3, .int x3), (4, .int x4)] → wM D S a0 → sK S a0 = 7 → W p l e r_X2_mark s m args below meth c H locs 0 0 (MQ below (va_Qv (fun S9 => wX D S0 S9 ∧ post S9) (wB D cy X A) A) args s 0 0 A) (F0 m 38 ls []) := by
  obtain ⟨hx, hb, hml, hown, hts⟩ := id F
  have hwg : ∀ w ∈ WG, w.before args s = true := fun w h => hts w (List.mem_cons_of_mem _ h)
  intro S H locs ls a0 x1 x2 x3 x4 hp hW hE hl hL_a0 hK_a0
  unfold wp_X2_mark_38 at hp
  refine lv_iconst (v := 0) hx hb dX2_mark_38 (by decide) ?_
  exact t_X2_mark_39 F hr hlocks hK hp hW hE (lv_sub hl [0, 1, 2, 3, 4] rfl) hL_a0 hK_a0
set_option maxHeartbeats 4000000 in
set_option maxRecDepth 100000 in
theorem t_X2_mark_0 {p : Program} {l : Launch} {e : Env} {s : State} {m : MethodId} {args : Array Value} {below : List Frame} {meth : Method} {c : Code} {D : wD} {cy : Nat → ClassId} {X : va_W} {A : Nat → Prop} {S0 : wS} {post : wS → Prop} (F : CallFix p m c cX2_mark 7 s args wz_X2_mark RX2) (hr : meth.sig.returnType = none) (hlocks : meth.locks = false) (hK : wK D cy A s) : ∀ {S : wS} {H : Heap} {locs : List Loc} {ls : Array Slot} {a0 : Nat} {x1 : Int32} {x2 : Int32} {x3 : Int32} {x4 : Int32}, wp_X2_mark_0 D post S a0 x1 x2 x3 x4 → wO D cy X A s.heap S H locs → wX D S0 S → lv_has ls 7 [(0, .ref a0), (1, .int x1), (2, .int x2), (3, .int x3), (4, .int x4)] → wM D S a0 → sK S a0 = 7 → W p l e r_X2_mark s m args below meth c H locs 0 0 (MQ below (va_Qv (fun S9 => wX D S0 S9 ∧ post S9) (wB D cy X A) A) args s 0 0 A) (F0 m 0 ls []) := by
  obtain ⟨hx, hb, hml, hown, hts⟩ := id F
  have hwg : ∀ w ∈ WG, w.before args s = true := fun w h => hts w (List.mem_cons_of_mem _ h)
  have i_7 : ∀ w ∈ u_ws RX2 TX2 8, w ∈ wz_X2_mark := fun w h => List.mem_cons_of_mem _ (wu_7 w h)
  have k_35 := hwg _ wf_RX2_35
  intro S H locs ls a0 x1 x2 x3 x4 hp hW hE hl hL_a0 hK_a0
  unfold wp_X2_mark_0 at hp
  refine lv_iload_n hx hb dX2_mark_0 rfl (lv_at hl 2 rfl) ?_
  refine lv_iload_n hx hb dX2_mark_1 rfl (lv_at hl 3 rfl) ?_
  refine lv_icmp_eq (tgt := 38) hx hb dX2_mark_2 (by decide) (fun c_1 => ?_) (fun c_1 => ?_)
  · replace hp := hp.1 c_1
    exact t_X2_mark_38 F hr hlocks hK hp hW hE (lv_sub hl [0, 1, 2, 3, 4] rfl) hL_a0 hK_a0
  · replace hp := hp.2 c_1
    refine lv_iload_n hx hb dX2_mark_5 rfl (lv_at hl 2 rfl) ?_
    refine lv_iload hx hb dX2_mark_6 (lv_at hl 4 rfl) ?_
    refine lv_icmp_eq (tgt := 38) hx hb dX2_mark_8 (by decide) (fun c_2 => ?_) (fun c_2 => ?_)
    · replace hp := hp.1 c_2
      exact t_X2_mark_38 F hr hlocks hK hp hW hE (lv_sub hl [0, 1, 2, 3, 4] rfl) hL_a0 hK_a0
    · replace hp := hp.2 c_2
      refine lv_iload_n hx hb dX2_mark_11 rfl (lv_at hl 3 rfl) ?_
      refine lv_iload hx hb dX2_mark_12 (lv_at hl 4 rfl) ?_
      refine lv_icmp_eq (tgt := 38) hx hb dX2_mark_14 (by decide) (fun c_3 => ?_) (fun c_3 => ?_)
      · replace hp := hp.1 c_3
        exact t_X2_mark_38 F hr hlocks hK hp hW hE (lv_sub hl [0, 1, 2, 3, 4] rfl) hL_a0 hK_a0
      · replace hp := hp.2 c_3
        refine lv_aload_n hx hb dX2_mark_17 rfl (lv_at hl 0 rfl) ?_
        obtain ⟨y_4, ey_4, hL_y_4, hK_y_4, hp⟩ := hp
        refine w_get (k := 7) (f := 0) (T := TX2) (v := .ref y_4) F hK hW hL_a0 hK_a0 (by decide) rfl rfl (by decide) i_7 k_35 (by rw [show wv 7 0 S a0 = va_rf (sR S a0 0) from rfl, ey_4]; rfl) dX2_mark_18 ?_
        refine lv_iconst (v := 1) hx hb dX2_mark_21 (by decide) ?_
        refine lv_iload_n hx hb dX2_mark_22 rfl (lv_at hl 2 rfl) ?_
        refine lv_lconst (v := 0) hx hb dX2_mark_23 (by decide) ?_
        refine w_callJ (va_runV (As := [.int (1 : Int32), .int x2, .long (0 : Int64)]) (rest := []) F (c_X0_reach l hL_y_4 hK_y_4 hp H.size) (cwV (C := RX0) 3 hts (wg_V wm_RX2_130 wy_X0_reach) rfl rfl rfl (by decide +kernel) ⟨Nat.le_of_ble_eq_true rfl, Nat.le_of_ble_eq_true rfl⟩) (w_preV hK hW hL_y_4 hK_y_4 (by decide) rfl) rfl rfl hl.1 rfl (lv_room (Nat.le_of_ble_eq_true rfl)) dX2_mark_24 ⟨Nat.le_of_ble_eq_true rfl, Nat.le_of_ble_eq_true rfl⟩) hW (fun r_5 S_6 H locs hp hW => ?_)
        obtain ⟨hX_S_6, hp⟩ := hp
        refine W.widen (k := 0) (n := 0) (by decide) (by decide) ?_
        have hE := hE.trans hX_S_6
        have hK_a0 : sK S_6 a0 = 7 := (hX_S_6.2 a0 hL_a0).1.trans hK_a0
        have hL_a0 : wM D S_6 a0 := hX_S_6.M hL_a0
        refine lv_iload_n hx hb dX2_mark_27 rfl (lv_at hl 3 rfl) ?_
        refine w_callI (va_runSN (As := [.long r_5, .int x3]) (rest := []) F (c_X11_contains l hp H.size) ⟨va_cnB (host := "OpeningsCabinet") 2 hts (wg_cons wy_X11_contains.2.2) rfl rfl rfl (hK.2.1 (.methodLinkNest "OpeningsCabinet$Endings" 134 ⟨"OpeningsCabinet", "contains", "(JI)Z"⟩ "OpeningsCabinet") (by decide +kernel)) (hwg _ wy_X11_contains.2.1) ⟨by decide, by decide, by decide +kernel⟩ ⟨Nat.le_of_ble_eq_true rfl, Nat.le_of_ble_eq_true rfl⟩, hwg _ wy_X11_contains.1, trivial⟩ (w_preS hK hW) rfl rfl hl.1 rfl (lv_room (Nat.le_of_ble_eq_true rfl)) dX2_mark_28 ⟨Nat.le_of_ble_eq_true rfl, Nat.le_of_ble_eq_true rfl⟩) hW (fun r_7 S_8 H locs hp hW => ?_)
        obtain ⟨hX_S_8, hp⟩ := hp
        refine W.widen (k := 0) (n := 0) (by decide) (by decide) ?_
        have hE := hE.trans hX_S_8
        have hK_a0 : sK S_8 a0 = 7 := (hX_S_8.2 a0 hL_a0).1.trans hK_a0
        have hL_a0 : wM D S_8 a0 := hX_S_8.M hL_a0
        refine lv_if_ne (tgt := 38) hx hb dX2_mark_31 (by decide) (fun c_9 => ?_) (fun c_9 => ?_)
        · replace hp := hp.1 c_9
          exact t_X2_mark_38 F hr hlocks hK hp hW hE (lv_sub hl [0, 1, 2, 3, 4] rfl) hL_a0 hK_a0
        · replace hp := hp.2 c_9
          refine lv_iconst (v := 1) hx hb dX2_mark_34 (by decide) ?_
          refine lv_goto (tgt := 39) hx hb dX2_mark_35 (by decide) ?_
          exact t_X2_mark_39 F hr hlocks hK hp hW hE (lv_sub hl [0, 1, 2, 3, 4] rfl) hL_a0 hK_a0
set_option maxHeartbeats 4000000 in
set_option maxRecDepth 100000 in
theorem c_X2_mark (l : Launch) {D : wD} {cy : Nat → ClassId} {X : va_W} {S0 : wS} {post : wS → Prop} {a0 : Nat} {x1 : Int32} {x2 : Int32} {x3 : Int32} {x4 : Int32} (hL_a0 : wM D S0 a0) (hK_a0 : sK S0 a0 = 7) (hp : wp_X2_mark D post S0 a0 x1 x2 x3 x4) : mV D cy X l yX2_mark wz_X2_mark r_X2_mark [.ref a0, .int x1, .int x2, .int x3, .int x4] S0 (fun S9 => wX D S0 S9 ∧ post S9) := by
  intro sz
  refine Met.ofW (cc := cX2_mark) (maxL := 7) (ret := none) (by decide) rfl ?_
  intro p e s m args below meth c s₁ B hml hv
  obtain ⟨rfl, hsz, hP, hK, hD0, hRO⟩ := hv
  have hts := atoms_spec (ws := wz_X2_mark) B.pre
  have hown : s.vm.findClass RX2 = some m.cls := findClass_of_methodNamed B.named
  subst hsz
  have hD := hD0.self (sz := s.heap.size)
  have F : CallFix p m c cX2_mark 7 s _ wz_X2_mark RX2 := ⟨B.exec, B.bytes, hml, hown, hts⟩
  have hr := B.returns
  have hlocks := B.notSynchronized
  generalize hAe : va_A (wL cy X S0) s.heap.size = A at hD hK ⊢
  have hA : ∀ q, s.heap.size ≤ q → A q := fun q h => by rw [← hAe]; exact Or.inr h
  have hW : wO D cy X A s.heap S0 s.heap [] := ⟨hP, hD, va_S.rf, hA, hRO⟩
  have hl := lv_entry ([.ref a0, .int x1, .int x2, .int x3, .int x4]) (n := 7) (Nat.le_of_ble_eq_true rfl)
  rw [lg_entry_eq]
  generalize (lg_sl ([.ref a0, .int x1, .int x2, .int x3, .int x4]) ++ List.replicate (7 - (lg_sl ([.ref a0, .int x1, .int x2, .int x3, .int x4])).length) Slot.unset).toArray = ls at hl ⊢
  have hl : lv_has ls 7 [(0, .ref a0), (1, .int x1), (2, .int x2), (3, .int x3), (4, .int x4)] := hl
  unfold wp_X2_mark at hp
  exact t_X2_mark_0 F hr hlocks hK hp hW wX.rf (lv_sub hl [0, 1, 2, 3, 4] rfl) hL_a0 hK_a0
def wp_X2_forEachPlace_69 (D : wD) (post : wS → Prop) (k_16 : wS → Nat → Int32 → Int32 → Int32 → Int32 → Prop) (k_25 : wS → Nat → Int32 → Int32 → Int32 → Int32 → Int32 → Prop) (k_34 : wS → Nat → Int32 → Int32 → Int32 → Int32 → Int32 → Int32 → Prop) (S : wS) (a0 : Nat) (x1 : Int32) (x2 : Int32) (x3 : Int32) (x4 : Int32) (x5 : Int32) (x6 : Int32) : Prop :=
∀ x_1 : Int32, x_1 = x6 + 1 →
k_34 S a0 x1 x2 x3 x4 x5 x_1
def wp_X2_forEachPlace_34 (D : wD) (post : wS → Prop) (k_16 : wS → Nat → Int32 → Int32 → Int32 → Int32 → Prop) (k_25 : wS → Nat → Int32 → Int32 → Int32 → Int32 → Int32 → Prop) : Nat → wS → Nat → Int32 → Int32 → Int32 → Int32 → Int32 → Int32 → Prop
  | 0, _, _, _, _, _, _, _, _ => False
  | n + 1, S, a0, x1, x2, x3, x4, x5, x6 =>
    ((x3 ≤ x6 → ∀ x_2 : Int32, x_2 = x5 + 1 →
    k_25 S a0 x1 x2 x3 x4 x_2) ∧
     (¬ x3 ≤ x6 → ((x2 = 0 → wp_X2_countMovesOfBlack D (fun S_5 => 
    wp_X2_forEachPlace_69 D post k_16 k_25 (wp_X2_forEachPlace_34 D post k_16 k_25 n) S_5 a0 x1 x2 x3 x4 x5 x6) S a0 x1 x4 x5 x6) ∧
     (¬ x2 = 0 → wp_X2_mark D (fun S_7 => 
    wp_X2_forEachPlace_69 D post k_16 k_25 (wp_X2_forEachPlace_34 D post k_16 k_25 n) S_7 a0 x1 x2 x3 x4 x5 x6) S a0 x1 x4 x5 x6))))
def wp_X2_forEachPlace_25 (D : wD) (post : wS → Prop) (k_16 : wS → Nat → Int32 → Int32 → Int32 → Int32 → Prop) : Nat → wS → Nat → Int32 → Int32 → Int32 → Int32 → Int32 → Prop
  | 0, _, _, _, _, _, _, _ => False
  | n + 1, S, a0, x1, x2, x3, x4, x5 =>
    ((x3 ≤ x5 → ∀ x_2 : Int32, x_2 = x4 + 1 →
    k_16 S a0 x1 x2 x3 x_2) ∧
     (¬ x3 ≤ x5 → ∃ n_3 : Nat, wp_X2_forEachPlace_34 D post k_16 (wp_X2_forEachPlace_25 D post k_16 n) n_3 S a0 x1 x2 x3 x4 x5 (0 : Int32)))
def wp_X2_forEachPlace_16 (D : wD) (post : wS → Prop)  : Nat → wS → Nat → Int32 → Int32 → Int32 → Int32 → Prop
  | 0, _, _, _, _, _, _ => False
  | n + 1, S, a0, x1, x2, x3, x4 =>
    ((x3 ≤ x4 → post S) ∧
     (¬ x3 ≤ x4 → ∃ n_2 : Nat, wp_X2_forEachPlace_25 D post (wp_X2_forEachPlace_16 D post n) n_2 S a0 x1 x2 x3 x4 (0 : Int32)))
def wp_X2_forEachPlace_0 (D : wD) (post : wS → Prop)  (S : wS) (a0 : Nat) (x1 : Int32) (x2 : Int32) : Prop :=
∃ y_1 : Nat, sR S a0 0 = some y_1 ∧ wM D S y_1 ∧ sK S y_1 = 5 ∧
∀ x_2 : Int32, x_2 = (if (25 : Int32) < (sI S y_1 2) then (25 : Int32) else (sI S y_1 2)) →
∃ n_3 : Nat, wp_X2_forEachPlace_16 D post n_3 S a0 x1 x2 x_2 (0 : Int32)
abbrev r_X2_forEachPlace : Room := { frames := 4, cells := 0, slots := 0, locals := 109 }
def wp_X2_forEachPlace (D : wD) (post : wS → Prop) (S : wS) (a0 : Nat) (x1 : Int32) (x2 : Int32) : Prop := wp_X2_forEachPlace_0 D post S a0 x1 x2
set_option maxHeartbeats 4000000 in
set_option maxRecDepth 100000 in
theorem t_X2_forEachPlace_69 {p : Program} {l : Launch} {e : Env} {s : State} {m : MethodId} {args : Array Value} {below : List Frame} {meth : Method} {c : Code} {D : wD} {cy : Nat → ClassId} {X : va_W} {A : Nat → Prop} {S0 : wS} {post : wS → Prop} (F : CallFix p m c cX2_forEachPlace 7 s args wz_X2_forEachPlace RX2) (hr : meth.sig.returnType = none) (hlocks : meth.locks = false) (hK : wK D cy A s) {k_16 : wS → Nat → Int32 → Int32 → Int32 → Int32 → Prop} (q_16 : ∀ {S : wS} {H : Heap} {locs : List Loc} {ls : Array Slot} {a0 : Nat} {x1 : Int32} {x2 : Int32} {x3 : Int32} {x4 : Int32}, k_16 S a0 x1 x2 x3 x4 → wO D cy X A s.heap S H locs → wX D S0 S → lv_has ls 7 [(0, .ref a0), (1, .int x1), (2, .int x2), (3, .int x3), (4, .int x4)] → wM D S a0 → sK S a0 = 7 → W p l e r_X2_forEachPlace s m args below meth c H locs 0 0 (MQ below (va_Qv (fun S9 => wX D S0 S9 ∧ post S9) (wB D cy X A) A) args s 0 0 A) (F0 m 16 ls [])) {k_25 : wS → Nat → Int32 → Int32 → Int32 → Int32 → Int32 → Prop} (q_25 : ∀ {S : wS} {H : Heap} {locs : List Loc} {ls : Array Slot} {a0 : Nat} {x1 : Int32} {x2 : Int32} {x3 : Int32} {x4 : Int32} {x5 : Int32}, k_25 S a0 x1 x2 x3 x4 x5 → wO D cy X A s.heap S H locs → wX D S0 S → lv_has ls 7 [(0, .ref a0), (1, .int x1), (2, .int x2), (3, .int x3), (4, .int x4), (5, .int x5)] → wM D S a0 → sK S a0 = 7 → W p l e r_X2_forEachPlace s m args below meth c H locs 0 0 (MQ below (va_Qv (fun S9 => wX D S0 S9 ∧ post S9) (wB D cy X A) A) args s 0 0 A) (F0 m 25 ls [])) {k_34 : wS → Nat → Int32 → Int32 → Int32 → Int32 → Int32 → Int32 → Prop} (q_34 : ∀ {S : wS} {H : Heap} {locs : List Loc} {ls : Array Slot} {a0 : Nat} {x1 : Int32} {x2 : Int32} {x3 : Int32} {x4 : Int32} {x5 : Int32} {x6 : Int32}, k_34 S a0 x1 x2 x3 x4 x5 x6 → wO D cy X A s.heap S H locs → wX D S0 S → lv_has ls 7 [(0, .ref a0), (1, .int x1), (2, .int x2), (3, .int x3), (4, .int x4), (5, .int x5), (6, .int x6)] → wM D S a0 → sK S a0 = 7 → W p l e r_X2_forEachPlace s m args below meth c H locs 0 0 (MQ below (va_Qv (fun S9 => wX D S0 S9 ∧ post S9) (wB D cy X A) A) args s 0 0 A) (F0 m 34 ls [])) : ∀ {S : wS} {H : Heap} {locs : List Loc} {ls : Array Slot} {a0 : Nat} {x1 : Int32} {x2 : Int32} {x3 : Int32} {x4 : Int32} {x5 : Int32} {x6 : Int32}, wp_X2_forEachPlace_69 D post k_16 k_25 k_34 S a0 x1 x2 x3 x4 x5 x6 → wO D cy X A s.heap S H locs → wX D S0 S → lv_has ls 7 [(0, .ref a0), (1, .int x1), (2, .int x2), (3, .int x3), (4, .int x4), (5, .int x5), (6, .int x6)] → wM D S a0 → sK S a0 = 7 → W p l e r_X2_forEachPlace s m args below meth c H locs 0 0 (MQ below (va_Qv (fun S9 => wX D S0 S9 ∧ post S9) (wB D cy X A) A) args s 0 0 A) (F0 m 69 ls []) := by
  obtain ⟨hx, hb, hml, hown, hts⟩ := id F
  have hwg : ∀ w ∈ WG, w.before args s = true := fun w h => hts w (List.mem_cons_of_mem _ h)
  intro S H locs ls a0 x1 x2 x3 x4 x5 x6 hp hW hE hl hL_a0 hK_a0
  unfold wp_X2_forEachPlace_69 at hp
  obtain ⟨x_1, ex_1⟩ : ∃ z : Int32, z = x6 + 1 := ⟨_, rfl⟩
  replace hp := hp x_1 ex_1
  refine lv_iinc (v := x_1) (lv' := [(6, .int x_1), (0, .ref a0), (1, .int x1), (2, .int x2), (3, .int x3), (4, .int x4), (5, .int x5)]) hx hb dX2_forEachPlace_69 hl (k := 6) rfl (by rw [ex_1]; rfl) (by decide) rfl (fun ls hl => ?_)
  refine lv_goto (tgt := 34) hx hb dX2_forEachPlace_72 (by decide) ?_
  exact q_34 hp hW hE (lv_sub hl [1, 2, 3, 4, 5, 6, 0] rfl) hL_a0 hK_a0
set_option maxHeartbeats 4000000 in
set_option maxRecDepth 100000 in
theorem t_X2_forEachPlace_34 {p : Program} {l : Launch} {e : Env} {s : State} {m : MethodId} {args : Array Value} {below : List Frame} {meth : Method} {c : Code} {D : wD} {cy : Nat → ClassId} {X : va_W} {A : Nat → Prop} {S0 : wS} {post : wS → Prop} (F : CallFix p m c cX2_forEachPlace 7 s args wz_X2_forEachPlace RX2) (hr : meth.sig.returnType = none) (hlocks : meth.locks = false) (hK : wK D cy A s) {k_16 : wS → Nat → Int32 → Int32 → Int32 → Int32 → Prop} (q_16 : ∀ {S : wS} {H : Heap} {locs : List Loc} {ls : Array Slot} {a0 : Nat} {x1 : Int32} {x2 : Int32} {x3 : Int32} {x4 : Int32}, k_16 S a0 x1 x2 x3 x4 → wO D cy X A s.heap S H locs → wX D S0 S → lv_has ls 7 [(0, .ref a0), (1, .int x1), (2, .int x2), (3, .int x3), (4, .int x4)] → wM D S a0 → sK S a0 = 7 → W p l e r_X2_forEachPlace s m args below meth c H locs 0 0 (MQ below (va_Qv (fun S9 => wX D S0 S9 ∧ post S9) (wB D cy X A) A) args s 0 0 A) (F0 m 16 ls [])) {k_25 : wS → Nat → Int32 → Int32 → Int32 → Int32 → Int32 → Prop} (q_25 : ∀ {S : wS} {H : Heap} {locs : List Loc} {ls : Array Slot} {a0 : Nat} {x1 : Int32} {x2 : Int32} {x3 : Int32} {x4 : Int32} {x5 : Int32}, k_25 S a0 x1 x2 x3 x4 x5 → wO D cy X A s.heap S H locs → wX D S0 S → lv_has ls 7 [(0, .ref a0), (1, .int x1), (2, .int x2), (3, .int x3), (4, .int x4), (5, .int x5)] → wM D S a0 → sK S a0 = 7 → W p l e r_X2_forEachPlace s m args below meth c H locs 0 0 (MQ below (va_Qv (fun S9 => wX D S0 S9 ∧ post S9) (wB D cy X A) A) args s 0 0 A) (F0 m 25 ls [])) : ∀ (n : Nat) {S : wS} {H : Heap} {locs : List Loc} {ls : Array Slot} {a0 : Nat} {x1 : Int32} {x2 : Int32} {x3 : Int32} {x4 : Int32} {x5 : Int32} {x6 : Int32}, wp_X2_forEachPlace_34 D post k_16 k_25 n S a0 x1 x2 x3 x4 x5 x6 → wO D cy X A s.heap S H locs → wX D S0 S → lv_has ls 7 [(0, .ref a0), (1, .int x1), (2, .int x2), (3, .int x3), (4, .int x4), (5, .int x5), (6, .int x6)] → wM D S a0 → sK S a0 = 7 → W p l e r_X2_forEachPlace s m args below meth c H locs 0 0 (MQ below (va_Qv (fun S9 => wX D S0 S9 ∧ post S9) (wB D cy X A) A) args s 0 0 A) (F0 m 34 ls []) := by
  obtain ⟨hx, hb, hml, hown, hts⟩ := id F
  have hwg : ∀ w ∈ WG, w.before args s = true := fun w h => hts w (List.mem_cons_of_mem _ h)
  intro n
  induction n with
  | zero =>
    intro S H locs ls a0 x1 x2 x3 x4 x5 x6 hp
    exact hp.elim
  | succ n ih =>
    intro S H locs ls a0 x1 x2 x3 x4 x5 x6 hp hW hE hl hL_a0 hK_a0
    unfold wp_X2_forEachPlace_34 at hp
    refine lv_iload hx hb dX2_forEachPlace_34 (lv_at hl 6 rfl) ?_
    refine lv_iload_n hx hb dX2_forEachPlace_36 rfl (lv_at hl 3 rfl) ?_
    refine lv_icmp_ge (tgt := 75) hx hb dX2_forEachPlace_37 (by decide) (fun c_1 => ?_) (fun c_1 => ?_)
    · replace hp := hp.1 c_1
      obtain ⟨x_2, ex_2⟩ : ∃ z : Int32, z = x5 + 1 := ⟨_, rfl⟩
      replace hp := hp x_2 ex_2
      refine lv_iinc (v := x_2) (lv' := [(5, .int x_2), (0, .ref a0), (1, .int x1), (2, .int x2), (3, .int x3), (4, .int x4), (6, .int x6)]) hx hb dX2_forEachPlace_75 hl (k := 5) rfl (by rw [ex_2]; rfl) (by decide) rfl (fun ls hl => ?_)
      refine lv_goto (tgt := 25) hx hb dX2_forEachPlace_78 (by decide) ?_
      exact q_25 hp hW hE (lv_sub hl [1, 2, 3, 4, 5, 0] rfl) hL_a0 hK_a0
    · replace hp := hp.2 c_1
      refine lv_iload_n hx hb dX2_forEachPlace_40 rfl (lv_at hl 2 rfl) ?_
      refine lv_if_eq (tgt := 58) hx hb dX2_forEachPlace_41 (by decide) (fun c_3 => ?_) (fun c_3 => ?_)
      · replace hp := hp.1 c_3
        refine lv_aload_n hx hb dX2_forEachPlace_58 rfl (lv_at hl 0 rfl) ?_
        refine lv_iload_n hx hb dX2_forEachPlace_59 rfl (lv_at hl 1 rfl) ?_
        refine lv_iload hx hb dX2_forEachPlace_60 (lv_at hl 4 rfl) ?_
        refine lv_iload hx hb dX2_forEachPlace_62 (lv_at hl 5 rfl) ?_
        refine lv_iload hx hb dX2_forEachPlace_64 (lv_at hl 6 rfl) ?_
        refine w_callV (va_runV (As := [.int x1, .int x4, .int x5, .int x6]) (rest := []) F (c_X2_countMovesOfBlack l hL_a0 hK_a0 hp H.size) (cwV (C := RX2) 4 hts (wg_V wm_RX2_127 wy_X2_countMovesOfBlack) rfl rfl rfl (by decide +kernel) ⟨Nat.le_of_ble_eq_true rfl, Nat.le_of_ble_eq_true rfl⟩) (w_preV hK hW hL_a0 hK_a0 (by decide) rfl) rfl rfl hl.1 rfl (lv_room (Nat.le_of_ble_eq_true rfl)) dX2_forEachPlace_66 ⟨Nat.le_of_ble_eq_true rfl, Nat.le_of_ble_eq_true rfl⟩) hW (fun S_5 H locs hp hW => ?_)
        obtain ⟨hX_S_5, hp⟩ := hp
        refine W.widen (k := 0) (n := 0) (by decide) (by decide) ?_
        have hE := hE.trans hX_S_5
        have hK_a0 : sK S_5 a0 = 7 := (hX_S_5.2 a0 hL_a0).1.trans hK_a0
        have hL_a0 : wM D S_5 a0 := hX_S_5.M hL_a0
        exact t_X2_forEachPlace_69 F hr hlocks hK q_16 q_25 ih hp hW hE (lv_sub hl [0, 1, 2, 3, 4, 5, 6] rfl) hL_a0 hK_a0
      · replace hp := hp.2 c_3
        refine lv_aload_n hx hb dX2_forEachPlace_44 rfl (lv_at hl 0 rfl) ?_
        refine lv_iload_n hx hb dX2_forEachPlace_45 rfl (lv_at hl 1 rfl) ?_
        refine lv_iload hx hb dX2_forEachPlace_46 (lv_at hl 4 rfl) ?_
        refine lv_iload hx hb dX2_forEachPlace_48 (lv_at hl 5 rfl) ?_
        refine lv_iload hx hb dX2_forEachPlace_50 (lv_at hl 6 rfl) ?_
        refine w_callV (va_runV (As := [.int x1, .int x4, .int x5, .int x6]) (rest := []) F (c_X2_mark l hL_a0 hK_a0 hp H.size) (cwV (C := RX2) 4 hts (wg_V wm_RX2_123 wy_X2_mark) rfl rfl rfl (by decide +kernel) ⟨Nat.le_of_ble_eq_true rfl, Nat.le_of_ble_eq_true rfl⟩) (w_preV hK hW hL_a0 hK_a0 (by decide) rfl) rfl rfl hl.1 rfl (lv_room (Nat.le_of_ble_eq_true rfl)) dX2_forEachPlace_52 ⟨Nat.le_of_ble_eq_true rfl, Nat.le_of_ble_eq_true rfl⟩) hW (fun S_7 H locs hp hW => ?_)
        obtain ⟨hX_S_7, hp⟩ := hp
        refine W.widen (k := 0) (n := 0) (by decide) (by decide) ?_
        have hE := hE.trans hX_S_7
        have hK_a0 : sK S_7 a0 = 7 := (hX_S_7.2 a0 hL_a0).1.trans hK_a0
        have hL_a0 : wM D S_7 a0 := hX_S_7.M hL_a0
        refine lv_goto (tgt := 69) hx hb dX2_forEachPlace_55 (by decide) ?_
        exact t_X2_forEachPlace_69 F hr hlocks hK q_16 q_25 ih hp hW hE (lv_sub hl [0, 1, 2, 3, 4, 5, 6] rfl) hL_a0 hK_a0
set_option maxHeartbeats 4000000 in
set_option maxRecDepth 100000 in
theorem t_X2_forEachPlace_25 {p : Program} {l : Launch} {e : Env} {s : State} {m : MethodId} {args : Array Value} {below : List Frame} {meth : Method} {c : Code} {D : wD} {cy : Nat → ClassId} {X : va_W} {A : Nat → Prop} {S0 : wS} {post : wS → Prop} (F : CallFix p m c cX2_forEachPlace 7 s args wz_X2_forEachPlace RX2) (hr : meth.sig.returnType = none) (hlocks : meth.locks = false) (hK : wK D cy A s) {k_16 : wS → Nat → Int32 → Int32 → Int32 → Int32 → Prop} (q_16 : ∀ {S : wS} {H : Heap} {locs : List Loc} {ls : Array Slot} {a0 : Nat} {x1 : Int32} {x2 : Int32} {x3 : Int32} {x4 : Int32}, k_16 S a0 x1 x2 x3 x4 → wO D cy X A s.heap S H locs → wX D S0 S → lv_has ls 7 [(0, .ref a0), (1, .int x1), (2, .int x2), (3, .int x3), (4, .int x4)] → wM D S a0 → sK S a0 = 7 → W p l e r_X2_forEachPlace s m args below meth c H locs 0 0 (MQ below (va_Qv (fun S9 => wX D S0 S9 ∧ post S9) (wB D cy X A) A) args s 0 0 A) (F0 m 16 ls [])) : ∀ (n : Nat) {S : wS} {H : Heap} {locs : List Loc} {ls : Array Slot} {a0 : Nat} {x1 : Int32} {x2 : Int32} {x3 : Int32} {x4 : Int32} {x5 : Int32}, wp_X2_forEachPlace_25 D post k_16 n S a0 x1 x2 x3 x4 x5 → wO D cy X A s.heap S H locs → wX D S0 S → lv_has ls 7 [(0, .ref a0), (1, .int x1), (2, .int x2), (3, .int x3), (4, .int x4), (5, .int x5)] → wM D S a0 → sK S a0 = 7 → W p l e r_X2_forEachPlace s m args below meth c H locs 0 0 (MQ below (va_Qv (fun S9 => wX D S0 S9 ∧ post S9) (wB D cy X A) A) args s 0 0 A) (F0 m 25 ls []) := by
  obtain ⟨hx, hb, hml, hown, hts⟩ := id F
  have hwg : ∀ w ∈ WG, w.before args s = true := fun w h => hts w (List.mem_cons_of_mem _ h)
  intro n
  induction n with
  | zero =>
    intro S H locs ls a0 x1 x2 x3 x4 x5 hp
    exact hp.elim
  | succ n ih =>
    intro S H locs ls a0 x1 x2 x3 x4 x5 hp hW hE hl hL_a0 hK_a0
    unfold wp_X2_forEachPlace_25 at hp
    refine lv_iload hx hb dX2_forEachPlace_25 (lv_at hl 5 rfl) ?_
    refine lv_iload_n hx hb dX2_forEachPlace_27 rfl (lv_at hl 3 rfl) ?_
    refine lv_icmp_ge (tgt := 81) hx hb dX2_forEachPlace_28 (by decide) (fun c_1 => ?_) (fun c_1 => ?_)
    · replace hp := hp.1 c_1
      obtain ⟨x_2, ex_2⟩ : ∃ z : Int32, z = x4 + 1 := ⟨_, rfl⟩
      replace hp := hp x_2 ex_2
      refine lv_iinc (v := x_2) (lv' := [(4, .int x_2), (0, .ref a0), (1, .int x1), (2, .int x2), (3, .int x3), (5, .int x5)]) hx hb dX2_forEachPlace_81 hl (k := 4) rfl (by rw [ex_2]; rfl) (by decide) rfl (fun ls hl => ?_)
      refine lv_goto (tgt := 16) hx hb dX2_forEachPlace_84 (by decide) ?_
      exact q_16 hp hW hE (lv_sub hl [1, 2, 3, 4, 0] rfl) hL_a0 hK_a0
    · replace hp := hp.2 c_1
      refine lv_iconst (v := 0) hx hb dX2_forEachPlace_31 (by decide) ?_
      refine lv_istore (lv' := [(6, .int (0 : Int32)), (0, .ref a0), (1, .int x1), (2, .int x2), (3, .int x3), (4, .int x4), (5, .int x5)]) hx hb dX2_forEachPlace_32 hl (by decide) rfl (fun ls hl => ?_)
      obtain ⟨n_3, hp⟩ := hp
      exact t_X2_forEachPlace_34 F hr hlocks hK q_16 ih n_3 hp hW hE (lv_sub hl [1, 2, 3, 4, 5, 6, 0] rfl) hL_a0 hK_a0
set_option maxHeartbeats 4000000 in
set_option maxRecDepth 100000 in
theorem t_X2_forEachPlace_16 {p : Program} {l : Launch} {e : Env} {s : State} {m : MethodId} {args : Array Value} {below : List Frame} {meth : Method} {c : Code} {D : wD} {cy : Nat → ClassId} {X : va_W} {A : Nat → Prop} {S0 : wS} {post : wS → Prop} (F : CallFix p m c cX2_forEachPlace 7 s args wz_X2_forEachPlace RX2) (hr : meth.sig.returnType = none) (hlocks : meth.locks = false) (hK : wK D cy A s) : ∀ (n : Nat) {S : wS} {H : Heap} {locs : List Loc} {ls : Array Slot} {a0 : Nat} {x1 : Int32} {x2 : Int32} {x3 : Int32} {x4 : Int32}, wp_X2_forEachPlace_16 D post n S a0 x1 x2 x3 x4 → wO D cy X A s.heap S H locs → wX D S0 S → lv_has ls 7 [(0, .ref a0), (1, .int x1), (2, .int x2), (3, .int x3), (4, .int x4)] → wM D S a0 → sK S a0 = 7 → W p l e r_X2_forEachPlace s m args below meth c H locs 0 0 (MQ below (va_Qv (fun S9 => wX D S0 S9 ∧ post S9) (wB D cy X A) A) args s 0 0 A) (F0 m 16 ls []) := by
  obtain ⟨hx, hb, hml, hown, hts⟩ := id F
  have hwg : ∀ w ∈ WG, w.before args s = true := fun w h => hts w (List.mem_cons_of_mem _ h)
  intro n
  induction n with
  | zero =>
    intro S H locs ls a0 x1 x2 x3 x4 hp
    exact hp.elim
  | succ n ih =>
    intro S H locs ls a0 x1 x2 x3 x4 hp hW hE hl hL_a0 hK_a0
    unfold wp_X2_forEachPlace_16 at hp
    refine lv_iload hx hb dX2_forEachPlace_16 (lv_at hl 4 rfl) ?_
    refine lv_iload_n hx hb dX2_forEachPlace_18 rfl (lv_at hl 3 rfl) ?_
    refine lv_icmp_ge (tgt := 87) hx hb dX2_forEachPlace_19 (by decide) (fun c_1 => ?_) (fun c_1 => ?_)
    · replace hp := hp.1 c_1
      exact w_vret hx hb hr hlocks hW ⟨hE, hp⟩ dX2_forEachPlace_87
    · replace hp := hp.2 c_1
      refine lv_iconst (v := 0) hx hb dX2_forEachPlace_22 (by decide) ?_
      refine lv_istore (lv' := [(5, .int (0 : Int32)), (0, .ref a0), (1, .int x1), (2, .int x2), (3, .int x3), (4, .int x4)]) hx hb dX2_forEachPlace_23 hl (by decide) rfl (fun ls hl => ?_)
      obtain ⟨n_2, hp⟩ := hp
      exact t_X2_forEachPlace_25 F hr hlocks hK ih n_2 hp hW hE (lv_sub hl [1, 2, 3, 4, 5, 0] rfl) hL_a0 hK_a0
set_option maxHeartbeats 4000000 in
set_option maxRecDepth 100000 in
theorem t_X2_forEachPlace_0 {p : Program} {l : Launch} {e : Env} {s : State} {m : MethodId} {args : Array Value} {below : List Frame} {meth : Method} {c : Code} {D : wD} {cy : Nat → ClassId} {X : va_W} {A : Nat → Prop} {S0 : wS} {post : wS → Prop} (F : CallFix p m c cX2_forEachPlace 7 s args wz_X2_forEachPlace RX2) (hr : meth.sig.returnType = none) (hlocks : meth.locks = false) (hK : wK D cy A s) : ∀ {S : wS} {H : Heap} {locs : List Loc} {ls : Array Slot} {a0 : Nat} {x1 : Int32} {x2 : Int32}, wp_X2_forEachPlace_0 D post S a0 x1 x2 → wO D cy X A s.heap S H locs → wX D S0 S → lv_has ls 7 [(0, .ref a0), (1, .int x1), (2, .int x2)] → wM D S a0 → sK S a0 = 7 → W p l e r_X2_forEachPlace s m args below meth c H locs 0 0 (MQ below (va_Qv (fun S9 => wX D S0 S9 ∧ post S9) (wB D cy X A) A) args s 0 0 A) (F0 m 0 ls []) := by
  obtain ⟨hx, hb, hml, hown, hts⟩ := id F
  have hwg : ∀ w ∈ WG, w.before args s = true := fun w h => hts w (List.mem_cons_of_mem _ h)
  have i_5 : ∀ w ∈ u_ws RX0 TX0 12, w ∈ wz_X2_forEachPlace := fun w h => List.mem_cons_of_mem _ (wu_5 w h)
  have i_7 : ∀ w ∈ u_ws RX2 TX2 8, w ∈ wz_X2_forEachPlace := fun w h => List.mem_cons_of_mem _ (wu_7 w h)
  have k_35 := hwg _ wf_RX2_35
  intro S H locs ls a0 x1 x2 hp hW hE hl hL_a0 hK_a0
  unfold wp_X2_forEachPlace_0 at hp
  refine lv_aload_n hx hb dX2_forEachPlace_0 rfl (lv_at hl 0 rfl) ?_
  obtain ⟨y_1, ey_1, hL_y_1, hK_y_1, hp⟩ := hp
  refine w_get (k := 7) (f := 0) (T := TX2) (v := .ref y_1) F hK hW hL_a0 hK_a0 (by decide) rfl rfl (by decide) i_7 k_35 (by rw [show wv 7 0 S a0 = va_rf (sR S a0 0) from rfl, ey_1]; rfl) dX2_forEachPlace_1 ?_
  refine w_getN (k := 5) (f := 2) (T := TX0) (v := .int (sI S y_1 2)) F hK hW hL_y_1 hK_y_1 (by decide) rfl rfl (by decide) i_5 (hK.2.1 (.fieldLinkNest "OpeningsCabinet$Endings" 104 "OpeningsCabinet$Board" "size" "I" "OpeningsCabinet") (by decide +kernel)) rfl dX2_forEachPlace_4 ?_
  refine lv_bipush (v := 25) hx hb dX2_forEachPlace_7 (by decide) ?_
  refine va_mmin hx hb (hml.trans hl.1.symm) hown (hwg _ wm_RX2_118) (hwg _ wmm_min.1) (hwg _ wmm_min.2.1) (hwg _ wmm_min.2.2) (Nat.le_of_ble_eq_true rfl) (Nat.le_of_ble_eq_true rfl) (Nat.le_of_ble_eq_true rfl) (Nat.le_of_ble_eq_true rfl) dX2_forEachPlace_9 ?_
  refine lv_topi (fun x_2 ex_2 => ?_)
  replace hp := hp x_2 ex_2
  refine lv_istore_n (lv' := [(3, .int x_2), (0, .ref a0), (1, .int x1), (2, .int x2)]) hx hb dX2_forEachPlace_12 rfl hl (by decide) rfl (fun ls hl => ?_)
  refine lv_iconst (v := 0) hx hb dX2_forEachPlace_13 (by decide) ?_
  refine lv_istore (lv' := [(4, .int (0 : Int32)), (3, .int x_2), (0, .ref a0), (1, .int x1), (2, .int x2)]) hx hb dX2_forEachPlace_14 hl (by decide) rfl (fun ls hl => ?_)
  obtain ⟨n_3, hp⟩ := hp
  exact t_X2_forEachPlace_16 F hr hlocks hK n_3 hp hW hE (lv_sub hl [2, 3, 4, 1, 0] rfl) hL_a0 hK_a0
set_option maxHeartbeats 4000000 in
set_option maxRecDepth 100000 in
theorem c_X2_forEachPlace (l : Launch) {D : wD} {cy : Nat → ClassId} {X : va_W} {S0 : wS} {post : wS → Prop} {a0 : Nat} {x1 : Int32} {x2 : Int32} (hL_a0 : wM D S0 a0) (hK_a0 : sK S0 a0 = 7) (hp : wp_X2_forEachPlace D post S0 a0 x1 x2) : mV D cy X l yX2_forEachPlace wz_X2_forEachPlace r_X2_forEachPlace [.ref a0, .int x1, .int x2] S0 (fun S9 => wX D S0 S9 ∧ post S9) := by
  intro sz
  refine Met.ofW (cc := cX2_forEachPlace) (maxL := 7) (ret := none) (by decide) rfl ?_
  intro p e s m args below meth c s₁ B hml hv
  obtain ⟨rfl, hsz, hP, hK, hD0, hRO⟩ := hv
  have hts := atoms_spec (ws := wz_X2_forEachPlace) B.pre
  have hown : s.vm.findClass RX2 = some m.cls := findClass_of_methodNamed B.named
  subst hsz
  have hD := hD0.self (sz := s.heap.size)
  have F : CallFix p m c cX2_forEachPlace 7 s _ wz_X2_forEachPlace RX2 := ⟨B.exec, B.bytes, hml, hown, hts⟩
  have hr := B.returns
  have hlocks := B.notSynchronized
  generalize hAe : va_A (wL cy X S0) s.heap.size = A at hD hK ⊢
  have hA : ∀ q, s.heap.size ≤ q → A q := fun q h => by rw [← hAe]; exact Or.inr h
  have hW : wO D cy X A s.heap S0 s.heap [] := ⟨hP, hD, va_S.rf, hA, hRO⟩
  have hl := lv_entry ([.ref a0, .int x1, .int x2]) (n := 7) (Nat.le_of_ble_eq_true rfl)
  rw [lg_entry_eq]
  generalize (lg_sl ([.ref a0, .int x1, .int x2]) ++ List.replicate (7 - (lg_sl ([.ref a0, .int x1, .int x2])).length) Slot.unset).toArray = ls at hl ⊢
  have hl : lv_has ls 7 [(0, .ref a0), (1, .int x1), (2, .int x2)] := hl
  unfold wp_X2_forEachPlace at hp
  exact t_X2_forEachPlace_0 F hr hlocks hK hp hW wX.rf (lv_sub hl [0, 1, 2] rfl) hL_a0 hK_a0
def wp_X2_loseMove_50 (D : wD) (post : wS → Prop)  (S : wS) : Prop :=
post S
def wp_X2_loseMove_23 (D : wD) (post : wS → Prop)  (S : wS) : Prop :=
post S
def wp_X2_loseMove_0 (D : wD) (post : wS → Prop)  (S : wS) (a0 : Nat) (x1 : Int32) (x2 : Int32) (x3 : Int32) : Prop :=
wp_X2_valueAt D (fun r_1 S_2 => 
((¬ r_1 = (-1 : Int32) → wp_X2_loseMove_23 D post S_2) ∧
 (r_1 = (-1 : Int32) → ((x2 < 0 → wp_X2_loseMove_23 D post S_2) ∧
 (¬ x2 < 0 → ∃ y_5 : Nat, sR S_2 a0 6 = some y_5 ∧ wM D S_2 y_5 ∧ sK S_2 y_5 = 21 ∧
((x2 < (Int32.ofNat (sN S_2 y_5)) → ∃ y_7 : Nat, sR S_2 a0 6 = some y_7 ∧ wM D S_2 y_7 ∧ sK S_2 y_7 = 21 ∧
vp_in x2 (sN S_2 y_7) ∧
y_7 ∈ sL S_2 ∧ vp_in x2 (sN S_2 y_7) ∧
∀ S_10 : wS, S_10 = uI S_2 y_7 (x2).toNatClampNeg ((sI S_2 y_7 (x2).toNatClampNeg) - (1 : Int32)) →
∃ y_11 : Nat, sR S_10 a0 6 = some y_11 ∧ wM D S_10 y_11 ∧ sK S_10 y_11 = 21 ∧
vp_in x2 (sN S_10 y_11) ∧
((¬ (sI S_10 y_11 (x2).toNatClampNeg) = 0 → wp_X2_loseMove_50 D post S_10) ∧
 ((sI S_10 y_11 (x2).toNatClampNeg) = 0 → wp_X2_win D (fun S_15 => 
wp_X2_loseMove_50 D post S_15) S_10 a0 x1 x2 x3))) ∧
 (¬ x2 < (Int32.ofNat (sN S_2 y_5)) → wp_X2_loseMove_23 D post S_2))))))) S a0 x1 x2
abbrev r_X2_loseMove : Room := { frames := 2, cells := 0, slots := 0, locals := 47 }
def wp_X2_loseMove (D : wD) (post : wS → Prop) (S : wS) (a0 : Nat) (x1 : Int32) (x2 : Int32) (x3 : Int32) : Prop := wp_X2_loseMove_0 D post S a0 x1 x2 x3
set_option maxHeartbeats 4000000 in
set_option maxRecDepth 100000 in
theorem t_X2_loseMove_50 {p : Program} {l : Launch} {e : Env} {s : State} {m : MethodId} {args : Array Value} {below : List Frame} {meth : Method} {c : Code} {D : wD} {cy : Nat → ClassId} {X : va_W} {A : Nat → Prop} {S0 : wS} {post : wS → Prop} (F : CallFix p m c cX2_loseMove 4 s args wz_X2_loseMove RX2) (hr : meth.sig.returnType = none) (hlocks : meth.locks = false) (hK : wK D cy A s) : ∀ {S : wS} {H : Heap} {locs : List Loc} {ls : Array Slot}, wp_X2_loseMove_50 D post S → wO D cy X A s.heap S H locs → wX D S0 S → lv_has ls 4 [] → W p l e r_X2_loseMove s m args below meth c H locs 0 0 (MQ below (va_Qv (fun S9 => wX D S0 S9 ∧ post S9) (wB D cy X A) A) args s 0 0 A) (F0 m 50 ls []) := by
  obtain ⟨hx, hb, hml, hown, hts⟩ := id F
  have hwg : ∀ w ∈ WG, w.before args s = true := fun w h => hts w (List.mem_cons_of_mem _ h)
  intro S H locs ls hp hW hE hl
  unfold wp_X2_loseMove_50 at hp
  exact w_vret hx hb hr hlocks hW ⟨hE, hp⟩ dX2_loseMove_50
set_option maxHeartbeats 4000000 in
set_option maxRecDepth 100000 in
theorem t_X2_loseMove_23 {p : Program} {l : Launch} {e : Env} {s : State} {m : MethodId} {args : Array Value} {below : List Frame} {meth : Method} {c : Code} {D : wD} {cy : Nat → ClassId} {X : va_W} {A : Nat → Prop} {S0 : wS} {post : wS → Prop} (F : CallFix p m c cX2_loseMove 4 s args wz_X2_loseMove RX2) (hr : meth.sig.returnType = none) (hlocks : meth.locks = false) (hK : wK D cy A s) : ∀ {S : wS} {H : Heap} {locs : List Loc} {ls : Array Slot}, wp_X2_loseMove_23 D post S → wO D cy X A s.heap S H locs → wX D S0 S → lv_has ls 4 [] → W p l e r_X2_loseMove s m args below meth c H locs 0 0 (MQ below (va_Qv (fun S9 => wX D S0 S9 ∧ post S9) (wB D cy X A) A) args s 0 0 A) (F0 m 23 ls []) := by
  obtain ⟨hx, hb, hml, hown, hts⟩ := id F
  have hwg : ∀ w ∈ WG, w.before args s = true := fun w h => hts w (List.mem_cons_of_mem _ h)
  intro S H locs ls hp hW hE hl
  unfold wp_X2_loseMove_23 at hp
  exact w_vret hx hb hr hlocks hW ⟨hE, hp⟩ dX2_loseMove_23
set_option maxHeartbeats 4000000 in
set_option maxRecDepth 100000 in
theorem t_X2_loseMove_0 {p : Program} {l : Launch} {e : Env} {s : State} {m : MethodId} {args : Array Value} {below : List Frame} {meth : Method} {c : Code} {D : wD} {cy : Nat → ClassId} {X : va_W} {A : Nat → Prop} {S0 : wS} {post : wS → Prop} (F : CallFix p m c cX2_loseMove 4 s args wz_X2_loseMove RX2) (hr : meth.sig.returnType = none) (hlocks : meth.locks = false) (hK : wK D cy A s) : ∀ {S : wS} {H : Heap} {locs : List Loc} {ls : Array Slot} {a0 : Nat} {x1 : Int32} {x2 : Int32} {x3 : Int32}, wp_X2_loseMove_0 D post S a0 x1 x2 x3 → wO D cy X A s.heap S H locs → wX D S0 S → lv_has ls 4 [(0, .ref a0), (1, .int x1), (2, .int x2), (3, .int x3)] → wM D S a0 → sK S a0 = 7 → W p l e r_X2_loseMove s m args below meth c H locs 0 0 (MQ below (va_Qv (fun S9 => wX D S0 S9 ∧ post S9) (wB D cy X A) A) args s 0 0 A) (F0 m 0 ls []) := by
  obtain ⟨hx, hb, hml, hown, hts⟩ := id F
  have hwg : ∀ w ∈ WG, w.before args s = true := fun w h => hts w (List.mem_cons_of_mem _ h)
  have i_7 : ∀ w ∈ u_ws RX2 TX2 8, w ∈ wz_X2_loseMove := fun w h => List.mem_cons_of_mem _ (wu_7 w h)
  have k_28 := hwg _ wf_RX2_28
  intro S H locs ls a0 x1 x2 x3 hp hW hE hl hL_a0 hK_a0
  unfold wp_X2_loseMove_0 at hp
  refine lv_aload_n hx hb dX2_loseMove_0 rfl (lv_at hl 0 rfl) ?_
  refine lv_iload_n hx hb dX2_loseMove_1 rfl (lv_at hl 1 rfl) ?_
  refine lv_iload_n hx hb dX2_loseMove_2 rfl (lv_at hl 2 rfl) ?_
  refine w_callI (va_runV (As := [.int x1, .int x2]) (rest := []) F (c_X2_valueAt l hL_a0 hK_a0 hp H.size) (cwV (C := RX2) 2 hts (wg_V wm_RX2_100 wy_X2_valueAt) rfl rfl rfl (by decide +kernel) ⟨Nat.le_of_ble_eq_true rfl, Nat.le_of_ble_eq_true rfl⟩) (w_preV hK hW hL_a0 hK_a0 (by decide) rfl) rfl rfl hl.1 rfl (lv_room (Nat.le_of_ble_eq_true rfl)) dX2_loseMove_3 ⟨Nat.le_of_ble_eq_true rfl, Nat.le_of_ble_eq_true rfl⟩) hW (fun r_1 S_2 H locs hp hW => ?_)
  obtain ⟨hX_S_2, hp⟩ := hp
  refine W.widen (k := 0) (n := 0) (by decide) (by decide) ?_
  have hE := hE.trans hX_S_2
  have hK_a0 : sK S_2 a0 = 7 := (hX_S_2.2 a0 hL_a0).1.trans hK_a0
  have hL_a0 : wM D S_2 a0 := hX_S_2.M hL_a0
  refine lv_iconst (v := (-1)) hx hb dX2_loseMove_6 (by decide) ?_
  refine lv_icmp_ne (tgt := 23) hx hb dX2_loseMove_7 (by decide) (fun c_3 => ?_) (fun c_3 => ?_)
  · replace hp := hp.1 c_3
    exact t_X2_loseMove_23 F hr hlocks hK hp hW hE (lv_sub hl [] rfl)
  · replace hp := hp.2 c_3
    refine lv_iload_n hx hb dX2_loseMove_10 rfl (lv_at hl 2 rfl) ?_
    refine lv_if_lt (tgt := 23) hx hb dX2_loseMove_11 (by decide) (fun c_4 => ?_) (fun c_4 => ?_)
    · replace hp := hp.1 c_4
      exact t_X2_loseMove_23 F hr hlocks hK hp hW hE (lv_sub hl [] rfl)
    · replace hp := hp.2 c_4
      refine lv_iload_n hx hb dX2_loseMove_14 rfl (lv_at hl 2 rfl) ?_
      refine lv_aload_n hx hb dX2_loseMove_15 rfl (lv_at hl 0 rfl) ?_
      obtain ⟨y_5, ey_5, hL_y_5, hK_y_5, hp⟩ := hp
      refine w_get (k := 7) (f := 6) (T := TX2) (v := .ref y_5) F hK hW hL_a0 hK_a0 (by decide) rfl rfl (by decide) i_7 k_28 (by rw [show wv 7 6 S_2 a0 = va_rf (sR S_2 a0 6) from rfl, ey_5]; rfl) dX2_loseMove_16 ?_
      refine w_len F hK hW hL_y_5 hK_y_5 (by decide) dX2_loseMove_19 ?_
      refine lv_icmp_lt (tgt := 24) hx hb dX2_loseMove_20 (by decide) (fun c_6 => ?_) (fun c_6 => ?_)
      · replace hp := hp.1 c_6
        refine lv_aload_n hx hb dX2_loseMove_24 rfl (lv_at hl 0 rfl) ?_
        obtain ⟨y_7, ey_7, hL_y_7, hK_y_7, hp⟩ := hp
        refine w_get (k := 7) (f := 6) (T := TX2) (v := .ref y_7) F hK hW hL_a0 hK_a0 (by decide) rfl rfl (by decide) i_7 k_28 (by rw [show wv 7 6 S_2 a0 = va_rf (sR S_2 a0 6) from rfl, ey_7]; rfl) dX2_loseMove_25 ?_
        refine lv_iload_n hx hb dX2_loseMove_28 rfl (lv_at hl 2 rfl) ?_
        refine lv_dup2_11 hx hb dX2_loseMove_29 rfl rfl ?_
        obtain ⟨h_8, hp⟩ := hp
        refine w_ild F hK hW hL_y_7 hK_y_7 h_8 dX2_loseMove_30 ?_
        refine lv_iconst (v := 1) hx hb dX2_loseMove_31 (by decide) ?_
        refine lv_isub hx hb dX2_loseMove_32 ?_
        obtain ⟨h_9m, h_9, hp⟩ := hp
        refine w_ist F hK hW h_9m hK_y_7 h_9 dX2_loseMove_33 (fun H locs hW => ?_)
        obtain ⟨S_10, eS_10⟩ : ∃ z : wS, z = uI S_2 y_7 (x2).toNatClampNeg ((sI S_2 y_7 (x2).toNatClampNeg) - (1 : Int32)) := ⟨_, rfl⟩
        rw [← eS_10] at hW
        replace hp := hp S_10 eS_10
        have hX_S_10 : wX D S_2 S_10 := by rw [eS_10]; exact wX_uI
        have hE := hE.trans hX_S_10
        have hK_a0 : sK S_10 a0 = 7 := (hX_S_10.2 a0 hL_a0).1.trans hK_a0
        have hL_a0 : wM D S_10 a0 := hX_S_10.M hL_a0
        refine lv_aload_n hx hb dX2_loseMove_34 rfl (lv_at hl 0 rfl) ?_
        obtain ⟨y_11, ey_11, hL_y_11, hK_y_11, hp⟩ := hp
        refine w_get (k := 7) (f := 6) (T := TX2) (v := .ref y_11) F hK hW hL_a0 hK_a0 (by decide) rfl rfl (by decide) i_7 k_28 (by rw [show wv 7 6 S_10 a0 = va_rf (sR S_10 a0 6) from rfl, ey_11]; rfl) dX2_loseMove_35 ?_
        refine lv_iload_n hx hb dX2_loseMove_38 rfl (lv_at hl 2 rfl) ?_
        obtain ⟨h_12, hp⟩ := hp
        refine w_ild F hK hW hL_y_11 hK_y_11 h_12 dX2_loseMove_39 ?_
        refine lv_if_ne (tgt := 50) hx hb dX2_loseMove_40 (by decide) (fun c_13 => ?_) (fun c_13 => ?_)
        · replace hp := hp.1 c_13
          exact t_X2_loseMove_50 F hr hlocks hK hp hW hE (lv_sub hl [] rfl)
        · replace hp := hp.2 c_13
          refine lv_aload_n hx hb dX2_loseMove_43 rfl (lv_at hl 0 rfl) ?_
          refine lv_iload_n hx hb dX2_loseMove_44 rfl (lv_at hl 1 rfl) ?_
          refine lv_iload_n hx hb dX2_loseMove_45 rfl (lv_at hl 2 rfl) ?_
          refine lv_iload_n hx hb dX2_loseMove_46 rfl (lv_at hl 3 rfl) ?_
          refine w_callV (va_runV (As := [.int x1, .int x2, .int x3]) (rest := []) F (c_X2_win l hL_a0 hK_a0 hp H.size) (cwV (C := RX2) 3 hts (wg_V wm_RX2_146 wy_X2_win) rfl rfl rfl (by decide +kernel) ⟨Nat.le_of_ble_eq_true rfl, Nat.le_of_ble_eq_true rfl⟩) (w_preV hK hW hL_a0 hK_a0 (by decide) rfl) rfl rfl hl.1 rfl (lv_room (Nat.le_of_ble_eq_true rfl)) dX2_loseMove_47 ⟨Nat.le_of_ble_eq_true rfl, Nat.le_of_ble_eq_true rfl⟩) hW (fun S_15 H locs hp hW => ?_)
          obtain ⟨hX_S_15, hp⟩ := hp
          refine W.widen (k := 0) (n := 0) (by decide) (by decide) ?_
          have hE := hE.trans hX_S_15
          have hK_a0 : sK S_15 a0 = 7 := (hX_S_15.2 a0 hL_a0).1.trans hK_a0
          have hL_a0 : wM D S_15 a0 := hX_S_15.M hL_a0
          exact t_X2_loseMove_50 F hr hlocks hK hp hW hE (lv_sub hl [] rfl)
      · replace hp := hp.2 c_6
        exact t_X2_loseMove_23 F hr hlocks hK hp hW hE (lv_sub hl [] rfl)
set_option maxHeartbeats 4000000 in
set_option maxRecDepth 100000 in
theorem c_X2_loseMove (l : Launch) {D : wD} {cy : Nat → ClassId} {X : va_W} {S0 : wS} {post : wS → Prop} {a0 : Nat} {x1 : Int32} {x2 : Int32} {x3 : Int32} (hL_a0 : wM D S0 a0) (hK_a0 : sK S0 a0 = 7) (hp : wp_X2_loseMove D post S0 a0 x1 x2 x3) : mV D cy X l yX2_loseMove wz_X2_loseMove r_X2_loseMove [.ref a0, .int x1, .int x2, .int x3] S0 (fun S9 => wX D S0 S9 ∧ post S9) := by
  intro sz
  refine Met.ofW (cc := cX2_loseMove) (maxL := 4) (ret := none) (by decide) rfl ?_
  intro p e s m args below meth c s₁ B hml hv
  obtain ⟨rfl, hsz, hP, hK, hD0, hRO⟩ := hv
  have hts := atoms_spec (ws := wz_X2_loseMove) B.pre
  have hown : s.vm.findClass RX2 = some m.cls := findClass_of_methodNamed B.named
  subst hsz
  have hD := hD0.self (sz := s.heap.size)
  have F : CallFix p m c cX2_loseMove 4 s _ wz_X2_loseMove RX2 := ⟨B.exec, B.bytes, hml, hown, hts⟩
  have hr := B.returns
  have hlocks := B.notSynchronized
  generalize hAe : va_A (wL cy X S0) s.heap.size = A at hD hK ⊢
  have hA : ∀ q, s.heap.size ≤ q → A q := fun q h => by rw [← hAe]; exact Or.inr h
  have hW : wO D cy X A s.heap S0 s.heap [] := ⟨hP, hD, va_S.rf, hA, hRO⟩
  have hl := lv_entry ([.ref a0, .int x1, .int x2, .int x3]) (n := 4) (Nat.le_of_ble_eq_true rfl)
  rw [lg_entry_eq]
  generalize (lg_sl ([.ref a0, .int x1, .int x2, .int x3]) ++ List.replicate (4 - (lg_sl ([.ref a0, .int x1, .int x2, .int x3])).length) Slot.unset).toArray = ls at hl ⊢
  have hl : lv_has ls 4 [(0, .ref a0), (1, .int x1), (2, .int x2), (3, .int x3)] := hl
  unfold wp_X2_loseMove at hp
  exact t_X2_loseMove_0 F hr hlocks hK hp hW wX.rf (lv_sub hl [0, 1, 2, 3] rfl) hL_a0 hK_a0
def wp_X2_reachWin_17 (D : wD) (post : wS → Prop)  (S : wS) : Prop :=
post S
def wp_X2_reachWin_0 (D : wD) (post : wS → Prop)  (S : wS) (a0 : Nat) (x1 : Int32) (x2 : Int32) (x3 : Int32) : Prop :=
wp_X2_valueAt D (fun r_1 S_2 => 
((¬ r_1 = (-1 : Int32) → wp_X2_reachWin_17 D post S_2) ∧
 (r_1 = (-1 : Int32) → wp_X2_win D (fun S_5 => 
wp_X2_reachWin_17 D post S_5) S_2 a0 x1 x2 x3))) S a0 x1 x2
abbrev r_X2_reachWin : Room := { frames := 2, cells := 0, slots := 0, locals := 47 }
def wp_X2_reachWin (D : wD) (post : wS → Prop) (S : wS) (a0 : Nat) (x1 : Int32) (x2 : Int32) (x3 : Int32) : Prop := wp_X2_reachWin_0 D post S a0 x1 x2 x3
set_option maxHeartbeats 4000000 in
set_option maxRecDepth 100000 in
theorem t_X2_reachWin_17 {p : Program} {l : Launch} {e : Env} {s : State} {m : MethodId} {args : Array Value} {below : List Frame} {meth : Method} {c : Code} {D : wD} {cy : Nat → ClassId} {X : va_W} {A : Nat → Prop} {S0 : wS} {post : wS → Prop} (F : CallFix p m c cX2_reachWin 4 s args wz_X2_reachWin RX2) (hr : meth.sig.returnType = none) (hlocks : meth.locks = false) (hK : wK D cy A s) : ∀ {S : wS} {H : Heap} {locs : List Loc} {ls : Array Slot}, wp_X2_reachWin_17 D post S → wO D cy X A s.heap S H locs → wX D S0 S → lv_has ls 4 [] → W p l e r_X2_reachWin s m args below meth c H locs 0 0 (MQ below (va_Qv (fun S9 => wX D S0 S9 ∧ post S9) (wB D cy X A) A) args s 0 0 A) (F0 m 17 ls []) := by
  obtain ⟨hx, hb, hml, hown, hts⟩ := id F
  have hwg : ∀ w ∈ WG, w.before args s = true := fun w h => hts w (List.mem_cons_of_mem _ h)
  intro S H locs ls hp hW hE hl
  unfold wp_X2_reachWin_17 at hp
  exact w_vret hx hb hr hlocks hW ⟨hE, hp⟩ dX2_reachWin_17
set_option maxHeartbeats 4000000 in
set_option maxRecDepth 100000 in
theorem t_X2_reachWin_0 {p : Program} {l : Launch} {e : Env} {s : State} {m : MethodId} {args : Array Value} {below : List Frame} {meth : Method} {c : Code} {D : wD} {cy : Nat → ClassId} {X : va_W} {A : Nat → Prop} {S0 : wS} {post : wS → Prop} (F : CallFix p m c cX2_reachWin 4 s args wz_X2_reachWin RX2) (hr : meth.sig.returnType = none) (hlocks : meth.locks = false) (hK : wK D cy A s) : ∀ {S : wS} {H : Heap} {locs : List Loc} {ls : Array Slot} {a0 : Nat} {x1 : Int32} {x2 : Int32} {x3 : Int32}, wp_X2_reachWin_0 D post S a0 x1 x2 x3 → wO D cy X A s.heap S H locs → wX D S0 S → lv_has ls 4 [(0, .ref a0), (1, .int x1), (2, .int x2), (3, .int x3)] → wM D S a0 → sK S a0 = 7 → W p l e r_X2_reachWin s m args below meth c H locs 0 0 (MQ below (va_Qv (fun S9 => wX D S0 S9 ∧ post S9) (wB D cy X A) A) args s 0 0 A) (F0 m 0 ls []) := by
  obtain ⟨hx, hb, hml, hown, hts⟩ := id F
  have hwg : ∀ w ∈ WG, w.before args s = true := fun w h => hts w (List.mem_cons_of_mem _ h)
  intro S H locs ls a0 x1 x2 x3 hp hW hE hl hL_a0 hK_a0
  unfold wp_X2_reachWin_0 at hp
  refine lv_aload_n hx hb dX2_reachWin_0 rfl (lv_at hl 0 rfl) ?_
  refine lv_iload_n hx hb dX2_reachWin_1 rfl (lv_at hl 1 rfl) ?_
  refine lv_iload_n hx hb dX2_reachWin_2 rfl (lv_at hl 2 rfl) ?_
  refine w_callI (va_runV (As := [.int x1, .int x2]) (rest := []) F (c_X2_valueAt l hL_a0 hK_a0 hp H.size) (cwV (C := RX2) 2 hts (wg_V wm_RX2_100 wy_X2_valueAt) rfl rfl rfl (by decide +kernel) ⟨Nat.le_of_ble_eq_true rfl, Nat.le_of_ble_eq_true rfl⟩) (w_preV hK hW hL_a0 hK_a0 (by decide) rfl) rfl rfl hl.1 rfl (lv_room (Nat.le_of_ble_eq_true rfl)) dX2_reachWin_3 ⟨Nat.le_of_ble_eq_true rfl, Nat.le_of_ble_eq_true rfl⟩) hW (fun r_1 S_2 H locs hp hW => ?_)
  obtain ⟨hX_S_2, hp⟩ := hp
  refine W.widen (k := 0) (n := 0) (by decide) (by decide) ?_
  have hE := hE.trans hX_S_2
  have hK_a0 : sK S_2 a0 = 7 := (hX_S_2.2 a0 hL_a0).1.trans hK_a0
  have hL_a0 : wM D S_2 a0 := hX_S_2.M hL_a0
  refine lv_iconst (v := (-1)) hx hb dX2_reachWin_6 (by decide) ?_
  refine lv_icmp_ne (tgt := 17) hx hb dX2_reachWin_7 (by decide) (fun c_3 => ?_) (fun c_3 => ?_)
  · replace hp := hp.1 c_3
    exact t_X2_reachWin_17 F hr hlocks hK hp hW hE (lv_sub hl [] rfl)
  · replace hp := hp.2 c_3
    refine lv_aload_n hx hb dX2_reachWin_10 rfl (lv_at hl 0 rfl) ?_
    refine lv_iload_n hx hb dX2_reachWin_11 rfl (lv_at hl 1 rfl) ?_
    refine lv_iload_n hx hb dX2_reachWin_12 rfl (lv_at hl 2 rfl) ?_
    refine lv_iload_n hx hb dX2_reachWin_13 rfl (lv_at hl 3 rfl) ?_
    refine w_callV (va_runV (As := [.int x1, .int x2, .int x3]) (rest := []) F (c_X2_win l hL_a0 hK_a0 hp H.size) (cwV (C := RX2) 3 hts (wg_V wm_RX2_146 wy_X2_win) rfl rfl rfl (by decide +kernel) ⟨Nat.le_of_ble_eq_true rfl, Nat.le_of_ble_eq_true rfl⟩) (w_preV hK hW hL_a0 hK_a0 (by decide) rfl) rfl rfl hl.1 rfl (lv_room (Nat.le_of_ble_eq_true rfl)) dX2_reachWin_14 ⟨Nat.le_of_ble_eq_true rfl, Nat.le_of_ble_eq_true rfl⟩) hW (fun S_5 H locs hp hW => ?_)
    obtain ⟨hX_S_5, hp⟩ := hp
    refine W.widen (k := 0) (n := 0) (by decide) (by decide) ?_
    have hE := hE.trans hX_S_5
    have hK_a0 : sK S_5 a0 = 7 := (hX_S_5.2 a0 hL_a0).1.trans hK_a0
    have hL_a0 : wM D S_5 a0 := hX_S_5.M hL_a0
    exact t_X2_reachWin_17 F hr hlocks hK hp hW hE (lv_sub hl [] rfl)
set_option maxHeartbeats 4000000 in
set_option maxRecDepth 100000 in
theorem c_X2_reachWin (l : Launch) {D : wD} {cy : Nat → ClassId} {X : va_W} {S0 : wS} {post : wS → Prop} {a0 : Nat} {x1 : Int32} {x2 : Int32} {x3 : Int32} (hL_a0 : wM D S0 a0) (hK_a0 : sK S0 a0 = 7) (hp : wp_X2_reachWin D post S0 a0 x1 x2 x3) : mV D cy X l yX2_reachWin wz_X2_reachWin r_X2_reachWin [.ref a0, .int x1, .int x2, .int x3] S0 (fun S9 => wX D S0 S9 ∧ post S9) := by
  intro sz
  refine Met.ofW (cc := cX2_reachWin) (maxL := 4) (ret := none) (by decide) rfl ?_
  intro p e s m args below meth c s₁ B hml hv
  obtain ⟨rfl, hsz, hP, hK, hD0, hRO⟩ := hv
  have hts := atoms_spec (ws := wz_X2_reachWin) B.pre
  have hown : s.vm.findClass RX2 = some m.cls := findClass_of_methodNamed B.named
  subst hsz
  have hD := hD0.self (sz := s.heap.size)
  have F : CallFix p m c cX2_reachWin 4 s _ wz_X2_reachWin RX2 := ⟨B.exec, B.bytes, hml, hown, hts⟩
  have hr := B.returns
  have hlocks := B.notSynchronized
  generalize hAe : va_A (wL cy X S0) s.heap.size = A at hD hK ⊢
  have hA : ∀ q, s.heap.size ≤ q → A q := fun q h => by rw [← hAe]; exact Or.inr h
  have hW : wO D cy X A s.heap S0 s.heap [] := ⟨hP, hD, va_S.rf, hA, hRO⟩
  have hl := lv_entry ([.ref a0, .int x1, .int x2, .int x3]) (n := 4) (Nat.le_of_ble_eq_true rfl)
  rw [lg_entry_eq]
  generalize (lg_sl ([.ref a0, .int x1, .int x2, .int x3]) ++ List.replicate (4 - (lg_sl ([.ref a0, .int x1, .int x2, .int x3])).length) Slot.unset).toArray = ls at hl ⊢
  have hl : lv_has ls 4 [(0, .ref a0), (1, .int x1), (2, .int x2), (3, .int x3)] := hl
  unfold wp_X2_reachWin at hp
  exact t_X2_reachWin_0 F hr hlocks hK hp hW wX.rf (lv_sub hl [0, 1, 2, 3] rfl) hL_a0 hK_a0
def wp_X2_stepBack_220 (D : wD) (post : wS → Prop) (k_115 : wS → Nat → Int32 → Int32 → Int32 → Int32 → Int32 → Int32 → Int64 → Int64 → Int64 → Int32 → Prop) (S : wS) (a0 : Nat) (x1 : Int32) (x3 : Int32) (x5 : Int32) (x6 : Int32) (x7 : Int32) (x8 : Int32) (x9 : Int64) (x11 : Int64) (x13 : Int64) (x15 : Int32) : Prop :=
∀ x_1 : Int32, x_1 = x15 + 1 →
k_115 S a0 x1 x3 x5 x6 x7 x8 x9 x11 x13 x_1
def wp_X2_stepBack_189 (D : wD) (post : wS → Prop) (k_115 : wS → Nat → Int32 → Int32 → Int32 → Int32 → Int32 → Int32 → Int64 → Int64 → Int64 → Int32 → Prop) (S : wS) (a0 : Nat) (x1 : Int32) (x3 : Int32) (x5 : Int32) (x6 : Int32) (x7 : Int32) (x8 : Int32) (x9 : Int64) (x11 : Int64) (x13 : Int64) (x15 : Int32) : Prop :=
((¬ x3 = 0 → wp_X2_stepBack_220 D post k_115 S a0 x1 x3 x5 x6 x7 x8 x9 x11 x13 x15) ∧
 (x3 = 0 → wp_X11_contains D (fun r_2 S_3 => 
((r_2 = 0 → wp_X2_stepBack_220 D post k_115 S_3 a0 x1 x3 x5 x6 x7 x8 x9 x11 x13 x15) ∧
 (¬ r_2 = 0 → wp_X2_indexOf D (fun r_5 S_6 => 
wp_X2_reachWin D (fun S_8 => 
wp_X2_stepBack_220 D post k_115 S_8 a0 x1 x3 x5 x6 x7 x8 x9 x11 x13 x15) S_6 a0 x1 r_5 x8) S_3 (1 : Int32) x7 x6 x15))) S x13 x15))
def wp_X2_stepBack_158 (D : wD) (post : wS → Prop) (k_115 : wS → Nat → Int32 → Int32 → Int32 → Int32 → Int32 → Int32 → Int64 → Int64 → Int64 → Int32 → Prop) (S : wS) (a0 : Nat) (x1 : Int32) (x3 : Int32) (x5 : Int32) (x6 : Int32) (x7 : Int32) (x8 : Int32) (x9 : Int64) (x11 : Int64) (x13 : Int64) (x15 : Int32) : Prop :=
((¬ x3 = 0 → wp_X2_stepBack_189 D post k_115 S a0 x1 x3 x5 x6 x7 x8 x9 x11 x13 x15) ∧
 (x3 = 0 → wp_X11_contains D (fun r_2 S_3 => 
((r_2 = 0 → wp_X2_stepBack_189 D post k_115 S_3 a0 x1 x3 x5 x6 x7 x8 x9 x11 x13 x15) ∧
 (¬ r_2 = 0 → wp_X2_indexOf D (fun r_5 S_6 => 
wp_X2_reachWin D (fun S_8 => 
wp_X2_stepBack_189 D post k_115 S_8 a0 x1 x3 x5 x6 x7 x8 x9 x11 x13 x15) S_6 a0 x1 r_5 x8) S_3 (1 : Int32) x15 x6 x5))) S x9 x15))
def wp_X2_stepBack_115 (D : wD) (post : wS → Prop)  : Nat → wS → Nat → Int32 → Int32 → Int32 → Int32 → Int32 → Int32 → Int64 → Int64 → Int64 → Int32 → Prop
  | 0, _, _, _, _, _, _, _, _, _, _, _, _ => False
  | n + 1, S, a0, x1, x3, x5, x6, x7, x8, x9, x11, x13, x15 =>
    ∃ y_1 : Nat, sR S a0 0 = some y_1 ∧ wM D S y_1 ∧ sK S y_1 = 5 ∧
    (((sI S y_1 2) ≤ x15 → post S) ∧
     (¬ (sI S y_1 2) ≤ x15 → ((x3 = 0 → wp_X2_stepBack_158 D post (wp_X2_stepBack_115 D post n) S a0 x1 x3 x5 x6 x7 x8 x9 x11 x13 x15) ∧
     (¬ x3 = 0 → wp_X11_contains D (fun r_4 S_5 => 
    ((r_4 = 0 → wp_X2_stepBack_158 D post (wp_X2_stepBack_115 D post n) S_5 a0 x1 x3 x5 x6 x7 x8 x9 x11 x13 x15) ∧
     (¬ r_4 = 0 → wp_X2_indexOf D (fun r_7 S_8 => 
    wp_X2_loseMove D (fun S_10 => 
    wp_X2_stepBack_158 D post (wp_X2_stepBack_115 D post n) S_10 a0 x1 x3 x5 x6 x7 x8 x9 x11 x13 x15) S_8 a0 x1 r_7 x8) S_5 (0 : Int32) x7 x15 x5))) S x11 x15))))
def wp_X2_stepBack_26 (D : wD) (post : wS → Prop)  (S : wS) (a0 : Nat) (x1 : Int32) (x2 : Int32) (x3 : Int32) (t0 : Int32) : Prop :=
¬ (25 : Int32) = 0 ∧
∀ x_2 : Int32, x_2 = (t0 - t0 / (25 : Int32) * (25 : Int32)) →
¬ (25 : Int32) = 0 ∧
¬ (25 : Int32) = 0 ∧
∀ x_5 : Int32, x_5 = ((t0 / (25 : Int32)) - (t0 / (25 : Int32)) / (25 : Int32) * (25 : Int32)) →
¬ (25 : Int32) = 0 ∧
¬ (25 : Int32) = 0 ∧
∀ x_8 : Int32, x_8 = ((t0 / (25 : Int32)) / (25 : Int32)) →
wp_X2_valueAt D (fun r_9 S_10 => 
∀ x_11 : Int32, x_11 = (r_9 + (1 : Int32)) →
∃ y_12 : Nat, sR S_10 a0 0 = some y_12 ∧ wM D S_10 y_12 ∧ sK S_10 y_12 = 5 ∧
wp_X0_reach D (fun r_13 S_14 => 
∃ y_15 : Nat, sR S_14 a0 0 = some y_15 ∧ wM D S_14 y_15 ∧ sK S_14 y_15 = 5 ∧
wp_X0_reach D (fun r_16 S_17 => 
∃ y_18 : Nat, sR S_17 a0 0 = some y_18 ∧ wM D S_17 y_18 ∧ sK S_17 y_18 = 5 ∧
wp_X0_reach D (fun r_19 S_20 => 
∃ n_21 : Nat, wp_X2_stepBack_115 D post n_21 S_20 a0 x1 x3 x_2 x_5 x_8 x_11 r_13 r_16 r_19 (0 : Int32)) S_17 y_18 x1 x_2 ((jlshl (1 : Int64) x_8) ||| (jlshl (1 : Int64) x_5))) S_14 y_15 (1 : Int32) x_5 (0 : Int64)) S_10 y_12 (1 : Int32) x_8 (0 : Int64)) S a0 x1 x2
def wp_X2_stepBack_12 (D : wD) (post : wS → Prop)  (S : wS) (a0 : Nat) (x1 : Int32) (x2 : Int32) (t0 : Int32) : Prop :=
((t0 = 0 → wp_X2_stepBack_26 D post S a0 x1 x2 t0 x2) ∧
 (¬ t0 = 0 → wp_X2_stepBack_26 D post S a0 x1 x2 t0 (x2 - (15625 : Int32))))
def wp_X2_stepBack_0 (D : wD) (post : wS → Prop)  (S : wS) (a0 : Nat) (x1 : Int32) (x2 : Int32) : Prop :=
((x2 < (15625 : Int32) → wp_X2_stepBack_12 D post S a0 x1 x2 (0 : Int32)) ∧
 (¬ x2 < (15625 : Int32) → wp_X2_stepBack_12 D post S a0 x1 x2 (1 : Int32)))
abbrev r_X2_stepBack : Room := { frames := 3, cells := 0, slots := 0, locals := 70 }
def wp_X2_stepBack (D : wD) (post : wS → Prop) (S : wS) (a0 : Nat) (x1 : Int32) (x2 : Int32) : Prop := wp_X2_stepBack_0 D post S a0 x1 x2
set_option maxHeartbeats 4000000 in
set_option maxRecDepth 100000 in
theorem t_X2_stepBack_220 {p : Program} {l : Launch} {e : Env} {s : State} {m : MethodId} {args : Array Value} {below : List Frame} {meth : Method} {c : Code} {D : wD} {cy : Nat → ClassId} {X : va_W} {A : Nat → Prop} {S0 : wS} {post : wS → Prop} (F : CallFix p m c cX2_stepBack 16 s args wz_X2_stepBack RX2) (hr : meth.sig.returnType = none) (hlocks : meth.locks = false) (hK : wK D cy A s) {k_115 : wS → Nat → Int32 → Int32 → Int32 → Int32 → Int32 → Int32 → Int64 → Int64 → Int64 → Int32 → Prop} (q_115 : ∀ {S : wS} {H : Heap} {locs : List Loc} {ls : Array Slot} {a0 : Nat} {x1 : Int32} {x3 : Int32} {x5 : Int32} {x6 : Int32} {x7 : Int32} {x8 : Int32} {x9 : Int64} {x11 : Int64} {x13 : Int64} {x15 : Int32}, k_115 S a0 x1 x3 x5 x6 x7 x8 x9 x11 x13 x15 → wO D cy X A s.heap S H locs → wX D S0 S → lv_has ls 16 [(0, .ref a0), (1, .int x1), (3, .int x3), (5, .int x5), (6, .int x6), (7, .int x7), (8, .int x8), (9, .long x9), (11, .long x11), (13, .long x13), (15, .int x15)] → wM D S a0 → sK S a0 = 7 → W p l e r_X2_stepBack s m args below meth c H locs 0 0 (MQ below (va_Qv (fun S9 => wX D S0 S9 ∧ post S9) (wB D cy X A) A) args s 0 0 A) (F0 m 115 ls [])) : ∀ {S : wS} {H : Heap} {locs : List Loc} {ls : Array Slot} {a0 : Nat} {x1 : Int32} {x3 : Int32} {x5 : Int32} {x6 : Int32} {x7 : Int32} {x8 : Int32} {x9 : Int64} {x11 : Int64} {x13 : Int64} {x15 : Int32}, wp_X2_stepBack_220 D post k_115 S a0 x1 x3 x5 x6 x7 x8 x9 x11 x13 x15 → wO D cy X A s.heap S H locs → wX D S0 S → lv_has ls 16 [(0, .ref a0), (1, .int x1), (3, .int x3), (5, .int x5), (6, .int x6), (7, .int x7), (8, .int x8), (9, .long x9), (11, .long x11), (13, .long x13), (15, .int x15)] → wM D S a0 → sK S a0 = 7 → W p l e r_X2_stepBack s m args below meth c H locs 0 0 (MQ below (va_Qv (fun S9 => wX D S0 S9 ∧ post S9) (wB D cy X A) A) args s 0 0 A) (F0 m 220 ls []) := by
  obtain ⟨hx, hb, hml, hown, hts⟩ := id F
  have hwg : ∀ w ∈ WG, w.before args s = true := fun w h => hts w (List.mem_cons_of_mem _ h)
  intro S H locs ls a0 x1 x3 x5 x6 x7 x8 x9 x11 x13 x15 hp hW hE hl hL_a0 hK_a0
  unfold wp_X2_stepBack_220 at hp
  obtain ⟨x_1, ex_1⟩ : ∃ z : Int32, z = x15 + 1 := ⟨_, rfl⟩
  replace hp := hp x_1 ex_1
  refine lv_iinc (v := x_1) (lv' := [(15, .int x_1), (0, .ref a0), (1, .int x1), (3, .int x3), (5, .int x5), (6, .int x6), (7, .int x7), (8, .int x8), (9, .long x9), (11, .long x11), (13, .long x13)]) hx hb dX2_stepBack_220 hl (k := 10) rfl (by rw [ex_1]; rfl) (by decide) rfl (fun ls hl => ?_)
  refine lv_goto (tgt := 115) hx hb dX2_stepBack_223 (by decide) ?_
  exact q_115 hp hW hE (lv_sub hl [1, 2, 3, 4, 5, 6, 7, 8, 9, 10, 0] rfl) hL_a0 hK_a0
set_option maxHeartbeats 4000000 in
set_option maxRecDepth 100000 in
theorem t_X2_stepBack_189 {p : Program} {l : Launch} {e : Env} {s : State} {m : MethodId} {args : Array Value} {below : List Frame} {meth : Method} {c : Code} {D : wD} {cy : Nat → ClassId} {X : va_W} {A : Nat → Prop} {S0 : wS} {post : wS → Prop} (F : CallFix p m c cX2_stepBack 16 s args wz_X2_stepBack RX2) (hr : meth.sig.returnType = none) (hlocks : meth.locks = false) (hK : wK D cy A s) {k_115 : wS → Nat → Int32 → Int32 → Int32 → Int32 → Int32 → Int32 → Int64 → Int64 → Int64 → Int32 → Prop} (q_115 : ∀ {S : wS} {H : Heap} {locs : List Loc} {ls : Array Slot} {a0 : Nat} {x1 : Int32} {x3 : Int32} {x5 : Int32} {x6 : Int32} {x7 : Int32} {x8 : Int32} {x9 : Int64} {x11 : Int64} {x13 : Int64} {x15 : Int32}, k_115 S a0 x1 x3 x5 x6 x7 x8 x9 x11 x13 x15 → wO D cy X A s.heap S H locs → wX D S0 S → lv_has ls 16 [(0, .ref a0), (1, .int x1), (3, .int x3), (5, .int x5), (6, .int x6), (7, .int x7), (8, .int x8), (9, .long x9), (11, .long x11), (13, .long x13), (15, .int x15)] → wM D S a0 → sK S a0 = 7 → W p l e r_X2_stepBack s m args below meth c H locs 0 0 (MQ below (va_Qv (fun S9 => wX D S0 S9 ∧ post S9) (wB D cy X A) A) args s 0 0 A) (F0 m 115 ls [])) : ∀ {S : wS} {H : Heap} {locs : List Loc} {ls : Array Slot} {a0 : Nat} {x1 : Int32} {x3 : Int32} {x5 : Int32} {x6 : Int32} {x7 : Int32} {x8 : Int32} {x9 : Int64} {x11 : Int64} {x13 : Int64} {x15 : Int32}, wp_X2_stepBack_189 D post k_115 S a0 x1 x3 x5 x6 x7 x8 x9 x11 x13 x15 → wO D cy X A s.heap S H locs → wX D S0 S → lv_has ls 16 [(0, .ref a0), (1, .int x1), (3, .int x3), (5, .int x5), (6, .int x6), (7, .int x7), (8, .int x8), (9, .long x9), (11, .long x11), (13, .long x13), (15, .int x15)] → wM D S a0 → sK S a0 = 7 → W p l e r_X2_stepBack s m args below meth c H locs 0 0 (MQ below (va_Qv (fun S9 => wX D S0 S9 ∧ post S9) (wB D cy X A) A) args s 0 0 A) (F0 m 189 ls []) := by
  obtain ⟨hx, hb, hml, hown, hts⟩ := id F
  have hwg : ∀ w ∈ WG, w.before args s = true := fun w h => hts w (List.mem_cons_of_mem _ h)
  intro S H locs ls a0 x1 x3 x5 x6 x7 x8 x9 x11 x13 x15 hp hW hE hl hL_a0 hK_a0
  unfold wp_X2_stepBack_189 at hp
  refine lv_iload_n hx hb dX2_stepBack_189 rfl (lv_at hl 2 rfl) ?_
  refine lv_if_ne (tgt := 220) hx hb dX2_stepBack_190 (by decide) (fun c_1 => ?_) (fun c_1 => ?_)
  · replace hp := hp.1 c_1
    exact t_X2_stepBack_220 F hr hlocks hK q_115 hp hW hE (lv_sub hl [0, 1, 2, 3, 4, 5, 6, 7, 8, 9, 10] rfl) hL_a0 hK_a0
  · replace hp := hp.2 c_1
    refine lv_lload hx hb dX2_stepBack_193 (lv_at hl 9 rfl) ?_
    refine lv_iload hx hb dX2_stepBack_195 (lv_at hl 10 rfl) ?_
    refine w_callI (va_runSN (As := [.long x13, .int x15]) (rest := []) F (c_X11_contains l hp H.size) ⟨va_cnB (host := "OpeningsCabinet") 2 hts (wg_cons wy_X11_contains.2.2) rfl rfl rfl (hK.2.1 (.methodLinkNest "OpeningsCabinet$Endings" 134 ⟨"OpeningsCabinet", "contains", "(JI)Z"⟩ "OpeningsCabinet") (by decide +kernel)) (hwg _ wy_X11_contains.2.1) ⟨by decide, by decide, by decide +kernel⟩ ⟨Nat.le_of_ble_eq_true rfl, Nat.le_of_ble_eq_true rfl⟩, hwg _ wy_X11_contains.1, trivial⟩ (w_preS hK hW) rfl rfl hl.1 rfl (lv_room (Nat.le_of_ble_eq_true rfl)) dX2_stepBack_197 ⟨Nat.le_of_ble_eq_true rfl, Nat.le_of_ble_eq_true rfl⟩) hW (fun r_2 S_3 H locs hp hW => ?_)
    obtain ⟨hX_S_3, hp⟩ := hp
    refine W.widen (k := 0) (n := 0) (by decide) (by decide) ?_
    have hE := hE.trans hX_S_3
    have hK_a0 : sK S_3 a0 = 7 := (hX_S_3.2 a0 hL_a0).1.trans hK_a0
    have hL_a0 : wM D S_3 a0 := hX_S_3.M hL_a0
    refine lv_if_eq (tgt := 220) hx hb dX2_stepBack_200 (by decide) (fun c_4 => ?_) (fun c_4 => ?_)
    · replace hp := hp.1 c_4
      exact t_X2_stepBack_220 F hr hlocks hK q_115 hp hW hE (lv_sub hl [0, 1, 2, 3, 4, 5, 6, 7, 8, 9, 10] rfl) hL_a0 hK_a0
    · replace hp := hp.2 c_4
      refine lv_aload_n hx hb dX2_stepBack_203 rfl (lv_at hl 0 rfl) ?_
      refine lv_iload_n hx hb dX2_stepBack_204 rfl (lv_at hl 1 rfl) ?_
      refine lv_iconst (v := 1) hx hb dX2_stepBack_205 (by decide) ?_
      refine lv_iload hx hb dX2_stepBack_206 (lv_at hl 5 rfl) ?_
      refine lv_iload hx hb dX2_stepBack_208 (lv_at hl 4 rfl) ?_
      refine lv_iload hx hb dX2_stepBack_210 (lv_at hl 10 rfl) ?_
      refine w_callI (va_runS (As := [.int (1 : Int32), .int x7, .int x6, .int x15]) (rest := [.int x1, .ref a0]) F (c_X2_indexOf l hp H.size) (va_cwS 4 hts (wg_S wm_RX2_96 wy_X2_indexOf) rfl rfl rfl (by decide +kernel) ⟨Nat.le_of_ble_eq_true rfl, Nat.le_of_ble_eq_true rfl⟩) (w_preS hK hW) rfl rfl hl.1 rfl (lv_room (Nat.le_of_ble_eq_true rfl)) dX2_stepBack_212 ⟨Nat.le_of_ble_eq_true rfl, Nat.le_of_ble_eq_true rfl⟩) hW (fun r_5 S_6 H locs hp hW => ?_)
      obtain ⟨hX_S_6, hp⟩ := hp
      refine W.widen (k := 0) (n := 0) (by decide) (by decide) ?_
      have hE := hE.trans hX_S_6
      have hK_a0 : sK S_6 a0 = 7 := (hX_S_6.2 a0 hL_a0).1.trans hK_a0
      have hL_a0 : wM D S_6 a0 := hX_S_6.M hL_a0
      refine lv_iload hx hb dX2_stepBack_215 (lv_at hl 6 rfl) ?_
      refine w_callV (va_runV (As := [.int x1, .int r_5, .int x8]) (rest := []) F (c_X2_reachWin l hL_a0 hK_a0 hp H.size) (cwV (C := RX2) 3 hts (wg_V wm_RX2_152 wy_X2_reachWin) rfl rfl rfl (by decide +kernel) ⟨Nat.le_of_ble_eq_true rfl, Nat.le_of_ble_eq_true rfl⟩) (w_preV hK hW hL_a0 hK_a0 (by decide) rfl) rfl rfl hl.1 rfl (lv_room (Nat.le_of_ble_eq_true rfl)) dX2_stepBack_217 ⟨Nat.le_of_ble_eq_true rfl, Nat.le_of_ble_eq_true rfl⟩) hW (fun S_8 H locs hp hW => ?_)
      obtain ⟨hX_S_8, hp⟩ := hp
      refine W.widen (k := 0) (n := 0) (by decide) (by decide) ?_
      have hE := hE.trans hX_S_8
      have hK_a0 : sK S_8 a0 = 7 := (hX_S_8.2 a0 hL_a0).1.trans hK_a0
      have hL_a0 : wM D S_8 a0 := hX_S_8.M hL_a0
      exact t_X2_stepBack_220 F hr hlocks hK q_115 hp hW hE (lv_sub hl [0, 1, 2, 3, 4, 5, 6, 7, 8, 9, 10] rfl) hL_a0 hK_a0
set_option maxHeartbeats 4000000 in
set_option maxRecDepth 100000 in
theorem t_X2_stepBack_158 {p : Program} {l : Launch} {e : Env} {s : State} {m : MethodId} {args : Array Value} {below : List Frame} {meth : Method} {c : Code} {D : wD} {cy : Nat → ClassId} {X : va_W} {A : Nat → Prop} {S0 : wS} {post : wS → Prop} (F : CallFix p m c cX2_stepBack 16 s args wz_X2_stepBack RX2) (hr : meth.sig.returnType = none) (hlocks : meth.locks = false) (hK : wK D cy A s) {k_115 : wS → Nat → Int32 → Int32 → Int32 → Int32 → Int32 → Int32 → Int64 → Int64 → Int64 → Int32 → Prop} (q_115 : ∀ {S : wS} {H : Heap} {locs : List Loc} {ls : Array Slot} {a0 : Nat} {x1 : Int32} {x3 : Int32} {x5 : Int32} {x6 : Int32} {x7 : Int32} {x8 : Int32} {x9 : Int64} {x11 : Int64} {x13 : Int64} {x15 : Int32}, k_115 S a0 x1 x3 x5 x6 x7 x8 x9 x11 x13 x15 → wO D cy X A s.heap S H locs → wX D S0 S → lv_has ls 16 [(0, .ref a0), (1, .int x1), (3, .int x3), (5, .int x5), (6, .int x6), (7, .int x7), (8, .int x8), (9, .long x9), (11, .long x11), (13, .long x13), (15, .int x15)] → wM D S a0 → sK S a0 = 7 → W p l e r_X2_stepBack s m args below meth c H locs 0 0 (MQ below (va_Qv (fun S9 => wX D S0 S9 ∧ post S9) (wB D cy X A) A) args s 0 0 A) (F0 m 115 ls [])) : ∀ {S : wS} {H : Heap} {locs : List Loc} {ls : Array Slot} {a0 : Nat} {x1 : Int32} {x3 : Int32} {x5 : Int32} {x6 : Int32} {x7 : Int32} {x8 : Int32} {x9 : Int64} {x11 : Int64} {x13 : Int64} {x15 : Int32}, wp_X2_stepBack_158 D post k_115 S a0 x1 x3 x5 x6 x7 x8 x9 x11 x13 x15 → wO D cy X A s.heap S H locs → wX D S0 S → lv_has ls 16 [(0, .ref a0), (1, .int x1), (3, .int x3), (5, .int x5), (6, .int x6), (7, .int x7), (8, .int x8), (9, .long x9), (11, .long x11), (13, .long x13), (15, .int x15)] → wM D S a0 → sK S a0 = 7 → W p l e r_X2_stepBack s m args below meth c H locs 0 0 (MQ below (va_Qv (fun S9 => wX D S0 S9 ∧ post S9) (wB D cy X A) A) args s 0 0 A) (F0 m 158 ls []) := by
  obtain ⟨hx, hb, hml, hown, hts⟩ := id F
  have hwg : ∀ w ∈ WG, w.before args s = true := fun w h => hts w (List.mem_cons_of_mem _ h)
  intro S H locs ls a0 x1 x3 x5 x6 x7 x8 x9 x11 x13 x15 hp hW hE hl hL_a0 hK_a0
  unfold wp_X2_stepBack_158 at hp
  refine lv_iload_n hx hb dX2_stepBack_158 rfl (lv_at hl 2 rfl) ?_
  refine lv_if_ne (tgt := 189) hx hb dX2_stepBack_159 (by decide) (fun c_1 => ?_) (fun c_1 => ?_)
  · replace hp := hp.1 c_1
    exact t_X2_stepBack_189 F hr hlocks hK q_115 hp hW hE (lv_sub hl [0, 1, 2, 3, 4, 5, 6, 7, 8, 9, 10] rfl) hL_a0 hK_a0
  · replace hp := hp.2 c_1
    refine lv_lload hx hb dX2_stepBack_162 (lv_at hl 7 rfl) ?_
    refine lv_iload hx hb dX2_stepBack_164 (lv_at hl 10 rfl) ?_
    refine w_callI (va_runSN (As := [.long x9, .int x15]) (rest := []) F (c_X11_contains l hp H.size) ⟨va_cnB (host := "OpeningsCabinet") 2 hts (wg_cons wy_X11_contains.2.2) rfl rfl rfl (hK.2.1 (.methodLinkNest "OpeningsCabinet$Endings" 134 ⟨"OpeningsCabinet", "contains", "(JI)Z"⟩ "OpeningsCabinet") (by decide +kernel)) (hwg _ wy_X11_contains.2.1) ⟨by decide, by decide, by decide +kernel⟩ ⟨Nat.le_of_ble_eq_true rfl, Nat.le_of_ble_eq_true rfl⟩, hwg _ wy_X11_contains.1, trivial⟩ (w_preS hK hW) rfl rfl hl.1 rfl (lv_room (Nat.le_of_ble_eq_true rfl)) dX2_stepBack_166 ⟨Nat.le_of_ble_eq_true rfl, Nat.le_of_ble_eq_true rfl⟩) hW (fun r_2 S_3 H locs hp hW => ?_)
    obtain ⟨hX_S_3, hp⟩ := hp
    refine W.widen (k := 0) (n := 0) (by decide) (by decide) ?_
    have hE := hE.trans hX_S_3
    have hK_a0 : sK S_3 a0 = 7 := (hX_S_3.2 a0 hL_a0).1.trans hK_a0
    have hL_a0 : wM D S_3 a0 := hX_S_3.M hL_a0
    refine lv_if_eq (tgt := 189) hx hb dX2_stepBack_169 (by decide) (fun c_4 => ?_) (fun c_4 => ?_)
    · replace hp := hp.1 c_4
      exact t_X2_stepBack_189 F hr hlocks hK q_115 hp hW hE (lv_sub hl [0, 1, 2, 3, 4, 5, 6, 7, 8, 9, 10] rfl) hL_a0 hK_a0
    · replace hp := hp.2 c_4
      refine lv_aload_n hx hb dX2_stepBack_172 rfl (lv_at hl 0 rfl) ?_
      refine lv_iload_n hx hb dX2_stepBack_173 rfl (lv_at hl 1 rfl) ?_
      refine lv_iconst (v := 1) hx hb dX2_stepBack_174 (by decide) ?_
      refine lv_iload hx hb dX2_stepBack_175 (lv_at hl 10 rfl) ?_
      refine lv_iload hx hb dX2_stepBack_177 (lv_at hl 4 rfl) ?_
      refine lv_iload hx hb dX2_stepBack_179 (lv_at hl 3 rfl) ?_
      refine w_callI (va_runS (As := [.int (1 : Int32), .int x15, .int x6, .int x5]) (rest := [.int x1, .ref a0]) F (c_X2_indexOf l hp H.size) (va_cwS 4 hts (wg_S wm_RX2_96 wy_X2_indexOf) rfl rfl rfl (by decide +kernel) ⟨Nat.le_of_ble_eq_true rfl, Nat.le_of_ble_eq_true rfl⟩) (w_preS hK hW) rfl rfl hl.1 rfl (lv_room (Nat.le_of_ble_eq_true rfl)) dX2_stepBack_181 ⟨Nat.le_of_ble_eq_true rfl, Nat.le_of_ble_eq_true rfl⟩) hW (fun r_5 S_6 H locs hp hW => ?_)
      obtain ⟨hX_S_6, hp⟩ := hp
      refine W.widen (k := 0) (n := 0) (by decide) (by decide) ?_
      have hE := hE.trans hX_S_6
      have hK_a0 : sK S_6 a0 = 7 := (hX_S_6.2 a0 hL_a0).1.trans hK_a0
      have hL_a0 : wM D S_6 a0 := hX_S_6.M hL_a0
      refine lv_iload hx hb dX2_stepBack_184 (lv_at hl 6 rfl) ?_
      refine w_callV (va_runV (As := [.int x1, .int r_5, .int x8]) (rest := []) F (c_X2_reachWin l hL_a0 hK_a0 hp H.size) (cwV (C := RX2) 3 hts (wg_V wm_RX2_152 wy_X2_reachWin) rfl rfl rfl (by decide +kernel) ⟨Nat.le_of_ble_eq_true rfl, Nat.le_of_ble_eq_true rfl⟩) (w_preV hK hW hL_a0 hK_a0 (by decide) rfl) rfl rfl hl.1 rfl (lv_room (Nat.le_of_ble_eq_true rfl)) dX2_stepBack_186 ⟨Nat.le_of_ble_eq_true rfl, Nat.le_of_ble_eq_true rfl⟩) hW (fun S_8 H locs hp hW => ?_)
      obtain ⟨hX_S_8, hp⟩ := hp
      refine W.widen (k := 0) (n := 0) (by decide) (by decide) ?_
      have hE := hE.trans hX_S_8
      have hK_a0 : sK S_8 a0 = 7 := (hX_S_8.2 a0 hL_a0).1.trans hK_a0
      have hL_a0 : wM D S_8 a0 := hX_S_8.M hL_a0
      exact t_X2_stepBack_189 F hr hlocks hK q_115 hp hW hE (lv_sub hl [0, 1, 2, 3, 4, 5, 6, 7, 8, 9, 10] rfl) hL_a0 hK_a0
set_option maxHeartbeats 4000000 in
set_option maxRecDepth 100000 in
theorem t_X2_stepBack_115 {p : Program} {l : Launch} {e : Env} {s : State} {m : MethodId} {args : Array Value} {below : List Frame} {meth : Method} {c : Code} {D : wD} {cy : Nat → ClassId} {X : va_W} {A : Nat → Prop} {S0 : wS} {post : wS → Prop} (F : CallFix p m c cX2_stepBack 16 s args wz_X2_stepBack RX2) (hr : meth.sig.returnType = none) (hlocks : meth.locks = false) (hK : wK D cy A s) : ∀ (n : Nat) {S : wS} {H : Heap} {locs : List Loc} {ls : Array Slot} {a0 : Nat} {x1 : Int32} {x3 : Int32} {x5 : Int32} {x6 : Int32} {x7 : Int32} {x8 : Int32} {x9 : Int64} {x11 : Int64} {x13 : Int64} {x15 : Int32}, wp_X2_stepBack_115 D post n S a0 x1 x3 x5 x6 x7 x8 x9 x11 x13 x15 → wO D cy X A s.heap S H locs → wX D S0 S → lv_has ls 16 [(0, .ref a0), (1, .int x1), (3, .int x3), (5, .int x5), (6, .int x6), (7, .int x7), (8, .int x8), (9, .long x9), (11, .long x11), (13, .long x13), (15, .int x15)] → wM D S a0 → sK S a0 = 7 → W p l e r_X2_stepBack s m args below meth c H locs 0 0 (MQ below (va_Qv (fun S9 => wX D S0 S9 ∧ post S9) (wB D cy X A) A) args s 0 0 A) (F0 m 115 ls []) := by
  obtain ⟨hx, hb, hml, hown, hts⟩ := id F
  have hwg : ∀ w ∈ WG, w.before args s = true := fun w h => hts w (List.mem_cons_of_mem _ h)
  have i_5 : ∀ w ∈ u_ws RX0 TX0 12, w ∈ wz_X2_stepBack := fun w h => List.mem_cons_of_mem _ (wu_5 w h)
  have i_7 : ∀ w ∈ u_ws RX2 TX2 8, w ∈ wz_X2_stepBack := fun w h => List.mem_cons_of_mem _ (wu_7 w h)
  have k_35 := hwg _ wf_RX2_35
  intro n
  induction n with
  | zero =>
    intro S H locs ls a0 x1 x3 x5 x6 x7 x8 x9 x11 x13 x15 hp
    exact hp.elim
  | succ n ih =>
    intro S H locs ls a0 x1 x3 x5 x6 x7 x8 x9 x11 x13 x15 hp hW hE hl hL_a0 hK_a0
    unfold wp_X2_stepBack_115 at hp
    refine lv_iload hx hb dX2_stepBack_115 (lv_at hl 10 rfl) ?_
    refine lv_aload_n hx hb dX2_stepBack_117 rfl (lv_at hl 0 rfl) ?_
    obtain ⟨y_1, ey_1, hL_y_1, hK_y_1, hp⟩ := hp
    refine w_get (k := 7) (f := 0) (T := TX2) (v := .ref y_1) F hK hW hL_a0 hK_a0 (by decide) rfl rfl (by decide) i_7 k_35 (by rw [show wv 7 0 S a0 = va_rf (sR S a0 0) from rfl, ey_1]; rfl) dX2_stepBack_118 ?_
    refine w_getN (k := 5) (f := 2) (T := TX0) (v := .int (sI S y_1 2)) F hK hW hL_y_1 hK_y_1 (by decide) rfl rfl (by decide) i_5 (hK.2.1 (.fieldLinkNest "OpeningsCabinet$Endings" 104 "OpeningsCabinet$Board" "size" "I" "OpeningsCabinet") (by decide +kernel)) rfl dX2_stepBack_121 ?_
    refine lv_icmp_ge (tgt := 226) hx hb dX2_stepBack_124 (by decide) (fun c_2 => ?_) (fun c_2 => ?_)
    · replace hp := hp.1 c_2
      exact w_vret hx hb hr hlocks hW ⟨hE, hp⟩ dX2_stepBack_226
    · replace hp := hp.2 c_2
      refine lv_iload_n hx hb dX2_stepBack_127 rfl (lv_at hl 2 rfl) ?_
      refine lv_if_eq (tgt := 158) hx hb dX2_stepBack_128 (by decide) (fun c_3 => ?_) (fun c_3 => ?_)
      · replace hp := hp.1 c_3
        exact t_X2_stepBack_158 F hr hlocks hK ih hp hW hE (lv_sub hl [0, 1, 2, 3, 4, 5, 6, 7, 8, 9, 10] rfl) hL_a0 hK_a0
      · replace hp := hp.2 c_3
        refine lv_lload hx hb dX2_stepBack_131 (lv_at hl 8 rfl) ?_
        refine lv_iload hx hb dX2_stepBack_133 (lv_at hl 10 rfl) ?_
        refine w_callI (va_runSN (As := [.long x11, .int x15]) (rest := []) F (c_X11_contains l hp H.size) ⟨va_cnB (host := "OpeningsCabinet") 2 hts (wg_cons wy_X11_contains.2.2) rfl rfl rfl (hK.2.1 (.methodLinkNest "OpeningsCabinet$Endings" 134 ⟨"OpeningsCabinet", "contains", "(JI)Z"⟩ "OpeningsCabinet") (by decide +kernel)) (hwg _ wy_X11_contains.2.1) ⟨by decide, by decide, by decide +kernel⟩ ⟨Nat.le_of_ble_eq_true rfl, Nat.le_of_ble_eq_true rfl⟩, hwg _ wy_X11_contains.1, trivial⟩ (w_preS hK hW) rfl rfl hl.1 rfl (lv_room (Nat.le_of_ble_eq_true rfl)) dX2_stepBack_135 ⟨Nat.le_of_ble_eq_true rfl, Nat.le_of_ble_eq_true rfl⟩) hW (fun r_4 S_5 H locs hp hW => ?_)
        obtain ⟨hX_S_5, hp⟩ := hp
        refine W.widen (k := 0) (n := 0) (by decide) (by decide) ?_
        have hE := hE.trans hX_S_5
        have hK_a0 : sK S_5 a0 = 7 := (hX_S_5.2 a0 hL_a0).1.trans hK_a0
        have hL_a0 : wM D S_5 a0 := hX_S_5.M hL_a0
        refine lv_if_eq (tgt := 158) hx hb dX2_stepBack_138 (by decide) (fun c_6 => ?_) (fun c_6 => ?_)
        · replace hp := hp.1 c_6
          exact t_X2_stepBack_158 F hr hlocks hK ih hp hW hE (lv_sub hl [0, 1, 2, 3, 4, 5, 6, 7, 8, 9, 10] rfl) hL_a0 hK_a0
        · replace hp := hp.2 c_6
          refine lv_aload_n hx hb dX2_stepBack_141 rfl (lv_at hl 0 rfl) ?_
          refine lv_iload_n hx hb dX2_stepBack_142 rfl (lv_at hl 1 rfl) ?_
          refine lv_iconst (v := 0) hx hb dX2_stepBack_143 (by decide) ?_
          refine lv_iload hx hb dX2_stepBack_144 (lv_at hl 5 rfl) ?_
          refine lv_iload hx hb dX2_stepBack_146 (lv_at hl 10 rfl) ?_
          refine lv_iload hx hb dX2_stepBack_148 (lv_at hl 3 rfl) ?_
          refine w_callI (va_runS (As := [.int (0 : Int32), .int x7, .int x15, .int x5]) (rest := [.int x1, .ref a0]) F (c_X2_indexOf l hp H.size) (va_cwS 4 hts (wg_S wm_RX2_96 wy_X2_indexOf) rfl rfl rfl (by decide +kernel) ⟨Nat.le_of_ble_eq_true rfl, Nat.le_of_ble_eq_true rfl⟩) (w_preS hK hW) rfl rfl hl.1 rfl (lv_room (Nat.le_of_ble_eq_true rfl)) dX2_stepBack_150 ⟨Nat.le_of_ble_eq_true rfl, Nat.le_of_ble_eq_true rfl⟩) hW (fun r_7 S_8 H locs hp hW => ?_)
          obtain ⟨hX_S_8, hp⟩ := hp
          refine W.widen (k := 0) (n := 0) (by decide) (by decide) ?_
          have hE := hE.trans hX_S_8
          have hK_a0 : sK S_8 a0 = 7 := (hX_S_8.2 a0 hL_a0).1.trans hK_a0
          have hL_a0 : wM D S_8 a0 := hX_S_8.M hL_a0
          refine lv_iload hx hb dX2_stepBack_153 (lv_at hl 6 rfl) ?_
          refine w_callV (va_runV (As := [.int x1, .int r_7, .int x8]) (rest := []) F (c_X2_loseMove l hL_a0 hK_a0 hp H.size) (cwV (C := RX2) 3 hts (wg_V wm_RX2_149 wy_X2_loseMove) rfl rfl rfl (by decide +kernel) ⟨Nat.le_of_ble_eq_true rfl, Nat.le_of_ble_eq_true rfl⟩) (w_preV hK hW hL_a0 hK_a0 (by decide) rfl) rfl rfl hl.1 rfl (lv_room (Nat.le_of_ble_eq_true rfl)) dX2_stepBack_155 ⟨Nat.le_of_ble_eq_true rfl, Nat.le_of_ble_eq_true rfl⟩) hW (fun S_10 H locs hp hW => ?_)
          obtain ⟨hX_S_10, hp⟩ := hp
          refine W.widen (k := 0) (n := 0) (by decide) (by decide) ?_
          have hE := hE.trans hX_S_10
          have hK_a0 : sK S_10 a0 = 7 := (hX_S_10.2 a0 hL_a0).1.trans hK_a0
          have hL_a0 : wM D S_10 a0 := hX_S_10.M hL_a0
          exact t_X2_stepBack_158 F hr hlocks hK ih hp hW hE (lv_sub hl [0, 1, 2, 3, 4, 5, 6, 7, 8, 9, 10] rfl) hL_a0 hK_a0
set_option maxHeartbeats 4000000 in
set_option maxRecDepth 100000 in
theorem t_X2_stepBack_26 {p : Program} {l : Launch} {e : Env} {s : State} {m : MethodId} {args : Array Value} {below : List Frame} {meth : Method} {c : Code} {D : wD} {cy : Nat → ClassId} {X : va_W} {A : Nat → Prop} {S0 : wS} {post : wS → Prop} (F : CallFix p m c cX2_stepBack 16 s args wz_X2_stepBack RX2) (hr : meth.sig.returnType = none) (hlocks : meth.locks = false) (hK : wK D cy A s) : ∀ {S : wS} {H : Heap} {locs : List Loc} {ls : Array Slot} {a0 : Nat} {x1 : Int32} {x2 : Int32} {x3 : Int32} {t0 : Int32}, wp_X2_stepBack_26 D post S a0 x1 x2 x3 t0 → wO D cy X A s.heap S H locs → wX D S0 S → lv_has ls 16 [(0, .ref a0), (1, .int x1), (2, .int x2), (3, .int x3)] → wM D S a0 → sK S a0 = 7 → W p l e r_X2_stepBack s m args below meth c H locs 0 0 (MQ below (va_Qv (fun S9 => wX D S0 S9 ∧ post S9) (wB D cy X A) A) args s 0 0 A) (F0 m 26 ls [.int t0]) := by
  obtain ⟨hx, hb, hml, hown, hts⟩ := id F
  have hwg : ∀ w ∈ WG, w.before args s = true := fun w h => hts w (List.mem_cons_of_mem _ h)
  have i_7 : ∀ w ∈ u_ws RX2 TX2 8, w ∈ wz_X2_stepBack := fun w h => List.mem_cons_of_mem _ (wu_7 w h)
  have k_35 := hwg _ wf_RX2_35
  intro S H locs ls a0 x1 x2 x3 t0 hp hW hE hl hL_a0 hK_a0
  unfold wp_X2_stepBack_26 at hp
  refine lv_istore (lv' := [(4, .int t0), (0, .ref a0), (1, .int x1), (2, .int x2), (3, .int x3)]) hx hb dX2_stepBack_26 hl (by decide) rfl (fun ls hl => ?_)
  refine lv_iload hx hb dX2_stepBack_28 (lv_at hl 0 rfl) ?_
  refine lv_bipush (v := 25) hx hb dX2_stepBack_30 (by decide) ?_
  obtain ⟨h_1, hp⟩ := hp
  refine lv_irem hx hb dX2_stepBack_32 h_1 ?_
  refine lv_topi (fun x_2 ex_2 => ?_)
  replace hp := hp x_2 ex_2
  refine lv_istore (lv' := [(5, .int x_2), (4, .int t0), (0, .ref a0), (1, .int x1), (2, .int x2), (3, .int x3)]) hx hb dX2_stepBack_33 hl (by decide) rfl (fun ls hl => ?_)
  refine lv_iload hx hb dX2_stepBack_35 (lv_at hl 1 rfl) ?_
  refine lv_bipush (v := 25) hx hb dX2_stepBack_37 (by decide) ?_
  obtain ⟨h_3, hp⟩ := hp
  refine lv_idiv hx hb dX2_stepBack_39 h_3 ?_
  refine lv_bipush (v := 25) hx hb dX2_stepBack_40 (by decide) ?_
  obtain ⟨h_4, hp⟩ := hp
  refine lv_irem hx hb dX2_stepBack_42 h_4 ?_
  refine lv_topi (fun x_5 ex_5 => ?_)
  replace hp := hp x_5 ex_5
  refine lv_istore (lv' := [(6, .int x_5), (5, .int x_2), (4, .int t0), (0, .ref a0), (1, .int x1), (2, .int x2), (3, .int x3)]) hx hb dX2_stepBack_43 hl (by decide) rfl (fun ls hl => ?_)
  refine lv_iload hx hb dX2_stepBack_45 (lv_at hl 2 rfl) ?_
  refine lv_bipush (v := 25) hx hb dX2_stepBack_47 (by decide) ?_
  obtain ⟨h_6, hp⟩ := hp
  refine lv_idiv hx hb dX2_stepBack_49 h_6 ?_
  refine lv_bipush (v := 25) hx hb dX2_stepBack_50 (by decide) ?_
  obtain ⟨h_7, hp⟩ := hp
  refine lv_idiv hx hb dX2_stepBack_52 h_7 ?_
  refine lv_topi (fun x_8 ex_8 => ?_)
  replace hp := hp x_8 ex_8
  refine lv_istore (lv' := [(7, .int x_8), (6, .int x_5), (5, .int x_2), (4, .int t0), (0, .ref a0), (1, .int x1), (2, .int x2), (3, .int x3)]) hx hb dX2_stepBack_53 hl (by decide) rfl (fun ls hl => ?_)
  refine lv_aload_n hx hb dX2_stepBack_55 rfl (lv_at hl 4 rfl) ?_
  refine lv_iload_n hx hb dX2_stepBack_56 rfl (lv_at hl 5 rfl) ?_
  refine lv_iload_n hx hb dX2_stepBack_57 rfl (lv_at hl 6 rfl) ?_
  refine w_callI (va_runV (As := [.int x1, .int x2]) (rest := []) F (c_X2_valueAt l hL_a0 hK_a0 hp H.size) (cwV (C := RX2) 2 hts (wg_V wm_RX2_100 wy_X2_valueAt) rfl rfl rfl (by decide +kernel) ⟨Nat.le_of_ble_eq_true rfl, Nat.le_of_ble_eq_true rfl⟩) (w_preV hK hW hL_a0 hK_a0 (by decide) rfl) rfl rfl hl.1 rfl (lv_room (Nat.le_of_ble_eq_true rfl)) dX2_stepBack_58 ⟨Nat.le_of_ble_eq_true rfl, Nat.le_of_ble_eq_true rfl⟩) hW (fun r_9 S_10 H locs hp hW => ?_)
  obtain ⟨hX_S_10, hp⟩ := hp
  refine W.widen (k := 0) (n := 0) (by decide) (by decide) ?_
  have hE := hE.trans hX_S_10
  have hK_a0 : sK S_10 a0 = 7 := (hX_S_10.2 a0 hL_a0).1.trans hK_a0
  have hL_a0 : wM D S_10 a0 := hX_S_10.M hL_a0
  refine lv_iconst (v := 1) hx hb dX2_stepBack_61 (by decide) ?_
  refine lv_iadd hx hb dX2_stepBack_62 ?_
  refine lv_topi (fun x_11 ex_11 => ?_)
  replace hp := hp x_11 ex_11
  refine lv_istore (lv' := [(8, .int x_11), (7, .int x_8), (6, .int x_5), (5, .int x_2), (4, .int t0), (0, .ref a0), (1, .int x1), (2, .int x2), (3, .int x3)]) hx hb dX2_stepBack_63 hl (by decide) rfl (fun ls hl => ?_)
  refine lv_aload_n hx hb dX2_stepBack_65 rfl (lv_at hl 5 rfl) ?_
  obtain ⟨y_12, ey_12, hL_y_12, hK_y_12, hp⟩ := hp
  refine w_get (k := 7) (f := 0) (T := TX2) (v := .ref y_12) F hK hW hL_a0 hK_a0 (by decide) rfl rfl (by decide) i_7 k_35 (by rw [show wv 7 0 S_10 a0 = va_rf (sR S_10 a0 0) from rfl, ey_12]; rfl) dX2_stepBack_66 ?_
  refine lv_iconst (v := 1) hx hb dX2_stepBack_69 (by decide) ?_
  refine lv_iload hx hb dX2_stepBack_70 (lv_at hl 1 rfl) ?_
  refine lv_lconst (v := 0) hx hb dX2_stepBack_72 (by decide) ?_
  refine w_callJ (va_runV (As := [.int (1 : Int32), .int x_8, .long (0 : Int64)]) (rest := []) F (c_X0_reach l hL_y_12 hK_y_12 hp H.size) (cwV (C := RX0) 3 hts (wg_V wm_RX2_130 wy_X0_reach) rfl rfl rfl (by decide +kernel) ⟨Nat.le_of_ble_eq_true rfl, Nat.le_of_ble_eq_true rfl⟩) (w_preV hK hW hL_y_12 hK_y_12 (by decide) rfl) rfl rfl hl.1 rfl (lv_room (Nat.le_of_ble_eq_true rfl)) dX2_stepBack_73 ⟨Nat.le_of_ble_eq_true rfl, Nat.le_of_ble_eq_true rfl⟩) hW (fun r_13 S_14 H locs hp hW => ?_)
  obtain ⟨hX_S_14, hp⟩ := hp
  refine W.widen (k := 0) (n := 0) (by decide) (by decide) ?_
  have hE := hE.trans hX_S_14
  have hK_a0 : sK S_14 a0 = 7 := (hX_S_14.2 a0 hL_a0).1.trans hK_a0
  have hL_a0 : wM D S_14 a0 := hX_S_14.M hL_a0
  refine lv_lstore (lv' := [(9, .long r_13), (8, .int x_11), (7, .int x_8), (6, .int x_5), (5, .int x_2), (4, .int t0), (0, .ref a0), (1, .int x1), (2, .int x2), (3, .int x3)]) hx hb dX2_stepBack_76 hl (by decide) rfl (fun ls hl => ?_)
  refine lv_aload_n hx hb dX2_stepBack_78 rfl (lv_at hl 6 rfl) ?_
  obtain ⟨y_15, ey_15, hL_y_15, hK_y_15, hp⟩ := hp
  refine w_get (k := 7) (f := 0) (T := TX2) (v := .ref y_15) F hK hW hL_a0 hK_a0 (by decide) rfl rfl (by decide) i_7 k_35 (by rw [show wv 7 0 S_14 a0 = va_rf (sR S_14 a0 0) from rfl, ey_15]; rfl) dX2_stepBack_79 ?_
  refine lv_iconst (v := 1) hx hb dX2_stepBack_82 (by decide) ?_
  refine lv_iload hx hb dX2_stepBack_83 (lv_at hl 3 rfl) ?_
  refine lv_lconst (v := 0) hx hb dX2_stepBack_85 (by decide) ?_
  refine w_callJ (va_runV (As := [.int (1 : Int32), .int x_5, .long (0 : Int64)]) (rest := []) F (c_X0_reach l hL_y_15 hK_y_15 hp H.size) (cwV (C := RX0) 3 hts (wg_V wm_RX2_130 wy_X0_reach) rfl rfl rfl (by decide +kernel) ⟨Nat.le_of_ble_eq_true rfl, Nat.le_of_ble_eq_true rfl⟩) (w_preV hK hW hL_y_15 hK_y_15 (by decide) rfl) rfl rfl hl.1 rfl (lv_room (Nat.le_of_ble_eq_true rfl)) dX2_stepBack_86 ⟨Nat.le_of_ble_eq_true rfl, Nat.le_of_ble_eq_true rfl⟩) hW (fun r_16 S_17 H locs hp hW => ?_)
  obtain ⟨hX_S_17, hp⟩ := hp
  refine W.widen (k := 0) (n := 0) (by decide) (by decide) ?_
  have hE := hE.trans hX_S_17
  have hK_a0 : sK S_17 a0 = 7 := (hX_S_17.2 a0 hL_a0).1.trans hK_a0
  have hL_a0 : wM D S_17 a0 := hX_S_17.M hL_a0
  refine lv_lstore (lv' := [(11, .long r_16), (9, .long r_13), (8, .int x_11), (7, .int x_8), (6, .int x_5), (5, .int x_2), (4, .int t0), (0, .ref a0), (1, .int x1), (2, .int x2), (3, .int x3)]) hx hb dX2_stepBack_89 hl (by decide) rfl (fun ls hl => ?_)
  refine lv_aload_n hx hb dX2_stepBack_91 rfl (lv_at hl 7 rfl) ?_
  obtain ⟨y_18, ey_18, hL_y_18, hK_y_18, hp⟩ := hp
  refine w_get (k := 7) (f := 0) (T := TX2) (v := .ref y_18) F hK hW hL_a0 hK_a0 (by decide) rfl rfl (by decide) i_7 k_35 (by rw [show wv 7 0 S_17 a0 = va_rf (sR S_17 a0 0) from rfl, ey_18]; rfl) dX2_stepBack_92 ?_
  refine lv_iload_n hx hb dX2_stepBack_95 rfl (lv_at hl 8 rfl) ?_
  refine lv_iload hx hb dX2_stepBack_96 (lv_at hl 5 rfl) ?_
  refine lv_lconst (v := 1) hx hb dX2_stepBack_98 (by decide) ?_
  refine lv_iload hx hb dX2_stepBack_99 (lv_at hl 3 rfl) ?_
  refine lv_lshl (v := (jlshl (1 : Int64) x_8)) hx hb dX2_stepBack_101 rfl ?_
  refine lv_lconst (v := 1) hx hb dX2_stepBack_102 (by decide) ?_
  refine lv_iload hx hb dX2_stepBack_103 (lv_at hl 4 rfl) ?_
  refine lv_lshl (v := (jlshl (1 : Int64) x_5)) hx hb dX2_stepBack_105 rfl ?_
  refine lv_lor hx hb dX2_stepBack_106 ?_
  refine w_callJ (va_runV (As := [.int x1, .int x_2, .long ((jlshl (1 : Int64) x_8) ||| (jlshl (1 : Int64) x_5))]) (rest := []) F (c_X0_reach l hL_y_18 hK_y_18 hp H.size) (cwV (C := RX0) 3 hts (wg_V wm_RX2_130 wy_X0_reach) rfl rfl rfl (by decide +kernel) ⟨Nat.le_of_ble_eq_true rfl, Nat.le_of_ble_eq_true rfl⟩) (w_preV hK hW hL_y_18 hK_y_18 (by decide) rfl) rfl rfl hl.1 rfl (lv_room (Nat.le_of_ble_eq_true rfl)) dX2_stepBack_107 ⟨Nat.le_of_ble_eq_true rfl, Nat.le_of_ble_eq_true rfl⟩) hW (fun r_19 S_20 H locs hp hW => ?_)
  obtain ⟨hX_S_20, hp⟩ := hp
  refine W.widen (k := 0) (n := 0) (by decide) (by decide) ?_
  have hE := hE.trans hX_S_20
  have hK_a0 : sK S_20 a0 = 7 := (hX_S_20.2 a0 hL_a0).1.trans hK_a0
  have hL_a0 : wM D S_20 a0 := hX_S_20.M hL_a0
  refine lv_lstore (lv' := [(13, .long r_19), (11, .long r_16), (9, .long r_13), (8, .int x_11), (7, .int x_8), (6, .int x_5), (5, .int x_2), (4, .int t0), (0, .ref a0), (1, .int x1), (2, .int x2), (3, .int x3)]) hx hb dX2_stepBack_110 hl (by decide) rfl (fun ls hl => ?_)
  refine lv_iconst (v := 0) hx hb dX2_stepBack_112 (by decide) ?_
  refine lv_istore (lv' := [(15, .int (0 : Int32)), (13, .long r_19), (11, .long r_16), (9, .long r_13), (8, .int x_11), (7, .int x_8), (6, .int x_5), (5, .int x_2), (4, .int t0), (0, .ref a0), (1, .int x1), (2, .int x2), (3, .int x3)]) hx hb dX2_stepBack_113 hl (by decide) rfl (fun ls hl => ?_)
  obtain ⟨n_21, hp⟩ := hp
  exact t_X2_stepBack_115 F hr hlocks hK n_21 hp hW hE (lv_sub hl [9, 10, 12, 7, 6, 5, 4, 3, 2, 1, 0] rfl) hL_a0 hK_a0
set_option maxHeartbeats 4000000 in
set_option maxRecDepth 100000 in
theorem t_X2_stepBack_12 {p : Program} {l : Launch} {e : Env} {s : State} {m : MethodId} {args : Array Value} {below : List Frame} {meth : Method} {c : Code} {D : wD} {cy : Nat → ClassId} {X : va_W} {A : Nat → Prop} {S0 : wS} {post : wS → Prop} (F : CallFix p m c cX2_stepBack 16 s args wz_X2_stepBack RX2) (hr : meth.sig.returnType = none) (hlocks : meth.locks = false) (hK : wK D cy A s) : ∀ {S : wS} {H : Heap} {locs : List Loc} {ls : Array Slot} {a0 : Nat} {x1 : Int32} {x2 : Int32} {t0 : Int32}, wp_X2_stepBack_12 D post S a0 x1 x2 t0 → wO D cy X A s.heap S H locs → wX D S0 S → lv_has ls 16 [(0, .ref a0), (1, .int x1), (2, .int x2)] → wM D S a0 → sK S a0 = 7 → W p l e r_X2_stepBack s m args below meth c H locs 0 0 (MQ below (va_Qv (fun S9 => wX D S0 S9 ∧ post S9) (wB D cy X A) A) args s 0 0 A) (F0 m 12 ls [.int t0]) := by
  obtain ⟨hx, hb, hml, hown, hts⟩ := id F
  have hwg : ∀ w ∈ WG, w.before args s = true := fun w h => hts w (List.mem_cons_of_mem _ h)
  intro S H locs ls a0 x1 x2 t0 hp hW hE hl hL_a0 hK_a0
  unfold wp_X2_stepBack_12 at hp
  refine lv_istore_n (lv' := [(3, .int t0), (0, .ref a0), (1, .int x1), (2, .int x2)]) hx hb dX2_stepBack_12 rfl hl (by decide) rfl (fun ls hl => ?_)
  refine lv_iload_n hx hb dX2_stepBack_13 rfl (lv_at hl 0 rfl) ?_
  refine lv_if_eq (tgt := 25) hx hb dX2_stepBack_14 (by decide) (fun c_1 => ?_) (fun c_1 => ?_)
  · replace hp := hp.1 c_1
    refine lv_iload_n hx hb dX2_stepBack_25 rfl (lv_at hl 3 rfl) ?_
    exact t_X2_stepBack_26 F hr hlocks hK hp hW hE (lv_sub hl [1, 2, 3, 0] rfl) hL_a0 hK_a0
  · replace hp := hp.2 c_1
    refine lv_iload_n hx hb dX2_stepBack_17 rfl (lv_at hl 3 rfl) ?_
    refine lv_sipush (v := 15625) hx hb dX2_stepBack_18 (by decide) ?_
    refine lv_isub hx hb dX2_stepBack_21 ?_
    refine lv_goto (tgt := 26) hx hb dX2_stepBack_22 (by decide) ?_
    exact t_X2_stepBack_26 F hr hlocks hK hp hW hE (lv_sub hl [1, 2, 3, 0] rfl) hL_a0 hK_a0
set_option maxHeartbeats 4000000 in
set_option maxRecDepth 100000 in
theorem t_X2_stepBack_0 {p : Program} {l : Launch} {e : Env} {s : State} {m : MethodId} {args : Array Value} {below : List Frame} {meth : Method} {c : Code} {D : wD} {cy : Nat → ClassId} {X : va_W} {A : Nat → Prop} {S0 : wS} {post : wS → Prop} (F : CallFix p m c cX2_stepBack 16 s args wz_X2_stepBack RX2) (hr : meth.sig.returnType = none) (hlocks : meth.locks = false) (hK : wK D cy A s) : ∀ {S : wS} {H : Heap} {locs : List Loc} {ls : Array Slot} {a0 : Nat} {x1 : Int32} {x2 : Int32}, wp_X2_stepBack_0 D post S a0 x1 x2 → wO D cy X A s.heap S H locs → wX D S0 S → lv_has ls 16 [(0, .ref a0), (1, .int x1), (2, .int x2)] → wM D S a0 → sK S a0 = 7 → W p l e r_X2_stepBack s m args below meth c H locs 0 0 (MQ below (va_Qv (fun S9 => wX D S0 S9 ∧ post S9) (wB D cy X A) A) args s 0 0 A) (F0 m 0 ls []) := by
  obtain ⟨hx, hb, hml, hown, hts⟩ := id F
  have hwg : ∀ w ∈ WG, w.before args s = true := fun w h => hts w (List.mem_cons_of_mem _ h)
  intro S H locs ls a0 x1 x2 hp hW hE hl hL_a0 hK_a0
  unfold wp_X2_stepBack_0 at hp
  refine lv_iload_n hx hb dX2_stepBack_0 rfl (lv_at hl 2 rfl) ?_
  refine lv_sipush (v := 15625) hx hb dX2_stepBack_1 (by decide) ?_
  refine lv_icmp_lt (tgt := 11) hx hb dX2_stepBack_4 (by decide) (fun c_1 => ?_) (fun c_1 => ?_)
  · replace hp := hp.1 c_1
    refine lv_iconst (v := 0) hx hb dX2_stepBack_11 (by decide) ?_
    exact t_X2_stepBack_12 F hr hlocks hK hp hW hE (lv_sub hl [0, 1, 2] rfl) hL_a0 hK_a0
  · replace hp := hp.2 c_1
    refine lv_iconst (v := 1) hx hb dX2_stepBack_7 (by decide) ?_
    refine lv_goto (tgt := 12) hx hb dX2_stepBack_8 (by decide) ?_
    exact t_X2_stepBack_12 F hr hlocks hK hp hW hE (lv_sub hl [0, 1, 2] rfl) hL_a0 hK_a0
set_option maxHeartbeats 4000000 in
set_option maxRecDepth 100000 in
theorem c_X2_stepBack (l : Launch) {D : wD} {cy : Nat → ClassId} {X : va_W} {S0 : wS} {post : wS → Prop} {a0 : Nat} {x1 : Int32} {x2 : Int32} (hL_a0 : wM D S0 a0) (hK_a0 : sK S0 a0 = 7) (hp : wp_X2_stepBack D post S0 a0 x1 x2) : mV D cy X l yX2_stepBack wz_X2_stepBack r_X2_stepBack [.ref a0, .int x1, .int x2] S0 (fun S9 => wX D S0 S9 ∧ post S9) := by
  intro sz
  refine Met.ofW (cc := cX2_stepBack) (maxL := 16) (ret := none) (by decide) rfl ?_
  intro p e s m args below meth c s₁ B hml hv
  obtain ⟨rfl, hsz, hP, hK, hD0, hRO⟩ := hv
  have hts := atoms_spec (ws := wz_X2_stepBack) B.pre
  have hown : s.vm.findClass RX2 = some m.cls := findClass_of_methodNamed B.named
  subst hsz
  have hD := hD0.self (sz := s.heap.size)
  have F : CallFix p m c cX2_stepBack 16 s _ wz_X2_stepBack RX2 := ⟨B.exec, B.bytes, hml, hown, hts⟩
  have hr := B.returns
  have hlocks := B.notSynchronized
  generalize hAe : va_A (wL cy X S0) s.heap.size = A at hD hK ⊢
  have hA : ∀ q, s.heap.size ≤ q → A q := fun q h => by rw [← hAe]; exact Or.inr h
  have hW : wO D cy X A s.heap S0 s.heap [] := ⟨hP, hD, va_S.rf, hA, hRO⟩
  have hl := lv_entry ([.ref a0, .int x1, .int x2]) (n := 16) (Nat.le_of_ble_eq_true rfl)
  rw [lg_entry_eq]
  generalize (lg_sl ([.ref a0, .int x1, .int x2]) ++ List.replicate (16 - (lg_sl ([.ref a0, .int x1, .int x2])).length) Slot.unset).toArray = ls at hl ⊢
  have hl : lv_has ls 16 [(0, .ref a0), (1, .int x1), (2, .int x2)] := hl
  unfold wp_X2_stepBack at hp
  exact t_X2_stepBack_0 F hr hlocks hK hp hW wX.rf (lv_sub hl [0, 1, 2] rfl) hL_a0 hK_a0
def wp_X11_startHere_0 (D : wD) (post : Int32 → wS → Prop)  (S : wS) (a0 : Nat) : Prop :=
∃ y_1 : Nat, sR S a0 4 = some y_1 ∧ wM D S y_1 ∧ sK S y_1 = 8 ∧
∀ x_2 : Int32, x_2 = (sI S y_1 3) →
∃ y_3 : Nat, sR S a0 4 = some y_3 ∧ wM D S y_3 ∧ sK S y_3 = 8 ∧
∃ y_4 : Nat, sR S a0 2 = some y_4 ∧ wM D S y_4 ∧ sK S y_4 = 12 ∧
wp_X3_begin D (fun S_6 => 
post x_2 S_6) S y_3 y_4
abbrev r_X11_startHere : Room := { frames := 3, cells := 0, slots := 0, locals := 64 }
def wp_X11_startHere (D : wD) (post : Int32 → wS → Prop) (S : wS) (a0 : Nat) : Prop := wp_X11_startHere_0 D post S a0
set_option maxHeartbeats 4000000 in
set_option maxRecDepth 100000 in
theorem t_X11_startHere_0 {p : Program} {l : Launch} {e : Env} {s : State} {m : MethodId} {args : Array Value} {below : List Frame} {meth : Method} {c : Code} {D : wD} {cy : Nat → ClassId} {X : va_W} {A : Nat → Prop} {S0 : wS} {post : Int32 → wS → Prop} (F : CallFix p m c cX11_startHere 2 s args wz_X11_startHere RX11) (hr : meth.sig.returnType = (some .int)) (hlocks : meth.locks = false) (hK : wK D cy A s) : ∀ {S : wS} {H : Heap} {locs : List Loc} {ls : Array Slot} {a0 : Nat}, wp_X11_startHere_0 D post S a0 → wO D cy X A s.heap S H locs → wX D S0 S → lv_has ls 2 [(0, .ref a0)] → wM D S a0 → sK S a0 = 16 → W p l e r_X11_startHere s m args below meth c H locs 0 0 (MQ below (va_Qi (fun r S9 => wX D S0 S9 ∧ post r S9) (wB D cy X A) A) args s 0 0 A) (F0 m 0 ls []) := by
  obtain ⟨hx, hb, hml, hown, hts⟩ := id F
  have hwg : ∀ w ∈ WG, w.before args s = true := fun w h => hts w (List.mem_cons_of_mem _ h)
  have i_16 : ∀ w ∈ u_ws RX11 TX11 18, w ∈ wz_X11_startHere := fun w h => List.mem_cons_of_mem _ (wu_16 w h)
  have i_8 : ∀ w ∈ u_ws RX3 TX3 9, w ∈ wz_X11_startHere := fun w h => List.mem_cons_of_mem _ (wu_8 w h)
  have k_28 := hwg _ wf_RX11_28
  have k_40 := hwg _ wf_RX11_40
  intro S H locs ls a0 hp hW hE hl hL_a0 hK_a0
  unfold wp_X11_startHere_0 at hp
  refine lv_aload_n hx hb dX11_startHere_0 rfl (lv_at hl 0 rfl) ?_
  obtain ⟨y_1, ey_1, hL_y_1, hK_y_1, hp⟩ := hp
  refine w_get (k := 16) (f := 4) (T := TX11) (v := .ref y_1) F hK hW hL_a0 hK_a0 (by decide) rfl rfl (by decide) i_16 k_40 (by rw [show wv 16 4 S a0 = va_rf (sR S a0 4) from rfl, ey_1]; rfl) dX11_startHere_1 ?_
  refine w_getN (k := 8) (f := 3) (T := TX3) (v := .int (sI S y_1 3)) F hK hW hL_y_1 hK_y_1 (by decide) rfl rfl (by decide) i_8 (hK.2.1 (.fieldLinkNest "OpeningsCabinet" 157 "OpeningsCabinet$Game" "length" "I" "OpeningsCabinet") (by decide +kernel)) rfl dX11_startHere_4 ?_
  refine lv_topi (fun x_2 ex_2 => ?_)
  replace hp := hp x_2 ex_2
  refine lv_istore_n (lv' := [(1, .int x_2), (0, .ref a0)]) hx hb dX11_startHere_7 rfl hl (by decide) rfl (fun ls hl => ?_)
  refine lv_aload_n hx hb dX11_startHere_8 rfl (lv_at hl 1 rfl) ?_
  obtain ⟨y_3, ey_3, hL_y_3, hK_y_3, hp⟩ := hp
  refine w_get (k := 16) (f := 4) (T := TX11) (v := .ref y_3) F hK hW hL_a0 hK_a0 (by decide) rfl rfl (by decide) i_16 k_40 (by rw [show wv 16 4 S a0 = va_rf (sR S a0 4) from rfl, ey_3]; rfl) dX11_startHere_9 ?_
  refine lv_aload_n hx hb dX11_startHere_12 rfl (lv_at hl 1 rfl) ?_
  obtain ⟨y_4, ey_4, hL_y_4, hK_y_4, hp⟩ := hp
  refine w_get (k := 16) (f := 2) (T := TX11) (v := .ref y_4) F hK hW hL_a0 hK_a0 (by decide) rfl rfl (by decide) i_16 k_28 (by rw [show wv 16 2 S a0 = va_rf (sR S a0 2) from rfl, ey_4]; rfl) dX11_startHere_13 ?_
  refine w_callV (va_runV (As := [.ref y_4]) (rest := []) F (c_X3_begin l hL_y_3 hK_y_3 hL_y_4 hK_y_4 hp H.size) (cwV (C := RX3) 1 hts (wg_V wm_RX11_130 wy_X3_begin) rfl rfl rfl (by decide +kernel) ⟨Nat.le_of_ble_eq_true rfl, Nat.le_of_ble_eq_true rfl⟩) (w_preV hK hW hL_y_3 hK_y_3 (by decide) rfl) rfl rfl hl.1 rfl (lv_room (Nat.le_of_ble_eq_true rfl)) dX11_startHere_16 ⟨Nat.le_of_ble_eq_true rfl, Nat.le_of_ble_eq_true rfl⟩) hW (fun S_6 H locs hp hW => ?_)
  obtain ⟨hX_S_6, hp⟩ := hp
  refine W.widen (k := 0) (n := 0) (by decide) (by decide) ?_
  have hE := hE.trans hX_S_6
  have hK_a0 : sK S_6 a0 = 16 := (hX_S_6.2 a0 hL_a0).1.trans hK_a0
  have hL_a0 : wM D S_6 a0 := hX_S_6.M hL_a0
  refine lv_iload_n hx hb dX11_startHere_19 rfl (lv_at hl 0 rfl) ?_
  exact w_iret hx hb hr hlocks hW ⟨hE, hp⟩ dX11_startHere_20
set_option maxHeartbeats 4000000 in
set_option maxRecDepth 100000 in
theorem c_X11_startHere (l : Launch) {D : wD} {cy : Nat → ClassId} {X : va_W} {S0 : wS} {post : Int32 → wS → Prop} {a0 : Nat} (hL_a0 : wM D S0 a0) (hK_a0 : sK S0 a0 = 16) (hp : wp_X11_startHere D post S0 a0) : mI D cy X l yX11_startHere wz_X11_startHere r_X11_startHere [.ref a0] S0 (fun r S9 => wX D S0 S9 ∧ post r S9) := by
  intro sz
  refine Met.ofW (cc := cX11_startHere) (maxL := 2) (ret := (some .int)) (by decide) rfl ?_
  intro p e s m args below meth c s₁ B hml hv
  obtain ⟨rfl, hsz, hP, hK, hD0, hRO⟩ := hv
  have hts := atoms_spec (ws := wz_X11_startHere) B.pre
  have hown : s.vm.findClass RX11 = some m.cls := findClass_of_methodNamed B.named
  subst hsz
  have hD := hD0.self (sz := s.heap.size)
  have F : CallFix p m c cX11_startHere 2 s _ wz_X11_startHere RX11 := ⟨B.exec, B.bytes, hml, hown, hts⟩
  have hr := B.returns
  have hlocks := B.notSynchronized
  generalize hAe : va_A (wL cy X S0) s.heap.size = A at hD hK ⊢
  have hA : ∀ q, s.heap.size ≤ q → A q := fun q h => by rw [← hAe]; exact Or.inr h
  have hW : wO D cy X A s.heap S0 s.heap [] := ⟨hP, hD, va_S.rf, hA, hRO⟩
  have hl := lv_entry ([.ref a0]) (n := 2) (Nat.le_of_ble_eq_true rfl)
  rw [lg_entry_eq]
  generalize (lg_sl ([.ref a0]) ++ List.replicate (2 - (lg_sl ([.ref a0])).length) Slot.unset).toArray = ls at hl ⊢
  have hl : lv_has ls 2 [(0, .ref a0)] := hl
  unfold wp_X11_startHere at hp
  exact t_X11_startHere_0 F hr hlocks hK hp hW wX.rf (lv_sub hl [0] rfl) hL_a0 hK_a0
def wp_X11_state_0 (D : wD) (post : Int32 → wS → Prop) (xp : String → wS → Prop)  (S : wS) (a0 : Nat) : Prop :=
wp_X11_mustBeLawful D (fun S_2 => 
wp_X11_stateNow D (fun r_3 S_4 => 
post r_3 S_4) S_2 a0) xp S a0
abbrev r_X11_state : Room := { frames := 7, cells := 1, slots := 6, locals := 140 }
def wp_X11_state (D : wD) (post : Int32 → wS → Prop) (xp : String → wS → Prop) (S : wS) (a0 : Nat) : Prop := wp_X11_state_0 D post xp S a0
set_option maxHeartbeats 4000000 in
set_option maxRecDepth 100000 in
theorem t_X11_state_0 {p : Program} {l : Launch} {e : Env} {s : State} {m : MethodId} {args : Array Value} {below : List Frame} {meth : Method} {c : Code} {D : wD} {cy : Nat → ClassId} {X : va_W} {A : Nat → Prop} {S0 : wS} {post : Int32 → wS → Prop} {xp : String → wS → Prop} (F : CallFix p m c cX11_state 1 s args wz_X11_state RX11) (hr : meth.sig.returnType = (some .int)) (hlocks : meth.locks = false) (hK : wK D cy A s) (hl0 : l.stackTraces = false) (hexc : ∀ x ∈ c.exceptionTable.toList, False) : ∀ {S : wS} {H : Heap} {locs : List Loc} {ls : Array Slot} {a0 : Nat}, wp_X11_state_0 D post xp S a0 → wO D cy X A s.heap S H locs → wX D S0 S → lv_has ls 1 [(0, .ref a0)] → wM D S a0 → sK S a0 = 16 → W p l e r_X11_state s m args below meth c H locs 0 0 (vx_MQ below (va_Qi (fun r S9 => wX D S0 S9 ∧ post r S9) (wB D cy X A) A) (wEx D cy X A (fun E S9 => wX D S0 S9 ∧ xp E S9)) args s 1 6 A) (F0 m 0 ls []) := by
  obtain ⟨hx, hb, hml, hown, hts⟩ := id F
  have hwg : ∀ w ∈ WG, w.before args s = true := fun w h => hts w (List.mem_cons_of_mem _ h)
  intro S H locs ls a0 hp hW hE hl hL_a0 hK_a0
  unfold wp_X11_state_0 at hp
  refine lv_aload_n hx hb dX11_state_0 rfl (lv_at hl 0 rfl) ?_
  refine x_callV (vx_runV (As := []) (rest := []) F (c_X11_mustBeLawful l hl0 hL_a0 hK_a0 hp H.size) (cwV (C := RX11) 0 hts (wg_V wm_RX11_217 wy_X11_mustBeLawful) rfl rfl rfl (by decide +kernel) ⟨Nat.le_of_ble_eq_true rfl, Nat.le_of_ble_eq_true rfl⟩) (w_preV hK hW hL_a0 hK_a0 (by decide) rfl) rfl rfl hl.1 rfl (lv_room (Nat.le_of_ble_eq_true rfl)) dX11_state_1 ⟨Nat.le_of_ble_eq_true rfl, Nat.le_of_ble_eq_true rfl⟩) hW (fun E ce q9 S9 H locs hp hW h1 h2 h3 => x_out hexc hlocks ⟨hE.trans hp.1, hp.2⟩ hW h1 h2 h3 (by decide) (by decide)) (fun S_2 H locs hp hW => ?_)
  obtain ⟨hX_S_2, hp⟩ := hp
  refine W.widen (k := 1) (n := 6) (by decide) (by decide) ?_
  have hE := hE.trans hX_S_2
  have hK_a0 : sK S_2 a0 = 16 := (hX_S_2.2 a0 hL_a0).1.trans hK_a0
  have hL_a0 : wM D S_2 a0 := hX_S_2.M hL_a0
  refine lv_aload_n hx hb dX11_state_4 rfl (lv_at hl 0 rfl) ?_
  refine w_callI (va_runV (As := []) (rest := []) F (c_X11_stateNow l hL_a0 hK_a0 hp H.size) (cwV (C := RX11) 0 hts (wg_V wm_RX11_293 wy_X11_stateNow) rfl rfl rfl (by decide +kernel) ⟨Nat.le_of_ble_eq_true rfl, Nat.le_of_ble_eq_true rfl⟩) (w_preV hK hW hL_a0 hK_a0 (by decide) rfl) rfl rfl hl.1 rfl (lv_room (Nat.le_of_ble_eq_true rfl)) dX11_state_5 ⟨Nat.le_of_ble_eq_true rfl, Nat.le_of_ble_eq_true rfl⟩) hW (fun r_3 S_4 H locs hp hW => ?_)
  obtain ⟨hX_S_4, hp⟩ := hp
  refine W.widen (k := 1) (n := 6) (by decide) (by decide) ?_
  have hE := hE.trans hX_S_4
  have hK_a0 : sK S_4 a0 = 16 := (hX_S_4.2 a0 hL_a0).1.trans hK_a0
  have hL_a0 : wM D S_4 a0 := hX_S_4.M hL_a0
  refine vx_ret ?_
  exact w_iret hx hb hr hlocks hW ⟨hE, hp⟩ dX11_state_8
set_option maxHeartbeats 4000000 in
set_option maxRecDepth 100000 in
theorem c_X11_state (l : Launch) {D : wD} {cy : Nat → ClassId} {X : va_W} {S0 : wS} {post : Int32 → wS → Prop} {xp : String → wS → Prop} (hl0 : l.stackTraces = false) {a0 : Nat} (hL_a0 : wM D S0 a0) (hK_a0 : sK S0 a0 = 16) (hp : wp_X11_state D post xp S0 a0) : xI D cy X l yX11_state wz_X11_state r_X11_state [.ref a0] S0 (fun r S9 => wX D S0 S9 ∧ post r S9) (fun E S9 => wX D S0 S9 ∧ xp E S9) := by
  intro sz
  refine vx_ofW (cc := cX11_state) (maxL := 1) (ret := (some .int)) (by decide) rfl ?_
  intro p e s m args below meth c s₁ B hml hexc hv
  obtain ⟨rfl, hsz, hP, hK, hD0, hRO⟩ := hv
  have hts := atoms_spec (ws := wz_X11_state) B.pre
  have hown : s.vm.findClass RX11 = some m.cls := findClass_of_methodNamed B.named
  subst hsz
  have hD := hD0.self (sz := s.heap.size)
  have F : CallFix p m c cX11_state 1 s _ wz_X11_state RX11 := ⟨B.exec, B.bytes, hml, hown, hts⟩
  have hr := B.returns
  have hlocks := B.notSynchronized
  generalize hAe : va_A (wL cy X S0) s.heap.size = A at hD hK ⊢
  have hA : ∀ q, s.heap.size ≤ q → A q := fun q h => by rw [← hAe]; exact Or.inr h
  have hW : wO D cy X A s.heap S0 s.heap [] := ⟨hP, hD, va_S.rf, hA, hRO⟩
  have hl := lv_entry ([.ref a0]) (n := 1) (Nat.le_of_ble_eq_true rfl)
  rw [lg_entry_eq]
  generalize (lg_sl ([.ref a0]) ++ List.replicate (1 - (lg_sl ([.ref a0])).length) Slot.unset).toArray = ls at hl ⊢
  have hl : lv_has ls 1 [(0, .ref a0)] := hl
  unfold wp_X11_state at hp
  exact t_X11_state_0 F hr hlocks hK hl0 hexc hp hW wX.rf (lv_sub hl [0] rfl) hL_a0 hK_a0
def wp_X11_takeBack_0 (D : wD) (post : Int32 → wS → Prop) (xp : String → wS → Prop)  (S : wS) (a0 : Nat) : Prop :=
∃ y_1 : Nat, sR S a0 4 = some y_1 ∧ wM D S y_1 ∧ sK S y_1 = 8 ∧
((¬ (sI S y_1 3) = 0 → ∃ y_3 : Nat, sR S a0 4 = some y_3 ∧ wM D S y_3 ∧ sK S y_3 = 8 ∧
∀ S_4 : wS, S_4 = uI S y_3 3 ((sI S y_3 3) - (1 : Int32)) →
∃ y_5 : Nat, sR S_4 a0 2 = some y_5 ∧ wM D S_4 y_5 ∧ sK S_4 y_5 = 12 ∧
∃ y_6 : Nat, sR S_4 a0 4 = some y_6 ∧ wM D S_4 y_6 ∧ sK S_4 y_6 = 8 ∧
∃ y_7 : Nat, sR S_4 y_6 0 = some y_7 ∧ wM D S_4 y_7 ∧ sK S_4 y_7 = 22 ∧
∃ y_8 : Nat, sR S_4 a0 4 = some y_8 ∧ wM D S_4 y_8 ∧ sK S_4 y_8 = 8 ∧
wp_X7_load D (fun S_10 => 
∃ y_11 : Nat, sR S_10 a0 4 = some y_11 ∧ wM D S_10 y_11 ∧ sK S_10 y_11 = 8 ∧
post (sI S_10 y_11 3) S_10) S_4 y_5 y_7 (sI S_4 y_8 3)) ∧
 ((sI S y_1 3) = 0 → xp "java/lang/IllegalStateException" S))
abbrev r_X11_takeBack : Room := { frames := 6, cells := 1, slots := 6, locals := 120 }
def wp_X11_takeBack (D : wD) (post : Int32 → wS → Prop) (xp : String → wS → Prop) (S : wS) (a0 : Nat) : Prop := wp_X11_takeBack_0 D post xp S a0
set_option maxHeartbeats 4000000 in
set_option maxRecDepth 100000 in
theorem t_X11_takeBack_0 {p : Program} {l : Launch} {e : Env} {s : State} {m : MethodId} {args : Array Value} {below : List Frame} {meth : Method} {c : Code} {D : wD} {cy : Nat → ClassId} {X : va_W} {A : Nat → Prop} {S0 : wS} {post : Int32 → wS → Prop} {xp : String → wS → Prop} (F : CallFix p m c cX11_takeBack 1 s args wz_X11_takeBack RX11) (hr : meth.sig.returnType = (some .int)) (hlocks : meth.locks = false) (hK : wK D cy A s) (hl0 : l.stackTraces = false) (hexc : ∀ x ∈ c.exceptionTable.toList, False) : ∀ {S : wS} {H : Heap} {locs : List Loc} {ls : Array Slot} {a0 : Nat}, wp_X11_takeBack_0 D post xp S a0 → wO D cy X A s.heap S H locs → wX D S0 S → lv_has ls 1 [(0, .ref a0)] → wM D S a0 → sK S a0 = 16 → W p l e r_X11_takeBack s m args below meth c H locs 0 0 (vx_MQ below (va_Qi (fun r S9 => wX D S0 S9 ∧ post r S9) (wB D cy X A) A) (wEx D cy X A (fun E S9 => wX D S0 S9 ∧ xp E S9)) args s 1 6 A) (F0 m 0 ls []) := by
  obtain ⟨hx, hb, hml, hown, hts⟩ := id F
  have hwg : ∀ w ∈ WG, w.before args s = true := fun w h => hts w (List.mem_cons_of_mem _ h)
  have i_16 : ∀ w ∈ u_ws RX11 TX11 18, w ∈ wz_X11_takeBack := fun w h => List.mem_cons_of_mem _ (wu_16 w h)
  have i_8 : ∀ w ∈ u_ws RX3 TX3 9, w ∈ wz_X11_takeBack := fun w h => List.mem_cons_of_mem _ (wu_8 w h)
  have k_28 := hwg _ wf_RX11_28
  have k_40 := hwg _ wf_RX11_40
  intro S H locs ls a0 hp hW hE hl hL_a0 hK_a0
  unfold wp_X11_takeBack_0 at hp
  refine lv_aload_n hx hb dX11_takeBack_0 rfl (lv_at hl 0 rfl) ?_
  obtain ⟨y_1, ey_1, hL_y_1, hK_y_1, hp⟩ := hp
  refine w_get (k := 16) (f := 4) (T := TX11) (v := .ref y_1) F hK hW hL_a0 hK_a0 (by decide) rfl rfl (by decide) i_16 k_40 (by rw [show wv 16 4 S a0 = va_rf (sR S a0 4) from rfl, ey_1]; rfl) dX11_takeBack_1 ?_
  refine w_getN (k := 8) (f := 3) (T := TX3) (v := .int (sI S y_1 3)) F hK hW hL_y_1 hK_y_1 (by decide) rfl rfl (by decide) i_8 (hK.2.1 (.fieldLinkNest "OpeningsCabinet" 157 "OpeningsCabinet$Game" "length" "I" "OpeningsCabinet") (by decide +kernel)) rfl dX11_takeBack_4 ?_
  refine lv_if_ne (tgt := 21) hx hb dX11_takeBack_7 (by decide) (fun c_2 => ?_) (fun c_2 => ?_)
  · replace hp := hp.1 c_2
    refine lv_aload_n hx hb dX11_takeBack_21 rfl (lv_at hl 0 rfl) ?_
    obtain ⟨y_3, ey_3, hL_y_3, hK_y_3, hp⟩ := hp
    refine w_get (k := 16) (f := 4) (T := TX11) (v := .ref y_3) F hK hW hL_a0 hK_a0 (by decide) rfl rfl (by decide) i_16 k_40 (by rw [show wv 16 4 S a0 = va_rf (sR S a0 4) from rfl, ey_3]; rfl) dX11_takeBack_22 ?_
    refine lv_dup hx hb dX11_takeBack_25 rfl ?_
    refine w_getN (k := 8) (f := 3) (T := TX3) (v := .int (sI S y_3 3)) F hK hW hL_y_3 hK_y_3 (by decide) rfl rfl (by decide) i_8 (hK.2.1 (.fieldLinkNest "OpeningsCabinet" 157 "OpeningsCabinet$Game" "length" "I" "OpeningsCabinet") (by decide +kernel)) rfl dX11_takeBack_26 ?_
    refine lv_iconst (v := 1) hx hb dX11_takeBack_29 (by decide) ?_
    refine lv_isub hx hb dX11_takeBack_30 ?_
    refine w_putIN (k := 8) (f := 3) (T := TX3) F hK hW hL_y_3 hK_y_3 (by decide) (by decide) rfl rfl (by decide) i_8 tyX3 tyX3_ok nmX3 (hK.2.1 (.fieldLinkNest "OpeningsCabinet" 157 "OpeningsCabinet$Game" "length" "I" "OpeningsCabinet") (by decide +kernel)) rfl rfl (ty := .int) rfl rfl rfl dX11_takeBack_31 (fun H locs hW => ?_)
    obtain ⟨S_4, eS_4⟩ : ∃ z : wS, z = uI S y_3 3 ((sI S y_3 3) - (1 : Int32)) := ⟨_, rfl⟩
    rw [← eS_4] at hW
    replace hp := hp S_4 eS_4
    have hX_S_4 : wX D S S_4 := by rw [eS_4]; exact wX_uI
    have hE := hE.trans hX_S_4
    have hK_a0 : sK S_4 a0 = 16 := (hX_S_4.2 a0 hL_a0).1.trans hK_a0
    have hL_a0 : wM D S_4 a0 := hX_S_4.M hL_a0
    refine lv_aload_n hx hb dX11_takeBack_34 rfl (lv_at hl 0 rfl) ?_
    obtain ⟨y_5, ey_5, hL_y_5, hK_y_5, hp⟩ := hp
    refine w_get (k := 16) (f := 2) (T := TX11) (v := .ref y_5) F hK hW hL_a0 hK_a0 (by decide) rfl rfl (by decide) i_16 k_28 (by rw [show wv 16 2 S_4 a0 = va_rf (sR S_4 a0 2) from rfl, ey_5]; rfl) dX11_takeBack_35 ?_
    refine lv_aload_n hx hb dX11_takeBack_38 rfl (lv_at hl 0 rfl) ?_
    obtain ⟨y_6, ey_6, hL_y_6, hK_y_6, hp⟩ := hp
    refine w_get (k := 16) (f := 4) (T := TX11) (v := .ref y_6) F hK hW hL_a0 hK_a0 (by decide) rfl rfl (by decide) i_16 k_40 (by rw [show wv 16 4 S_4 a0 = va_rf (sR S_4 a0 4) from rfl, ey_6]; rfl) dX11_takeBack_39 ?_
    obtain ⟨y_7, ey_7, hL_y_7, hK_y_7, hp⟩ := hp
    refine w_getN (k := 8) (f := 0) (T := TX3) (v := .ref y_7) F hK hW hL_y_6 hK_y_6 (by decide) rfl rfl (by decide) i_8 (hK.2.1 (.fieldLinkNest "OpeningsCabinet" 298 "OpeningsCabinet$Game" "places" "[J" "OpeningsCabinet") (by decide +kernel)) (by rw [show wv 8 0 S_4 y_6 = va_rf (sR S_4 y_6 0) from rfl, ey_7]; rfl) dX11_takeBack_42 ?_
    refine lv_aload_n hx hb dX11_takeBack_45 rfl (lv_at hl 0 rfl) ?_
    obtain ⟨y_8, ey_8, hL_y_8, hK_y_8, hp⟩ := hp
    refine w_get (k := 16) (f := 4) (T := TX11) (v := .ref y_8) F hK hW hL_a0 hK_a0 (by decide) rfl rfl (by decide) i_16 k_40 (by rw [show wv 16 4 S_4 a0 = va_rf (sR S_4 a0 4) from rfl, ey_8]; rfl) dX11_takeBack_46 ?_
    refine w_getN (k := 8) (f := 3) (T := TX3) (v := .int (sI S_4 y_8 3)) F hK hW hL_y_8 hK_y_8 (by decide) rfl rfl (by decide) i_8 (hK.2.1 (.fieldLinkNest "OpeningsCabinet" 157 "OpeningsCabinet$Game" "length" "I" "OpeningsCabinet") (by decide +kernel)) rfl dX11_takeBack_49 ?_
    refine w_callV (va_runV (As := [.ref y_7, .int (sI S_4 y_8 3)]) (rest := []) F (c_X7_load l hL_y_5 hK_y_5 hL_y_7 hK_y_7 hp H.size) (cwV (C := RX7) 2 hts (wg_V wm_RX11_302 wy_X7_load) rfl rfl rfl (by decide +kernel) ⟨Nat.le_of_ble_eq_true rfl, Nat.le_of_ble_eq_true rfl⟩) (w_preV hK hW hL_y_5 hK_y_5 (by decide) rfl) rfl rfl hl.1 rfl (lv_room (Nat.le_of_ble_eq_true rfl)) dX11_takeBack_52 ⟨Nat.le_of_ble_eq_true rfl, Nat.le_of_ble_eq_true rfl⟩) hW (fun S_10 H locs hp hW => ?_)
    obtain ⟨hX_S_10, hp⟩ := hp
    refine W.widen (k := 0) (n := 0) (by decide) (by decide) ?_
    have hE := hE.trans hX_S_10
    have hK_a0 : sK S_10 a0 = 16 := (hX_S_10.2 a0 hL_a0).1.trans hK_a0
    have hL_a0 : wM D S_10 a0 := hX_S_10.M hL_a0
    refine lv_aload_n hx hb dX11_takeBack_55 rfl (lv_at hl 0 rfl) ?_
    obtain ⟨y_11, ey_11, hL_y_11, hK_y_11, hp⟩ := hp
    refine w_get (k := 16) (f := 4) (T := TX11) (v := .ref y_11) F hK hW hL_a0 hK_a0 (by decide) rfl rfl (by decide) i_16 k_40 (by rw [show wv 16 4 S_10 a0 = va_rf (sR S_10 a0 4) from rfl, ey_11]; rfl) dX11_takeBack_56 ?_
    refine w_getN (k := 8) (f := 3) (T := TX3) (v := .int (sI S_10 y_11 3)) F hK hW hL_y_11 hK_y_11 (by decide) rfl rfl (by decide) i_8 (hK.2.1 (.fieldLinkNest "OpeningsCabinet" 157 "OpeningsCabinet$Game" "length" "I" "OpeningsCabinet") (by decide +kernel)) rfl dX11_takeBack_59 ?_
    refine W.widen (k := 1) (n := 6) (by decide) (by decide) ?_
    refine vx_ret ?_
    exact w_iret hx hb hr hlocks hW ⟨hE, hp⟩ dX11_takeBack_62
  · replace hp := hp.2 c_2
    exact x_throwW (ls := ls) F hK hW hl0 (by decide) (hwg _ wc_RX11_285) (hwg _ wi_java_lang_IllegalStateException) (show ("OpeningsCabinet", 296, "no move was made", 22) ∈ wStr by decide +kernel) (wa_RX11_289 hwg hK.2.1) wa_RX11_289_ok hl.1 hexc hlocks dX11_takeBack_10 dX11_takeBack_13 dX11_takeBack_14 dX11_takeBack_17 dX11_takeBack_20 (Nat.le_of_ble_eq_true rfl) (Nat.le_of_ble_eq_true rfl) (Nat.le_of_ble_eq_true rfl) (Nat.le_of_ble_eq_true rfl) (by decide) (by decide) ⟨hE, hp⟩
set_option maxHeartbeats 4000000 in
set_option maxRecDepth 100000 in
theorem c_X11_takeBack (l : Launch) {D : wD} {cy : Nat → ClassId} {X : va_W} {S0 : wS} {post : Int32 → wS → Prop} {xp : String → wS → Prop} (hl0 : l.stackTraces = false) {a0 : Nat} (hL_a0 : wM D S0 a0) (hK_a0 : sK S0 a0 = 16) (hp : wp_X11_takeBack D post xp S0 a0) : xI D cy X l yX11_takeBack wz_X11_takeBack r_X11_takeBack [.ref a0] S0 (fun r S9 => wX D S0 S9 ∧ post r S9) (fun E S9 => wX D S0 S9 ∧ xp E S9) := by
  intro sz
  refine vx_ofW (cc := cX11_takeBack) (maxL := 1) (ret := (some .int)) (by decide) rfl ?_
  intro p e s m args below meth c s₁ B hml hexc hv
  obtain ⟨rfl, hsz, hP, hK, hD0, hRO⟩ := hv
  have hts := atoms_spec (ws := wz_X11_takeBack) B.pre
  have hown : s.vm.findClass RX11 = some m.cls := findClass_of_methodNamed B.named
  subst hsz
  have hD := hD0.self (sz := s.heap.size)
  have F : CallFix p m c cX11_takeBack 1 s _ wz_X11_takeBack RX11 := ⟨B.exec, B.bytes, hml, hown, hts⟩
  have hr := B.returns
  have hlocks := B.notSynchronized
  generalize hAe : va_A (wL cy X S0) s.heap.size = A at hD hK ⊢
  have hA : ∀ q, s.heap.size ≤ q → A q := fun q h => by rw [← hAe]; exact Or.inr h
  have hW : wO D cy X A s.heap S0 s.heap [] := ⟨hP, hD, va_S.rf, hA, hRO⟩
  have hl := lv_entry ([.ref a0]) (n := 1) (Nat.le_of_ble_eq_true rfl)
  rw [lg_entry_eq]
  generalize (lg_sl ([.ref a0]) ++ List.replicate (1 - (lg_sl ([.ref a0])).length) Slot.unset).toArray = ls at hl ⊢
  have hl : lv_has ls 1 [(0, .ref a0)] := hl
  unfold wp_X11_takeBack at hp
  exact t_X11_takeBack_0 F hr hlocks hK hl0 hexc hp hW wX.rf (lv_sub hl [0] rfl) hL_a0 hK_a0
def wp_X11_variationMoves_0 (D : wD) (post : Int32 → wS → Prop)  (S : wS) (a0 : Nat) : Prop :=
post (sI S a0 16) S
abbrev r_X11_variationMoves : Room := { frames := 0, cells := 0, slots := 0, locals := 0 }
def wp_X11_variationMoves (D : wD) (post : Int32 → wS → Prop) (S : wS) (a0 : Nat) : Prop := wp_X11_variationMoves_0 D post S a0
set_option maxHeartbeats 4000000 in
set_option maxRecDepth 100000 in
theorem t_X11_variationMoves_0 {p : Program} {l : Launch} {e : Env} {s : State} {m : MethodId} {args : Array Value} {below : List Frame} {meth : Method} {c : Code} {D : wD} {cy : Nat → ClassId} {X : va_W} {A : Nat → Prop} {S0 : wS} {post : Int32 → wS → Prop} (F : CallFix p m c cX11_variationMoves 1 s args wz_X11_variationMoves RX11) (hr : meth.sig.returnType = (some .int)) (hlocks : meth.locks = false) (hK : wK D cy A s) : ∀ {S : wS} {H : Heap} {locs : List Loc} {ls : Array Slot} {a0 : Nat}, wp_X11_variationMoves_0 D post S a0 → wO D cy X A s.heap S H locs → wX D S0 S → lv_has ls 1 [(0, .ref a0)] → wM D S a0 → sK S a0 = 16 → W p l e r_X11_variationMoves s m args below meth c H locs 0 0 (MQ below (va_Qi (fun r S9 => wX D S0 S9 ∧ post r S9) (wB D cy X A) A) args s 0 0 A) (F0 m 0 ls []) := by
  obtain ⟨hx, hb, hml, hown, hts⟩ := id F
  have hwg : ∀ w ∈ WG, w.before args s = true := fun w h => hts w (List.mem_cons_of_mem _ h)
  have i_16 : ∀ w ∈ u_ws RX11 TX11 18, w ∈ wz_X11_variationMoves := fun w h => List.mem_cons_of_mem _ (wu_16 w h)
  have k_116 := hwg _ wf_RX11_116
  intro S H locs ls a0 hp hW hE hl hL_a0 hK_a0
  unfold wp_X11_variationMoves_0 at hp
  refine lv_aload_n hx hb dX11_variationMoves_0 rfl (lv_at hl 0 rfl) ?_
  refine w_get (k := 16) (f := 16) (T := TX11) (v := .int (sI S a0 16)) F hK hW hL_a0 hK_a0 (by decide) rfl rfl (by decide) i_16 k_116 rfl dX11_variationMoves_1 ?_
  exact w_iret hx hb hr hlocks hW ⟨hE, hp⟩ dX11_variationMoves_4
set_option maxHeartbeats 4000000 in
set_option maxRecDepth 100000 in
theorem c_X11_variationMoves (l : Launch) {D : wD} {cy : Nat → ClassId} {X : va_W} {S0 : wS} {post : Int32 → wS → Prop} {a0 : Nat} (hL_a0 : wM D S0 a0) (hK_a0 : sK S0 a0 = 16) (hp : wp_X11_variationMoves D post S0 a0) : mI D cy X l yX11_variationMoves wz_X11_variationMoves r_X11_variationMoves [.ref a0] S0 (fun r S9 => wX D S0 S9 ∧ post r S9) := by
  intro sz
  refine Met.ofW (cc := cX11_variationMoves) (maxL := 1) (ret := (some .int)) (by decide) rfl ?_
  intro p e s m args below meth c s₁ B hml hv
  obtain ⟨rfl, hsz, hP, hK, hD0, hRO⟩ := hv
  have hts := atoms_spec (ws := wz_X11_variationMoves) B.pre
  have hown : s.vm.findClass RX11 = some m.cls := findClass_of_methodNamed B.named
  subst hsz
  have hD := hD0.self (sz := s.heap.size)
  have F : CallFix p m c cX11_variationMoves 1 s _ wz_X11_variationMoves RX11 := ⟨B.exec, B.bytes, hml, hown, hts⟩
  have hr := B.returns
  have hlocks := B.notSynchronized
  generalize hAe : va_A (wL cy X S0) s.heap.size = A at hD hK ⊢
  have hA : ∀ q, s.heap.size ≤ q → A q := fun q h => by rw [← hAe]; exact Or.inr h
  have hW : wO D cy X A s.heap S0 s.heap [] := ⟨hP, hD, va_S.rf, hA, hRO⟩
  have hl := lv_entry ([.ref a0]) (n := 1) (Nat.le_of_ble_eq_true rfl)
  rw [lg_entry_eq]
  generalize (lg_sl ([.ref a0]) ++ List.replicate (1 - (lg_sl ([.ref a0])).length) Slot.unset).toArray = ls at hl ⊢
  have hl : lv_has ls 1 [(0, .ref a0)] := hl
  unfold wp_X11_variationMoves at hp
  exact t_X11_variationMoves_0 F hr hlocks hK hp hW wX.rf (lv_sub hl [0] rfl) hL_a0 hK_a0
