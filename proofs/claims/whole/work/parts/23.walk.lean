theorem dX9_rowsOfTwo_0 : decode cX9_rowsOfTwo 0 = .ok (.iconst 0, 1) := by decide +kernel
theorem dX9_rowsOfTwo_1 : decode cX9_rowsOfTwo 1 = .ok (.istore_n 2, 1) := by decide +kernel
theorem dX9_rowsOfTwo_2 : decode cX9_rowsOfTwo 2 = .ok (.aload_n 0, 1) := by decide +kernel
theorem dX9_rowsOfTwo_3 : decode cX9_rowsOfTwo 3 = .ok (.getfield 31, 3) := by decide +kernel
theorem dX9_rowsOfTwo_6 : decode cX9_rowsOfTwo 6 = .ok (.aload_n 1, 1) := by decide +kernel
theorem dX9_rowsOfTwo_7 : decode cX9_rowsOfTwo 7 = .ok (.aload_n 0, 1) := by decide +kernel
theorem dX9_rowsOfTwo_8 : decode cX9_rowsOfTwo 8 = .ok (.getfield 15, 3) := by decide +kernel
theorem dX9_rowsOfTwo_11 : decode cX9_rowsOfTwo 11 = .ok (.invokevirtual 62, 3) := by decide +kernel
theorem dX9_rowsOfTwo_14 : decode cX9_rowsOfTwo 14 = .ok (.istore_n 3, 1) := by decide +kernel
theorem dX9_rowsOfTwo_15 : decode cX9_rowsOfTwo 15 = .ok (.iconst 0, 1) := by decide +kernel
theorem dX9_rowsOfTwo_16 : decode cX9_rowsOfTwo 16 = .ok (.istore 4, 2) := by decide +kernel
theorem dX9_rowsOfTwo_18 : decode cX9_rowsOfTwo 18 = .ok (.iload 4, 2) := by decide +kernel
theorem dX9_rowsOfTwo_20 : decode cX9_rowsOfTwo 20 = .ok (.iload_n 3, 1) := by decide +kernel
theorem dX9_rowsOfTwo_21 : decode cX9_rowsOfTwo 21 = .ok (.if_icmp .ge 55, 3) := by decide +kernel
theorem dX9_rowsOfTwo_24 : decode cX9_rowsOfTwo 24 = .ok (.iload 4, 2) := by decide +kernel
theorem dX9_rowsOfTwo_26 : decode cX9_rowsOfTwo 26 = .ok (.aload_n 0, 1) := by decide +kernel
theorem dX9_rowsOfTwo_27 : decode cX9_rowsOfTwo 27 = .ok (.getfield 15, 3) := by decide +kernel
theorem dX9_rowsOfTwo_30 : decode cX9_rowsOfTwo 30 = .ok (.arraylength, 1) := by decide +kernel
theorem dX9_rowsOfTwo_31 : decode cX9_rowsOfTwo 31 = .ok (.if_icmp .ge 45, 3) := by decide +kernel
theorem dX9_rowsOfTwo_34 : decode cX9_rowsOfTwo 34 = .ok (.aload_n 0, 1) := by decide +kernel
theorem dX9_rowsOfTwo_35 : decode cX9_rowsOfTwo 35 = .ok (.getfield 44, 3) := by decide +kernel
theorem dX9_rowsOfTwo_38 : decode cX9_rowsOfTwo 38 = .ok (.aload_n 1, 1) := by decide +kernel
theorem dX9_rowsOfTwo_39 : decode cX9_rowsOfTwo 39 = .ok (.invokevirtual 66, 3) := by decide +kernel
theorem dX9_rowsOfTwo_42 : decode cX9_rowsOfTwo 42 = .ok (.aload_n 0, 1) := by decide +kernel
theorem dX9_rowsOfTwo_43 : decode cX9_rowsOfTwo 43 = .ok (.getfield 44, 3) := by decide +kernel
theorem dX9_rowsOfTwo_46 : decode cX9_rowsOfTwo 46 = .ok (.aload_n 0, 1) := by decide +kernel
theorem dX9_rowsOfTwo_47 : decode cX9_rowsOfTwo 47 = .ok (.getfield 15, 3) := by decide +kernel
theorem dX9_rowsOfTwo_50 : decode cX9_rowsOfTwo 50 = .ok (.iload 4, 2) := by decide +kernel
theorem dX9_rowsOfTwo_52 : decode cX9_rowsOfTwo 52 = .ok (.iaload, 1) := by decide +kernel
theorem dX9_rowsOfTwo_53 : decode cX9_rowsOfTwo 53 = .ok (.invokevirtual 70, 3) := by decide +kernel
theorem dX9_rowsOfTwo_56 : decode cX9_rowsOfTwo 56 = .ok (.iload_n 2, 1) := by decide +kernel
theorem dX9_rowsOfTwo_57 : decode cX9_rowsOfTwo 57 = .ok (.aload_n 0, 1) := by decide +kernel
theorem dX9_rowsOfTwo_58 : decode cX9_rowsOfTwo 58 = .ok (.getfield 31, 3) := by decide +kernel
theorem dX9_rowsOfTwo_61 : decode cX9_rowsOfTwo 61 = .ok (.aload_n 0, 1) := by decide +kernel
theorem dX9_rowsOfTwo_62 : decode cX9_rowsOfTwo 62 = .ok (.getfield 44, 3) := by decide +kernel
theorem dX9_rowsOfTwo_65 : decode cX9_rowsOfTwo 65 = .ok (.invokevirtual 50, 3) := by decide +kernel
theorem dX9_rowsOfTwo_68 : decode cX9_rowsOfTwo 68 = .ok (.iadd, 1) := by decide +kernel
theorem dX9_rowsOfTwo_69 : decode cX9_rowsOfTwo 69 = .ok (.istore_n 2, 1) := by decide +kernel
theorem dX9_rowsOfTwo_70 : decode cX9_rowsOfTwo 70 = .ok (.iinc 4 1, 3) := by decide +kernel
theorem dX9_rowsOfTwo_73 : decode cX9_rowsOfTwo 73 = .ok (.goto (-55), 3) := by decide +kernel
theorem dX9_rowsOfTwo_76 : decode cX9_rowsOfTwo 76 = .ok (.iload_n 2, 1) := by decide +kernel
theorem dX9_rowsOfTwo_77 : decode cX9_rowsOfTwo 77 = .ok (.ireturn, 1) := by decide +kernel
theorem dX9_rowsOfThree_0 : decode cX9_rowsOfThree 0 = .ok (.iconst 0, 1) := by decide +kernel
theorem dX9_rowsOfThree_1 : decode cX9_rowsOfThree 1 = .ok (.istore_n 2, 1) := by decide +kernel
theorem dX9_rowsOfThree_2 : decode cX9_rowsOfThree 2 = .ok (.aload_n 0, 1) := by decide +kernel
theorem dX9_rowsOfThree_3 : decode cX9_rowsOfThree 3 = .ok (.getfield 31, 3) := by decide +kernel
theorem dX9_rowsOfThree_6 : decode cX9_rowsOfThree 6 = .ok (.aload_n 1, 1) := by decide +kernel
theorem dX9_rowsOfThree_7 : decode cX9_rowsOfThree 7 = .ok (.aload_n 0, 1) := by decide +kernel
theorem dX9_rowsOfThree_8 : decode cX9_rowsOfThree 8 = .ok (.getfield 9, 3) := by decide +kernel
theorem dX9_rowsOfThree_11 : decode cX9_rowsOfThree 11 = .ok (.invokevirtual 62, 3) := by decide +kernel
theorem dX9_rowsOfThree_14 : decode cX9_rowsOfThree 14 = .ok (.istore_n 3, 1) := by decide +kernel
theorem dX9_rowsOfThree_15 : decode cX9_rowsOfThree 15 = .ok (.iconst 0, 1) := by decide +kernel
theorem dX9_rowsOfThree_16 : decode cX9_rowsOfThree 16 = .ok (.istore 4, 2) := by decide +kernel
theorem dX9_rowsOfThree_18 : decode cX9_rowsOfThree 18 = .ok (.iload 4, 2) := by decide +kernel
theorem dX9_rowsOfThree_20 : decode cX9_rowsOfThree 20 = .ok (.iload_n 3, 1) := by decide +kernel
theorem dX9_rowsOfThree_21 : decode cX9_rowsOfThree 21 = .ok (.if_icmp .ge 52, 3) := by decide +kernel
theorem dX9_rowsOfThree_24 : decode cX9_rowsOfThree 24 = .ok (.iload 4, 2) := by decide +kernel
theorem dX9_rowsOfThree_26 : decode cX9_rowsOfThree 26 = .ok (.aload_n 0, 1) := by decide +kernel
theorem dX9_rowsOfThree_27 : decode cX9_rowsOfThree 27 = .ok (.getfield 9, 3) := by decide +kernel
theorem dX9_rowsOfThree_30 : decode cX9_rowsOfThree 30 = .ok (.arraylength, 1) := by decide +kernel
theorem dX9_rowsOfThree_31 : decode cX9_rowsOfThree 31 = .ok (.if_icmp .ge 42, 3) := by decide +kernel
theorem dX9_rowsOfThree_34 : decode cX9_rowsOfThree 34 = .ok (.aload_n 0, 1) := by decide +kernel
theorem dX9_rowsOfThree_35 : decode cX9_rowsOfThree 35 = .ok (.getfield 40, 3) := by decide +kernel
theorem dX9_rowsOfThree_38 : decode cX9_rowsOfThree 38 = .ok (.aload_n 1, 1) := by decide +kernel
theorem dX9_rowsOfThree_39 : decode cX9_rowsOfThree 39 = .ok (.invokevirtual 66, 3) := by decide +kernel
theorem dX9_rowsOfThree_42 : decode cX9_rowsOfThree 42 = .ok (.aload_n 0, 1) := by decide +kernel
theorem dX9_rowsOfThree_43 : decode cX9_rowsOfThree 43 = .ok (.getfield 40, 3) := by decide +kernel
theorem dX9_rowsOfThree_46 : decode cX9_rowsOfThree 46 = .ok (.aload_n 0, 1) := by decide +kernel
theorem dX9_rowsOfThree_47 : decode cX9_rowsOfThree 47 = .ok (.getfield 9, 3) := by decide +kernel
theorem dX9_rowsOfThree_50 : decode cX9_rowsOfThree 50 = .ok (.iload 4, 2) := by decide +kernel
theorem dX9_rowsOfThree_52 : decode cX9_rowsOfThree 52 = .ok (.iaload, 1) := by decide +kernel
theorem dX9_rowsOfThree_53 : decode cX9_rowsOfThree 53 = .ok (.invokevirtual 70, 3) := by decide +kernel
theorem dX9_rowsOfThree_56 : decode cX9_rowsOfThree 56 = .ok (.iload_n 2, 1) := by decide +kernel
theorem dX9_rowsOfThree_57 : decode cX9_rowsOfThree 57 = .ok (.aload_n 0, 1) := by decide +kernel
theorem dX9_rowsOfThree_58 : decode cX9_rowsOfThree 58 = .ok (.aload_n 0, 1) := by decide +kernel
theorem dX9_rowsOfThree_59 : decode cX9_rowsOfThree 59 = .ok (.getfield 40, 3) := by decide +kernel
theorem dX9_rowsOfThree_62 : decode cX9_rowsOfThree 62 = .ok (.invokevirtual 56, 3) := by decide +kernel
theorem dX9_rowsOfThree_65 : decode cX9_rowsOfThree 65 = .ok (.iadd, 1) := by decide +kernel
theorem dX9_rowsOfThree_66 : decode cX9_rowsOfThree 66 = .ok (.istore_n 2, 1) := by decide +kernel
theorem dX9_rowsOfThree_67 : decode cX9_rowsOfThree 67 = .ok (.iinc 4 1, 3) := by decide +kernel
theorem dX9_rowsOfThree_70 : decode cX9_rowsOfThree 70 = .ok (.goto (-52), 3) := by decide +kernel
theorem dX9_rowsOfThree_73 : decode cX9_rowsOfThree 73 = .ok (.iload_n 2, 1) := by decide +kernel
theorem dX9_rowsOfThree_74 : decode cX9_rowsOfThree 74 = .ok (.ireturn, 1) := by decide +kernel
theorem dX9_rowsOfMoves_0 : decode cX9_rowsOfMoves 0 = .ok (.iload_n 2, 1) := by decide +kernel
theorem dX9_rowsOfMoves_1 : decode cX9_rowsOfMoves 1 = .ok (.iconst 1, 1) := by decide +kernel
theorem dX9_rowsOfMoves_2 : decode cX9_rowsOfMoves 2 = .ok (.if_icmp .gt 12, 3) := by decide +kernel
theorem dX9_rowsOfMoves_5 : decode cX9_rowsOfMoves 5 = .ok (.aload_n 0, 1) := by decide +kernel
theorem dX9_rowsOfMoves_6 : decode cX9_rowsOfMoves 6 = .ok (.getfield 31, 3) := by decide +kernel
theorem dX9_rowsOfMoves_9 : decode cX9_rowsOfMoves 9 = .ok (.aload_n 1, 1) := by decide +kernel
theorem dX9_rowsOfMoves_10 : decode cX9_rowsOfMoves 10 = .ok (.invokevirtual 50, 3) := by decide +kernel
theorem dX9_rowsOfMoves_13 : decode cX9_rowsOfMoves 13 = .ok (.ireturn, 1) := by decide +kernel
theorem dX9_rowsOfMoves_14 : decode cX9_rowsOfMoves 14 = .ok (.iload_n 2, 1) := by decide +kernel
theorem dX9_rowsOfMoves_15 : decode cX9_rowsOfMoves 15 = .ok (.iconst 2, 1) := by decide +kernel
theorem dX9_rowsOfMoves_16 : decode cX9_rowsOfMoves 16 = .ok (.if_icmp .ne 11, 3) := by decide +kernel
theorem dX9_rowsOfMoves_19 : decode cX9_rowsOfMoves 19 = .ok (.aload_n 0, 1) := by decide +kernel
theorem dX9_rowsOfMoves_20 : decode cX9_rowsOfMoves 20 = .ok (.aload_n 1, 1) := by decide +kernel
theorem dX9_rowsOfMoves_21 : decode cX9_rowsOfMoves 21 = .ok (.invokevirtual 56, 3) := by decide +kernel
theorem dX9_rowsOfMoves_24 : decode cX9_rowsOfMoves 24 = .ok (.goto 8, 3) := by decide +kernel
theorem dX9_rowsOfMoves_27 : decode cX9_rowsOfMoves 27 = .ok (.aload_n 0, 1) := by decide +kernel
theorem dX9_rowsOfMoves_28 : decode cX9_rowsOfMoves 28 = .ok (.aload_n 1, 1) := by decide +kernel
theorem dX9_rowsOfMoves_29 : decode cX9_rowsOfMoves 29 = .ok (.invokevirtual 59, 3) := by decide +kernel
theorem dX9_rowsOfMoves_32 : decode cX9_rowsOfMoves 32 = .ok (.ireturn, 1) := by decide +kernel
theorem dX11_countMoves_0 : decode cX11_countMoves 0 = .ok (.iload_n 1, 1) := by decide +kernel
theorem dX11_countMoves_1 : decode cX11_countMoves 1 = .ok (.iconst 1, 1) := by decide +kernel
theorem dX11_countMoves_2 : decode cX11_countMoves 2 = .ok (.if_icmp .lt 8, 3) := by decide +kernel
theorem dX11_countMoves_5 : decode cX11_countMoves 5 = .ok (.iload_n 1, 1) := by decide +kernel
theorem dX11_countMoves_6 : decode cX11_countMoves 6 = .ok (.iconst 3, 1) := by decide +kernel
theorem dX11_countMoves_7 : decode cX11_countMoves 7 = .ok (.if_icmp .le 14, 3) := by decide +kernel
theorem dX11_countMoves_10 : decode cX11_countMoves 10 = .ok (.new 140, 3) := by decide +kernel
theorem dX11_countMoves_13 : decode cX11_countMoves 13 = .ok (.dup, 1) := by decide +kernel
theorem dX11_countMoves_14 : decode cX11_countMoves 14 = .ok (.ldc_w 309, 3) := by decide +kernel
theorem dX11_countMoves_17 : decode cX11_countMoves 17 = .ok (.invokespecial 144, 3) := by decide +kernel
theorem dX11_countMoves_20 : decode cX11_countMoves 20 = .ok (.athrow, 1) := by decide +kernel
theorem dX11_countMoves_21 : decode cX11_countMoves 21 = .ok (.aload_n 0, 1) := by decide +kernel
theorem dX11_countMoves_22 : decode cX11_countMoves 22 = .ok (.invokevirtual 217, 3) := by decide +kernel
theorem dX11_countMoves_25 : decode cX11_countMoves 25 = .ok (.aload_n 0, 1) := by decide +kernel
theorem dX11_countMoves_26 : decode cX11_countMoves 26 = .ok (.getfield 91, 3) := by decide +kernel
theorem dX11_countMoves_29 : decode cX11_countMoves 29 = .ok (.aload_n 0, 1) := by decide +kernel
theorem dX11_countMoves_30 : decode cX11_countMoves 30 = .ok (.getfield 28, 3) := by decide +kernel
theorem dX11_countMoves_33 : decode cX11_countMoves 33 = .ok (.iload_n 1, 1) := by decide +kernel
theorem dX11_countMoves_34 : decode cX11_countMoves 34 = .ok (.invokevirtual 311, 3) := by decide +kernel
theorem dX11_countMoves_37 : decode cX11_countMoves 37 = .ok (.ireturn, 1) := by decide +kernel
theorem dX2_isWorkedOut_0 : decode cX2_isWorkedOut 0 = .ok (.iload_n 1, 1) := by decide +kernel
theorem dX2_isWorkedOut_1 : decode cX2_isWorkedOut 1 = .ok (.iconst 2, 1) := by decide +kernel
theorem dX2_isWorkedOut_2 : decode cX2_isWorkedOut 2 = .ok (.if_icmp .lt 25, 3) := by decide +kernel
theorem dX2_isWorkedOut_5 : decode cX2_isWorkedOut 5 = .ok (.iload_n 1, 1) := by decide +kernel
theorem dX2_isWorkedOut_6 : decode cX2_isWorkedOut 6 = .ok (.aload_n 0, 1) := by decide +kernel
theorem dX2_isWorkedOut_7 : decode cX2_isWorkedOut 7 = .ok (.getfield 11, 3) := by decide +kernel
theorem dX2_isWorkedOut_10 : decode cX2_isWorkedOut 10 = .ok (.arraylength, 1) := by decide +kernel
theorem dX2_isWorkedOut_11 : decode cX2_isWorkedOut 11 = .ok (.if_icmp .ge 16, 3) := by decide +kernel
theorem dX2_isWorkedOut_14 : decode cX2_isWorkedOut 14 = .ok (.aload_n 0, 1) := by decide +kernel
theorem dX2_isWorkedOut_15 : decode cX2_isWorkedOut 15 = .ok (.getfield 11, 3) := by decide +kernel
theorem dX2_isWorkedOut_18 : decode cX2_isWorkedOut 18 = .ok (.iload_n 1, 1) := by decide +kernel
theorem dX2_isWorkedOut_19 : decode cX2_isWorkedOut 19 = .ok (.baload, 1) := by decide +kernel
theorem dX2_isWorkedOut_20 : decode cX2_isWorkedOut 20 = .ok (.ifCond .eq 7, 3) := by decide +kernel
theorem dX2_isWorkedOut_23 : decode cX2_isWorkedOut 23 = .ok (.iconst 1, 1) := by decide +kernel
theorem dX2_isWorkedOut_24 : decode cX2_isWorkedOut 24 = .ok (.goto 4, 3) := by decide +kernel
theorem dX2_isWorkedOut_27 : decode cX2_isWorkedOut 27 = .ok (.iconst 0, 1) := by decide +kernel
theorem dX2_isWorkedOut_28 : decode cX2_isWorkedOut 28 = .ok (.ireturn, 1) := by decide +kernel
theorem dX2_kindOf_0 : decode cX2_kindOf 0 = .ok (.aload_n 1, 1) := by decide +kernel
theorem dX2_kindOf_1 : decode cX2_kindOf 1 = .ok (.invokevirtual 49, 3) := by decide +kernel
theorem dX2_kindOf_4 : decode cX2_kindOf 4 = .ok (.aload_n 1, 1) := by decide +kernel
theorem dX2_kindOf_5 : decode cX2_kindOf 5 = .ok (.iconst 1, 1) := by decide +kernel
theorem dX2_kindOf_6 : decode cX2_kindOf 6 = .ok (.invokevirtual 55, 3) := by decide +kernel
theorem dX2_kindOf_9 : decode cX2_kindOf 9 = .ok (.ldc2_w 59, 3) := by decide +kernel
theorem dX2_kindOf_12 : decode cX2_kindOf 12 = .ok (.lxor, 1) := by decide +kernel
theorem dX2_kindOf_13 : decode cX2_kindOf 13 = .ok (.land, 1) := by decide +kernel
theorem dX2_kindOf_14 : decode cX2_kindOf 14 = .ok (.lstore_n 2, 1) := by decide +kernel
theorem dX2_kindOf_15 : decode cX2_kindOf 15 = .ok (.lload_n 2, 1) := by decide +kernel
theorem dX2_kindOf_16 : decode cX2_kindOf 16 = .ok (.invokestatic 61, 3) := by decide +kernel
theorem dX2_kindOf_19 : decode cX2_kindOf 19 = .ok (.iconst 1, 1) := by decide +kernel
theorem dX2_kindOf_20 : decode cX2_kindOf 20 = .ok (.if_icmp .ne 19, 3) := by decide +kernel
theorem dX2_kindOf_23 : decode cX2_kindOf 23 = .ok (.lload_n 2, 1) := by decide +kernel
theorem dX2_kindOf_24 : decode cX2_kindOf 24 = .ok (.aload_n 1, 1) := by decide +kernel
theorem dX2_kindOf_25 : decode cX2_kindOf 25 = .ok (.iconst 1, 1) := by decide +kernel
theorem dX2_kindOf_26 : decode cX2_kindOf 26 = .ok (.invokevirtual 67, 3) := by decide +kernel
theorem dX2_kindOf_29 : decode cX2_kindOf 29 = .ok (.land, 1) := by decide +kernel
theorem dX2_kindOf_30 : decode cX2_kindOf 30 = .ok (.lconst 0, 1) := by decide +kernel
theorem dX2_kindOf_31 : decode cX2_kindOf 31 = .ok (.lcmp, 1) := by decide +kernel
theorem dX2_kindOf_32 : decode cX2_kindOf 32 = .ok (.ifCond .eq 7, 3) := by decide +kernel
theorem dX2_kindOf_35 : decode cX2_kindOf 35 = .ok (.iconst 1, 1) := by decide +kernel
theorem dX2_kindOf_36 : decode cX2_kindOf 36 = .ok (.goto 4, 3) := by decide +kernel
theorem dX2_kindOf_39 : decode cX2_kindOf 39 = .ok (.iconst 0, 1) := by decide +kernel
theorem dX2_kindOf_40 : decode cX2_kindOf 40 = .ok (.istore 4, 2) := by decide +kernel
theorem dX2_kindOf_42 : decode cX2_kindOf 42 = .ok (.iload 4, 2) := by decide +kernel
theorem dX2_kindOf_44 : decode cX2_kindOf 44 = .ok (.ifCond .eq 25, 3) := by decide +kernel
theorem dX2_kindOf_47 : decode cX2_kindOf 47 = .ok (.aload_n 1, 1) := by decide +kernel
theorem dX2_kindOf_48 : decode cX2_kindOf 48 = .ok (.getfield 71, 3) := by decide +kernel
theorem dX2_kindOf_51 : decode cX2_kindOf 51 = .ok (.ifCond .ne 18, 3) := by decide +kernel
theorem dX2_kindOf_54 : decode cX2_kindOf 54 = .ok (.aload_n 1, 1) := by decide +kernel
theorem dX2_kindOf_55 : decode cX2_kindOf 55 = .ok (.getfield 74, 3) := by decide +kernel
theorem dX2_kindOf_58 : decode cX2_kindOf 58 = .ok (.iconst (-1), 1) := by decide +kernel
theorem dX2_kindOf_59 : decode cX2_kindOf 59 = .ok (.if_icmp .ne 10, 3) := by decide +kernel
theorem dX2_kindOf_62 : decode cX2_kindOf 62 = .ok (.aload_n 1, 1) := by decide +kernel
theorem dX2_kindOf_63 : decode cX2_kindOf 63 = .ok (.invokevirtual 77, 3) := by decide +kernel
theorem dX2_kindOf_66 : decode cX2_kindOf 66 = .ok (.ifCond .ne 5, 3) := by decide +kernel
theorem dX2_kindOf_69 : decode cX2_kindOf 69 = .ok (.iconst (-1), 1) := by decide +kernel
theorem dX2_kindOf_70 : decode cX2_kindOf 70 = .ok (.ireturn, 1) := by decide +kernel
theorem dX2_kindOf_71 : decode cX2_kindOf 71 = .ok (.aload_n 1, 1) := by decide +kernel
theorem dX2_kindOf_72 : decode cX2_kindOf 72 = .ok (.lload_n 2, 1) := by decide +kernel
theorem dX2_kindOf_73 : decode cX2_kindOf 73 = .ok (.invokestatic 81, 3) := by decide +kernel
theorem dX2_kindOf_76 : decode cX2_kindOf 76 = .ok (.invokevirtual 84, 3) := by decide +kernel
theorem dX2_kindOf_79 : decode cX2_kindOf 79 = .ok (.istore 5, 2) := by decide +kernel
theorem dX2_kindOf_81 : decode cX2_kindOf 81 = .ok (.iload 5, 2) := by decide +kernel
theorem dX2_kindOf_83 : decode cX2_kindOf 83 = .ok (.iconst 2, 1) := by decide +kernel
theorem dX2_kindOf_84 : decode cX2_kindOf 84 = .ok (.if_icmp .lt 14, 3) := by decide +kernel
theorem dX2_kindOf_87 : decode cX2_kindOf 87 = .ok (.iload 5, 2) := by decide +kernel
theorem dX2_kindOf_89 : decode cX2_kindOf 89 = .ok (.iconst 5, 1) := by decide +kernel
theorem dX2_kindOf_90 : decode cX2_kindOf 90 = .ok (.if_icmp .gt 8, 3) := by decide +kernel
theorem dX2_kindOf_93 : decode cX2_kindOf 93 = .ok (.iload 5, 2) := by decide +kernel
theorem dX2_kindOf_95 : decode cX2_kindOf 95 = .ok (.goto 4, 3) := by decide +kernel
theorem dX2_kindOf_98 : decode cX2_kindOf 98 = .ok (.iconst (-1), 1) := by decide +kernel
theorem dX2_kindOf_99 : decode cX2_kindOf 99 = .ok (.ireturn, 1) := by decide +kernel
theorem dX2_indexOf_0 : decode cX2_indexOf 0 = .ok (.iload_n 0, 1) := by decide +kernel
theorem dX2_indexOf_1 : decode cX2_indexOf 1 = .ok (.ifCond .eq 9, 3) := by decide +kernel
theorem dX2_indexOf_4 : decode cX2_indexOf 4 = .ok (.sipush 15625, 3) := by decide +kernel
theorem dX2_indexOf_7 : decode cX2_indexOf 7 = .ok (.goto 4, 3) := by decide +kernel
theorem dX2_indexOf_10 : decode cX2_indexOf 10 = .ok (.iconst 0, 1) := by decide +kernel
theorem dX2_indexOf_11 : decode cX2_indexOf 11 = .ok (.iload_n 1, 1) := by decide +kernel
theorem dX2_indexOf_12 : decode cX2_indexOf 12 = .ok (.bipush 25, 2) := by decide +kernel
theorem dX2_indexOf_14 : decode cX2_indexOf 14 = .ok (.imul, 1) := by decide +kernel
theorem dX2_indexOf_15 : decode cX2_indexOf 15 = .ok (.iload_n 2, 1) := by decide +kernel
theorem dX2_indexOf_16 : decode cX2_indexOf 16 = .ok (.iadd, 1) := by decide +kernel
theorem dX2_indexOf_17 : decode cX2_indexOf 17 = .ok (.bipush 25, 2) := by decide +kernel
theorem dX2_indexOf_19 : decode cX2_indexOf 19 = .ok (.imul, 1) := by decide +kernel
theorem dX2_indexOf_20 : decode cX2_indexOf 20 = .ok (.iadd, 1) := by decide +kernel
theorem dX2_indexOf_21 : decode cX2_indexOf 21 = .ok (.iload_n 3, 1) := by decide +kernel
theorem dX2_indexOf_22 : decode cX2_indexOf 22 = .ok (.iadd, 1) := by decide +kernel
theorem dX2_indexOf_23 : decode cX2_indexOf 23 = .ok (.ireturn, 1) := by decide +kernel
theorem dX2_valueAt_0 : decode cX2_valueAt 0 = .ok (.iload_n 1, 1) := by decide +kernel
theorem dX2_valueAt_1 : decode cX2_valueAt 1 = .ok (.iconst 2, 1) := by decide +kernel
theorem dX2_valueAt_2 : decode cX2_valueAt 2 = .ok (.isub, 1) := by decide +kernel
theorem dX2_valueAt_3 : decode cX2_valueAt 3 = .ok (.sipush 31250, 3) := by decide +kernel
theorem dX2_valueAt_6 : decode cX2_valueAt 6 = .ok (.imul, 1) := by decide +kernel
theorem dX2_valueAt_7 : decode cX2_valueAt 7 = .ok (.iload_n 2, 1) := by decide +kernel
theorem dX2_valueAt_8 : decode cX2_valueAt 8 = .ok (.iadd, 1) := by decide +kernel
theorem dX2_valueAt_9 : decode cX2_valueAt 9 = .ok (.istore_n 3, 1) := by decide +kernel
theorem dX2_valueAt_10 : decode cX2_valueAt 10 = .ok (.iload_n 2, 1) := by decide +kernel
theorem dX2_valueAt_11 : decode cX2_valueAt 11 = .ok (.ifCond .lt 32, 3) := by decide +kernel
theorem dX2_valueAt_14 : decode cX2_valueAt 14 = .ok (.iload_n 2, 1) := by decide +kernel
theorem dX2_valueAt_15 : decode cX2_valueAt 15 = .ok (.sipush 31250, 3) := by decide +kernel
theorem dX2_valueAt_18 : decode cX2_valueAt 18 = .ok (.if_icmp .ge 25, 3) := by decide +kernel
theorem dX2_valueAt_21 : decode cX2_valueAt 21 = .ok (.iload_n 3, 1) := by decide +kernel
theorem dX2_valueAt_22 : decode cX2_valueAt 22 = .ok (.ifCond .lt 21, 3) := by decide +kernel
theorem dX2_valueAt_25 : decode cX2_valueAt 25 = .ok (.iload_n 3, 1) := by decide +kernel
theorem dX2_valueAt_26 : decode cX2_valueAt 26 = .ok (.aload_n 0, 1) := by decide +kernel
theorem dX2_valueAt_27 : decode cX2_valueAt 27 = .ok (.getfield 22, 3) := by decide +kernel
theorem dX2_valueAt_30 : decode cX2_valueAt 30 = .ok (.arraylength, 1) := by decide +kernel
theorem dX2_valueAt_31 : decode cX2_valueAt 31 = .ok (.if_icmp .ge 12, 3) := by decide +kernel
theorem dX2_valueAt_34 : decode cX2_valueAt 34 = .ok (.aload_n 0, 1) := by decide +kernel
theorem dX2_valueAt_35 : decode cX2_valueAt 35 = .ok (.getfield 22, 3) := by decide +kernel
theorem dX2_valueAt_38 : decode cX2_valueAt 38 = .ok (.iload_n 3, 1) := by decide +kernel
theorem dX2_valueAt_39 : decode cX2_valueAt 39 = .ok (.iaload, 1) := by decide +kernel
theorem dX2_valueAt_40 : decode cX2_valueAt 40 = .ok (.goto 5, 3) := by decide +kernel
theorem dX2_valueAt_43 : decode cX2_valueAt 43 = .ok (.bipush (-2), 2) := by decide +kernel
theorem dX2_valueAt_45 : decode cX2_valueAt 45 = .ok (.ireturn, 1) := by decide +kernel
theorem dX2_valueOf_0 : decode cX2_valueOf 0 = .ok (.aload_n 2, 1) := by decide +kernel
theorem dX2_valueOf_1 : decode cX2_valueOf 1 = .ok (.invokevirtual 49, 3) := by decide +kernel
theorem dX2_valueOf_4 : decode cX2_valueOf 4 = .ok (.aload_n 2, 1) := by decide +kernel
theorem dX2_valueOf_5 : decode cX2_valueOf 5 = .ok (.iconst 1, 1) := by decide +kernel
theorem dX2_valueOf_6 : decode cX2_valueOf 6 = .ok (.invokevirtual 55, 3) := by decide +kernel
theorem dX2_valueOf_9 : decode cX2_valueOf 9 = .ok (.ldc2_w 59, 3) := by decide +kernel
theorem dX2_valueOf_12 : decode cX2_valueOf 12 = .ok (.lxor, 1) := by decide +kernel
theorem dX2_valueOf_13 : decode cX2_valueOf 13 = .ok (.land, 1) := by decide +kernel
theorem dX2_valueOf_14 : decode cX2_valueOf 14 = .ok (.lstore_n 3, 1) := by decide +kernel
theorem dX2_valueOf_15 : decode cX2_valueOf 15 = .ok (.lload_n 3, 1) := by decide +kernel
theorem dX2_valueOf_16 : decode cX2_valueOf 16 = .ok (.lconst 0, 1) := by decide +kernel
theorem dX2_valueOf_17 : decode cX2_valueOf 17 = .ok (.lcmp, 1) := by decide +kernel
theorem dX2_valueOf_18 : decode cX2_valueOf 18 = .ok (.ifCond .ne 5, 3) := by decide +kernel
theorem dX2_valueOf_21 : decode cX2_valueOf 21 = .ok (.iconst (-1), 1) := by decide +kernel
theorem dX2_valueOf_22 : decode cX2_valueOf 22 = .ok (.ireturn, 1) := by decide +kernel
theorem dX2_valueOf_23 : decode cX2_valueOf 23 = .ok (.aload_n 0, 1) := by decide +kernel
theorem dX2_valueOf_24 : decode cX2_valueOf 24 = .ok (.iload_n 1, 1) := by decide +kernel
theorem dX2_valueOf_25 : decode cX2_valueOf 25 = .ok (.aload_n 2, 1) := by decide +kernel
theorem dX2_valueOf_26 : decode cX2_valueOf 26 = .ok (.getfield 88, 3) := by decide +kernel
theorem dX2_valueOf_29 : decode cX2_valueOf 29 = .ok (.aload_n 2, 1) := by decide +kernel
theorem dX2_valueOf_30 : decode cX2_valueOf 30 = .ok (.iconst 1, 1) := by decide +kernel
theorem dX2_valueOf_31 : decode cX2_valueOf 31 = .ok (.invokevirtual 92, 3) := by decide +kernel
theorem dX2_valueOf_34 : decode cX2_valueOf 34 = .ok (.aload_n 2, 1) := by decide +kernel
theorem dX2_valueOf_35 : decode cX2_valueOf 35 = .ok (.iconst 0, 1) := by decide +kernel
theorem dX2_valueOf_36 : decode cX2_valueOf 36 = .ok (.invokevirtual 92, 3) := by decide +kernel
theorem dX2_valueOf_39 : decode cX2_valueOf 39 = .ok (.lload_n 3, 1) := by decide +kernel
theorem dX2_valueOf_40 : decode cX2_valueOf 40 = .ok (.invokestatic 81, 3) := by decide +kernel
theorem dX2_valueOf_43 : decode cX2_valueOf 43 = .ok (.invokestatic 96, 3) := by decide +kernel
theorem dX2_valueOf_46 : decode cX2_valueOf 46 = .ok (.invokevirtual 100, 3) := by decide +kernel
theorem dX2_valueOf_49 : decode cX2_valueOf 49 = .ok (.istore 5, 2) := by decide +kernel
theorem dX2_valueOf_51 : decode cX2_valueOf 51 = .ok (.iload 5, 2) := by decide +kernel
theorem dX2_valueOf_53 : decode cX2_valueOf 53 = .ok (.ifCond .ge 7, 3) := by decide +kernel
theorem dX2_valueOf_56 : decode cX2_valueOf 56 = .ok (.iconst (-1), 1) := by decide +kernel
theorem dX2_valueOf_57 : decode cX2_valueOf 57 = .ok (.goto 5, 3) := by decide +kernel
theorem dX2_valueOf_60 : decode cX2_valueOf 60 = .ok (.iload 5, 2) := by decide +kernel
theorem dX2_valueOf_62 : decode cX2_valueOf 62 = .ok (.ireturn, 1) := by decide +kernel
theorem dX11_endingValue_0 : decode cX11_endingValue 0 = .ok (.aload_n 0, 1) := by decide +kernel
theorem dX11_endingValue_1 : decode cX11_endingValue 1 = .ok (.getfield 98, 3) := by decide +kernel
theorem dX11_endingValue_4 : decode cX11_endingValue 4 = .ok (.aload_n 0, 1) := by decide +kernel
theorem dX11_endingValue_5 : decode cX11_endingValue 5 = .ok (.getfield 28, 3) := by decide +kernel
theorem dX11_endingValue_8 : decode cX11_endingValue 8 = .ok (.invokevirtual 457, 3) := by decide +kernel
theorem dX11_endingValue_11 : decode cX11_endingValue 11 = .ok (.istore_n 1, 1) := by decide +kernel
theorem dX11_endingValue_12 : decode cX11_endingValue 12 = .ok (.iload_n 1, 1) := by decide +kernel
theorem dX11_endingValue_13 : decode cX11_endingValue 13 = .ok (.iconst (-1), 1) := by decide +kernel
theorem dX11_endingValue_14 : decode cX11_endingValue 14 = .ok (.if_icmp .eq 14, 3) := by decide +kernel
theorem dX11_endingValue_17 : decode cX11_endingValue 17 = .ok (.aload_n 0, 1) := by decide +kernel
theorem dX11_endingValue_18 : decode cX11_endingValue 18 = .ok (.getfield 98, 3) := by decide +kernel
theorem dX11_endingValue_21 : decode cX11_endingValue 21 = .ok (.iload_n 1, 1) := by decide +kernel
theorem dX11_endingValue_22 : decode cX11_endingValue 22 = .ok (.invokevirtual 460, 3) := by decide +kernel
theorem dX11_endingValue_25 : decode cX11_endingValue 25 = .ok (.ifCond .ne 14, 3) := by decide +kernel
theorem dX11_endingValue_28 : decode cX11_endingValue 28 = .ok (.new 285, 3) := by decide +kernel
theorem dX11_endingValue_31 : decode cX11_endingValue 31 = .ok (.dup, 1) := by decide +kernel
theorem dX11_endingValue_32 : decode cX11_endingValue 32 = .ok (.ldc_w 463, 3) := by decide +kernel
theorem dX11_endingValue_35 : decode cX11_endingValue 35 = .ok (.invokespecial 289, 3) := by decide +kernel
theorem dX11_endingValue_38 : decode cX11_endingValue 38 = .ok (.athrow, 1) := by decide +kernel
theorem dX11_endingValue_39 : decode cX11_endingValue 39 = .ok (.aload_n 0, 1) := by decide +kernel
theorem dX11_endingValue_40 : decode cX11_endingValue 40 = .ok (.getfield 98, 3) := by decide +kernel
theorem dX11_endingValue_43 : decode cX11_endingValue 43 = .ok (.iload_n 1, 1) := by decide +kernel
theorem dX11_endingValue_44 : decode cX11_endingValue 44 = .ok (.aload_n 0, 1) := by decide +kernel
theorem dX11_endingValue_45 : decode cX11_endingValue 45 = .ok (.getfield 28, 3) := by decide +kernel
theorem dX11_endingValue_48 : decode cX11_endingValue 48 = .ok (.invokevirtual 465, 3) := by decide +kernel
theorem dX11_endingValue_51 : decode cX11_endingValue 51 = .ok (.ireturn, 1) := by decide +kernel
theorem dX5_isBorder_0 : decode cX5_isBorder 0 = .ok (.iload_n 0, 1) := by decide +kernel
theorem dX5_isBorder_1 : decode cX5_isBorder 1 = .ok (.bipush 32, 2) := by decide +kernel
theorem dX5_isBorder_3 : decode cX5_isBorder 3 = .ok (.if_icmp .eq 27, 3) := by decide +kernel
theorem dX5_isBorder_6 : decode cX5_isBorder 6 = .ok (.iload_n 0, 1) := by decide +kernel
theorem dX5_isBorder_7 : decode cX5_isBorder 7 = .ok (.bipush 40, 2) := by decide +kernel
theorem dX5_isBorder_9 : decode cX5_isBorder 9 = .ok (.if_icmp .eq 21, 3) := by decide +kernel
theorem dX5_isBorder_12 : decode cX5_isBorder 12 = .ok (.iload_n 0, 1) := by decide +kernel
theorem dX5_isBorder_13 : decode cX5_isBorder 13 = .ok (.bipush 41, 2) := by decide +kernel
theorem dX5_isBorder_15 : decode cX5_isBorder 15 = .ok (.if_icmp .eq 15, 3) := by decide +kernel
theorem dX5_isBorder_18 : decode cX5_isBorder 18 = .ok (.iload_n 0, 1) := by decide +kernel
theorem dX5_isBorder_19 : decode cX5_isBorder 19 = .ok (.bipush 123, 2) := by decide +kernel
theorem dX5_isBorder_21 : decode cX5_isBorder 21 = .ok (.if_icmp .eq 9, 3) := by decide +kernel
theorem dX5_isBorder_24 : decode cX5_isBorder 24 = .ok (.iload_n 0, 1) := by decide +kernel
theorem dX5_isBorder_25 : decode cX5_isBorder 25 = .ok (.bipush 125, 2) := by decide +kernel
theorem dX5_isBorder_27 : decode cX5_isBorder 27 = .ok (.if_icmp .ne 7, 3) := by decide +kernel
theorem dX5_isBorder_30 : decode cX5_isBorder 30 = .ok (.iconst 1, 1) := by decide +kernel
theorem dX5_isBorder_31 : decode cX5_isBorder 31 = .ok (.goto 4, 3) := by decide +kernel
theorem dX5_isBorder_34 : decode cX5_isBorder 34 = .ok (.iconst 0, 1) := by decide +kernel
theorem dX5_isBorder_35 : decode cX5_isBorder 35 = .ok (.ireturn, 1) := by decide +kernel
theorem dX5_closes_0 : decode cX5_closes 0 = .ok (.aload_n 0, 1) := by decide +kernel
theorem dX5_closes_1 : decode cX5_closes 1 = .ok (.getfield 25, 3) := by decide +kernel
theorem dX5_closes_4 : decode cX5_closes 4 = .ok (.ifCond .le 23, 3) := by decide +kernel
theorem dX5_closes_7 : decode cX5_closes 7 = .ok (.aload_n 0, 1) := by decide +kernel
theorem dX5_closes_8 : decode cX5_closes 8 = .ok (.getfield 25, 3) := by decide +kernel
theorem dX5_closes_11 : decode cX5_closes 11 = .ok (.iconst 5, 1) := by decide +kernel
theorem dX5_closes_12 : decode cX5_closes 12 = .ok (.if_icmp .ge 15, 3) := by decide +kernel
theorem dX5_closes_15 : decode cX5_closes 15 = .ok (.aload_n 0, 1) := by decide +kernel
theorem dX5_closes_16 : decode cX5_closes 16 = .ok (.getfield 18, 3) := by decide +kernel
theorem dX5_closes_19 : decode cX5_closes 19 = .ok (.aload_n 0, 1) := by decide +kernel
theorem dX5_closes_20 : decode cX5_closes 20 = .ok (.getfield 25, 3) := by decide +kernel
theorem dX5_closes_23 : decode cX5_closes 23 = .ok (.iaload, 1) := by decide +kernel
theorem dX5_closes_24 : decode cX5_closes 24 = .ok (.ifCond .ne 5, 3) := by decide +kernel
theorem dX5_closes_27 : decode cX5_closes 27 = .ok (.iconst 0, 1) := by decide +kernel
theorem dX5_closes_28 : decode cX5_closes 28 = .ok (.ireturn, 1) := by decide +kernel
theorem dX5_closes_29 : decode cX5_closes 29 = .ok (.aload_n 0, 1) := by decide +kernel
theorem dX5_closes_30 : decode cX5_closes 30 = .ok (.dup, 1) := by decide +kernel
theorem dX5_closes_31 : decode cX5_closes 31 = .ok (.getfield 25, 3) := by decide +kernel
theorem dX5_closes_34 : decode cX5_closes 34 = .ok (.iconst 1, 1) := by decide +kernel
theorem dX5_closes_35 : decode cX5_closes 35 = .ok (.isub, 1) := by decide +kernel
theorem dX5_closes_36 : decode cX5_closes 36 = .ok (.putfield 25, 3) := by decide +kernel
theorem dX5_closes_39 : decode cX5_closes 39 = .ok (.iconst 1, 1) := by decide +kernel
theorem dX5_closes_40 : decode cX5_closes 40 = .ok (.ireturn, 1) := by decide +kernel
theorem dX7_save_0 : decode cX7_save 0 = .ok (.iload_n 2, 1) := by decide +kernel
theorem dX7_save_1 : decode cX7_save 1 = .ok (.iconst 5, 1) := by decide +kernel
theorem dX7_save_2 : decode cX7_save 2 = .ok (.imul, 1) := by decide +kernel
theorem dX7_save_3 : decode cX7_save 3 = .ok (.istore_n 3, 1) := by decide +kernel
theorem dX7_save_4 : decode cX7_save 4 = .ok (.iload_n 2, 1) := by decide +kernel
theorem dX7_save_5 : decode cX7_save 5 = .ok (.ifCond .lt 15, 3) := by decide +kernel
theorem dX7_save_8 : decode cX7_save 8 = .ok (.iload_n 3, 1) := by decide +kernel
theorem dX7_save_9 : decode cX7_save 9 = .ok (.ifCond .lt 11, 3) := by decide +kernel
theorem dX7_save_12 : decode cX7_save 12 = .ok (.iload_n 3, 1) := by decide +kernel
theorem dX7_save_13 : decode cX7_save 13 = .ok (.iconst 5, 1) := by decide +kernel
theorem dX7_save_14 : decode cX7_save 14 = .ok (.iadd, 1) := by decide +kernel
theorem dX7_save_15 : decode cX7_save 15 = .ok (.aload_n 1, 1) := by decide +kernel
theorem dX7_save_16 : decode cX7_save 16 = .ok (.arraylength, 1) := by decide +kernel
theorem dX7_save_17 : decode cX7_save 17 = .ok (.if_icmp .le 4, 3) := by decide +kernel
theorem dX7_save_20 : decode cX7_save 20 = .ok (.return_, 1) := by decide +kernel
theorem dX7_save_21 : decode cX7_save 21 = .ok (.aload_n 1, 1) := by decide +kernel
theorem dX7_save_22 : decode cX7_save 22 = .ok (.iload_n 3, 1) := by decide +kernel
theorem dX7_save_23 : decode cX7_save 23 = .ok (.aload_n 0, 1) := by decide +kernel
theorem dX7_save_24 : decode cX7_save 24 = .ok (.getfield 9, 3) := by decide +kernel
theorem dX7_save_27 : decode cX7_save 27 = .ok (.lastore, 1) := by decide +kernel
theorem dX7_save_28 : decode cX7_save 28 = .ok (.aload_n 1, 1) := by decide +kernel
theorem dX7_save_29 : decode cX7_save 29 = .ok (.iload_n 3, 1) := by decide +kernel
theorem dX7_save_30 : decode cX7_save 30 = .ok (.iconst 1, 1) := by decide +kernel
theorem dX7_save_31 : decode cX7_save 31 = .ok (.iadd, 1) := by decide +kernel
theorem dX7_save_32 : decode cX7_save 32 = .ok (.aload_n 0, 1) := by decide +kernel
theorem dX7_save_33 : decode cX7_save 33 = .ok (.getfield 15, 3) := by decide +kernel
theorem dX7_save_36 : decode cX7_save 36 = .ok (.lastore, 1) := by decide +kernel
theorem dX7_save_37 : decode cX7_save 37 = .ok (.aload_n 1, 1) := by decide +kernel
theorem dX7_save_38 : decode cX7_save 38 = .ok (.iload_n 3, 1) := by decide +kernel
theorem dX7_save_39 : decode cX7_save 39 = .ok (.iconst 2, 1) := by decide +kernel
theorem dX7_save_40 : decode cX7_save 40 = .ok (.iadd, 1) := by decide +kernel
theorem dX7_save_41 : decode cX7_save 41 = .ok (.aload_n 0, 1) := by decide +kernel
theorem dX7_save_42 : decode cX7_save 42 = .ok (.getfield 18, 3) := by decide +kernel
theorem dX7_save_45 : decode cX7_save 45 = .ok (.lastore, 1) := by decide +kernel
theorem dX7_save_46 : decode cX7_save 46 = .ok (.aload_n 1, 1) := by decide +kernel
theorem dX7_save_47 : decode cX7_save 47 = .ok (.iload_n 3, 1) := by decide +kernel
theorem dX7_save_48 : decode cX7_save 48 = .ok (.iconst 3, 1) := by decide +kernel
theorem dX7_save_49 : decode cX7_save 49 = .ok (.iadd, 1) := by decide +kernel
theorem dX7_save_50 : decode cX7_save 50 = .ok (.aload_n 0, 1) := by decide +kernel
theorem dX7_save_51 : decode cX7_save 51 = .ok (.getfield 21, 3) := by decide +kernel
theorem dX7_save_54 : decode cX7_save 54 = .ok (.lastore, 1) := by decide +kernel
theorem dX7_save_55 : decode cX7_save 55 = .ok (.aload_n 1, 1) := by decide +kernel
theorem dX7_save_56 : decode cX7_save 56 = .ok (.iload_n 3, 1) := by decide +kernel
theorem dX7_save_57 : decode cX7_save 57 = .ok (.iconst 4, 1) := by decide +kernel
theorem dX7_save_58 : decode cX7_save 58 = .ok (.iadd, 1) := by decide +kernel
theorem dX7_save_59 : decode cX7_save 59 = .ok (.aload_n 0, 1) := by decide +kernel
theorem dX7_save_60 : decode cX7_save 60 = .ok (.invokevirtual 64, 3) := by decide +kernel
theorem dX7_save_63 : decode cX7_save 63 = .ok (.lastore, 1) := by decide +kernel
theorem dX7_save_64 : decode cX7_save 64 = .ok (.return_, 1) := by decide +kernel
theorem dX5_opens_0 : decode cX5_opens 0 = .ok (.aload_n 0, 1) := by decide +kernel
theorem dX5_opens_1 : decode cX5_opens 1 = .ok (.getfield 25, 3) := by decide +kernel
theorem dX5_opens_4 : decode cX5_opens 4 = .ok (.ifCond .lt 25, 3) := by decide +kernel
theorem dX5_opens_7 : decode cX5_opens 7 = .ok (.aload_n 0, 1) := by decide +kernel
theorem dX5_opens_8 : decode cX5_opens 8 = .ok (.getfield 25, 3) := by decide +kernel
theorem dX5_opens_11 : decode cX5_opens 11 = .ok (.iconst 1, 1) := by decide +kernel
theorem dX5_opens_12 : decode cX5_opens 12 = .ok (.iadd, 1) := by decide +kernel
theorem dX5_opens_13 : decode cX5_opens 13 = .ok (.iconst 5, 1) := by decide +kernel
theorem dX5_opens_14 : decode cX5_opens 14 = .ok (.if_icmp .ge 15, 3) := by decide +kernel
theorem dX5_opens_17 : decode cX5_opens 17 = .ok (.aload_n 0, 1) := by decide +kernel
theorem dX5_opens_18 : decode cX5_opens 18 = .ok (.getfield 18, 3) := by decide +kernel
theorem dX5_opens_21 : decode cX5_opens 21 = .ok (.aload_n 0, 1) := by decide +kernel
theorem dX5_opens_22 : decode cX5_opens 22 = .ok (.getfield 25, 3) := by decide +kernel
theorem dX5_opens_25 : decode cX5_opens 25 = .ok (.iaload, 1) := by decide +kernel
theorem dX5_opens_26 : decode cX5_opens 26 = .ok (.ifCond .ne 5, 3) := by decide +kernel
theorem dX5_opens_29 : decode cX5_opens 29 = .ok (.iconst 0, 1) := by decide +kernel
theorem dX5_opens_30 : decode cX5_opens 30 = .ok (.ireturn, 1) := by decide +kernel
theorem dX5_opens_31 : decode cX5_opens 31 = .ok (.aload_n 0, 1) := by decide +kernel
theorem dX5_opens_32 : decode cX5_opens 32 = .ok (.getfield 51, 3) := by decide +kernel
theorem dX5_opens_35 : decode cX5_opens 35 = .ok (.aload_n 0, 1) := by decide +kernel
theorem dX5_opens_36 : decode cX5_opens 36 = .ok (.getfield 15, 3) := by decide +kernel
theorem dX5_opens_39 : decode cX5_opens 39 = .ok (.aload_n 0, 1) := by decide +kernel
theorem dX5_opens_40 : decode cX5_opens 40 = .ok (.getfield 25, 3) := by decide +kernel
theorem dX5_opens_43 : decode cX5_opens 43 = .ok (.invokevirtual 124, 3) := by decide +kernel
theorem dX5_opens_46 : decode cX5_opens 46 = .ok (.aload_n 0, 1) := by decide +kernel
theorem dX5_opens_47 : decode cX5_opens 47 = .ok (.dup, 1) := by decide +kernel
theorem dX5_opens_48 : decode cX5_opens 48 = .ok (.getfield 25, 3) := by decide +kernel
theorem dX5_opens_51 : decode cX5_opens 51 = .ok (.iconst 1, 1) := by decide +kernel
theorem dX5_opens_52 : decode cX5_opens 52 = .ok (.iadd, 1) := by decide +kernel
theorem dX5_opens_53 : decode cX5_opens 53 = .ok (.putfield 25, 3) := by decide +kernel
theorem dX5_opens_56 : decode cX5_opens 56 = .ok (.aload_n 0, 1) := by decide +kernel
theorem dX5_opens_57 : decode cX5_opens 57 = .ok (.getfield 51, 3) := by decide +kernel
theorem dX5_opens_60 : decode cX5_opens 60 = .ok (.aload_n 0, 1) := by decide +kernel
theorem dX5_opens_61 : decode cX5_opens 61 = .ok (.getfield 11, 3) := by decide +kernel
theorem dX5_opens_64 : decode cX5_opens 64 = .ok (.aload_n 0, 1) := by decide +kernel
theorem dX5_opens_65 : decode cX5_opens 65 = .ok (.getfield 25, 3) := by decide +kernel
theorem dX5_opens_68 : decode cX5_opens 68 = .ok (.invokevirtual 55, 3) := by decide +kernel
theorem dX5_opens_71 : decode cX5_opens 71 = .ok (.aload_n 0, 1) := by decide +kernel
theorem dX5_opens_72 : decode cX5_opens 72 = .ok (.getfield 18, 3) := by decide +kernel
theorem dX5_opens_75 : decode cX5_opens 75 = .ok (.aload_n 0, 1) := by decide +kernel
theorem dX5_opens_76 : decode cX5_opens 76 = .ok (.getfield 25, 3) := by decide +kernel
theorem dX5_opens_79 : decode cX5_opens 79 = .ok (.iconst 0, 1) := by decide +kernel
theorem dX5_opens_80 : decode cX5_opens 80 = .ok (.iastore, 1) := by decide +kernel
theorem dX5_opens_81 : decode cX5_opens 81 = .ok (.iconst 1, 1) := by decide +kernel
theorem dX5_opens_82 : decode cX5_opens 82 = .ok (.ireturn, 1) := by decide +kernel
theorem dX5_takes_0 : decode cX5_takes 0 = .ok (.iload_n 1, 1) := by decide +kernel
theorem dX5_takes_1 : decode cX5_takes 1 = .ok (.ifCond .ne 5, 3) := by decide +kernel
theorem dX5_takes_4 : decode cX5_takes 4 = .ok (.iconst 1, 1) := by decide +kernel
theorem dX5_takes_5 : decode cX5_takes 5 = .ok (.ireturn, 1) := by decide +kernel
theorem dX5_takes_6 : decode cX5_takes 6 = .ok (.aload_n 0, 1) := by decide +kernel
theorem dX5_takes_7 : decode cX5_takes 7 = .ok (.getfield 35, 3) := by decide +kernel
theorem dX5_takes_10 : decode cX5_takes 10 = .ok (.ifCond .ne 25, 3) := by decide +kernel
theorem dX5_takes_13 : decode cX5_takes 13 = .ok (.aload_n 0, 1) := by decide +kernel
theorem dX5_takes_14 : decode cX5_takes 14 = .ok (.getfield 39, 3) := by decide +kernel
theorem dX5_takes_17 : decode cX5_takes 17 = .ok (.ifCond .ne 18, 3) := by decide +kernel
theorem dX5_takes_20 : decode cX5_takes 20 = .ok (.aload_n 0, 1) := by decide +kernel
theorem dX5_takes_21 : decode cX5_takes 21 = .ok (.getfield 25, 3) := by decide +kernel
theorem dX5_takes_24 : decode cX5_takes 24 = .ok (.ifCond .lt 11, 3) := by decide +kernel
theorem dX5_takes_27 : decode cX5_takes 27 = .ok (.aload_n 0, 1) := by decide +kernel
theorem dX5_takes_28 : decode cX5_takes 28 = .ok (.getfield 25, 3) := by decide +kernel
theorem dX5_takes_31 : decode cX5_takes 31 = .ok (.iconst 5, 1) := by decide +kernel
theorem dX5_takes_32 : decode cX5_takes 32 = .ok (.if_icmp .lt 5, 3) := by decide +kernel
theorem dX5_takes_35 : decode cX5_takes 35 = .ok (.iconst 0, 1) := by decide +kernel
theorem dX5_takes_36 : decode cX5_takes 36 = .ok (.ireturn, 1) := by decide +kernel
theorem dX5_takes_37 : decode cX5_takes 37 = .ok (.iload_n 1, 1) := by decide +kernel
theorem dX5_takes_38 : decode cX5_takes 38 = .ok (.tableswitch 90 1 5 #[80, 85, 62, 34, 41], 34) := by decide +kernel
theorem dX5_takes_72 : decode cX5_takes 72 = .ok (.aload_n 0, 1) := by decide +kernel
theorem dX5_takes_73 : decode cX5_takes 73 = .ok (.iconst 1, 1) := by decide +kernel
theorem dX5_takes_74 : decode cX5_takes 74 = .ok (.putfield 35, 3) := by decide +kernel
theorem dX5_takes_77 : decode cX5_takes 77 = .ok (.iconst 1, 1) := by decide +kernel
theorem dX5_takes_78 : decode cX5_takes 78 = .ok (.ireturn, 1) := by decide +kernel
theorem dX5_takes_79 : decode cX5_takes 79 = .ok (.aload_n 0, 1) := by decide +kernel
theorem dX5_takes_80 : decode cX5_takes 80 = .ok (.aload_n 0, 1) := by decide +kernel
theorem dX5_takes_81 : decode cX5_takes 81 = .ok (.getfield 25, 3) := by decide +kernel
theorem dX5_takes_84 : decode cX5_takes 84 = .ok (.ifCond .ne 7, 3) := by decide +kernel
theorem dX5_takes_87 : decode cX5_takes 87 = .ok (.iconst 1, 1) := by decide +kernel
theorem dX5_takes_88 : decode cX5_takes 88 = .ok (.goto 4, 3) := by decide +kernel
theorem dX5_takes_91 : decode cX5_takes 91 = .ok (.iconst 0, 1) := by decide +kernel
theorem dX5_takes_92 : decode cX5_takes 92 = .ok (.putfield 39, 3) := by decide +kernel
theorem dX5_takes_95 : decode cX5_takes 95 = .ok (.aload_n 0, 1) := by decide +kernel
theorem dX5_takes_96 : decode cX5_takes 96 = .ok (.getfield 39, 3) := by decide +kernel
theorem dX5_takes_99 : decode cX5_takes 99 = .ok (.ireturn, 1) := by decide +kernel
theorem dX5_takes_100 : decode cX5_takes 100 = .ok (.aload_n 0, 1) := by decide +kernel
theorem dX5_takes_101 : decode cX5_takes 101 = .ok (.getfield 18, 3) := by decide +kernel
theorem dX5_takes_104 : decode cX5_takes 104 = .ok (.aload_n 0, 1) := by decide +kernel
theorem dX5_takes_105 : decode cX5_takes 105 = .ok (.getfield 25, 3) := by decide +kernel
theorem dX5_takes_108 : decode cX5_takes 108 = .ok (.iaload, 1) := by decide +kernel
theorem dX5_takes_109 : decode cX5_takes 109 = .ok (.ifCond .le 7, 3) := by decide +kernel
theorem dX5_takes_112 : decode cX5_takes 112 = .ok (.iconst 1, 1) := by decide +kernel
theorem dX5_takes_113 : decode cX5_takes 113 = .ok (.goto 4, 3) := by decide +kernel
theorem dX5_takes_116 : decode cX5_takes 116 = .ok (.iconst 0, 1) := by decide +kernel
theorem dX5_takes_117 : decode cX5_takes 117 = .ok (.ireturn, 1) := by decide +kernel
theorem dX5_takes_118 : decode cX5_takes 118 = .ok (.aload_n 0, 1) := by decide +kernel
theorem dX5_takes_119 : decode cX5_takes 119 = .ok (.invokevirtual 117, 3) := by decide +kernel
theorem dX5_takes_122 : decode cX5_takes 122 = .ok (.ireturn, 1) := by decide +kernel
theorem dX5_takes_123 : decode cX5_takes 123 = .ok (.aload_n 0, 1) := by decide +kernel
theorem dX5_takes_124 : decode cX5_takes 124 = .ok (.invokevirtual 121, 3) := by decide +kernel
theorem dX5_takes_127 : decode cX5_takes 127 = .ok (.ireturn, 1) := by decide +kernel
theorem dX5_takes_128 : decode cX5_takes 128 = .ok (.iconst 0, 1) := by decide +kernel
theorem dX5_takes_129 : decode cX5_takes 129 = .ok (.ireturn, 1) := by decide +kernel
theorem dX9_canMate_0 : decode cX9_canMate 0 = .ok (.aload_n 0, 1) := by decide +kernel
theorem dX9_canMate_1 : decode cX9_canMate 1 = .ok (.getfield 31, 3) := by decide +kernel
theorem dX9_canMate_4 : decode cX9_canMate 4 = .ok (.aload_n 1, 1) := by decide +kernel
theorem dX9_canMate_5 : decode cX9_canMate 5 = .ok (.aload_n 0, 1) := by decide +kernel
theorem dX9_canMate_6 : decode cX9_canMate 6 = .ok (.getfield 18, 3) := by decide +kernel
theorem dX9_canMate_9 : decode cX9_canMate 9 = .ok (.invokevirtual 62, 3) := by decide +kernel
theorem dX9_canMate_12 : decode cX9_canMate 12 = .ok (.istore_n 2, 1) := by decide +kernel
theorem dX9_canMate_13 : decode cX9_canMate 13 = .ok (.iconst 0, 1) := by decide +kernel
theorem dX9_canMate_14 : decode cX9_canMate 14 = .ok (.istore_n 3, 1) := by decide +kernel
theorem dX9_canMate_15 : decode cX9_canMate 15 = .ok (.iload_n 3, 1) := by decide +kernel
theorem dX9_canMate_16 : decode cX9_canMate 16 = .ok (.iload_n 2, 1) := by decide +kernel
theorem dX9_canMate_17 : decode cX9_canMate 17 = .ok (.if_icmp .ge 65, 3) := by decide +kernel
theorem dX9_canMate_20 : decode cX9_canMate 20 = .ok (.iload_n 3, 1) := by decide +kernel
theorem dX9_canMate_21 : decode cX9_canMate 21 = .ok (.aload_n 0, 1) := by decide +kernel
theorem dX9_canMate_22 : decode cX9_canMate 22 = .ok (.getfield 18, 3) := by decide +kernel
theorem dX9_canMate_25 : decode cX9_canMate 25 = .ok (.arraylength, 1) := by decide +kernel
theorem dX9_canMate_26 : decode cX9_canMate 26 = .ok (.if_icmp .ge 56, 3) := by decide +kernel
theorem dX9_canMate_29 : decode cX9_canMate 29 = .ok (.aload_n 0, 1) := by decide +kernel
theorem dX9_canMate_30 : decode cX9_canMate 30 = .ok (.getfield 47, 3) := by decide +kernel
theorem dX9_canMate_33 : decode cX9_canMate 33 = .ok (.aload_n 1, 1) := by decide +kernel
theorem dX9_canMate_34 : decode cX9_canMate 34 = .ok (.invokevirtual 66, 3) := by decide +kernel
theorem dX9_canMate_37 : decode cX9_canMate 37 = .ok (.aload_n 0, 1) := by decide +kernel
theorem dX9_canMate_38 : decode cX9_canMate 38 = .ok (.getfield 47, 3) := by decide +kernel
theorem dX9_canMate_41 : decode cX9_canMate 41 = .ok (.aload_n 0, 1) := by decide +kernel
theorem dX9_canMate_42 : decode cX9_canMate 42 = .ok (.getfield 18, 3) := by decide +kernel
theorem dX9_canMate_45 : decode cX9_canMate 45 = .ok (.iload_n 3, 1) := by decide +kernel
theorem dX9_canMate_46 : decode cX9_canMate 46 = .ok (.iaload, 1) := by decide +kernel
theorem dX9_canMate_47 : decode cX9_canMate 47 = .ok (.invokevirtual 70, 3) := by decide +kernel
theorem dX9_canMate_50 : decode cX9_canMate 50 = .ok (.aload_n 0, 1) := by decide +kernel
theorem dX9_canMate_51 : decode cX9_canMate 51 = .ok (.getfield 47, 3) := by decide +kernel
theorem dX9_canMate_54 : decode cX9_canMate 54 = .ok (.invokevirtual 81, 3) := by decide +kernel
theorem dX9_canMate_57 : decode cX9_canMate 57 = .ok (.ifCond .eq 19, 3) := by decide +kernel
theorem dX9_canMate_60 : decode cX9_canMate 60 = .ok (.aload_n 0, 1) := by decide +kernel
theorem dX9_canMate_61 : decode cX9_canMate 61 = .ok (.getfield 31, 3) := by decide +kernel
theorem dX9_canMate_64 : decode cX9_canMate 64 = .ok (.aload_n 0, 1) := by decide +kernel
theorem dX9_canMate_65 : decode cX9_canMate 65 = .ok (.getfield 47, 3) := by decide +kernel
theorem dX9_canMate_68 : decode cX9_canMate 68 = .ok (.invokevirtual 85, 3) := by decide +kernel
theorem dX9_canMate_71 : decode cX9_canMate 71 = .ok (.ifCond .ne 5, 3) := by decide +kernel
theorem dX9_canMate_74 : decode cX9_canMate 74 = .ok (.iconst 1, 1) := by decide +kernel
theorem dX9_canMate_75 : decode cX9_canMate 75 = .ok (.ireturn, 1) := by decide +kernel
theorem dX9_canMate_76 : decode cX9_canMate 76 = .ok (.iinc 3 1, 3) := by decide +kernel
theorem dX9_canMate_79 : decode cX9_canMate 79 = .ok (.goto (-64), 3) := by decide +kernel
theorem dX9_canMate_82 : decode cX9_canMate 82 = .ok (.iconst 0, 1) := by decide +kernel
theorem dX9_canMate_83 : decode cX9_canMate 83 = .ok (.ireturn, 1) := by decide +kernel
theorem dX9_isLostInTwo_0 : decode cX9_isLostInTwo 0 = .ok (.aload_n 0, 1) := by decide +kernel
theorem dX9_isLostInTwo_1 : decode cX9_isLostInTwo 1 = .ok (.getfield 31, 3) := by decide +kernel
theorem dX9_isLostInTwo_4 : decode cX9_isLostInTwo 4 = .ok (.aload_n 1, 1) := by decide +kernel
theorem dX9_isLostInTwo_5 : decode cX9_isLostInTwo 5 = .ok (.aload_n 0, 1) := by decide +kernel
theorem dX9_isLostInTwo_6 : decode cX9_isLostInTwo 6 = .ok (.getfield 15, 3) := by decide +kernel
theorem dX9_isLostInTwo_9 : decode cX9_isLostInTwo 9 = .ok (.invokevirtual 62, 3) := by decide +kernel
theorem dX9_isLostInTwo_12 : decode cX9_isLostInTwo 12 = .ok (.istore_n 2, 1) := by decide +kernel
theorem dX9_isLostInTwo_13 : decode cX9_isLostInTwo 13 = .ok (.iconst 0, 1) := by decide +kernel
theorem dX9_isLostInTwo_14 : decode cX9_isLostInTwo 14 = .ok (.istore_n 3, 1) := by decide +kernel
theorem dX9_isLostInTwo_15 : decode cX9_isLostInTwo 15 = .ok (.iload_n 3, 1) := by decide +kernel
theorem dX9_isLostInTwo_16 : decode cX9_isLostInTwo 16 = .ok (.iload_n 2, 1) := by decide +kernel
theorem dX9_isLostInTwo_17 : decode cX9_isLostInTwo 17 = .ok (.if_icmp .ge 52, 3) := by decide +kernel
theorem dX9_isLostInTwo_20 : decode cX9_isLostInTwo 20 = .ok (.iload_n 3, 1) := by decide +kernel
theorem dX9_isLostInTwo_21 : decode cX9_isLostInTwo 21 = .ok (.aload_n 0, 1) := by decide +kernel
theorem dX9_isLostInTwo_22 : decode cX9_isLostInTwo 22 = .ok (.getfield 15, 3) := by decide +kernel
theorem dX9_isLostInTwo_25 : decode cX9_isLostInTwo 25 = .ok (.arraylength, 1) := by decide +kernel
theorem dX9_isLostInTwo_26 : decode cX9_isLostInTwo 26 = .ok (.if_icmp .ge 43, 3) := by decide +kernel
theorem dX9_isLostInTwo_29 : decode cX9_isLostInTwo 29 = .ok (.aload_n 0, 1) := by decide +kernel
theorem dX9_isLostInTwo_30 : decode cX9_isLostInTwo 30 = .ok (.getfield 44, 3) := by decide +kernel
theorem dX9_isLostInTwo_33 : decode cX9_isLostInTwo 33 = .ok (.aload_n 1, 1) := by decide +kernel
theorem dX9_isLostInTwo_34 : decode cX9_isLostInTwo 34 = .ok (.invokevirtual 66, 3) := by decide +kernel
theorem dX9_isLostInTwo_37 : decode cX9_isLostInTwo 37 = .ok (.aload_n 0, 1) := by decide +kernel
theorem dX9_isLostInTwo_38 : decode cX9_isLostInTwo 38 = .ok (.getfield 44, 3) := by decide +kernel
theorem dX9_isLostInTwo_41 : decode cX9_isLostInTwo 41 = .ok (.aload_n 0, 1) := by decide +kernel
theorem dX9_isLostInTwo_42 : decode cX9_isLostInTwo 42 = .ok (.getfield 15, 3) := by decide +kernel
theorem dX9_isLostInTwo_45 : decode cX9_isLostInTwo 45 = .ok (.iload_n 3, 1) := by decide +kernel
theorem dX9_isLostInTwo_46 : decode cX9_isLostInTwo 46 = .ok (.iaload, 1) := by decide +kernel
theorem dX9_isLostInTwo_47 : decode cX9_isLostInTwo 47 = .ok (.invokevirtual 70, 3) := by decide +kernel
theorem dX9_isLostInTwo_50 : decode cX9_isLostInTwo 50 = .ok (.aload_n 0, 1) := by decide +kernel
theorem dX9_isLostInTwo_51 : decode cX9_isLostInTwo 51 = .ok (.aload_n 0, 1) := by decide +kernel
theorem dX9_isLostInTwo_52 : decode cX9_isLostInTwo 52 = .ok (.getfield 44, 3) := by decide +kernel
theorem dX9_isLostInTwo_55 : decode cX9_isLostInTwo 55 = .ok (.invokevirtual 88, 3) := by decide +kernel
theorem dX9_isLostInTwo_58 : decode cX9_isLostInTwo 58 = .ok (.ifCond .ne 5, 3) := by decide +kernel
theorem dX9_isLostInTwo_61 : decode cX9_isLostInTwo 61 = .ok (.iconst 0, 1) := by decide +kernel
theorem dX9_isLostInTwo_62 : decode cX9_isLostInTwo 62 = .ok (.ireturn, 1) := by decide +kernel
theorem dX9_isLostInTwo_63 : decode cX9_isLostInTwo 63 = .ok (.iinc 3 1, 3) := by decide +kernel
theorem dX9_isLostInTwo_66 : decode cX9_isLostInTwo 66 = .ok (.goto (-51), 3) := by decide +kernel
theorem dX9_isLostInTwo_69 : decode cX9_isLostInTwo 69 = .ok (.iload_n 2, 1) := by decide +kernel
theorem dX9_isLostInTwo_70 : decode cX9_isLostInTwo 70 = .ok (.ifCond .le 7, 3) := by decide +kernel
theorem dX9_isLostInTwo_73 : decode cX9_isLostInTwo 73 = .ok (.iconst 1, 1) := by decide +kernel
theorem dX9_isLostInTwo_74 : decode cX9_isLostInTwo 74 = .ok (.goto 4, 3) := by decide +kernel
theorem dX9_isLostInTwo_77 : decode cX9_isLostInTwo 77 = .ok (.iconst 0, 1) := by decide +kernel
theorem dX9_isLostInTwo_78 : decode cX9_isLostInTwo 78 = .ok (.ireturn, 1) := by decide +kernel
theorem dX9_isMate_0 : decode cX9_isMate 0 = .ok (.aload_n 1, 1) := by decide +kernel
theorem dX9_isMate_1 : decode cX9_isMate 1 = .ok (.invokevirtual 81, 3) := by decide +kernel
theorem dX9_isMate_4 : decode cX9_isMate 4 = .ok (.ifCond .eq 18, 3) := by decide +kernel
theorem dX9_isMate_7 : decode cX9_isMate 7 = .ok (.aload_n 0, 1) := by decide +kernel
theorem dX9_isMate_8 : decode cX9_isMate 8 = .ok (.getfield 31, 3) := by decide +kernel
theorem dX9_isMate_11 : decode cX9_isMate 11 = .ok (.aload_n 1, 1) := by decide +kernel
theorem dX9_isMate_12 : decode cX9_isMate 12 = .ok (.invokevirtual 85, 3) := by decide +kernel
theorem dX9_isMate_15 : decode cX9_isMate 15 = .ok (.ifCond .ne 7, 3) := by decide +kernel
theorem dX9_isMate_18 : decode cX9_isMate 18 = .ok (.iconst 1, 1) := by decide +kernel
theorem dX9_isMate_19 : decode cX9_isMate 19 = .ok (.goto 4, 3) := by decide +kernel
theorem dX9_isMate_22 : decode cX9_isMate 22 = .ok (.iconst 0, 1) := by decide +kernel
theorem dX9_isMate_23 : decode cX9_isMate 23 = .ok (.ireturn, 1) := by decide +kernel
theorem dX9_findKeys_0 : decode cX9_findKeys 0 = .ok (.aload_n 0, 1) := by decide +kernel
theorem dX9_findKeys_1 : decode cX9_findKeys 1 = .ok (.iconst (-1), 1) := by decide +kernel
theorem dX9_findKeys_2 : decode cX9_findKeys 2 = .ok (.putfield 21, 3) := by decide +kernel
theorem dX9_findKeys_5 : decode cX9_findKeys 5 = .ok (.aload_n 0, 1) := by decide +kernel
theorem dX9_findKeys_6 : decode cX9_findKeys 6 = .ok (.iconst 0, 1) := by decide +kernel
theorem dX9_findKeys_7 : decode cX9_findKeys 7 = .ok (.putfield 25, 3) := by decide +kernel
theorem dX9_findKeys_10 : decode cX9_findKeys 10 = .ok (.aload_n 0, 1) := by decide +kernel
theorem dX9_findKeys_11 : decode cX9_findKeys 11 = .ok (.iconst (-1), 1) := by decide +kernel
theorem dX9_findKeys_12 : decode cX9_findKeys 12 = .ok (.putfield 28, 3) := by decide +kernel
theorem dX9_findKeys_15 : decode cX9_findKeys 15 = .ok (.aload_n 0, 1) := by decide +kernel
theorem dX9_findKeys_16 : decode cX9_findKeys 16 = .ok (.getfield 31, 3) := by decide +kernel
theorem dX9_findKeys_19 : decode cX9_findKeys 19 = .ok (.aload_n 1, 1) := by decide +kernel
theorem dX9_findKeys_20 : decode cX9_findKeys 20 = .ok (.aload_n 0, 1) := by decide +kernel
theorem dX9_findKeys_21 : decode cX9_findKeys 21 = .ok (.getfield 9, 3) := by decide +kernel
theorem dX9_findKeys_24 : decode cX9_findKeys 24 = .ok (.invokevirtual 62, 3) := by decide +kernel
theorem dX9_findKeys_27 : decode cX9_findKeys 27 = .ok (.istore_n 2, 1) := by decide +kernel
theorem dX9_findKeys_28 : decode cX9_findKeys 28 = .ok (.iconst 1, 1) := by decide +kernel
theorem dX9_findKeys_29 : decode cX9_findKeys 29 = .ok (.istore_n 3, 1) := by decide +kernel
theorem dX9_findKeys_30 : decode cX9_findKeys 30 = .ok (.iload_n 3, 1) := by decide +kernel
theorem dX9_findKeys_31 : decode cX9_findKeys 31 = .ok (.iconst 3, 1) := by decide +kernel
theorem dX9_findKeys_32 : decode cX9_findKeys 32 = .ok (.if_icmp .gt 129, 3) := by decide +kernel
theorem dX9_findKeys_35 : decode cX9_findKeys 35 = .ok (.aload_n 0, 1) := by decide +kernel
theorem dX9_findKeys_36 : decode cX9_findKeys 36 = .ok (.getfield 25, 3) := by decide +kernel
theorem dX9_findKeys_39 : decode cX9_findKeys 39 = .ok (.ifCond .ne 122, 3) := by decide +kernel
theorem dX9_findKeys_42 : decode cX9_findKeys 42 = .ok (.iconst 0, 1) := by decide +kernel
theorem dX9_findKeys_43 : decode cX9_findKeys 43 = .ok (.istore 4, 2) := by decide +kernel
theorem dX9_findKeys_45 : decode cX9_findKeys 45 = .ok (.iload 4, 2) := by decide +kernel
theorem dX9_findKeys_47 : decode cX9_findKeys 47 = .ok (.iload_n 2, 1) := by decide +kernel
theorem dX9_findKeys_48 : decode cX9_findKeys 48 = .ok (.if_icmp .ge 107, 3) := by decide +kernel
theorem dX9_findKeys_51 : decode cX9_findKeys 51 = .ok (.iload 4, 2) := by decide +kernel
theorem dX9_findKeys_53 : decode cX9_findKeys 53 = .ok (.aload_n 0, 1) := by decide +kernel
theorem dX9_findKeys_54 : decode cX9_findKeys 54 = .ok (.getfield 9, 3) := by decide +kernel
theorem dX9_findKeys_57 : decode cX9_findKeys 57 = .ok (.arraylength, 1) := by decide +kernel
theorem dX9_findKeys_58 : decode cX9_findKeys 58 = .ok (.if_icmp .ge 97, 3) := by decide +kernel
theorem dX9_findKeys_61 : decode cX9_findKeys 61 = .ok (.aload_n 0, 1) := by decide +kernel
theorem dX9_findKeys_62 : decode cX9_findKeys 62 = .ok (.getfield 40, 3) := by decide +kernel
theorem dX9_findKeys_65 : decode cX9_findKeys 65 = .ok (.aload_n 1, 1) := by decide +kernel
theorem dX9_findKeys_66 : decode cX9_findKeys 66 = .ok (.invokevirtual 66, 3) := by decide +kernel
theorem dX9_findKeys_69 : decode cX9_findKeys 69 = .ok (.aload_n 0, 1) := by decide +kernel
theorem dX9_findKeys_70 : decode cX9_findKeys 70 = .ok (.getfield 40, 3) := by decide +kernel
theorem dX9_findKeys_73 : decode cX9_findKeys 73 = .ok (.aload_n 0, 1) := by decide +kernel
theorem dX9_findKeys_74 : decode cX9_findKeys 74 = .ok (.getfield 9, 3) := by decide +kernel
theorem dX9_findKeys_77 : decode cX9_findKeys 77 = .ok (.iload 4, 2) := by decide +kernel
theorem dX9_findKeys_79 : decode cX9_findKeys 79 = .ok (.iaload, 1) := by decide +kernel
theorem dX9_findKeys_80 : decode cX9_findKeys 80 = .ok (.invokevirtual 70, 3) := by decide +kernel
theorem dX9_findKeys_83 : decode cX9_findKeys 83 = .ok (.iload_n 3, 1) := by decide +kernel
theorem dX9_findKeys_84 : decode cX9_findKeys 84 = .ok (.iconst 1, 1) := by decide +kernel
theorem dX9_findKeys_85 : decode cX9_findKeys 85 = .ok (.if_icmp .ne 14, 3) := by decide +kernel
theorem dX9_findKeys_88 : decode cX9_findKeys 88 = .ok (.aload_n 0, 1) := by decide +kernel
theorem dX9_findKeys_89 : decode cX9_findKeys 89 = .ok (.aload_n 0, 1) := by decide +kernel
theorem dX9_findKeys_90 : decode cX9_findKeys 90 = .ok (.getfield 40, 3) := by decide +kernel
theorem dX9_findKeys_93 : decode cX9_findKeys 93 = .ok (.invokevirtual 74, 3) := by decide +kernel
theorem dX9_findKeys_96 : decode cX9_findKeys 96 = .ok (.goto 11, 3) := by decide +kernel
theorem dX9_findKeys_99 : decode cX9_findKeys 99 = .ok (.aload_n 0, 1) := by decide +kernel
theorem dX9_findKeys_100 : decode cX9_findKeys 100 = .ok (.aload_n 0, 1) := by decide +kernel
theorem dX9_findKeys_101 : decode cX9_findKeys 101 = .ok (.getfield 40, 3) := by decide +kernel
theorem dX9_findKeys_104 : decode cX9_findKeys 104 = .ok (.invokevirtual 78, 3) := by decide +kernel
theorem dX9_findKeys_107 : decode cX9_findKeys 107 = .ok (.istore 5, 2) := by decide +kernel
theorem dX9_findKeys_109 : decode cX9_findKeys 109 = .ok (.iload 5, 2) := by decide +kernel
theorem dX9_findKeys_111 : decode cX9_findKeys 111 = .ok (.ifCond .eq 38, 3) := by decide +kernel
theorem dX9_findKeys_114 : decode cX9_findKeys 114 = .ok (.aload_n 0, 1) := by decide +kernel
theorem dX9_findKeys_115 : decode cX9_findKeys 115 = .ok (.iload_n 3, 1) := by decide +kernel
theorem dX9_findKeys_116 : decode cX9_findKeys 116 = .ok (.putfield 21, 3) := by decide +kernel
theorem dX9_findKeys_119 : decode cX9_findKeys 119 = .ok (.aload_n 0, 1) := by decide +kernel
theorem dX9_findKeys_120 : decode cX9_findKeys 120 = .ok (.aload_n 0, 1) := by decide +kernel
theorem dX9_findKeys_121 : decode cX9_findKeys 121 = .ok (.getfield 25, 3) := by decide +kernel
theorem dX9_findKeys_124 : decode cX9_findKeys 124 = .ok (.ifCond .ne 8, 3) := by decide +kernel
theorem dX9_findKeys_127 : decode cX9_findKeys 127 = .ok (.iload 4, 2) := by decide +kernel
theorem dX9_findKeys_129 : decode cX9_findKeys 129 = .ok (.goto 7, 3) := by decide +kernel
theorem dX9_findKeys_132 : decode cX9_findKeys 132 = .ok (.aload_n 0, 1) := by decide +kernel
theorem dX9_findKeys_133 : decode cX9_findKeys 133 = .ok (.getfield 28, 3) := by decide +kernel
theorem dX9_findKeys_136 : decode cX9_findKeys 136 = .ok (.putfield 28, 3) := by decide +kernel
theorem dX9_findKeys_139 : decode cX9_findKeys 139 = .ok (.aload_n 0, 1) := by decide +kernel
theorem dX9_findKeys_140 : decode cX9_findKeys 140 = .ok (.dup, 1) := by decide +kernel
theorem dX9_findKeys_141 : decode cX9_findKeys 141 = .ok (.getfield 25, 3) := by decide +kernel
theorem dX9_findKeys_144 : decode cX9_findKeys 144 = .ok (.iconst 1, 1) := by decide +kernel
theorem dX9_findKeys_145 : decode cX9_findKeys 145 = .ok (.iadd, 1) := by decide +kernel
theorem dX9_findKeys_146 : decode cX9_findKeys 146 = .ok (.putfield 25, 3) := by decide +kernel
theorem dX9_findKeys_149 : decode cX9_findKeys 149 = .ok (.iinc 4 1, 3) := by decide +kernel
theorem dX9_findKeys_152 : decode cX9_findKeys 152 = .ok (.goto (-107), 3) := by decide +kernel
theorem dX9_findKeys_155 : decode cX9_findKeys 155 = .ok (.iinc 3 2, 3) := by decide +kernel
theorem dX9_findKeys_158 : decode cX9_findKeys 158 = .ok (.goto (-128), 3) := by decide +kernel
theorem dX9_findKeys_161 : decode cX9_findKeys 161 = .ok (.return_, 1) := by decide +kernel
theorem dX11_firstKey_0 : decode cX11_firstKey 0 = .ok (.aload_n 0, 1) := by decide +kernel
theorem dX11_firstKey_1 : decode cX11_firstKey 1 = .ok (.invokevirtual 217, 3) := by decide +kernel
theorem dX11_firstKey_4 : decode cX11_firstKey 4 = .ok (.aload_n 0, 1) := by decide +kernel
theorem dX11_firstKey_5 : decode cX11_firstKey 5 = .ok (.getfield 91, 3) := by decide +kernel
theorem dX11_firstKey_8 : decode cX11_firstKey 8 = .ok (.aload_n 0, 1) := by decide +kernel
theorem dX11_firstKey_9 : decode cX11_firstKey 9 = .ok (.getfield 28, 3) := by decide +kernel
theorem dX11_firstKey_12 : decode cX11_firstKey 12 = .ok (.invokevirtual 432, 3) := by decide +kernel
theorem dX11_firstKey_15 : decode cX11_firstKey 15 = .ok (.aload_n 0, 1) := by decide +kernel
theorem dX11_firstKey_16 : decode cX11_firstKey 16 = .ok (.getfield 91, 3) := by decide +kernel
theorem dX11_firstKey_19 : decode cX11_firstKey 19 = .ok (.getfield 438, 3) := by decide +kernel
theorem dX11_firstKey_22 : decode cX11_firstKey 22 = .ok (.ifCond .ne 14, 3) := by decide +kernel
theorem dX11_firstKey_25 : decode cX11_firstKey 25 = .ok (.new 372, 3) := by decide +kernel
theorem dX11_firstKey_28 : decode cX11_firstKey 28 = .ok (.dup, 1) := by decide +kernel
theorem dX11_firstKey_29 : decode cX11_firstKey 29 = .ok (.ldc_w 441, 3) := by decide +kernel
theorem dX11_firstKey_32 : decode cX11_firstKey 32 = .ok (.invokespecial 376, 3) := by decide +kernel
theorem dX11_firstKey_35 : decode cX11_firstKey 35 = .ok (.athrow, 1) := by decide +kernel
theorem dX11_firstKey_36 : decode cX11_firstKey 36 = .ok (.aload_n 0, 1) := by decide +kernel
theorem dX11_firstKey_37 : decode cX11_firstKey 37 = .ok (.getfield 91, 3) := by decide +kernel
theorem dX11_firstKey_40 : decode cX11_firstKey 40 = .ok (.getfield 443, 3) := by decide +kernel
theorem dX11_firstKey_43 : decode cX11_firstKey 43 = .ok (.ireturn, 1) := by decide +kernel
theorem dX3_firstFresh_0 : decode cX3_firstFresh 0 = .ok (.iconst 0, 1) := by decide +kernel
theorem dX3_firstFresh_1 : decode cX3_firstFresh 1 = .ok (.istore_n 1, 1) := by decide +kernel
theorem dX3_firstFresh_2 : decode cX3_firstFresh 2 = .ok (.iload_n 1, 1) := by decide +kernel
theorem dX3_firstFresh_3 : decode cX3_firstFresh 3 = .ok (.aload_n 0, 1) := by decide +kernel
theorem dX3_firstFresh_4 : decode cX3_firstFresh 4 = .ok (.getfield 9, 3) := by decide +kernel
theorem dX3_firstFresh_7 : decode cX3_firstFresh 7 = .ok (.if_icmp .gt 19, 3) := by decide +kernel
theorem dX3_firstFresh_10 : decode cX3_firstFresh 10 = .ok (.aload_n 0, 1) := by decide +kernel
theorem dX3_firstFresh_11 : decode cX3_firstFresh 11 = .ok (.iload_n 1, 1) := by decide +kernel
theorem dX3_firstFresh_12 : decode cX3_firstFresh 12 = .ok (.invokevirtual 93, 3) := by decide +kernel
theorem dX3_firstFresh_15 : decode cX3_firstFresh 15 = .ok (.ifCond .eq 5, 3) := by decide +kernel
theorem dX3_firstFresh_18 : decode cX3_firstFresh 18 = .ok (.iload_n 1, 1) := by decide +kernel
theorem dX3_firstFresh_19 : decode cX3_firstFresh 19 = .ok (.ireturn, 1) := by decide +kernel
theorem dX3_firstFresh_20 : decode cX3_firstFresh 20 = .ok (.iinc 1 1, 3) := by decide +kernel
theorem dX3_firstFresh_23 : decode cX3_firstFresh 23 = .ok (.goto (-21), 3) := by decide +kernel
theorem dX3_firstFresh_26 : decode cX3_firstFresh 26 = .ok (.iconst (-1), 1) := by decide +kernel
theorem dX3_firstFresh_27 : decode cX3_firstFresh 27 = .ok (.ireturn, 1) := by decide +kernel
theorem dX11_forcesMate_0 : decode cX11_forcesMate 0 = .ok (.aload_n 0, 1) := by decide +kernel
theorem dX11_forcesMate_1 : decode cX11_forcesMate 1 = .ok (.invokevirtual 217, 3) := by decide +kernel
theorem dX11_forcesMate_4 : decode cX11_forcesMate 4 = .ok (.aload_n 0, 1) := by decide +kernel
theorem dX11_forcesMate_5 : decode cX11_forcesMate 5 = .ok (.getfield 91, 3) := by decide +kernel
theorem dX11_forcesMate_8 : decode cX11_forcesMate 8 = .ok (.aload_n 0, 1) := by decide +kernel
theorem dX11_forcesMate_9 : decode cX11_forcesMate 9 = .ok (.getfield 28, 3) := by decide +kernel
theorem dX11_forcesMate_12 : decode cX11_forcesMate 12 = .ok (.invokevirtual 432, 3) := by decide +kernel
theorem dX11_forcesMate_15 : decode cX11_forcesMate 15 = .ok (.aload_n 0, 1) := by decide +kernel
theorem dX11_forcesMate_16 : decode cX11_forcesMate 16 = .ok (.getfield 91, 3) := by decide +kernel
theorem dX11_forcesMate_19 : decode cX11_forcesMate 19 = .ok (.getfield 435, 3) := by decide +kernel
theorem dX11_forcesMate_22 : decode cX11_forcesMate 22 = .ok (.ireturn, 1) := by decide +kernel
theorem dX11_greatestDivisor_0 : decode cX11_greatestDivisor 0 = .ok (.iload_n 0, 1) := by decide +kernel
theorem dX11_greatestDivisor_1 : decode cX11_greatestDivisor 1 = .ok (.istore_n 2, 1) := by decide +kernel
theorem dX11_greatestDivisor_2 : decode cX11_greatestDivisor 2 = .ok (.iload_n 1, 1) := by decide +kernel
theorem dX11_greatestDivisor_3 : decode cX11_greatestDivisor 3 = .ok (.istore_n 3, 1) := by decide +kernel
theorem dX11_greatestDivisor_4 : decode cX11_greatestDivisor 4 = .ok (.iconst 0, 1) := by decide +kernel
theorem dX11_greatestDivisor_5 : decode cX11_greatestDivisor 5 = .ok (.istore 4, 2) := by decide +kernel
theorem dX11_greatestDivisor_7 : decode cX11_greatestDivisor 7 = .ok (.iload 4, 2) := by decide +kernel
theorem dX11_greatestDivisor_9 : decode cX11_greatestDivisor 9 = .ok (.bipush 64, 2) := by decide +kernel
theorem dX11_greatestDivisor_11 : decode cX11_greatestDivisor 11 = .ok (.if_icmp .ge 23, 3) := by decide +kernel
theorem dX11_greatestDivisor_14 : decode cX11_greatestDivisor 14 = .ok (.iload_n 3, 1) := by decide +kernel
theorem dX11_greatestDivisor_15 : decode cX11_greatestDivisor 15 = .ok (.ifCond .eq 19, 3) := by decide +kernel
theorem dX11_greatestDivisor_18 : decode cX11_greatestDivisor 18 = .ok (.iload_n 2, 1) := by decide +kernel
theorem dX11_greatestDivisor_19 : decode cX11_greatestDivisor 19 = .ok (.iload_n 3, 1) := by decide +kernel
theorem dX11_greatestDivisor_20 : decode cX11_greatestDivisor 20 = .ok (.irem, 1) := by decide +kernel
theorem dX11_greatestDivisor_21 : decode cX11_greatestDivisor 21 = .ok (.istore 5, 2) := by decide +kernel
theorem dX11_greatestDivisor_23 : decode cX11_greatestDivisor 23 = .ok (.iload_n 3, 1) := by decide +kernel
theorem dX11_greatestDivisor_24 : decode cX11_greatestDivisor 24 = .ok (.istore_n 2, 1) := by decide +kernel
theorem dX11_greatestDivisor_25 : decode cX11_greatestDivisor 25 = .ok (.iload 5, 2) := by decide +kernel
theorem dX11_greatestDivisor_27 : decode cX11_greatestDivisor 27 = .ok (.istore_n 3, 1) := by decide +kernel
theorem dX11_greatestDivisor_28 : decode cX11_greatestDivisor 28 = .ok (.iinc 4 1, 3) := by decide +kernel
theorem dX11_greatestDivisor_31 : decode cX11_greatestDivisor 31 = .ok (.goto (-24), 3) := by decide +kernel
theorem dX11_greatestDivisor_34 : decode cX11_greatestDivisor 34 = .ok (.iload_n 2, 1) := by decide +kernel
theorem dX11_greatestDivisor_35 : decode cX11_greatestDivisor 35 = .ok (.ireturn, 1) := by decide +kernel
theorem dX11_holds_0 : decode cX11_holds 0 = .ok (.aload_n 0, 1) := by decide +kernel
theorem dX11_holds_1 : decode cX11_holds 1 = .ok (.getfield 28, 3) := by decide +kernel
theorem dX11_holds_4 : decode cX11_holds 4 = .ok (.aload_n 0, 1) := by decide +kernel
theorem dX11_holds_5 : decode cX11_holds 5 = .ok (.getfield 112, 3) := by decide +kernel
theorem dX11_holds_8 : decode cX11_holds 8 = .ok (.invokevirtual 424, 3) := by decide +kernel
theorem dX11_holds_11 : decode cX11_holds 11 = .ok (.ireturn, 1) := by decide +kernel
theorem dX3_begin_0 : decode cX3_begin 0 = .ok (.aload_n 0, 1) := by decide +kernel
theorem dX3_begin_1 : decode cX3_begin 1 = .ok (.iconst 0, 1) := by decide +kernel
theorem dX3_begin_2 : decode cX3_begin 2 = .ok (.putfield 9, 3) := by decide +kernel
theorem dX3_begin_5 : decode cX3_begin 5 = .ok (.aload_n 1, 1) := by decide +kernel
theorem dX3_begin_6 : decode cX3_begin 6 = .ok (.aload_n 0, 1) := by decide +kernel
theorem dX3_begin_7 : decode cX3_begin 7 = .ok (.getfield 36, 3) := by decide +kernel
theorem dX3_begin_10 : decode cX3_begin 10 = .ok (.iconst 0, 1) := by decide +kernel
theorem dX3_begin_11 : decode cX3_begin 11 = .ok (.invokevirtual 48, 3) := by decide +kernel
theorem dX3_begin_14 : decode cX3_begin 14 = .ok (.return_, 1) := by decide +kernel
theorem dX7_clear_0 : decode cX7_clear 0 = .ok (.aload_n 0, 1) := by decide +kernel
theorem dX7_clear_1 : decode cX7_clear 1 = .ok (.lconst 0, 1) := by decide +kernel
theorem dX7_clear_2 : decode cX7_clear 2 = .ok (.putfield 9, 3) := by decide +kernel
theorem dX7_clear_5 : decode cX7_clear 5 = .ok (.aload_n 0, 1) := by decide +kernel
theorem dX7_clear_6 : decode cX7_clear 6 = .ok (.lconst 0, 1) := by decide +kernel
theorem dX7_clear_7 : decode cX7_clear 7 = .ok (.putfield 15, 3) := by decide +kernel
theorem dX7_clear_10 : decode cX7_clear 10 = .ok (.aload_n 0, 1) := by decide +kernel
theorem dX7_clear_11 : decode cX7_clear 11 = .ok (.lconst 0, 1) := by decide +kernel
theorem dX7_clear_12 : decode cX7_clear 12 = .ok (.putfield 18, 3) := by decide +kernel
theorem dX7_clear_15 : decode cX7_clear 15 = .ok (.aload_n 0, 1) := by decide +kernel
theorem dX7_clear_16 : decode cX7_clear 16 = .ok (.lconst 0, 1) := by decide +kernel
theorem dX7_clear_17 : decode cX7_clear 17 = .ok (.putfield 21, 3) := by decide +kernel
theorem dX7_clear_20 : decode cX7_clear 20 = .ok (.aload_n 0, 1) := by decide +kernel
theorem dX7_clear_21 : decode cX7_clear 21 = .ok (.iconst 1, 1) := by decide +kernel
theorem dX7_clear_22 : decode cX7_clear 22 = .ok (.putfield 24, 3) := by decide +kernel
theorem dX7_clear_25 : decode cX7_clear 25 = .ok (.aload_n 0, 1) := by decide +kernel
theorem dX7_clear_26 : decode cX7_clear 26 = .ok (.iconst 0, 1) := by decide +kernel
theorem dX7_clear_27 : decode cX7_clear 27 = .ok (.putfield 28, 3) := by decide +kernel
theorem dX7_clear_30 : decode cX7_clear 30 = .ok (.aload_n 0, 1) := by decide +kernel
theorem dX7_clear_31 : decode cX7_clear 31 = .ok (.iconst (-1), 1) := by decide +kernel
theorem dX7_clear_32 : decode cX7_clear 32 = .ok (.putfield 32, 3) := by decide +kernel
theorem dX7_clear_35 : decode cX7_clear 35 = .ok (.return_, 1) := by decide +kernel
theorem dX11_isAttacked_0 : decode cX11_isAttacked 0 = .ok (.aload_n 0, 1) := by decide +kernel
theorem dX11_isAttacked_1 : decode cX11_isAttacked 1 = .ok (.iload_n 1, 1) := by decide +kernel
theorem dX11_isAttacked_2 : decode cX11_isAttacked 2 = .ok (.invokevirtual 160, 3) := by decide +kernel
theorem dX11_isAttacked_5 : decode cX11_isAttacked 5 = .ok (.aload_n 0, 1) := by decide +kernel
theorem dX11_isAttacked_6 : decode cX11_isAttacked 6 = .ok (.getfield 28, 3) := by decide +kernel
theorem dX11_isAttacked_9 : decode cX11_isAttacked 9 = .ok (.iload_n 1, 1) := by decide +kernel
theorem dX11_isAttacked_10 : decode cX11_isAttacked 10 = .ok (.iload_n 2, 1) := by decide +kernel
theorem dX11_isAttacked_11 : decode cX11_isAttacked 11 = .ok (.aload_n 0, 1) := by decide +kernel
theorem dX11_isAttacked_12 : decode cX11_isAttacked 12 = .ok (.getfield 28, 3) := by decide +kernel
theorem dX11_isAttacked_15 : decode cX11_isAttacked 15 = .ok (.invokevirtual 199, 3) := by decide +kernel
theorem dX11_isAttacked_18 : decode cX11_isAttacked 18 = .ok (.invokevirtual 213, 3) := by decide +kernel
theorem dX11_isAttacked_21 : decode cX11_isAttacked 21 = .ok (.lconst 0, 1) := by decide +kernel
theorem dX11_isAttacked_22 : decode cX11_isAttacked 22 = .ok (.lcmp, 1) := by decide +kernel
theorem dX11_isAttacked_23 : decode cX11_isAttacked 23 = .ok (.ifCond .eq 7, 3) := by decide +kernel
theorem dX11_isAttacked_26 : decode cX11_isAttacked 26 = .ok (.iconst 1, 1) := by decide +kernel
theorem dX11_isAttacked_27 : decode cX11_isAttacked 27 = .ok (.goto 4, 3) := by decide +kernel
theorem dX11_isAttacked_30 : decode cX11_isAttacked 30 = .ok (.iconst 0, 1) := by decide +kernel
theorem dX11_isAttacked_31 : decode cX11_isAttacked 31 = .ok (.ireturn, 1) := by decide +kernel
def wp_X9_rowsOfTwo_76 (D : wD) (post : Int32 → wS → Prop)  (S : wS) (x2 : Int32) : Prop :=
post x2 S
def wp_X9_rowsOfTwo_18 (D : wD) (post : Int32 → wS → Prop)  : Nat → wS → Nat → Nat → Int32 → Int32 → Int32 → Prop
  | 0, _, _, _, _, _, _ => False
  | n + 1, S, a0, a1, x2, x3, x4 =>
    ((x3 ≤ x4 → wp_X9_rowsOfTwo_76 D post S x2) ∧
     (¬ x3 ≤ x4 → ∃ y_2 : Nat, sR S a0 2 = some y_2 ∧ wM D S y_2 ∧ sK S y_2 = 21 ∧
    (((Int32.ofNat (sN S y_2)) ≤ x4 → wp_X9_rowsOfTwo_76 D post S x2) ∧
     (¬ (Int32.ofNat (sN S y_2)) ≤ x4 → ∃ y_4 : Nat, sR S a0 5 = some y_4 ∧ wM D S y_4 ∧ sK S y_4 = 12 ∧
    wp_X7_copy D (fun S_6 => 
    ∃ y_7 : Nat, sR S_6 a0 5 = some y_7 ∧ wM D S_6 y_7 ∧ sK S_6 y_7 = 12 ∧
    ∃ y_8 : Nat, sR S_6 a0 2 = some y_8 ∧ wM D S_6 y_8 ∧ sK S_6 y_8 = 21 ∧
    vp_in x4 (sN S_6 y_8) ∧
    wp_X7_apply D (fun S_11 => 
    ∃ y_12 : Nat, sR S_11 a0 0 = some y_12 ∧ wM D S_11 y_12 ∧ sK S_11 y_12 = 13 ∧
    ∃ y_13 : Nat, sR S_11 a0 5 = some y_13 ∧ wM D S_11 y_13 ∧ sK S_11 y_13 = 12 ∧
    wp_X8_numberOfMoves D (fun r_14 S_15 => 
    ∀ x_16 : Int32, x_16 = (x2 + r_14) →
    ∀ x_17 : Int32, x_17 = x4 + 1 →
    wp_X9_rowsOfTwo_18 D post n S_15 a0 a1 x_16 x3 x_17) S_11 y_12 y_13) S_6 y_7 (sI S_6 y_8 (x4).toNatClampNeg)) S y_4 a1))))
def wp_X9_rowsOfTwo_0 (D : wD) (post : Int32 → wS → Prop)  (S : wS) (a0 : Nat) (a1 : Nat) : Prop :=
∃ y_1 : Nat, sR S a0 0 = some y_1 ∧ wM D S y_1 ∧ sK S y_1 = 13 ∧
∃ y_2 : Nat, sR S a0 2 = some y_2 ∧ wM D S y_2 ∧ sK S y_2 = 21 ∧
wp_X8_generate D (fun r_3 S_4 => 
∃ n_5 : Nat, wp_X9_rowsOfTwo_18 D post n_5 S_4 a0 a1 (0 : Int32) r_3 (0 : Int32)) S y_1 a1 y_2
abbrev r_X9_rowsOfTwo : Room := { frames := 4, cells := 0, slots := 0, locals := 125 }
def wp_X9_rowsOfTwo (D : wD) (post : Int32 → wS → Prop) (S : wS) (a0 : Nat) (a1 : Nat) : Prop := wp_X9_rowsOfTwo_0 D post S a0 a1
set_option maxHeartbeats 4000000 in
set_option maxRecDepth 100000 in
theorem t_X9_rowsOfTwo_76 {p : Program} {l : Launch} {e : Env} {s : State} {m : MethodId} {args : Array Value} {below : List Frame} {meth : Method} {c : Code} {D : wD} {cy : Nat → ClassId} {X : va_W} {A : Nat → Prop} {S0 : wS} {post : Int32 → wS → Prop} (F : CallFix p m c cX9_rowsOfTwo 5 s args wz_X9_rowsOfTwo RX9) (hr : meth.sig.returnType = (some .int)) (hlocks : meth.locks = false) (hK : wK D cy A s) : ∀ {S : wS} {H : Heap} {locs : List Loc} {ls : Array Slot} {x2 : Int32}, wp_X9_rowsOfTwo_76 D post S x2 → wO D cy X A s.heap S H locs → wX D S0 S → lv_has ls 5 [(2, .int x2)] → W p l e r_X9_rowsOfTwo s m args below meth c H locs 0 0 (MQ below (va_Qi (fun r S9 => wX D S0 S9 ∧ post r S9) (wB D cy X A) A) args s 0 0 A) (F0 m 76 ls []) := by
  obtain ⟨hx, hb, hml, hown, hts⟩ := id F
  have hwg : ∀ w ∈ WG, w.before args s = true := fun w h => hts w (List.mem_cons_of_mem _ h)
  intro S H locs ls x2 hp hW hE hl
  unfold wp_X9_rowsOfTwo_76 at hp
  refine lv_iload_n hx hb dX9_rowsOfTwo_76 rfl (lv_at hl 0 rfl) ?_
  exact w_iret hx hb hr hlocks hW ⟨hE, hp⟩ dX9_rowsOfTwo_77
set_option maxHeartbeats 4000000 in
set_option maxRecDepth 100000 in
theorem t_X9_rowsOfTwo_18 {p : Program} {l : Launch} {e : Env} {s : State} {m : MethodId} {args : Array Value} {below : List Frame} {meth : Method} {c : Code} {D : wD} {cy : Nat → ClassId} {X : va_W} {A : Nat → Prop} {S0 : wS} {post : Int32 → wS → Prop} (F : CallFix p m c cX9_rowsOfTwo 5 s args wz_X9_rowsOfTwo RX9) (hr : meth.sig.returnType = (some .int)) (hlocks : meth.locks = false) (hK : wK D cy A s) : ∀ (n : Nat) {S : wS} {H : Heap} {locs : List Loc} {ls : Array Slot} {a0 : Nat} {a1 : Nat} {x2 : Int32} {x3 : Int32} {x4 : Int32}, wp_X9_rowsOfTwo_18 D post n S a0 a1 x2 x3 x4 → wO D cy X A s.heap S H locs → wX D S0 S → lv_has ls 5 [(0, .ref a0), (1, .ref a1), (2, .int x2), (3, .int x3), (4, .int x4)] → wM D S a0 → sK S a0 = 14 → wM D S a1 → sK S a1 = 12 → W p l e r_X9_rowsOfTwo s m args below meth c H locs 0 0 (MQ below (va_Qi (fun r S9 => wX D S0 S9 ∧ post r S9) (wB D cy X A) A) args s 0 0 A) (F0 m 18 ls []) := by
  obtain ⟨hx, hb, hml, hown, hts⟩ := id F
  have hwg : ∀ w ∈ WG, w.before args s = true := fun w h => hts w (List.mem_cons_of_mem _ h)
  have i_14 : ∀ w ∈ u_ws RX9 TX9 10, w ∈ wz_X9_rowsOfTwo := fun w h => List.mem_cons_of_mem _ (wu_14 w h)
  have k_15 := hwg _ wf_RX9_15
  have k_31 := hwg _ wf_RX9_31
  have k_44 := hwg _ wf_RX9_44
  intro n
  induction n with
  | zero =>
    intro S H locs ls a0 a1 x2 x3 x4 hp
    exact hp.elim
  | succ n ih =>
    intro S H locs ls a0 a1 x2 x3 x4 hp hW hE hl hL_a0 hK_a0 hL_a1 hK_a1
    unfold wp_X9_rowsOfTwo_18 at hp
    refine lv_iload hx hb dX9_rowsOfTwo_18 (lv_at hl 4 rfl) ?_
    refine lv_iload_n hx hb dX9_rowsOfTwo_20 rfl (lv_at hl 3 rfl) ?_
    refine lv_icmp_ge (tgt := 76) hx hb dX9_rowsOfTwo_21 (by decide) (fun c_1 => ?_) (fun c_1 => ?_)
    · replace hp := hp.1 c_1
      exact t_X9_rowsOfTwo_76 F hr hlocks hK hp hW hE (lv_sub hl [2] rfl)
    · replace hp := hp.2 c_1
      refine lv_iload hx hb dX9_rowsOfTwo_24 (lv_at hl 4 rfl) ?_
      refine lv_aload_n hx hb dX9_rowsOfTwo_26 rfl (lv_at hl 0 rfl) ?_
      obtain ⟨y_2, ey_2, hL_y_2, hK_y_2, hp⟩ := hp
      refine w_get (k := 14) (f := 2) (T := TX9) (v := .ref y_2) F hK hW hL_a0 hK_a0 (by decide) rfl rfl (by decide) i_14 k_15 (by rw [show wv 14 2 S a0 = va_rf (sR S a0 2) from rfl, ey_2]; rfl) dX9_rowsOfTwo_27 ?_
      refine w_len F hK hW hL_y_2 hK_y_2 (by decide) dX9_rowsOfTwo_30 ?_
      refine lv_icmp_ge (tgt := 76) hx hb dX9_rowsOfTwo_31 (by decide) (fun c_3 => ?_) (fun c_3 => ?_)
      · replace hp := hp.1 c_3
        exact t_X9_rowsOfTwo_76 F hr hlocks hK hp hW hE (lv_sub hl [2] rfl)
      · replace hp := hp.2 c_3
        refine lv_aload_n hx hb dX9_rowsOfTwo_34 rfl (lv_at hl 0 rfl) ?_
        obtain ⟨y_4, ey_4, hL_y_4, hK_y_4, hp⟩ := hp
        refine w_get (k := 14) (f := 5) (T := TX9) (v := .ref y_4) F hK hW hL_a0 hK_a0 (by decide) rfl rfl (by decide) i_14 k_44 (by rw [show wv 14 5 S a0 = va_rf (sR S a0 5) from rfl, ey_4]; rfl) dX9_rowsOfTwo_35 ?_
        refine lv_aload_n hx hb dX9_rowsOfTwo_38 rfl (lv_at hl 1 rfl) ?_
        refine w_callV (va_runV (As := [.ref a1]) (rest := []) F (c_X7_copy l hL_y_4 hK_y_4 hL_a1 hK_a1 hp H.size) (cwV (C := RX7) 1 hts (wg_V wm_RX9_66 wy_X7_copy) rfl rfl rfl (by decide +kernel) ⟨Nat.le_of_ble_eq_true rfl, Nat.le_of_ble_eq_true rfl⟩) (w_preV hK hW hL_y_4 hK_y_4 (by decide) rfl) rfl rfl hl.1 rfl (lv_room (Nat.le_of_ble_eq_true rfl)) dX9_rowsOfTwo_39 ⟨Nat.le_of_ble_eq_true rfl, Nat.le_of_ble_eq_true rfl⟩) hW (fun S_6 H locs hp hW => ?_)
        obtain ⟨hX_S_6, hp⟩ := hp
        refine W.widen (k := 0) (n := 0) (by decide) (by decide) ?_
        have hE := hE.trans hX_S_6
        have hK_a0 : sK S_6 a0 = 14 := (hX_S_6.2 a0 hL_a0).1.trans hK_a0
        have hL_a0 : wM D S_6 a0 := hX_S_6.M hL_a0
        have hK_a1 : sK S_6 a1 = 12 := (hX_S_6.2 a1 hL_a1).1.trans hK_a1
        have hL_a1 : wM D S_6 a1 := hX_S_6.M hL_a1
        refine lv_aload_n hx hb dX9_rowsOfTwo_42 rfl (lv_at hl 0 rfl) ?_
        obtain ⟨y_7, ey_7, hL_y_7, hK_y_7, hp⟩ := hp
        refine w_get (k := 14) (f := 5) (T := TX9) (v := .ref y_7) F hK hW hL_a0 hK_a0 (by decide) rfl rfl (by decide) i_14 k_44 (by rw [show wv 14 5 S_6 a0 = va_rf (sR S_6 a0 5) from rfl, ey_7]; rfl) dX9_rowsOfTwo_43 ?_
        refine lv_aload_n hx hb dX9_rowsOfTwo_46 rfl (lv_at hl 0 rfl) ?_
        obtain ⟨y_8, ey_8, hL_y_8, hK_y_8, hp⟩ := hp
        refine w_get (k := 14) (f := 2) (T := TX9) (v := .ref y_8) F hK hW hL_a0 hK_a0 (by decide) rfl rfl (by decide) i_14 k_15 (by rw [show wv 14 2 S_6 a0 = va_rf (sR S_6 a0 2) from rfl, ey_8]; rfl) dX9_rowsOfTwo_47 ?_
        refine lv_iload hx hb dX9_rowsOfTwo_50 (lv_at hl 4 rfl) ?_
        obtain ⟨h_9, hp⟩ := hp
        refine w_ild F hK hW hL_y_8 hK_y_8 h_9 dX9_rowsOfTwo_52 ?_
        refine w_callV (va_runV (As := [.int (sI S_6 y_8 (x4).toNatClampNeg)]) (rest := []) F (c_X7_apply l hL_y_7 hK_y_7 hp H.size) (cwV (C := RX7) 1 hts (wg_V wm_RX9_70 wy_X7_apply) rfl rfl rfl (by decide +kernel) ⟨Nat.le_of_ble_eq_true rfl, Nat.le_of_ble_eq_true rfl⟩) (w_preV hK hW hL_y_7 hK_y_7 (by decide) rfl) rfl rfl hl.1 rfl (lv_room (Nat.le_of_ble_eq_true rfl)) dX9_rowsOfTwo_53 ⟨Nat.le_of_ble_eq_true rfl, Nat.le_of_ble_eq_true rfl⟩) hW (fun S_11 H locs hp hW => ?_)
        obtain ⟨hX_S_11, hp⟩ := hp
        refine W.widen (k := 0) (n := 0) (by decide) (by decide) ?_
        have hE := hE.trans hX_S_11
        have hK_a0 : sK S_11 a0 = 14 := (hX_S_11.2 a0 hL_a0).1.trans hK_a0
        have hL_a0 : wM D S_11 a0 := hX_S_11.M hL_a0
        have hK_a1 : sK S_11 a1 = 12 := (hX_S_11.2 a1 hL_a1).1.trans hK_a1
        have hL_a1 : wM D S_11 a1 := hX_S_11.M hL_a1
        refine lv_iload_n hx hb dX9_rowsOfTwo_56 rfl (lv_at hl 2 rfl) ?_
        refine lv_aload_n hx hb dX9_rowsOfTwo_57 rfl (lv_at hl 0 rfl) ?_
        obtain ⟨y_12, ey_12, hL_y_12, hK_y_12, hp⟩ := hp
        refine w_get (k := 14) (f := 0) (T := TX9) (v := .ref y_12) F hK hW hL_a0 hK_a0 (by decide) rfl rfl (by decide) i_14 k_31 (by rw [show wv 14 0 S_11 a0 = va_rf (sR S_11 a0 0) from rfl, ey_12]; rfl) dX9_rowsOfTwo_58 ?_
        refine lv_aload_n hx hb dX9_rowsOfTwo_61 rfl (lv_at hl 0 rfl) ?_
        obtain ⟨y_13, ey_13, hL_y_13, hK_y_13, hp⟩ := hp
        refine w_get (k := 14) (f := 5) (T := TX9) (v := .ref y_13) F hK hW hL_a0 hK_a0 (by decide) rfl rfl (by decide) i_14 k_44 (by rw [show wv 14 5 S_11 a0 = va_rf (sR S_11 a0 5) from rfl, ey_13]; rfl) dX9_rowsOfTwo_62 ?_
        refine w_callI (va_runV (As := [.ref y_13]) (rest := [.int x2]) F (c_X8_numberOfMoves l hL_y_12 hK_y_12 hL_y_13 hK_y_13 hp H.size) (cwV (C := RX8) 1 hts (wg_V wm_RX9_50 wy_X8_numberOfMoves) rfl rfl rfl (by decide +kernel) ⟨Nat.le_of_ble_eq_true rfl, Nat.le_of_ble_eq_true rfl⟩) (w_preV hK hW hL_y_12 hK_y_12 (by decide) rfl) rfl rfl hl.1 rfl (lv_room (Nat.le_of_ble_eq_true rfl)) dX9_rowsOfTwo_65 ⟨Nat.le_of_ble_eq_true rfl, Nat.le_of_ble_eq_true rfl⟩) hW (fun r_14 S_15 H locs hp hW => ?_)
        obtain ⟨hX_S_15, hp⟩ := hp
        refine W.widen (k := 0) (n := 0) (by decide) (by decide) ?_
        have hE := hE.trans hX_S_15
        have hK_a0 : sK S_15 a0 = 14 := (hX_S_15.2 a0 hL_a0).1.trans hK_a0
        have hL_a0 : wM D S_15 a0 := hX_S_15.M hL_a0
        have hK_a1 : sK S_15 a1 = 12 := (hX_S_15.2 a1 hL_a1).1.trans hK_a1
        have hL_a1 : wM D S_15 a1 := hX_S_15.M hL_a1
        refine lv_iadd hx hb dX9_rowsOfTwo_68 ?_
        refine lv_topi (fun x_16 ex_16 => ?_)
        replace hp := hp x_16 ex_16
        refine lv_istore_n (lv' := [(2, .int x_16), (0, .ref a0), (1, .ref a1), (3, .int x3), (4, .int x4)]) hx hb dX9_rowsOfTwo_69 rfl hl (by decide) rfl (fun ls hl => ?_)
        obtain ⟨x_17, ex_17⟩ : ∃ z : Int32, z = x4 + 1 := ⟨_, rfl⟩
        replace hp := hp x_17 ex_17
        refine lv_iinc (v := x_17) (lv' := [(4, .int x_17), (2, .int x_16), (0, .ref a0), (1, .ref a1), (3, .int x3)]) hx hb dX9_rowsOfTwo_70 hl (k := 4) rfl (by rw [ex_17]; rfl) (by decide) rfl (fun ls hl => ?_)
        refine lv_goto (tgt := 18) hx hb dX9_rowsOfTwo_73 (by decide) ?_
        exact ih hp hW hE (lv_sub hl [2, 3, 1, 4, 0] rfl) hL_a0 hK_a0 hL_a1 hK_a1
set_option maxHeartbeats 4000000 in
set_option maxRecDepth 100000 in
theorem t_X9_rowsOfTwo_0 {p : Program} {l : Launch} {e : Env} {s : State} {m : MethodId} {args : Array Value} {below : List Frame} {meth : Method} {c : Code} {D : wD} {cy : Nat → ClassId} {X : va_W} {A : Nat → Prop} {S0 : wS} {post : Int32 → wS → Prop} (F : CallFix p m c cX9_rowsOfTwo 5 s args wz_X9_rowsOfTwo RX9) (hr : meth.sig.returnType = (some .int)) (hlocks : meth.locks = false) (hK : wK D cy A s) : ∀ {S : wS} {H : Heap} {locs : List Loc} {ls : Array Slot} {a0 : Nat} {a1 : Nat}, wp_X9_rowsOfTwo_0 D post S a0 a1 → wO D cy X A s.heap S H locs → wX D S0 S → lv_has ls 5 [(0, .ref a0), (1, .ref a1)] → wM D S a0 → sK S a0 = 14 → wM D S a1 → sK S a1 = 12 → W p l e r_X9_rowsOfTwo s m args below meth c H locs 0 0 (MQ below (va_Qi (fun r S9 => wX D S0 S9 ∧ post r S9) (wB D cy X A) A) args s 0 0 A) (F0 m 0 ls []) := by
  obtain ⟨hx, hb, hml, hown, hts⟩ := id F
  have hwg : ∀ w ∈ WG, w.before args s = true := fun w h => hts w (List.mem_cons_of_mem _ h)
  have i_14 : ∀ w ∈ u_ws RX9 TX9 10, w ∈ wz_X9_rowsOfTwo := fun w h => List.mem_cons_of_mem _ (wu_14 w h)
  have k_15 := hwg _ wf_RX9_15
  have k_31 := hwg _ wf_RX9_31
  intro S H locs ls a0 a1 hp hW hE hl hL_a0 hK_a0 hL_a1 hK_a1
  unfold wp_X9_rowsOfTwo_0 at hp
  refine lv_iconst (v := 0) hx hb dX9_rowsOfTwo_0 (by decide) ?_
  refine lv_istore_n (lv' := [(2, .int (0 : Int32)), (0, .ref a0), (1, .ref a1)]) hx hb dX9_rowsOfTwo_1 rfl hl (by decide) rfl (fun ls hl => ?_)
  refine lv_aload_n hx hb dX9_rowsOfTwo_2 rfl (lv_at hl 1 rfl) ?_
  obtain ⟨y_1, ey_1, hL_y_1, hK_y_1, hp⟩ := hp
  refine w_get (k := 14) (f := 0) (T := TX9) (v := .ref y_1) F hK hW hL_a0 hK_a0 (by decide) rfl rfl (by decide) i_14 k_31 (by rw [show wv 14 0 S a0 = va_rf (sR S a0 0) from rfl, ey_1]; rfl) dX9_rowsOfTwo_3 ?_
  refine lv_aload_n hx hb dX9_rowsOfTwo_6 rfl (lv_at hl 2 rfl) ?_
  refine lv_aload_n hx hb dX9_rowsOfTwo_7 rfl (lv_at hl 1 rfl) ?_
  obtain ⟨y_2, ey_2, hL_y_2, hK_y_2, hp⟩ := hp
  refine w_get (k := 14) (f := 2) (T := TX9) (v := .ref y_2) F hK hW hL_a0 hK_a0 (by decide) rfl rfl (by decide) i_14 k_15 (by rw [show wv 14 2 S a0 = va_rf (sR S a0 2) from rfl, ey_2]; rfl) dX9_rowsOfTwo_8 ?_
  refine w_callI (va_runV (As := [.ref a1, .ref y_2]) (rest := []) F (c_X8_generate l hL_y_1 hK_y_1 hL_a1 hK_a1 hL_y_2 hK_y_2 hp H.size) (cwV (C := RX8) 2 hts (wg_V wm_RX9_62 wy_X8_generate) rfl rfl rfl (by decide +kernel) ⟨Nat.le_of_ble_eq_true rfl, Nat.le_of_ble_eq_true rfl⟩) (w_preV hK hW hL_y_1 hK_y_1 (by decide) rfl) rfl rfl hl.1 rfl (lv_room (Nat.le_of_ble_eq_true rfl)) dX9_rowsOfTwo_11 ⟨Nat.le_of_ble_eq_true rfl, Nat.le_of_ble_eq_true rfl⟩) hW (fun r_3 S_4 H locs hp hW => ?_)
  obtain ⟨hX_S_4, hp⟩ := hp
  refine W.widen (k := 0) (n := 0) (by decide) (by decide) ?_
  have hE := hE.trans hX_S_4
  have hK_a0 : sK S_4 a0 = 14 := (hX_S_4.2 a0 hL_a0).1.trans hK_a0
  have hL_a0 : wM D S_4 a0 := hX_S_4.M hL_a0
  have hK_a1 : sK S_4 a1 = 12 := (hX_S_4.2 a1 hL_a1).1.trans hK_a1
  have hL_a1 : wM D S_4 a1 := hX_S_4.M hL_a1
  refine lv_istore_n (lv' := [(3, .int r_3), (2, .int (0 : Int32)), (0, .ref a0), (1, .ref a1)]) hx hb dX9_rowsOfTwo_14 rfl hl (by decide) rfl (fun ls hl => ?_)
  refine lv_iconst (v := 0) hx hb dX9_rowsOfTwo_15 (by decide) ?_
  refine lv_istore (lv' := [(4, .int (0 : Int32)), (3, .int r_3), (2, .int (0 : Int32)), (0, .ref a0), (1, .ref a1)]) hx hb dX9_rowsOfTwo_16 hl (by decide) rfl (fun ls hl => ?_)
  obtain ⟨n_5, hp⟩ := hp
  exact t_X9_rowsOfTwo_18 F hr hlocks hK n_5 hp hW hE (lv_sub hl [3, 4, 2, 1, 0] rfl) hL_a0 hK_a0 hL_a1 hK_a1
set_option maxHeartbeats 4000000 in
set_option maxRecDepth 100000 in
theorem c_X9_rowsOfTwo (l : Launch) {D : wD} {cy : Nat → ClassId} {X : va_W} {S0 : wS} {post : Int32 → wS → Prop} {a0 : Nat} {a1 : Nat} (hL_a0 : wM D S0 a0) (hK_a0 : sK S0 a0 = 14) (hL_a1 : wM D S0 a1) (hK_a1 : sK S0 a1 = 12) (hp : wp_X9_rowsOfTwo D post S0 a0 a1) : mI D cy X l yX9_rowsOfTwo wz_X9_rowsOfTwo r_X9_rowsOfTwo [.ref a0, .ref a1] S0 (fun r S9 => wX D S0 S9 ∧ post r S9) := by
  intro sz
  refine Met.ofW (cc := cX9_rowsOfTwo) (maxL := 5) (ret := (some .int)) (by decide) rfl ?_
  intro p e s m args below meth c s₁ B hml hv
  obtain ⟨rfl, hsz, hP, hK, hD0, hRO⟩ := hv
  have hts := atoms_spec (ws := wz_X9_rowsOfTwo) B.pre
  have hown : s.vm.findClass RX9 = some m.cls := findClass_of_methodNamed B.named
  subst hsz
  have hD := hD0.self (sz := s.heap.size)
  have F : CallFix p m c cX9_rowsOfTwo 5 s _ wz_X9_rowsOfTwo RX9 := ⟨B.exec, B.bytes, hml, hown, hts⟩
  have hr := B.returns
  have hlocks := B.notSynchronized
  generalize hAe : va_A (wL cy X S0) s.heap.size = A at hD hK ⊢
  have hA : ∀ q, s.heap.size ≤ q → A q := fun q h => by rw [← hAe]; exact Or.inr h
  have hW : wO D cy X A s.heap S0 s.heap [] := ⟨hP, hD, va_S.rf, hA, hRO⟩
  have hl := lv_entry ([.ref a0, .ref a1]) (n := 5) (Nat.le_of_ble_eq_true rfl)
  rw [lg_entry_eq]
  generalize (lg_sl ([.ref a0, .ref a1]) ++ List.replicate (5 - (lg_sl ([.ref a0, .ref a1])).length) Slot.unset).toArray = ls at hl ⊢
  have hl : lv_has ls 5 [(0, .ref a0), (1, .ref a1)] := hl
  unfold wp_X9_rowsOfTwo at hp
  exact t_X9_rowsOfTwo_0 F hr hlocks hK hp hW wX.rf (lv_sub hl [0, 1] rfl) hL_a0 hK_a0 hL_a1 hK_a1
def wp_X9_rowsOfThree_73 (D : wD) (post : Int32 → wS → Prop)  (S : wS) (x2 : Int32) : Prop :=
post x2 S
def wp_X9_rowsOfThree_18 (D : wD) (post : Int32 → wS → Prop)  : Nat → wS → Nat → Nat → Int32 → Int32 → Int32 → Prop
  | 0, _, _, _, _, _, _ => False
  | n + 1, S, a0, a1, x2, x3, x4 =>
    ((x3 ≤ x4 → wp_X9_rowsOfThree_73 D post S x2) ∧
     (¬ x3 ≤ x4 → ∃ y_2 : Nat, sR S a0 1 = some y_2 ∧ wM D S y_2 ∧ sK S y_2 = 21 ∧
    (((Int32.ofNat (sN S y_2)) ≤ x4 → wp_X9_rowsOfThree_73 D post S x2) ∧
     (¬ (Int32.ofNat (sN S y_2)) ≤ x4 → ∃ y_4 : Nat, sR S a0 4 = some y_4 ∧ wM D S y_4 ∧ sK S y_4 = 12 ∧
    wp_X7_copy D (fun S_6 => 
    ∃ y_7 : Nat, sR S_6 a0 4 = some y_7 ∧ wM D S_6 y_7 ∧ sK S_6 y_7 = 12 ∧
    ∃ y_8 : Nat, sR S_6 a0 1 = some y_8 ∧ wM D S_6 y_8 ∧ sK S_6 y_8 = 21 ∧
    vp_in x4 (sN S_6 y_8) ∧
    wp_X7_apply D (fun S_11 => 
    ∃ y_12 : Nat, sR S_11 a0 4 = some y_12 ∧ wM D S_11 y_12 ∧ sK S_11 y_12 = 12 ∧
    wp_X9_rowsOfTwo D (fun r_13 S_14 => 
    ∀ x_15 : Int32, x_15 = (x2 + r_13) →
    ∀ x_16 : Int32, x_16 = x4 + 1 →
    wp_X9_rowsOfThree_18 D post n S_14 a0 a1 x_15 x3 x_16) S_11 a0 y_12) S_6 y_7 (sI S_6 y_8 (x4).toNatClampNeg)) S y_4 a1))))
def wp_X9_rowsOfThree_0 (D : wD) (post : Int32 → wS → Prop)  (S : wS) (a0 : Nat) (a1 : Nat) : Prop :=
∃ y_1 : Nat, sR S a0 0 = some y_1 ∧ wM D S y_1 ∧ sK S y_1 = 13 ∧
∃ y_2 : Nat, sR S a0 1 = some y_2 ∧ wM D S y_2 ∧ sK S y_2 = 21 ∧
wp_X8_generate D (fun r_3 S_4 => 
∃ n_5 : Nat, wp_X9_rowsOfThree_18 D post n_5 S_4 a0 a1 (0 : Int32) r_3 (0 : Int32)) S y_1 a1 y_2
abbrev r_X9_rowsOfThree : Room := { frames := 5, cells := 0, slots := 0, locals := 149 }
def wp_X9_rowsOfThree (D : wD) (post : Int32 → wS → Prop) (S : wS) (a0 : Nat) (a1 : Nat) : Prop := wp_X9_rowsOfThree_0 D post S a0 a1
set_option maxHeartbeats 4000000 in
set_option maxRecDepth 100000 in
theorem t_X9_rowsOfThree_73 {p : Program} {l : Launch} {e : Env} {s : State} {m : MethodId} {args : Array Value} {below : List Frame} {meth : Method} {c : Code} {D : wD} {cy : Nat → ClassId} {X : va_W} {A : Nat → Prop} {S0 : wS} {post : Int32 → wS → Prop} (F : CallFix p m c cX9_rowsOfThree 5 s args wz_X9_rowsOfThree RX9) (hr : meth.sig.returnType = (some .int)) (hlocks : meth.locks = false) (hK : wK D cy A s) : ∀ {S : wS} {H : Heap} {locs : List Loc} {ls : Array Slot} {x2 : Int32}, wp_X9_rowsOfThree_73 D post S x2 → wO D cy X A s.heap S H locs → wX D S0 S → lv_has ls 5 [(2, .int x2)] → W p l e r_X9_rowsOfThree s m args below meth c H locs 0 0 (MQ below (va_Qi (fun r S9 => wX D S0 S9 ∧ post r S9) (wB D cy X A) A) args s 0 0 A) (F0 m 73 ls []) := by
  obtain ⟨hx, hb, hml, hown, hts⟩ := id F
  have hwg : ∀ w ∈ WG, w.before args s = true := fun w h => hts w (List.mem_cons_of_mem _ h)
  intro S H locs ls x2 hp hW hE hl
  unfold wp_X9_rowsOfThree_73 at hp
  refine lv_iload_n hx hb dX9_rowsOfThree_73 rfl (lv_at hl 0 rfl) ?_
  exact w_iret hx hb hr hlocks hW ⟨hE, hp⟩ dX9_rowsOfThree_74
set_option maxHeartbeats 4000000 in
set_option maxRecDepth 100000 in
theorem t_X9_rowsOfThree_18 {p : Program} {l : Launch} {e : Env} {s : State} {m : MethodId} {args : Array Value} {below : List Frame} {meth : Method} {c : Code} {D : wD} {cy : Nat → ClassId} {X : va_W} {A : Nat → Prop} {S0 : wS} {post : Int32 → wS → Prop} (F : CallFix p m c cX9_rowsOfThree 5 s args wz_X9_rowsOfThree RX9) (hr : meth.sig.returnType = (some .int)) (hlocks : meth.locks = false) (hK : wK D cy A s) : ∀ (n : Nat) {S : wS} {H : Heap} {locs : List Loc} {ls : Array Slot} {a0 : Nat} {a1 : Nat} {x2 : Int32} {x3 : Int32} {x4 : Int32}, wp_X9_rowsOfThree_18 D post n S a0 a1 x2 x3 x4 → wO D cy X A s.heap S H locs → wX D S0 S → lv_has ls 5 [(0, .ref a0), (1, .ref a1), (2, .int x2), (3, .int x3), (4, .int x4)] → wM D S a0 → sK S a0 = 14 → wM D S a1 → sK S a1 = 12 → W p l e r_X9_rowsOfThree s m args below meth c H locs 0 0 (MQ below (va_Qi (fun r S9 => wX D S0 S9 ∧ post r S9) (wB D cy X A) A) args s 0 0 A) (F0 m 18 ls []) := by
  obtain ⟨hx, hb, hml, hown, hts⟩ := id F
  have hwg : ∀ w ∈ WG, w.before args s = true := fun w h => hts w (List.mem_cons_of_mem _ h)
  have i_14 : ∀ w ∈ u_ws RX9 TX9 10, w ∈ wz_X9_rowsOfThree := fun w h => List.mem_cons_of_mem _ (wu_14 w h)
  have k_40 := hwg _ wf_RX9_40
  have k_9 := hwg _ wf_RX9_9
  intro n
  induction n with
  | zero =>
    intro S H locs ls a0 a1 x2 x3 x4 hp
    exact hp.elim
  | succ n ih =>
    intro S H locs ls a0 a1 x2 x3 x4 hp hW hE hl hL_a0 hK_a0 hL_a1 hK_a1
    unfold wp_X9_rowsOfThree_18 at hp
    refine lv_iload hx hb dX9_rowsOfThree_18 (lv_at hl 4 rfl) ?_
    refine lv_iload_n hx hb dX9_rowsOfThree_20 rfl (lv_at hl 3 rfl) ?_
    refine lv_icmp_ge (tgt := 73) hx hb dX9_rowsOfThree_21 (by decide) (fun c_1 => ?_) (fun c_1 => ?_)
    · replace hp := hp.1 c_1
      exact t_X9_rowsOfThree_73 F hr hlocks hK hp hW hE (lv_sub hl [2] rfl)
    · replace hp := hp.2 c_1
      refine lv_iload hx hb dX9_rowsOfThree_24 (lv_at hl 4 rfl) ?_
      refine lv_aload_n hx hb dX9_rowsOfThree_26 rfl (lv_at hl 0 rfl) ?_
      obtain ⟨y_2, ey_2, hL_y_2, hK_y_2, hp⟩ := hp
      refine w_get (k := 14) (f := 1) (T := TX9) (v := .ref y_2) F hK hW hL_a0 hK_a0 (by decide) rfl rfl (by decide) i_14 k_9 (by rw [show wv 14 1 S a0 = va_rf (sR S a0 1) from rfl, ey_2]; rfl) dX9_rowsOfThree_27 ?_
      refine w_len F hK hW hL_y_2 hK_y_2 (by decide) dX9_rowsOfThree_30 ?_
      refine lv_icmp_ge (tgt := 73) hx hb dX9_rowsOfThree_31 (by decide) (fun c_3 => ?_) (fun c_3 => ?_)
      · replace hp := hp.1 c_3
        exact t_X9_rowsOfThree_73 F hr hlocks hK hp hW hE (lv_sub hl [2] rfl)
      · replace hp := hp.2 c_3
        refine lv_aload_n hx hb dX9_rowsOfThree_34 rfl (lv_at hl 0 rfl) ?_
        obtain ⟨y_4, ey_4, hL_y_4, hK_y_4, hp⟩ := hp
        refine w_get (k := 14) (f := 4) (T := TX9) (v := .ref y_4) F hK hW hL_a0 hK_a0 (by decide) rfl rfl (by decide) i_14 k_40 (by rw [show wv 14 4 S a0 = va_rf (sR S a0 4) from rfl, ey_4]; rfl) dX9_rowsOfThree_35 ?_
        refine lv_aload_n hx hb dX9_rowsOfThree_38 rfl (lv_at hl 1 rfl) ?_
        refine w_callV (va_runV (As := [.ref a1]) (rest := []) F (c_X7_copy l hL_y_4 hK_y_4 hL_a1 hK_a1 hp H.size) (cwV (C := RX7) 1 hts (wg_V wm_RX9_66 wy_X7_copy) rfl rfl rfl (by decide +kernel) ⟨Nat.le_of_ble_eq_true rfl, Nat.le_of_ble_eq_true rfl⟩) (w_preV hK hW hL_y_4 hK_y_4 (by decide) rfl) rfl rfl hl.1 rfl (lv_room (Nat.le_of_ble_eq_true rfl)) dX9_rowsOfThree_39 ⟨Nat.le_of_ble_eq_true rfl, Nat.le_of_ble_eq_true rfl⟩) hW (fun S_6 H locs hp hW => ?_)
        obtain ⟨hX_S_6, hp⟩ := hp
        refine W.widen (k := 0) (n := 0) (by decide) (by decide) ?_
        have hE := hE.trans hX_S_6
        have hK_a0 : sK S_6 a0 = 14 := (hX_S_6.2 a0 hL_a0).1.trans hK_a0
        have hL_a0 : wM D S_6 a0 := hX_S_6.M hL_a0
        have hK_a1 : sK S_6 a1 = 12 := (hX_S_6.2 a1 hL_a1).1.trans hK_a1
        have hL_a1 : wM D S_6 a1 := hX_S_6.M hL_a1
        refine lv_aload_n hx hb dX9_rowsOfThree_42 rfl (lv_at hl 0 rfl) ?_
        obtain ⟨y_7, ey_7, hL_y_7, hK_y_7, hp⟩ := hp
        refine w_get (k := 14) (f := 4) (T := TX9) (v := .ref y_7) F hK hW hL_a0 hK_a0 (by decide) rfl rfl (by decide) i_14 k_40 (by rw [show wv 14 4 S_6 a0 = va_rf (sR S_6 a0 4) from rfl, ey_7]; rfl) dX9_rowsOfThree_43 ?_
        refine lv_aload_n hx hb dX9_rowsOfThree_46 rfl (lv_at hl 0 rfl) ?_
        obtain ⟨y_8, ey_8, hL_y_8, hK_y_8, hp⟩ := hp
        refine w_get (k := 14) (f := 1) (T := TX9) (v := .ref y_8) F hK hW hL_a0 hK_a0 (by decide) rfl rfl (by decide) i_14 k_9 (by rw [show wv 14 1 S_6 a0 = va_rf (sR S_6 a0 1) from rfl, ey_8]; rfl) dX9_rowsOfThree_47 ?_
        refine lv_iload hx hb dX9_rowsOfThree_50 (lv_at hl 4 rfl) ?_
        obtain ⟨h_9, hp⟩ := hp
        refine w_ild F hK hW hL_y_8 hK_y_8 h_9 dX9_rowsOfThree_52 ?_
        refine w_callV (va_runV (As := [.int (sI S_6 y_8 (x4).toNatClampNeg)]) (rest := []) F (c_X7_apply l hL_y_7 hK_y_7 hp H.size) (cwV (C := RX7) 1 hts (wg_V wm_RX9_70 wy_X7_apply) rfl rfl rfl (by decide +kernel) ⟨Nat.le_of_ble_eq_true rfl, Nat.le_of_ble_eq_true rfl⟩) (w_preV hK hW hL_y_7 hK_y_7 (by decide) rfl) rfl rfl hl.1 rfl (lv_room (Nat.le_of_ble_eq_true rfl)) dX9_rowsOfThree_53 ⟨Nat.le_of_ble_eq_true rfl, Nat.le_of_ble_eq_true rfl⟩) hW (fun S_11 H locs hp hW => ?_)
        obtain ⟨hX_S_11, hp⟩ := hp
        refine W.widen (k := 0) (n := 0) (by decide) (by decide) ?_
        have hE := hE.trans hX_S_11
        have hK_a0 : sK S_11 a0 = 14 := (hX_S_11.2 a0 hL_a0).1.trans hK_a0
        have hL_a0 : wM D S_11 a0 := hX_S_11.M hL_a0
        have hK_a1 : sK S_11 a1 = 12 := (hX_S_11.2 a1 hL_a1).1.trans hK_a1
        have hL_a1 : wM D S_11 a1 := hX_S_11.M hL_a1
        refine lv_iload_n hx hb dX9_rowsOfThree_56 rfl (lv_at hl 2 rfl) ?_
        refine lv_aload_n hx hb dX9_rowsOfThree_57 rfl (lv_at hl 0 rfl) ?_
        refine lv_aload_n hx hb dX9_rowsOfThree_58 rfl (lv_at hl 0 rfl) ?_
        obtain ⟨y_12, ey_12, hL_y_12, hK_y_12, hp⟩ := hp
        refine w_get (k := 14) (f := 4) (T := TX9) (v := .ref y_12) F hK hW hL_a0 hK_a0 (by decide) rfl rfl (by decide) i_14 k_40 (by rw [show wv 14 4 S_11 a0 = va_rf (sR S_11 a0 4) from rfl, ey_12]; rfl) dX9_rowsOfThree_59 ?_
        refine w_callI (va_runV (As := [.ref y_12]) (rest := [.int x2]) F (c_X9_rowsOfTwo l hL_a0 hK_a0 hL_y_12 hK_y_12 hp H.size) (cwV (C := RX9) 1 hts (wg_V wm_RX9_56 wy_X9_rowsOfTwo) rfl rfl rfl (by decide +kernel) ⟨Nat.le_of_ble_eq_true rfl, Nat.le_of_ble_eq_true rfl⟩) (w_preV hK hW hL_a0 hK_a0 (by decide) rfl) rfl rfl hl.1 rfl (lv_room (Nat.le_of_ble_eq_true rfl)) dX9_rowsOfThree_62 ⟨Nat.le_of_ble_eq_true rfl, Nat.le_of_ble_eq_true rfl⟩) hW (fun r_13 S_14 H locs hp hW => ?_)
        obtain ⟨hX_S_14, hp⟩ := hp
        refine W.widen (k := 0) (n := 0) (by decide) (by decide) ?_
        have hE := hE.trans hX_S_14
        have hK_a0 : sK S_14 a0 = 14 := (hX_S_14.2 a0 hL_a0).1.trans hK_a0
        have hL_a0 : wM D S_14 a0 := hX_S_14.M hL_a0
        have hK_a1 : sK S_14 a1 = 12 := (hX_S_14.2 a1 hL_a1).1.trans hK_a1
        have hL_a1 : wM D S_14 a1 := hX_S_14.M hL_a1
        refine lv_iadd hx hb dX9_rowsOfThree_65 ?_
        refine lv_topi (fun x_15 ex_15 => ?_)
        replace hp := hp x_15 ex_15
        refine lv_istore_n (lv' := [(2, .int x_15), (0, .ref a0), (1, .ref a1), (3, .int x3), (4, .int x4)]) hx hb dX9_rowsOfThree_66 rfl hl (by decide) rfl (fun ls hl => ?_)
        obtain ⟨x_16, ex_16⟩ : ∃ z : Int32, z = x4 + 1 := ⟨_, rfl⟩
        replace hp := hp x_16 ex_16
        refine lv_iinc (v := x_16) (lv' := [(4, .int x_16), (2, .int x_15), (0, .ref a0), (1, .ref a1), (3, .int x3)]) hx hb dX9_rowsOfThree_67 hl (k := 4) rfl (by rw [ex_16]; rfl) (by decide) rfl (fun ls hl => ?_)
        refine lv_goto (tgt := 18) hx hb dX9_rowsOfThree_70 (by decide) ?_
        exact ih hp hW hE (lv_sub hl [2, 3, 1, 4, 0] rfl) hL_a0 hK_a0 hL_a1 hK_a1
set_option maxHeartbeats 4000000 in
set_option maxRecDepth 100000 in
theorem t_X9_rowsOfThree_0 {p : Program} {l : Launch} {e : Env} {s : State} {m : MethodId} {args : Array Value} {below : List Frame} {meth : Method} {c : Code} {D : wD} {cy : Nat → ClassId} {X : va_W} {A : Nat → Prop} {S0 : wS} {post : Int32 → wS → Prop} (F : CallFix p m c cX9_rowsOfThree 5 s args wz_X9_rowsOfThree RX9) (hr : meth.sig.returnType = (some .int)) (hlocks : meth.locks = false) (hK : wK D cy A s) : ∀ {S : wS} {H : Heap} {locs : List Loc} {ls : Array Slot} {a0 : Nat} {a1 : Nat}, wp_X9_rowsOfThree_0 D post S a0 a1 → wO D cy X A s.heap S H locs → wX D S0 S → lv_has ls 5 [(0, .ref a0), (1, .ref a1)] → wM D S a0 → sK S a0 = 14 → wM D S a1 → sK S a1 = 12 → W p l e r_X9_rowsOfThree s m args below meth c H locs 0 0 (MQ below (va_Qi (fun r S9 => wX D S0 S9 ∧ post r S9) (wB D cy X A) A) args s 0 0 A) (F0 m 0 ls []) := by
  obtain ⟨hx, hb, hml, hown, hts⟩ := id F
  have hwg : ∀ w ∈ WG, w.before args s = true := fun w h => hts w (List.mem_cons_of_mem _ h)
  have i_14 : ∀ w ∈ u_ws RX9 TX9 10, w ∈ wz_X9_rowsOfThree := fun w h => List.mem_cons_of_mem _ (wu_14 w h)
  have k_31 := hwg _ wf_RX9_31
  have k_9 := hwg _ wf_RX9_9
  intro S H locs ls a0 a1 hp hW hE hl hL_a0 hK_a0 hL_a1 hK_a1
  unfold wp_X9_rowsOfThree_0 at hp
  refine lv_iconst (v := 0) hx hb dX9_rowsOfThree_0 (by decide) ?_
  refine lv_istore_n (lv' := [(2, .int (0 : Int32)), (0, .ref a0), (1, .ref a1)]) hx hb dX9_rowsOfThree_1 rfl hl (by decide) rfl (fun ls hl => ?_)
  refine lv_aload_n hx hb dX9_rowsOfThree_2 rfl (lv_at hl 1 rfl) ?_
  obtain ⟨y_1, ey_1, hL_y_1, hK_y_1, hp⟩ := hp
  refine w_get (k := 14) (f := 0) (T := TX9) (v := .ref y_1) F hK hW hL_a0 hK_a0 (by decide) rfl rfl (by decide) i_14 k_31 (by rw [show wv 14 0 S a0 = va_rf (sR S a0 0) from rfl, ey_1]; rfl) dX9_rowsOfThree_3 ?_
  refine lv_aload_n hx hb dX9_rowsOfThree_6 rfl (lv_at hl 2 rfl) ?_
  refine lv_aload_n hx hb dX9_rowsOfThree_7 rfl (lv_at hl 1 rfl) ?_
  obtain ⟨y_2, ey_2, hL_y_2, hK_y_2, hp⟩ := hp
  refine w_get (k := 14) (f := 1) (T := TX9) (v := .ref y_2) F hK hW hL_a0 hK_a0 (by decide) rfl rfl (by decide) i_14 k_9 (by rw [show wv 14 1 S a0 = va_rf (sR S a0 1) from rfl, ey_2]; rfl) dX9_rowsOfThree_8 ?_
  refine w_callI (va_runV (As := [.ref a1, .ref y_2]) (rest := []) F (c_X8_generate l hL_y_1 hK_y_1 hL_a1 hK_a1 hL_y_2 hK_y_2 hp H.size) (cwV (C := RX8) 2 hts (wg_V wm_RX9_62 wy_X8_generate) rfl rfl rfl (by decide +kernel) ⟨Nat.le_of_ble_eq_true rfl, Nat.le_of_ble_eq_true rfl⟩) (w_preV hK hW hL_y_1 hK_y_1 (by decide) rfl) rfl rfl hl.1 rfl (lv_room (Nat.le_of_ble_eq_true rfl)) dX9_rowsOfThree_11 ⟨Nat.le_of_ble_eq_true rfl, Nat.le_of_ble_eq_true rfl⟩) hW (fun r_3 S_4 H locs hp hW => ?_)
  obtain ⟨hX_S_4, hp⟩ := hp
  refine W.widen (k := 0) (n := 0) (by decide) (by decide) ?_
  have hE := hE.trans hX_S_4
  have hK_a0 : sK S_4 a0 = 14 := (hX_S_4.2 a0 hL_a0).1.trans hK_a0
  have hL_a0 : wM D S_4 a0 := hX_S_4.M hL_a0
  have hK_a1 : sK S_4 a1 = 12 := (hX_S_4.2 a1 hL_a1).1.trans hK_a1
  have hL_a1 : wM D S_4 a1 := hX_S_4.M hL_a1
  refine lv_istore_n (lv' := [(3, .int r_3), (2, .int (0 : Int32)), (0, .ref a0), (1, .ref a1)]) hx hb dX9_rowsOfThree_14 rfl hl (by decide) rfl (fun ls hl => ?_)
  refine lv_iconst (v := 0) hx hb dX9_rowsOfThree_15 (by decide) ?_
  refine lv_istore (lv' := [(4, .int (0 : Int32)), (3, .int r_3), (2, .int (0 : Int32)), (0, .ref a0), (1, .ref a1)]) hx hb dX9_rowsOfThree_16 hl (by decide) rfl (fun ls hl => ?_)
  obtain ⟨n_5, hp⟩ := hp
  exact t_X9_rowsOfThree_18 F hr hlocks hK n_5 hp hW hE (lv_sub hl [3, 4, 2, 1, 0] rfl) hL_a0 hK_a0 hL_a1 hK_a1
set_option maxHeartbeats 4000000 in
set_option maxRecDepth 100000 in
theorem c_X9_rowsOfThree (l : Launch) {D : wD} {cy : Nat → ClassId} {X : va_W} {S0 : wS} {post : Int32 → wS → Prop} {a0 : Nat} {a1 : Nat} (hL_a0 : wM D S0 a0) (hK_a0 : sK S0 a0 = 14) (hL_a1 : wM D S0 a1) (hK_a1 : sK S0 a1 = 12) (hp : wp_X9_rowsOfThree D post S0 a0 a1) : mI D cy X l yX9_rowsOfThree wz_X9_rowsOfThree r_X9_rowsOfThree [.ref a0, .ref a1] S0 (fun r S9 => wX D S0 S9 ∧ post r S9) := by
  intro sz
  refine Met.ofW (cc := cX9_rowsOfThree) (maxL := 5) (ret := (some .int)) (by decide) rfl ?_
  intro p e s m args below meth c s₁ B hml hv
  obtain ⟨rfl, hsz, hP, hK, hD0, hRO⟩ := hv
  have hts := atoms_spec (ws := wz_X9_rowsOfThree) B.pre
  have hown : s.vm.findClass RX9 = some m.cls := findClass_of_methodNamed B.named
  subst hsz
  have hD := hD0.self (sz := s.heap.size)
  have F : CallFix p m c cX9_rowsOfThree 5 s _ wz_X9_rowsOfThree RX9 := ⟨B.exec, B.bytes, hml, hown, hts⟩
  have hr := B.returns
  have hlocks := B.notSynchronized
  generalize hAe : va_A (wL cy X S0) s.heap.size = A at hD hK ⊢
  have hA : ∀ q, s.heap.size ≤ q → A q := fun q h => by rw [← hAe]; exact Or.inr h
  have hW : wO D cy X A s.heap S0 s.heap [] := ⟨hP, hD, va_S.rf, hA, hRO⟩
  have hl := lv_entry ([.ref a0, .ref a1]) (n := 5) (Nat.le_of_ble_eq_true rfl)
  rw [lg_entry_eq]
  generalize (lg_sl ([.ref a0, .ref a1]) ++ List.replicate (5 - (lg_sl ([.ref a0, .ref a1])).length) Slot.unset).toArray = ls at hl ⊢
  have hl : lv_has ls 5 [(0, .ref a0), (1, .ref a1)] := hl
  unfold wp_X9_rowsOfThree at hp
  exact t_X9_rowsOfThree_0 F hr hlocks hK hp hW wX.rf (lv_sub hl [0, 1] rfl) hL_a0 hK_a0 hL_a1 hK_a1
def wp_X9_rowsOfMoves_32 (D : wD) (post : Int32 → wS → Prop)  (S : wS) (t0 : Int32) : Prop :=
post t0 S
def wp_X9_rowsOfMoves_0 (D : wD) (post : Int32 → wS → Prop)  (S : wS) (a0 : Nat) (a1 : Nat) (x2 : Int32) : Prop :=
(((1 : Int32) < x2 → ((¬ x2 = (2 : Int32) → wp_X9_rowsOfThree D (fun r_3 S_4 => 
wp_X9_rowsOfMoves_32 D post S_4 r_3) S a0 a1) ∧
 (x2 = (2 : Int32) → wp_X9_rowsOfTwo D (fun r_5 S_6 => 
wp_X9_rowsOfMoves_32 D post S_6 r_5) S a0 a1))) ∧
 (¬ (1 : Int32) < x2 → ∃ y_7 : Nat, sR S a0 0 = some y_7 ∧ wM D S y_7 ∧ sK S y_7 = 13 ∧
wp_X8_numberOfMoves D (fun r_8 S_9 => 
post r_8 S_9) S y_7 a1))
abbrev r_X9_rowsOfMoves : Room := { frames := 6, cells := 0, slots := 0, locals := 173 }
def wp_X9_rowsOfMoves (D : wD) (post : Int32 → wS → Prop) (S : wS) (a0 : Nat) (a1 : Nat) (x2 : Int32) : Prop := wp_X9_rowsOfMoves_0 D post S a0 a1 x2
set_option maxHeartbeats 4000000 in
set_option maxRecDepth 100000 in
theorem t_X9_rowsOfMoves_32 {p : Program} {l : Launch} {e : Env} {s : State} {m : MethodId} {args : Array Value} {below : List Frame} {meth : Method} {c : Code} {D : wD} {cy : Nat → ClassId} {X : va_W} {A : Nat → Prop} {S0 : wS} {post : Int32 → wS → Prop} (F : CallFix p m c cX9_rowsOfMoves 3 s args wz_X9_rowsOfMoves RX9) (hr : meth.sig.returnType = (some .int)) (hlocks : meth.locks = false) (hK : wK D cy A s) : ∀ {S : wS} {H : Heap} {locs : List Loc} {ls : Array Slot} {t0 : Int32}, wp_X9_rowsOfMoves_32 D post S t0 → wO D cy X A s.heap S H locs → wX D S0 S → lv_has ls 3 [] → W p l e r_X9_rowsOfMoves s m args below meth c H locs 0 0 (MQ below (va_Qi (fun r S9 => wX D S0 S9 ∧ post r S9) (wB D cy X A) A) args s 0 0 A) (F0 m 32 ls [.int t0]) := by
  obtain ⟨hx, hb, hml, hown, hts⟩ := id F
  have hwg : ∀ w ∈ WG, w.before args s = true := fun w h => hts w (List.mem_cons_of_mem _ h)
  intro S H locs ls t0 hp hW hE hl
  unfold wp_X9_rowsOfMoves_32 at hp
  exact w_iret hx hb hr hlocks hW ⟨hE, hp⟩ dX9_rowsOfMoves_32
set_option maxHeartbeats 4000000 in
set_option maxRecDepth 100000 in
theorem t_X9_rowsOfMoves_0 {p : Program} {l : Launch} {e : Env} {s : State} {m : MethodId} {args : Array Value} {below : List Frame} {meth : Method} {c : Code} {D : wD} {cy : Nat → ClassId} {X : va_W} {A : Nat → Prop} {S0 : wS} {post : Int32 → wS → Prop} (F : CallFix p m c cX9_rowsOfMoves 3 s args wz_X9_rowsOfMoves RX9) (hr : meth.sig.returnType = (some .int)) (hlocks : meth.locks = false) (hK : wK D cy A s) : ∀ {S : wS} {H : Heap} {locs : List Loc} {ls : Array Slot} {a0 : Nat} {a1 : Nat} {x2 : Int32}, wp_X9_rowsOfMoves_0 D post S a0 a1 x2 → wO D cy X A s.heap S H locs → wX D S0 S → lv_has ls 3 [(0, .ref a0), (1, .ref a1), (2, .int x2)] → wM D S a0 → sK S a0 = 14 → wM D S a1 → sK S a1 = 12 → W p l e r_X9_rowsOfMoves s m args below meth c H locs 0 0 (MQ below (va_Qi (fun r S9 => wX D S0 S9 ∧ post r S9) (wB D cy X A) A) args s 0 0 A) (F0 m 0 ls []) := by
  obtain ⟨hx, hb, hml, hown, hts⟩ := id F
  have hwg : ∀ w ∈ WG, w.before args s = true := fun w h => hts w (List.mem_cons_of_mem _ h)
  have i_14 : ∀ w ∈ u_ws RX9 TX9 10, w ∈ wz_X9_rowsOfMoves := fun w h => List.mem_cons_of_mem _ (wu_14 w h)
  have k_31 := hwg _ wf_RX9_31
  intro S H locs ls a0 a1 x2 hp hW hE hl hL_a0 hK_a0 hL_a1 hK_a1
  unfold wp_X9_rowsOfMoves_0 at hp
  refine lv_iload_n hx hb dX9_rowsOfMoves_0 rfl (lv_at hl 2 rfl) ?_
  refine lv_iconst (v := 1) hx hb dX9_rowsOfMoves_1 (by decide) ?_
  refine lv_icmp_gt (tgt := 14) hx hb dX9_rowsOfMoves_2 (by decide) (fun c_1 => ?_) (fun c_1 => ?_)
  · replace hp := hp.1 c_1
    refine lv_iload_n hx hb dX9_rowsOfMoves_14 rfl (lv_at hl 2 rfl) ?_
    refine lv_iconst (v := 2) hx hb dX9_rowsOfMoves_15 (by decide) ?_
    refine lv_icmp_ne (tgt := 27) hx hb dX9_rowsOfMoves_16 (by decide) (fun c_2 => ?_) (fun c_2 => ?_)
    · replace hp := hp.1 c_2
      refine lv_aload_n hx hb dX9_rowsOfMoves_27 rfl (lv_at hl 0 rfl) ?_
      refine lv_aload_n hx hb dX9_rowsOfMoves_28 rfl (lv_at hl 1 rfl) ?_
      refine w_callI (va_runV (As := [.ref a1]) (rest := []) F (c_X9_rowsOfThree l hL_a0 hK_a0 hL_a1 hK_a1 hp H.size) (cwV (C := RX9) 1 hts (wg_V wm_RX9_59 wy_X9_rowsOfThree) rfl rfl rfl (by decide +kernel) ⟨Nat.le_of_ble_eq_true rfl, Nat.le_of_ble_eq_true rfl⟩) (w_preV hK hW hL_a0 hK_a0 (by decide) rfl) rfl rfl hl.1 rfl (lv_room (Nat.le_of_ble_eq_true rfl)) dX9_rowsOfMoves_29 ⟨Nat.le_of_ble_eq_true rfl, Nat.le_of_ble_eq_true rfl⟩) hW (fun r_3 S_4 H locs hp hW => ?_)
      obtain ⟨hX_S_4, hp⟩ := hp
      refine W.widen (k := 0) (n := 0) (by decide) (by decide) ?_
      have hE := hE.trans hX_S_4
      have hK_a0 : sK S_4 a0 = 14 := (hX_S_4.2 a0 hL_a0).1.trans hK_a0
      have hL_a0 : wM D S_4 a0 := hX_S_4.M hL_a0
      have hK_a1 : sK S_4 a1 = 12 := (hX_S_4.2 a1 hL_a1).1.trans hK_a1
      have hL_a1 : wM D S_4 a1 := hX_S_4.M hL_a1
      exact t_X9_rowsOfMoves_32 F hr hlocks hK hp hW hE (lv_sub hl [] rfl)
    · replace hp := hp.2 c_2
      refine lv_aload_n hx hb dX9_rowsOfMoves_19 rfl (lv_at hl 0 rfl) ?_
      refine lv_aload_n hx hb dX9_rowsOfMoves_20 rfl (lv_at hl 1 rfl) ?_
      refine w_callI (va_runV (As := [.ref a1]) (rest := []) F (c_X9_rowsOfTwo l hL_a0 hK_a0 hL_a1 hK_a1 hp H.size) (cwV (C := RX9) 1 hts (wg_V wm_RX9_56 wy_X9_rowsOfTwo) rfl rfl rfl (by decide +kernel) ⟨Nat.le_of_ble_eq_true rfl, Nat.le_of_ble_eq_true rfl⟩) (w_preV hK hW hL_a0 hK_a0 (by decide) rfl) rfl rfl hl.1 rfl (lv_room (Nat.le_of_ble_eq_true rfl)) dX9_rowsOfMoves_21 ⟨Nat.le_of_ble_eq_true rfl, Nat.le_of_ble_eq_true rfl⟩) hW (fun r_5 S_6 H locs hp hW => ?_)
      obtain ⟨hX_S_6, hp⟩ := hp
      refine W.widen (k := 0) (n := 0) (by decide) (by decide) ?_
      have hE := hE.trans hX_S_6
      have hK_a0 : sK S_6 a0 = 14 := (hX_S_6.2 a0 hL_a0).1.trans hK_a0
      have hL_a0 : wM D S_6 a0 := hX_S_6.M hL_a0
      have hK_a1 : sK S_6 a1 = 12 := (hX_S_6.2 a1 hL_a1).1.trans hK_a1
      have hL_a1 : wM D S_6 a1 := hX_S_6.M hL_a1
      refine lv_goto (tgt := 32) hx hb dX9_rowsOfMoves_24 (by decide) ?_
      exact t_X9_rowsOfMoves_32 F hr hlocks hK hp hW hE (lv_sub hl [] rfl)
  · replace hp := hp.2 c_1
    refine lv_aload_n hx hb dX9_rowsOfMoves_5 rfl (lv_at hl 0 rfl) ?_
    obtain ⟨y_7, ey_7, hL_y_7, hK_y_7, hp⟩ := hp
    refine w_get (k := 14) (f := 0) (T := TX9) (v := .ref y_7) F hK hW hL_a0 hK_a0 (by decide) rfl rfl (by decide) i_14 k_31 (by rw [show wv 14 0 S a0 = va_rf (sR S a0 0) from rfl, ey_7]; rfl) dX9_rowsOfMoves_6 ?_
    refine lv_aload_n hx hb dX9_rowsOfMoves_9 rfl (lv_at hl 1 rfl) ?_
    refine w_callI (va_runV (As := [.ref a1]) (rest := []) F (c_X8_numberOfMoves l hL_y_7 hK_y_7 hL_a1 hK_a1 hp H.size) (cwV (C := RX8) 1 hts (wg_V wm_RX9_50 wy_X8_numberOfMoves) rfl rfl rfl (by decide +kernel) ⟨Nat.le_of_ble_eq_true rfl, Nat.le_of_ble_eq_true rfl⟩) (w_preV hK hW hL_y_7 hK_y_7 (by decide) rfl) rfl rfl hl.1 rfl (lv_room (Nat.le_of_ble_eq_true rfl)) dX9_rowsOfMoves_10 ⟨Nat.le_of_ble_eq_true rfl, Nat.le_of_ble_eq_true rfl⟩) hW (fun r_8 S_9 H locs hp hW => ?_)
    obtain ⟨hX_S_9, hp⟩ := hp
    refine W.widen (k := 0) (n := 0) (by decide) (by decide) ?_
    have hE := hE.trans hX_S_9
    have hK_a0 : sK S_9 a0 = 14 := (hX_S_9.2 a0 hL_a0).1.trans hK_a0
    have hL_a0 : wM D S_9 a0 := hX_S_9.M hL_a0
    have hK_a1 : sK S_9 a1 = 12 := (hX_S_9.2 a1 hL_a1).1.trans hK_a1
    have hL_a1 : wM D S_9 a1 := hX_S_9.M hL_a1
    exact w_iret hx hb hr hlocks hW ⟨hE, hp⟩ dX9_rowsOfMoves_13
set_option maxHeartbeats 4000000 in
set_option maxRecDepth 100000 in
theorem c_X9_rowsOfMoves (l : Launch) {D : wD} {cy : Nat → ClassId} {X : va_W} {S0 : wS} {post : Int32 → wS → Prop} {a0 : Nat} {a1 : Nat} {x2 : Int32} (hL_a0 : wM D S0 a0) (hK_a0 : sK S0 a0 = 14) (hL_a1 : wM D S0 a1) (hK_a1 : sK S0 a1 = 12) (hp : wp_X9_rowsOfMoves D post S0 a0 a1 x2) : mI D cy X l yX9_rowsOfMoves wz_X9_rowsOfMoves r_X9_rowsOfMoves [.ref a0, .ref a1, .int x2] S0 (fun r S9 => wX D S0 S9 ∧ post r S9) := by
  intro sz
  refine Met.ofW (cc := cX9_rowsOfMoves) (maxL := 3) (ret := (some .int)) (by decide) rfl ?_
  intro p e s m args below meth c s₁ B hml hv
  obtain ⟨rfl, hsz, hP, hK, hD0, hRO⟩ := hv
  have hts := atoms_spec (ws := wz_X9_rowsOfMoves) B.pre
  have hown : s.vm.findClass RX9 = some m.cls := findClass_of_methodNamed B.named
  subst hsz
  have hD := hD0.self (sz := s.heap.size)
  have F : CallFix p m c cX9_rowsOfMoves 3 s _ wz_X9_rowsOfMoves RX9 := ⟨B.exec, B.bytes, hml, hown, hts⟩
  have hr := B.returns
  have hlocks := B.notSynchronized
  generalize hAe : va_A (wL cy X S0) s.heap.size = A at hD hK ⊢
  have hA : ∀ q, s.heap.size ≤ q → A q := fun q h => by rw [← hAe]; exact Or.inr h
  have hW : wO D cy X A s.heap S0 s.heap [] := ⟨hP, hD, va_S.rf, hA, hRO⟩
  have hl := lv_entry ([.ref a0, .ref a1, .int x2]) (n := 3) (Nat.le_of_ble_eq_true rfl)
  rw [lg_entry_eq]
  generalize (lg_sl ([.ref a0, .ref a1, .int x2]) ++ List.replicate (3 - (lg_sl ([.ref a0, .ref a1, .int x2])).length) Slot.unset).toArray = ls at hl ⊢
  have hl : lv_has ls 3 [(0, .ref a0), (1, .ref a1), (2, .int x2)] := hl
  unfold wp_X9_rowsOfMoves at hp
  exact t_X9_rowsOfMoves_0 F hr hlocks hK hp hW wX.rf (lv_sub hl [0, 1, 2] rfl) hL_a0 hK_a0 hL_a1 hK_a1
def wp_X11_countMoves_10 (D : wD) (post : Int32 → wS → Prop) (xp : String → wS → Prop)  (S : wS) : Prop :=
xp "java/lang/IllegalArgumentException" S
def wp_X11_countMoves_0 (D : wD) (post : Int32 → wS → Prop) (xp : String → wS → Prop)  (S : wS) (a0 : Nat) (x1 : Int32) : Prop :=
((x1 < (1 : Int32) → wp_X11_countMoves_10 D post xp S) ∧
 (¬ x1 < (1 : Int32) → ((x1 ≤ (3 : Int32) → wp_X11_mustBeLawful D (fun S_4 => 
∃ y_5 : Nat, sR S_4 a0 11 = some y_5 ∧ wM D S_4 y_5 ∧ sK S_4 y_5 = 14 ∧
∃ y_6 : Nat, sR S_4 a0 2 = some y_6 ∧ wM D S_4 y_6 ∧ sK S_4 y_6 = 12 ∧
wp_X9_rowsOfMoves D (fun r_7 S_8 => 
post r_7 S_8) S_4 y_5 y_6 x1) xp S a0) ∧
 (¬ x1 ≤ (3 : Int32) → wp_X11_countMoves_10 D post xp S))))
abbrev r_X11_countMoves : Room := { frames := 7, cells := 1, slots := 6, locals := 195 }
def wp_X11_countMoves (D : wD) (post : Int32 → wS → Prop) (xp : String → wS → Prop) (S : wS) (a0 : Nat) (x1 : Int32) (x2 : Int32) : Prop := wp_X11_countMoves_0 D post xp S a0 x1
set_option maxHeartbeats 4000000 in
set_option maxRecDepth 100000 in
theorem t_X11_countMoves_10 {p : Program} {l : Launch} {e : Env} {s : State} {m : MethodId} {args : Array Value} {below : List Frame} {meth : Method} {c : Code} {D : wD} {cy : Nat → ClassId} {X : va_W} {A : Nat → Prop} {S0 : wS} {post : Int32 → wS → Prop} {xp : String → wS → Prop} (F : CallFix p m c cX11_countMoves 3 s args wz_X11_countMoves RX11) (hr : meth.sig.returnType = (some .int)) (hlocks : meth.locks = false) (hK : wK D cy A s) (hl0 : l.stackTraces = false) (hexc : ∀ x ∈ c.exceptionTable.toList, False) : ∀ {S : wS} {H : Heap} {locs : List Loc} {ls : Array Slot}, wp_X11_countMoves_10 D post xp S → wO D cy X A s.heap S H locs → wX D S0 S → lv_has ls 3 [] → W p l e r_X11_countMoves s m args below meth c H locs 0 0 (vx_MQ below (va_Qi (fun r S9 => wX D S0 S9 ∧ post r S9) (wB D cy X A) A) (wEx D cy X A (fun E S9 => wX D S0 S9 ∧ xp E S9)) args s 1 6 A) (F0 m 10 ls []) := by
  obtain ⟨hx, hb, hml, hown, hts⟩ := id F
  have hwg : ∀ w ∈ WG, w.before args s = true := fun w h => hts w (List.mem_cons_of_mem _ h)
  intro S H locs ls hp hW hE hl
  unfold wp_X11_countMoves_10 at hp
  exact x_throwW (ls := ls) F hK hW hl0 (by decide) (hwg _ wc_RX11_140) (hwg _ wi_java_lang_IllegalArgumentException) (show ("OpeningsCabinet", 309, "the depth is 1 to 3", 23) ∈ wStr by decide +kernel) (wa_RX11_144 hwg hK.2.1) wa_RX11_144_ok hl.1 hexc hlocks dX11_countMoves_10 dX11_countMoves_13 dX11_countMoves_14 dX11_countMoves_17 dX11_countMoves_20 (Nat.le_of_ble_eq_true rfl) (Nat.le_of_ble_eq_true rfl) (Nat.le_of_ble_eq_true rfl) (Nat.le_of_ble_eq_true rfl) (by decide) (by decide) ⟨hE, hp⟩
set_option maxHeartbeats 4000000 in
set_option maxRecDepth 100000 in
theorem t_X11_countMoves_0 {p : Program} {l : Launch} {e : Env} {s : State} {m : MethodId} {args : Array Value} {below : List Frame} {meth : Method} {c : Code} {D : wD} {cy : Nat → ClassId} {X : va_W} {A : Nat → Prop} {S0 : wS} {post : Int32 → wS → Prop} {xp : String → wS → Prop} (F : CallFix p m c cX11_countMoves 3 s args wz_X11_countMoves RX11) (hr : meth.sig.returnType = (some .int)) (hlocks : meth.locks = false) (hK : wK D cy A s) (hl0 : l.stackTraces = false) (hexc : ∀ x ∈ c.exceptionTable.toList, False) : ∀ {S : wS} {H : Heap} {locs : List Loc} {ls : Array Slot} {a0 : Nat} {x1 : Int32}, wp_X11_countMoves_0 D post xp S a0 x1 → wO D cy X A s.heap S H locs → wX D S0 S → lv_has ls 3 [(0, .ref a0), (1, .int x1)] → wM D S a0 → sK S a0 = 16 → W p l e r_X11_countMoves s m args below meth c H locs 0 0 (vx_MQ below (va_Qi (fun r S9 => wX D S0 S9 ∧ post r S9) (wB D cy X A) A) (wEx D cy X A (fun E S9 => wX D S0 S9 ∧ xp E S9)) args s 1 6 A) (F0 m 0 ls []) := by
  obtain ⟨hx, hb, hml, hown, hts⟩ := id F
  have hwg : ∀ w ∈ WG, w.before args s = true := fun w h => hts w (List.mem_cons_of_mem _ h)
  have i_16 : ∀ w ∈ u_ws RX11 TX11 18, w ∈ wz_X11_countMoves := fun w h => List.mem_cons_of_mem _ (wu_16 w h)
  have k_28 := hwg _ wf_RX11_28
  have k_91 := hwg _ wf_RX11_91
  intro S H locs ls a0 x1 hp hW hE hl hL_a0 hK_a0
  unfold wp_X11_countMoves_0 at hp
  refine lv_iload_n hx hb dX11_countMoves_0 rfl (lv_at hl 1 rfl) ?_
  refine lv_iconst (v := 1) hx hb dX11_countMoves_1 (by decide) ?_
  refine lv_icmp_lt (tgt := 10) hx hb dX11_countMoves_2 (by decide) (fun c_1 => ?_) (fun c_1 => ?_)
  · replace hp := hp.1 c_1
    exact t_X11_countMoves_10 F hr hlocks hK hl0 hexc hp hW hE (lv_sub hl [] rfl)
  · replace hp := hp.2 c_1
    refine lv_iload_n hx hb dX11_countMoves_5 rfl (lv_at hl 1 rfl) ?_
    refine lv_iconst (v := 3) hx hb dX11_countMoves_6 (by decide) ?_
    refine lv_icmp_le (tgt := 21) hx hb dX11_countMoves_7 (by decide) (fun c_2 => ?_) (fun c_2 => ?_)
    · replace hp := hp.1 c_2
      refine lv_aload_n hx hb dX11_countMoves_21 rfl (lv_at hl 0 rfl) ?_
      refine x_callV (vx_runV (As := []) (rest := []) F (c_X11_mustBeLawful l hl0 hL_a0 hK_a0 hp H.size) (cwV (C := RX11) 0 hts (wg_V wm_RX11_217 wy_X11_mustBeLawful) rfl rfl rfl (by decide +kernel) ⟨Nat.le_of_ble_eq_true rfl, Nat.le_of_ble_eq_true rfl⟩) (w_preV hK hW hL_a0 hK_a0 (by decide) rfl) rfl rfl hl.1 rfl (lv_room (Nat.le_of_ble_eq_true rfl)) dX11_countMoves_22 ⟨Nat.le_of_ble_eq_true rfl, Nat.le_of_ble_eq_true rfl⟩) hW (fun E ce q9 S9 H locs hp hW h1 h2 h3 => x_out hexc hlocks ⟨hE.trans hp.1, hp.2⟩ hW h1 h2 h3 (by decide) (by decide)) (fun S_4 H locs hp hW => ?_)
      obtain ⟨hX_S_4, hp⟩ := hp
      refine W.widen (k := 1) (n := 6) (by decide) (by decide) ?_
      have hE := hE.trans hX_S_4
      have hK_a0 : sK S_4 a0 = 16 := (hX_S_4.2 a0 hL_a0).1.trans hK_a0
      have hL_a0 : wM D S_4 a0 := hX_S_4.M hL_a0
      refine lv_aload_n hx hb dX11_countMoves_25 rfl (lv_at hl 0 rfl) ?_
      obtain ⟨y_5, ey_5, hL_y_5, hK_y_5, hp⟩ := hp
      refine w_get (k := 16) (f := 11) (T := TX11) (v := .ref y_5) F hK hW hL_a0 hK_a0 (by decide) rfl rfl (by decide) i_16 k_91 (by rw [show wv 16 11 S_4 a0 = va_rf (sR S_4 a0 11) from rfl, ey_5]; rfl) dX11_countMoves_26 ?_
      refine lv_aload_n hx hb dX11_countMoves_29 rfl (lv_at hl 0 rfl) ?_
      obtain ⟨y_6, ey_6, hL_y_6, hK_y_6, hp⟩ := hp
      refine w_get (k := 16) (f := 2) (T := TX11) (v := .ref y_6) F hK hW hL_a0 hK_a0 (by decide) rfl rfl (by decide) i_16 k_28 (by rw [show wv 16 2 S_4 a0 = va_rf (sR S_4 a0 2) from rfl, ey_6]; rfl) dX11_countMoves_30 ?_
      refine lv_iload_n hx hb dX11_countMoves_33 rfl (lv_at hl 1 rfl) ?_
      refine w_callI (va_runV (As := [.ref y_6, .int x1]) (rest := []) F (c_X9_rowsOfMoves l hL_y_5 hK_y_5 hL_y_6 hK_y_6 hp H.size) (cwV (C := RX9) 2 hts (wg_V wm_RX11_311 wy_X9_rowsOfMoves) rfl rfl rfl (by decide +kernel) ⟨Nat.le_of_ble_eq_true rfl, Nat.le_of_ble_eq_true rfl⟩) (w_preV hK hW hL_y_5 hK_y_5 (by decide) rfl) rfl rfl hl.1 rfl (lv_room (Nat.le_of_ble_eq_true rfl)) dX11_countMoves_34 ⟨Nat.le_of_ble_eq_true rfl, Nat.le_of_ble_eq_true rfl⟩) hW (fun r_7 S_8 H locs hp hW => ?_)
      obtain ⟨hX_S_8, hp⟩ := hp
      refine W.widen (k := 1) (n := 6) (by decide) (by decide) ?_
      have hE := hE.trans hX_S_8
      have hK_a0 : sK S_8 a0 = 16 := (hX_S_8.2 a0 hL_a0).1.trans hK_a0
      have hL_a0 : wM D S_8 a0 := hX_S_8.M hL_a0
      refine vx_ret ?_
      exact w_iret hx hb hr hlocks hW ⟨hE, hp⟩ dX11_countMoves_37
    · replace hp := hp.2 c_2
      exact t_X11_countMoves_10 F hr hlocks hK hl0 hexc hp hW hE (lv_sub hl [] rfl)
set_option maxHeartbeats 4000000 in
set_option maxRecDepth 100000 in
theorem c_X11_countMoves (l : Launch) {D : wD} {cy : Nat → ClassId} {X : va_W} {S0 : wS} {post : Int32 → wS → Prop} {xp : String → wS → Prop} (hl0 : l.stackTraces = false) {a0 : Nat} {x1 : Int32} {x2 : Int32} (hL_a0 : wM D S0 a0) (hK_a0 : sK S0 a0 = 16) (hp : wp_X11_countMoves D post xp S0 a0 x1 x2) : xI D cy X l yX11_countMoves wz_X11_countMoves r_X11_countMoves [.ref a0, .int x1, .int x2] S0 (fun r S9 => wX D S0 S9 ∧ post r S9) (fun E S9 => wX D S0 S9 ∧ xp E S9) := by
  intro sz
  refine vx_ofW (cc := cX11_countMoves) (maxL := 3) (ret := (some .int)) (by decide) rfl ?_
  intro p e s m args below meth c s₁ B hml hexc hv
  obtain ⟨rfl, hsz, hP, hK, hD0, hRO⟩ := hv
  have hts := atoms_spec (ws := wz_X11_countMoves) B.pre
  have hown : s.vm.findClass RX11 = some m.cls := findClass_of_methodNamed B.named
  subst hsz
  have hD := hD0.self (sz := s.heap.size)
  have F : CallFix p m c cX11_countMoves 3 s _ wz_X11_countMoves RX11 := ⟨B.exec, B.bytes, hml, hown, hts⟩
  have hr := B.returns
  have hlocks := B.notSynchronized
  generalize hAe : va_A (wL cy X S0) s.heap.size = A at hD hK ⊢
  have hA : ∀ q, s.heap.size ≤ q → A q := fun q h => by rw [← hAe]; exact Or.inr h
  have hW : wO D cy X A s.heap S0 s.heap [] := ⟨hP, hD, va_S.rf, hA, hRO⟩
  have hl := lv_entry ([.ref a0, .int x1, .int x2]) (n := 3) (Nat.le_of_ble_eq_true rfl)
  rw [lg_entry_eq]
  generalize (lg_sl ([.ref a0, .int x1, .int x2]) ++ List.replicate (3 - (lg_sl ([.ref a0, .int x1, .int x2])).length) Slot.unset).toArray = ls at hl ⊢
  have hl : lv_has ls 3 [(0, .ref a0), (1, .int x1), (2, .int x2)] := hl
  unfold wp_X11_countMoves at hp
  exact t_X11_countMoves_0 F hr hlocks hK hl0 hexc hp hW wX.rf (lv_sub hl [0, 1] rfl) hL_a0 hK_a0
def wp_X2_isWorkedOut_28 (D : wD) (post : Int32 → wS → Prop)  (S : wS) (t0 : Int32) : Prop :=
narrow .boolean (.int t0) = .int t0 ∧ post t0 S
def wp_X2_isWorkedOut_27 (D : wD) (post : Int32 → wS → Prop)  (S : wS) : Prop :=
wp_X2_isWorkedOut_28 D post S (0 : Int32)
def wp_X2_isWorkedOut_0 (D : wD) (post : Int32 → wS → Prop)  (S : wS) (a0 : Nat) (x1 : Int32) : Prop :=
((x1 < (2 : Int32) → wp_X2_isWorkedOut_27 D post S) ∧
 (¬ x1 < (2 : Int32) → ∃ y_2 : Nat, sR S a0 1 = some y_2 ∧ wM D S y_2 ∧ sK S y_2 = 23 ∧
(((Int32.ofNat (sN S y_2)) ≤ x1 → wp_X2_isWorkedOut_27 D post S) ∧
 (¬ (Int32.ofNat (sN S y_2)) ≤ x1 → ∃ y_4 : Nat, sR S a0 1 = some y_4 ∧ wM D S y_4 ∧ sK S y_4 = 23 ∧
vp_in x1 (sN S y_4) ∧
(((sI S y_4 (x1).toNatClampNeg) = 0 → wp_X2_isWorkedOut_27 D post S) ∧
 (¬ (sI S y_4 (x1).toNatClampNeg) = 0 → wp_X2_isWorkedOut_28 D post S (1 : Int32)))))))
abbrev r_X2_isWorkedOut : Room := { frames := 0, cells := 0, slots := 0, locals := 0 }
def wp_X2_isWorkedOut (D : wD) (post : Int32 → wS → Prop) (S : wS) (a0 : Nat) (x1 : Int32) : Prop := wp_X2_isWorkedOut_0 D post S a0 x1
set_option maxHeartbeats 4000000 in
set_option maxRecDepth 100000 in
theorem t_X2_isWorkedOut_28 {p : Program} {l : Launch} {e : Env} {s : State} {m : MethodId} {args : Array Value} {below : List Frame} {meth : Method} {c : Code} {D : wD} {cy : Nat → ClassId} {X : va_W} {A : Nat → Prop} {S0 : wS} {post : Int32 → wS → Prop} (F : CallFix p m c cX2_isWorkedOut 2 s args wz_X2_isWorkedOut RX2) (hr : meth.sig.returnType = (some .boolean)) (hlocks : meth.locks = false) (hK : wK D cy A s) : ∀ {S : wS} {H : Heap} {locs : List Loc} {ls : Array Slot} {t0 : Int32}, wp_X2_isWorkedOut_28 D post S t0 → wO D cy X A s.heap S H locs → wX D S0 S → lv_has ls 2 [] → W p l e r_X2_isWorkedOut s m args below meth c H locs 0 0 (MQ below (va_Qi (fun r S9 => wX D S0 S9 ∧ post r S9) (wB D cy X A) A) args s 0 0 A) (F0 m 28 ls [.int t0]) := by
  obtain ⟨hx, hb, hml, hown, hts⟩ := id F
  have hwg : ∀ w ∈ WG, w.before args s = true := fun w h => hts w (List.mem_cons_of_mem _ h)
  intro S H locs ls t0 hp hW hE hl
  unfold wp_X2_isWorkedOut_28 at hp
  exact w_zret hx hb hr hlocks hW hp.1 ⟨hE, hp.2⟩ dX2_isWorkedOut_28
set_option maxHeartbeats 4000000 in
set_option maxRecDepth 100000 in
theorem t_X2_isWorkedOut_27 {p : Program} {l : Launch} {e : Env} {s : State} {m : MethodId} {args : Array Value} {below : List Frame} {meth : Method} {c : Code} {D : wD} {cy : Nat → ClassId} {X : va_W} {A : Nat → Prop} {S0 : wS} {post : Int32 → wS → Prop} (F : CallFix p m c cX2_isWorkedOut 2 s args wz_X2_isWorkedOut RX2) (hr : meth.sig.returnType = (some .boolean)) (hlocks : meth.locks = false) (hK : wK D cy A s) : ∀ {S : wS} {H : Heap} {locs : List Loc} {ls : Array Slot}, wp_X2_isWorkedOut_27 D post S → wO D cy X A s.heap S H locs → wX D S0 S → lv_has ls 2 [] → W p l e r_X2_isWorkedOut s m args below meth c H locs 0 0 (MQ below (va_Qi (fun r S9 => wX D S0 S9 ∧ post r S9) (wB D cy X A) A) args s 0 0 A) (F0 m 27 ls []) := by
  obtain ⟨hx, hb, hml, hown, hts⟩ := id F
  have hwg : ∀ w ∈ WG, w.before args s = true := fun w h => hts w (List.mem_cons_of_mem _ h)
  intro S H locs ls hp hW hE hl
  unfold wp_X2_isWorkedOut_27 at hp
  refine lv_iconst (v := 0) hx hb dX2_isWorkedOut_27 (by decide) ?_
  exact t_X2_isWorkedOut_28 F hr hlocks hK hp hW hE (lv_sub hl [] rfl)
set_option maxHeartbeats 4000000 in
set_option maxRecDepth 100000 in
theorem t_X2_isWorkedOut_0 {p : Program} {l : Launch} {e : Env} {s : State} {m : MethodId} {args : Array Value} {below : List Frame} {meth : Method} {c : Code} {D : wD} {cy : Nat → ClassId} {X : va_W} {A : Nat → Prop} {S0 : wS} {post : Int32 → wS → Prop} (F : CallFix p m c cX2_isWorkedOut 2 s args wz_X2_isWorkedOut RX2) (hr : meth.sig.returnType = (some .boolean)) (hlocks : meth.locks = false) (hK : wK D cy A s) : ∀ {S : wS} {H : Heap} {locs : List Loc} {ls : Array Slot} {a0 : Nat} {x1 : Int32}, wp_X2_isWorkedOut_0 D post S a0 x1 → wO D cy X A s.heap S H locs → wX D S0 S → lv_has ls 2 [(0, .ref a0), (1, .int x1)] → wM D S a0 → sK S a0 = 7 → W p l e r_X2_isWorkedOut s m args below meth c H locs 0 0 (MQ below (va_Qi (fun r S9 => wX D S0 S9 ∧ post r S9) (wB D cy X A) A) args s 0 0 A) (F0 m 0 ls []) := by
  obtain ⟨hx, hb, hml, hown, hts⟩ := id F
  have hwg : ∀ w ∈ WG, w.before args s = true := fun w h => hts w (List.mem_cons_of_mem _ h)
  have i_7 : ∀ w ∈ u_ws RX2 TX2 8, w ∈ wz_X2_isWorkedOut := fun w h => List.mem_cons_of_mem _ (wu_7 w h)
  have k_11 := hwg _ wf_RX2_11
  intro S H locs ls a0 x1 hp hW hE hl hL_a0 hK_a0
  unfold wp_X2_isWorkedOut_0 at hp
  refine lv_iload_n hx hb dX2_isWorkedOut_0 rfl (lv_at hl 1 rfl) ?_
  refine lv_iconst (v := 2) hx hb dX2_isWorkedOut_1 (by decide) ?_
  refine lv_icmp_lt (tgt := 27) hx hb dX2_isWorkedOut_2 (by decide) (fun c_1 => ?_) (fun c_1 => ?_)
  · replace hp := hp.1 c_1
    exact t_X2_isWorkedOut_27 F hr hlocks hK hp hW hE (lv_sub hl [] rfl)
  · replace hp := hp.2 c_1
    refine lv_iload_n hx hb dX2_isWorkedOut_5 rfl (lv_at hl 1 rfl) ?_
    refine lv_aload_n hx hb dX2_isWorkedOut_6 rfl (lv_at hl 0 rfl) ?_
    obtain ⟨y_2, ey_2, hL_y_2, hK_y_2, hp⟩ := hp
    refine w_get (k := 7) (f := 1) (T := TX2) (v := .ref y_2) F hK hW hL_a0 hK_a0 (by decide) rfl rfl (by decide) i_7 k_11 (by rw [show wv 7 1 S a0 = va_rf (sR S a0 1) from rfl, ey_2]; rfl) dX2_isWorkedOut_7 ?_
    refine w_len F hK hW hL_y_2 hK_y_2 (by decide) dX2_isWorkedOut_10 ?_
    refine lv_icmp_ge (tgt := 27) hx hb dX2_isWorkedOut_11 (by decide) (fun c_3 => ?_) (fun c_3 => ?_)
    · replace hp := hp.1 c_3
      exact t_X2_isWorkedOut_27 F hr hlocks hK hp hW hE (lv_sub hl [] rfl)
    · replace hp := hp.2 c_3
      refine lv_aload_n hx hb dX2_isWorkedOut_14 rfl (lv_at hl 0 rfl) ?_
      obtain ⟨y_4, ey_4, hL_y_4, hK_y_4, hp⟩ := hp
      refine w_get (k := 7) (f := 1) (T := TX2) (v := .ref y_4) F hK hW hL_a0 hK_a0 (by decide) rfl rfl (by decide) i_7 k_11 (by rw [show wv 7 1 S a0 = va_rf (sR S a0 1) from rfl, ey_4]; rfl) dX2_isWorkedOut_15 ?_
      refine lv_iload_n hx hb dX2_isWorkedOut_18 rfl (lv_at hl 1 rfl) ?_
      obtain ⟨h_5, hp⟩ := hp
      refine w_zld F hK hW hL_y_4 hK_y_4 h_5 dX2_isWorkedOut_19 ?_
      refine lv_if_eq (tgt := 27) hx hb dX2_isWorkedOut_20 (by decide) (fun c_6 => ?_) (fun c_6 => ?_)
      · replace hp := hp.1 c_6
        exact t_X2_isWorkedOut_27 F hr hlocks hK hp hW hE (lv_sub hl [] rfl)
      · replace hp := hp.2 c_6
        refine lv_iconst (v := 1) hx hb dX2_isWorkedOut_23 (by decide) ?_
        refine lv_goto (tgt := 28) hx hb dX2_isWorkedOut_24 (by decide) ?_
        exact t_X2_isWorkedOut_28 F hr hlocks hK hp hW hE (lv_sub hl [] rfl)
set_option maxHeartbeats 4000000 in
set_option maxRecDepth 100000 in
theorem c_X2_isWorkedOut (l : Launch) {D : wD} {cy : Nat → ClassId} {X : va_W} {S0 : wS} {post : Int32 → wS → Prop} {a0 : Nat} {x1 : Int32} (hL_a0 : wM D S0 a0) (hK_a0 : sK S0 a0 = 7) (hp : wp_X2_isWorkedOut D post S0 a0 x1) : mI D cy X l yX2_isWorkedOut wz_X2_isWorkedOut r_X2_isWorkedOut [.ref a0, .int x1] S0 (fun r S9 => wX D S0 S9 ∧ post r S9) := by
  intro sz
  refine Met.ofW (cc := cX2_isWorkedOut) (maxL := 2) (ret := (some .boolean)) (by decide) rfl ?_
  intro p e s m args below meth c s₁ B hml hv
  obtain ⟨rfl, hsz, hP, hK, hD0, hRO⟩ := hv
  have hts := atoms_spec (ws := wz_X2_isWorkedOut) B.pre
  have hown : s.vm.findClass RX2 = some m.cls := findClass_of_methodNamed B.named
  subst hsz
  have hD := hD0.self (sz := s.heap.size)
  have F : CallFix p m c cX2_isWorkedOut 2 s _ wz_X2_isWorkedOut RX2 := ⟨B.exec, B.bytes, hml, hown, hts⟩
  have hr := B.returns
  have hlocks := B.notSynchronized
  generalize hAe : va_A (wL cy X S0) s.heap.size = A at hD hK ⊢
  have hA : ∀ q, s.heap.size ≤ q → A q := fun q h => by rw [← hAe]; exact Or.inr h
  have hW : wO D cy X A s.heap S0 s.heap [] := ⟨hP, hD, va_S.rf, hA, hRO⟩
  have hl := lv_entry ([.ref a0, .int x1]) (n := 2) (Nat.le_of_ble_eq_true rfl)
  rw [lg_entry_eq]
  generalize (lg_sl ([.ref a0, .int x1]) ++ List.replicate (2 - (lg_sl ([.ref a0, .int x1])).length) Slot.unset).toArray = ls at hl ⊢
  have hl : lv_has ls 2 [(0, .ref a0), (1, .int x1)] := hl
  unfold wp_X2_isWorkedOut at hp
  exact t_X2_isWorkedOut_0 F hr hlocks hK hp hW wX.rf (lv_sub hl [0, 1] rfl) hL_a0 hK_a0
def wp_X2_kindOf_99 (D : wD) (post : Int32 → wS → Prop)  (S : wS) (t0 : Int32) : Prop :=
post t0 S
def wp_X2_kindOf_98 (D : wD) (post : Int32 → wS → Prop)  (S : wS) : Prop :=
wp_X2_kindOf_99 D post S (-1 : Int32)
def wp_X2_kindOf_69 (D : wD) (post : Int32 → wS → Prop)  (S : wS) : Prop :=
post (-1 : Int32) S
def wp_X2_kindOf_40 (D : wD) (post : Int32 → wS → Prop)  (S : wS) (a1 : Nat) (x2 : Int64) (t0 : Int32) : Prop :=
((t0 = 0 → wp_X2_kindOf_69 D post S) ∧
 (¬ t0 = 0 → ((¬ (sI S a1 6) = 0 → wp_X2_kindOf_69 D post S) ∧
 ((sI S a1 6) = 0 → ((¬ (sI S a1 7) = (-1 : Int32) → wp_X2_kindOf_69 D post S) ∧
 ((sI S a1 7) = (-1 : Int32) → wp_X7_isLawful D (fun r_4 S_5 => 
((¬ r_4 = 0 → wp_X11_lowest D (fun r_7 S_8 => 
wp_X7_kindOn D (fun r_9 S_10 => 
((r_9 < (2 : Int32) → wp_X2_kindOf_98 D post S_10) ∧
 (¬ r_9 < (2 : Int32) → (((5 : Int32) < r_9 → wp_X2_kindOf_98 D post S_10) ∧
 (¬ (5 : Int32) < r_9 → wp_X2_kindOf_99 D post S_10 r_9))))) S_8 a1 r_7) S_5 x2) ∧
 (r_4 = 0 → wp_X2_kindOf_69 D post S_5))) S a1))))))
def wp_X2_kindOf_39 (D : wD) (post : Int32 → wS → Prop)  (S : wS) (a1 : Nat) (x2 : Int64) : Prop :=
wp_X2_kindOf_40 D post S a1 x2 (0 : Int32)
def wp_X2_kindOf_0 (D : wD) (post : Int32 → wS → Prop)  (S : wS) (a1 : Nat) : Prop :=
wp_X7_occupied D (fun r_1 S_2 => 
wp_X7_ofKind D (fun r_3 S_4 => 
∀ x_5 : Int64, x_5 = (r_1 &&& (r_3 ^^^ (-1 : Int64))) →
wp_J13_bitCount_95d88 D (fun r_6 S_7 => 
((¬ r_6 = (1 : Int32) → wp_X2_kindOf_39 D post S_7 a1 x_5) ∧
 (r_6 = (1 : Int32) → wp_X7_ofSide D (fun r_9 S_10 => 
(((lg_cmp (x_5 &&& r_9) (0 : Int64)) = 0 → wp_X2_kindOf_39 D post S_10 a1 x_5) ∧
 (¬ (lg_cmp (x_5 &&& r_9) (0 : Int64)) = 0 → wp_X2_kindOf_40 D post S_10 a1 x_5 (1 : Int32)))) S_7 a1 (1 : Int32)))) S_4 x_5) S_2 a1 (1 : Int32)) S a1
abbrev r_X2_kindOf : Room := { frames := 4, cells := 0, slots := 0, locals := 92 }
def wp_X2_kindOf (D : wD) (post : Int32 → wS → Prop) (S : wS) (a0 : Nat) (a1 : Nat) : Prop := wp_X2_kindOf_0 D post S a1
set_option maxHeartbeats 4000000 in
set_option maxRecDepth 100000 in
theorem t_X2_kindOf_99 {p : Program} {l : Launch} {e : Env} {s : State} {m : MethodId} {args : Array Value} {below : List Frame} {meth : Method} {c : Code} {D : wD} {cy : Nat → ClassId} {X : va_W} {A : Nat → Prop} {S0 : wS} {post : Int32 → wS → Prop} (F : CallFix p m c cX2_kindOf 6 s args wz_X2_kindOf RX2) (hr : meth.sig.returnType = (some .int)) (hlocks : meth.locks = false) (hK : wK D cy A s) : ∀ {S : wS} {H : Heap} {locs : List Loc} {ls : Array Slot} {t0 : Int32}, wp_X2_kindOf_99 D post S t0 → wO D cy X A s.heap S H locs → wX D S0 S → lv_has ls 6 [] → W p l e r_X2_kindOf s m args below meth c H locs 0 0 (MQ below (va_Qi (fun r S9 => wX D S0 S9 ∧ post r S9) (wB D cy X A) A) args s 0 0 A) (F0 m 99 ls [.int t0]) := by
  obtain ⟨hx, hb, hml, hown, hts⟩ := id F
  have hwg : ∀ w ∈ WG, w.before args s = true := fun w h => hts w (List.mem_cons_of_mem _ h)
  intro S H locs ls t0 hp hW hE hl
  unfold wp_X2_kindOf_99 at hp
  exact w_iret hx hb hr hlocks hW ⟨hE, hp⟩ dX2_kindOf_99
set_option maxHeartbeats 4000000 in
set_option maxRecDepth 100000 in
theorem t_X2_kindOf_98 {p : Program} {l : Launch} {e : Env} {s : State} {m : MethodId} {args : Array Value} {below : List Frame} {meth : Method} {c : Code} {D : wD} {cy : Nat → ClassId} {X : va_W} {A : Nat → Prop} {S0 : wS} {post : Int32 → wS → Prop} (F : CallFix p m c cX2_kindOf 6 s args wz_X2_kindOf RX2) (hr : meth.sig.returnType = (some .int)) (hlocks : meth.locks = false) (hK : wK D cy A s) : ∀ {S : wS} {H : Heap} {locs : List Loc} {ls : Array Slot}, wp_X2_kindOf_98 D post S → wO D cy X A s.heap S H locs → wX D S0 S → lv_has ls 6 [] → W p l e r_X2_kindOf s m args below meth c H locs 0 0 (MQ below (va_Qi (fun r S9 => wX D S0 S9 ∧ post r S9) (wB D cy X A) A) args s 0 0 A) (F0 m 98 ls []) := by
  obtain ⟨hx, hb, hml, hown, hts⟩ := id F
  have hwg : ∀ w ∈ WG, w.before args s = true := fun w h => hts w (List.mem_cons_of_mem _ h)
  intro S H locs ls hp hW hE hl
  unfold wp_X2_kindOf_98 at hp
  refine lv_iconst (v := (-1)) hx hb dX2_kindOf_98 (by decide) ?_
  exact t_X2_kindOf_99 F hr hlocks hK hp hW hE (lv_sub hl [] rfl)
set_option maxHeartbeats 4000000 in
set_option maxRecDepth 100000 in
theorem t_X2_kindOf_69 {p : Program} {l : Launch} {e : Env} {s : State} {m : MethodId} {args : Array Value} {below : List Frame} {meth : Method} {c : Code} {D : wD} {cy : Nat → ClassId} {X : va_W} {A : Nat → Prop} {S0 : wS} {post : Int32 → wS → Prop} (F : CallFix p m c cX2_kindOf 6 s args wz_X2_kindOf RX2) (hr : meth.sig.returnType = (some .int)) (hlocks : meth.locks = false) (hK : wK D cy A s) : ∀ {S : wS} {H : Heap} {locs : List Loc} {ls : Array Slot}, wp_X2_kindOf_69 D post S → wO D cy X A s.heap S H locs → wX D S0 S → lv_has ls 6 [] → W p l e r_X2_kindOf s m args below meth c H locs 0 0 (MQ below (va_Qi (fun r S9 => wX D S0 S9 ∧ post r S9) (wB D cy X A) A) args s 0 0 A) (F0 m 69 ls []) := by
  obtain ⟨hx, hb, hml, hown, hts⟩ := id F
  have hwg : ∀ w ∈ WG, w.before args s = true := fun w h => hts w (List.mem_cons_of_mem _ h)
  intro S H locs ls hp hW hE hl
  unfold wp_X2_kindOf_69 at hp
  refine lv_iconst (v := (-1)) hx hb dX2_kindOf_69 (by decide) ?_
  exact w_iret hx hb hr hlocks hW ⟨hE, hp⟩ dX2_kindOf_70
set_option maxHeartbeats 4000000 in
set_option maxRecDepth 100000 in
theorem t_X2_kindOf_40 {p : Program} {l : Launch} {e : Env} {s : State} {m : MethodId} {args : Array Value} {below : List Frame} {meth : Method} {c : Code} {D : wD} {cy : Nat → ClassId} {X : va_W} {A : Nat → Prop} {S0 : wS} {post : Int32 → wS → Prop} (F : CallFix p m c cX2_kindOf 6 s args wz_X2_kindOf RX2) (hr : meth.sig.returnType = (some .int)) (hlocks : meth.locks = false) (hK : wK D cy A s) : ∀ {S : wS} {H : Heap} {locs : List Loc} {ls : Array Slot} {a1 : Nat} {x2 : Int64} {t0 : Int32}, wp_X2_kindOf_40 D post S a1 x2 t0 → wO D cy X A s.heap S H locs → wX D S0 S → lv_has ls 6 [(1, .ref a1), (2, .long x2)] → wM D S a1 → sK S a1 = 12 → W p l e r_X2_kindOf s m args below meth c H locs 0 0 (MQ below (va_Qi (fun r S9 => wX D S0 S9 ∧ post r S9) (wB D cy X A) A) args s 0 0 A) (F0 m 40 ls [.int t0]) := by
  obtain ⟨hx, hb, hml, hown, hts⟩ := id F
  have hwg : ∀ w ∈ WG, w.before args s = true := fun w h => hts w (List.mem_cons_of_mem _ h)
  have i_12 : ∀ w ∈ u_ws RX7 TX7 8, w ∈ wz_X2_kindOf := fun w h => List.mem_cons_of_mem _ (wu_12 w h)
  intro S H locs ls a1 x2 t0 hp hW hE hl hL_a1 hK_a1
  unfold wp_X2_kindOf_40 at hp
  refine lv_istore (lv' := [(4, .int t0), (1, .ref a1), (2, .long x2)]) hx hb dX2_kindOf_40 hl (by decide) rfl (fun ls hl => ?_)
  refine lv_iload hx hb dX2_kindOf_42 (lv_at hl 0 rfl) ?_
  refine lv_if_eq (tgt := 69) hx hb dX2_kindOf_44 (by decide) (fun c_1 => ?_) (fun c_1 => ?_)
  · replace hp := hp.1 c_1
    exact t_X2_kindOf_69 F hr hlocks hK hp hW hE (lv_sub hl [] rfl)
  · replace hp := hp.2 c_1
    refine lv_aload_n hx hb dX2_kindOf_47 rfl (lv_at hl 1 rfl) ?_
    refine w_getN (k := 12) (f := 6) (T := TX7) (v := .int (sI S a1 6)) F hK hW hL_a1 hK_a1 (by decide) rfl rfl (by decide) i_12 (hK.2.1 (.fieldLinkNest "OpeningsCabinet$Endings" 71 "OpeningsCabinet$Position" "rights" "I" "OpeningsCabinet") (by decide +kernel)) rfl dX2_kindOf_48 ?_
    refine lv_if_ne (tgt := 69) hx hb dX2_kindOf_51 (by decide) (fun c_2 => ?_) (fun c_2 => ?_)
    · replace hp := hp.1 c_2
      exact t_X2_kindOf_69 F hr hlocks hK hp hW hE (lv_sub hl [] rfl)
    · replace hp := hp.2 c_2
      refine lv_aload_n hx hb dX2_kindOf_54 rfl (lv_at hl 1 rfl) ?_
      refine w_getN (k := 12) (f := 7) (T := TX7) (v := .int (sI S a1 7)) F hK hW hL_a1 hK_a1 (by decide) rfl rfl (by decide) i_12 (hK.2.1 (.fieldLinkNest "OpeningsCabinet$Endings" 74 "OpeningsCabinet$Position" "passing" "I" "OpeningsCabinet") (by decide +kernel)) rfl dX2_kindOf_55 ?_
      refine lv_iconst (v := (-1)) hx hb dX2_kindOf_58 (by decide) ?_
      refine lv_icmp_ne (tgt := 69) hx hb dX2_kindOf_59 (by decide) (fun c_3 => ?_) (fun c_3 => ?_)
      · replace hp := hp.1 c_3
        exact t_X2_kindOf_69 F hr hlocks hK hp hW hE (lv_sub hl [] rfl)
      · replace hp := hp.2 c_3
        refine lv_aload_n hx hb dX2_kindOf_62 rfl (lv_at hl 1 rfl) ?_
        refine w_callI (va_runV (As := []) (rest := []) F (c_X7_isLawful l hL_a1 hK_a1 hp H.size) (cwV (C := RX7) 0 hts (wg_V wm_RX2_77 wy_X7_isLawful) rfl rfl rfl (by decide +kernel) ⟨Nat.le_of_ble_eq_true rfl, Nat.le_of_ble_eq_true rfl⟩) (w_preV hK hW hL_a1 hK_a1 (by decide) rfl) rfl rfl hl.1 rfl (lv_room (Nat.le_of_ble_eq_true rfl)) dX2_kindOf_63 ⟨Nat.le_of_ble_eq_true rfl, Nat.le_of_ble_eq_true rfl⟩) hW (fun r_4 S_5 H locs hp hW => ?_)
        obtain ⟨hX_S_5, hp⟩ := hp
        refine W.widen (k := 0) (n := 0) (by decide) (by decide) ?_
        have hE := hE.trans hX_S_5
        have hK_a1 : sK S_5 a1 = 12 := (hX_S_5.2 a1 hL_a1).1.trans hK_a1
        have hL_a1 : wM D S_5 a1 := hX_S_5.M hL_a1
        refine lv_if_ne (tgt := 71) hx hb dX2_kindOf_66 (by decide) (fun c_6 => ?_) (fun c_6 => ?_)
        · replace hp := hp.1 c_6
          refine lv_aload_n hx hb dX2_kindOf_71 rfl (lv_at hl 1 rfl) ?_
          refine lv_lload_n hx hb dX2_kindOf_72 rfl (lv_at hl 2 rfl) ?_
          refine w_callI (va_runSN (As := [.long x2]) (rest := [.ref a1]) F (c_X11_lowest l hp H.size) ⟨va_cnB (host := "OpeningsCabinet") 1 hts (wg_cons wy_X11_lowest.2.2) rfl rfl rfl (hK.2.1 (.methodLinkNest "OpeningsCabinet$Endings" 81 ⟨"OpeningsCabinet", "lowest", "(J)I"⟩ "OpeningsCabinet") (by decide +kernel)) (hwg _ wy_X11_lowest.2.1) ⟨by decide, by decide, by decide +kernel⟩ ⟨Nat.le_of_ble_eq_true rfl, Nat.le_of_ble_eq_true rfl⟩, hwg _ wy_X11_lowest.1, trivial⟩ (w_preS hK hW) rfl rfl hl.1 rfl (lv_room (Nat.le_of_ble_eq_true rfl)) dX2_kindOf_73 ⟨Nat.le_of_ble_eq_true rfl, Nat.le_of_ble_eq_true rfl⟩) hW (fun r_7 S_8 H locs hp hW => ?_)
          obtain ⟨hX_S_8, hp⟩ := hp
          refine W.widen (k := 0) (n := 0) (by decide) (by decide) ?_
          have hE := hE.trans hX_S_8
          have hK_a1 : sK S_8 a1 = 12 := (hX_S_8.2 a1 hL_a1).1.trans hK_a1
          have hL_a1 : wM D S_8 a1 := hX_S_8.M hL_a1
          refine w_callI (va_runV (As := [.int r_7]) (rest := []) F (c_X7_kindOn l hL_a1 hK_a1 hp H.size) (cwV (C := RX7) 1 hts (wg_V wm_RX2_84 wy_X7_kindOn) rfl rfl rfl (by decide +kernel) ⟨Nat.le_of_ble_eq_true rfl, Nat.le_of_ble_eq_true rfl⟩) (w_preV hK hW hL_a1 hK_a1 (by decide) rfl) rfl rfl hl.1 rfl (lv_room (Nat.le_of_ble_eq_true rfl)) dX2_kindOf_76 ⟨Nat.le_of_ble_eq_true rfl, Nat.le_of_ble_eq_true rfl⟩) hW (fun r_9 S_10 H locs hp hW => ?_)
          obtain ⟨hX_S_10, hp⟩ := hp
          refine W.widen (k := 0) (n := 0) (by decide) (by decide) ?_
          have hE := hE.trans hX_S_10
          have hK_a1 : sK S_10 a1 = 12 := (hX_S_10.2 a1 hL_a1).1.trans hK_a1
          have hL_a1 : wM D S_10 a1 := hX_S_10.M hL_a1
          refine lv_istore (lv' := [(5, .int r_9), (4, .int t0), (1, .ref a1), (2, .long x2)]) hx hb dX2_kindOf_79 hl (by decide) rfl (fun ls hl => ?_)
          refine lv_iload hx hb dX2_kindOf_81 (lv_at hl 0 rfl) ?_
          refine lv_iconst (v := 2) hx hb dX2_kindOf_83 (by decide) ?_
          refine lv_icmp_lt (tgt := 98) hx hb dX2_kindOf_84 (by decide) (fun c_11 => ?_) (fun c_11 => ?_)
          · replace hp := hp.1 c_11
            exact t_X2_kindOf_98 F hr hlocks hK hp hW hE (lv_sub hl [] rfl)
          · replace hp := hp.2 c_11
            refine lv_iload hx hb dX2_kindOf_87 (lv_at hl 0 rfl) ?_
            refine lv_iconst (v := 5) hx hb dX2_kindOf_89 (by decide) ?_
            refine lv_icmp_gt (tgt := 98) hx hb dX2_kindOf_90 (by decide) (fun c_12 => ?_) (fun c_12 => ?_)
            · replace hp := hp.1 c_12
              exact t_X2_kindOf_98 F hr hlocks hK hp hW hE (lv_sub hl [] rfl)
            · replace hp := hp.2 c_12
              refine lv_iload hx hb dX2_kindOf_93 (lv_at hl 0 rfl) ?_
              refine lv_goto (tgt := 99) hx hb dX2_kindOf_95 (by decide) ?_
              exact t_X2_kindOf_99 F hr hlocks hK hp hW hE (lv_sub hl [] rfl)
        · replace hp := hp.2 c_6
          exact t_X2_kindOf_69 F hr hlocks hK hp hW hE (lv_sub hl [] rfl)
set_option maxHeartbeats 4000000 in
set_option maxRecDepth 100000 in
theorem t_X2_kindOf_39 {p : Program} {l : Launch} {e : Env} {s : State} {m : MethodId} {args : Array Value} {below : List Frame} {meth : Method} {c : Code} {D : wD} {cy : Nat → ClassId} {X : va_W} {A : Nat → Prop} {S0 : wS} {post : Int32 → wS → Prop} (F : CallFix p m c cX2_kindOf 6 s args wz_X2_kindOf RX2) (hr : meth.sig.returnType = (some .int)) (hlocks : meth.locks = false) (hK : wK D cy A s) : ∀ {S : wS} {H : Heap} {locs : List Loc} {ls : Array Slot} {a1 : Nat} {x2 : Int64}, wp_X2_kindOf_39 D post S a1 x2 → wO D cy X A s.heap S H locs → wX D S0 S → lv_has ls 6 [(1, .ref a1), (2, .long x2)] → wM D S a1 → sK S a1 = 12 → W p l e r_X2_kindOf s m args below meth c H locs 0 0 (MQ below (va_Qi (fun r S9 => wX D S0 S9 ∧ post r S9) (wB D cy X A) A) args s 0 0 A) (F0 m 39 ls []) := by
  obtain ⟨hx, hb, hml, hown, hts⟩ := id F
  have hwg : ∀ w ∈ WG, w.before args s = true := fun w h => hts w (List.mem_cons_of_mem _ h)
  intro S H locs ls a1 x2 hp hW hE hl hL_a1 hK_a1
  unfold wp_X2_kindOf_39 at hp
  refine lv_iconst (v := 0) hx hb dX2_kindOf_39 (by decide) ?_
  exact t_X2_kindOf_40 F hr hlocks hK hp hW hE (lv_sub hl [0, 1] rfl) hL_a1 hK_a1
set_option maxHeartbeats 4000000 in
set_option maxRecDepth 100000 in
theorem t_X2_kindOf_0 {p : Program} {l : Launch} {e : Env} {s : State} {m : MethodId} {args : Array Value} {below : List Frame} {meth : Method} {c : Code} {D : wD} {cy : Nat → ClassId} {X : va_W} {A : Nat → Prop} {S0 : wS} {post : Int32 → wS → Prop} (F : CallFix p m c cX2_kindOf 6 s args wz_X2_kindOf RX2) (hr : meth.sig.returnType = (some .int)) (hlocks : meth.locks = false) (hK : wK D cy A s) : ∀ {S : wS} {H : Heap} {locs : List Loc} {ls : Array Slot} {a1 : Nat}, wp_X2_kindOf_0 D post S a1 → wO D cy X A s.heap S H locs → wX D S0 S → lv_has ls 6 [(1, .ref a1)] → wM D S a1 → sK S a1 = 12 → W p l e r_X2_kindOf s m args below meth c H locs 0 0 (MQ below (va_Qi (fun r S9 => wX D S0 S9 ∧ post r S9) (wB D cy X A) A) args s 0 0 A) (F0 m 0 ls []) := by
  obtain ⟨hx, hb, hml, hown, hts⟩ := id F
  have hwg : ∀ w ∈ WG, w.before args s = true := fun w h => hts w (List.mem_cons_of_mem _ h)
  intro S H locs ls a1 hp hW hE hl hL_a1 hK_a1
  unfold wp_X2_kindOf_0 at hp
  refine lv_aload_n hx hb dX2_kindOf_0 rfl (lv_at hl 0 rfl) ?_
  refine w_callJ (va_runV (As := []) (rest := []) F (c_X7_occupied l hL_a1 hK_a1 hp H.size) (cwV (C := RX7) 0 hts (wg_V wm_RX2_49 wy_X7_occupied) rfl rfl rfl (by decide +kernel) ⟨Nat.le_of_ble_eq_true rfl, Nat.le_of_ble_eq_true rfl⟩) (w_preV hK hW hL_a1 hK_a1 (by decide) rfl) rfl rfl hl.1 rfl (lv_room (Nat.le_of_ble_eq_true rfl)) dX2_kindOf_1 ⟨Nat.le_of_ble_eq_true rfl, Nat.le_of_ble_eq_true rfl⟩) hW (fun r_1 S_2 H locs hp hW => ?_)
  obtain ⟨hX_S_2, hp⟩ := hp
  refine W.widen (k := 0) (n := 0) (by decide) (by decide) ?_
  have hE := hE.trans hX_S_2
  have hK_a1 : sK S_2 a1 = 12 := (hX_S_2.2 a1 hL_a1).1.trans hK_a1
  have hL_a1 : wM D S_2 a1 := hX_S_2.M hL_a1
  refine lv_aload_n hx hb dX2_kindOf_4 rfl (lv_at hl 0 rfl) ?_
  refine lv_iconst (v := 1) hx hb dX2_kindOf_5 (by decide) ?_
  refine w_callJ (va_runV (As := [.int (1 : Int32)]) (rest := [.long r_1]) F (c_X7_ofKind l hL_a1 hK_a1 hp H.size) (cwV (C := RX7) 1 hts (wg_V wm_RX2_55 wy_X7_ofKind) rfl rfl rfl (by decide +kernel) ⟨Nat.le_of_ble_eq_true rfl, Nat.le_of_ble_eq_true rfl⟩) (w_preV hK hW hL_a1 hK_a1 (by decide) rfl) rfl rfl hl.1 rfl (lv_room (Nat.le_of_ble_eq_true rfl)) dX2_kindOf_6 ⟨Nat.le_of_ble_eq_true rfl, Nat.le_of_ble_eq_true rfl⟩) hW (fun r_3 S_4 H locs hp hW => ?_)
  obtain ⟨hX_S_4, hp⟩ := hp
  refine W.widen (k := 0) (n := 0) (by decide) (by decide) ?_
  have hE := hE.trans hX_S_4
  have hK_a1 : sK S_4 a1 = 12 := (hX_S_4.2 a1 hL_a1).1.trans hK_a1
  have hL_a1 : wM D S_4 a1 := hX_S_4.M hL_a1
  refine lv_ldc2 (v := (-1)) hx hb hown (hwg _ wJ_RX2_59) dX2_kindOf_9 ?_
  refine lv_lxor hx hb dX2_kindOf_12 ?_
  refine lv_land hx hb dX2_kindOf_13 ?_
  refine lv_topl (fun x_5 ex_5 => ?_)
  replace hp := hp x_5 ex_5
  refine lv_lstore_n (lv' := [(2, .long x_5), (1, .ref a1)]) hx hb dX2_kindOf_14 rfl hl (by decide) rfl (fun ls hl => ?_)
  refine lv_lload_n hx hb dX2_kindOf_15 rfl (lv_at hl 0 rfl) ?_
  refine w_callI (va_runS (As := [.long x_5]) (rest := []) F (c_J13_bitCount_95d88 l hp H.size) (va_cwS 1 hts (wg_S wm_RX2_61 wy_J13_bitCount_95d88) rfl rfl rfl (by decide +kernel) ⟨Nat.le_of_ble_eq_true rfl, Nat.le_of_ble_eq_true rfl⟩) (w_preS hK hW) rfl rfl hl.1 rfl (lv_room (Nat.le_of_ble_eq_true rfl)) dX2_kindOf_16 ⟨Nat.le_of_ble_eq_true rfl, Nat.le_of_ble_eq_true rfl⟩) hW (fun r_6 S_7 H locs hp hW => ?_)
  obtain ⟨hX_S_7, hp⟩ := hp
  refine W.widen (k := 0) (n := 0) (by decide) (by decide) ?_
  have hE := hE.trans hX_S_7
  have hK_a1 : sK S_7 a1 = 12 := (hX_S_7.2 a1 hL_a1).1.trans hK_a1
  have hL_a1 : wM D S_7 a1 := hX_S_7.M hL_a1
  refine lv_iconst (v := 1) hx hb dX2_kindOf_19 (by decide) ?_
  refine lv_icmp_ne (tgt := 39) hx hb dX2_kindOf_20 (by decide) (fun c_8 => ?_) (fun c_8 => ?_)
  · replace hp := hp.1 c_8
    exact t_X2_kindOf_39 F hr hlocks hK hp hW hE (lv_sub hl [1, 0] rfl) hL_a1 hK_a1
  · replace hp := hp.2 c_8
    refine lv_lload_n hx hb dX2_kindOf_23 rfl (lv_at hl 0 rfl) ?_
    refine lv_aload_n hx hb dX2_kindOf_24 rfl (lv_at hl 1 rfl) ?_
    refine lv_iconst (v := 1) hx hb dX2_kindOf_25 (by decide) ?_
    refine w_callJ (va_runV (As := [.int (1 : Int32)]) (rest := [.long x_5]) F (c_X7_ofSide l hL_a1 hK_a1 hp H.size) (cwV (C := RX7) 1 hts (wg_V wm_RX2_67 wy_X7_ofSide) rfl rfl rfl (by decide +kernel) ⟨Nat.le_of_ble_eq_true rfl, Nat.le_of_ble_eq_true rfl⟩) (w_preV hK hW hL_a1 hK_a1 (by decide) rfl) rfl rfl hl.1 rfl (lv_room (Nat.le_of_ble_eq_true rfl)) dX2_kindOf_26 ⟨Nat.le_of_ble_eq_true rfl, Nat.le_of_ble_eq_true rfl⟩) hW (fun r_9 S_10 H locs hp hW => ?_)
    obtain ⟨hX_S_10, hp⟩ := hp
    refine W.widen (k := 0) (n := 0) (by decide) (by decide) ?_
    have hE := hE.trans hX_S_10
    have hK_a1 : sK S_10 a1 = 12 := (hX_S_10.2 a1 hL_a1).1.trans hK_a1
    have hL_a1 : wM D S_10 a1 := hX_S_10.M hL_a1
    refine lv_land hx hb dX2_kindOf_29 ?_
    refine lv_lconst (v := 0) hx hb dX2_kindOf_30 (by decide) ?_
    refine W.lcmp hx hb dX2_kindOf_31 ?_
    refine lv_if_eq (tgt := 39) hx hb dX2_kindOf_32 (by decide) (fun c_11 => ?_) (fun c_11 => ?_)
    · replace hp := hp.1 c_11
      exact t_X2_kindOf_39 F hr hlocks hK hp hW hE (lv_sub hl [1, 0] rfl) hL_a1 hK_a1
    · replace hp := hp.2 c_11
      refine lv_iconst (v := 1) hx hb dX2_kindOf_35 (by decide) ?_
      refine lv_goto (tgt := 40) hx hb dX2_kindOf_36 (by decide) ?_
      exact t_X2_kindOf_40 F hr hlocks hK hp hW hE (lv_sub hl [1, 0] rfl) hL_a1 hK_a1
set_option maxHeartbeats 4000000 in
set_option maxRecDepth 100000 in
theorem c_X2_kindOf (l : Launch) {D : wD} {cy : Nat → ClassId} {X : va_W} {S0 : wS} {post : Int32 → wS → Prop} {a0 : Nat} {a1 : Nat} (hL_a0 : wM D S0 a0) (hK_a0 : sK S0 a0 = 7) (hL_a1 : wM D S0 a1) (hK_a1 : sK S0 a1 = 12) (hp : wp_X2_kindOf D post S0 a0 a1) : mI D cy X l yX2_kindOf wz_X2_kindOf r_X2_kindOf [.ref a0, .ref a1] S0 (fun r S9 => wX D S0 S9 ∧ post r S9) := by
  intro sz
  refine Met.ofW (cc := cX2_kindOf) (maxL := 6) (ret := (some .int)) (by decide) rfl ?_
  intro p e s m args below meth c s₁ B hml hv
  obtain ⟨rfl, hsz, hP, hK, hD0, hRO⟩ := hv
  have hts := atoms_spec (ws := wz_X2_kindOf) B.pre
  have hown : s.vm.findClass RX2 = some m.cls := findClass_of_methodNamed B.named
  subst hsz
  have hD := hD0.self (sz := s.heap.size)
  have F : CallFix p m c cX2_kindOf 6 s _ wz_X2_kindOf RX2 := ⟨B.exec, B.bytes, hml, hown, hts⟩
  have hr := B.returns
  have hlocks := B.notSynchronized
  generalize hAe : va_A (wL cy X S0) s.heap.size = A at hD hK ⊢
  have hA : ∀ q, s.heap.size ≤ q → A q := fun q h => by rw [← hAe]; exact Or.inr h
  have hW : wO D cy X A s.heap S0 s.heap [] := ⟨hP, hD, va_S.rf, hA, hRO⟩
  have hl := lv_entry ([.ref a0, .ref a1]) (n := 6) (Nat.le_of_ble_eq_true rfl)
  rw [lg_entry_eq]
  generalize (lg_sl ([.ref a0, .ref a1]) ++ List.replicate (6 - (lg_sl ([.ref a0, .ref a1])).length) Slot.unset).toArray = ls at hl ⊢
  have hl : lv_has ls 6 [(0, .ref a0), (1, .ref a1)] := hl
  unfold wp_X2_kindOf at hp
  exact t_X2_kindOf_0 F hr hlocks hK hp hW wX.rf (lv_sub hl [1] rfl) hL_a1 hK_a1
def wp_X2_indexOf_11 (D : wD) (post : Int32 → wS → Prop)  (S : wS) (x1 : Int32) (x2 : Int32) (x3 : Int32) (t0 : Int32) : Prop :=
post ((t0 + (((x1 * (25 : Int32)) + x2) * (25 : Int32))) + x3) S
def wp_X2_indexOf_0 (D : wD) (post : Int32 → wS → Prop)  (S : wS) (x0 : Int32) (x1 : Int32) (x2 : Int32) (x3 : Int32) : Prop :=
((x0 = 0 → wp_X2_indexOf_11 D post S x1 x2 x3 (0 : Int32)) ∧
 (¬ x0 = 0 → wp_X2_indexOf_11 D post S x1 x2 x3 (15625 : Int32)))
abbrev r_X2_indexOf : Room := { frames := 0, cells := 0, slots := 0, locals := 0 }
def wp_X2_indexOf (D : wD) (post : Int32 → wS → Prop) (S : wS) (x0 : Int32) (x1 : Int32) (x2 : Int32) (x3 : Int32) : Prop := wp_X2_indexOf_0 D post S x0 x1 x2 x3
set_option maxHeartbeats 4000000 in
set_option maxRecDepth 100000 in
theorem t_X2_indexOf_11 {p : Program} {l : Launch} {e : Env} {s : State} {m : MethodId} {args : Array Value} {below : List Frame} {meth : Method} {c : Code} {D : wD} {cy : Nat → ClassId} {X : va_W} {A : Nat → Prop} {S0 : wS} {post : Int32 → wS → Prop} (F : CallFix p m c cX2_indexOf 4 s args wz_X2_indexOf RX2) (hr : meth.sig.returnType = (some .int)) (hlocks : meth.locks = false) (hK : wK D cy A s) : ∀ {S : wS} {H : Heap} {locs : List Loc} {ls : Array Slot} {x1 : Int32} {x2 : Int32} {x3 : Int32} {t0 : Int32}, wp_X2_indexOf_11 D post S x1 x2 x3 t0 → wO D cy X A s.heap S H locs → wX D S0 S → lv_has ls 4 [(1, .int x1), (2, .int x2), (3, .int x3)] → W p l e r_X2_indexOf s m args below meth c H locs 0 0 (MQ below (va_Qi (fun r S9 => wX D S0 S9 ∧ post r S9) (wB D cy X A) A) args s 0 0 A) (F0 m 11 ls [.int t0]) := by
  obtain ⟨hx, hb, hml, hown, hts⟩ := id F
  have hwg : ∀ w ∈ WG, w.before args s = true := fun w h => hts w (List.mem_cons_of_mem _ h)
  intro S H locs ls x1 x2 x3 t0 hp hW hE hl
  unfold wp_X2_indexOf_11 at hp
  refine lv_iload_n hx hb dX2_indexOf_11 rfl (lv_at hl 0 rfl) ?_
  refine lv_bipush (v := 25) hx hb dX2_indexOf_12 (by decide) ?_
  refine lv_imul hx hb dX2_indexOf_14 ?_
  refine lv_iload_n hx hb dX2_indexOf_15 rfl (lv_at hl 1 rfl) ?_
  refine lv_iadd hx hb dX2_indexOf_16 ?_
  refine lv_bipush (v := 25) hx hb dX2_indexOf_17 (by decide) ?_
  refine lv_imul hx hb dX2_indexOf_19 ?_
  refine lv_iadd hx hb dX2_indexOf_20 ?_
  refine lv_iload_n hx hb dX2_indexOf_21 rfl (lv_at hl 2 rfl) ?_
  refine lv_iadd hx hb dX2_indexOf_22 ?_
  exact w_iret hx hb hr hlocks hW ⟨hE, hp⟩ dX2_indexOf_23
set_option maxHeartbeats 4000000 in
set_option maxRecDepth 100000 in
theorem t_X2_indexOf_0 {p : Program} {l : Launch} {e : Env} {s : State} {m : MethodId} {args : Array Value} {below : List Frame} {meth : Method} {c : Code} {D : wD} {cy : Nat → ClassId} {X : va_W} {A : Nat → Prop} {S0 : wS} {post : Int32 → wS → Prop} (F : CallFix p m c cX2_indexOf 4 s args wz_X2_indexOf RX2) (hr : meth.sig.returnType = (some .int)) (hlocks : meth.locks = false) (hK : wK D cy A s) : ∀ {S : wS} {H : Heap} {locs : List Loc} {ls : Array Slot} {x0 : Int32} {x1 : Int32} {x2 : Int32} {x3 : Int32}, wp_X2_indexOf_0 D post S x0 x1 x2 x3 → wO D cy X A s.heap S H locs → wX D S0 S → lv_has ls 4 [(0, .int x0), (1, .int x1), (2, .int x2), (3, .int x3)] → W p l e r_X2_indexOf s m args below meth c H locs 0 0 (MQ below (va_Qi (fun r S9 => wX D S0 S9 ∧ post r S9) (wB D cy X A) A) args s 0 0 A) (F0 m 0 ls []) := by
  obtain ⟨hx, hb, hml, hown, hts⟩ := id F
  have hwg : ∀ w ∈ WG, w.before args s = true := fun w h => hts w (List.mem_cons_of_mem _ h)
  intro S H locs ls x0 x1 x2 x3 hp hW hE hl
  unfold wp_X2_indexOf_0 at hp
  refine lv_iload_n hx hb dX2_indexOf_0 rfl (lv_at hl 0 rfl) ?_
  refine lv_if_eq (tgt := 10) hx hb dX2_indexOf_1 (by decide) (fun c_1 => ?_) (fun c_1 => ?_)
  · replace hp := hp.1 c_1
    refine lv_iconst (v := 0) hx hb dX2_indexOf_10 (by decide) ?_
    exact t_X2_indexOf_11 F hr hlocks hK hp hW hE (lv_sub hl [1, 2, 3] rfl)
  · replace hp := hp.2 c_1
    refine lv_sipush (v := 15625) hx hb dX2_indexOf_4 (by decide) ?_
    refine lv_goto (tgt := 11) hx hb dX2_indexOf_7 (by decide) ?_
    exact t_X2_indexOf_11 F hr hlocks hK hp hW hE (lv_sub hl [1, 2, 3] rfl)
set_option maxHeartbeats 4000000 in
set_option maxRecDepth 100000 in
theorem c_X2_indexOf (l : Launch) {D : wD} {cy : Nat → ClassId} {X : va_W} {S0 : wS} {post : Int32 → wS → Prop} {x0 : Int32} {x1 : Int32} {x2 : Int32} {x3 : Int32} (hp : wp_X2_indexOf D post S0 x0 x1 x2 x3) : mI D cy X l yX2_indexOf wz_X2_indexOf r_X2_indexOf [.int x0, .int x1, .int x2, .int x3] S0 (fun r S9 => wX D S0 S9 ∧ post r S9) := by
  intro sz
  refine Met.ofW (cc := cX2_indexOf) (maxL := 4) (ret := (some .int)) (by decide) rfl ?_
  intro p e s m args below meth c s₁ B hml hv
  obtain ⟨rfl, hsz, hP, hK, hD0, hRO⟩ := hv
  have hts := atoms_spec (ws := wz_X2_indexOf) B.pre
  have hown : s.vm.findClass RX2 = some m.cls := findClass_of_methodNamed B.named
  subst hsz
  have hD := hD0.self (sz := s.heap.size)
  have F : CallFix p m c cX2_indexOf 4 s _ wz_X2_indexOf RX2 := ⟨B.exec, B.bytes, hml, hown, hts⟩
  have hr := B.returns
  have hlocks := B.notSynchronized
  generalize hAe : va_A (wL cy X S0) s.heap.size = A at hD hK ⊢
  have hA : ∀ q, s.heap.size ≤ q → A q := fun q h => by rw [← hAe]; exact Or.inr h
  have hW : wO D cy X A s.heap S0 s.heap [] := ⟨hP, hD, va_S.rf, hA, hRO⟩
  have hl := lv_entry ([.int x0, .int x1, .int x2, .int x3]) (n := 4) (Nat.le_of_ble_eq_true rfl)
  rw [lg_entry_eq]
  generalize (lg_sl ([.int x0, .int x1, .int x2, .int x3]) ++ List.replicate (4 - (lg_sl ([.int x0, .int x1, .int x2, .int x3])).length) Slot.unset).toArray = ls at hl ⊢
  have hl : lv_has ls 4 [(0, .int x0), (1, .int x1), (2, .int x2), (3, .int x3)] := hl
  unfold wp_X2_indexOf at hp
  exact t_X2_indexOf_0 F hr hlocks hK hp hW wX.rf (lv_sub hl [0, 1, 2, 3] rfl)
def wp_X2_valueAt_45 (D : wD) (post : Int32 → wS → Prop)  (S : wS) (t0 : Int32) : Prop :=
post t0 S
def wp_X2_valueAt_43 (D : wD) (post : Int32 → wS → Prop)  (S : wS) : Prop :=
wp_X2_valueAt_45 D post S (-2 : Int32)
def wp_X2_valueAt_0 (D : wD) (post : Int32 → wS → Prop)  (S : wS) (a0 : Nat) (x1 : Int32) (x2 : Int32) : Prop :=
∀ x_1 : Int32, x_1 = (((x1 - (2 : Int32)) * (31250 : Int32)) + x2) →
((x2 < 0 → wp_X2_valueAt_43 D post S) ∧
 (¬ x2 < 0 → (((31250 : Int32) ≤ x2 → wp_X2_valueAt_43 D post S) ∧
 (¬ (31250 : Int32) ≤ x2 → ((x_1 < 0 → wp_X2_valueAt_43 D post S) ∧
 (¬ x_1 < 0 → ∃ y_5 : Nat, sR S a0 4 = some y_5 ∧ wM D S y_5 ∧ sK S y_5 = 21 ∧
(((Int32.ofNat (sN S y_5)) ≤ x_1 → wp_X2_valueAt_43 D post S) ∧
 (¬ (Int32.ofNat (sN S y_5)) ≤ x_1 → ∃ y_7 : Nat, sR S a0 4 = some y_7 ∧ wM D S y_7 ∧ sK S y_7 = 21 ∧
vp_in x_1 (sN S y_7) ∧
wp_X2_valueAt_45 D post S (sI S y_7 (x_1).toNatClampNeg)))))))))
abbrev r_X2_valueAt : Room := { frames := 0, cells := 0, slots := 0, locals := 0 }
def wp_X2_valueAt (D : wD) (post : Int32 → wS → Prop) (S : wS) (a0 : Nat) (x1 : Int32) (x2 : Int32) : Prop := wp_X2_valueAt_0 D post S a0 x1 x2
set_option maxHeartbeats 4000000 in
set_option maxRecDepth 100000 in
theorem t_X2_valueAt_45 {p : Program} {l : Launch} {e : Env} {s : State} {m : MethodId} {args : Array Value} {below : List Frame} {meth : Method} {c : Code} {D : wD} {cy : Nat → ClassId} {X : va_W} {A : Nat → Prop} {S0 : wS} {post : Int32 → wS → Prop} (F : CallFix p m c cX2_valueAt 4 s args wz_X2_valueAt RX2) (hr : meth.sig.returnType = (some .int)) (hlocks : meth.locks = false) (hK : wK D cy A s) : ∀ {S : wS} {H : Heap} {locs : List Loc} {ls : Array Slot} {t0 : Int32}, wp_X2_valueAt_45 D post S t0 → wO D cy X A s.heap S H locs → wX D S0 S → lv_has ls 4 [] → W p l e r_X2_valueAt s m args below meth c H locs 0 0 (MQ below (va_Qi (fun r S9 => wX D S0 S9 ∧ post r S9) (wB D cy X A) A) args s 0 0 A) (F0 m 45 ls [.int t0]) := by
  obtain ⟨hx, hb, hml, hown, hts⟩ := id F
  have hwg : ∀ w ∈ WG, w.before args s = true := fun w h => hts w (List.mem_cons_of_mem _ h)
  intro S H locs ls t0 hp hW hE hl
  unfold wp_X2_valueAt_45 at hp
  exact w_iret hx hb hr hlocks hW ⟨hE, hp⟩ dX2_valueAt_45
set_option maxHeartbeats 4000000 in
set_option maxRecDepth 100000 in
theorem t_X2_valueAt_43 {p : Program} {l : Launch} {e : Env} {s : State} {m : MethodId} {args : Array Value} {below : List Frame} {meth : Method} {c : Code} {D : wD} {cy : Nat → ClassId} {X : va_W} {A : Nat → Prop} {S0 : wS} {post : Int32 → wS → Prop} (F : CallFix p m c cX2_valueAt 4 s args wz_X2_valueAt RX2) (hr : meth.sig.returnType = (some .int)) (hlocks : meth.locks = false) (hK : wK D cy A s) : ∀ {S : wS} {H : Heap} {locs : List Loc} {ls : Array Slot}, wp_X2_valueAt_43 D post S → wO D cy X A s.heap S H locs → wX D S0 S → lv_has ls 4 [] → W p l e r_X2_valueAt s m args below meth c H locs 0 0 (MQ below (va_Qi (fun r S9 => wX D S0 S9 ∧ post r S9) (wB D cy X A) A) args s 0 0 A) (F0 m 43 ls []) := by
  obtain ⟨hx, hb, hml, hown, hts⟩ := id F
  have hwg : ∀ w ∈ WG, w.before args s = true := fun w h => hts w (List.mem_cons_of_mem _ h)
  intro S H locs ls hp hW hE hl
  unfold wp_X2_valueAt_43 at hp
  refine lv_bipush (v := (-2)) hx hb dX2_valueAt_43 (by decide) ?_
  exact t_X2_valueAt_45 F hr hlocks hK hp hW hE (lv_sub hl [] rfl)
set_option maxHeartbeats 4000000 in
set_option maxRecDepth 100000 in
theorem t_X2_valueAt_0 {p : Program} {l : Launch} {e : Env} {s : State} {m : MethodId} {args : Array Value} {below : List Frame} {meth : Method} {c : Code} {D : wD} {cy : Nat → ClassId} {X : va_W} {A : Nat → Prop} {S0 : wS} {post : Int32 → wS → Prop} (F : CallFix p m c cX2_valueAt 4 s args wz_X2_valueAt RX2) (hr : meth.sig.returnType = (some .int)) (hlocks : meth.locks = false) (hK : wK D cy A s) : ∀ {S : wS} {H : Heap} {locs : List Loc} {ls : Array Slot} {a0 : Nat} {x1 : Int32} {x2 : Int32}, wp_X2_valueAt_0 D post S a0 x1 x2 → wO D cy X A s.heap S H locs → wX D S0 S → lv_has ls 4 [(0, .ref a0), (1, .int x1), (2, .int x2)] → wM D S a0 → sK S a0 = 7 → W p l e r_X2_valueAt s m args below meth c H locs 0 0 (MQ below (va_Qi (fun r S9 => wX D S0 S9 ∧ post r S9) (wB D cy X A) A) args s 0 0 A) (F0 m 0 ls []) := by
  obtain ⟨hx, hb, hml, hown, hts⟩ := id F
  have hwg : ∀ w ∈ WG, w.before args s = true := fun w h => hts w (List.mem_cons_of_mem _ h)
  have i_7 : ∀ w ∈ u_ws RX2 TX2 8, w ∈ wz_X2_valueAt := fun w h => List.mem_cons_of_mem _ (wu_7 w h)
  have k_22 := hwg _ wf_RX2_22
  intro S H locs ls a0 x1 x2 hp hW hE hl hL_a0 hK_a0
  unfold wp_X2_valueAt_0 at hp
  refine lv_iload_n hx hb dX2_valueAt_0 rfl (lv_at hl 1 rfl) ?_
  refine lv_iconst (v := 2) hx hb dX2_valueAt_1 (by decide) ?_
  refine lv_isub hx hb dX2_valueAt_2 ?_
  refine lv_sipush (v := 31250) hx hb dX2_valueAt_3 (by decide) ?_
  refine lv_imul hx hb dX2_valueAt_6 ?_
  refine lv_iload_n hx hb dX2_valueAt_7 rfl (lv_at hl 2 rfl) ?_
  refine lv_iadd hx hb dX2_valueAt_8 ?_
  refine lv_topi (fun x_1 ex_1 => ?_)
  replace hp := hp x_1 ex_1
  refine lv_istore_n (lv' := [(3, .int x_1), (0, .ref a0), (1, .int x1), (2, .int x2)]) hx hb dX2_valueAt_9 rfl hl (by decide) rfl (fun ls hl => ?_)
  refine lv_iload_n hx hb dX2_valueAt_10 rfl (lv_at hl 3 rfl) ?_
  refine lv_if_lt (tgt := 43) hx hb dX2_valueAt_11 (by decide) (fun c_2 => ?_) (fun c_2 => ?_)
  · replace hp := hp.1 c_2
    exact t_X2_valueAt_43 F hr hlocks hK hp hW hE (lv_sub hl [] rfl)
  · replace hp := hp.2 c_2
    refine lv_iload_n hx hb dX2_valueAt_14 rfl (lv_at hl 3 rfl) ?_
    refine lv_sipush (v := 31250) hx hb dX2_valueAt_15 (by decide) ?_
    refine lv_icmp_ge (tgt := 43) hx hb dX2_valueAt_18 (by decide) (fun c_3 => ?_) (fun c_3 => ?_)
    · replace hp := hp.1 c_3
      exact t_X2_valueAt_43 F hr hlocks hK hp hW hE (lv_sub hl [] rfl)
    · replace hp := hp.2 c_3
      refine lv_iload_n hx hb dX2_valueAt_21 rfl (lv_at hl 0 rfl) ?_
      refine lv_if_lt (tgt := 43) hx hb dX2_valueAt_22 (by decide) (fun c_4 => ?_) (fun c_4 => ?_)
      · replace hp := hp.1 c_4
        exact t_X2_valueAt_43 F hr hlocks hK hp hW hE (lv_sub hl [] rfl)
      · replace hp := hp.2 c_4
        refine lv_iload_n hx hb dX2_valueAt_25 rfl (lv_at hl 0 rfl) ?_
        refine lv_aload_n hx hb dX2_valueAt_26 rfl (lv_at hl 1 rfl) ?_
        obtain ⟨y_5, ey_5, hL_y_5, hK_y_5, hp⟩ := hp
        refine w_get (k := 7) (f := 4) (T := TX2) (v := .ref y_5) F hK hW hL_a0 hK_a0 (by decide) rfl rfl (by decide) i_7 k_22 (by rw [show wv 7 4 S a0 = va_rf (sR S a0 4) from rfl, ey_5]; rfl) dX2_valueAt_27 ?_
        refine w_len F hK hW hL_y_5 hK_y_5 (by decide) dX2_valueAt_30 ?_
        refine lv_icmp_ge (tgt := 43) hx hb dX2_valueAt_31 (by decide) (fun c_6 => ?_) (fun c_6 => ?_)
        · replace hp := hp.1 c_6
          exact t_X2_valueAt_43 F hr hlocks hK hp hW hE (lv_sub hl [] rfl)
        · replace hp := hp.2 c_6
          refine lv_aload_n hx hb dX2_valueAt_34 rfl (lv_at hl 1 rfl) ?_
          obtain ⟨y_7, ey_7, hL_y_7, hK_y_7, hp⟩ := hp
          refine w_get (k := 7) (f := 4) (T := TX2) (v := .ref y_7) F hK hW hL_a0 hK_a0 (by decide) rfl rfl (by decide) i_7 k_22 (by rw [show wv 7 4 S a0 = va_rf (sR S a0 4) from rfl, ey_7]; rfl) dX2_valueAt_35 ?_
          refine lv_iload_n hx hb dX2_valueAt_38 rfl (lv_at hl 0 rfl) ?_
          obtain ⟨h_8, hp⟩ := hp
          refine w_ild F hK hW hL_y_7 hK_y_7 h_8 dX2_valueAt_39 ?_
          refine lv_goto (tgt := 45) hx hb dX2_valueAt_40 (by decide) ?_
          exact t_X2_valueAt_45 F hr hlocks hK hp hW hE (lv_sub hl [] rfl)
set_option maxHeartbeats 4000000 in
set_option maxRecDepth 100000 in
theorem c_X2_valueAt (l : Launch) {D : wD} {cy : Nat → ClassId} {X : va_W} {S0 : wS} {post : Int32 → wS → Prop} {a0 : Nat} {x1 : Int32} {x2 : Int32} (hL_a0 : wM D S0 a0) (hK_a0 : sK S0 a0 = 7) (hp : wp_X2_valueAt D post S0 a0 x1 x2) : mI D cy X l yX2_valueAt wz_X2_valueAt r_X2_valueAt [.ref a0, .int x1, .int x2] S0 (fun r S9 => wX D S0 S9 ∧ post r S9) := by
  intro sz
  refine Met.ofW (cc := cX2_valueAt) (maxL := 4) (ret := (some .int)) (by decide) rfl ?_
  intro p e s m args below meth c s₁ B hml hv
  obtain ⟨rfl, hsz, hP, hK, hD0, hRO⟩ := hv
  have hts := atoms_spec (ws := wz_X2_valueAt) B.pre
  have hown : s.vm.findClass RX2 = some m.cls := findClass_of_methodNamed B.named
  subst hsz
  have hD := hD0.self (sz := s.heap.size)
  have F : CallFix p m c cX2_valueAt 4 s _ wz_X2_valueAt RX2 := ⟨B.exec, B.bytes, hml, hown, hts⟩
  have hr := B.returns
  have hlocks := B.notSynchronized
  generalize hAe : va_A (wL cy X S0) s.heap.size = A at hD hK ⊢
  have hA : ∀ q, s.heap.size ≤ q → A q := fun q h => by rw [← hAe]; exact Or.inr h
  have hW : wO D cy X A s.heap S0 s.heap [] := ⟨hP, hD, va_S.rf, hA, hRO⟩
  have hl := lv_entry ([.ref a0, .int x1, .int x2]) (n := 4) (Nat.le_of_ble_eq_true rfl)
  rw [lg_entry_eq]
  generalize (lg_sl ([.ref a0, .int x1, .int x2]) ++ List.replicate (4 - (lg_sl ([.ref a0, .int x1, .int x2])).length) Slot.unset).toArray = ls at hl ⊢
  have hl : lv_has ls 4 [(0, .ref a0), (1, .int x1), (2, .int x2)] := hl
  unfold wp_X2_valueAt at hp
  exact t_X2_valueAt_0 F hr hlocks hK hp hW wX.rf (lv_sub hl [0, 1, 2] rfl) hL_a0 hK_a0
def wp_X2_valueOf_62 (D : wD) (post : Int32 → wS → Prop)  (S : wS) (t0 : Int32) : Prop :=
post t0 S
def wp_X2_valueOf_0 (D : wD) (post : Int32 → wS → Prop)  (S : wS) (a0 : Nat) (x1 : Int32) (a2 : Nat) : Prop :=
wp_X7_occupied D (fun r_1 S_2 => 
wp_X7_ofKind D (fun r_3 S_4 => 
∀ x_5 : Int64, x_5 = (r_1 &&& (r_3 ^^^ (-1 : Int64))) →
((¬ (lg_cmp x_5 (0 : Int64)) = 0 → wp_X7_kingOf D (fun r_7 S_8 => 
wp_X7_kingOf D (fun r_9 S_10 => 
wp_X11_lowest D (fun r_11 S_12 => 
wp_X2_indexOf D (fun r_13 S_14 => 
wp_X2_valueAt D (fun r_15 S_16 => 
((0 ≤ r_15 → wp_X2_valueOf_62 D post S_16 r_15) ∧
 (¬ 0 ≤ r_15 → wp_X2_valueOf_62 D post S_16 (-1 : Int32)))) S_14 a0 x1 r_13) S_12 (sI S_4 a2 5) r_7 r_9 r_11) S_10 x_5) S_8 a2 (0 : Int32)) S_4 a2 (1 : Int32)) ∧
 ((lg_cmp x_5 (0 : Int64)) = 0 → post (-1 : Int32) S_4))) S_2 a2 (1 : Int32)) S a2
abbrev r_X2_valueOf : Room := { frames := 2, cells := 0, slots := 0, locals := 46 }
def wp_X2_valueOf (D : wD) (post : Int32 → wS → Prop) (S : wS) (a0 : Nat) (x1 : Int32) (a2 : Nat) : Prop := wp_X2_valueOf_0 D post S a0 x1 a2
set_option maxHeartbeats 4000000 in
set_option maxRecDepth 100000 in
theorem t_X2_valueOf_62 {p : Program} {l : Launch} {e : Env} {s : State} {m : MethodId} {args : Array Value} {below : List Frame} {meth : Method} {c : Code} {D : wD} {cy : Nat → ClassId} {X : va_W} {A : Nat → Prop} {S0 : wS} {post : Int32 → wS → Prop} (F : CallFix p m c cX2_valueOf 6 s args wz_X2_valueOf RX2) (hr : meth.sig.returnType = (some .int)) (hlocks : meth.locks = false) (hK : wK D cy A s) : ∀ {S : wS} {H : Heap} {locs : List Loc} {ls : Array Slot} {t0 : Int32}, wp_X2_valueOf_62 D post S t0 → wO D cy X A s.heap S H locs → wX D S0 S → lv_has ls 6 [] → W p l e r_X2_valueOf s m args below meth c H locs 0 0 (MQ below (va_Qi (fun r S9 => wX D S0 S9 ∧ post r S9) (wB D cy X A) A) args s 0 0 A) (F0 m 62 ls [.int t0]) := by
  obtain ⟨hx, hb, hml, hown, hts⟩ := id F
  have hwg : ∀ w ∈ WG, w.before args s = true := fun w h => hts w (List.mem_cons_of_mem _ h)
  intro S H locs ls t0 hp hW hE hl
  unfold wp_X2_valueOf_62 at hp
  exact w_iret hx hb hr hlocks hW ⟨hE, hp⟩ dX2_valueOf_62
set_option maxHeartbeats 4000000 in
set_option maxRecDepth 100000 in
theorem t_X2_valueOf_0 {p : Program} {l : Launch} {e : Env} {s : State} {m : MethodId} {args : Array Value} {below : List Frame} {meth : Method} {c : Code} {D : wD} {cy : Nat → ClassId} {X : va_W} {A : Nat → Prop} {S0 : wS} {post : Int32 → wS → Prop} (F : CallFix p m c cX2_valueOf 6 s args wz_X2_valueOf RX2) (hr : meth.sig.returnType = (some .int)) (hlocks : meth.locks = false) (hK : wK D cy A s) : ∀ {S : wS} {H : Heap} {locs : List Loc} {ls : Array Slot} {a0 : Nat} {x1 : Int32} {a2 : Nat}, wp_X2_valueOf_0 D post S a0 x1 a2 → wO D cy X A s.heap S H locs → wX D S0 S → lv_has ls 6 [(0, .ref a0), (1, .int x1), (2, .ref a2)] → wM D S a0 → sK S a0 = 7 → wM D S a2 → sK S a2 = 12 → W p l e r_X2_valueOf s m args below meth c H locs 0 0 (MQ below (va_Qi (fun r S9 => wX D S0 S9 ∧ post r S9) (wB D cy X A) A) args s 0 0 A) (F0 m 0 ls []) := by
  obtain ⟨hx, hb, hml, hown, hts⟩ := id F
  have hwg : ∀ w ∈ WG, w.before args s = true := fun w h => hts w (List.mem_cons_of_mem _ h)
  have i_12 : ∀ w ∈ u_ws RX7 TX7 8, w ∈ wz_X2_valueOf := fun w h => List.mem_cons_of_mem _ (wu_12 w h)
  intro S H locs ls a0 x1 a2 hp hW hE hl hL_a0 hK_a0 hL_a2 hK_a2
  unfold wp_X2_valueOf_0 at hp
  refine lv_aload_n hx hb dX2_valueOf_0 rfl (lv_at hl 2 rfl) ?_
  refine w_callJ (va_runV (As := []) (rest := []) F (c_X7_occupied l hL_a2 hK_a2 hp H.size) (cwV (C := RX7) 0 hts (wg_V wm_RX2_49 wy_X7_occupied) rfl rfl rfl (by decide +kernel) ⟨Nat.le_of_ble_eq_true rfl, Nat.le_of_ble_eq_true rfl⟩) (w_preV hK hW hL_a2 hK_a2 (by decide) rfl) rfl rfl hl.1 rfl (lv_room (Nat.le_of_ble_eq_true rfl)) dX2_valueOf_1 ⟨Nat.le_of_ble_eq_true rfl, Nat.le_of_ble_eq_true rfl⟩) hW (fun r_1 S_2 H locs hp hW => ?_)
  obtain ⟨hX_S_2, hp⟩ := hp
  refine W.widen (k := 0) (n := 0) (by decide) (by decide) ?_
  have hE := hE.trans hX_S_2
  have hK_a0 : sK S_2 a0 = 7 := (hX_S_2.2 a0 hL_a0).1.trans hK_a0
  have hL_a0 : wM D S_2 a0 := hX_S_2.M hL_a0
  have hK_a2 : sK S_2 a2 = 12 := (hX_S_2.2 a2 hL_a2).1.trans hK_a2
  have hL_a2 : wM D S_2 a2 := hX_S_2.M hL_a2
  refine lv_aload_n hx hb dX2_valueOf_4 rfl (lv_at hl 2 rfl) ?_
  refine lv_iconst (v := 1) hx hb dX2_valueOf_5 (by decide) ?_
  refine w_callJ (va_runV (As := [.int (1 : Int32)]) (rest := [.long r_1]) F (c_X7_ofKind l hL_a2 hK_a2 hp H.size) (cwV (C := RX7) 1 hts (wg_V wm_RX2_55 wy_X7_ofKind) rfl rfl rfl (by decide +kernel) ⟨Nat.le_of_ble_eq_true rfl, Nat.le_of_ble_eq_true rfl⟩) (w_preV hK hW hL_a2 hK_a2 (by decide) rfl) rfl rfl hl.1 rfl (lv_room (Nat.le_of_ble_eq_true rfl)) dX2_valueOf_6 ⟨Nat.le_of_ble_eq_true rfl, Nat.le_of_ble_eq_true rfl⟩) hW (fun r_3 S_4 H locs hp hW => ?_)
  obtain ⟨hX_S_4, hp⟩ := hp
  refine W.widen (k := 0) (n := 0) (by decide) (by decide) ?_
  have hE := hE.trans hX_S_4
  have hK_a0 : sK S_4 a0 = 7 := (hX_S_4.2 a0 hL_a0).1.trans hK_a0
  have hL_a0 : wM D S_4 a0 := hX_S_4.M hL_a0
  have hK_a2 : sK S_4 a2 = 12 := (hX_S_4.2 a2 hL_a2).1.trans hK_a2
  have hL_a2 : wM D S_4 a2 := hX_S_4.M hL_a2
  refine lv_ldc2 (v := (-1)) hx hb hown (hwg _ wJ_RX2_59) dX2_valueOf_9 ?_
  refine lv_lxor hx hb dX2_valueOf_12 ?_
  refine lv_land hx hb dX2_valueOf_13 ?_
  refine lv_topl (fun x_5 ex_5 => ?_)
  replace hp := hp x_5 ex_5
  refine lv_lstore_n (lv' := [(3, .long x_5), (0, .ref a0), (1, .int x1), (2, .ref a2)]) hx hb dX2_valueOf_14 rfl hl (by decide) rfl (fun ls hl => ?_)
  refine lv_lload_n hx hb dX2_valueOf_15 rfl (lv_at hl 0 rfl) ?_
  refine lv_lconst (v := 0) hx hb dX2_valueOf_16 (by decide) ?_
  refine W.lcmp hx hb dX2_valueOf_17 ?_
  refine lv_if_ne (tgt := 23) hx hb dX2_valueOf_18 (by decide) (fun c_6 => ?_) (fun c_6 => ?_)
  · replace hp := hp.1 c_6
    refine lv_aload_n hx hb dX2_valueOf_23 rfl (lv_at hl 1 rfl) ?_
    refine lv_iload_n hx hb dX2_valueOf_24 rfl (lv_at hl 2 rfl) ?_
    refine lv_aload_n hx hb dX2_valueOf_25 rfl (lv_at hl 3 rfl) ?_
    refine w_getN (k := 12) (f := 5) (T := TX7) (v := .int (sI S_4 a2 5)) F hK hW hL_a2 hK_a2 (by decide) rfl rfl (by decide) i_12 (hK.2.1 (.fieldLinkNest "OpeningsCabinet$Endings" 88 "OpeningsCabinet$Position" "isWhite" "Z" "OpeningsCabinet") (by decide +kernel)) rfl dX2_valueOf_26 ?_
    refine lv_aload_n hx hb dX2_valueOf_29 rfl (lv_at hl 3 rfl) ?_
    refine lv_iconst (v := 1) hx hb dX2_valueOf_30 (by decide) ?_
    refine w_callI (va_runV (As := [.int (1 : Int32)]) (rest := [.int (sI S_4 a2 5), .int x1, .ref a0]) F (c_X7_kingOf l hL_a2 hK_a2 hp H.size) (cwV (C := RX7) 1 hts (wg_V wm_RX2_92 wy_X7_kingOf) rfl rfl rfl (by decide +kernel) ⟨Nat.le_of_ble_eq_true rfl, Nat.le_of_ble_eq_true rfl⟩) (w_preV hK hW hL_a2 hK_a2 (by decide) rfl) rfl rfl hl.1 rfl (lv_room (Nat.le_of_ble_eq_true rfl)) dX2_valueOf_31 ⟨Nat.le_of_ble_eq_true rfl, Nat.le_of_ble_eq_true rfl⟩) hW (fun r_7 S_8 H locs hp hW => ?_)
    obtain ⟨hX_S_8, hp⟩ := hp
    refine W.widen (k := 0) (n := 0) (by decide) (by decide) ?_
    have hE := hE.trans hX_S_8
    have hK_a0 : sK S_8 a0 = 7 := (hX_S_8.2 a0 hL_a0).1.trans hK_a0
    have hL_a0 : wM D S_8 a0 := hX_S_8.M hL_a0
    have hK_a2 : sK S_8 a2 = 12 := (hX_S_8.2 a2 hL_a2).1.trans hK_a2
    have hL_a2 : wM D S_8 a2 := hX_S_8.M hL_a2
    refine lv_aload_n hx hb dX2_valueOf_34 rfl (lv_at hl 3 rfl) ?_
    refine lv_iconst (v := 0) hx hb dX2_valueOf_35 (by decide) ?_
    refine w_callI (va_runV (As := [.int (0 : Int32)]) (rest := [.int r_7, .int (sI S_4 a2 5), .int x1, .ref a0]) F (c_X7_kingOf l hL_a2 hK_a2 hp H.size) (cwV (C := RX7) 1 hts (wg_V wm_RX2_92 wy_X7_kingOf) rfl rfl rfl (by decide +kernel) ⟨Nat.le_of_ble_eq_true rfl, Nat.le_of_ble_eq_true rfl⟩) (w_preV hK hW hL_a2 hK_a2 (by decide) rfl) rfl rfl hl.1 rfl (lv_room (Nat.le_of_ble_eq_true rfl)) dX2_valueOf_36 ⟨Nat.le_of_ble_eq_true rfl, Nat.le_of_ble_eq_true rfl⟩) hW (fun r_9 S_10 H locs hp hW => ?_)
    obtain ⟨hX_S_10, hp⟩ := hp
    refine W.widen (k := 0) (n := 0) (by decide) (by decide) ?_
    have hE := hE.trans hX_S_10
    have hK_a0 : sK S_10 a0 = 7 := (hX_S_10.2 a0 hL_a0).1.trans hK_a0
    have hL_a0 : wM D S_10 a0 := hX_S_10.M hL_a0
    have hK_a2 : sK S_10 a2 = 12 := (hX_S_10.2 a2 hL_a2).1.trans hK_a2
    have hL_a2 : wM D S_10 a2 := hX_S_10.M hL_a2
    refine lv_lload_n hx hb dX2_valueOf_39 rfl (lv_at hl 0 rfl) ?_
    refine w_callI (va_runSN (As := [.long x_5]) (rest := [.int r_9, .int r_7, .int (sI S_4 a2 5), .int x1, .ref a0]) F (c_X11_lowest l hp H.size) ⟨va_cnB (host := "OpeningsCabinet") 1 hts (wg_cons wy_X11_lowest.2.2) rfl rfl rfl (hK.2.1 (.methodLinkNest "OpeningsCabinet$Endings" 81 ⟨"OpeningsCabinet", "lowest", "(J)I"⟩ "OpeningsCabinet") (by decide +kernel)) (hwg _ wy_X11_lowest.2.1) ⟨by decide, by decide, by decide +kernel⟩ ⟨Nat.le_of_ble_eq_true rfl, Nat.le_of_ble_eq_true rfl⟩, hwg _ wy_X11_lowest.1, trivial⟩ (w_preS hK hW) rfl rfl hl.1 rfl (lv_room (Nat.le_of_ble_eq_true rfl)) dX2_valueOf_40 ⟨Nat.le_of_ble_eq_true rfl, Nat.le_of_ble_eq_true rfl⟩) hW (fun r_11 S_12 H locs hp hW => ?_)
    obtain ⟨hX_S_12, hp⟩ := hp
    refine W.widen (k := 0) (n := 0) (by decide) (by decide) ?_
    have hE := hE.trans hX_S_12
    have hK_a0 : sK S_12 a0 = 7 := (hX_S_12.2 a0 hL_a0).1.trans hK_a0
    have hL_a0 : wM D S_12 a0 := hX_S_12.M hL_a0
    have hK_a2 : sK S_12 a2 = 12 := (hX_S_12.2 a2 hL_a2).1.trans hK_a2
    have hL_a2 : wM D S_12 a2 := hX_S_12.M hL_a2
    refine w_callI (va_runS (As := [.int (sI S_4 a2 5), .int r_7, .int r_9, .int r_11]) (rest := [.int x1, .ref a0]) F (c_X2_indexOf l hp H.size) (va_cwS 4 hts (wg_S wm_RX2_96 wy_X2_indexOf) rfl rfl rfl (by decide +kernel) ⟨Nat.le_of_ble_eq_true rfl, Nat.le_of_ble_eq_true rfl⟩) (w_preS hK hW) rfl rfl hl.1 rfl (lv_room (Nat.le_of_ble_eq_true rfl)) dX2_valueOf_43 ⟨Nat.le_of_ble_eq_true rfl, Nat.le_of_ble_eq_true rfl⟩) hW (fun r_13 S_14 H locs hp hW => ?_)
    obtain ⟨hX_S_14, hp⟩ := hp
    refine W.widen (k := 0) (n := 0) (by decide) (by decide) ?_
    have hE := hE.trans hX_S_14
    have hK_a0 : sK S_14 a0 = 7 := (hX_S_14.2 a0 hL_a0).1.trans hK_a0
    have hL_a0 : wM D S_14 a0 := hX_S_14.M hL_a0
    have hK_a2 : sK S_14 a2 = 12 := (hX_S_14.2 a2 hL_a2).1.trans hK_a2
    have hL_a2 : wM D S_14 a2 := hX_S_14.M hL_a2
    refine w_callI (va_runV (As := [.int x1, .int r_13]) (rest := []) F (c_X2_valueAt l hL_a0 hK_a0 hp H.size) (cwV (C := RX2) 2 hts (wg_V wm_RX2_100 wy_X2_valueAt) rfl rfl rfl (by decide +kernel) ⟨Nat.le_of_ble_eq_true rfl, Nat.le_of_ble_eq_true rfl⟩) (w_preV hK hW hL_a0 hK_a0 (by decide) rfl) rfl rfl hl.1 rfl (lv_room (Nat.le_of_ble_eq_true rfl)) dX2_valueOf_46 ⟨Nat.le_of_ble_eq_true rfl, Nat.le_of_ble_eq_true rfl⟩) hW (fun r_15 S_16 H locs hp hW => ?_)
    obtain ⟨hX_S_16, hp⟩ := hp
    refine W.widen (k := 0) (n := 0) (by decide) (by decide) ?_
    have hE := hE.trans hX_S_16
    have hK_a0 : sK S_16 a0 = 7 := (hX_S_16.2 a0 hL_a0).1.trans hK_a0
    have hL_a0 : wM D S_16 a0 := hX_S_16.M hL_a0
    have hK_a2 : sK S_16 a2 = 12 := (hX_S_16.2 a2 hL_a2).1.trans hK_a2
    have hL_a2 : wM D S_16 a2 := hX_S_16.M hL_a2
    refine lv_istore (lv' := [(5, .int r_15), (3, .long x_5), (0, .ref a0), (1, .int x1), (2, .ref a2)]) hx hb dX2_valueOf_49 hl (by decide) rfl (fun ls hl => ?_)
    refine lv_iload hx hb dX2_valueOf_51 (lv_at hl 0 rfl) ?_
    refine lv_if_ge (tgt := 60) hx hb dX2_valueOf_53 (by decide) (fun c_17 => ?_) (fun c_17 => ?_)
    · replace hp := hp.1 c_17
      refine lv_iload hx hb dX2_valueOf_60 (lv_at hl 0 rfl) ?_
      exact t_X2_valueOf_62 F hr hlocks hK hp hW hE (lv_sub hl [] rfl)
    · replace hp := hp.2 c_17
      refine lv_iconst (v := (-1)) hx hb dX2_valueOf_56 (by decide) ?_
      refine lv_goto (tgt := 62) hx hb dX2_valueOf_57 (by decide) ?_
      exact t_X2_valueOf_62 F hr hlocks hK hp hW hE (lv_sub hl [] rfl)
  · replace hp := hp.2 c_6
    refine lv_iconst (v := (-1)) hx hb dX2_valueOf_21 (by decide) ?_
    exact w_iret hx hb hr hlocks hW ⟨hE, hp⟩ dX2_valueOf_22
set_option maxHeartbeats 4000000 in
set_option maxRecDepth 100000 in
theorem c_X2_valueOf (l : Launch) {D : wD} {cy : Nat → ClassId} {X : va_W} {S0 : wS} {post : Int32 → wS → Prop} {a0 : Nat} {x1 : Int32} {a2 : Nat} (hL_a0 : wM D S0 a0) (hK_a0 : sK S0 a0 = 7) (hL_a2 : wM D S0 a2) (hK_a2 : sK S0 a2 = 12) (hp : wp_X2_valueOf D post S0 a0 x1 a2) : mI D cy X l yX2_valueOf wz_X2_valueOf r_X2_valueOf [.ref a0, .int x1, .ref a2] S0 (fun r S9 => wX D S0 S9 ∧ post r S9) := by
  intro sz
  refine Met.ofW (cc := cX2_valueOf) (maxL := 6) (ret := (some .int)) (by decide) rfl ?_
  intro p e s m args below meth c s₁ B hml hv
  obtain ⟨rfl, hsz, hP, hK, hD0, hRO⟩ := hv
  have hts := atoms_spec (ws := wz_X2_valueOf) B.pre
  have hown : s.vm.findClass RX2 = some m.cls := findClass_of_methodNamed B.named
  subst hsz
  have hD := hD0.self (sz := s.heap.size)
  have F : CallFix p m c cX2_valueOf 6 s _ wz_X2_valueOf RX2 := ⟨B.exec, B.bytes, hml, hown, hts⟩
  have hr := B.returns
  have hlocks := B.notSynchronized
  generalize hAe : va_A (wL cy X S0) s.heap.size = A at hD hK ⊢
  have hA : ∀ q, s.heap.size ≤ q → A q := fun q h => by rw [← hAe]; exact Or.inr h
  have hW : wO D cy X A s.heap S0 s.heap [] := ⟨hP, hD, va_S.rf, hA, hRO⟩
  have hl := lv_entry ([.ref a0, .int x1, .ref a2]) (n := 6) (Nat.le_of_ble_eq_true rfl)
  rw [lg_entry_eq]
  generalize (lg_sl ([.ref a0, .int x1, .ref a2]) ++ List.replicate (6 - (lg_sl ([.ref a0, .int x1, .ref a2])).length) Slot.unset).toArray = ls at hl ⊢
  have hl : lv_has ls 6 [(0, .ref a0), (1, .int x1), (2, .ref a2)] := hl
  unfold wp_X2_valueOf at hp
  exact t_X2_valueOf_0 F hr hlocks hK hp hW wX.rf (lv_sub hl [0, 1, 2] rfl) hL_a0 hK_a0 hL_a2 hK_a2
def wp_X11_endingValue_28 (D : wD) (post : Int32 → wS → Prop) (xp : String → wS → Prop)  (S : wS) : Prop :=
xp "java/lang/IllegalStateException" S
def wp_X11_endingValue_0 (D : wD) (post : Int32 → wS → Prop) (xp : String → wS → Prop)  (S : wS) (a0 : Nat) : Prop :=
∃ y_1 : Nat, sR S a0 12 = some y_1 ∧ wM D S y_1 ∧ sK S y_1 = 7 ∧
∃ y_2 : Nat, sR S a0 2 = some y_2 ∧ wM D S y_2 ∧ sK S y_2 = 12 ∧
wp_X2_kindOf D (fun r_3 S_4 => 
((r_3 = (-1 : Int32) → wp_X11_endingValue_28 D post xp S_4) ∧
 (¬ r_3 = (-1 : Int32) → ∃ y_6 : Nat, sR S_4 a0 12 = some y_6 ∧ wM D S_4 y_6 ∧ sK S_4 y_6 = 7 ∧
wp_X2_isWorkedOut D (fun r_7 S_8 => 
((¬ r_7 = 0 → ∃ y_10 : Nat, sR S_8 a0 12 = some y_10 ∧ wM D S_8 y_10 ∧ sK S_8 y_10 = 7 ∧
∃ y_11 : Nat, sR S_8 a0 2 = some y_11 ∧ wM D S_8 y_11 ∧ sK S_8 y_11 = 12 ∧
wp_X2_valueOf D (fun r_12 S_13 => 
post r_12 S_13) S_8 y_10 r_3 y_11) ∧
 (r_7 = 0 → wp_X11_endingValue_28 D post xp S_8))) S_4 y_6 r_3))) S y_1 y_2
abbrev r_X11_endingValue : Room := { frames := 6, cells := 1, slots := 6, locals := 120 }
def wp_X11_endingValue (D : wD) (post : Int32 → wS → Prop) (xp : String → wS → Prop) (S : wS) (a0 : Nat) : Prop := wp_X11_endingValue_0 D post xp S a0
set_option maxHeartbeats 4000000 in
set_option maxRecDepth 100000 in
theorem t_X11_endingValue_28 {p : Program} {l : Launch} {e : Env} {s : State} {m : MethodId} {args : Array Value} {below : List Frame} {meth : Method} {c : Code} {D : wD} {cy : Nat → ClassId} {X : va_W} {A : Nat → Prop} {S0 : wS} {post : Int32 → wS → Prop} {xp : String → wS → Prop} (F : CallFix p m c cX11_endingValue 2 s args wz_X11_endingValue RX11) (hr : meth.sig.returnType = (some .int)) (hlocks : meth.locks = false) (hK : wK D cy A s) (hl0 : l.stackTraces = false) (hexc : ∀ x ∈ c.exceptionTable.toList, False) : ∀ {S : wS} {H : Heap} {locs : List Loc} {ls : Array Slot}, wp_X11_endingValue_28 D post xp S → wO D cy X A s.heap S H locs → wX D S0 S → lv_has ls 2 [] → W p l e r_X11_endingValue s m args below meth c H locs 0 0 (vx_MQ below (va_Qi (fun r S9 => wX D S0 S9 ∧ post r S9) (wB D cy X A) A) (wEx D cy X A (fun E S9 => wX D S0 S9 ∧ xp E S9)) args s 1 6 A) (F0 m 28 ls []) := by
  obtain ⟨hx, hb, hml, hown, hts⟩ := id F
  have hwg : ∀ w ∈ WG, w.before args s = true := fun w h => hts w (List.mem_cons_of_mem _ h)
  intro S H locs ls hp hW hE hl
  unfold wp_X11_endingValue_28 at hp
  exact x_throwW (ls := ls) F hK hW hl0 (by decide) (hwg _ wc_RX11_285) (hwg _ wi_java_lang_IllegalStateException) (show ("OpeningsCabinet", 463, "no position of an ending that is solved", 44) ∈ wStr by decide +kernel) (wa_RX11_289 hwg hK.2.1) wa_RX11_289_ok hl.1 hexc hlocks dX11_endingValue_28 dX11_endingValue_31 dX11_endingValue_32 dX11_endingValue_35 dX11_endingValue_38 (Nat.le_of_ble_eq_true rfl) (Nat.le_of_ble_eq_true rfl) (Nat.le_of_ble_eq_true rfl) (Nat.le_of_ble_eq_true rfl) (by decide) (by decide) ⟨hE, hp⟩
set_option maxHeartbeats 4000000 in
set_option maxRecDepth 100000 in
theorem t_X11_endingValue_0 {p : Program} {l : Launch} {e : Env} {s : State} {m : MethodId} {args : Array Value} {below : List Frame} {meth : Method} {c : Code} {D : wD} {cy : Nat → ClassId} {X : va_W} {A : Nat → Prop} {S0 : wS} {post : Int32 → wS → Prop} {xp : String → wS → Prop} (F : CallFix p m c cX11_endingValue 2 s args wz_X11_endingValue RX11) (hr : meth.sig.returnType = (some .int)) (hlocks : meth.locks = false) (hK : wK D cy A s) (hl0 : l.stackTraces = false) (hexc : ∀ x ∈ c.exceptionTable.toList, False) : ∀ {S : wS} {H : Heap} {locs : List Loc} {ls : Array Slot} {a0 : Nat}, wp_X11_endingValue_0 D post xp S a0 → wO D cy X A s.heap S H locs → wX D S0 S → lv_has ls 2 [(0, .ref a0)] → wM D S a0 → sK S a0 = 16 → W p l e r_X11_endingValue s m args below meth c H locs 0 0 (vx_MQ below (va_Qi (fun r S9 => wX D S0 S9 ∧ post r S9) (wB D cy X A) A) (wEx D cy X A (fun E S9 => wX D S0 S9 ∧ xp E S9)) args s 1 6 A) (F0 m 0 ls []) := by
  obtain ⟨hx, hb, hml, hown, hts⟩ := id F
  have hwg : ∀ w ∈ WG, w.before args s = true := fun w h => hts w (List.mem_cons_of_mem _ h)
  have i_16 : ∀ w ∈ u_ws RX11 TX11 18, w ∈ wz_X11_endingValue := fun w h => List.mem_cons_of_mem _ (wu_16 w h)
  have k_28 := hwg _ wf_RX11_28
  have k_98 := hwg _ wf_RX11_98
  intro S H locs ls a0 hp hW hE hl hL_a0 hK_a0
  unfold wp_X11_endingValue_0 at hp
  refine lv_aload_n hx hb dX11_endingValue_0 rfl (lv_at hl 0 rfl) ?_
  obtain ⟨y_1, ey_1, hL_y_1, hK_y_1, hp⟩ := hp
  refine w_get (k := 16) (f := 12) (T := TX11) (v := .ref y_1) F hK hW hL_a0 hK_a0 (by decide) rfl rfl (by decide) i_16 k_98 (by rw [show wv 16 12 S a0 = va_rf (sR S a0 12) from rfl, ey_1]; rfl) dX11_endingValue_1 ?_
  refine lv_aload_n hx hb dX11_endingValue_4 rfl (lv_at hl 0 rfl) ?_
  obtain ⟨y_2, ey_2, hL_y_2, hK_y_2, hp⟩ := hp
  refine w_get (k := 16) (f := 2) (T := TX11) (v := .ref y_2) F hK hW hL_a0 hK_a0 (by decide) rfl rfl (by decide) i_16 k_28 (by rw [show wv 16 2 S a0 = va_rf (sR S a0 2) from rfl, ey_2]; rfl) dX11_endingValue_5 ?_
  refine w_callI (va_runV (As := [.ref y_2]) (rest := []) F (c_X2_kindOf l hL_y_1 hK_y_1 hL_y_2 hK_y_2 hp H.size) (cwV (C := RX2) 1 hts (wg_V wm_RX11_457 wy_X2_kindOf) rfl rfl rfl (by decide +kernel) ⟨Nat.le_of_ble_eq_true rfl, Nat.le_of_ble_eq_true rfl⟩) (w_preV hK hW hL_y_1 hK_y_1 (by decide) rfl) rfl rfl hl.1 rfl (lv_room (Nat.le_of_ble_eq_true rfl)) dX11_endingValue_8 ⟨Nat.le_of_ble_eq_true rfl, Nat.le_of_ble_eq_true rfl⟩) hW (fun r_3 S_4 H locs hp hW => ?_)
  obtain ⟨hX_S_4, hp⟩ := hp
  refine W.widen (k := 0) (n := 0) (by decide) (by decide) ?_
  have hE := hE.trans hX_S_4
  have hK_a0 : sK S_4 a0 = 16 := (hX_S_4.2 a0 hL_a0).1.trans hK_a0
  have hL_a0 : wM D S_4 a0 := hX_S_4.M hL_a0
  refine lv_istore_n (lv' := [(1, .int r_3), (0, .ref a0)]) hx hb dX11_endingValue_11 rfl hl (by decide) rfl (fun ls hl => ?_)
  refine lv_iload_n hx hb dX11_endingValue_12 rfl (lv_at hl 0 rfl) ?_
  refine lv_iconst (v := (-1)) hx hb dX11_endingValue_13 (by decide) ?_
  refine lv_icmp_eq (tgt := 28) hx hb dX11_endingValue_14 (by decide) (fun c_5 => ?_) (fun c_5 => ?_)
  · replace hp := hp.1 c_5
    exact t_X11_endingValue_28 F hr hlocks hK hl0 hexc hp hW hE (lv_sub hl [] rfl)
  · replace hp := hp.2 c_5
    refine lv_aload_n hx hb dX11_endingValue_17 rfl (lv_at hl 1 rfl) ?_
    obtain ⟨y_6, ey_6, hL_y_6, hK_y_6, hp⟩ := hp
    refine w_get (k := 16) (f := 12) (T := TX11) (v := .ref y_6) F hK hW hL_a0 hK_a0 (by decide) rfl rfl (by decide) i_16 k_98 (by rw [show wv 16 12 S_4 a0 = va_rf (sR S_4 a0 12) from rfl, ey_6]; rfl) dX11_endingValue_18 ?_
    refine lv_iload_n hx hb dX11_endingValue_21 rfl (lv_at hl 0 rfl) ?_
    refine w_callI (va_runV (As := [.int r_3]) (rest := []) F (c_X2_isWorkedOut l hL_y_6 hK_y_6 hp H.size) (cwV (C := RX2) 1 hts (wg_V wm_RX11_460 wy_X2_isWorkedOut) rfl rfl rfl (by decide +kernel) ⟨Nat.le_of_ble_eq_true rfl, Nat.le_of_ble_eq_true rfl⟩) (w_preV hK hW hL_y_6 hK_y_6 (by decide) rfl) rfl rfl hl.1 rfl (lv_room (Nat.le_of_ble_eq_true rfl)) dX11_endingValue_22 ⟨Nat.le_of_ble_eq_true rfl, Nat.le_of_ble_eq_true rfl⟩) hW (fun r_7 S_8 H locs hp hW => ?_)
    obtain ⟨hX_S_8, hp⟩ := hp
    refine W.widen (k := 0) (n := 0) (by decide) (by decide) ?_
    have hE := hE.trans hX_S_8
    have hK_a0 : sK S_8 a0 = 16 := (hX_S_8.2 a0 hL_a0).1.trans hK_a0
    have hL_a0 : wM D S_8 a0 := hX_S_8.M hL_a0
    refine lv_if_ne (tgt := 39) hx hb dX11_endingValue_25 (by decide) (fun c_9 => ?_) (fun c_9 => ?_)
    · replace hp := hp.1 c_9
      refine lv_aload_n hx hb dX11_endingValue_39 rfl (lv_at hl 1 rfl) ?_
      obtain ⟨y_10, ey_10, hL_y_10, hK_y_10, hp⟩ := hp
      refine w_get (k := 16) (f := 12) (T := TX11) (v := .ref y_10) F hK hW hL_a0 hK_a0 (by decide) rfl rfl (by decide) i_16 k_98 (by rw [show wv 16 12 S_8 a0 = va_rf (sR S_8 a0 12) from rfl, ey_10]; rfl) dX11_endingValue_40 ?_
      refine lv_iload_n hx hb dX11_endingValue_43 rfl (lv_at hl 0 rfl) ?_
      refine lv_aload_n hx hb dX11_endingValue_44 rfl (lv_at hl 1 rfl) ?_
      obtain ⟨y_11, ey_11, hL_y_11, hK_y_11, hp⟩ := hp
      refine w_get (k := 16) (f := 2) (T := TX11) (v := .ref y_11) F hK hW hL_a0 hK_a0 (by decide) rfl rfl (by decide) i_16 k_28 (by rw [show wv 16 2 S_8 a0 = va_rf (sR S_8 a0 2) from rfl, ey_11]; rfl) dX11_endingValue_45 ?_
      refine w_callI (va_runV (As := [.int r_3, .ref y_11]) (rest := []) F (c_X2_valueOf l hL_y_10 hK_y_10 hL_y_11 hK_y_11 hp H.size) (cwV (C := RX2) 2 hts (wg_V wm_RX11_465 wy_X2_valueOf) rfl rfl rfl (by decide +kernel) ⟨Nat.le_of_ble_eq_true rfl, Nat.le_of_ble_eq_true rfl⟩) (w_preV hK hW hL_y_10 hK_y_10 (by decide) rfl) rfl rfl hl.1 rfl (lv_room (Nat.le_of_ble_eq_true rfl)) dX11_endingValue_48 ⟨Nat.le_of_ble_eq_true rfl, Nat.le_of_ble_eq_true rfl⟩) hW (fun r_12 S_13 H locs hp hW => ?_)
      obtain ⟨hX_S_13, hp⟩ := hp
      refine W.widen (k := 0) (n := 0) (by decide) (by decide) ?_
      have hE := hE.trans hX_S_13
      have hK_a0 : sK S_13 a0 = 16 := (hX_S_13.2 a0 hL_a0).1.trans hK_a0
      have hL_a0 : wM D S_13 a0 := hX_S_13.M hL_a0
      refine W.widen (k := 1) (n := 6) (by decide) (by decide) ?_
      refine vx_ret ?_
      exact w_iret hx hb hr hlocks hW ⟨hE, hp⟩ dX11_endingValue_51
    · replace hp := hp.2 c_9
      exact t_X11_endingValue_28 F hr hlocks hK hl0 hexc hp hW hE (lv_sub hl [] rfl)
set_option maxHeartbeats 4000000 in
set_option maxRecDepth 100000 in
theorem c_X11_endingValue (l : Launch) {D : wD} {cy : Nat → ClassId} {X : va_W} {S0 : wS} {post : Int32 → wS → Prop} {xp : String → wS → Prop} (hl0 : l.stackTraces = false) {a0 : Nat} (hL_a0 : wM D S0 a0) (hK_a0 : sK S0 a0 = 16) (hp : wp_X11_endingValue D post xp S0 a0) : xI D cy X l yX11_endingValue wz_X11_endingValue r_X11_endingValue [.ref a0] S0 (fun r S9 => wX D S0 S9 ∧ post r S9) (fun E S9 => wX D S0 S9 ∧ xp E S9) := by
  intro sz
  refine vx_ofW (cc := cX11_endingValue) (maxL := 2) (ret := (some .int)) (by decide) rfl ?_
  intro p e s m args below meth c s₁ B hml hexc hv
  obtain ⟨rfl, hsz, hP, hK, hD0, hRO⟩ := hv
  have hts := atoms_spec (ws := wz_X11_endingValue) B.pre
  have hown : s.vm.findClass RX11 = some m.cls := findClass_of_methodNamed B.named
  subst hsz
  have hD := hD0.self (sz := s.heap.size)
  have F : CallFix p m c cX11_endingValue 2 s _ wz_X11_endingValue RX11 := ⟨B.exec, B.bytes, hml, hown, hts⟩
  have hr := B.returns
  have hlocks := B.notSynchronized
  generalize hAe : va_A (wL cy X S0) s.heap.size = A at hD hK ⊢
  have hA : ∀ q, s.heap.size ≤ q → A q := fun q h => by rw [← hAe]; exact Or.inr h
  have hW : wO D cy X A s.heap S0 s.heap [] := ⟨hP, hD, va_S.rf, hA, hRO⟩
  have hl := lv_entry ([.ref a0]) (n := 2) (Nat.le_of_ble_eq_true rfl)
  rw [lg_entry_eq]
  generalize (lg_sl ([.ref a0]) ++ List.replicate (2 - (lg_sl ([.ref a0])).length) Slot.unset).toArray = ls at hl ⊢
  have hl : lv_has ls 2 [(0, .ref a0)] := hl
  unfold wp_X11_endingValue at hp
  exact t_X11_endingValue_0 F hr hlocks hK hl0 hexc hp hW wX.rf (lv_sub hl [0] rfl) hL_a0 hK_a0
def wp_X5_isBorder_35 (D : wD) (post : Int32 → wS → Prop)  (S : wS) (t0 : Int32) : Prop :=
narrow .boolean (.int t0) = .int t0 ∧ post t0 S
def wp_X5_isBorder_30 (D : wD) (post : Int32 → wS → Prop)  (S : wS) : Prop :=
wp_X5_isBorder_35 D post S (1 : Int32)
def wp_X5_isBorder_0 (D : wD) (post : Int32 → wS → Prop)  (S : wS) (x0 : Int32) : Prop :=
((x0 = (32 : Int32) → wp_X5_isBorder_30 D post S) ∧
 (¬ x0 = (32 : Int32) → ((x0 = (40 : Int32) → wp_X5_isBorder_30 D post S) ∧
 (¬ x0 = (40 : Int32) → ((x0 = (41 : Int32) → wp_X5_isBorder_30 D post S) ∧
 (¬ x0 = (41 : Int32) → ((x0 = (123 : Int32) → wp_X5_isBorder_30 D post S) ∧
 (¬ x0 = (123 : Int32) → ((¬ x0 = (125 : Int32) → wp_X5_isBorder_35 D post S (0 : Int32)) ∧
 (x0 = (125 : Int32) → wp_X5_isBorder_30 D post S))))))))))
abbrev r_X5_isBorder : Room := { frames := 0, cells := 0, slots := 0, locals := 0 }
def wp_X5_isBorder (D : wD) (post : Int32 → wS → Prop) (S : wS) (x0 : Int32) : Prop := wp_X5_isBorder_0 D post S x0
set_option maxHeartbeats 4000000 in
set_option maxRecDepth 100000 in
theorem t_X5_isBorder_35 {p : Program} {l : Launch} {e : Env} {s : State} {m : MethodId} {args : Array Value} {below : List Frame} {meth : Method} {c : Code} {D : wD} {cy : Nat → ClassId} {X : va_W} {A : Nat → Prop} {S0 : wS} {post : Int32 → wS → Prop} (F : CallFix p m c cX5_isBorder 1 s args wz_X5_isBorder RX5) (hr : meth.sig.returnType = (some .boolean)) (hlocks : meth.locks = false) (hK : wK D cy A s) : ∀ {S : wS} {H : Heap} {locs : List Loc} {ls : Array Slot} {t0 : Int32}, wp_X5_isBorder_35 D post S t0 → wO D cy X A s.heap S H locs → wX D S0 S → lv_has ls 1 [] → W p l e r_X5_isBorder s m args below meth c H locs 0 0 (MQ below (va_Qi (fun r S9 => wX D S0 S9 ∧ post r S9) (wB D cy X A) A) args s 0 0 A) (F0 m 35 ls [.int t0]) := by
  obtain ⟨hx, hb, hml, hown, hts⟩ := id F
  have hwg : ∀ w ∈ WG, w.before args s = true := fun w h => hts w (List.mem_cons_of_mem _ h)
  intro S H locs ls t0 hp hW hE hl
  unfold wp_X5_isBorder_35 at hp
  exact w_zret hx hb hr hlocks hW hp.1 ⟨hE, hp.2⟩ dX5_isBorder_35
set_option maxHeartbeats 4000000 in
set_option maxRecDepth 100000 in
theorem t_X5_isBorder_30 {p : Program} {l : Launch} {e : Env} {s : State} {m : MethodId} {args : Array Value} {below : List Frame} {meth : Method} {c : Code} {D : wD} {cy : Nat → ClassId} {X : va_W} {A : Nat → Prop} {S0 : wS} {post : Int32 → wS → Prop} (F : CallFix p m c cX5_isBorder 1 s args wz_X5_isBorder RX5) (hr : meth.sig.returnType = (some .boolean)) (hlocks : meth.locks = false) (hK : wK D cy A s) : ∀ {S : wS} {H : Heap} {locs : List Loc} {ls : Array Slot}, wp_X5_isBorder_30 D post S → wO D cy X A s.heap S H locs → wX D S0 S → lv_has ls 1 [] → W p l e r_X5_isBorder s m args below meth c H locs 0 0 (MQ below (va_Qi (fun r S9 => wX D S0 S9 ∧ post r S9) (wB D cy X A) A) args s 0 0 A) (F0 m 30 ls []) := by
  obtain ⟨hx, hb, hml, hown, hts⟩ := id F
  have hwg : ∀ w ∈ WG, w.before args s = true := fun w h => hts w (List.mem_cons_of_mem _ h)
  intro S H locs ls hp hW hE hl
  unfold wp_X5_isBorder_30 at hp
  refine lv_iconst (v := 1) hx hb dX5_isBorder_30 (by decide) ?_
  refine lv_goto (tgt := 35) hx hb dX5_isBorder_31 (by decide) ?_
  exact t_X5_isBorder_35 F hr hlocks hK hp hW hE (lv_sub hl [] rfl)
set_option maxHeartbeats 4000000 in
set_option maxRecDepth 100000 in
theorem t_X5_isBorder_0 {p : Program} {l : Launch} {e : Env} {s : State} {m : MethodId} {args : Array Value} {below : List Frame} {meth : Method} {c : Code} {D : wD} {cy : Nat → ClassId} {X : va_W} {A : Nat → Prop} {S0 : wS} {post : Int32 → wS → Prop} (F : CallFix p m c cX5_isBorder 1 s args wz_X5_isBorder RX5) (hr : meth.sig.returnType = (some .boolean)) (hlocks : meth.locks = false) (hK : wK D cy A s) : ∀ {S : wS} {H : Heap} {locs : List Loc} {ls : Array Slot} {x0 : Int32}, wp_X5_isBorder_0 D post S x0 → wO D cy X A s.heap S H locs → wX D S0 S → lv_has ls 1 [(0, .int x0)] → W p l e r_X5_isBorder s m args below meth c H locs 0 0 (MQ below (va_Qi (fun r S9 => wX D S0 S9 ∧ post r S9) (wB D cy X A) A) args s 0 0 A) (F0 m 0 ls []) := by
  obtain ⟨hx, hb, hml, hown, hts⟩ := id F
  have hwg : ∀ w ∈ WG, w.before args s = true := fun w h => hts w (List.mem_cons_of_mem _ h)
  intro S H locs ls x0 hp hW hE hl
  unfold wp_X5_isBorder_0 at hp
  refine lv_iload_n hx hb dX5_isBorder_0 rfl (lv_at hl 0 rfl) ?_
  refine lv_bipush (v := 32) hx hb dX5_isBorder_1 (by decide) ?_
  refine lv_icmp_eq (tgt := 30) hx hb dX5_isBorder_3 (by decide) (fun c_1 => ?_) (fun c_1 => ?_)
  · replace hp := hp.1 c_1
    exact t_X5_isBorder_30 F hr hlocks hK hp hW hE (lv_sub hl [] rfl)
  · replace hp := hp.2 c_1
    refine lv_iload_n hx hb dX5_isBorder_6 rfl (lv_at hl 0 rfl) ?_
    refine lv_bipush (v := 40) hx hb dX5_isBorder_7 (by decide) ?_
    refine lv_icmp_eq (tgt := 30) hx hb dX5_isBorder_9 (by decide) (fun c_2 => ?_) (fun c_2 => ?_)
    · replace hp := hp.1 c_2
      exact t_X5_isBorder_30 F hr hlocks hK hp hW hE (lv_sub hl [] rfl)
    · replace hp := hp.2 c_2
      refine lv_iload_n hx hb dX5_isBorder_12 rfl (lv_at hl 0 rfl) ?_
      refine lv_bipush (v := 41) hx hb dX5_isBorder_13 (by decide) ?_
      refine lv_icmp_eq (tgt := 30) hx hb dX5_isBorder_15 (by decide) (fun c_3 => ?_) (fun c_3 => ?_)
      · replace hp := hp.1 c_3
        exact t_X5_isBorder_30 F hr hlocks hK hp hW hE (lv_sub hl [] rfl)
      · replace hp := hp.2 c_3
        refine lv_iload_n hx hb dX5_isBorder_18 rfl (lv_at hl 0 rfl) ?_
        refine lv_bipush (v := 123) hx hb dX5_isBorder_19 (by decide) ?_
        refine lv_icmp_eq (tgt := 30) hx hb dX5_isBorder_21 (by decide) (fun c_4 => ?_) (fun c_4 => ?_)
        · replace hp := hp.1 c_4
          exact t_X5_isBorder_30 F hr hlocks hK hp hW hE (lv_sub hl [] rfl)
        · replace hp := hp.2 c_4
          refine lv_iload_n hx hb dX5_isBorder_24 rfl (lv_at hl 0 rfl) ?_
          refine lv_bipush (v := 125) hx hb dX5_isBorder_25 (by decide) ?_
          refine lv_icmp_ne (tgt := 34) hx hb dX5_isBorder_27 (by decide) (fun c_5 => ?_) (fun c_5 => ?_)
          · replace hp := hp.1 c_5
            refine lv_iconst (v := 0) hx hb dX5_isBorder_34 (by decide) ?_
            exact t_X5_isBorder_35 F hr hlocks hK hp hW hE (lv_sub hl [] rfl)
          · replace hp := hp.2 c_5
            exact t_X5_isBorder_30 F hr hlocks hK hp hW hE (lv_sub hl [] rfl)
set_option maxHeartbeats 4000000 in
set_option maxRecDepth 100000 in
theorem c_X5_isBorder (l : Launch) {D : wD} {cy : Nat → ClassId} {X : va_W} {S0 : wS} {post : Int32 → wS → Prop} {x0 : Int32} (hp : wp_X5_isBorder D post S0 x0) : mI D cy X l yX5_isBorder wz_X5_isBorder r_X5_isBorder [.int x0] S0 (fun r S9 => wX D S0 S9 ∧ post r S9) := by
  intro sz
  refine Met.ofW (cc := cX5_isBorder) (maxL := 1) (ret := (some .boolean)) (by decide) rfl ?_
  intro p e s m args below meth c s₁ B hml hv
  obtain ⟨rfl, hsz, hP, hK, hD0, hRO⟩ := hv
  have hts := atoms_spec (ws := wz_X5_isBorder) B.pre
  have hown : s.vm.findClass RX5 = some m.cls := findClass_of_methodNamed B.named
  subst hsz
  have hD := hD0.self (sz := s.heap.size)
  have F : CallFix p m c cX5_isBorder 1 s _ wz_X5_isBorder RX5 := ⟨B.exec, B.bytes, hml, hown, hts⟩
  have hr := B.returns
  have hlocks := B.notSynchronized
  generalize hAe : va_A (wL cy X S0) s.heap.size = A at hD hK ⊢
  have hA : ∀ q, s.heap.size ≤ q → A q := fun q h => by rw [← hAe]; exact Or.inr h
  have hW : wO D cy X A s.heap S0 s.heap [] := ⟨hP, hD, va_S.rf, hA, hRO⟩
  have hl := lv_entry ([.int x0]) (n := 1) (Nat.le_of_ble_eq_true rfl)
  rw [lg_entry_eq]
  generalize (lg_sl ([.int x0]) ++ List.replicate (1 - (lg_sl ([.int x0])).length) Slot.unset).toArray = ls at hl ⊢
  have hl : lv_has ls 1 [(0, .int x0)] := hl
  unfold wp_X5_isBorder at hp
  exact t_X5_isBorder_0 F hr hlocks hK hp hW wX.rf (lv_sub hl [0] rfl)
def wp_X5_closes_27 (D : wD) (post : Int32 → wS → Prop)  (S : wS) : Prop :=
narrow .boolean (.int (0 : Int32)) = .int (0 : Int32) ∧ post (0 : Int32) S
def wp_X5_closes_0 (D : wD) (post : Int32 → wS → Prop)  (S : wS) (a0 : Nat) : Prop :=
(((sI S a0 6) ≤ 0 → wp_X5_closes_27 D post S) ∧
 (¬ (sI S a0 6) ≤ 0 → (((5 : Int32) ≤ (sI S a0 6) → wp_X5_closes_27 D post S) ∧
 (¬ (5 : Int32) ≤ (sI S a0 6) → ∃ y_3 : Nat, sR S a0 4 = some y_3 ∧ wM D S y_3 ∧ sK S y_3 = 21 ∧
vp_in (sI S a0 6) (sN S y_3) ∧
((¬ (sI S y_3 ((sI S a0 6)).toNatClampNeg) = 0 → ∀ S_6 : wS, S_6 = uI S a0 6 ((sI S a0 6) - (1 : Int32)) →
narrow .boolean (.int (1 : Int32)) = .int (1 : Int32) ∧ post (1 : Int32) S_6) ∧
 ((sI S y_3 ((sI S a0 6)).toNatClampNeg) = 0 → wp_X5_closes_27 D post S))))))
abbrev r_X5_closes : Room := { frames := 0, cells := 0, slots := 0, locals := 0 }
def wp_X5_closes (D : wD) (post : Int32 → wS → Prop) (S : wS) (a0 : Nat) : Prop := wp_X5_closes_0 D post S a0
set_option maxHeartbeats 4000000 in
set_option maxRecDepth 100000 in
theorem t_X5_closes_27 {p : Program} {l : Launch} {e : Env} {s : State} {m : MethodId} {args : Array Value} {below : List Frame} {meth : Method} {c : Code} {D : wD} {cy : Nat → ClassId} {X : va_W} {A : Nat → Prop} {S0 : wS} {post : Int32 → wS → Prop} (F : CallFix p m c cX5_closes 1 s args wz_X5_closes RX5) (hr : meth.sig.returnType = (some .boolean)) (hlocks : meth.locks = false) (hK : wK D cy A s) : ∀ {S : wS} {H : Heap} {locs : List Loc} {ls : Array Slot}, wp_X5_closes_27 D post S → wO D cy X A s.heap S H locs → wX D S0 S → lv_has ls 1 [] → W p l e r_X5_closes s m args below meth c H locs 0 0 (MQ below (va_Qi (fun r S9 => wX D S0 S9 ∧ post r S9) (wB D cy X A) A) args s 0 0 A) (F0 m 27 ls []) := by
  obtain ⟨hx, hb, hml, hown, hts⟩ := id F
  have hwg : ∀ w ∈ WG, w.before args s = true := fun w h => hts w (List.mem_cons_of_mem _ h)
  intro S H locs ls hp hW hE hl
  unfold wp_X5_closes_27 at hp
  refine lv_iconst (v := 0) hx hb dX5_closes_27 (by decide) ?_
  exact w_zret hx hb hr hlocks hW hp.1 ⟨hE, hp.2⟩ dX5_closes_28
set_option maxHeartbeats 4000000 in
set_option maxRecDepth 100000 in
theorem t_X5_closes_0 {p : Program} {l : Launch} {e : Env} {s : State} {m : MethodId} {args : Array Value} {below : List Frame} {meth : Method} {c : Code} {D : wD} {cy : Nat → ClassId} {X : va_W} {A : Nat → Prop} {S0 : wS} {post : Int32 → wS → Prop} (F : CallFix p m c cX5_closes 1 s args wz_X5_closes RX5) (hr : meth.sig.returnType = (some .boolean)) (hlocks : meth.locks = false) (hK : wK D cy A s) : ∀ {S : wS} {H : Heap} {locs : List Loc} {ls : Array Slot} {a0 : Nat}, wp_X5_closes_0 D post S a0 → wO D cy X A s.heap S H locs → wX D S0 S → lv_has ls 1 [(0, .ref a0)] → wM D S a0 → sK S a0 = 10 → W p l e r_X5_closes s m args below meth c H locs 0 0 (MQ below (va_Qi (fun r S9 => wX D S0 S9 ∧ post r S9) (wB D cy X A) A) args s 0 0 A) (F0 m 0 ls []) := by
  obtain ⟨hx, hb, hml, hown, hts⟩ := id F
  have hwg : ∀ w ∈ WG, w.before args s = true := fun w h => hts w (List.mem_cons_of_mem _ h)
  have i_10 : ∀ w ∈ u_ws RX5 TX5 11, w ∈ wz_X5_closes := fun w h => List.mem_cons_of_mem _ (wu_10 w h)
  have k_18 := hwg _ wf_RX5_18
  have k_25 := hwg _ wf_RX5_25
  intro S H locs ls a0 hp hW hE hl hL_a0 hK_a0
  unfold wp_X5_closes_0 at hp
  refine lv_aload_n hx hb dX5_closes_0 rfl (lv_at hl 0 rfl) ?_
  refine w_get (k := 10) (f := 6) (T := TX5) (v := .int (sI S a0 6)) F hK hW hL_a0 hK_a0 (by decide) rfl rfl (by decide) i_10 k_25 rfl dX5_closes_1 ?_
  refine lv_if_le (tgt := 27) hx hb dX5_closes_4 (by decide) (fun c_1 => ?_) (fun c_1 => ?_)
  · replace hp := hp.1 c_1
    exact t_X5_closes_27 F hr hlocks hK hp hW hE (lv_sub hl [] rfl)
  · replace hp := hp.2 c_1
    refine lv_aload_n hx hb dX5_closes_7 rfl (lv_at hl 0 rfl) ?_
    refine w_get (k := 10) (f := 6) (T := TX5) (v := .int (sI S a0 6)) F hK hW hL_a0 hK_a0 (by decide) rfl rfl (by decide) i_10 k_25 rfl dX5_closes_8 ?_
    refine lv_iconst (v := 5) hx hb dX5_closes_11 (by decide) ?_
    refine lv_icmp_ge (tgt := 27) hx hb dX5_closes_12 (by decide) (fun c_2 => ?_) (fun c_2 => ?_)
    · replace hp := hp.1 c_2
      exact t_X5_closes_27 F hr hlocks hK hp hW hE (lv_sub hl [] rfl)
    · replace hp := hp.2 c_2
      refine lv_aload_n hx hb dX5_closes_15 rfl (lv_at hl 0 rfl) ?_
      obtain ⟨y_3, ey_3, hL_y_3, hK_y_3, hp⟩ := hp
      refine w_get (k := 10) (f := 4) (T := TX5) (v := .ref y_3) F hK hW hL_a0 hK_a0 (by decide) rfl rfl (by decide) i_10 k_18 (by rw [show wv 10 4 S a0 = va_rf (sR S a0 4) from rfl, ey_3]; rfl) dX5_closes_16 ?_
      refine lv_aload_n hx hb dX5_closes_19 rfl (lv_at hl 0 rfl) ?_
      refine w_get (k := 10) (f := 6) (T := TX5) (v := .int (sI S a0 6)) F hK hW hL_a0 hK_a0 (by decide) rfl rfl (by decide) i_10 k_25 rfl dX5_closes_20 ?_
      obtain ⟨h_4, hp⟩ := hp
      refine w_ild F hK hW hL_y_3 hK_y_3 h_4 dX5_closes_23 ?_
      refine lv_if_ne (tgt := 29) hx hb dX5_closes_24 (by decide) (fun c_5 => ?_) (fun c_5 => ?_)
      · replace hp := hp.1 c_5
        refine lv_aload_n hx hb dX5_closes_29 rfl (lv_at hl 0 rfl) ?_
        refine lv_dup hx hb dX5_closes_30 rfl ?_
        refine w_get (k := 10) (f := 6) (T := TX5) (v := .int (sI S a0 6)) F hK hW hL_a0 hK_a0 (by decide) rfl rfl (by decide) i_10 k_25 rfl dX5_closes_31 ?_
        refine lv_iconst (v := 1) hx hb dX5_closes_34 (by decide) ?_
        refine lv_isub hx hb dX5_closes_35 ?_
        refine w_putI (k := 10) (f := 6) (T := TX5) F hK hW hL_a0 hK_a0 (by decide) (by decide) rfl rfl (by decide) i_10 tyX5 tyX5_ok nmX5 k_25 rfl rfl (ty := .int) rfl rfl rfl dX5_closes_36 (fun H locs hW => ?_)
        obtain ⟨S_6, eS_6⟩ : ∃ z : wS, z = uI S a0 6 ((sI S a0 6) - (1 : Int32)) := ⟨_, rfl⟩
        rw [← eS_6] at hW
        replace hp := hp S_6 eS_6
        have hX_S_6 : wX D S S_6 := by rw [eS_6]; exact wX_uI
        have hE := hE.trans hX_S_6
        have hK_a0 : sK S_6 a0 = 10 := (hX_S_6.2 a0 hL_a0).1.trans hK_a0
        have hL_a0 : wM D S_6 a0 := hX_S_6.M hL_a0
        refine lv_iconst (v := 1) hx hb dX5_closes_39 (by decide) ?_
        exact w_zret hx hb hr hlocks hW hp.1 ⟨hE, hp.2⟩ dX5_closes_40
      · replace hp := hp.2 c_5
        exact t_X5_closes_27 F hr hlocks hK hp hW hE (lv_sub hl [] rfl)
set_option maxHeartbeats 4000000 in
set_option maxRecDepth 100000 in
theorem c_X5_closes (l : Launch) {D : wD} {cy : Nat → ClassId} {X : va_W} {S0 : wS} {post : Int32 → wS → Prop} {a0 : Nat} (hL_a0 : wM D S0 a0) (hK_a0 : sK S0 a0 = 10) (hp : wp_X5_closes D post S0 a0) : mI D cy X l yX5_closes wz_X5_closes r_X5_closes [.ref a0] S0 (fun r S9 => wX D S0 S9 ∧ post r S9) := by
  intro sz
  refine Met.ofW (cc := cX5_closes) (maxL := 1) (ret := (some .boolean)) (by decide) rfl ?_
  intro p e s m args below meth c s₁ B hml hv
  obtain ⟨rfl, hsz, hP, hK, hD0, hRO⟩ := hv
  have hts := atoms_spec (ws := wz_X5_closes) B.pre
  have hown : s.vm.findClass RX5 = some m.cls := findClass_of_methodNamed B.named
  subst hsz
  have hD := hD0.self (sz := s.heap.size)
  have F : CallFix p m c cX5_closes 1 s _ wz_X5_closes RX5 := ⟨B.exec, B.bytes, hml, hown, hts⟩
  have hr := B.returns
  have hlocks := B.notSynchronized
  generalize hAe : va_A (wL cy X S0) s.heap.size = A at hD hK ⊢
  have hA : ∀ q, s.heap.size ≤ q → A q := fun q h => by rw [← hAe]; exact Or.inr h
  have hW : wO D cy X A s.heap S0 s.heap [] := ⟨hP, hD, va_S.rf, hA, hRO⟩
  have hl := lv_entry ([.ref a0]) (n := 1) (Nat.le_of_ble_eq_true rfl)
  rw [lg_entry_eq]
  generalize (lg_sl ([.ref a0]) ++ List.replicate (1 - (lg_sl ([.ref a0])).length) Slot.unset).toArray = ls at hl ⊢
  have hl : lv_has ls 1 [(0, .ref a0)] := hl
  unfold wp_X5_closes at hp
  exact t_X5_closes_0 F hr hlocks hK hp hW wX.rf (lv_sub hl [0] rfl) hL_a0 hK_a0
def wp_X7_save_20 (D : wD) (post : wS → Prop)  (S : wS) : Prop :=
post S
def wp_X7_save_0 (D : wD) (post : wS → Prop)  (S : wS) (a0 : Nat) (a1 : Nat) (x2 : Int32) : Prop :=
∀ x_1 : Int32, x_1 = (x2 * (5 : Int32)) →
((x2 < 0 → wp_X7_save_20 D post S) ∧
 (¬ x2 < 0 → ((x_1 < 0 → wp_X7_save_20 D post S) ∧
 (¬ x_1 < 0 → (((x_1 + (5 : Int32)) ≤ (Int32.ofNat (sN S a1)) → a1 ∈ sL S ∧ vp_in x_1 (sN S a1) ∧
∀ S_6 : wS, S_6 = uJ S a1 (x_1).toNatClampNeg (sJ S a0 1) →
a1 ∈ sL S_6 ∧ vp_in (x_1 + (1 : Int32)) (sN S_6 a1) ∧
∀ S_8 : wS, S_8 = uJ S_6 a1 ((x_1 + (1 : Int32))).toNatClampNeg (sJ S_6 a0 2) →
a1 ∈ sL S_8 ∧ vp_in (x_1 + (2 : Int32)) (sN S_8 a1) ∧
∀ S_10 : wS, S_10 = uJ S_8 a1 ((x_1 + (2 : Int32))).toNatClampNeg (sJ S_8 a0 3) →
a1 ∈ sL S_10 ∧ vp_in (x_1 + (3 : Int32)) (sN S_10 a1) ∧
∀ S_12 : wS, S_12 = uJ S_10 a1 ((x_1 + (3 : Int32))).toNatClampNeg (sJ S_10 a0 4) →
wp_X7_rest D (fun r_13 S_14 => 
a1 ∈ sL S_14 ∧ vp_in (x_1 + (4 : Int32)) (sN S_14 a1) ∧
∀ S_16 : wS, S_16 = uJ S_14 a1 ((x_1 + (4 : Int32))).toNatClampNeg r_13 →
post S_16) S_12 a0) ∧
 (¬ (x_1 + (5 : Int32)) ≤ (Int32.ofNat (sN S a1)) → wp_X7_save_20 D post S))))))
abbrev r_X7_save : Room := { frames := 1, cells := 0, slots := 0, locals := 20 }
def wp_X7_save (D : wD) (post : wS → Prop) (S : wS) (a0 : Nat) (a1 : Nat) (x2 : Int32) : Prop := wp_X7_save_0 D post S a0 a1 x2
set_option maxHeartbeats 4000000 in
set_option maxRecDepth 100000 in
theorem t_X7_save_20 {p : Program} {l : Launch} {e : Env} {s : State} {m : MethodId} {args : Array Value} {below : List Frame} {meth : Method} {c : Code} {D : wD} {cy : Nat → ClassId} {X : va_W} {A : Nat → Prop} {S0 : wS} {post : wS → Prop} (F : CallFix p m c cX7_save 4 s args wz_X7_save RX7) (hr : meth.sig.returnType = none) (hlocks : meth.locks = false) (hK : wK D cy A s) : ∀ {S : wS} {H : Heap} {locs : List Loc} {ls : Array Slot}, wp_X7_save_20 D post S → wO D cy X A s.heap S H locs → wX D S0 S → lv_has ls 4 [] → W p l e r_X7_save s m args below meth c H locs 0 0 (MQ below (va_Qv (fun S9 => wX D S0 S9 ∧ post S9) (wB D cy X A) A) args s 0 0 A) (F0 m 20 ls []) := by
  obtain ⟨hx, hb, hml, hown, hts⟩ := id F
  have hwg : ∀ w ∈ WG, w.before args s = true := fun w h => hts w (List.mem_cons_of_mem _ h)
  intro S H locs ls hp hW hE hl
  unfold wp_X7_save_20 at hp
  exact w_vret hx hb hr hlocks hW ⟨hE, hp⟩ dX7_save_20
set_option maxHeartbeats 4000000 in
set_option maxRecDepth 100000 in
theorem t_X7_save_0 {p : Program} {l : Launch} {e : Env} {s : State} {m : MethodId} {args : Array Value} {below : List Frame} {meth : Method} {c : Code} {D : wD} {cy : Nat → ClassId} {X : va_W} {A : Nat → Prop} {S0 : wS} {post : wS → Prop} (F : CallFix p m c cX7_save 4 s args wz_X7_save RX7) (hr : meth.sig.returnType = none) (hlocks : meth.locks = false) (hK : wK D cy A s) : ∀ {S : wS} {H : Heap} {locs : List Loc} {ls : Array Slot} {a0 : Nat} {a1 : Nat} {x2 : Int32}, wp_X7_save_0 D post S a0 a1 x2 → wO D cy X A s.heap S H locs → wX D S0 S → lv_has ls 4 [(0, .ref a0), (1, .ref a1), (2, .int x2)] → wM D S a0 → sK S a0 = 12 → wM D S a1 → sK S a1 = 22 → W p l e r_X7_save s m args below meth c H locs 0 0 (MQ below (va_Qv (fun S9 => wX D S0 S9 ∧ post S9) (wB D cy X A) A) args s 0 0 A) (F0 m 0 ls []) := by
  obtain ⟨hx, hb, hml, hown, hts⟩ := id F
  have hwg : ∀ w ∈ WG, w.before args s = true := fun w h => hts w (List.mem_cons_of_mem _ h)
  have i_12 : ∀ w ∈ u_ws RX7 TX7 8, w ∈ wz_X7_save := fun w h => List.mem_cons_of_mem _ (wu_12 w h)
  have k_15 := hwg _ wf_RX7_15
  have k_18 := hwg _ wf_RX7_18
  have k_21 := hwg _ wf_RX7_21
  have k_9 := hwg _ wf_RX7_9
  intro S H locs ls a0 a1 x2 hp hW hE hl hL_a0 hK_a0 hL_a1 hK_a1
  unfold wp_X7_save_0 at hp
  refine lv_iload_n hx hb dX7_save_0 rfl (lv_at hl 2 rfl) ?_
  refine lv_iconst (v := 5) hx hb dX7_save_1 (by decide) ?_
  refine lv_imul hx hb dX7_save_2 ?_
  refine lv_topi (fun x_1 ex_1 => ?_)
  replace hp := hp x_1 ex_1
  refine lv_istore_n (lv' := [(3, .int x_1), (0, .ref a0), (1, .ref a1), (2, .int x2)]) hx hb dX7_save_3 rfl hl (by decide) rfl (fun ls hl => ?_)
  refine lv_iload_n hx hb dX7_save_4 rfl (lv_at hl 3 rfl) ?_
  refine lv_if_lt (tgt := 20) hx hb dX7_save_5 (by decide) (fun c_2 => ?_) (fun c_2 => ?_)
  · replace hp := hp.1 c_2
    exact t_X7_save_20 F hr hlocks hK hp hW hE (lv_sub hl [] rfl)
  · replace hp := hp.2 c_2
    refine lv_iload_n hx hb dX7_save_8 rfl (lv_at hl 0 rfl) ?_
    refine lv_if_lt (tgt := 20) hx hb dX7_save_9 (by decide) (fun c_3 => ?_) (fun c_3 => ?_)
    · replace hp := hp.1 c_3
      exact t_X7_save_20 F hr hlocks hK hp hW hE (lv_sub hl [] rfl)
    · replace hp := hp.2 c_3
      refine lv_iload_n hx hb dX7_save_12 rfl (lv_at hl 0 rfl) ?_
      refine lv_iconst (v := 5) hx hb dX7_save_13 (by decide) ?_
      refine lv_iadd hx hb dX7_save_14 ?_
      refine lv_aload_n hx hb dX7_save_15 rfl (lv_at hl 2 rfl) ?_
      refine w_len F hK hW hL_a1 hK_a1 (by decide) dX7_save_16 ?_
      refine lv_icmp_le (tgt := 21) hx hb dX7_save_17 (by decide) (fun c_4 => ?_) (fun c_4 => ?_)
      · replace hp := hp.1 c_4
        refine lv_aload_n hx hb dX7_save_21 rfl (lv_at hl 2 rfl) ?_
        refine lv_iload_n hx hb dX7_save_22 rfl (lv_at hl 0 rfl) ?_
        refine lv_aload_n hx hb dX7_save_23 rfl (lv_at hl 1 rfl) ?_
        refine w_get (k := 12) (f := 1) (T := TX7) (v := .long (sJ S a0 1)) F hK hW hL_a0 hK_a0 (by decide) rfl rfl (by decide) i_12 k_9 rfl dX7_save_24 ?_
        obtain ⟨h_5m, h_5, hp⟩ := hp
        refine w_lst F hK hW h_5m hK_a1 h_5 dX7_save_27 (fun H locs hW => ?_)
        obtain ⟨S_6, eS_6⟩ : ∃ z : wS, z = uJ S a1 (x_1).toNatClampNeg (sJ S a0 1) := ⟨_, rfl⟩
        rw [← eS_6] at hW
        replace hp := hp S_6 eS_6
        have hX_S_6 : wX D S S_6 := by rw [eS_6]; exact wX_uJ
        have hE := hE.trans hX_S_6
        have hK_a0 : sK S_6 a0 = 12 := (hX_S_6.2 a0 hL_a0).1.trans hK_a0
        have hL_a0 : wM D S_6 a0 := hX_S_6.M hL_a0
        have hK_a1 : sK S_6 a1 = 22 := (hX_S_6.2 a1 hL_a1).1.trans hK_a1
        have hL_a1 : wM D S_6 a1 := hX_S_6.M hL_a1
        refine lv_aload_n hx hb dX7_save_28 rfl (lv_at hl 2 rfl) ?_
        refine lv_iload_n hx hb dX7_save_29 rfl (lv_at hl 0 rfl) ?_
        refine lv_iconst (v := 1) hx hb dX7_save_30 (by decide) ?_
        refine lv_iadd hx hb dX7_save_31 ?_
        refine lv_aload_n hx hb dX7_save_32 rfl (lv_at hl 1 rfl) ?_
        refine w_get (k := 12) (f := 2) (T := TX7) (v := .long (sJ S_6 a0 2)) F hK hW hL_a0 hK_a0 (by decide) rfl rfl (by decide) i_12 k_15 rfl dX7_save_33 ?_
        obtain ⟨h_7m, h_7, hp⟩ := hp
        refine w_lst F hK hW h_7m hK_a1 h_7 dX7_save_36 (fun H locs hW => ?_)
        obtain ⟨S_8, eS_8⟩ : ∃ z : wS, z = uJ S_6 a1 ((x_1 + (1 : Int32))).toNatClampNeg (sJ S_6 a0 2) := ⟨_, rfl⟩
        rw [← eS_8] at hW
        replace hp := hp S_8 eS_8
        have hX_S_8 : wX D S_6 S_8 := by rw [eS_8]; exact wX_uJ
        have hE := hE.trans hX_S_8
        have hK_a0 : sK S_8 a0 = 12 := (hX_S_8.2 a0 hL_a0).1.trans hK_a0
        have hL_a0 : wM D S_8 a0 := hX_S_8.M hL_a0
        have hK_a1 : sK S_8 a1 = 22 := (hX_S_8.2 a1 hL_a1).1.trans hK_a1
        have hL_a1 : wM D S_8 a1 := hX_S_8.M hL_a1
        refine lv_aload_n hx hb dX7_save_37 rfl (lv_at hl 2 rfl) ?_
        refine lv_iload_n hx hb dX7_save_38 rfl (lv_at hl 0 rfl) ?_
        refine lv_iconst (v := 2) hx hb dX7_save_39 (by decide) ?_
        refine lv_iadd hx hb dX7_save_40 ?_
        refine lv_aload_n hx hb dX7_save_41 rfl (lv_at hl 1 rfl) ?_
        refine w_get (k := 12) (f := 3) (T := TX7) (v := .long (sJ S_8 a0 3)) F hK hW hL_a0 hK_a0 (by decide) rfl rfl (by decide) i_12 k_18 rfl dX7_save_42 ?_
        obtain ⟨h_9m, h_9, hp⟩ := hp
        refine w_lst F hK hW h_9m hK_a1 h_9 dX7_save_45 (fun H locs hW => ?_)
        obtain ⟨S_10, eS_10⟩ : ∃ z : wS, z = uJ S_8 a1 ((x_1 + (2 : Int32))).toNatClampNeg (sJ S_8 a0 3) := ⟨_, rfl⟩
        rw [← eS_10] at hW
        replace hp := hp S_10 eS_10
        have hX_S_10 : wX D S_8 S_10 := by rw [eS_10]; exact wX_uJ
        have hE := hE.trans hX_S_10
        have hK_a0 : sK S_10 a0 = 12 := (hX_S_10.2 a0 hL_a0).1.trans hK_a0
        have hL_a0 : wM D S_10 a0 := hX_S_10.M hL_a0
        have hK_a1 : sK S_10 a1 = 22 := (hX_S_10.2 a1 hL_a1).1.trans hK_a1
        have hL_a1 : wM D S_10 a1 := hX_S_10.M hL_a1
        refine lv_aload_n hx hb dX7_save_46 rfl (lv_at hl 2 rfl) ?_
        refine lv_iload_n hx hb dX7_save_47 rfl (lv_at hl 0 rfl) ?_
        refine lv_iconst (v := 3) hx hb dX7_save_48 (by decide) ?_
        refine lv_iadd hx hb dX7_save_49 ?_
        refine lv_aload_n hx hb dX7_save_50 rfl (lv_at hl 1 rfl) ?_
        refine w_get (k := 12) (f := 4) (T := TX7) (v := .long (sJ S_10 a0 4)) F hK hW hL_a0 hK_a0 (by decide) rfl rfl (by decide) i_12 k_21 rfl dX7_save_51 ?_
        obtain ⟨h_11m, h_11, hp⟩ := hp
        refine w_lst F hK hW h_11m hK_a1 h_11 dX7_save_54 (fun H locs hW => ?_)
        obtain ⟨S_12, eS_12⟩ : ∃ z : wS, z = uJ S_10 a1 ((x_1 + (3 : Int32))).toNatClampNeg (sJ S_10 a0 4) := ⟨_, rfl⟩
        rw [← eS_12] at hW
        replace hp := hp S_12 eS_12
        have hX_S_12 : wX D S_10 S_12 := by rw [eS_12]; exact wX_uJ
        have hE := hE.trans hX_S_12
        have hK_a0 : sK S_12 a0 = 12 := (hX_S_12.2 a0 hL_a0).1.trans hK_a0
        have hL_a0 : wM D S_12 a0 := hX_S_12.M hL_a0
        have hK_a1 : sK S_12 a1 = 22 := (hX_S_12.2 a1 hL_a1).1.trans hK_a1
        have hL_a1 : wM D S_12 a1 := hX_S_12.M hL_a1
        refine lv_aload_n hx hb dX7_save_55 rfl (lv_at hl 2 rfl) ?_
        refine lv_iload_n hx hb dX7_save_56 rfl (lv_at hl 0 rfl) ?_
        refine lv_iconst (v := 4) hx hb dX7_save_57 (by decide) ?_
        refine lv_iadd hx hb dX7_save_58 ?_
        refine lv_aload_n hx hb dX7_save_59 rfl (lv_at hl 1 rfl) ?_
        refine w_callJ (va_runV (As := []) (rest := [.int (x_1 + (4 : Int32)), .ref a1]) F (c_X7_rest l hL_a0 hK_a0 hp H.size) (cwV (C := RX7) 0 hts (wg_V wm_RX7_64 wy_X7_rest) rfl rfl rfl (by decide +kernel) ⟨Nat.le_of_ble_eq_true rfl, Nat.le_of_ble_eq_true rfl⟩) (w_preV hK hW hL_a0 hK_a0 (by decide) rfl) rfl rfl hl.1 rfl (lv_room (Nat.le_of_ble_eq_true rfl)) dX7_save_60 ⟨Nat.le_of_ble_eq_true rfl, Nat.le_of_ble_eq_true rfl⟩) hW (fun r_13 S_14 H locs hp hW => ?_)
        obtain ⟨hX_S_14, hp⟩ := hp
        refine W.widen (k := 0) (n := 0) (by decide) (by decide) ?_
        have hE := hE.trans hX_S_14
        have hK_a0 : sK S_14 a0 = 12 := (hX_S_14.2 a0 hL_a0).1.trans hK_a0
        have hL_a0 : wM D S_14 a0 := hX_S_14.M hL_a0
        have hK_a1 : sK S_14 a1 = 22 := (hX_S_14.2 a1 hL_a1).1.trans hK_a1
        have hL_a1 : wM D S_14 a1 := hX_S_14.M hL_a1
        obtain ⟨h_15m, h_15, hp⟩ := hp
        refine w_lst F hK hW h_15m hK_a1 h_15 dX7_save_63 (fun H locs hW => ?_)
        obtain ⟨S_16, eS_16⟩ : ∃ z : wS, z = uJ S_14 a1 ((x_1 + (4 : Int32))).toNatClampNeg r_13 := ⟨_, rfl⟩
        rw [← eS_16] at hW
        replace hp := hp S_16 eS_16
        have hX_S_16 : wX D S_14 S_16 := by rw [eS_16]; exact wX_uJ
        have hE := hE.trans hX_S_16
        have hK_a0 : sK S_16 a0 = 12 := (hX_S_16.2 a0 hL_a0).1.trans hK_a0
        have hL_a0 : wM D S_16 a0 := hX_S_16.M hL_a0
        have hK_a1 : sK S_16 a1 = 22 := (hX_S_16.2 a1 hL_a1).1.trans hK_a1
        have hL_a1 : wM D S_16 a1 := hX_S_16.M hL_a1
        exact w_vret hx hb hr hlocks hW ⟨hE, hp⟩ dX7_save_64
      · replace hp := hp.2 c_4
        exact t_X7_save_20 F hr hlocks hK hp hW hE (lv_sub hl [] rfl)
set_option maxHeartbeats 4000000 in
set_option maxRecDepth 100000 in
theorem c_X7_save (l : Launch) {D : wD} {cy : Nat → ClassId} {X : va_W} {S0 : wS} {post : wS → Prop} {a0 : Nat} {a1 : Nat} {x2 : Int32} (hL_a0 : wM D S0 a0) (hK_a0 : sK S0 a0 = 12) (hL_a1 : wM D S0 a1) (hK_a1 : sK S0 a1 = 22) (hp : wp_X7_save D post S0 a0 a1 x2) : mV D cy X l yX7_save wz_X7_save r_X7_save [.ref a0, .ref a1, .int x2] S0 (fun S9 => wX D S0 S9 ∧ post S9) := by
  intro sz
  refine Met.ofW (cc := cX7_save) (maxL := 4) (ret := none) (by decide) rfl ?_
  intro p e s m args below meth c s₁ B hml hv
  obtain ⟨rfl, hsz, hP, hK, hD0, hRO⟩ := hv
  have hts := atoms_spec (ws := wz_X7_save) B.pre
  have hown : s.vm.findClass RX7 = some m.cls := findClass_of_methodNamed B.named
  subst hsz
  have hD := hD0.self (sz := s.heap.size)
  have F : CallFix p m c cX7_save 4 s _ wz_X7_save RX7 := ⟨B.exec, B.bytes, hml, hown, hts⟩
  have hr := B.returns
  have hlocks := B.notSynchronized
  generalize hAe : va_A (wL cy X S0) s.heap.size = A at hD hK ⊢
  have hA : ∀ q, s.heap.size ≤ q → A q := fun q h => by rw [← hAe]; exact Or.inr h
  have hW : wO D cy X A s.heap S0 s.heap [] := ⟨hP, hD, va_S.rf, hA, hRO⟩
  have hl := lv_entry ([.ref a0, .ref a1, .int x2]) (n := 4) (Nat.le_of_ble_eq_true rfl)
  rw [lg_entry_eq]
  generalize (lg_sl ([.ref a0, .ref a1, .int x2]) ++ List.replicate (4 - (lg_sl ([.ref a0, .ref a1, .int x2])).length) Slot.unset).toArray = ls at hl ⊢
  have hl : lv_has ls 4 [(0, .ref a0), (1, .ref a1), (2, .int x2)] := hl
  unfold wp_X7_save at hp
  exact t_X7_save_0 F hr hlocks hK hp hW wX.rf (lv_sub hl [0, 1, 2] rfl) hL_a0 hK_a0 hL_a1 hK_a1
def wp_X5_opens_29 (D : wD) (post : Int32 → wS → Prop)  (S : wS) : Prop :=
narrow .boolean (.int (0 : Int32)) = .int (0 : Int32) ∧ post (0 : Int32) S
def wp_X5_opens_0 (D : wD) (post : Int32 → wS → Prop)  (S : wS) (a0 : Nat) : Prop :=
(((sI S a0 6) < 0 → wp_X5_opens_29 D post S) ∧
 (¬ (sI S a0 6) < 0 → (((5 : Int32) ≤ ((sI S a0 6) + (1 : Int32)) → wp_X5_opens_29 D post S) ∧
 (¬ (5 : Int32) ≤ ((sI S a0 6) + (1 : Int32)) → ∃ y_3 : Nat, sR S a0 4 = some y_3 ∧ wM D S y_3 ∧ sK S y_3 = 21 ∧
vp_in (sI S a0 6) (sN S y_3) ∧
((¬ (sI S y_3 ((sI S a0 6)).toNatClampNeg) = 0 → ∃ y_6 : Nat, sR S a0 1 = some y_6 ∧ wM D S y_6 ∧ sK S y_6 = 12 ∧
∃ y_7 : Nat, sR S a0 3 = some y_7 ∧ wM D S y_7 ∧ sK S y_7 = 22 ∧
wp_X7_load D (fun S_9 => 
∀ S_10 : wS, S_10 = uI S_9 a0 6 ((sI S_9 a0 6) + (1 : Int32)) →
∃ y_11 : Nat, sR S_10 a0 1 = some y_11 ∧ wM D S_10 y_11 ∧ sK S_10 y_11 = 12 ∧
∃ y_12 : Nat, sR S_10 a0 2 = some y_12 ∧ wM D S_10 y_12 ∧ sK S_10 y_12 = 22 ∧
wp_X7_save D (fun S_14 => 
∃ y_15 : Nat, sR S_14 a0 4 = some y_15 ∧ wM D S_14 y_15 ∧ sK S_14 y_15 = 21 ∧
y_15 ∈ sL S_14 ∧ vp_in (sI S_14 a0 6) (sN S_14 y_15) ∧
∀ S_17 : wS, S_17 = uI S_14 y_15 ((sI S_14 a0 6)).toNatClampNeg (0 : Int32) →
narrow .boolean (.int (1 : Int32)) = .int (1 : Int32) ∧ post (1 : Int32) S_17) S_10 y_11 y_12 (sI S_10 a0 6)) S y_6 y_7 (sI S a0 6)) ∧
 ((sI S y_3 ((sI S a0 6)).toNatClampNeg) = 0 → wp_X5_opens_29 D post S))))))
abbrev r_X5_opens : Room := { frames := 2, cells := 0, slots := 0, locals := 43 }
def wp_X5_opens (D : wD) (post : Int32 → wS → Prop) (S : wS) (a0 : Nat) : Prop := wp_X5_opens_0 D post S a0
set_option maxHeartbeats 4000000 in
set_option maxRecDepth 100000 in
theorem t_X5_opens_29 {p : Program} {l : Launch} {e : Env} {s : State} {m : MethodId} {args : Array Value} {below : List Frame} {meth : Method} {c : Code} {D : wD} {cy : Nat → ClassId} {X : va_W} {A : Nat → Prop} {S0 : wS} {post : Int32 → wS → Prop} (F : CallFix p m c cX5_opens 1 s args wz_X5_opens RX5) (hr : meth.sig.returnType = (some .boolean)) (hlocks : meth.locks = false) (hK : wK D cy A s) : ∀ {S : wS} {H : Heap} {locs : List Loc} {ls : Array Slot}, wp_X5_opens_29 D post S → wO D cy X A s.heap S H locs → wX D S0 S → lv_has ls 1 [] → W p l e r_X5_opens s m args below meth c H locs 0 0 (MQ below (va_Qi (fun r S9 => wX D S0 S9 ∧ post r S9) (wB D cy X A) A) args s 0 0 A) (F0 m 29 ls []) := by
  obtain ⟨hx, hb, hml, hown, hts⟩ := id F
  have hwg : ∀ w ∈ WG, w.before args s = true := fun w h => hts w (List.mem_cons_of_mem _ h)
  intro S H locs ls hp hW hE hl
  unfold wp_X5_opens_29 at hp
  refine lv_iconst (v := 0) hx hb dX5_opens_29 (by decide) ?_
  exact w_zret hx hb hr hlocks hW hp.1 ⟨hE, hp.2⟩ dX5_opens_30
set_option maxHeartbeats 4000000 in
set_option maxRecDepth 100000 in
theorem t_X5_opens_0 {p : Program} {l : Launch} {e : Env} {s : State} {m : MethodId} {args : Array Value} {below : List Frame} {meth : Method} {c : Code} {D : wD} {cy : Nat → ClassId} {X : va_W} {A : Nat → Prop} {S0 : wS} {post : Int32 → wS → Prop} (F : CallFix p m c cX5_opens 1 s args wz_X5_opens RX5) (hr : meth.sig.returnType = (some .boolean)) (hlocks : meth.locks = false) (hK : wK D cy A s) : ∀ {S : wS} {H : Heap} {locs : List Loc} {ls : Array Slot} {a0 : Nat}, wp_X5_opens_0 D post S a0 → wO D cy X A s.heap S H locs → wX D S0 S → lv_has ls 1 [(0, .ref a0)] → wM D S a0 → sK S a0 = 10 → W p l e r_X5_opens s m args below meth c H locs 0 0 (MQ below (va_Qi (fun r S9 => wX D S0 S9 ∧ post r S9) (wB D cy X A) A) args s 0 0 A) (F0 m 0 ls []) := by
  obtain ⟨hx, hb, hml, hown, hts⟩ := id F
  have hwg : ∀ w ∈ WG, w.before args s = true := fun w h => hts w (List.mem_cons_of_mem _ h)
  have i_10 : ∀ w ∈ u_ws RX5 TX5 11, w ∈ wz_X5_opens := fun w h => List.mem_cons_of_mem _ (wu_10 w h)
  have k_11 := hwg _ wf_RX5_11
  have k_15 := hwg _ wf_RX5_15
  have k_18 := hwg _ wf_RX5_18
  have k_25 := hwg _ wf_RX5_25
  have k_51 := hwg _ wf_RX5_51
  intro S H locs ls a0 hp hW hE hl hL_a0 hK_a0
  unfold wp_X5_opens_0 at hp
  refine lv_aload_n hx hb dX5_opens_0 rfl (lv_at hl 0 rfl) ?_
  refine w_get (k := 10) (f := 6) (T := TX5) (v := .int (sI S a0 6)) F hK hW hL_a0 hK_a0 (by decide) rfl rfl (by decide) i_10 k_25 rfl dX5_opens_1 ?_
  refine lv_if_lt (tgt := 29) hx hb dX5_opens_4 (by decide) (fun c_1 => ?_) (fun c_1 => ?_)
  · replace hp := hp.1 c_1
    exact t_X5_opens_29 F hr hlocks hK hp hW hE (lv_sub hl [] rfl)
  · replace hp := hp.2 c_1
    refine lv_aload_n hx hb dX5_opens_7 rfl (lv_at hl 0 rfl) ?_
    refine w_get (k := 10) (f := 6) (T := TX5) (v := .int (sI S a0 6)) F hK hW hL_a0 hK_a0 (by decide) rfl rfl (by decide) i_10 k_25 rfl dX5_opens_8 ?_
    refine lv_iconst (v := 1) hx hb dX5_opens_11 (by decide) ?_
    refine lv_iadd hx hb dX5_opens_12 ?_
    refine lv_iconst (v := 5) hx hb dX5_opens_13 (by decide) ?_
    refine lv_icmp_ge (tgt := 29) hx hb dX5_opens_14 (by decide) (fun c_2 => ?_) (fun c_2 => ?_)
    · replace hp := hp.1 c_2
      exact t_X5_opens_29 F hr hlocks hK hp hW hE (lv_sub hl [] rfl)
    · replace hp := hp.2 c_2
      refine lv_aload_n hx hb dX5_opens_17 rfl (lv_at hl 0 rfl) ?_
      obtain ⟨y_3, ey_3, hL_y_3, hK_y_3, hp⟩ := hp
      refine w_get (k := 10) (f := 4) (T := TX5) (v := .ref y_3) F hK hW hL_a0 hK_a0 (by decide) rfl rfl (by decide) i_10 k_18 (by rw [show wv 10 4 S a0 = va_rf (sR S a0 4) from rfl, ey_3]; rfl) dX5_opens_18 ?_
      refine lv_aload_n hx hb dX5_opens_21 rfl (lv_at hl 0 rfl) ?_
      refine w_get (k := 10) (f := 6) (T := TX5) (v := .int (sI S a0 6)) F hK hW hL_a0 hK_a0 (by decide) rfl rfl (by decide) i_10 k_25 rfl dX5_opens_22 ?_
      obtain ⟨h_4, hp⟩ := hp
      refine w_ild F hK hW hL_y_3 hK_y_3 h_4 dX5_opens_25 ?_
      refine lv_if_ne (tgt := 31) hx hb dX5_opens_26 (by decide) (fun c_5 => ?_) (fun c_5 => ?_)
      · replace hp := hp.1 c_5
        refine lv_aload_n hx hb dX5_opens_31 rfl (lv_at hl 0 rfl) ?_
        obtain ⟨y_6, ey_6, hL_y_6, hK_y_6, hp⟩ := hp
        refine w_get (k := 10) (f := 1) (T := TX5) (v := .ref y_6) F hK hW hL_a0 hK_a0 (by decide) rfl rfl (by decide) i_10 k_51 (by rw [show wv 10 1 S a0 = va_rf (sR S a0 1) from rfl, ey_6]; rfl) dX5_opens_32 ?_
        refine lv_aload_n hx hb dX5_opens_35 rfl (lv_at hl 0 rfl) ?_
        obtain ⟨y_7, ey_7, hL_y_7, hK_y_7, hp⟩ := hp
        refine w_get (k := 10) (f := 3) (T := TX5) (v := .ref y_7) F hK hW hL_a0 hK_a0 (by decide) rfl rfl (by decide) i_10 k_15 (by rw [show wv 10 3 S a0 = va_rf (sR S a0 3) from rfl, ey_7]; rfl) dX5_opens_36 ?_
        refine lv_aload_n hx hb dX5_opens_39 rfl (lv_at hl 0 rfl) ?_
        refine w_get (k := 10) (f := 6) (T := TX5) (v := .int (sI S a0 6)) F hK hW hL_a0 hK_a0 (by decide) rfl rfl (by decide) i_10 k_25 rfl dX5_opens_40 ?_
        refine w_callV (va_runV (As := [.ref y_7, .int (sI S a0 6)]) (rest := []) F (c_X7_load l hL_y_6 hK_y_6 hL_y_7 hK_y_7 hp H.size) (cwV (C := RX7) 2 hts (wg_V wm_RX5_124 wy_X7_load) rfl rfl rfl (by decide +kernel) ⟨Nat.le_of_ble_eq_true rfl, Nat.le_of_ble_eq_true rfl⟩) (w_preV hK hW hL_y_6 hK_y_6 (by decide) rfl) rfl rfl hl.1 rfl (lv_room (Nat.le_of_ble_eq_true rfl)) dX5_opens_43 ⟨Nat.le_of_ble_eq_true rfl, Nat.le_of_ble_eq_true rfl⟩) hW (fun S_9 H locs hp hW => ?_)
        obtain ⟨hX_S_9, hp⟩ := hp
        refine W.widen (k := 0) (n := 0) (by decide) (by decide) ?_
        have hE := hE.trans hX_S_9
        have hK_a0 : sK S_9 a0 = 10 := (hX_S_9.2 a0 hL_a0).1.trans hK_a0
        have hL_a0 : wM D S_9 a0 := hX_S_9.M hL_a0
        refine lv_aload_n hx hb dX5_opens_46 rfl (lv_at hl 0 rfl) ?_
        refine lv_dup hx hb dX5_opens_47 rfl ?_
        refine w_get (k := 10) (f := 6) (T := TX5) (v := .int (sI S_9 a0 6)) F hK hW hL_a0 hK_a0 (by decide) rfl rfl (by decide) i_10 k_25 rfl dX5_opens_48 ?_
        refine lv_iconst (v := 1) hx hb dX5_opens_51 (by decide) ?_
        refine lv_iadd hx hb dX5_opens_52 ?_
        refine w_putI (k := 10) (f := 6) (T := TX5) F hK hW hL_a0 hK_a0 (by decide) (by decide) rfl rfl (by decide) i_10 tyX5 tyX5_ok nmX5 k_25 rfl rfl (ty := .int) rfl rfl rfl dX5_opens_53 (fun H locs hW => ?_)
        obtain ⟨S_10, eS_10⟩ : ∃ z : wS, z = uI S_9 a0 6 ((sI S_9 a0 6) + (1 : Int32)) := ⟨_, rfl⟩
        rw [← eS_10] at hW
        replace hp := hp S_10 eS_10
        have hX_S_10 : wX D S_9 S_10 := by rw [eS_10]; exact wX_uI
        have hE := hE.trans hX_S_10
        have hK_a0 : sK S_10 a0 = 10 := (hX_S_10.2 a0 hL_a0).1.trans hK_a0
        have hL_a0 : wM D S_10 a0 := hX_S_10.M hL_a0
        refine lv_aload_n hx hb dX5_opens_56 rfl (lv_at hl 0 rfl) ?_
        obtain ⟨y_11, ey_11, hL_y_11, hK_y_11, hp⟩ := hp
        refine w_get (k := 10) (f := 1) (T := TX5) (v := .ref y_11) F hK hW hL_a0 hK_a0 (by decide) rfl rfl (by decide) i_10 k_51 (by rw [show wv 10 1 S_10 a0 = va_rf (sR S_10 a0 1) from rfl, ey_11]; rfl) dX5_opens_57 ?_
        refine lv_aload_n hx hb dX5_opens_60 rfl (lv_at hl 0 rfl) ?_
        obtain ⟨y_12, ey_12, hL_y_12, hK_y_12, hp⟩ := hp
        refine w_get (k := 10) (f := 2) (T := TX5) (v := .ref y_12) F hK hW hL_a0 hK_a0 (by decide) rfl rfl (by decide) i_10 k_11 (by rw [show wv 10 2 S_10 a0 = va_rf (sR S_10 a0 2) from rfl, ey_12]; rfl) dX5_opens_61 ?_
        refine lv_aload_n hx hb dX5_opens_64 rfl (lv_at hl 0 rfl) ?_
        refine w_get (k := 10) (f := 6) (T := TX5) (v := .int (sI S_10 a0 6)) F hK hW hL_a0 hK_a0 (by decide) rfl rfl (by decide) i_10 k_25 rfl dX5_opens_65 ?_
        refine w_callV (va_runV (As := [.ref y_12, .int (sI S_10 a0 6)]) (rest := []) F (c_X7_save l hL_y_11 hK_y_11 hL_y_12 hK_y_12 hp H.size) (cwV (C := RX7) 2 hts (wg_V wm_RX5_55 wy_X7_save) rfl rfl rfl (by decide +kernel) ⟨Nat.le_of_ble_eq_true rfl, Nat.le_of_ble_eq_true rfl⟩) (w_preV hK hW hL_y_11 hK_y_11 (by decide) rfl) rfl rfl hl.1 rfl (lv_room (Nat.le_of_ble_eq_true rfl)) dX5_opens_68 ⟨Nat.le_of_ble_eq_true rfl, Nat.le_of_ble_eq_true rfl⟩) hW (fun S_14 H locs hp hW => ?_)
        obtain ⟨hX_S_14, hp⟩ := hp
        refine W.widen (k := 0) (n := 0) (by decide) (by decide) ?_
        have hE := hE.trans hX_S_14
        have hK_a0 : sK S_14 a0 = 10 := (hX_S_14.2 a0 hL_a0).1.trans hK_a0
        have hL_a0 : wM D S_14 a0 := hX_S_14.M hL_a0
        refine lv_aload_n hx hb dX5_opens_71 rfl (lv_at hl 0 rfl) ?_
        obtain ⟨y_15, ey_15, hL_y_15, hK_y_15, hp⟩ := hp
        refine w_get (k := 10) (f := 4) (T := TX5) (v := .ref y_15) F hK hW hL_a0 hK_a0 (by decide) rfl rfl (by decide) i_10 k_18 (by rw [show wv 10 4 S_14 a0 = va_rf (sR S_14 a0 4) from rfl, ey_15]; rfl) dX5_opens_72 ?_
        refine lv_aload_n hx hb dX5_opens_75 rfl (lv_at hl 0 rfl) ?_
        refine w_get (k := 10) (f := 6) (T := TX5) (v := .int (sI S_14 a0 6)) F hK hW hL_a0 hK_a0 (by decide) rfl rfl (by decide) i_10 k_25 rfl dX5_opens_76 ?_
        refine lv_iconst (v := 0) hx hb dX5_opens_79 (by decide) ?_
        obtain ⟨h_16m, h_16, hp⟩ := hp
        refine w_ist F hK hW h_16m hK_y_15 h_16 dX5_opens_80 (fun H locs hW => ?_)
        obtain ⟨S_17, eS_17⟩ : ∃ z : wS, z = uI S_14 y_15 ((sI S_14 a0 6)).toNatClampNeg (0 : Int32) := ⟨_, rfl⟩
        rw [← eS_17] at hW
        replace hp := hp S_17 eS_17
        have hX_S_17 : wX D S_14 S_17 := by rw [eS_17]; exact wX_uI
        have hE := hE.trans hX_S_17
        have hK_a0 : sK S_17 a0 = 10 := (hX_S_17.2 a0 hL_a0).1.trans hK_a0
        have hL_a0 : wM D S_17 a0 := hX_S_17.M hL_a0
        refine lv_iconst (v := 1) hx hb dX5_opens_81 (by decide) ?_
        exact w_zret hx hb hr hlocks hW hp.1 ⟨hE, hp.2⟩ dX5_opens_82
      · replace hp := hp.2 c_5
        exact t_X5_opens_29 F hr hlocks hK hp hW hE (lv_sub hl [] rfl)
set_option maxHeartbeats 4000000 in
set_option maxRecDepth 100000 in
theorem c_X5_opens (l : Launch) {D : wD} {cy : Nat → ClassId} {X : va_W} {S0 : wS} {post : Int32 → wS → Prop} {a0 : Nat} (hL_a0 : wM D S0 a0) (hK_a0 : sK S0 a0 = 10) (hp : wp_X5_opens D post S0 a0) : mI D cy X l yX5_opens wz_X5_opens r_X5_opens [.ref a0] S0 (fun r S9 => wX D S0 S9 ∧ post r S9) := by
  intro sz
  refine Met.ofW (cc := cX5_opens) (maxL := 1) (ret := (some .boolean)) (by decide) rfl ?_
  intro p e s m args below meth c s₁ B hml hv
  obtain ⟨rfl, hsz, hP, hK, hD0, hRO⟩ := hv
  have hts := atoms_spec (ws := wz_X5_opens) B.pre
  have hown : s.vm.findClass RX5 = some m.cls := findClass_of_methodNamed B.named
  subst hsz
  have hD := hD0.self (sz := s.heap.size)
  have F : CallFix p m c cX5_opens 1 s _ wz_X5_opens RX5 := ⟨B.exec, B.bytes, hml, hown, hts⟩
  have hr := B.returns
  have hlocks := B.notSynchronized
  generalize hAe : va_A (wL cy X S0) s.heap.size = A at hD hK ⊢
  have hA : ∀ q, s.heap.size ≤ q → A q := fun q h => by rw [← hAe]; exact Or.inr h
  have hW : wO D cy X A s.heap S0 s.heap [] := ⟨hP, hD, va_S.rf, hA, hRO⟩
  have hl := lv_entry ([.ref a0]) (n := 1) (Nat.le_of_ble_eq_true rfl)
  rw [lg_entry_eq]
  generalize (lg_sl ([.ref a0]) ++ List.replicate (1 - (lg_sl ([.ref a0])).length) Slot.unset).toArray = ls at hl ⊢
  have hl : lv_has ls 1 [(0, .ref a0)] := hl
  unfold wp_X5_opens at hp
  exact t_X5_opens_0 F hr hlocks hK hp hW wX.rf (lv_sub hl [0] rfl) hL_a0 hK_a0
def wp_X5_takes_117 (D : wD) (post : Int32 → wS → Prop)  (S : wS) (t0 : Int32) : Prop :=
narrow .boolean (.int t0) = .int t0 ∧ post t0 S
def wp_X5_takes_92 (D : wD) (post : Int32 → wS → Prop)  (S : wS) (a0 : Nat) (b0 : Nat) (t1 : Int32) : Prop :=
narrow .boolean (.int t1) = .int t1 ∧ fits .boolean (.int t1) = true ∧
∀ S_1 : wS, S_1 = uI S b0 10 t1 →
narrow .boolean (.int (sI S_1 a0 10)) = .int (sI S_1 a0 10) ∧ post (sI S_1 a0 10) S_1
def wp_X5_takes_35 (D : wD) (post : Int32 → wS → Prop)  (S : wS) : Prop :=
narrow .boolean (.int (0 : Int32)) = .int (0 : Int32) ∧ post (0 : Int32) S
def wp_X5_takes_0 (D : wD) (post : Int32 → wS → Prop)  (S : wS) (a0 : Nat) (x1 : Int32) : Prop :=
((¬ x1 = 0 → ((¬ (sI S a0 9) = 0 → wp_X5_takes_35 D post S) ∧
 ((sI S a0 9) = 0 → ((¬ (sI S a0 10) = 0 → wp_X5_takes_35 D post S) ∧
 ((sI S a0 10) = 0 → (((sI S a0 6) < 0 → wp_X5_takes_35 D post S) ∧
 (¬ (sI S a0 6) < 0 → (((sI S a0 6) < (5 : Int32) → ((x1 = 1 → wp_X5_opens D (fun r_7 S_8 => 
narrow .boolean (.int r_7) = .int r_7 ∧ post r_7 S_8) S a0) ∧
 ((x1 = 2 → wp_X5_closes D (fun r_10 S_11 => 
narrow .boolean (.int r_10) = .int r_10 ∧ post r_10 S_11) S a0) ∧
 ((x1 = 3 → ∃ y_13 : Nat, sR S a0 4 = some y_13 ∧ wM D S y_13 ∧ sK S y_13 = 21 ∧
vp_in (sI S a0 6) (sN S y_13) ∧
(((sI S y_13 ((sI S a0 6)).toNatClampNeg) ≤ 0 → wp_X5_takes_117 D post S (0 : Int32)) ∧
 (¬ (sI S y_13 ((sI S a0 6)).toNatClampNeg) ≤ 0 → wp_X5_takes_117 D post S (1 : Int32)))) ∧
 ((x1 = 4 → narrow .boolean (.int (1 : Int32)) = .int (1 : Int32) ∧ fits .boolean (.int (1 : Int32)) = true ∧
∀ S_17 : wS, S_17 = uI S a0 9 (1 : Int32) →
narrow .boolean (.int (1 : Int32)) = .int (1 : Int32) ∧ post (1 : Int32) S_17) ∧
 ((x1 = 5 → ((¬ (sI S a0 6) = 0 → wp_X5_takes_92 D post S a0 a0 (0 : Int32)) ∧
 ((sI S a0 6) = 0 → wp_X5_takes_92 D post S a0 a0 (1 : Int32)))) ∧
 (¬ x1 = 1 → ¬ x1 = 2 → ¬ x1 = 3 → ¬ x1 = 4 → ¬ x1 = 5 → narrow .boolean (.int (0 : Int32)) = .int (0 : Int32) ∧ post (0 : Int32) S))))))) ∧
 (¬ (sI S a0 6) < (5 : Int32) → wp_X5_takes_35 D post S))))))))) ∧
 (x1 = 0 → narrow .boolean (.int (1 : Int32)) = .int (1 : Int32) ∧ post (1 : Int32) S))
abbrev r_X5_takes : Room := { frames := 3, cells := 0, slots := 0, locals := 63 }
def wp_X5_takes (D : wD) (post : Int32 → wS → Prop) (S : wS) (a0 : Nat) (x1 : Int32) : Prop := wp_X5_takes_0 D post S a0 x1
set_option maxHeartbeats 4000000 in
set_option maxRecDepth 100000 in
theorem t_X5_takes_117 {p : Program} {l : Launch} {e : Env} {s : State} {m : MethodId} {args : Array Value} {below : List Frame} {meth : Method} {c : Code} {D : wD} {cy : Nat → ClassId} {X : va_W} {A : Nat → Prop} {S0 : wS} {post : Int32 → wS → Prop} (F : CallFix p m c cX5_takes 2 s args wz_X5_takes RX5) (hr : meth.sig.returnType = (some .boolean)) (hlocks : meth.locks = false) (hK : wK D cy A s) : ∀ {S : wS} {H : Heap} {locs : List Loc} {ls : Array Slot} {t0 : Int32}, wp_X5_takes_117 D post S t0 → wO D cy X A s.heap S H locs → wX D S0 S → lv_has ls 2 [] → W p l e r_X5_takes s m args below meth c H locs 0 0 (MQ below (va_Qi (fun r S9 => wX D S0 S9 ∧ post r S9) (wB D cy X A) A) args s 0 0 A) (F0 m 117 ls [.int t0]) := by
  obtain ⟨hx, hb, hml, hown, hts⟩ := id F
  have hwg : ∀ w ∈ WG, w.before args s = true := fun w h => hts w (List.mem_cons_of_mem _ h)
  intro S H locs ls t0 hp hW hE hl
  unfold wp_X5_takes_117 at hp
  exact w_zret hx hb hr hlocks hW hp.1 ⟨hE, hp.2⟩ dX5_takes_117
set_option maxHeartbeats 4000000 in
set_option maxRecDepth 100000 in
theorem t_X5_takes_92 {p : Program} {l : Launch} {e : Env} {s : State} {m : MethodId} {args : Array Value} {below : List Frame} {meth : Method} {c : Code} {D : wD} {cy : Nat → ClassId} {X : va_W} {A : Nat → Prop} {S0 : wS} {post : Int32 → wS → Prop} (F : CallFix p m c cX5_takes 2 s args wz_X5_takes RX5) (hr : meth.sig.returnType = (some .boolean)) (hlocks : meth.locks = false) (hK : wK D cy A s) : ∀ {S : wS} {H : Heap} {locs : List Loc} {ls : Array Slot} {a0 : Nat} {b0 : Nat} {t1 : Int32}, wp_X5_takes_92 D post S a0 b0 t1 → wO D cy X A s.heap S H locs → wX D S0 S → lv_has ls 2 [(0, .ref a0)] → wM D S a0 → sK S a0 = 10 → wM D S b0 → sK S b0 = 10 → W p l e r_X5_takes s m args below meth c H locs 0 0 (MQ below (va_Qi (fun r S9 => wX D S0 S9 ∧ post r S9) (wB D cy X A) A) args s 0 0 A) (F0 m 92 ls [.int t1, .ref b0]) := by
  obtain ⟨hx, hb, hml, hown, hts⟩ := id F
  have hwg : ∀ w ∈ WG, w.before args s = true := fun w h => hts w (List.mem_cons_of_mem _ h)
  have i_10 : ∀ w ∈ u_ws RX5 TX5 11, w ∈ wz_X5_takes := fun w h => List.mem_cons_of_mem _ (wu_10 w h)
  have k_39 := hwg _ wf_RX5_39
  intro S H locs ls a0 b0 t1 hp hW hE hl hL_a0 hK_a0 hL_b0 hK_b0
  unfold wp_X5_takes_92 at hp
  obtain ⟨h_2, h_2f, hp⟩ := hp
  refine w_putI (k := 10) (f := 10) (T := TX5) F hK hW hL_b0 hK_b0 (by decide) (by decide) rfl rfl (by decide) i_10 tyX5 tyX5_ok nmX5 k_39 rfl rfl (ty := .boolean) rfl h_2 h_2f dX5_takes_92 (fun H locs hW => ?_)
  obtain ⟨S_1, eS_1⟩ : ∃ z : wS, z = uI S b0 10 t1 := ⟨_, rfl⟩
  rw [← eS_1] at hW
  replace hp := hp S_1 eS_1
  have hX_S_1 : wX D S S_1 := by rw [eS_1]; exact wX_uI
  have hE := hE.trans hX_S_1
  have hK_a0 : sK S_1 a0 = 10 := (hX_S_1.2 a0 hL_a0).1.trans hK_a0
  have hL_a0 : wM D S_1 a0 := hX_S_1.M hL_a0
  refine lv_aload_n hx hb dX5_takes_95 rfl (lv_at hl 0 rfl) ?_
  refine w_get (k := 10) (f := 10) (T := TX5) (v := .int (sI S_1 a0 10)) F hK hW hL_a0 hK_a0 (by decide) rfl rfl (by decide) i_10 k_39 rfl dX5_takes_96 ?_
  exact w_zret hx hb hr hlocks hW hp.1 ⟨hE, hp.2⟩ dX5_takes_99
set_option maxHeartbeats 4000000 in
set_option maxRecDepth 100000 in
theorem t_X5_takes_35 {p : Program} {l : Launch} {e : Env} {s : State} {m : MethodId} {args : Array Value} {below : List Frame} {meth : Method} {c : Code} {D : wD} {cy : Nat → ClassId} {X : va_W} {A : Nat → Prop} {S0 : wS} {post : Int32 → wS → Prop} (F : CallFix p m c cX5_takes 2 s args wz_X5_takes RX5) (hr : meth.sig.returnType = (some .boolean)) (hlocks : meth.locks = false) (hK : wK D cy A s) : ∀ {S : wS} {H : Heap} {locs : List Loc} {ls : Array Slot}, wp_X5_takes_35 D post S → wO D cy X A s.heap S H locs → wX D S0 S → lv_has ls 2 [] → W p l e r_X5_takes s m args below meth c H locs 0 0 (MQ below (va_Qi (fun r S9 => wX D S0 S9 ∧ post r S9) (wB D cy X A) A) args s 0 0 A) (F0 m 35 ls []) := by
  obtain ⟨hx, hb, hml, hown, hts⟩ := id F
  have hwg : ∀ w ∈ WG, w.before args s = true := fun w h => hts w (List.mem_cons_of_mem _ h)
  intro S H locs ls hp hW hE hl
  unfold wp_X5_takes_35 at hp
  refine lv_iconst (v := 0) hx hb dX5_takes_35 (by decide) ?_
  exact w_zret hx hb hr hlocks hW hp.1 ⟨hE, hp.2⟩ dX5_takes_36
set_option maxHeartbeats 4000000 in
set_option maxRecDepth 100000 in
theorem t_X5_takes_0 {p : Program} {l : Launch} {e : Env} {s : State} {m : MethodId} {args : Array Value} {below : List Frame} {meth : Method} {c : Code} {D : wD} {cy : Nat → ClassId} {X : va_W} {A : Nat → Prop} {S0 : wS} {post : Int32 → wS → Prop} (F : CallFix p m c cX5_takes 2 s args wz_X5_takes RX5) (hr : meth.sig.returnType = (some .boolean)) (hlocks : meth.locks = false) (hK : wK D cy A s) : ∀ {S : wS} {H : Heap} {locs : List Loc} {ls : Array Slot} {a0 : Nat} {x1 : Int32}, wp_X5_takes_0 D post S a0 x1 → wO D cy X A s.heap S H locs → wX D S0 S → lv_has ls 2 [(0, .ref a0), (1, .int x1)] → wM D S a0 → sK S a0 = 10 → W p l e r_X5_takes s m args below meth c H locs 0 0 (MQ below (va_Qi (fun r S9 => wX D S0 S9 ∧ post r S9) (wB D cy X A) A) args s 0 0 A) (F0 m 0 ls []) := by
  obtain ⟨hx, hb, hml, hown, hts⟩ := id F
  have hwg : ∀ w ∈ WG, w.before args s = true := fun w h => hts w (List.mem_cons_of_mem _ h)
  have i_10 : ∀ w ∈ u_ws RX5 TX5 11, w ∈ wz_X5_takes := fun w h => List.mem_cons_of_mem _ (wu_10 w h)
  have k_18 := hwg _ wf_RX5_18
  have k_25 := hwg _ wf_RX5_25
  have k_35 := hwg _ wf_RX5_35
  have k_39 := hwg _ wf_RX5_39
  intro S H locs ls a0 x1 hp hW hE hl hL_a0 hK_a0
  unfold wp_X5_takes_0 at hp
  refine lv_iload_n hx hb dX5_takes_0 rfl (lv_at hl 1 rfl) ?_
  refine lv_if_ne (tgt := 6) hx hb dX5_takes_1 (by decide) (fun c_1 => ?_) (fun c_1 => ?_)
  · replace hp := hp.1 c_1
    refine lv_aload_n hx hb dX5_takes_6 rfl (lv_at hl 0 rfl) ?_
    refine w_get (k := 10) (f := 9) (T := TX5) (v := .int (sI S a0 9)) F hK hW hL_a0 hK_a0 (by decide) rfl rfl (by decide) i_10 k_35 rfl dX5_takes_7 ?_
    refine lv_if_ne (tgt := 35) hx hb dX5_takes_10 (by decide) (fun c_2 => ?_) (fun c_2 => ?_)
    · replace hp := hp.1 c_2
      exact t_X5_takes_35 F hr hlocks hK hp hW hE (lv_sub hl [] rfl)
    · replace hp := hp.2 c_2
      refine lv_aload_n hx hb dX5_takes_13 rfl (lv_at hl 0 rfl) ?_
      refine w_get (k := 10) (f := 10) (T := TX5) (v := .int (sI S a0 10)) F hK hW hL_a0 hK_a0 (by decide) rfl rfl (by decide) i_10 k_39 rfl dX5_takes_14 ?_
      refine lv_if_ne (tgt := 35) hx hb dX5_takes_17 (by decide) (fun c_3 => ?_) (fun c_3 => ?_)
      · replace hp := hp.1 c_3
        exact t_X5_takes_35 F hr hlocks hK hp hW hE (lv_sub hl [] rfl)
      · replace hp := hp.2 c_3
        refine lv_aload_n hx hb dX5_takes_20 rfl (lv_at hl 0 rfl) ?_
        refine w_get (k := 10) (f := 6) (T := TX5) (v := .int (sI S a0 6)) F hK hW hL_a0 hK_a0 (by decide) rfl rfl (by decide) i_10 k_25 rfl dX5_takes_21 ?_
        refine lv_if_lt (tgt := 35) hx hb dX5_takes_24 (by decide) (fun c_4 => ?_) (fun c_4 => ?_)
        · replace hp := hp.1 c_4
          exact t_X5_takes_35 F hr hlocks hK hp hW hE (lv_sub hl [] rfl)
        · replace hp := hp.2 c_4
          refine lv_aload_n hx hb dX5_takes_27 rfl (lv_at hl 0 rfl) ?_
          refine w_get (k := 10) (f := 6) (T := TX5) (v := .int (sI S a0 6)) F hK hW hL_a0 hK_a0 (by decide) rfl rfl (by decide) i_10 k_25 rfl dX5_takes_28 ?_
          refine lv_iconst (v := 5) hx hb dX5_takes_31 (by decide) ?_
          refine lv_icmp_lt (tgt := 37) hx hb dX5_takes_32 (by decide) (fun c_5 => ?_) (fun c_5 => ?_)
          · replace hp := hp.1 c_5
            refine lv_iload_n hx hb dX5_takes_37 rfl (lv_at hl 1 rfl) ?_
            by_cases c_6 : x1 = 1
            · refine lv_tableIn (tgt := 118) (x := x1) (off := 80) hx hb dX5_takes_38 (by rw [c_6]; decide) (by rw [c_6]; decide) (by rw [c_6]; decide) (by decide) ?_
              replace hp := hp.1 c_6
              refine lv_aload_n hx hb dX5_takes_118 rfl (lv_at hl 0 rfl) ?_
              refine w_callI (va_runV (As := []) (rest := []) F (c_X5_opens l hL_a0 hK_a0 hp H.size) (cwV (C := RX5) 0 hts (wg_V wm_RX5_117 wy_X5_opens) rfl rfl rfl (by decide +kernel) ⟨Nat.le_of_ble_eq_true rfl, Nat.le_of_ble_eq_true rfl⟩) (w_preV hK hW hL_a0 hK_a0 (by decide) rfl) rfl rfl hl.1 rfl (lv_room (Nat.le_of_ble_eq_true rfl)) dX5_takes_119 ⟨Nat.le_of_ble_eq_true rfl, Nat.le_of_ble_eq_true rfl⟩) hW (fun r_7 S_8 H locs hp hW => ?_)
              obtain ⟨hX_S_8, hp⟩ := hp
              refine W.widen (k := 0) (n := 0) (by decide) (by decide) ?_
              have hE := hE.trans hX_S_8
              have hK_a0 : sK S_8 a0 = 10 := (hX_S_8.2 a0 hL_a0).1.trans hK_a0
              have hL_a0 : wM D S_8 a0 := hX_S_8.M hL_a0
              exact w_zret hx hb hr hlocks hW hp.1 ⟨hE, hp.2⟩ dX5_takes_122
            replace hp := hp.2
            by_cases c_9 : x1 = 2
            · refine lv_tableIn (tgt := 123) (x := x1) (off := 85) hx hb dX5_takes_38 (by rw [c_9]; decide) (by rw [c_9]; decide) (by rw [c_9]; decide) (by decide) ?_
              replace hp := hp.1 c_9
              refine lv_aload_n hx hb dX5_takes_123 rfl (lv_at hl 0 rfl) ?_
              refine w_callI (va_runV (As := []) (rest := []) F (c_X5_closes l hL_a0 hK_a0 hp H.size) (cwV (C := RX5) 0 hts (wg_V wm_RX5_121 wy_X5_closes) rfl rfl rfl (by decide +kernel) ⟨Nat.le_of_ble_eq_true rfl, Nat.le_of_ble_eq_true rfl⟩) (w_preV hK hW hL_a0 hK_a0 (by decide) rfl) rfl rfl hl.1 rfl (lv_room (Nat.le_of_ble_eq_true rfl)) dX5_takes_124 ⟨Nat.le_of_ble_eq_true rfl, Nat.le_of_ble_eq_true rfl⟩) hW (fun r_10 S_11 H locs hp hW => ?_)
              obtain ⟨hX_S_11, hp⟩ := hp
              refine W.widen (k := 0) (n := 0) (by decide) (by decide) ?_
              have hE := hE.trans hX_S_11
              have hK_a0 : sK S_11 a0 = 10 := (hX_S_11.2 a0 hL_a0).1.trans hK_a0
              have hL_a0 : wM D S_11 a0 := hX_S_11.M hL_a0
              exact w_zret hx hb hr hlocks hW hp.1 ⟨hE, hp.2⟩ dX5_takes_127
            replace hp := hp.2
            by_cases c_12 : x1 = 3
            · refine lv_tableIn (tgt := 100) (x := x1) (off := 62) hx hb dX5_takes_38 (by rw [c_12]; decide) (by rw [c_12]; decide) (by rw [c_12]; decide) (by decide) ?_
              replace hp := hp.1 c_12
              refine lv_aload_n hx hb dX5_takes_100 rfl (lv_at hl 0 rfl) ?_
              obtain ⟨y_13, ey_13, hL_y_13, hK_y_13, hp⟩ := hp
              refine w_get (k := 10) (f := 4) (T := TX5) (v := .ref y_13) F hK hW hL_a0 hK_a0 (by decide) rfl rfl (by decide) i_10 k_18 (by rw [show wv 10 4 S a0 = va_rf (sR S a0 4) from rfl, ey_13]; rfl) dX5_takes_101 ?_
              refine lv_aload_n hx hb dX5_takes_104 rfl (lv_at hl 0 rfl) ?_
              refine w_get (k := 10) (f := 6) (T := TX5) (v := .int (sI S a0 6)) F hK hW hL_a0 hK_a0 (by decide) rfl rfl (by decide) i_10 k_25 rfl dX5_takes_105 ?_
              obtain ⟨h_14, hp⟩ := hp
              refine w_ild F hK hW hL_y_13 hK_y_13 h_14 dX5_takes_108 ?_
              refine lv_if_le (tgt := 116) hx hb dX5_takes_109 (by decide) (fun c_15 => ?_) (fun c_15 => ?_)
              · replace hp := hp.1 c_15
                refine lv_iconst (v := 0) hx hb dX5_takes_116 (by decide) ?_
                exact t_X5_takes_117 F hr hlocks hK hp hW hE (lv_sub hl [] rfl)
              · replace hp := hp.2 c_15
                refine lv_iconst (v := 1) hx hb dX5_takes_112 (by decide) ?_
                refine lv_goto (tgt := 117) hx hb dX5_takes_113 (by decide) ?_
                exact t_X5_takes_117 F hr hlocks hK hp hW hE (lv_sub hl [] rfl)
            replace hp := hp.2
            by_cases c_16 : x1 = 4
            · refine lv_tableIn (tgt := 72) (x := x1) (off := 34) hx hb dX5_takes_38 (by rw [c_16]; decide) (by rw [c_16]; decide) (by rw [c_16]; decide) (by decide) ?_
              replace hp := hp.1 c_16
              refine lv_aload_n hx hb dX5_takes_72 rfl (lv_at hl 0 rfl) ?_
              refine lv_iconst (v := 1) hx hb dX5_takes_73 (by decide) ?_
              obtain ⟨h_18, h_18f, hp⟩ := hp
              refine w_putI (k := 10) (f := 9) (T := TX5) F hK hW hL_a0 hK_a0 (by decide) (by decide) rfl rfl (by decide) i_10 tyX5 tyX5_ok nmX5 k_35 rfl rfl (ty := .boolean) rfl h_18 h_18f dX5_takes_74 (fun H locs hW => ?_)
              obtain ⟨S_17, eS_17⟩ : ∃ z : wS, z = uI S a0 9 (1 : Int32) := ⟨_, rfl⟩
              rw [← eS_17] at hW
              replace hp := hp S_17 eS_17
              have hX_S_17 : wX D S S_17 := by rw [eS_17]; exact wX_uI
              have hE := hE.trans hX_S_17
              have hK_a0 : sK S_17 a0 = 10 := (hX_S_17.2 a0 hL_a0).1.trans hK_a0
              have hL_a0 : wM D S_17 a0 := hX_S_17.M hL_a0
              refine lv_iconst (v := 1) hx hb dX5_takes_77 (by decide) ?_
              exact w_zret hx hb hr hlocks hW hp.1 ⟨hE, hp.2⟩ dX5_takes_78
            replace hp := hp.2
            by_cases c_19 : x1 = 5
            · refine lv_tableIn (tgt := 79) (x := x1) (off := 41) hx hb dX5_takes_38 (by rw [c_19]; decide) (by rw [c_19]; decide) (by rw [c_19]; decide) (by decide) ?_
              replace hp := hp.1 c_19
              refine lv_aload_n hx hb dX5_takes_79 rfl (lv_at hl 0 rfl) ?_
              refine lv_aload_n hx hb dX5_takes_80 rfl (lv_at hl 0 rfl) ?_
              refine w_get (k := 10) (f := 6) (T := TX5) (v := .int (sI S a0 6)) F hK hW hL_a0 hK_a0 (by decide) rfl rfl (by decide) i_10 k_25 rfl dX5_takes_81 ?_
              refine lv_if_ne (tgt := 91) hx hb dX5_takes_84 (by decide) (fun c_20 => ?_) (fun c_20 => ?_)
              · replace hp := hp.1 c_20
                refine lv_iconst (v := 0) hx hb dX5_takes_91 (by decide) ?_
                exact t_X5_takes_92 F hr hlocks hK hp hW hE (lv_sub hl [0] rfl) hL_a0 hK_a0 hL_a0 hK_a0
              · replace hp := hp.2 c_20
                refine lv_iconst (v := 1) hx hb dX5_takes_87 (by decide) ?_
                refine lv_goto (tgt := 92) hx hb dX5_takes_88 (by decide) ?_
                exact t_X5_takes_92 F hr hlocks hK hp hW hE (lv_sub hl [0] rfl) hL_a0 hK_a0 hL_a0 hK_a0
            replace hp := hp.2
            replace hp := hp c_6 c_9 c_12 c_16 c_19
            refine lv_tableOut (tgt := 128) hx hb dX5_takes_38 (w_out (lo := 1) (hi := 5) (by decide) (by decide) (fun v h1 h2 => by have h3 : v = 1 ∨ v = 2 ∨ v = 3 ∨ v = 4 ∨ v = 5 := (by omega); rcases h3 with rfl | rfl | rfl | rfl | rfl <;> (intro q; first | exact c_6 q | exact c_9 q | exact c_12 q | exact c_16 q | exact c_19 q))) (by decide) ?_
            refine lv_iconst (v := 0) hx hb dX5_takes_128 (by decide) ?_
            exact w_zret hx hb hr hlocks hW hp.1 ⟨hE, hp.2⟩ dX5_takes_129
          · replace hp := hp.2 c_5
            exact t_X5_takes_35 F hr hlocks hK hp hW hE (lv_sub hl [] rfl)
  · replace hp := hp.2 c_1
    refine lv_iconst (v := 1) hx hb dX5_takes_4 (by decide) ?_
    exact w_zret hx hb hr hlocks hW hp.1 ⟨hE, hp.2⟩ dX5_takes_5
set_option maxHeartbeats 4000000 in
set_option maxRecDepth 100000 in
theorem c_X5_takes (l : Launch) {D : wD} {cy : Nat → ClassId} {X : va_W} {S0 : wS} {post : Int32 → wS → Prop} {a0 : Nat} {x1 : Int32} (hL_a0 : wM D S0 a0) (hK_a0 : sK S0 a0 = 10) (hp : wp_X5_takes D post S0 a0 x1) : mI D cy X l yX5_takes wz_X5_takes r_X5_takes [.ref a0, .int x1] S0 (fun r S9 => wX D S0 S9 ∧ post r S9) := by
  intro sz
  refine Met.ofW (cc := cX5_takes) (maxL := 2) (ret := (some .boolean)) (by decide) rfl ?_
  intro p e s m args below meth c s₁ B hml hv
  obtain ⟨rfl, hsz, hP, hK, hD0, hRO⟩ := hv
  have hts := atoms_spec (ws := wz_X5_takes) B.pre
  have hown : s.vm.findClass RX5 = some m.cls := findClass_of_methodNamed B.named
  subst hsz
  have hD := hD0.self (sz := s.heap.size)
  have F : CallFix p m c cX5_takes 2 s _ wz_X5_takes RX5 := ⟨B.exec, B.bytes, hml, hown, hts⟩
  have hr := B.returns
  have hlocks := B.notSynchronized
  generalize hAe : va_A (wL cy X S0) s.heap.size = A at hD hK ⊢
  have hA : ∀ q, s.heap.size ≤ q → A q := fun q h => by rw [← hAe]; exact Or.inr h
  have hW : wO D cy X A s.heap S0 s.heap [] := ⟨hP, hD, va_S.rf, hA, hRO⟩
  have hl := lv_entry ([.ref a0, .int x1]) (n := 2) (Nat.le_of_ble_eq_true rfl)
  rw [lg_entry_eq]
  generalize (lg_sl ([.ref a0, .int x1]) ++ List.replicate (2 - (lg_sl ([.ref a0, .int x1])).length) Slot.unset).toArray = ls at hl ⊢
  have hl : lv_has ls 2 [(0, .ref a0), (1, .int x1)] := hl
  unfold wp_X5_takes at hp
  exact t_X5_takes_0 F hr hlocks hK hp hW wX.rf (lv_sub hl [0, 1] rfl) hL_a0 hK_a0
def wp_X9_canMate_82 (D : wD) (post : Int32 → wS → Prop)  (S : wS) : Prop :=
narrow .boolean (.int (0 : Int32)) = .int (0 : Int32) ∧ post (0 : Int32) S
def wp_X9_canMate_76 (D : wD) (post : Int32 → wS → Prop) (k_15 : wS → Nat → Nat → Int32 → Int32 → Prop) (S : wS) (a0 : Nat) (a1 : Nat) (x2 : Int32) (x3 : Int32) : Prop :=
∀ x_1 : Int32, x_1 = x3 + 1 →
k_15 S a0 a1 x2 x_1
def wp_X9_canMate_15 (D : wD) (post : Int32 → wS → Prop)  : Nat → wS → Nat → Nat → Int32 → Int32 → Prop
  | 0, _, _, _, _, _ => False
  | n + 1, S, a0, a1, x2, x3 =>
    ((x2 ≤ x3 → wp_X9_canMate_82 D post S) ∧
     (¬ x2 ≤ x3 → ∃ y_2 : Nat, sR S a0 3 = some y_2 ∧ wM D S y_2 ∧ sK S y_2 = 21 ∧
    (((Int32.ofNat (sN S y_2)) ≤ x3 → wp_X9_canMate_82 D post S) ∧
     (¬ (Int32.ofNat (sN S y_2)) ≤ x3 → ∃ y_4 : Nat, sR S a0 6 = some y_4 ∧ wM D S y_4 ∧ sK S y_4 = 12 ∧
    wp_X7_copy D (fun S_6 => 
    ∃ y_7 : Nat, sR S_6 a0 6 = some y_7 ∧ wM D S_6 y_7 ∧ sK S_6 y_7 = 12 ∧
    ∃ y_8 : Nat, sR S_6 a0 3 = some y_8 ∧ wM D S_6 y_8 ∧ sK S_6 y_8 = 21 ∧
    vp_in x3 (sN S_6 y_8) ∧
    wp_X7_apply D (fun S_11 => 
    ∃ y_12 : Nat, sR S_11 a0 6 = some y_12 ∧ wM D S_11 y_12 ∧ sK S_11 y_12 = 12 ∧
    wp_X7_isInCheck D (fun r_13 S_14 => 
    ((r_13 = 0 → wp_X9_canMate_76 D post (wp_X9_canMate_15 D post n) S_14 a0 a1 x2 x3) ∧
     (¬ r_13 = 0 → ∃ y_16 : Nat, sR S_14 a0 0 = some y_16 ∧ wM D S_14 y_16 ∧ sK S_14 y_16 = 13 ∧
    ∃ y_17 : Nat, sR S_14 a0 6 = some y_17 ∧ wM D S_14 y_17 ∧ sK S_14 y_17 = 12 ∧
    wp_X8_hasMove D (fun r_18 S_19 => 
    ((¬ r_18 = 0 → wp_X9_canMate_76 D post (wp_X9_canMate_15 D post n) S_19 a0 a1 x2 x3) ∧
     (r_18 = 0 → narrow .boolean (.int (1 : Int32)) = .int (1 : Int32) ∧ post (1 : Int32) S_19))) S_14 y_16 y_17))) S_11 y_12) S_6 y_7 (sI S_6 y_8 (x3).toNatClampNeg)) S y_4 a1))))
def wp_X9_canMate_0 (D : wD) (post : Int32 → wS → Prop)  (S : wS) (a0 : Nat) (a1 : Nat) : Prop :=
∃ y_1 : Nat, sR S a0 0 = some y_1 ∧ wM D S y_1 ∧ sK S y_1 = 13 ∧
∃ y_2 : Nat, sR S a0 3 = some y_2 ∧ wM D S y_2 ∧ sK S y_2 = 21 ∧
wp_X8_generate D (fun r_3 S_4 => 
∃ n_5 : Nat, wp_X9_canMate_15 D post n_5 S_4 a0 a1 r_3 (0 : Int32)) S y_1 a1 y_2
abbrev r_X9_canMate : Room := { frames := 4, cells := 0, slots := 0, locals := 125 }
def wp_X9_canMate (D : wD) (post : Int32 → wS → Prop) (S : wS) (a0 : Nat) (a1 : Nat) : Prop := wp_X9_canMate_0 D post S a0 a1
set_option maxHeartbeats 4000000 in
set_option maxRecDepth 100000 in
theorem t_X9_canMate_82 {p : Program} {l : Launch} {e : Env} {s : State} {m : MethodId} {args : Array Value} {below : List Frame} {meth : Method} {c : Code} {D : wD} {cy : Nat → ClassId} {X : va_W} {A : Nat → Prop} {S0 : wS} {post : Int32 → wS → Prop} (F : CallFix p m c cX9_canMate 4 s args wz_X9_canMate RX9) (hr : meth.sig.returnType = (some .boolean)) (hlocks : meth.locks = false) (hK : wK D cy A s) : ∀ {S : wS} {H : Heap} {locs : List Loc} {ls : Array Slot}, wp_X9_canMate_82 D post S → wO D cy X A s.heap S H locs → wX D S0 S → lv_has ls 4 [] → W p l e r_X9_canMate s m args below meth c H locs 0 0 (MQ below (va_Qi (fun r S9 => wX D S0 S9 ∧ post r S9) (wB D cy X A) A) args s 0 0 A) (F0 m 82 ls []) := by
  obtain ⟨hx, hb, hml, hown, hts⟩ := id F
  have hwg : ∀ w ∈ WG, w.before args s = true := fun w h => hts w (List.mem_cons_of_mem _ h)
  intro S H locs ls hp hW hE hl
  unfold wp_X9_canMate_82 at hp
  refine lv_iconst (v := 0) hx hb dX9_canMate_82 (by decide) ?_
  exact w_zret hx hb hr hlocks hW hp.1 ⟨hE, hp.2⟩ dX9_canMate_83
set_option maxHeartbeats 4000000 in
set_option maxRecDepth 100000 in
theorem t_X9_canMate_76 {p : Program} {l : Launch} {e : Env} {s : State} {m : MethodId} {args : Array Value} {below : List Frame} {meth : Method} {c : Code} {D : wD} {cy : Nat → ClassId} {X : va_W} {A : Nat → Prop} {S0 : wS} {post : Int32 → wS → Prop} (F : CallFix p m c cX9_canMate 4 s args wz_X9_canMate RX9) (hr : meth.sig.returnType = (some .boolean)) (hlocks : meth.locks = false) (hK : wK D cy A s) {k_15 : wS → Nat → Nat → Int32 → Int32 → Prop} (q_15 : ∀ {S : wS} {H : Heap} {locs : List Loc} {ls : Array Slot} {a0 : Nat} {a1 : Nat} {x2 : Int32} {x3 : Int32}, k_15 S a0 a1 x2 x3 → wO D cy X A s.heap S H locs → wX D S0 S → lv_has ls 4 [(0, .ref a0), (1, .ref a1), (2, .int x2), (3, .int x3)] → wM D S a0 → sK S a0 = 14 → wM D S a1 → sK S a1 = 12 → W p l e r_X9_canMate s m args below meth c H locs 0 0 (MQ below (va_Qi (fun r S9 => wX D S0 S9 ∧ post r S9) (wB D cy X A) A) args s 0 0 A) (F0 m 15 ls [])) : ∀ {S : wS} {H : Heap} {locs : List Loc} {ls : Array Slot} {a0 : Nat} {a1 : Nat} {x2 : Int32} {x3 : Int32}, wp_X9_canMate_76 D post k_15 S a0 a1 x2 x3 → wO D cy X A s.heap S H locs → wX D S0 S → lv_has ls 4 [(0, .ref a0), (1, .ref a1), (2, .int x2), (3, .int x3)] → wM D S a0 → sK S a0 = 14 → wM D S a1 → sK S a1 = 12 → W p l e r_X9_canMate s m args below meth c H locs 0 0 (MQ below (va_Qi (fun r S9 => wX D S0 S9 ∧ post r S9) (wB D cy X A) A) args s 0 0 A) (F0 m 76 ls []) := by
  obtain ⟨hx, hb, hml, hown, hts⟩ := id F
  have hwg : ∀ w ∈ WG, w.before args s = true := fun w h => hts w (List.mem_cons_of_mem _ h)
  intro S H locs ls a0 a1 x2 x3 hp hW hE hl hL_a0 hK_a0 hL_a1 hK_a1
  unfold wp_X9_canMate_76 at hp
  obtain ⟨x_1, ex_1⟩ : ∃ z : Int32, z = x3 + 1 := ⟨_, rfl⟩
  replace hp := hp x_1 ex_1
  refine lv_iinc (v := x_1) (lv' := [(3, .int x_1), (0, .ref a0), (1, .ref a1), (2, .int x2)]) hx hb dX9_canMate_76 hl (k := 3) rfl (by rw [ex_1]; rfl) (by decide) rfl (fun ls hl => ?_)
  refine lv_goto (tgt := 15) hx hb dX9_canMate_79 (by decide) ?_
  exact q_15 hp hW hE (lv_sub hl [1, 2, 3, 0] rfl) hL_a0 hK_a0 hL_a1 hK_a1
set_option maxHeartbeats 4000000 in
set_option maxRecDepth 100000 in
theorem t_X9_canMate_15 {p : Program} {l : Launch} {e : Env} {s : State} {m : MethodId} {args : Array Value} {below : List Frame} {meth : Method} {c : Code} {D : wD} {cy : Nat → ClassId} {X : va_W} {A : Nat → Prop} {S0 : wS} {post : Int32 → wS → Prop} (F : CallFix p m c cX9_canMate 4 s args wz_X9_canMate RX9) (hr : meth.sig.returnType = (some .boolean)) (hlocks : meth.locks = false) (hK : wK D cy A s) : ∀ (n : Nat) {S : wS} {H : Heap} {locs : List Loc} {ls : Array Slot} {a0 : Nat} {a1 : Nat} {x2 : Int32} {x3 : Int32}, wp_X9_canMate_15 D post n S a0 a1 x2 x3 → wO D cy X A s.heap S H locs → wX D S0 S → lv_has ls 4 [(0, .ref a0), (1, .ref a1), (2, .int x2), (3, .int x3)] → wM D S a0 → sK S a0 = 14 → wM D S a1 → sK S a1 = 12 → W p l e r_X9_canMate s m args below meth c H locs 0 0 (MQ below (va_Qi (fun r S9 => wX D S0 S9 ∧ post r S9) (wB D cy X A) A) args s 0 0 A) (F0 m 15 ls []) := by
  obtain ⟨hx, hb, hml, hown, hts⟩ := id F
  have hwg : ∀ w ∈ WG, w.before args s = true := fun w h => hts w (List.mem_cons_of_mem _ h)
  have i_14 : ∀ w ∈ u_ws RX9 TX9 10, w ∈ wz_X9_canMate := fun w h => List.mem_cons_of_mem _ (wu_14 w h)
  have k_18 := hwg _ wf_RX9_18
  have k_31 := hwg _ wf_RX9_31
  have k_47 := hwg _ wf_RX9_47
  intro n
  induction n with
  | zero =>
    intro S H locs ls a0 a1 x2 x3 hp
    exact hp.elim
  | succ n ih =>
    intro S H locs ls a0 a1 x2 x3 hp hW hE hl hL_a0 hK_a0 hL_a1 hK_a1
    unfold wp_X9_canMate_15 at hp
    refine lv_iload_n hx hb dX9_canMate_15 rfl (lv_at hl 3 rfl) ?_
    refine lv_iload_n hx hb dX9_canMate_16 rfl (lv_at hl 2 rfl) ?_
    refine lv_icmp_ge (tgt := 82) hx hb dX9_canMate_17 (by decide) (fun c_1 => ?_) (fun c_1 => ?_)
    · replace hp := hp.1 c_1
      exact t_X9_canMate_82 F hr hlocks hK hp hW hE (lv_sub hl [] rfl)
    · replace hp := hp.2 c_1
      refine lv_iload_n hx hb dX9_canMate_20 rfl (lv_at hl 3 rfl) ?_
      refine lv_aload_n hx hb dX9_canMate_21 rfl (lv_at hl 0 rfl) ?_
      obtain ⟨y_2, ey_2, hL_y_2, hK_y_2, hp⟩ := hp
      refine w_get (k := 14) (f := 3) (T := TX9) (v := .ref y_2) F hK hW hL_a0 hK_a0 (by decide) rfl rfl (by decide) i_14 k_18 (by rw [show wv 14 3 S a0 = va_rf (sR S a0 3) from rfl, ey_2]; rfl) dX9_canMate_22 ?_
      refine w_len F hK hW hL_y_2 hK_y_2 (by decide) dX9_canMate_25 ?_
      refine lv_icmp_ge (tgt := 82) hx hb dX9_canMate_26 (by decide) (fun c_3 => ?_) (fun c_3 => ?_)
      · replace hp := hp.1 c_3
        exact t_X9_canMate_82 F hr hlocks hK hp hW hE (lv_sub hl [] rfl)
      · replace hp := hp.2 c_3
        refine lv_aload_n hx hb dX9_canMate_29 rfl (lv_at hl 0 rfl) ?_
        obtain ⟨y_4, ey_4, hL_y_4, hK_y_4, hp⟩ := hp
        refine w_get (k := 14) (f := 6) (T := TX9) (v := .ref y_4) F hK hW hL_a0 hK_a0 (by decide) rfl rfl (by decide) i_14 k_47 (by rw [show wv 14 6 S a0 = va_rf (sR S a0 6) from rfl, ey_4]; rfl) dX9_canMate_30 ?_
        refine lv_aload_n hx hb dX9_canMate_33 rfl (lv_at hl 1 rfl) ?_
        refine w_callV (va_runV (As := [.ref a1]) (rest := []) F (c_X7_copy l hL_y_4 hK_y_4 hL_a1 hK_a1 hp H.size) (cwV (C := RX7) 1 hts (wg_V wm_RX9_66 wy_X7_copy) rfl rfl rfl (by decide +kernel) ⟨Nat.le_of_ble_eq_true rfl, Nat.le_of_ble_eq_true rfl⟩) (w_preV hK hW hL_y_4 hK_y_4 (by decide) rfl) rfl rfl hl.1 rfl (lv_room (Nat.le_of_ble_eq_true rfl)) dX9_canMate_34 ⟨Nat.le_of_ble_eq_true rfl, Nat.le_of_ble_eq_true rfl⟩) hW (fun S_6 H locs hp hW => ?_)
        obtain ⟨hX_S_6, hp⟩ := hp
        refine W.widen (k := 0) (n := 0) (by decide) (by decide) ?_
        have hE := hE.trans hX_S_6
        have hK_a0 : sK S_6 a0 = 14 := (hX_S_6.2 a0 hL_a0).1.trans hK_a0
        have hL_a0 : wM D S_6 a0 := hX_S_6.M hL_a0
        have hK_a1 : sK S_6 a1 = 12 := (hX_S_6.2 a1 hL_a1).1.trans hK_a1
        have hL_a1 : wM D S_6 a1 := hX_S_6.M hL_a1
        refine lv_aload_n hx hb dX9_canMate_37 rfl (lv_at hl 0 rfl) ?_
        obtain ⟨y_7, ey_7, hL_y_7, hK_y_7, hp⟩ := hp
        refine w_get (k := 14) (f := 6) (T := TX9) (v := .ref y_7) F hK hW hL_a0 hK_a0 (by decide) rfl rfl (by decide) i_14 k_47 (by rw [show wv 14 6 S_6 a0 = va_rf (sR S_6 a0 6) from rfl, ey_7]; rfl) dX9_canMate_38 ?_
        refine lv_aload_n hx hb dX9_canMate_41 rfl (lv_at hl 0 rfl) ?_
        obtain ⟨y_8, ey_8, hL_y_8, hK_y_8, hp⟩ := hp
        refine w_get (k := 14) (f := 3) (T := TX9) (v := .ref y_8) F hK hW hL_a0 hK_a0 (by decide) rfl rfl (by decide) i_14 k_18 (by rw [show wv 14 3 S_6 a0 = va_rf (sR S_6 a0 3) from rfl, ey_8]; rfl) dX9_canMate_42 ?_
        refine lv_iload_n hx hb dX9_canMate_45 rfl (lv_at hl 3 rfl) ?_
        obtain ⟨h_9, hp⟩ := hp
        refine w_ild F hK hW hL_y_8 hK_y_8 h_9 dX9_canMate_46 ?_
        refine w_callV (va_runV (As := [.int (sI S_6 y_8 (x3).toNatClampNeg)]) (rest := []) F (c_X7_apply l hL_y_7 hK_y_7 hp H.size) (cwV (C := RX7) 1 hts (wg_V wm_RX9_70 wy_X7_apply) rfl rfl rfl (by decide +kernel) ⟨Nat.le_of_ble_eq_true rfl, Nat.le_of_ble_eq_true rfl⟩) (w_preV hK hW hL_y_7 hK_y_7 (by decide) rfl) rfl rfl hl.1 rfl (lv_room (Nat.le_of_ble_eq_true rfl)) dX9_canMate_47 ⟨Nat.le_of_ble_eq_true rfl, Nat.le_of_ble_eq_true rfl⟩) hW (fun S_11 H locs hp hW => ?_)
        obtain ⟨hX_S_11, hp⟩ := hp
        refine W.widen (k := 0) (n := 0) (by decide) (by decide) ?_
        have hE := hE.trans hX_S_11
        have hK_a0 : sK S_11 a0 = 14 := (hX_S_11.2 a0 hL_a0).1.trans hK_a0
        have hL_a0 : wM D S_11 a0 := hX_S_11.M hL_a0
        have hK_a1 : sK S_11 a1 = 12 := (hX_S_11.2 a1 hL_a1).1.trans hK_a1
        have hL_a1 : wM D S_11 a1 := hX_S_11.M hL_a1
        refine lv_aload_n hx hb dX9_canMate_50 rfl (lv_at hl 0 rfl) ?_
        obtain ⟨y_12, ey_12, hL_y_12, hK_y_12, hp⟩ := hp
        refine w_get (k := 14) (f := 6) (T := TX9) (v := .ref y_12) F hK hW hL_a0 hK_a0 (by decide) rfl rfl (by decide) i_14 k_47 (by rw [show wv 14 6 S_11 a0 = va_rf (sR S_11 a0 6) from rfl, ey_12]; rfl) dX9_canMate_51 ?_
        refine w_callI (va_runV (As := []) (rest := []) F (c_X7_isInCheck l hL_y_12 hK_y_12 hp H.size) (cwV (C := RX7) 0 hts (wg_V wm_RX9_81 wy_X7_isInCheck) rfl rfl rfl (by decide +kernel) ⟨Nat.le_of_ble_eq_true rfl, Nat.le_of_ble_eq_true rfl⟩) (w_preV hK hW hL_y_12 hK_y_12 (by decide) rfl) rfl rfl hl.1 rfl (lv_room (Nat.le_of_ble_eq_true rfl)) dX9_canMate_54 ⟨Nat.le_of_ble_eq_true rfl, Nat.le_of_ble_eq_true rfl⟩) hW (fun r_13 S_14 H locs hp hW => ?_)
        obtain ⟨hX_S_14, hp⟩ := hp
        refine W.widen (k := 0) (n := 0) (by decide) (by decide) ?_
        have hE := hE.trans hX_S_14
        have hK_a0 : sK S_14 a0 = 14 := (hX_S_14.2 a0 hL_a0).1.trans hK_a0
        have hL_a0 : wM D S_14 a0 := hX_S_14.M hL_a0
        have hK_a1 : sK S_14 a1 = 12 := (hX_S_14.2 a1 hL_a1).1.trans hK_a1
        have hL_a1 : wM D S_14 a1 := hX_S_14.M hL_a1
        refine lv_if_eq (tgt := 76) hx hb dX9_canMate_57 (by decide) (fun c_15 => ?_) (fun c_15 => ?_)
        · replace hp := hp.1 c_15
          exact t_X9_canMate_76 F hr hlocks hK ih hp hW hE (lv_sub hl [0, 1, 2, 3] rfl) hL_a0 hK_a0 hL_a1 hK_a1
        · replace hp := hp.2 c_15
          refine lv_aload_n hx hb dX9_canMate_60 rfl (lv_at hl 0 rfl) ?_
          obtain ⟨y_16, ey_16, hL_y_16, hK_y_16, hp⟩ := hp
          refine w_get (k := 14) (f := 0) (T := TX9) (v := .ref y_16) F hK hW hL_a0 hK_a0 (by decide) rfl rfl (by decide) i_14 k_31 (by rw [show wv 14 0 S_14 a0 = va_rf (sR S_14 a0 0) from rfl, ey_16]; rfl) dX9_canMate_61 ?_
          refine lv_aload_n hx hb dX9_canMate_64 rfl (lv_at hl 0 rfl) ?_
          obtain ⟨y_17, ey_17, hL_y_17, hK_y_17, hp⟩ := hp
          refine w_get (k := 14) (f := 6) (T := TX9) (v := .ref y_17) F hK hW hL_a0 hK_a0 (by decide) rfl rfl (by decide) i_14 k_47 (by rw [show wv 14 6 S_14 a0 = va_rf (sR S_14 a0 6) from rfl, ey_17]; rfl) dX9_canMate_65 ?_
          refine w_callI (va_runV (As := [.ref y_17]) (rest := []) F (c_X8_hasMove l hL_y_16 hK_y_16 hL_y_17 hK_y_17 hp H.size) (cwV (C := RX8) 1 hts (wg_V wm_RX9_85 wy_X8_hasMove) rfl rfl rfl (by decide +kernel) ⟨Nat.le_of_ble_eq_true rfl, Nat.le_of_ble_eq_true rfl⟩) (w_preV hK hW hL_y_16 hK_y_16 (by decide) rfl) rfl rfl hl.1 rfl (lv_room (Nat.le_of_ble_eq_true rfl)) dX9_canMate_68 ⟨Nat.le_of_ble_eq_true rfl, Nat.le_of_ble_eq_true rfl⟩) hW (fun r_18 S_19 H locs hp hW => ?_)
          obtain ⟨hX_S_19, hp⟩ := hp
          refine W.widen (k := 0) (n := 0) (by decide) (by decide) ?_
          have hE := hE.trans hX_S_19
          have hK_a0 : sK S_19 a0 = 14 := (hX_S_19.2 a0 hL_a0).1.trans hK_a0
          have hL_a0 : wM D S_19 a0 := hX_S_19.M hL_a0
          have hK_a1 : sK S_19 a1 = 12 := (hX_S_19.2 a1 hL_a1).1.trans hK_a1
          have hL_a1 : wM D S_19 a1 := hX_S_19.M hL_a1
          refine lv_if_ne (tgt := 76) hx hb dX9_canMate_71 (by decide) (fun c_20 => ?_) (fun c_20 => ?_)
          · replace hp := hp.1 c_20
            exact t_X9_canMate_76 F hr hlocks hK ih hp hW hE (lv_sub hl [0, 1, 2, 3] rfl) hL_a0 hK_a0 hL_a1 hK_a1
          · replace hp := hp.2 c_20
            refine lv_iconst (v := 1) hx hb dX9_canMate_74 (by decide) ?_
            exact w_zret hx hb hr hlocks hW hp.1 ⟨hE, hp.2⟩ dX9_canMate_75
set_option maxHeartbeats 4000000 in
set_option maxRecDepth 100000 in
theorem t_X9_canMate_0 {p : Program} {l : Launch} {e : Env} {s : State} {m : MethodId} {args : Array Value} {below : List Frame} {meth : Method} {c : Code} {D : wD} {cy : Nat → ClassId} {X : va_W} {A : Nat → Prop} {S0 : wS} {post : Int32 → wS → Prop} (F : CallFix p m c cX9_canMate 4 s args wz_X9_canMate RX9) (hr : meth.sig.returnType = (some .boolean)) (hlocks : meth.locks = false) (hK : wK D cy A s) : ∀ {S : wS} {H : Heap} {locs : List Loc} {ls : Array Slot} {a0 : Nat} {a1 : Nat}, wp_X9_canMate_0 D post S a0 a1 → wO D cy X A s.heap S H locs → wX D S0 S → lv_has ls 4 [(0, .ref a0), (1, .ref a1)] → wM D S a0 → sK S a0 = 14 → wM D S a1 → sK S a1 = 12 → W p l e r_X9_canMate s m args below meth c H locs 0 0 (MQ below (va_Qi (fun r S9 => wX D S0 S9 ∧ post r S9) (wB D cy X A) A) args s 0 0 A) (F0 m 0 ls []) := by
  obtain ⟨hx, hb, hml, hown, hts⟩ := id F
  have hwg : ∀ w ∈ WG, w.before args s = true := fun w h => hts w (List.mem_cons_of_mem _ h)
  have i_14 : ∀ w ∈ u_ws RX9 TX9 10, w ∈ wz_X9_canMate := fun w h => List.mem_cons_of_mem _ (wu_14 w h)
  have k_18 := hwg _ wf_RX9_18
  have k_31 := hwg _ wf_RX9_31
  intro S H locs ls a0 a1 hp hW hE hl hL_a0 hK_a0 hL_a1 hK_a1
  unfold wp_X9_canMate_0 at hp
  refine lv_aload_n hx hb dX9_canMate_0 rfl (lv_at hl 0 rfl) ?_
  obtain ⟨y_1, ey_1, hL_y_1, hK_y_1, hp⟩ := hp
  refine w_get (k := 14) (f := 0) (T := TX9) (v := .ref y_1) F hK hW hL_a0 hK_a0 (by decide) rfl rfl (by decide) i_14 k_31 (by rw [show wv 14 0 S a0 = va_rf (sR S a0 0) from rfl, ey_1]; rfl) dX9_canMate_1 ?_
  refine lv_aload_n hx hb dX9_canMate_4 rfl (lv_at hl 1 rfl) ?_
  refine lv_aload_n hx hb dX9_canMate_5 rfl (lv_at hl 0 rfl) ?_
  obtain ⟨y_2, ey_2, hL_y_2, hK_y_2, hp⟩ := hp
  refine w_get (k := 14) (f := 3) (T := TX9) (v := .ref y_2) F hK hW hL_a0 hK_a0 (by decide) rfl rfl (by decide) i_14 k_18 (by rw [show wv 14 3 S a0 = va_rf (sR S a0 3) from rfl, ey_2]; rfl) dX9_canMate_6 ?_
  refine w_callI (va_runV (As := [.ref a1, .ref y_2]) (rest := []) F (c_X8_generate l hL_y_1 hK_y_1 hL_a1 hK_a1 hL_y_2 hK_y_2 hp H.size) (cwV (C := RX8) 2 hts (wg_V wm_RX9_62 wy_X8_generate) rfl rfl rfl (by decide +kernel) ⟨Nat.le_of_ble_eq_true rfl, Nat.le_of_ble_eq_true rfl⟩) (w_preV hK hW hL_y_1 hK_y_1 (by decide) rfl) rfl rfl hl.1 rfl (lv_room (Nat.le_of_ble_eq_true rfl)) dX9_canMate_9 ⟨Nat.le_of_ble_eq_true rfl, Nat.le_of_ble_eq_true rfl⟩) hW (fun r_3 S_4 H locs hp hW => ?_)
  obtain ⟨hX_S_4, hp⟩ := hp
  refine W.widen (k := 0) (n := 0) (by decide) (by decide) ?_
  have hE := hE.trans hX_S_4
  have hK_a0 : sK S_4 a0 = 14 := (hX_S_4.2 a0 hL_a0).1.trans hK_a0
  have hL_a0 : wM D S_4 a0 := hX_S_4.M hL_a0
  have hK_a1 : sK S_4 a1 = 12 := (hX_S_4.2 a1 hL_a1).1.trans hK_a1
  have hL_a1 : wM D S_4 a1 := hX_S_4.M hL_a1
  refine lv_istore_n (lv' := [(2, .int r_3), (0, .ref a0), (1, .ref a1)]) hx hb dX9_canMate_12 rfl hl (by decide) rfl (fun ls hl => ?_)
  refine lv_iconst (v := 0) hx hb dX9_canMate_13 (by decide) ?_
  refine lv_istore_n (lv' := [(3, .int (0 : Int32)), (2, .int r_3), (0, .ref a0), (1, .ref a1)]) hx hb dX9_canMate_14 rfl hl (by decide) rfl (fun ls hl => ?_)
  obtain ⟨n_5, hp⟩ := hp
  exact t_X9_canMate_15 F hr hlocks hK n_5 hp hW hE (lv_sub hl [2, 3, 1, 0] rfl) hL_a0 hK_a0 hL_a1 hK_a1
set_option maxHeartbeats 4000000 in
set_option maxRecDepth 100000 in
theorem c_X9_canMate (l : Launch) {D : wD} {cy : Nat → ClassId} {X : va_W} {S0 : wS} {post : Int32 → wS → Prop} {a0 : Nat} {a1 : Nat} (hL_a0 : wM D S0 a0) (hK_a0 : sK S0 a0 = 14) (hL_a1 : wM D S0 a1) (hK_a1 : sK S0 a1 = 12) (hp : wp_X9_canMate D post S0 a0 a1) : mI D cy X l yX9_canMate wz_X9_canMate r_X9_canMate [.ref a0, .ref a1] S0 (fun r S9 => wX D S0 S9 ∧ post r S9) := by
  intro sz
  refine Met.ofW (cc := cX9_canMate) (maxL := 4) (ret := (some .boolean)) (by decide) rfl ?_
  intro p e s m args below meth c s₁ B hml hv
  obtain ⟨rfl, hsz, hP, hK, hD0, hRO⟩ := hv
  have hts := atoms_spec (ws := wz_X9_canMate) B.pre
  have hown : s.vm.findClass RX9 = some m.cls := findClass_of_methodNamed B.named
  subst hsz
  have hD := hD0.self (sz := s.heap.size)
  have F : CallFix p m c cX9_canMate 4 s _ wz_X9_canMate RX9 := ⟨B.exec, B.bytes, hml, hown, hts⟩
  have hr := B.returns
  have hlocks := B.notSynchronized
  generalize hAe : va_A (wL cy X S0) s.heap.size = A at hD hK ⊢
  have hA : ∀ q, s.heap.size ≤ q → A q := fun q h => by rw [← hAe]; exact Or.inr h
  have hW : wO D cy X A s.heap S0 s.heap [] := ⟨hP, hD, va_S.rf, hA, hRO⟩
  have hl := lv_entry ([.ref a0, .ref a1]) (n := 4) (Nat.le_of_ble_eq_true rfl)
  rw [lg_entry_eq]
  generalize (lg_sl ([.ref a0, .ref a1]) ++ List.replicate (4 - (lg_sl ([.ref a0, .ref a1])).length) Slot.unset).toArray = ls at hl ⊢
  have hl : lv_has ls 4 [(0, .ref a0), (1, .ref a1)] := hl
  unfold wp_X9_canMate at hp
  exact t_X9_canMate_0 F hr hlocks hK hp hW wX.rf (lv_sub hl [0, 1] rfl) hL_a0 hK_a0 hL_a1 hK_a1
def wp_X9_isLostInTwo_78 (D : wD) (post : Int32 → wS → Prop)  (S : wS) (t0 : Int32) : Prop :=
narrow .boolean (.int t0) = .int t0 ∧ post t0 S
def wp_X9_isLostInTwo_69 (D : wD) (post : Int32 → wS → Prop)  (S : wS) (x2 : Int32) : Prop :=
((x2 ≤ 0 → wp_X9_isLostInTwo_78 D post S (0 : Int32)) ∧
 (¬ x2 ≤ 0 → wp_X9_isLostInTwo_78 D post S (1 : Int32)))
def wp_X9_isLostInTwo_15 (D : wD) (post : Int32 → wS → Prop)  : Nat → wS → Nat → Nat → Int32 → Int32 → Prop
  | 0, _, _, _, _, _ => False
  | n + 1, S, a0, a1, x2, x3 =>
    ((x2 ≤ x3 → wp_X9_isLostInTwo_69 D post S x2) ∧
     (¬ x2 ≤ x3 → ∃ y_2 : Nat, sR S a0 2 = some y_2 ∧ wM D S y_2 ∧ sK S y_2 = 21 ∧
    (((Int32.ofNat (sN S y_2)) ≤ x3 → wp_X9_isLostInTwo_69 D post S x2) ∧
     (¬ (Int32.ofNat (sN S y_2)) ≤ x3 → ∃ y_4 : Nat, sR S a0 5 = some y_4 ∧ wM D S y_4 ∧ sK S y_4 = 12 ∧
    wp_X7_copy D (fun S_6 => 
    ∃ y_7 : Nat, sR S_6 a0 5 = some y_7 ∧ wM D S_6 y_7 ∧ sK S_6 y_7 = 12 ∧
    ∃ y_8 : Nat, sR S_6 a0 2 = some y_8 ∧ wM D S_6 y_8 ∧ sK S_6 y_8 = 21 ∧
    vp_in x3 (sN S_6 y_8) ∧
    wp_X7_apply D (fun S_11 => 
    ∃ y_12 : Nat, sR S_11 a0 5 = some y_12 ∧ wM D S_11 y_12 ∧ sK S_11 y_12 = 12 ∧
    wp_X9_canMate D (fun r_13 S_14 => 
    ((¬ r_13 = 0 → ∀ x_16 : Int32, x_16 = x3 + 1 →
    wp_X9_isLostInTwo_15 D post n S_14 a0 a1 x2 x_16) ∧
     (r_13 = 0 → narrow .boolean (.int (0 : Int32)) = .int (0 : Int32) ∧ post (0 : Int32) S_14))) S_11 a0 y_12) S_6 y_7 (sI S_6 y_8 (x3).toNatClampNeg)) S y_4 a1))))
def wp_X9_isLostInTwo_0 (D : wD) (post : Int32 → wS → Prop)  (S : wS) (a0 : Nat) (a1 : Nat) : Prop :=
∃ y_1 : Nat, sR S a0 0 = some y_1 ∧ wM D S y_1 ∧ sK S y_1 = 13 ∧
∃ y_2 : Nat, sR S a0 2 = some y_2 ∧ wM D S y_2 ∧ sK S y_2 = 21 ∧
wp_X8_generate D (fun r_3 S_4 => 
∃ n_5 : Nat, wp_X9_isLostInTwo_15 D post n_5 S_4 a0 a1 r_3 (0 : Int32)) S y_1 a1 y_2
abbrev r_X9_isLostInTwo : Room := { frames := 5, cells := 0, slots := 0, locals := 148 }
def wp_X9_isLostInTwo (D : wD) (post : Int32 → wS → Prop) (S : wS) (a0 : Nat) (a1 : Nat) : Prop := wp_X9_isLostInTwo_0 D post S a0 a1
set_option maxHeartbeats 4000000 in
set_option maxRecDepth 100000 in
theorem t_X9_isLostInTwo_78 {p : Program} {l : Launch} {e : Env} {s : State} {m : MethodId} {args : Array Value} {below : List Frame} {meth : Method} {c : Code} {D : wD} {cy : Nat → ClassId} {X : va_W} {A : Nat → Prop} {S0 : wS} {post : Int32 → wS → Prop} (F : CallFix p m c cX9_isLostInTwo 4 s args wz_X9_isLostInTwo RX9) (hr : meth.sig.returnType = (some .boolean)) (hlocks : meth.locks = false) (hK : wK D cy A s) : ∀ {S : wS} {H : Heap} {locs : List Loc} {ls : Array Slot} {t0 : Int32}, wp_X9_isLostInTwo_78 D post S t0 → wO D cy X A s.heap S H locs → wX D S0 S → lv_has ls 4 [] → W p l e r_X9_isLostInTwo s m args below meth c H locs 0 0 (MQ below (va_Qi (fun r S9 => wX D S0 S9 ∧ post r S9) (wB D cy X A) A) args s 0 0 A) (F0 m 78 ls [.int t0]) := by
  obtain ⟨hx, hb, hml, hown, hts⟩ := id F
  have hwg : ∀ w ∈ WG, w.before args s = true := fun w h => hts w (List.mem_cons_of_mem _ h)
  intro S H locs ls t0 hp hW hE hl
  unfold wp_X9_isLostInTwo_78 at hp
  exact w_zret hx hb hr hlocks hW hp.1 ⟨hE, hp.2⟩ dX9_isLostInTwo_78
set_option maxHeartbeats 4000000 in
set_option maxRecDepth 100000 in
theorem t_X9_isLostInTwo_69 {p : Program} {l : Launch} {e : Env} {s : State} {m : MethodId} {args : Array Value} {below : List Frame} {meth : Method} {c : Code} {D : wD} {cy : Nat → ClassId} {X : va_W} {A : Nat → Prop} {S0 : wS} {post : Int32 → wS → Prop} (F : CallFix p m c cX9_isLostInTwo 4 s args wz_X9_isLostInTwo RX9) (hr : meth.sig.returnType = (some .boolean)) (hlocks : meth.locks = false) (hK : wK D cy A s) : ∀ {S : wS} {H : Heap} {locs : List Loc} {ls : Array Slot} {x2 : Int32}, wp_X9_isLostInTwo_69 D post S x2 → wO D cy X A s.heap S H locs → wX D S0 S → lv_has ls 4 [(2, .int x2)] → W p l e r_X9_isLostInTwo s m args below meth c H locs 0 0 (MQ below (va_Qi (fun r S9 => wX D S0 S9 ∧ post r S9) (wB D cy X A) A) args s 0 0 A) (F0 m 69 ls []) := by
  obtain ⟨hx, hb, hml, hown, hts⟩ := id F
  have hwg : ∀ w ∈ WG, w.before args s = true := fun w h => hts w (List.mem_cons_of_mem _ h)
  intro S H locs ls x2 hp hW hE hl
  unfold wp_X9_isLostInTwo_69 at hp
  refine lv_iload_n hx hb dX9_isLostInTwo_69 rfl (lv_at hl 0 rfl) ?_
  refine lv_if_le (tgt := 77) hx hb dX9_isLostInTwo_70 (by decide) (fun c_1 => ?_) (fun c_1 => ?_)
  · replace hp := hp.1 c_1
    refine lv_iconst (v := 0) hx hb dX9_isLostInTwo_77 (by decide) ?_
    exact t_X9_isLostInTwo_78 F hr hlocks hK hp hW hE (lv_sub hl [] rfl)
  · replace hp := hp.2 c_1
    refine lv_iconst (v := 1) hx hb dX9_isLostInTwo_73 (by decide) ?_
    refine lv_goto (tgt := 78) hx hb dX9_isLostInTwo_74 (by decide) ?_
    exact t_X9_isLostInTwo_78 F hr hlocks hK hp hW hE (lv_sub hl [] rfl)
set_option maxHeartbeats 4000000 in
set_option maxRecDepth 100000 in
theorem t_X9_isLostInTwo_15 {p : Program} {l : Launch} {e : Env} {s : State} {m : MethodId} {args : Array Value} {below : List Frame} {meth : Method} {c : Code} {D : wD} {cy : Nat → ClassId} {X : va_W} {A : Nat → Prop} {S0 : wS} {post : Int32 → wS → Prop} (F : CallFix p m c cX9_isLostInTwo 4 s args wz_X9_isLostInTwo RX9) (hr : meth.sig.returnType = (some .boolean)) (hlocks : meth.locks = false) (hK : wK D cy A s) : ∀ (n : Nat) {S : wS} {H : Heap} {locs : List Loc} {ls : Array Slot} {a0 : Nat} {a1 : Nat} {x2 : Int32} {x3 : Int32}, wp_X9_isLostInTwo_15 D post n S a0 a1 x2 x3 → wO D cy X A s.heap S H locs → wX D S0 S → lv_has ls 4 [(0, .ref a0), (1, .ref a1), (2, .int x2), (3, .int x3)] → wM D S a0 → sK S a0 = 14 → wM D S a1 → sK S a1 = 12 → W p l e r_X9_isLostInTwo s m args below meth c H locs 0 0 (MQ below (va_Qi (fun r S9 => wX D S0 S9 ∧ post r S9) (wB D cy X A) A) args s 0 0 A) (F0 m 15 ls []) := by
  obtain ⟨hx, hb, hml, hown, hts⟩ := id F
  have hwg : ∀ w ∈ WG, w.before args s = true := fun w h => hts w (List.mem_cons_of_mem _ h)
  have i_14 : ∀ w ∈ u_ws RX9 TX9 10, w ∈ wz_X9_isLostInTwo := fun w h => List.mem_cons_of_mem _ (wu_14 w h)
  have k_15 := hwg _ wf_RX9_15
  have k_44 := hwg _ wf_RX9_44
  intro n
  induction n with
  | zero =>
    intro S H locs ls a0 a1 x2 x3 hp
    exact hp.elim
  | succ n ih =>
    intro S H locs ls a0 a1 x2 x3 hp hW hE hl hL_a0 hK_a0 hL_a1 hK_a1
    unfold wp_X9_isLostInTwo_15 at hp
    refine lv_iload_n hx hb dX9_isLostInTwo_15 rfl (lv_at hl 3 rfl) ?_
    refine lv_iload_n hx hb dX9_isLostInTwo_16 rfl (lv_at hl 2 rfl) ?_
    refine lv_icmp_ge (tgt := 69) hx hb dX9_isLostInTwo_17 (by decide) (fun c_1 => ?_) (fun c_1 => ?_)
    · replace hp := hp.1 c_1
      exact t_X9_isLostInTwo_69 F hr hlocks hK hp hW hE (lv_sub hl [2] rfl)
    · replace hp := hp.2 c_1
      refine lv_iload_n hx hb dX9_isLostInTwo_20 rfl (lv_at hl 3 rfl) ?_
      refine lv_aload_n hx hb dX9_isLostInTwo_21 rfl (lv_at hl 0 rfl) ?_
      obtain ⟨y_2, ey_2, hL_y_2, hK_y_2, hp⟩ := hp
      refine w_get (k := 14) (f := 2) (T := TX9) (v := .ref y_2) F hK hW hL_a0 hK_a0 (by decide) rfl rfl (by decide) i_14 k_15 (by rw [show wv 14 2 S a0 = va_rf (sR S a0 2) from rfl, ey_2]; rfl) dX9_isLostInTwo_22 ?_
      refine w_len F hK hW hL_y_2 hK_y_2 (by decide) dX9_isLostInTwo_25 ?_
      refine lv_icmp_ge (tgt := 69) hx hb dX9_isLostInTwo_26 (by decide) (fun c_3 => ?_) (fun c_3 => ?_)
      · replace hp := hp.1 c_3
        exact t_X9_isLostInTwo_69 F hr hlocks hK hp hW hE (lv_sub hl [2] rfl)
      · replace hp := hp.2 c_3
        refine lv_aload_n hx hb dX9_isLostInTwo_29 rfl (lv_at hl 0 rfl) ?_
        obtain ⟨y_4, ey_4, hL_y_4, hK_y_4, hp⟩ := hp
        refine w_get (k := 14) (f := 5) (T := TX9) (v := .ref y_4) F hK hW hL_a0 hK_a0 (by decide) rfl rfl (by decide) i_14 k_44 (by rw [show wv 14 5 S a0 = va_rf (sR S a0 5) from rfl, ey_4]; rfl) dX9_isLostInTwo_30 ?_
        refine lv_aload_n hx hb dX9_isLostInTwo_33 rfl (lv_at hl 1 rfl) ?_
        refine w_callV (va_runV (As := [.ref a1]) (rest := []) F (c_X7_copy l hL_y_4 hK_y_4 hL_a1 hK_a1 hp H.size) (cwV (C := RX7) 1 hts (wg_V wm_RX9_66 wy_X7_copy) rfl rfl rfl (by decide +kernel) ⟨Nat.le_of_ble_eq_true rfl, Nat.le_of_ble_eq_true rfl⟩) (w_preV hK hW hL_y_4 hK_y_4 (by decide) rfl) rfl rfl hl.1 rfl (lv_room (Nat.le_of_ble_eq_true rfl)) dX9_isLostInTwo_34 ⟨Nat.le_of_ble_eq_true rfl, Nat.le_of_ble_eq_true rfl⟩) hW (fun S_6 H locs hp hW => ?_)
        obtain ⟨hX_S_6, hp⟩ := hp
        refine W.widen (k := 0) (n := 0) (by decide) (by decide) ?_
        have hE := hE.trans hX_S_6
        have hK_a0 : sK S_6 a0 = 14 := (hX_S_6.2 a0 hL_a0).1.trans hK_a0
        have hL_a0 : wM D S_6 a0 := hX_S_6.M hL_a0
        have hK_a1 : sK S_6 a1 = 12 := (hX_S_6.2 a1 hL_a1).1.trans hK_a1
        have hL_a1 : wM D S_6 a1 := hX_S_6.M hL_a1
        refine lv_aload_n hx hb dX9_isLostInTwo_37 rfl (lv_at hl 0 rfl) ?_
        obtain ⟨y_7, ey_7, hL_y_7, hK_y_7, hp⟩ := hp
        refine w_get (k := 14) (f := 5) (T := TX9) (v := .ref y_7) F hK hW hL_a0 hK_a0 (by decide) rfl rfl (by decide) i_14 k_44 (by rw [show wv 14 5 S_6 a0 = va_rf (sR S_6 a0 5) from rfl, ey_7]; rfl) dX9_isLostInTwo_38 ?_
        refine lv_aload_n hx hb dX9_isLostInTwo_41 rfl (lv_at hl 0 rfl) ?_
        obtain ⟨y_8, ey_8, hL_y_8, hK_y_8, hp⟩ := hp
        refine w_get (k := 14) (f := 2) (T := TX9) (v := .ref y_8) F hK hW hL_a0 hK_a0 (by decide) rfl rfl (by decide) i_14 k_15 (by rw [show wv 14 2 S_6 a0 = va_rf (sR S_6 a0 2) from rfl, ey_8]; rfl) dX9_isLostInTwo_42 ?_
        refine lv_iload_n hx hb dX9_isLostInTwo_45 rfl (lv_at hl 3 rfl) ?_
        obtain ⟨h_9, hp⟩ := hp
        refine w_ild F hK hW hL_y_8 hK_y_8 h_9 dX9_isLostInTwo_46 ?_
        refine w_callV (va_runV (As := [.int (sI S_6 y_8 (x3).toNatClampNeg)]) (rest := []) F (c_X7_apply l hL_y_7 hK_y_7 hp H.size) (cwV (C := RX7) 1 hts (wg_V wm_RX9_70 wy_X7_apply) rfl rfl rfl (by decide +kernel) ⟨Nat.le_of_ble_eq_true rfl, Nat.le_of_ble_eq_true rfl⟩) (w_preV hK hW hL_y_7 hK_y_7 (by decide) rfl) rfl rfl hl.1 rfl (lv_room (Nat.le_of_ble_eq_true rfl)) dX9_isLostInTwo_47 ⟨Nat.le_of_ble_eq_true rfl, Nat.le_of_ble_eq_true rfl⟩) hW (fun S_11 H locs hp hW => ?_)
        obtain ⟨hX_S_11, hp⟩ := hp
        refine W.widen (k := 0) (n := 0) (by decide) (by decide) ?_
        have hE := hE.trans hX_S_11
        have hK_a0 : sK S_11 a0 = 14 := (hX_S_11.2 a0 hL_a0).1.trans hK_a0
        have hL_a0 : wM D S_11 a0 := hX_S_11.M hL_a0
        have hK_a1 : sK S_11 a1 = 12 := (hX_S_11.2 a1 hL_a1).1.trans hK_a1
        have hL_a1 : wM D S_11 a1 := hX_S_11.M hL_a1
        refine lv_aload_n hx hb dX9_isLostInTwo_50 rfl (lv_at hl 0 rfl) ?_
        refine lv_aload_n hx hb dX9_isLostInTwo_51 rfl (lv_at hl 0 rfl) ?_
        obtain ⟨y_12, ey_12, hL_y_12, hK_y_12, hp⟩ := hp
        refine w_get (k := 14) (f := 5) (T := TX9) (v := .ref y_12) F hK hW hL_a0 hK_a0 (by decide) rfl rfl (by decide) i_14 k_44 (by rw [show wv 14 5 S_11 a0 = va_rf (sR S_11 a0 5) from rfl, ey_12]; rfl) dX9_isLostInTwo_52 ?_
        refine w_callI (va_runV (As := [.ref y_12]) (rest := []) F (c_X9_canMate l hL_a0 hK_a0 hL_y_12 hK_y_12 hp H.size) (cwV (C := RX9) 1 hts (wg_V wm_RX9_88 wy_X9_canMate) rfl rfl rfl (by decide +kernel) ⟨Nat.le_of_ble_eq_true rfl, Nat.le_of_ble_eq_true rfl⟩) (w_preV hK hW hL_a0 hK_a0 (by decide) rfl) rfl rfl hl.1 rfl (lv_room (Nat.le_of_ble_eq_true rfl)) dX9_isLostInTwo_55 ⟨Nat.le_of_ble_eq_true rfl, Nat.le_of_ble_eq_true rfl⟩) hW (fun r_13 S_14 H locs hp hW => ?_)
        obtain ⟨hX_S_14, hp⟩ := hp
        refine W.widen (k := 0) (n := 0) (by decide) (by decide) ?_
        have hE := hE.trans hX_S_14
        have hK_a0 : sK S_14 a0 = 14 := (hX_S_14.2 a0 hL_a0).1.trans hK_a0
        have hL_a0 : wM D S_14 a0 := hX_S_14.M hL_a0
        have hK_a1 : sK S_14 a1 = 12 := (hX_S_14.2 a1 hL_a1).1.trans hK_a1
        have hL_a1 : wM D S_14 a1 := hX_S_14.M hL_a1
        refine lv_if_ne (tgt := 63) hx hb dX9_isLostInTwo_58 (by decide) (fun c_15 => ?_) (fun c_15 => ?_)
        · replace hp := hp.1 c_15
          obtain ⟨x_16, ex_16⟩ : ∃ z : Int32, z = x3 + 1 := ⟨_, rfl⟩
          replace hp := hp x_16 ex_16
          refine lv_iinc (v := x_16) (lv' := [(3, .int x_16), (0, .ref a0), (1, .ref a1), (2, .int x2)]) hx hb dX9_isLostInTwo_63 hl (k := 3) rfl (by rw [ex_16]; rfl) (by decide) rfl (fun ls hl => ?_)
          refine lv_goto (tgt := 15) hx hb dX9_isLostInTwo_66 (by decide) ?_
          exact ih hp hW hE (lv_sub hl [1, 2, 3, 0] rfl) hL_a0 hK_a0 hL_a1 hK_a1
        · replace hp := hp.2 c_15
          refine lv_iconst (v := 0) hx hb dX9_isLostInTwo_61 (by decide) ?_
          exact w_zret hx hb hr hlocks hW hp.1 ⟨hE, hp.2⟩ dX9_isLostInTwo_62
set_option maxHeartbeats 4000000 in
set_option maxRecDepth 100000 in
theorem t_X9_isLostInTwo_0 {p : Program} {l : Launch} {e : Env} {s : State} {m : MethodId} {args : Array Value} {below : List Frame} {meth : Method} {c : Code} {D : wD} {cy : Nat → ClassId} {X : va_W} {A : Nat → Prop} {S0 : wS} {post : Int32 → wS → Prop} (F : CallFix p m c cX9_isLostInTwo 4 s args wz_X9_isLostInTwo RX9) (hr : meth.sig.returnType = (some .boolean)) (hlocks : meth.locks = false) (hK : wK D cy A s) : ∀ {S : wS} {H : Heap} {locs : List Loc} {ls : Array Slot} {a0 : Nat} {a1 : Nat}, wp_X9_isLostInTwo_0 D post S a0 a1 → wO D cy X A s.heap S H locs → wX D S0 S → lv_has ls 4 [(0, .ref a0), (1, .ref a1)] → wM D S a0 → sK S a0 = 14 → wM D S a1 → sK S a1 = 12 → W p l e r_X9_isLostInTwo s m args below meth c H locs 0 0 (MQ below (va_Qi (fun r S9 => wX D S0 S9 ∧ post r S9) (wB D cy X A) A) args s 0 0 A) (F0 m 0 ls []) := by
  obtain ⟨hx, hb, hml, hown, hts⟩ := id F
  have hwg : ∀ w ∈ WG, w.before args s = true := fun w h => hts w (List.mem_cons_of_mem _ h)
  have i_14 : ∀ w ∈ u_ws RX9 TX9 10, w ∈ wz_X9_isLostInTwo := fun w h => List.mem_cons_of_mem _ (wu_14 w h)
  have k_15 := hwg _ wf_RX9_15
  have k_31 := hwg _ wf_RX9_31
  intro S H locs ls a0 a1 hp hW hE hl hL_a0 hK_a0 hL_a1 hK_a1
  unfold wp_X9_isLostInTwo_0 at hp
  refine lv_aload_n hx hb dX9_isLostInTwo_0 rfl (lv_at hl 0 rfl) ?_
  obtain ⟨y_1, ey_1, hL_y_1, hK_y_1, hp⟩ := hp
  refine w_get (k := 14) (f := 0) (T := TX9) (v := .ref y_1) F hK hW hL_a0 hK_a0 (by decide) rfl rfl (by decide) i_14 k_31 (by rw [show wv 14 0 S a0 = va_rf (sR S a0 0) from rfl, ey_1]; rfl) dX9_isLostInTwo_1 ?_
  refine lv_aload_n hx hb dX9_isLostInTwo_4 rfl (lv_at hl 1 rfl) ?_
  refine lv_aload_n hx hb dX9_isLostInTwo_5 rfl (lv_at hl 0 rfl) ?_
  obtain ⟨y_2, ey_2, hL_y_2, hK_y_2, hp⟩ := hp
  refine w_get (k := 14) (f := 2) (T := TX9) (v := .ref y_2) F hK hW hL_a0 hK_a0 (by decide) rfl rfl (by decide) i_14 k_15 (by rw [show wv 14 2 S a0 = va_rf (sR S a0 2) from rfl, ey_2]; rfl) dX9_isLostInTwo_6 ?_
  refine w_callI (va_runV (As := [.ref a1, .ref y_2]) (rest := []) F (c_X8_generate l hL_y_1 hK_y_1 hL_a1 hK_a1 hL_y_2 hK_y_2 hp H.size) (cwV (C := RX8) 2 hts (wg_V wm_RX9_62 wy_X8_generate) rfl rfl rfl (by decide +kernel) ⟨Nat.le_of_ble_eq_true rfl, Nat.le_of_ble_eq_true rfl⟩) (w_preV hK hW hL_y_1 hK_y_1 (by decide) rfl) rfl rfl hl.1 rfl (lv_room (Nat.le_of_ble_eq_true rfl)) dX9_isLostInTwo_9 ⟨Nat.le_of_ble_eq_true rfl, Nat.le_of_ble_eq_true rfl⟩) hW (fun r_3 S_4 H locs hp hW => ?_)
  obtain ⟨hX_S_4, hp⟩ := hp
  refine W.widen (k := 0) (n := 0) (by decide) (by decide) ?_
  have hE := hE.trans hX_S_4
  have hK_a0 : sK S_4 a0 = 14 := (hX_S_4.2 a0 hL_a0).1.trans hK_a0
  have hL_a0 : wM D S_4 a0 := hX_S_4.M hL_a0
  have hK_a1 : sK S_4 a1 = 12 := (hX_S_4.2 a1 hL_a1).1.trans hK_a1
  have hL_a1 : wM D S_4 a1 := hX_S_4.M hL_a1
  refine lv_istore_n (lv' := [(2, .int r_3), (0, .ref a0), (1, .ref a1)]) hx hb dX9_isLostInTwo_12 rfl hl (by decide) rfl (fun ls hl => ?_)
  refine lv_iconst (v := 0) hx hb dX9_isLostInTwo_13 (by decide) ?_
  refine lv_istore_n (lv' := [(3, .int (0 : Int32)), (2, .int r_3), (0, .ref a0), (1, .ref a1)]) hx hb dX9_isLostInTwo_14 rfl hl (by decide) rfl (fun ls hl => ?_)
  obtain ⟨n_5, hp⟩ := hp
  exact t_X9_isLostInTwo_15 F hr hlocks hK n_5 hp hW hE (lv_sub hl [2, 3, 1, 0] rfl) hL_a0 hK_a0 hL_a1 hK_a1
set_option maxHeartbeats 4000000 in
set_option maxRecDepth 100000 in
theorem c_X9_isLostInTwo (l : Launch) {D : wD} {cy : Nat → ClassId} {X : va_W} {S0 : wS} {post : Int32 → wS → Prop} {a0 : Nat} {a1 : Nat} (hL_a0 : wM D S0 a0) (hK_a0 : sK S0 a0 = 14) (hL_a1 : wM D S0 a1) (hK_a1 : sK S0 a1 = 12) (hp : wp_X9_isLostInTwo D post S0 a0 a1) : mI D cy X l yX9_isLostInTwo wz_X9_isLostInTwo r_X9_isLostInTwo [.ref a0, .ref a1] S0 (fun r S9 => wX D S0 S9 ∧ post r S9) := by
  intro sz
  refine Met.ofW (cc := cX9_isLostInTwo) (maxL := 4) (ret := (some .boolean)) (by decide) rfl ?_
  intro p e s m args below meth c s₁ B hml hv
  obtain ⟨rfl, hsz, hP, hK, hD0, hRO⟩ := hv
  have hts := atoms_spec (ws := wz_X9_isLostInTwo) B.pre
  have hown : s.vm.findClass RX9 = some m.cls := findClass_of_methodNamed B.named
  subst hsz
  have hD := hD0.self (sz := s.heap.size)
  have F : CallFix p m c cX9_isLostInTwo 4 s _ wz_X9_isLostInTwo RX9 := ⟨B.exec, B.bytes, hml, hown, hts⟩
  have hr := B.returns
  have hlocks := B.notSynchronized
  generalize hAe : va_A (wL cy X S0) s.heap.size = A at hD hK ⊢
  have hA : ∀ q, s.heap.size ≤ q → A q := fun q h => by rw [← hAe]; exact Or.inr h
  have hW : wO D cy X A s.heap S0 s.heap [] := ⟨hP, hD, va_S.rf, hA, hRO⟩
  have hl := lv_entry ([.ref a0, .ref a1]) (n := 4) (Nat.le_of_ble_eq_true rfl)
  rw [lg_entry_eq]
  generalize (lg_sl ([.ref a0, .ref a1]) ++ List.replicate (4 - (lg_sl ([.ref a0, .ref a1])).length) Slot.unset).toArray = ls at hl ⊢
  have hl : lv_has ls 4 [(0, .ref a0), (1, .ref a1)] := hl
  unfold wp_X9_isLostInTwo at hp
  exact t_X9_isLostInTwo_0 F hr hlocks hK hp hW wX.rf (lv_sub hl [0, 1] rfl) hL_a0 hK_a0 hL_a1 hK_a1
def wp_X9_isMate_23 (D : wD) (post : Int32 → wS → Prop)  (S : wS) (t0 : Int32) : Prop :=
narrow .boolean (.int t0) = .int t0 ∧ post t0 S
def wp_X9_isMate_22 (D : wD) (post : Int32 → wS → Prop)  (S : wS) : Prop :=
wp_X9_isMate_23 D post S (0 : Int32)
def wp_X9_isMate_0 (D : wD) (post : Int32 → wS → Prop)  (S : wS) (a0 : Nat) (a1 : Nat) : Prop :=
wp_X7_isInCheck D (fun r_1 S_2 => 
((r_1 = 0 → wp_X9_isMate_22 D post S_2) ∧
 (¬ r_1 = 0 → ∃ y_4 : Nat, sR S_2 a0 0 = some y_4 ∧ wM D S_2 y_4 ∧ sK S_2 y_4 = 13 ∧
wp_X8_hasMove D (fun r_5 S_6 => 
((¬ r_5 = 0 → wp_X9_isMate_22 D post S_6) ∧
 (r_5 = 0 → wp_X9_isMate_23 D post S_6 (1 : Int32)))) S_2 y_4 a1))) S a1
abbrev r_X9_isMate : Room := { frames := 4, cells := 0, slots := 0, locals := 120 }
def wp_X9_isMate (D : wD) (post : Int32 → wS → Prop) (S : wS) (a0 : Nat) (a1 : Nat) : Prop := wp_X9_isMate_0 D post S a0 a1
set_option maxHeartbeats 4000000 in
set_option maxRecDepth 100000 in
theorem t_X9_isMate_23 {p : Program} {l : Launch} {e : Env} {s : State} {m : MethodId} {args : Array Value} {below : List Frame} {meth : Method} {c : Code} {D : wD} {cy : Nat → ClassId} {X : va_W} {A : Nat → Prop} {S0 : wS} {post : Int32 → wS → Prop} (F : CallFix p m c cX9_isMate 2 s args wz_X9_isMate RX9) (hr : meth.sig.returnType = (some .boolean)) (hlocks : meth.locks = false) (hK : wK D cy A s) : ∀ {S : wS} {H : Heap} {locs : List Loc} {ls : Array Slot} {t0 : Int32}, wp_X9_isMate_23 D post S t0 → wO D cy X A s.heap S H locs → wX D S0 S → lv_has ls 2 [] → W p l e r_X9_isMate s m args below meth c H locs 0 0 (MQ below (va_Qi (fun r S9 => wX D S0 S9 ∧ post r S9) (wB D cy X A) A) args s 0 0 A) (F0 m 23 ls [.int t0]) := by
  obtain ⟨hx, hb, hml, hown, hts⟩ := id F
  have hwg : ∀ w ∈ WG, w.before args s = true := fun w h => hts w (List.mem_cons_of_mem _ h)
  intro S H locs ls t0 hp hW hE hl
  unfold wp_X9_isMate_23 at hp
  exact w_zret hx hb hr hlocks hW hp.1 ⟨hE, hp.2⟩ dX9_isMate_23
set_option maxHeartbeats 4000000 in
set_option maxRecDepth 100000 in
theorem t_X9_isMate_22 {p : Program} {l : Launch} {e : Env} {s : State} {m : MethodId} {args : Array Value} {below : List Frame} {meth : Method} {c : Code} {D : wD} {cy : Nat → ClassId} {X : va_W} {A : Nat → Prop} {S0 : wS} {post : Int32 → wS → Prop} (F : CallFix p m c cX9_isMate 2 s args wz_X9_isMate RX9) (hr : meth.sig.returnType = (some .boolean)) (hlocks : meth.locks = false) (hK : wK D cy A s) : ∀ {S : wS} {H : Heap} {locs : List Loc} {ls : Array Slot}, wp_X9_isMate_22 D post S → wO D cy X A s.heap S H locs → wX D S0 S → lv_has ls 2 [] → W p l e r_X9_isMate s m args below meth c H locs 0 0 (MQ below (va_Qi (fun r S9 => wX D S0 S9 ∧ post r S9) (wB D cy X A) A) args s 0 0 A) (F0 m 22 ls []) := by
  obtain ⟨hx, hb, hml, hown, hts⟩ := id F
  have hwg : ∀ w ∈ WG, w.before args s = true := fun w h => hts w (List.mem_cons_of_mem _ h)
  intro S H locs ls hp hW hE hl
  unfold wp_X9_isMate_22 at hp
  refine lv_iconst (v := 0) hx hb dX9_isMate_22 (by decide) ?_
  exact t_X9_isMate_23 F hr hlocks hK hp hW hE (lv_sub hl [] rfl)
set_option maxHeartbeats 4000000 in
set_option maxRecDepth 100000 in
theorem t_X9_isMate_0 {p : Program} {l : Launch} {e : Env} {s : State} {m : MethodId} {args : Array Value} {below : List Frame} {meth : Method} {c : Code} {D : wD} {cy : Nat → ClassId} {X : va_W} {A : Nat → Prop} {S0 : wS} {post : Int32 → wS → Prop} (F : CallFix p m c cX9_isMate 2 s args wz_X9_isMate RX9) (hr : meth.sig.returnType = (some .boolean)) (hlocks : meth.locks = false) (hK : wK D cy A s) : ∀ {S : wS} {H : Heap} {locs : List Loc} {ls : Array Slot} {a0 : Nat} {a1 : Nat}, wp_X9_isMate_0 D post S a0 a1 → wO D cy X A s.heap S H locs → wX D S0 S → lv_has ls 2 [(0, .ref a0), (1, .ref a1)] → wM D S a0 → sK S a0 = 14 → wM D S a1 → sK S a1 = 12 → W p l e r_X9_isMate s m args below meth c H locs 0 0 (MQ below (va_Qi (fun r S9 => wX D S0 S9 ∧ post r S9) (wB D cy X A) A) args s 0 0 A) (F0 m 0 ls []) := by
  obtain ⟨hx, hb, hml, hown, hts⟩ := id F
  have hwg : ∀ w ∈ WG, w.before args s = true := fun w h => hts w (List.mem_cons_of_mem _ h)
  have i_14 : ∀ w ∈ u_ws RX9 TX9 10, w ∈ wz_X9_isMate := fun w h => List.mem_cons_of_mem _ (wu_14 w h)
  have k_31 := hwg _ wf_RX9_31
  intro S H locs ls a0 a1 hp hW hE hl hL_a0 hK_a0 hL_a1 hK_a1
  unfold wp_X9_isMate_0 at hp
  refine lv_aload_n hx hb dX9_isMate_0 rfl (lv_at hl 1 rfl) ?_
  refine w_callI (va_runV (As := []) (rest := []) F (c_X7_isInCheck l hL_a1 hK_a1 hp H.size) (cwV (C := RX7) 0 hts (wg_V wm_RX9_81 wy_X7_isInCheck) rfl rfl rfl (by decide +kernel) ⟨Nat.le_of_ble_eq_true rfl, Nat.le_of_ble_eq_true rfl⟩) (w_preV hK hW hL_a1 hK_a1 (by decide) rfl) rfl rfl hl.1 rfl (lv_room (Nat.le_of_ble_eq_true rfl)) dX9_isMate_1 ⟨Nat.le_of_ble_eq_true rfl, Nat.le_of_ble_eq_true rfl⟩) hW (fun r_1 S_2 H locs hp hW => ?_)
  obtain ⟨hX_S_2, hp⟩ := hp
  refine W.widen (k := 0) (n := 0) (by decide) (by decide) ?_
  have hE := hE.trans hX_S_2
  have hK_a0 : sK S_2 a0 = 14 := (hX_S_2.2 a0 hL_a0).1.trans hK_a0
  have hL_a0 : wM D S_2 a0 := hX_S_2.M hL_a0
  have hK_a1 : sK S_2 a1 = 12 := (hX_S_2.2 a1 hL_a1).1.trans hK_a1
  have hL_a1 : wM D S_2 a1 := hX_S_2.M hL_a1
  refine lv_if_eq (tgt := 22) hx hb dX9_isMate_4 (by decide) (fun c_3 => ?_) (fun c_3 => ?_)
  · replace hp := hp.1 c_3
    exact t_X9_isMate_22 F hr hlocks hK hp hW hE (lv_sub hl [] rfl)
  · replace hp := hp.2 c_3
    refine lv_aload_n hx hb dX9_isMate_7 rfl (lv_at hl 0 rfl) ?_
    obtain ⟨y_4, ey_4, hL_y_4, hK_y_4, hp⟩ := hp
    refine w_get (k := 14) (f := 0) (T := TX9) (v := .ref y_4) F hK hW hL_a0 hK_a0 (by decide) rfl rfl (by decide) i_14 k_31 (by rw [show wv 14 0 S_2 a0 = va_rf (sR S_2 a0 0) from rfl, ey_4]; rfl) dX9_isMate_8 ?_
    refine lv_aload_n hx hb dX9_isMate_11 rfl (lv_at hl 1 rfl) ?_
    refine w_callI (va_runV (As := [.ref a1]) (rest := []) F (c_X8_hasMove l hL_y_4 hK_y_4 hL_a1 hK_a1 hp H.size) (cwV (C := RX8) 1 hts (wg_V wm_RX9_85 wy_X8_hasMove) rfl rfl rfl (by decide +kernel) ⟨Nat.le_of_ble_eq_true rfl, Nat.le_of_ble_eq_true rfl⟩) (w_preV hK hW hL_y_4 hK_y_4 (by decide) rfl) rfl rfl hl.1 rfl (lv_room (Nat.le_of_ble_eq_true rfl)) dX9_isMate_12 ⟨Nat.le_of_ble_eq_true rfl, Nat.le_of_ble_eq_true rfl⟩) hW (fun r_5 S_6 H locs hp hW => ?_)
    obtain ⟨hX_S_6, hp⟩ := hp
    refine W.widen (k := 0) (n := 0) (by decide) (by decide) ?_
    have hE := hE.trans hX_S_6
    have hK_a0 : sK S_6 a0 = 14 := (hX_S_6.2 a0 hL_a0).1.trans hK_a0
    have hL_a0 : wM D S_6 a0 := hX_S_6.M hL_a0
    have hK_a1 : sK S_6 a1 = 12 := (hX_S_6.2 a1 hL_a1).1.trans hK_a1
    have hL_a1 : wM D S_6 a1 := hX_S_6.M hL_a1
    refine lv_if_ne (tgt := 22) hx hb dX9_isMate_15 (by decide) (fun c_7 => ?_) (fun c_7 => ?_)
    · replace hp := hp.1 c_7
      exact t_X9_isMate_22 F hr hlocks hK hp hW hE (lv_sub hl [] rfl)
    · replace hp := hp.2 c_7
      refine lv_iconst (v := 1) hx hb dX9_isMate_18 (by decide) ?_
      refine lv_goto (tgt := 23) hx hb dX9_isMate_19 (by decide) ?_
      exact t_X9_isMate_23 F hr hlocks hK hp hW hE (lv_sub hl [] rfl)
set_option maxHeartbeats 4000000 in
set_option maxRecDepth 100000 in
theorem c_X9_isMate (l : Launch) {D : wD} {cy : Nat → ClassId} {X : va_W} {S0 : wS} {post : Int32 → wS → Prop} {a0 : Nat} {a1 : Nat} (hL_a0 : wM D S0 a0) (hK_a0 : sK S0 a0 = 14) (hL_a1 : wM D S0 a1) (hK_a1 : sK S0 a1 = 12) (hp : wp_X9_isMate D post S0 a0 a1) : mI D cy X l yX9_isMate wz_X9_isMate r_X9_isMate [.ref a0, .ref a1] S0 (fun r S9 => wX D S0 S9 ∧ post r S9) := by
  intro sz
  refine Met.ofW (cc := cX9_isMate) (maxL := 2) (ret := (some .boolean)) (by decide) rfl ?_
  intro p e s m args below meth c s₁ B hml hv
  obtain ⟨rfl, hsz, hP, hK, hD0, hRO⟩ := hv
  have hts := atoms_spec (ws := wz_X9_isMate) B.pre
  have hown : s.vm.findClass RX9 = some m.cls := findClass_of_methodNamed B.named
  subst hsz
  have hD := hD0.self (sz := s.heap.size)
  have F : CallFix p m c cX9_isMate 2 s _ wz_X9_isMate RX9 := ⟨B.exec, B.bytes, hml, hown, hts⟩
  have hr := B.returns
  have hlocks := B.notSynchronized
  generalize hAe : va_A (wL cy X S0) s.heap.size = A at hD hK ⊢
  have hA : ∀ q, s.heap.size ≤ q → A q := fun q h => by rw [← hAe]; exact Or.inr h
  have hW : wO D cy X A s.heap S0 s.heap [] := ⟨hP, hD, va_S.rf, hA, hRO⟩
  have hl := lv_entry ([.ref a0, .ref a1]) (n := 2) (Nat.le_of_ble_eq_true rfl)
  rw [lg_entry_eq]
  generalize (lg_sl ([.ref a0, .ref a1]) ++ List.replicate (2 - (lg_sl ([.ref a0, .ref a1])).length) Slot.unset).toArray = ls at hl ⊢
  have hl : lv_has ls 2 [(0, .ref a0), (1, .ref a1)] := hl
  unfold wp_X9_isMate at hp
  exact t_X9_isMate_0 F hr hlocks hK hp hW wX.rf (lv_sub hl [0, 1] rfl) hL_a0 hK_a0 hL_a1 hK_a1
def wp_X9_findKeys_161 (D : wD) (post : wS → Prop)  (S : wS) : Prop :=
post S
def wp_X9_findKeys_155 (D : wD) (post : wS → Prop) (k_30 : wS → Nat → Nat → Int32 → Int32 → Prop) (S : wS) (a0 : Nat) (a1 : Nat) (x2 : Int32) (x3 : Int32) : Prop :=
∀ x_1 : Int32, x_1 = x3 + 2 →
k_30 S a0 a1 x2 x_1
def wp_X9_findKeys_149 (D : wD) (post : wS → Prop) (k_30 : wS → Nat → Nat → Int32 → Int32 → Prop) (k_45 : wS → Nat → Nat → Int32 → Int32 → Int32 → Prop) (S : wS) (a0 : Nat) (a1 : Nat) (x2 : Int32) (x3 : Int32) (x4 : Int32) : Prop :=
∀ x_1 : Int32, x_1 = x4 + 1 →
k_45 S a0 a1 x2 x3 x_1
def wp_X9_findKeys_136 (D : wD) (post : wS → Prop) (k_30 : wS → Nat → Nat → Int32 → Int32 → Prop) (k_45 : wS → Nat → Nat → Int32 → Int32 → Int32 → Prop) (S : wS) (a0 : Nat) (a1 : Nat) (x2 : Int32) (x3 : Int32) (x4 : Int32) (b0 : Nat) (t1 : Int32) : Prop :=
∀ S_1 : wS, S_1 = uI S b0 9 t1 →
∀ S_2 : wS, S_2 = uI S_1 a0 8 ((sI S_1 a0 8) + (1 : Int32)) →
wp_X9_findKeys_149 D post k_30 k_45 S_2 a0 a1 x2 x3 x4
def wp_X9_findKeys_107 (D : wD) (post : wS → Prop) (k_30 : wS → Nat → Nat → Int32 → Int32 → Prop) (k_45 : wS → Nat → Nat → Int32 → Int32 → Int32 → Prop) (S : wS) (a0 : Nat) (a1 : Nat) (x2 : Int32) (x3 : Int32) (x4 : Int32) (t0 : Int32) : Prop :=
((t0 = 0 → wp_X9_findKeys_149 D post k_30 k_45 S a0 a1 x2 x3 x4) ∧
 (¬ t0 = 0 → ∀ S_2 : wS, S_2 = uI S a0 7 x3 →
((¬ (sI S_2 a0 8) = 0 → wp_X9_findKeys_136 D post k_30 k_45 S_2 a0 a1 x2 x3 x4 a0 (sI S_2 a0 9)) ∧
 ((sI S_2 a0 8) = 0 → wp_X9_findKeys_136 D post k_30 k_45 S_2 a0 a1 x2 x3 x4 a0 x4))))
def wp_X9_findKeys_45 (D : wD) (post : wS → Prop) (k_30 : wS → Nat → Nat → Int32 → Int32 → Prop) : Nat → wS → Nat → Nat → Int32 → Int32 → Int32 → Prop
  | 0, _, _, _, _, _, _ => False
  | n + 1, S, a0, a1, x2, x3, x4 =>
    ((x2 ≤ x4 → wp_X9_findKeys_155 D post k_30 S a0 a1 x2 x3) ∧
     (¬ x2 ≤ x4 → ∃ y_2 : Nat, sR S a0 1 = some y_2 ∧ wM D S y_2 ∧ sK S y_2 = 21 ∧
    (((Int32.ofNat (sN S y_2)) ≤ x4 → wp_X9_findKeys_155 D post k_30 S a0 a1 x2 x3) ∧
     (¬ (Int32.ofNat (sN S y_2)) ≤ x4 → ∃ y_4 : Nat, sR S a0 4 = some y_4 ∧ wM D S y_4 ∧ sK S y_4 = 12 ∧
    wp_X7_copy D (fun S_6 => 
    ∃ y_7 : Nat, sR S_6 a0 4 = some y_7 ∧ wM D S_6 y_7 ∧ sK S_6 y_7 = 12 ∧
    ∃ y_8 : Nat, sR S_6 a0 1 = some y_8 ∧ wM D S_6 y_8 ∧ sK S_6 y_8 = 21 ∧
    vp_in x4 (sN S_6 y_8) ∧
    wp_X7_apply D (fun S_11 => 
    ((¬ x3 = (1 : Int32) → ∃ y_13 : Nat, sR S_11 a0 4 = some y_13 ∧ wM D S_11 y_13 ∧ sK S_11 y_13 = 12 ∧
    wp_X9_isLostInTwo D (fun r_14 S_15 => 
    wp_X9_findKeys_107 D post k_30 (wp_X9_findKeys_45 D post k_30 n) S_15 a0 a1 x2 x3 x4 r_14) S_11 a0 y_13) ∧
     (x3 = (1 : Int32) → ∃ y_16 : Nat, sR S_11 a0 4 = some y_16 ∧ wM D S_11 y_16 ∧ sK S_11 y_16 = 12 ∧
    wp_X9_isMate D (fun r_17 S_18 => 
    wp_X9_findKeys_107 D post k_30 (wp_X9_findKeys_45 D post k_30 n) S_18 a0 a1 x2 x3 x4 r_17) S_11 a0 y_16))) S_6 y_7 (sI S_6 y_8 (x4).toNatClampNeg)) S y_4 a1))))
def wp_X9_findKeys_30 (D : wD) (post : wS → Prop)  : Nat → wS → Nat → Nat → Int32 → Int32 → Prop
  | 0, _, _, _, _, _ => False
  | n + 1, S, a0, a1, x2, x3 =>
    (((3 : Int32) < x3 → wp_X9_findKeys_161 D post S) ∧
     (¬ (3 : Int32) < x3 → ((¬ (sI S a0 8) = 0 → wp_X9_findKeys_161 D post S) ∧
     ((sI S a0 8) = 0 → ∃ n_3 : Nat, wp_X9_findKeys_45 D post (wp_X9_findKeys_30 D post n) n_3 S a0 a1 x2 x3 (0 : Int32)))))
def wp_X9_findKeys_0 (D : wD) (post : wS → Prop)  (S : wS) (a0 : Nat) (a1 : Nat) : Prop :=
∀ S_1 : wS, S_1 = uI S a0 7 (-1 : Int32) →
∀ S_2 : wS, S_2 = uI S_1 a0 8 (0 : Int32) →
∀ S_3 : wS, S_3 = uI S_2 a0 9 (-1 : Int32) →
∃ y_4 : Nat, sR S_3 a0 0 = some y_4 ∧ wM D S_3 y_4 ∧ sK S_3 y_4 = 13 ∧
∃ y_5 : Nat, sR S_3 a0 1 = some y_5 ∧ wM D S_3 y_5 ∧ sK S_3 y_5 = 21 ∧
wp_X8_generate D (fun r_6 S_7 => 
∃ n_8 : Nat, wp_X9_findKeys_30 D post n_8 S_7 a0 a1 r_6 (1 : Int32)) S_3 y_4 a1 y_5
abbrev r_X9_findKeys : Room := { frames := 6, cells := 0, slots := 0, locals := 171 }
def wp_X9_findKeys (D : wD) (post : wS → Prop) (S : wS) (a0 : Nat) (a1 : Nat) : Prop := wp_X9_findKeys_0 D post S a0 a1
set_option maxHeartbeats 4000000 in
set_option maxRecDepth 100000 in
theorem t_X9_findKeys_161 {p : Program} {l : Launch} {e : Env} {s : State} {m : MethodId} {args : Array Value} {below : List Frame} {meth : Method} {c : Code} {D : wD} {cy : Nat → ClassId} {X : va_W} {A : Nat → Prop} {S0 : wS} {post : wS → Prop} (F : CallFix p m c cX9_findKeys 6 s args wz_X9_findKeys RX9) (hr : meth.sig.returnType = none) (hlocks : meth.locks = false) (hK : wK D cy A s) : ∀ {S : wS} {H : Heap} {locs : List Loc} {ls : Array Slot}, wp_X9_findKeys_161 D post S → wO D cy X A s.heap S H locs → wX D S0 S → lv_has ls 6 [] → W p l e r_X9_findKeys s m args below meth c H locs 0 0 (MQ below (va_Qv (fun S9 => wX D S0 S9 ∧ post S9) (wB D cy X A) A) args s 0 0 A) (F0 m 161 ls []) := by
  obtain ⟨hx, hb, hml, hown, hts⟩ := id F
  have hwg : ∀ w ∈ WG, w.before args s = true := fun w h => hts w (List.mem_cons_of_mem _ h)
  intro S H locs ls hp hW hE hl
  unfold wp_X9_findKeys_161 at hp
  exact w_vret hx hb hr hlocks hW ⟨hE, hp⟩ dX9_findKeys_161
set_option maxHeartbeats 4000000 in
set_option maxRecDepth 100000 in
theorem t_X9_findKeys_155 {p : Program} {l : Launch} {e : Env} {s : State} {m : MethodId} {args : Array Value} {below : List Frame} {meth : Method} {c : Code} {D : wD} {cy : Nat → ClassId} {X : va_W} {A : Nat → Prop} {S0 : wS} {post : wS → Prop} (F : CallFix p m c cX9_findKeys 6 s args wz_X9_findKeys RX9) (hr : meth.sig.returnType = none) (hlocks : meth.locks = false) (hK : wK D cy A s) {k_30 : wS → Nat → Nat → Int32 → Int32 → Prop} (q_30 : ∀ {S : wS} {H : Heap} {locs : List Loc} {ls : Array Slot} {a0 : Nat} {a1 : Nat} {x2 : Int32} {x3 : Int32}, k_30 S a0 a1 x2 x3 → wO D cy X A s.heap S H locs → wX D S0 S → lv_has ls 6 [(0, .ref a0), (1, .ref a1), (2, .int x2), (3, .int x3)] → wM D S a0 → sK S a0 = 14 → wM D S a1 → sK S a1 = 12 → W p l e r_X9_findKeys s m args below meth c H locs 0 0 (MQ below (va_Qv (fun S9 => wX D S0 S9 ∧ post S9) (wB D cy X A) A) args s 0 0 A) (F0 m 30 ls [])) : ∀ {S : wS} {H : Heap} {locs : List Loc} {ls : Array Slot} {a0 : Nat} {a1 : Nat} {x2 : Int32} {x3 : Int32}, wp_X9_findKeys_155 D post k_30 S a0 a1 x2 x3 → wO D cy X A s.heap S H locs → wX D S0 S → lv_has ls 6 [(0, .ref a0), (1, .ref a1), (2, .int x2), (3, .int x3)] → wM D S a0 → sK S a0 = 14 → wM D S a1 → sK S a1 = 12 → W p l e r_X9_findKeys s m args below meth c H locs 0 0 (MQ below (va_Qv (fun S9 => wX D S0 S9 ∧ post S9) (wB D cy X A) A) args s 0 0 A) (F0 m 155 ls []) := by
  obtain ⟨hx, hb, hml, hown, hts⟩ := id F
  have hwg : ∀ w ∈ WG, w.before args s = true := fun w h => hts w (List.mem_cons_of_mem _ h)
  intro S H locs ls a0 a1 x2 x3 hp hW hE hl hL_a0 hK_a0 hL_a1 hK_a1
  unfold wp_X9_findKeys_155 at hp
  obtain ⟨x_1, ex_1⟩ : ∃ z : Int32, z = x3 + 2 := ⟨_, rfl⟩
  replace hp := hp x_1 ex_1
  refine lv_iinc (v := x_1) (lv' := [(3, .int x_1), (0, .ref a0), (1, .ref a1), (2, .int x2)]) hx hb dX9_findKeys_155 hl (k := 3) rfl (by rw [ex_1]; rfl) (by decide) rfl (fun ls hl => ?_)
  refine lv_goto (tgt := 30) hx hb dX9_findKeys_158 (by decide) ?_
  exact q_30 hp hW hE (lv_sub hl [1, 2, 3, 0] rfl) hL_a0 hK_a0 hL_a1 hK_a1
set_option maxHeartbeats 4000000 in
set_option maxRecDepth 100000 in
theorem t_X9_findKeys_149 {p : Program} {l : Launch} {e : Env} {s : State} {m : MethodId} {args : Array Value} {below : List Frame} {meth : Method} {c : Code} {D : wD} {cy : Nat → ClassId} {X : va_W} {A : Nat → Prop} {S0 : wS} {post : wS → Prop} (F : CallFix p m c cX9_findKeys 6 s args wz_X9_findKeys RX9) (hr : meth.sig.returnType = none) (hlocks : meth.locks = false) (hK : wK D cy A s) {k_30 : wS → Nat → Nat → Int32 → Int32 → Prop} (q_30 : ∀ {S : wS} {H : Heap} {locs : List Loc} {ls : Array Slot} {a0 : Nat} {a1 : Nat} {x2 : Int32} {x3 : Int32}, k_30 S a0 a1 x2 x3 → wO D cy X A s.heap S H locs → wX D S0 S → lv_has ls 6 [(0, .ref a0), (1, .ref a1), (2, .int x2), (3, .int x3)] → wM D S a0 → sK S a0 = 14 → wM D S a1 → sK S a1 = 12 → W p l e r_X9_findKeys s m args below meth c H locs 0 0 (MQ below (va_Qv (fun S9 => wX D S0 S9 ∧ post S9) (wB D cy X A) A) args s 0 0 A) (F0 m 30 ls [])) {k_45 : wS → Nat → Nat → Int32 → Int32 → Int32 → Prop} (q_45 : ∀ {S : wS} {H : Heap} {locs : List Loc} {ls : Array Slot} {a0 : Nat} {a1 : Nat} {x2 : Int32} {x3 : Int32} {x4 : Int32}, k_45 S a0 a1 x2 x3 x4 → wO D cy X A s.heap S H locs → wX D S0 S → lv_has ls 6 [(0, .ref a0), (1, .ref a1), (2, .int x2), (3, .int x3), (4, .int x4)] → wM D S a0 → sK S a0 = 14 → wM D S a1 → sK S a1 = 12 → W p l e r_X9_findKeys s m args below meth c H locs 0 0 (MQ below (va_Qv (fun S9 => wX D S0 S9 ∧ post S9) (wB D cy X A) A) args s 0 0 A) (F0 m 45 ls [])) : ∀ {S : wS} {H : Heap} {locs : List Loc} {ls : Array Slot} {a0 : Nat} {a1 : Nat} {x2 : Int32} {x3 : Int32} {x4 : Int32}, wp_X9_findKeys_149 D post k_30 k_45 S a0 a1 x2 x3 x4 → wO D cy X A s.heap S H locs → wX D S0 S → lv_has ls 6 [(0, .ref a0), (1, .ref a1), (2, .int x2), (3, .int x3), (4, .int x4)] → wM D S a0 → sK S a0 = 14 → wM D S a1 → sK S a1 = 12 → W p l e r_X9_findKeys s m args below meth c H locs 0 0 (MQ below (va_Qv (fun S9 => wX D S0 S9 ∧ post S9) (wB D cy X A) A) args s 0 0 A) (F0 m 149 ls []) := by
  obtain ⟨hx, hb, hml, hown, hts⟩ := id F
  have hwg : ∀ w ∈ WG, w.before args s = true := fun w h => hts w (List.mem_cons_of_mem _ h)
  intro S H locs ls a0 a1 x2 x3 x4 hp hW hE hl hL_a0 hK_a0 hL_a1 hK_a1
  unfold wp_X9_findKeys_149 at hp
  obtain ⟨x_1, ex_1⟩ : ∃ z : Int32, z = x4 + 1 := ⟨_, rfl⟩
  replace hp := hp x_1 ex_1
  refine lv_iinc (v := x_1) (lv' := [(4, .int x_1), (0, .ref a0), (1, .ref a1), (2, .int x2), (3, .int x3)]) hx hb dX9_findKeys_149 hl (k := 4) rfl (by rw [ex_1]; rfl) (by decide) rfl (fun ls hl => ?_)
  refine lv_goto (tgt := 45) hx hb dX9_findKeys_152 (by decide) ?_
  exact q_45 hp hW hE (lv_sub hl [1, 2, 3, 4, 0] rfl) hL_a0 hK_a0 hL_a1 hK_a1
set_option maxHeartbeats 4000000 in
set_option maxRecDepth 100000 in
theorem t_X9_findKeys_136 {p : Program} {l : Launch} {e : Env} {s : State} {m : MethodId} {args : Array Value} {below : List Frame} {meth : Method} {c : Code} {D : wD} {cy : Nat → ClassId} {X : va_W} {A : Nat → Prop} {S0 : wS} {post : wS → Prop} (F : CallFix p m c cX9_findKeys 6 s args wz_X9_findKeys RX9) (hr : meth.sig.returnType = none) (hlocks : meth.locks = false) (hK : wK D cy A s) {k_30 : wS → Nat → Nat → Int32 → Int32 → Prop} (q_30 : ∀ {S : wS} {H : Heap} {locs : List Loc} {ls : Array Slot} {a0 : Nat} {a1 : Nat} {x2 : Int32} {x3 : Int32}, k_30 S a0 a1 x2 x3 → wO D cy X A s.heap S H locs → wX D S0 S → lv_has ls 6 [(0, .ref a0), (1, .ref a1), (2, .int x2), (3, .int x3)] → wM D S a0 → sK S a0 = 14 → wM D S a1 → sK S a1 = 12 → W p l e r_X9_findKeys s m args below meth c H locs 0 0 (MQ below (va_Qv (fun S9 => wX D S0 S9 ∧ post S9) (wB D cy X A) A) args s 0 0 A) (F0 m 30 ls [])) {k_45 : wS → Nat → Nat → Int32 → Int32 → Int32 → Prop} (q_45 : ∀ {S : wS} {H : Heap} {locs : List Loc} {ls : Array Slot} {a0 : Nat} {a1 : Nat} {x2 : Int32} {x3 : Int32} {x4 : Int32}, k_45 S a0 a1 x2 x3 x4 → wO D cy X A s.heap S H locs → wX D S0 S → lv_has ls 6 [(0, .ref a0), (1, .ref a1), (2, .int x2), (3, .int x3), (4, .int x4)] → wM D S a0 → sK S a0 = 14 → wM D S a1 → sK S a1 = 12 → W p l e r_X9_findKeys s m args below meth c H locs 0 0 (MQ below (va_Qv (fun S9 => wX D S0 S9 ∧ post S9) (wB D cy X A) A) args s 0 0 A) (F0 m 45 ls [])) : ∀ {S : wS} {H : Heap} {locs : List Loc} {ls : Array Slot} {a0 : Nat} {a1 : Nat} {x2 : Int32} {x3 : Int32} {x4 : Int32} {b0 : Nat} {t1 : Int32}, wp_X9_findKeys_136 D post k_30 k_45 S a0 a1 x2 x3 x4 b0 t1 → wO D cy X A s.heap S H locs → wX D S0 S → lv_has ls 6 [(0, .ref a0), (1, .ref a1), (2, .int x2), (3, .int x3), (4, .int x4)] → wM D S a0 → sK S a0 = 14 → wM D S a1 → sK S a1 = 12 → wM D S b0 → sK S b0 = 14 → W p l e r_X9_findKeys s m args below meth c H locs 0 0 (MQ below (va_Qv (fun S9 => wX D S0 S9 ∧ post S9) (wB D cy X A) A) args s 0 0 A) (F0 m 136 ls [.int t1, .ref b0]) := by
  obtain ⟨hx, hb, hml, hown, hts⟩ := id F
  have hwg : ∀ w ∈ WG, w.before args s = true := fun w h => hts w (List.mem_cons_of_mem _ h)
  have i_14 : ∀ w ∈ u_ws RX9 TX9 10, w ∈ wz_X9_findKeys := fun w h => List.mem_cons_of_mem _ (wu_14 w h)
  have k_25 := hwg _ wf_RX9_25
  have k_28 := hwg _ wf_RX9_28
  intro S H locs ls a0 a1 x2 x3 x4 b0 t1 hp hW hE hl hL_a0 hK_a0 hL_a1 hK_a1 hL_b0 hK_b0
  unfold wp_X9_findKeys_136 at hp
  refine w_putI (k := 14) (f := 9) (T := TX9) F hK hW hL_b0 hK_b0 (by decide) (by decide) rfl rfl (by decide) i_14 tyX9 tyX9_ok nmX9 k_28 rfl rfl (ty := .int) rfl rfl rfl dX9_findKeys_136 (fun H locs hW => ?_)
  obtain ⟨S_1, eS_1⟩ : ∃ z : wS, z = uI S b0 9 t1 := ⟨_, rfl⟩
  rw [← eS_1] at hW
  replace hp := hp S_1 eS_1
  have hX_S_1 : wX D S S_1 := by rw [eS_1]; exact wX_uI
  have hE := hE.trans hX_S_1
  have hK_a0 : sK S_1 a0 = 14 := (hX_S_1.2 a0 hL_a0).1.trans hK_a0
  have hL_a0 : wM D S_1 a0 := hX_S_1.M hL_a0
  have hK_a1 : sK S_1 a1 = 12 := (hX_S_1.2 a1 hL_a1).1.trans hK_a1
  have hL_a1 : wM D S_1 a1 := hX_S_1.M hL_a1
  refine lv_aload_n hx hb dX9_findKeys_139 rfl (lv_at hl 0 rfl) ?_
  refine lv_dup hx hb dX9_findKeys_140 rfl ?_
  refine w_get (k := 14) (f := 8) (T := TX9) (v := .int (sI S_1 a0 8)) F hK hW hL_a0 hK_a0 (by decide) rfl rfl (by decide) i_14 k_25 rfl dX9_findKeys_141 ?_
  refine lv_iconst (v := 1) hx hb dX9_findKeys_144 (by decide) ?_
  refine lv_iadd hx hb dX9_findKeys_145 ?_
  refine w_putI (k := 14) (f := 8) (T := TX9) F hK hW hL_a0 hK_a0 (by decide) (by decide) rfl rfl (by decide) i_14 tyX9 tyX9_ok nmX9 k_25 rfl rfl (ty := .int) rfl rfl rfl dX9_findKeys_146 (fun H locs hW => ?_)
  obtain ⟨S_2, eS_2⟩ : ∃ z : wS, z = uI S_1 a0 8 ((sI S_1 a0 8) + (1 : Int32)) := ⟨_, rfl⟩
  rw [← eS_2] at hW
  replace hp := hp S_2 eS_2
  have hX_S_2 : wX D S_1 S_2 := by rw [eS_2]; exact wX_uI
  have hE := hE.trans hX_S_2
  have hK_a0 : sK S_2 a0 = 14 := (hX_S_2.2 a0 hL_a0).1.trans hK_a0
  have hL_a0 : wM D S_2 a0 := hX_S_2.M hL_a0
  have hK_a1 : sK S_2 a1 = 12 := (hX_S_2.2 a1 hL_a1).1.trans hK_a1
  have hL_a1 : wM D S_2 a1 := hX_S_2.M hL_a1
  exact t_X9_findKeys_149 F hr hlocks hK q_30 q_45 hp hW hE (lv_sub hl [0, 1, 2, 3, 4] rfl) hL_a0 hK_a0 hL_a1 hK_a1
set_option maxHeartbeats 4000000 in
set_option maxRecDepth 100000 in
theorem t_X9_findKeys_107 {p : Program} {l : Launch} {e : Env} {s : State} {m : MethodId} {args : Array Value} {below : List Frame} {meth : Method} {c : Code} {D : wD} {cy : Nat → ClassId} {X : va_W} {A : Nat → Prop} {S0 : wS} {post : wS → Prop} (F : CallFix p m c cX9_findKeys 6 s args wz_X9_findKeys RX9) (hr : meth.sig.returnType = none) (hlocks : meth.locks = false) (hK : wK D cy A s) {k_30 : wS → Nat → Nat → Int32 → Int32 → Prop} (q_30 : ∀ {S : wS} {H : Heap} {locs : List Loc} {ls : Array Slot} {a0 : Nat} {a1 : Nat} {x2 : Int32} {x3 : Int32}, k_30 S a0 a1 x2 x3 → wO D cy X A s.heap S H locs → wX D S0 S → lv_has ls 6 [(0, .ref a0), (1, .ref a1), (2, .int x2), (3, .int x3)] → wM D S a0 → sK S a0 = 14 → wM D S a1 → sK S a1 = 12 → W p l e r_X9_findKeys s m args below meth c H locs 0 0 (MQ below (va_Qv (fun S9 => wX D S0 S9 ∧ post S9) (wB D cy X A) A) args s 0 0 A) (F0 m 30 ls [])) {k_45 : wS → Nat → Nat → Int32 → Int32 → Int32 → Prop} (q_45 : ∀ {S : wS} {H : Heap} {locs : List Loc} {ls : Array Slot} {a0 : Nat} {a1 : Nat} {x2 : Int32} {x3 : Int32} {x4 : Int32}, k_45 S a0 a1 x2 x3 x4 → wO D cy X A s.heap S H locs → wX D S0 S → lv_has ls 6 [(0, .ref a0), (1, .ref a1), (2, .int x2), (3, .int x3), (4, .int x4)] → wM D S a0 → sK S a0 = 14 → wM D S a1 → sK S a1 = 12 → W p l e r_X9_findKeys s m args below meth c H locs 0 0 (MQ below (va_Qv (fun S9 => wX D S0 S9 ∧ post S9) (wB D cy X A) A) args s 0 0 A) (F0 m 45 ls [])) : ∀ {S : wS} {H : Heap} {locs : List Loc} {ls : Array Slot} {a0 : Nat} {a1 : Nat} {x2 : Int32} {x3 : Int32} {x4 : Int32} {t0 : Int32}, wp_X9_findKeys_107 D post k_30 k_45 S a0 a1 x2 x3 x4 t0 → wO D cy X A s.heap S H locs → wX D S0 S → lv_has ls 6 [(0, .ref a0), (1, .ref a1), (2, .int x2), (3, .int x3), (4, .int x4)] → wM D S a0 → sK S a0 = 14 → wM D S a1 → sK S a1 = 12 → W p l e r_X9_findKeys s m args below meth c H locs 0 0 (MQ below (va_Qv (fun S9 => wX D S0 S9 ∧ post S9) (wB D cy X A) A) args s 0 0 A) (F0 m 107 ls [.int t0]) := by
  obtain ⟨hx, hb, hml, hown, hts⟩ := id F
  have hwg : ∀ w ∈ WG, w.before args s = true := fun w h => hts w (List.mem_cons_of_mem _ h)
  have i_14 : ∀ w ∈ u_ws RX9 TX9 10, w ∈ wz_X9_findKeys := fun w h => List.mem_cons_of_mem _ (wu_14 w h)
  have k_21 := hwg _ wf_RX9_21
  have k_25 := hwg _ wf_RX9_25
  have k_28 := hwg _ wf_RX9_28
  intro S H locs ls a0 a1 x2 x3 x4 t0 hp hW hE hl hL_a0 hK_a0 hL_a1 hK_a1
  unfold wp_X9_findKeys_107 at hp
  refine lv_istore (lv' := [(5, .int t0), (0, .ref a0), (1, .ref a1), (2, .int x2), (3, .int x3), (4, .int x4)]) hx hb dX9_findKeys_107 hl (by decide) rfl (fun ls hl => ?_)
  refine lv_iload hx hb dX9_findKeys_109 (lv_at hl 0 rfl) ?_
  refine lv_if_eq (tgt := 149) hx hb dX9_findKeys_111 (by decide) (fun c_1 => ?_) (fun c_1 => ?_)
  · replace hp := hp.1 c_1
    exact t_X9_findKeys_149 F hr hlocks hK q_30 q_45 hp hW hE (lv_sub hl [1, 2, 3, 4, 5] rfl) hL_a0 hK_a0 hL_a1 hK_a1
  · replace hp := hp.2 c_1
    refine lv_aload_n hx hb dX9_findKeys_114 rfl (lv_at hl 1 rfl) ?_
    refine lv_iload_n hx hb dX9_findKeys_115 rfl (lv_at hl 4 rfl) ?_
    refine w_putI (k := 14) (f := 7) (T := TX9) F hK hW hL_a0 hK_a0 (by decide) (by decide) rfl rfl (by decide) i_14 tyX9 tyX9_ok nmX9 k_21 rfl rfl (ty := .int) rfl rfl rfl dX9_findKeys_116 (fun H locs hW => ?_)
    obtain ⟨S_2, eS_2⟩ : ∃ z : wS, z = uI S a0 7 x3 := ⟨_, rfl⟩
    rw [← eS_2] at hW
    replace hp := hp S_2 eS_2
    have hX_S_2 : wX D S S_2 := by rw [eS_2]; exact wX_uI
    have hE := hE.trans hX_S_2
    have hK_a0 : sK S_2 a0 = 14 := (hX_S_2.2 a0 hL_a0).1.trans hK_a0
    have hL_a0 : wM D S_2 a0 := hX_S_2.M hL_a0
    have hK_a1 : sK S_2 a1 = 12 := (hX_S_2.2 a1 hL_a1).1.trans hK_a1
    have hL_a1 : wM D S_2 a1 := hX_S_2.M hL_a1
    refine lv_aload_n hx hb dX9_findKeys_119 rfl (lv_at hl 1 rfl) ?_
    refine lv_aload_n hx hb dX9_findKeys_120 rfl (lv_at hl 1 rfl) ?_
    refine w_get (k := 14) (f := 8) (T := TX9) (v := .int (sI S_2 a0 8)) F hK hW hL_a0 hK_a0 (by decide) rfl rfl (by decide) i_14 k_25 rfl dX9_findKeys_121 ?_
    refine lv_if_ne (tgt := 132) hx hb dX9_findKeys_124 (by decide) (fun c_3 => ?_) (fun c_3 => ?_)
    · replace hp := hp.1 c_3
      refine lv_aload_n hx hb dX9_findKeys_132 rfl (lv_at hl 1 rfl) ?_
      refine w_get (k := 14) (f := 9) (T := TX9) (v := .int (sI S_2 a0 9)) F hK hW hL_a0 hK_a0 (by decide) rfl rfl (by decide) i_14 k_28 rfl dX9_findKeys_133 ?_
      exact t_X9_findKeys_136 F hr hlocks hK q_30 q_45 hp hW hE (lv_sub hl [1, 2, 3, 4, 5] rfl) hL_a0 hK_a0 hL_a1 hK_a1 hL_a0 hK_a0
    · replace hp := hp.2 c_3
      refine lv_iload hx hb dX9_findKeys_127 (lv_at hl 5 rfl) ?_
      refine lv_goto (tgt := 136) hx hb dX9_findKeys_129 (by decide) ?_
      exact t_X9_findKeys_136 F hr hlocks hK q_30 q_45 hp hW hE (lv_sub hl [1, 2, 3, 4, 5] rfl) hL_a0 hK_a0 hL_a1 hK_a1 hL_a0 hK_a0
set_option maxHeartbeats 4000000 in
set_option maxRecDepth 100000 in
theorem t_X9_findKeys_45 {p : Program} {l : Launch} {e : Env} {s : State} {m : MethodId} {args : Array Value} {below : List Frame} {meth : Method} {c : Code} {D : wD} {cy : Nat → ClassId} {X : va_W} {A : Nat → Prop} {S0 : wS} {post : wS → Prop} (F : CallFix p m c cX9_findKeys 6 s args wz_X9_findKeys RX9) (hr : meth.sig.returnType = none) (hlocks : meth.locks = false) (hK : wK D cy A s) {k_30 : wS → Nat → Nat → Int32 → Int32 → Prop} (q_30 : ∀ {S : wS} {H : Heap} {locs : List Loc} {ls : Array Slot} {a0 : Nat} {a1 : Nat} {x2 : Int32} {x3 : Int32}, k_30 S a0 a1 x2 x3 → wO D cy X A s.heap S H locs → wX D S0 S → lv_has ls 6 [(0, .ref a0), (1, .ref a1), (2, .int x2), (3, .int x3)] → wM D S a0 → sK S a0 = 14 → wM D S a1 → sK S a1 = 12 → W p l e r_X9_findKeys s m args below meth c H locs 0 0 (MQ below (va_Qv (fun S9 => wX D S0 S9 ∧ post S9) (wB D cy X A) A) args s 0 0 A) (F0 m 30 ls [])) : ∀ (n : Nat) {S : wS} {H : Heap} {locs : List Loc} {ls : Array Slot} {a0 : Nat} {a1 : Nat} {x2 : Int32} {x3 : Int32} {x4 : Int32}, wp_X9_findKeys_45 D post k_30 n S a0 a1 x2 x3 x4 → wO D cy X A s.heap S H locs → wX D S0 S → lv_has ls 6 [(0, .ref a0), (1, .ref a1), (2, .int x2), (3, .int x3), (4, .int x4)] → wM D S a0 → sK S a0 = 14 → wM D S a1 → sK S a1 = 12 → W p l e r_X9_findKeys s m args below meth c H locs 0 0 (MQ below (va_Qv (fun S9 => wX D S0 S9 ∧ post S9) (wB D cy X A) A) args s 0 0 A) (F0 m 45 ls []) := by
  obtain ⟨hx, hb, hml, hown, hts⟩ := id F
  have hwg : ∀ w ∈ WG, w.before args s = true := fun w h => hts w (List.mem_cons_of_mem _ h)
  have i_14 : ∀ w ∈ u_ws RX9 TX9 10, w ∈ wz_X9_findKeys := fun w h => List.mem_cons_of_mem _ (wu_14 w h)
  have k_40 := hwg _ wf_RX9_40
  have k_9 := hwg _ wf_RX9_9
  intro n
  induction n with
  | zero =>
    intro S H locs ls a0 a1 x2 x3 x4 hp
    exact hp.elim
  | succ n ih =>
    intro S H locs ls a0 a1 x2 x3 x4 hp hW hE hl hL_a0 hK_a0 hL_a1 hK_a1
    unfold wp_X9_findKeys_45 at hp
    refine lv_iload hx hb dX9_findKeys_45 (lv_at hl 4 rfl) ?_
    refine lv_iload_n hx hb dX9_findKeys_47 rfl (lv_at hl 2 rfl) ?_
    refine lv_icmp_ge (tgt := 155) hx hb dX9_findKeys_48 (by decide) (fun c_1 => ?_) (fun c_1 => ?_)
    · replace hp := hp.1 c_1
      exact t_X9_findKeys_155 F hr hlocks hK q_30 hp hW hE (lv_sub hl [0, 1, 2, 3] rfl) hL_a0 hK_a0 hL_a1 hK_a1
    · replace hp := hp.2 c_1
      refine lv_iload hx hb dX9_findKeys_51 (lv_at hl 4 rfl) ?_
      refine lv_aload_n hx hb dX9_findKeys_53 rfl (lv_at hl 0 rfl) ?_
      obtain ⟨y_2, ey_2, hL_y_2, hK_y_2, hp⟩ := hp
      refine w_get (k := 14) (f := 1) (T := TX9) (v := .ref y_2) F hK hW hL_a0 hK_a0 (by decide) rfl rfl (by decide) i_14 k_9 (by rw [show wv 14 1 S a0 = va_rf (sR S a0 1) from rfl, ey_2]; rfl) dX9_findKeys_54 ?_
      refine w_len F hK hW hL_y_2 hK_y_2 (by decide) dX9_findKeys_57 ?_
      refine lv_icmp_ge (tgt := 155) hx hb dX9_findKeys_58 (by decide) (fun c_3 => ?_) (fun c_3 => ?_)
      · replace hp := hp.1 c_3
        exact t_X9_findKeys_155 F hr hlocks hK q_30 hp hW hE (lv_sub hl [0, 1, 2, 3] rfl) hL_a0 hK_a0 hL_a1 hK_a1
      · replace hp := hp.2 c_3
        refine lv_aload_n hx hb dX9_findKeys_61 rfl (lv_at hl 0 rfl) ?_
        obtain ⟨y_4, ey_4, hL_y_4, hK_y_4, hp⟩ := hp
        refine w_get (k := 14) (f := 4) (T := TX9) (v := .ref y_4) F hK hW hL_a0 hK_a0 (by decide) rfl rfl (by decide) i_14 k_40 (by rw [show wv 14 4 S a0 = va_rf (sR S a0 4) from rfl, ey_4]; rfl) dX9_findKeys_62 ?_
        refine lv_aload_n hx hb dX9_findKeys_65 rfl (lv_at hl 1 rfl) ?_
        refine w_callV (va_runV (As := [.ref a1]) (rest := []) F (c_X7_copy l hL_y_4 hK_y_4 hL_a1 hK_a1 hp H.size) (cwV (C := RX7) 1 hts (wg_V wm_RX9_66 wy_X7_copy) rfl rfl rfl (by decide +kernel) ⟨Nat.le_of_ble_eq_true rfl, Nat.le_of_ble_eq_true rfl⟩) (w_preV hK hW hL_y_4 hK_y_4 (by decide) rfl) rfl rfl hl.1 rfl (lv_room (Nat.le_of_ble_eq_true rfl)) dX9_findKeys_66 ⟨Nat.le_of_ble_eq_true rfl, Nat.le_of_ble_eq_true rfl⟩) hW (fun S_6 H locs hp hW => ?_)
        obtain ⟨hX_S_6, hp⟩ := hp
        refine W.widen (k := 0) (n := 0) (by decide) (by decide) ?_
        have hE := hE.trans hX_S_6
        have hK_a0 : sK S_6 a0 = 14 := (hX_S_6.2 a0 hL_a0).1.trans hK_a0
        have hL_a0 : wM D S_6 a0 := hX_S_6.M hL_a0
        have hK_a1 : sK S_6 a1 = 12 := (hX_S_6.2 a1 hL_a1).1.trans hK_a1
        have hL_a1 : wM D S_6 a1 := hX_S_6.M hL_a1
        refine lv_aload_n hx hb dX9_findKeys_69 rfl (lv_at hl 0 rfl) ?_
        obtain ⟨y_7, ey_7, hL_y_7, hK_y_7, hp⟩ := hp
        refine w_get (k := 14) (f := 4) (T := TX9) (v := .ref y_7) F hK hW hL_a0 hK_a0 (by decide) rfl rfl (by decide) i_14 k_40 (by rw [show wv 14 4 S_6 a0 = va_rf (sR S_6 a0 4) from rfl, ey_7]; rfl) dX9_findKeys_70 ?_
        refine lv_aload_n hx hb dX9_findKeys_73 rfl (lv_at hl 0 rfl) ?_
        obtain ⟨y_8, ey_8, hL_y_8, hK_y_8, hp⟩ := hp
        refine w_get (k := 14) (f := 1) (T := TX9) (v := .ref y_8) F hK hW hL_a0 hK_a0 (by decide) rfl rfl (by decide) i_14 k_9 (by rw [show wv 14 1 S_6 a0 = va_rf (sR S_6 a0 1) from rfl, ey_8]; rfl) dX9_findKeys_74 ?_
        refine lv_iload hx hb dX9_findKeys_77 (lv_at hl 4 rfl) ?_
        obtain ⟨h_9, hp⟩ := hp
        refine w_ild F hK hW hL_y_8 hK_y_8 h_9 dX9_findKeys_79 ?_
        refine w_callV (va_runV (As := [.int (sI S_6 y_8 (x4).toNatClampNeg)]) (rest := []) F (c_X7_apply l hL_y_7 hK_y_7 hp H.size) (cwV (C := RX7) 1 hts (wg_V wm_RX9_70 wy_X7_apply) rfl rfl rfl (by decide +kernel) ⟨Nat.le_of_ble_eq_true rfl, Nat.le_of_ble_eq_true rfl⟩) (w_preV hK hW hL_y_7 hK_y_7 (by decide) rfl) rfl rfl hl.1 rfl (lv_room (Nat.le_of_ble_eq_true rfl)) dX9_findKeys_80 ⟨Nat.le_of_ble_eq_true rfl, Nat.le_of_ble_eq_true rfl⟩) hW (fun S_11 H locs hp hW => ?_)
        obtain ⟨hX_S_11, hp⟩ := hp
        refine W.widen (k := 0) (n := 0) (by decide) (by decide) ?_
        have hE := hE.trans hX_S_11
        have hK_a0 : sK S_11 a0 = 14 := (hX_S_11.2 a0 hL_a0).1.trans hK_a0
        have hL_a0 : wM D S_11 a0 := hX_S_11.M hL_a0
        have hK_a1 : sK S_11 a1 = 12 := (hX_S_11.2 a1 hL_a1).1.trans hK_a1
        have hL_a1 : wM D S_11 a1 := hX_S_11.M hL_a1
        refine lv_iload_n hx hb dX9_findKeys_83 rfl (lv_at hl 3 rfl) ?_
        refine lv_iconst (v := 1) hx hb dX9_findKeys_84 (by decide) ?_
        refine lv_icmp_ne (tgt := 99) hx hb dX9_findKeys_85 (by decide) (fun c_12 => ?_) (fun c_12 => ?_)
        · replace hp := hp.1 c_12
          refine lv_aload_n hx hb dX9_findKeys_99 rfl (lv_at hl 0 rfl) ?_
          refine lv_aload_n hx hb dX9_findKeys_100 rfl (lv_at hl 0 rfl) ?_
          obtain ⟨y_13, ey_13, hL_y_13, hK_y_13, hp⟩ := hp
          refine w_get (k := 14) (f := 4) (T := TX9) (v := .ref y_13) F hK hW hL_a0 hK_a0 (by decide) rfl rfl (by decide) i_14 k_40 (by rw [show wv 14 4 S_11 a0 = va_rf (sR S_11 a0 4) from rfl, ey_13]; rfl) dX9_findKeys_101 ?_
          refine w_callI (va_runV (As := [.ref y_13]) (rest := []) F (c_X9_isLostInTwo l hL_a0 hK_a0 hL_y_13 hK_y_13 hp H.size) (cwV (C := RX9) 1 hts (wg_V wm_RX9_78 wy_X9_isLostInTwo) rfl rfl rfl (by decide +kernel) ⟨Nat.le_of_ble_eq_true rfl, Nat.le_of_ble_eq_true rfl⟩) (w_preV hK hW hL_a0 hK_a0 (by decide) rfl) rfl rfl hl.1 rfl (lv_room (Nat.le_of_ble_eq_true rfl)) dX9_findKeys_104 ⟨Nat.le_of_ble_eq_true rfl, Nat.le_of_ble_eq_true rfl⟩) hW (fun r_14 S_15 H locs hp hW => ?_)
          obtain ⟨hX_S_15, hp⟩ := hp
          refine W.widen (k := 0) (n := 0) (by decide) (by decide) ?_
          have hE := hE.trans hX_S_15
          have hK_a0 : sK S_15 a0 = 14 := (hX_S_15.2 a0 hL_a0).1.trans hK_a0
          have hL_a0 : wM D S_15 a0 := hX_S_15.M hL_a0
          have hK_a1 : sK S_15 a1 = 12 := (hX_S_15.2 a1 hL_a1).1.trans hK_a1
          have hL_a1 : wM D S_15 a1 := hX_S_15.M hL_a1
          exact t_X9_findKeys_107 F hr hlocks hK q_30 ih hp hW hE (lv_sub hl [0, 1, 2, 3, 4] rfl) hL_a0 hK_a0 hL_a1 hK_a1
        · replace hp := hp.2 c_12
          refine lv_aload_n hx hb dX9_findKeys_88 rfl (lv_at hl 0 rfl) ?_
          refine lv_aload_n hx hb dX9_findKeys_89 rfl (lv_at hl 0 rfl) ?_
          obtain ⟨y_16, ey_16, hL_y_16, hK_y_16, hp⟩ := hp
          refine w_get (k := 14) (f := 4) (T := TX9) (v := .ref y_16) F hK hW hL_a0 hK_a0 (by decide) rfl rfl (by decide) i_14 k_40 (by rw [show wv 14 4 S_11 a0 = va_rf (sR S_11 a0 4) from rfl, ey_16]; rfl) dX9_findKeys_90 ?_
          refine w_callI (va_runV (As := [.ref y_16]) (rest := []) F (c_X9_isMate l hL_a0 hK_a0 hL_y_16 hK_y_16 hp H.size) (cwV (C := RX9) 1 hts (wg_V wm_RX9_74 wy_X9_isMate) rfl rfl rfl (by decide +kernel) ⟨Nat.le_of_ble_eq_true rfl, Nat.le_of_ble_eq_true rfl⟩) (w_preV hK hW hL_a0 hK_a0 (by decide) rfl) rfl rfl hl.1 rfl (lv_room (Nat.le_of_ble_eq_true rfl)) dX9_findKeys_93 ⟨Nat.le_of_ble_eq_true rfl, Nat.le_of_ble_eq_true rfl⟩) hW (fun r_17 S_18 H locs hp hW => ?_)
          obtain ⟨hX_S_18, hp⟩ := hp
          refine W.widen (k := 0) (n := 0) (by decide) (by decide) ?_
          have hE := hE.trans hX_S_18
          have hK_a0 : sK S_18 a0 = 14 := (hX_S_18.2 a0 hL_a0).1.trans hK_a0
          have hL_a0 : wM D S_18 a0 := hX_S_18.M hL_a0
          have hK_a1 : sK S_18 a1 = 12 := (hX_S_18.2 a1 hL_a1).1.trans hK_a1
          have hL_a1 : wM D S_18 a1 := hX_S_18.M hL_a1
          refine lv_goto (tgt := 107) hx hb dX9_findKeys_96 (by decide) ?_
          exact t_X9_findKeys_107 F hr hlocks hK q_30 ih hp hW hE (lv_sub hl [0, 1, 2, 3, 4] rfl) hL_a0 hK_a0 hL_a1 hK_a1
set_option maxHeartbeats 4000000 in
set_option maxRecDepth 100000 in
theorem t_X9_findKeys_30 {p : Program} {l : Launch} {e : Env} {s : State} {m : MethodId} {args : Array Value} {below : List Frame} {meth : Method} {c : Code} {D : wD} {cy : Nat → ClassId} {X : va_W} {A : Nat → Prop} {S0 : wS} {post : wS → Prop} (F : CallFix p m c cX9_findKeys 6 s args wz_X9_findKeys RX9) (hr : meth.sig.returnType = none) (hlocks : meth.locks = false) (hK : wK D cy A s) : ∀ (n : Nat) {S : wS} {H : Heap} {locs : List Loc} {ls : Array Slot} {a0 : Nat} {a1 : Nat} {x2 : Int32} {x3 : Int32}, wp_X9_findKeys_30 D post n S a0 a1 x2 x3 → wO D cy X A s.heap S H locs → wX D S0 S → lv_has ls 6 [(0, .ref a0), (1, .ref a1), (2, .int x2), (3, .int x3)] → wM D S a0 → sK S a0 = 14 → wM D S a1 → sK S a1 = 12 → W p l e r_X9_findKeys s m args below meth c H locs 0 0 (MQ below (va_Qv (fun S9 => wX D S0 S9 ∧ post S9) (wB D cy X A) A) args s 0 0 A) (F0 m 30 ls []) := by
  obtain ⟨hx, hb, hml, hown, hts⟩ := id F
  have hwg : ∀ w ∈ WG, w.before args s = true := fun w h => hts w (List.mem_cons_of_mem _ h)
  have i_14 : ∀ w ∈ u_ws RX9 TX9 10, w ∈ wz_X9_findKeys := fun w h => List.mem_cons_of_mem _ (wu_14 w h)
  have k_25 := hwg _ wf_RX9_25
  intro n
  induction n with
  | zero =>
    intro S H locs ls a0 a1 x2 x3 hp
    exact hp.elim
  | succ n ih =>
    intro S H locs ls a0 a1 x2 x3 hp hW hE hl hL_a0 hK_a0 hL_a1 hK_a1
    unfold wp_X9_findKeys_30 at hp
    refine lv_iload_n hx hb dX9_findKeys_30 rfl (lv_at hl 3 rfl) ?_
    refine lv_iconst (v := 3) hx hb dX9_findKeys_31 (by decide) ?_
    refine lv_icmp_gt (tgt := 161) hx hb dX9_findKeys_32 (by decide) (fun c_1 => ?_) (fun c_1 => ?_)
    · replace hp := hp.1 c_1
      exact t_X9_findKeys_161 F hr hlocks hK hp hW hE (lv_sub hl [] rfl)
    · replace hp := hp.2 c_1
      refine lv_aload_n hx hb dX9_findKeys_35 rfl (lv_at hl 0 rfl) ?_
      refine w_get (k := 14) (f := 8) (T := TX9) (v := .int (sI S a0 8)) F hK hW hL_a0 hK_a0 (by decide) rfl rfl (by decide) i_14 k_25 rfl dX9_findKeys_36 ?_
      refine lv_if_ne (tgt := 161) hx hb dX9_findKeys_39 (by decide) (fun c_2 => ?_) (fun c_2 => ?_)
      · replace hp := hp.1 c_2
        exact t_X9_findKeys_161 F hr hlocks hK hp hW hE (lv_sub hl [] rfl)
      · replace hp := hp.2 c_2
        refine lv_iconst (v := 0) hx hb dX9_findKeys_42 (by decide) ?_
        refine lv_istore (lv' := [(4, .int (0 : Int32)), (0, .ref a0), (1, .ref a1), (2, .int x2), (3, .int x3)]) hx hb dX9_findKeys_43 hl (by decide) rfl (fun ls hl => ?_)
        obtain ⟨n_3, hp⟩ := hp
        exact t_X9_findKeys_45 F hr hlocks hK ih n_3 hp hW hE (lv_sub hl [1, 2, 3, 4, 0] rfl) hL_a0 hK_a0 hL_a1 hK_a1
set_option maxHeartbeats 4000000 in
set_option maxRecDepth 100000 in
theorem t_X9_findKeys_0 {p : Program} {l : Launch} {e : Env} {s : State} {m : MethodId} {args : Array Value} {below : List Frame} {meth : Method} {c : Code} {D : wD} {cy : Nat → ClassId} {X : va_W} {A : Nat → Prop} {S0 : wS} {post : wS → Prop} (F : CallFix p m c cX9_findKeys 6 s args wz_X9_findKeys RX9) (hr : meth.sig.returnType = none) (hlocks : meth.locks = false) (hK : wK D cy A s) : ∀ {S : wS} {H : Heap} {locs : List Loc} {ls : Array Slot} {a0 : Nat} {a1 : Nat}, wp_X9_findKeys_0 D post S a0 a1 → wO D cy X A s.heap S H locs → wX D S0 S → lv_has ls 6 [(0, .ref a0), (1, .ref a1)] → wM D S a0 → sK S a0 = 14 → wM D S a1 → sK S a1 = 12 → W p l e r_X9_findKeys s m args below meth c H locs 0 0 (MQ below (va_Qv (fun S9 => wX D S0 S9 ∧ post S9) (wB D cy X A) A) args s 0 0 A) (F0 m 0 ls []) := by
  obtain ⟨hx, hb, hml, hown, hts⟩ := id F
  have hwg : ∀ w ∈ WG, w.before args s = true := fun w h => hts w (List.mem_cons_of_mem _ h)
  have i_14 : ∀ w ∈ u_ws RX9 TX9 10, w ∈ wz_X9_findKeys := fun w h => List.mem_cons_of_mem _ (wu_14 w h)
  have k_21 := hwg _ wf_RX9_21
  have k_25 := hwg _ wf_RX9_25
  have k_28 := hwg _ wf_RX9_28
  have k_31 := hwg _ wf_RX9_31
  have k_9 := hwg _ wf_RX9_9
  intro S H locs ls a0 a1 hp hW hE hl hL_a0 hK_a0 hL_a1 hK_a1
  unfold wp_X9_findKeys_0 at hp
  refine lv_aload_n hx hb dX9_findKeys_0 rfl (lv_at hl 0 rfl) ?_
  refine lv_iconst (v := (-1)) hx hb dX9_findKeys_1 (by decide) ?_
  refine w_putI (k := 14) (f := 7) (T := TX9) F hK hW hL_a0 hK_a0 (by decide) (by decide) rfl rfl (by decide) i_14 tyX9 tyX9_ok nmX9 k_21 rfl rfl (ty := .int) rfl rfl rfl dX9_findKeys_2 (fun H locs hW => ?_)
  obtain ⟨S_1, eS_1⟩ : ∃ z : wS, z = uI S a0 7 (-1 : Int32) := ⟨_, rfl⟩
  rw [← eS_1] at hW
  replace hp := hp S_1 eS_1
  have hX_S_1 : wX D S S_1 := by rw [eS_1]; exact wX_uI
  have hE := hE.trans hX_S_1
  have hK_a0 : sK S_1 a0 = 14 := (hX_S_1.2 a0 hL_a0).1.trans hK_a0
  have hL_a0 : wM D S_1 a0 := hX_S_1.M hL_a0
  have hK_a1 : sK S_1 a1 = 12 := (hX_S_1.2 a1 hL_a1).1.trans hK_a1
  have hL_a1 : wM D S_1 a1 := hX_S_1.M hL_a1
  refine lv_aload_n hx hb dX9_findKeys_5 rfl (lv_at hl 0 rfl) ?_
  refine lv_iconst (v := 0) hx hb dX9_findKeys_6 (by decide) ?_
  refine w_putI (k := 14) (f := 8) (T := TX9) F hK hW hL_a0 hK_a0 (by decide) (by decide) rfl rfl (by decide) i_14 tyX9 tyX9_ok nmX9 k_25 rfl rfl (ty := .int) rfl rfl rfl dX9_findKeys_7 (fun H locs hW => ?_)
  obtain ⟨S_2, eS_2⟩ : ∃ z : wS, z = uI S_1 a0 8 (0 : Int32) := ⟨_, rfl⟩
  rw [← eS_2] at hW
  replace hp := hp S_2 eS_2
  have hX_S_2 : wX D S_1 S_2 := by rw [eS_2]; exact wX_uI
  have hE := hE.trans hX_S_2
  have hK_a0 : sK S_2 a0 = 14 := (hX_S_2.2 a0 hL_a0).1.trans hK_a0
  have hL_a0 : wM D S_2 a0 := hX_S_2.M hL_a0
  have hK_a1 : sK S_2 a1 = 12 := (hX_S_2.2 a1 hL_a1).1.trans hK_a1
  have hL_a1 : wM D S_2 a1 := hX_S_2.M hL_a1
  refine lv_aload_n hx hb dX9_findKeys_10 rfl (lv_at hl 0 rfl) ?_
  refine lv_iconst (v := (-1)) hx hb dX9_findKeys_11 (by decide) ?_
  refine w_putI (k := 14) (f := 9) (T := TX9) F hK hW hL_a0 hK_a0 (by decide) (by decide) rfl rfl (by decide) i_14 tyX9 tyX9_ok nmX9 k_28 rfl rfl (ty := .int) rfl rfl rfl dX9_findKeys_12 (fun H locs hW => ?_)
  obtain ⟨S_3, eS_3⟩ : ∃ z : wS, z = uI S_2 a0 9 (-1 : Int32) := ⟨_, rfl⟩
  rw [← eS_3] at hW
  replace hp := hp S_3 eS_3
  have hX_S_3 : wX D S_2 S_3 := by rw [eS_3]; exact wX_uI
  have hE := hE.trans hX_S_3
  have hK_a0 : sK S_3 a0 = 14 := (hX_S_3.2 a0 hL_a0).1.trans hK_a0
  have hL_a0 : wM D S_3 a0 := hX_S_3.M hL_a0
  have hK_a1 : sK S_3 a1 = 12 := (hX_S_3.2 a1 hL_a1).1.trans hK_a1
  have hL_a1 : wM D S_3 a1 := hX_S_3.M hL_a1
  refine lv_aload_n hx hb dX9_findKeys_15 rfl (lv_at hl 0 rfl) ?_
  obtain ⟨y_4, ey_4, hL_y_4, hK_y_4, hp⟩ := hp
  refine w_get (k := 14) (f := 0) (T := TX9) (v := .ref y_4) F hK hW hL_a0 hK_a0 (by decide) rfl rfl (by decide) i_14 k_31 (by rw [show wv 14 0 S_3 a0 = va_rf (sR S_3 a0 0) from rfl, ey_4]; rfl) dX9_findKeys_16 ?_
  refine lv_aload_n hx hb dX9_findKeys_19 rfl (lv_at hl 1 rfl) ?_
  refine lv_aload_n hx hb dX9_findKeys_20 rfl (lv_at hl 0 rfl) ?_
  obtain ⟨y_5, ey_5, hL_y_5, hK_y_5, hp⟩ := hp
  refine w_get (k := 14) (f := 1) (T := TX9) (v := .ref y_5) F hK hW hL_a0 hK_a0 (by decide) rfl rfl (by decide) i_14 k_9 (by rw [show wv 14 1 S_3 a0 = va_rf (sR S_3 a0 1) from rfl, ey_5]; rfl) dX9_findKeys_21 ?_
  refine w_callI (va_runV (As := [.ref a1, .ref y_5]) (rest := []) F (c_X8_generate l hL_y_4 hK_y_4 hL_a1 hK_a1 hL_y_5 hK_y_5 hp H.size) (cwV (C := RX8) 2 hts (wg_V wm_RX9_62 wy_X8_generate) rfl rfl rfl (by decide +kernel) ⟨Nat.le_of_ble_eq_true rfl, Nat.le_of_ble_eq_true rfl⟩) (w_preV hK hW hL_y_4 hK_y_4 (by decide) rfl) rfl rfl hl.1 rfl (lv_room (Nat.le_of_ble_eq_true rfl)) dX9_findKeys_24 ⟨Nat.le_of_ble_eq_true rfl, Nat.le_of_ble_eq_true rfl⟩) hW (fun r_6 S_7 H locs hp hW => ?_)
  obtain ⟨hX_S_7, hp⟩ := hp
  refine W.widen (k := 0) (n := 0) (by decide) (by decide) ?_
  have hE := hE.trans hX_S_7
  have hK_a0 : sK S_7 a0 = 14 := (hX_S_7.2 a0 hL_a0).1.trans hK_a0
  have hL_a0 : wM D S_7 a0 := hX_S_7.M hL_a0
  have hK_a1 : sK S_7 a1 = 12 := (hX_S_7.2 a1 hL_a1).1.trans hK_a1
  have hL_a1 : wM D S_7 a1 := hX_S_7.M hL_a1
  refine lv_istore_n (lv' := [(2, .int r_6), (0, .ref a0), (1, .ref a1)]) hx hb dX9_findKeys_27 rfl hl (by decide) rfl (fun ls hl => ?_)
  refine lv_iconst (v := 1) hx hb dX9_findKeys_28 (by decide) ?_
  refine lv_istore_n (lv' := [(3, .int (1 : Int32)), (2, .int r_6), (0, .ref a0), (1, .ref a1)]) hx hb dX9_findKeys_29 rfl hl (by decide) rfl (fun ls hl => ?_)
  obtain ⟨n_8, hp⟩ := hp
  exact t_X9_findKeys_30 F hr hlocks hK n_8 hp hW hE (lv_sub hl [2, 3, 1, 0] rfl) hL_a0 hK_a0 hL_a1 hK_a1
set_option maxHeartbeats 4000000 in
set_option maxRecDepth 100000 in
theorem c_X9_findKeys (l : Launch) {D : wD} {cy : Nat → ClassId} {X : va_W} {S0 : wS} {post : wS → Prop} {a0 : Nat} {a1 : Nat} (hL_a0 : wM D S0 a0) (hK_a0 : sK S0 a0 = 14) (hL_a1 : wM D S0 a1) (hK_a1 : sK S0 a1 = 12) (hp : wp_X9_findKeys D post S0 a0 a1) : mV D cy X l yX9_findKeys wz_X9_findKeys r_X9_findKeys [.ref a0, .ref a1] S0 (fun S9 => wX D S0 S9 ∧ post S9) := by
  intro sz
  refine Met.ofW (cc := cX9_findKeys) (maxL := 6) (ret := none) (by decide) rfl ?_
  intro p e s m args below meth c s₁ B hml hv
  obtain ⟨rfl, hsz, hP, hK, hD0, hRO⟩ := hv
  have hts := atoms_spec (ws := wz_X9_findKeys) B.pre
  have hown : s.vm.findClass RX9 = some m.cls := findClass_of_methodNamed B.named
  subst hsz
  have hD := hD0.self (sz := s.heap.size)
  have F : CallFix p m c cX9_findKeys 6 s _ wz_X9_findKeys RX9 := ⟨B.exec, B.bytes, hml, hown, hts⟩
  have hr := B.returns
  have hlocks := B.notSynchronized
  generalize hAe : va_A (wL cy X S0) s.heap.size = A at hD hK ⊢
  have hA : ∀ q, s.heap.size ≤ q → A q := fun q h => by rw [← hAe]; exact Or.inr h
  have hW : wO D cy X A s.heap S0 s.heap [] := ⟨hP, hD, va_S.rf, hA, hRO⟩
  have hl := lv_entry ([.ref a0, .ref a1]) (n := 6) (Nat.le_of_ble_eq_true rfl)
  rw [lg_entry_eq]
  generalize (lg_sl ([.ref a0, .ref a1]) ++ List.replicate (6 - (lg_sl ([.ref a0, .ref a1])).length) Slot.unset).toArray = ls at hl ⊢
  have hl : lv_has ls 6 [(0, .ref a0), (1, .ref a1)] := hl
  unfold wp_X9_findKeys at hp
  exact t_X9_findKeys_0 F hr hlocks hK hp hW wX.rf (lv_sub hl [0, 1] rfl) hL_a0 hK_a0 hL_a1 hK_a1
def wp_X11_firstKey_0 (D : wD) (post : Int32 → wS → Prop) (xp : String → wS → Prop)  (S : wS) (a0 : Nat) : Prop :=
wp_X11_mustBeLawful D (fun S_2 => 
∃ y_3 : Nat, sR S_2 a0 11 = some y_3 ∧ wM D S_2 y_3 ∧ sK S_2 y_3 = 14 ∧
∃ y_4 : Nat, sR S_2 a0 2 = some y_4 ∧ wM D S_2 y_4 ∧ sK S_2 y_4 = 12 ∧
wp_X9_findKeys D (fun S_6 => 
∃ y_7 : Nat, sR S_6 a0 11 = some y_7 ∧ wM D S_6 y_7 ∧ sK S_6 y_7 = 14 ∧
((¬ (sI S_6 y_7 8) = 0 → ∃ y_9 : Nat, sR S_6 a0 11 = some y_9 ∧ wM D S_6 y_9 ∧ sK S_6 y_9 = 14 ∧
post (sI S_6 y_9 9) S_6) ∧
 ((sI S_6 y_7 8) = 0 → xp "java/util/NoSuchElementException" S_6))) S_2 y_3 y_4) xp S a0
abbrev r_X11_firstKey : Room := { frames := 7, cells := 2, slots := 12, locals := 196 }
def wp_X11_firstKey (D : wD) (post : Int32 → wS → Prop) (xp : String → wS → Prop) (S : wS) (a0 : Nat) : Prop := wp_X11_firstKey_0 D post xp S a0
set_option maxHeartbeats 4000000 in
set_option maxRecDepth 100000 in
theorem t_X11_firstKey_0 {p : Program} {l : Launch} {e : Env} {s : State} {m : MethodId} {args : Array Value} {below : List Frame} {meth : Method} {c : Code} {D : wD} {cy : Nat → ClassId} {X : va_W} {A : Nat → Prop} {S0 : wS} {post : Int32 → wS → Prop} {xp : String → wS → Prop} (F : CallFix p m c cX11_firstKey 1 s args wz_X11_firstKey RX11) (hr : meth.sig.returnType = (some .int)) (hlocks : meth.locks = false) (hK : wK D cy A s) (hl0 : l.stackTraces = false) (hexc : ∀ x ∈ c.exceptionTable.toList, False) : ∀ {S : wS} {H : Heap} {locs : List Loc} {ls : Array Slot} {a0 : Nat}, wp_X11_firstKey_0 D post xp S a0 → wO D cy X A s.heap S H locs → wX D S0 S → lv_has ls 1 [(0, .ref a0)] → wM D S a0 → sK S a0 = 16 → W p l e r_X11_firstKey s m args below meth c H locs 0 0 (vx_MQ below (va_Qi (fun r S9 => wX D S0 S9 ∧ post r S9) (wB D cy X A) A) (wEx D cy X A (fun E S9 => wX D S0 S9 ∧ xp E S9)) args s 2 12 A) (F0 m 0 ls []) := by
  obtain ⟨hx, hb, hml, hown, hts⟩ := id F
  have hwg : ∀ w ∈ WG, w.before args s = true := fun w h => hts w (List.mem_cons_of_mem _ h)
  have i_14 : ∀ w ∈ u_ws RX9 TX9 10, w ∈ wz_X11_firstKey := fun w h => List.mem_cons_of_mem _ (wu_14 w h)
  have i_16 : ∀ w ∈ u_ws RX11 TX11 18, w ∈ wz_X11_firstKey := fun w h => List.mem_cons_of_mem _ (wu_16 w h)
  have k_28 := hwg _ wf_RX11_28
  have k_91 := hwg _ wf_RX11_91
  intro S H locs ls a0 hp hW hE hl hL_a0 hK_a0
  unfold wp_X11_firstKey_0 at hp
  refine lv_aload_n hx hb dX11_firstKey_0 rfl (lv_at hl 0 rfl) ?_
  refine x_callV (vx_runV (As := []) (rest := []) F (c_X11_mustBeLawful l hl0 hL_a0 hK_a0 hp H.size) (cwV (C := RX11) 0 hts (wg_V wm_RX11_217 wy_X11_mustBeLawful) rfl rfl rfl (by decide +kernel) ⟨Nat.le_of_ble_eq_true rfl, Nat.le_of_ble_eq_true rfl⟩) (w_preV hK hW hL_a0 hK_a0 (by decide) rfl) rfl rfl hl.1 rfl (lv_room (Nat.le_of_ble_eq_true rfl)) dX11_firstKey_1 ⟨Nat.le_of_ble_eq_true rfl, Nat.le_of_ble_eq_true rfl⟩) hW (fun E ce q9 S9 H locs hp hW h1 h2 h3 => x_out hexc hlocks ⟨hE.trans hp.1, hp.2⟩ hW h1 h2 h3 (by decide) (by decide)) (fun S_2 H locs hp hW => ?_)
  obtain ⟨hX_S_2, hp⟩ := hp
  refine W.widen (k := 1) (n := 6) (by decide) (by decide) ?_
  have hE := hE.trans hX_S_2
  have hK_a0 : sK S_2 a0 = 16 := (hX_S_2.2 a0 hL_a0).1.trans hK_a0
  have hL_a0 : wM D S_2 a0 := hX_S_2.M hL_a0
  refine lv_aload_n hx hb dX11_firstKey_4 rfl (lv_at hl 0 rfl) ?_
  obtain ⟨y_3, ey_3, hL_y_3, hK_y_3, hp⟩ := hp
  refine w_get (k := 16) (f := 11) (T := TX11) (v := .ref y_3) F hK hW hL_a0 hK_a0 (by decide) rfl rfl (by decide) i_16 k_91 (by rw [show wv 16 11 S_2 a0 = va_rf (sR S_2 a0 11) from rfl, ey_3]; rfl) dX11_firstKey_5 ?_
  refine lv_aload_n hx hb dX11_firstKey_8 rfl (lv_at hl 0 rfl) ?_
  obtain ⟨y_4, ey_4, hL_y_4, hK_y_4, hp⟩ := hp
  refine w_get (k := 16) (f := 2) (T := TX11) (v := .ref y_4) F hK hW hL_a0 hK_a0 (by decide) rfl rfl (by decide) i_16 k_28 (by rw [show wv 16 2 S_2 a0 = va_rf (sR S_2 a0 2) from rfl, ey_4]; rfl) dX11_firstKey_9 ?_
  refine w_callV (va_runV (As := [.ref y_4]) (rest := []) F (c_X9_findKeys l hL_y_3 hK_y_3 hL_y_4 hK_y_4 hp H.size) (cwV (C := RX9) 1 hts (wg_V wm_RX11_432 wy_X9_findKeys) rfl rfl rfl (by decide +kernel) ⟨Nat.le_of_ble_eq_true rfl, Nat.le_of_ble_eq_true rfl⟩) (w_preV hK hW hL_y_3 hK_y_3 (by decide) rfl) rfl rfl hl.1 rfl (lv_room (Nat.le_of_ble_eq_true rfl)) dX11_firstKey_12 ⟨Nat.le_of_ble_eq_true rfl, Nat.le_of_ble_eq_true rfl⟩) hW (fun S_6 H locs hp hW => ?_)
  obtain ⟨hX_S_6, hp⟩ := hp
  refine W.widen (k := 1) (n := 6) (by decide) (by decide) ?_
  have hE := hE.trans hX_S_6
  have hK_a0 : sK S_6 a0 = 16 := (hX_S_6.2 a0 hL_a0).1.trans hK_a0
  have hL_a0 : wM D S_6 a0 := hX_S_6.M hL_a0
  refine lv_aload_n hx hb dX11_firstKey_15 rfl (lv_at hl 0 rfl) ?_
  obtain ⟨y_7, ey_7, hL_y_7, hK_y_7, hp⟩ := hp
  refine w_get (k := 16) (f := 11) (T := TX11) (v := .ref y_7) F hK hW hL_a0 hK_a0 (by decide) rfl rfl (by decide) i_16 k_91 (by rw [show wv 16 11 S_6 a0 = va_rf (sR S_6 a0 11) from rfl, ey_7]; rfl) dX11_firstKey_16 ?_
  refine w_getN (k := 14) (f := 8) (T := TX9) (v := .int (sI S_6 y_7 8)) F hK hW hL_y_7 hK_y_7 (by decide) rfl rfl (by decide) i_14 (hK.2.1 (.fieldLinkNest "OpeningsCabinet" 438 "OpeningsCabinet$Search" "keys" "I" "OpeningsCabinet") (by decide +kernel)) rfl dX11_firstKey_19 ?_
  refine lv_if_ne (tgt := 36) hx hb dX11_firstKey_22 (by decide) (fun c_8 => ?_) (fun c_8 => ?_)
  · replace hp := hp.1 c_8
    refine lv_aload_n hx hb dX11_firstKey_36 rfl (lv_at hl 0 rfl) ?_
    obtain ⟨y_9, ey_9, hL_y_9, hK_y_9, hp⟩ := hp
    refine w_get (k := 16) (f := 11) (T := TX11) (v := .ref y_9) F hK hW hL_a0 hK_a0 (by decide) rfl rfl (by decide) i_16 k_91 (by rw [show wv 16 11 S_6 a0 = va_rf (sR S_6 a0 11) from rfl, ey_9]; rfl) dX11_firstKey_37 ?_
    refine w_getN (k := 14) (f := 9) (T := TX9) (v := .int (sI S_6 y_9 9)) F hK hW hL_y_9 hK_y_9 (by decide) rfl rfl (by decide) i_14 (hK.2.1 (.fieldLinkNest "OpeningsCabinet" 443 "OpeningsCabinet$Search" "earliestKey" "I" "OpeningsCabinet") (by decide +kernel)) rfl dX11_firstKey_40 ?_
    refine W.widen (k := 2) (n := 12) (by decide) (by decide) ?_
    refine vx_ret ?_
    exact w_iret hx hb hr hlocks hW ⟨hE, hp⟩ dX11_firstKey_43
  · replace hp := hp.2 c_8
    exact x_throwNW (ls := ls) F hK hW hl0 (hwg _ wc_RX11_372) (hwg _ wi_java_util_NoSuchElementException) (show ("OpeningsCabinet", 441, "no mate is forced", 41) ∈ wStr by decide +kernel) (wan_RX11_376 hwg hK.2.1) wan_RX11_376_ok hl.1 hexc hlocks dX11_firstKey_25 dX11_firstKey_28 dX11_firstKey_29 dX11_firstKey_32 dX11_firstKey_35 (Nat.le_of_ble_eq_true rfl) (Nat.le_of_ble_eq_true rfl) (Nat.le_of_ble_eq_true rfl) (Nat.le_of_ble_eq_true rfl) (by decide) (by decide) ⟨hE, hp⟩
set_option maxHeartbeats 4000000 in
set_option maxRecDepth 100000 in
theorem c_X11_firstKey (l : Launch) {D : wD} {cy : Nat → ClassId} {X : va_W} {S0 : wS} {post : Int32 → wS → Prop} {xp : String → wS → Prop} (hl0 : l.stackTraces = false) {a0 : Nat} (hL_a0 : wM D S0 a0) (hK_a0 : sK S0 a0 = 16) (hp : wp_X11_firstKey D post xp S0 a0) : xI D cy X l yX11_firstKey wz_X11_firstKey r_X11_firstKey [.ref a0] S0 (fun r S9 => wX D S0 S9 ∧ post r S9) (fun E S9 => wX D S0 S9 ∧ xp E S9) := by
  intro sz
  refine vx_ofW (cc := cX11_firstKey) (maxL := 1) (ret := (some .int)) (by decide) rfl ?_
  intro p e s m args below meth c s₁ B hml hexc hv
  obtain ⟨rfl, hsz, hP, hK, hD0, hRO⟩ := hv
  have hts := atoms_spec (ws := wz_X11_firstKey) B.pre
  have hown : s.vm.findClass RX11 = some m.cls := findClass_of_methodNamed B.named
  subst hsz
  have hD := hD0.self (sz := s.heap.size)
  have F : CallFix p m c cX11_firstKey 1 s _ wz_X11_firstKey RX11 := ⟨B.exec, B.bytes, hml, hown, hts⟩
  have hr := B.returns
  have hlocks := B.notSynchronized
  generalize hAe : va_A (wL cy X S0) s.heap.size = A at hD hK ⊢
  have hA : ∀ q, s.heap.size ≤ q → A q := fun q h => by rw [← hAe]; exact Or.inr h
  have hW : wO D cy X A s.heap S0 s.heap [] := ⟨hP, hD, va_S.rf, hA, hRO⟩
  have hl := lv_entry ([.ref a0]) (n := 1) (Nat.le_of_ble_eq_true rfl)
  rw [lg_entry_eq]
  generalize (lg_sl ([.ref a0]) ++ List.replicate (1 - (lg_sl ([.ref a0])).length) Slot.unset).toArray = ls at hl ⊢
  have hl : lv_has ls 1 [(0, .ref a0)] := hl
  unfold wp_X11_firstKey at hp
  exact t_X11_firstKey_0 F hr hlocks hK hl0 hexc hp hW wX.rf (lv_sub hl [0] rfl) hL_a0 hK_a0
def wp_X3_firstFresh_2 (D : wD) (post : Int32 → wS → Prop)  : Nat → wS → Nat → Int32 → Prop
  | 0, _, _, _ => False
  | n + 1, S, a0, x1 =>
    (((sI S a0 3) < x1 → post (-1 : Int32) S) ∧
     (¬ (sI S a0 3) < x1 → wp_X3_isFreshAt D (fun r_2 S_3 => 
    ((r_2 = 0 → ∀ x_5 : Int32, x_5 = x1 + 1 →
    wp_X3_firstFresh_2 D post n S_3 a0 x_5) ∧
     (¬ r_2 = 0 → post x1 S_3))) S a0 x1))
def wp_X3_firstFresh_0 (D : wD) (post : Int32 → wS → Prop)  (S : wS) (a0 : Nat) : Prop :=
∃ n_1 : Nat, wp_X3_firstFresh_2 D post n_1 S a0 (0 : Int32)
abbrev r_X3_firstFresh : Room := { frames := 1, cells := 0, slots := 0, locals := 21 }
def wp_X3_firstFresh (D : wD) (post : Int32 → wS → Prop) (S : wS) (a0 : Nat) : Prop := wp_X3_firstFresh_0 D post S a0
set_option maxHeartbeats 4000000 in
set_option maxRecDepth 100000 in
theorem t_X3_firstFresh_2 {p : Program} {l : Launch} {e : Env} {s : State} {m : MethodId} {args : Array Value} {below : List Frame} {meth : Method} {c : Code} {D : wD} {cy : Nat → ClassId} {X : va_W} {A : Nat → Prop} {S0 : wS} {post : Int32 → wS → Prop} (F : CallFix p m c cX3_firstFresh 2 s args wz_X3_firstFresh RX3) (hr : meth.sig.returnType = (some .int)) (hlocks : meth.locks = false) (hK : wK D cy A s) : ∀ (n : Nat) {S : wS} {H : Heap} {locs : List Loc} {ls : Array Slot} {a0 : Nat} {x1 : Int32}, wp_X3_firstFresh_2 D post n S a0 x1 → wO D cy X A s.heap S H locs → wX D S0 S → lv_has ls 2 [(0, .ref a0), (1, .int x1)] → wM D S a0 → sK S a0 = 8 → W p l e r_X3_firstFresh s m args below meth c H locs 0 0 (MQ below (va_Qi (fun r S9 => wX D S0 S9 ∧ post r S9) (wB D cy X A) A) args s 0 0 A) (F0 m 2 ls []) := by
  obtain ⟨hx, hb, hml, hown, hts⟩ := id F
  have hwg : ∀ w ∈ WG, w.before args s = true := fun w h => hts w (List.mem_cons_of_mem _ h)
  have i_8 : ∀ w ∈ u_ws RX3 TX3 9, w ∈ wz_X3_firstFresh := fun w h => List.mem_cons_of_mem _ (wu_8 w h)
  have k_9 := hwg _ wf_RX3_9
  intro n
  induction n with
  | zero =>
    intro S H locs ls a0 x1 hp
    exact hp.elim
  | succ n ih =>
    intro S H locs ls a0 x1 hp hW hE hl hL_a0 hK_a0
    unfold wp_X3_firstFresh_2 at hp
    refine lv_iload_n hx hb dX3_firstFresh_2 rfl (lv_at hl 1 rfl) ?_
    refine lv_aload_n hx hb dX3_firstFresh_3 rfl (lv_at hl 0 rfl) ?_
    refine w_get (k := 8) (f := 3) (T := TX3) (v := .int (sI S a0 3)) F hK hW hL_a0 hK_a0 (by decide) rfl rfl (by decide) i_8 k_9 rfl dX3_firstFresh_4 ?_
    refine lv_icmp_gt (tgt := 26) hx hb dX3_firstFresh_7 (by decide) (fun c_1 => ?_) (fun c_1 => ?_)
    · replace hp := hp.1 c_1
      refine lv_iconst (v := (-1)) hx hb dX3_firstFresh_26 (by decide) ?_
      exact w_iret hx hb hr hlocks hW ⟨hE, hp⟩ dX3_firstFresh_27
    · replace hp := hp.2 c_1
      refine lv_aload_n hx hb dX3_firstFresh_10 rfl (lv_at hl 0 rfl) ?_
      refine lv_iload_n hx hb dX3_firstFresh_11 rfl (lv_at hl 1 rfl) ?_
      refine w_callI (va_runV (As := [.int x1]) (rest := []) F (c_X3_isFreshAt l hL_a0 hK_a0 hp H.size) (cwV (C := RX3) 1 hts (wg_V wm_RX3_93 wy_X3_isFreshAt) rfl rfl rfl (by decide +kernel) ⟨Nat.le_of_ble_eq_true rfl, Nat.le_of_ble_eq_true rfl⟩) (w_preV hK hW hL_a0 hK_a0 (by decide) rfl) rfl rfl hl.1 rfl (lv_room (Nat.le_of_ble_eq_true rfl)) dX3_firstFresh_12 ⟨Nat.le_of_ble_eq_true rfl, Nat.le_of_ble_eq_true rfl⟩) hW (fun r_2 S_3 H locs hp hW => ?_)
      obtain ⟨hX_S_3, hp⟩ := hp
      refine W.widen (k := 0) (n := 0) (by decide) (by decide) ?_
      have hE := hE.trans hX_S_3
      have hK_a0 : sK S_3 a0 = 8 := (hX_S_3.2 a0 hL_a0).1.trans hK_a0
      have hL_a0 : wM D S_3 a0 := hX_S_3.M hL_a0
      refine lv_if_eq (tgt := 20) hx hb dX3_firstFresh_15 (by decide) (fun c_4 => ?_) (fun c_4 => ?_)
      · replace hp := hp.1 c_4
        obtain ⟨x_5, ex_5⟩ : ∃ z : Int32, z = x1 + 1 := ⟨_, rfl⟩
        replace hp := hp x_5 ex_5
        refine lv_iinc (v := x_5) (lv' := [(1, .int x_5), (0, .ref a0)]) hx hb dX3_firstFresh_20 hl (k := 1) rfl (by rw [ex_5]; rfl) (by decide) rfl (fun ls hl => ?_)
        refine lv_goto (tgt := 2) hx hb dX3_firstFresh_23 (by decide) ?_
        exact ih hp hW hE (lv_sub hl [1, 0] rfl) hL_a0 hK_a0
      · replace hp := hp.2 c_4
        refine lv_iload_n hx hb dX3_firstFresh_18 rfl (lv_at hl 1 rfl) ?_
        exact w_iret hx hb hr hlocks hW ⟨hE, hp⟩ dX3_firstFresh_19
set_option maxHeartbeats 4000000 in
set_option maxRecDepth 100000 in
theorem t_X3_firstFresh_0 {p : Program} {l : Launch} {e : Env} {s : State} {m : MethodId} {args : Array Value} {below : List Frame} {meth : Method} {c : Code} {D : wD} {cy : Nat → ClassId} {X : va_W} {A : Nat → Prop} {S0 : wS} {post : Int32 → wS → Prop} (F : CallFix p m c cX3_firstFresh 2 s args wz_X3_firstFresh RX3) (hr : meth.sig.returnType = (some .int)) (hlocks : meth.locks = false) (hK : wK D cy A s) : ∀ {S : wS} {H : Heap} {locs : List Loc} {ls : Array Slot} {a0 : Nat}, wp_X3_firstFresh_0 D post S a0 → wO D cy X A s.heap S H locs → wX D S0 S → lv_has ls 2 [(0, .ref a0)] → wM D S a0 → sK S a0 = 8 → W p l e r_X3_firstFresh s m args below meth c H locs 0 0 (MQ below (va_Qi (fun r S9 => wX D S0 S9 ∧ post r S9) (wB D cy X A) A) args s 0 0 A) (F0 m 0 ls []) := by
  obtain ⟨hx, hb, hml, hown, hts⟩ := id F
  have hwg : ∀ w ∈ WG, w.before args s = true := fun w h => hts w (List.mem_cons_of_mem _ h)
  intro S H locs ls a0 hp hW hE hl hL_a0 hK_a0
  unfold wp_X3_firstFresh_0 at hp
  refine lv_iconst (v := 0) hx hb dX3_firstFresh_0 (by decide) ?_
  refine lv_istore_n (lv' := [(1, .int (0 : Int32)), (0, .ref a0)]) hx hb dX3_firstFresh_1 rfl hl (by decide) rfl (fun ls hl => ?_)
  obtain ⟨n_1, hp⟩ := hp
  exact t_X3_firstFresh_2 F hr hlocks hK n_1 hp hW hE (lv_sub hl [1, 0] rfl) hL_a0 hK_a0
set_option maxHeartbeats 4000000 in
set_option maxRecDepth 100000 in
theorem c_X3_firstFresh (l : Launch) {D : wD} {cy : Nat → ClassId} {X : va_W} {S0 : wS} {post : Int32 → wS → Prop} {a0 : Nat} (hL_a0 : wM D S0 a0) (hK_a0 : sK S0 a0 = 8) (hp : wp_X3_firstFresh D post S0 a0) : mI D cy X l yX3_firstFresh wz_X3_firstFresh r_X3_firstFresh [.ref a0] S0 (fun r S9 => wX D S0 S9 ∧ post r S9) := by
  intro sz
  refine Met.ofW (cc := cX3_firstFresh) (maxL := 2) (ret := (some .int)) (by decide) rfl ?_
  intro p e s m args below meth c s₁ B hml hv
  obtain ⟨rfl, hsz, hP, hK, hD0, hRO⟩ := hv
  have hts := atoms_spec (ws := wz_X3_firstFresh) B.pre
  have hown : s.vm.findClass RX3 = some m.cls := findClass_of_methodNamed B.named
  subst hsz
  have hD := hD0.self (sz := s.heap.size)
  have F : CallFix p m c cX3_firstFresh 2 s _ wz_X3_firstFresh RX3 := ⟨B.exec, B.bytes, hml, hown, hts⟩
  have hr := B.returns
  have hlocks := B.notSynchronized
  generalize hAe : va_A (wL cy X S0) s.heap.size = A at hD hK ⊢
  have hA : ∀ q, s.heap.size ≤ q → A q := fun q h => by rw [← hAe]; exact Or.inr h
  have hW : wO D cy X A s.heap S0 s.heap [] := ⟨hP, hD, va_S.rf, hA, hRO⟩
  have hl := lv_entry ([.ref a0]) (n := 2) (Nat.le_of_ble_eq_true rfl)
  rw [lg_entry_eq]
  generalize (lg_sl ([.ref a0]) ++ List.replicate (2 - (lg_sl ([.ref a0])).length) Slot.unset).toArray = ls at hl ⊢
  have hl : lv_has ls 2 [(0, .ref a0)] := hl
  unfold wp_X3_firstFresh at hp
  exact t_X3_firstFresh_0 F hr hlocks hK hp hW wX.rf (lv_sub hl [0] rfl) hL_a0 hK_a0
def wp_X11_forcesMate_0 (D : wD) (post : Int32 → wS → Prop) (xp : String → wS → Prop)  (S : wS) (a0 : Nat) : Prop :=
wp_X11_mustBeLawful D (fun S_2 => 
∃ y_3 : Nat, sR S_2 a0 11 = some y_3 ∧ wM D S_2 y_3 ∧ sK S_2 y_3 = 14 ∧
∃ y_4 : Nat, sR S_2 a0 2 = some y_4 ∧ wM D S_2 y_4 ∧ sK S_2 y_4 = 12 ∧
wp_X9_findKeys D (fun S_6 => 
∃ y_7 : Nat, sR S_6 a0 11 = some y_7 ∧ wM D S_6 y_7 ∧ sK S_6 y_7 = 14 ∧
post (sI S_6 y_7 7) S_6) S_2 y_3 y_4) xp S a0
abbrev r_X11_forcesMate : Room := { frames := 7, cells := 1, slots := 6, locals := 196 }
def wp_X11_forcesMate (D : wD) (post : Int32 → wS → Prop) (xp : String → wS → Prop) (S : wS) (a0 : Nat) : Prop := wp_X11_forcesMate_0 D post xp S a0
set_option maxHeartbeats 4000000 in
set_option maxRecDepth 100000 in
theorem t_X11_forcesMate_0 {p : Program} {l : Launch} {e : Env} {s : State} {m : MethodId} {args : Array Value} {below : List Frame} {meth : Method} {c : Code} {D : wD} {cy : Nat → ClassId} {X : va_W} {A : Nat → Prop} {S0 : wS} {post : Int32 → wS → Prop} {xp : String → wS → Prop} (F : CallFix p m c cX11_forcesMate 1 s args wz_X11_forcesMate RX11) (hr : meth.sig.returnType = (some .int)) (hlocks : meth.locks = false) (hK : wK D cy A s) (hl0 : l.stackTraces = false) (hexc : ∀ x ∈ c.exceptionTable.toList, False) : ∀ {S : wS} {H : Heap} {locs : List Loc} {ls : Array Slot} {a0 : Nat}, wp_X11_forcesMate_0 D post xp S a0 → wO D cy X A s.heap S H locs → wX D S0 S → lv_has ls 1 [(0, .ref a0)] → wM D S a0 → sK S a0 = 16 → W p l e r_X11_forcesMate s m args below meth c H locs 0 0 (vx_MQ below (va_Qi (fun r S9 => wX D S0 S9 ∧ post r S9) (wB D cy X A) A) (wEx D cy X A (fun E S9 => wX D S0 S9 ∧ xp E S9)) args s 1 6 A) (F0 m 0 ls []) := by
  obtain ⟨hx, hb, hml, hown, hts⟩ := id F
  have hwg : ∀ w ∈ WG, w.before args s = true := fun w h => hts w (List.mem_cons_of_mem _ h)
  have i_14 : ∀ w ∈ u_ws RX9 TX9 10, w ∈ wz_X11_forcesMate := fun w h => List.mem_cons_of_mem _ (wu_14 w h)
  have i_16 : ∀ w ∈ u_ws RX11 TX11 18, w ∈ wz_X11_forcesMate := fun w h => List.mem_cons_of_mem _ (wu_16 w h)
  have k_28 := hwg _ wf_RX11_28
  have k_91 := hwg _ wf_RX11_91
  intro S H locs ls a0 hp hW hE hl hL_a0 hK_a0
  unfold wp_X11_forcesMate_0 at hp
  refine lv_aload_n hx hb dX11_forcesMate_0 rfl (lv_at hl 0 rfl) ?_
  refine x_callV (vx_runV (As := []) (rest := []) F (c_X11_mustBeLawful l hl0 hL_a0 hK_a0 hp H.size) (cwV (C := RX11) 0 hts (wg_V wm_RX11_217 wy_X11_mustBeLawful) rfl rfl rfl (by decide +kernel) ⟨Nat.le_of_ble_eq_true rfl, Nat.le_of_ble_eq_true rfl⟩) (w_preV hK hW hL_a0 hK_a0 (by decide) rfl) rfl rfl hl.1 rfl (lv_room (Nat.le_of_ble_eq_true rfl)) dX11_forcesMate_1 ⟨Nat.le_of_ble_eq_true rfl, Nat.le_of_ble_eq_true rfl⟩) hW (fun E ce q9 S9 H locs hp hW h1 h2 h3 => x_out hexc hlocks ⟨hE.trans hp.1, hp.2⟩ hW h1 h2 h3 (by decide) (by decide)) (fun S_2 H locs hp hW => ?_)
  obtain ⟨hX_S_2, hp⟩ := hp
  refine W.widen (k := 1) (n := 6) (by decide) (by decide) ?_
  have hE := hE.trans hX_S_2
  have hK_a0 : sK S_2 a0 = 16 := (hX_S_2.2 a0 hL_a0).1.trans hK_a0
  have hL_a0 : wM D S_2 a0 := hX_S_2.M hL_a0
  refine lv_aload_n hx hb dX11_forcesMate_4 rfl (lv_at hl 0 rfl) ?_
  obtain ⟨y_3, ey_3, hL_y_3, hK_y_3, hp⟩ := hp
  refine w_get (k := 16) (f := 11) (T := TX11) (v := .ref y_3) F hK hW hL_a0 hK_a0 (by decide) rfl rfl (by decide) i_16 k_91 (by rw [show wv 16 11 S_2 a0 = va_rf (sR S_2 a0 11) from rfl, ey_3]; rfl) dX11_forcesMate_5 ?_
  refine lv_aload_n hx hb dX11_forcesMate_8 rfl (lv_at hl 0 rfl) ?_
  obtain ⟨y_4, ey_4, hL_y_4, hK_y_4, hp⟩ := hp
  refine w_get (k := 16) (f := 2) (T := TX11) (v := .ref y_4) F hK hW hL_a0 hK_a0 (by decide) rfl rfl (by decide) i_16 k_28 (by rw [show wv 16 2 S_2 a0 = va_rf (sR S_2 a0 2) from rfl, ey_4]; rfl) dX11_forcesMate_9 ?_
  refine w_callV (va_runV (As := [.ref y_4]) (rest := []) F (c_X9_findKeys l hL_y_3 hK_y_3 hL_y_4 hK_y_4 hp H.size) (cwV (C := RX9) 1 hts (wg_V wm_RX11_432 wy_X9_findKeys) rfl rfl rfl (by decide +kernel) ⟨Nat.le_of_ble_eq_true rfl, Nat.le_of_ble_eq_true rfl⟩) (w_preV hK hW hL_y_3 hK_y_3 (by decide) rfl) rfl rfl hl.1 rfl (lv_room (Nat.le_of_ble_eq_true rfl)) dX11_forcesMate_12 ⟨Nat.le_of_ble_eq_true rfl, Nat.le_of_ble_eq_true rfl⟩) hW (fun S_6 H locs hp hW => ?_)
  obtain ⟨hX_S_6, hp⟩ := hp
  refine W.widen (k := 1) (n := 6) (by decide) (by decide) ?_
  have hE := hE.trans hX_S_6
  have hK_a0 : sK S_6 a0 = 16 := (hX_S_6.2 a0 hL_a0).1.trans hK_a0
  have hL_a0 : wM D S_6 a0 := hX_S_6.M hL_a0
  refine lv_aload_n hx hb dX11_forcesMate_15 rfl (lv_at hl 0 rfl) ?_
  obtain ⟨y_7, ey_7, hL_y_7, hK_y_7, hp⟩ := hp
  refine w_get (k := 16) (f := 11) (T := TX11) (v := .ref y_7) F hK hW hL_a0 hK_a0 (by decide) rfl rfl (by decide) i_16 k_91 (by rw [show wv 16 11 S_6 a0 = va_rf (sR S_6 a0 11) from rfl, ey_7]; rfl) dX11_forcesMate_16 ?_
  refine w_getN (k := 14) (f := 7) (T := TX9) (v := .int (sI S_6 y_7 7)) F hK hW hL_y_7 hK_y_7 (by decide) rfl rfl (by decide) i_14 (hK.2.1 (.fieldLinkNest "OpeningsCabinet" 435 "OpeningsCabinet$Search" "mateLength" "I" "OpeningsCabinet") (by decide +kernel)) rfl dX11_forcesMate_19 ?_
  refine vx_ret ?_
  exact w_iret hx hb hr hlocks hW ⟨hE, hp⟩ dX11_forcesMate_22
set_option maxHeartbeats 4000000 in
set_option maxRecDepth 100000 in
theorem c_X11_forcesMate (l : Launch) {D : wD} {cy : Nat → ClassId} {X : va_W} {S0 : wS} {post : Int32 → wS → Prop} {xp : String → wS → Prop} (hl0 : l.stackTraces = false) {a0 : Nat} (hL_a0 : wM D S0 a0) (hK_a0 : sK S0 a0 = 16) (hp : wp_X11_forcesMate D post xp S0 a0) : xI D cy X l yX11_forcesMate wz_X11_forcesMate r_X11_forcesMate [.ref a0] S0 (fun r S9 => wX D S0 S9 ∧ post r S9) (fun E S9 => wX D S0 S9 ∧ xp E S9) := by
  intro sz
  refine vx_ofW (cc := cX11_forcesMate) (maxL := 1) (ret := (some .int)) (by decide) rfl ?_
  intro p e s m args below meth c s₁ B hml hexc hv
  obtain ⟨rfl, hsz, hP, hK, hD0, hRO⟩ := hv
  have hts := atoms_spec (ws := wz_X11_forcesMate) B.pre
  have hown : s.vm.findClass RX11 = some m.cls := findClass_of_methodNamed B.named
  subst hsz
  have hD := hD0.self (sz := s.heap.size)
  have F : CallFix p m c cX11_forcesMate 1 s _ wz_X11_forcesMate RX11 := ⟨B.exec, B.bytes, hml, hown, hts⟩
  have hr := B.returns
  have hlocks := B.notSynchronized
  generalize hAe : va_A (wL cy X S0) s.heap.size = A at hD hK ⊢
  have hA : ∀ q, s.heap.size ≤ q → A q := fun q h => by rw [← hAe]; exact Or.inr h
  have hW : wO D cy X A s.heap S0 s.heap [] := ⟨hP, hD, va_S.rf, hA, hRO⟩
  have hl := lv_entry ([.ref a0]) (n := 1) (Nat.le_of_ble_eq_true rfl)
  rw [lg_entry_eq]
  generalize (lg_sl ([.ref a0]) ++ List.replicate (1 - (lg_sl ([.ref a0])).length) Slot.unset).toArray = ls at hl ⊢
  have hl : lv_has ls 1 [(0, .ref a0)] := hl
  unfold wp_X11_forcesMate at hp
  exact t_X11_forcesMate_0 F hr hlocks hK hl0 hexc hp hW wX.rf (lv_sub hl [0] rfl) hL_a0 hK_a0
def wp_X11_greatestDivisor_34 (D : wD) (post : Int32 → wS → Prop)  (S : wS) (x2 : Int32) : Prop :=
post x2 S
def wp_X11_greatestDivisor_7 (D : wD) (post : Int32 → wS → Prop)  : Nat → wS → Int32 → Int32 → Int32 → Prop
  | 0, _, _, _, _ => False
  | n + 1, S, x2, x3, x4 =>
    (((64 : Int32) ≤ x4 → wp_X11_greatestDivisor_34 D post S x2) ∧
     (¬ (64 : Int32) ≤ x4 → ((x3 = 0 → wp_X11_greatestDivisor_34 D post S x2) ∧
     (¬ x3 = 0 → ¬ x3 = 0 ∧
    ∀ x_4 : Int32, x_4 = (x2 - x2 / x3 * x3) →
    ∀ x_5 : Int32, x_5 = x4 + 1 →
    wp_X11_greatestDivisor_7 D post n S x3 x_4 x_5))))
def wp_X11_greatestDivisor_0 (D : wD) (post : Int32 → wS → Prop)  (S : wS) (x0 : Int32) (x1 : Int32) : Prop :=
∃ n_1 : Nat, wp_X11_greatestDivisor_7 D post n_1 S x0 x1 (0 : Int32)
abbrev r_X11_greatestDivisor : Room := { frames := 0, cells := 0, slots := 0, locals := 0 }
def wp_X11_greatestDivisor (D : wD) (post : Int32 → wS → Prop) (S : wS) (x0 : Int32) (x1 : Int32) : Prop := wp_X11_greatestDivisor_0 D post S x0 x1
set_option maxHeartbeats 4000000 in
set_option maxRecDepth 100000 in
theorem t_X11_greatestDivisor_34 {p : Program} {l : Launch} {e : Env} {s : State} {m : MethodId} {args : Array Value} {below : List Frame} {meth : Method} {c : Code} {D : wD} {cy : Nat → ClassId} {X : va_W} {A : Nat → Prop} {S0 : wS} {post : Int32 → wS → Prop} (F : CallFix p m c cX11_greatestDivisor 6 s args wz_X11_greatestDivisor RX11) (hr : meth.sig.returnType = (some .int)) (hlocks : meth.locks = false) (hK : wK D cy A s) : ∀ {S : wS} {H : Heap} {locs : List Loc} {ls : Array Slot} {x2 : Int32}, wp_X11_greatestDivisor_34 D post S x2 → wO D cy X A s.heap S H locs → wX D S0 S → lv_has ls 6 [(2, .int x2)] → W p l e r_X11_greatestDivisor s m args below meth c H locs 0 0 (MQ below (va_Qi (fun r S9 => wX D S0 S9 ∧ post r S9) (wB D cy X A) A) args s 0 0 A) (F0 m 34 ls []) := by
  obtain ⟨hx, hb, hml, hown, hts⟩ := id F
  have hwg : ∀ w ∈ WG, w.before args s = true := fun w h => hts w (List.mem_cons_of_mem _ h)
  intro S H locs ls x2 hp hW hE hl
  unfold wp_X11_greatestDivisor_34 at hp
  refine lv_iload_n hx hb dX11_greatestDivisor_34 rfl (lv_at hl 0 rfl) ?_
  exact w_iret hx hb hr hlocks hW ⟨hE, hp⟩ dX11_greatestDivisor_35
set_option maxHeartbeats 4000000 in
set_option maxRecDepth 100000 in
theorem t_X11_greatestDivisor_7 {p : Program} {l : Launch} {e : Env} {s : State} {m : MethodId} {args : Array Value} {below : List Frame} {meth : Method} {c : Code} {D : wD} {cy : Nat → ClassId} {X : va_W} {A : Nat → Prop} {S0 : wS} {post : Int32 → wS → Prop} (F : CallFix p m c cX11_greatestDivisor 6 s args wz_X11_greatestDivisor RX11) (hr : meth.sig.returnType = (some .int)) (hlocks : meth.locks = false) (hK : wK D cy A s) : ∀ (n : Nat) {S : wS} {H : Heap} {locs : List Loc} {ls : Array Slot} {x2 : Int32} {x3 : Int32} {x4 : Int32}, wp_X11_greatestDivisor_7 D post n S x2 x3 x4 → wO D cy X A s.heap S H locs → wX D S0 S → lv_has ls 6 [(2, .int x2), (3, .int x3), (4, .int x4)] → W p l e r_X11_greatestDivisor s m args below meth c H locs 0 0 (MQ below (va_Qi (fun r S9 => wX D S0 S9 ∧ post r S9) (wB D cy X A) A) args s 0 0 A) (F0 m 7 ls []) := by
  obtain ⟨hx, hb, hml, hown, hts⟩ := id F
  have hwg : ∀ w ∈ WG, w.before args s = true := fun w h => hts w (List.mem_cons_of_mem _ h)
  intro n
  induction n with
  | zero =>
    intro S H locs ls x2 x3 x4 hp
    exact hp.elim
  | succ n ih =>
    intro S H locs ls x2 x3 x4 hp hW hE hl
    unfold wp_X11_greatestDivisor_7 at hp
    refine lv_iload hx hb dX11_greatestDivisor_7 (lv_at hl 2 rfl) ?_
    refine lv_bipush (v := 64) hx hb dX11_greatestDivisor_9 (by decide) ?_
    refine lv_icmp_ge (tgt := 34) hx hb dX11_greatestDivisor_11 (by decide) (fun c_1 => ?_) (fun c_1 => ?_)
    · replace hp := hp.1 c_1
      exact t_X11_greatestDivisor_34 F hr hlocks hK hp hW hE (lv_sub hl [0] rfl)
    · replace hp := hp.2 c_1
      refine lv_iload_n hx hb dX11_greatestDivisor_14 rfl (lv_at hl 1 rfl) ?_
      refine lv_if_eq (tgt := 34) hx hb dX11_greatestDivisor_15 (by decide) (fun c_2 => ?_) (fun c_2 => ?_)
      · replace hp := hp.1 c_2
        exact t_X11_greatestDivisor_34 F hr hlocks hK hp hW hE (lv_sub hl [0] rfl)
      · replace hp := hp.2 c_2
        refine lv_iload_n hx hb dX11_greatestDivisor_18 rfl (lv_at hl 0 rfl) ?_
        refine lv_iload_n hx hb dX11_greatestDivisor_19 rfl (lv_at hl 1 rfl) ?_
        obtain ⟨h_3, hp⟩ := hp
        refine lv_irem hx hb dX11_greatestDivisor_20 h_3 ?_
        refine lv_topi (fun x_4 ex_4 => ?_)
        replace hp := hp x_4 ex_4
        refine lv_istore (lv' := [(5, .int x_4), (2, .int x2), (3, .int x3), (4, .int x4)]) hx hb dX11_greatestDivisor_21 hl (by decide) rfl (fun ls hl => ?_)
        refine lv_iload_n hx hb dX11_greatestDivisor_23 rfl (lv_at hl 2 rfl) ?_
        refine lv_istore_n (lv' := [(2, .int x3), (5, .int x_4), (3, .int x3), (4, .int x4)]) hx hb dX11_greatestDivisor_24 rfl hl (by decide) rfl (fun ls hl => ?_)
        refine lv_iload hx hb dX11_greatestDivisor_25 (lv_at hl 1 rfl) ?_
        refine lv_istore_n (lv' := [(3, .int x_4), (2, .int x3), (5, .int x_4), (4, .int x4)]) hx hb dX11_greatestDivisor_27 rfl hl (by decide) rfl (fun ls hl => ?_)
        obtain ⟨x_5, ex_5⟩ : ∃ z : Int32, z = x4 + 1 := ⟨_, rfl⟩
        replace hp := hp x_5 ex_5
        refine lv_iinc (v := x_5) (lv' := [(4, .int x_5), (3, .int x_4), (2, .int x3), (5, .int x_4)]) hx hb dX11_greatestDivisor_28 hl (k := 3) rfl (by rw [ex_5]; rfl) (by decide) rfl (fun ls hl => ?_)
        refine lv_goto (tgt := 7) hx hb dX11_greatestDivisor_31 (by decide) ?_
        exact ih hp hW hE (lv_sub hl [2, 1, 0] rfl)
set_option maxHeartbeats 4000000 in
set_option maxRecDepth 100000 in
theorem t_X11_greatestDivisor_0 {p : Program} {l : Launch} {e : Env} {s : State} {m : MethodId} {args : Array Value} {below : List Frame} {meth : Method} {c : Code} {D : wD} {cy : Nat → ClassId} {X : va_W} {A : Nat → Prop} {S0 : wS} {post : Int32 → wS → Prop} (F : CallFix p m c cX11_greatestDivisor 6 s args wz_X11_greatestDivisor RX11) (hr : meth.sig.returnType = (some .int)) (hlocks : meth.locks = false) (hK : wK D cy A s) : ∀ {S : wS} {H : Heap} {locs : List Loc} {ls : Array Slot} {x0 : Int32} {x1 : Int32}, wp_X11_greatestDivisor_0 D post S x0 x1 → wO D cy X A s.heap S H locs → wX D S0 S → lv_has ls 6 [(0, .int x0), (1, .int x1)] → W p l e r_X11_greatestDivisor s m args below meth c H locs 0 0 (MQ below (va_Qi (fun r S9 => wX D S0 S9 ∧ post r S9) (wB D cy X A) A) args s 0 0 A) (F0 m 0 ls []) := by
  obtain ⟨hx, hb, hml, hown, hts⟩ := id F
  have hwg : ∀ w ∈ WG, w.before args s = true := fun w h => hts w (List.mem_cons_of_mem _ h)
  intro S H locs ls x0 x1 hp hW hE hl
  unfold wp_X11_greatestDivisor_0 at hp
  refine lv_iload_n hx hb dX11_greatestDivisor_0 rfl (lv_at hl 0 rfl) ?_
  refine lv_istore_n (lv' := [(2, .int x0), (0, .int x0), (1, .int x1)]) hx hb dX11_greatestDivisor_1 rfl hl (by decide) rfl (fun ls hl => ?_)
  refine lv_iload_n hx hb dX11_greatestDivisor_2 rfl (lv_at hl 2 rfl) ?_
  refine lv_istore_n (lv' := [(3, .int x1), (2, .int x0), (0, .int x0), (1, .int x1)]) hx hb dX11_greatestDivisor_3 rfl hl (by decide) rfl (fun ls hl => ?_)
  refine lv_iconst (v := 0) hx hb dX11_greatestDivisor_4 (by decide) ?_
  refine lv_istore (lv' := [(4, .int (0 : Int32)), (3, .int x1), (2, .int x0), (0, .int x0), (1, .int x1)]) hx hb dX11_greatestDivisor_5 hl (by decide) rfl (fun ls hl => ?_)
  obtain ⟨n_1, hp⟩ := hp
  exact t_X11_greatestDivisor_7 F hr hlocks hK n_1 hp hW hE (lv_sub hl [2, 1, 0] rfl)
set_option maxHeartbeats 4000000 in
set_option maxRecDepth 100000 in
theorem c_X11_greatestDivisor (l : Launch) {D : wD} {cy : Nat → ClassId} {X : va_W} {S0 : wS} {post : Int32 → wS → Prop} {x0 : Int32} {x1 : Int32} (hp : wp_X11_greatestDivisor D post S0 x0 x1) : mI D cy X l yX11_greatestDivisor wz_X11_greatestDivisor r_X11_greatestDivisor [.int x0, .int x1] S0 (fun r S9 => wX D S0 S9 ∧ post r S9) := by
  intro sz
  refine Met.ofW (cc := cX11_greatestDivisor) (maxL := 6) (ret := (some .int)) (by decide) rfl ?_
  intro p e s m args below meth c s₁ B hml hv
  obtain ⟨rfl, hsz, hP, hK, hD0, hRO⟩ := hv
  have hts := atoms_spec (ws := wz_X11_greatestDivisor) B.pre
  have hown : s.vm.findClass RX11 = some m.cls := findClass_of_methodNamed B.named
  subst hsz
  have hD := hD0.self (sz := s.heap.size)
  have F : CallFix p m c cX11_greatestDivisor 6 s _ wz_X11_greatestDivisor RX11 := ⟨B.exec, B.bytes, hml, hown, hts⟩
  have hr := B.returns
  have hlocks := B.notSynchronized
  generalize hAe : va_A (wL cy X S0) s.heap.size = A at hD hK ⊢
  have hA : ∀ q, s.heap.size ≤ q → A q := fun q h => by rw [← hAe]; exact Or.inr h
  have hW : wO D cy X A s.heap S0 s.heap [] := ⟨hP, hD, va_S.rf, hA, hRO⟩
  have hl := lv_entry ([.int x0, .int x1]) (n := 6) (Nat.le_of_ble_eq_true rfl)
  rw [lg_entry_eq]
  generalize (lg_sl ([.int x0, .int x1]) ++ List.replicate (6 - (lg_sl ([.int x0, .int x1])).length) Slot.unset).toArray = ls at hl ⊢
  have hl : lv_has ls 6 [(0, .int x0), (1, .int x1)] := hl
  unfold wp_X11_greatestDivisor at hp
  exact t_X11_greatestDivisor_0 F hr hlocks hK hp hW wX.rf (lv_sub hl [0, 1] rfl)
def wp_X11_holds_0 (D : wD) (post : Int32 → wS → Prop)  (S : wS) (a0 : Nat) : Prop :=
∃ y_1 : Nat, sR S a0 2 = some y_1 ∧ wM D S y_1 ∧ sK S y_1 = 12 ∧
∃ y_2 : Nat, sR S a0 15 = some y_2 ∧ wM D S y_2 ∧ sK S y_2 = 21 ∧
wp_X7_fits D (fun r_3 S_4 => 
narrow .boolean (.int r_3) = .int r_3 ∧ post r_3 S_4) S y_1 y_2
abbrev r_X11_holds : Room := { frames := 3, cells := 0, slots := 0, locals := 69 }
def wp_X11_holds (D : wD) (post : Int32 → wS → Prop) (S : wS) (a0 : Nat) : Prop := wp_X11_holds_0 D post S a0
set_option maxHeartbeats 4000000 in
set_option maxRecDepth 100000 in
theorem t_X11_holds_0 {p : Program} {l : Launch} {e : Env} {s : State} {m : MethodId} {args : Array Value} {below : List Frame} {meth : Method} {c : Code} {D : wD} {cy : Nat → ClassId} {X : va_W} {A : Nat → Prop} {S0 : wS} {post : Int32 → wS → Prop} (F : CallFix p m c cX11_holds 1 s args wz_X11_holds RX11) (hr : meth.sig.returnType = (some .boolean)) (hlocks : meth.locks = false) (hK : wK D cy A s) : ∀ {S : wS} {H : Heap} {locs : List Loc} {ls : Array Slot} {a0 : Nat}, wp_X11_holds_0 D post S a0 → wO D cy X A s.heap S H locs → wX D S0 S → lv_has ls 1 [(0, .ref a0)] → wM D S a0 → sK S a0 = 16 → W p l e r_X11_holds s m args below meth c H locs 0 0 (MQ below (va_Qi (fun r S9 => wX D S0 S9 ∧ post r S9) (wB D cy X A) A) args s 0 0 A) (F0 m 0 ls []) := by
  obtain ⟨hx, hb, hml, hown, hts⟩ := id F
  have hwg : ∀ w ∈ WG, w.before args s = true := fun w h => hts w (List.mem_cons_of_mem _ h)
  have i_16 : ∀ w ∈ u_ws RX11 TX11 18, w ∈ wz_X11_holds := fun w h => List.mem_cons_of_mem _ (wu_16 w h)
  have k_112 := hwg _ wf_RX11_112
  have k_28 := hwg _ wf_RX11_28
  intro S H locs ls a0 hp hW hE hl hL_a0 hK_a0
  unfold wp_X11_holds_0 at hp
  refine lv_aload_n hx hb dX11_holds_0 rfl (lv_at hl 0 rfl) ?_
  obtain ⟨y_1, ey_1, hL_y_1, hK_y_1, hp⟩ := hp
  refine w_get (k := 16) (f := 2) (T := TX11) (v := .ref y_1) F hK hW hL_a0 hK_a0 (by decide) rfl rfl (by decide) i_16 k_28 (by rw [show wv 16 2 S a0 = va_rf (sR S a0 2) from rfl, ey_1]; rfl) dX11_holds_1 ?_
  refine lv_aload_n hx hb dX11_holds_4 rfl (lv_at hl 0 rfl) ?_
  obtain ⟨y_2, ey_2, hL_y_2, hK_y_2, hp⟩ := hp
  refine w_get (k := 16) (f := 15) (T := TX11) (v := .ref y_2) F hK hW hL_a0 hK_a0 (by decide) rfl rfl (by decide) i_16 k_112 (by rw [show wv 16 15 S a0 = va_rf (sR S a0 15) from rfl, ey_2]; rfl) dX11_holds_5 ?_
  refine w_callI (va_runV (As := [.ref y_2]) (rest := []) F (c_X7_fits l hL_y_1 hK_y_1 hL_y_2 hK_y_2 hp H.size) (cwV (C := RX7) 1 hts (wg_V wm_RX11_424 wy_X7_fits) rfl rfl rfl (by decide +kernel) ⟨Nat.le_of_ble_eq_true rfl, Nat.le_of_ble_eq_true rfl⟩) (w_preV hK hW hL_y_1 hK_y_1 (by decide) rfl) rfl rfl hl.1 rfl (lv_room (Nat.le_of_ble_eq_true rfl)) dX11_holds_8 ⟨Nat.le_of_ble_eq_true rfl, Nat.le_of_ble_eq_true rfl⟩) hW (fun r_3 S_4 H locs hp hW => ?_)
  obtain ⟨hX_S_4, hp⟩ := hp
  refine W.widen (k := 0) (n := 0) (by decide) (by decide) ?_
  have hE := hE.trans hX_S_4
  have hK_a0 : sK S_4 a0 = 16 := (hX_S_4.2 a0 hL_a0).1.trans hK_a0
  have hL_a0 : wM D S_4 a0 := hX_S_4.M hL_a0
  exact w_zret hx hb hr hlocks hW hp.1 ⟨hE, hp.2⟩ dX11_holds_11
set_option maxHeartbeats 4000000 in
set_option maxRecDepth 100000 in
theorem c_X11_holds (l : Launch) {D : wD} {cy : Nat → ClassId} {X : va_W} {S0 : wS} {post : Int32 → wS → Prop} {a0 : Nat} (hL_a0 : wM D S0 a0) (hK_a0 : sK S0 a0 = 16) (hp : wp_X11_holds D post S0 a0) : mI D cy X l yX11_holds wz_X11_holds r_X11_holds [.ref a0] S0 (fun r S9 => wX D S0 S9 ∧ post r S9) := by
  intro sz
  refine Met.ofW (cc := cX11_holds) (maxL := 1) (ret := (some .boolean)) (by decide) rfl ?_
  intro p e s m args below meth c s₁ B hml hv
  obtain ⟨rfl, hsz, hP, hK, hD0, hRO⟩ := hv
  have hts := atoms_spec (ws := wz_X11_holds) B.pre
  have hown : s.vm.findClass RX11 = some m.cls := findClass_of_methodNamed B.named
  subst hsz
  have hD := hD0.self (sz := s.heap.size)
  have F : CallFix p m c cX11_holds 1 s _ wz_X11_holds RX11 := ⟨B.exec, B.bytes, hml, hown, hts⟩
  have hr := B.returns
  have hlocks := B.notSynchronized
  generalize hAe : va_A (wL cy X S0) s.heap.size = A at hD hK ⊢
  have hA : ∀ q, s.heap.size ≤ q → A q := fun q h => by rw [← hAe]; exact Or.inr h
  have hW : wO D cy X A s.heap S0 s.heap [] := ⟨hP, hD, va_S.rf, hA, hRO⟩
  have hl := lv_entry ([.ref a0]) (n := 1) (Nat.le_of_ble_eq_true rfl)
  rw [lg_entry_eq]
  generalize (lg_sl ([.ref a0]) ++ List.replicate (1 - (lg_sl ([.ref a0])).length) Slot.unset).toArray = ls at hl ⊢
  have hl : lv_has ls 1 [(0, .ref a0)] := hl
  unfold wp_X11_holds at hp
  exact t_X11_holds_0 F hr hlocks hK hp hW wX.rf (lv_sub hl [0] rfl) hL_a0 hK_a0
def wp_X3_begin_0 (D : wD) (post : wS → Prop)  (S : wS) (a0 : Nat) (a1 : Nat) : Prop :=
∀ S_1 : wS, S_1 = uI S a0 3 (0 : Int32) →
∃ y_2 : Nat, sR S_1 a0 0 = some y_2 ∧ wM D S_1 y_2 ∧ sK S_1 y_2 = 22 ∧
wp_X7_save D (fun S_4 => 
post S_4) S_1 a1 y_2 (0 : Int32)
abbrev r_X3_begin : Room := { frames := 2, cells := 0, slots := 0, locals := 43 }
def wp_X3_begin (D : wD) (post : wS → Prop) (S : wS) (a0 : Nat) (a1 : Nat) : Prop := wp_X3_begin_0 D post S a0 a1
set_option maxHeartbeats 4000000 in
set_option maxRecDepth 100000 in
theorem t_X3_begin_0 {p : Program} {l : Launch} {e : Env} {s : State} {m : MethodId} {args : Array Value} {below : List Frame} {meth : Method} {c : Code} {D : wD} {cy : Nat → ClassId} {X : va_W} {A : Nat → Prop} {S0 : wS} {post : wS → Prop} (F : CallFix p m c cX3_begin 2 s args wz_X3_begin RX3) (hr : meth.sig.returnType = none) (hlocks : meth.locks = false) (hK : wK D cy A s) : ∀ {S : wS} {H : Heap} {locs : List Loc} {ls : Array Slot} {a0 : Nat} {a1 : Nat}, wp_X3_begin_0 D post S a0 a1 → wO D cy X A s.heap S H locs → wX D S0 S → lv_has ls 2 [(0, .ref a0), (1, .ref a1)] → wM D S a0 → sK S a0 = 8 → wM D S a1 → sK S a1 = 12 → W p l e r_X3_begin s m args below meth c H locs 0 0 (MQ below (va_Qv (fun S9 => wX D S0 S9 ∧ post S9) (wB D cy X A) A) args s 0 0 A) (F0 m 0 ls []) := by
  obtain ⟨hx, hb, hml, hown, hts⟩ := id F
  have hwg : ∀ w ∈ WG, w.before args s = true := fun w h => hts w (List.mem_cons_of_mem _ h)
  have i_8 : ∀ w ∈ u_ws RX3 TX3 9, w ∈ wz_X3_begin := fun w h => List.mem_cons_of_mem _ (wu_8 w h)
  have k_36 := hwg _ wf_RX3_36
  have k_9 := hwg _ wf_RX3_9
  intro S H locs ls a0 a1 hp hW hE hl hL_a0 hK_a0 hL_a1 hK_a1
  unfold wp_X3_begin_0 at hp
  refine lv_aload_n hx hb dX3_begin_0 rfl (lv_at hl 0 rfl) ?_
  refine lv_iconst (v := 0) hx hb dX3_begin_1 (by decide) ?_
  refine w_putI (k := 8) (f := 3) (T := TX3) F hK hW hL_a0 hK_a0 (by decide) (by decide) rfl rfl (by decide) i_8 tyX3 tyX3_ok nmX3 k_9 rfl rfl (ty := .int) rfl rfl rfl dX3_begin_2 (fun H locs hW => ?_)
  obtain ⟨S_1, eS_1⟩ : ∃ z : wS, z = uI S a0 3 (0 : Int32) := ⟨_, rfl⟩
  rw [← eS_1] at hW
  replace hp := hp S_1 eS_1
  have hX_S_1 : wX D S S_1 := by rw [eS_1]; exact wX_uI
  have hE := hE.trans hX_S_1
  have hK_a0 : sK S_1 a0 = 8 := (hX_S_1.2 a0 hL_a0).1.trans hK_a0
  have hL_a0 : wM D S_1 a0 := hX_S_1.M hL_a0
  have hK_a1 : sK S_1 a1 = 12 := (hX_S_1.2 a1 hL_a1).1.trans hK_a1
  have hL_a1 : wM D S_1 a1 := hX_S_1.M hL_a1
  refine lv_aload_n hx hb dX3_begin_5 rfl (lv_at hl 1 rfl) ?_
  refine lv_aload_n hx hb dX3_begin_6 rfl (lv_at hl 0 rfl) ?_
  obtain ⟨y_2, ey_2, hL_y_2, hK_y_2, hp⟩ := hp
  refine w_get (k := 8) (f := 0) (T := TX3) (v := .ref y_2) F hK hW hL_a0 hK_a0 (by decide) rfl rfl (by decide) i_8 k_36 (by rw [show wv 8 0 S_1 a0 = va_rf (sR S_1 a0 0) from rfl, ey_2]; rfl) dX3_begin_7 ?_
  refine lv_iconst (v := 0) hx hb dX3_begin_10 (by decide) ?_
  refine w_callV (va_runV (As := [.ref y_2, .int (0 : Int32)]) (rest := []) F (c_X7_save l hL_a1 hK_a1 hL_y_2 hK_y_2 hp H.size) (cwV (C := RX7) 2 hts (wg_V wm_RX3_48 wy_X7_save) rfl rfl rfl (by decide +kernel) ⟨Nat.le_of_ble_eq_true rfl, Nat.le_of_ble_eq_true rfl⟩) (w_preV hK hW hL_a1 hK_a1 (by decide) rfl) rfl rfl hl.1 rfl (lv_room (Nat.le_of_ble_eq_true rfl)) dX3_begin_11 ⟨Nat.le_of_ble_eq_true rfl, Nat.le_of_ble_eq_true rfl⟩) hW (fun S_4 H locs hp hW => ?_)
  obtain ⟨hX_S_4, hp⟩ := hp
  refine W.widen (k := 0) (n := 0) (by decide) (by decide) ?_
  have hE := hE.trans hX_S_4
  have hK_a0 : sK S_4 a0 = 8 := (hX_S_4.2 a0 hL_a0).1.trans hK_a0
  have hL_a0 : wM D S_4 a0 := hX_S_4.M hL_a0
  have hK_a1 : sK S_4 a1 = 12 := (hX_S_4.2 a1 hL_a1).1.trans hK_a1
  have hL_a1 : wM D S_4 a1 := hX_S_4.M hL_a1
  exact w_vret hx hb hr hlocks hW ⟨hE, hp⟩ dX3_begin_14
set_option maxHeartbeats 4000000 in
set_option maxRecDepth 100000 in
theorem c_X3_begin (l : Launch) {D : wD} {cy : Nat → ClassId} {X : va_W} {S0 : wS} {post : wS → Prop} {a0 : Nat} {a1 : Nat} (hL_a0 : wM D S0 a0) (hK_a0 : sK S0 a0 = 8) (hL_a1 : wM D S0 a1) (hK_a1 : sK S0 a1 = 12) (hp : wp_X3_begin D post S0 a0 a1) : mV D cy X l yX3_begin wz_X3_begin r_X3_begin [.ref a0, .ref a1] S0 (fun S9 => wX D S0 S9 ∧ post S9) := by
  intro sz
  refine Met.ofW (cc := cX3_begin) (maxL := 2) (ret := none) (by decide) rfl ?_
  intro p e s m args below meth c s₁ B hml hv
  obtain ⟨rfl, hsz, hP, hK, hD0, hRO⟩ := hv
  have hts := atoms_spec (ws := wz_X3_begin) B.pre
  have hown : s.vm.findClass RX3 = some m.cls := findClass_of_methodNamed B.named
  subst hsz
  have hD := hD0.self (sz := s.heap.size)
  have F : CallFix p m c cX3_begin 2 s _ wz_X3_begin RX3 := ⟨B.exec, B.bytes, hml, hown, hts⟩
  have hr := B.returns
  have hlocks := B.notSynchronized
  generalize hAe : va_A (wL cy X S0) s.heap.size = A at hD hK ⊢
  have hA : ∀ q, s.heap.size ≤ q → A q := fun q h => by rw [← hAe]; exact Or.inr h
  have hW : wO D cy X A s.heap S0 s.heap [] := ⟨hP, hD, va_S.rf, hA, hRO⟩
  have hl := lv_entry ([.ref a0, .ref a1]) (n := 2) (Nat.le_of_ble_eq_true rfl)
  rw [lg_entry_eq]
  generalize (lg_sl ([.ref a0, .ref a1]) ++ List.replicate (2 - (lg_sl ([.ref a0, .ref a1])).length) Slot.unset).toArray = ls at hl ⊢
  have hl : lv_has ls 2 [(0, .ref a0), (1, .ref a1)] := hl
  unfold wp_X3_begin at hp
  exact t_X3_begin_0 F hr hlocks hK hp hW wX.rf (lv_sub hl [0, 1] rfl) hL_a0 hK_a0 hL_a1 hK_a1
def wp_X7_clear_0 (D : wD) (post : wS → Prop)  (S : wS) (a0 : Nat) : Prop :=
∀ S_1 : wS, S_1 = uJ S a0 1 (0 : Int64) →
∀ S_2 : wS, S_2 = uJ S_1 a0 2 (0 : Int64) →
∀ S_3 : wS, S_3 = uJ S_2 a0 3 (0 : Int64) →
∀ S_4 : wS, S_4 = uJ S_3 a0 4 (0 : Int64) →
narrow .boolean (.int (1 : Int32)) = .int (1 : Int32) ∧ fits .boolean (.int (1 : Int32)) = true ∧
∀ S_5 : wS, S_5 = uI S_4 a0 5 (1 : Int32) →
∀ S_7 : wS, S_7 = uI S_5 a0 6 (0 : Int32) →
∀ S_8 : wS, S_8 = uI S_7 a0 7 (-1 : Int32) →
post S_8
abbrev r_X7_clear : Room := { frames := 0, cells := 0, slots := 0, locals := 0 }
def wp_X7_clear (D : wD) (post : wS → Prop) (S : wS) (a0 : Nat) : Prop := wp_X7_clear_0 D post S a0
set_option maxHeartbeats 4000000 in
set_option maxRecDepth 100000 in
theorem t_X7_clear_0 {p : Program} {l : Launch} {e : Env} {s : State} {m : MethodId} {args : Array Value} {below : List Frame} {meth : Method} {c : Code} {D : wD} {cy : Nat → ClassId} {X : va_W} {A : Nat → Prop} {S0 : wS} {post : wS → Prop} (F : CallFix p m c cX7_clear 1 s args wz_X7_clear RX7) (hr : meth.sig.returnType = none) (hlocks : meth.locks = false) (hK : wK D cy A s) : ∀ {S : wS} {H : Heap} {locs : List Loc} {ls : Array Slot} {a0 : Nat}, wp_X7_clear_0 D post S a0 → wO D cy X A s.heap S H locs → wX D S0 S → lv_has ls 1 [(0, .ref a0)] → wM D S a0 → sK S a0 = 12 → W p l e r_X7_clear s m args below meth c H locs 0 0 (MQ below (va_Qv (fun S9 => wX D S0 S9 ∧ post S9) (wB D cy X A) A) args s 0 0 A) (F0 m 0 ls []) := by
  obtain ⟨hx, hb, hml, hown, hts⟩ := id F
  have hwg : ∀ w ∈ WG, w.before args s = true := fun w h => hts w (List.mem_cons_of_mem _ h)
  have i_12 : ∀ w ∈ u_ws RX7 TX7 8, w ∈ wz_X7_clear := fun w h => List.mem_cons_of_mem _ (wu_12 w h)
  have k_15 := hwg _ wf_RX7_15
  have k_18 := hwg _ wf_RX7_18
  have k_21 := hwg _ wf_RX7_21
  have k_24 := hwg _ wf_RX7_24
  have k_28 := hwg _ wf_RX7_28
  have k_32 := hwg _ wf_RX7_32
  have k_9 := hwg _ wf_RX7_9
  intro S H locs ls a0 hp hW hE hl hL_a0 hK_a0
  unfold wp_X7_clear_0 at hp
  refine lv_aload_n hx hb dX7_clear_0 rfl (lv_at hl 0 rfl) ?_
  refine lv_lconst (v := 0) hx hb dX7_clear_1 (by decide) ?_
  refine w_putJ (k := 12) (f := 1) (T := TX7) F hK hW hL_a0 hK_a0 (by decide) (by decide) rfl rfl (by decide) i_12 tyX7 tyX7_ok nmX7 k_9 rfl rfl rfl dX7_clear_2 (fun H locs hW => ?_)
  obtain ⟨S_1, eS_1⟩ : ∃ z : wS, z = uJ S a0 1 (0 : Int64) := ⟨_, rfl⟩
  rw [← eS_1] at hW
  replace hp := hp S_1 eS_1
  have hX_S_1 : wX D S S_1 := by rw [eS_1]; exact wX_uJ
  have hE := hE.trans hX_S_1
  have hK_a0 : sK S_1 a0 = 12 := (hX_S_1.2 a0 hL_a0).1.trans hK_a0
  have hL_a0 : wM D S_1 a0 := hX_S_1.M hL_a0
  refine lv_aload_n hx hb dX7_clear_5 rfl (lv_at hl 0 rfl) ?_
  refine lv_lconst (v := 0) hx hb dX7_clear_6 (by decide) ?_
  refine w_putJ (k := 12) (f := 2) (T := TX7) F hK hW hL_a0 hK_a0 (by decide) (by decide) rfl rfl (by decide) i_12 tyX7 tyX7_ok nmX7 k_15 rfl rfl rfl dX7_clear_7 (fun H locs hW => ?_)
  obtain ⟨S_2, eS_2⟩ : ∃ z : wS, z = uJ S_1 a0 2 (0 : Int64) := ⟨_, rfl⟩
  rw [← eS_2] at hW
  replace hp := hp S_2 eS_2
  have hX_S_2 : wX D S_1 S_2 := by rw [eS_2]; exact wX_uJ
  have hE := hE.trans hX_S_2
  have hK_a0 : sK S_2 a0 = 12 := (hX_S_2.2 a0 hL_a0).1.trans hK_a0
  have hL_a0 : wM D S_2 a0 := hX_S_2.M hL_a0
  refine lv_aload_n hx hb dX7_clear_10 rfl (lv_at hl 0 rfl) ?_
  refine lv_lconst (v := 0) hx hb dX7_clear_11 (by decide) ?_
  refine w_putJ (k := 12) (f := 3) (T := TX7) F hK hW hL_a0 hK_a0 (by decide) (by decide) rfl rfl (by decide) i_12 tyX7 tyX7_ok nmX7 k_18 rfl rfl rfl dX7_clear_12 (fun H locs hW => ?_)
  obtain ⟨S_3, eS_3⟩ : ∃ z : wS, z = uJ S_2 a0 3 (0 : Int64) := ⟨_, rfl⟩
  rw [← eS_3] at hW
  replace hp := hp S_3 eS_3
  have hX_S_3 : wX D S_2 S_3 := by rw [eS_3]; exact wX_uJ
  have hE := hE.trans hX_S_3
  have hK_a0 : sK S_3 a0 = 12 := (hX_S_3.2 a0 hL_a0).1.trans hK_a0
  have hL_a0 : wM D S_3 a0 := hX_S_3.M hL_a0
  refine lv_aload_n hx hb dX7_clear_15 rfl (lv_at hl 0 rfl) ?_
  refine lv_lconst (v := 0) hx hb dX7_clear_16 (by decide) ?_
  refine w_putJ (k := 12) (f := 4) (T := TX7) F hK hW hL_a0 hK_a0 (by decide) (by decide) rfl rfl (by decide) i_12 tyX7 tyX7_ok nmX7 k_21 rfl rfl rfl dX7_clear_17 (fun H locs hW => ?_)
  obtain ⟨S_4, eS_4⟩ : ∃ z : wS, z = uJ S_3 a0 4 (0 : Int64) := ⟨_, rfl⟩
  rw [← eS_4] at hW
  replace hp := hp S_4 eS_4
  have hX_S_4 : wX D S_3 S_4 := by rw [eS_4]; exact wX_uJ
  have hE := hE.trans hX_S_4
  have hK_a0 : sK S_4 a0 = 12 := (hX_S_4.2 a0 hL_a0).1.trans hK_a0
  have hL_a0 : wM D S_4 a0 := hX_S_4.M hL_a0
  refine lv_aload_n hx hb dX7_clear_20 rfl (lv_at hl 0 rfl) ?_
  refine lv_iconst (v := 1) hx hb dX7_clear_21 (by decide) ?_
  obtain ⟨h_6, h_6f, hp⟩ := hp
  refine w_putI (k := 12) (f := 5) (T := TX7) F hK hW hL_a0 hK_a0 (by decide) (by decide) rfl rfl (by decide) i_12 tyX7 tyX7_ok nmX7 k_24 rfl rfl (ty := .boolean) rfl h_6 h_6f dX7_clear_22 (fun H locs hW => ?_)
  obtain ⟨S_5, eS_5⟩ : ∃ z : wS, z = uI S_4 a0 5 (1 : Int32) := ⟨_, rfl⟩
  rw [← eS_5] at hW
  replace hp := hp S_5 eS_5
  have hX_S_5 : wX D S_4 S_5 := by rw [eS_5]; exact wX_uI
  have hE := hE.trans hX_S_5
  have hK_a0 : sK S_5 a0 = 12 := (hX_S_5.2 a0 hL_a0).1.trans hK_a0
  have hL_a0 : wM D S_5 a0 := hX_S_5.M hL_a0
  refine lv_aload_n hx hb dX7_clear_25 rfl (lv_at hl 0 rfl) ?_
  refine lv_iconst (v := 0) hx hb dX7_clear_26 (by decide) ?_
  refine w_putI (k := 12) (f := 6) (T := TX7) F hK hW hL_a0 hK_a0 (by decide) (by decide) rfl rfl (by decide) i_12 tyX7 tyX7_ok nmX7 k_28 rfl rfl (ty := .int) rfl rfl rfl dX7_clear_27 (fun H locs hW => ?_)
  obtain ⟨S_7, eS_7⟩ : ∃ z : wS, z = uI S_5 a0 6 (0 : Int32) := ⟨_, rfl⟩
  rw [← eS_7] at hW
  replace hp := hp S_7 eS_7
  have hX_S_7 : wX D S_5 S_7 := by rw [eS_7]; exact wX_uI
  have hE := hE.trans hX_S_7
  have hK_a0 : sK S_7 a0 = 12 := (hX_S_7.2 a0 hL_a0).1.trans hK_a0
  have hL_a0 : wM D S_7 a0 := hX_S_7.M hL_a0
  refine lv_aload_n hx hb dX7_clear_30 rfl (lv_at hl 0 rfl) ?_
  refine lv_iconst (v := (-1)) hx hb dX7_clear_31 (by decide) ?_
  refine w_putI (k := 12) (f := 7) (T := TX7) F hK hW hL_a0 hK_a0 (by decide) (by decide) rfl rfl (by decide) i_12 tyX7 tyX7_ok nmX7 k_32 rfl rfl (ty := .int) rfl rfl rfl dX7_clear_32 (fun H locs hW => ?_)
  obtain ⟨S_8, eS_8⟩ : ∃ z : wS, z = uI S_7 a0 7 (-1 : Int32) := ⟨_, rfl⟩
  rw [← eS_8] at hW
  replace hp := hp S_8 eS_8
  have hX_S_8 : wX D S_7 S_8 := by rw [eS_8]; exact wX_uI
  have hE := hE.trans hX_S_8
  have hK_a0 : sK S_8 a0 = 12 := (hX_S_8.2 a0 hL_a0).1.trans hK_a0
  have hL_a0 : wM D S_8 a0 := hX_S_8.M hL_a0
  exact w_vret hx hb hr hlocks hW ⟨hE, hp⟩ dX7_clear_35
set_option maxHeartbeats 4000000 in
set_option maxRecDepth 100000 in
theorem c_X7_clear (l : Launch) {D : wD} {cy : Nat → ClassId} {X : va_W} {S0 : wS} {post : wS → Prop} {a0 : Nat} (hL_a0 : wM D S0 a0) (hK_a0 : sK S0 a0 = 12) (hp : wp_X7_clear D post S0 a0) : mV D cy X l yX7_clear wz_X7_clear r_X7_clear [.ref a0] S0 (fun S9 => wX D S0 S9 ∧ post S9) := by
  intro sz
  refine Met.ofW (cc := cX7_clear) (maxL := 1) (ret := none) (by decide) rfl ?_
  intro p e s m args below meth c s₁ B hml hv
  obtain ⟨rfl, hsz, hP, hK, hD0, hRO⟩ := hv
  have hts := atoms_spec (ws := wz_X7_clear) B.pre
  have hown : s.vm.findClass RX7 = some m.cls := findClass_of_methodNamed B.named
  subst hsz
  have hD := hD0.self (sz := s.heap.size)
  have F : CallFix p m c cX7_clear 1 s _ wz_X7_clear RX7 := ⟨B.exec, B.bytes, hml, hown, hts⟩
  have hr := B.returns
  have hlocks := B.notSynchronized
  generalize hAe : va_A (wL cy X S0) s.heap.size = A at hD hK ⊢
  have hA : ∀ q, s.heap.size ≤ q → A q := fun q h => by rw [← hAe]; exact Or.inr h
  have hW : wO D cy X A s.heap S0 s.heap [] := ⟨hP, hD, va_S.rf, hA, hRO⟩
  have hl := lv_entry ([.ref a0]) (n := 1) (Nat.le_of_ble_eq_true rfl)
  rw [lg_entry_eq]
  generalize (lg_sl ([.ref a0]) ++ List.replicate (1 - (lg_sl ([.ref a0])).length) Slot.unset).toArray = ls at hl ⊢
  have hl : lv_has ls 1 [(0, .ref a0)] := hl
  unfold wp_X7_clear at hp
  exact t_X7_clear_0 F hr hlocks hK hp hW wX.rf (lv_sub hl [0] rfl) hL_a0 hK_a0
def wp_X11_isAttacked_31 (D : wD) (post : Int32 → wS → Prop) (xp : String → wS → Prop)  (S : wS) (t0 : Int32) : Prop :=
narrow .boolean (.int t0) = .int t0 ∧ post t0 S
def wp_X11_isAttacked_0 (D : wD) (post : Int32 → wS → Prop) (xp : String → wS → Prop)  (S : wS) (a0 : Nat) (x1 : Int32) (x2 : Int32) : Prop :=
wp_X11_mustBeSquare D (fun S_2 => 
∃ y_3 : Nat, sR S_2 a0 2 = some y_3 ∧ wM D S_2 y_3 ∧ sK S_2 y_3 = 12 ∧
∃ y_4 : Nat, sR S_2 a0 2 = some y_4 ∧ wM D S_2 y_4 ∧ sK S_2 y_4 = 12 ∧
wp_X7_occupied D (fun r_5 S_6 => 
wp_X7_attackers D (fun r_7 S_8 => 
(((lg_cmp r_7 (0 : Int64)) = 0 → wp_X11_isAttacked_31 D post xp S_8 (0 : Int32)) ∧
 (¬ (lg_cmp r_7 (0 : Int64)) = 0 → wp_X11_isAttacked_31 D post xp S_8 (1 : Int32)))) S_6 y_3 x1 x2 r_5) S_2 y_4) xp S a0 x1
abbrev r_X11_isAttacked : Room := { frames := 7, cells := 1, slots := 6, locals := 141 }
def wp_X11_isAttacked (D : wD) (post : Int32 → wS → Prop) (xp : String → wS → Prop) (S : wS) (a0 : Nat) (x1 : Int32) (x2 : Int32) : Prop := wp_X11_isAttacked_0 D post xp S a0 x1 x2
set_option maxHeartbeats 4000000 in
set_option maxRecDepth 100000 in
theorem t_X11_isAttacked_31 {p : Program} {l : Launch} {e : Env} {s : State} {m : MethodId} {args : Array Value} {below : List Frame} {meth : Method} {c : Code} {D : wD} {cy : Nat → ClassId} {X : va_W} {A : Nat → Prop} {S0 : wS} {post : Int32 → wS → Prop} {xp : String → wS → Prop} (F : CallFix p m c cX11_isAttacked 3 s args wz_X11_isAttacked RX11) (hr : meth.sig.returnType = (some .boolean)) (hlocks : meth.locks = false) (hK : wK D cy A s) (hl0 : l.stackTraces = false) (hexc : ∀ x ∈ c.exceptionTable.toList, False) : ∀ {S : wS} {H : Heap} {locs : List Loc} {ls : Array Slot} {t0 : Int32}, wp_X11_isAttacked_31 D post xp S t0 → wO D cy X A s.heap S H locs → wX D S0 S → lv_has ls 3 [] → W p l e r_X11_isAttacked s m args below meth c H locs 1 6 (vx_MQ below (va_Qi (fun r S9 => wX D S0 S9 ∧ post r S9) (wB D cy X A) A) (wEx D cy X A (fun E S9 => wX D S0 S9 ∧ xp E S9)) args s 1 6 A) (F0 m 31 ls [.int t0]) := by
  obtain ⟨hx, hb, hml, hown, hts⟩ := id F
  have hwg : ∀ w ∈ WG, w.before args s = true := fun w h => hts w (List.mem_cons_of_mem _ h)
  intro S H locs ls t0 hp hW hE hl
  unfold wp_X11_isAttacked_31 at hp
  refine vx_ret ?_
  exact w_zret hx hb hr hlocks hW hp.1 ⟨hE, hp.2⟩ dX11_isAttacked_31
set_option maxHeartbeats 4000000 in
set_option maxRecDepth 100000 in
theorem t_X11_isAttacked_0 {p : Program} {l : Launch} {e : Env} {s : State} {m : MethodId} {args : Array Value} {below : List Frame} {meth : Method} {c : Code} {D : wD} {cy : Nat → ClassId} {X : va_W} {A : Nat → Prop} {S0 : wS} {post : Int32 → wS → Prop} {xp : String → wS → Prop} (F : CallFix p m c cX11_isAttacked 3 s args wz_X11_isAttacked RX11) (hr : meth.sig.returnType = (some .boolean)) (hlocks : meth.locks = false) (hK : wK D cy A s) (hl0 : l.stackTraces = false) (hexc : ∀ x ∈ c.exceptionTable.toList, False) : ∀ {S : wS} {H : Heap} {locs : List Loc} {ls : Array Slot} {a0 : Nat} {x1 : Int32} {x2 : Int32}, wp_X11_isAttacked_0 D post xp S a0 x1 x2 → wO D cy X A s.heap S H locs → wX D S0 S → lv_has ls 3 [(0, .ref a0), (1, .int x1), (2, .int x2)] → wM D S a0 → sK S a0 = 16 → W p l e r_X11_isAttacked s m args below meth c H locs 0 0 (vx_MQ below (va_Qi (fun r S9 => wX D S0 S9 ∧ post r S9) (wB D cy X A) A) (wEx D cy X A (fun E S9 => wX D S0 S9 ∧ xp E S9)) args s 1 6 A) (F0 m 0 ls []) := by
  obtain ⟨hx, hb, hml, hown, hts⟩ := id F
  have hwg : ∀ w ∈ WG, w.before args s = true := fun w h => hts w (List.mem_cons_of_mem _ h)
  have i_16 : ∀ w ∈ u_ws RX11 TX11 18, w ∈ wz_X11_isAttacked := fun w h => List.mem_cons_of_mem _ (wu_16 w h)
  have k_28 := hwg _ wf_RX11_28
  intro S H locs ls a0 x1 x2 hp hW hE hl hL_a0 hK_a0
  unfold wp_X11_isAttacked_0 at hp
  refine lv_aload_n hx hb dX11_isAttacked_0 rfl (lv_at hl 0 rfl) ?_
  refine lv_iload_n hx hb dX11_isAttacked_1 rfl (lv_at hl 1 rfl) ?_
  refine x_callV (vx_runV (As := [.int x1]) (rest := []) F (c_X11_mustBeSquare l hl0 hL_a0 hK_a0 hp H.size) (cwV (C := RX11) 1 hts (wg_V wm_RX11_160 wy_X11_mustBeSquare) rfl rfl rfl (by decide +kernel) ⟨Nat.le_of_ble_eq_true rfl, Nat.le_of_ble_eq_true rfl⟩) (w_preV hK hW hL_a0 hK_a0 (by decide) rfl) rfl rfl hl.1 rfl (lv_room (Nat.le_of_ble_eq_true rfl)) dX11_isAttacked_2 ⟨Nat.le_of_ble_eq_true rfl, Nat.le_of_ble_eq_true rfl⟩) hW (fun E ce q9 S9 H locs hp hW h1 h2 h3 => x_out hexc hlocks ⟨hE.trans hp.1, hp.2⟩ hW h1 h2 h3 (by decide) (by decide)) (fun S_2 H locs hp hW => ?_)
  obtain ⟨hX_S_2, hp⟩ := hp
  refine W.widen (k := 1) (n := 6) (by decide) (by decide) ?_
  have hE := hE.trans hX_S_2
  have hK_a0 : sK S_2 a0 = 16 := (hX_S_2.2 a0 hL_a0).1.trans hK_a0
  have hL_a0 : wM D S_2 a0 := hX_S_2.M hL_a0
  refine lv_aload_n hx hb dX11_isAttacked_5 rfl (lv_at hl 0 rfl) ?_
  obtain ⟨y_3, ey_3, hL_y_3, hK_y_3, hp⟩ := hp
  refine w_get (k := 16) (f := 2) (T := TX11) (v := .ref y_3) F hK hW hL_a0 hK_a0 (by decide) rfl rfl (by decide) i_16 k_28 (by rw [show wv 16 2 S_2 a0 = va_rf (sR S_2 a0 2) from rfl, ey_3]; rfl) dX11_isAttacked_6 ?_
  refine lv_iload_n hx hb dX11_isAttacked_9 rfl (lv_at hl 1 rfl) ?_
  refine lv_iload_n hx hb dX11_isAttacked_10 rfl (lv_at hl 2 rfl) ?_
  refine lv_aload_n hx hb dX11_isAttacked_11 rfl (lv_at hl 0 rfl) ?_
  obtain ⟨y_4, ey_4, hL_y_4, hK_y_4, hp⟩ := hp
  refine w_get (k := 16) (f := 2) (T := TX11) (v := .ref y_4) F hK hW hL_a0 hK_a0 (by decide) rfl rfl (by decide) i_16 k_28 (by rw [show wv 16 2 S_2 a0 = va_rf (sR S_2 a0 2) from rfl, ey_4]; rfl) dX11_isAttacked_12 ?_
  refine w_callJ (va_runV (As := []) (rest := [.int x2, .int x1, .ref y_3]) F (c_X7_occupied l hL_y_4 hK_y_4 hp H.size) (cwV (C := RX7) 0 hts (wg_V wm_RX11_199 wy_X7_occupied) rfl rfl rfl (by decide +kernel) ⟨Nat.le_of_ble_eq_true rfl, Nat.le_of_ble_eq_true rfl⟩) (w_preV hK hW hL_y_4 hK_y_4 (by decide) rfl) rfl rfl hl.1 rfl (lv_room (Nat.le_of_ble_eq_true rfl)) dX11_isAttacked_15 ⟨Nat.le_of_ble_eq_true rfl, Nat.le_of_ble_eq_true rfl⟩) hW (fun r_5 S_6 H locs hp hW => ?_)
  obtain ⟨hX_S_6, hp⟩ := hp
  refine W.widen (k := 1) (n := 6) (by decide) (by decide) ?_
  have hE := hE.trans hX_S_6
  have hK_a0 : sK S_6 a0 = 16 := (hX_S_6.2 a0 hL_a0).1.trans hK_a0
  have hL_a0 : wM D S_6 a0 := hX_S_6.M hL_a0
  have hK_y_3 : sK S_6 y_3 = 12 := (hX_S_6.2 y_3 hL_y_3).1.trans hK_y_3
  have hL_y_3 : wM D S_6 y_3 := hX_S_6.M hL_y_3
  refine w_callJ (va_runV (As := [.int x1, .int x2, .long r_5]) (rest := []) F (c_X7_attackers l hL_y_3 hK_y_3 hp H.size) (cwV (C := RX7) 3 hts (wg_V wm_RX11_213 wy_X7_attackers) rfl rfl rfl (by decide +kernel) ⟨Nat.le_of_ble_eq_true rfl, Nat.le_of_ble_eq_true rfl⟩) (w_preV hK hW hL_y_3 hK_y_3 (by decide) rfl) rfl rfl hl.1 rfl (lv_room (Nat.le_of_ble_eq_true rfl)) dX11_isAttacked_18 ⟨Nat.le_of_ble_eq_true rfl, Nat.le_of_ble_eq_true rfl⟩) hW (fun r_7 S_8 H locs hp hW => ?_)
  obtain ⟨hX_S_8, hp⟩ := hp
  refine W.widen (k := 1) (n := 6) (by decide) (by decide) ?_
  have hE := hE.trans hX_S_8
  have hK_a0 : sK S_8 a0 = 16 := (hX_S_8.2 a0 hL_a0).1.trans hK_a0
  have hL_a0 : wM D S_8 a0 := hX_S_8.M hL_a0
  refine lv_lconst (v := 0) hx hb dX11_isAttacked_21 (by decide) ?_
  refine W.lcmp hx hb dX11_isAttacked_22 ?_
  refine lv_if_eq (tgt := 30) hx hb dX11_isAttacked_23 (by decide) (fun c_9 => ?_) (fun c_9 => ?_)
  · replace hp := hp.1 c_9
    refine lv_iconst (v := 0) hx hb dX11_isAttacked_30 (by decide) ?_
    exact t_X11_isAttacked_31 F hr hlocks hK hl0 hexc hp hW hE (lv_sub hl [] rfl)
  · replace hp := hp.2 c_9
    refine lv_iconst (v := 1) hx hb dX11_isAttacked_26 (by decide) ?_
    refine lv_goto (tgt := 31) hx hb dX11_isAttacked_27 (by decide) ?_
    exact t_X11_isAttacked_31 F hr hlocks hK hl0 hexc hp hW hE (lv_sub hl [] rfl)
set_option maxHeartbeats 4000000 in
set_option maxRecDepth 100000 in
theorem c_X11_isAttacked (l : Launch) {D : wD} {cy : Nat → ClassId} {X : va_W} {S0 : wS} {post : Int32 → wS → Prop} {xp : String → wS → Prop} (hl0 : l.stackTraces = false) {a0 : Nat} {x1 : Int32} {x2 : Int32} (hL_a0 : wM D S0 a0) (hK_a0 : sK S0 a0 = 16) (hp : wp_X11_isAttacked D post xp S0 a0 x1 x2) : xI D cy X l yX11_isAttacked wz_X11_isAttacked r_X11_isAttacked [.ref a0, .int x1, .int x2] S0 (fun r S9 => wX D S0 S9 ∧ post r S9) (fun E S9 => wX D S0 S9 ∧ xp E S9) := by
  intro sz
  refine vx_ofW (cc := cX11_isAttacked) (maxL := 3) (ret := (some .boolean)) (by decide) rfl ?_
  intro p e s m args below meth c s₁ B hml hexc hv
  obtain ⟨rfl, hsz, hP, hK, hD0, hRO⟩ := hv
  have hts := atoms_spec (ws := wz_X11_isAttacked) B.pre
  have hown : s.vm.findClass RX11 = some m.cls := findClass_of_methodNamed B.named
  subst hsz
  have hD := hD0.self (sz := s.heap.size)
  have F : CallFix p m c cX11_isAttacked 3 s _ wz_X11_isAttacked RX11 := ⟨B.exec, B.bytes, hml, hown, hts⟩
  have hr := B.returns
  have hlocks := B.notSynchronized
  generalize hAe : va_A (wL cy X S0) s.heap.size = A at hD hK ⊢
  have hA : ∀ q, s.heap.size ≤ q → A q := fun q h => by rw [← hAe]; exact Or.inr h
  have hW : wO D cy X A s.heap S0 s.heap [] := ⟨hP, hD, va_S.rf, hA, hRO⟩
  have hl := lv_entry ([.ref a0, .int x1, .int x2]) (n := 3) (Nat.le_of_ble_eq_true rfl)
  rw [lg_entry_eq]
  generalize (lg_sl ([.ref a0, .int x1, .int x2]) ++ List.replicate (3 - (lg_sl ([.ref a0, .int x1, .int x2])).length) Slot.unset).toArray = ls at hl ⊢
  have hl : lv_has ls 3 [(0, .ref a0), (1, .int x1), (2, .int x2)] := hl
  unfold wp_X11_isAttacked at hp
  exact t_X11_isAttacked_0 F hr hlocks hK hl0 hexc hp hW wX.rf (lv_sub hl [0, 1, 2] rfl) hL_a0 hK_a0
