theorem dX10_gameAt_0 : decode cX10_gameAt 0 = .ok (.iload_n 1, 1) := by decide +kernel
theorem dX10_gameAt_1 : decode cX10_gameAt 1 = .ok (.ifCond .lt 28, 3) := by decide +kernel
theorem dX10_gameAt_4 : decode cX10_gameAt 4 = .ok (.iload_n 1, 1) := by decide +kernel
theorem dX10_gameAt_5 : decode cX10_gameAt 5 = .ok (.aload_n 0, 1) := by decide +kernel
theorem dX10_gameAt_6 : decode cX10_gameAt 6 = .ok (.getfield 12, 3) := by decide +kernel
theorem dX10_gameAt_9 : decode cX10_gameAt 9 = .ok (.invokevirtual 18, 3) := by decide +kernel
theorem dX10_gameAt_12 : decode cX10_gameAt 12 = .ok (.if_icmp .ge 17, 3) := by decide +kernel
theorem dX10_gameAt_15 : decode cX10_gameAt 15 = .ok (.aload_n 0, 1) := by decide +kernel
theorem dX10_gameAt_16 : decode cX10_gameAt 16 = .ok (.getfield 12, 3) := by decide +kernel
theorem dX10_gameAt_19 : decode cX10_gameAt 19 = .ok (.iload_n 1, 1) := by decide +kernel
theorem dX10_gameAt_20 : decode cX10_gameAt 20 = .ok (.invokevirtual 25, 3) := by decide +kernel
theorem dX10_gameAt_23 : decode cX10_gameAt 23 = .ok (.checkcast 29, 3) := by decide +kernel
theorem dX10_gameAt_26 : decode cX10_gameAt 26 = .ok (.goto 4, 3) := by decide +kernel
theorem dX10_gameAt_29 : decode cX10_gameAt 29 = .ok (.aconst_null, 1) := by decide +kernel
theorem dX10_gameAt_30 : decode cX10_gameAt 30 = .ok (.areturn, 1) := by decide +kernel
theorem dX10_isKnown_0 : decode cX10_isKnown 0 = .ok (.iconst 0, 1) := by decide +kernel
theorem dX10_isKnown_1 : decode cX10_isKnown 1 = .ok (.istore_n 3, 1) := by decide +kernel
theorem dX10_isKnown_2 : decode cX10_isKnown 2 = .ok (.iload_n 3, 1) := by decide +kernel
theorem dX10_isKnown_3 : decode cX10_isKnown 3 = .ok (.iload_n 2, 1) := by decide +kernel
theorem dX10_isKnown_4 : decode cX10_isKnown 4 = .ok (.if_icmp .ge 21, 3) := by decide +kernel
theorem dX10_isKnown_7 : decode cX10_isKnown 7 = .ok (.aload_n 1, 1) := by decide +kernel
theorem dX10_isKnown_8 : decode cX10_isKnown 8 = .ok (.iload_n 2, 1) := by decide +kernel
theorem dX10_isKnown_9 : decode cX10_isKnown 9 = .ok (.aload_n 1, 1) := by decide +kernel
theorem dX10_isKnown_10 : decode cX10_isKnown 10 = .ok (.iload_n 3, 1) := by decide +kernel
theorem dX10_isKnown_11 : decode cX10_isKnown 11 = .ok (.invokevirtual 47, 3) := by decide +kernel
theorem dX10_isKnown_14 : decode cX10_isKnown 14 = .ok (.ifCond .eq 5, 3) := by decide +kernel
theorem dX10_isKnown_17 : decode cX10_isKnown 17 = .ok (.iconst 1, 1) := by decide +kernel
theorem dX10_isKnown_18 : decode cX10_isKnown 18 = .ok (.ireturn, 1) := by decide +kernel
theorem dX10_isKnown_19 : decode cX10_isKnown 19 = .ok (.iinc 3 1, 3) := by decide +kernel
theorem dX10_isKnown_22 : decode cX10_isKnown 22 = .ok (.goto (-20), 3) := by decide +kernel
theorem dX10_isKnown_25 : decode cX10_isKnown 25 = .ok (.iconst 0, 1) := by decide +kernel
theorem dX10_isKnown_26 : decode cX10_isKnown 26 = .ok (.istore_n 3, 1) := by decide +kernel
theorem dX10_isKnown_27 : decode cX10_isKnown 27 = .ok (.iload_n 3, 1) := by decide +kernel
theorem dX10_isKnown_28 : decode cX10_isKnown 28 = .ok (.aload_n 0, 1) := by decide +kernel
theorem dX10_isKnown_29 : decode cX10_isKnown 29 = .ok (.getfield 12, 3) := by decide +kernel
theorem dX10_isKnown_32 : decode cX10_isKnown 32 = .ok (.invokevirtual 18, 3) := by decide +kernel
theorem dX10_isKnown_35 : decode cX10_isKnown 35 = .ok (.if_icmp .ge 54, 3) := by decide +kernel
theorem dX10_isKnown_38 : decode cX10_isKnown 38 = .ok (.aload_n 0, 1) := by decide +kernel
theorem dX10_isKnown_39 : decode cX10_isKnown 39 = .ok (.iload_n 3, 1) := by decide +kernel
theorem dX10_isKnown_40 : decode cX10_isKnown 40 = .ok (.invokevirtual 51, 3) := by decide +kernel
theorem dX10_isKnown_43 : decode cX10_isKnown 43 = .ok (.astore 4, 2) := by decide +kernel
theorem dX10_isKnown_45 : decode cX10_isKnown 45 = .ok (.iconst 0, 1) := by decide +kernel
theorem dX10_isKnown_46 : decode cX10_isKnown 46 = .ok (.istore 5, 2) := by decide +kernel
theorem dX10_isKnown_48 : decode cX10_isKnown 48 = .ok (.aload 4, 2) := by decide +kernel
theorem dX10_isKnown_50 : decode cX10_isKnown 50 = .ok (.ifnull 33, 3) := by decide +kernel
theorem dX10_isKnown_53 : decode cX10_isKnown 53 = .ok (.iload 5, 2) := by decide +kernel
theorem dX10_isKnown_55 : decode cX10_isKnown 55 = .ok (.aload 4, 2) := by decide +kernel
theorem dX10_isKnown_57 : decode cX10_isKnown 57 = .ok (.getfield 31, 3) := by decide +kernel
theorem dX10_isKnown_60 : decode cX10_isKnown 60 = .ok (.if_icmp .gt 23, 3) := by decide +kernel
theorem dX10_isKnown_63 : decode cX10_isKnown 63 = .ok (.aload_n 1, 1) := by decide +kernel
theorem dX10_isKnown_64 : decode cX10_isKnown 64 = .ok (.iload_n 2, 1) := by decide +kernel
theorem dX10_isKnown_65 : decode cX10_isKnown 65 = .ok (.aload 4, 2) := by decide +kernel
theorem dX10_isKnown_67 : decode cX10_isKnown 67 = .ok (.iload 5, 2) := by decide +kernel
theorem dX10_isKnown_69 : decode cX10_isKnown 69 = .ok (.invokevirtual 47, 3) := by decide +kernel
theorem dX10_isKnown_72 : decode cX10_isKnown 72 = .ok (.ifCond .eq 5, 3) := by decide +kernel
theorem dX10_isKnown_75 : decode cX10_isKnown 75 = .ok (.iconst 1, 1) := by decide +kernel
theorem dX10_isKnown_76 : decode cX10_isKnown 76 = .ok (.ireturn, 1) := by decide +kernel
theorem dX10_isKnown_77 : decode cX10_isKnown 77 = .ok (.iinc 5 1, 3) := by decide +kernel
theorem dX10_isKnown_80 : decode cX10_isKnown 80 = .ok (.goto (-32), 3) := by decide +kernel
theorem dX10_isKnown_83 : decode cX10_isKnown 83 = .ok (.iinc 3 1, 3) := by decide +kernel
theorem dX10_isKnown_86 : decode cX10_isKnown 86 = .ok (.goto (-59), 3) := by decide +kernel
theorem dX10_isKnown_89 : decode cX10_isKnown 89 = .ok (.iconst 0, 1) := by decide +kernel
theorem dX10_isKnown_90 : decode cX10_isKnown 90 = .ok (.ireturn, 1) := by decide +kernel
theorem dX10_add_0 : decode cX10_add 0 = .ok (.iconst 0, 1) := by decide +kernel
theorem dX10_add_1 : decode cX10_add 1 = .ok (.istore_n 2, 1) := by decide +kernel
theorem dX10_add_2 : decode cX10_add 2 = .ok (.iload_n 2, 1) := by decide +kernel
theorem dX10_add_3 : decode cX10_add 3 = .ok (.aload_n 1, 1) := by decide +kernel
theorem dX10_add_4 : decode cX10_add 4 = .ok (.getfield 31, 3) := by decide +kernel
theorem dX10_add_7 : decode cX10_add 7 = .ok (.if_icmp .gt 28, 3) := by decide +kernel
theorem dX10_add_10 : decode cX10_add 10 = .ok (.aload_n 1, 1) := by decide +kernel
theorem dX10_add_11 : decode cX10_add 11 = .ok (.iload_n 2, 1) := by decide +kernel
theorem dX10_add_12 : decode cX10_add 12 = .ok (.aload_n 0, 1) := by decide +kernel
theorem dX10_add_13 : decode cX10_add 13 = .ok (.aload_n 1, 1) := by decide +kernel
theorem dX10_add_14 : decode cX10_add 14 = .ok (.iload_n 2, 1) := by decide +kernel
theorem dX10_add_15 : decode cX10_add 15 = .ok (.invokevirtual 35, 3) := by decide +kernel
theorem dX10_add_18 : decode cX10_add 18 = .ok (.ifCond .ne 7, 3) := by decide +kernel
theorem dX10_add_21 : decode cX10_add 21 = .ok (.iconst 1, 1) := by decide +kernel
theorem dX10_add_22 : decode cX10_add 22 = .ok (.goto 4, 3) := by decide +kernel
theorem dX10_add_25 : decode cX10_add 25 = .ok (.iconst 0, 1) := by decide +kernel
theorem dX10_add_26 : decode cX10_add 26 = .ok (.invokevirtual 39, 3) := by decide +kernel
theorem dX10_add_29 : decode cX10_add 29 = .ok (.iinc 2 1, 3) := by decide +kernel
theorem dX10_add_32 : decode cX10_add 32 = .ok (.goto (-30), 3) := by decide +kernel
theorem dX10_add_35 : decode cX10_add 35 = .ok (.aload_n 0, 1) := by decide +kernel
theorem dX10_add_36 : decode cX10_add 36 = .ok (.getfield 12, 3) := by decide +kernel
theorem dX10_add_39 : decode cX10_add 39 = .ok (.aload_n 1, 1) := by decide +kernel
theorem dX10_add_40 : decode cX10_add 40 = .ok (.invokevirtual 43, 3) := by decide +kernel
theorem dX10_add_43 : decode cX10_add 43 = .ok (.pop, 1) := by decide +kernel
theorem dX10_add_44 : decode cX10_add 44 = .ok (.return_, 1) := by decide +kernel
theorem dX10_clear_0 : decode cX10_clear 0 = .ok (.aload_n 0, 1) := by decide +kernel
theorem dX10_clear_1 : decode cX10_clear 1 = .ok (.getfield 12, 3) := by decide +kernel
theorem dX10_clear_4 : decode cX10_clear 4 = .ok (.invokevirtual 22, 3) := by decide +kernel
theorem dX10_clear_7 : decode cX10_clear 7 = .ok (.return_, 1) := by decide +kernel
theorem dX10_differentPositions_0 : decode cX10_differentPositions 0 = .ok (.iconst 0, 1) := by decide +kernel
theorem dX10_differentPositions_1 : decode cX10_differentPositions 1 = .ok (.istore_n 1, 1) := by decide +kernel
theorem dX10_differentPositions_2 : decode cX10_differentPositions 2 = .ok (.iconst 0, 1) := by decide +kernel
theorem dX10_differentPositions_3 : decode cX10_differentPositions 3 = .ok (.istore_n 2, 1) := by decide +kernel
theorem dX10_differentPositions_4 : decode cX10_differentPositions 4 = .ok (.iload_n 2, 1) := by decide +kernel
theorem dX10_differentPositions_5 : decode cX10_differentPositions 5 = .ok (.aload_n 0, 1) := by decide +kernel
theorem dX10_differentPositions_6 : decode cX10_differentPositions 6 = .ok (.getfield 12, 3) := by decide +kernel
theorem dX10_differentPositions_9 : decode cX10_differentPositions 9 = .ok (.invokevirtual 18, 3) := by decide +kernel
theorem dX10_differentPositions_12 : decode cX10_differentPositions 12 = .ok (.if_icmp .ge 54, 3) := by decide +kernel
theorem dX10_differentPositions_15 : decode cX10_differentPositions 15 = .ok (.aload_n 0, 1) := by decide +kernel
theorem dX10_differentPositions_16 : decode cX10_differentPositions 16 = .ok (.iload_n 2, 1) := by decide +kernel
theorem dX10_differentPositions_17 : decode cX10_differentPositions 17 = .ok (.invokevirtual 51, 3) := by decide +kernel
theorem dX10_differentPositions_20 : decode cX10_differentPositions 20 = .ok (.astore_n 3, 1) := by decide +kernel
theorem dX10_differentPositions_21 : decode cX10_differentPositions 21 = .ok (.iconst 0, 1) := by decide +kernel
theorem dX10_differentPositions_22 : decode cX10_differentPositions 22 = .ok (.istore 4, 2) := by decide +kernel
theorem dX10_differentPositions_24 : decode cX10_differentPositions 24 = .ok (.aload_n 3, 1) := by decide +kernel
theorem dX10_differentPositions_25 : decode cX10_differentPositions 25 = .ok (.ifnull 35, 3) := by decide +kernel
theorem dX10_differentPositions_28 : decode cX10_differentPositions 28 = .ok (.iload 4, 2) := by decide +kernel
theorem dX10_differentPositions_30 : decode cX10_differentPositions 30 = .ok (.aload_n 3, 1) := by decide +kernel
theorem dX10_differentPositions_31 : decode cX10_differentPositions 31 = .ok (.getfield 31, 3) := by decide +kernel
theorem dX10_differentPositions_34 : decode cX10_differentPositions 34 = .ok (.if_icmp .gt 26, 3) := by decide +kernel
theorem dX10_differentPositions_37 : decode cX10_differentPositions 37 = .ok (.iload_n 1, 1) := by decide +kernel
theorem dX10_differentPositions_38 : decode cX10_differentPositions 38 = .ok (.aload_n 3, 1) := by decide +kernel
theorem dX10_differentPositions_39 : decode cX10_differentPositions 39 = .ok (.iload 4, 2) := by decide +kernel
theorem dX10_differentPositions_41 : decode cX10_differentPositions 41 = .ok (.invokevirtual 59, 3) := by decide +kernel
theorem dX10_differentPositions_44 : decode cX10_differentPositions 44 = .ok (.ifCond .eq 7, 3) := by decide +kernel
theorem dX10_differentPositions_47 : decode cX10_differentPositions 47 = .ok (.iconst 1, 1) := by decide +kernel
theorem dX10_differentPositions_48 : decode cX10_differentPositions 48 = .ok (.goto 4, 3) := by decide +kernel
theorem dX10_differentPositions_51 : decode cX10_differentPositions 51 = .ok (.iconst 0, 1) := by decide +kernel
theorem dX10_differentPositions_52 : decode cX10_differentPositions 52 = .ok (.iadd, 1) := by decide +kernel
theorem dX10_differentPositions_53 : decode cX10_differentPositions 53 = .ok (.istore_n 1, 1) := by decide +kernel
theorem dX10_differentPositions_54 : decode cX10_differentPositions 54 = .ok (.iinc 4 1, 3) := by decide +kernel
theorem dX10_differentPositions_57 : decode cX10_differentPositions 57 = .ok (.goto (-33), 3) := by decide +kernel
theorem dX10_differentPositions_60 : decode cX10_differentPositions 60 = .ok (.iinc 2 1, 3) := by decide +kernel
theorem dX10_differentPositions_63 : decode cX10_differentPositions 63 = .ok (.goto (-59), 3) := by decide +kernel
theorem dX10_differentPositions_66 : decode cX10_differentPositions 66 = .ok (.iload_n 1, 1) := by decide +kernel
theorem dX10_differentPositions_67 : decode cX10_differentPositions 67 = .ok (.ireturn, 1) := by decide +kernel
theorem dX10_hasLike_0 : decode cX10_hasLike 0 = .ok (.iconst 0, 1) := by decide +kernel
theorem dX10_hasLike_1 : decode cX10_hasLike 1 = .ok (.istore_n 2, 1) := by decide +kernel
theorem dX10_hasLike_2 : decode cX10_hasLike 2 = .ok (.iload_n 2, 1) := by decide +kernel
theorem dX10_hasLike_3 : decode cX10_hasLike 3 = .ok (.aload_n 0, 1) := by decide +kernel
theorem dX10_hasLike_4 : decode cX10_hasLike 4 = .ok (.getfield 12, 3) := by decide +kernel
theorem dX10_hasLike_7 : decode cX10_hasLike 7 = .ok (.invokevirtual 18, 3) := by decide +kernel
theorem dX10_hasLike_10 : decode cX10_hasLike 10 = .ok (.if_icmp .ge 29, 3) := by decide +kernel
theorem dX10_hasLike_13 : decode cX10_hasLike 13 = .ok (.aload_n 0, 1) := by decide +kernel
theorem dX10_hasLike_14 : decode cX10_hasLike 14 = .ok (.iload_n 2, 1) := by decide +kernel
theorem dX10_hasLike_15 : decode cX10_hasLike 15 = .ok (.invokevirtual 51, 3) := by decide +kernel
theorem dX10_hasLike_18 : decode cX10_hasLike 18 = .ok (.astore_n 3, 1) := by decide +kernel
theorem dX10_hasLike_19 : decode cX10_hasLike 19 = .ok (.aload_n 3, 1) := by decide +kernel
theorem dX10_hasLike_20 : decode cX10_hasLike 20 = .ok (.ifnull 13, 3) := by decide +kernel
theorem dX10_hasLike_23 : decode cX10_hasLike 23 = .ok (.aload_n 3, 1) := by decide +kernel
theorem dX10_hasLike_24 : decode cX10_hasLike 24 = .ok (.aload_n 1, 1) := by decide +kernel
theorem dX10_hasLike_25 : decode cX10_hasLike 25 = .ok (.invokevirtual 55, 3) := by decide +kernel
theorem dX10_hasLike_28 : decode cX10_hasLike 28 = .ok (.ifCond .eq 5, 3) := by decide +kernel
theorem dX10_hasLike_31 : decode cX10_hasLike 31 = .ok (.iconst 1, 1) := by decide +kernel
theorem dX10_hasLike_32 : decode cX10_hasLike 32 = .ok (.ireturn, 1) := by decide +kernel
theorem dX10_hasLike_33 : decode cX10_hasLike 33 = .ok (.iinc 2 1, 3) := by decide +kernel
theorem dX10_hasLike_36 : decode cX10_hasLike 36 = .ok (.goto (-34), 3) := by decide +kernel
theorem dX10_hasLike_39 : decode cX10_hasLike 39 = .ok (.iconst 0, 1) := by decide +kernel
theorem dX10_hasLike_40 : decode cX10_hasLike 40 = .ok (.ireturn, 1) := by decide +kernel
theorem dX10_init_0 : decode cX10_init 0 = .ok (.aload_n 0, 1) := by decide +kernel
theorem dX10_init_1 : decode cX10_init 1 = .ok (.invokespecial 3, 3) := by decide +kernel
theorem dX10_init_4 : decode cX10_init 4 = .ok (.aload_n 0, 1) := by decide +kernel
theorem dX10_init_5 : decode cX10_init 5 = .ok (.new 9, 3) := by decide +kernel
theorem dX10_init_8 : decode cX10_init 8 = .ok (.dup, 1) := by decide +kernel
theorem dX10_init_9 : decode cX10_init 9 = .ok (.invokespecial 11, 3) := by decide +kernel
theorem dX10_init_12 : decode cX10_init 12 = .ok (.putfield 12, 3) := by decide +kernel
theorem dX10_init_15 : decode cX10_init 15 = .ok (.return_, 1) := by decide +kernel
theorem dX10_movesOfAll_0 : decode cX10_movesOfAll 0 = .ok (.iconst 0, 1) := by decide +kernel
theorem dX10_movesOfAll_1 : decode cX10_movesOfAll 1 = .ok (.istore_n 1, 1) := by decide +kernel
theorem dX10_movesOfAll_2 : decode cX10_movesOfAll 2 = .ok (.iconst 0, 1) := by decide +kernel
theorem dX10_movesOfAll_3 : decode cX10_movesOfAll 3 = .ok (.istore_n 2, 1) := by decide +kernel
theorem dX10_movesOfAll_4 : decode cX10_movesOfAll 4 = .ok (.iload_n 2, 1) := by decide +kernel
theorem dX10_movesOfAll_5 : decode cX10_movesOfAll 5 = .ok (.aload_n 0, 1) := by decide +kernel
theorem dX10_movesOfAll_6 : decode cX10_movesOfAll 6 = .ok (.getfield 12, 3) := by decide +kernel
theorem dX10_movesOfAll_9 : decode cX10_movesOfAll 9 = .ok (.invokevirtual 18, 3) := by decide +kernel
theorem dX10_movesOfAll_12 : decode cX10_movesOfAll 12 = .ok (.if_icmp .ge 30, 3) := by decide +kernel
theorem dX10_movesOfAll_15 : decode cX10_movesOfAll 15 = .ok (.aload_n 0, 1) := by decide +kernel
theorem dX10_movesOfAll_16 : decode cX10_movesOfAll 16 = .ok (.iload_n 2, 1) := by decide +kernel
theorem dX10_movesOfAll_17 : decode cX10_movesOfAll 17 = .ok (.invokevirtual 51, 3) := by decide +kernel
theorem dX10_movesOfAll_20 : decode cX10_movesOfAll 20 = .ok (.astore_n 3, 1) := by decide +kernel
theorem dX10_movesOfAll_21 : decode cX10_movesOfAll 21 = .ok (.iload_n 1, 1) := by decide +kernel
theorem dX10_movesOfAll_22 : decode cX10_movesOfAll 22 = .ok (.aload_n 3, 1) := by decide +kernel
theorem dX10_movesOfAll_23 : decode cX10_movesOfAll 23 = .ok (.ifnonnull 7, 3) := by decide +kernel
theorem dX10_movesOfAll_26 : decode cX10_movesOfAll 26 = .ok (.iconst 0, 1) := by decide +kernel
theorem dX10_movesOfAll_27 : decode cX10_movesOfAll 27 = .ok (.goto 7, 3) := by decide +kernel
theorem dX10_movesOfAll_30 : decode cX10_movesOfAll 30 = .ok (.aload_n 3, 1) := by decide +kernel
theorem dX10_movesOfAll_31 : decode cX10_movesOfAll 31 = .ok (.getfield 31, 3) := by decide +kernel
theorem dX10_movesOfAll_34 : decode cX10_movesOfAll 34 = .ok (.iadd, 1) := by decide +kernel
theorem dX10_movesOfAll_35 : decode cX10_movesOfAll 35 = .ok (.istore_n 1, 1) := by decide +kernel
theorem dX10_movesOfAll_36 : decode cX10_movesOfAll 36 = .ok (.iinc 2 1, 3) := by decide +kernel
theorem dX10_movesOfAll_39 : decode cX10_movesOfAll 39 = .ok (.goto (-35), 3) := by decide +kernel
theorem dX10_movesOfAll_42 : decode cX10_movesOfAll 42 = .ok (.iload_n 1, 1) := by decide +kernel
theorem dX10_movesOfAll_43 : decode cX10_movesOfAll 43 = .ok (.ireturn, 1) := by decide +kernel
theorem dX10_numberDue_0 : decode cX10_numberDue 0 = .ok (.iconst (-1), 1) := by decide +kernel
theorem dX10_numberDue_1 : decode cX10_numberDue 1 = .ok (.istore_n 1, 1) := by decide +kernel
theorem dX10_numberDue_2 : decode cX10_numberDue 2 = .ok (.aconst_null, 1) := by decide +kernel
theorem dX10_numberDue_3 : decode cX10_numberDue 3 = .ok (.astore_n 2, 1) := by decide +kernel
theorem dX10_numberDue_4 : decode cX10_numberDue 4 = .ok (.iconst 0, 1) := by decide +kernel
theorem dX10_numberDue_5 : decode cX10_numberDue 5 = .ok (.istore_n 3, 1) := by decide +kernel
theorem dX10_numberDue_6 : decode cX10_numberDue 6 = .ok (.iload_n 3, 1) := by decide +kernel
theorem dX10_numberDue_7 : decode cX10_numberDue 7 = .ok (.aload_n 0, 1) := by decide +kernel
theorem dX10_numberDue_8 : decode cX10_numberDue 8 = .ok (.getfield 12, 3) := by decide +kernel
theorem dX10_numberDue_11 : decode cX10_numberDue 11 = .ok (.invokevirtual 18, 3) := by decide +kernel
theorem dX10_numberDue_14 : decode cX10_numberDue 14 = .ok (.if_icmp .ge 81, 3) := by decide +kernel
theorem dX10_numberDue_17 : decode cX10_numberDue 17 = .ok (.aload_n 0, 1) := by decide +kernel
theorem dX10_numberDue_18 : decode cX10_numberDue 18 = .ok (.iload_n 3, 1) := by decide +kernel
theorem dX10_numberDue_19 : decode cX10_numberDue 19 = .ok (.invokevirtual 51, 3) := by decide +kernel
theorem dX10_numberDue_22 : decode cX10_numberDue 22 = .ok (.astore 4, 2) := by decide +kernel
theorem dX10_numberDue_24 : decode cX10_numberDue 24 = .ok (.aload 4, 2) := by decide +kernel
theorem dX10_numberDue_26 : decode cX10_numberDue 26 = .ok (.ifnonnull 6, 3) := by decide +kernel
theorem dX10_numberDue_29 : decode cX10_numberDue 29 = .ok (.goto 60, 3) := by decide +kernel
theorem dX10_numberDue_32 : decode cX10_numberDue 32 = .ok (.aload_n 2, 1) := by decide +kernel
theorem dX10_numberDue_33 : decode cX10_numberDue 33 = .ok (.ifnull 39, 3) := by decide +kernel
theorem dX10_numberDue_36 : decode cX10_numberDue 36 = .ok (.aload 4, 2) := by decide +kernel
theorem dX10_numberDue_38 : decode cX10_numberDue 38 = .ok (.getfield 100, 3) := by decide +kernel
theorem dX10_numberDue_41 : decode cX10_numberDue 41 = .ok (.aload_n 2, 1) := by decide +kernel
theorem dX10_numberDue_42 : decode cX10_numberDue 42 = .ok (.getfield 100, 3) := by decide +kernel
theorem dX10_numberDue_45 : decode cX10_numberDue 45 = .ok (.if_icmp .lt 27, 3) := by decide +kernel
theorem dX10_numberDue_48 : decode cX10_numberDue 48 = .ok (.aload 4, 2) := by decide +kernel
theorem dX10_numberDue_50 : decode cX10_numberDue 50 = .ok (.getfield 100, 3) := by decide +kernel
theorem dX10_numberDue_53 : decode cX10_numberDue 53 = .ok (.aload_n 2, 1) := by decide +kernel
theorem dX10_numberDue_54 : decode cX10_numberDue 54 = .ok (.getfield 100, 3) := by decide +kernel
theorem dX10_numberDue_57 : decode cX10_numberDue 57 = .ok (.if_icmp .ne 19, 3) := by decide +kernel
theorem dX10_numberDue_60 : decode cX10_numberDue 60 = .ok (.aload 4, 2) := by decide +kernel
theorem dX10_numberDue_62 : decode cX10_numberDue 62 = .ok (.getfield 103, 3) := by decide +kernel
theorem dX10_numberDue_65 : decode cX10_numberDue 65 = .ok (.aload_n 2, 1) := by decide +kernel
theorem dX10_numberDue_66 : decode cX10_numberDue 66 = .ok (.getfield 103, 3) := by decide +kernel
theorem dX10_numberDue_69 : decode cX10_numberDue 69 = .ok (.if_icmp .ge 7, 3) := by decide +kernel
theorem dX10_numberDue_72 : decode cX10_numberDue 72 = .ok (.iconst 1, 1) := by decide +kernel
theorem dX10_numberDue_73 : decode cX10_numberDue 73 = .ok (.goto 4, 3) := by decide +kernel
theorem dX10_numberDue_76 : decode cX10_numberDue 76 = .ok (.iconst 0, 1) := by decide +kernel
theorem dX10_numberDue_77 : decode cX10_numberDue 77 = .ok (.istore 5, 2) := by decide +kernel
theorem dX10_numberDue_79 : decode cX10_numberDue 79 = .ok (.iload 5, 2) := by decide +kernel
theorem dX10_numberDue_81 : decode cX10_numberDue 81 = .ok (.ifCond .eq 8, 3) := by decide +kernel
theorem dX10_numberDue_84 : decode cX10_numberDue 84 = .ok (.iload_n 3, 1) := by decide +kernel
theorem dX10_numberDue_85 : decode cX10_numberDue 85 = .ok (.istore_n 1, 1) := by decide +kernel
theorem dX10_numberDue_86 : decode cX10_numberDue 86 = .ok (.aload 4, 2) := by decide +kernel
theorem dX10_numberDue_88 : decode cX10_numberDue 88 = .ok (.astore_n 2, 1) := by decide +kernel
theorem dX10_numberDue_89 : decode cX10_numberDue 89 = .ok (.iinc 3 1, 3) := by decide +kernel
theorem dX10_numberDue_92 : decode cX10_numberDue 92 = .ok (.goto (-86), 3) := by decide +kernel
theorem dX10_numberDue_95 : decode cX10_numberDue 95 = .ok (.iload_n 1, 1) := by decide +kernel
theorem dX10_numberDue_96 : decode cX10_numberDue 96 = .ok (.ireturn, 1) := by decide +kernel
theorem dX10_passing_0 : decode cX10_passing 0 = .ok (.iconst 0, 1) := by decide +kernel
theorem dX10_passing_1 : decode cX10_passing 1 = .ok (.istore_n 3, 1) := by decide +kernel
theorem dX10_passing_2 : decode cX10_passing 2 = .ok (.iconst 0, 1) := by decide +kernel
theorem dX10_passing_3 : decode cX10_passing 3 = .ok (.istore 4, 2) := by decide +kernel
theorem dX10_passing_5 : decode cX10_passing 5 = .ok (.iload 4, 2) := by decide +kernel
theorem dX10_passing_7 : decode cX10_passing 7 = .ok (.aload_n 0, 1) := by decide +kernel
theorem dX10_passing_8 : decode cX10_passing 8 = .ok (.getfield 12, 3) := by decide +kernel
theorem dX10_passing_11 : decode cX10_passing 11 = .ok (.invokevirtual 18, 3) := by decide +kernel
theorem dX10_passing_14 : decode cX10_passing 14 = .ok (.if_icmp .ge 48, 3) := by decide +kernel
theorem dX10_passing_17 : decode cX10_passing 17 = .ok (.aload_n 0, 1) := by decide +kernel
theorem dX10_passing_18 : decode cX10_passing 18 = .ok (.iload 4, 2) := by decide +kernel
theorem dX10_passing_20 : decode cX10_passing 20 = .ok (.invokevirtual 51, 3) := by decide +kernel
theorem dX10_passing_23 : decode cX10_passing 23 = .ok (.astore 5, 2) := by decide +kernel
theorem dX10_passing_25 : decode cX10_passing 25 = .ok (.aload 5, 2) := by decide +kernel
theorem dX10_passing_27 : decode cX10_passing 27 = .ok (.ifnull 29, 3) := by decide +kernel
theorem dX10_passing_30 : decode cX10_passing 30 = .ok (.iload_n 2, 1) := by decide +kernel
theorem dX10_passing_31 : decode cX10_passing 31 = .ok (.iconst (-1), 1) := by decide +kernel
theorem dX10_passing_32 : decode cX10_passing 32 = .ok (.if_icmp .eq 12, 3) := by decide +kernel
theorem dX10_passing_35 : decode cX10_passing 35 = .ok (.aload 5, 2) := by decide +kernel
theorem dX10_passing_37 : decode cX10_passing 37 = .ok (.getfield 77, 3) := by decide +kernel
theorem dX10_passing_40 : decode cX10_passing 40 = .ok (.iload_n 2, 1) := by decide +kernel
theorem dX10_passing_41 : decode cX10_passing 41 = .ok (.if_icmp .ne 15, 3) := by decide +kernel
theorem dX10_passing_44 : decode cX10_passing 44 = .ok (.aload 5, 2) := by decide +kernel
theorem dX10_passing_46 : decode cX10_passing 46 = .ok (.aload_n 1, 1) := by decide +kernel
theorem dX10_passing_47 : decode cX10_passing 47 = .ok (.invokevirtual 80, 3) := by decide +kernel
theorem dX10_passing_50 : decode cX10_passing 50 = .ok (.ifCond .eq 6, 3) := by decide +kernel
theorem dX10_passing_53 : decode cX10_passing 53 = .ok (.iinc 3 1, 3) := by decide +kernel
theorem dX10_passing_56 : decode cX10_passing 56 = .ok (.iinc 4 1, 3) := by decide +kernel
theorem dX10_passing_59 : decode cX10_passing 59 = .ok (.goto (-54), 3) := by decide +kernel
theorem dX10_passing_62 : decode cX10_passing 62 = .ok (.iload_n 3, 1) := by decide +kernel
theorem dX10_passing_63 : decode cX10_passing 63 = .ok (.ireturn, 1) := by decide +kernel
theorem dX10_passingInYears_0 : decode cX10_passingInYears 0 = .ok (.iconst 0, 1) := by decide +kernel
theorem dX10_passingInYears_1 : decode cX10_passingInYears 1 = .ok (.istore 4, 2) := by decide +kernel
theorem dX10_passingInYears_3 : decode cX10_passingInYears 3 = .ok (.iconst 0, 1) := by decide +kernel
theorem dX10_passingInYears_4 : decode cX10_passingInYears 4 = .ok (.istore 5, 2) := by decide +kernel
theorem dX10_passingInYears_6 : decode cX10_passingInYears 6 = .ok (.iload 5, 2) := by decide +kernel
theorem dX10_passingInYears_8 : decode cX10_passingInYears 8 = .ok (.aload_n 0, 1) := by decide +kernel
theorem dX10_passingInYears_9 : decode cX10_passingInYears 9 = .ok (.getfield 12, 3) := by decide +kernel
theorem dX10_passingInYears_12 : decode cX10_passingInYears 12 = .ok (.invokevirtual 18, 3) := by decide +kernel
theorem dX10_passingInYears_15 : decode cX10_passingInYears 15 = .ok (.if_icmp .ge 52, 3) := by decide +kernel
theorem dX10_passingInYears_18 : decode cX10_passingInYears 18 = .ok (.aload_n 0, 1) := by decide +kernel
theorem dX10_passingInYears_19 : decode cX10_passingInYears 19 = .ok (.iload 5, 2) := by decide +kernel
theorem dX10_passingInYears_21 : decode cX10_passingInYears 21 = .ok (.invokevirtual 51, 3) := by decide +kernel
theorem dX10_passingInYears_24 : decode cX10_passingInYears 24 = .ok (.astore 6, 2) := by decide +kernel
theorem dX10_passingInYears_26 : decode cX10_passingInYears 26 = .ok (.aload 6, 2) := by decide +kernel
theorem dX10_passingInYears_28 : decode cX10_passingInYears 28 = .ok (.ifnull 33, 3) := by decide +kernel
theorem dX10_passingInYears_31 : decode cX10_passingInYears 31 = .ok (.aload 6, 2) := by decide +kernel
theorem dX10_passingInYears_33 : decode cX10_passingInYears 33 = .ok (.getfield 84, 3) := by decide +kernel
theorem dX10_passingInYears_36 : decode cX10_passingInYears 36 = .ok (.iload_n 2, 1) := by decide +kernel
theorem dX10_passingInYears_37 : decode cX10_passingInYears 37 = .ok (.if_icmp .lt 24, 3) := by decide +kernel
theorem dX10_passingInYears_40 : decode cX10_passingInYears 40 = .ok (.aload 6, 2) := by decide +kernel
theorem dX10_passingInYears_42 : decode cX10_passingInYears 42 = .ok (.getfield 84, 3) := by decide +kernel
theorem dX10_passingInYears_45 : decode cX10_passingInYears 45 = .ok (.iload_n 3, 1) := by decide +kernel
theorem dX10_passingInYears_46 : decode cX10_passingInYears 46 = .ok (.if_icmp .gt 15, 3) := by decide +kernel
theorem dX10_passingInYears_49 : decode cX10_passingInYears 49 = .ok (.aload 6, 2) := by decide +kernel
theorem dX10_passingInYears_51 : decode cX10_passingInYears 51 = .ok (.aload_n 1, 1) := by decide +kernel
theorem dX10_passingInYears_52 : decode cX10_passingInYears 52 = .ok (.invokevirtual 80, 3) := by decide +kernel
theorem dX10_passingInYears_55 : decode cX10_passingInYears 55 = .ok (.ifCond .eq 6, 3) := by decide +kernel
theorem dX10_passingInYears_58 : decode cX10_passingInYears 58 = .ok (.iinc 4 1, 3) := by decide +kernel
theorem dX10_passingInYears_61 : decode cX10_passingInYears 61 = .ok (.iinc 5 1, 3) := by decide +kernel
theorem dX10_passingInYears_64 : decode cX10_passingInYears 64 = .ok (.goto (-58), 3) := by decide +kernel
theorem dX10_passingInYears_67 : decode cX10_passingInYears 67 = .ok (.iload 4, 2) := by decide +kernel
theorem dX10_passingInYears_69 : decode cX10_passingInYears 69 = .ok (.ireturn, 1) := by decide +kernel
theorem dX10_positionsFitting_0 : decode cX10_positionsFitting 0 = .ok (.iconst 0, 1) := by decide +kernel
theorem dX10_positionsFitting_1 : decode cX10_positionsFitting 1 = .ok (.istore_n 3, 1) := by decide +kernel
theorem dX10_positionsFitting_2 : decode cX10_positionsFitting 2 = .ok (.iconst 0, 1) := by decide +kernel
theorem dX10_positionsFitting_3 : decode cX10_positionsFitting 3 = .ok (.istore 4, 2) := by decide +kernel
theorem dX10_positionsFitting_5 : decode cX10_positionsFitting 5 = .ok (.iload 4, 2) := by decide +kernel
theorem dX10_positionsFitting_7 : decode cX10_positionsFitting 7 = .ok (.aload_n 0, 1) := by decide +kernel
theorem dX10_positionsFitting_8 : decode cX10_positionsFitting 8 = .ok (.getfield 12, 3) := by decide +kernel
theorem dX10_positionsFitting_11 : decode cX10_positionsFitting 11 = .ok (.invokevirtual 18, 3) := by decide +kernel
theorem dX10_positionsFitting_14 : decode cX10_positionsFitting 14 = .ok (.if_icmp .ge 78, 3) := by decide +kernel
theorem dX10_positionsFitting_17 : decode cX10_positionsFitting 17 = .ok (.aload_n 0, 1) := by decide +kernel
theorem dX10_positionsFitting_18 : decode cX10_positionsFitting 18 = .ok (.iload 4, 2) := by decide +kernel
theorem dX10_positionsFitting_20 : decode cX10_positionsFitting 20 = .ok (.invokevirtual 51, 3) := by decide +kernel
theorem dX10_positionsFitting_23 : decode cX10_positionsFitting 23 = .ok (.astore 5, 2) := by decide +kernel
theorem dX10_positionsFitting_25 : decode cX10_positionsFitting 25 = .ok (.iconst 0, 1) := by decide +kernel
theorem dX10_positionsFitting_26 : decode cX10_positionsFitting 26 = .ok (.istore 6, 2) := by decide +kernel
theorem dX10_positionsFitting_28 : decode cX10_positionsFitting 28 = .ok (.aload 5, 2) := by decide +kernel
theorem dX10_positionsFitting_30 : decode cX10_positionsFitting 30 = .ok (.ifnull 56, 3) := by decide +kernel
theorem dX10_positionsFitting_33 : decode cX10_positionsFitting 33 = .ok (.iload 6, 2) := by decide +kernel
theorem dX10_positionsFitting_35 : decode cX10_positionsFitting 35 = .ok (.aload 5, 2) := by decide +kernel
theorem dX10_positionsFitting_37 : decode cX10_positionsFitting 37 = .ok (.getfield 31, 3) := by decide +kernel
theorem dX10_positionsFitting_40 : decode cX10_positionsFitting 40 = .ok (.if_icmp .gt 46, 3) := by decide +kernel
theorem dX10_positionsFitting_43 : decode cX10_positionsFitting 43 = .ok (.aload_n 2, 1) := by decide +kernel
theorem dX10_positionsFitting_44 : decode cX10_positionsFitting 44 = .ok (.aload 5, 2) := by decide +kernel
theorem dX10_positionsFitting_46 : decode cX10_positionsFitting 46 = .ok (.getfield 63, 3) := by decide +kernel
theorem dX10_positionsFitting_49 : decode cX10_positionsFitting 49 = .ok (.iload 6, 2) := by decide +kernel
theorem dX10_positionsFitting_51 : decode cX10_positionsFitting 51 = .ok (.invokevirtual 67, 3) := by decide +kernel
theorem dX10_positionsFitting_54 : decode cX10_positionsFitting 54 = .ok (.iload_n 3, 1) := by decide +kernel
theorem dX10_positionsFitting_55 : decode cX10_positionsFitting 55 = .ok (.aload 5, 2) := by decide +kernel
theorem dX10_positionsFitting_57 : decode cX10_positionsFitting 57 = .ok (.iload 6, 2) := by decide +kernel
theorem dX10_positionsFitting_59 : decode cX10_positionsFitting 59 = .ok (.invokevirtual 59, 3) := by decide +kernel
theorem dX10_positionsFitting_62 : decode cX10_positionsFitting 62 = .ok (.ifCond .eq 15, 3) := by decide +kernel
theorem dX10_positionsFitting_65 : decode cX10_positionsFitting 65 = .ok (.aload_n 2, 1) := by decide +kernel
theorem dX10_positionsFitting_66 : decode cX10_positionsFitting 66 = .ok (.aload_n 1, 1) := by decide +kernel
theorem dX10_positionsFitting_67 : decode cX10_positionsFitting 67 = .ok (.invokevirtual 73, 3) := by decide +kernel
theorem dX10_positionsFitting_70 : decode cX10_positionsFitting 70 = .ok (.ifCond .eq 7, 3) := by decide +kernel
theorem dX10_positionsFitting_73 : decode cX10_positionsFitting 73 = .ok (.iconst 1, 1) := by decide +kernel
theorem dX10_positionsFitting_74 : decode cX10_positionsFitting 74 = .ok (.goto 4, 3) := by decide +kernel
theorem dX10_positionsFitting_77 : decode cX10_positionsFitting 77 = .ok (.iconst 0, 1) := by decide +kernel
theorem dX10_positionsFitting_78 : decode cX10_positionsFitting 78 = .ok (.iadd, 1) := by decide +kernel
theorem dX10_positionsFitting_79 : decode cX10_positionsFitting 79 = .ok (.istore_n 3, 1) := by decide +kernel
theorem dX10_positionsFitting_80 : decode cX10_positionsFitting 80 = .ok (.iinc 6 1, 3) := by decide +kernel
theorem dX10_positionsFitting_83 : decode cX10_positionsFitting 83 = .ok (.goto (-55), 3) := by decide +kernel
theorem dX10_positionsFitting_86 : decode cX10_positionsFitting 86 = .ok (.iinc 4 1, 3) := by decide +kernel
theorem dX10_positionsFitting_89 : decode cX10_positionsFitting 89 = .ok (.goto (-84), 3) := by decide +kernel
theorem dX10_positionsFitting_92 : decode cX10_positionsFitting 92 = .ok (.iload_n 3, 1) := by decide +kernel
theorem dX10_positionsFitting_93 : decode cX10_positionsFitting 93 = .ok (.ireturn, 1) := by decide +kernel
theorem dX10_replaysPassing_0 : decode cX10_replaysPassing 0 = .ok (.iconst 0, 1) := by decide +kernel
theorem dX10_replaysPassing_1 : decode cX10_replaysPassing 1 = .ok (.istore_n 3, 1) := by decide +kernel
theorem dX10_replaysPassing_2 : decode cX10_replaysPassing 2 = .ok (.iconst 0, 1) := by decide +kernel
theorem dX10_replaysPassing_3 : decode cX10_replaysPassing 3 = .ok (.istore 4, 2) := by decide +kernel
theorem dX10_replaysPassing_5 : decode cX10_replaysPassing 5 = .ok (.iload 4, 2) := by decide +kernel
theorem dX10_replaysPassing_7 : decode cX10_replaysPassing 7 = .ok (.aload_n 0, 1) := by decide +kernel
theorem dX10_replaysPassing_8 : decode cX10_replaysPassing 8 = .ok (.getfield 12, 3) := by decide +kernel
theorem dX10_replaysPassing_11 : decode cX10_replaysPassing 11 = .ok (.invokevirtual 18, 3) := by decide +kernel
theorem dX10_replaysPassing_14 : decode cX10_replaysPassing 14 = .ok (.if_icmp .ge 95, 3) := by decide +kernel
theorem dX10_replaysPassing_17 : decode cX10_replaysPassing 17 = .ok (.aload_n 0, 1) := by decide +kernel
theorem dX10_replaysPassing_18 : decode cX10_replaysPassing 18 = .ok (.iload 4, 2) := by decide +kernel
theorem dX10_replaysPassing_20 : decode cX10_replaysPassing 20 = .ok (.invokevirtual 51, 3) := by decide +kernel
theorem dX10_replaysPassing_23 : decode cX10_replaysPassing 23 = .ok (.astore 5, 2) := by decide +kernel
theorem dX10_replaysPassing_25 : decode cX10_replaysPassing 25 = .ok (.aload 5, 2) := by decide +kernel
theorem dX10_replaysPassing_27 : decode cX10_replaysPassing 27 = .ok (.ifnonnull 6, 3) := by decide +kernel
theorem dX10_replaysPassing_30 : decode cX10_replaysPassing 30 = .ok (.goto 73, 3) := by decide +kernel
theorem dX10_replaysPassing_33 : decode cX10_replaysPassing 33 = .ok (.aload_n 2, 1) := by decide +kernel
theorem dX10_replaysPassing_34 : decode cX10_replaysPassing 34 = .ok (.aload 5, 2) := by decide +kernel
theorem dX10_replaysPassing_36 : decode cX10_replaysPassing 36 = .ok (.getfield 63, 3) := by decide +kernel
theorem dX10_replaysPassing_39 : decode cX10_replaysPassing 39 = .ok (.iconst 0, 1) := by decide +kernel
theorem dX10_replaysPassing_40 : decode cX10_replaysPassing 40 = .ok (.invokevirtual 67, 3) := by decide +kernel
theorem dX10_replaysPassing_43 : decode cX10_replaysPassing 43 = .ok (.aload_n 2, 1) := by decide +kernel
theorem dX10_replaysPassing_44 : decode cX10_replaysPassing 44 = .ok (.aload_n 1, 1) := by decide +kernel
theorem dX10_replaysPassing_45 : decode cX10_replaysPassing 45 = .ok (.invokevirtual 90, 3) := by decide +kernel
theorem dX10_replaysPassing_48 : decode cX10_replaysPassing 48 = .ok (.istore 6, 2) := by decide +kernel
theorem dX10_replaysPassing_50 : decode cX10_replaysPassing 50 = .ok (.iconst 0, 1) := by decide +kernel
theorem dX10_replaysPassing_51 : decode cX10_replaysPassing 51 = .ok (.istore 7, 2) := by decide +kernel
theorem dX10_replaysPassing_53 : decode cX10_replaysPassing 53 = .ok (.iload 7, 2) := by decide +kernel
theorem dX10_replaysPassing_55 : decode cX10_replaysPassing 55 = .ok (.aload 5, 2) := by decide +kernel
theorem dX10_replaysPassing_57 : decode cX10_replaysPassing 57 = .ok (.getfield 31, 3) := by decide +kernel
theorem dX10_replaysPassing_60 : decode cX10_replaysPassing 60 = .ok (.if_icmp .ge 30, 3) := by decide +kernel
theorem dX10_replaysPassing_63 : decode cX10_replaysPassing 63 = .ok (.aload_n 2, 1) := by decide +kernel
theorem dX10_replaysPassing_64 : decode cX10_replaysPassing 64 = .ok (.aload 5, 2) := by decide +kernel
theorem dX10_replaysPassing_66 : decode cX10_replaysPassing 66 = .ok (.iload 7, 2) := by decide +kernel
theorem dX10_replaysPassing_68 : decode cX10_replaysPassing 68 = .ok (.invokevirtual 92, 3) := by decide +kernel
theorem dX10_replaysPassing_71 : decode cX10_replaysPassing 71 = .ok (.invokevirtual 96, 3) := by decide +kernel
theorem dX10_replaysPassing_74 : decode cX10_replaysPassing 74 = .ok (.iload 6, 2) := by decide +kernel
theorem dX10_replaysPassing_76 : decode cX10_replaysPassing 76 = .ok (.aload_n 2, 1) := by decide +kernel
theorem dX10_replaysPassing_77 : decode cX10_replaysPassing 77 = .ok (.aload_n 1, 1) := by decide +kernel
theorem dX10_replaysPassing_78 : decode cX10_replaysPassing 78 = .ok (.invokevirtual 90, 3) := by decide +kernel
theorem dX10_replaysPassing_81 : decode cX10_replaysPassing 81 = .ok (.ior, 1) := by decide +kernel
theorem dX10_replaysPassing_82 : decode cX10_replaysPassing 82 = .ok (.istore 6, 2) := by decide +kernel
theorem dX10_replaysPassing_84 : decode cX10_replaysPassing 84 = .ok (.iinc 7 1, 3) := by decide +kernel
theorem dX10_replaysPassing_87 : decode cX10_replaysPassing 87 = .ok (.goto (-34), 3) := by decide +kernel
theorem dX10_replaysPassing_90 : decode cX10_replaysPassing 90 = .ok (.iload_n 3, 1) := by decide +kernel
theorem dX10_replaysPassing_91 : decode cX10_replaysPassing 91 = .ok (.iload 6, 2) := by decide +kernel
theorem dX10_replaysPassing_93 : decode cX10_replaysPassing 93 = .ok (.ifCond .eq 7, 3) := by decide +kernel
theorem dX10_replaysPassing_96 : decode cX10_replaysPassing 96 = .ok (.iconst 1, 1) := by decide +kernel
theorem dX10_replaysPassing_97 : decode cX10_replaysPassing 97 = .ok (.goto 4, 3) := by decide +kernel
theorem dX10_replaysPassing_100 : decode cX10_replaysPassing 100 = .ok (.iconst 0, 1) := by decide +kernel
theorem dX10_replaysPassing_101 : decode cX10_replaysPassing 101 = .ok (.iadd, 1) := by decide +kernel
theorem dX10_replaysPassing_102 : decode cX10_replaysPassing 102 = .ok (.istore_n 3, 1) := by decide +kernel
theorem dX10_replaysPassing_103 : decode cX10_replaysPassing 103 = .ok (.iinc 4 1, 3) := by decide +kernel
theorem dX10_replaysPassing_106 : decode cX10_replaysPassing 106 = .ok (.goto (-101), 3) := by decide +kernel
theorem dX10_replaysPassing_109 : decode cX10_replaysPassing 109 = .ok (.iload_n 3, 1) := by decide +kernel
theorem dX10_replaysPassing_110 : decode cX10_replaysPassing 110 = .ok (.ireturn, 1) := by decide +kernel
theorem dX10_size_0 : decode cX10_size 0 = .ok (.aload_n 0, 1) := by decide +kernel
theorem dX10_size_1 : decode cX10_size 1 = .ok (.getfield 12, 3) := by decide +kernel
theorem dX10_size_4 : decode cX10_size 4 = .ok (.invokevirtual 18, 3) := by decide +kernel
theorem dX10_size_7 : decode cX10_size 7 = .ok (.ireturn, 1) := by decide +kernel
theorem dX10_strengthsPassing_0 : decode cX10_strengthsPassing 0 = .ok (.iconst 0, 1) := by decide +kernel
theorem dX10_strengthsPassing_1 : decode cX10_strengthsPassing 1 = .ok (.istore_n 2, 1) := by decide +kernel
theorem dX10_strengthsPassing_2 : decode cX10_strengthsPassing 2 = .ok (.iconst 0, 1) := by decide +kernel
theorem dX10_strengthsPassing_3 : decode cX10_strengthsPassing 3 = .ok (.istore_n 3, 1) := by decide +kernel
theorem dX10_strengthsPassing_4 : decode cX10_strengthsPassing 4 = .ok (.iload_n 3, 1) := by decide +kernel
theorem dX10_strengthsPassing_5 : decode cX10_strengthsPassing 5 = .ok (.aload_n 0, 1) := by decide +kernel
theorem dX10_strengthsPassing_6 : decode cX10_strengthsPassing 6 = .ok (.getfield 12, 3) := by decide +kernel
theorem dX10_strengthsPassing_9 : decode cX10_strengthsPassing 9 = .ok (.invokevirtual 18, 3) := by decide +kernel
theorem dX10_strengthsPassing_12 : decode cX10_strengthsPassing 12 = .ok (.if_icmp .ge 38, 3) := by decide +kernel
theorem dX10_strengthsPassing_15 : decode cX10_strengthsPassing 15 = .ok (.aload_n 0, 1) := by decide +kernel
theorem dX10_strengthsPassing_16 : decode cX10_strengthsPassing 16 = .ok (.iload_n 3, 1) := by decide +kernel
theorem dX10_strengthsPassing_17 : decode cX10_strengthsPassing 17 = .ok (.invokevirtual 51, 3) := by decide +kernel
theorem dX10_strengthsPassing_20 : decode cX10_strengthsPassing 20 = .ok (.astore 4, 2) := by decide +kernel
theorem dX10_strengthsPassing_22 : decode cX10_strengthsPassing 22 = .ok (.aload 4, 2) := by decide +kernel
theorem dX10_strengthsPassing_24 : decode cX10_strengthsPassing 24 = .ok (.ifnull 20, 3) := by decide +kernel
theorem dX10_strengthsPassing_27 : decode cX10_strengthsPassing 27 = .ok (.aload 4, 2) := by decide +kernel
theorem dX10_strengthsPassing_29 : decode cX10_strengthsPassing 29 = .ok (.aload_n 1, 1) := by decide +kernel
theorem dX10_strengthsPassing_30 : decode cX10_strengthsPassing 30 = .ok (.invokevirtual 80, 3) := by decide +kernel
theorem dX10_strengthsPassing_33 : decode cX10_strengthsPassing 33 = .ok (.ifCond .eq 11, 3) := by decide +kernel
theorem dX10_strengthsPassing_36 : decode cX10_strengthsPassing 36 = .ok (.iload_n 2, 1) := by decide +kernel
theorem dX10_strengthsPassing_37 : decode cX10_strengthsPassing 37 = .ok (.aload 4, 2) := by decide +kernel
theorem dX10_strengthsPassing_39 : decode cX10_strengthsPassing 39 = .ok (.getfield 87, 3) := by decide +kernel
theorem dX10_strengthsPassing_42 : decode cX10_strengthsPassing 42 = .ok (.iadd, 1) := by decide +kernel
theorem dX10_strengthsPassing_43 : decode cX10_strengthsPassing 43 = .ok (.istore_n 2, 1) := by decide +kernel
theorem dX10_strengthsPassing_44 : decode cX10_strengthsPassing 44 = .ok (.iinc 3 1, 3) := by decide +kernel
theorem dX10_strengthsPassing_47 : decode cX10_strengthsPassing 47 = .ok (.goto (-43), 3) := by decide +kernel
theorem dX10_strengthsPassing_50 : decode cX10_strengthsPassing 50 = .ok (.iload_n 2, 1) := by decide +kernel
theorem dX10_strengthsPassing_51 : decode cX10_strengthsPassing 51 = .ok (.ireturn, 1) := by decide +kernel
theorem dX3_init_0 : decode cX3_init 0 = .ok (.aload_n 0, 1) := by decide +kernel
theorem dX3_init_1 : decode cX3_init 1 = .ok (.invokespecial 3, 3) := by decide +kernel
theorem dX3_init_4 : decode cX3_init 4 = .ok (.aload_n 0, 1) := by decide +kernel
theorem dX3_init_5 : decode cX3_init 5 = .ok (.iconst 0, 1) := by decide +kernel
theorem dX3_init_6 : decode cX3_init 6 = .ok (.putfield 9, 3) := by decide +kernel
theorem dX3_init_9 : decode cX3_init 9 = .ok (.aload_n 0, 1) := by decide +kernel
theorem dX3_init_10 : decode cX3_init 10 = .ok (.iconst 0, 1) := by decide +kernel
theorem dX3_init_11 : decode cX3_init 11 = .ok (.putfield 15, 3) := by decide +kernel
theorem dX3_init_14 : decode cX3_init 14 = .ok (.aload_n 0, 1) := by decide +kernel
theorem dX3_init_15 : decode cX3_init 15 = .ok (.iconst 0, 1) := by decide +kernel
theorem dX3_init_16 : decode cX3_init 16 = .ok (.putfield 18, 3) := by decide +kernel
theorem dX3_init_19 : decode cX3_init 19 = .ok (.aload_n 0, 1) := by decide +kernel
theorem dX3_init_20 : decode cX3_init 20 = .ok (.iconst 0, 1) := by decide +kernel
theorem dX3_init_21 : decode cX3_init 21 = .ok (.putfield 21, 3) := by decide +kernel
theorem dX3_init_24 : decode cX3_init 24 = .ok (.aload_n 0, 1) := by decide +kernel
theorem dX3_init_25 : decode cX3_init 25 = .ok (.iconst 0, 1) := by decide +kernel
theorem dX3_init_26 : decode cX3_init 26 = .ok (.putfield 24, 3) := by decide +kernel
theorem dX3_init_29 : decode cX3_init 29 = .ok (.aload_n 0, 1) := by decide +kernel
theorem dX3_init_30 : decode cX3_init 30 = .ok (.iconst 0, 1) := by decide +kernel
theorem dX3_init_31 : decode cX3_init 31 = .ok (.putfield 27, 3) := by decide +kernel
theorem dX3_init_34 : decode cX3_init 34 = .ok (.iload_n 1, 1) := by decide +kernel
theorem dX3_init_35 : decode cX3_init 35 = .ok (.iconst 0, 1) := by decide +kernel
theorem dX3_init_36 : decode cX3_init 36 = .ok (.invokestatic 30, 3) := by decide +kernel
theorem dX3_init_39 : decode cX3_init 39 = .ok (.istore_n 2, 1) := by decide +kernel
theorem dX3_init_40 : decode cX3_init 40 = .ok (.aload_n 0, 1) := by decide +kernel
theorem dX3_init_41 : decode cX3_init 41 = .ok (.iload_n 2, 1) := by decide +kernel
theorem dX3_init_42 : decode cX3_init 42 = .ok (.iconst 1, 1) := by decide +kernel
theorem dX3_init_43 : decode cX3_init 43 = .ok (.iadd, 1) := by decide +kernel
theorem dX3_init_44 : decode cX3_init 44 = .ok (.iconst 5, 1) := by decide +kernel
theorem dX3_init_45 : decode cX3_init 45 = .ok (.imul, 1) := by decide +kernel
theorem dX3_init_46 : decode cX3_init 46 = .ok (.newarray .long, 2) := by decide +kernel
theorem dX3_init_48 : decode cX3_init 48 = .ok (.putfield 36, 3) := by decide +kernel
theorem dX3_init_51 : decode cX3_init 51 = .ok (.aload_n 0, 1) := by decide +kernel
theorem dX3_init_52 : decode cX3_init 52 = .ok (.iload_n 2, 1) := by decide +kernel
theorem dX3_init_53 : decode cX3_init 53 = .ok (.newarray .int, 2) := by decide +kernel
theorem dX3_init_55 : decode cX3_init 55 = .ok (.putfield 40, 3) := by decide +kernel
theorem dX3_init_58 : decode cX3_init 58 = .ok (.aload_n 0, 1) := by decide +kernel
theorem dX3_init_59 : decode cX3_init 59 = .ok (.iload_n 2, 1) := by decide +kernel
theorem dX3_init_60 : decode cX3_init 60 = .ok (.iconst 1, 1) := by decide +kernel
theorem dX3_init_61 : decode cX3_init 61 = .ok (.iadd, 1) := by decide +kernel
theorem dX3_init_62 : decode cX3_init 62 = .ok (.newarray .boolean, 2) := by decide +kernel
theorem dX3_init_64 : decode cX3_init 64 = .ok (.putfield 44, 3) := by decide +kernel
theorem dX3_init_67 : decode cX3_init 67 = .ok (.return_, 1) := by decide +kernel
theorem dX3_copyWith_0 : decode cX3_copyWith 0 = .ok (.new 10, 3) := by decide +kernel
theorem dX3_copyWith_3 : decode cX3_copyWith 3 = .ok (.dup, 1) := by decide +kernel
theorem dX3_copyWith_4 : decode cX3_copyWith 4 = .ok (.aload_n 0, 1) := by decide +kernel
theorem dX3_copyWith_5 : decode cX3_copyWith 5 = .ok (.getfield 9, 3) := by decide +kernel
theorem dX3_copyWith_8 : decode cX3_copyWith 8 = .ok (.invokespecial 54, 3) := by decide +kernel
theorem dX3_copyWith_11 : decode cX3_copyWith 11 = .ok (.astore 4, 2) := by decide +kernel
theorem dX3_copyWith_13 : decode cX3_copyWith 13 = .ok (.iconst 0, 1) := by decide +kernel
theorem dX3_copyWith_14 : decode cX3_copyWith 14 = .ok (.istore 5, 2) := by decide +kernel
theorem dX3_copyWith_16 : decode cX3_copyWith 16 = .ok (.iload 5, 2) := by decide +kernel
theorem dX3_copyWith_18 : decode cX3_copyWith 18 = .ok (.aload 4, 2) := by decide +kernel
theorem dX3_copyWith_20 : decode cX3_copyWith 20 = .ok (.getfield 36, 3) := by decide +kernel
theorem dX3_copyWith_23 : decode cX3_copyWith 23 = .ok (.arraylength, 1) := by decide +kernel
theorem dX3_copyWith_24 : decode cX3_copyWith 24 = .ok (.if_icmp .ge 34, 3) := by decide +kernel
theorem dX3_copyWith_27 : decode cX3_copyWith 27 = .ok (.iload 5, 2) := by decide +kernel
theorem dX3_copyWith_29 : decode cX3_copyWith 29 = .ok (.aload_n 0, 1) := by decide +kernel
theorem dX3_copyWith_30 : decode cX3_copyWith 30 = .ok (.getfield 36, 3) := by decide +kernel
theorem dX3_copyWith_33 : decode cX3_copyWith 33 = .ok (.arraylength, 1) := by decide +kernel
theorem dX3_copyWith_34 : decode cX3_copyWith 34 = .ok (.if_icmp .ge 24, 3) := by decide +kernel
theorem dX3_copyWith_37 : decode cX3_copyWith 37 = .ok (.aload 4, 2) := by decide +kernel
theorem dX3_copyWith_39 : decode cX3_copyWith 39 = .ok (.getfield 36, 3) := by decide +kernel
theorem dX3_copyWith_42 : decode cX3_copyWith 42 = .ok (.iload 5, 2) := by decide +kernel
theorem dX3_copyWith_44 : decode cX3_copyWith 44 = .ok (.aload_n 0, 1) := by decide +kernel
theorem dX3_copyWith_45 : decode cX3_copyWith 45 = .ok (.getfield 36, 3) := by decide +kernel
theorem dX3_copyWith_48 : decode cX3_copyWith 48 = .ok (.iload 5, 2) := by decide +kernel
theorem dX3_copyWith_50 : decode cX3_copyWith 50 = .ok (.laload, 1) := by decide +kernel
theorem dX3_copyWith_51 : decode cX3_copyWith 51 = .ok (.lastore, 1) := by decide +kernel
theorem dX3_copyWith_52 : decode cX3_copyWith 52 = .ok (.iinc 5 1, 3) := by decide +kernel
theorem dX3_copyWith_55 : decode cX3_copyWith 55 = .ok (.goto (-39), 3) := by decide +kernel
theorem dX3_copyWith_58 : decode cX3_copyWith 58 = .ok (.iconst 0, 1) := by decide +kernel
theorem dX3_copyWith_59 : decode cX3_copyWith 59 = .ok (.istore 5, 2) := by decide +kernel
theorem dX3_copyWith_61 : decode cX3_copyWith 61 = .ok (.iload 5, 2) := by decide +kernel
theorem dX3_copyWith_63 : decode cX3_copyWith 63 = .ok (.aload 4, 2) := by decide +kernel
theorem dX3_copyWith_65 : decode cX3_copyWith 65 = .ok (.getfield 40, 3) := by decide +kernel
theorem dX3_copyWith_68 : decode cX3_copyWith 68 = .ok (.arraylength, 1) := by decide +kernel
theorem dX3_copyWith_69 : decode cX3_copyWith 69 = .ok (.if_icmp .ge 34, 3) := by decide +kernel
theorem dX3_copyWith_72 : decode cX3_copyWith 72 = .ok (.iload 5, 2) := by decide +kernel
theorem dX3_copyWith_74 : decode cX3_copyWith 74 = .ok (.aload_n 0, 1) := by decide +kernel
theorem dX3_copyWith_75 : decode cX3_copyWith 75 = .ok (.getfield 40, 3) := by decide +kernel
theorem dX3_copyWith_78 : decode cX3_copyWith 78 = .ok (.arraylength, 1) := by decide +kernel
theorem dX3_copyWith_79 : decode cX3_copyWith 79 = .ok (.if_icmp .ge 24, 3) := by decide +kernel
theorem dX3_copyWith_82 : decode cX3_copyWith 82 = .ok (.aload 4, 2) := by decide +kernel
theorem dX3_copyWith_84 : decode cX3_copyWith 84 = .ok (.getfield 40, 3) := by decide +kernel
theorem dX3_copyWith_87 : decode cX3_copyWith 87 = .ok (.iload 5, 2) := by decide +kernel
theorem dX3_copyWith_89 : decode cX3_copyWith 89 = .ok (.aload_n 0, 1) := by decide +kernel
theorem dX3_copyWith_90 : decode cX3_copyWith 90 = .ok (.getfield 40, 3) := by decide +kernel
theorem dX3_copyWith_93 : decode cX3_copyWith 93 = .ok (.iload 5, 2) := by decide +kernel
theorem dX3_copyWith_95 : decode cX3_copyWith 95 = .ok (.iaload, 1) := by decide +kernel
theorem dX3_copyWith_96 : decode cX3_copyWith 96 = .ok (.iastore, 1) := by decide +kernel
theorem dX3_copyWith_97 : decode cX3_copyWith 97 = .ok (.iinc 5 1, 3) := by decide +kernel
theorem dX3_copyWith_100 : decode cX3_copyWith 100 = .ok (.goto (-39), 3) := by decide +kernel
theorem dX3_copyWith_103 : decode cX3_copyWith 103 = .ok (.aload 4, 2) := by decide +kernel
theorem dX3_copyWith_105 : decode cX3_copyWith 105 = .ok (.aload_n 0, 1) := by decide +kernel
theorem dX3_copyWith_106 : decode cX3_copyWith 106 = .ok (.getfield 9, 3) := by decide +kernel
theorem dX3_copyWith_109 : decode cX3_copyWith 109 = .ok (.putfield 9, 3) := by decide +kernel
theorem dX3_copyWith_112 : decode cX3_copyWith 112 = .ok (.aload 4, 2) := by decide +kernel
theorem dX3_copyWith_114 : decode cX3_copyWith 114 = .ok (.iload_n 1, 1) := by decide +kernel
theorem dX3_copyWith_115 : decode cX3_copyWith 115 = .ok (.putfield 15, 3) := by decide +kernel
theorem dX3_copyWith_118 : decode cX3_copyWith 118 = .ok (.aload 4, 2) := by decide +kernel
theorem dX3_copyWith_120 : decode cX3_copyWith 120 = .ok (.iload_n 2, 1) := by decide +kernel
theorem dX3_copyWith_121 : decode cX3_copyWith 121 = .ok (.putfield 18, 3) := by decide +kernel
theorem dX3_copyWith_124 : decode cX3_copyWith 124 = .ok (.aload 4, 2) := by decide +kernel
theorem dX3_copyWith_126 : decode cX3_copyWith 126 = .ok (.iload_n 3, 1) := by decide +kernel
theorem dX3_copyWith_127 : decode cX3_copyWith 127 = .ok (.putfield 21, 3) := by decide +kernel
theorem dX3_copyWith_130 : decode cX3_copyWith 130 = .ok (.aload 4, 2) := by decide +kernel
theorem dX3_copyWith_132 : decode cX3_copyWith 132 = .ok (.areturn, 1) := by decide +kernel
theorem dX11_addGame_0 : decode cX11_addGame 0 = .ok (.aload_n 0, 1) := by decide +kernel
theorem dX11_addGame_1 : decode cX11_addGame 1 = .ok (.iload_n 1, 1) := by decide +kernel
theorem dX11_addGame_2 : decode cX11_addGame 2 = .ok (.invokevirtual 337, 3) := by decide +kernel
theorem dX11_addGame_5 : decode cX11_addGame 5 = .ok (.astore 5, 2) := by decide +kernel
theorem dX11_addGame_7 : decode cX11_addGame 7 = .ok (.iload_n 2, 1) := by decide +kernel
theorem dX11_addGame_8 : decode cX11_addGame 8 = .ok (.ifCond .lt 35, 3) := by decide +kernel
theorem dX11_addGame_11 : decode cX11_addGame 11 = .ok (.iload_n 2, 1) := by decide +kernel
theorem dX11_addGame_12 : decode cX11_addGame 12 = .ok (.iconst 2, 1) := by decide +kernel
theorem dX11_addGame_13 : decode cX11_addGame 13 = .ok (.if_icmp .gt 30, 3) := by decide +kernel
theorem dX11_addGame_16 : decode cX11_addGame 16 = .ok (.iload_n 3, 1) := by decide +kernel
theorem dX11_addGame_17 : decode cX11_addGame 17 = .ok (.sipush 1800, 3) := by decide +kernel
theorem dX11_addGame_20 : decode cX11_addGame 20 = .ok (.if_icmp .lt 23, 3) := by decide +kernel
theorem dX11_addGame_23 : decode cX11_addGame 23 = .ok (.iload_n 3, 1) := by decide +kernel
theorem dX11_addGame_24 : decode cX11_addGame 24 = .ok (.sipush 2100, 3) := by decide +kernel
theorem dX11_addGame_27 : decode cX11_addGame 27 = .ok (.if_icmp .gt 16, 3) := by decide +kernel
theorem dX11_addGame_30 : decode cX11_addGame 30 = .ok (.iload 4, 2) := by decide +kernel
theorem dX11_addGame_32 : decode cX11_addGame 32 = .ok (.ifCond .lt 11, 3) := by decide +kernel
theorem dX11_addGame_35 : decode cX11_addGame 35 = .ok (.iload 4, 2) := by decide +kernel
theorem dX11_addGame_37 : decode cX11_addGame 37 = .ok (.sipush 3500, 3) := by decide +kernel
theorem dX11_addGame_40 : decode cX11_addGame 40 = .ok (.if_icmp .le 14, 3) := by decide +kernel
theorem dX11_addGame_43 : decode cX11_addGame 43 = .ok (.new 140, 3) := by decide +kernel
theorem dX11_addGame_46 : decode cX11_addGame 46 = .ok (.dup, 1) := by decide +kernel
theorem dX11_addGame_47 : decode cX11_addGame 47 = .ok (.ldc_w 341, 3) := by decide +kernel
theorem dX11_addGame_50 : decode cX11_addGame 50 = .ok (.invokespecial 144, 3) := by decide +kernel
theorem dX11_addGame_53 : decode cX11_addGame 53 = .ok (.athrow, 1) := by decide +kernel
theorem dX11_addGame_54 : decode cX11_addGame 54 = .ok (.aload_n 0, 1) := by decide +kernel
theorem dX11_addGame_55 : decode cX11_addGame 55 = .ok (.invokevirtual 217, 3) := by decide +kernel
theorem dX11_addGame_58 : decode cX11_addGame 58 = .ok (.aload 5, 2) := by decide +kernel
theorem dX11_addGame_60 : decode cX11_addGame 60 = .ok (.invokevirtual 343, 3) := by decide +kernel
theorem dX11_addGame_63 : decode cX11_addGame 63 = .ok (.bipush 40, 2) := by decide +kernel
theorem dX11_addGame_65 : decode cX11_addGame 65 = .ok (.if_icmp .lt 14, 3) := by decide +kernel
theorem dX11_addGame_68 : decode cX11_addGame 68 = .ok (.new 285, 3) := by decide +kernel
theorem dX11_addGame_71 : decode cX11_addGame 71 = .ok (.dup, 1) := by decide +kernel
theorem dX11_addGame_72 : decode cX11_addGame 72 = .ok (.ldc_w 345, 3) := by decide +kernel
theorem dX11_addGame_75 : decode cX11_addGame 75 = .ok (.invokespecial 289, 3) := by decide +kernel
theorem dX11_addGame_78 : decode cX11_addGame 78 = .ok (.athrow, 1) := by decide +kernel
theorem dX11_addGame_79 : decode cX11_addGame 79 = .ok (.aload 5, 2) := by decide +kernel
theorem dX11_addGame_81 : decode cX11_addGame 81 = .ok (.aload_n 0, 1) := by decide +kernel
theorem dX11_addGame_82 : decode cX11_addGame 82 = .ok (.getfield 40, 3) := by decide +kernel
theorem dX11_addGame_85 : decode cX11_addGame 85 = .ok (.iload_n 2, 1) := by decide +kernel
theorem dX11_addGame_86 : decode cX11_addGame 86 = .ok (.iload_n 3, 1) := by decide +kernel
theorem dX11_addGame_87 : decode cX11_addGame 87 = .ok (.iload 4, 2) := by decide +kernel
theorem dX11_addGame_89 : decode cX11_addGame 89 = .ok (.invokevirtual 347, 3) := by decide +kernel
theorem dX11_addGame_92 : decode cX11_addGame 92 = .ok (.invokevirtual 351, 3) := by decide +kernel
theorem dX11_addGame_95 : decode cX11_addGame 95 = .ok (.aload 5, 2) := by decide +kernel
theorem dX11_addGame_97 : decode cX11_addGame 97 = .ok (.invokevirtual 343, 3) := by decide +kernel
theorem dX11_addGame_100 : decode cX11_addGame 100 = .ok (.iconst 1, 1) := by decide +kernel
theorem dX11_addGame_101 : decode cX11_addGame 101 = .ok (.isub, 1) := by decide +kernel
theorem dX11_addGame_102 : decode cX11_addGame 102 = .ok (.ireturn, 1) := by decide +kernel
theorem dX11_numberAsked_0 : decode cX11_numberAsked 0 = .ok (.aload_n 0, 1) := by decide +kernel
theorem dX11_numberAsked_1 : decode cX11_numberAsked 1 = .ok (.getfield 72, 3) := by decide +kernel
theorem dX11_numberAsked_4 : decode cX11_numberAsked 4 = .ok (.invokevirtual 516, 3) := by decide +kernel
theorem dX11_numberAsked_7 : decode cX11_numberAsked 7 = .ok (.istore_n 1, 1) := by decide +kernel
theorem dX11_numberAsked_8 : decode cX11_numberAsked 8 = .ok (.iload_n 1, 1) := by decide +kernel
theorem dX11_numberAsked_9 : decode cX11_numberAsked 9 = .ok (.iconst (-1), 1) := by decide +kernel
theorem dX11_numberAsked_10 : decode cX11_numberAsked 10 = .ok (.if_icmp .ne 14, 3) := by decide +kernel
theorem dX11_numberAsked_13 : decode cX11_numberAsked 13 = .ok (.new 372, 3) := by decide +kernel
theorem dX11_numberAsked_16 : decode cX11_numberAsked 16 = .ok (.dup, 1) := by decide +kernel
theorem dX11_numberAsked_17 : decode cX11_numberAsked 17 = .ok (.ldc_w 519, 3) := by decide +kernel
theorem dX11_numberAsked_20 : decode cX11_numberAsked 20 = .ok (.invokespecial 376, 3) := by decide +kernel
theorem dX11_numberAsked_23 : decode cX11_numberAsked 23 = .ok (.athrow, 1) := by decide +kernel
theorem dX11_numberAsked_24 : decode cX11_numberAsked 24 = .ok (.iload_n 1, 1) := by decide +kernel
theorem dX11_numberAsked_25 : decode cX11_numberAsked 25 = .ok (.ireturn, 1) := by decide +kernel
theorem dX11_answer_0 : decode cX11_answer 0 = .ok (.aload_n 0, 1) := by decide +kernel
theorem dX11_answer_1 : decode cX11_answer 1 = .ok (.getfield 72, 3) := by decide +kernel
theorem dX11_answer_4 : decode cX11_answer 4 = .ok (.aload_n 0, 1) := by decide +kernel
theorem dX11_answer_5 : decode cX11_answer 5 = .ok (.invokevirtual 474, 3) := by decide +kernel
theorem dX11_answer_8 : decode cX11_answer 8 = .ok (.invokevirtual 408, 3) := by decide +kernel
theorem dX11_answer_11 : decode cX11_answer 11 = .ok (.astore_n 2, 1) := by decide +kernel
theorem dX11_answer_12 : decode cX11_answer 12 = .ok (.aload_n 2, 1) := by decide +kernel
theorem dX11_answer_13 : decode cX11_answer 13 = .ok (.ifnonnull 5, 3) := by decide +kernel
theorem dX11_answer_16 : decode cX11_answer 16 = .ok (.iconst 0, 1) := by decide +kernel
theorem dX11_answer_17 : decode cX11_answer 17 = .ok (.ireturn, 1) := by decide +kernel
theorem dX11_answer_18 : decode cX11_answer 18 = .ok (.aload_n 0, 1) := by decide +kernel
theorem dX11_answer_19 : decode cX11_answer 19 = .ok (.dup, 1) := by decide +kernel
theorem dX11_answer_20 : decode cX11_answer 20 = .ok (.getfield 120, 3) := by decide +kernel
theorem dX11_answer_23 : decode cX11_answer 23 = .ok (.iconst 1, 1) := by decide +kernel
theorem dX11_answer_24 : decode cX11_answer 24 = .ok (.iadd, 1) := by decide +kernel
theorem dX11_answer_25 : decode cX11_answer 25 = .ok (.putfield 120, 3) := by decide +kernel
theorem dX11_answer_28 : decode cX11_answer 28 = .ok (.aload_n 2, 1) := by decide +kernel
theorem dX11_answer_29 : decode cX11_answer 29 = .ok (.iload_n 1, 1) := by decide +kernel
theorem dX11_answer_30 : decode cX11_answer 30 = .ok (.ifCond .eq 16, 3) := by decide +kernel
theorem dX11_answer_33 : decode cX11_answer 33 = .ok (.aload_n 2, 1) := by decide +kernel
theorem dX11_answer_34 : decode cX11_answer 34 = .ok (.getfield 416, 3) := by decide +kernel
theorem dX11_answer_37 : decode cX11_answer 37 = .ok (.iconst 1, 1) := by decide +kernel
theorem dX11_answer_38 : decode cX11_answer 38 = .ok (.iadd, 1) := by decide +kernel
theorem dX11_answer_39 : decode cX11_answer 39 = .ok (.iconst 4, 1) := by decide +kernel
theorem dX11_answer_40 : decode cX11_answer 40 = .ok (.invokestatic 477, 3) := by decide +kernel
theorem dX11_answer_43 : decode cX11_answer 43 = .ok (.goto 4, 3) := by decide +kernel
theorem dX11_answer_46 : decode cX11_answer 46 = .ok (.iconst 0, 1) := by decide +kernel
theorem dX11_answer_47 : decode cX11_answer 47 = .ok (.putfield 416, 3) := by decide +kernel
theorem dX11_answer_50 : decode cX11_answer 50 = .ok (.aload_n 2, 1) := by decide +kernel
theorem dX11_answer_51 : decode cX11_answer 51 = .ok (.aload_n 0, 1) := by decide +kernel
theorem dX11_answer_52 : decode cX11_answer 52 = .ok (.getfield 120, 3) := by decide +kernel
theorem dX11_answer_55 : decode cX11_answer 55 = .ok (.iconst 1, 1) := by decide +kernel
theorem dX11_answer_56 : decode cX11_answer 56 = .ok (.aload_n 2, 1) := by decide +kernel
theorem dX11_answer_57 : decode cX11_answer 57 = .ok (.getfield 416, 3) := by decide +kernel
theorem dX11_answer_60 : decode cX11_answer 60 = .ok (.ishl, 1) := by decide +kernel
theorem dX11_answer_61 : decode cX11_answer 61 = .ok (.iadd, 1) := by decide +kernel
theorem dX11_answer_62 : decode cX11_answer 62 = .ok (.putfield 419, 3) := by decide +kernel
theorem dX11_answer_65 : decode cX11_answer 65 = .ok (.aload_n 2, 1) := by decide +kernel
theorem dX11_answer_66 : decode cX11_answer 66 = .ok (.getfield 416, 3) := by decide +kernel
theorem dX11_answer_69 : decode cX11_answer 69 = .ok (.ireturn, 1) := by decide +kernel
theorem dX11_asked_0 : decode cX11_asked 0 = .ok (.aload_n 0, 1) := by decide +kernel
theorem dX11_asked_1 : decode cX11_asked 1 = .ok (.invokevirtual 474, 3) := by decide +kernel
theorem dX11_asked_4 : decode cX11_asked 4 = .ok (.ireturn, 1) := by decide +kernel
theorem dX11_clearText_0 : decode cX11_clearText 0 = .ok (.aload_n 0, 1) := by decide +kernel
theorem dX11_clearText_1 : decode cX11_clearText 1 = .ok (.getfield 105, 3) := by decide +kernel
theorem dX11_clearText_4 : decode cX11_clearText 4 = .ok (.invokevirtual 232, 3) := by decide +kernel
theorem dX11_clearText_7 : decode cX11_clearText 7 = .ok (.istore_n 1, 1) := by decide +kernel
theorem dX11_clearText_8 : decode cX11_clearText 8 = .ok (.aload_n 0, 1) := by decide +kernel
theorem dX11_clearText_9 : decode cX11_clearText 9 = .ok (.getfield 105, 3) := by decide +kernel
theorem dX11_clearText_12 : decode cX11_clearText 12 = .ok (.iconst 0, 1) := by decide +kernel
theorem dX11_clearText_13 : decode cX11_clearText 13 = .ok (.invokevirtual 191, 3) := by decide +kernel
theorem dX11_clearText_16 : decode cX11_clearText 16 = .ok (.iload_n 1, 1) := by decide +kernel
theorem dX11_clearText_17 : decode cX11_clearText 17 = .ok (.ireturn, 1) := by decide +kernel
theorem dX4_plainWord_0 : decode cX4_plainWord 0 = .ok (.aload_n 0, 1) := by decide +kernel
theorem dX4_plainWord_1 : decode cX4_plainWord 1 = .ok (.iload_n 1, 1) := by decide +kernel
theorem dX4_plainWord_2 : decode cX4_plainWord 2 = .ok (.invokevirtual 65, 3) := by decide +kernel
theorem dX4_plainWord_5 : decode cX4_plainWord 5 = .ok (.istore_n 2, 1) := by decide +kernel
theorem dX4_plainWord_6 : decode cX4_plainWord 6 = .ok (.iload_n 2, 1) := by decide +kernel
theorem dX4_plainWord_7 : decode cX4_plainWord 7 = .ok (.invokestatic 68, 3) := by decide +kernel
theorem dX4_plainWord_10 : decode cX4_plainWord 10 = .ok (.istore_n 3, 1) := by decide +kernel
theorem dX4_plainWord_11 : decode cX4_plainWord 11 = .ok (.iload_n 2, 1) := by decide +kernel
theorem dX4_plainWord_12 : decode cX4_plainWord 12 = .ok (.invokestatic 71, 3) := by decide +kernel
theorem dX4_plainWord_15 : decode cX4_plainWord 15 = .ok (.istore 4, 2) := by decide +kernel
theorem dX4_plainWord_17 : decode cX4_plainWord 17 = .ok (.aload_n 0, 1) := by decide +kernel
theorem dX4_plainWord_18 : decode cX4_plainWord 18 = .ok (.getfield 40, 3) := by decide +kernel
theorem dX4_plainWord_21 : decode cX4_plainWord 21 = .ok (.iload_n 3, 1) := by decide +kernel
theorem dX4_plainWord_22 : decode cX4_plainWord 22 = .ok (.invokevirtual 74, 3) := by decide +kernel
theorem dX4_plainWord_25 : decode cX4_plainWord 25 = .ok (.istore 5, 2) := by decide +kernel
theorem dX4_plainWord_27 : decode cX4_plainWord 27 = .ok (.iload 5, 2) := by decide +kernel
theorem dX4_plainWord_29 : decode cX4_plainWord 29 = .ok (.iconst 1, 1) := by decide +kernel
theorem dX4_plainWord_30 : decode cX4_plainWord 30 = .ok (.if_icmp .ne 15, 3) := by decide +kernel
theorem dX4_plainWord_33 : decode cX4_plainWord 33 = .ok (.iload 4, 2) := by decide +kernel
theorem dX4_plainWord_35 : decode cX4_plainWord 35 = .ok (.iload_n 3, 1) := by decide +kernel
theorem dX4_plainWord_36 : decode cX4_plainWord 36 = .ok (.isub, 1) := by decide +kernel
theorem dX4_plainWord_37 : decode cX4_plainWord 37 = .ok (.iconst 2, 1) := by decide +kernel
theorem dX4_plainWord_38 : decode cX4_plainWord 38 = .ok (.if_icmp .ne 7, 3) := by decide +kernel
theorem dX4_plainWord_41 : decode cX4_plainWord 41 = .ok (.ldc2_w 77, 3) := by decide +kernel
theorem dX4_plainWord_44 : decode cX4_plainWord 44 = .ok (.lreturn, 1) := by decide +kernel
theorem dX4_plainWord_45 : decode cX4_plainWord 45 = .ok (.iload 5, 2) := by decide +kernel
theorem dX4_plainWord_47 : decode cX4_plainWord 47 = .ok (.iconst 1, 1) := by decide +kernel
theorem dX4_plainWord_48 : decode cX4_plainWord 48 = .ok (.if_icmp .ne 15, 3) := by decide +kernel
theorem dX4_plainWord_51 : decode cX4_plainWord 51 = .ok (.iload_n 3, 1) := by decide +kernel
theorem dX4_plainWord_52 : decode cX4_plainWord 52 = .ok (.iload 4, 2) := by decide +kernel
theorem dX4_plainWord_54 : decode cX4_plainWord 54 = .ok (.isub, 1) := by decide +kernel
theorem dX4_plainWord_55 : decode cX4_plainWord 55 = .ok (.iconst 2, 1) := by decide +kernel
theorem dX4_plainWord_56 : decode cX4_plainWord 56 = .ok (.if_icmp .ne 7, 3) := by decide +kernel
theorem dX4_plainWord_59 : decode cX4_plainWord 59 = .ok (.ldc2_w 79, 3) := by decide +kernel
theorem dX4_plainWord_62 : decode cX4_plainWord 62 = .ok (.lreturn, 1) := by decide +kernel
theorem dX4_plainWord_63 : decode cX4_plainWord 63 = .ok (.aload_n 0, 1) := by decide +kernel
theorem dX4_plainWord_64 : decode cX4_plainWord 64 = .ok (.getfield 40, 3) := by decide +kernel
theorem dX4_plainWord_67 : decode cX4_plainWord 67 = .ok (.iload 4, 2) := by decide +kernel
theorem dX4_plainWord_69 : decode cX4_plainWord 69 = .ok (.invokevirtual 74, 3) := by decide +kernel
theorem dX4_plainWord_72 : decode cX4_plainWord 72 = .ok (.ifCond .ne 22, 3) := by decide +kernel
theorem dX4_plainWord_75 : decode cX4_plainWord 75 = .ok (.iload 5, 2) := by decide +kernel
theorem dX4_plainWord_77 : decode cX4_plainWord 77 = .ok (.bipush 6, 2) := by decide +kernel
theorem dX4_plainWord_79 : decode cX4_plainWord 79 = .ok (.if_icmp .ne 19, 3) := by decide +kernel
theorem dX4_plainWord_82 : decode cX4_plainWord 82 = .ok (.iload 4, 2) := by decide +kernel
theorem dX4_plainWord_84 : decode cX4_plainWord 84 = .ok (.aload_n 0, 1) := by decide +kernel
theorem dX4_plainWord_85 : decode cX4_plainWord 85 = .ok (.getfield 40, 3) := by decide +kernel
theorem dX4_plainWord_88 : decode cX4_plainWord 88 = .ok (.getfield 81, 3) := by decide +kernel
theorem dX4_plainWord_91 : decode cX4_plainWord 91 = .ok (.if_icmp .ne 7, 3) := by decide +kernel
theorem dX4_plainWord_94 : decode cX4_plainWord 94 = .ok (.iconst 1, 1) := by decide +kernel
theorem dX4_plainWord_95 : decode cX4_plainWord 95 = .ok (.goto 4, 3) := by decide +kernel
theorem dX4_plainWord_98 : decode cX4_plainWord 98 = .ok (.iconst 0, 1) := by decide +kernel
theorem dX4_plainWord_99 : decode cX4_plainWord 99 = .ok (.istore 6, 2) := by decide +kernel
theorem dX4_plainWord_101 : decode cX4_plainWord 101 = .ok (.lconst 0, 1) := by decide +kernel
theorem dX4_plainWord_102 : decode cX4_plainWord 102 = .ok (.lstore 7, 2) := by decide +kernel
theorem dX4_plainWord_104 : decode cX4_plainWord 104 = .ok (.iload 5, 2) := by decide +kernel
theorem dX4_plainWord_106 : decode cX4_plainWord 106 = .ok (.bipush 6, 2) := by decide +kernel
theorem dX4_plainWord_108 : decode cX4_plainWord 108 = .ok (.if_icmp .ne 22, 3) := by decide +kernel
theorem dX4_plainWord_111 : decode cX4_plainWord 111 = .ok (.iload 6, 2) := by decide +kernel
theorem dX4_plainWord_113 : decode cX4_plainWord 113 = .ok (.ifCond .eq 11, 3) := by decide +kernel
theorem dX4_plainWord_116 : decode cX4_plainWord 116 = .ok (.aload_n 0, 1) := by decide +kernel
theorem dX4_plainWord_117 : decode cX4_plainWord 117 = .ok (.iload_n 3, 1) := by decide +kernel
theorem dX4_plainWord_118 : decode cX4_plainWord 118 = .ok (.invokevirtual 84, 3) := by decide +kernel
theorem dX4_plainWord_121 : decode cX4_plainWord 121 = .ok (.goto 4, 3) := by decide +kernel
theorem dX4_plainWord_124 : decode cX4_plainWord 124 = .ok (.lconst 0, 1) := by decide +kernel
theorem dX4_plainWord_125 : decode cX4_plainWord 125 = .ok (.lstore 7, 2) := by decide +kernel
theorem dX4_plainWord_127 : decode cX4_plainWord 127 = .ok (.goto 30, 3) := by decide +kernel
theorem dX4_plainWord_130 : decode cX4_plainWord 130 = .ok (.iload 5, 2) := by decide +kernel
theorem dX4_plainWord_132 : decode cX4_plainWord 132 = .ok (.ldc 87, 2) := by decide +kernel
theorem dX4_plainWord_134 : decode cX4_plainWord 134 = .ok (.invokevirtual 89, 3) := by decide +kernel
theorem dX4_plainWord_137 : decode cX4_plainWord 137 = .ok (.if_icmp .ge 20, 3) := by decide +kernel
theorem dX4_plainWord_140 : decode cX4_plainWord 140 = .ok (.aload_n 0, 1) := by decide +kernel
theorem dX4_plainWord_141 : decode cX4_plainWord 141 = .ok (.ldc 87, 2) := by decide +kernel
theorem dX4_plainWord_143 : decode cX4_plainWord 143 = .ok (.iload 5, 2) := by decide +kernel
theorem dX4_plainWord_145 : decode cX4_plainWord 145 = .ok (.invokevirtual 95, 3) := by decide +kernel
theorem dX4_plainWord_148 : decode cX4_plainWord 148 = .ok (.i2l, 1) := by decide +kernel
theorem dX4_plainWord_149 : decode cX4_plainWord 149 = .ok (.iload_n 2, 1) := by decide +kernel
theorem dX4_plainWord_150 : decode cX4_plainWord 150 = .ok (.iload 5, 2) := by decide +kernel
theorem dX4_plainWord_152 : decode cX4_plainWord 152 = .ok (.invokevirtual 99, 3) := by decide +kernel
theorem dX4_plainWord_155 : decode cX4_plainWord 155 = .ok (.lstore 7, 2) := by decide +kernel
theorem dX4_plainWord_157 : decode cX4_plainWord 157 = .ok (.iload 6, 2) := by decide +kernel
theorem dX4_plainWord_159 : decode cX4_plainWord 159 = .ok (.ifCond .eq 14, 3) := by decide +kernel
theorem dX4_plainWord_162 : decode cX4_plainWord 162 = .ok (.lload 7, 2) := by decide +kernel
theorem dX4_plainWord_164 : decode cX4_plainWord 164 = .ok (.bipush 8, 2) := by decide +kernel
theorem dX4_plainWord_166 : decode cX4_plainWord 166 = .ok (.lshl, 1) := by decide +kernel
theorem dX4_plainWord_167 : decode cX4_plainWord 167 = .ok (.ldc2_w 103, 3) := by decide +kernel
theorem dX4_plainWord_170 : decode cX4_plainWord 170 = .ok (.lor, 1) := by decide +kernel
theorem dX4_plainWord_171 : decode cX4_plainWord 171 = .ok (.lstore 7, 2) := by decide +kernel
theorem dX4_plainWord_173 : decode cX4_plainWord 173 = .ok (.lload 7, 2) := by decide +kernel
theorem dX4_plainWord_175 : decode cX4_plainWord 175 = .ok (.bipush 16, 2) := by decide +kernel
theorem dX4_plainWord_177 : decode cX4_plainWord 177 = .ok (.lshl, 1) := by decide +kernel
theorem dX4_plainWord_178 : decode cX4_plainWord 178 = .ok (.aload_n 0, 1) := by decide +kernel
theorem dX4_plainWord_179 : decode cX4_plainWord 179 = .ok (.iload 4, 2) := by decide +kernel
theorem dX4_plainWord_181 : decode cX4_plainWord 181 = .ok (.invokevirtual 84, 3) := by decide +kernel
theorem dX4_plainWord_184 : decode cX4_plainWord 184 = .ok (.bipush 8, 2) := by decide +kernel
theorem dX4_plainWord_186 : decode cX4_plainWord 186 = .ok (.lshl, 1) := by decide +kernel
theorem dX4_plainWord_187 : decode cX4_plainWord 187 = .ok (.lor, 1) := by decide +kernel
theorem dX4_plainWord_188 : decode cX4_plainWord 188 = .ok (.aload_n 0, 1) := by decide +kernel
theorem dX4_plainWord_189 : decode cX4_plainWord 189 = .ok (.iload 4, 2) := by decide +kernel
theorem dX4_plainWord_191 : decode cX4_plainWord 191 = .ok (.invokevirtual 105, 3) := by decide +kernel
theorem dX4_plainWord_194 : decode cX4_plainWord 194 = .ok (.lor, 1) := by decide +kernel
theorem dX4_plainWord_195 : decode cX4_plainWord 195 = .ok (.lstore 7, 2) := by decide +kernel
theorem dX4_plainWord_197 : decode cX4_plainWord 197 = .ok (.iload_n 2, 1) := by decide +kernel
theorem dX4_plainWord_198 : decode cX4_plainWord 198 = .ok (.invokestatic 108, 3) := by decide +kernel
theorem dX4_plainWord_201 : decode cX4_plainWord 201 = .ok (.istore 9, 2) := by decide +kernel
theorem dX4_plainWord_203 : decode cX4_plainWord 203 = .ok (.iload 9, 2) := by decide +kernel
theorem dX4_plainWord_205 : decode cX4_plainWord 205 = .ok (.ifCond .le 33, 3) := by decide +kernel
theorem dX4_plainWord_208 : decode cX4_plainWord 208 = .ok (.iload 9, 2) := by decide +kernel
theorem dX4_plainWord_210 : decode cX4_plainWord 210 = .ok (.ldc 87, 2) := by decide +kernel
theorem dX4_plainWord_212 : decode cX4_plainWord 212 = .ok (.invokevirtual 89, 3) := by decide +kernel
theorem dX4_plainWord_215 : decode cX4_plainWord 215 = .ok (.if_icmp .ge 23, 3) := by decide +kernel
theorem dX4_plainWord_218 : decode cX4_plainWord 218 = .ok (.lload 7, 2) := by decide +kernel
theorem dX4_plainWord_220 : decode cX4_plainWord 220 = .ok (.bipush 16, 2) := by decide +kernel
theorem dX4_plainWord_222 : decode cX4_plainWord 222 = .ok (.lshl, 1) := by decide +kernel
theorem dX4_plainWord_223 : decode cX4_plainWord 223 = .ok (.ldc2_w 111, 3) := by decide +kernel
theorem dX4_plainWord_226 : decode cX4_plainWord 226 = .ok (.lor, 1) := by decide +kernel
theorem dX4_plainWord_227 : decode cX4_plainWord 227 = .ok (.ldc 87, 2) := by decide +kernel
theorem dX4_plainWord_229 : decode cX4_plainWord 229 = .ok (.iload 9, 2) := by decide +kernel
theorem dX4_plainWord_231 : decode cX4_plainWord 231 = .ok (.invokevirtual 95, 3) := by decide +kernel
theorem dX4_plainWord_234 : decode cX4_plainWord 234 = .ok (.i2l, 1) := by decide +kernel
theorem dX4_plainWord_235 : decode cX4_plainWord 235 = .ok (.lor, 1) := by decide +kernel
theorem dX4_plainWord_236 : decode cX4_plainWord 236 = .ok (.lstore 7, 2) := by decide +kernel
theorem dX4_plainWord_238 : decode cX4_plainWord 238 = .ok (.lload 7, 2) := by decide +kernel
theorem dX4_plainWord_240 : decode cX4_plainWord 240 = .ok (.lreturn, 1) := by decide +kernel
theorem dX4_wordOf_0 : decode cX4_wordOf 0 = .ok (.aload_n 0, 1) := by decide +kernel
theorem dX4_wordOf_1 : decode cX4_wordOf 1 = .ok (.iload_n 1, 1) := by decide +kernel
theorem dX4_wordOf_2 : decode cX4_wordOf 2 = .ok (.invokevirtual 57, 3) := by decide +kernel
theorem dX4_wordOf_5 : decode cX4_wordOf 5 = .ok (.lstore_n 2, 1) := by decide +kernel
theorem dX4_wordOf_6 : decode cX4_wordOf 6 = .ok (.aload_n 0, 1) := by decide +kernel
theorem dX4_wordOf_7 : decode cX4_wordOf 7 = .ok (.iload_n 1, 1) := by decide +kernel
theorem dX4_wordOf_8 : decode cX4_wordOf 8 = .ok (.invokevirtual 61, 3) := by decide +kernel
theorem dX4_wordOf_11 : decode cX4_wordOf 11 = .ok (.istore 4, 2) := by decide +kernel
theorem dX4_wordOf_13 : decode cX4_wordOf 13 = .ok (.iload 4, 2) := by decide +kernel
theorem dX4_wordOf_15 : decode cX4_wordOf 15 = .ok (.ifCond .ne 7, 3) := by decide +kernel
theorem dX4_wordOf_18 : decode cX4_wordOf 18 = .ok (.lload_n 2, 1) := by decide +kernel
theorem dX4_wordOf_19 : decode cX4_wordOf 19 = .ok (.goto 11, 3) := by decide +kernel
theorem dX4_wordOf_22 : decode cX4_wordOf 22 = .ok (.lload_n 2, 1) := by decide +kernel
theorem dX4_wordOf_23 : decode cX4_wordOf 23 = .ok (.bipush 8, 2) := by decide +kernel
theorem dX4_wordOf_25 : decode cX4_wordOf 25 = .ok (.lshl, 1) := by decide +kernel
theorem dX4_wordOf_26 : decode cX4_wordOf 26 = .ok (.iload 4, 2) := by decide +kernel
theorem dX4_wordOf_28 : decode cX4_wordOf 28 = .ok (.i2l, 1) := by decide +kernel
theorem dX4_wordOf_29 : decode cX4_wordOf 29 = .ok (.lor, 1) := by decide +kernel
theorem dX4_wordOf_30 : decode cX4_wordOf 30 = .ok (.lreturn, 1) := by decide +kernel
theorem dX1_gather_0 : decode cX1_gather 0 = .ok (.aload_n 0, 1) := by decide +kernel
theorem dX1_gather_1 : decode cX1_gather 1 = .ok (.getfield 22, 3) := by decide +kernel
theorem dX1_gather_4 : decode cX1_gather 4 = .ok (.aload_n 2, 1) := by decide +kernel
theorem dX1_gather_5 : decode cX1_gather 5 = .ok (.invokevirtual 26, 3) := by decide +kernel
theorem dX1_gather_8 : decode cX1_gather 8 = .ok (.aload_n 0, 1) := by decide +kernel
theorem dX1_gather_9 : decode cX1_gather 9 = .ok (.getfield 9, 3) := by decide +kernel
theorem dX1_gather_12 : decode cX1_gather 12 = .ok (.iconst 0, 1) := by decide +kernel
theorem dX1_gather_13 : decode cX1_gather 13 = .ok (.invokestatic 32, 3) := by decide +kernel
theorem dX1_gather_16 : decode cX1_gather 16 = .ok (.aload_n 0, 1) := by decide +kernel
theorem dX1_gather_17 : decode cX1_gather 17 = .ok (.getfield 15, 3) := by decide +kernel
theorem dX1_gather_20 : decode cX1_gather 20 = .ok (.iconst (-1), 1) := by decide +kernel
theorem dX1_gather_21 : decode cX1_gather 21 = .ok (.invokestatic 32, 3) := by decide +kernel
theorem dX1_gather_24 : decode cX1_gather 24 = .ok (.iconst 0, 1) := by decide +kernel
theorem dX1_gather_25 : decode cX1_gather 25 = .ok (.istore_n 3, 1) := by decide +kernel
theorem dX1_gather_26 : decode cX1_gather 26 = .ok (.iload_n 3, 1) := by decide +kernel
theorem dX1_gather_27 : decode cX1_gather 27 = .ok (.aload_n 1, 1) := by decide +kernel
theorem dX1_gather_28 : decode cX1_gather 28 = .ok (.invokevirtual 38, 3) := by decide +kernel
theorem dX1_gather_31 : decode cX1_gather 31 = .ok (.if_icmp .ge 73, 3) := by decide +kernel
theorem dX1_gather_34 : decode cX1_gather 34 = .ok (.aload_n 1, 1) := by decide +kernel
theorem dX1_gather_35 : decode cX1_gather 35 = .ok (.iload_n 3, 1) := by decide +kernel
theorem dX1_gather_36 : decode cX1_gather 36 = .ok (.invokevirtual 44, 3) := by decide +kernel
theorem dX1_gather_39 : decode cX1_gather 39 = .ok (.astore 4, 2) := by decide +kernel
theorem dX1_gather_41 : decode cX1_gather 41 = .ok (.iconst 0, 1) := by decide +kernel
theorem dX1_gather_42 : decode cX1_gather 42 = .ok (.istore 5, 2) := by decide +kernel
theorem dX1_gather_44 : decode cX1_gather 44 = .ok (.aload 4, 2) := by decide +kernel
theorem dX1_gather_46 : decode cX1_gather 46 = .ok (.ifnull 52, 3) := by decide +kernel
theorem dX1_gather_49 : decode cX1_gather 49 = .ok (.iload 5, 2) := by decide +kernel
theorem dX1_gather_51 : decode cX1_gather 51 = .ok (.aload 4, 2) := by decide +kernel
theorem dX1_gather_53 : decode cX1_gather 53 = .ok (.getfield 48, 3) := by decide +kernel
theorem dX1_gather_56 : decode cX1_gather 56 = .ok (.if_icmp .ge 42, 3) := by decide +kernel
theorem dX1_gather_59 : decode cX1_gather 59 = .ok (.aload_n 2, 1) := by decide +kernel
theorem dX1_gather_60 : decode cX1_gather 60 = .ok (.aload 4, 2) := by decide +kernel
theorem dX1_gather_62 : decode cX1_gather 62 = .ok (.getfield 54, 3) := by decide +kernel
theorem dX1_gather_65 : decode cX1_gather 65 = .ok (.iload 5, 2) := by decide +kernel
theorem dX1_gather_67 : decode cX1_gather 67 = .ok (.invokevirtual 57, 3) := by decide +kernel
theorem dX1_gather_70 : decode cX1_gather 70 = .ok (.ifCond .eq 22, 3) := by decide +kernel
theorem dX1_gather_73 : decode cX1_gather 73 = .ok (.aload_n 0, 1) := by decide +kernel
theorem dX1_gather_74 : decode cX1_gather 74 = .ok (.aload_n 0, 1) := by decide +kernel
theorem dX1_gather_75 : decode cX1_gather 75 = .ok (.getfield 22, 3) := by decide +kernel
theorem dX1_gather_78 : decode cX1_gather 78 = .ok (.aload 4, 2) := by decide +kernel
theorem dX1_gather_80 : decode cX1_gather 80 = .ok (.iload 5, 2) := by decide +kernel
theorem dX1_gather_82 : decode cX1_gather 82 = .ok (.invokevirtual 63, 3) := by decide +kernel
theorem dX1_gather_85 : decode cX1_gather 85 = .ok (.invokevirtual 67, 3) := by decide +kernel
theorem dX1_gather_88 : decode cX1_gather 88 = .ok (.iload_n 3, 1) := by decide +kernel
theorem dX1_gather_89 : decode cX1_gather 89 = .ok (.invokevirtual 70, 3) := by decide +kernel
theorem dX1_gather_92 : decode cX1_gather 92 = .ok (.iinc 5 1, 3) := by decide +kernel
theorem dX1_gather_95 : decode cX1_gather 95 = .ok (.goto (-51), 3) := by decide +kernel
theorem dX1_gather_98 : decode cX1_gather 98 = .ok (.iinc 3 1, 3) := by decide +kernel
theorem dX1_gather_101 : decode cX1_gather 101 = .ok (.goto (-75), 3) := by decide +kernel
theorem dX1_gather_104 : decode cX1_gather 104 = .ok (.iconst 0, 1) := by decide +kernel
theorem dX1_gather_105 : decode cX1_gather 105 = .ok (.istore_n 3, 1) := by decide +kernel
theorem dX1_gather_106 : decode cX1_gather 106 = .ok (.iload_n 3, 1) := by decide +kernel
theorem dX1_gather_107 : decode cX1_gather 107 = .ok (.aload_n 0, 1) := by decide +kernel
theorem dX1_gather_108 : decode cX1_gather 108 = .ok (.getfield 22, 3) := by decide +kernel
theorem dX1_gather_111 : decode cX1_gather 111 = .ok (.getfield 74, 3) := by decide +kernel
theorem dX1_gather_114 : decode cX1_gather 114 = .ok (.if_icmp .ge 47, 3) := by decide +kernel
theorem dX1_gather_117 : decode cX1_gather 117 = .ok (.iload_n 3, 1) := by decide +kernel
theorem dX1_gather_118 : decode cX1_gather 118 = .ok (.aload_n 0, 1) := by decide +kernel
theorem dX1_gather_119 : decode cX1_gather 119 = .ok (.getfield 18, 3) := by decide +kernel
theorem dX1_gather_122 : decode cX1_gather 122 = .ok (.arraylength, 1) := by decide +kernel
theorem dX1_gather_123 : decode cX1_gather 123 = .ok (.if_icmp .ge 38, 3) := by decide +kernel
theorem dX1_gather_126 : decode cX1_gather 126 = .ok (.aload_n 0, 1) := by decide +kernel
theorem dX1_gather_127 : decode cX1_gather 127 = .ok (.getfield 18, 3) := by decide +kernel
theorem dX1_gather_130 : decode cX1_gather 130 = .ok (.iload_n 3, 1) := by decide +kernel
theorem dX1_gather_131 : decode cX1_gather 131 = .ok (.aload_n 0, 1) := by decide +kernel
theorem dX1_gather_132 : decode cX1_gather 132 = .ok (.iload_n 3, 1) := by decide +kernel
theorem dX1_gather_133 : decode cX1_gather 133 = .ok (.invokevirtual 76, 3) := by decide +kernel
theorem dX1_gather_136 : decode cX1_gather 136 = .ok (.ifCond .le 17, 3) := by decide +kernel
theorem dX1_gather_139 : decode cX1_gather 139 = .ok (.aload_n 0, 1) := by decide +kernel
theorem dX1_gather_140 : decode cX1_gather 140 = .ok (.getfield 22, 3) := by decide +kernel
theorem dX1_gather_143 : decode cX1_gather 143 = .ok (.iload_n 3, 1) := by decide +kernel
theorem dX1_gather_144 : decode cX1_gather 144 = .ok (.invokevirtual 79, 3) := by decide +kernel
theorem dX1_gather_147 : decode cX1_gather 147 = .ok (.invokestatic 83, 3) := by decide +kernel
theorem dX1_gather_150 : decode cX1_gather 150 = .ok (.goto 4, 3) := by decide +kernel
theorem dX1_gather_153 : decode cX1_gather 153 = .ok (.lconst 0, 1) := by decide +kernel
theorem dX1_gather_154 : decode cX1_gather 154 = .ok (.lastore, 1) := by decide +kernel
theorem dX1_gather_155 : decode cX1_gather 155 = .ok (.iinc 3 1, 3) := by decide +kernel
theorem dX1_gather_158 : decode cX1_gather 158 = .ok (.goto (-52), 3) := by decide +kernel
theorem dX1_gather_161 : decode cX1_gather 161 = .ok (.return_, 1) := by decide +kernel
def wp_X10_gameAt_30 (D : wD) (post : Option Nat → wS → Prop)  (S : wS) (h0 : Option Nat) : Prop :=
post h0 S
def wp_X10_gameAt_29 (D : wD) (post : Option Nat → wS → Prop)  (S : wS) : Prop :=
wp_X10_gameAt_30 D post S none
def wp_X10_gameAt_0 (D : wD) (post : Option Nat → wS → Prop)  (S : wS) (a0 : Nat) (x1 : Int32) : Prop :=
((x1 < 0 → wp_X10_gameAt_29 D post S) ∧
 (¬ x1 < 0 → ∃ y_2 : Nat, sR S a0 0 = some y_2 ∧ wM D S y_2 ∧ sK S y_2 = 4 ∧
wp_Jx4a65c_size_8abf5 D (fun r_3 S_4 => 
((r_3 ≤ x1 → wp_X10_gameAt_29 D post S_4) ∧
 (¬ r_3 ≤ x1 → ∃ y_6 : Nat, sR S_4 a0 0 = some y_6 ∧ wM D S_4 y_6 ∧ sK S_4 y_6 = 4 ∧
wp_Jx4a65c_get_915e3 D (fun r_7 S_8 => 
(∀ y : Nat, r_7 = some y → wM D S_8 y ∧ sK S_8 y = 8) ∧
wp_X10_gameAt_30 D post S_8 r_7) S_4 y_6 x1))) S y_2))
abbrev r_X10_gameAt : Room := { frames := 3, cells := 0, slots := 0, locals := 64 }
def wp_X10_gameAt (D : wD) (post : Option Nat → wS → Prop) (S : wS) (a0 : Nat) (x1 : Int32) : Prop := wp_X10_gameAt_0 D post S a0 x1
set_option maxHeartbeats 4000000 in
set_option maxRecDepth 100000 in
theorem t_X10_gameAt_30 {p : Program} {l : Launch} {e : Env} {s : State} {m : MethodId} {args : Array Value} {below : List Frame} {meth : Method} {c : Code} {D : wD} {cy : Nat → ClassId} {X : va_W} {A : Nat → Prop} {S0 : wS} {post : Option Nat → wS → Prop} (F : CallFix p m c cX10_gameAt 2 s args wz_X10_gameAt RX10) (hr : meth.sig.returnType = (some (.object "OpeningsCabinet$Game"))) (hlocks : meth.locks = false) (hK : wK D cy A s) : ∀ {S : wS} {H : Heap} {locs : List Loc} {ls : Array Slot} {h0 : Option Nat}, wp_X10_gameAt_30 D post S h0 → wO D cy X A s.heap S H locs → wX D S0 S → lv_has ls 2 [] → W p l e r_X10_gameAt s m args below meth c H locs 0 0 (MQ below (va_Qq (fun r S9 => wX D S0 S9 ∧ post r S9) (wB D cy X A) A) args s 0 0 A) (F0 m 30 ls [va_rf h0]) := by
  obtain ⟨hx, hb, hml, hown, hts⟩ := id F
  have hwg : ∀ w ∈ WG, w.before args s = true := fun w h => hts w (List.mem_cons_of_mem _ h)
  intro S H locs ls h0 hp hW hE hl
  unfold wp_X10_gameAt_30 at hp
  exact w_aret (g := h0) hx hb hr hlocks hW ⟨hE, hp⟩ dX10_gameAt_30
set_option maxHeartbeats 4000000 in
set_option maxRecDepth 100000 in
theorem t_X10_gameAt_29 {p : Program} {l : Launch} {e : Env} {s : State} {m : MethodId} {args : Array Value} {below : List Frame} {meth : Method} {c : Code} {D : wD} {cy : Nat → ClassId} {X : va_W} {A : Nat → Prop} {S0 : wS} {post : Option Nat → wS → Prop} (F : CallFix p m c cX10_gameAt 2 s args wz_X10_gameAt RX10) (hr : meth.sig.returnType = (some (.object "OpeningsCabinet$Game"))) (hlocks : meth.locks = false) (hK : wK D cy A s) : ∀ {S : wS} {H : Heap} {locs : List Loc} {ls : Array Slot}, wp_X10_gameAt_29 D post S → wO D cy X A s.heap S H locs → wX D S0 S → lv_has ls 2 [] → W p l e r_X10_gameAt s m args below meth c H locs 0 0 (MQ below (va_Qq (fun r S9 => wX D S0 S9 ∧ post r S9) (wB D cy X A) A) args s 0 0 A) (F0 m 29 ls []) := by
  obtain ⟨hx, hb, hml, hown, hts⟩ := id F
  have hwg : ∀ w ∈ WG, w.before args s = true := fun w h => hts w (List.mem_cons_of_mem _ h)
  intro S H locs ls hp hW hE hl
  unfold wp_X10_gameAt_29 at hp
  refine lv_null hx hb dX10_gameAt_29 ?_
  exact t_X10_gameAt_30 F hr hlocks hK hp hW hE (lv_sub hl [] rfl)
set_option maxHeartbeats 4000000 in
set_option maxRecDepth 100000 in
theorem t_X10_gameAt_0 {p : Program} {l : Launch} {e : Env} {s : State} {m : MethodId} {args : Array Value} {below : List Frame} {meth : Method} {c : Code} {D : wD} {cy : Nat → ClassId} {X : va_W} {A : Nat → Prop} {S0 : wS} {post : Option Nat → wS → Prop} (F : CallFix p m c cX10_gameAt 2 s args wz_X10_gameAt RX10) (hr : meth.sig.returnType = (some (.object "OpeningsCabinet$Game"))) (hlocks : meth.locks = false) (hK : wK D cy A s) : ∀ {S : wS} {H : Heap} {locs : List Loc} {ls : Array Slot} {a0 : Nat} {x1 : Int32}, wp_X10_gameAt_0 D post S a0 x1 → wO D cy X A s.heap S H locs → wX D S0 S → lv_has ls 2 [(0, .ref a0), (1, .int x1)] → wM D S a0 → sK S a0 = 15 → W p l e r_X10_gameAt s m args below meth c H locs 0 0 (MQ below (va_Qq (fun r S9 => wX D S0 S9 ∧ post r S9) (wB D cy X A) A) args s 0 0 A) (F0 m 0 ls []) := by
  obtain ⟨hx, hb, hml, hown, hts⟩ := id F
  have hwg : ∀ w ∈ WG, w.before args s = true := fun w h => hts w (List.mem_cons_of_mem _ h)
  have i_15 : ∀ w ∈ u_ws RX10 TX10 1, w ∈ wz_X10_gameAt := fun w h => List.mem_cons_of_mem _ (wu_15 w h)
  have k_12 := hwg _ wf_RX10_12
  intro S H locs ls a0 x1 hp hW hE hl hL_a0 hK_a0
  unfold wp_X10_gameAt_0 at hp
  refine lv_iload_n hx hb dX10_gameAt_0 rfl (lv_at hl 1 rfl) ?_
  refine lv_if_lt (tgt := 29) hx hb dX10_gameAt_1 (by decide) (fun c_1 => ?_) (fun c_1 => ?_)
  · replace hp := hp.1 c_1
    exact t_X10_gameAt_29 F hr hlocks hK hp hW hE (lv_sub hl [] rfl)
  · replace hp := hp.2 c_1
    refine lv_iload_n hx hb dX10_gameAt_4 rfl (lv_at hl 1 rfl) ?_
    refine lv_aload_n hx hb dX10_gameAt_5 rfl (lv_at hl 0 rfl) ?_
    obtain ⟨y_2, ey_2, hL_y_2, hK_y_2, hp⟩ := hp
    refine w_get (k := 15) (f := 0) (T := TX10) (v := .ref y_2) F hK hW hL_a0 hK_a0 (by decide) rfl rfl (by decide) i_15 k_12 (by rw [show wv 15 0 S a0 = va_rf (sR S a0 0) from rfl, ey_2]; rfl) dX10_gameAt_6 ?_
    refine w_callI (va_runV (As := []) (rest := [.int x1]) F (c_Jx4a65c_size_8abf5 l hL_y_2 hK_y_2 hp H.size) (cwV (C := RJx4a65c) 0 hts (wg_V wm_RX10_18 wy_Jx4a65c_size_8abf5) rfl rfl rfl (by decide +kernel) ⟨Nat.le_of_ble_eq_true rfl, Nat.le_of_ble_eq_true rfl⟩) (w_preV hK hW hL_y_2 hK_y_2 (by decide) rfl) rfl rfl hl.1 rfl (lv_room (Nat.le_of_ble_eq_true rfl)) dX10_gameAt_9 ⟨Nat.le_of_ble_eq_true rfl, Nat.le_of_ble_eq_true rfl⟩) hW (fun r_3 S_4 H locs hp hW => ?_)
    obtain ⟨hX_S_4, hp⟩ := hp
    refine W.widen (k := 0) (n := 0) (by decide) (by decide) ?_
    have hE := hE.trans hX_S_4
    have hK_a0 : sK S_4 a0 = 15 := (hX_S_4.2 a0 hL_a0).1.trans hK_a0
    have hL_a0 : wM D S_4 a0 := hX_S_4.M hL_a0
    refine lv_icmp_ge (tgt := 29) hx hb dX10_gameAt_12 (by decide) (fun c_5 => ?_) (fun c_5 => ?_)
    · replace hp := hp.1 c_5
      exact t_X10_gameAt_29 F hr hlocks hK hp hW hE (lv_sub hl [] rfl)
    · replace hp := hp.2 c_5
      refine lv_aload_n hx hb dX10_gameAt_15 rfl (lv_at hl 0 rfl) ?_
      obtain ⟨y_6, ey_6, hL_y_6, hK_y_6, hp⟩ := hp
      refine w_get (k := 15) (f := 0) (T := TX10) (v := .ref y_6) F hK hW hL_a0 hK_a0 (by decide) rfl rfl (by decide) i_15 k_12 (by rw [show wv 15 0 S_4 a0 = va_rf (sR S_4 a0 0) from rfl, ey_6]; rfl) dX10_gameAt_16 ?_
      refine lv_iload_n hx hb dX10_gameAt_19 rfl (lv_at hl 1 rfl) ?_
      refine w_callR (va_runV (As := [.int x1]) (rest := []) F (c_Jx4a65c_get_915e3 l hL_y_6 hK_y_6 hp H.size) (cwV (C := RJx4a65c) 1 hts (wg_V wm_RX10_25 wy_Jx4a65c_get_915e3) rfl rfl rfl (by decide +kernel) ⟨Nat.le_of_ble_eq_true rfl, Nat.le_of_ble_eq_true rfl⟩) (w_preV hK hW hL_y_6 hK_y_6 (by decide) rfl) rfl rfl hl.1 rfl (lv_room (Nat.le_of_ble_eq_true rfl)) dX10_gameAt_20 ⟨Nat.le_of_ble_eq_true rfl, Nat.le_of_ble_eq_true rfl⟩) hW (fun r_7 S_8 H locs hp hW => ?_)
      obtain ⟨hX_S_8, hp⟩ := hp
      refine W.widen (k := 0) (n := 0) (by decide) (by decide) ?_
      have hE := hE.trans hX_S_8
      have hK_a0 : sK S_8 a0 = 15 := (hX_S_8.2 a0 hL_a0).1.trans hK_a0
      have hL_a0 : wM D S_8 a0 := hX_S_8.M hL_a0
      obtain ⟨h_9, hp⟩ := hp
      refine w_cast (C := RX3) F hK hW (hwg _ wc_RX10_29) (hK.2.1 (.castable "OpeningsCabinet$Game" "OpeningsCabinet$Game") (by decide +kernel)) (by decide) (k := 8) rfl h_9 dX10_gameAt_23 ?_
      refine lv_goto (tgt := 30) hx hb dX10_gameAt_26 (by decide) ?_
      exact t_X10_gameAt_30 F hr hlocks hK hp hW hE (lv_sub hl [] rfl)
set_option maxHeartbeats 4000000 in
set_option maxRecDepth 100000 in
theorem c_X10_gameAt (l : Launch) {D : wD} {cy : Nat → ClassId} {X : va_W} {S0 : wS} {post : Option Nat → wS → Prop} {a0 : Nat} {x1 : Int32} (hL_a0 : wM D S0 a0) (hK_a0 : sK S0 a0 = 15) (hp : wp_X10_gameAt D post S0 a0 x1) : mR D cy X l yX10_gameAt wz_X10_gameAt r_X10_gameAt [.ref a0, .int x1] S0 (fun r S9 => wX D S0 S9 ∧ post r S9) := by
  intro sz
  refine Met.ofW (cc := cX10_gameAt) (maxL := 2) (ret := (some (.object "OpeningsCabinet$Game"))) (by decide) rfl ?_
  intro p e s m args below meth c s₁ B hml hv
  obtain ⟨rfl, hsz, hP, hK, hD0, hRO⟩ := hv
  have hts := atoms_spec (ws := wz_X10_gameAt) B.pre
  have hown : s.vm.findClass RX10 = some m.cls := findClass_of_methodNamed B.named
  subst hsz
  have hD := hD0.self (sz := s.heap.size)
  have F : CallFix p m c cX10_gameAt 2 s _ wz_X10_gameAt RX10 := ⟨B.exec, B.bytes, hml, hown, hts⟩
  have hr := B.returns
  have hlocks := B.notSynchronized
  generalize hAe : va_A (wL cy X S0) s.heap.size = A at hD hK ⊢
  have hA : ∀ q, s.heap.size ≤ q → A q := fun q h => by rw [← hAe]; exact Or.inr h
  have hW : wO D cy X A s.heap S0 s.heap [] := ⟨hP, hD, va_S.rf, hA, hRO⟩
  have hl := lv_entry ([.ref a0, .int x1]) (n := 2) (Nat.le_of_ble_eq_true rfl)
  rw [lg_entry_eq]
  generalize (lg_sl ([.ref a0, .int x1]) ++ List.replicate (2 - (lg_sl ([.ref a0, .int x1])).length) Slot.unset).toArray = ls at hl ⊢
  have hl : lv_has ls 2 [(0, .ref a0), (1, .int x1)] := hl
  unfold wp_X10_gameAt at hp
  exact t_X10_gameAt_0 F hr hlocks hK hp hW wX.rf (lv_sub hl [0, 1] rfl) hL_a0 hK_a0
def wp_X10_isKnown_83 (D : wD) (post : Int32 → wS → Prop) (k_27 : wS → Nat → Nat → Int32 → Int32 → Prop) (S : wS) (a0 : Nat) (a1 : Nat) (x2 : Int32) (x3 : Int32) : Prop :=
∀ x_1 : Int32, x_1 = x3 + 1 →
k_27 S a0 a1 x2 x_1
def wp_X10_isKnown_48 (D : wD) (post : Int32 → wS → Prop) (k_27 : wS → Nat → Nat → Int32 → Int32 → Prop) : Nat → wS → Nat → Nat → Int32 → Int32 → Option Nat → Int32 → Prop
  | 0, _, _, _, _, _, _, _ => False
  | n + 1, S, a0, a1, x2, x3, g4, x5 =>
    ((g4 = none → wp_X10_isKnown_83 D post k_27 S a0 a1 x2 x3) ∧
     (∀ y_1 : Nat, g4 = some y_1 → wM D S y_1 ∧ sK S y_1 = 8 ∧ (((sI S y_1 3) < x5 → wp_X10_isKnown_83 D post k_27 S a0 a1 x2 x3) ∧
     (¬ (sI S y_1 3) < x5 → wp_X3_isSameAt D (fun r_4 S_5 => 
    ((r_4 = 0 → ∀ x_7 : Int32, x_7 = x5 + 1 →
    wp_X10_isKnown_48 D post k_27 n S_5 a0 a1 x2 x3 (some y_1) x_7) ∧
     (¬ r_4 = 0 → narrow .boolean (.int (1 : Int32)) = .int (1 : Int32) ∧ post (1 : Int32) S_5))) S a1 x2 y_1 x5))))
def wp_X10_isKnown_27 (D : wD) (post : Int32 → wS → Prop)  : Nat → wS → Nat → Nat → Int32 → Int32 → Prop
  | 0, _, _, _, _, _ => False
  | n + 1, S, a0, a1, x2, x3 =>
    ∃ y_1 : Nat, sR S a0 0 = some y_1 ∧ wM D S y_1 ∧ sK S y_1 = 4 ∧
    wp_Jx4a65c_size_8abf5 D (fun r_2 S_3 => 
    ((r_2 ≤ x3 → narrow .boolean (.int (0 : Int32)) = .int (0 : Int32) ∧ post (0 : Int32) S_3) ∧
     (¬ r_2 ≤ x3 → wp_X10_gameAt D (fun r_5 S_6 => 
    ∃ n_7 : Nat, wp_X10_isKnown_48 D post (wp_X10_isKnown_27 D post n) n_7 S_6 a0 a1 x2 x3 r_5 (0 : Int32)) S_3 a0 x3))) S y_1
def wp_X10_isKnown_2 (D : wD) (post : Int32 → wS → Prop)  : Nat → wS → Nat → Nat → Int32 → Int32 → Prop
  | 0, _, _, _, _, _ => False
  | n + 1, S, a0, a1, x2, x3 =>
    ((x2 ≤ x3 → ∃ n_2 : Nat, wp_X10_isKnown_27 D post n_2 S a0 a1 x2 (0 : Int32)) ∧
     (¬ x2 ≤ x3 → wp_X3_isSameAt D (fun r_3 S_4 => 
    ((r_3 = 0 → ∀ x_6 : Int32, x_6 = x3 + 1 →
    wp_X10_isKnown_2 D post n S_4 a0 a1 x2 x_6) ∧
     (¬ r_3 = 0 → narrow .boolean (.int (1 : Int32)) = .int (1 : Int32) ∧ post (1 : Int32) S_4))) S a1 x2 a1 x3))
def wp_X10_isKnown_0 (D : wD) (post : Int32 → wS → Prop)  (S : wS) (a0 : Nat) (a1 : Nat) (x2 : Int32) : Prop :=
∃ n_1 : Nat, wp_X10_isKnown_2 D post n_1 S a0 a1 x2 (0 : Int32)
abbrev r_X10_isKnown : Room := { frames := 4, cells := 0, slots := 0, locals := 85 }
def wp_X10_isKnown (D : wD) (post : Int32 → wS → Prop) (S : wS) (a0 : Nat) (a1 : Nat) (x2 : Int32) : Prop := wp_X10_isKnown_0 D post S a0 a1 x2
set_option maxHeartbeats 4000000 in
set_option maxRecDepth 100000 in
theorem t_X10_isKnown_83 {p : Program} {l : Launch} {e : Env} {s : State} {m : MethodId} {args : Array Value} {below : List Frame} {meth : Method} {c : Code} {D : wD} {cy : Nat → ClassId} {X : va_W} {A : Nat → Prop} {S0 : wS} {post : Int32 → wS → Prop} (F : CallFix p m c cX10_isKnown 6 s args wz_X10_isKnown RX10) (hr : meth.sig.returnType = (some .boolean)) (hlocks : meth.locks = false) (hK : wK D cy A s) {k_27 : wS → Nat → Nat → Int32 → Int32 → Prop} (q_27 : ∀ {S : wS} {H : Heap} {locs : List Loc} {ls : Array Slot} {a0 : Nat} {a1 : Nat} {x2 : Int32} {x3 : Int32}, k_27 S a0 a1 x2 x3 → wO D cy X A s.heap S H locs → wX D S0 S → lv_has ls 6 [(0, .ref a0), (1, .ref a1), (2, .int x2), (3, .int x3)] → wM D S a0 → sK S a0 = 15 → wM D S a1 → sK S a1 = 8 → W p l e r_X10_isKnown s m args below meth c H locs 0 0 (MQ below (va_Qi (fun r S9 => wX D S0 S9 ∧ post r S9) (wB D cy X A) A) args s 0 0 A) (F0 m 27 ls [])) : ∀ {S : wS} {H : Heap} {locs : List Loc} {ls : Array Slot} {a0 : Nat} {a1 : Nat} {x2 : Int32} {x3 : Int32}, wp_X10_isKnown_83 D post k_27 S a0 a1 x2 x3 → wO D cy X A s.heap S H locs → wX D S0 S → lv_has ls 6 [(0, .ref a0), (1, .ref a1), (2, .int x2), (3, .int x3)] → wM D S a0 → sK S a0 = 15 → wM D S a1 → sK S a1 = 8 → W p l e r_X10_isKnown s m args below meth c H locs 0 0 (MQ below (va_Qi (fun r S9 => wX D S0 S9 ∧ post r S9) (wB D cy X A) A) args s 0 0 A) (F0 m 83 ls []) := by
  obtain ⟨hx, hb, hml, hown, hts⟩ := id F
  have hwg : ∀ w ∈ WG, w.before args s = true := fun w h => hts w (List.mem_cons_of_mem _ h)
  intro S H locs ls a0 a1 x2 x3 hp hW hE hl hL_a0 hK_a0 hL_a1 hK_a1
  unfold wp_X10_isKnown_83 at hp
  obtain ⟨x_1, ex_1⟩ : ∃ z : Int32, z = x3 + 1 := ⟨_, rfl⟩
  replace hp := hp x_1 ex_1
  refine lv_iinc (v := x_1) (lv' := [(3, .int x_1), (0, .ref a0), (1, .ref a1), (2, .int x2)]) hx hb dX10_isKnown_83 hl (k := 3) rfl (by rw [ex_1]; rfl) (by decide) rfl (fun ls hl => ?_)
  refine lv_goto (tgt := 27) hx hb dX10_isKnown_86 (by decide) ?_
  exact q_27 hp hW hE (lv_sub hl [1, 2, 3, 0] rfl) hL_a0 hK_a0 hL_a1 hK_a1
set_option maxHeartbeats 4000000 in
set_option maxRecDepth 100000 in
theorem t_X10_isKnown_48 {p : Program} {l : Launch} {e : Env} {s : State} {m : MethodId} {args : Array Value} {below : List Frame} {meth : Method} {c : Code} {D : wD} {cy : Nat → ClassId} {X : va_W} {A : Nat → Prop} {S0 : wS} {post : Int32 → wS → Prop} (F : CallFix p m c cX10_isKnown 6 s args wz_X10_isKnown RX10) (hr : meth.sig.returnType = (some .boolean)) (hlocks : meth.locks = false) (hK : wK D cy A s) {k_27 : wS → Nat → Nat → Int32 → Int32 → Prop} (q_27 : ∀ {S : wS} {H : Heap} {locs : List Loc} {ls : Array Slot} {a0 : Nat} {a1 : Nat} {x2 : Int32} {x3 : Int32}, k_27 S a0 a1 x2 x3 → wO D cy X A s.heap S H locs → wX D S0 S → lv_has ls 6 [(0, .ref a0), (1, .ref a1), (2, .int x2), (3, .int x3)] → wM D S a0 → sK S a0 = 15 → wM D S a1 → sK S a1 = 8 → W p l e r_X10_isKnown s m args below meth c H locs 0 0 (MQ below (va_Qi (fun r S9 => wX D S0 S9 ∧ post r S9) (wB D cy X A) A) args s 0 0 A) (F0 m 27 ls [])) : ∀ (n : Nat) {S : wS} {H : Heap} {locs : List Loc} {ls : Array Slot} {a0 : Nat} {a1 : Nat} {x2 : Int32} {x3 : Int32} {g4 : Option Nat} {x5 : Int32}, wp_X10_isKnown_48 D post k_27 n S a0 a1 x2 x3 g4 x5 → wO D cy X A s.heap S H locs → wX D S0 S → lv_has ls 6 [(0, .ref a0), (1, .ref a1), (2, .int x2), (3, .int x3), (4, va_rf g4), (5, .int x5)] → wM D S a0 → sK S a0 = 15 → wM D S a1 → sK S a1 = 8 → W p l e r_X10_isKnown s m args below meth c H locs 0 0 (MQ below (va_Qi (fun r S9 => wX D S0 S9 ∧ post r S9) (wB D cy X A) A) args s 0 0 A) (F0 m 48 ls []) := by
  obtain ⟨hx, hb, hml, hown, hts⟩ := id F
  have hwg : ∀ w ∈ WG, w.before args s = true := fun w h => hts w (List.mem_cons_of_mem _ h)
  have i_8 : ∀ w ∈ u_ws RX3 TX3 9, w ∈ wz_X10_isKnown := fun w h => List.mem_cons_of_mem _ (wu_8 w h)
  intro n
  induction n with
  | zero =>
    intro S H locs ls a0 a1 x2 x3 g4 x5 hp
    exact hp.elim
  | succ n ih =>
    intro S H locs ls a0 a1 x2 x3 g4 x5 hp hW hE hl hL_a0 hK_a0 hL_a1 hK_a1
    unfold wp_X10_isKnown_48 at hp
    refine w_aload hx hb dX10_isKnown_48 (lv_at hl 4 rfl) ?_
    refine w_ifnull (tgt := 83) hx hb dX10_isKnown_50 (by decide) (fun h_2 => ?_) (fun y_1 h_2 => ?_)
    · replace hp := hp.1 h_2
      subst h_2
      exact t_X10_isKnown_83 F hr hlocks hK q_27 hp hW hE (lv_sub hl [0, 1, 2, 3] rfl) hL_a0 hK_a0 hL_a1 hK_a1
    · obtain ⟨hL_y_1, hK_y_1, hp⟩ := hp.2 y_1 h_2
      subst h_2
      refine lv_iload hx hb dX10_isKnown_53 (lv_at hl 5 rfl) ?_
      refine lv_aload hx hb dX10_isKnown_55 (lv_at hl 4 rfl) ?_
      refine w_getN (k := 8) (f := 3) (T := TX3) (v := .int (sI S y_1 3)) F hK hW hL_y_1 hK_y_1 (by decide) rfl rfl (by decide) i_8 (hK.2.1 (.fieldLinkNest "OpeningsCabinet$Shelf" 31 "OpeningsCabinet$Game" "length" "I" "OpeningsCabinet") (by decide +kernel)) rfl dX10_isKnown_57 ?_
      refine lv_icmp_gt (tgt := 83) hx hb dX10_isKnown_60 (by decide) (fun c_3 => ?_) (fun c_3 => ?_)
      · replace hp := hp.1 c_3
        exact t_X10_isKnown_83 F hr hlocks hK q_27 hp hW hE (lv_sub hl [0, 1, 2, 3] rfl) hL_a0 hK_a0 hL_a1 hK_a1
      · replace hp := hp.2 c_3
        refine lv_aload_n hx hb dX10_isKnown_63 rfl (lv_at hl 1 rfl) ?_
        refine lv_iload_n hx hb dX10_isKnown_64 rfl (lv_at hl 2 rfl) ?_
        refine lv_aload hx hb dX10_isKnown_65 (lv_at hl 4 rfl) ?_
        refine lv_iload hx hb dX10_isKnown_67 (lv_at hl 5 rfl) ?_
        refine w_callI (va_runV (As := [.int x2, .ref y_1, .int x5]) (rest := []) F (c_X3_isSameAt l hL_a1 hK_a1 hL_y_1 hK_y_1 hp H.size) (cwV (C := RX3) 3 hts (wg_V wm_RX10_47 wy_X3_isSameAt) rfl rfl rfl (by decide +kernel) ⟨Nat.le_of_ble_eq_true rfl, Nat.le_of_ble_eq_true rfl⟩) (w_preV hK hW hL_a1 hK_a1 (by decide) rfl) rfl rfl hl.1 rfl (lv_room (Nat.le_of_ble_eq_true rfl)) dX10_isKnown_69 ⟨Nat.le_of_ble_eq_true rfl, Nat.le_of_ble_eq_true rfl⟩) hW (fun r_4 S_5 H locs hp hW => ?_)
        obtain ⟨hX_S_5, hp⟩ := hp
        refine W.widen (k := 0) (n := 0) (by decide) (by decide) ?_
        have hE := hE.trans hX_S_5
        have hK_a0 : sK S_5 a0 = 15 := (hX_S_5.2 a0 hL_a0).1.trans hK_a0
        have hL_a0 : wM D S_5 a0 := hX_S_5.M hL_a0
        have hK_a1 : sK S_5 a1 = 8 := (hX_S_5.2 a1 hL_a1).1.trans hK_a1
        have hL_a1 : wM D S_5 a1 := hX_S_5.M hL_a1
        have hK_y_1 : sK S_5 y_1 = 8 := (hX_S_5.2 y_1 hL_y_1).1.trans hK_y_1
        have hL_y_1 : wM D S_5 y_1 := hX_S_5.M hL_y_1
        refine lv_if_eq (tgt := 77) hx hb dX10_isKnown_72 (by decide) (fun c_6 => ?_) (fun c_6 => ?_)
        · replace hp := hp.1 c_6
          obtain ⟨x_7, ex_7⟩ : ∃ z : Int32, z = x5 + 1 := ⟨_, rfl⟩
          replace hp := hp x_7 ex_7
          refine lv_iinc (v := x_7) (lv' := [(5, .int x_7), (0, .ref a0), (1, .ref a1), (2, .int x2), (3, .int x3), (4, .ref y_1)]) hx hb dX10_isKnown_77 hl (k := 5) rfl (by rw [ex_7]; rfl) (by decide) rfl (fun ls hl => ?_)
          refine lv_goto (tgt := 48) hx hb dX10_isKnown_80 (by decide) ?_
          exact ih hp hW hE (lv_sub hl [1, 2, 3, 4, 5, 0] rfl) hL_a0 hK_a0 hL_a1 hK_a1
        · replace hp := hp.2 c_6
          refine lv_iconst (v := 1) hx hb dX10_isKnown_75 (by decide) ?_
          exact w_zret hx hb hr hlocks hW hp.1 ⟨hE, hp.2⟩ dX10_isKnown_76
set_option maxHeartbeats 4000000 in
set_option maxRecDepth 100000 in
theorem t_X10_isKnown_27 {p : Program} {l : Launch} {e : Env} {s : State} {m : MethodId} {args : Array Value} {below : List Frame} {meth : Method} {c : Code} {D : wD} {cy : Nat → ClassId} {X : va_W} {A : Nat → Prop} {S0 : wS} {post : Int32 → wS → Prop} (F : CallFix p m c cX10_isKnown 6 s args wz_X10_isKnown RX10) (hr : meth.sig.returnType = (some .boolean)) (hlocks : meth.locks = false) (hK : wK D cy A s) : ∀ (n : Nat) {S : wS} {H : Heap} {locs : List Loc} {ls : Array Slot} {a0 : Nat} {a1 : Nat} {x2 : Int32} {x3 : Int32}, wp_X10_isKnown_27 D post n S a0 a1 x2 x3 → wO D cy X A s.heap S H locs → wX D S0 S → lv_has ls 6 [(0, .ref a0), (1, .ref a1), (2, .int x2), (3, .int x3)] → wM D S a0 → sK S a0 = 15 → wM D S a1 → sK S a1 = 8 → W p l e r_X10_isKnown s m args below meth c H locs 0 0 (MQ below (va_Qi (fun r S9 => wX D S0 S9 ∧ post r S9) (wB D cy X A) A) args s 0 0 A) (F0 m 27 ls []) := by
  obtain ⟨hx, hb, hml, hown, hts⟩ := id F
  have hwg : ∀ w ∈ WG, w.before args s = true := fun w h => hts w (List.mem_cons_of_mem _ h)
  have i_15 : ∀ w ∈ u_ws RX10 TX10 1, w ∈ wz_X10_isKnown := fun w h => List.mem_cons_of_mem _ (wu_15 w h)
  have k_12 := hwg _ wf_RX10_12
  intro n
  induction n with
  | zero =>
    intro S H locs ls a0 a1 x2 x3 hp
    exact hp.elim
  | succ n ih =>
    intro S H locs ls a0 a1 x2 x3 hp hW hE hl hL_a0 hK_a0 hL_a1 hK_a1
    unfold wp_X10_isKnown_27 at hp
    refine lv_iload_n hx hb dX10_isKnown_27 rfl (lv_at hl 3 rfl) ?_
    refine lv_aload_n hx hb dX10_isKnown_28 rfl (lv_at hl 0 rfl) ?_
    obtain ⟨y_1, ey_1, hL_y_1, hK_y_1, hp⟩ := hp
    refine w_get (k := 15) (f := 0) (T := TX10) (v := .ref y_1) F hK hW hL_a0 hK_a0 (by decide) rfl rfl (by decide) i_15 k_12 (by rw [show wv 15 0 S a0 = va_rf (sR S a0 0) from rfl, ey_1]; rfl) dX10_isKnown_29 ?_
    refine w_callI (va_runV (As := []) (rest := [.int x3]) F (c_Jx4a65c_size_8abf5 l hL_y_1 hK_y_1 hp H.size) (cwV (C := RJx4a65c) 0 hts (wg_V wm_RX10_18 wy_Jx4a65c_size_8abf5) rfl rfl rfl (by decide +kernel) ⟨Nat.le_of_ble_eq_true rfl, Nat.le_of_ble_eq_true rfl⟩) (w_preV hK hW hL_y_1 hK_y_1 (by decide) rfl) rfl rfl hl.1 rfl (lv_room (Nat.le_of_ble_eq_true rfl)) dX10_isKnown_32 ⟨Nat.le_of_ble_eq_true rfl, Nat.le_of_ble_eq_true rfl⟩) hW (fun r_2 S_3 H locs hp hW => ?_)
    obtain ⟨hX_S_3, hp⟩ := hp
    refine W.widen (k := 0) (n := 0) (by decide) (by decide) ?_
    have hE := hE.trans hX_S_3
    have hK_a0 : sK S_3 a0 = 15 := (hX_S_3.2 a0 hL_a0).1.trans hK_a0
    have hL_a0 : wM D S_3 a0 := hX_S_3.M hL_a0
    have hK_a1 : sK S_3 a1 = 8 := (hX_S_3.2 a1 hL_a1).1.trans hK_a1
    have hL_a1 : wM D S_3 a1 := hX_S_3.M hL_a1
    refine lv_icmp_ge (tgt := 89) hx hb dX10_isKnown_35 (by decide) (fun c_4 => ?_) (fun c_4 => ?_)
    · replace hp := hp.1 c_4
      refine lv_iconst (v := 0) hx hb dX10_isKnown_89 (by decide) ?_
      exact w_zret hx hb hr hlocks hW hp.1 ⟨hE, hp.2⟩ dX10_isKnown_90
    · replace hp := hp.2 c_4
      refine lv_aload_n hx hb dX10_isKnown_38 rfl (lv_at hl 0 rfl) ?_
      refine lv_iload_n hx hb dX10_isKnown_39 rfl (lv_at hl 3 rfl) ?_
      refine w_callR (va_runV (As := [.int x3]) (rest := []) F (c_X10_gameAt l hL_a0 hK_a0 hp H.size) (cwV (C := RX10) 1 hts (wg_V wm_RX10_51 wy_X10_gameAt) rfl rfl rfl (by decide +kernel) ⟨Nat.le_of_ble_eq_true rfl, Nat.le_of_ble_eq_true rfl⟩) (w_preV hK hW hL_a0 hK_a0 (by decide) rfl) rfl rfl hl.1 rfl (lv_room (Nat.le_of_ble_eq_true rfl)) dX10_isKnown_40 ⟨Nat.le_of_ble_eq_true rfl, Nat.le_of_ble_eq_true rfl⟩) hW (fun r_5 S_6 H locs hp hW => ?_)
      obtain ⟨hX_S_6, hp⟩ := hp
      refine W.widen (k := 0) (n := 0) (by decide) (by decide) ?_
      have hE := hE.trans hX_S_6
      have hK_a0 : sK S_6 a0 = 15 := (hX_S_6.2 a0 hL_a0).1.trans hK_a0
      have hL_a0 : wM D S_6 a0 := hX_S_6.M hL_a0
      have hK_a1 : sK S_6 a1 = 8 := (hX_S_6.2 a1 hL_a1).1.trans hK_a1
      have hL_a1 : wM D S_6 a1 := hX_S_6.M hL_a1
      refine w_astore (lv' := [(4, va_rf r_5), (0, .ref a0), (1, .ref a1), (2, .int x2), (3, .int x3)]) hx hb dX10_isKnown_43 hl (by decide) rfl (fun ls hl => ?_)
      refine lv_iconst (v := 0) hx hb dX10_isKnown_45 (by decide) ?_
      refine lv_istore (lv' := [(5, .int (0 : Int32)), (4, va_rf r_5), (0, .ref a0), (1, .ref a1), (2, .int x2), (3, .int x3)]) hx hb dX10_isKnown_46 hl (by decide) rfl (fun ls hl => ?_)
      obtain ⟨n_7, hp⟩ := hp
      exact t_X10_isKnown_48 F hr hlocks hK ih n_7 hp hW hE (lv_sub hl [2, 3, 4, 5, 1, 0] rfl) hL_a0 hK_a0 hL_a1 hK_a1
set_option maxHeartbeats 4000000 in
set_option maxRecDepth 100000 in
theorem t_X10_isKnown_2 {p : Program} {l : Launch} {e : Env} {s : State} {m : MethodId} {args : Array Value} {below : List Frame} {meth : Method} {c : Code} {D : wD} {cy : Nat → ClassId} {X : va_W} {A : Nat → Prop} {S0 : wS} {post : Int32 → wS → Prop} (F : CallFix p m c cX10_isKnown 6 s args wz_X10_isKnown RX10) (hr : meth.sig.returnType = (some .boolean)) (hlocks : meth.locks = false) (hK : wK D cy A s) : ∀ (n : Nat) {S : wS} {H : Heap} {locs : List Loc} {ls : Array Slot} {a0 : Nat} {a1 : Nat} {x2 : Int32} {x3 : Int32}, wp_X10_isKnown_2 D post n S a0 a1 x2 x3 → wO D cy X A s.heap S H locs → wX D S0 S → lv_has ls 6 [(0, .ref a0), (1, .ref a1), (2, .int x2), (3, .int x3)] → wM D S a0 → sK S a0 = 15 → wM D S a1 → sK S a1 = 8 → W p l e r_X10_isKnown s m args below meth c H locs 0 0 (MQ below (va_Qi (fun r S9 => wX D S0 S9 ∧ post r S9) (wB D cy X A) A) args s 0 0 A) (F0 m 2 ls []) := by
  obtain ⟨hx, hb, hml, hown, hts⟩ := id F
  have hwg : ∀ w ∈ WG, w.before args s = true := fun w h => hts w (List.mem_cons_of_mem _ h)
  intro n
  induction n with
  | zero =>
    intro S H locs ls a0 a1 x2 x3 hp
    exact hp.elim
  | succ n ih =>
    intro S H locs ls a0 a1 x2 x3 hp hW hE hl hL_a0 hK_a0 hL_a1 hK_a1
    unfold wp_X10_isKnown_2 at hp
    refine lv_iload_n hx hb dX10_isKnown_2 rfl (lv_at hl 3 rfl) ?_
    refine lv_iload_n hx hb dX10_isKnown_3 rfl (lv_at hl 2 rfl) ?_
    refine lv_icmp_ge (tgt := 25) hx hb dX10_isKnown_4 (by decide) (fun c_1 => ?_) (fun c_1 => ?_)
    · replace hp := hp.1 c_1
      refine lv_iconst (v := 0) hx hb dX10_isKnown_25 (by decide) ?_
      refine lv_istore_n (lv' := [(3, .int (0 : Int32)), (0, .ref a0), (1, .ref a1), (2, .int x2)]) hx hb dX10_isKnown_26 rfl hl (by decide) rfl (fun ls hl => ?_)
      obtain ⟨n_2, hp⟩ := hp
      exact t_X10_isKnown_27 F hr hlocks hK n_2 hp hW hE (lv_sub hl [1, 2, 3, 0] rfl) hL_a0 hK_a0 hL_a1 hK_a1
    · replace hp := hp.2 c_1
      refine lv_aload_n hx hb dX10_isKnown_7 rfl (lv_at hl 1 rfl) ?_
      refine lv_iload_n hx hb dX10_isKnown_8 rfl (lv_at hl 2 rfl) ?_
      refine lv_aload_n hx hb dX10_isKnown_9 rfl (lv_at hl 1 rfl) ?_
      refine lv_iload_n hx hb dX10_isKnown_10 rfl (lv_at hl 3 rfl) ?_
      refine w_callI (va_runV (As := [.int x2, .ref a1, .int x3]) (rest := []) F (c_X3_isSameAt l hL_a1 hK_a1 hL_a1 hK_a1 hp H.size) (cwV (C := RX3) 3 hts (wg_V wm_RX10_47 wy_X3_isSameAt) rfl rfl rfl (by decide +kernel) ⟨Nat.le_of_ble_eq_true rfl, Nat.le_of_ble_eq_true rfl⟩) (w_preV hK hW hL_a1 hK_a1 (by decide) rfl) rfl rfl hl.1 rfl (lv_room (Nat.le_of_ble_eq_true rfl)) dX10_isKnown_11 ⟨Nat.le_of_ble_eq_true rfl, Nat.le_of_ble_eq_true rfl⟩) hW (fun r_3 S_4 H locs hp hW => ?_)
      obtain ⟨hX_S_4, hp⟩ := hp
      refine W.widen (k := 0) (n := 0) (by decide) (by decide) ?_
      have hE := hE.trans hX_S_4
      have hK_a0 : sK S_4 a0 = 15 := (hX_S_4.2 a0 hL_a0).1.trans hK_a0
      have hL_a0 : wM D S_4 a0 := hX_S_4.M hL_a0
      have hK_a1 : sK S_4 a1 = 8 := (hX_S_4.2 a1 hL_a1).1.trans hK_a1
      have hL_a1 : wM D S_4 a1 := hX_S_4.M hL_a1
      refine lv_if_eq (tgt := 19) hx hb dX10_isKnown_14 (by decide) (fun c_5 => ?_) (fun c_5 => ?_)
      · replace hp := hp.1 c_5
        obtain ⟨x_6, ex_6⟩ : ∃ z : Int32, z = x3 + 1 := ⟨_, rfl⟩
        replace hp := hp x_6 ex_6
        refine lv_iinc (v := x_6) (lv' := [(3, .int x_6), (0, .ref a0), (1, .ref a1), (2, .int x2)]) hx hb dX10_isKnown_19 hl (k := 3) rfl (by rw [ex_6]; rfl) (by decide) rfl (fun ls hl => ?_)
        refine lv_goto (tgt := 2) hx hb dX10_isKnown_22 (by decide) ?_
        exact ih hp hW hE (lv_sub hl [1, 2, 3, 0] rfl) hL_a0 hK_a0 hL_a1 hK_a1
      · replace hp := hp.2 c_5
        refine lv_iconst (v := 1) hx hb dX10_isKnown_17 (by decide) ?_
        exact w_zret hx hb hr hlocks hW hp.1 ⟨hE, hp.2⟩ dX10_isKnown_18
set_option maxHeartbeats 4000000 in
set_option maxRecDepth 100000 in
theorem t_X10_isKnown_0 {p : Program} {l : Launch} {e : Env} {s : State} {m : MethodId} {args : Array Value} {below : List Frame} {meth : Method} {c : Code} {D : wD} {cy : Nat → ClassId} {X : va_W} {A : Nat → Prop} {S0 : wS} {post : Int32 → wS → Prop} (F : CallFix p m c cX10_isKnown 6 s args wz_X10_isKnown RX10) (hr : meth.sig.returnType = (some .boolean)) (hlocks : meth.locks = false) (hK : wK D cy A s) : ∀ {S : wS} {H : Heap} {locs : List Loc} {ls : Array Slot} {a0 : Nat} {a1 : Nat} {x2 : Int32}, wp_X10_isKnown_0 D post S a0 a1 x2 → wO D cy X A s.heap S H locs → wX D S0 S → lv_has ls 6 [(0, .ref a0), (1, .ref a1), (2, .int x2)] → wM D S a0 → sK S a0 = 15 → wM D S a1 → sK S a1 = 8 → W p l e r_X10_isKnown s m args below meth c H locs 0 0 (MQ below (va_Qi (fun r S9 => wX D S0 S9 ∧ post r S9) (wB D cy X A) A) args s 0 0 A) (F0 m 0 ls []) := by
  obtain ⟨hx, hb, hml, hown, hts⟩ := id F
  have hwg : ∀ w ∈ WG, w.before args s = true := fun w h => hts w (List.mem_cons_of_mem _ h)
  intro S H locs ls a0 a1 x2 hp hW hE hl hL_a0 hK_a0 hL_a1 hK_a1
  unfold wp_X10_isKnown_0 at hp
  refine lv_iconst (v := 0) hx hb dX10_isKnown_0 (by decide) ?_
  refine lv_istore_n (lv' := [(3, .int (0 : Int32)), (0, .ref a0), (1, .ref a1), (2, .int x2)]) hx hb dX10_isKnown_1 rfl hl (by decide) rfl (fun ls hl => ?_)
  obtain ⟨n_1, hp⟩ := hp
  exact t_X10_isKnown_2 F hr hlocks hK n_1 hp hW hE (lv_sub hl [1, 2, 3, 0] rfl) hL_a0 hK_a0 hL_a1 hK_a1
set_option maxHeartbeats 4000000 in
set_option maxRecDepth 100000 in
theorem c_X10_isKnown (l : Launch) {D : wD} {cy : Nat → ClassId} {X : va_W} {S0 : wS} {post : Int32 → wS → Prop} {a0 : Nat} {a1 : Nat} {x2 : Int32} (hL_a0 : wM D S0 a0) (hK_a0 : sK S0 a0 = 15) (hL_a1 : wM D S0 a1) (hK_a1 : sK S0 a1 = 8) (hp : wp_X10_isKnown D post S0 a0 a1 x2) : mI D cy X l yX10_isKnown wz_X10_isKnown r_X10_isKnown [.ref a0, .ref a1, .int x2] S0 (fun r S9 => wX D S0 S9 ∧ post r S9) := by
  intro sz
  refine Met.ofW (cc := cX10_isKnown) (maxL := 6) (ret := (some .boolean)) (by decide) rfl ?_
  intro p e s m args below meth c s₁ B hml hv
  obtain ⟨rfl, hsz, hP, hK, hD0, hRO⟩ := hv
  have hts := atoms_spec (ws := wz_X10_isKnown) B.pre
  have hown : s.vm.findClass RX10 = some m.cls := findClass_of_methodNamed B.named
  subst hsz
  have hD := hD0.self (sz := s.heap.size)
  have F : CallFix p m c cX10_isKnown 6 s _ wz_X10_isKnown RX10 := ⟨B.exec, B.bytes, hml, hown, hts⟩
  have hr := B.returns
  have hlocks := B.notSynchronized
  generalize hAe : va_A (wL cy X S0) s.heap.size = A at hD hK ⊢
  have hA : ∀ q, s.heap.size ≤ q → A q := fun q h => by rw [← hAe]; exact Or.inr h
  have hW : wO D cy X A s.heap S0 s.heap [] := ⟨hP, hD, va_S.rf, hA, hRO⟩
  have hl := lv_entry ([.ref a0, .ref a1, .int x2]) (n := 6) (Nat.le_of_ble_eq_true rfl)
  rw [lg_entry_eq]
  generalize (lg_sl ([.ref a0, .ref a1, .int x2]) ++ List.replicate (6 - (lg_sl ([.ref a0, .ref a1, .int x2])).length) Slot.unset).toArray = ls at hl ⊢
  have hl : lv_has ls 6 [(0, .ref a0), (1, .ref a1), (2, .int x2)] := hl
  unfold wp_X10_isKnown at hp
  exact t_X10_isKnown_0 F hr hlocks hK hp hW wX.rf (lv_sub hl [0, 1, 2] rfl) hL_a0 hK_a0 hL_a1 hK_a1
def wp_X10_add_26 (D : wD) (post : wS → Prop) (k_2 : Nat → Nat → wS → Nat → Nat → Int32 → Prop) (bc bs : Nat) (S : wS) (a0 : Nat) (a1 : Nat) (x2 : Int32) (b0 : Nat) (t1 : Int32) (t2 : Int32) : Prop :=
wp_X3_setFresh D (fun S_2 => 
∀ x_3 : Int32, x_3 = x2 + 1 →
k_2 bc bs S_2 a0 a1 x_3) S b0 t1 t2
def wp_X10_add_2 (D : wD) (post : wS → Prop)  : Nat → Nat → Nat → wS → Nat → Nat → Int32 → Prop
  | 0, _, _, _, _, _, _ => False
  | n + 1, bc, bs, S, a0, a1, x2 =>
    (((sI S a1 3) < x2 → ∃ y_2 : Nat, sR S a0 0 = some y_2 ∧ wM D S y_2 ∧ sK S y_2 = 4 ∧
    ∃ m_5 z_6 : Nat, m_5 ≤ bc ∧ z_6 ≤ bs ∧
    wp_Jx4a65c_add_9ea2d D (fun r_3 S_4 => 
    post S_4) m_5 z_6 S y_2 a1) ∧
     (¬ (sI S a1 3) < x2 → wp_X10_isKnown D (fun r_7 S_8 => 
    ((¬ r_7 = 0 → wp_X10_add_26 D post (wp_X10_add_2 D post n) bc bs S_8 a0 a1 x2 a1 x2 (0 : Int32)) ∧
     (r_7 = 0 → wp_X10_add_26 D post (wp_X10_add_2 D post n) bc bs S_8 a0 a1 x2 a1 x2 (1 : Int32)))) S a0 a1 x2))
def wp_X10_add_0 (D : wD) (post : wS → Prop)  (bc bs : Nat) (S : wS) (a0 : Nat) (a1 : Nat) : Prop :=
∃ n_1 : Nat, wp_X10_add_2 D post n_1 bc bs S a0 a1 (0 : Int32)
abbrev r_X10_add (rC rS : Nat) : Room := { frames := 6, cells := rC, slots := rS, locals := 150 }
def wp_X10_add (D : wD) (post : wS → Prop) (bc bs : Nat) (S : wS) (a0 : Nat) (a1 : Nat) : Prop := wp_X10_add_0 D post bc bs S a0 a1
set_option maxHeartbeats 4000000 in
set_option maxRecDepth 100000 in
theorem t_X10_add_26 {p : Program} {l : Launch} {e : Env} {s : State} {m : MethodId} {args : Array Value} {below : List Frame} {meth : Method} {c : Code} {D : wD} {cy : Nat → ClassId} {X : va_W} {A : Nat → Prop} {S0 : wS} {rC rS : Nat} {post : wS → Prop} (F : CallFix p m c cX10_add 3 s args wz_X10_add RX10) (hr : meth.sig.returnType = none) (hlocks : meth.locks = false) (hK : wK D cy A s) {k_2 : Nat → Nat → wS → Nat → Nat → Int32 → Prop} (q_2 : ∀ {bc bs cells slots : Nat} (hbc : cells + bc ≤ rC) (hbs : slots + bs ≤ rS) {S : wS} {H : Heap} {locs : List Loc} {ls : Array Slot} {a0 : Nat} {a1 : Nat} {x2 : Int32}, k_2 bc bs S a0 a1 x2 → wO D cy X A s.heap S H locs → wX D S0 S → lv_has ls 3 [(0, .ref a0), (1, .ref a1), (2, .int x2)] → wM D S a0 → sK S a0 = 15 → wM D S a1 → sK S a1 = 8 → W p l e (r_X10_add rC rS) s m args below meth c H locs cells slots (MQ below (va_Qv (fun S9 => wX D S0 S9 ∧ post S9) (wB D cy X A) A) args s rC rS A) (F0 m 2 ls [])) : ∀ {bc bs cells slots : Nat} (hbc : cells + bc ≤ rC) (hbs : slots + bs ≤ rS) {S : wS} {H : Heap} {locs : List Loc} {ls : Array Slot} {a0 : Nat} {a1 : Nat} {x2 : Int32} {b0 : Nat} {t1 : Int32} {t2 : Int32}, wp_X10_add_26 D post k_2 bc bs S a0 a1 x2 b0 t1 t2 → wO D cy X A s.heap S H locs → wX D S0 S → lv_has ls 3 [(0, .ref a0), (1, .ref a1), (2, .int x2)] → wM D S a0 → sK S a0 = 15 → wM D S a1 → sK S a1 = 8 → wM D S b0 → sK S b0 = 8 → W p l e (r_X10_add rC rS) s m args below meth c H locs cells slots (MQ below (va_Qv (fun S9 => wX D S0 S9 ∧ post S9) (wB D cy X A) A) args s rC rS A) (F0 m 26 ls [.int t2, .int t1, .ref b0]) := by
  obtain ⟨hx, hb, hml, hown, hts⟩ := id F
  have hwg : ∀ w ∈ WG, w.before args s = true := fun w h => hts w (List.mem_cons_of_mem _ h)
  intro bc bs cells slots hbc hbs S H locs ls a0 a1 x2 b0 t1 t2 hp hW hE hl hL_a0 hK_a0 hL_a1 hK_a1 hL_b0 hK_b0
  unfold wp_X10_add_26 at hp
  refine w_callV (va_runV (As := [.int t1, .int t2]) (rest := []) F (c_X3_setFresh l hL_b0 hK_b0 hp H.size) (cwV (C := RX3) 2 hts (wg_V wm_RX10_39 wy_X3_setFresh) rfl rfl rfl (by decide +kernel) ⟨Nat.le_of_ble_eq_true rfl, Nat.le_of_ble_eq_true rfl⟩) (w_preV hK hW hL_b0 hK_b0 (by decide) rfl) rfl rfl hl.1 rfl (lv_room (Nat.le_of_ble_eq_true rfl)) dX10_add_26 ⟨by show _ ≤ rC; exact Nat.le_trans (Nat.le_add_right _ _) hbc, by show _ ≤ rS; exact Nat.le_trans (Nat.le_add_right _ _) hbs⟩) hW (fun S_2 H locs hp hW => ?_)
  obtain ⟨hX_S_2, hp⟩ := hp
  refine w_same ?_
  have hE := hE.trans hX_S_2
  have hK_a0 : sK S_2 a0 = 15 := (hX_S_2.2 a0 hL_a0).1.trans hK_a0
  have hL_a0 : wM D S_2 a0 := hX_S_2.M hL_a0
  have hK_a1 : sK S_2 a1 = 8 := (hX_S_2.2 a1 hL_a1).1.trans hK_a1
  have hL_a1 : wM D S_2 a1 := hX_S_2.M hL_a1
  obtain ⟨x_3, ex_3⟩ : ∃ z : Int32, z = x2 + 1 := ⟨_, rfl⟩
  replace hp := hp x_3 ex_3
  refine lv_iinc (v := x_3) (lv' := [(2, .int x_3), (0, .ref a0), (1, .ref a1)]) hx hb dX10_add_29 hl (k := 2) rfl (by rw [ex_3]; rfl) (by decide) rfl (fun ls hl => ?_)
  refine lv_goto (tgt := 2) hx hb dX10_add_32 (by decide) ?_
  exact q_2 hbc hbs hp hW hE (lv_sub hl [1, 2, 0] rfl) hL_a0 hK_a0 hL_a1 hK_a1
set_option maxHeartbeats 4000000 in
set_option maxRecDepth 100000 in
theorem t_X10_add_2 {p : Program} {l : Launch} {e : Env} {s : State} {m : MethodId} {args : Array Value} {below : List Frame} {meth : Method} {c : Code} {D : wD} {cy : Nat → ClassId} {X : va_W} {A : Nat → Prop} {S0 : wS} {rC rS : Nat} {post : wS → Prop} (F : CallFix p m c cX10_add 3 s args wz_X10_add RX10) (hr : meth.sig.returnType = none) (hlocks : meth.locks = false) (hK : wK D cy A s) : ∀ (n : Nat) {bc bs cells slots : Nat} (hbc : cells + bc ≤ rC) (hbs : slots + bs ≤ rS) {S : wS} {H : Heap} {locs : List Loc} {ls : Array Slot} {a0 : Nat} {a1 : Nat} {x2 : Int32}, wp_X10_add_2 D post n bc bs S a0 a1 x2 → wO D cy X A s.heap S H locs → wX D S0 S → lv_has ls 3 [(0, .ref a0), (1, .ref a1), (2, .int x2)] → wM D S a0 → sK S a0 = 15 → wM D S a1 → sK S a1 = 8 → W p l e (r_X10_add rC rS) s m args below meth c H locs cells slots (MQ below (va_Qv (fun S9 => wX D S0 S9 ∧ post S9) (wB D cy X A) A) args s rC rS A) (F0 m 2 ls []) := by
  obtain ⟨hx, hb, hml, hown, hts⟩ := id F
  have hwg : ∀ w ∈ WG, w.before args s = true := fun w h => hts w (List.mem_cons_of_mem _ h)
  have i_15 : ∀ w ∈ u_ws RX10 TX10 1, w ∈ wz_X10_add := fun w h => List.mem_cons_of_mem _ (wu_15 w h)
  have i_8 : ∀ w ∈ u_ws RX3 TX3 9, w ∈ wz_X10_add := fun w h => List.mem_cons_of_mem _ (wu_8 w h)
  have k_12 := hwg _ wf_RX10_12
  intro n
  induction n with
  | zero =>
    intro bc bs cells slots hbc hbs S H locs ls a0 a1 x2 hp
    exact hp.elim
  | succ n ih =>
    intro bc bs cells slots hbc hbs S H locs ls a0 a1 x2 hp hW hE hl hL_a0 hK_a0 hL_a1 hK_a1
    unfold wp_X10_add_2 at hp
    refine lv_iload_n hx hb dX10_add_2 rfl (lv_at hl 2 rfl) ?_
    refine lv_aload_n hx hb dX10_add_3 rfl (lv_at hl 1 rfl) ?_
    refine w_getN (k := 8) (f := 3) (T := TX3) (v := .int (sI S a1 3)) F hK hW hL_a1 hK_a1 (by decide) rfl rfl (by decide) i_8 (hK.2.1 (.fieldLinkNest "OpeningsCabinet$Shelf" 31 "OpeningsCabinet$Game" "length" "I" "OpeningsCabinet") (by decide +kernel)) rfl dX10_add_4 ?_
    refine lv_icmp_gt (tgt := 35) hx hb dX10_add_7 (by decide) (fun c_1 => ?_) (fun c_1 => ?_)
    · replace hp := hp.1 c_1
      refine lv_aload_n hx hb dX10_add_35 rfl (lv_at hl 0 rfl) ?_
      obtain ⟨y_2, ey_2, hL_y_2, hK_y_2, hp⟩ := hp
      refine w_get (k := 15) (f := 0) (T := TX10) (v := .ref y_2) F hK hW hL_a0 hK_a0 (by decide) rfl rfl (by decide) i_15 k_12 (by rw [show wv 15 0 S a0 = va_rf (sR S a0 0) from rfl, ey_2]; rfl) dX10_add_36 ?_
      refine lv_aload_n hx hb dX10_add_39 rfl (lv_at hl 1 rfl) ?_
      obtain ⟨m_5, z_6, hm_5, hz_6, hp⟩ := hp
      refine w_callI (va_runV (As := [.ref a1]) (rest := []) F (c_Jx4a65c_add_9ea2d l hL_y_2 hK_y_2 hL_a1 hK_a1 hp H.size) (cwV (C := RJx4a65c) 1 hts (wg_V wm_RX10_43 wy_Jx4a65c_add_9ea2d) rfl rfl rfl (by decide +kernel) ⟨Nat.le_of_ble_eq_true rfl, Nat.le_of_ble_eq_true rfl⟩) (w_preV hK hW hL_y_2 hK_y_2 (by decide) rfl) rfl rfl hl.1 rfl (lv_room (Nat.le_of_ble_eq_true rfl)) dX10_add_40 ⟨by show _ + m_5 ≤ rC; omega, by show _ + z_6 ≤ rS; omega⟩) hW (fun r_3 S_4 H locs hp hW => ?_)
      obtain ⟨hX_S_4, hp⟩ := hp
      refine W.widen (k := _ + m_5) (n := _ + z_6) (Nat.le_refl _) (Nat.le_refl _) ?_
      replace hbc := w_spend hbc (show m_5 ≤ bc by omega)
      replace hbs := w_spend hbs (show z_6 ≤ bs by omega)
      have hE := hE.trans hX_S_4
      have hK_a0 : sK S_4 a0 = 15 := (hX_S_4.2 a0 hL_a0).1.trans hK_a0
      have hL_a0 : wM D S_4 a0 := hX_S_4.M hL_a0
      have hK_a1 : sK S_4 a1 = 8 := (hX_S_4.2 a1 hL_a1).1.trans hK_a1
      have hL_a1 : wM D S_4 a1 := hX_S_4.M hL_a1
      refine lv_pop hx hb dX10_add_43 rfl ?_
      refine W.widen (k := rC) (n := rS) (Nat.le_trans (Nat.le_add_right _ _) hbc) (Nat.le_trans (Nat.le_add_right _ _) hbs) ?_
      exact w_vret hx hb hr hlocks hW ⟨hE, hp⟩ dX10_add_44
    · replace hp := hp.2 c_1
      refine lv_aload_n hx hb dX10_add_10 rfl (lv_at hl 1 rfl) ?_
      refine lv_iload_n hx hb dX10_add_11 rfl (lv_at hl 2 rfl) ?_
      refine lv_aload_n hx hb dX10_add_12 rfl (lv_at hl 0 rfl) ?_
      refine lv_aload_n hx hb dX10_add_13 rfl (lv_at hl 1 rfl) ?_
      refine lv_iload_n hx hb dX10_add_14 rfl (lv_at hl 2 rfl) ?_
      refine w_callI (va_runV (As := [.ref a1, .int x2]) (rest := [.int x2, .ref a1]) F (c_X10_isKnown l hL_a0 hK_a0 hL_a1 hK_a1 hp H.size) (cwV (C := RX10) 2 hts (wg_V wm_RX10_35 wy_X10_isKnown) rfl rfl rfl (by decide +kernel) ⟨Nat.le_of_ble_eq_true rfl, Nat.le_of_ble_eq_true rfl⟩) (w_preV hK hW hL_a0 hK_a0 (by decide) rfl) rfl rfl hl.1 rfl (lv_room (Nat.le_of_ble_eq_true rfl)) dX10_add_15 ⟨by show _ ≤ rC; exact Nat.le_trans (Nat.le_add_right _ _) hbc, by show _ ≤ rS; exact Nat.le_trans (Nat.le_add_right _ _) hbs⟩) hW (fun r_7 S_8 H locs hp hW => ?_)
      obtain ⟨hX_S_8, hp⟩ := hp
      refine w_same ?_
      have hE := hE.trans hX_S_8
      have hK_a0 : sK S_8 a0 = 15 := (hX_S_8.2 a0 hL_a0).1.trans hK_a0
      have hL_a0 : wM D S_8 a0 := hX_S_8.M hL_a0
      have hK_a1 : sK S_8 a1 = 8 := (hX_S_8.2 a1 hL_a1).1.trans hK_a1
      have hL_a1 : wM D S_8 a1 := hX_S_8.M hL_a1
      refine lv_if_ne (tgt := 25) hx hb dX10_add_18 (by decide) (fun c_9 => ?_) (fun c_9 => ?_)
      · replace hp := hp.1 c_9
        refine lv_iconst (v := 0) hx hb dX10_add_25 (by decide) ?_
        exact t_X10_add_26 F hr hlocks hK ih hbc hbs hp hW hE (lv_sub hl [0, 1, 2] rfl) hL_a0 hK_a0 hL_a1 hK_a1 hL_a1 hK_a1
      · replace hp := hp.2 c_9
        refine lv_iconst (v := 1) hx hb dX10_add_21 (by decide) ?_
        refine lv_goto (tgt := 26) hx hb dX10_add_22 (by decide) ?_
        exact t_X10_add_26 F hr hlocks hK ih hbc hbs hp hW hE (lv_sub hl [0, 1, 2] rfl) hL_a0 hK_a0 hL_a1 hK_a1 hL_a1 hK_a1
set_option maxHeartbeats 4000000 in
set_option maxRecDepth 100000 in
theorem t_X10_add_0 {p : Program} {l : Launch} {e : Env} {s : State} {m : MethodId} {args : Array Value} {below : List Frame} {meth : Method} {c : Code} {D : wD} {cy : Nat → ClassId} {X : va_W} {A : Nat → Prop} {S0 : wS} {rC rS : Nat} {post : wS → Prop} (F : CallFix p m c cX10_add 3 s args wz_X10_add RX10) (hr : meth.sig.returnType = none) (hlocks : meth.locks = false) (hK : wK D cy A s) : ∀ {bc bs cells slots : Nat} (hbc : cells + bc ≤ rC) (hbs : slots + bs ≤ rS) {S : wS} {H : Heap} {locs : List Loc} {ls : Array Slot} {a0 : Nat} {a1 : Nat}, wp_X10_add_0 D post bc bs S a0 a1 → wO D cy X A s.heap S H locs → wX D S0 S → lv_has ls 3 [(0, .ref a0), (1, .ref a1)] → wM D S a0 → sK S a0 = 15 → wM D S a1 → sK S a1 = 8 → W p l e (r_X10_add rC rS) s m args below meth c H locs cells slots (MQ below (va_Qv (fun S9 => wX D S0 S9 ∧ post S9) (wB D cy X A) A) args s rC rS A) (F0 m 0 ls []) := by
  obtain ⟨hx, hb, hml, hown, hts⟩ := id F
  have hwg : ∀ w ∈ WG, w.before args s = true := fun w h => hts w (List.mem_cons_of_mem _ h)
  intro bc bs cells slots hbc hbs S H locs ls a0 a1 hp hW hE hl hL_a0 hK_a0 hL_a1 hK_a1
  unfold wp_X10_add_0 at hp
  refine lv_iconst (v := 0) hx hb dX10_add_0 (by decide) ?_
  refine lv_istore_n (lv' := [(2, .int (0 : Int32)), (0, .ref a0), (1, .ref a1)]) hx hb dX10_add_1 rfl hl (by decide) rfl (fun ls hl => ?_)
  obtain ⟨n_1, hp⟩ := hp
  exact t_X10_add_2 F hr hlocks hK n_1 hbc hbs hp hW hE (lv_sub hl [1, 2, 0] rfl) hL_a0 hK_a0 hL_a1 hK_a1
set_option maxHeartbeats 4000000 in
set_option maxRecDepth 100000 in
theorem c_X10_add (l : Launch) {rC rS : Nat} {D : wD} {cy : Nat → ClassId} {X : va_W} {S0 : wS} {post : wS → Prop} {a0 : Nat} {a1 : Nat} (hL_a0 : wM D S0 a0) (hK_a0 : sK S0 a0 = 15) (hL_a1 : wM D S0 a1) (hK_a1 : sK S0 a1 = 8) (hp : wp_X10_add D post rC rS S0 a0 a1) : mV D cy X l yX10_add wz_X10_add (r_X10_add rC rS) [.ref a0, .ref a1] S0 (fun S9 => wX D S0 S9 ∧ post S9) := by
  intro sz
  refine Met.ofW (cc := cX10_add) (maxL := 3) (ret := none) (by decide) rfl ?_
  intro p e s m args below meth c s₁ B hml hv
  obtain ⟨rfl, hsz, hP, hK, hD0, hRO⟩ := hv
  have hts := atoms_spec (ws := wz_X10_add) B.pre
  have hown : s.vm.findClass RX10 = some m.cls := findClass_of_methodNamed B.named
  subst hsz
  have hD := hD0.self (sz := s.heap.size)
  have F : CallFix p m c cX10_add 3 s _ wz_X10_add RX10 := ⟨B.exec, B.bytes, hml, hown, hts⟩
  have hr := B.returns
  have hlocks := B.notSynchronized
  generalize hAe : va_A (wL cy X S0) s.heap.size = A at hD hK ⊢
  have hA : ∀ q, s.heap.size ≤ q → A q := fun q h => by rw [← hAe]; exact Or.inr h
  have hW : wO D cy X A s.heap S0 s.heap [] := ⟨hP, hD, va_S.rf, hA, hRO⟩
  have hl := lv_entry ([.ref a0, .ref a1]) (n := 3) (Nat.le_of_ble_eq_true rfl)
  rw [lg_entry_eq]
  generalize (lg_sl ([.ref a0, .ref a1]) ++ List.replicate (3 - (lg_sl ([.ref a0, .ref a1])).length) Slot.unset).toArray = ls at hl ⊢
  have hl : lv_has ls 3 [(0, .ref a0), (1, .ref a1)] := hl
  unfold wp_X10_add at hp
  exact t_X10_add_0 F hr hlocks hK (Nat.le_of_eq (Nat.zero_add _)) (Nat.le_of_eq (Nat.zero_add _)) hp hW wX.rf (lv_sub hl [0, 1] rfl) hL_a0 hK_a0 hL_a1 hK_a1
def wp_X10_clear_0 (D : wD) (post : wS → Prop)  (S : wS) (a0 : Nat) : Prop :=
∃ y_1 : Nat, sR S a0 0 = some y_1 ∧ wM D S y_1 ∧ sK S y_1 = 4 ∧
wp_Jx4a65c_clear_da8c8 D (fun S_3 => 
post S_3) S y_1
abbrev r_X10_clear : Room := { frames := 1, cells := 0, slots := 0, locals := 23 }
def wp_X10_clear (D : wD) (post : wS → Prop) (S : wS) (a0 : Nat) : Prop := wp_X10_clear_0 D post S a0
set_option maxHeartbeats 4000000 in
set_option maxRecDepth 100000 in
theorem t_X10_clear_0 {p : Program} {l : Launch} {e : Env} {s : State} {m : MethodId} {args : Array Value} {below : List Frame} {meth : Method} {c : Code} {D : wD} {cy : Nat → ClassId} {X : va_W} {A : Nat → Prop} {S0 : wS} {post : wS → Prop} (F : CallFix p m c cX10_clear 1 s args wz_X10_clear RX10) (hr : meth.sig.returnType = none) (hlocks : meth.locks = false) (hK : wK D cy A s) : ∀ {S : wS} {H : Heap} {locs : List Loc} {ls : Array Slot} {a0 : Nat}, wp_X10_clear_0 D post S a0 → wO D cy X A s.heap S H locs → wX D S0 S → lv_has ls 1 [(0, .ref a0)] → wM D S a0 → sK S a0 = 15 → W p l e r_X10_clear s m args below meth c H locs 0 0 (MQ below (va_Qv (fun S9 => wX D S0 S9 ∧ post S9) (wB D cy X A) A) args s 0 0 A) (F0 m 0 ls []) := by
  obtain ⟨hx, hb, hml, hown, hts⟩ := id F
  have hwg : ∀ w ∈ WG, w.before args s = true := fun w h => hts w (List.mem_cons_of_mem _ h)
  have i_15 : ∀ w ∈ u_ws RX10 TX10 1, w ∈ wz_X10_clear := fun w h => List.mem_cons_of_mem _ (wu_15 w h)
  have k_12 := hwg _ wf_RX10_12
  intro S H locs ls a0 hp hW hE hl hL_a0 hK_a0
  unfold wp_X10_clear_0 at hp
  refine lv_aload_n hx hb dX10_clear_0 rfl (lv_at hl 0 rfl) ?_
  obtain ⟨y_1, ey_1, hL_y_1, hK_y_1, hp⟩ := hp
  refine w_get (k := 15) (f := 0) (T := TX10) (v := .ref y_1) F hK hW hL_a0 hK_a0 (by decide) rfl rfl (by decide) i_15 k_12 (by rw [show wv 15 0 S a0 = va_rf (sR S a0 0) from rfl, ey_1]; rfl) dX10_clear_1 ?_
  refine w_callV (va_runV (As := []) (rest := []) F (c_Jx4a65c_clear_da8c8 l hL_y_1 hK_y_1 hp H.size) (cwV (C := RJx4a65c) 0 hts (wg_V wm_RX10_22 wy_Jx4a65c_clear_da8c8) rfl rfl rfl (by decide +kernel) ⟨Nat.le_of_ble_eq_true rfl, Nat.le_of_ble_eq_true rfl⟩) (w_preV hK hW hL_y_1 hK_y_1 (by decide) rfl) rfl rfl hl.1 rfl (lv_room (Nat.le_of_ble_eq_true rfl)) dX10_clear_4 ⟨Nat.le_of_ble_eq_true rfl, Nat.le_of_ble_eq_true rfl⟩) hW (fun S_3 H locs hp hW => ?_)
  obtain ⟨hX_S_3, hp⟩ := hp
  refine W.widen (k := 0) (n := 0) (by decide) (by decide) ?_
  have hE := hE.trans hX_S_3
  have hK_a0 : sK S_3 a0 = 15 := (hX_S_3.2 a0 hL_a0).1.trans hK_a0
  have hL_a0 : wM D S_3 a0 := hX_S_3.M hL_a0
  exact w_vret hx hb hr hlocks hW ⟨hE, hp⟩ dX10_clear_7
set_option maxHeartbeats 4000000 in
set_option maxRecDepth 100000 in
theorem c_X10_clear (l : Launch) {D : wD} {cy : Nat → ClassId} {X : va_W} {S0 : wS} {post : wS → Prop} {a0 : Nat} (hL_a0 : wM D S0 a0) (hK_a0 : sK S0 a0 = 15) (hp : wp_X10_clear D post S0 a0) : mV D cy X l yX10_clear wz_X10_clear r_X10_clear [.ref a0] S0 (fun S9 => wX D S0 S9 ∧ post S9) := by
  intro sz
  refine Met.ofW (cc := cX10_clear) (maxL := 1) (ret := none) (by decide) rfl ?_
  intro p e s m args below meth c s₁ B hml hv
  obtain ⟨rfl, hsz, hP, hK, hD0, hRO⟩ := hv
  have hts := atoms_spec (ws := wz_X10_clear) B.pre
  have hown : s.vm.findClass RX10 = some m.cls := findClass_of_methodNamed B.named
  subst hsz
  have hD := hD0.self (sz := s.heap.size)
  have F : CallFix p m c cX10_clear 1 s _ wz_X10_clear RX10 := ⟨B.exec, B.bytes, hml, hown, hts⟩
  have hr := B.returns
  have hlocks := B.notSynchronized
  generalize hAe : va_A (wL cy X S0) s.heap.size = A at hD hK ⊢
  have hA : ∀ q, s.heap.size ≤ q → A q := fun q h => by rw [← hAe]; exact Or.inr h
  have hW : wO D cy X A s.heap S0 s.heap [] := ⟨hP, hD, va_S.rf, hA, hRO⟩
  have hl := lv_entry ([.ref a0]) (n := 1) (Nat.le_of_ble_eq_true rfl)
  rw [lg_entry_eq]
  generalize (lg_sl ([.ref a0]) ++ List.replicate (1 - (lg_sl ([.ref a0])).length) Slot.unset).toArray = ls at hl ⊢
  have hl : lv_has ls 1 [(0, .ref a0)] := hl
  unfold wp_X10_clear at hp
  exact t_X10_clear_0 F hr hlocks hK hp hW wX.rf (lv_sub hl [0] rfl) hL_a0 hK_a0
def wp_X10_differentPositions_60 (D : wD) (post : Int32 → wS → Prop) (k_4 : wS → Nat → Int32 → Int32 → Prop) (S : wS) (a0 : Nat) (x1 : Int32) (x2 : Int32) : Prop :=
∀ x_1 : Int32, x_1 = x2 + 1 →
k_4 S a0 x1 x_1
def wp_X10_differentPositions_52 (D : wD) (post : Int32 → wS → Prop) (k_4 : wS → Nat → Int32 → Int32 → Prop) (k_24 : wS → Nat → Int32 → Int32 → Option Nat → Int32 → Prop) (S : wS) (a0 : Nat) (x2 : Int32) (a3 : Nat) (x4 : Int32) (t0 : Int32) (t1 : Int32) : Prop :=
∀ x_1 : Int32, x_1 = (t0 + t1) →
∀ x_2 : Int32, x_2 = x4 + 1 →
k_24 S a0 x_1 x2 (some a3) x_2
def wp_X10_differentPositions_24 (D : wD) (post : Int32 → wS → Prop) (k_4 : wS → Nat → Int32 → Int32 → Prop) : Nat → wS → Nat → Int32 → Int32 → Option Nat → Int32 → Prop
  | 0, _, _, _, _, _, _ => False
  | n + 1, S, a0, x1, x2, g3, x4 =>
    ((g3 = none → wp_X10_differentPositions_60 D post k_4 S a0 x1 x2) ∧
     (∀ y_1 : Nat, g3 = some y_1 → wM D S y_1 ∧ sK S y_1 = 8 ∧ (((sI S y_1 3) < x4 → wp_X10_differentPositions_60 D post k_4 S a0 x1 x2) ∧
     (¬ (sI S y_1 3) < x4 → wp_X3_isFreshAt D (fun r_4 S_5 => 
    ((r_4 = 0 → wp_X10_differentPositions_52 D post k_4 (wp_X10_differentPositions_24 D post k_4 n) S_5 a0 x2 y_1 x4 x1 (0 : Int32)) ∧
     (¬ r_4 = 0 → wp_X10_differentPositions_52 D post k_4 (wp_X10_differentPositions_24 D post k_4 n) S_5 a0 x2 y_1 x4 x1 (1 : Int32)))) S y_1 x4))))
def wp_X10_differentPositions_4 (D : wD) (post : Int32 → wS → Prop)  : Nat → wS → Nat → Int32 → Int32 → Prop
  | 0, _, _, _, _ => False
  | n + 1, S, a0, x1, x2 =>
    ∃ y_1 : Nat, sR S a0 0 = some y_1 ∧ wM D S y_1 ∧ sK S y_1 = 4 ∧
    wp_Jx4a65c_size_8abf5 D (fun r_2 S_3 => 
    ((r_2 ≤ x2 → post x1 S_3) ∧
     (¬ r_2 ≤ x2 → wp_X10_gameAt D (fun r_5 S_6 => 
    ∃ n_7 : Nat, wp_X10_differentPositions_24 D post (wp_X10_differentPositions_4 D post n) n_7 S_6 a0 x1 x2 r_5 (0 : Int32)) S_3 a0 x2))) S y_1
def wp_X10_differentPositions_0 (D : wD) (post : Int32 → wS → Prop)  (S : wS) (a0 : Nat) : Prop :=
∃ n_1 : Nat, wp_X10_differentPositions_4 D post n_1 S a0 (0 : Int32) (0 : Int32)
abbrev r_X10_differentPositions : Room := { frames := 4, cells := 0, slots := 0, locals := 85 }
def wp_X10_differentPositions (D : wD) (post : Int32 → wS → Prop) (S : wS) (a0 : Nat) : Prop := wp_X10_differentPositions_0 D post S a0
set_option maxHeartbeats 4000000 in
set_option maxRecDepth 100000 in
theorem t_X10_differentPositions_60 {p : Program} {l : Launch} {e : Env} {s : State} {m : MethodId} {args : Array Value} {below : List Frame} {meth : Method} {c : Code} {D : wD} {cy : Nat → ClassId} {X : va_W} {A : Nat → Prop} {S0 : wS} {post : Int32 → wS → Prop} (F : CallFix p m c cX10_differentPositions 5 s args wz_X10_differentPositions RX10) (hr : meth.sig.returnType = (some .int)) (hlocks : meth.locks = false) (hK : wK D cy A s) {k_4 : wS → Nat → Int32 → Int32 → Prop} (q_4 : ∀ {S : wS} {H : Heap} {locs : List Loc} {ls : Array Slot} {a0 : Nat} {x1 : Int32} {x2 : Int32}, k_4 S a0 x1 x2 → wO D cy X A s.heap S H locs → wX D S0 S → lv_has ls 5 [(0, .ref a0), (1, .int x1), (2, .int x2)] → wM D S a0 → sK S a0 = 15 → W p l e r_X10_differentPositions s m args below meth c H locs 0 0 (MQ below (va_Qi (fun r S9 => wX D S0 S9 ∧ post r S9) (wB D cy X A) A) args s 0 0 A) (F0 m 4 ls [])) : ∀ {S : wS} {H : Heap} {locs : List Loc} {ls : Array Slot} {a0 : Nat} {x1 : Int32} {x2 : Int32}, wp_X10_differentPositions_60 D post k_4 S a0 x1 x2 → wO D cy X A s.heap S H locs → wX D S0 S → lv_has ls 5 [(0, .ref a0), (1, .int x1), (2, .int x2)] → wM D S a0 → sK S a0 = 15 → W p l e r_X10_differentPositions s m args below meth c H locs 0 0 (MQ below (va_Qi (fun r S9 => wX D S0 S9 ∧ post r S9) (wB D cy X A) A) args s 0 0 A) (F0 m 60 ls []) := by
  obtain ⟨hx, hb, hml, hown, hts⟩ := id F
  have hwg : ∀ w ∈ WG, w.before args s = true := fun w h => hts w (List.mem_cons_of_mem _ h)
  intro S H locs ls a0 x1 x2 hp hW hE hl hL_a0 hK_a0
  unfold wp_X10_differentPositions_60 at hp
  obtain ⟨x_1, ex_1⟩ : ∃ z : Int32, z = x2 + 1 := ⟨_, rfl⟩
  replace hp := hp x_1 ex_1
  refine lv_iinc (v := x_1) (lv' := [(2, .int x_1), (0, .ref a0), (1, .int x1)]) hx hb dX10_differentPositions_60 hl (k := 2) rfl (by rw [ex_1]; rfl) (by decide) rfl (fun ls hl => ?_)
  refine lv_goto (tgt := 4) hx hb dX10_differentPositions_63 (by decide) ?_
  exact q_4 hp hW hE (lv_sub hl [1, 2, 0] rfl) hL_a0 hK_a0
set_option maxHeartbeats 4000000 in
set_option maxRecDepth 100000 in
theorem t_X10_differentPositions_52 {p : Program} {l : Launch} {e : Env} {s : State} {m : MethodId} {args : Array Value} {below : List Frame} {meth : Method} {c : Code} {D : wD} {cy : Nat → ClassId} {X : va_W} {A : Nat → Prop} {S0 : wS} {post : Int32 → wS → Prop} (F : CallFix p m c cX10_differentPositions 5 s args wz_X10_differentPositions RX10) (hr : meth.sig.returnType = (some .int)) (hlocks : meth.locks = false) (hK : wK D cy A s) {k_4 : wS → Nat → Int32 → Int32 → Prop} (q_4 : ∀ {S : wS} {H : Heap} {locs : List Loc} {ls : Array Slot} {a0 : Nat} {x1 : Int32} {x2 : Int32}, k_4 S a0 x1 x2 → wO D cy X A s.heap S H locs → wX D S0 S → lv_has ls 5 [(0, .ref a0), (1, .int x1), (2, .int x2)] → wM D S a0 → sK S a0 = 15 → W p l e r_X10_differentPositions s m args below meth c H locs 0 0 (MQ below (va_Qi (fun r S9 => wX D S0 S9 ∧ post r S9) (wB D cy X A) A) args s 0 0 A) (F0 m 4 ls [])) {k_24 : wS → Nat → Int32 → Int32 → Option Nat → Int32 → Prop} (q_24 : ∀ {S : wS} {H : Heap} {locs : List Loc} {ls : Array Slot} {a0 : Nat} {x1 : Int32} {x2 : Int32} {g3 : Option Nat} {x4 : Int32}, k_24 S a0 x1 x2 g3 x4 → wO D cy X A s.heap S H locs → wX D S0 S → lv_has ls 5 [(0, .ref a0), (1, .int x1), (2, .int x2), (3, va_rf g3), (4, .int x4)] → wM D S a0 → sK S a0 = 15 → W p l e r_X10_differentPositions s m args below meth c H locs 0 0 (MQ below (va_Qi (fun r S9 => wX D S0 S9 ∧ post r S9) (wB D cy X A) A) args s 0 0 A) (F0 m 24 ls [])) : ∀ {S : wS} {H : Heap} {locs : List Loc} {ls : Array Slot} {a0 : Nat} {x2 : Int32} {a3 : Nat} {x4 : Int32} {t0 : Int32} {t1 : Int32}, wp_X10_differentPositions_52 D post k_4 k_24 S a0 x2 a3 x4 t0 t1 → wO D cy X A s.heap S H locs → wX D S0 S → lv_has ls 5 [(0, .ref a0), (2, .int x2), (3, .ref a3), (4, .int x4)] → wM D S a0 → sK S a0 = 15 → wM D S a3 → sK S a3 = 8 → W p l e r_X10_differentPositions s m args below meth c H locs 0 0 (MQ below (va_Qi (fun r S9 => wX D S0 S9 ∧ post r S9) (wB D cy X A) A) args s 0 0 A) (F0 m 52 ls [.int t1, .int t0]) := by
  obtain ⟨hx, hb, hml, hown, hts⟩ := id F
  have hwg : ∀ w ∈ WG, w.before args s = true := fun w h => hts w (List.mem_cons_of_mem _ h)
  intro S H locs ls a0 x2 a3 x4 t0 t1 hp hW hE hl hL_a0 hK_a0 hL_a3 hK_a3
  unfold wp_X10_differentPositions_52 at hp
  refine lv_iadd hx hb dX10_differentPositions_52 ?_
  refine lv_topi (fun x_1 ex_1 => ?_)
  replace hp := hp x_1 ex_1
  refine lv_istore_n (lv' := [(1, .int x_1), (0, .ref a0), (2, .int x2), (3, .ref a3), (4, .int x4)]) hx hb dX10_differentPositions_53 rfl hl (by decide) rfl (fun ls hl => ?_)
  obtain ⟨x_2, ex_2⟩ : ∃ z : Int32, z = x4 + 1 := ⟨_, rfl⟩
  replace hp := hp x_2 ex_2
  refine lv_iinc (v := x_2) (lv' := [(4, .int x_2), (1, .int x_1), (0, .ref a0), (2, .int x2), (3, .ref a3)]) hx hb dX10_differentPositions_54 hl (k := 4) rfl (by rw [ex_2]; rfl) (by decide) rfl (fun ls hl => ?_)
  refine lv_goto (tgt := 24) hx hb dX10_differentPositions_57 (by decide) ?_
  exact q_24 hp hW hE (lv_sub hl [2, 1, 3, 4, 0] rfl) hL_a0 hK_a0
set_option maxHeartbeats 4000000 in
set_option maxRecDepth 100000 in
theorem t_X10_differentPositions_24 {p : Program} {l : Launch} {e : Env} {s : State} {m : MethodId} {args : Array Value} {below : List Frame} {meth : Method} {c : Code} {D : wD} {cy : Nat → ClassId} {X : va_W} {A : Nat → Prop} {S0 : wS} {post : Int32 → wS → Prop} (F : CallFix p m c cX10_differentPositions 5 s args wz_X10_differentPositions RX10) (hr : meth.sig.returnType = (some .int)) (hlocks : meth.locks = false) (hK : wK D cy A s) {k_4 : wS → Nat → Int32 → Int32 → Prop} (q_4 : ∀ {S : wS} {H : Heap} {locs : List Loc} {ls : Array Slot} {a0 : Nat} {x1 : Int32} {x2 : Int32}, k_4 S a0 x1 x2 → wO D cy X A s.heap S H locs → wX D S0 S → lv_has ls 5 [(0, .ref a0), (1, .int x1), (2, .int x2)] → wM D S a0 → sK S a0 = 15 → W p l e r_X10_differentPositions s m args below meth c H locs 0 0 (MQ below (va_Qi (fun r S9 => wX D S0 S9 ∧ post r S9) (wB D cy X A) A) args s 0 0 A) (F0 m 4 ls [])) : ∀ (n : Nat) {S : wS} {H : Heap} {locs : List Loc} {ls : Array Slot} {a0 : Nat} {x1 : Int32} {x2 : Int32} {g3 : Option Nat} {x4 : Int32}, wp_X10_differentPositions_24 D post k_4 n S a0 x1 x2 g3 x4 → wO D cy X A s.heap S H locs → wX D S0 S → lv_has ls 5 [(0, .ref a0), (1, .int x1), (2, .int x2), (3, va_rf g3), (4, .int x4)] → wM D S a0 → sK S a0 = 15 → W p l e r_X10_differentPositions s m args below meth c H locs 0 0 (MQ below (va_Qi (fun r S9 => wX D S0 S9 ∧ post r S9) (wB D cy X A) A) args s 0 0 A) (F0 m 24 ls []) := by
  obtain ⟨hx, hb, hml, hown, hts⟩ := id F
  have hwg : ∀ w ∈ WG, w.before args s = true := fun w h => hts w (List.mem_cons_of_mem _ h)
  have i_8 : ∀ w ∈ u_ws RX3 TX3 9, w ∈ wz_X10_differentPositions := fun w h => List.mem_cons_of_mem _ (wu_8 w h)
  intro n
  induction n with
  | zero =>
    intro S H locs ls a0 x1 x2 g3 x4 hp
    exact hp.elim
  | succ n ih =>
    intro S H locs ls a0 x1 x2 g3 x4 hp hW hE hl hL_a0 hK_a0
    unfold wp_X10_differentPositions_24 at hp
    refine w_aload_n hx hb dX10_differentPositions_24 rfl (lv_at hl 3 rfl) ?_
    refine w_ifnull (tgt := 60) hx hb dX10_differentPositions_25 (by decide) (fun h_2 => ?_) (fun y_1 h_2 => ?_)
    · replace hp := hp.1 h_2
      subst h_2
      exact t_X10_differentPositions_60 F hr hlocks hK q_4 hp hW hE (lv_sub hl [0, 1, 2] rfl) hL_a0 hK_a0
    · obtain ⟨hL_y_1, hK_y_1, hp⟩ := hp.2 y_1 h_2
      subst h_2
      refine lv_iload hx hb dX10_differentPositions_28 (lv_at hl 4 rfl) ?_
      refine lv_aload_n hx hb dX10_differentPositions_30 rfl (lv_at hl 3 rfl) ?_
      refine w_getN (k := 8) (f := 3) (T := TX3) (v := .int (sI S y_1 3)) F hK hW hL_y_1 hK_y_1 (by decide) rfl rfl (by decide) i_8 (hK.2.1 (.fieldLinkNest "OpeningsCabinet$Shelf" 31 "OpeningsCabinet$Game" "length" "I" "OpeningsCabinet") (by decide +kernel)) rfl dX10_differentPositions_31 ?_
      refine lv_icmp_gt (tgt := 60) hx hb dX10_differentPositions_34 (by decide) (fun c_3 => ?_) (fun c_3 => ?_)
      · replace hp := hp.1 c_3
        exact t_X10_differentPositions_60 F hr hlocks hK q_4 hp hW hE (lv_sub hl [0, 1, 2] rfl) hL_a0 hK_a0
      · replace hp := hp.2 c_3
        refine lv_iload_n hx hb dX10_differentPositions_37 rfl (lv_at hl 1 rfl) ?_
        refine lv_aload_n hx hb dX10_differentPositions_38 rfl (lv_at hl 3 rfl) ?_
        refine lv_iload hx hb dX10_differentPositions_39 (lv_at hl 4 rfl) ?_
        refine w_callI (va_runV (As := [.int x4]) (rest := [.int x1]) F (c_X3_isFreshAt l hL_y_1 hK_y_1 hp H.size) (cwV (C := RX3) 1 hts (wg_V wm_RX10_59 wy_X3_isFreshAt) rfl rfl rfl (by decide +kernel) ⟨Nat.le_of_ble_eq_true rfl, Nat.le_of_ble_eq_true rfl⟩) (w_preV hK hW hL_y_1 hK_y_1 (by decide) rfl) rfl rfl hl.1 rfl (lv_room (Nat.le_of_ble_eq_true rfl)) dX10_differentPositions_41 ⟨Nat.le_of_ble_eq_true rfl, Nat.le_of_ble_eq_true rfl⟩) hW (fun r_4 S_5 H locs hp hW => ?_)
        obtain ⟨hX_S_5, hp⟩ := hp
        refine W.widen (k := 0) (n := 0) (by decide) (by decide) ?_
        have hE := hE.trans hX_S_5
        have hK_a0 : sK S_5 a0 = 15 := (hX_S_5.2 a0 hL_a0).1.trans hK_a0
        have hL_a0 : wM D S_5 a0 := hX_S_5.M hL_a0
        have hK_y_1 : sK S_5 y_1 = 8 := (hX_S_5.2 y_1 hL_y_1).1.trans hK_y_1
        have hL_y_1 : wM D S_5 y_1 := hX_S_5.M hL_y_1
        refine lv_if_eq (tgt := 51) hx hb dX10_differentPositions_44 (by decide) (fun c_6 => ?_) (fun c_6 => ?_)
        · replace hp := hp.1 c_6
          refine lv_iconst (v := 0) hx hb dX10_differentPositions_51 (by decide) ?_
          exact t_X10_differentPositions_52 F hr hlocks hK q_4 ih hp hW hE (lv_sub hl [0, 2, 3, 4] rfl) hL_a0 hK_a0 hL_y_1 hK_y_1
        · replace hp := hp.2 c_6
          refine lv_iconst (v := 1) hx hb dX10_differentPositions_47 (by decide) ?_
          refine lv_goto (tgt := 52) hx hb dX10_differentPositions_48 (by decide) ?_
          exact t_X10_differentPositions_52 F hr hlocks hK q_4 ih hp hW hE (lv_sub hl [0, 2, 3, 4] rfl) hL_a0 hK_a0 hL_y_1 hK_y_1
set_option maxHeartbeats 4000000 in
set_option maxRecDepth 100000 in
theorem t_X10_differentPositions_4 {p : Program} {l : Launch} {e : Env} {s : State} {m : MethodId} {args : Array Value} {below : List Frame} {meth : Method} {c : Code} {D : wD} {cy : Nat → ClassId} {X : va_W} {A : Nat → Prop} {S0 : wS} {post : Int32 → wS → Prop} (F : CallFix p m c cX10_differentPositions 5 s args wz_X10_differentPositions RX10) (hr : meth.sig.returnType = (some .int)) (hlocks : meth.locks = false) (hK : wK D cy A s) : ∀ (n : Nat) {S : wS} {H : Heap} {locs : List Loc} {ls : Array Slot} {a0 : Nat} {x1 : Int32} {x2 : Int32}, wp_X10_differentPositions_4 D post n S a0 x1 x2 → wO D cy X A s.heap S H locs → wX D S0 S → lv_has ls 5 [(0, .ref a0), (1, .int x1), (2, .int x2)] → wM D S a0 → sK S a0 = 15 → W p l e r_X10_differentPositions s m args below meth c H locs 0 0 (MQ below (va_Qi (fun r S9 => wX D S0 S9 ∧ post r S9) (wB D cy X A) A) args s 0 0 A) (F0 m 4 ls []) := by
  obtain ⟨hx, hb, hml, hown, hts⟩ := id F
  have hwg : ∀ w ∈ WG, w.before args s = true := fun w h => hts w (List.mem_cons_of_mem _ h)
  have i_15 : ∀ w ∈ u_ws RX10 TX10 1, w ∈ wz_X10_differentPositions := fun w h => List.mem_cons_of_mem _ (wu_15 w h)
  have k_12 := hwg _ wf_RX10_12
  intro n
  induction n with
  | zero =>
    intro S H locs ls a0 x1 x2 hp
    exact hp.elim
  | succ n ih =>
    intro S H locs ls a0 x1 x2 hp hW hE hl hL_a0 hK_a0
    unfold wp_X10_differentPositions_4 at hp
    refine lv_iload_n hx hb dX10_differentPositions_4 rfl (lv_at hl 2 rfl) ?_
    refine lv_aload_n hx hb dX10_differentPositions_5 rfl (lv_at hl 0 rfl) ?_
    obtain ⟨y_1, ey_1, hL_y_1, hK_y_1, hp⟩ := hp
    refine w_get (k := 15) (f := 0) (T := TX10) (v := .ref y_1) F hK hW hL_a0 hK_a0 (by decide) rfl rfl (by decide) i_15 k_12 (by rw [show wv 15 0 S a0 = va_rf (sR S a0 0) from rfl, ey_1]; rfl) dX10_differentPositions_6 ?_
    refine w_callI (va_runV (As := []) (rest := [.int x2]) F (c_Jx4a65c_size_8abf5 l hL_y_1 hK_y_1 hp H.size) (cwV (C := RJx4a65c) 0 hts (wg_V wm_RX10_18 wy_Jx4a65c_size_8abf5) rfl rfl rfl (by decide +kernel) ⟨Nat.le_of_ble_eq_true rfl, Nat.le_of_ble_eq_true rfl⟩) (w_preV hK hW hL_y_1 hK_y_1 (by decide) rfl) rfl rfl hl.1 rfl (lv_room (Nat.le_of_ble_eq_true rfl)) dX10_differentPositions_9 ⟨Nat.le_of_ble_eq_true rfl, Nat.le_of_ble_eq_true rfl⟩) hW (fun r_2 S_3 H locs hp hW => ?_)
    obtain ⟨hX_S_3, hp⟩ := hp
    refine W.widen (k := 0) (n := 0) (by decide) (by decide) ?_
    have hE := hE.trans hX_S_3
    have hK_a0 : sK S_3 a0 = 15 := (hX_S_3.2 a0 hL_a0).1.trans hK_a0
    have hL_a0 : wM D S_3 a0 := hX_S_3.M hL_a0
    refine lv_icmp_ge (tgt := 66) hx hb dX10_differentPositions_12 (by decide) (fun c_4 => ?_) (fun c_4 => ?_)
    · replace hp := hp.1 c_4
      refine lv_iload_n hx hb dX10_differentPositions_66 rfl (lv_at hl 1 rfl) ?_
      exact w_iret hx hb hr hlocks hW ⟨hE, hp⟩ dX10_differentPositions_67
    · replace hp := hp.2 c_4
      refine lv_aload_n hx hb dX10_differentPositions_15 rfl (lv_at hl 0 rfl) ?_
      refine lv_iload_n hx hb dX10_differentPositions_16 rfl (lv_at hl 2 rfl) ?_
      refine w_callR (va_runV (As := [.int x2]) (rest := []) F (c_X10_gameAt l hL_a0 hK_a0 hp H.size) (cwV (C := RX10) 1 hts (wg_V wm_RX10_51 wy_X10_gameAt) rfl rfl rfl (by decide +kernel) ⟨Nat.le_of_ble_eq_true rfl, Nat.le_of_ble_eq_true rfl⟩) (w_preV hK hW hL_a0 hK_a0 (by decide) rfl) rfl rfl hl.1 rfl (lv_room (Nat.le_of_ble_eq_true rfl)) dX10_differentPositions_17 ⟨Nat.le_of_ble_eq_true rfl, Nat.le_of_ble_eq_true rfl⟩) hW (fun r_5 S_6 H locs hp hW => ?_)
      obtain ⟨hX_S_6, hp⟩ := hp
      refine W.widen (k := 0) (n := 0) (by decide) (by decide) ?_
      have hE := hE.trans hX_S_6
      have hK_a0 : sK S_6 a0 = 15 := (hX_S_6.2 a0 hL_a0).1.trans hK_a0
      have hL_a0 : wM D S_6 a0 := hX_S_6.M hL_a0
      refine w_astore_n (lv' := [(3, va_rf r_5), (0, .ref a0), (1, .int x1), (2, .int x2)]) hx hb dX10_differentPositions_20 rfl hl (by decide) rfl (fun ls hl => ?_)
      refine lv_iconst (v := 0) hx hb dX10_differentPositions_21 (by decide) ?_
      refine lv_istore (lv' := [(4, .int (0 : Int32)), (3, va_rf r_5), (0, .ref a0), (1, .int x1), (2, .int x2)]) hx hb dX10_differentPositions_22 hl (by decide) rfl (fun ls hl => ?_)
      obtain ⟨n_7, hp⟩ := hp
      exact t_X10_differentPositions_24 F hr hlocks hK ih n_7 hp hW hE (lv_sub hl [2, 3, 4, 1, 0] rfl) hL_a0 hK_a0
set_option maxHeartbeats 4000000 in
set_option maxRecDepth 100000 in
theorem t_X10_differentPositions_0 {p : Program} {l : Launch} {e : Env} {s : State} {m : MethodId} {args : Array Value} {below : List Frame} {meth : Method} {c : Code} {D : wD} {cy : Nat → ClassId} {X : va_W} {A : Nat → Prop} {S0 : wS} {post : Int32 → wS → Prop} (F : CallFix p m c cX10_differentPositions 5 s args wz_X10_differentPositions RX10) (hr : meth.sig.returnType = (some .int)) (hlocks : meth.locks = false) (hK : wK D cy A s) : ∀ {S : wS} {H : Heap} {locs : List Loc} {ls : Array Slot} {a0 : Nat}, wp_X10_differentPositions_0 D post S a0 → wO D cy X A s.heap S H locs → wX D S0 S → lv_has ls 5 [(0, .ref a0)] → wM D S a0 → sK S a0 = 15 → W p l e r_X10_differentPositions s m args below meth c H locs 0 0 (MQ below (va_Qi (fun r S9 => wX D S0 S9 ∧ post r S9) (wB D cy X A) A) args s 0 0 A) (F0 m 0 ls []) := by
  obtain ⟨hx, hb, hml, hown, hts⟩ := id F
  have hwg : ∀ w ∈ WG, w.before args s = true := fun w h => hts w (List.mem_cons_of_mem _ h)
  intro S H locs ls a0 hp hW hE hl hL_a0 hK_a0
  unfold wp_X10_differentPositions_0 at hp
  refine lv_iconst (v := 0) hx hb dX10_differentPositions_0 (by decide) ?_
  refine lv_istore_n (lv' := [(1, .int (0 : Int32)), (0, .ref a0)]) hx hb dX10_differentPositions_1 rfl hl (by decide) rfl (fun ls hl => ?_)
  refine lv_iconst (v := 0) hx hb dX10_differentPositions_2 (by decide) ?_
  refine lv_istore_n (lv' := [(2, .int (0 : Int32)), (1, .int (0 : Int32)), (0, .ref a0)]) hx hb dX10_differentPositions_3 rfl hl (by decide) rfl (fun ls hl => ?_)
  obtain ⟨n_1, hp⟩ := hp
  exact t_X10_differentPositions_4 F hr hlocks hK n_1 hp hW hE (lv_sub hl [2, 1, 0] rfl) hL_a0 hK_a0
set_option maxHeartbeats 4000000 in
set_option maxRecDepth 100000 in
theorem c_X10_differentPositions (l : Launch) {D : wD} {cy : Nat → ClassId} {X : va_W} {S0 : wS} {post : Int32 → wS → Prop} {a0 : Nat} (hL_a0 : wM D S0 a0) (hK_a0 : sK S0 a0 = 15) (hp : wp_X10_differentPositions D post S0 a0) : mI D cy X l yX10_differentPositions wz_X10_differentPositions r_X10_differentPositions [.ref a0] S0 (fun r S9 => wX D S0 S9 ∧ post r S9) := by
  intro sz
  refine Met.ofW (cc := cX10_differentPositions) (maxL := 5) (ret := (some .int)) (by decide) rfl ?_
  intro p e s m args below meth c s₁ B hml hv
  obtain ⟨rfl, hsz, hP, hK, hD0, hRO⟩ := hv
  have hts := atoms_spec (ws := wz_X10_differentPositions) B.pre
  have hown : s.vm.findClass RX10 = some m.cls := findClass_of_methodNamed B.named
  subst hsz
  have hD := hD0.self (sz := s.heap.size)
  have F : CallFix p m c cX10_differentPositions 5 s _ wz_X10_differentPositions RX10 := ⟨B.exec, B.bytes, hml, hown, hts⟩
  have hr := B.returns
  have hlocks := B.notSynchronized
  generalize hAe : va_A (wL cy X S0) s.heap.size = A at hD hK ⊢
  have hA : ∀ q, s.heap.size ≤ q → A q := fun q h => by rw [← hAe]; exact Or.inr h
  have hW : wO D cy X A s.heap S0 s.heap [] := ⟨hP, hD, va_S.rf, hA, hRO⟩
  have hl := lv_entry ([.ref a0]) (n := 5) (Nat.le_of_ble_eq_true rfl)
  rw [lg_entry_eq]
  generalize (lg_sl ([.ref a0]) ++ List.replicate (5 - (lg_sl ([.ref a0])).length) Slot.unset).toArray = ls at hl ⊢
  have hl : lv_has ls 5 [(0, .ref a0)] := hl
  unfold wp_X10_differentPositions at hp
  exact t_X10_differentPositions_0 F hr hlocks hK hp hW wX.rf (lv_sub hl [0] rfl) hL_a0 hK_a0
def wp_X10_hasLike_33 (D : wD) (post : Int32 → wS → Prop) (k_2 : wS → Nat → Nat → Int32 → Prop) (S : wS) (a0 : Nat) (a1 : Nat) (x2 : Int32) : Prop :=
∀ x_1 : Int32, x_1 = x2 + 1 →
k_2 S a0 a1 x_1
def wp_X10_hasLike_2 (D : wD) (post : Int32 → wS → Prop)  : Nat → wS → Nat → Nat → Int32 → Prop
  | 0, _, _, _, _ => False
  | n + 1, S, a0, a1, x2 =>
    ∃ y_1 : Nat, sR S a0 0 = some y_1 ∧ wM D S y_1 ∧ sK S y_1 = 4 ∧
    wp_Jx4a65c_size_8abf5 D (fun r_2 S_3 => 
    ((r_2 ≤ x2 → narrow .boolean (.int (0 : Int32)) = .int (0 : Int32) ∧ post (0 : Int32) S_3) ∧
     (¬ r_2 ≤ x2 → wp_X10_gameAt D (fun r_5 S_6 => 
    ((r_5 = none → wp_X10_hasLike_33 D post (wp_X10_hasLike_2 D post n) S_6 a0 a1 x2) ∧
     (∀ y_7 : Nat, r_5 = some y_7 → wM D S_6 y_7 ∧ sK S_6 y_7 = 8 ∧ wp_X3_isLike D (fun r_9 S_10 => 
    ((r_9 = 0 → wp_X10_hasLike_33 D post (wp_X10_hasLike_2 D post n) S_10 a0 a1 x2) ∧
     (¬ r_9 = 0 → narrow .boolean (.int (1 : Int32)) = .int (1 : Int32) ∧ post (1 : Int32) S_10))) S_6 y_7 a1))) S_3 a0 x2))) S y_1
def wp_X10_hasLike_0 (D : wD) (post : Int32 → wS → Prop)  (S : wS) (a0 : Nat) (a1 : Nat) : Prop :=
∃ n_1 : Nat, wp_X10_hasLike_2 D post n_1 S a0 a1 (0 : Int32)
abbrev r_X10_hasLike : Room := { frames := 4, cells := 0, slots := 0, locals := 85 }
def wp_X10_hasLike (D : wD) (post : Int32 → wS → Prop) (S : wS) (a0 : Nat) (a1 : Nat) : Prop := wp_X10_hasLike_0 D post S a0 a1
set_option maxHeartbeats 4000000 in
set_option maxRecDepth 100000 in
theorem t_X10_hasLike_33 {p : Program} {l : Launch} {e : Env} {s : State} {m : MethodId} {args : Array Value} {below : List Frame} {meth : Method} {c : Code} {D : wD} {cy : Nat → ClassId} {X : va_W} {A : Nat → Prop} {S0 : wS} {post : Int32 → wS → Prop} (F : CallFix p m c cX10_hasLike 4 s args wz_X10_hasLike RX10) (hr : meth.sig.returnType = (some .boolean)) (hlocks : meth.locks = false) (hK : wK D cy A s) {k_2 : wS → Nat → Nat → Int32 → Prop} (q_2 : ∀ {S : wS} {H : Heap} {locs : List Loc} {ls : Array Slot} {a0 : Nat} {a1 : Nat} {x2 : Int32}, k_2 S a0 a1 x2 → wO D cy X A s.heap S H locs → wX D S0 S → lv_has ls 4 [(0, .ref a0), (1, .ref a1), (2, .int x2)] → wM D S a0 → sK S a0 = 15 → wM D S a1 → sK S a1 = 8 → W p l e r_X10_hasLike s m args below meth c H locs 0 0 (MQ below (va_Qi (fun r S9 => wX D S0 S9 ∧ post r S9) (wB D cy X A) A) args s 0 0 A) (F0 m 2 ls [])) : ∀ {S : wS} {H : Heap} {locs : List Loc} {ls : Array Slot} {a0 : Nat} {a1 : Nat} {x2 : Int32}, wp_X10_hasLike_33 D post k_2 S a0 a1 x2 → wO D cy X A s.heap S H locs → wX D S0 S → lv_has ls 4 [(0, .ref a0), (1, .ref a1), (2, .int x2)] → wM D S a0 → sK S a0 = 15 → wM D S a1 → sK S a1 = 8 → W p l e r_X10_hasLike s m args below meth c H locs 0 0 (MQ below (va_Qi (fun r S9 => wX D S0 S9 ∧ post r S9) (wB D cy X A) A) args s 0 0 A) (F0 m 33 ls []) := by
  obtain ⟨hx, hb, hml, hown, hts⟩ := id F
  have hwg : ∀ w ∈ WG, w.before args s = true := fun w h => hts w (List.mem_cons_of_mem _ h)
  intro S H locs ls a0 a1 x2 hp hW hE hl hL_a0 hK_a0 hL_a1 hK_a1
  unfold wp_X10_hasLike_33 at hp
  obtain ⟨x_1, ex_1⟩ : ∃ z : Int32, z = x2 + 1 := ⟨_, rfl⟩
  replace hp := hp x_1 ex_1
  refine lv_iinc (v := x_1) (lv' := [(2, .int x_1), (0, .ref a0), (1, .ref a1)]) hx hb dX10_hasLike_33 hl (k := 2) rfl (by rw [ex_1]; rfl) (by decide) rfl (fun ls hl => ?_)
  refine lv_goto (tgt := 2) hx hb dX10_hasLike_36 (by decide) ?_
  exact q_2 hp hW hE (lv_sub hl [1, 2, 0] rfl) hL_a0 hK_a0 hL_a1 hK_a1
set_option maxHeartbeats 4000000 in
set_option maxRecDepth 100000 in
theorem t_X10_hasLike_2 {p : Program} {l : Launch} {e : Env} {s : State} {m : MethodId} {args : Array Value} {below : List Frame} {meth : Method} {c : Code} {D : wD} {cy : Nat → ClassId} {X : va_W} {A : Nat → Prop} {S0 : wS} {post : Int32 → wS → Prop} (F : CallFix p m c cX10_hasLike 4 s args wz_X10_hasLike RX10) (hr : meth.sig.returnType = (some .boolean)) (hlocks : meth.locks = false) (hK : wK D cy A s) : ∀ (n : Nat) {S : wS} {H : Heap} {locs : List Loc} {ls : Array Slot} {a0 : Nat} {a1 : Nat} {x2 : Int32}, wp_X10_hasLike_2 D post n S a0 a1 x2 → wO D cy X A s.heap S H locs → wX D S0 S → lv_has ls 4 [(0, .ref a0), (1, .ref a1), (2, .int x2)] → wM D S a0 → sK S a0 = 15 → wM D S a1 → sK S a1 = 8 → W p l e r_X10_hasLike s m args below meth c H locs 0 0 (MQ below (va_Qi (fun r S9 => wX D S0 S9 ∧ post r S9) (wB D cy X A) A) args s 0 0 A) (F0 m 2 ls []) := by
  obtain ⟨hx, hb, hml, hown, hts⟩ := id F
  have hwg : ∀ w ∈ WG, w.before args s = true := fun w h => hts w (List.mem_cons_of_mem _ h)
  have i_15 : ∀ w ∈ u_ws RX10 TX10 1, w ∈ wz_X10_hasLike := fun w h => List.mem_cons_of_mem _ (wu_15 w h)
  have k_12 := hwg _ wf_RX10_12
  intro n
  induction n with
  | zero =>
    intro S H locs ls a0 a1 x2 hp
    exact hp.elim
  | succ n ih =>
    intro S H locs ls a0 a1 x2 hp hW hE hl hL_a0 hK_a0 hL_a1 hK_a1
    unfold wp_X10_hasLike_2 at hp
    refine lv_iload_n hx hb dX10_hasLike_2 rfl (lv_at hl 2 rfl) ?_
    refine lv_aload_n hx hb dX10_hasLike_3 rfl (lv_at hl 0 rfl) ?_
    obtain ⟨y_1, ey_1, hL_y_1, hK_y_1, hp⟩ := hp
    refine w_get (k := 15) (f := 0) (T := TX10) (v := .ref y_1) F hK hW hL_a0 hK_a0 (by decide) rfl rfl (by decide) i_15 k_12 (by rw [show wv 15 0 S a0 = va_rf (sR S a0 0) from rfl, ey_1]; rfl) dX10_hasLike_4 ?_
    refine w_callI (va_runV (As := []) (rest := [.int x2]) F (c_Jx4a65c_size_8abf5 l hL_y_1 hK_y_1 hp H.size) (cwV (C := RJx4a65c) 0 hts (wg_V wm_RX10_18 wy_Jx4a65c_size_8abf5) rfl rfl rfl (by decide +kernel) ⟨Nat.le_of_ble_eq_true rfl, Nat.le_of_ble_eq_true rfl⟩) (w_preV hK hW hL_y_1 hK_y_1 (by decide) rfl) rfl rfl hl.1 rfl (lv_room (Nat.le_of_ble_eq_true rfl)) dX10_hasLike_7 ⟨Nat.le_of_ble_eq_true rfl, Nat.le_of_ble_eq_true rfl⟩) hW (fun r_2 S_3 H locs hp hW => ?_)
    obtain ⟨hX_S_3, hp⟩ := hp
    refine W.widen (k := 0) (n := 0) (by decide) (by decide) ?_
    have hE := hE.trans hX_S_3
    have hK_a0 : sK S_3 a0 = 15 := (hX_S_3.2 a0 hL_a0).1.trans hK_a0
    have hL_a0 : wM D S_3 a0 := hX_S_3.M hL_a0
    have hK_a1 : sK S_3 a1 = 8 := (hX_S_3.2 a1 hL_a1).1.trans hK_a1
    have hL_a1 : wM D S_3 a1 := hX_S_3.M hL_a1
    refine lv_icmp_ge (tgt := 39) hx hb dX10_hasLike_10 (by decide) (fun c_4 => ?_) (fun c_4 => ?_)
    · replace hp := hp.1 c_4
      refine lv_iconst (v := 0) hx hb dX10_hasLike_39 (by decide) ?_
      exact w_zret hx hb hr hlocks hW hp.1 ⟨hE, hp.2⟩ dX10_hasLike_40
    · replace hp := hp.2 c_4
      refine lv_aload_n hx hb dX10_hasLike_13 rfl (lv_at hl 0 rfl) ?_
      refine lv_iload_n hx hb dX10_hasLike_14 rfl (lv_at hl 2 rfl) ?_
      refine w_callR (va_runV (As := [.int x2]) (rest := []) F (c_X10_gameAt l hL_a0 hK_a0 hp H.size) (cwV (C := RX10) 1 hts (wg_V wm_RX10_51 wy_X10_gameAt) rfl rfl rfl (by decide +kernel) ⟨Nat.le_of_ble_eq_true rfl, Nat.le_of_ble_eq_true rfl⟩) (w_preV hK hW hL_a0 hK_a0 (by decide) rfl) rfl rfl hl.1 rfl (lv_room (Nat.le_of_ble_eq_true rfl)) dX10_hasLike_15 ⟨Nat.le_of_ble_eq_true rfl, Nat.le_of_ble_eq_true rfl⟩) hW (fun r_5 S_6 H locs hp hW => ?_)
      obtain ⟨hX_S_6, hp⟩ := hp
      refine W.widen (k := 0) (n := 0) (by decide) (by decide) ?_
      have hE := hE.trans hX_S_6
      have hK_a0 : sK S_6 a0 = 15 := (hX_S_6.2 a0 hL_a0).1.trans hK_a0
      have hL_a0 : wM D S_6 a0 := hX_S_6.M hL_a0
      have hK_a1 : sK S_6 a1 = 8 := (hX_S_6.2 a1 hL_a1).1.trans hK_a1
      have hL_a1 : wM D S_6 a1 := hX_S_6.M hL_a1
      refine w_astore_n (lv' := [(3, va_rf r_5), (0, .ref a0), (1, .ref a1), (2, .int x2)]) hx hb dX10_hasLike_18 rfl hl (by decide) rfl (fun ls hl => ?_)
      refine w_aload_n hx hb dX10_hasLike_19 rfl (lv_at hl 0 rfl) ?_
      refine w_ifnull (tgt := 33) hx hb dX10_hasLike_20 (by decide) (fun h_8 => ?_) (fun y_7 h_8 => ?_)
      · replace hp := hp.1 h_8
        subst h_8
        exact t_X10_hasLike_33 F hr hlocks hK ih hp hW hE (lv_sub hl [1, 2, 3] rfl) hL_a0 hK_a0 hL_a1 hK_a1
      · obtain ⟨hL_y_7, hK_y_7, hp⟩ := hp.2 y_7 h_8
        subst h_8
        refine lv_aload_n hx hb dX10_hasLike_23 rfl (lv_at hl 0 rfl) ?_
        refine lv_aload_n hx hb dX10_hasLike_24 rfl (lv_at hl 2 rfl) ?_
        refine w_callI (va_runV (As := [.ref a1]) (rest := []) F (c_X3_isLike l hL_y_7 hK_y_7 hL_a1 hK_a1 hp H.size) (cwV (C := RX3) 1 hts (wg_V wm_RX10_55 wy_X3_isLike) rfl rfl rfl (by decide +kernel) ⟨Nat.le_of_ble_eq_true rfl, Nat.le_of_ble_eq_true rfl⟩) (w_preV hK hW hL_y_7 hK_y_7 (by decide) rfl) rfl rfl hl.1 rfl (lv_room (Nat.le_of_ble_eq_true rfl)) dX10_hasLike_25 ⟨Nat.le_of_ble_eq_true rfl, Nat.le_of_ble_eq_true rfl⟩) hW (fun r_9 S_10 H locs hp hW => ?_)
        obtain ⟨hX_S_10, hp⟩ := hp
        refine W.widen (k := 0) (n := 0) (by decide) (by decide) ?_
        have hE := hE.trans hX_S_10
        have hK_a0 : sK S_10 a0 = 15 := (hX_S_10.2 a0 hL_a0).1.trans hK_a0
        have hL_a0 : wM D S_10 a0 := hX_S_10.M hL_a0
        have hK_a1 : sK S_10 a1 = 8 := (hX_S_10.2 a1 hL_a1).1.trans hK_a1
        have hL_a1 : wM D S_10 a1 := hX_S_10.M hL_a1
        have hK_y_7 : sK S_10 y_7 = 8 := (hX_S_10.2 y_7 hL_y_7).1.trans hK_y_7
        have hL_y_7 : wM D S_10 y_7 := hX_S_10.M hL_y_7
        refine lv_if_eq (tgt := 33) hx hb dX10_hasLike_28 (by decide) (fun c_11 => ?_) (fun c_11 => ?_)
        · replace hp := hp.1 c_11
          exact t_X10_hasLike_33 F hr hlocks hK ih hp hW hE (lv_sub hl [1, 2, 3] rfl) hL_a0 hK_a0 hL_a1 hK_a1
        · replace hp := hp.2 c_11
          refine lv_iconst (v := 1) hx hb dX10_hasLike_31 (by decide) ?_
          exact w_zret hx hb hr hlocks hW hp.1 ⟨hE, hp.2⟩ dX10_hasLike_32
set_option maxHeartbeats 4000000 in
set_option maxRecDepth 100000 in
theorem t_X10_hasLike_0 {p : Program} {l : Launch} {e : Env} {s : State} {m : MethodId} {args : Array Value} {below : List Frame} {meth : Method} {c : Code} {D : wD} {cy : Nat → ClassId} {X : va_W} {A : Nat → Prop} {S0 : wS} {post : Int32 → wS → Prop} (F : CallFix p m c cX10_hasLike 4 s args wz_X10_hasLike RX10) (hr : meth.sig.returnType = (some .boolean)) (hlocks : meth.locks = false) (hK : wK D cy A s) : ∀ {S : wS} {H : Heap} {locs : List Loc} {ls : Array Slot} {a0 : Nat} {a1 : Nat}, wp_X10_hasLike_0 D post S a0 a1 → wO D cy X A s.heap S H locs → wX D S0 S → lv_has ls 4 [(0, .ref a0), (1, .ref a1)] → wM D S a0 → sK S a0 = 15 → wM D S a1 → sK S a1 = 8 → W p l e r_X10_hasLike s m args below meth c H locs 0 0 (MQ below (va_Qi (fun r S9 => wX D S0 S9 ∧ post r S9) (wB D cy X A) A) args s 0 0 A) (F0 m 0 ls []) := by
  obtain ⟨hx, hb, hml, hown, hts⟩ := id F
  have hwg : ∀ w ∈ WG, w.before args s = true := fun w h => hts w (List.mem_cons_of_mem _ h)
  intro S H locs ls a0 a1 hp hW hE hl hL_a0 hK_a0 hL_a1 hK_a1
  unfold wp_X10_hasLike_0 at hp
  refine lv_iconst (v := 0) hx hb dX10_hasLike_0 (by decide) ?_
  refine lv_istore_n (lv' := [(2, .int (0 : Int32)), (0, .ref a0), (1, .ref a1)]) hx hb dX10_hasLike_1 rfl hl (by decide) rfl (fun ls hl => ?_)
  obtain ⟨n_1, hp⟩ := hp
  exact t_X10_hasLike_2 F hr hlocks hK n_1 hp hW hE (lv_sub hl [1, 2, 0] rfl) hL_a0 hK_a0 hL_a1 hK_a1
set_option maxHeartbeats 4000000 in
set_option maxRecDepth 100000 in
theorem c_X10_hasLike (l : Launch) {D : wD} {cy : Nat → ClassId} {X : va_W} {S0 : wS} {post : Int32 → wS → Prop} {a0 : Nat} {a1 : Nat} (hL_a0 : wM D S0 a0) (hK_a0 : sK S0 a0 = 15) (hL_a1 : wM D S0 a1) (hK_a1 : sK S0 a1 = 8) (hp : wp_X10_hasLike D post S0 a0 a1) : mI D cy X l yX10_hasLike wz_X10_hasLike r_X10_hasLike [.ref a0, .ref a1] S0 (fun r S9 => wX D S0 S9 ∧ post r S9) := by
  intro sz
  refine Met.ofW (cc := cX10_hasLike) (maxL := 4) (ret := (some .boolean)) (by decide) rfl ?_
  intro p e s m args below meth c s₁ B hml hv
  obtain ⟨rfl, hsz, hP, hK, hD0, hRO⟩ := hv
  have hts := atoms_spec (ws := wz_X10_hasLike) B.pre
  have hown : s.vm.findClass RX10 = some m.cls := findClass_of_methodNamed B.named
  subst hsz
  have hD := hD0.self (sz := s.heap.size)
  have F : CallFix p m c cX10_hasLike 4 s _ wz_X10_hasLike RX10 := ⟨B.exec, B.bytes, hml, hown, hts⟩
  have hr := B.returns
  have hlocks := B.notSynchronized
  generalize hAe : va_A (wL cy X S0) s.heap.size = A at hD hK ⊢
  have hA : ∀ q, s.heap.size ≤ q → A q := fun q h => by rw [← hAe]; exact Or.inr h
  have hW : wO D cy X A s.heap S0 s.heap [] := ⟨hP, hD, va_S.rf, hA, hRO⟩
  have hl := lv_entry ([.ref a0, .ref a1]) (n := 4) (Nat.le_of_ble_eq_true rfl)
  rw [lg_entry_eq]
  generalize (lg_sl ([.ref a0, .ref a1]) ++ List.replicate (4 - (lg_sl ([.ref a0, .ref a1])).length) Slot.unset).toArray = ls at hl ⊢
  have hl : lv_has ls 4 [(0, .ref a0), (1, .ref a1)] := hl
  unfold wp_X10_hasLike at hp
  exact t_X10_hasLike_0 F hr hlocks hK hp hW wX.rf (lv_sub hl [0, 1] rfl) hL_a0 hK_a0 hL_a1 hK_a1
def wp_X10_init_0 (D : wD) (post : wS → Prop)  (S : wS) (a0 : Nat) : Prop :=
∀ y_1 : Nat, ¬ wM D S y_1 → ∀ S_2 : wS, S_2 = nA S y_1 4 0 →
wp_Jx4a65c_init_da8c8 D (fun S_4 => 
∀ S_5 : wS, S_5 = uR S_4 a0 0 (some y_1) →
post S_5) S_2 y_1
abbrev r_X10_init : Room := { frames := 4, cells := 1, slots := 3, locals := 120 }
def wp_X10_init (D : wD) (post : wS → Prop) (S : wS) (a0 : Nat) : Prop := wp_X10_init_0 D post S a0
set_option maxHeartbeats 4000000 in
set_option maxRecDepth 100000 in
theorem t_X10_init_0 {p : Program} {l : Launch} {e : Env} {s : State} {m : MethodId} {args : Array Value} {below : List Frame} {meth : Method} {c : Code} {D : wD} {cy : Nat → ClassId} {X : va_W} {A : Nat → Prop} {S0 : wS} {post : wS → Prop} (F : CallFix p m c cX10_init 1 s args wz_X10_init RX10) (hr : meth.sig.returnType = none) (hlocks : meth.locks = false) (hK : wK D cy A s) (hin : meth.name = "<init>") : ∀ {S : wS} {H : Heap} {locs : List Loc} {ls : Array Slot} {a0 : Nat}, wp_X10_init_0 D post S a0 → wO D cy X A s.heap S H locs → wX D S0 S → lv_has ls 1 [(0, .ref a0)] → wM D S a0 → sK S a0 = 15 → W p l e r_X10_init s m args below meth c H locs 0 0 (MQ below (va_Qv (fun S9 => wX D S0 S9 ∧ post S9) (wB D cy X A) A) args s 1 3 A) (F0 m 0 ls []) := by
  obtain ⟨hx, hb, hml, hown, hts⟩ := id F
  have hwg : ∀ w ∈ WG, w.before args s = true := fun w h => hts w (List.mem_cons_of_mem _ h)
  have i_15 : ∀ w ∈ u_ws RX10 TX10 1, w ∈ wz_X10_init := fun w h => List.mem_cons_of_mem _ (wu_15 w h)
  have k_12 := hwg _ wf_RX10_12
  intro S H locs ls a0 hp hW hE hl hL_a0 hK_a0
  unfold wp_X10_init_0 at hp
  refine lv_aload_n hx hb dX10_init_0 rfl (lv_at hl 0 rfl) ?_
  refine W.objInit hx hb hown (hwg _ wm_RX10_3) (hwg _ wobj.1) (hwg _ wobj.2) rfl (by rw [hml]; exact hl.1) rfl dX10_init_1 (Nat.le_of_ble_eq_true rfl) (Nat.le_of_ble_eq_true rfl) ?_
  refine W.eq (g2 := F0 m 4 ls []) rfl ?_
  refine lv_aload_n hx hb dX10_init_4 rfl (lv_at hl 0 rfl) ?_
  refine w_new (k := 4) (T := TJx4a65c) F hK hW rfl (by decide) (fun w h => List.mem_cons_of_mem _ (wu_4 w h)) tyJx4a65c tyJx4a65c_ok (hwg _ wc_RX10_9) (hwg _ wn_4) (hwg _ wi_java_util_ArrayList) wdef_4 (Nat.le_of_ble_eq_true rfl) (Nat.le_of_ble_eq_true rfl) dX10_init_5 (fun y_1 H hq_y_1 hW => ?_)
  refine W.widen (k := 1) (n := 3) (by decide) (by decide) ?_
  obtain ⟨S_2, eS_2⟩ : ∃ z : wS, z = nA S y_1 4 0 := ⟨_, rfl⟩
  rw [← eS_2] at hW
  replace hp := hp y_1 hq_y_1 S_2 eS_2
  have hX_S_2 : wX D S S_2 := by rw [eS_2]; exact wX_nA hq_y_1
  have hE := hE.trans hX_S_2
  have hK_a0 : sK S_2 a0 = 15 := (hX_S_2.2 a0 hL_a0).1.trans hK_a0
  have hL_a0 : wM D S_2 a0 := hX_S_2.M hL_a0
  have hL_y_1 : wM D S_2 y_1 := by rw [eS_2]; exact Or.inl (List.mem_append_right _ List.mem_cons_self)
  have hK_y_1 : sK S_2 y_1 = 4 := by rw [eS_2]; exact va_up_self _ _ _
  refine lv_dup hx hb dX10_init_8 rfl ?_
  refine w_callV (va_runI (As := []) (rest := [.ref y_1, .ref a0]) F (c_Jx4a65c_init_da8c8 l hL_y_1 hK_y_1 hp H.size) (cwI 0 hts (wg_cons wy_Jx4a65c_init_da8c8.2.2) rfl rfl rfl (hwg _ wy_Jx4a65c_init_da8c8.2.1) (hwg _ wm_RX10_11) (hwg _ wy_Jx4a65c_init_da8c8.1) rfl (by decide +kernel) ⟨Nat.le_of_ble_eq_true rfl, Nat.le_of_ble_eq_true rfl⟩) (w_preS hK hW) rfl rfl hl.1 rfl (lv_room (Nat.le_of_ble_eq_true rfl)) dX10_init_9 ⟨Nat.le_of_ble_eq_true rfl, Nat.le_of_ble_eq_true rfl⟩) hW (fun S_4 H locs hp hW => ?_)
  obtain ⟨hX_S_4, hp⟩ := hp
  refine W.widen (k := 1) (n := 3) (by decide) (by decide) ?_
  have hE := hE.trans hX_S_4
  have hK_a0 : sK S_4 a0 = 15 := (hX_S_4.2 a0 hL_a0).1.trans hK_a0
  have hL_a0 : wM D S_4 a0 := hX_S_4.M hL_a0
  have hK_y_1 : sK S_4 y_1 = 4 := (hX_S_4.2 y_1 hL_y_1).1.trans hK_y_1
  have hL_y_1 : wM D S_4 y_1 := hX_S_4.M hL_y_1
  refine w_putRF (k := 15) (f := 0) (T := TX10) (g := (some y_1)) F hK hW hL_a0 hK_a0 (by decide) (by decide) rfl rfl (by decide) i_15 tyX10 tyX10_ok nmX10 k_12 rfl rfl hin rfl (ty := (.object "java/util/ArrayList")) rfl (v_narrow _ _) (v_fitsO _ _) dX10_init_12 (fun H locs hW => ?_)
  obtain ⟨S_5, eS_5⟩ : ∃ z : wS, z = uR S_4 a0 0 (some y_1) := ⟨_, rfl⟩
  rw [← eS_5] at hW
  replace hp := hp S_5 eS_5
  have hX_S_5 : wX D S_4 S_5 := by rw [eS_5]; exact wX_uR
  have hE := hE.trans hX_S_5
  have hK_a0 : sK S_5 a0 = 15 := (hX_S_5.2 a0 hL_a0).1.trans hK_a0
  have hL_a0 : wM D S_5 a0 := hX_S_5.M hL_a0
  exact w_vret hx hb hr hlocks hW ⟨hE, hp⟩ dX10_init_15
set_option maxHeartbeats 4000000 in
set_option maxRecDepth 100000 in
theorem c_X10_init (l : Launch) {D : wD} {cy : Nat → ClassId} {X : va_W} {S0 : wS} {post : wS → Prop} {a0 : Nat} (hL_a0 : wM D S0 a0) (hK_a0 : sK S0 a0 = 15) (hp : wp_X10_init D post S0 a0) : mV D cy X l yX10_init wz_X10_init r_X10_init [.ref a0] S0 (fun S9 => wX D S0 S9 ∧ post S9) := by
  intro sz
  refine Met.ofW (cc := cX10_init) (maxL := 1) (ret := none) (by decide) rfl ?_
  intro p e s m args below meth c s₁ B hml hv
  obtain ⟨rfl, hsz, hP, hK, hD0, hRO⟩ := hv
  have hts := atoms_spec (ws := wz_X10_init) B.pre
  have hown : s.vm.findClass RX10 = some m.cls := findClass_of_methodNamed B.named
  subst hsz
  have hD := hD0.self (sz := s.heap.size)
  have F : CallFix p m c cX10_init 1 s _ wz_X10_init RX10 := ⟨B.exec, B.bytes, hml, hown, hts⟩
  have hr := B.returns
  have hlocks := B.notSynchronized
  have hin : meth.name = "<init>" := (name_of_methodNamed B.named B.method).1
  generalize hAe : va_A (wL cy X S0) s.heap.size = A at hD hK ⊢
  have hA : ∀ q, s.heap.size ≤ q → A q := fun q h => by rw [← hAe]; exact Or.inr h
  have hW : wO D cy X A s.heap S0 s.heap [] := ⟨hP, hD, va_S.rf, hA, hRO⟩
  have hl := lv_entry ([.ref a0]) (n := 1) (Nat.le_of_ble_eq_true rfl)
  rw [lg_entry_eq]
  generalize (lg_sl ([.ref a0]) ++ List.replicate (1 - (lg_sl ([.ref a0])).length) Slot.unset).toArray = ls at hl ⊢
  have hl : lv_has ls 1 [(0, .ref a0)] := hl
  unfold wp_X10_init at hp
  exact t_X10_init_0 F hr hlocks hK hin hp hW wX.rf (lv_sub hl [0] rfl) hL_a0 hK_a0
def wp_X10_movesOfAll_34 (D : wD) (post : Int32 → wS → Prop) (k_4 : wS → Nat → Int32 → Int32 → Prop) (S : wS) (a0 : Nat) (x2 : Int32) (t0 : Int32) (t1 : Int32) : Prop :=
∀ x_1 : Int32, x_1 = (t0 + t1) →
∀ x_2 : Int32, x_2 = x2 + 1 →
k_4 S a0 x_1 x_2
def wp_X10_movesOfAll_4 (D : wD) (post : Int32 → wS → Prop)  : Nat → wS → Nat → Int32 → Int32 → Prop
  | 0, _, _, _, _ => False
  | n + 1, S, a0, x1, x2 =>
    ∃ y_1 : Nat, sR S a0 0 = some y_1 ∧ wM D S y_1 ∧ sK S y_1 = 4 ∧
    wp_Jx4a65c_size_8abf5 D (fun r_2 S_3 => 
    ((r_2 ≤ x2 → post x1 S_3) ∧
     (¬ r_2 ≤ x2 → wp_X10_gameAt D (fun r_5 S_6 => 
    ((r_5 = none → wp_X10_movesOfAll_34 D post (wp_X10_movesOfAll_4 D post n) S_6 a0 x2 x1 (0 : Int32)) ∧
     (∀ y_7 : Nat, r_5 = some y_7 → wM D S_6 y_7 ∧ sK S_6 y_7 = 8 ∧ wp_X10_movesOfAll_34 D post (wp_X10_movesOfAll_4 D post n) S_6 a0 x2 x1 (sI S_6 y_7 3)))) S_3 a0 x2))) S y_1
def wp_X10_movesOfAll_0 (D : wD) (post : Int32 → wS → Prop)  (S : wS) (a0 : Nat) : Prop :=
∃ n_1 : Nat, wp_X10_movesOfAll_4 D post n_1 S a0 (0 : Int32) (0 : Int32)
abbrev r_X10_movesOfAll : Room := { frames := 4, cells := 0, slots := 0, locals := 85 }
def wp_X10_movesOfAll (D : wD) (post : Int32 → wS → Prop) (S : wS) (a0 : Nat) : Prop := wp_X10_movesOfAll_0 D post S a0
set_option maxHeartbeats 4000000 in
set_option maxRecDepth 100000 in
theorem t_X10_movesOfAll_34 {p : Program} {l : Launch} {e : Env} {s : State} {m : MethodId} {args : Array Value} {below : List Frame} {meth : Method} {c : Code} {D : wD} {cy : Nat → ClassId} {X : va_W} {A : Nat → Prop} {S0 : wS} {post : Int32 → wS → Prop} (F : CallFix p m c cX10_movesOfAll 4 s args wz_X10_movesOfAll RX10) (hr : meth.sig.returnType = (some .int)) (hlocks : meth.locks = false) (hK : wK D cy A s) {k_4 : wS → Nat → Int32 → Int32 → Prop} (q_4 : ∀ {S : wS} {H : Heap} {locs : List Loc} {ls : Array Slot} {a0 : Nat} {x1 : Int32} {x2 : Int32}, k_4 S a0 x1 x2 → wO D cy X A s.heap S H locs → wX D S0 S → lv_has ls 4 [(0, .ref a0), (1, .int x1), (2, .int x2)] → wM D S a0 → sK S a0 = 15 → W p l e r_X10_movesOfAll s m args below meth c H locs 0 0 (MQ below (va_Qi (fun r S9 => wX D S0 S9 ∧ post r S9) (wB D cy X A) A) args s 0 0 A) (F0 m 4 ls [])) : ∀ {S : wS} {H : Heap} {locs : List Loc} {ls : Array Slot} {a0 : Nat} {x2 : Int32} {t0 : Int32} {t1 : Int32}, wp_X10_movesOfAll_34 D post k_4 S a0 x2 t0 t1 → wO D cy X A s.heap S H locs → wX D S0 S → lv_has ls 4 [(0, .ref a0), (2, .int x2)] → wM D S a0 → sK S a0 = 15 → W p l e r_X10_movesOfAll s m args below meth c H locs 0 0 (MQ below (va_Qi (fun r S9 => wX D S0 S9 ∧ post r S9) (wB D cy X A) A) args s 0 0 A) (F0 m 34 ls [.int t1, .int t0]) := by
  obtain ⟨hx, hb, hml, hown, hts⟩ := id F
  have hwg : ∀ w ∈ WG, w.before args s = true := fun w h => hts w (List.mem_cons_of_mem _ h)
  intro S H locs ls a0 x2 t0 t1 hp hW hE hl hL_a0 hK_a0
  unfold wp_X10_movesOfAll_34 at hp
  refine lv_iadd hx hb dX10_movesOfAll_34 ?_
  refine lv_topi (fun x_1 ex_1 => ?_)
  replace hp := hp x_1 ex_1
  refine lv_istore_n (lv' := [(1, .int x_1), (0, .ref a0), (2, .int x2)]) hx hb dX10_movesOfAll_35 rfl hl (by decide) rfl (fun ls hl => ?_)
  obtain ⟨x_2, ex_2⟩ : ∃ z : Int32, z = x2 + 1 := ⟨_, rfl⟩
  replace hp := hp x_2 ex_2
  refine lv_iinc (v := x_2) (lv' := [(2, .int x_2), (1, .int x_1), (0, .ref a0)]) hx hb dX10_movesOfAll_36 hl (k := 2) rfl (by rw [ex_2]; rfl) (by decide) rfl (fun ls hl => ?_)
  refine lv_goto (tgt := 4) hx hb dX10_movesOfAll_39 (by decide) ?_
  exact q_4 hp hW hE (lv_sub hl [2, 1, 0] rfl) hL_a0 hK_a0
set_option maxHeartbeats 4000000 in
set_option maxRecDepth 100000 in
theorem t_X10_movesOfAll_4 {p : Program} {l : Launch} {e : Env} {s : State} {m : MethodId} {args : Array Value} {below : List Frame} {meth : Method} {c : Code} {D : wD} {cy : Nat → ClassId} {X : va_W} {A : Nat → Prop} {S0 : wS} {post : Int32 → wS → Prop} (F : CallFix p m c cX10_movesOfAll 4 s args wz_X10_movesOfAll RX10) (hr : meth.sig.returnType = (some .int)) (hlocks : meth.locks = false) (hK : wK D cy A s) : ∀ (n : Nat) {S : wS} {H : Heap} {locs : List Loc} {ls : Array Slot} {a0 : Nat} {x1 : Int32} {x2 : Int32}, wp_X10_movesOfAll_4 D post n S a0 x1 x2 → wO D cy X A s.heap S H locs → wX D S0 S → lv_has ls 4 [(0, .ref a0), (1, .int x1), (2, .int x2)] → wM D S a0 → sK S a0 = 15 → W p l e r_X10_movesOfAll s m args below meth c H locs 0 0 (MQ below (va_Qi (fun r S9 => wX D S0 S9 ∧ post r S9) (wB D cy X A) A) args s 0 0 A) (F0 m 4 ls []) := by
  obtain ⟨hx, hb, hml, hown, hts⟩ := id F
  have hwg : ∀ w ∈ WG, w.before args s = true := fun w h => hts w (List.mem_cons_of_mem _ h)
  have i_15 : ∀ w ∈ u_ws RX10 TX10 1, w ∈ wz_X10_movesOfAll := fun w h => List.mem_cons_of_mem _ (wu_15 w h)
  have i_8 : ∀ w ∈ u_ws RX3 TX3 9, w ∈ wz_X10_movesOfAll := fun w h => List.mem_cons_of_mem _ (wu_8 w h)
  have k_12 := hwg _ wf_RX10_12
  intro n
  induction n with
  | zero =>
    intro S H locs ls a0 x1 x2 hp
    exact hp.elim
  | succ n ih =>
    intro S H locs ls a0 x1 x2 hp hW hE hl hL_a0 hK_a0
    unfold wp_X10_movesOfAll_4 at hp
    refine lv_iload_n hx hb dX10_movesOfAll_4 rfl (lv_at hl 2 rfl) ?_
    refine lv_aload_n hx hb dX10_movesOfAll_5 rfl (lv_at hl 0 rfl) ?_
    obtain ⟨y_1, ey_1, hL_y_1, hK_y_1, hp⟩ := hp
    refine w_get (k := 15) (f := 0) (T := TX10) (v := .ref y_1) F hK hW hL_a0 hK_a0 (by decide) rfl rfl (by decide) i_15 k_12 (by rw [show wv 15 0 S a0 = va_rf (sR S a0 0) from rfl, ey_1]; rfl) dX10_movesOfAll_6 ?_
    refine w_callI (va_runV (As := []) (rest := [.int x2]) F (c_Jx4a65c_size_8abf5 l hL_y_1 hK_y_1 hp H.size) (cwV (C := RJx4a65c) 0 hts (wg_V wm_RX10_18 wy_Jx4a65c_size_8abf5) rfl rfl rfl (by decide +kernel) ⟨Nat.le_of_ble_eq_true rfl, Nat.le_of_ble_eq_true rfl⟩) (w_preV hK hW hL_y_1 hK_y_1 (by decide) rfl) rfl rfl hl.1 rfl (lv_room (Nat.le_of_ble_eq_true rfl)) dX10_movesOfAll_9 ⟨Nat.le_of_ble_eq_true rfl, Nat.le_of_ble_eq_true rfl⟩) hW (fun r_2 S_3 H locs hp hW => ?_)
    obtain ⟨hX_S_3, hp⟩ := hp
    refine W.widen (k := 0) (n := 0) (by decide) (by decide) ?_
    have hE := hE.trans hX_S_3
    have hK_a0 : sK S_3 a0 = 15 := (hX_S_3.2 a0 hL_a0).1.trans hK_a0
    have hL_a0 : wM D S_3 a0 := hX_S_3.M hL_a0
    refine lv_icmp_ge (tgt := 42) hx hb dX10_movesOfAll_12 (by decide) (fun c_4 => ?_) (fun c_4 => ?_)
    · replace hp := hp.1 c_4
      refine lv_iload_n hx hb dX10_movesOfAll_42 rfl (lv_at hl 1 rfl) ?_
      exact w_iret hx hb hr hlocks hW ⟨hE, hp⟩ dX10_movesOfAll_43
    · replace hp := hp.2 c_4
      refine lv_aload_n hx hb dX10_movesOfAll_15 rfl (lv_at hl 0 rfl) ?_
      refine lv_iload_n hx hb dX10_movesOfAll_16 rfl (lv_at hl 2 rfl) ?_
      refine w_callR (va_runV (As := [.int x2]) (rest := []) F (c_X10_gameAt l hL_a0 hK_a0 hp H.size) (cwV (C := RX10) 1 hts (wg_V wm_RX10_51 wy_X10_gameAt) rfl rfl rfl (by decide +kernel) ⟨Nat.le_of_ble_eq_true rfl, Nat.le_of_ble_eq_true rfl⟩) (w_preV hK hW hL_a0 hK_a0 (by decide) rfl) rfl rfl hl.1 rfl (lv_room (Nat.le_of_ble_eq_true rfl)) dX10_movesOfAll_17 ⟨Nat.le_of_ble_eq_true rfl, Nat.le_of_ble_eq_true rfl⟩) hW (fun r_5 S_6 H locs hp hW => ?_)
      obtain ⟨hX_S_6, hp⟩ := hp
      refine W.widen (k := 0) (n := 0) (by decide) (by decide) ?_
      have hE := hE.trans hX_S_6
      have hK_a0 : sK S_6 a0 = 15 := (hX_S_6.2 a0 hL_a0).1.trans hK_a0
      have hL_a0 : wM D S_6 a0 := hX_S_6.M hL_a0
      refine w_astore_n (lv' := [(3, va_rf r_5), (0, .ref a0), (1, .int x1), (2, .int x2)]) hx hb dX10_movesOfAll_20 rfl hl (by decide) rfl (fun ls hl => ?_)
      refine lv_iload_n hx hb dX10_movesOfAll_21 rfl (lv_at hl 2 rfl) ?_
      refine w_aload_n hx hb dX10_movesOfAll_22 rfl (lv_at hl 0 rfl) ?_
      refine w_ifnonnull (tgt := 30) hx hb dX10_movesOfAll_23 (by decide) (fun h_8 => ?_) (fun y_7 h_8 => ?_)
      · replace hp := hp.1 h_8
        subst h_8
        refine lv_iconst (v := 0) hx hb dX10_movesOfAll_26 (by decide) ?_
        refine lv_goto (tgt := 34) hx hb dX10_movesOfAll_27 (by decide) ?_
        exact t_X10_movesOfAll_34 F hr hlocks hK ih hp hW hE (lv_sub hl [1, 3] rfl) hL_a0 hK_a0
      · obtain ⟨hL_y_7, hK_y_7, hp⟩ := hp.2 y_7 h_8
        subst h_8
        refine lv_aload_n hx hb dX10_movesOfAll_30 rfl (lv_at hl 0 rfl) ?_
        refine w_getN (k := 8) (f := 3) (T := TX3) (v := .int (sI S_6 y_7 3)) F hK hW hL_y_7 hK_y_7 (by decide) rfl rfl (by decide) i_8 (hK.2.1 (.fieldLinkNest "OpeningsCabinet$Shelf" 31 "OpeningsCabinet$Game" "length" "I" "OpeningsCabinet") (by decide +kernel)) rfl dX10_movesOfAll_31 ?_
        exact t_X10_movesOfAll_34 F hr hlocks hK ih hp hW hE (lv_sub hl [1, 3] rfl) hL_a0 hK_a0
set_option maxHeartbeats 4000000 in
set_option maxRecDepth 100000 in
theorem t_X10_movesOfAll_0 {p : Program} {l : Launch} {e : Env} {s : State} {m : MethodId} {args : Array Value} {below : List Frame} {meth : Method} {c : Code} {D : wD} {cy : Nat → ClassId} {X : va_W} {A : Nat → Prop} {S0 : wS} {post : Int32 → wS → Prop} (F : CallFix p m c cX10_movesOfAll 4 s args wz_X10_movesOfAll RX10) (hr : meth.sig.returnType = (some .int)) (hlocks : meth.locks = false) (hK : wK D cy A s) : ∀ {S : wS} {H : Heap} {locs : List Loc} {ls : Array Slot} {a0 : Nat}, wp_X10_movesOfAll_0 D post S a0 → wO D cy X A s.heap S H locs → wX D S0 S → lv_has ls 4 [(0, .ref a0)] → wM D S a0 → sK S a0 = 15 → W p l e r_X10_movesOfAll s m args below meth c H locs 0 0 (MQ below (va_Qi (fun r S9 => wX D S0 S9 ∧ post r S9) (wB D cy X A) A) args s 0 0 A) (F0 m 0 ls []) := by
  obtain ⟨hx, hb, hml, hown, hts⟩ := id F
  have hwg : ∀ w ∈ WG, w.before args s = true := fun w h => hts w (List.mem_cons_of_mem _ h)
  intro S H locs ls a0 hp hW hE hl hL_a0 hK_a0
  unfold wp_X10_movesOfAll_0 at hp
  refine lv_iconst (v := 0) hx hb dX10_movesOfAll_0 (by decide) ?_
  refine lv_istore_n (lv' := [(1, .int (0 : Int32)), (0, .ref a0)]) hx hb dX10_movesOfAll_1 rfl hl (by decide) rfl (fun ls hl => ?_)
  refine lv_iconst (v := 0) hx hb dX10_movesOfAll_2 (by decide) ?_
  refine lv_istore_n (lv' := [(2, .int (0 : Int32)), (1, .int (0 : Int32)), (0, .ref a0)]) hx hb dX10_movesOfAll_3 rfl hl (by decide) rfl (fun ls hl => ?_)
  obtain ⟨n_1, hp⟩ := hp
  exact t_X10_movesOfAll_4 F hr hlocks hK n_1 hp hW hE (lv_sub hl [2, 1, 0] rfl) hL_a0 hK_a0
set_option maxHeartbeats 4000000 in
set_option maxRecDepth 100000 in
theorem c_X10_movesOfAll (l : Launch) {D : wD} {cy : Nat → ClassId} {X : va_W} {S0 : wS} {post : Int32 → wS → Prop} {a0 : Nat} (hL_a0 : wM D S0 a0) (hK_a0 : sK S0 a0 = 15) (hp : wp_X10_movesOfAll D post S0 a0) : mI D cy X l yX10_movesOfAll wz_X10_movesOfAll r_X10_movesOfAll [.ref a0] S0 (fun r S9 => wX D S0 S9 ∧ post r S9) := by
  intro sz
  refine Met.ofW (cc := cX10_movesOfAll) (maxL := 4) (ret := (some .int)) (by decide) rfl ?_
  intro p e s m args below meth c s₁ B hml hv
  obtain ⟨rfl, hsz, hP, hK, hD0, hRO⟩ := hv
  have hts := atoms_spec (ws := wz_X10_movesOfAll) B.pre
  have hown : s.vm.findClass RX10 = some m.cls := findClass_of_methodNamed B.named
  subst hsz
  have hD := hD0.self (sz := s.heap.size)
  have F : CallFix p m c cX10_movesOfAll 4 s _ wz_X10_movesOfAll RX10 := ⟨B.exec, B.bytes, hml, hown, hts⟩
  have hr := B.returns
  have hlocks := B.notSynchronized
  generalize hAe : va_A (wL cy X S0) s.heap.size = A at hD hK ⊢
  have hA : ∀ q, s.heap.size ≤ q → A q := fun q h => by rw [← hAe]; exact Or.inr h
  have hW : wO D cy X A s.heap S0 s.heap [] := ⟨hP, hD, va_S.rf, hA, hRO⟩
  have hl := lv_entry ([.ref a0]) (n := 4) (Nat.le_of_ble_eq_true rfl)
  rw [lg_entry_eq]
  generalize (lg_sl ([.ref a0]) ++ List.replicate (4 - (lg_sl ([.ref a0])).length) Slot.unset).toArray = ls at hl ⊢
  have hl : lv_has ls 4 [(0, .ref a0)] := hl
  unfold wp_X10_movesOfAll at hp
  exact t_X10_movesOfAll_0 F hr hlocks hK hp hW wX.rf (lv_sub hl [0] rfl) hL_a0 hK_a0
def wp_X10_numberDue_89 (D : wD) (post : Int32 → wS → Prop) (k_6 : wS → Nat → Int32 → Option Nat → Int32 → Prop) (S : wS) (a0 : Nat) (x1 : Int32) (g2 : Option Nat) (x3 : Int32) : Prop :=
∀ x_1 : Int32, x_1 = x3 + 1 →
k_6 S a0 x1 g2 x_1
def wp_X10_numberDue_77 (D : wD) (post : Int32 → wS → Prop) (k_6 : wS → Nat → Int32 → Option Nat → Int32 → Prop) (S : wS) (a0 : Nat) (x1 : Int32) (g2 : Option Nat) (x3 : Int32) (a4 : Nat) (t0 : Int32) : Prop :=
((t0 = 0 → wp_X10_numberDue_89 D post k_6 S a0 x1 g2 x3) ∧
 (¬ t0 = 0 → wp_X10_numberDue_89 D post k_6 S a0 x3 (some a4) x3))
def wp_X10_numberDue_76 (D : wD) (post : Int32 → wS → Prop) (k_6 : wS → Nat → Int32 → Option Nat → Int32 → Prop) (S : wS) (a0 : Nat) (x1 : Int32) (g2 : Option Nat) (x3 : Int32) (a4 : Nat) : Prop :=
wp_X10_numberDue_77 D post k_6 S a0 x1 g2 x3 a4 (0 : Int32)
def wp_X10_numberDue_72 (D : wD) (post : Int32 → wS → Prop) (k_6 : wS → Nat → Int32 → Option Nat → Int32 → Prop) (S : wS) (a0 : Nat) (x1 : Int32) (g2 : Option Nat) (x3 : Int32) (a4 : Nat) : Prop :=
wp_X10_numberDue_77 D post k_6 S a0 x1 g2 x3 a4 (1 : Int32)
def wp_X10_numberDue_6 (D : wD) (post : Int32 → wS → Prop)  : Nat → wS → Nat → Int32 → Option Nat → Int32 → Prop
  | 0, _, _, _, _, _ => False
  | n + 1, S, a0, x1, g2, x3 =>
    ∃ y_1 : Nat, sR S a0 0 = some y_1 ∧ wM D S y_1 ∧ sK S y_1 = 4 ∧
    wp_Jx4a65c_size_8abf5 D (fun r_2 S_3 => 
    ((r_2 ≤ x3 → post x1 S_3) ∧
     (¬ r_2 ≤ x3 → wp_X10_gameAt D (fun r_5 S_6 => 
    ((r_5 = none → wp_X10_numberDue_89 D post (wp_X10_numberDue_6 D post n) S_6 a0 x1 g2 x3) ∧
     (∀ y_7 : Nat, r_5 = some y_7 → wM D S_6 y_7 ∧ sK S_6 y_7 = 8 ∧ ((g2 = none → wp_X10_numberDue_72 D post (wp_X10_numberDue_6 D post n) S_6 a0 x1 none x3 y_7) ∧
     (∀ y_9 : Nat, g2 = some y_9 → wM D S_6 y_9 ∧ sK S_6 y_9 = 8 ∧ (((sI S_6 y_7 8) < (sI S_6 y_9 8) → wp_X10_numberDue_72 D post (wp_X10_numberDue_6 D post n) S_6 a0 x1 (some y_9) x3 y_7) ∧
     (¬ (sI S_6 y_7 8) < (sI S_6 y_9 8) → ((¬ (sI S_6 y_7 8) = (sI S_6 y_9 8) → wp_X10_numberDue_76 D post (wp_X10_numberDue_6 D post n) S_6 a0 x1 (some y_9) x3 y_7) ∧
     ((sI S_6 y_7 8) = (sI S_6 y_9 8) → (((sI S_6 y_9 7) ≤ (sI S_6 y_7 7) → wp_X10_numberDue_76 D post (wp_X10_numberDue_6 D post n) S_6 a0 x1 (some y_9) x3 y_7) ∧
     (¬ (sI S_6 y_9 7) ≤ (sI S_6 y_7 7) → wp_X10_numberDue_72 D post (wp_X10_numberDue_6 D post n) S_6 a0 x1 (some y_9) x3 y_7))))))))))) S_3 a0 x3))) S y_1
def wp_X10_numberDue_0 (D : wD) (post : Int32 → wS → Prop)  (S : wS) (a0 : Nat) : Prop :=
∃ n_1 : Nat, wp_X10_numberDue_6 D post n_1 S a0 (-1 : Int32) none (0 : Int32)
abbrev r_X10_numberDue : Room := { frames := 4, cells := 0, slots := 0, locals := 85 }
def wp_X10_numberDue (D : wD) (post : Int32 → wS → Prop) (S : wS) (a0 : Nat) : Prop := wp_X10_numberDue_0 D post S a0
set_option maxHeartbeats 4000000 in
set_option maxRecDepth 100000 in
theorem t_X10_numberDue_89 {p : Program} {l : Launch} {e : Env} {s : State} {m : MethodId} {args : Array Value} {below : List Frame} {meth : Method} {c : Code} {D : wD} {cy : Nat → ClassId} {X : va_W} {A : Nat → Prop} {S0 : wS} {post : Int32 → wS → Prop} (F : CallFix p m c cX10_numberDue 6 s args wz_X10_numberDue RX10) (hr : meth.sig.returnType = (some .int)) (hlocks : meth.locks = false) (hK : wK D cy A s) {k_6 : wS → Nat → Int32 → Option Nat → Int32 → Prop} (q_6 : ∀ {S : wS} {H : Heap} {locs : List Loc} {ls : Array Slot} {a0 : Nat} {x1 : Int32} {g2 : Option Nat} {x3 : Int32}, k_6 S a0 x1 g2 x3 → wO D cy X A s.heap S H locs → wX D S0 S → lv_has ls 6 [(0, .ref a0), (1, .int x1), (2, va_rf g2), (3, .int x3)] → wM D S a0 → sK S a0 = 15 → W p l e r_X10_numberDue s m args below meth c H locs 0 0 (MQ below (va_Qi (fun r S9 => wX D S0 S9 ∧ post r S9) (wB D cy X A) A) args s 0 0 A) (F0 m 6 ls [])) : ∀ {S : wS} {H : Heap} {locs : List Loc} {ls : Array Slot} {a0 : Nat} {x1 : Int32} {g2 : Option Nat} {x3 : Int32}, wp_X10_numberDue_89 D post k_6 S a0 x1 g2 x3 → wO D cy X A s.heap S H locs → wX D S0 S → lv_has ls 6 [(0, .ref a0), (1, .int x1), (2, va_rf g2), (3, .int x3)] → wM D S a0 → sK S a0 = 15 → W p l e r_X10_numberDue s m args below meth c H locs 0 0 (MQ below (va_Qi (fun r S9 => wX D S0 S9 ∧ post r S9) (wB D cy X A) A) args s 0 0 A) (F0 m 89 ls []) := by
  obtain ⟨hx, hb, hml, hown, hts⟩ := id F
  have hwg : ∀ w ∈ WG, w.before args s = true := fun w h => hts w (List.mem_cons_of_mem _ h)
  intro S H locs ls a0 x1 g2 x3 hp hW hE hl hL_a0 hK_a0
  unfold wp_X10_numberDue_89 at hp
  obtain ⟨x_1, ex_1⟩ : ∃ z : Int32, z = x3 + 1 := ⟨_, rfl⟩
  replace hp := hp x_1 ex_1
  refine lv_iinc (v := x_1) (lv' := [(3, .int x_1), (0, .ref a0), (1, .int x1), (2, va_rf g2)]) hx hb dX10_numberDue_89 hl (k := 3) rfl (by rw [ex_1]; rfl) (by decide) rfl (fun ls hl => ?_)
  refine lv_goto (tgt := 6) hx hb dX10_numberDue_92 (by decide) ?_
  exact q_6 hp hW hE (lv_sub hl [1, 2, 3, 0] rfl) hL_a0 hK_a0
set_option maxHeartbeats 4000000 in
set_option maxRecDepth 100000 in
theorem t_X10_numberDue_77 {p : Program} {l : Launch} {e : Env} {s : State} {m : MethodId} {args : Array Value} {below : List Frame} {meth : Method} {c : Code} {D : wD} {cy : Nat → ClassId} {X : va_W} {A : Nat → Prop} {S0 : wS} {post : Int32 → wS → Prop} (F : CallFix p m c cX10_numberDue 6 s args wz_X10_numberDue RX10) (hr : meth.sig.returnType = (some .int)) (hlocks : meth.locks = false) (hK : wK D cy A s) {k_6 : wS → Nat → Int32 → Option Nat → Int32 → Prop} (q_6 : ∀ {S : wS} {H : Heap} {locs : List Loc} {ls : Array Slot} {a0 : Nat} {x1 : Int32} {g2 : Option Nat} {x3 : Int32}, k_6 S a0 x1 g2 x3 → wO D cy X A s.heap S H locs → wX D S0 S → lv_has ls 6 [(0, .ref a0), (1, .int x1), (2, va_rf g2), (3, .int x3)] → wM D S a0 → sK S a0 = 15 → W p l e r_X10_numberDue s m args below meth c H locs 0 0 (MQ below (va_Qi (fun r S9 => wX D S0 S9 ∧ post r S9) (wB D cy X A) A) args s 0 0 A) (F0 m 6 ls [])) : ∀ {S : wS} {H : Heap} {locs : List Loc} {ls : Array Slot} {a0 : Nat} {x1 : Int32} {g2 : Option Nat} {x3 : Int32} {a4 : Nat} {t0 : Int32}, wp_X10_numberDue_77 D post k_6 S a0 x1 g2 x3 a4 t0 → wO D cy X A s.heap S H locs → wX D S0 S → lv_has ls 6 [(0, .ref a0), (1, .int x1), (2, va_rf g2), (3, .int x3), (4, .ref a4)] → wM D S a0 → sK S a0 = 15 → wM D S a4 → sK S a4 = 8 → W p l e r_X10_numberDue s m args below meth c H locs 0 0 (MQ below (va_Qi (fun r S9 => wX D S0 S9 ∧ post r S9) (wB D cy X A) A) args s 0 0 A) (F0 m 77 ls [.int t0]) := by
  obtain ⟨hx, hb, hml, hown, hts⟩ := id F
  have hwg : ∀ w ∈ WG, w.before args s = true := fun w h => hts w (List.mem_cons_of_mem _ h)
  intro S H locs ls a0 x1 g2 x3 a4 t0 hp hW hE hl hL_a0 hK_a0 hL_a4 hK_a4
  unfold wp_X10_numberDue_77 at hp
  refine lv_istore (lv' := [(5, .int t0), (0, .ref a0), (1, .int x1), (2, va_rf g2), (3, .int x3), (4, .ref a4)]) hx hb dX10_numberDue_77 hl (by decide) rfl (fun ls hl => ?_)
  refine lv_iload hx hb dX10_numberDue_79 (lv_at hl 0 rfl) ?_
  refine lv_if_eq (tgt := 89) hx hb dX10_numberDue_81 (by decide) (fun c_1 => ?_) (fun c_1 => ?_)
  · replace hp := hp.1 c_1
    exact t_X10_numberDue_89 F hr hlocks hK q_6 hp hW hE (lv_sub hl [1, 2, 3, 4] rfl) hL_a0 hK_a0
  · replace hp := hp.2 c_1
    refine lv_iload_n hx hb dX10_numberDue_84 rfl (lv_at hl 4 rfl) ?_
    refine lv_istore_n (lv' := [(1, .int x3), (5, .int t0), (0, .ref a0), (2, va_rf g2), (3, .int x3), (4, .ref a4)]) hx hb dX10_numberDue_85 rfl hl (by decide) rfl (fun ls hl => ?_)
    refine lv_aload hx hb dX10_numberDue_86 (lv_at hl 5 rfl) ?_
    refine lv_astore_n (lv' := [(2, .ref a4), (1, .int x3), (5, .int t0), (0, .ref a0), (3, .int x3), (4, .ref a4)]) hx hb dX10_numberDue_88 rfl hl (by decide) rfl (fun ls hl => ?_)
    exact t_X10_numberDue_89 F hr hlocks hK q_6 hp hW hE (lv_sub hl [3, 1, 0, 4] rfl) hL_a0 hK_a0
set_option maxHeartbeats 4000000 in
set_option maxRecDepth 100000 in
theorem t_X10_numberDue_76 {p : Program} {l : Launch} {e : Env} {s : State} {m : MethodId} {args : Array Value} {below : List Frame} {meth : Method} {c : Code} {D : wD} {cy : Nat → ClassId} {X : va_W} {A : Nat → Prop} {S0 : wS} {post : Int32 → wS → Prop} (F : CallFix p m c cX10_numberDue 6 s args wz_X10_numberDue RX10) (hr : meth.sig.returnType = (some .int)) (hlocks : meth.locks = false) (hK : wK D cy A s) {k_6 : wS → Nat → Int32 → Option Nat → Int32 → Prop} (q_6 : ∀ {S : wS} {H : Heap} {locs : List Loc} {ls : Array Slot} {a0 : Nat} {x1 : Int32} {g2 : Option Nat} {x3 : Int32}, k_6 S a0 x1 g2 x3 → wO D cy X A s.heap S H locs → wX D S0 S → lv_has ls 6 [(0, .ref a0), (1, .int x1), (2, va_rf g2), (3, .int x3)] → wM D S a0 → sK S a0 = 15 → W p l e r_X10_numberDue s m args below meth c H locs 0 0 (MQ below (va_Qi (fun r S9 => wX D S0 S9 ∧ post r S9) (wB D cy X A) A) args s 0 0 A) (F0 m 6 ls [])) : ∀ {S : wS} {H : Heap} {locs : List Loc} {ls : Array Slot} {a0 : Nat} {x1 : Int32} {g2 : Option Nat} {x3 : Int32} {a4 : Nat}, wp_X10_numberDue_76 D post k_6 S a0 x1 g2 x3 a4 → wO D cy X A s.heap S H locs → wX D S0 S → lv_has ls 6 [(0, .ref a0), (1, .int x1), (2, va_rf g2), (3, .int x3), (4, .ref a4)] → wM D S a0 → sK S a0 = 15 → wM D S a4 → sK S a4 = 8 → W p l e r_X10_numberDue s m args below meth c H locs 0 0 (MQ below (va_Qi (fun r S9 => wX D S0 S9 ∧ post r S9) (wB D cy X A) A) args s 0 0 A) (F0 m 76 ls []) := by
  obtain ⟨hx, hb, hml, hown, hts⟩ := id F
  have hwg : ∀ w ∈ WG, w.before args s = true := fun w h => hts w (List.mem_cons_of_mem _ h)
  intro S H locs ls a0 x1 g2 x3 a4 hp hW hE hl hL_a0 hK_a0 hL_a4 hK_a4
  unfold wp_X10_numberDue_76 at hp
  refine lv_iconst (v := 0) hx hb dX10_numberDue_76 (by decide) ?_
  exact t_X10_numberDue_77 F hr hlocks hK q_6 hp hW hE (lv_sub hl [0, 1, 2, 3, 4] rfl) hL_a0 hK_a0 hL_a4 hK_a4
set_option maxHeartbeats 4000000 in
set_option maxRecDepth 100000 in
theorem t_X10_numberDue_72 {p : Program} {l : Launch} {e : Env} {s : State} {m : MethodId} {args : Array Value} {below : List Frame} {meth : Method} {c : Code} {D : wD} {cy : Nat → ClassId} {X : va_W} {A : Nat → Prop} {S0 : wS} {post : Int32 → wS → Prop} (F : CallFix p m c cX10_numberDue 6 s args wz_X10_numberDue RX10) (hr : meth.sig.returnType = (some .int)) (hlocks : meth.locks = false) (hK : wK D cy A s) {k_6 : wS → Nat → Int32 → Option Nat → Int32 → Prop} (q_6 : ∀ {S : wS} {H : Heap} {locs : List Loc} {ls : Array Slot} {a0 : Nat} {x1 : Int32} {g2 : Option Nat} {x3 : Int32}, k_6 S a0 x1 g2 x3 → wO D cy X A s.heap S H locs → wX D S0 S → lv_has ls 6 [(0, .ref a0), (1, .int x1), (2, va_rf g2), (3, .int x3)] → wM D S a0 → sK S a0 = 15 → W p l e r_X10_numberDue s m args below meth c H locs 0 0 (MQ below (va_Qi (fun r S9 => wX D S0 S9 ∧ post r S9) (wB D cy X A) A) args s 0 0 A) (F0 m 6 ls [])) : ∀ {S : wS} {H : Heap} {locs : List Loc} {ls : Array Slot} {a0 : Nat} {x1 : Int32} {g2 : Option Nat} {x3 : Int32} {a4 : Nat}, wp_X10_numberDue_72 D post k_6 S a0 x1 g2 x3 a4 → wO D cy X A s.heap S H locs → wX D S0 S → lv_has ls 6 [(0, .ref a0), (1, .int x1), (2, va_rf g2), (3, .int x3), (4, .ref a4)] → wM D S a0 → sK S a0 = 15 → wM D S a4 → sK S a4 = 8 → W p l e r_X10_numberDue s m args below meth c H locs 0 0 (MQ below (va_Qi (fun r S9 => wX D S0 S9 ∧ post r S9) (wB D cy X A) A) args s 0 0 A) (F0 m 72 ls []) := by
  obtain ⟨hx, hb, hml, hown, hts⟩ := id F
  have hwg : ∀ w ∈ WG, w.before args s = true := fun w h => hts w (List.mem_cons_of_mem _ h)
  intro S H locs ls a0 x1 g2 x3 a4 hp hW hE hl hL_a0 hK_a0 hL_a4 hK_a4
  unfold wp_X10_numberDue_72 at hp
  refine lv_iconst (v := 1) hx hb dX10_numberDue_72 (by decide) ?_
  refine lv_goto (tgt := 77) hx hb dX10_numberDue_73 (by decide) ?_
  exact t_X10_numberDue_77 F hr hlocks hK q_6 hp hW hE (lv_sub hl [0, 1, 2, 3, 4] rfl) hL_a0 hK_a0 hL_a4 hK_a4
set_option maxHeartbeats 4000000 in
set_option maxRecDepth 100000 in
theorem t_X10_numberDue_6 {p : Program} {l : Launch} {e : Env} {s : State} {m : MethodId} {args : Array Value} {below : List Frame} {meth : Method} {c : Code} {D : wD} {cy : Nat → ClassId} {X : va_W} {A : Nat → Prop} {S0 : wS} {post : Int32 → wS → Prop} (F : CallFix p m c cX10_numberDue 6 s args wz_X10_numberDue RX10) (hr : meth.sig.returnType = (some .int)) (hlocks : meth.locks = false) (hK : wK D cy A s) : ∀ (n : Nat) {S : wS} {H : Heap} {locs : List Loc} {ls : Array Slot} {a0 : Nat} {x1 : Int32} {g2 : Option Nat} {x3 : Int32}, wp_X10_numberDue_6 D post n S a0 x1 g2 x3 → wO D cy X A s.heap S H locs → wX D S0 S → lv_has ls 6 [(0, .ref a0), (1, .int x1), (2, va_rf g2), (3, .int x3)] → wM D S a0 → sK S a0 = 15 → W p l e r_X10_numberDue s m args below meth c H locs 0 0 (MQ below (va_Qi (fun r S9 => wX D S0 S9 ∧ post r S9) (wB D cy X A) A) args s 0 0 A) (F0 m 6 ls []) := by
  obtain ⟨hx, hb, hml, hown, hts⟩ := id F
  have hwg : ∀ w ∈ WG, w.before args s = true := fun w h => hts w (List.mem_cons_of_mem _ h)
  have i_15 : ∀ w ∈ u_ws RX10 TX10 1, w ∈ wz_X10_numberDue := fun w h => List.mem_cons_of_mem _ (wu_15 w h)
  have i_8 : ∀ w ∈ u_ws RX3 TX3 9, w ∈ wz_X10_numberDue := fun w h => List.mem_cons_of_mem _ (wu_8 w h)
  have k_12 := hwg _ wf_RX10_12
  intro n
  induction n with
  | zero =>
    intro S H locs ls a0 x1 g2 x3 hp
    exact hp.elim
  | succ n ih =>
    intro S H locs ls a0 x1 g2 x3 hp hW hE hl hL_a0 hK_a0
    unfold wp_X10_numberDue_6 at hp
    refine lv_iload_n hx hb dX10_numberDue_6 rfl (lv_at hl 3 rfl) ?_
    refine lv_aload_n hx hb dX10_numberDue_7 rfl (lv_at hl 0 rfl) ?_
    obtain ⟨y_1, ey_1, hL_y_1, hK_y_1, hp⟩ := hp
    refine w_get (k := 15) (f := 0) (T := TX10) (v := .ref y_1) F hK hW hL_a0 hK_a0 (by decide) rfl rfl (by decide) i_15 k_12 (by rw [show wv 15 0 S a0 = va_rf (sR S a0 0) from rfl, ey_1]; rfl) dX10_numberDue_8 ?_
    refine w_callI (va_runV (As := []) (rest := [.int x3]) F (c_Jx4a65c_size_8abf5 l hL_y_1 hK_y_1 hp H.size) (cwV (C := RJx4a65c) 0 hts (wg_V wm_RX10_18 wy_Jx4a65c_size_8abf5) rfl rfl rfl (by decide +kernel) ⟨Nat.le_of_ble_eq_true rfl, Nat.le_of_ble_eq_true rfl⟩) (w_preV hK hW hL_y_1 hK_y_1 (by decide) rfl) rfl rfl hl.1 rfl (lv_room (Nat.le_of_ble_eq_true rfl)) dX10_numberDue_11 ⟨Nat.le_of_ble_eq_true rfl, Nat.le_of_ble_eq_true rfl⟩) hW (fun r_2 S_3 H locs hp hW => ?_)
    obtain ⟨hX_S_3, hp⟩ := hp
    refine W.widen (k := 0) (n := 0) (by decide) (by decide) ?_
    have hE := hE.trans hX_S_3
    have hK_a0 : sK S_3 a0 = 15 := (hX_S_3.2 a0 hL_a0).1.trans hK_a0
    have hL_a0 : wM D S_3 a0 := hX_S_3.M hL_a0
    refine lv_icmp_ge (tgt := 95) hx hb dX10_numberDue_14 (by decide) (fun c_4 => ?_) (fun c_4 => ?_)
    · replace hp := hp.1 c_4
      refine lv_iload_n hx hb dX10_numberDue_95 rfl (lv_at hl 1 rfl) ?_
      exact w_iret hx hb hr hlocks hW ⟨hE, hp⟩ dX10_numberDue_96
    · replace hp := hp.2 c_4
      refine lv_aload_n hx hb dX10_numberDue_17 rfl (lv_at hl 0 rfl) ?_
      refine lv_iload_n hx hb dX10_numberDue_18 rfl (lv_at hl 3 rfl) ?_
      refine w_callR (va_runV (As := [.int x3]) (rest := []) F (c_X10_gameAt l hL_a0 hK_a0 hp H.size) (cwV (C := RX10) 1 hts (wg_V wm_RX10_51 wy_X10_gameAt) rfl rfl rfl (by decide +kernel) ⟨Nat.le_of_ble_eq_true rfl, Nat.le_of_ble_eq_true rfl⟩) (w_preV hK hW hL_a0 hK_a0 (by decide) rfl) rfl rfl hl.1 rfl (lv_room (Nat.le_of_ble_eq_true rfl)) dX10_numberDue_19 ⟨Nat.le_of_ble_eq_true rfl, Nat.le_of_ble_eq_true rfl⟩) hW (fun r_5 S_6 H locs hp hW => ?_)
      obtain ⟨hX_S_6, hp⟩ := hp
      refine W.widen (k := 0) (n := 0) (by decide) (by decide) ?_
      have hE := hE.trans hX_S_6
      have hK_a0 : sK S_6 a0 = 15 := (hX_S_6.2 a0 hL_a0).1.trans hK_a0
      have hL_a0 : wM D S_6 a0 := hX_S_6.M hL_a0
      refine w_astore (lv' := [(4, va_rf r_5), (0, .ref a0), (1, .int x1), (2, va_rf g2), (3, .int x3)]) hx hb dX10_numberDue_22 hl (by decide) rfl (fun ls hl => ?_)
      refine w_aload hx hb dX10_numberDue_24 (lv_at hl 0 rfl) ?_
      refine w_ifnonnull (tgt := 32) hx hb dX10_numberDue_26 (by decide) (fun h_8 => ?_) (fun y_7 h_8 => ?_)
      · replace hp := hp.1 h_8
        subst h_8
        refine lv_goto (tgt := 89) hx hb dX10_numberDue_29 (by decide) ?_
        exact t_X10_numberDue_89 F hr hlocks hK ih hp hW hE (lv_sub hl [1, 2, 3, 4] rfl) hL_a0 hK_a0
      · obtain ⟨hL_y_7, hK_y_7, hp⟩ := hp.2 y_7 h_8
        subst h_8
        refine w_aload_n hx hb dX10_numberDue_32 rfl (lv_at hl 3 rfl) ?_
        refine w_ifnull (tgt := 72) hx hb dX10_numberDue_33 (by decide) (fun h_10 => ?_) (fun y_9 h_10 => ?_)
        · replace hp := hp.1 h_10
          subst h_10
          exact t_X10_numberDue_72 F hr hlocks hK ih hp hW hE (lv_sub hl [1, 2, 3, 4, 0] rfl) hL_a0 hK_a0 hL_y_7 hK_y_7
        · obtain ⟨hL_y_9, hK_y_9, hp⟩ := hp.2 y_9 h_10
          subst h_10
          refine lv_aload hx hb dX10_numberDue_36 (lv_at hl 0 rfl) ?_
          refine w_getN (k := 8) (f := 8) (T := TX3) (v := .int (sI S_6 y_7 8)) F hK hW hL_y_7 hK_y_7 (by decide) rfl rfl (by decide) i_8 (hK.2.1 (.fieldLinkNest "OpeningsCabinet$Shelf" 100 "OpeningsCabinet$Game" "due" "I" "OpeningsCabinet") (by decide +kernel)) rfl dX10_numberDue_38 ?_
          refine lv_aload_n hx hb dX10_numberDue_41 rfl (lv_at hl 3 rfl) ?_
          refine w_getN (k := 8) (f := 8) (T := TX3) (v := .int (sI S_6 y_9 8)) F hK hW hL_y_9 hK_y_9 (by decide) rfl rfl (by decide) i_8 (hK.2.1 (.fieldLinkNest "OpeningsCabinet$Shelf" 100 "OpeningsCabinet$Game" "due" "I" "OpeningsCabinet") (by decide +kernel)) rfl dX10_numberDue_42 ?_
          refine lv_icmp_lt (tgt := 72) hx hb dX10_numberDue_45 (by decide) (fun c_11 => ?_) (fun c_11 => ?_)
          · replace hp := hp.1 c_11
            exact t_X10_numberDue_72 F hr hlocks hK ih hp hW hE (lv_sub hl [1, 2, 3, 4, 0] rfl) hL_a0 hK_a0 hL_y_7 hK_y_7
          · replace hp := hp.2 c_11
            refine lv_aload hx hb dX10_numberDue_48 (lv_at hl 0 rfl) ?_
            refine w_getN (k := 8) (f := 8) (T := TX3) (v := .int (sI S_6 y_7 8)) F hK hW hL_y_7 hK_y_7 (by decide) rfl rfl (by decide) i_8 (hK.2.1 (.fieldLinkNest "OpeningsCabinet$Shelf" 100 "OpeningsCabinet$Game" "due" "I" "OpeningsCabinet") (by decide +kernel)) rfl dX10_numberDue_50 ?_
            refine lv_aload_n hx hb dX10_numberDue_53 rfl (lv_at hl 3 rfl) ?_
            refine w_getN (k := 8) (f := 8) (T := TX3) (v := .int (sI S_6 y_9 8)) F hK hW hL_y_9 hK_y_9 (by decide) rfl rfl (by decide) i_8 (hK.2.1 (.fieldLinkNest "OpeningsCabinet$Shelf" 100 "OpeningsCabinet$Game" "due" "I" "OpeningsCabinet") (by decide +kernel)) rfl dX10_numberDue_54 ?_
            refine lv_icmp_ne (tgt := 76) hx hb dX10_numberDue_57 (by decide) (fun c_12 => ?_) (fun c_12 => ?_)
            · replace hp := hp.1 c_12
              exact t_X10_numberDue_76 F hr hlocks hK ih hp hW hE (lv_sub hl [1, 2, 3, 4, 0] rfl) hL_a0 hK_a0 hL_y_7 hK_y_7
            · replace hp := hp.2 c_12
              refine lv_aload hx hb dX10_numberDue_60 (lv_at hl 0 rfl) ?_
              refine w_getN (k := 8) (f := 7) (T := TX3) (v := .int (sI S_6 y_7 7)) F hK hW hL_y_7 hK_y_7 (by decide) rfl rfl (by decide) i_8 (hK.2.1 (.fieldLinkNest "OpeningsCabinet$Shelf" 103 "OpeningsCabinet$Game" "box" "I" "OpeningsCabinet") (by decide +kernel)) rfl dX10_numberDue_62 ?_
              refine lv_aload_n hx hb dX10_numberDue_65 rfl (lv_at hl 3 rfl) ?_
              refine w_getN (k := 8) (f := 7) (T := TX3) (v := .int (sI S_6 y_9 7)) F hK hW hL_y_9 hK_y_9 (by decide) rfl rfl (by decide) i_8 (hK.2.1 (.fieldLinkNest "OpeningsCabinet$Shelf" 103 "OpeningsCabinet$Game" "box" "I" "OpeningsCabinet") (by decide +kernel)) rfl dX10_numberDue_66 ?_
              refine lv_icmp_ge (tgt := 76) hx hb dX10_numberDue_69 (by decide) (fun c_13 => ?_) (fun c_13 => ?_)
              · replace hp := hp.1 c_13
                exact t_X10_numberDue_76 F hr hlocks hK ih hp hW hE (lv_sub hl [1, 2, 3, 4, 0] rfl) hL_a0 hK_a0 hL_y_7 hK_y_7
              · replace hp := hp.2 c_13
                exact t_X10_numberDue_72 F hr hlocks hK ih hp hW hE (lv_sub hl [1, 2, 3, 4, 0] rfl) hL_a0 hK_a0 hL_y_7 hK_y_7
set_option maxHeartbeats 4000000 in
set_option maxRecDepth 100000 in
theorem t_X10_numberDue_0 {p : Program} {l : Launch} {e : Env} {s : State} {m : MethodId} {args : Array Value} {below : List Frame} {meth : Method} {c : Code} {D : wD} {cy : Nat → ClassId} {X : va_W} {A : Nat → Prop} {S0 : wS} {post : Int32 → wS → Prop} (F : CallFix p m c cX10_numberDue 6 s args wz_X10_numberDue RX10) (hr : meth.sig.returnType = (some .int)) (hlocks : meth.locks = false) (hK : wK D cy A s) : ∀ {S : wS} {H : Heap} {locs : List Loc} {ls : Array Slot} {a0 : Nat}, wp_X10_numberDue_0 D post S a0 → wO D cy X A s.heap S H locs → wX D S0 S → lv_has ls 6 [(0, .ref a0)] → wM D S a0 → sK S a0 = 15 → W p l e r_X10_numberDue s m args below meth c H locs 0 0 (MQ below (va_Qi (fun r S9 => wX D S0 S9 ∧ post r S9) (wB D cy X A) A) args s 0 0 A) (F0 m 0 ls []) := by
  obtain ⟨hx, hb, hml, hown, hts⟩ := id F
  have hwg : ∀ w ∈ WG, w.before args s = true := fun w h => hts w (List.mem_cons_of_mem _ h)
  intro S H locs ls a0 hp hW hE hl hL_a0 hK_a0
  unfold wp_X10_numberDue_0 at hp
  refine lv_iconst (v := (-1)) hx hb dX10_numberDue_0 (by decide) ?_
  refine lv_istore_n (lv' := [(1, .int (-1 : Int32)), (0, .ref a0)]) hx hb dX10_numberDue_1 rfl hl (by decide) rfl (fun ls hl => ?_)
  refine lv_null hx hb dX10_numberDue_2 ?_
  refine lv_astore_nN (lv' := [(2, .null), (1, .int (-1 : Int32)), (0, .ref a0)]) hx hb dX10_numberDue_3 rfl hl (by decide) rfl (fun ls hl => ?_)
  refine lv_iconst (v := 0) hx hb dX10_numberDue_4 (by decide) ?_
  refine lv_istore_n (lv' := [(3, .int (0 : Int32)), (2, .null), (1, .int (-1 : Int32)), (0, .ref a0)]) hx hb dX10_numberDue_5 rfl hl (by decide) rfl (fun ls hl => ?_)
  obtain ⟨n_1, hp⟩ := hp
  exact t_X10_numberDue_6 F hr hlocks hK n_1 hp hW hE (lv_sub hl [3, 2, 1, 0] rfl) hL_a0 hK_a0
set_option maxHeartbeats 4000000 in
set_option maxRecDepth 100000 in
theorem c_X10_numberDue (l : Launch) {D : wD} {cy : Nat → ClassId} {X : va_W} {S0 : wS} {post : Int32 → wS → Prop} {a0 : Nat} (hL_a0 : wM D S0 a0) (hK_a0 : sK S0 a0 = 15) (hp : wp_X10_numberDue D post S0 a0) : mI D cy X l yX10_numberDue wz_X10_numberDue r_X10_numberDue [.ref a0] S0 (fun r S9 => wX D S0 S9 ∧ post r S9) := by
  intro sz
  refine Met.ofW (cc := cX10_numberDue) (maxL := 6) (ret := (some .int)) (by decide) rfl ?_
  intro p e s m args below meth c s₁ B hml hv
  obtain ⟨rfl, hsz, hP, hK, hD0, hRO⟩ := hv
  have hts := atoms_spec (ws := wz_X10_numberDue) B.pre
  have hown : s.vm.findClass RX10 = some m.cls := findClass_of_methodNamed B.named
  subst hsz
  have hD := hD0.self (sz := s.heap.size)
  have F : CallFix p m c cX10_numberDue 6 s _ wz_X10_numberDue RX10 := ⟨B.exec, B.bytes, hml, hown, hts⟩
  have hr := B.returns
  have hlocks := B.notSynchronized
  generalize hAe : va_A (wL cy X S0) s.heap.size = A at hD hK ⊢
  have hA : ∀ q, s.heap.size ≤ q → A q := fun q h => by rw [← hAe]; exact Or.inr h
  have hW : wO D cy X A s.heap S0 s.heap [] := ⟨hP, hD, va_S.rf, hA, hRO⟩
  have hl := lv_entry ([.ref a0]) (n := 6) (Nat.le_of_ble_eq_true rfl)
  rw [lg_entry_eq]
  generalize (lg_sl ([.ref a0]) ++ List.replicate (6 - (lg_sl ([.ref a0])).length) Slot.unset).toArray = ls at hl ⊢
  have hl : lv_has ls 6 [(0, .ref a0)] := hl
  unfold wp_X10_numberDue at hp
  exact t_X10_numberDue_0 F hr hlocks hK hp hW wX.rf (lv_sub hl [0] rfl) hL_a0 hK_a0
def wp_X10_passing_56 (D : wD) (post : Int32 → wS → Prop) (k_5 : wS → Nat → Nat → Int32 → Int32 → Int32 → Prop) (S : wS) (a0 : Nat) (a1 : Nat) (x2 : Int32) (x3 : Int32) (x4 : Int32) : Prop :=
∀ x_1 : Int32, x_1 = x4 + 1 →
k_5 S a0 a1 x2 x3 x_1
def wp_X10_passing_44 (D : wD) (post : Int32 → wS → Prop) (k_5 : wS → Nat → Nat → Int32 → Int32 → Int32 → Prop) (S : wS) (a0 : Nat) (a1 : Nat) (x2 : Int32) (x3 : Int32) (x4 : Int32) (a5 : Nat) : Prop :=
wp_X3_passesThrough D (fun r_1 S_2 => 
((r_1 = 0 → wp_X10_passing_56 D post k_5 S_2 a0 a1 x2 x3 x4) ∧
 (¬ r_1 = 0 → ∀ x_4 : Int32, x_4 = x3 + 1 →
wp_X10_passing_56 D post k_5 S_2 a0 a1 x2 x_4 x4))) S a5 a1
def wp_X10_passing_5 (D : wD) (post : Int32 → wS → Prop)  : Nat → wS → Nat → Nat → Int32 → Int32 → Int32 → Prop
  | 0, _, _, _, _, _, _ => False
  | n + 1, S, a0, a1, x2, x3, x4 =>
    ∃ y_1 : Nat, sR S a0 0 = some y_1 ∧ wM D S y_1 ∧ sK S y_1 = 4 ∧
    wp_Jx4a65c_size_8abf5 D (fun r_2 S_3 => 
    ((r_2 ≤ x4 → post x3 S_3) ∧
     (¬ r_2 ≤ x4 → wp_X10_gameAt D (fun r_5 S_6 => 
    ((r_5 = none → wp_X10_passing_56 D post (wp_X10_passing_5 D post n) S_6 a0 a1 x2 x3 x4) ∧
     (∀ y_7 : Nat, r_5 = some y_7 → wM D S_6 y_7 ∧ sK S_6 y_7 = 8 ∧ ((x2 = (-1 : Int32) → wp_X10_passing_44 D post (wp_X10_passing_5 D post n) S_6 a0 a1 x2 x3 x4 y_7) ∧
     (¬ x2 = (-1 : Int32) → ((¬ (sI S_6 y_7 4) = x2 → wp_X10_passing_56 D post (wp_X10_passing_5 D post n) S_6 a0 a1 x2 x3 x4) ∧
     ((sI S_6 y_7 4) = x2 → wp_X10_passing_44 D post (wp_X10_passing_5 D post n) S_6 a0 a1 x2 x3 x4 y_7))))))) S_3 a0 x4))) S y_1
def wp_X10_passing_0 (D : wD) (post : Int32 → wS → Prop)  (S : wS) (a0 : Nat) (a1 : Nat) (x2 : Int32) : Prop :=
∃ n_1 : Nat, wp_X10_passing_5 D post n_1 S a0 a1 x2 (0 : Int32) (0 : Int32)
abbrev r_X10_passing : Room := { frames := 4, cells := 0, slots := 0, locals := 87 }
def wp_X10_passing (D : wD) (post : Int32 → wS → Prop) (S : wS) (a0 : Nat) (a1 : Nat) (x2 : Int32) : Prop := wp_X10_passing_0 D post S a0 a1 x2
set_option maxHeartbeats 4000000 in
set_option maxRecDepth 100000 in
theorem t_X10_passing_56 {p : Program} {l : Launch} {e : Env} {s : State} {m : MethodId} {args : Array Value} {below : List Frame} {meth : Method} {c : Code} {D : wD} {cy : Nat → ClassId} {X : va_W} {A : Nat → Prop} {S0 : wS} {post : Int32 → wS → Prop} (F : CallFix p m c cX10_passing 6 s args wz_X10_passing RX10) (hr : meth.sig.returnType = (some .int)) (hlocks : meth.locks = false) (hK : wK D cy A s) {k_5 : wS → Nat → Nat → Int32 → Int32 → Int32 → Prop} (q_5 : ∀ {S : wS} {H : Heap} {locs : List Loc} {ls : Array Slot} {a0 : Nat} {a1 : Nat} {x2 : Int32} {x3 : Int32} {x4 : Int32}, k_5 S a0 a1 x2 x3 x4 → wO D cy X A s.heap S H locs → wX D S0 S → lv_has ls 6 [(0, .ref a0), (1, .ref a1), (2, .int x2), (3, .int x3), (4, .int x4)] → wM D S a0 → sK S a0 = 15 → wM D S a1 → sK S a1 = 12 → W p l e r_X10_passing s m args below meth c H locs 0 0 (MQ below (va_Qi (fun r S9 => wX D S0 S9 ∧ post r S9) (wB D cy X A) A) args s 0 0 A) (F0 m 5 ls [])) : ∀ {S : wS} {H : Heap} {locs : List Loc} {ls : Array Slot} {a0 : Nat} {a1 : Nat} {x2 : Int32} {x3 : Int32} {x4 : Int32}, wp_X10_passing_56 D post k_5 S a0 a1 x2 x3 x4 → wO D cy X A s.heap S H locs → wX D S0 S → lv_has ls 6 [(0, .ref a0), (1, .ref a1), (2, .int x2), (3, .int x3), (4, .int x4)] → wM D S a0 → sK S a0 = 15 → wM D S a1 → sK S a1 = 12 → W p l e r_X10_passing s m args below meth c H locs 0 0 (MQ below (va_Qi (fun r S9 => wX D S0 S9 ∧ post r S9) (wB D cy X A) A) args s 0 0 A) (F0 m 56 ls []) := by
  obtain ⟨hx, hb, hml, hown, hts⟩ := id F
  have hwg : ∀ w ∈ WG, w.before args s = true := fun w h => hts w (List.mem_cons_of_mem _ h)
  intro S H locs ls a0 a1 x2 x3 x4 hp hW hE hl hL_a0 hK_a0 hL_a1 hK_a1
  unfold wp_X10_passing_56 at hp
  obtain ⟨x_1, ex_1⟩ : ∃ z : Int32, z = x4 + 1 := ⟨_, rfl⟩
  replace hp := hp x_1 ex_1
  refine lv_iinc (v := x_1) (lv' := [(4, .int x_1), (0, .ref a0), (1, .ref a1), (2, .int x2), (3, .int x3)]) hx hb dX10_passing_56 hl (k := 4) rfl (by rw [ex_1]; rfl) (by decide) rfl (fun ls hl => ?_)
  refine lv_goto (tgt := 5) hx hb dX10_passing_59 (by decide) ?_
  exact q_5 hp hW hE (lv_sub hl [1, 2, 3, 4, 0] rfl) hL_a0 hK_a0 hL_a1 hK_a1
set_option maxHeartbeats 4000000 in
set_option maxRecDepth 100000 in
theorem t_X10_passing_44 {p : Program} {l : Launch} {e : Env} {s : State} {m : MethodId} {args : Array Value} {below : List Frame} {meth : Method} {c : Code} {D : wD} {cy : Nat → ClassId} {X : va_W} {A : Nat → Prop} {S0 : wS} {post : Int32 → wS → Prop} (F : CallFix p m c cX10_passing 6 s args wz_X10_passing RX10) (hr : meth.sig.returnType = (some .int)) (hlocks : meth.locks = false) (hK : wK D cy A s) {k_5 : wS → Nat → Nat → Int32 → Int32 → Int32 → Prop} (q_5 : ∀ {S : wS} {H : Heap} {locs : List Loc} {ls : Array Slot} {a0 : Nat} {a1 : Nat} {x2 : Int32} {x3 : Int32} {x4 : Int32}, k_5 S a0 a1 x2 x3 x4 → wO D cy X A s.heap S H locs → wX D S0 S → lv_has ls 6 [(0, .ref a0), (1, .ref a1), (2, .int x2), (3, .int x3), (4, .int x4)] → wM D S a0 → sK S a0 = 15 → wM D S a1 → sK S a1 = 12 → W p l e r_X10_passing s m args below meth c H locs 0 0 (MQ below (va_Qi (fun r S9 => wX D S0 S9 ∧ post r S9) (wB D cy X A) A) args s 0 0 A) (F0 m 5 ls [])) : ∀ {S : wS} {H : Heap} {locs : List Loc} {ls : Array Slot} {a0 : Nat} {a1 : Nat} {x2 : Int32} {x3 : Int32} {x4 : Int32} {a5 : Nat}, wp_X10_passing_44 D post k_5 S a0 a1 x2 x3 x4 a5 → wO D cy X A s.heap S H locs → wX D S0 S → lv_has ls 6 [(0, .ref a0), (1, .ref a1), (2, .int x2), (3, .int x3), (4, .int x4), (5, .ref a5)] → wM D S a0 → sK S a0 = 15 → wM D S a1 → sK S a1 = 12 → wM D S a5 → sK S a5 = 8 → W p l e r_X10_passing s m args below meth c H locs 0 0 (MQ below (va_Qi (fun r S9 => wX D S0 S9 ∧ post r S9) (wB D cy X A) A) args s 0 0 A) (F0 m 44 ls []) := by
  obtain ⟨hx, hb, hml, hown, hts⟩ := id F
  have hwg : ∀ w ∈ WG, w.before args s = true := fun w h => hts w (List.mem_cons_of_mem _ h)
  intro S H locs ls a0 a1 x2 x3 x4 a5 hp hW hE hl hL_a0 hK_a0 hL_a1 hK_a1 hL_a5 hK_a5
  unfold wp_X10_passing_44 at hp
  refine lv_aload hx hb dX10_passing_44 (lv_at hl 5 rfl) ?_
  refine lv_aload_n hx hb dX10_passing_46 rfl (lv_at hl 1 rfl) ?_
  refine w_callI (va_runV (As := [.ref a1]) (rest := []) F (c_X3_passesThrough l hL_a5 hK_a5 hL_a1 hK_a1 hp H.size) (cwV (C := RX3) 1 hts (wg_V wm_RX10_80 wy_X3_passesThrough) rfl rfl rfl (by decide +kernel) ⟨Nat.le_of_ble_eq_true rfl, Nat.le_of_ble_eq_true rfl⟩) (w_preV hK hW hL_a5 hK_a5 (by decide) rfl) rfl rfl hl.1 rfl (lv_room (Nat.le_of_ble_eq_true rfl)) dX10_passing_47 ⟨Nat.le_of_ble_eq_true rfl, Nat.le_of_ble_eq_true rfl⟩) hW (fun r_1 S_2 H locs hp hW => ?_)
  obtain ⟨hX_S_2, hp⟩ := hp
  refine W.widen (k := 0) (n := 0) (by decide) (by decide) ?_
  have hE := hE.trans hX_S_2
  have hK_a0 : sK S_2 a0 = 15 := (hX_S_2.2 a0 hL_a0).1.trans hK_a0
  have hL_a0 : wM D S_2 a0 := hX_S_2.M hL_a0
  have hK_a1 : sK S_2 a1 = 12 := (hX_S_2.2 a1 hL_a1).1.trans hK_a1
  have hL_a1 : wM D S_2 a1 := hX_S_2.M hL_a1
  have hK_a5 : sK S_2 a5 = 8 := (hX_S_2.2 a5 hL_a5).1.trans hK_a5
  have hL_a5 : wM D S_2 a5 := hX_S_2.M hL_a5
  refine lv_if_eq (tgt := 56) hx hb dX10_passing_50 (by decide) (fun c_3 => ?_) (fun c_3 => ?_)
  · replace hp := hp.1 c_3
    exact t_X10_passing_56 F hr hlocks hK q_5 hp hW hE (lv_sub hl [0, 1, 2, 3, 4] rfl) hL_a0 hK_a0 hL_a1 hK_a1
  · replace hp := hp.2 c_3
    obtain ⟨x_4, ex_4⟩ : ∃ z : Int32, z = x3 + 1 := ⟨_, rfl⟩
    replace hp := hp x_4 ex_4
    refine lv_iinc (v := x_4) (lv' := [(3, .int x_4), (0, .ref a0), (1, .ref a1), (2, .int x2), (4, .int x4), (5, .ref a5)]) hx hb dX10_passing_53 hl (k := 3) rfl (by rw [ex_4]; rfl) (by decide) rfl (fun ls hl => ?_)
    exact t_X10_passing_56 F hr hlocks hK q_5 hp hW hE (lv_sub hl [1, 2, 3, 0, 4] rfl) hL_a0 hK_a0 hL_a1 hK_a1
set_option maxHeartbeats 4000000 in
set_option maxRecDepth 100000 in
theorem t_X10_passing_5 {p : Program} {l : Launch} {e : Env} {s : State} {m : MethodId} {args : Array Value} {below : List Frame} {meth : Method} {c : Code} {D : wD} {cy : Nat → ClassId} {X : va_W} {A : Nat → Prop} {S0 : wS} {post : Int32 → wS → Prop} (F : CallFix p m c cX10_passing 6 s args wz_X10_passing RX10) (hr : meth.sig.returnType = (some .int)) (hlocks : meth.locks = false) (hK : wK D cy A s) : ∀ (n : Nat) {S : wS} {H : Heap} {locs : List Loc} {ls : Array Slot} {a0 : Nat} {a1 : Nat} {x2 : Int32} {x3 : Int32} {x4 : Int32}, wp_X10_passing_5 D post n S a0 a1 x2 x3 x4 → wO D cy X A s.heap S H locs → wX D S0 S → lv_has ls 6 [(0, .ref a0), (1, .ref a1), (2, .int x2), (3, .int x3), (4, .int x4)] → wM D S a0 → sK S a0 = 15 → wM D S a1 → sK S a1 = 12 → W p l e r_X10_passing s m args below meth c H locs 0 0 (MQ below (va_Qi (fun r S9 => wX D S0 S9 ∧ post r S9) (wB D cy X A) A) args s 0 0 A) (F0 m 5 ls []) := by
  obtain ⟨hx, hb, hml, hown, hts⟩ := id F
  have hwg : ∀ w ∈ WG, w.before args s = true := fun w h => hts w (List.mem_cons_of_mem _ h)
  have i_15 : ∀ w ∈ u_ws RX10 TX10 1, w ∈ wz_X10_passing := fun w h => List.mem_cons_of_mem _ (wu_15 w h)
  have i_8 : ∀ w ∈ u_ws RX3 TX3 9, w ∈ wz_X10_passing := fun w h => List.mem_cons_of_mem _ (wu_8 w h)
  have k_12 := hwg _ wf_RX10_12
  intro n
  induction n with
  | zero =>
    intro S H locs ls a0 a1 x2 x3 x4 hp
    exact hp.elim
  | succ n ih =>
    intro S H locs ls a0 a1 x2 x3 x4 hp hW hE hl hL_a0 hK_a0 hL_a1 hK_a1
    unfold wp_X10_passing_5 at hp
    refine lv_iload hx hb dX10_passing_5 (lv_at hl 4 rfl) ?_
    refine lv_aload_n hx hb dX10_passing_7 rfl (lv_at hl 0 rfl) ?_
    obtain ⟨y_1, ey_1, hL_y_1, hK_y_1, hp⟩ := hp
    refine w_get (k := 15) (f := 0) (T := TX10) (v := .ref y_1) F hK hW hL_a0 hK_a0 (by decide) rfl rfl (by decide) i_15 k_12 (by rw [show wv 15 0 S a0 = va_rf (sR S a0 0) from rfl, ey_1]; rfl) dX10_passing_8 ?_
    refine w_callI (va_runV (As := []) (rest := [.int x4]) F (c_Jx4a65c_size_8abf5 l hL_y_1 hK_y_1 hp H.size) (cwV (C := RJx4a65c) 0 hts (wg_V wm_RX10_18 wy_Jx4a65c_size_8abf5) rfl rfl rfl (by decide +kernel) ⟨Nat.le_of_ble_eq_true rfl, Nat.le_of_ble_eq_true rfl⟩) (w_preV hK hW hL_y_1 hK_y_1 (by decide) rfl) rfl rfl hl.1 rfl (lv_room (Nat.le_of_ble_eq_true rfl)) dX10_passing_11 ⟨Nat.le_of_ble_eq_true rfl, Nat.le_of_ble_eq_true rfl⟩) hW (fun r_2 S_3 H locs hp hW => ?_)
    obtain ⟨hX_S_3, hp⟩ := hp
    refine W.widen (k := 0) (n := 0) (by decide) (by decide) ?_
    have hE := hE.trans hX_S_3
    have hK_a0 : sK S_3 a0 = 15 := (hX_S_3.2 a0 hL_a0).1.trans hK_a0
    have hL_a0 : wM D S_3 a0 := hX_S_3.M hL_a0
    have hK_a1 : sK S_3 a1 = 12 := (hX_S_3.2 a1 hL_a1).1.trans hK_a1
    have hL_a1 : wM D S_3 a1 := hX_S_3.M hL_a1
    refine lv_icmp_ge (tgt := 62) hx hb dX10_passing_14 (by decide) (fun c_4 => ?_) (fun c_4 => ?_)
    · replace hp := hp.1 c_4
      refine lv_iload_n hx hb dX10_passing_62 rfl (lv_at hl 3 rfl) ?_
      exact w_iret hx hb hr hlocks hW ⟨hE, hp⟩ dX10_passing_63
    · replace hp := hp.2 c_4
      refine lv_aload_n hx hb dX10_passing_17 rfl (lv_at hl 0 rfl) ?_
      refine lv_iload hx hb dX10_passing_18 (lv_at hl 4 rfl) ?_
      refine w_callR (va_runV (As := [.int x4]) (rest := []) F (c_X10_gameAt l hL_a0 hK_a0 hp H.size) (cwV (C := RX10) 1 hts (wg_V wm_RX10_51 wy_X10_gameAt) rfl rfl rfl (by decide +kernel) ⟨Nat.le_of_ble_eq_true rfl, Nat.le_of_ble_eq_true rfl⟩) (w_preV hK hW hL_a0 hK_a0 (by decide) rfl) rfl rfl hl.1 rfl (lv_room (Nat.le_of_ble_eq_true rfl)) dX10_passing_20 ⟨Nat.le_of_ble_eq_true rfl, Nat.le_of_ble_eq_true rfl⟩) hW (fun r_5 S_6 H locs hp hW => ?_)
      obtain ⟨hX_S_6, hp⟩ := hp
      refine W.widen (k := 0) (n := 0) (by decide) (by decide) ?_
      have hE := hE.trans hX_S_6
      have hK_a0 : sK S_6 a0 = 15 := (hX_S_6.2 a0 hL_a0).1.trans hK_a0
      have hL_a0 : wM D S_6 a0 := hX_S_6.M hL_a0
      have hK_a1 : sK S_6 a1 = 12 := (hX_S_6.2 a1 hL_a1).1.trans hK_a1
      have hL_a1 : wM D S_6 a1 := hX_S_6.M hL_a1
      refine w_astore (lv' := [(5, va_rf r_5), (0, .ref a0), (1, .ref a1), (2, .int x2), (3, .int x3), (4, .int x4)]) hx hb dX10_passing_23 hl (by decide) rfl (fun ls hl => ?_)
      refine w_aload hx hb dX10_passing_25 (lv_at hl 0 rfl) ?_
      refine w_ifnull (tgt := 56) hx hb dX10_passing_27 (by decide) (fun h_8 => ?_) (fun y_7 h_8 => ?_)
      · replace hp := hp.1 h_8
        subst h_8
        exact t_X10_passing_56 F hr hlocks hK ih hp hW hE (lv_sub hl [1, 2, 3, 4, 5] rfl) hL_a0 hK_a0 hL_a1 hK_a1
      · obtain ⟨hL_y_7, hK_y_7, hp⟩ := hp.2 y_7 h_8
        subst h_8
        refine lv_iload_n hx hb dX10_passing_30 rfl (lv_at hl 3 rfl) ?_
        refine lv_iconst (v := (-1)) hx hb dX10_passing_31 (by decide) ?_
        refine lv_icmp_eq (tgt := 44) hx hb dX10_passing_32 (by decide) (fun c_9 => ?_) (fun c_9 => ?_)
        · replace hp := hp.1 c_9
          exact t_X10_passing_44 F hr hlocks hK ih hp hW hE (lv_sub hl [1, 2, 3, 4, 5, 0] rfl) hL_a0 hK_a0 hL_a1 hK_a1 hL_y_7 hK_y_7
        · replace hp := hp.2 c_9
          refine lv_aload hx hb dX10_passing_35 (lv_at hl 0 rfl) ?_
          refine w_getN (k := 8) (f := 4) (T := TX3) (v := .int (sI S_6 y_7 4)) F hK hW hL_y_7 hK_y_7 (by decide) rfl rfl (by decide) i_8 (hK.2.1 (.fieldLinkNest "OpeningsCabinet$Shelf" 77 "OpeningsCabinet$Game" "result" "I" "OpeningsCabinet") (by decide +kernel)) rfl dX10_passing_37 ?_
          refine lv_iload_n hx hb dX10_passing_40 rfl (lv_at hl 3 rfl) ?_
          refine lv_icmp_ne (tgt := 56) hx hb dX10_passing_41 (by decide) (fun c_10 => ?_) (fun c_10 => ?_)
          · replace hp := hp.1 c_10
            exact t_X10_passing_56 F hr hlocks hK ih hp hW hE (lv_sub hl [1, 2, 3, 4, 5] rfl) hL_a0 hK_a0 hL_a1 hK_a1
          · replace hp := hp.2 c_10
            exact t_X10_passing_44 F hr hlocks hK ih hp hW hE (lv_sub hl [1, 2, 3, 4, 5, 0] rfl) hL_a0 hK_a0 hL_a1 hK_a1 hL_y_7 hK_y_7
set_option maxHeartbeats 4000000 in
set_option maxRecDepth 100000 in
theorem t_X10_passing_0 {p : Program} {l : Launch} {e : Env} {s : State} {m : MethodId} {args : Array Value} {below : List Frame} {meth : Method} {c : Code} {D : wD} {cy : Nat → ClassId} {X : va_W} {A : Nat → Prop} {S0 : wS} {post : Int32 → wS → Prop} (F : CallFix p m c cX10_passing 6 s args wz_X10_passing RX10) (hr : meth.sig.returnType = (some .int)) (hlocks : meth.locks = false) (hK : wK D cy A s) : ∀ {S : wS} {H : Heap} {locs : List Loc} {ls : Array Slot} {a0 : Nat} {a1 : Nat} {x2 : Int32}, wp_X10_passing_0 D post S a0 a1 x2 → wO D cy X A s.heap S H locs → wX D S0 S → lv_has ls 6 [(0, .ref a0), (1, .ref a1), (2, .int x2)] → wM D S a0 → sK S a0 = 15 → wM D S a1 → sK S a1 = 12 → W p l e r_X10_passing s m args below meth c H locs 0 0 (MQ below (va_Qi (fun r S9 => wX D S0 S9 ∧ post r S9) (wB D cy X A) A) args s 0 0 A) (F0 m 0 ls []) := by
  obtain ⟨hx, hb, hml, hown, hts⟩ := id F
  have hwg : ∀ w ∈ WG, w.before args s = true := fun w h => hts w (List.mem_cons_of_mem _ h)
  intro S H locs ls a0 a1 x2 hp hW hE hl hL_a0 hK_a0 hL_a1 hK_a1
  unfold wp_X10_passing_0 at hp
  refine lv_iconst (v := 0) hx hb dX10_passing_0 (by decide) ?_
  refine lv_istore_n (lv' := [(3, .int (0 : Int32)), (0, .ref a0), (1, .ref a1), (2, .int x2)]) hx hb dX10_passing_1 rfl hl (by decide) rfl (fun ls hl => ?_)
  refine lv_iconst (v := 0) hx hb dX10_passing_2 (by decide) ?_
  refine lv_istore (lv' := [(4, .int (0 : Int32)), (3, .int (0 : Int32)), (0, .ref a0), (1, .ref a1), (2, .int x2)]) hx hb dX10_passing_3 hl (by decide) rfl (fun ls hl => ?_)
  obtain ⟨n_1, hp⟩ := hp
  exact t_X10_passing_5 F hr hlocks hK n_1 hp hW hE (lv_sub hl [2, 3, 4, 1, 0] rfl) hL_a0 hK_a0 hL_a1 hK_a1
set_option maxHeartbeats 4000000 in
set_option maxRecDepth 100000 in
theorem c_X10_passing (l : Launch) {D : wD} {cy : Nat → ClassId} {X : va_W} {S0 : wS} {post : Int32 → wS → Prop} {a0 : Nat} {a1 : Nat} {x2 : Int32} (hL_a0 : wM D S0 a0) (hK_a0 : sK S0 a0 = 15) (hL_a1 : wM D S0 a1) (hK_a1 : sK S0 a1 = 12) (hp : wp_X10_passing D post S0 a0 a1 x2) : mI D cy X l yX10_passing wz_X10_passing r_X10_passing [.ref a0, .ref a1, .int x2] S0 (fun r S9 => wX D S0 S9 ∧ post r S9) := by
  intro sz
  refine Met.ofW (cc := cX10_passing) (maxL := 6) (ret := (some .int)) (by decide) rfl ?_
  intro p e s m args below meth c s₁ B hml hv
  obtain ⟨rfl, hsz, hP, hK, hD0, hRO⟩ := hv
  have hts := atoms_spec (ws := wz_X10_passing) B.pre
  have hown : s.vm.findClass RX10 = some m.cls := findClass_of_methodNamed B.named
  subst hsz
  have hD := hD0.self (sz := s.heap.size)
  have F : CallFix p m c cX10_passing 6 s _ wz_X10_passing RX10 := ⟨B.exec, B.bytes, hml, hown, hts⟩
  have hr := B.returns
  have hlocks := B.notSynchronized
  generalize hAe : va_A (wL cy X S0) s.heap.size = A at hD hK ⊢
  have hA : ∀ q, s.heap.size ≤ q → A q := fun q h => by rw [← hAe]; exact Or.inr h
  have hW : wO D cy X A s.heap S0 s.heap [] := ⟨hP, hD, va_S.rf, hA, hRO⟩
  have hl := lv_entry ([.ref a0, .ref a1, .int x2]) (n := 6) (Nat.le_of_ble_eq_true rfl)
  rw [lg_entry_eq]
  generalize (lg_sl ([.ref a0, .ref a1, .int x2]) ++ List.replicate (6 - (lg_sl ([.ref a0, .ref a1, .int x2])).length) Slot.unset).toArray = ls at hl ⊢
  have hl : lv_has ls 6 [(0, .ref a0), (1, .ref a1), (2, .int x2)] := hl
  unfold wp_X10_passing at hp
  exact t_X10_passing_0 F hr hlocks hK hp hW wX.rf (lv_sub hl [0, 1, 2] rfl) hL_a0 hK_a0 hL_a1 hK_a1
def wp_X10_passingInYears_61 (D : wD) (post : Int32 → wS → Prop) (k_6 : wS → Nat → Nat → Int32 → Int32 → Int32 → Int32 → Prop) (S : wS) (a0 : Nat) (a1 : Nat) (x2 : Int32) (x3 : Int32) (x4 : Int32) (x5 : Int32) : Prop :=
∀ x_1 : Int32, x_1 = x5 + 1 →
k_6 S a0 a1 x2 x3 x4 x_1
def wp_X10_passingInYears_6 (D : wD) (post : Int32 → wS → Prop)  : Nat → wS → Nat → Nat → Int32 → Int32 → Int32 → Int32 → Prop
  | 0, _, _, _, _, _, _, _ => False
  | n + 1, S, a0, a1, x2, x3, x4, x5 =>
    ∃ y_1 : Nat, sR S a0 0 = some y_1 ∧ wM D S y_1 ∧ sK S y_1 = 4 ∧
    wp_Jx4a65c_size_8abf5 D (fun r_2 S_3 => 
    ((r_2 ≤ x5 → post x4 S_3) ∧
     (¬ r_2 ≤ x5 → wp_X10_gameAt D (fun r_5 S_6 => 
    ((r_5 = none → wp_X10_passingInYears_61 D post (wp_X10_passingInYears_6 D post n) S_6 a0 a1 x2 x3 x4 x5) ∧
     (∀ y_7 : Nat, r_5 = some y_7 → wM D S_6 y_7 ∧ sK S_6 y_7 = 8 ∧ (((sI S_6 y_7 5) < x2 → wp_X10_passingInYears_61 D post (wp_X10_passingInYears_6 D post n) S_6 a0 a1 x2 x3 x4 x5) ∧
     (¬ (sI S_6 y_7 5) < x2 → ((x3 < (sI S_6 y_7 5) → wp_X10_passingInYears_61 D post (wp_X10_passingInYears_6 D post n) S_6 a0 a1 x2 x3 x4 x5) ∧
     (¬ x3 < (sI S_6 y_7 5) → wp_X3_passesThrough D (fun r_11 S_12 => 
    ((r_11 = 0 → wp_X10_passingInYears_61 D post (wp_X10_passingInYears_6 D post n) S_12 a0 a1 x2 x3 x4 x5) ∧
     (¬ r_11 = 0 → ∀ x_14 : Int32, x_14 = x4 + 1 →
    wp_X10_passingInYears_61 D post (wp_X10_passingInYears_6 D post n) S_12 a0 a1 x2 x3 x_14 x5))) S_6 y_7 a1))))))) S_3 a0 x5))) S y_1
def wp_X10_passingInYears_0 (D : wD) (post : Int32 → wS → Prop)  (S : wS) (a0 : Nat) (a1 : Nat) (x2 : Int32) (x3 : Int32) : Prop :=
∃ n_1 : Nat, wp_X10_passingInYears_6 D post n_1 S a0 a1 x2 x3 (0 : Int32) (0 : Int32)
abbrev r_X10_passingInYears : Room := { frames := 4, cells := 0, slots := 0, locals := 87 }
def wp_X10_passingInYears (D : wD) (post : Int32 → wS → Prop) (S : wS) (a0 : Nat) (a1 : Nat) (x2 : Int32) (x3 : Int32) : Prop := wp_X10_passingInYears_0 D post S a0 a1 x2 x3
set_option maxHeartbeats 4000000 in
set_option maxRecDepth 100000 in
theorem t_X10_passingInYears_61 {p : Program} {l : Launch} {e : Env} {s : State} {m : MethodId} {args : Array Value} {below : List Frame} {meth : Method} {c : Code} {D : wD} {cy : Nat → ClassId} {X : va_W} {A : Nat → Prop} {S0 : wS} {post : Int32 → wS → Prop} (F : CallFix p m c cX10_passingInYears 7 s args wz_X10_passingInYears RX10) (hr : meth.sig.returnType = (some .int)) (hlocks : meth.locks = false) (hK : wK D cy A s) {k_6 : wS → Nat → Nat → Int32 → Int32 → Int32 → Int32 → Prop} (q_6 : ∀ {S : wS} {H : Heap} {locs : List Loc} {ls : Array Slot} {a0 : Nat} {a1 : Nat} {x2 : Int32} {x3 : Int32} {x4 : Int32} {x5 : Int32}, k_6 S a0 a1 x2 x3 x4 x5 → wO D cy X A s.heap S H locs → wX D S0 S → lv_has ls 7 [(0, .ref a0), (1, .ref a1), (2, .int x2), (3, .int x3), (4, .int x4), (5, .int x5)] → wM D S a0 → sK S a0 = 15 → wM D S a1 → sK S a1 = 12 → W p l e r_X10_passingInYears s m args below meth c H locs 0 0 (MQ below (va_Qi (fun r S9 => wX D S0 S9 ∧ post r S9) (wB D cy X A) A) args s 0 0 A) (F0 m 6 ls [])) : ∀ {S : wS} {H : Heap} {locs : List Loc} {ls : Array Slot} {a0 : Nat} {a1 : Nat} {x2 : Int32} {x3 : Int32} {x4 : Int32} {x5 : Int32}, wp_X10_passingInYears_61 D post k_6 S a0 a1 x2 x3 x4 x5 → wO D cy X A s.heap S H locs → wX D S0 S → lv_has ls 7 [(0, .ref a0), (1, .ref a1), (2, .int x2), (3, .int x3), (4, .int x4), (5, .int x5)] → wM D S a0 → sK S a0 = 15 → wM D S a1 → sK S a1 = 12 → W p l e r_X10_passingInYears s m args below meth c H locs 0 0 (MQ below (va_Qi (fun r S9 => wX D S0 S9 ∧ post r S9) (wB D cy X A) A) args s 0 0 A) (F0 m 61 ls []) := by
  obtain ⟨hx, hb, hml, hown, hts⟩ := id F
  have hwg : ∀ w ∈ WG, w.before args s = true := fun w h => hts w (List.mem_cons_of_mem _ h)
  intro S H locs ls a0 a1 x2 x3 x4 x5 hp hW hE hl hL_a0 hK_a0 hL_a1 hK_a1
  unfold wp_X10_passingInYears_61 at hp
  obtain ⟨x_1, ex_1⟩ : ∃ z : Int32, z = x5 + 1 := ⟨_, rfl⟩
  replace hp := hp x_1 ex_1
  refine lv_iinc (v := x_1) (lv' := [(5, .int x_1), (0, .ref a0), (1, .ref a1), (2, .int x2), (3, .int x3), (4, .int x4)]) hx hb dX10_passingInYears_61 hl (k := 5) rfl (by rw [ex_1]; rfl) (by decide) rfl (fun ls hl => ?_)
  refine lv_goto (tgt := 6) hx hb dX10_passingInYears_64 (by decide) ?_
  exact q_6 hp hW hE (lv_sub hl [1, 2, 3, 4, 5, 0] rfl) hL_a0 hK_a0 hL_a1 hK_a1
set_option maxHeartbeats 4000000 in
set_option maxRecDepth 100000 in
theorem t_X10_passingInYears_6 {p : Program} {l : Launch} {e : Env} {s : State} {m : MethodId} {args : Array Value} {below : List Frame} {meth : Method} {c : Code} {D : wD} {cy : Nat → ClassId} {X : va_W} {A : Nat → Prop} {S0 : wS} {post : Int32 → wS → Prop} (F : CallFix p m c cX10_passingInYears 7 s args wz_X10_passingInYears RX10) (hr : meth.sig.returnType = (some .int)) (hlocks : meth.locks = false) (hK : wK D cy A s) : ∀ (n : Nat) {S : wS} {H : Heap} {locs : List Loc} {ls : Array Slot} {a0 : Nat} {a1 : Nat} {x2 : Int32} {x3 : Int32} {x4 : Int32} {x5 : Int32}, wp_X10_passingInYears_6 D post n S a0 a1 x2 x3 x4 x5 → wO D cy X A s.heap S H locs → wX D S0 S → lv_has ls 7 [(0, .ref a0), (1, .ref a1), (2, .int x2), (3, .int x3), (4, .int x4), (5, .int x5)] → wM D S a0 → sK S a0 = 15 → wM D S a1 → sK S a1 = 12 → W p l e r_X10_passingInYears s m args below meth c H locs 0 0 (MQ below (va_Qi (fun r S9 => wX D S0 S9 ∧ post r S9) (wB D cy X A) A) args s 0 0 A) (F0 m 6 ls []) := by
  obtain ⟨hx, hb, hml, hown, hts⟩ := id F
  have hwg : ∀ w ∈ WG, w.before args s = true := fun w h => hts w (List.mem_cons_of_mem _ h)
  have i_15 : ∀ w ∈ u_ws RX10 TX10 1, w ∈ wz_X10_passingInYears := fun w h => List.mem_cons_of_mem _ (wu_15 w h)
  have i_8 : ∀ w ∈ u_ws RX3 TX3 9, w ∈ wz_X10_passingInYears := fun w h => List.mem_cons_of_mem _ (wu_8 w h)
  have k_12 := hwg _ wf_RX10_12
  intro n
  induction n with
  | zero =>
    intro S H locs ls a0 a1 x2 x3 x4 x5 hp
    exact hp.elim
  | succ n ih =>
    intro S H locs ls a0 a1 x2 x3 x4 x5 hp hW hE hl hL_a0 hK_a0 hL_a1 hK_a1
    unfold wp_X10_passingInYears_6 at hp
    refine lv_iload hx hb dX10_passingInYears_6 (lv_at hl 5 rfl) ?_
    refine lv_aload_n hx hb dX10_passingInYears_8 rfl (lv_at hl 0 rfl) ?_
    obtain ⟨y_1, ey_1, hL_y_1, hK_y_1, hp⟩ := hp
    refine w_get (k := 15) (f := 0) (T := TX10) (v := .ref y_1) F hK hW hL_a0 hK_a0 (by decide) rfl rfl (by decide) i_15 k_12 (by rw [show wv 15 0 S a0 = va_rf (sR S a0 0) from rfl, ey_1]; rfl) dX10_passingInYears_9 ?_
    refine w_callI (va_runV (As := []) (rest := [.int x5]) F (c_Jx4a65c_size_8abf5 l hL_y_1 hK_y_1 hp H.size) (cwV (C := RJx4a65c) 0 hts (wg_V wm_RX10_18 wy_Jx4a65c_size_8abf5) rfl rfl rfl (by decide +kernel) ⟨Nat.le_of_ble_eq_true rfl, Nat.le_of_ble_eq_true rfl⟩) (w_preV hK hW hL_y_1 hK_y_1 (by decide) rfl) rfl rfl hl.1 rfl (lv_room (Nat.le_of_ble_eq_true rfl)) dX10_passingInYears_12 ⟨Nat.le_of_ble_eq_true rfl, Nat.le_of_ble_eq_true rfl⟩) hW (fun r_2 S_3 H locs hp hW => ?_)
    obtain ⟨hX_S_3, hp⟩ := hp
    refine W.widen (k := 0) (n := 0) (by decide) (by decide) ?_
    have hE := hE.trans hX_S_3
    have hK_a0 : sK S_3 a0 = 15 := (hX_S_3.2 a0 hL_a0).1.trans hK_a0
    have hL_a0 : wM D S_3 a0 := hX_S_3.M hL_a0
    have hK_a1 : sK S_3 a1 = 12 := (hX_S_3.2 a1 hL_a1).1.trans hK_a1
    have hL_a1 : wM D S_3 a1 := hX_S_3.M hL_a1
    refine lv_icmp_ge (tgt := 67) hx hb dX10_passingInYears_15 (by decide) (fun c_4 => ?_) (fun c_4 => ?_)
    · replace hp := hp.1 c_4
      refine lv_iload hx hb dX10_passingInYears_67 (lv_at hl 4 rfl) ?_
      exact w_iret hx hb hr hlocks hW ⟨hE, hp⟩ dX10_passingInYears_69
    · replace hp := hp.2 c_4
      refine lv_aload_n hx hb dX10_passingInYears_18 rfl (lv_at hl 0 rfl) ?_
      refine lv_iload hx hb dX10_passingInYears_19 (lv_at hl 5 rfl) ?_
      refine w_callR (va_runV (As := [.int x5]) (rest := []) F (c_X10_gameAt l hL_a0 hK_a0 hp H.size) (cwV (C := RX10) 1 hts (wg_V wm_RX10_51 wy_X10_gameAt) rfl rfl rfl (by decide +kernel) ⟨Nat.le_of_ble_eq_true rfl, Nat.le_of_ble_eq_true rfl⟩) (w_preV hK hW hL_a0 hK_a0 (by decide) rfl) rfl rfl hl.1 rfl (lv_room (Nat.le_of_ble_eq_true rfl)) dX10_passingInYears_21 ⟨Nat.le_of_ble_eq_true rfl, Nat.le_of_ble_eq_true rfl⟩) hW (fun r_5 S_6 H locs hp hW => ?_)
      obtain ⟨hX_S_6, hp⟩ := hp
      refine W.widen (k := 0) (n := 0) (by decide) (by decide) ?_
      have hE := hE.trans hX_S_6
      have hK_a0 : sK S_6 a0 = 15 := (hX_S_6.2 a0 hL_a0).1.trans hK_a0
      have hL_a0 : wM D S_6 a0 := hX_S_6.M hL_a0
      have hK_a1 : sK S_6 a1 = 12 := (hX_S_6.2 a1 hL_a1).1.trans hK_a1
      have hL_a1 : wM D S_6 a1 := hX_S_6.M hL_a1
      refine w_astore (lv' := [(6, va_rf r_5), (0, .ref a0), (1, .ref a1), (2, .int x2), (3, .int x3), (4, .int x4), (5, .int x5)]) hx hb dX10_passingInYears_24 hl (by decide) rfl (fun ls hl => ?_)
      refine w_aload hx hb dX10_passingInYears_26 (lv_at hl 0 rfl) ?_
      refine w_ifnull (tgt := 61) hx hb dX10_passingInYears_28 (by decide) (fun h_8 => ?_) (fun y_7 h_8 => ?_)
      · replace hp := hp.1 h_8
        subst h_8
        exact t_X10_passingInYears_61 F hr hlocks hK ih hp hW hE (lv_sub hl [1, 2, 3, 4, 5, 6] rfl) hL_a0 hK_a0 hL_a1 hK_a1
      · obtain ⟨hL_y_7, hK_y_7, hp⟩ := hp.2 y_7 h_8
        subst h_8
        refine lv_aload hx hb dX10_passingInYears_31 (lv_at hl 0 rfl) ?_
        refine w_getN (k := 8) (f := 5) (T := TX3) (v := .int (sI S_6 y_7 5)) F hK hW hL_y_7 hK_y_7 (by decide) rfl rfl (by decide) i_8 (hK.2.1 (.fieldLinkNest "OpeningsCabinet$Shelf" 84 "OpeningsCabinet$Game" "year" "I" "OpeningsCabinet") (by decide +kernel)) rfl dX10_passingInYears_33 ?_
        refine lv_iload_n hx hb dX10_passingInYears_36 rfl (lv_at hl 3 rfl) ?_
        refine lv_icmp_lt (tgt := 61) hx hb dX10_passingInYears_37 (by decide) (fun c_9 => ?_) (fun c_9 => ?_)
        · replace hp := hp.1 c_9
          exact t_X10_passingInYears_61 F hr hlocks hK ih hp hW hE (lv_sub hl [1, 2, 3, 4, 5, 6] rfl) hL_a0 hK_a0 hL_a1 hK_a1
        · replace hp := hp.2 c_9
          refine lv_aload hx hb dX10_passingInYears_40 (lv_at hl 0 rfl) ?_
          refine w_getN (k := 8) (f := 5) (T := TX3) (v := .int (sI S_6 y_7 5)) F hK hW hL_y_7 hK_y_7 (by decide) rfl rfl (by decide) i_8 (hK.2.1 (.fieldLinkNest "OpeningsCabinet$Shelf" 84 "OpeningsCabinet$Game" "year" "I" "OpeningsCabinet") (by decide +kernel)) rfl dX10_passingInYears_42 ?_
          refine lv_iload_n hx hb dX10_passingInYears_45 rfl (lv_at hl 4 rfl) ?_
          refine lv_icmp_gt (tgt := 61) hx hb dX10_passingInYears_46 (by decide) (fun c_10 => ?_) (fun c_10 => ?_)
          · replace hp := hp.1 c_10
            exact t_X10_passingInYears_61 F hr hlocks hK ih hp hW hE (lv_sub hl [1, 2, 3, 4, 5, 6] rfl) hL_a0 hK_a0 hL_a1 hK_a1
          · replace hp := hp.2 c_10
            refine lv_aload hx hb dX10_passingInYears_49 (lv_at hl 0 rfl) ?_
            refine lv_aload_n hx hb dX10_passingInYears_51 rfl (lv_at hl 2 rfl) ?_
            refine w_callI (va_runV (As := [.ref a1]) (rest := []) F (c_X3_passesThrough l hL_y_7 hK_y_7 hL_a1 hK_a1 hp H.size) (cwV (C := RX3) 1 hts (wg_V wm_RX10_80 wy_X3_passesThrough) rfl rfl rfl (by decide +kernel) ⟨Nat.le_of_ble_eq_true rfl, Nat.le_of_ble_eq_true rfl⟩) (w_preV hK hW hL_y_7 hK_y_7 (by decide) rfl) rfl rfl hl.1 rfl (lv_room (Nat.le_of_ble_eq_true rfl)) dX10_passingInYears_52 ⟨Nat.le_of_ble_eq_true rfl, Nat.le_of_ble_eq_true rfl⟩) hW (fun r_11 S_12 H locs hp hW => ?_)
            obtain ⟨hX_S_12, hp⟩ := hp
            refine W.widen (k := 0) (n := 0) (by decide) (by decide) ?_
            have hE := hE.trans hX_S_12
            have hK_a0 : sK S_12 a0 = 15 := (hX_S_12.2 a0 hL_a0).1.trans hK_a0
            have hL_a0 : wM D S_12 a0 := hX_S_12.M hL_a0
            have hK_a1 : sK S_12 a1 = 12 := (hX_S_12.2 a1 hL_a1).1.trans hK_a1
            have hL_a1 : wM D S_12 a1 := hX_S_12.M hL_a1
            have hK_y_7 : sK S_12 y_7 = 8 := (hX_S_12.2 y_7 hL_y_7).1.trans hK_y_7
            have hL_y_7 : wM D S_12 y_7 := hX_S_12.M hL_y_7
            refine lv_if_eq (tgt := 61) hx hb dX10_passingInYears_55 (by decide) (fun c_13 => ?_) (fun c_13 => ?_)
            · replace hp := hp.1 c_13
              exact t_X10_passingInYears_61 F hr hlocks hK ih hp hW hE (lv_sub hl [1, 2, 3, 4, 5, 6] rfl) hL_a0 hK_a0 hL_a1 hK_a1
            · replace hp := hp.2 c_13
              obtain ⟨x_14, ex_14⟩ : ∃ z : Int32, z = x4 + 1 := ⟨_, rfl⟩
              replace hp := hp x_14 ex_14
              refine lv_iinc (v := x_14) (lv' := [(4, .int x_14), (6, .ref y_7), (0, .ref a0), (1, .ref a1), (2, .int x2), (3, .int x3), (5, .int x5)]) hx hb dX10_passingInYears_58 hl (k := 5) rfl (by rw [ex_14]; rfl) (by decide) rfl (fun ls hl => ?_)
              exact t_X10_passingInYears_61 F hr hlocks hK ih hp hW hE (lv_sub hl [2, 3, 4, 5, 0, 6] rfl) hL_a0 hK_a0 hL_a1 hK_a1
set_option maxHeartbeats 4000000 in
set_option maxRecDepth 100000 in
theorem t_X10_passingInYears_0 {p : Program} {l : Launch} {e : Env} {s : State} {m : MethodId} {args : Array Value} {below : List Frame} {meth : Method} {c : Code} {D : wD} {cy : Nat → ClassId} {X : va_W} {A : Nat → Prop} {S0 : wS} {post : Int32 → wS → Prop} (F : CallFix p m c cX10_passingInYears 7 s args wz_X10_passingInYears RX10) (hr : meth.sig.returnType = (some .int)) (hlocks : meth.locks = false) (hK : wK D cy A s) : ∀ {S : wS} {H : Heap} {locs : List Loc} {ls : Array Slot} {a0 : Nat} {a1 : Nat} {x2 : Int32} {x3 : Int32}, wp_X10_passingInYears_0 D post S a0 a1 x2 x3 → wO D cy X A s.heap S H locs → wX D S0 S → lv_has ls 7 [(0, .ref a0), (1, .ref a1), (2, .int x2), (3, .int x3)] → wM D S a0 → sK S a0 = 15 → wM D S a1 → sK S a1 = 12 → W p l e r_X10_passingInYears s m args below meth c H locs 0 0 (MQ below (va_Qi (fun r S9 => wX D S0 S9 ∧ post r S9) (wB D cy X A) A) args s 0 0 A) (F0 m 0 ls []) := by
  obtain ⟨hx, hb, hml, hown, hts⟩ := id F
  have hwg : ∀ w ∈ WG, w.before args s = true := fun w h => hts w (List.mem_cons_of_mem _ h)
  intro S H locs ls a0 a1 x2 x3 hp hW hE hl hL_a0 hK_a0 hL_a1 hK_a1
  unfold wp_X10_passingInYears_0 at hp
  refine lv_iconst (v := 0) hx hb dX10_passingInYears_0 (by decide) ?_
  refine lv_istore (lv' := [(4, .int (0 : Int32)), (0, .ref a0), (1, .ref a1), (2, .int x2), (3, .int x3)]) hx hb dX10_passingInYears_1 hl (by decide) rfl (fun ls hl => ?_)
  refine lv_iconst (v := 0) hx hb dX10_passingInYears_3 (by decide) ?_
  refine lv_istore (lv' := [(5, .int (0 : Int32)), (4, .int (0 : Int32)), (0, .ref a0), (1, .ref a1), (2, .int x2), (3, .int x3)]) hx hb dX10_passingInYears_4 hl (by decide) rfl (fun ls hl => ?_)
  obtain ⟨n_1, hp⟩ := hp
  exact t_X10_passingInYears_6 F hr hlocks hK n_1 hp hW hE (lv_sub hl [2, 3, 4, 5, 1, 0] rfl) hL_a0 hK_a0 hL_a1 hK_a1
set_option maxHeartbeats 4000000 in
set_option maxRecDepth 100000 in
theorem c_X10_passingInYears (l : Launch) {D : wD} {cy : Nat → ClassId} {X : va_W} {S0 : wS} {post : Int32 → wS → Prop} {a0 : Nat} {a1 : Nat} {x2 : Int32} {x3 : Int32} (hL_a0 : wM D S0 a0) (hK_a0 : sK S0 a0 = 15) (hL_a1 : wM D S0 a1) (hK_a1 : sK S0 a1 = 12) (hp : wp_X10_passingInYears D post S0 a0 a1 x2 x3) : mI D cy X l yX10_passingInYears wz_X10_passingInYears r_X10_passingInYears [.ref a0, .ref a1, .int x2, .int x3] S0 (fun r S9 => wX D S0 S9 ∧ post r S9) := by
  intro sz
  refine Met.ofW (cc := cX10_passingInYears) (maxL := 7) (ret := (some .int)) (by decide) rfl ?_
  intro p e s m args below meth c s₁ B hml hv
  obtain ⟨rfl, hsz, hP, hK, hD0, hRO⟩ := hv
  have hts := atoms_spec (ws := wz_X10_passingInYears) B.pre
  have hown : s.vm.findClass RX10 = some m.cls := findClass_of_methodNamed B.named
  subst hsz
  have hD := hD0.self (sz := s.heap.size)
  have F : CallFix p m c cX10_passingInYears 7 s _ wz_X10_passingInYears RX10 := ⟨B.exec, B.bytes, hml, hown, hts⟩
  have hr := B.returns
  have hlocks := B.notSynchronized
  generalize hAe : va_A (wL cy X S0) s.heap.size = A at hD hK ⊢
  have hA : ∀ q, s.heap.size ≤ q → A q := fun q h => by rw [← hAe]; exact Or.inr h
  have hW : wO D cy X A s.heap S0 s.heap [] := ⟨hP, hD, va_S.rf, hA, hRO⟩
  have hl := lv_entry ([.ref a0, .ref a1, .int x2, .int x3]) (n := 7) (Nat.le_of_ble_eq_true rfl)
  rw [lg_entry_eq]
  generalize (lg_sl ([.ref a0, .ref a1, .int x2, .int x3]) ++ List.replicate (7 - (lg_sl ([.ref a0, .ref a1, .int x2, .int x3])).length) Slot.unset).toArray = ls at hl ⊢
  have hl : lv_has ls 7 [(0, .ref a0), (1, .ref a1), (2, .int x2), (3, .int x3)] := hl
  unfold wp_X10_passingInYears at hp
  exact t_X10_passingInYears_0 F hr hlocks hK hp hW wX.rf (lv_sub hl [0, 1, 2, 3] rfl) hL_a0 hK_a0 hL_a1 hK_a1
def wp_X10_positionsFitting_86 (D : wD) (post : Int32 → wS → Prop) (k_5 : wS → Nat → Nat → Nat → Int32 → Int32 → Prop) (S : wS) (a0 : Nat) (a1 : Nat) (a2 : Nat) (x3 : Int32) (x4 : Int32) : Prop :=
∀ x_1 : Int32, x_1 = x4 + 1 →
k_5 S a0 a1 a2 x3 x_1
def wp_X10_positionsFitting_78 (D : wD) (post : Int32 → wS → Prop) (k_5 : wS → Nat → Nat → Nat → Int32 → Int32 → Prop) (k_28 : wS → Nat → Nat → Nat → Int32 → Int32 → Option Nat → Int32 → Prop) (S : wS) (a0 : Nat) (a1 : Nat) (a2 : Nat) (x4 : Int32) (a5 : Nat) (x6 : Int32) (t0 : Int32) (t1 : Int32) : Prop :=
∀ x_1 : Int32, x_1 = (t0 + t1) →
∀ x_2 : Int32, x_2 = x6 + 1 →
k_28 S a0 a1 a2 x_1 x4 (some a5) x_2
def wp_X10_positionsFitting_77 (D : wD) (post : Int32 → wS → Prop) (k_5 : wS → Nat → Nat → Nat → Int32 → Int32 → Prop) (k_28 : wS → Nat → Nat → Nat → Int32 → Int32 → Option Nat → Int32 → Prop) (S : wS) (a0 : Nat) (a1 : Nat) (a2 : Nat) (x4 : Int32) (a5 : Nat) (x6 : Int32) (t0 : Int32) : Prop :=
wp_X10_positionsFitting_78 D post k_5 k_28 S a0 a1 a2 x4 a5 x6 t0 (0 : Int32)
def wp_X10_positionsFitting_28 (D : wD) (post : Int32 → wS → Prop) (k_5 : wS → Nat → Nat → Nat → Int32 → Int32 → Prop) : Nat → wS → Nat → Nat → Nat → Int32 → Int32 → Option Nat → Int32 → Prop
  | 0, _, _, _, _, _, _, _, _ => False
  | n + 1, S, a0, a1, a2, x3, x4, g5, x6 =>
    ((g5 = none → wp_X10_positionsFitting_86 D post k_5 S a0 a1 a2 x3 x4) ∧
     (∀ y_1 : Nat, g5 = some y_1 → wM D S y_1 ∧ sK S y_1 = 8 ∧ (((sI S y_1 3) < x6 → wp_X10_positionsFitting_86 D post k_5 S a0 a1 a2 x3 x4) ∧
     (¬ (sI S y_1 3) < x6 → ∃ y_4 : Nat, sR S y_1 0 = some y_4 ∧ wM D S y_4 ∧ sK S y_4 = 22 ∧
    wp_X7_load D (fun S_6 => 
    wp_X3_isFreshAt D (fun r_7 S_8 => 
    ((r_7 = 0 → wp_X10_positionsFitting_77 D post k_5 (wp_X10_positionsFitting_28 D post k_5 n) S_8 a0 a1 a2 x4 y_1 x6 x3) ∧
     (¬ r_7 = 0 → wp_X7_fits D (fun r_10 S_11 => 
    ((r_10 = 0 → wp_X10_positionsFitting_77 D post k_5 (wp_X10_positionsFitting_28 D post k_5 n) S_11 a0 a1 a2 x4 y_1 x6 x3) ∧
     (¬ r_10 = 0 → wp_X10_positionsFitting_78 D post k_5 (wp_X10_positionsFitting_28 D post k_5 n) S_11 a0 a1 a2 x4 y_1 x6 x3 (1 : Int32)))) S_8 a2 a1))) S_6 y_1 x6) S a2 y_4 x6))))
def wp_X10_positionsFitting_5 (D : wD) (post : Int32 → wS → Prop)  : Nat → wS → Nat → Nat → Nat → Int32 → Int32 → Prop
  | 0, _, _, _, _, _, _ => False
  | n + 1, S, a0, a1, a2, x3, x4 =>
    ∃ y_1 : Nat, sR S a0 0 = some y_1 ∧ wM D S y_1 ∧ sK S y_1 = 4 ∧
    wp_Jx4a65c_size_8abf5 D (fun r_2 S_3 => 
    ((r_2 ≤ x4 → post x3 S_3) ∧
     (¬ r_2 ≤ x4 → wp_X10_gameAt D (fun r_5 S_6 => 
    ∃ n_7 : Nat, wp_X10_positionsFitting_28 D post (wp_X10_positionsFitting_5 D post n) n_7 S_6 a0 a1 a2 x3 x4 r_5 (0 : Int32)) S_3 a0 x4))) S y_1
def wp_X10_positionsFitting_0 (D : wD) (post : Int32 → wS → Prop)  (S : wS) (a0 : Nat) (a1 : Nat) (a2 : Nat) : Prop :=
∃ n_1 : Nat, wp_X10_positionsFitting_5 D post n_1 S a0 a1 a2 (0 : Int32) (0 : Int32)
abbrev r_X10_positionsFitting : Room := { frames := 4, cells := 0, slots := 0, locals := 85 }
def wp_X10_positionsFitting (D : wD) (post : Int32 → wS → Prop) (S : wS) (a0 : Nat) (a1 : Nat) (a2 : Nat) : Prop := wp_X10_positionsFitting_0 D post S a0 a1 a2
set_option maxHeartbeats 4000000 in
set_option maxRecDepth 100000 in
theorem t_X10_positionsFitting_86 {p : Program} {l : Launch} {e : Env} {s : State} {m : MethodId} {args : Array Value} {below : List Frame} {meth : Method} {c : Code} {D : wD} {cy : Nat → ClassId} {X : va_W} {A : Nat → Prop} {S0 : wS} {post : Int32 → wS → Prop} (F : CallFix p m c cX10_positionsFitting 7 s args wz_X10_positionsFitting RX10) (hr : meth.sig.returnType = (some .int)) (hlocks : meth.locks = false) (hK : wK D cy A s) {k_5 : wS → Nat → Nat → Nat → Int32 → Int32 → Prop} (q_5 : ∀ {S : wS} {H : Heap} {locs : List Loc} {ls : Array Slot} {a0 : Nat} {a1 : Nat} {a2 : Nat} {x3 : Int32} {x4 : Int32}, k_5 S a0 a1 a2 x3 x4 → wO D cy X A s.heap S H locs → wX D S0 S → lv_has ls 7 [(0, .ref a0), (1, .ref a1), (2, .ref a2), (3, .int x3), (4, .int x4)] → wM D S a0 → sK S a0 = 15 → wM D S a1 → sK S a1 = 21 → wM D S a2 → sK S a2 = 12 → W p l e r_X10_positionsFitting s m args below meth c H locs 0 0 (MQ below (va_Qi (fun r S9 => wX D S0 S9 ∧ post r S9) (wB D cy X A) A) args s 0 0 A) (F0 m 5 ls [])) : ∀ {S : wS} {H : Heap} {locs : List Loc} {ls : Array Slot} {a0 : Nat} {a1 : Nat} {a2 : Nat} {x3 : Int32} {x4 : Int32}, wp_X10_positionsFitting_86 D post k_5 S a0 a1 a2 x3 x4 → wO D cy X A s.heap S H locs → wX D S0 S → lv_has ls 7 [(0, .ref a0), (1, .ref a1), (2, .ref a2), (3, .int x3), (4, .int x4)] → wM D S a0 → sK S a0 = 15 → wM D S a1 → sK S a1 = 21 → wM D S a2 → sK S a2 = 12 → W p l e r_X10_positionsFitting s m args below meth c H locs 0 0 (MQ below (va_Qi (fun r S9 => wX D S0 S9 ∧ post r S9) (wB D cy X A) A) args s 0 0 A) (F0 m 86 ls []) := by
  obtain ⟨hx, hb, hml, hown, hts⟩ := id F
  have hwg : ∀ w ∈ WG, w.before args s = true := fun w h => hts w (List.mem_cons_of_mem _ h)
  intro S H locs ls a0 a1 a2 x3 x4 hp hW hE hl hL_a0 hK_a0 hL_a1 hK_a1 hL_a2 hK_a2
  unfold wp_X10_positionsFitting_86 at hp
  obtain ⟨x_1, ex_1⟩ : ∃ z : Int32, z = x4 + 1 := ⟨_, rfl⟩
  replace hp := hp x_1 ex_1
  refine lv_iinc (v := x_1) (lv' := [(4, .int x_1), (0, .ref a0), (1, .ref a1), (2, .ref a2), (3, .int x3)]) hx hb dX10_positionsFitting_86 hl (k := 4) rfl (by rw [ex_1]; rfl) (by decide) rfl (fun ls hl => ?_)
  refine lv_goto (tgt := 5) hx hb dX10_positionsFitting_89 (by decide) ?_
  exact q_5 hp hW hE (lv_sub hl [1, 2, 3, 4, 0] rfl) hL_a0 hK_a0 hL_a1 hK_a1 hL_a2 hK_a2
set_option maxHeartbeats 4000000 in
set_option maxRecDepth 100000 in
theorem t_X10_positionsFitting_78 {p : Program} {l : Launch} {e : Env} {s : State} {m : MethodId} {args : Array Value} {below : List Frame} {meth : Method} {c : Code} {D : wD} {cy : Nat → ClassId} {X : va_W} {A : Nat → Prop} {S0 : wS} {post : Int32 → wS → Prop} (F : CallFix p m c cX10_positionsFitting 7 s args wz_X10_positionsFitting RX10) (hr : meth.sig.returnType = (some .int)) (hlocks : meth.locks = false) (hK : wK D cy A s) {k_5 : wS → Nat → Nat → Nat → Int32 → Int32 → Prop} (q_5 : ∀ {S : wS} {H : Heap} {locs : List Loc} {ls : Array Slot} {a0 : Nat} {a1 : Nat} {a2 : Nat} {x3 : Int32} {x4 : Int32}, k_5 S a0 a1 a2 x3 x4 → wO D cy X A s.heap S H locs → wX D S0 S → lv_has ls 7 [(0, .ref a0), (1, .ref a1), (2, .ref a2), (3, .int x3), (4, .int x4)] → wM D S a0 → sK S a0 = 15 → wM D S a1 → sK S a1 = 21 → wM D S a2 → sK S a2 = 12 → W p l e r_X10_positionsFitting s m args below meth c H locs 0 0 (MQ below (va_Qi (fun r S9 => wX D S0 S9 ∧ post r S9) (wB D cy X A) A) args s 0 0 A) (F0 m 5 ls [])) {k_28 : wS → Nat → Nat → Nat → Int32 → Int32 → Option Nat → Int32 → Prop} (q_28 : ∀ {S : wS} {H : Heap} {locs : List Loc} {ls : Array Slot} {a0 : Nat} {a1 : Nat} {a2 : Nat} {x3 : Int32} {x4 : Int32} {g5 : Option Nat} {x6 : Int32}, k_28 S a0 a1 a2 x3 x4 g5 x6 → wO D cy X A s.heap S H locs → wX D S0 S → lv_has ls 7 [(0, .ref a0), (1, .ref a1), (2, .ref a2), (3, .int x3), (4, .int x4), (5, va_rf g5), (6, .int x6)] → wM D S a0 → sK S a0 = 15 → wM D S a1 → sK S a1 = 21 → wM D S a2 → sK S a2 = 12 → W p l e r_X10_positionsFitting s m args below meth c H locs 0 0 (MQ below (va_Qi (fun r S9 => wX D S0 S9 ∧ post r S9) (wB D cy X A) A) args s 0 0 A) (F0 m 28 ls [])) : ∀ {S : wS} {H : Heap} {locs : List Loc} {ls : Array Slot} {a0 : Nat} {a1 : Nat} {a2 : Nat} {x4 : Int32} {a5 : Nat} {x6 : Int32} {t0 : Int32} {t1 : Int32}, wp_X10_positionsFitting_78 D post k_5 k_28 S a0 a1 a2 x4 a5 x6 t0 t1 → wO D cy X A s.heap S H locs → wX D S0 S → lv_has ls 7 [(0, .ref a0), (1, .ref a1), (2, .ref a2), (4, .int x4), (5, .ref a5), (6, .int x6)] → wM D S a0 → sK S a0 = 15 → wM D S a1 → sK S a1 = 21 → wM D S a2 → sK S a2 = 12 → wM D S a5 → sK S a5 = 8 → W p l e r_X10_positionsFitting s m args below meth c H locs 0 0 (MQ below (va_Qi (fun r S9 => wX D S0 S9 ∧ post r S9) (wB D cy X A) A) args s 0 0 A) (F0 m 78 ls [.int t1, .int t0]) := by
  obtain ⟨hx, hb, hml, hown, hts⟩ := id F
  have hwg : ∀ w ∈ WG, w.before args s = true := fun w h => hts w (List.mem_cons_of_mem _ h)
  intro S H locs ls a0 a1 a2 x4 a5 x6 t0 t1 hp hW hE hl hL_a0 hK_a0 hL_a1 hK_a1 hL_a2 hK_a2 hL_a5 hK_a5
  unfold wp_X10_positionsFitting_78 at hp
  refine lv_iadd hx hb dX10_positionsFitting_78 ?_
  refine lv_topi (fun x_1 ex_1 => ?_)
  replace hp := hp x_1 ex_1
  refine lv_istore_n (lv' := [(3, .int x_1), (0, .ref a0), (1, .ref a1), (2, .ref a2), (4, .int x4), (5, .ref a5), (6, .int x6)]) hx hb dX10_positionsFitting_79 rfl hl (by decide) rfl (fun ls hl => ?_)
  obtain ⟨x_2, ex_2⟩ : ∃ z : Int32, z = x6 + 1 := ⟨_, rfl⟩
  replace hp := hp x_2 ex_2
  refine lv_iinc (v := x_2) (lv' := [(6, .int x_2), (3, .int x_1), (0, .ref a0), (1, .ref a1), (2, .ref a2), (4, .int x4), (5, .ref a5)]) hx hb dX10_positionsFitting_80 hl (k := 6) rfl (by rw [ex_2]; rfl) (by decide) rfl (fun ls hl => ?_)
  refine lv_goto (tgt := 28) hx hb dX10_positionsFitting_83 (by decide) ?_
  exact q_28 hp hW hE (lv_sub hl [2, 3, 4, 1, 5, 6, 0] rfl) hL_a0 hK_a0 hL_a1 hK_a1 hL_a2 hK_a2
set_option maxHeartbeats 4000000 in
set_option maxRecDepth 100000 in
theorem t_X10_positionsFitting_77 {p : Program} {l : Launch} {e : Env} {s : State} {m : MethodId} {args : Array Value} {below : List Frame} {meth : Method} {c : Code} {D : wD} {cy : Nat → ClassId} {X : va_W} {A : Nat → Prop} {S0 : wS} {post : Int32 → wS → Prop} (F : CallFix p m c cX10_positionsFitting 7 s args wz_X10_positionsFitting RX10) (hr : meth.sig.returnType = (some .int)) (hlocks : meth.locks = false) (hK : wK D cy A s) {k_5 : wS → Nat → Nat → Nat → Int32 → Int32 → Prop} (q_5 : ∀ {S : wS} {H : Heap} {locs : List Loc} {ls : Array Slot} {a0 : Nat} {a1 : Nat} {a2 : Nat} {x3 : Int32} {x4 : Int32}, k_5 S a0 a1 a2 x3 x4 → wO D cy X A s.heap S H locs → wX D S0 S → lv_has ls 7 [(0, .ref a0), (1, .ref a1), (2, .ref a2), (3, .int x3), (4, .int x4)] → wM D S a0 → sK S a0 = 15 → wM D S a1 → sK S a1 = 21 → wM D S a2 → sK S a2 = 12 → W p l e r_X10_positionsFitting s m args below meth c H locs 0 0 (MQ below (va_Qi (fun r S9 => wX D S0 S9 ∧ post r S9) (wB D cy X A) A) args s 0 0 A) (F0 m 5 ls [])) {k_28 : wS → Nat → Nat → Nat → Int32 → Int32 → Option Nat → Int32 → Prop} (q_28 : ∀ {S : wS} {H : Heap} {locs : List Loc} {ls : Array Slot} {a0 : Nat} {a1 : Nat} {a2 : Nat} {x3 : Int32} {x4 : Int32} {g5 : Option Nat} {x6 : Int32}, k_28 S a0 a1 a2 x3 x4 g5 x6 → wO D cy X A s.heap S H locs → wX D S0 S → lv_has ls 7 [(0, .ref a0), (1, .ref a1), (2, .ref a2), (3, .int x3), (4, .int x4), (5, va_rf g5), (6, .int x6)] → wM D S a0 → sK S a0 = 15 → wM D S a1 → sK S a1 = 21 → wM D S a2 → sK S a2 = 12 → W p l e r_X10_positionsFitting s m args below meth c H locs 0 0 (MQ below (va_Qi (fun r S9 => wX D S0 S9 ∧ post r S9) (wB D cy X A) A) args s 0 0 A) (F0 m 28 ls [])) : ∀ {S : wS} {H : Heap} {locs : List Loc} {ls : Array Slot} {a0 : Nat} {a1 : Nat} {a2 : Nat} {x4 : Int32} {a5 : Nat} {x6 : Int32} {t0 : Int32}, wp_X10_positionsFitting_77 D post k_5 k_28 S a0 a1 a2 x4 a5 x6 t0 → wO D cy X A s.heap S H locs → wX D S0 S → lv_has ls 7 [(0, .ref a0), (1, .ref a1), (2, .ref a2), (4, .int x4), (5, .ref a5), (6, .int x6)] → wM D S a0 → sK S a0 = 15 → wM D S a1 → sK S a1 = 21 → wM D S a2 → sK S a2 = 12 → wM D S a5 → sK S a5 = 8 → W p l e r_X10_positionsFitting s m args below meth c H locs 0 0 (MQ below (va_Qi (fun r S9 => wX D S0 S9 ∧ post r S9) (wB D cy X A) A) args s 0 0 A) (F0 m 77 ls [.int t0]) := by
  obtain ⟨hx, hb, hml, hown, hts⟩ := id F
  have hwg : ∀ w ∈ WG, w.before args s = true := fun w h => hts w (List.mem_cons_of_mem _ h)
  intro S H locs ls a0 a1 a2 x4 a5 x6 t0 hp hW hE hl hL_a0 hK_a0 hL_a1 hK_a1 hL_a2 hK_a2 hL_a5 hK_a5
  unfold wp_X10_positionsFitting_77 at hp
  refine lv_iconst (v := 0) hx hb dX10_positionsFitting_77 (by decide) ?_
  exact t_X10_positionsFitting_78 F hr hlocks hK q_5 q_28 hp hW hE (lv_sub hl [0, 1, 2, 3, 4, 5] rfl) hL_a0 hK_a0 hL_a1 hK_a1 hL_a2 hK_a2 hL_a5 hK_a5
set_option maxHeartbeats 4000000 in
set_option maxRecDepth 100000 in
theorem t_X10_positionsFitting_28 {p : Program} {l : Launch} {e : Env} {s : State} {m : MethodId} {args : Array Value} {below : List Frame} {meth : Method} {c : Code} {D : wD} {cy : Nat → ClassId} {X : va_W} {A : Nat → Prop} {S0 : wS} {post : Int32 → wS → Prop} (F : CallFix p m c cX10_positionsFitting 7 s args wz_X10_positionsFitting RX10) (hr : meth.sig.returnType = (some .int)) (hlocks : meth.locks = false) (hK : wK D cy A s) {k_5 : wS → Nat → Nat → Nat → Int32 → Int32 → Prop} (q_5 : ∀ {S : wS} {H : Heap} {locs : List Loc} {ls : Array Slot} {a0 : Nat} {a1 : Nat} {a2 : Nat} {x3 : Int32} {x4 : Int32}, k_5 S a0 a1 a2 x3 x4 → wO D cy X A s.heap S H locs → wX D S0 S → lv_has ls 7 [(0, .ref a0), (1, .ref a1), (2, .ref a2), (3, .int x3), (4, .int x4)] → wM D S a0 → sK S a0 = 15 → wM D S a1 → sK S a1 = 21 → wM D S a2 → sK S a2 = 12 → W p l e r_X10_positionsFitting s m args below meth c H locs 0 0 (MQ below (va_Qi (fun r S9 => wX D S0 S9 ∧ post r S9) (wB D cy X A) A) args s 0 0 A) (F0 m 5 ls [])) : ∀ (n : Nat) {S : wS} {H : Heap} {locs : List Loc} {ls : Array Slot} {a0 : Nat} {a1 : Nat} {a2 : Nat} {x3 : Int32} {x4 : Int32} {g5 : Option Nat} {x6 : Int32}, wp_X10_positionsFitting_28 D post k_5 n S a0 a1 a2 x3 x4 g5 x6 → wO D cy X A s.heap S H locs → wX D S0 S → lv_has ls 7 [(0, .ref a0), (1, .ref a1), (2, .ref a2), (3, .int x3), (4, .int x4), (5, va_rf g5), (6, .int x6)] → wM D S a0 → sK S a0 = 15 → wM D S a1 → sK S a1 = 21 → wM D S a2 → sK S a2 = 12 → W p l e r_X10_positionsFitting s m args below meth c H locs 0 0 (MQ below (va_Qi (fun r S9 => wX D S0 S9 ∧ post r S9) (wB D cy X A) A) args s 0 0 A) (F0 m 28 ls []) := by
  obtain ⟨hx, hb, hml, hown, hts⟩ := id F
  have hwg : ∀ w ∈ WG, w.before args s = true := fun w h => hts w (List.mem_cons_of_mem _ h)
  have i_8 : ∀ w ∈ u_ws RX3 TX3 9, w ∈ wz_X10_positionsFitting := fun w h => List.mem_cons_of_mem _ (wu_8 w h)
  intro n
  induction n with
  | zero =>
    intro S H locs ls a0 a1 a2 x3 x4 g5 x6 hp
    exact hp.elim
  | succ n ih =>
    intro S H locs ls a0 a1 a2 x3 x4 g5 x6 hp hW hE hl hL_a0 hK_a0 hL_a1 hK_a1 hL_a2 hK_a2
    unfold wp_X10_positionsFitting_28 at hp
    refine w_aload hx hb dX10_positionsFitting_28 (lv_at hl 5 rfl) ?_
    refine w_ifnull (tgt := 86) hx hb dX10_positionsFitting_30 (by decide) (fun h_2 => ?_) (fun y_1 h_2 => ?_)
    · replace hp := hp.1 h_2
      subst h_2
      exact t_X10_positionsFitting_86 F hr hlocks hK q_5 hp hW hE (lv_sub hl [0, 1, 2, 3, 4] rfl) hL_a0 hK_a0 hL_a1 hK_a1 hL_a2 hK_a2
    · obtain ⟨hL_y_1, hK_y_1, hp⟩ := hp.2 y_1 h_2
      subst h_2
      refine lv_iload hx hb dX10_positionsFitting_33 (lv_at hl 6 rfl) ?_
      refine lv_aload hx hb dX10_positionsFitting_35 (lv_at hl 5 rfl) ?_
      refine w_getN (k := 8) (f := 3) (T := TX3) (v := .int (sI S y_1 3)) F hK hW hL_y_1 hK_y_1 (by decide) rfl rfl (by decide) i_8 (hK.2.1 (.fieldLinkNest "OpeningsCabinet$Shelf" 31 "OpeningsCabinet$Game" "length" "I" "OpeningsCabinet") (by decide +kernel)) rfl dX10_positionsFitting_37 ?_
      refine lv_icmp_gt (tgt := 86) hx hb dX10_positionsFitting_40 (by decide) (fun c_3 => ?_) (fun c_3 => ?_)
      · replace hp := hp.1 c_3
        exact t_X10_positionsFitting_86 F hr hlocks hK q_5 hp hW hE (lv_sub hl [0, 1, 2, 3, 4] rfl) hL_a0 hK_a0 hL_a1 hK_a1 hL_a2 hK_a2
      · replace hp := hp.2 c_3
        refine lv_aload_n hx hb dX10_positionsFitting_43 rfl (lv_at hl 2 rfl) ?_
        refine lv_aload hx hb dX10_positionsFitting_44 (lv_at hl 5 rfl) ?_
        obtain ⟨y_4, ey_4, hL_y_4, hK_y_4, hp⟩ := hp
        refine w_getN (k := 8) (f := 0) (T := TX3) (v := .ref y_4) F hK hW hL_y_1 hK_y_1 (by decide) rfl rfl (by decide) i_8 (hK.2.1 (.fieldLinkNest "OpeningsCabinet$Shelf" 63 "OpeningsCabinet$Game" "places" "[J" "OpeningsCabinet") (by decide +kernel)) (by rw [show wv 8 0 S y_1 = va_rf (sR S y_1 0) from rfl, ey_4]; rfl) dX10_positionsFitting_46 ?_
        refine lv_iload hx hb dX10_positionsFitting_49 (lv_at hl 6 rfl) ?_
        refine w_callV (va_runV (As := [.ref y_4, .int x6]) (rest := []) F (c_X7_load l hL_a2 hK_a2 hL_y_4 hK_y_4 hp H.size) (cwV (C := RX7) 2 hts (wg_V wm_RX10_67 wy_X7_load) rfl rfl rfl (by decide +kernel) ⟨Nat.le_of_ble_eq_true rfl, Nat.le_of_ble_eq_true rfl⟩) (w_preV hK hW hL_a2 hK_a2 (by decide) rfl) rfl rfl hl.1 rfl (lv_room (Nat.le_of_ble_eq_true rfl)) dX10_positionsFitting_51 ⟨Nat.le_of_ble_eq_true rfl, Nat.le_of_ble_eq_true rfl⟩) hW (fun S_6 H locs hp hW => ?_)
        obtain ⟨hX_S_6, hp⟩ := hp
        refine W.widen (k := 0) (n := 0) (by decide) (by decide) ?_
        have hE := hE.trans hX_S_6
        have hK_a0 : sK S_6 a0 = 15 := (hX_S_6.2 a0 hL_a0).1.trans hK_a0
        have hL_a0 : wM D S_6 a0 := hX_S_6.M hL_a0
        have hK_a1 : sK S_6 a1 = 21 := (hX_S_6.2 a1 hL_a1).1.trans hK_a1
        have hL_a1 : wM D S_6 a1 := hX_S_6.M hL_a1
        have hK_a2 : sK S_6 a2 = 12 := (hX_S_6.2 a2 hL_a2).1.trans hK_a2
        have hL_a2 : wM D S_6 a2 := hX_S_6.M hL_a2
        have hK_y_1 : sK S_6 y_1 = 8 := (hX_S_6.2 y_1 hL_y_1).1.trans hK_y_1
        have hL_y_1 : wM D S_6 y_1 := hX_S_6.M hL_y_1
        refine lv_iload_n hx hb dX10_positionsFitting_54 rfl (lv_at hl 3 rfl) ?_
        refine lv_aload hx hb dX10_positionsFitting_55 (lv_at hl 5 rfl) ?_
        refine lv_iload hx hb dX10_positionsFitting_57 (lv_at hl 6 rfl) ?_
        refine w_callI (va_runV (As := [.int x6]) (rest := [.int x3]) F (c_X3_isFreshAt l hL_y_1 hK_y_1 hp H.size) (cwV (C := RX3) 1 hts (wg_V wm_RX10_59 wy_X3_isFreshAt) rfl rfl rfl (by decide +kernel) ⟨Nat.le_of_ble_eq_true rfl, Nat.le_of_ble_eq_true rfl⟩) (w_preV hK hW hL_y_1 hK_y_1 (by decide) rfl) rfl rfl hl.1 rfl (lv_room (Nat.le_of_ble_eq_true rfl)) dX10_positionsFitting_59 ⟨Nat.le_of_ble_eq_true rfl, Nat.le_of_ble_eq_true rfl⟩) hW (fun r_7 S_8 H locs hp hW => ?_)
        obtain ⟨hX_S_8, hp⟩ := hp
        refine W.widen (k := 0) (n := 0) (by decide) (by decide) ?_
        have hE := hE.trans hX_S_8
        have hK_a0 : sK S_8 a0 = 15 := (hX_S_8.2 a0 hL_a0).1.trans hK_a0
        have hL_a0 : wM D S_8 a0 := hX_S_8.M hL_a0
        have hK_a1 : sK S_8 a1 = 21 := (hX_S_8.2 a1 hL_a1).1.trans hK_a1
        have hL_a1 : wM D S_8 a1 := hX_S_8.M hL_a1
        have hK_a2 : sK S_8 a2 = 12 := (hX_S_8.2 a2 hL_a2).1.trans hK_a2
        have hL_a2 : wM D S_8 a2 := hX_S_8.M hL_a2
        have hK_y_1 : sK S_8 y_1 = 8 := (hX_S_8.2 y_1 hL_y_1).1.trans hK_y_1
        have hL_y_1 : wM D S_8 y_1 := hX_S_8.M hL_y_1
        refine lv_if_eq (tgt := 77) hx hb dX10_positionsFitting_62 (by decide) (fun c_9 => ?_) (fun c_9 => ?_)
        · replace hp := hp.1 c_9
          exact t_X10_positionsFitting_77 F hr hlocks hK q_5 ih hp hW hE (lv_sub hl [0, 1, 2, 4, 5, 6] rfl) hL_a0 hK_a0 hL_a1 hK_a1 hL_a2 hK_a2 hL_y_1 hK_y_1
        · replace hp := hp.2 c_9
          refine lv_aload_n hx hb dX10_positionsFitting_65 rfl (lv_at hl 2 rfl) ?_
          refine lv_aload_n hx hb dX10_positionsFitting_66 rfl (lv_at hl 1 rfl) ?_
          refine w_callI (va_runV (As := [.ref a1]) (rest := [.int x3]) F (c_X7_fits l hL_a2 hK_a2 hL_a1 hK_a1 hp H.size) (cwV (C := RX7) 1 hts (wg_V wm_RX10_73 wy_X7_fits) rfl rfl rfl (by decide +kernel) ⟨Nat.le_of_ble_eq_true rfl, Nat.le_of_ble_eq_true rfl⟩) (w_preV hK hW hL_a2 hK_a2 (by decide) rfl) rfl rfl hl.1 rfl (lv_room (Nat.le_of_ble_eq_true rfl)) dX10_positionsFitting_67 ⟨Nat.le_of_ble_eq_true rfl, Nat.le_of_ble_eq_true rfl⟩) hW (fun r_10 S_11 H locs hp hW => ?_)
          obtain ⟨hX_S_11, hp⟩ := hp
          refine W.widen (k := 0) (n := 0) (by decide) (by decide) ?_
          have hE := hE.trans hX_S_11
          have hK_a0 : sK S_11 a0 = 15 := (hX_S_11.2 a0 hL_a0).1.trans hK_a0
          have hL_a0 : wM D S_11 a0 := hX_S_11.M hL_a0
          have hK_a1 : sK S_11 a1 = 21 := (hX_S_11.2 a1 hL_a1).1.trans hK_a1
          have hL_a1 : wM D S_11 a1 := hX_S_11.M hL_a1
          have hK_a2 : sK S_11 a2 = 12 := (hX_S_11.2 a2 hL_a2).1.trans hK_a2
          have hL_a2 : wM D S_11 a2 := hX_S_11.M hL_a2
          have hK_y_1 : sK S_11 y_1 = 8 := (hX_S_11.2 y_1 hL_y_1).1.trans hK_y_1
          have hL_y_1 : wM D S_11 y_1 := hX_S_11.M hL_y_1
          refine lv_if_eq (tgt := 77) hx hb dX10_positionsFitting_70 (by decide) (fun c_12 => ?_) (fun c_12 => ?_)
          · replace hp := hp.1 c_12
            exact t_X10_positionsFitting_77 F hr hlocks hK q_5 ih hp hW hE (lv_sub hl [0, 1, 2, 4, 5, 6] rfl) hL_a0 hK_a0 hL_a1 hK_a1 hL_a2 hK_a2 hL_y_1 hK_y_1
          · replace hp := hp.2 c_12
            refine lv_iconst (v := 1) hx hb dX10_positionsFitting_73 (by decide) ?_
            refine lv_goto (tgt := 78) hx hb dX10_positionsFitting_74 (by decide) ?_
            exact t_X10_positionsFitting_78 F hr hlocks hK q_5 ih hp hW hE (lv_sub hl [0, 1, 2, 4, 5, 6] rfl) hL_a0 hK_a0 hL_a1 hK_a1 hL_a2 hK_a2 hL_y_1 hK_y_1
set_option maxHeartbeats 4000000 in
set_option maxRecDepth 100000 in
theorem t_X10_positionsFitting_5 {p : Program} {l : Launch} {e : Env} {s : State} {m : MethodId} {args : Array Value} {below : List Frame} {meth : Method} {c : Code} {D : wD} {cy : Nat → ClassId} {X : va_W} {A : Nat → Prop} {S0 : wS} {post : Int32 → wS → Prop} (F : CallFix p m c cX10_positionsFitting 7 s args wz_X10_positionsFitting RX10) (hr : meth.sig.returnType = (some .int)) (hlocks : meth.locks = false) (hK : wK D cy A s) : ∀ (n : Nat) {S : wS} {H : Heap} {locs : List Loc} {ls : Array Slot} {a0 : Nat} {a1 : Nat} {a2 : Nat} {x3 : Int32} {x4 : Int32}, wp_X10_positionsFitting_5 D post n S a0 a1 a2 x3 x4 → wO D cy X A s.heap S H locs → wX D S0 S → lv_has ls 7 [(0, .ref a0), (1, .ref a1), (2, .ref a2), (3, .int x3), (4, .int x4)] → wM D S a0 → sK S a0 = 15 → wM D S a1 → sK S a1 = 21 → wM D S a2 → sK S a2 = 12 → W p l e r_X10_positionsFitting s m args below meth c H locs 0 0 (MQ below (va_Qi (fun r S9 => wX D S0 S9 ∧ post r S9) (wB D cy X A) A) args s 0 0 A) (F0 m 5 ls []) := by
  obtain ⟨hx, hb, hml, hown, hts⟩ := id F
  have hwg : ∀ w ∈ WG, w.before args s = true := fun w h => hts w (List.mem_cons_of_mem _ h)
  have i_15 : ∀ w ∈ u_ws RX10 TX10 1, w ∈ wz_X10_positionsFitting := fun w h => List.mem_cons_of_mem _ (wu_15 w h)
  have k_12 := hwg _ wf_RX10_12
  intro n
  induction n with
  | zero =>
    intro S H locs ls a0 a1 a2 x3 x4 hp
    exact hp.elim
  | succ n ih =>
    intro S H locs ls a0 a1 a2 x3 x4 hp hW hE hl hL_a0 hK_a0 hL_a1 hK_a1 hL_a2 hK_a2
    unfold wp_X10_positionsFitting_5 at hp
    refine lv_iload hx hb dX10_positionsFitting_5 (lv_at hl 4 rfl) ?_
    refine lv_aload_n hx hb dX10_positionsFitting_7 rfl (lv_at hl 0 rfl) ?_
    obtain ⟨y_1, ey_1, hL_y_1, hK_y_1, hp⟩ := hp
    refine w_get (k := 15) (f := 0) (T := TX10) (v := .ref y_1) F hK hW hL_a0 hK_a0 (by decide) rfl rfl (by decide) i_15 k_12 (by rw [show wv 15 0 S a0 = va_rf (sR S a0 0) from rfl, ey_1]; rfl) dX10_positionsFitting_8 ?_
    refine w_callI (va_runV (As := []) (rest := [.int x4]) F (c_Jx4a65c_size_8abf5 l hL_y_1 hK_y_1 hp H.size) (cwV (C := RJx4a65c) 0 hts (wg_V wm_RX10_18 wy_Jx4a65c_size_8abf5) rfl rfl rfl (by decide +kernel) ⟨Nat.le_of_ble_eq_true rfl, Nat.le_of_ble_eq_true rfl⟩) (w_preV hK hW hL_y_1 hK_y_1 (by decide) rfl) rfl rfl hl.1 rfl (lv_room (Nat.le_of_ble_eq_true rfl)) dX10_positionsFitting_11 ⟨Nat.le_of_ble_eq_true rfl, Nat.le_of_ble_eq_true rfl⟩) hW (fun r_2 S_3 H locs hp hW => ?_)
    obtain ⟨hX_S_3, hp⟩ := hp
    refine W.widen (k := 0) (n := 0) (by decide) (by decide) ?_
    have hE := hE.trans hX_S_3
    have hK_a0 : sK S_3 a0 = 15 := (hX_S_3.2 a0 hL_a0).1.trans hK_a0
    have hL_a0 : wM D S_3 a0 := hX_S_3.M hL_a0
    have hK_a1 : sK S_3 a1 = 21 := (hX_S_3.2 a1 hL_a1).1.trans hK_a1
    have hL_a1 : wM D S_3 a1 := hX_S_3.M hL_a1
    have hK_a2 : sK S_3 a2 = 12 := (hX_S_3.2 a2 hL_a2).1.trans hK_a2
    have hL_a2 : wM D S_3 a2 := hX_S_3.M hL_a2
    refine lv_icmp_ge (tgt := 92) hx hb dX10_positionsFitting_14 (by decide) (fun c_4 => ?_) (fun c_4 => ?_)
    · replace hp := hp.1 c_4
      refine lv_iload_n hx hb dX10_positionsFitting_92 rfl (lv_at hl 3 rfl) ?_
      exact w_iret hx hb hr hlocks hW ⟨hE, hp⟩ dX10_positionsFitting_93
    · replace hp := hp.2 c_4
      refine lv_aload_n hx hb dX10_positionsFitting_17 rfl (lv_at hl 0 rfl) ?_
      refine lv_iload hx hb dX10_positionsFitting_18 (lv_at hl 4 rfl) ?_
      refine w_callR (va_runV (As := [.int x4]) (rest := []) F (c_X10_gameAt l hL_a0 hK_a0 hp H.size) (cwV (C := RX10) 1 hts (wg_V wm_RX10_51 wy_X10_gameAt) rfl rfl rfl (by decide +kernel) ⟨Nat.le_of_ble_eq_true rfl, Nat.le_of_ble_eq_true rfl⟩) (w_preV hK hW hL_a0 hK_a0 (by decide) rfl) rfl rfl hl.1 rfl (lv_room (Nat.le_of_ble_eq_true rfl)) dX10_positionsFitting_20 ⟨Nat.le_of_ble_eq_true rfl, Nat.le_of_ble_eq_true rfl⟩) hW (fun r_5 S_6 H locs hp hW => ?_)
      obtain ⟨hX_S_6, hp⟩ := hp
      refine W.widen (k := 0) (n := 0) (by decide) (by decide) ?_
      have hE := hE.trans hX_S_6
      have hK_a0 : sK S_6 a0 = 15 := (hX_S_6.2 a0 hL_a0).1.trans hK_a0
      have hL_a0 : wM D S_6 a0 := hX_S_6.M hL_a0
      have hK_a1 : sK S_6 a1 = 21 := (hX_S_6.2 a1 hL_a1).1.trans hK_a1
      have hL_a1 : wM D S_6 a1 := hX_S_6.M hL_a1
      have hK_a2 : sK S_6 a2 = 12 := (hX_S_6.2 a2 hL_a2).1.trans hK_a2
      have hL_a2 : wM D S_6 a2 := hX_S_6.M hL_a2
      refine w_astore (lv' := [(5, va_rf r_5), (0, .ref a0), (1, .ref a1), (2, .ref a2), (3, .int x3), (4, .int x4)]) hx hb dX10_positionsFitting_23 hl (by decide) rfl (fun ls hl => ?_)
      refine lv_iconst (v := 0) hx hb dX10_positionsFitting_25 (by decide) ?_
      refine lv_istore (lv' := [(6, .int (0 : Int32)), (5, va_rf r_5), (0, .ref a0), (1, .ref a1), (2, .ref a2), (3, .int x3), (4, .int x4)]) hx hb dX10_positionsFitting_26 hl (by decide) rfl (fun ls hl => ?_)
      obtain ⟨n_7, hp⟩ := hp
      exact t_X10_positionsFitting_28 F hr hlocks hK ih n_7 hp hW hE (lv_sub hl [2, 3, 4, 5, 6, 1, 0] rfl) hL_a0 hK_a0 hL_a1 hK_a1 hL_a2 hK_a2
set_option maxHeartbeats 4000000 in
set_option maxRecDepth 100000 in
theorem t_X10_positionsFitting_0 {p : Program} {l : Launch} {e : Env} {s : State} {m : MethodId} {args : Array Value} {below : List Frame} {meth : Method} {c : Code} {D : wD} {cy : Nat → ClassId} {X : va_W} {A : Nat → Prop} {S0 : wS} {post : Int32 → wS → Prop} (F : CallFix p m c cX10_positionsFitting 7 s args wz_X10_positionsFitting RX10) (hr : meth.sig.returnType = (some .int)) (hlocks : meth.locks = false) (hK : wK D cy A s) : ∀ {S : wS} {H : Heap} {locs : List Loc} {ls : Array Slot} {a0 : Nat} {a1 : Nat} {a2 : Nat}, wp_X10_positionsFitting_0 D post S a0 a1 a2 → wO D cy X A s.heap S H locs → wX D S0 S → lv_has ls 7 [(0, .ref a0), (1, .ref a1), (2, .ref a2)] → wM D S a0 → sK S a0 = 15 → wM D S a1 → sK S a1 = 21 → wM D S a2 → sK S a2 = 12 → W p l e r_X10_positionsFitting s m args below meth c H locs 0 0 (MQ below (va_Qi (fun r S9 => wX D S0 S9 ∧ post r S9) (wB D cy X A) A) args s 0 0 A) (F0 m 0 ls []) := by
  obtain ⟨hx, hb, hml, hown, hts⟩ := id F
  have hwg : ∀ w ∈ WG, w.before args s = true := fun w h => hts w (List.mem_cons_of_mem _ h)
  intro S H locs ls a0 a1 a2 hp hW hE hl hL_a0 hK_a0 hL_a1 hK_a1 hL_a2 hK_a2
  unfold wp_X10_positionsFitting_0 at hp
  refine lv_iconst (v := 0) hx hb dX10_positionsFitting_0 (by decide) ?_
  refine lv_istore_n (lv' := [(3, .int (0 : Int32)), (0, .ref a0), (1, .ref a1), (2, .ref a2)]) hx hb dX10_positionsFitting_1 rfl hl (by decide) rfl (fun ls hl => ?_)
  refine lv_iconst (v := 0) hx hb dX10_positionsFitting_2 (by decide) ?_
  refine lv_istore (lv' := [(4, .int (0 : Int32)), (3, .int (0 : Int32)), (0, .ref a0), (1, .ref a1), (2, .ref a2)]) hx hb dX10_positionsFitting_3 hl (by decide) rfl (fun ls hl => ?_)
  obtain ⟨n_1, hp⟩ := hp
  exact t_X10_positionsFitting_5 F hr hlocks hK n_1 hp hW hE (lv_sub hl [2, 3, 4, 1, 0] rfl) hL_a0 hK_a0 hL_a1 hK_a1 hL_a2 hK_a2
set_option maxHeartbeats 4000000 in
set_option maxRecDepth 100000 in
theorem c_X10_positionsFitting (l : Launch) {D : wD} {cy : Nat → ClassId} {X : va_W} {S0 : wS} {post : Int32 → wS → Prop} {a0 : Nat} {a1 : Nat} {a2 : Nat} (hL_a0 : wM D S0 a0) (hK_a0 : sK S0 a0 = 15) (hL_a1 : wM D S0 a1) (hK_a1 : sK S0 a1 = 21) (hL_a2 : wM D S0 a2) (hK_a2 : sK S0 a2 = 12) (hp : wp_X10_positionsFitting D post S0 a0 a1 a2) : mI D cy X l yX10_positionsFitting wz_X10_positionsFitting r_X10_positionsFitting [.ref a0, .ref a1, .ref a2] S0 (fun r S9 => wX D S0 S9 ∧ post r S9) := by
  intro sz
  refine Met.ofW (cc := cX10_positionsFitting) (maxL := 7) (ret := (some .int)) (by decide) rfl ?_
  intro p e s m args below meth c s₁ B hml hv
  obtain ⟨rfl, hsz, hP, hK, hD0, hRO⟩ := hv
  have hts := atoms_spec (ws := wz_X10_positionsFitting) B.pre
  have hown : s.vm.findClass RX10 = some m.cls := findClass_of_methodNamed B.named
  subst hsz
  have hD := hD0.self (sz := s.heap.size)
  have F : CallFix p m c cX10_positionsFitting 7 s _ wz_X10_positionsFitting RX10 := ⟨B.exec, B.bytes, hml, hown, hts⟩
  have hr := B.returns
  have hlocks := B.notSynchronized
  generalize hAe : va_A (wL cy X S0) s.heap.size = A at hD hK ⊢
  have hA : ∀ q, s.heap.size ≤ q → A q := fun q h => by rw [← hAe]; exact Or.inr h
  have hW : wO D cy X A s.heap S0 s.heap [] := ⟨hP, hD, va_S.rf, hA, hRO⟩
  have hl := lv_entry ([.ref a0, .ref a1, .ref a2]) (n := 7) (Nat.le_of_ble_eq_true rfl)
  rw [lg_entry_eq]
  generalize (lg_sl ([.ref a0, .ref a1, .ref a2]) ++ List.replicate (7 - (lg_sl ([.ref a0, .ref a1, .ref a2])).length) Slot.unset).toArray = ls at hl ⊢
  have hl : lv_has ls 7 [(0, .ref a0), (1, .ref a1), (2, .ref a2)] := hl
  unfold wp_X10_positionsFitting at hp
  exact t_X10_positionsFitting_0 F hr hlocks hK hp hW wX.rf (lv_sub hl [0, 1, 2] rfl) hL_a0 hK_a0 hL_a1 hK_a1 hL_a2 hK_a2
def wp_X10_replaysPassing_103 (D : wD) (post : Int32 → wS → Prop) (k_5 : wS → Nat → Nat → Nat → Int32 → Int32 → Prop) (S : wS) (a0 : Nat) (a1 : Nat) (a2 : Nat) (x3 : Int32) (x4 : Int32) : Prop :=
∀ x_1 : Int32, x_1 = x4 + 1 →
k_5 S a0 a1 a2 x3 x_1
def wp_X10_replaysPassing_101 (D : wD) (post : Int32 → wS → Prop) (k_5 : wS → Nat → Nat → Nat → Int32 → Int32 → Prop) (S : wS) (a0 : Nat) (a1 : Nat) (a2 : Nat) (x4 : Int32) (t0 : Int32) (t1 : Int32) : Prop :=
∀ x_1 : Int32, x_1 = (t0 + t1) →
wp_X10_replaysPassing_103 D post k_5 S a0 a1 a2 x_1 x4
def wp_X10_replaysPassing_53 (D : wD) (post : Int32 → wS → Prop) (k_5 : wS → Nat → Nat → Nat → Int32 → Int32 → Prop) : Nat → wS → Nat → Nat → Nat → Int32 → Int32 → Nat → Int32 → Int32 → Prop
  | 0, _, _, _, _, _, _, _, _, _ => False
  | n + 1, S, a0, a1, a2, x3, x4, a5, x6, x7 =>
    (((sI S a5 3) ≤ x7 → ((x6 = 0 → wp_X10_replaysPassing_101 D post k_5 S a0 a1 a2 x4 x3 (0 : Int32)) ∧
     (¬ x6 = 0 → wp_X10_replaysPassing_101 D post k_5 S a0 a1 a2 x4 x3 (1 : Int32)))) ∧
     (¬ (sI S a5 3) ≤ x7 → wp_X3_moveAt D (fun r_3 S_4 => 
    wp_X7_apply D (fun S_6 => 
    wp_X7_isLike D (fun r_7 S_8 => 
    ∀ x_9 : Int32, x_9 = (x6 ||| r_7) →
    ∀ x_10 : Int32, x_10 = x7 + 1 →
    wp_X10_replaysPassing_53 D post k_5 n S_8 a0 a1 a2 x3 x4 a5 x_9 x_10) S_6 a2 a1) S_4 a2 r_3) S a5 x7))
def wp_X10_replaysPassing_5 (D : wD) (post : Int32 → wS → Prop)  : Nat → wS → Nat → Nat → Nat → Int32 → Int32 → Prop
  | 0, _, _, _, _, _, _ => False
  | n + 1, S, a0, a1, a2, x3, x4 =>
    ∃ y_1 : Nat, sR S a0 0 = some y_1 ∧ wM D S y_1 ∧ sK S y_1 = 4 ∧
    wp_Jx4a65c_size_8abf5 D (fun r_2 S_3 => 
    ((r_2 ≤ x4 → post x3 S_3) ∧
     (¬ r_2 ≤ x4 → wp_X10_gameAt D (fun r_5 S_6 => 
    ((r_5 = none → wp_X10_replaysPassing_103 D post (wp_X10_replaysPassing_5 D post n) S_6 a0 a1 a2 x3 x4) ∧
     (∀ y_7 : Nat, r_5 = some y_7 → wM D S_6 y_7 ∧ sK S_6 y_7 = 8 ∧ ∃ y_9 : Nat, sR S_6 y_7 0 = some y_9 ∧ wM D S_6 y_9 ∧ sK S_6 y_9 = 22 ∧
    wp_X7_load D (fun S_11 => 
    wp_X7_isLike D (fun r_12 S_13 => 
    ∃ n_14 : Nat, wp_X10_replaysPassing_53 D post (wp_X10_replaysPassing_5 D post n) n_14 S_13 a0 a1 a2 x3 x4 y_7 r_12 (0 : Int32)) S_11 a2 a1) S_6 a2 y_9 (0 : Int32)))) S_3 a0 x4))) S y_1
def wp_X10_replaysPassing_0 (D : wD) (post : Int32 → wS → Prop)  (S : wS) (a0 : Nat) (a1 : Nat) (a2 : Nat) : Prop :=
∃ n_1 : Nat, wp_X10_replaysPassing_5 D post n_1 S a0 a1 a2 (0 : Int32) (0 : Int32)
abbrev r_X10_replaysPassing : Room := { frames := 4, cells := 0, slots := 0, locals := 85 }
def wp_X10_replaysPassing (D : wD) (post : Int32 → wS → Prop) (S : wS) (a0 : Nat) (a1 : Nat) (a2 : Nat) : Prop := wp_X10_replaysPassing_0 D post S a0 a1 a2
set_option maxHeartbeats 4000000 in
set_option maxRecDepth 100000 in
theorem t_X10_replaysPassing_103 {p : Program} {l : Launch} {e : Env} {s : State} {m : MethodId} {args : Array Value} {below : List Frame} {meth : Method} {c : Code} {D : wD} {cy : Nat → ClassId} {X : va_W} {A : Nat → Prop} {S0 : wS} {post : Int32 → wS → Prop} (F : CallFix p m c cX10_replaysPassing 8 s args wz_X10_replaysPassing RX10) (hr : meth.sig.returnType = (some .int)) (hlocks : meth.locks = false) (hK : wK D cy A s) {k_5 : wS → Nat → Nat → Nat → Int32 → Int32 → Prop} (q_5 : ∀ {S : wS} {H : Heap} {locs : List Loc} {ls : Array Slot} {a0 : Nat} {a1 : Nat} {a2 : Nat} {x3 : Int32} {x4 : Int32}, k_5 S a0 a1 a2 x3 x4 → wO D cy X A s.heap S H locs → wX D S0 S → lv_has ls 8 [(0, .ref a0), (1, .ref a1), (2, .ref a2), (3, .int x3), (4, .int x4)] → wM D S a0 → sK S a0 = 15 → wM D S a1 → sK S a1 = 12 → wM D S a2 → sK S a2 = 12 → W p l e r_X10_replaysPassing s m args below meth c H locs 0 0 (MQ below (va_Qi (fun r S9 => wX D S0 S9 ∧ post r S9) (wB D cy X A) A) args s 0 0 A) (F0 m 5 ls [])) : ∀ {S : wS} {H : Heap} {locs : List Loc} {ls : Array Slot} {a0 : Nat} {a1 : Nat} {a2 : Nat} {x3 : Int32} {x4 : Int32}, wp_X10_replaysPassing_103 D post k_5 S a0 a1 a2 x3 x4 → wO D cy X A s.heap S H locs → wX D S0 S → lv_has ls 8 [(0, .ref a0), (1, .ref a1), (2, .ref a2), (3, .int x3), (4, .int x4)] → wM D S a0 → sK S a0 = 15 → wM D S a1 → sK S a1 = 12 → wM D S a2 → sK S a2 = 12 → W p l e r_X10_replaysPassing s m args below meth c H locs 0 0 (MQ below (va_Qi (fun r S9 => wX D S0 S9 ∧ post r S9) (wB D cy X A) A) args s 0 0 A) (F0 m 103 ls []) := by
  obtain ⟨hx, hb, hml, hown, hts⟩ := id F
  have hwg : ∀ w ∈ WG, w.before args s = true := fun w h => hts w (List.mem_cons_of_mem _ h)
  intro S H locs ls a0 a1 a2 x3 x4 hp hW hE hl hL_a0 hK_a0 hL_a1 hK_a1 hL_a2 hK_a2
  unfold wp_X10_replaysPassing_103 at hp
  obtain ⟨x_1, ex_1⟩ : ∃ z : Int32, z = x4 + 1 := ⟨_, rfl⟩
  replace hp := hp x_1 ex_1
  refine lv_iinc (v := x_1) (lv' := [(4, .int x_1), (0, .ref a0), (1, .ref a1), (2, .ref a2), (3, .int x3)]) hx hb dX10_replaysPassing_103 hl (k := 4) rfl (by rw [ex_1]; rfl) (by decide) rfl (fun ls hl => ?_)
  refine lv_goto (tgt := 5) hx hb dX10_replaysPassing_106 (by decide) ?_
  exact q_5 hp hW hE (lv_sub hl [1, 2, 3, 4, 0] rfl) hL_a0 hK_a0 hL_a1 hK_a1 hL_a2 hK_a2
set_option maxHeartbeats 4000000 in
set_option maxRecDepth 100000 in
theorem t_X10_replaysPassing_101 {p : Program} {l : Launch} {e : Env} {s : State} {m : MethodId} {args : Array Value} {below : List Frame} {meth : Method} {c : Code} {D : wD} {cy : Nat → ClassId} {X : va_W} {A : Nat → Prop} {S0 : wS} {post : Int32 → wS → Prop} (F : CallFix p m c cX10_replaysPassing 8 s args wz_X10_replaysPassing RX10) (hr : meth.sig.returnType = (some .int)) (hlocks : meth.locks = false) (hK : wK D cy A s) {k_5 : wS → Nat → Nat → Nat → Int32 → Int32 → Prop} (q_5 : ∀ {S : wS} {H : Heap} {locs : List Loc} {ls : Array Slot} {a0 : Nat} {a1 : Nat} {a2 : Nat} {x3 : Int32} {x4 : Int32}, k_5 S a0 a1 a2 x3 x4 → wO D cy X A s.heap S H locs → wX D S0 S → lv_has ls 8 [(0, .ref a0), (1, .ref a1), (2, .ref a2), (3, .int x3), (4, .int x4)] → wM D S a0 → sK S a0 = 15 → wM D S a1 → sK S a1 = 12 → wM D S a2 → sK S a2 = 12 → W p l e r_X10_replaysPassing s m args below meth c H locs 0 0 (MQ below (va_Qi (fun r S9 => wX D S0 S9 ∧ post r S9) (wB D cy X A) A) args s 0 0 A) (F0 m 5 ls [])) : ∀ {S : wS} {H : Heap} {locs : List Loc} {ls : Array Slot} {a0 : Nat} {a1 : Nat} {a2 : Nat} {x4 : Int32} {t0 : Int32} {t1 : Int32}, wp_X10_replaysPassing_101 D post k_5 S a0 a1 a2 x4 t0 t1 → wO D cy X A s.heap S H locs → wX D S0 S → lv_has ls 8 [(0, .ref a0), (1, .ref a1), (2, .ref a2), (4, .int x4)] → wM D S a0 → sK S a0 = 15 → wM D S a1 → sK S a1 = 12 → wM D S a2 → sK S a2 = 12 → W p l e r_X10_replaysPassing s m args below meth c H locs 0 0 (MQ below (va_Qi (fun r S9 => wX D S0 S9 ∧ post r S9) (wB D cy X A) A) args s 0 0 A) (F0 m 101 ls [.int t1, .int t0]) := by
  obtain ⟨hx, hb, hml, hown, hts⟩ := id F
  have hwg : ∀ w ∈ WG, w.before args s = true := fun w h => hts w (List.mem_cons_of_mem _ h)
  intro S H locs ls a0 a1 a2 x4 t0 t1 hp hW hE hl hL_a0 hK_a0 hL_a1 hK_a1 hL_a2 hK_a2
  unfold wp_X10_replaysPassing_101 at hp
  refine lv_iadd hx hb dX10_replaysPassing_101 ?_
  refine lv_topi (fun x_1 ex_1 => ?_)
  replace hp := hp x_1 ex_1
  refine lv_istore_n (lv' := [(3, .int x_1), (0, .ref a0), (1, .ref a1), (2, .ref a2), (4, .int x4)]) hx hb dX10_replaysPassing_102 rfl hl (by decide) rfl (fun ls hl => ?_)
  exact t_X10_replaysPassing_103 F hr hlocks hK q_5 hp hW hE (lv_sub hl [1, 2, 3, 0, 4] rfl) hL_a0 hK_a0 hL_a1 hK_a1 hL_a2 hK_a2
set_option maxHeartbeats 4000000 in
set_option maxRecDepth 100000 in
theorem t_X10_replaysPassing_53 {p : Program} {l : Launch} {e : Env} {s : State} {m : MethodId} {args : Array Value} {below : List Frame} {meth : Method} {c : Code} {D : wD} {cy : Nat → ClassId} {X : va_W} {A : Nat → Prop} {S0 : wS} {post : Int32 → wS → Prop} (F : CallFix p m c cX10_replaysPassing 8 s args wz_X10_replaysPassing RX10) (hr : meth.sig.returnType = (some .int)) (hlocks : meth.locks = false) (hK : wK D cy A s) {k_5 : wS → Nat → Nat → Nat → Int32 → Int32 → Prop} (q_5 : ∀ {S : wS} {H : Heap} {locs : List Loc} {ls : Array Slot} {a0 : Nat} {a1 : Nat} {a2 : Nat} {x3 : Int32} {x4 : Int32}, k_5 S a0 a1 a2 x3 x4 → wO D cy X A s.heap S H locs → wX D S0 S → lv_has ls 8 [(0, .ref a0), (1, .ref a1), (2, .ref a2), (3, .int x3), (4, .int x4)] → wM D S a0 → sK S a0 = 15 → wM D S a1 → sK S a1 = 12 → wM D S a2 → sK S a2 = 12 → W p l e r_X10_replaysPassing s m args below meth c H locs 0 0 (MQ below (va_Qi (fun r S9 => wX D S0 S9 ∧ post r S9) (wB D cy X A) A) args s 0 0 A) (F0 m 5 ls [])) : ∀ (n : Nat) {S : wS} {H : Heap} {locs : List Loc} {ls : Array Slot} {a0 : Nat} {a1 : Nat} {a2 : Nat} {x3 : Int32} {x4 : Int32} {a5 : Nat} {x6 : Int32} {x7 : Int32}, wp_X10_replaysPassing_53 D post k_5 n S a0 a1 a2 x3 x4 a5 x6 x7 → wO D cy X A s.heap S H locs → wX D S0 S → lv_has ls 8 [(0, .ref a0), (1, .ref a1), (2, .ref a2), (3, .int x3), (4, .int x4), (5, .ref a5), (6, .int x6), (7, .int x7)] → wM D S a0 → sK S a0 = 15 → wM D S a1 → sK S a1 = 12 → wM D S a2 → sK S a2 = 12 → wM D S a5 → sK S a5 = 8 → W p l e r_X10_replaysPassing s m args below meth c H locs 0 0 (MQ below (va_Qi (fun r S9 => wX D S0 S9 ∧ post r S9) (wB D cy X A) A) args s 0 0 A) (F0 m 53 ls []) := by
  obtain ⟨hx, hb, hml, hown, hts⟩ := id F
  have hwg : ∀ w ∈ WG, w.before args s = true := fun w h => hts w (List.mem_cons_of_mem _ h)
  have i_8 : ∀ w ∈ u_ws RX3 TX3 9, w ∈ wz_X10_replaysPassing := fun w h => List.mem_cons_of_mem _ (wu_8 w h)
  intro n
  induction n with
  | zero =>
    intro S H locs ls a0 a1 a2 x3 x4 a5 x6 x7 hp
    exact hp.elim
  | succ n ih =>
    intro S H locs ls a0 a1 a2 x3 x4 a5 x6 x7 hp hW hE hl hL_a0 hK_a0 hL_a1 hK_a1 hL_a2 hK_a2 hL_a5 hK_a5
    unfold wp_X10_replaysPassing_53 at hp
    refine lv_iload hx hb dX10_replaysPassing_53 (lv_at hl 7 rfl) ?_
    refine lv_aload hx hb dX10_replaysPassing_55 (lv_at hl 5 rfl) ?_
    refine w_getN (k := 8) (f := 3) (T := TX3) (v := .int (sI S a5 3)) F hK hW hL_a5 hK_a5 (by decide) rfl rfl (by decide) i_8 (hK.2.1 (.fieldLinkNest "OpeningsCabinet$Shelf" 31 "OpeningsCabinet$Game" "length" "I" "OpeningsCabinet") (by decide +kernel)) rfl dX10_replaysPassing_57 ?_
    refine lv_icmp_ge (tgt := 90) hx hb dX10_replaysPassing_60 (by decide) (fun c_1 => ?_) (fun c_1 => ?_)
    · replace hp := hp.1 c_1
      refine lv_iload_n hx hb dX10_replaysPassing_90 rfl (lv_at hl 3 rfl) ?_
      refine lv_iload hx hb dX10_replaysPassing_91 (lv_at hl 6 rfl) ?_
      refine lv_if_eq (tgt := 100) hx hb dX10_replaysPassing_93 (by decide) (fun c_2 => ?_) (fun c_2 => ?_)
      · replace hp := hp.1 c_2
        refine lv_iconst (v := 0) hx hb dX10_replaysPassing_100 (by decide) ?_
        exact t_X10_replaysPassing_101 F hr hlocks hK q_5 hp hW hE (lv_sub hl [0, 1, 2, 4] rfl) hL_a0 hK_a0 hL_a1 hK_a1 hL_a2 hK_a2
      · replace hp := hp.2 c_2
        refine lv_iconst (v := 1) hx hb dX10_replaysPassing_96 (by decide) ?_
        refine lv_goto (tgt := 101) hx hb dX10_replaysPassing_97 (by decide) ?_
        exact t_X10_replaysPassing_101 F hr hlocks hK q_5 hp hW hE (lv_sub hl [0, 1, 2, 4] rfl) hL_a0 hK_a0 hL_a1 hK_a1 hL_a2 hK_a2
    · replace hp := hp.2 c_1
      refine lv_aload_n hx hb dX10_replaysPassing_63 rfl (lv_at hl 2 rfl) ?_
      refine lv_aload hx hb dX10_replaysPassing_64 (lv_at hl 5 rfl) ?_
      refine lv_iload hx hb dX10_replaysPassing_66 (lv_at hl 7 rfl) ?_
      refine w_callI (va_runV (As := [.int x7]) (rest := [.ref a2]) F (c_X3_moveAt l hL_a5 hK_a5 hp H.size) (cwV (C := RX3) 1 hts (wg_V wm_RX10_92 wy_X3_moveAt) rfl rfl rfl (by decide +kernel) ⟨Nat.le_of_ble_eq_true rfl, Nat.le_of_ble_eq_true rfl⟩) (w_preV hK hW hL_a5 hK_a5 (by decide) rfl) rfl rfl hl.1 rfl (lv_room (Nat.le_of_ble_eq_true rfl)) dX10_replaysPassing_68 ⟨Nat.le_of_ble_eq_true rfl, Nat.le_of_ble_eq_true rfl⟩) hW (fun r_3 S_4 H locs hp hW => ?_)
      obtain ⟨hX_S_4, hp⟩ := hp
      refine W.widen (k := 0) (n := 0) (by decide) (by decide) ?_
      have hE := hE.trans hX_S_4
      have hK_a0 : sK S_4 a0 = 15 := (hX_S_4.2 a0 hL_a0).1.trans hK_a0
      have hL_a0 : wM D S_4 a0 := hX_S_4.M hL_a0
      have hK_a1 : sK S_4 a1 = 12 := (hX_S_4.2 a1 hL_a1).1.trans hK_a1
      have hL_a1 : wM D S_4 a1 := hX_S_4.M hL_a1
      have hK_a2 : sK S_4 a2 = 12 := (hX_S_4.2 a2 hL_a2).1.trans hK_a2
      have hL_a2 : wM D S_4 a2 := hX_S_4.M hL_a2
      have hK_a5 : sK S_4 a5 = 8 := (hX_S_4.2 a5 hL_a5).1.trans hK_a5
      have hL_a5 : wM D S_4 a5 := hX_S_4.M hL_a5
      refine w_callV (va_runV (As := [.int r_3]) (rest := []) F (c_X7_apply l hL_a2 hK_a2 hp H.size) (cwV (C := RX7) 1 hts (wg_V wm_RX10_96 wy_X7_apply) rfl rfl rfl (by decide +kernel) ⟨Nat.le_of_ble_eq_true rfl, Nat.le_of_ble_eq_true rfl⟩) (w_preV hK hW hL_a2 hK_a2 (by decide) rfl) rfl rfl hl.1 rfl (lv_room (Nat.le_of_ble_eq_true rfl)) dX10_replaysPassing_71 ⟨Nat.le_of_ble_eq_true rfl, Nat.le_of_ble_eq_true rfl⟩) hW (fun S_6 H locs hp hW => ?_)
      obtain ⟨hX_S_6, hp⟩ := hp
      refine W.widen (k := 0) (n := 0) (by decide) (by decide) ?_
      have hE := hE.trans hX_S_6
      have hK_a0 : sK S_6 a0 = 15 := (hX_S_6.2 a0 hL_a0).1.trans hK_a0
      have hL_a0 : wM D S_6 a0 := hX_S_6.M hL_a0
      have hK_a1 : sK S_6 a1 = 12 := (hX_S_6.2 a1 hL_a1).1.trans hK_a1
      have hL_a1 : wM D S_6 a1 := hX_S_6.M hL_a1
      have hK_a2 : sK S_6 a2 = 12 := (hX_S_6.2 a2 hL_a2).1.trans hK_a2
      have hL_a2 : wM D S_6 a2 := hX_S_6.M hL_a2
      have hK_a5 : sK S_6 a5 = 8 := (hX_S_6.2 a5 hL_a5).1.trans hK_a5
      have hL_a5 : wM D S_6 a5 := hX_S_6.M hL_a5
      refine lv_iload hx hb dX10_replaysPassing_74 (lv_at hl 6 rfl) ?_
      refine lv_aload_n hx hb dX10_replaysPassing_76 rfl (lv_at hl 2 rfl) ?_
      refine lv_aload_n hx hb dX10_replaysPassing_77 rfl (lv_at hl 1 rfl) ?_
      refine w_callI (va_runV (As := [.ref a1]) (rest := [.int x6]) F (c_X7_isLike l hL_a2 hK_a2 hL_a1 hK_a1 hp H.size) (cwV (C := RX7) 1 hts (wg_V wm_RX10_90 wy_X7_isLike) rfl rfl rfl (by decide +kernel) ⟨Nat.le_of_ble_eq_true rfl, Nat.le_of_ble_eq_true rfl⟩) (w_preV hK hW hL_a2 hK_a2 (by decide) rfl) rfl rfl hl.1 rfl (lv_room (Nat.le_of_ble_eq_true rfl)) dX10_replaysPassing_78 ⟨Nat.le_of_ble_eq_true rfl, Nat.le_of_ble_eq_true rfl⟩) hW (fun r_7 S_8 H locs hp hW => ?_)
      obtain ⟨hX_S_8, hp⟩ := hp
      refine W.widen (k := 0) (n := 0) (by decide) (by decide) ?_
      have hE := hE.trans hX_S_8
      have hK_a0 : sK S_8 a0 = 15 := (hX_S_8.2 a0 hL_a0).1.trans hK_a0
      have hL_a0 : wM D S_8 a0 := hX_S_8.M hL_a0
      have hK_a1 : sK S_8 a1 = 12 := (hX_S_8.2 a1 hL_a1).1.trans hK_a1
      have hL_a1 : wM D S_8 a1 := hX_S_8.M hL_a1
      have hK_a2 : sK S_8 a2 = 12 := (hX_S_8.2 a2 hL_a2).1.trans hK_a2
      have hL_a2 : wM D S_8 a2 := hX_S_8.M hL_a2
      have hK_a5 : sK S_8 a5 = 8 := (hX_S_8.2 a5 hL_a5).1.trans hK_a5
      have hL_a5 : wM D S_8 a5 := hX_S_8.M hL_a5
      refine lv_ior hx hb dX10_replaysPassing_81 ?_
      refine lv_topi (fun x_9 ex_9 => ?_)
      replace hp := hp x_9 ex_9
      refine lv_istore (lv' := [(6, .int x_9), (0, .ref a0), (1, .ref a1), (2, .ref a2), (3, .int x3), (4, .int x4), (5, .ref a5), (7, .int x7)]) hx hb dX10_replaysPassing_82 hl (by decide) rfl (fun ls hl => ?_)
      obtain ⟨x_10, ex_10⟩ : ∃ z : Int32, z = x7 + 1 := ⟨_, rfl⟩
      replace hp := hp x_10 ex_10
      refine lv_iinc (v := x_10) (lv' := [(7, .int x_10), (6, .int x_9), (0, .ref a0), (1, .ref a1), (2, .ref a2), (3, .int x3), (4, .int x4), (5, .ref a5)]) hx hb dX10_replaysPassing_84 hl (k := 7) rfl (by rw [ex_10]; rfl) (by decide) rfl (fun ls hl => ?_)
      refine lv_goto (tgt := 53) hx hb dX10_replaysPassing_87 (by decide) ?_
      exact ih hp hW hE (lv_sub hl [2, 3, 4, 5, 6, 7, 1, 0] rfl) hL_a0 hK_a0 hL_a1 hK_a1 hL_a2 hK_a2 hL_a5 hK_a5
set_option maxHeartbeats 4000000 in
set_option maxRecDepth 100000 in
theorem t_X10_replaysPassing_5 {p : Program} {l : Launch} {e : Env} {s : State} {m : MethodId} {args : Array Value} {below : List Frame} {meth : Method} {c : Code} {D : wD} {cy : Nat → ClassId} {X : va_W} {A : Nat → Prop} {S0 : wS} {post : Int32 → wS → Prop} (F : CallFix p m c cX10_replaysPassing 8 s args wz_X10_replaysPassing RX10) (hr : meth.sig.returnType = (some .int)) (hlocks : meth.locks = false) (hK : wK D cy A s) : ∀ (n : Nat) {S : wS} {H : Heap} {locs : List Loc} {ls : Array Slot} {a0 : Nat} {a1 : Nat} {a2 : Nat} {x3 : Int32} {x4 : Int32}, wp_X10_replaysPassing_5 D post n S a0 a1 a2 x3 x4 → wO D cy X A s.heap S H locs → wX D S0 S → lv_has ls 8 [(0, .ref a0), (1, .ref a1), (2, .ref a2), (3, .int x3), (4, .int x4)] → wM D S a0 → sK S a0 = 15 → wM D S a1 → sK S a1 = 12 → wM D S a2 → sK S a2 = 12 → W p l e r_X10_replaysPassing s m args below meth c H locs 0 0 (MQ below (va_Qi (fun r S9 => wX D S0 S9 ∧ post r S9) (wB D cy X A) A) args s 0 0 A) (F0 m 5 ls []) := by
  obtain ⟨hx, hb, hml, hown, hts⟩ := id F
  have hwg : ∀ w ∈ WG, w.before args s = true := fun w h => hts w (List.mem_cons_of_mem _ h)
  have i_15 : ∀ w ∈ u_ws RX10 TX10 1, w ∈ wz_X10_replaysPassing := fun w h => List.mem_cons_of_mem _ (wu_15 w h)
  have i_8 : ∀ w ∈ u_ws RX3 TX3 9, w ∈ wz_X10_replaysPassing := fun w h => List.mem_cons_of_mem _ (wu_8 w h)
  have k_12 := hwg _ wf_RX10_12
  intro n
  induction n with
  | zero =>
    intro S H locs ls a0 a1 a2 x3 x4 hp
    exact hp.elim
  | succ n ih =>
    intro S H locs ls a0 a1 a2 x3 x4 hp hW hE hl hL_a0 hK_a0 hL_a1 hK_a1 hL_a2 hK_a2
    unfold wp_X10_replaysPassing_5 at hp
    refine lv_iload hx hb dX10_replaysPassing_5 (lv_at hl 4 rfl) ?_
    refine lv_aload_n hx hb dX10_replaysPassing_7 rfl (lv_at hl 0 rfl) ?_
    obtain ⟨y_1, ey_1, hL_y_1, hK_y_1, hp⟩ := hp
    refine w_get (k := 15) (f := 0) (T := TX10) (v := .ref y_1) F hK hW hL_a0 hK_a0 (by decide) rfl rfl (by decide) i_15 k_12 (by rw [show wv 15 0 S a0 = va_rf (sR S a0 0) from rfl, ey_1]; rfl) dX10_replaysPassing_8 ?_
    refine w_callI (va_runV (As := []) (rest := [.int x4]) F (c_Jx4a65c_size_8abf5 l hL_y_1 hK_y_1 hp H.size) (cwV (C := RJx4a65c) 0 hts (wg_V wm_RX10_18 wy_Jx4a65c_size_8abf5) rfl rfl rfl (by decide +kernel) ⟨Nat.le_of_ble_eq_true rfl, Nat.le_of_ble_eq_true rfl⟩) (w_preV hK hW hL_y_1 hK_y_1 (by decide) rfl) rfl rfl hl.1 rfl (lv_room (Nat.le_of_ble_eq_true rfl)) dX10_replaysPassing_11 ⟨Nat.le_of_ble_eq_true rfl, Nat.le_of_ble_eq_true rfl⟩) hW (fun r_2 S_3 H locs hp hW => ?_)
    obtain ⟨hX_S_3, hp⟩ := hp
    refine W.widen (k := 0) (n := 0) (by decide) (by decide) ?_
    have hE := hE.trans hX_S_3
    have hK_a0 : sK S_3 a0 = 15 := (hX_S_3.2 a0 hL_a0).1.trans hK_a0
    have hL_a0 : wM D S_3 a0 := hX_S_3.M hL_a0
    have hK_a1 : sK S_3 a1 = 12 := (hX_S_3.2 a1 hL_a1).1.trans hK_a1
    have hL_a1 : wM D S_3 a1 := hX_S_3.M hL_a1
    have hK_a2 : sK S_3 a2 = 12 := (hX_S_3.2 a2 hL_a2).1.trans hK_a2
    have hL_a2 : wM D S_3 a2 := hX_S_3.M hL_a2
    refine lv_icmp_ge (tgt := 109) hx hb dX10_replaysPassing_14 (by decide) (fun c_4 => ?_) (fun c_4 => ?_)
    · replace hp := hp.1 c_4
      refine lv_iload_n hx hb dX10_replaysPassing_109 rfl (lv_at hl 3 rfl) ?_
      exact w_iret hx hb hr hlocks hW ⟨hE, hp⟩ dX10_replaysPassing_110
    · replace hp := hp.2 c_4
      refine lv_aload_n hx hb dX10_replaysPassing_17 rfl (lv_at hl 0 rfl) ?_
      refine lv_iload hx hb dX10_replaysPassing_18 (lv_at hl 4 rfl) ?_
      refine w_callR (va_runV (As := [.int x4]) (rest := []) F (c_X10_gameAt l hL_a0 hK_a0 hp H.size) (cwV (C := RX10) 1 hts (wg_V wm_RX10_51 wy_X10_gameAt) rfl rfl rfl (by decide +kernel) ⟨Nat.le_of_ble_eq_true rfl, Nat.le_of_ble_eq_true rfl⟩) (w_preV hK hW hL_a0 hK_a0 (by decide) rfl) rfl rfl hl.1 rfl (lv_room (Nat.le_of_ble_eq_true rfl)) dX10_replaysPassing_20 ⟨Nat.le_of_ble_eq_true rfl, Nat.le_of_ble_eq_true rfl⟩) hW (fun r_5 S_6 H locs hp hW => ?_)
      obtain ⟨hX_S_6, hp⟩ := hp
      refine W.widen (k := 0) (n := 0) (by decide) (by decide) ?_
      have hE := hE.trans hX_S_6
      have hK_a0 : sK S_6 a0 = 15 := (hX_S_6.2 a0 hL_a0).1.trans hK_a0
      have hL_a0 : wM D S_6 a0 := hX_S_6.M hL_a0
      have hK_a1 : sK S_6 a1 = 12 := (hX_S_6.2 a1 hL_a1).1.trans hK_a1
      have hL_a1 : wM D S_6 a1 := hX_S_6.M hL_a1
      have hK_a2 : sK S_6 a2 = 12 := (hX_S_6.2 a2 hL_a2).1.trans hK_a2
      have hL_a2 : wM D S_6 a2 := hX_S_6.M hL_a2
      refine w_astore (lv' := [(5, va_rf r_5), (0, .ref a0), (1, .ref a1), (2, .ref a2), (3, .int x3), (4, .int x4)]) hx hb dX10_replaysPassing_23 hl (by decide) rfl (fun ls hl => ?_)
      refine w_aload hx hb dX10_replaysPassing_25 (lv_at hl 0 rfl) ?_
      refine w_ifnonnull (tgt := 33) hx hb dX10_replaysPassing_27 (by decide) (fun h_8 => ?_) (fun y_7 h_8 => ?_)
      · replace hp := hp.1 h_8
        subst h_8
        refine lv_goto (tgt := 103) hx hb dX10_replaysPassing_30 (by decide) ?_
        exact t_X10_replaysPassing_103 F hr hlocks hK ih hp hW hE (lv_sub hl [1, 2, 3, 4, 5] rfl) hL_a0 hK_a0 hL_a1 hK_a1 hL_a2 hK_a2
      · obtain ⟨hL_y_7, hK_y_7, hp⟩ := hp.2 y_7 h_8
        subst h_8
        refine lv_aload_n hx hb dX10_replaysPassing_33 rfl (lv_at hl 3 rfl) ?_
        refine lv_aload hx hb dX10_replaysPassing_34 (lv_at hl 0 rfl) ?_
        obtain ⟨y_9, ey_9, hL_y_9, hK_y_9, hp⟩ := hp
        refine w_getN (k := 8) (f := 0) (T := TX3) (v := .ref y_9) F hK hW hL_y_7 hK_y_7 (by decide) rfl rfl (by decide) i_8 (hK.2.1 (.fieldLinkNest "OpeningsCabinet$Shelf" 63 "OpeningsCabinet$Game" "places" "[J" "OpeningsCabinet") (by decide +kernel)) (by rw [show wv 8 0 S_6 y_7 = va_rf (sR S_6 y_7 0) from rfl, ey_9]; rfl) dX10_replaysPassing_36 ?_
        refine lv_iconst (v := 0) hx hb dX10_replaysPassing_39 (by decide) ?_
        refine w_callV (va_runV (As := [.ref y_9, .int (0 : Int32)]) (rest := []) F (c_X7_load l hL_a2 hK_a2 hL_y_9 hK_y_9 hp H.size) (cwV (C := RX7) 2 hts (wg_V wm_RX10_67 wy_X7_load) rfl rfl rfl (by decide +kernel) ⟨Nat.le_of_ble_eq_true rfl, Nat.le_of_ble_eq_true rfl⟩) (w_preV hK hW hL_a2 hK_a2 (by decide) rfl) rfl rfl hl.1 rfl (lv_room (Nat.le_of_ble_eq_true rfl)) dX10_replaysPassing_40 ⟨Nat.le_of_ble_eq_true rfl, Nat.le_of_ble_eq_true rfl⟩) hW (fun S_11 H locs hp hW => ?_)
        obtain ⟨hX_S_11, hp⟩ := hp
        refine W.widen (k := 0) (n := 0) (by decide) (by decide) ?_
        have hE := hE.trans hX_S_11
        have hK_a0 : sK S_11 a0 = 15 := (hX_S_11.2 a0 hL_a0).1.trans hK_a0
        have hL_a0 : wM D S_11 a0 := hX_S_11.M hL_a0
        have hK_a1 : sK S_11 a1 = 12 := (hX_S_11.2 a1 hL_a1).1.trans hK_a1
        have hL_a1 : wM D S_11 a1 := hX_S_11.M hL_a1
        have hK_a2 : sK S_11 a2 = 12 := (hX_S_11.2 a2 hL_a2).1.trans hK_a2
        have hL_a2 : wM D S_11 a2 := hX_S_11.M hL_a2
        have hK_y_7 : sK S_11 y_7 = 8 := (hX_S_11.2 y_7 hL_y_7).1.trans hK_y_7
        have hL_y_7 : wM D S_11 y_7 := hX_S_11.M hL_y_7
        refine lv_aload_n hx hb dX10_replaysPassing_43 rfl (lv_at hl 3 rfl) ?_
        refine lv_aload_n hx hb dX10_replaysPassing_44 rfl (lv_at hl 2 rfl) ?_
        refine w_callI (va_runV (As := [.ref a1]) (rest := []) F (c_X7_isLike l hL_a2 hK_a2 hL_a1 hK_a1 hp H.size) (cwV (C := RX7) 1 hts (wg_V wm_RX10_90 wy_X7_isLike) rfl rfl rfl (by decide +kernel) ⟨Nat.le_of_ble_eq_true rfl, Nat.le_of_ble_eq_true rfl⟩) (w_preV hK hW hL_a2 hK_a2 (by decide) rfl) rfl rfl hl.1 rfl (lv_room (Nat.le_of_ble_eq_true rfl)) dX10_replaysPassing_45 ⟨Nat.le_of_ble_eq_true rfl, Nat.le_of_ble_eq_true rfl⟩) hW (fun r_12 S_13 H locs hp hW => ?_)
        obtain ⟨hX_S_13, hp⟩ := hp
        refine W.widen (k := 0) (n := 0) (by decide) (by decide) ?_
        have hE := hE.trans hX_S_13
        have hK_a0 : sK S_13 a0 = 15 := (hX_S_13.2 a0 hL_a0).1.trans hK_a0
        have hL_a0 : wM D S_13 a0 := hX_S_13.M hL_a0
        have hK_a1 : sK S_13 a1 = 12 := (hX_S_13.2 a1 hL_a1).1.trans hK_a1
        have hL_a1 : wM D S_13 a1 := hX_S_13.M hL_a1
        have hK_a2 : sK S_13 a2 = 12 := (hX_S_13.2 a2 hL_a2).1.trans hK_a2
        have hL_a2 : wM D S_13 a2 := hX_S_13.M hL_a2
        have hK_y_7 : sK S_13 y_7 = 8 := (hX_S_13.2 y_7 hL_y_7).1.trans hK_y_7
        have hL_y_7 : wM D S_13 y_7 := hX_S_13.M hL_y_7
        refine lv_istore (lv' := [(6, .int r_12), (5, .ref y_7), (0, .ref a0), (1, .ref a1), (2, .ref a2), (3, .int x3), (4, .int x4)]) hx hb dX10_replaysPassing_48 hl (by decide) rfl (fun ls hl => ?_)
        refine lv_iconst (v := 0) hx hb dX10_replaysPassing_50 (by decide) ?_
        refine lv_istore (lv' := [(7, .int (0 : Int32)), (6, .int r_12), (5, .ref y_7), (0, .ref a0), (1, .ref a1), (2, .ref a2), (3, .int x3), (4, .int x4)]) hx hb dX10_replaysPassing_51 hl (by decide) rfl (fun ls hl => ?_)
        obtain ⟨n_14, hp⟩ := hp
        exact t_X10_replaysPassing_53 F hr hlocks hK ih n_14 hp hW hE (lv_sub hl [3, 4, 5, 6, 7, 2, 1, 0] rfl) hL_a0 hK_a0 hL_a1 hK_a1 hL_a2 hK_a2 hL_y_7 hK_y_7
set_option maxHeartbeats 4000000 in
set_option maxRecDepth 100000 in
theorem t_X10_replaysPassing_0 {p : Program} {l : Launch} {e : Env} {s : State} {m : MethodId} {args : Array Value} {below : List Frame} {meth : Method} {c : Code} {D : wD} {cy : Nat → ClassId} {X : va_W} {A : Nat → Prop} {S0 : wS} {post : Int32 → wS → Prop} (F : CallFix p m c cX10_replaysPassing 8 s args wz_X10_replaysPassing RX10) (hr : meth.sig.returnType = (some .int)) (hlocks : meth.locks = false) (hK : wK D cy A s) : ∀ {S : wS} {H : Heap} {locs : List Loc} {ls : Array Slot} {a0 : Nat} {a1 : Nat} {a2 : Nat}, wp_X10_replaysPassing_0 D post S a0 a1 a2 → wO D cy X A s.heap S H locs → wX D S0 S → lv_has ls 8 [(0, .ref a0), (1, .ref a1), (2, .ref a2)] → wM D S a0 → sK S a0 = 15 → wM D S a1 → sK S a1 = 12 → wM D S a2 → sK S a2 = 12 → W p l e r_X10_replaysPassing s m args below meth c H locs 0 0 (MQ below (va_Qi (fun r S9 => wX D S0 S9 ∧ post r S9) (wB D cy X A) A) args s 0 0 A) (F0 m 0 ls []) := by
  obtain ⟨hx, hb, hml, hown, hts⟩ := id F
  have hwg : ∀ w ∈ WG, w.before args s = true := fun w h => hts w (List.mem_cons_of_mem _ h)
  intro S H locs ls a0 a1 a2 hp hW hE hl hL_a0 hK_a0 hL_a1 hK_a1 hL_a2 hK_a2
  unfold wp_X10_replaysPassing_0 at hp
  refine lv_iconst (v := 0) hx hb dX10_replaysPassing_0 (by decide) ?_
  refine lv_istore_n (lv' := [(3, .int (0 : Int32)), (0, .ref a0), (1, .ref a1), (2, .ref a2)]) hx hb dX10_replaysPassing_1 rfl hl (by decide) rfl (fun ls hl => ?_)
  refine lv_iconst (v := 0) hx hb dX10_replaysPassing_2 (by decide) ?_
  refine lv_istore (lv' := [(4, .int (0 : Int32)), (3, .int (0 : Int32)), (0, .ref a0), (1, .ref a1), (2, .ref a2)]) hx hb dX10_replaysPassing_3 hl (by decide) rfl (fun ls hl => ?_)
  obtain ⟨n_1, hp⟩ := hp
  exact t_X10_replaysPassing_5 F hr hlocks hK n_1 hp hW hE (lv_sub hl [2, 3, 4, 1, 0] rfl) hL_a0 hK_a0 hL_a1 hK_a1 hL_a2 hK_a2
set_option maxHeartbeats 4000000 in
set_option maxRecDepth 100000 in
theorem c_X10_replaysPassing (l : Launch) {D : wD} {cy : Nat → ClassId} {X : va_W} {S0 : wS} {post : Int32 → wS → Prop} {a0 : Nat} {a1 : Nat} {a2 : Nat} (hL_a0 : wM D S0 a0) (hK_a0 : sK S0 a0 = 15) (hL_a1 : wM D S0 a1) (hK_a1 : sK S0 a1 = 12) (hL_a2 : wM D S0 a2) (hK_a2 : sK S0 a2 = 12) (hp : wp_X10_replaysPassing D post S0 a0 a1 a2) : mI D cy X l yX10_replaysPassing wz_X10_replaysPassing r_X10_replaysPassing [.ref a0, .ref a1, .ref a2] S0 (fun r S9 => wX D S0 S9 ∧ post r S9) := by
  intro sz
  refine Met.ofW (cc := cX10_replaysPassing) (maxL := 8) (ret := (some .int)) (by decide) rfl ?_
  intro p e s m args below meth c s₁ B hml hv
  obtain ⟨rfl, hsz, hP, hK, hD0, hRO⟩ := hv
  have hts := atoms_spec (ws := wz_X10_replaysPassing) B.pre
  have hown : s.vm.findClass RX10 = some m.cls := findClass_of_methodNamed B.named
  subst hsz
  have hD := hD0.self (sz := s.heap.size)
  have F : CallFix p m c cX10_replaysPassing 8 s _ wz_X10_replaysPassing RX10 := ⟨B.exec, B.bytes, hml, hown, hts⟩
  have hr := B.returns
  have hlocks := B.notSynchronized
  generalize hAe : va_A (wL cy X S0) s.heap.size = A at hD hK ⊢
  have hA : ∀ q, s.heap.size ≤ q → A q := fun q h => by rw [← hAe]; exact Or.inr h
  have hW : wO D cy X A s.heap S0 s.heap [] := ⟨hP, hD, va_S.rf, hA, hRO⟩
  have hl := lv_entry ([.ref a0, .ref a1, .ref a2]) (n := 8) (Nat.le_of_ble_eq_true rfl)
  rw [lg_entry_eq]
  generalize (lg_sl ([.ref a0, .ref a1, .ref a2]) ++ List.replicate (8 - (lg_sl ([.ref a0, .ref a1, .ref a2])).length) Slot.unset).toArray = ls at hl ⊢
  have hl : lv_has ls 8 [(0, .ref a0), (1, .ref a1), (2, .ref a2)] := hl
  unfold wp_X10_replaysPassing at hp
  exact t_X10_replaysPassing_0 F hr hlocks hK hp hW wX.rf (lv_sub hl [0, 1, 2] rfl) hL_a0 hK_a0 hL_a1 hK_a1 hL_a2 hK_a2
def wp_X10_size_0 (D : wD) (post : Int32 → wS → Prop)  (S : wS) (a0 : Nat) : Prop :=
∃ y_1 : Nat, sR S a0 0 = some y_1 ∧ wM D S y_1 ∧ sK S y_1 = 4 ∧
wp_Jx4a65c_size_8abf5 D (fun r_2 S_3 => 
post r_2 S_3) S y_1
abbrev r_X10_size : Room := { frames := 1, cells := 0, slots := 0, locals := 20 }
def wp_X10_size (D : wD) (post : Int32 → wS → Prop) (S : wS) (a0 : Nat) : Prop := wp_X10_size_0 D post S a0
set_option maxHeartbeats 4000000 in
set_option maxRecDepth 100000 in
theorem t_X10_size_0 {p : Program} {l : Launch} {e : Env} {s : State} {m : MethodId} {args : Array Value} {below : List Frame} {meth : Method} {c : Code} {D : wD} {cy : Nat → ClassId} {X : va_W} {A : Nat → Prop} {S0 : wS} {post : Int32 → wS → Prop} (F : CallFix p m c cX10_size 1 s args wz_X10_size RX10) (hr : meth.sig.returnType = (some .int)) (hlocks : meth.locks = false) (hK : wK D cy A s) : ∀ {S : wS} {H : Heap} {locs : List Loc} {ls : Array Slot} {a0 : Nat}, wp_X10_size_0 D post S a0 → wO D cy X A s.heap S H locs → wX D S0 S → lv_has ls 1 [(0, .ref a0)] → wM D S a0 → sK S a0 = 15 → W p l e r_X10_size s m args below meth c H locs 0 0 (MQ below (va_Qi (fun r S9 => wX D S0 S9 ∧ post r S9) (wB D cy X A) A) args s 0 0 A) (F0 m 0 ls []) := by
  obtain ⟨hx, hb, hml, hown, hts⟩ := id F
  have hwg : ∀ w ∈ WG, w.before args s = true := fun w h => hts w (List.mem_cons_of_mem _ h)
  have i_15 : ∀ w ∈ u_ws RX10 TX10 1, w ∈ wz_X10_size := fun w h => List.mem_cons_of_mem _ (wu_15 w h)
  have k_12 := hwg _ wf_RX10_12
  intro S H locs ls a0 hp hW hE hl hL_a0 hK_a0
  unfold wp_X10_size_0 at hp
  refine lv_aload_n hx hb dX10_size_0 rfl (lv_at hl 0 rfl) ?_
  obtain ⟨y_1, ey_1, hL_y_1, hK_y_1, hp⟩ := hp
  refine w_get (k := 15) (f := 0) (T := TX10) (v := .ref y_1) F hK hW hL_a0 hK_a0 (by decide) rfl rfl (by decide) i_15 k_12 (by rw [show wv 15 0 S a0 = va_rf (sR S a0 0) from rfl, ey_1]; rfl) dX10_size_1 ?_
  refine w_callI (va_runV (As := []) (rest := []) F (c_Jx4a65c_size_8abf5 l hL_y_1 hK_y_1 hp H.size) (cwV (C := RJx4a65c) 0 hts (wg_V wm_RX10_18 wy_Jx4a65c_size_8abf5) rfl rfl rfl (by decide +kernel) ⟨Nat.le_of_ble_eq_true rfl, Nat.le_of_ble_eq_true rfl⟩) (w_preV hK hW hL_y_1 hK_y_1 (by decide) rfl) rfl rfl hl.1 rfl (lv_room (Nat.le_of_ble_eq_true rfl)) dX10_size_4 ⟨Nat.le_of_ble_eq_true rfl, Nat.le_of_ble_eq_true rfl⟩) hW (fun r_2 S_3 H locs hp hW => ?_)
  obtain ⟨hX_S_3, hp⟩ := hp
  refine W.widen (k := 0) (n := 0) (by decide) (by decide) ?_
  have hE := hE.trans hX_S_3
  have hK_a0 : sK S_3 a0 = 15 := (hX_S_3.2 a0 hL_a0).1.trans hK_a0
  have hL_a0 : wM D S_3 a0 := hX_S_3.M hL_a0
  exact w_iret hx hb hr hlocks hW ⟨hE, hp⟩ dX10_size_7
set_option maxHeartbeats 4000000 in
set_option maxRecDepth 100000 in
theorem c_X10_size (l : Launch) {D : wD} {cy : Nat → ClassId} {X : va_W} {S0 : wS} {post : Int32 → wS → Prop} {a0 : Nat} (hL_a0 : wM D S0 a0) (hK_a0 : sK S0 a0 = 15) (hp : wp_X10_size D post S0 a0) : mI D cy X l yX10_size wz_X10_size r_X10_size [.ref a0] S0 (fun r S9 => wX D S0 S9 ∧ post r S9) := by
  intro sz
  refine Met.ofW (cc := cX10_size) (maxL := 1) (ret := (some .int)) (by decide) rfl ?_
  intro p e s m args below meth c s₁ B hml hv
  obtain ⟨rfl, hsz, hP, hK, hD0, hRO⟩ := hv
  have hts := atoms_spec (ws := wz_X10_size) B.pre
  have hown : s.vm.findClass RX10 = some m.cls := findClass_of_methodNamed B.named
  subst hsz
  have hD := hD0.self (sz := s.heap.size)
  have F : CallFix p m c cX10_size 1 s _ wz_X10_size RX10 := ⟨B.exec, B.bytes, hml, hown, hts⟩
  have hr := B.returns
  have hlocks := B.notSynchronized
  generalize hAe : va_A (wL cy X S0) s.heap.size = A at hD hK ⊢
  have hA : ∀ q, s.heap.size ≤ q → A q := fun q h => by rw [← hAe]; exact Or.inr h
  have hW : wO D cy X A s.heap S0 s.heap [] := ⟨hP, hD, va_S.rf, hA, hRO⟩
  have hl := lv_entry ([.ref a0]) (n := 1) (Nat.le_of_ble_eq_true rfl)
  rw [lg_entry_eq]
  generalize (lg_sl ([.ref a0]) ++ List.replicate (1 - (lg_sl ([.ref a0])).length) Slot.unset).toArray = ls at hl ⊢
  have hl : lv_has ls 1 [(0, .ref a0)] := hl
  unfold wp_X10_size at hp
  exact t_X10_size_0 F hr hlocks hK hp hW wX.rf (lv_sub hl [0] rfl) hL_a0 hK_a0
def wp_X10_strengthsPassing_44 (D : wD) (post : Int32 → wS → Prop) (k_4 : wS → Nat → Nat → Int32 → Int32 → Prop) (S : wS) (a0 : Nat) (a1 : Nat) (x2 : Int32) (x3 : Int32) : Prop :=
∀ x_1 : Int32, x_1 = x3 + 1 →
k_4 S a0 a1 x2 x_1
def wp_X10_strengthsPassing_4 (D : wD) (post : Int32 → wS → Prop)  : Nat → wS → Nat → Nat → Int32 → Int32 → Prop
  | 0, _, _, _, _, _ => False
  | n + 1, S, a0, a1, x2, x3 =>
    ∃ y_1 : Nat, sR S a0 0 = some y_1 ∧ wM D S y_1 ∧ sK S y_1 = 4 ∧
    wp_Jx4a65c_size_8abf5 D (fun r_2 S_3 => 
    ((r_2 ≤ x3 → post x2 S_3) ∧
     (¬ r_2 ≤ x3 → wp_X10_gameAt D (fun r_5 S_6 => 
    ((r_5 = none → wp_X10_strengthsPassing_44 D post (wp_X10_strengthsPassing_4 D post n) S_6 a0 a1 x2 x3) ∧
     (∀ y_7 : Nat, r_5 = some y_7 → wM D S_6 y_7 ∧ sK S_6 y_7 = 8 ∧ wp_X3_passesThrough D (fun r_9 S_10 => 
    ((r_9 = 0 → wp_X10_strengthsPassing_44 D post (wp_X10_strengthsPassing_4 D post n) S_10 a0 a1 x2 x3) ∧
     (¬ r_9 = 0 → ∀ x_12 : Int32, x_12 = (x2 + (sI S_10 y_7 6)) →
    wp_X10_strengthsPassing_44 D post (wp_X10_strengthsPassing_4 D post n) S_10 a0 a1 x_12 x3))) S_6 y_7 a1))) S_3 a0 x3))) S y_1
def wp_X10_strengthsPassing_0 (D : wD) (post : Int32 → wS → Prop)  (S : wS) (a0 : Nat) (a1 : Nat) : Prop :=
∃ n_1 : Nat, wp_X10_strengthsPassing_4 D post n_1 S a0 a1 (0 : Int32) (0 : Int32)
abbrev r_X10_strengthsPassing : Room := { frames := 4, cells := 0, slots := 0, locals := 87 }
def wp_X10_strengthsPassing (D : wD) (post : Int32 → wS → Prop) (S : wS) (a0 : Nat) (a1 : Nat) : Prop := wp_X10_strengthsPassing_0 D post S a0 a1
set_option maxHeartbeats 4000000 in
set_option maxRecDepth 100000 in
theorem t_X10_strengthsPassing_44 {p : Program} {l : Launch} {e : Env} {s : State} {m : MethodId} {args : Array Value} {below : List Frame} {meth : Method} {c : Code} {D : wD} {cy : Nat → ClassId} {X : va_W} {A : Nat → Prop} {S0 : wS} {post : Int32 → wS → Prop} (F : CallFix p m c cX10_strengthsPassing 5 s args wz_X10_strengthsPassing RX10) (hr : meth.sig.returnType = (some .int)) (hlocks : meth.locks = false) (hK : wK D cy A s) {k_4 : wS → Nat → Nat → Int32 → Int32 → Prop} (q_4 : ∀ {S : wS} {H : Heap} {locs : List Loc} {ls : Array Slot} {a0 : Nat} {a1 : Nat} {x2 : Int32} {x3 : Int32}, k_4 S a0 a1 x2 x3 → wO D cy X A s.heap S H locs → wX D S0 S → lv_has ls 5 [(0, .ref a0), (1, .ref a1), (2, .int x2), (3, .int x3)] → wM D S a0 → sK S a0 = 15 → wM D S a1 → sK S a1 = 12 → W p l e r_X10_strengthsPassing s m args below meth c H locs 0 0 (MQ below (va_Qi (fun r S9 => wX D S0 S9 ∧ post r S9) (wB D cy X A) A) args s 0 0 A) (F0 m 4 ls [])) : ∀ {S : wS} {H : Heap} {locs : List Loc} {ls : Array Slot} {a0 : Nat} {a1 : Nat} {x2 : Int32} {x3 : Int32}, wp_X10_strengthsPassing_44 D post k_4 S a0 a1 x2 x3 → wO D cy X A s.heap S H locs → wX D S0 S → lv_has ls 5 [(0, .ref a0), (1, .ref a1), (2, .int x2), (3, .int x3)] → wM D S a0 → sK S a0 = 15 → wM D S a1 → sK S a1 = 12 → W p l e r_X10_strengthsPassing s m args below meth c H locs 0 0 (MQ below (va_Qi (fun r S9 => wX D S0 S9 ∧ post r S9) (wB D cy X A) A) args s 0 0 A) (F0 m 44 ls []) := by
  obtain ⟨hx, hb, hml, hown, hts⟩ := id F
  have hwg : ∀ w ∈ WG, w.before args s = true := fun w h => hts w (List.mem_cons_of_mem _ h)
  intro S H locs ls a0 a1 x2 x3 hp hW hE hl hL_a0 hK_a0 hL_a1 hK_a1
  unfold wp_X10_strengthsPassing_44 at hp
  obtain ⟨x_1, ex_1⟩ : ∃ z : Int32, z = x3 + 1 := ⟨_, rfl⟩
  replace hp := hp x_1 ex_1
  refine lv_iinc (v := x_1) (lv' := [(3, .int x_1), (0, .ref a0), (1, .ref a1), (2, .int x2)]) hx hb dX10_strengthsPassing_44 hl (k := 3) rfl (by rw [ex_1]; rfl) (by decide) rfl (fun ls hl => ?_)
  refine lv_goto (tgt := 4) hx hb dX10_strengthsPassing_47 (by decide) ?_
  exact q_4 hp hW hE (lv_sub hl [1, 2, 3, 0] rfl) hL_a0 hK_a0 hL_a1 hK_a1
set_option maxHeartbeats 4000000 in
set_option maxRecDepth 100000 in
theorem t_X10_strengthsPassing_4 {p : Program} {l : Launch} {e : Env} {s : State} {m : MethodId} {args : Array Value} {below : List Frame} {meth : Method} {c : Code} {D : wD} {cy : Nat → ClassId} {X : va_W} {A : Nat → Prop} {S0 : wS} {post : Int32 → wS → Prop} (F : CallFix p m c cX10_strengthsPassing 5 s args wz_X10_strengthsPassing RX10) (hr : meth.sig.returnType = (some .int)) (hlocks : meth.locks = false) (hK : wK D cy A s) : ∀ (n : Nat) {S : wS} {H : Heap} {locs : List Loc} {ls : Array Slot} {a0 : Nat} {a1 : Nat} {x2 : Int32} {x3 : Int32}, wp_X10_strengthsPassing_4 D post n S a0 a1 x2 x3 → wO D cy X A s.heap S H locs → wX D S0 S → lv_has ls 5 [(0, .ref a0), (1, .ref a1), (2, .int x2), (3, .int x3)] → wM D S a0 → sK S a0 = 15 → wM D S a1 → sK S a1 = 12 → W p l e r_X10_strengthsPassing s m args below meth c H locs 0 0 (MQ below (va_Qi (fun r S9 => wX D S0 S9 ∧ post r S9) (wB D cy X A) A) args s 0 0 A) (F0 m 4 ls []) := by
  obtain ⟨hx, hb, hml, hown, hts⟩ := id F
  have hwg : ∀ w ∈ WG, w.before args s = true := fun w h => hts w (List.mem_cons_of_mem _ h)
  have i_15 : ∀ w ∈ u_ws RX10 TX10 1, w ∈ wz_X10_strengthsPassing := fun w h => List.mem_cons_of_mem _ (wu_15 w h)
  have i_8 : ∀ w ∈ u_ws RX3 TX3 9, w ∈ wz_X10_strengthsPassing := fun w h => List.mem_cons_of_mem _ (wu_8 w h)
  have k_12 := hwg _ wf_RX10_12
  intro n
  induction n with
  | zero =>
    intro S H locs ls a0 a1 x2 x3 hp
    exact hp.elim
  | succ n ih =>
    intro S H locs ls a0 a1 x2 x3 hp hW hE hl hL_a0 hK_a0 hL_a1 hK_a1
    unfold wp_X10_strengthsPassing_4 at hp
    refine lv_iload_n hx hb dX10_strengthsPassing_4 rfl (lv_at hl 3 rfl) ?_
    refine lv_aload_n hx hb dX10_strengthsPassing_5 rfl (lv_at hl 0 rfl) ?_
    obtain ⟨y_1, ey_1, hL_y_1, hK_y_1, hp⟩ := hp
    refine w_get (k := 15) (f := 0) (T := TX10) (v := .ref y_1) F hK hW hL_a0 hK_a0 (by decide) rfl rfl (by decide) i_15 k_12 (by rw [show wv 15 0 S a0 = va_rf (sR S a0 0) from rfl, ey_1]; rfl) dX10_strengthsPassing_6 ?_
    refine w_callI (va_runV (As := []) (rest := [.int x3]) F (c_Jx4a65c_size_8abf5 l hL_y_1 hK_y_1 hp H.size) (cwV (C := RJx4a65c) 0 hts (wg_V wm_RX10_18 wy_Jx4a65c_size_8abf5) rfl rfl rfl (by decide +kernel) ⟨Nat.le_of_ble_eq_true rfl, Nat.le_of_ble_eq_true rfl⟩) (w_preV hK hW hL_y_1 hK_y_1 (by decide) rfl) rfl rfl hl.1 rfl (lv_room (Nat.le_of_ble_eq_true rfl)) dX10_strengthsPassing_9 ⟨Nat.le_of_ble_eq_true rfl, Nat.le_of_ble_eq_true rfl⟩) hW (fun r_2 S_3 H locs hp hW => ?_)
    obtain ⟨hX_S_3, hp⟩ := hp
    refine W.widen (k := 0) (n := 0) (by decide) (by decide) ?_
    have hE := hE.trans hX_S_3
    have hK_a0 : sK S_3 a0 = 15 := (hX_S_3.2 a0 hL_a0).1.trans hK_a0
    have hL_a0 : wM D S_3 a0 := hX_S_3.M hL_a0
    have hK_a1 : sK S_3 a1 = 12 := (hX_S_3.2 a1 hL_a1).1.trans hK_a1
    have hL_a1 : wM D S_3 a1 := hX_S_3.M hL_a1
    refine lv_icmp_ge (tgt := 50) hx hb dX10_strengthsPassing_12 (by decide) (fun c_4 => ?_) (fun c_4 => ?_)
    · replace hp := hp.1 c_4
      refine lv_iload_n hx hb dX10_strengthsPassing_50 rfl (lv_at hl 2 rfl) ?_
      exact w_iret hx hb hr hlocks hW ⟨hE, hp⟩ dX10_strengthsPassing_51
    · replace hp := hp.2 c_4
      refine lv_aload_n hx hb dX10_strengthsPassing_15 rfl (lv_at hl 0 rfl) ?_
      refine lv_iload_n hx hb dX10_strengthsPassing_16 rfl (lv_at hl 3 rfl) ?_
      refine w_callR (va_runV (As := [.int x3]) (rest := []) F (c_X10_gameAt l hL_a0 hK_a0 hp H.size) (cwV (C := RX10) 1 hts (wg_V wm_RX10_51 wy_X10_gameAt) rfl rfl rfl (by decide +kernel) ⟨Nat.le_of_ble_eq_true rfl, Nat.le_of_ble_eq_true rfl⟩) (w_preV hK hW hL_a0 hK_a0 (by decide) rfl) rfl rfl hl.1 rfl (lv_room (Nat.le_of_ble_eq_true rfl)) dX10_strengthsPassing_17 ⟨Nat.le_of_ble_eq_true rfl, Nat.le_of_ble_eq_true rfl⟩) hW (fun r_5 S_6 H locs hp hW => ?_)
      obtain ⟨hX_S_6, hp⟩ := hp
      refine W.widen (k := 0) (n := 0) (by decide) (by decide) ?_
      have hE := hE.trans hX_S_6
      have hK_a0 : sK S_6 a0 = 15 := (hX_S_6.2 a0 hL_a0).1.trans hK_a0
      have hL_a0 : wM D S_6 a0 := hX_S_6.M hL_a0
      have hK_a1 : sK S_6 a1 = 12 := (hX_S_6.2 a1 hL_a1).1.trans hK_a1
      have hL_a1 : wM D S_6 a1 := hX_S_6.M hL_a1
      refine w_astore (lv' := [(4, va_rf r_5), (0, .ref a0), (1, .ref a1), (2, .int x2), (3, .int x3)]) hx hb dX10_strengthsPassing_20 hl (by decide) rfl (fun ls hl => ?_)
      refine w_aload hx hb dX10_strengthsPassing_22 (lv_at hl 0 rfl) ?_
      refine w_ifnull (tgt := 44) hx hb dX10_strengthsPassing_24 (by decide) (fun h_8 => ?_) (fun y_7 h_8 => ?_)
      · replace hp := hp.1 h_8
        subst h_8
        exact t_X10_strengthsPassing_44 F hr hlocks hK ih hp hW hE (lv_sub hl [1, 2, 3, 4] rfl) hL_a0 hK_a0 hL_a1 hK_a1
      · obtain ⟨hL_y_7, hK_y_7, hp⟩ := hp.2 y_7 h_8
        subst h_8
        refine lv_aload hx hb dX10_strengthsPassing_27 (lv_at hl 0 rfl) ?_
        refine lv_aload_n hx hb dX10_strengthsPassing_29 rfl (lv_at hl 2 rfl) ?_
        refine w_callI (va_runV (As := [.ref a1]) (rest := []) F (c_X3_passesThrough l hL_y_7 hK_y_7 hL_a1 hK_a1 hp H.size) (cwV (C := RX3) 1 hts (wg_V wm_RX10_80 wy_X3_passesThrough) rfl rfl rfl (by decide +kernel) ⟨Nat.le_of_ble_eq_true rfl, Nat.le_of_ble_eq_true rfl⟩) (w_preV hK hW hL_y_7 hK_y_7 (by decide) rfl) rfl rfl hl.1 rfl (lv_room (Nat.le_of_ble_eq_true rfl)) dX10_strengthsPassing_30 ⟨Nat.le_of_ble_eq_true rfl, Nat.le_of_ble_eq_true rfl⟩) hW (fun r_9 S_10 H locs hp hW => ?_)
        obtain ⟨hX_S_10, hp⟩ := hp
        refine W.widen (k := 0) (n := 0) (by decide) (by decide) ?_
        have hE := hE.trans hX_S_10
        have hK_a0 : sK S_10 a0 = 15 := (hX_S_10.2 a0 hL_a0).1.trans hK_a0
        have hL_a0 : wM D S_10 a0 := hX_S_10.M hL_a0
        have hK_a1 : sK S_10 a1 = 12 := (hX_S_10.2 a1 hL_a1).1.trans hK_a1
        have hL_a1 : wM D S_10 a1 := hX_S_10.M hL_a1
        have hK_y_7 : sK S_10 y_7 = 8 := (hX_S_10.2 y_7 hL_y_7).1.trans hK_y_7
        have hL_y_7 : wM D S_10 y_7 := hX_S_10.M hL_y_7
        refine lv_if_eq (tgt := 44) hx hb dX10_strengthsPassing_33 (by decide) (fun c_11 => ?_) (fun c_11 => ?_)
        · replace hp := hp.1 c_11
          exact t_X10_strengthsPassing_44 F hr hlocks hK ih hp hW hE (lv_sub hl [1, 2, 3, 4] rfl) hL_a0 hK_a0 hL_a1 hK_a1
        · replace hp := hp.2 c_11
          refine lv_iload_n hx hb dX10_strengthsPassing_36 rfl (lv_at hl 3 rfl) ?_
          refine lv_aload hx hb dX10_strengthsPassing_37 (lv_at hl 0 rfl) ?_
          refine w_getN (k := 8) (f := 6) (T := TX3) (v := .int (sI S_10 y_7 6)) F hK hW hL_y_7 hK_y_7 (by decide) rfl rfl (by decide) i_8 (hK.2.1 (.fieldLinkNest "OpeningsCabinet$Shelf" 87 "OpeningsCabinet$Game" "strength" "I" "OpeningsCabinet") (by decide +kernel)) rfl dX10_strengthsPassing_39 ?_
          refine lv_iadd hx hb dX10_strengthsPassing_42 ?_
          refine lv_topi (fun x_12 ex_12 => ?_)
          replace hp := hp x_12 ex_12
          refine lv_istore_n (lv' := [(2, .int x_12), (4, .ref y_7), (0, .ref a0), (1, .ref a1), (3, .int x3)]) hx hb dX10_strengthsPassing_43 rfl hl (by decide) rfl (fun ls hl => ?_)
          exact t_X10_strengthsPassing_44 F hr hlocks hK ih hp hW hE (lv_sub hl [2, 3, 0, 4] rfl) hL_a0 hK_a0 hL_a1 hK_a1
set_option maxHeartbeats 4000000 in
set_option maxRecDepth 100000 in
theorem t_X10_strengthsPassing_0 {p : Program} {l : Launch} {e : Env} {s : State} {m : MethodId} {args : Array Value} {below : List Frame} {meth : Method} {c : Code} {D : wD} {cy : Nat → ClassId} {X : va_W} {A : Nat → Prop} {S0 : wS} {post : Int32 → wS → Prop} (F : CallFix p m c cX10_strengthsPassing 5 s args wz_X10_strengthsPassing RX10) (hr : meth.sig.returnType = (some .int)) (hlocks : meth.locks = false) (hK : wK D cy A s) : ∀ {S : wS} {H : Heap} {locs : List Loc} {ls : Array Slot} {a0 : Nat} {a1 : Nat}, wp_X10_strengthsPassing_0 D post S a0 a1 → wO D cy X A s.heap S H locs → wX D S0 S → lv_has ls 5 [(0, .ref a0), (1, .ref a1)] → wM D S a0 → sK S a0 = 15 → wM D S a1 → sK S a1 = 12 → W p l e r_X10_strengthsPassing s m args below meth c H locs 0 0 (MQ below (va_Qi (fun r S9 => wX D S0 S9 ∧ post r S9) (wB D cy X A) A) args s 0 0 A) (F0 m 0 ls []) := by
  obtain ⟨hx, hb, hml, hown, hts⟩ := id F
  have hwg : ∀ w ∈ WG, w.before args s = true := fun w h => hts w (List.mem_cons_of_mem _ h)
  intro S H locs ls a0 a1 hp hW hE hl hL_a0 hK_a0 hL_a1 hK_a1
  unfold wp_X10_strengthsPassing_0 at hp
  refine lv_iconst (v := 0) hx hb dX10_strengthsPassing_0 (by decide) ?_
  refine lv_istore_n (lv' := [(2, .int (0 : Int32)), (0, .ref a0), (1, .ref a1)]) hx hb dX10_strengthsPassing_1 rfl hl (by decide) rfl (fun ls hl => ?_)
  refine lv_iconst (v := 0) hx hb dX10_strengthsPassing_2 (by decide) ?_
  refine lv_istore_n (lv' := [(3, .int (0 : Int32)), (2, .int (0 : Int32)), (0, .ref a0), (1, .ref a1)]) hx hb dX10_strengthsPassing_3 rfl hl (by decide) rfl (fun ls hl => ?_)
  obtain ⟨n_1, hp⟩ := hp
  exact t_X10_strengthsPassing_4 F hr hlocks hK n_1 hp hW hE (lv_sub hl [2, 3, 1, 0] rfl) hL_a0 hK_a0 hL_a1 hK_a1
set_option maxHeartbeats 4000000 in
set_option maxRecDepth 100000 in
theorem c_X10_strengthsPassing (l : Launch) {D : wD} {cy : Nat → ClassId} {X : va_W} {S0 : wS} {post : Int32 → wS → Prop} {a0 : Nat} {a1 : Nat} (hL_a0 : wM D S0 a0) (hK_a0 : sK S0 a0 = 15) (hL_a1 : wM D S0 a1) (hK_a1 : sK S0 a1 = 12) (hp : wp_X10_strengthsPassing D post S0 a0 a1) : mI D cy X l yX10_strengthsPassing wz_X10_strengthsPassing r_X10_strengthsPassing [.ref a0, .ref a1] S0 (fun r S9 => wX D S0 S9 ∧ post r S9) := by
  intro sz
  refine Met.ofW (cc := cX10_strengthsPassing) (maxL := 5) (ret := (some .int)) (by decide) rfl ?_
  intro p e s m args below meth c s₁ B hml hv
  obtain ⟨rfl, hsz, hP, hK, hD0, hRO⟩ := hv
  have hts := atoms_spec (ws := wz_X10_strengthsPassing) B.pre
  have hown : s.vm.findClass RX10 = some m.cls := findClass_of_methodNamed B.named
  subst hsz
  have hD := hD0.self (sz := s.heap.size)
  have F : CallFix p m c cX10_strengthsPassing 5 s _ wz_X10_strengthsPassing RX10 := ⟨B.exec, B.bytes, hml, hown, hts⟩
  have hr := B.returns
  have hlocks := B.notSynchronized
  generalize hAe : va_A (wL cy X S0) s.heap.size = A at hD hK ⊢
  have hA : ∀ q, s.heap.size ≤ q → A q := fun q h => by rw [← hAe]; exact Or.inr h
  have hW : wO D cy X A s.heap S0 s.heap [] := ⟨hP, hD, va_S.rf, hA, hRO⟩
  have hl := lv_entry ([.ref a0, .ref a1]) (n := 5) (Nat.le_of_ble_eq_true rfl)
  rw [lg_entry_eq]
  generalize (lg_sl ([.ref a0, .ref a1]) ++ List.replicate (5 - (lg_sl ([.ref a0, .ref a1])).length) Slot.unset).toArray = ls at hl ⊢
  have hl : lv_has ls 5 [(0, .ref a0), (1, .ref a1)] := hl
  unfold wp_X10_strengthsPassing at hp
  exact t_X10_strengthsPassing_0 F hr hlocks hK hp hW wX.rf (lv_sub hl [0, 1] rfl) hL_a0 hK_a0 hL_a1 hK_a1
def wp_X3_init_0 (D : wD) (post : wS → Prop)  (bc bs : Nat) (S : wS) (a0 : Nat) (x1 : Int32) : Prop :=
∀ S_1 : wS, S_1 = uI S a0 3 (0 : Int32) →
∀ S_2 : wS, S_2 = uI S_1 a0 4 (0 : Int32) →
∀ S_3 : wS, S_3 = uI S_2 a0 5 (0 : Int32) →
∀ S_4 : wS, S_4 = uI S_3 a0 6 (0 : Int32) →
∀ S_5 : wS, S_5 = uI S_4 a0 7 (0 : Int32) →
∀ S_6 : wS, S_6 = uI S_5 a0 8 (0 : Int32) →
∀ x_7 : Int32, x_7 = (if x1 < (0 : Int32) then (0 : Int32) else x1) →
¬ ((x_7 + (1 : Int32)) * (5 : Int32)) < 0 ∧ (((x_7 + (1 : Int32)) * (5 : Int32))).toNatClampNeg ≤ 1000000 ∧ 1 ≤ bc ∧ (((x_7 + (1 : Int32)) * (5 : Int32))).toNatClampNeg ≤ bs ∧ ∀ y_8 : Nat, ¬ wM D S_6 y_8 → ∀ S_9 : wS, S_9 = nA S_6 y_8 22 (((x_7 + (1 : Int32)) * (5 : Int32))).toNatClampNeg →
∀ S_11 : wS, S_11 = uR S_9 a0 0 (some y_8) →
¬ x_7 < 0 ∧ (x_7).toNatClampNeg ≤ 1000000 ∧ 1 ≤ (bc - 1) ∧ (x_7).toNatClampNeg ≤ (bs - (((x_7 + (1 : Int32)) * (5 : Int32))).toNatClampNeg) ∧ ∀ y_12 : Nat, ¬ wM D S_11 y_12 → ∀ S_13 : wS, S_13 = nA S_11 y_12 21 (x_7).toNatClampNeg →
∀ S_15 : wS, S_15 = uR S_13 a0 1 (some y_12) →
¬ (x_7 + (1 : Int32)) < 0 ∧ ((x_7 + (1 : Int32))).toNatClampNeg ≤ 1000000 ∧ 1 ≤ ((bc - 1) - 1) ∧ ((x_7 + (1 : Int32))).toNatClampNeg ≤ ((bs - (((x_7 + (1 : Int32)) * (5 : Int32))).toNatClampNeg) - (x_7).toNatClampNeg) ∧ ∀ y_16 : Nat, ¬ wM D S_15 y_16 → ∀ S_17 : wS, S_17 = nA S_15 y_16 23 ((x_7 + (1 : Int32))).toNatClampNeg →
∀ S_19 : wS, S_19 = uR S_17 a0 2 (some y_16) →
post S_19
abbrev r_X3_init (rC rS : Nat) : Room := { frames := 1, cells := rC, slots := rS, locals := 60 }
def wp_X3_init (D : wD) (post : wS → Prop) (bc bs : Nat) (S : wS) (a0 : Nat) (x1 : Int32) : Prop := wp_X3_init_0 D post bc bs S a0 x1
set_option maxHeartbeats 4000000 in
set_option maxRecDepth 100000 in
theorem t_X3_init_0 {p : Program} {l : Launch} {e : Env} {s : State} {m : MethodId} {args : Array Value} {below : List Frame} {meth : Method} {c : Code} {D : wD} {cy : Nat → ClassId} {X : va_W} {A : Nat → Prop} {S0 : wS} {rC rS : Nat} {post : wS → Prop} (F : CallFix p m c cX3_init 3 s args wz_X3_init RX3) (hr : meth.sig.returnType = none) (hlocks : meth.locks = false) (hK : wK D cy A s) (hin : meth.name = "<init>") : ∀ {bc bs cells slots : Nat} (hbc : cells + bc ≤ rC) (hbs : slots + bs ≤ rS) {S : wS} {H : Heap} {locs : List Loc} {ls : Array Slot} {a0 : Nat} {x1 : Int32}, wp_X3_init_0 D post bc bs S a0 x1 → wO D cy X A s.heap S H locs → wX D S0 S → lv_has ls 3 [(0, .ref a0), (1, .int x1)] → wM D S a0 → sK S a0 = 8 → W p l e (r_X3_init rC rS) s m args below meth c H locs cells slots (MQ below (va_Qv (fun S9 => wX D S0 S9 ∧ post S9) (wB D cy X A) A) args s rC rS A) (F0 m 0 ls []) := by
  obtain ⟨hx, hb, hml, hown, hts⟩ := id F
  have hwg : ∀ w ∈ WG, w.before args s = true := fun w h => hts w (List.mem_cons_of_mem _ h)
  have i_8 : ∀ w ∈ u_ws RX3 TX3 9, w ∈ wz_X3_init := fun w h => List.mem_cons_of_mem _ (wu_8 w h)
  have k_15 := hwg _ wf_RX3_15
  have k_18 := hwg _ wf_RX3_18
  have k_21 := hwg _ wf_RX3_21
  have k_24 := hwg _ wf_RX3_24
  have k_27 := hwg _ wf_RX3_27
  have k_36 := hwg _ wf_RX3_36
  have k_40 := hwg _ wf_RX3_40
  have k_44 := hwg _ wf_RX3_44
  have k_9 := hwg _ wf_RX3_9
  intro bc bs cells slots hbc hbs S H locs ls a0 x1 hp hW hE hl hL_a0 hK_a0
  unfold wp_X3_init_0 at hp
  refine lv_aload_n hx hb dX3_init_0 rfl (lv_at hl 0 rfl) ?_
  refine W.objInit hx hb hown (hwg _ wm_RX3_3) (hwg _ wobj.1) (hwg _ wobj.2) rfl (by rw [hml]; exact hl.1) rfl dX3_init_1 (Nat.le_of_ble_eq_true rfl) (Nat.le_of_ble_eq_true rfl) ?_
  refine W.eq (g2 := F0 m 4 ls []) rfl ?_
  refine lv_aload_n hx hb dX3_init_4 rfl (lv_at hl 0 rfl) ?_
  refine lv_iconst (v := 0) hx hb dX3_init_5 (by decide) ?_
  refine w_putI (k := 8) (f := 3) (T := TX3) F hK hW hL_a0 hK_a0 (by decide) (by decide) rfl rfl (by decide) i_8 tyX3 tyX3_ok nmX3 k_9 rfl rfl (ty := .int) rfl rfl rfl dX3_init_6 (fun H locs hW => ?_)
  obtain ⟨S_1, eS_1⟩ : ∃ z : wS, z = uI S a0 3 (0 : Int32) := ⟨_, rfl⟩
  rw [← eS_1] at hW
  replace hp := hp S_1 eS_1
  have hX_S_1 : wX D S S_1 := by rw [eS_1]; exact wX_uI
  have hE := hE.trans hX_S_1
  have hK_a0 : sK S_1 a0 = 8 := (hX_S_1.2 a0 hL_a0).1.trans hK_a0
  have hL_a0 : wM D S_1 a0 := hX_S_1.M hL_a0
  refine lv_aload_n hx hb dX3_init_9 rfl (lv_at hl 0 rfl) ?_
  refine lv_iconst (v := 0) hx hb dX3_init_10 (by decide) ?_
  refine w_putI (k := 8) (f := 4) (T := TX3) F hK hW hL_a0 hK_a0 (by decide) (by decide) rfl rfl (by decide) i_8 tyX3 tyX3_ok nmX3 k_15 rfl rfl (ty := .int) rfl rfl rfl dX3_init_11 (fun H locs hW => ?_)
  obtain ⟨S_2, eS_2⟩ : ∃ z : wS, z = uI S_1 a0 4 (0 : Int32) := ⟨_, rfl⟩
  rw [← eS_2] at hW
  replace hp := hp S_2 eS_2
  have hX_S_2 : wX D S_1 S_2 := by rw [eS_2]; exact wX_uI
  have hE := hE.trans hX_S_2
  have hK_a0 : sK S_2 a0 = 8 := (hX_S_2.2 a0 hL_a0).1.trans hK_a0
  have hL_a0 : wM D S_2 a0 := hX_S_2.M hL_a0
  refine lv_aload_n hx hb dX3_init_14 rfl (lv_at hl 0 rfl) ?_
  refine lv_iconst (v := 0) hx hb dX3_init_15 (by decide) ?_
  refine w_putI (k := 8) (f := 5) (T := TX3) F hK hW hL_a0 hK_a0 (by decide) (by decide) rfl rfl (by decide) i_8 tyX3 tyX3_ok nmX3 k_18 rfl rfl (ty := .int) rfl rfl rfl dX3_init_16 (fun H locs hW => ?_)
  obtain ⟨S_3, eS_3⟩ : ∃ z : wS, z = uI S_2 a0 5 (0 : Int32) := ⟨_, rfl⟩
  rw [← eS_3] at hW
  replace hp := hp S_3 eS_3
  have hX_S_3 : wX D S_2 S_3 := by rw [eS_3]; exact wX_uI
  have hE := hE.trans hX_S_3
  have hK_a0 : sK S_3 a0 = 8 := (hX_S_3.2 a0 hL_a0).1.trans hK_a0
  have hL_a0 : wM D S_3 a0 := hX_S_3.M hL_a0
  refine lv_aload_n hx hb dX3_init_19 rfl (lv_at hl 0 rfl) ?_
  refine lv_iconst (v := 0) hx hb dX3_init_20 (by decide) ?_
  refine w_putI (k := 8) (f := 6) (T := TX3) F hK hW hL_a0 hK_a0 (by decide) (by decide) rfl rfl (by decide) i_8 tyX3 tyX3_ok nmX3 k_21 rfl rfl (ty := .int) rfl rfl rfl dX3_init_21 (fun H locs hW => ?_)
  obtain ⟨S_4, eS_4⟩ : ∃ z : wS, z = uI S_3 a0 6 (0 : Int32) := ⟨_, rfl⟩
  rw [← eS_4] at hW
  replace hp := hp S_4 eS_4
  have hX_S_4 : wX D S_3 S_4 := by rw [eS_4]; exact wX_uI
  have hE := hE.trans hX_S_4
  have hK_a0 : sK S_4 a0 = 8 := (hX_S_4.2 a0 hL_a0).1.trans hK_a0
  have hL_a0 : wM D S_4 a0 := hX_S_4.M hL_a0
  refine lv_aload_n hx hb dX3_init_24 rfl (lv_at hl 0 rfl) ?_
  refine lv_iconst (v := 0) hx hb dX3_init_25 (by decide) ?_
  refine w_putI (k := 8) (f := 7) (T := TX3) F hK hW hL_a0 hK_a0 (by decide) (by decide) rfl rfl (by decide) i_8 tyX3 tyX3_ok nmX3 k_24 rfl rfl (ty := .int) rfl rfl rfl dX3_init_26 (fun H locs hW => ?_)
  obtain ⟨S_5, eS_5⟩ : ∃ z : wS, z = uI S_4 a0 7 (0 : Int32) := ⟨_, rfl⟩
  rw [← eS_5] at hW
  replace hp := hp S_5 eS_5
  have hX_S_5 : wX D S_4 S_5 := by rw [eS_5]; exact wX_uI
  have hE := hE.trans hX_S_5
  have hK_a0 : sK S_5 a0 = 8 := (hX_S_5.2 a0 hL_a0).1.trans hK_a0
  have hL_a0 : wM D S_5 a0 := hX_S_5.M hL_a0
  refine lv_aload_n hx hb dX3_init_29 rfl (lv_at hl 0 rfl) ?_
  refine lv_iconst (v := 0) hx hb dX3_init_30 (by decide) ?_
  refine w_putI (k := 8) (f := 8) (T := TX3) F hK hW hL_a0 hK_a0 (by decide) (by decide) rfl rfl (by decide) i_8 tyX3 tyX3_ok nmX3 k_27 rfl rfl (ty := .int) rfl rfl rfl dX3_init_31 (fun H locs hW => ?_)
  obtain ⟨S_6, eS_6⟩ : ∃ z : wS, z = uI S_5 a0 8 (0 : Int32) := ⟨_, rfl⟩
  rw [← eS_6] at hW
  replace hp := hp S_6 eS_6
  have hX_S_6 : wX D S_5 S_6 := by rw [eS_6]; exact wX_uI
  have hE := hE.trans hX_S_6
  have hK_a0 : sK S_6 a0 = 8 := (hX_S_6.2 a0 hL_a0).1.trans hK_a0
  have hL_a0 : wM D S_6 a0 := hX_S_6.M hL_a0
  refine lv_iload_n hx hb dX3_init_34 rfl (lv_at hl 1 rfl) ?_
  refine lv_iconst (v := 0) hx hb dX3_init_35 (by decide) ?_
  refine va_mmax hx hb (hml.trans hl.1.symm) hown (hwg _ wm_RX3_30) (hwg _ wmm_max.1) (hwg _ wmm_max.2.1) (hwg _ wmm_max.2.2) (Nat.le_of_ble_eq_true rfl) (Nat.le_of_ble_eq_true rfl) (by show _ ≤ rC; omega) (by show _ ≤ rS; omega) dX3_init_36 ?_
  refine lv_topi (fun x_7 ex_7 => ?_)
  replace hp := hp x_7 ex_7
  refine lv_istore_n (lv' := [(2, .int x_7), (0, .ref a0), (1, .int x1)]) hx hb dX3_init_39 rfl hl (by decide) rfl (fun ls hl => ?_)
  refine lv_aload_n hx hb dX3_init_40 rfl (lv_at hl 1 rfl) ?_
  refine lv_iload_n hx hb dX3_init_41 rfl (lv_at hl 0 rfl) ?_
  refine lv_iconst (v := 1) hx hb dX3_init_42 (by decide) ?_
  refine lv_iadd hx hb dX3_init_43 ?_
  refine lv_iconst (v := 5) hx hb dX3_init_44 (by decide) ?_
  refine lv_imul hx hb dX3_init_45 ?_
  obtain ⟨h_10, h_10b, h_10c, h_10d, hp⟩ := hp
  refine w_newaJ F hK hW (hwg _ wr_long) h_10 h_10b (by show _ ≤ rC; omega) (by show _ ≤ rS; omega) dX3_init_46 (fun y_8 H hq_y_8 hW => ?_)
  replace hbc := w_spend hbc (show 1 ≤ bc by omega)
  replace hbs := w_spend hbs (show (((x_7 + (1 : Int32)) * (5 : Int32))).toNatClampNeg ≤ bs by omega)
  obtain ⟨S_9, eS_9⟩ : ∃ z : wS, z = nA S_6 y_8 22 (((x_7 + (1 : Int32)) * (5 : Int32))).toNatClampNeg := ⟨_, rfl⟩
  rw [← eS_9] at hW
  replace hp := hp y_8 hq_y_8 S_9 eS_9
  have hX_S_9 : wX D S_6 S_9 := by rw [eS_9]; exact wX_nA hq_y_8
  have hE := hE.trans hX_S_9
  have hK_a0 : sK S_9 a0 = 8 := (hX_S_9.2 a0 hL_a0).1.trans hK_a0
  have hL_a0 : wM D S_9 a0 := hX_S_9.M hL_a0
  have hL_y_8 : wM D S_9 y_8 := by rw [eS_9]; exact Or.inl (List.mem_append_right _ List.mem_cons_self)
  have hK_y_8 : sK S_9 y_8 = 22 := by rw [eS_9]; exact va_up_self _ _ _
  refine w_putRF (k := 8) (f := 0) (T := TX3) (g := (some y_8)) F hK hW hL_a0 hK_a0 (by decide) (by decide) rfl rfl (by decide) i_8 tyX3 tyX3_ok nmX3 k_36 rfl rfl hin rfl (ty := (.array .long)) rfl (v_narrow _ _) (v_fitsA _ _) dX3_init_48 (fun H locs hW => ?_)
  obtain ⟨S_11, eS_11⟩ : ∃ z : wS, z = uR S_9 a0 0 (some y_8) := ⟨_, rfl⟩
  rw [← eS_11] at hW
  replace hp := hp S_11 eS_11
  have hX_S_11 : wX D S_9 S_11 := by rw [eS_11]; exact wX_uR
  have hE := hE.trans hX_S_11
  have hK_a0 : sK S_11 a0 = 8 := (hX_S_11.2 a0 hL_a0).1.trans hK_a0
  have hL_a0 : wM D S_11 a0 := hX_S_11.M hL_a0
  refine lv_aload_n hx hb dX3_init_51 rfl (lv_at hl 1 rfl) ?_
  refine lv_iload_n hx hb dX3_init_52 rfl (lv_at hl 0 rfl) ?_
  obtain ⟨h_14, h_14b, h_14c, h_14d, hp⟩ := hp
  refine w_newaI F hK hW (hwg _ wr_int) h_14 h_14b (by show _ ≤ rC; omega) (by show _ ≤ rS; omega) dX3_init_53 (fun y_12 H hq_y_12 hW => ?_)
  replace hbc := w_spend hbc (show 1 ≤ (bc - 1) by omega)
  replace hbs := w_spend hbs (show (x_7).toNatClampNeg ≤ (bs - (((x_7 + (1 : Int32)) * (5 : Int32))).toNatClampNeg) by omega)
  obtain ⟨S_13, eS_13⟩ : ∃ z : wS, z = nA S_11 y_12 21 (x_7).toNatClampNeg := ⟨_, rfl⟩
  rw [← eS_13] at hW
  replace hp := hp y_12 hq_y_12 S_13 eS_13
  have hX_S_13 : wX D S_11 S_13 := by rw [eS_13]; exact wX_nA hq_y_12
  have hE := hE.trans hX_S_13
  have hK_a0 : sK S_13 a0 = 8 := (hX_S_13.2 a0 hL_a0).1.trans hK_a0
  have hL_a0 : wM D S_13 a0 := hX_S_13.M hL_a0
  have hL_y_12 : wM D S_13 y_12 := by rw [eS_13]; exact Or.inl (List.mem_append_right _ List.mem_cons_self)
  have hK_y_12 : sK S_13 y_12 = 21 := by rw [eS_13]; exact va_up_self _ _ _
  refine w_putRF (k := 8) (f := 1) (T := TX3) (g := (some y_12)) F hK hW hL_a0 hK_a0 (by decide) (by decide) rfl rfl (by decide) i_8 tyX3 tyX3_ok nmX3 k_40 rfl rfl hin rfl (ty := (.array .int)) rfl (v_narrow _ _) (v_fitsA _ _) dX3_init_55 (fun H locs hW => ?_)
  obtain ⟨S_15, eS_15⟩ : ∃ z : wS, z = uR S_13 a0 1 (some y_12) := ⟨_, rfl⟩
  rw [← eS_15] at hW
  replace hp := hp S_15 eS_15
  have hX_S_15 : wX D S_13 S_15 := by rw [eS_15]; exact wX_uR
  have hE := hE.trans hX_S_15
  have hK_a0 : sK S_15 a0 = 8 := (hX_S_15.2 a0 hL_a0).1.trans hK_a0
  have hL_a0 : wM D S_15 a0 := hX_S_15.M hL_a0
  refine lv_aload_n hx hb dX3_init_58 rfl (lv_at hl 1 rfl) ?_
  refine lv_iload_n hx hb dX3_init_59 rfl (lv_at hl 0 rfl) ?_
  refine lv_iconst (v := 1) hx hb dX3_init_60 (by decide) ?_
  refine lv_iadd hx hb dX3_init_61 ?_
  obtain ⟨h_18, h_18b, h_18c, h_18d, hp⟩ := hp
  refine w_newaZ F hK hW (hwg _ wr_boolean) h_18 h_18b (by show _ ≤ rC; omega) (by show _ ≤ rS; omega) dX3_init_62 (fun y_16 H hq_y_16 hW => ?_)
  replace hbc := w_spend hbc (show 1 ≤ ((bc - 1) - 1) by omega)
  replace hbs := w_spend hbs (show ((x_7 + (1 : Int32))).toNatClampNeg ≤ ((bs - (((x_7 + (1 : Int32)) * (5 : Int32))).toNatClampNeg) - (x_7).toNatClampNeg) by omega)
  obtain ⟨S_17, eS_17⟩ : ∃ z : wS, z = nA S_15 y_16 23 ((x_7 + (1 : Int32))).toNatClampNeg := ⟨_, rfl⟩
  rw [← eS_17] at hW
  replace hp := hp y_16 hq_y_16 S_17 eS_17
  have hX_S_17 : wX D S_15 S_17 := by rw [eS_17]; exact wX_nA hq_y_16
  have hE := hE.trans hX_S_17
  have hK_a0 : sK S_17 a0 = 8 := (hX_S_17.2 a0 hL_a0).1.trans hK_a0
  have hL_a0 : wM D S_17 a0 := hX_S_17.M hL_a0
  have hL_y_16 : wM D S_17 y_16 := by rw [eS_17]; exact Or.inl (List.mem_append_right _ List.mem_cons_self)
  have hK_y_16 : sK S_17 y_16 = 23 := by rw [eS_17]; exact va_up_self _ _ _
  refine w_putRF (k := 8) (f := 2) (T := TX3) (g := (some y_16)) F hK hW hL_a0 hK_a0 (by decide) (by decide) rfl rfl (by decide) i_8 tyX3 tyX3_ok nmX3 k_44 rfl rfl hin rfl (ty := (.array .boolean)) rfl (v_narrow _ _) (v_fitsA _ _) dX3_init_64 (fun H locs hW => ?_)
  obtain ⟨S_19, eS_19⟩ : ∃ z : wS, z = uR S_17 a0 2 (some y_16) := ⟨_, rfl⟩
  rw [← eS_19] at hW
  replace hp := hp S_19 eS_19
  have hX_S_19 : wX D S_17 S_19 := by rw [eS_19]; exact wX_uR
  have hE := hE.trans hX_S_19
  have hK_a0 : sK S_19 a0 = 8 := (hX_S_19.2 a0 hL_a0).1.trans hK_a0
  have hL_a0 : wM D S_19 a0 := hX_S_19.M hL_a0
  refine W.widen (k := rC) (n := rS) (Nat.le_trans (Nat.le_add_right _ _) hbc) (Nat.le_trans (Nat.le_add_right _ _) hbs) ?_
  exact w_vret hx hb hr hlocks hW ⟨hE, hp⟩ dX3_init_67
set_option maxHeartbeats 4000000 in
set_option maxRecDepth 100000 in
theorem c_X3_init (l : Launch) {rC rS : Nat} {D : wD} {cy : Nat → ClassId} {X : va_W} {S0 : wS} {post : wS → Prop} {a0 : Nat} {x1 : Int32} (hL_a0 : wM D S0 a0) (hK_a0 : sK S0 a0 = 8) (hp : wp_X3_init D post rC rS S0 a0 x1) : mV D cy X l yX3_init wz_X3_init (r_X3_init rC rS) [.ref a0, .int x1] S0 (fun S9 => wX D S0 S9 ∧ post S9) := by
  intro sz
  refine Met.ofW (cc := cX3_init) (maxL := 3) (ret := none) (by decide) rfl ?_
  intro p e s m args below meth c s₁ B hml hv
  obtain ⟨rfl, hsz, hP, hK, hD0, hRO⟩ := hv
  have hts := atoms_spec (ws := wz_X3_init) B.pre
  have hown : s.vm.findClass RX3 = some m.cls := findClass_of_methodNamed B.named
  subst hsz
  have hD := hD0.self (sz := s.heap.size)
  have F : CallFix p m c cX3_init 3 s _ wz_X3_init RX3 := ⟨B.exec, B.bytes, hml, hown, hts⟩
  have hr := B.returns
  have hlocks := B.notSynchronized
  have hin : meth.name = "<init>" := (name_of_methodNamed B.named B.method).1
  generalize hAe : va_A (wL cy X S0) s.heap.size = A at hD hK ⊢
  have hA : ∀ q, s.heap.size ≤ q → A q := fun q h => by rw [← hAe]; exact Or.inr h
  have hW : wO D cy X A s.heap S0 s.heap [] := ⟨hP, hD, va_S.rf, hA, hRO⟩
  have hl := lv_entry ([.ref a0, .int x1]) (n := 3) (Nat.le_of_ble_eq_true rfl)
  rw [lg_entry_eq]
  generalize (lg_sl ([.ref a0, .int x1]) ++ List.replicate (3 - (lg_sl ([.ref a0, .int x1])).length) Slot.unset).toArray = ls at hl ⊢
  have hl : lv_has ls 3 [(0, .ref a0), (1, .int x1)] := hl
  unfold wp_X3_init at hp
  exact t_X3_init_0 F hr hlocks hK hin (Nat.le_of_eq (Nat.zero_add _)) (Nat.le_of_eq (Nat.zero_add _)) hp hW wX.rf (lv_sub hl [0, 1] rfl) hL_a0 hK_a0
def wp_X3_copyWith_103 (D : wD) (post : Option Nat → wS → Prop)  (bc bs : Nat) (S : wS) (a0 : Nat) (x1 : Int32) (x2 : Int32) (x3 : Int32) (a4 : Nat) : Prop :=
∀ S_1 : wS, S_1 = uI S a4 3 (sI S a0 3) →
∀ S_2 : wS, S_2 = uI S_1 a4 4 x1 →
∀ S_3 : wS, S_3 = uI S_2 a4 5 x2 →
∀ S_4 : wS, S_4 = uI S_3 a4 6 x3 →
post (some a4) S_4
def wp_X3_copyWith_61 (D : wD) (post : Option Nat → wS → Prop)  : Nat → Nat → Nat → wS → Nat → Int32 → Int32 → Int32 → Nat → Int32 → Prop
  | 0, _, _, _, _, _, _, _, _, _ => False
  | n + 1, bc, bs, S, a0, x1, x2, x3, a4, x5 =>
    ∃ y_1 : Nat, sR S a4 1 = some y_1 ∧ wM D S y_1 ∧ sK S y_1 = 21 ∧
    (((Int32.ofNat (sN S y_1)) ≤ x5 → wp_X3_copyWith_103 D post bc bs S a0 x1 x2 x3 a4) ∧
     (¬ (Int32.ofNat (sN S y_1)) ≤ x5 → ∃ y_3 : Nat, sR S a0 1 = some y_3 ∧ wM D S y_3 ∧ sK S y_3 = 21 ∧
    (((Int32.ofNat (sN S y_3)) ≤ x5 → wp_X3_copyWith_103 D post bc bs S a0 x1 x2 x3 a4) ∧
     (¬ (Int32.ofNat (sN S y_3)) ≤ x5 → ∃ y_5 : Nat, sR S a4 1 = some y_5 ∧ wM D S y_5 ∧ sK S y_5 = 21 ∧
    ∃ y_6 : Nat, sR S a0 1 = some y_6 ∧ wM D S y_6 ∧ sK S y_6 = 21 ∧
    vp_in x5 (sN S y_6) ∧
    y_5 ∈ sL S ∧ vp_in x5 (sN S y_5) ∧
    ∀ S_9 : wS, S_9 = uI S y_5 (x5).toNatClampNeg (sI S y_6 (x5).toNatClampNeg) →
    ∀ x_10 : Int32, x_10 = x5 + 1 →
    wp_X3_copyWith_61 D post n bc bs S_9 a0 x1 x2 x3 a4 x_10))))
def wp_X3_copyWith_58 (D : wD) (post : Option Nat → wS → Prop)  (bc bs : Nat) (S : wS) (a0 : Nat) (x1 : Int32) (x2 : Int32) (x3 : Int32) (a4 : Nat) : Prop :=
∃ n_1 : Nat, wp_X3_copyWith_61 D post n_1 bc bs S a0 x1 x2 x3 a4 (0 : Int32)
def wp_X3_copyWith_16 (D : wD) (post : Option Nat → wS → Prop)  : Nat → Nat → Nat → wS → Nat → Int32 → Int32 → Int32 → Nat → Int32 → Prop
  | 0, _, _, _, _, _, _, _, _, _ => False
  | n + 1, bc, bs, S, a0, x1, x2, x3, a4, x5 =>
    ∃ y_1 : Nat, sR S a4 0 = some y_1 ∧ wM D S y_1 ∧ sK S y_1 = 22 ∧
    (((Int32.ofNat (sN S y_1)) ≤ x5 → wp_X3_copyWith_58 D post bc bs S a0 x1 x2 x3 a4) ∧
     (¬ (Int32.ofNat (sN S y_1)) ≤ x5 → ∃ y_3 : Nat, sR S a0 0 = some y_3 ∧ wM D S y_3 ∧ sK S y_3 = 22 ∧
    (((Int32.ofNat (sN S y_3)) ≤ x5 → wp_X3_copyWith_58 D post bc bs S a0 x1 x2 x3 a4) ∧
     (¬ (Int32.ofNat (sN S y_3)) ≤ x5 → ∃ y_5 : Nat, sR S a4 0 = some y_5 ∧ wM D S y_5 ∧ sK S y_5 = 22 ∧
    ∃ y_6 : Nat, sR S a0 0 = some y_6 ∧ wM D S y_6 ∧ sK S y_6 = 22 ∧
    vp_in x5 (sN S y_6) ∧
    y_5 ∈ sL S ∧ vp_in x5 (sN S y_5) ∧
    ∀ S_9 : wS, S_9 = uJ S y_5 (x5).toNatClampNeg (sJ S y_6 (x5).toNatClampNeg) →
    ∀ x_10 : Int32, x_10 = x5 + 1 →
    wp_X3_copyWith_16 D post n bc bs S_9 a0 x1 x2 x3 a4 x_10))))
def wp_X3_copyWith_0 (D : wD) (post : Option Nat → wS → Prop)  (bc bs : Nat) (S : wS) (a0 : Nat) (x1 : Int32) (x2 : Int32) (x3 : Int32) : Prop :=
1 ≤ bc ∧ 9 ≤ bs ∧
∀ y_1 : Nat, ¬ wM D S y_1 → ∀ S_2 : wS, S_2 = nA S y_1 8 0 →
∃ m_6 z_7 : Nat, m_6 ≤ (bc - 1) ∧ z_7 ≤ (bs - 9) ∧
wp_X3_init D (fun S_5 => 
∃ n_8 : Nat, wp_X3_copyWith_16 D post n_8 ((bc - 1) - m_6) ((bs - 9) - z_7) S_5 a0 x1 x2 x3 y_1 (0 : Int32)) m_6 z_7 S_2 y_1 (sI S_2 a0 3)
abbrev r_X3_copyWith (rC rS : Nat) : Room := { frames := 2, cells := rC, slots := rS, locals := 82 }
def wp_X3_copyWith (D : wD) (post : Option Nat → wS → Prop) (bc bs : Nat) (S : wS) (a0 : Nat) (x1 : Int32) (x2 : Int32) (x3 : Int32) : Prop := wp_X3_copyWith_0 D post bc bs S a0 x1 x2 x3
set_option maxHeartbeats 4000000 in
set_option maxRecDepth 100000 in
theorem t_X3_copyWith_103 {p : Program} {l : Launch} {e : Env} {s : State} {m : MethodId} {args : Array Value} {below : List Frame} {meth : Method} {c : Code} {D : wD} {cy : Nat → ClassId} {X : va_W} {A : Nat → Prop} {S0 : wS} {rC rS : Nat} {post : Option Nat → wS → Prop} (F : CallFix p m c cX3_copyWith 6 s args wz_X3_copyWith RX3) (hr : meth.sig.returnType = (some (.object "OpeningsCabinet$Game"))) (hlocks : meth.locks = false) (hK : wK D cy A s) : ∀ {bc bs cells slots : Nat} (hbc : cells + bc ≤ rC) (hbs : slots + bs ≤ rS) {S : wS} {H : Heap} {locs : List Loc} {ls : Array Slot} {a0 : Nat} {x1 : Int32} {x2 : Int32} {x3 : Int32} {a4 : Nat}, wp_X3_copyWith_103 D post bc bs S a0 x1 x2 x3 a4 → wO D cy X A s.heap S H locs → wX D S0 S → lv_has ls 6 [(0, .ref a0), (1, .int x1), (2, .int x2), (3, .int x3), (4, .ref a4)] → wM D S a0 → sK S a0 = 8 → wM D S a4 → sK S a4 = 8 → W p l e (r_X3_copyWith rC rS) s m args below meth c H locs cells slots (MQ below (va_Qq (fun r S9 => wX D S0 S9 ∧ post r S9) (wB D cy X A) A) args s rC rS A) (F0 m 103 ls []) := by
  obtain ⟨hx, hb, hml, hown, hts⟩ := id F
  have hwg : ∀ w ∈ WG, w.before args s = true := fun w h => hts w (List.mem_cons_of_mem _ h)
  have i_8 : ∀ w ∈ u_ws RX3 TX3 9, w ∈ wz_X3_copyWith := fun w h => List.mem_cons_of_mem _ (wu_8 w h)
  have k_15 := hwg _ wf_RX3_15
  have k_18 := hwg _ wf_RX3_18
  have k_21 := hwg _ wf_RX3_21
  have k_9 := hwg _ wf_RX3_9
  intro bc bs cells slots hbc hbs S H locs ls a0 x1 x2 x3 a4 hp hW hE hl hL_a0 hK_a0 hL_a4 hK_a4
  unfold wp_X3_copyWith_103 at hp
  refine lv_aload hx hb dX3_copyWith_103 (lv_at hl 4 rfl) ?_
  refine lv_aload_n hx hb dX3_copyWith_105 rfl (lv_at hl 0 rfl) ?_
  refine w_get (k := 8) (f := 3) (T := TX3) (v := .int (sI S a0 3)) F hK hW hL_a0 hK_a0 (by decide) rfl rfl (by decide) i_8 k_9 rfl dX3_copyWith_106 ?_
  refine w_putI (k := 8) (f := 3) (T := TX3) F hK hW hL_a4 hK_a4 (by decide) (by decide) rfl rfl (by decide) i_8 tyX3 tyX3_ok nmX3 k_9 rfl rfl (ty := .int) rfl rfl rfl dX3_copyWith_109 (fun H locs hW => ?_)
  obtain ⟨S_1, eS_1⟩ : ∃ z : wS, z = uI S a4 3 (sI S a0 3) := ⟨_, rfl⟩
  rw [← eS_1] at hW
  replace hp := hp S_1 eS_1
  have hX_S_1 : wX D S S_1 := by rw [eS_1]; exact wX_uI
  have hE := hE.trans hX_S_1
  have hK_a0 : sK S_1 a0 = 8 := (hX_S_1.2 a0 hL_a0).1.trans hK_a0
  have hL_a0 : wM D S_1 a0 := hX_S_1.M hL_a0
  have hK_a4 : sK S_1 a4 = 8 := (hX_S_1.2 a4 hL_a4).1.trans hK_a4
  have hL_a4 : wM D S_1 a4 := hX_S_1.M hL_a4
  refine lv_aload hx hb dX3_copyWith_112 (lv_at hl 4 rfl) ?_
  refine lv_iload_n hx hb dX3_copyWith_114 rfl (lv_at hl 1 rfl) ?_
  refine w_putI (k := 8) (f := 4) (T := TX3) F hK hW hL_a4 hK_a4 (by decide) (by decide) rfl rfl (by decide) i_8 tyX3 tyX3_ok nmX3 k_15 rfl rfl (ty := .int) rfl rfl rfl dX3_copyWith_115 (fun H locs hW => ?_)
  obtain ⟨S_2, eS_2⟩ : ∃ z : wS, z = uI S_1 a4 4 x1 := ⟨_, rfl⟩
  rw [← eS_2] at hW
  replace hp := hp S_2 eS_2
  have hX_S_2 : wX D S_1 S_2 := by rw [eS_2]; exact wX_uI
  have hE := hE.trans hX_S_2
  have hK_a0 : sK S_2 a0 = 8 := (hX_S_2.2 a0 hL_a0).1.trans hK_a0
  have hL_a0 : wM D S_2 a0 := hX_S_2.M hL_a0
  have hK_a4 : sK S_2 a4 = 8 := (hX_S_2.2 a4 hL_a4).1.trans hK_a4
  have hL_a4 : wM D S_2 a4 := hX_S_2.M hL_a4
  refine lv_aload hx hb dX3_copyWith_118 (lv_at hl 4 rfl) ?_
  refine lv_iload_n hx hb dX3_copyWith_120 rfl (lv_at hl 2 rfl) ?_
  refine w_putI (k := 8) (f := 5) (T := TX3) F hK hW hL_a4 hK_a4 (by decide) (by decide) rfl rfl (by decide) i_8 tyX3 tyX3_ok nmX3 k_18 rfl rfl (ty := .int) rfl rfl rfl dX3_copyWith_121 (fun H locs hW => ?_)
  obtain ⟨S_3, eS_3⟩ : ∃ z : wS, z = uI S_2 a4 5 x2 := ⟨_, rfl⟩
  rw [← eS_3] at hW
  replace hp := hp S_3 eS_3
  have hX_S_3 : wX D S_2 S_3 := by rw [eS_3]; exact wX_uI
  have hE := hE.trans hX_S_3
  have hK_a0 : sK S_3 a0 = 8 := (hX_S_3.2 a0 hL_a0).1.trans hK_a0
  have hL_a0 : wM D S_3 a0 := hX_S_3.M hL_a0
  have hK_a4 : sK S_3 a4 = 8 := (hX_S_3.2 a4 hL_a4).1.trans hK_a4
  have hL_a4 : wM D S_3 a4 := hX_S_3.M hL_a4
  refine lv_aload hx hb dX3_copyWith_124 (lv_at hl 4 rfl) ?_
  refine lv_iload_n hx hb dX3_copyWith_126 rfl (lv_at hl 3 rfl) ?_
  refine w_putI (k := 8) (f := 6) (T := TX3) F hK hW hL_a4 hK_a4 (by decide) (by decide) rfl rfl (by decide) i_8 tyX3 tyX3_ok nmX3 k_21 rfl rfl (ty := .int) rfl rfl rfl dX3_copyWith_127 (fun H locs hW => ?_)
  obtain ⟨S_4, eS_4⟩ : ∃ z : wS, z = uI S_3 a4 6 x3 := ⟨_, rfl⟩
  rw [← eS_4] at hW
  replace hp := hp S_4 eS_4
  have hX_S_4 : wX D S_3 S_4 := by rw [eS_4]; exact wX_uI
  have hE := hE.trans hX_S_4
  have hK_a0 : sK S_4 a0 = 8 := (hX_S_4.2 a0 hL_a0).1.trans hK_a0
  have hL_a0 : wM D S_4 a0 := hX_S_4.M hL_a0
  have hK_a4 : sK S_4 a4 = 8 := (hX_S_4.2 a4 hL_a4).1.trans hK_a4
  have hL_a4 : wM D S_4 a4 := hX_S_4.M hL_a4
  refine lv_aload hx hb dX3_copyWith_130 (lv_at hl 4 rfl) ?_
  refine W.widen (k := rC) (n := rS) (Nat.le_trans (Nat.le_add_right _ _) hbc) (Nat.le_trans (Nat.le_add_right _ _) hbs) ?_
  exact w_aret (g := (some a4)) hx hb hr hlocks hW ⟨hE, hp⟩ dX3_copyWith_132
set_option maxHeartbeats 4000000 in
set_option maxRecDepth 100000 in
theorem t_X3_copyWith_61 {p : Program} {l : Launch} {e : Env} {s : State} {m : MethodId} {args : Array Value} {below : List Frame} {meth : Method} {c : Code} {D : wD} {cy : Nat → ClassId} {X : va_W} {A : Nat → Prop} {S0 : wS} {rC rS : Nat} {post : Option Nat → wS → Prop} (F : CallFix p m c cX3_copyWith 6 s args wz_X3_copyWith RX3) (hr : meth.sig.returnType = (some (.object "OpeningsCabinet$Game"))) (hlocks : meth.locks = false) (hK : wK D cy A s) : ∀ (n : Nat) {bc bs cells slots : Nat} (hbc : cells + bc ≤ rC) (hbs : slots + bs ≤ rS) {S : wS} {H : Heap} {locs : List Loc} {ls : Array Slot} {a0 : Nat} {x1 : Int32} {x2 : Int32} {x3 : Int32} {a4 : Nat} {x5 : Int32}, wp_X3_copyWith_61 D post n bc bs S a0 x1 x2 x3 a4 x5 → wO D cy X A s.heap S H locs → wX D S0 S → lv_has ls 6 [(0, .ref a0), (1, .int x1), (2, .int x2), (3, .int x3), (4, .ref a4), (5, .int x5)] → wM D S a0 → sK S a0 = 8 → wM D S a4 → sK S a4 = 8 → W p l e (r_X3_copyWith rC rS) s m args below meth c H locs cells slots (MQ below (va_Qq (fun r S9 => wX D S0 S9 ∧ post r S9) (wB D cy X A) A) args s rC rS A) (F0 m 61 ls []) := by
  obtain ⟨hx, hb, hml, hown, hts⟩ := id F
  have hwg : ∀ w ∈ WG, w.before args s = true := fun w h => hts w (List.mem_cons_of_mem _ h)
  have i_8 : ∀ w ∈ u_ws RX3 TX3 9, w ∈ wz_X3_copyWith := fun w h => List.mem_cons_of_mem _ (wu_8 w h)
  have k_40 := hwg _ wf_RX3_40
  intro n
  induction n with
  | zero =>
    intro bc bs cells slots hbc hbs S H locs ls a0 x1 x2 x3 a4 x5 hp
    exact hp.elim
  | succ n ih =>
    intro bc bs cells slots hbc hbs S H locs ls a0 x1 x2 x3 a4 x5 hp hW hE hl hL_a0 hK_a0 hL_a4 hK_a4
    unfold wp_X3_copyWith_61 at hp
    refine lv_iload hx hb dX3_copyWith_61 (lv_at hl 5 rfl) ?_
    refine lv_aload hx hb dX3_copyWith_63 (lv_at hl 4 rfl) ?_
    obtain ⟨y_1, ey_1, hL_y_1, hK_y_1, hp⟩ := hp
    refine w_get (k := 8) (f := 1) (T := TX3) (v := .ref y_1) F hK hW hL_a4 hK_a4 (by decide) rfl rfl (by decide) i_8 k_40 (by rw [show wv 8 1 S a4 = va_rf (sR S a4 1) from rfl, ey_1]; rfl) dX3_copyWith_65 ?_
    refine w_len F hK hW hL_y_1 hK_y_1 (by decide) dX3_copyWith_68 ?_
    refine lv_icmp_ge (tgt := 103) hx hb dX3_copyWith_69 (by decide) (fun c_2 => ?_) (fun c_2 => ?_)
    · replace hp := hp.1 c_2
      exact t_X3_copyWith_103 F hr hlocks hK hbc hbs hp hW hE (lv_sub hl [0, 1, 2, 3, 4] rfl) hL_a0 hK_a0 hL_a4 hK_a4
    · replace hp := hp.2 c_2
      refine lv_iload hx hb dX3_copyWith_72 (lv_at hl 5 rfl) ?_
      refine lv_aload_n hx hb dX3_copyWith_74 rfl (lv_at hl 0 rfl) ?_
      obtain ⟨y_3, ey_3, hL_y_3, hK_y_3, hp⟩ := hp
      refine w_get (k := 8) (f := 1) (T := TX3) (v := .ref y_3) F hK hW hL_a0 hK_a0 (by decide) rfl rfl (by decide) i_8 k_40 (by rw [show wv 8 1 S a0 = va_rf (sR S a0 1) from rfl, ey_3]; rfl) dX3_copyWith_75 ?_
      refine w_len F hK hW hL_y_3 hK_y_3 (by decide) dX3_copyWith_78 ?_
      refine lv_icmp_ge (tgt := 103) hx hb dX3_copyWith_79 (by decide) (fun c_4 => ?_) (fun c_4 => ?_)
      · replace hp := hp.1 c_4
        exact t_X3_copyWith_103 F hr hlocks hK hbc hbs hp hW hE (lv_sub hl [0, 1, 2, 3, 4] rfl) hL_a0 hK_a0 hL_a4 hK_a4
      · replace hp := hp.2 c_4
        refine lv_aload hx hb dX3_copyWith_82 (lv_at hl 4 rfl) ?_
        obtain ⟨y_5, ey_5, hL_y_5, hK_y_5, hp⟩ := hp
        refine w_get (k := 8) (f := 1) (T := TX3) (v := .ref y_5) F hK hW hL_a4 hK_a4 (by decide) rfl rfl (by decide) i_8 k_40 (by rw [show wv 8 1 S a4 = va_rf (sR S a4 1) from rfl, ey_5]; rfl) dX3_copyWith_84 ?_
        refine lv_iload hx hb dX3_copyWith_87 (lv_at hl 5 rfl) ?_
        refine lv_aload_n hx hb dX3_copyWith_89 rfl (lv_at hl 0 rfl) ?_
        obtain ⟨y_6, ey_6, hL_y_6, hK_y_6, hp⟩ := hp
        refine w_get (k := 8) (f := 1) (T := TX3) (v := .ref y_6) F hK hW hL_a0 hK_a0 (by decide) rfl rfl (by decide) i_8 k_40 (by rw [show wv 8 1 S a0 = va_rf (sR S a0 1) from rfl, ey_6]; rfl) dX3_copyWith_90 ?_
        refine lv_iload hx hb dX3_copyWith_93 (lv_at hl 5 rfl) ?_
        obtain ⟨h_7, hp⟩ := hp
        refine w_ild F hK hW hL_y_6 hK_y_6 h_7 dX3_copyWith_95 ?_
        obtain ⟨h_8m, h_8, hp⟩ := hp
        refine w_ist F hK hW h_8m hK_y_5 h_8 dX3_copyWith_96 (fun H locs hW => ?_)
        obtain ⟨S_9, eS_9⟩ : ∃ z : wS, z = uI S y_5 (x5).toNatClampNeg (sI S y_6 (x5).toNatClampNeg) := ⟨_, rfl⟩
        rw [← eS_9] at hW
        replace hp := hp S_9 eS_9
        have hX_S_9 : wX D S S_9 := by rw [eS_9]; exact wX_uI
        have hE := hE.trans hX_S_9
        have hK_a0 : sK S_9 a0 = 8 := (hX_S_9.2 a0 hL_a0).1.trans hK_a0
        have hL_a0 : wM D S_9 a0 := hX_S_9.M hL_a0
        have hK_a4 : sK S_9 a4 = 8 := (hX_S_9.2 a4 hL_a4).1.trans hK_a4
        have hL_a4 : wM D S_9 a4 := hX_S_9.M hL_a4
        obtain ⟨x_10, ex_10⟩ : ∃ z : Int32, z = x5 + 1 := ⟨_, rfl⟩
        replace hp := hp x_10 ex_10
        refine lv_iinc (v := x_10) (lv' := [(5, .int x_10), (0, .ref a0), (1, .int x1), (2, .int x2), (3, .int x3), (4, .ref a4)]) hx hb dX3_copyWith_97 hl (k := 5) rfl (by rw [ex_10]; rfl) (by decide) rfl (fun ls hl => ?_)
        refine lv_goto (tgt := 61) hx hb dX3_copyWith_100 (by decide) ?_
        exact ih hbc hbs hp hW hE (lv_sub hl [1, 2, 3, 4, 5, 0] rfl) hL_a0 hK_a0 hL_a4 hK_a4
set_option maxHeartbeats 4000000 in
set_option maxRecDepth 100000 in
theorem t_X3_copyWith_58 {p : Program} {l : Launch} {e : Env} {s : State} {m : MethodId} {args : Array Value} {below : List Frame} {meth : Method} {c : Code} {D : wD} {cy : Nat → ClassId} {X : va_W} {A : Nat → Prop} {S0 : wS} {rC rS : Nat} {post : Option Nat → wS → Prop} (F : CallFix p m c cX3_copyWith 6 s args wz_X3_copyWith RX3) (hr : meth.sig.returnType = (some (.object "OpeningsCabinet$Game"))) (hlocks : meth.locks = false) (hK : wK D cy A s) : ∀ {bc bs cells slots : Nat} (hbc : cells + bc ≤ rC) (hbs : slots + bs ≤ rS) {S : wS} {H : Heap} {locs : List Loc} {ls : Array Slot} {a0 : Nat} {x1 : Int32} {x2 : Int32} {x3 : Int32} {a4 : Nat}, wp_X3_copyWith_58 D post bc bs S a0 x1 x2 x3 a4 → wO D cy X A s.heap S H locs → wX D S0 S → lv_has ls 6 [(0, .ref a0), (1, .int x1), (2, .int x2), (3, .int x3), (4, .ref a4)] → wM D S a0 → sK S a0 = 8 → wM D S a4 → sK S a4 = 8 → W p l e (r_X3_copyWith rC rS) s m args below meth c H locs cells slots (MQ below (va_Qq (fun r S9 => wX D S0 S9 ∧ post r S9) (wB D cy X A) A) args s rC rS A) (F0 m 58 ls []) := by
  obtain ⟨hx, hb, hml, hown, hts⟩ := id F
  have hwg : ∀ w ∈ WG, w.before args s = true := fun w h => hts w (List.mem_cons_of_mem _ h)
  intro bc bs cells slots hbc hbs S H locs ls a0 x1 x2 x3 a4 hp hW hE hl hL_a0 hK_a0 hL_a4 hK_a4
  unfold wp_X3_copyWith_58 at hp
  refine lv_iconst (v := 0) hx hb dX3_copyWith_58 (by decide) ?_
  refine lv_istore (lv' := [(5, .int (0 : Int32)), (0, .ref a0), (1, .int x1), (2, .int x2), (3, .int x3), (4, .ref a4)]) hx hb dX3_copyWith_59 hl (by decide) rfl (fun ls hl => ?_)
  obtain ⟨n_1, hp⟩ := hp
  exact t_X3_copyWith_61 F hr hlocks hK n_1 hbc hbs hp hW hE (lv_sub hl [1, 2, 3, 4, 5, 0] rfl) hL_a0 hK_a0 hL_a4 hK_a4
set_option maxHeartbeats 4000000 in
set_option maxRecDepth 100000 in
theorem t_X3_copyWith_16 {p : Program} {l : Launch} {e : Env} {s : State} {m : MethodId} {args : Array Value} {below : List Frame} {meth : Method} {c : Code} {D : wD} {cy : Nat → ClassId} {X : va_W} {A : Nat → Prop} {S0 : wS} {rC rS : Nat} {post : Option Nat → wS → Prop} (F : CallFix p m c cX3_copyWith 6 s args wz_X3_copyWith RX3) (hr : meth.sig.returnType = (some (.object "OpeningsCabinet$Game"))) (hlocks : meth.locks = false) (hK : wK D cy A s) : ∀ (n : Nat) {bc bs cells slots : Nat} (hbc : cells + bc ≤ rC) (hbs : slots + bs ≤ rS) {S : wS} {H : Heap} {locs : List Loc} {ls : Array Slot} {a0 : Nat} {x1 : Int32} {x2 : Int32} {x3 : Int32} {a4 : Nat} {x5 : Int32}, wp_X3_copyWith_16 D post n bc bs S a0 x1 x2 x3 a4 x5 → wO D cy X A s.heap S H locs → wX D S0 S → lv_has ls 6 [(0, .ref a0), (1, .int x1), (2, .int x2), (3, .int x3), (4, .ref a4), (5, .int x5)] → wM D S a0 → sK S a0 = 8 → wM D S a4 → sK S a4 = 8 → W p l e (r_X3_copyWith rC rS) s m args below meth c H locs cells slots (MQ below (va_Qq (fun r S9 => wX D S0 S9 ∧ post r S9) (wB D cy X A) A) args s rC rS A) (F0 m 16 ls []) := by
  obtain ⟨hx, hb, hml, hown, hts⟩ := id F
  have hwg : ∀ w ∈ WG, w.before args s = true := fun w h => hts w (List.mem_cons_of_mem _ h)
  have i_8 : ∀ w ∈ u_ws RX3 TX3 9, w ∈ wz_X3_copyWith := fun w h => List.mem_cons_of_mem _ (wu_8 w h)
  have k_36 := hwg _ wf_RX3_36
  intro n
  induction n with
  | zero =>
    intro bc bs cells slots hbc hbs S H locs ls a0 x1 x2 x3 a4 x5 hp
    exact hp.elim
  | succ n ih =>
    intro bc bs cells slots hbc hbs S H locs ls a0 x1 x2 x3 a4 x5 hp hW hE hl hL_a0 hK_a0 hL_a4 hK_a4
    unfold wp_X3_copyWith_16 at hp
    refine lv_iload hx hb dX3_copyWith_16 (lv_at hl 5 rfl) ?_
    refine lv_aload hx hb dX3_copyWith_18 (lv_at hl 4 rfl) ?_
    obtain ⟨y_1, ey_1, hL_y_1, hK_y_1, hp⟩ := hp
    refine w_get (k := 8) (f := 0) (T := TX3) (v := .ref y_1) F hK hW hL_a4 hK_a4 (by decide) rfl rfl (by decide) i_8 k_36 (by rw [show wv 8 0 S a4 = va_rf (sR S a4 0) from rfl, ey_1]; rfl) dX3_copyWith_20 ?_
    refine w_len F hK hW hL_y_1 hK_y_1 (by decide) dX3_copyWith_23 ?_
    refine lv_icmp_ge (tgt := 58) hx hb dX3_copyWith_24 (by decide) (fun c_2 => ?_) (fun c_2 => ?_)
    · replace hp := hp.1 c_2
      exact t_X3_copyWith_58 F hr hlocks hK hbc hbs hp hW hE (lv_sub hl [0, 1, 2, 3, 4] rfl) hL_a0 hK_a0 hL_a4 hK_a4
    · replace hp := hp.2 c_2
      refine lv_iload hx hb dX3_copyWith_27 (lv_at hl 5 rfl) ?_
      refine lv_aload_n hx hb dX3_copyWith_29 rfl (lv_at hl 0 rfl) ?_
      obtain ⟨y_3, ey_3, hL_y_3, hK_y_3, hp⟩ := hp
      refine w_get (k := 8) (f := 0) (T := TX3) (v := .ref y_3) F hK hW hL_a0 hK_a0 (by decide) rfl rfl (by decide) i_8 k_36 (by rw [show wv 8 0 S a0 = va_rf (sR S a0 0) from rfl, ey_3]; rfl) dX3_copyWith_30 ?_
      refine w_len F hK hW hL_y_3 hK_y_3 (by decide) dX3_copyWith_33 ?_
      refine lv_icmp_ge (tgt := 58) hx hb dX3_copyWith_34 (by decide) (fun c_4 => ?_) (fun c_4 => ?_)
      · replace hp := hp.1 c_4
        exact t_X3_copyWith_58 F hr hlocks hK hbc hbs hp hW hE (lv_sub hl [0, 1, 2, 3, 4] rfl) hL_a0 hK_a0 hL_a4 hK_a4
      · replace hp := hp.2 c_4
        refine lv_aload hx hb dX3_copyWith_37 (lv_at hl 4 rfl) ?_
        obtain ⟨y_5, ey_5, hL_y_5, hK_y_5, hp⟩ := hp
        refine w_get (k := 8) (f := 0) (T := TX3) (v := .ref y_5) F hK hW hL_a4 hK_a4 (by decide) rfl rfl (by decide) i_8 k_36 (by rw [show wv 8 0 S a4 = va_rf (sR S a4 0) from rfl, ey_5]; rfl) dX3_copyWith_39 ?_
        refine lv_iload hx hb dX3_copyWith_42 (lv_at hl 5 rfl) ?_
        refine lv_aload_n hx hb dX3_copyWith_44 rfl (lv_at hl 0 rfl) ?_
        obtain ⟨y_6, ey_6, hL_y_6, hK_y_6, hp⟩ := hp
        refine w_get (k := 8) (f := 0) (T := TX3) (v := .ref y_6) F hK hW hL_a0 hK_a0 (by decide) rfl rfl (by decide) i_8 k_36 (by rw [show wv 8 0 S a0 = va_rf (sR S a0 0) from rfl, ey_6]; rfl) dX3_copyWith_45 ?_
        refine lv_iload hx hb dX3_copyWith_48 (lv_at hl 5 rfl) ?_
        obtain ⟨h_7, hp⟩ := hp
        refine w_lld F hK hW hL_y_6 hK_y_6 h_7 dX3_copyWith_50 ?_
        obtain ⟨h_8m, h_8, hp⟩ := hp
        refine w_lst F hK hW h_8m hK_y_5 h_8 dX3_copyWith_51 (fun H locs hW => ?_)
        obtain ⟨S_9, eS_9⟩ : ∃ z : wS, z = uJ S y_5 (x5).toNatClampNeg (sJ S y_6 (x5).toNatClampNeg) := ⟨_, rfl⟩
        rw [← eS_9] at hW
        replace hp := hp S_9 eS_9
        have hX_S_9 : wX D S S_9 := by rw [eS_9]; exact wX_uJ
        have hE := hE.trans hX_S_9
        have hK_a0 : sK S_9 a0 = 8 := (hX_S_9.2 a0 hL_a0).1.trans hK_a0
        have hL_a0 : wM D S_9 a0 := hX_S_9.M hL_a0
        have hK_a4 : sK S_9 a4 = 8 := (hX_S_9.2 a4 hL_a4).1.trans hK_a4
        have hL_a4 : wM D S_9 a4 := hX_S_9.M hL_a4
        obtain ⟨x_10, ex_10⟩ : ∃ z : Int32, z = x5 + 1 := ⟨_, rfl⟩
        replace hp := hp x_10 ex_10
        refine lv_iinc (v := x_10) (lv' := [(5, .int x_10), (0, .ref a0), (1, .int x1), (2, .int x2), (3, .int x3), (4, .ref a4)]) hx hb dX3_copyWith_52 hl (k := 5) rfl (by rw [ex_10]; rfl) (by decide) rfl (fun ls hl => ?_)
        refine lv_goto (tgt := 16) hx hb dX3_copyWith_55 (by decide) ?_
        exact ih hbc hbs hp hW hE (lv_sub hl [1, 2, 3, 4, 5, 0] rfl) hL_a0 hK_a0 hL_a4 hK_a4
set_option maxHeartbeats 4000000 in
set_option maxRecDepth 100000 in
theorem t_X3_copyWith_0 {p : Program} {l : Launch} {e : Env} {s : State} {m : MethodId} {args : Array Value} {below : List Frame} {meth : Method} {c : Code} {D : wD} {cy : Nat → ClassId} {X : va_W} {A : Nat → Prop} {S0 : wS} {rC rS : Nat} {post : Option Nat → wS → Prop} (F : CallFix p m c cX3_copyWith 6 s args wz_X3_copyWith RX3) (hr : meth.sig.returnType = (some (.object "OpeningsCabinet$Game"))) (hlocks : meth.locks = false) (hK : wK D cy A s) : ∀ {bc bs cells slots : Nat} (hbc : cells + bc ≤ rC) (hbs : slots + bs ≤ rS) {S : wS} {H : Heap} {locs : List Loc} {ls : Array Slot} {a0 : Nat} {x1 : Int32} {x2 : Int32} {x3 : Int32}, wp_X3_copyWith_0 D post bc bs S a0 x1 x2 x3 → wO D cy X A s.heap S H locs → wX D S0 S → lv_has ls 6 [(0, .ref a0), (1, .int x1), (2, .int x2), (3, .int x3)] → wM D S a0 → sK S a0 = 8 → W p l e (r_X3_copyWith rC rS) s m args below meth c H locs cells slots (MQ below (va_Qq (fun r S9 => wX D S0 S9 ∧ post r S9) (wB D cy X A) A) args s rC rS A) (F0 m 0 ls []) := by
  obtain ⟨hx, hb, hml, hown, hts⟩ := id F
  have hwg : ∀ w ∈ WG, w.before args s = true := fun w h => hts w (List.mem_cons_of_mem _ h)
  have i_8 : ∀ w ∈ u_ws RX3 TX3 9, w ∈ wz_X3_copyWith := fun w h => List.mem_cons_of_mem _ (wu_8 w h)
  have k_9 := hwg _ wf_RX3_9
  intro bc bs cells slots hbc hbs S H locs ls a0 x1 x2 x3 hp hW hE hl hL_a0 hK_a0
  unfold wp_X3_copyWith_0 at hp
  obtain ⟨h_3, h_3b, hp⟩ := hp
  refine w_new (k := 8) (T := TX3) F hK hW rfl (by decide) (fun w h => List.mem_cons_of_mem _ (wu_8 w h)) tyX3 tyX3_ok (hwg _ wc_RX3_10) (hwg _ wn_8) (hwg _ wi_OpeningsCabinet_Game) wdef_8 (by show _ ≤ rC; omega) (by show _ ≤ rS; omega) dX3_copyWith_0 (fun y_1 H hq_y_1 hW => ?_)
  replace hbc := w_spend hbc (show 1 ≤ bc by omega)
  replace hbs := w_spend hbs (show 9 ≤ bs by omega)
  obtain ⟨S_2, eS_2⟩ : ∃ z : wS, z = nA S y_1 8 0 := ⟨_, rfl⟩
  rw [← eS_2] at hW
  replace hp := hp y_1 hq_y_1 S_2 eS_2
  have hX_S_2 : wX D S S_2 := by rw [eS_2]; exact wX_nA hq_y_1
  have hE := hE.trans hX_S_2
  have hK_a0 : sK S_2 a0 = 8 := (hX_S_2.2 a0 hL_a0).1.trans hK_a0
  have hL_a0 : wM D S_2 a0 := hX_S_2.M hL_a0
  have hL_y_1 : wM D S_2 y_1 := by rw [eS_2]; exact Or.inl (List.mem_append_right _ List.mem_cons_self)
  have hK_y_1 : sK S_2 y_1 = 8 := by rw [eS_2]; exact va_up_self _ _ _
  refine lv_dup hx hb dX3_copyWith_3 rfl ?_
  refine lv_aload_n hx hb dX3_copyWith_4 rfl (lv_at hl 0 rfl) ?_
  refine w_get (k := 8) (f := 3) (T := TX3) (v := .int (sI S_2 a0 3)) F hK hW hL_a0 hK_a0 (by decide) rfl rfl (by decide) i_8 k_9 rfl dX3_copyWith_5 ?_
  obtain ⟨m_6, z_7, hm_6, hz_7, hp⟩ := hp
  refine w_callV (va_runI (As := [.int (sI S_2 a0 3)]) (rest := [.ref y_1]) F (c_X3_init l hL_y_1 hK_y_1 hp H.size) (cwI 1 hts (wg_cons wy_X3_init.2.2) rfl rfl rfl (hwg _ wy_X3_init.2.1) (hwg _ wm_RX3_54) (hwg _ wy_X3_init.1) rfl (by decide +kernel) ⟨Nat.le_of_ble_eq_true rfl, Nat.le_of_ble_eq_true rfl⟩) (w_preS hK hW) rfl rfl hl.1 rfl (lv_room (Nat.le_of_ble_eq_true rfl)) dX3_copyWith_8 ⟨by show _ + m_6 ≤ rC; omega, by show _ + z_7 ≤ rS; omega⟩) hW (fun S_5 H locs hp hW => ?_)
  obtain ⟨hX_S_5, hp⟩ := hp
  refine W.widen (k := _ + m_6) (n := _ + z_7) (Nat.le_refl _) (Nat.le_refl _) ?_
  replace hbc := w_spend hbc (show m_6 ≤ (bc - 1) by omega)
  replace hbs := w_spend hbs (show z_7 ≤ (bs - 9) by omega)
  have hE := hE.trans hX_S_5
  have hK_a0 : sK S_5 a0 = 8 := (hX_S_5.2 a0 hL_a0).1.trans hK_a0
  have hL_a0 : wM D S_5 a0 := hX_S_5.M hL_a0
  have hK_y_1 : sK S_5 y_1 = 8 := (hX_S_5.2 y_1 hL_y_1).1.trans hK_y_1
  have hL_y_1 : wM D S_5 y_1 := hX_S_5.M hL_y_1
  refine lv_astore (lv' := [(4, .ref y_1), (0, .ref a0), (1, .int x1), (2, .int x2), (3, .int x3)]) hx hb dX3_copyWith_11 hl (by decide) rfl (fun ls hl => ?_)
  refine lv_iconst (v := 0) hx hb dX3_copyWith_13 (by decide) ?_
  refine lv_istore (lv' := [(5, .int (0 : Int32)), (4, .ref y_1), (0, .ref a0), (1, .int x1), (2, .int x2), (3, .int x3)]) hx hb dX3_copyWith_14 hl (by decide) rfl (fun ls hl => ?_)
  obtain ⟨n_8, hp⟩ := hp
  exact t_X3_copyWith_16 F hr hlocks hK n_8 hbc hbs hp hW hE (lv_sub hl [2, 3, 4, 5, 1, 0] rfl) hL_a0 hK_a0 hL_y_1 hK_y_1
set_option maxHeartbeats 4000000 in
set_option maxRecDepth 100000 in
theorem c_X3_copyWith (l : Launch) {rC rS : Nat} {D : wD} {cy : Nat → ClassId} {X : va_W} {S0 : wS} {post : Option Nat → wS → Prop} {a0 : Nat} {x1 : Int32} {x2 : Int32} {x3 : Int32} (hL_a0 : wM D S0 a0) (hK_a0 : sK S0 a0 = 8) (hp : wp_X3_copyWith D post rC rS S0 a0 x1 x2 x3) : mR D cy X l yX3_copyWith wz_X3_copyWith (r_X3_copyWith rC rS) [.ref a0, .int x1, .int x2, .int x3] S0 (fun r S9 => wX D S0 S9 ∧ post r S9) := by
  intro sz
  refine Met.ofW (cc := cX3_copyWith) (maxL := 6) (ret := (some (.object "OpeningsCabinet$Game"))) (by decide) rfl ?_
  intro p e s m args below meth c s₁ B hml hv
  obtain ⟨rfl, hsz, hP, hK, hD0, hRO⟩ := hv
  have hts := atoms_spec (ws := wz_X3_copyWith) B.pre
  have hown : s.vm.findClass RX3 = some m.cls := findClass_of_methodNamed B.named
  subst hsz
  have hD := hD0.self (sz := s.heap.size)
  have F : CallFix p m c cX3_copyWith 6 s _ wz_X3_copyWith RX3 := ⟨B.exec, B.bytes, hml, hown, hts⟩
  have hr := B.returns
  have hlocks := B.notSynchronized
  generalize hAe : va_A (wL cy X S0) s.heap.size = A at hD hK ⊢
  have hA : ∀ q, s.heap.size ≤ q → A q := fun q h => by rw [← hAe]; exact Or.inr h
  have hW : wO D cy X A s.heap S0 s.heap [] := ⟨hP, hD, va_S.rf, hA, hRO⟩
  have hl := lv_entry ([.ref a0, .int x1, .int x2, .int x3]) (n := 6) (Nat.le_of_ble_eq_true rfl)
  rw [lg_entry_eq]
  generalize (lg_sl ([.ref a0, .int x1, .int x2, .int x3]) ++ List.replicate (6 - (lg_sl ([.ref a0, .int x1, .int x2, .int x3])).length) Slot.unset).toArray = ls at hl ⊢
  have hl : lv_has ls 6 [(0, .ref a0), (1, .int x1), (2, .int x2), (3, .int x3)] := hl
  unfold wp_X3_copyWith at hp
  exact t_X3_copyWith_0 F hr hlocks hK (Nat.le_of_eq (Nat.zero_add _)) (Nat.le_of_eq (Nat.zero_add _)) hp hW wX.rf (lv_sub hl [0, 1, 2, 3] rfl) hL_a0 hK_a0
def wp_X11_addGame_43 (D : wD) (post : Int32 → wS → Prop) (xp : String → wS → Prop)  (bc bs : Nat) (S : wS) : Prop :=
1 ≤ bc ∧ 6 ≤ bs ∧
xp "java/lang/IllegalArgumentException" S
def wp_X11_addGame_0 (D : wD) (post : Int32 → wS → Prop) (xp : String → wS → Prop)  (bc bs : Nat) (S : wS) (a0 : Nat) (x1 : Int32) (x2 : Int32) (x3 : Int32) (x4 : Int32) : Prop :=
1 ≤ bc ∧ 6 ≤ bs ∧
wp_X11_shelfOf D (fun r_1 S_2 => 
((x2 < 0 → wp_X11_addGame_43 D post xp (bc - 1) (bs - 6) S_2) ∧
 (¬ x2 < 0 → (((2 : Int32) < x2 → wp_X11_addGame_43 D post xp (bc - 1) (bs - 6) S_2) ∧
 (¬ (2 : Int32) < x2 → ((x3 < (1800 : Int32) → wp_X11_addGame_43 D post xp (bc - 1) (bs - 6) S_2) ∧
 (¬ x3 < (1800 : Int32) → (((2100 : Int32) < x3 → wp_X11_addGame_43 D post xp (bc - 1) (bs - 6) S_2) ∧
 (¬ (2100 : Int32) < x3 → ((x4 < 0 → wp_X11_addGame_43 D post xp (bc - 1) (bs - 6) S_2) ∧
 (¬ x4 < 0 → ((x4 ≤ (3500 : Int32) → 1 ≤ (bc - 1) ∧ 6 ≤ (bs - 6) ∧
wp_X11_mustBeLawful D (fun S_11 => 
∃ y_13 : Nat, r_1 = some y_13 ∧ wM D S_11 y_13 ∧ sK S_11 y_13 = 15 ∧
wp_X10_size D (fun r_15 S_16 => 
((r_15 < (40 : Int32) → ∃ y_18 : Nat, sR S_16 a0 4 = some y_18 ∧ wM D S_16 y_18 ∧ sK S_16 y_18 = 8 ∧
∃ m_21 z_22 : Nat, m_21 ≤ ((bc - 1) - 1) ∧ z_22 ≤ ((bs - 6) - 6) ∧
wp_X3_copyWith D (fun r_19 S_20 => 
∃ y_23 : Nat, r_19 = some y_23 ∧ wM D S_20 y_23 ∧ sK S_20 y_23 = 8 ∧
∃ m_27 z_28 : Nat, m_27 ≤ (((bc - 1) - 1) - m_21) ∧ z_28 ≤ (((bs - 6) - 6) - z_22) ∧
wp_X10_add D (fun S_26 => 
wp_X10_size D (fun r_29 S_30 => 
post (r_29 - (1 : Int32)) S_30) S_26 y_13) m_27 z_28 S_20 y_13 y_23) m_21 z_22 S_16 y_18 x2 x3 x4) ∧
 (¬ r_15 < (40 : Int32) → 1 ≤ ((bc - 1) - 1) ∧ 6 ≤ ((bs - 6) - 6) ∧
xp "java/lang/IllegalStateException" S_16))) S_11 y_13) xp S_2 a0) ∧
 (¬ x4 ≤ (3500 : Int32) → wp_X11_addGame_43 D post xp (bc - 1) (bs - 6) S_2))))))))))))) xp S a0 x1
abbrev r_X11_addGame (rC rS : Nat) : Room := { frames := 7, cells := rC, slots := rS, locals := 172 }
def wp_X11_addGame (D : wD) (post : Int32 → wS → Prop) (xp : String → wS → Prop) (bc bs : Nat) (S : wS) (a0 : Nat) (x1 : Int32) (x2 : Int32) (x3 : Int32) (x4 : Int32) : Prop := wp_X11_addGame_0 D post xp bc bs S a0 x1 x2 x3 x4
set_option maxHeartbeats 4000000 in
set_option maxRecDepth 100000 in
theorem t_X11_addGame_43 {p : Program} {l : Launch} {e : Env} {s : State} {m : MethodId} {args : Array Value} {below : List Frame} {meth : Method} {c : Code} {D : wD} {cy : Nat → ClassId} {X : va_W} {A : Nat → Prop} {S0 : wS} {rC rS : Nat} {post : Int32 → wS → Prop} {xp : String → wS → Prop} (F : CallFix p m c cX11_addGame 6 s args wz_X11_addGame RX11) (hr : meth.sig.returnType = (some .int)) (hlocks : meth.locks = false) (hK : wK D cy A s) (hl0 : l.stackTraces = false) (hexc : ∀ x ∈ c.exceptionTable.toList, False) : ∀ {bc bs cells slots : Nat} (hbc : cells + bc ≤ rC) (hbs : slots + bs ≤ rS) {S : wS} {H : Heap} {locs : List Loc} {ls : Array Slot}, wp_X11_addGame_43 D post xp bc bs S → wO D cy X A s.heap S H locs → wX D S0 S → lv_has ls 6 [] → W p l e (r_X11_addGame rC rS) s m args below meth c H locs cells slots (vx_MQ below (va_Qi (fun r S9 => wX D S0 S9 ∧ post r S9) (wB D cy X A) A) (wEx D cy X A (fun E S9 => wX D S0 S9 ∧ xp E S9)) args s rC rS A) (F0 m 43 ls []) := by
  obtain ⟨hx, hb, hml, hown, hts⟩ := id F
  have hwg : ∀ w ∈ WG, w.before args s = true := fun w h => hts w (List.mem_cons_of_mem _ h)
  intro bc bs cells slots hbc hbs S H locs ls hp hW hE hl
  unfold wp_X11_addGame_43 at hp
  obtain ⟨hm1, hm2, hp⟩ := hp
  exact x_throwW (ls := ls) F hK hW hl0 (by decide) (hwg _ wc_RX11_140) (hwg _ wi_java_lang_IllegalArgumentException) (show ("OpeningsCabinet", 341, "the result, the year or the strength is out of range", 32) ∈ wStr by decide +kernel) (wa_RX11_144 hwg hK.2.1) wa_RX11_144_ok hl.1 hexc hlocks dX11_addGame_43 dX11_addGame_46 dX11_addGame_47 dX11_addGame_50 dX11_addGame_53 (Nat.le_of_ble_eq_true rfl) (Nat.le_of_ble_eq_true rfl) (by show _ ≤ rC; omega) (by show _ ≤ rS; omega) (by omega) (by omega) ⟨hE, hp⟩
set_option maxHeartbeats 4000000 in
set_option maxRecDepth 100000 in
theorem t_X11_addGame_0 {p : Program} {l : Launch} {e : Env} {s : State} {m : MethodId} {args : Array Value} {below : List Frame} {meth : Method} {c : Code} {D : wD} {cy : Nat → ClassId} {X : va_W} {A : Nat → Prop} {S0 : wS} {rC rS : Nat} {post : Int32 → wS → Prop} {xp : String → wS → Prop} (F : CallFix p m c cX11_addGame 6 s args wz_X11_addGame RX11) (hr : meth.sig.returnType = (some .int)) (hlocks : meth.locks = false) (hK : wK D cy A s) (hl0 : l.stackTraces = false) (hexc : ∀ x ∈ c.exceptionTable.toList, False) : ∀ {bc bs cells slots : Nat} (hbc : cells + bc ≤ rC) (hbs : slots + bs ≤ rS) {S : wS} {H : Heap} {locs : List Loc} {ls : Array Slot} {a0 : Nat} {x1 : Int32} {x2 : Int32} {x3 : Int32} {x4 : Int32}, wp_X11_addGame_0 D post xp bc bs S a0 x1 x2 x3 x4 → wO D cy X A s.heap S H locs → wX D S0 S → lv_has ls 6 [(0, .ref a0), (1, .int x1), (2, .int x2), (3, .int x3), (4, .int x4)] → wM D S a0 → sK S a0 = 16 → W p l e (r_X11_addGame rC rS) s m args below meth c H locs cells slots (vx_MQ below (va_Qi (fun r S9 => wX D S0 S9 ∧ post r S9) (wB D cy X A) A) (wEx D cy X A (fun E S9 => wX D S0 S9 ∧ xp E S9)) args s rC rS A) (F0 m 0 ls []) := by
  obtain ⟨hx, hb, hml, hown, hts⟩ := id F
  have hwg : ∀ w ∈ WG, w.before args s = true := fun w h => hts w (List.mem_cons_of_mem _ h)
  have i_16 : ∀ w ∈ u_ws RX11 TX11 18, w ∈ wz_X11_addGame := fun w h => List.mem_cons_of_mem _ (wu_16 w h)
  have k_40 := hwg _ wf_RX11_40
  intro bc bs cells slots hbc hbs S H locs ls a0 x1 x2 x3 x4 hp hW hE hl hL_a0 hK_a0
  unfold wp_X11_addGame_0 at hp
  refine lv_aload_n hx hb dX11_addGame_0 rfl (lv_at hl 0 rfl) ?_
  refine lv_iload_n hx hb dX11_addGame_1 rfl (lv_at hl 1 rfl) ?_
  obtain ⟨h_3, h_3z, hp⟩ := hp
  refine x_callR (vx_runV (As := [.int x1]) (rest := []) F (c_X11_shelfOf l hl0 hL_a0 hK_a0 hp H.size) (cwV (C := RX11) 1 hts (wg_V wm_RX11_337 wy_X11_shelfOf) rfl rfl rfl (by decide +kernel) ⟨Nat.le_of_ble_eq_true rfl, Nat.le_of_ble_eq_true rfl⟩) (w_preV hK hW hL_a0 hK_a0 (by decide) rfl) rfl rfl hl.1 rfl (lv_room (Nat.le_of_ble_eq_true rfl)) dX11_addGame_2 ⟨by show _ + 1 ≤ rC; omega, by show _ + 6 ≤ rS; omega⟩) hW (fun E ce q9 S9 H locs hp hW h1 h2 h3 => x_out hexc hlocks ⟨hE.trans hp.1, hp.2⟩ hW h1 h2 h3 (by show _ ≤ rC; omega) (by show _ ≤ rS; omega)) (fun r_1 S_2 H locs hp hW => ?_)
  obtain ⟨hX_S_2, hp⟩ := hp
  refine W.widen (k := _ + 1) (n := _ + 6) (Nat.le_refl _) (Nat.le_refl _) ?_
  replace hbc := w_spend hbc (show 1 ≤ bc by omega)
  replace hbs := w_spend hbs (show 6 ≤ bs by omega)
  have hE := hE.trans hX_S_2
  have hK_a0 : sK S_2 a0 = 16 := (hX_S_2.2 a0 hL_a0).1.trans hK_a0
  have hL_a0 : wM D S_2 a0 := hX_S_2.M hL_a0
  refine w_astore (lv' := [(5, va_rf r_1), (0, .ref a0), (1, .int x1), (2, .int x2), (3, .int x3), (4, .int x4)]) hx hb dX11_addGame_5 hl (by decide) rfl (fun ls hl => ?_)
  refine lv_iload_n hx hb dX11_addGame_7 rfl (lv_at hl 3 rfl) ?_
  refine lv_if_lt (tgt := 43) hx hb dX11_addGame_8 (by decide) (fun c_4 => ?_) (fun c_4 => ?_)
  · replace hp := hp.1 c_4
    exact t_X11_addGame_43 F hr hlocks hK hl0 hexc hbc hbs hp hW hE (lv_sub hl [] rfl)
  · replace hp := hp.2 c_4
    refine lv_iload_n hx hb dX11_addGame_11 rfl (lv_at hl 3 rfl) ?_
    refine lv_iconst (v := 2) hx hb dX11_addGame_12 (by decide) ?_
    refine lv_icmp_gt (tgt := 43) hx hb dX11_addGame_13 (by decide) (fun c_5 => ?_) (fun c_5 => ?_)
    · replace hp := hp.1 c_5
      exact t_X11_addGame_43 F hr hlocks hK hl0 hexc hbc hbs hp hW hE (lv_sub hl [] rfl)
    · replace hp := hp.2 c_5
      refine lv_iload_n hx hb dX11_addGame_16 rfl (lv_at hl 4 rfl) ?_
      refine lv_sipush (v := 1800) hx hb dX11_addGame_17 (by decide) ?_
      refine lv_icmp_lt (tgt := 43) hx hb dX11_addGame_20 (by decide) (fun c_6 => ?_) (fun c_6 => ?_)
      · replace hp := hp.1 c_6
        exact t_X11_addGame_43 F hr hlocks hK hl0 hexc hbc hbs hp hW hE (lv_sub hl [] rfl)
      · replace hp := hp.2 c_6
        refine lv_iload_n hx hb dX11_addGame_23 rfl (lv_at hl 4 rfl) ?_
        refine lv_sipush (v := 2100) hx hb dX11_addGame_24 (by decide) ?_
        refine lv_icmp_gt (tgt := 43) hx hb dX11_addGame_27 (by decide) (fun c_7 => ?_) (fun c_7 => ?_)
        · replace hp := hp.1 c_7
          exact t_X11_addGame_43 F hr hlocks hK hl0 hexc hbc hbs hp hW hE (lv_sub hl [] rfl)
        · replace hp := hp.2 c_7
          refine lv_iload hx hb dX11_addGame_30 (lv_at hl 5 rfl) ?_
          refine lv_if_lt (tgt := 43) hx hb dX11_addGame_32 (by decide) (fun c_8 => ?_) (fun c_8 => ?_)
          · replace hp := hp.1 c_8
            exact t_X11_addGame_43 F hr hlocks hK hl0 hexc hbc hbs hp hW hE (lv_sub hl [] rfl)
          · replace hp := hp.2 c_8
            refine lv_iload hx hb dX11_addGame_35 (lv_at hl 5 rfl) ?_
            refine lv_sipush (v := 3500) hx hb dX11_addGame_37 (by decide) ?_
            refine lv_icmp_le (tgt := 54) hx hb dX11_addGame_40 (by decide) (fun c_9 => ?_) (fun c_9 => ?_)
            · replace hp := hp.1 c_9
              refine lv_aload_n hx hb dX11_addGame_54 rfl (lv_at hl 1 rfl) ?_
              obtain ⟨h_12, h_12z, hp⟩ := hp
              refine x_callV (vx_runV (As := []) (rest := []) F (c_X11_mustBeLawful l hl0 hL_a0 hK_a0 hp H.size) (cwV (C := RX11) 0 hts (wg_V wm_RX11_217 wy_X11_mustBeLawful) rfl rfl rfl (by decide +kernel) ⟨Nat.le_of_ble_eq_true rfl, Nat.le_of_ble_eq_true rfl⟩) (w_preV hK hW hL_a0 hK_a0 (by decide) rfl) rfl rfl hl.1 rfl (lv_room (Nat.le_of_ble_eq_true rfl)) dX11_addGame_55 ⟨by show _ + 1 ≤ rC; omega, by show _ + 6 ≤ rS; omega⟩) hW (fun E ce q9 S9 H locs hp hW h1 h2 h3 => x_out hexc hlocks ⟨hE.trans hp.1, hp.2⟩ hW h1 h2 h3 (by show _ ≤ rC; omega) (by show _ ≤ rS; omega)) (fun S_11 H locs hp hW => ?_)
              obtain ⟨hX_S_11, hp⟩ := hp
              refine W.widen (k := _ + 1) (n := _ + 6) (Nat.le_refl _) (Nat.le_refl _) ?_
              replace hbc := w_spend hbc (show 1 ≤ (bc - 1) by omega)
              replace hbs := w_spend hbs (show 6 ≤ (bs - 6) by omega)
              have hE := hE.trans hX_S_11
              have hK_a0 : sK S_11 a0 = 16 := (hX_S_11.2 a0 hL_a0).1.trans hK_a0
              have hL_a0 : wM D S_11 a0 := hX_S_11.M hL_a0
              refine w_aload hx hb dX11_addGame_58 (lv_at hl 0 rfl) ?_
              obtain ⟨y_13, h_14, hL_y_13, hK_y_13, hp⟩ := hp
              subst h_14
              refine w_callI (va_runV (As := []) (rest := []) F (c_X10_size l hL_y_13 hK_y_13 hp H.size) (cwV (C := RX10) 0 hts (wg_V wm_RX11_343 wy_X10_size) rfl rfl rfl (by decide +kernel) ⟨Nat.le_of_ble_eq_true rfl, Nat.le_of_ble_eq_true rfl⟩) (w_preV hK hW hL_y_13 hK_y_13 (by decide) rfl) rfl rfl hl.1 rfl (lv_room (Nat.le_of_ble_eq_true rfl)) dX11_addGame_60 ⟨by show _ ≤ rC; exact Nat.le_trans (Nat.le_add_right _ _) hbc, by show _ ≤ rS; exact Nat.le_trans (Nat.le_add_right _ _) hbs⟩) hW (fun r_15 S_16 H locs hp hW => ?_)
              obtain ⟨hX_S_16, hp⟩ := hp
              refine w_same ?_
              have hE := hE.trans hX_S_16
              have hK_a0 : sK S_16 a0 = 16 := (hX_S_16.2 a0 hL_a0).1.trans hK_a0
              have hL_a0 : wM D S_16 a0 := hX_S_16.M hL_a0
              have hK_y_13 : sK S_16 y_13 = 15 := (hX_S_16.2 y_13 hL_y_13).1.trans hK_y_13
              have hL_y_13 : wM D S_16 y_13 := hX_S_16.M hL_y_13
              refine lv_bipush (v := 40) hx hb dX11_addGame_63 (by decide) ?_
              refine lv_icmp_lt (tgt := 79) hx hb dX11_addGame_65 (by decide) (fun c_17 => ?_) (fun c_17 => ?_)
              · replace hp := hp.1 c_17
                refine lv_aload hx hb dX11_addGame_79 (lv_at hl 0 rfl) ?_
                refine lv_aload_n hx hb dX11_addGame_81 rfl (lv_at hl 1 rfl) ?_
                obtain ⟨y_18, ey_18, hL_y_18, hK_y_18, hp⟩ := hp
                refine w_get (k := 16) (f := 4) (T := TX11) (v := .ref y_18) F hK hW hL_a0 hK_a0 (by decide) rfl rfl (by decide) i_16 k_40 (by rw [show wv 16 4 S_16 a0 = va_rf (sR S_16 a0 4) from rfl, ey_18]; rfl) dX11_addGame_82 ?_
                refine lv_iload_n hx hb dX11_addGame_85 rfl (lv_at hl 3 rfl) ?_
                refine lv_iload_n hx hb dX11_addGame_86 rfl (lv_at hl 4 rfl) ?_
                refine lv_iload hx hb dX11_addGame_87 (lv_at hl 5 rfl) ?_
                obtain ⟨m_21, z_22, hm_21, hz_22, hp⟩ := hp
                refine w_callR (va_runV (As := [.int x2, .int x3, .int x4]) (rest := [.ref y_13]) F (c_X3_copyWith l hL_y_18 hK_y_18 hp H.size) (cwV (C := RX3) 3 hts (wg_V wm_RX11_347 wy_X3_copyWith) rfl rfl rfl (by decide +kernel) ⟨Nat.le_of_ble_eq_true rfl, Nat.le_of_ble_eq_true rfl⟩) (w_preV hK hW hL_y_18 hK_y_18 (by decide) rfl) rfl rfl hl.1 rfl (lv_room (Nat.le_of_ble_eq_true rfl)) dX11_addGame_89 ⟨by show _ + m_21 ≤ rC; omega, by show _ + z_22 ≤ rS; omega⟩) hW (fun r_19 S_20 H locs hp hW => ?_)
                obtain ⟨hX_S_20, hp⟩ := hp
                refine W.widen (k := _ + m_21) (n := _ + z_22) (Nat.le_refl _) (Nat.le_refl _) ?_
                replace hbc := w_spend hbc (show m_21 ≤ ((bc - 1) - 1) by omega)
                replace hbs := w_spend hbs (show z_22 ≤ ((bs - 6) - 6) by omega)
                have hE := hE.trans hX_S_20
                have hK_a0 : sK S_20 a0 = 16 := (hX_S_20.2 a0 hL_a0).1.trans hK_a0
                have hL_a0 : wM D S_20 a0 := hX_S_20.M hL_a0
                have hK_y_13 : sK S_20 y_13 = 15 := (hX_S_20.2 y_13 hL_y_13).1.trans hK_y_13
                have hL_y_13 : wM D S_20 y_13 := hX_S_20.M hL_y_13
                obtain ⟨y_23, h_24, hL_y_23, hK_y_23, hp⟩ := hp
                subst h_24
                obtain ⟨m_27, z_28, hm_27, hz_28, hp⟩ := hp
                refine w_callV (va_runV (As := [.ref y_23]) (rest := []) F (c_X10_add l hL_y_13 hK_y_13 hL_y_23 hK_y_23 hp H.size) (cwV (C := RX10) 1 hts (wg_V wm_RX11_351 wy_X10_add) rfl rfl rfl (by decide +kernel) ⟨Nat.le_of_ble_eq_true rfl, Nat.le_of_ble_eq_true rfl⟩) (w_preV hK hW hL_y_13 hK_y_13 (by decide) rfl) rfl rfl hl.1 rfl (lv_room (Nat.le_of_ble_eq_true rfl)) dX11_addGame_92 ⟨by show _ + m_27 ≤ rC; omega, by show _ + z_28 ≤ rS; omega⟩) hW (fun S_26 H locs hp hW => ?_)
                obtain ⟨hX_S_26, hp⟩ := hp
                refine W.widen (k := _ + m_27) (n := _ + z_28) (Nat.le_refl _) (Nat.le_refl _) ?_
                replace hbc := w_spend hbc (show m_27 ≤ (((bc - 1) - 1) - m_21) by omega)
                replace hbs := w_spend hbs (show z_28 ≤ (((bs - 6) - 6) - z_22) by omega)
                have hE := hE.trans hX_S_26
                have hK_a0 : sK S_26 a0 = 16 := (hX_S_26.2 a0 hL_a0).1.trans hK_a0
                have hL_a0 : wM D S_26 a0 := hX_S_26.M hL_a0
                have hK_y_13 : sK S_26 y_13 = 15 := (hX_S_26.2 y_13 hL_y_13).1.trans hK_y_13
                have hL_y_13 : wM D S_26 y_13 := hX_S_26.M hL_y_13
                refine lv_aload hx hb dX11_addGame_95 (lv_at hl 0 rfl) ?_
                refine w_callI (va_runV (As := []) (rest := []) F (c_X10_size l hL_y_13 hK_y_13 hp H.size) (cwV (C := RX10) 0 hts (wg_V wm_RX11_343 wy_X10_size) rfl rfl rfl (by decide +kernel) ⟨Nat.le_of_ble_eq_true rfl, Nat.le_of_ble_eq_true rfl⟩) (w_preV hK hW hL_y_13 hK_y_13 (by decide) rfl) rfl rfl hl.1 rfl (lv_room (Nat.le_of_ble_eq_true rfl)) dX11_addGame_97 ⟨by show _ ≤ rC; exact Nat.le_trans (Nat.le_add_right _ _) hbc, by show _ ≤ rS; exact Nat.le_trans (Nat.le_add_right _ _) hbs⟩) hW (fun r_29 S_30 H locs hp hW => ?_)
                obtain ⟨hX_S_30, hp⟩ := hp
                refine w_same ?_
                have hE := hE.trans hX_S_30
                have hK_a0 : sK S_30 a0 = 16 := (hX_S_30.2 a0 hL_a0).1.trans hK_a0
                have hL_a0 : wM D S_30 a0 := hX_S_30.M hL_a0
                have hK_y_13 : sK S_30 y_13 = 15 := (hX_S_30.2 y_13 hL_y_13).1.trans hK_y_13
                have hL_y_13 : wM D S_30 y_13 := hX_S_30.M hL_y_13
                refine lv_iconst (v := 1) hx hb dX11_addGame_100 (by decide) ?_
                refine lv_isub hx hb dX11_addGame_101 ?_
                refine W.widen (k := rC) (n := rS) (Nat.le_trans (Nat.le_add_right _ _) hbc) (Nat.le_trans (Nat.le_add_right _ _) hbs) ?_
                refine vx_ret ?_
                exact w_iret hx hb hr hlocks hW ⟨hE, hp⟩ dX11_addGame_102
              · replace hp := hp.2 c_17
                obtain ⟨hm1, hm2, hp⟩ := hp
                exact x_throwW (ls := ls) F hK hW hl0 (by decide) (hwg _ wc_RX11_285) (hwg _ wi_java_lang_IllegalStateException) (show ("OpeningsCabinet", 345, "the shelf has 40 games", 33) ∈ wStr by decide +kernel) (wa_RX11_289 hwg hK.2.1) wa_RX11_289_ok hl.1 hexc hlocks dX11_addGame_68 dX11_addGame_71 dX11_addGame_72 dX11_addGame_75 dX11_addGame_78 (Nat.le_of_ble_eq_true rfl) (Nat.le_of_ble_eq_true rfl) (by show _ ≤ rC; omega) (by show _ ≤ rS; omega) (by omega) (by omega) ⟨hE, hp⟩
            · replace hp := hp.2 c_9
              exact t_X11_addGame_43 F hr hlocks hK hl0 hexc hbc hbs hp hW hE (lv_sub hl [] rfl)
set_option maxHeartbeats 4000000 in
set_option maxRecDepth 100000 in
theorem c_X11_addGame (l : Launch) {rC rS : Nat} {D : wD} {cy : Nat → ClassId} {X : va_W} {S0 : wS} {post : Int32 → wS → Prop} {xp : String → wS → Prop} (hl0 : l.stackTraces = false) {a0 : Nat} {x1 : Int32} {x2 : Int32} {x3 : Int32} {x4 : Int32} (hL_a0 : wM D S0 a0) (hK_a0 : sK S0 a0 = 16) (hp : wp_X11_addGame D post xp rC rS S0 a0 x1 x2 x3 x4) : xI D cy X l yX11_addGame wz_X11_addGame (r_X11_addGame rC rS) [.ref a0, .int x1, .int x2, .int x3, .int x4] S0 (fun r S9 => wX D S0 S9 ∧ post r S9) (fun E S9 => wX D S0 S9 ∧ xp E S9) := by
  intro sz
  refine vx_ofW (cc := cX11_addGame) (maxL := 6) (ret := (some .int)) (by decide) rfl ?_
  intro p e s m args below meth c s₁ B hml hexc hv
  obtain ⟨rfl, hsz, hP, hK, hD0, hRO⟩ := hv
  have hts := atoms_spec (ws := wz_X11_addGame) B.pre
  have hown : s.vm.findClass RX11 = some m.cls := findClass_of_methodNamed B.named
  subst hsz
  have hD := hD0.self (sz := s.heap.size)
  have F : CallFix p m c cX11_addGame 6 s _ wz_X11_addGame RX11 := ⟨B.exec, B.bytes, hml, hown, hts⟩
  have hr := B.returns
  have hlocks := B.notSynchronized
  generalize hAe : va_A (wL cy X S0) s.heap.size = A at hD hK ⊢
  have hA : ∀ q, s.heap.size ≤ q → A q := fun q h => by rw [← hAe]; exact Or.inr h
  have hW : wO D cy X A s.heap S0 s.heap [] := ⟨hP, hD, va_S.rf, hA, hRO⟩
  have hl := lv_entry ([.ref a0, .int x1, .int x2, .int x3, .int x4]) (n := 6) (Nat.le_of_ble_eq_true rfl)
  rw [lg_entry_eq]
  generalize (lg_sl ([.ref a0, .int x1, .int x2, .int x3, .int x4]) ++ List.replicate (6 - (lg_sl ([.ref a0, .int x1, .int x2, .int x3, .int x4])).length) Slot.unset).toArray = ls at hl ⊢
  have hl : lv_has ls 6 [(0, .ref a0), (1, .int x1), (2, .int x2), (3, .int x3), (4, .int x4)] := hl
  unfold wp_X11_addGame at hp
  exact t_X11_addGame_0 F hr hlocks hK hl0 hexc (Nat.le_of_eq (Nat.zero_add _)) (Nat.le_of_eq (Nat.zero_add _)) hp hW wX.rf (lv_sub hl [0, 1, 2, 3, 4] rfl) hL_a0 hK_a0
def wp_X11_numberAsked_0 (D : wD) (post : Int32 → wS → Prop) (xp : String → wS → Prop)  (S : wS) (a0 : Nat) : Prop :=
∃ y_1 : Nat, sR S a0 8 = some y_1 ∧ wM D S y_1 ∧ sK S y_1 = 15 ∧
wp_X10_numberDue D (fun r_2 S_3 => 
((¬ r_2 = (-1 : Int32) → post r_2 S_3) ∧
 (r_2 = (-1 : Int32) → xp "java/util/NoSuchElementException" S_3))) S y_1
abbrev r_X11_numberAsked : Room := { frames := 6, cells := 1, slots := 6, locals := 120 }
def wp_X11_numberAsked (D : wD) (post : Int32 → wS → Prop) (xp : String → wS → Prop) (S : wS) (a0 : Nat) : Prop := wp_X11_numberAsked_0 D post xp S a0
set_option maxHeartbeats 4000000 in
set_option maxRecDepth 100000 in
theorem t_X11_numberAsked_0 {p : Program} {l : Launch} {e : Env} {s : State} {m : MethodId} {args : Array Value} {below : List Frame} {meth : Method} {c : Code} {D : wD} {cy : Nat → ClassId} {X : va_W} {A : Nat → Prop} {S0 : wS} {post : Int32 → wS → Prop} {xp : String → wS → Prop} (F : CallFix p m c cX11_numberAsked 2 s args wz_X11_numberAsked RX11) (hr : meth.sig.returnType = (some .int)) (hlocks : meth.locks = false) (hK : wK D cy A s) (hl0 : l.stackTraces = false) (hexc : ∀ x ∈ c.exceptionTable.toList, False) : ∀ {S : wS} {H : Heap} {locs : List Loc} {ls : Array Slot} {a0 : Nat}, wp_X11_numberAsked_0 D post xp S a0 → wO D cy X A s.heap S H locs → wX D S0 S → lv_has ls 2 [(0, .ref a0)] → wM D S a0 → sK S a0 = 16 → W p l e r_X11_numberAsked s m args below meth c H locs 0 0 (vx_MQ below (va_Qi (fun r S9 => wX D S0 S9 ∧ post r S9) (wB D cy X A) A) (wEx D cy X A (fun E S9 => wX D S0 S9 ∧ xp E S9)) args s 1 6 A) (F0 m 0 ls []) := by
  obtain ⟨hx, hb, hml, hown, hts⟩ := id F
  have hwg : ∀ w ∈ WG, w.before args s = true := fun w h => hts w (List.mem_cons_of_mem _ h)
  have i_16 : ∀ w ∈ u_ws RX11 TX11 18, w ∈ wz_X11_numberAsked := fun w h => List.mem_cons_of_mem _ (wu_16 w h)
  have k_72 := hwg _ wf_RX11_72
  intro S H locs ls a0 hp hW hE hl hL_a0 hK_a0
  unfold wp_X11_numberAsked_0 at hp
  refine lv_aload_n hx hb dX11_numberAsked_0 rfl (lv_at hl 0 rfl) ?_
  obtain ⟨y_1, ey_1, hL_y_1, hK_y_1, hp⟩ := hp
  refine w_get (k := 16) (f := 8) (T := TX11) (v := .ref y_1) F hK hW hL_a0 hK_a0 (by decide) rfl rfl (by decide) i_16 k_72 (by rw [show wv 16 8 S a0 = va_rf (sR S a0 8) from rfl, ey_1]; rfl) dX11_numberAsked_1 ?_
  refine w_callI (va_runV (As := []) (rest := []) F (c_X10_numberDue l hL_y_1 hK_y_1 hp H.size) (cwV (C := RX10) 0 hts (wg_V wm_RX11_516 wy_X10_numberDue) rfl rfl rfl (by decide +kernel) ⟨Nat.le_of_ble_eq_true rfl, Nat.le_of_ble_eq_true rfl⟩) (w_preV hK hW hL_y_1 hK_y_1 (by decide) rfl) rfl rfl hl.1 rfl (lv_room (Nat.le_of_ble_eq_true rfl)) dX11_numberAsked_4 ⟨Nat.le_of_ble_eq_true rfl, Nat.le_of_ble_eq_true rfl⟩) hW (fun r_2 S_3 H locs hp hW => ?_)
  obtain ⟨hX_S_3, hp⟩ := hp
  refine W.widen (k := 0) (n := 0) (by decide) (by decide) ?_
  have hE := hE.trans hX_S_3
  have hK_a0 : sK S_3 a0 = 16 := (hX_S_3.2 a0 hL_a0).1.trans hK_a0
  have hL_a0 : wM D S_3 a0 := hX_S_3.M hL_a0
  refine lv_istore_n (lv' := [(1, .int r_2), (0, .ref a0)]) hx hb dX11_numberAsked_7 rfl hl (by decide) rfl (fun ls hl => ?_)
  refine lv_iload_n hx hb dX11_numberAsked_8 rfl (lv_at hl 0 rfl) ?_
  refine lv_iconst (v := (-1)) hx hb dX11_numberAsked_9 (by decide) ?_
  refine lv_icmp_ne (tgt := 24) hx hb dX11_numberAsked_10 (by decide) (fun c_4 => ?_) (fun c_4 => ?_)
  · replace hp := hp.1 c_4
    refine lv_iload_n hx hb dX11_numberAsked_24 rfl (lv_at hl 0 rfl) ?_
    refine W.widen (k := 1) (n := 6) (by decide) (by decide) ?_
    refine vx_ret ?_
    exact w_iret hx hb hr hlocks hW ⟨hE, hp⟩ dX11_numberAsked_25
  · replace hp := hp.2 c_4
    exact x_throwW (ls := ls) F hK hW hl0 (by decide) (hwg _ wc_RX11_372) (hwg _ wi_java_util_NoSuchElementException) (show ("OpeningsCabinet", 519, "the shelf 0 is empty", 46) ∈ wStr by decide +kernel) (wa_RX11_376 hwg hK.2.1) wa_RX11_376_ok hl.1 hexc hlocks dX11_numberAsked_13 dX11_numberAsked_16 dX11_numberAsked_17 dX11_numberAsked_20 dX11_numberAsked_23 (Nat.le_of_ble_eq_true rfl) (Nat.le_of_ble_eq_true rfl) (Nat.le_of_ble_eq_true rfl) (Nat.le_of_ble_eq_true rfl) (by decide) (by decide) ⟨hE, hp⟩
set_option maxHeartbeats 4000000 in
set_option maxRecDepth 100000 in
theorem c_X11_numberAsked (l : Launch) {D : wD} {cy : Nat → ClassId} {X : va_W} {S0 : wS} {post : Int32 → wS → Prop} {xp : String → wS → Prop} (hl0 : l.stackTraces = false) {a0 : Nat} (hL_a0 : wM D S0 a0) (hK_a0 : sK S0 a0 = 16) (hp : wp_X11_numberAsked D post xp S0 a0) : xI D cy X l yX11_numberAsked wz_X11_numberAsked r_X11_numberAsked [.ref a0] S0 (fun r S9 => wX D S0 S9 ∧ post r S9) (fun E S9 => wX D S0 S9 ∧ xp E S9) := by
  intro sz
  refine vx_ofW (cc := cX11_numberAsked) (maxL := 2) (ret := (some .int)) (by decide) rfl ?_
  intro p e s m args below meth c s₁ B hml hexc hv
  obtain ⟨rfl, hsz, hP, hK, hD0, hRO⟩ := hv
  have hts := atoms_spec (ws := wz_X11_numberAsked) B.pre
  have hown : s.vm.findClass RX11 = some m.cls := findClass_of_methodNamed B.named
  subst hsz
  have hD := hD0.self (sz := s.heap.size)
  have F : CallFix p m c cX11_numberAsked 2 s _ wz_X11_numberAsked RX11 := ⟨B.exec, B.bytes, hml, hown, hts⟩
  have hr := B.returns
  have hlocks := B.notSynchronized
  generalize hAe : va_A (wL cy X S0) s.heap.size = A at hD hK ⊢
  have hA : ∀ q, s.heap.size ≤ q → A q := fun q h => by rw [← hAe]; exact Or.inr h
  have hW : wO D cy X A s.heap S0 s.heap [] := ⟨hP, hD, va_S.rf, hA, hRO⟩
  have hl := lv_entry ([.ref a0]) (n := 2) (Nat.le_of_ble_eq_true rfl)
  rw [lg_entry_eq]
  generalize (lg_sl ([.ref a0]) ++ List.replicate (2 - (lg_sl ([.ref a0])).length) Slot.unset).toArray = ls at hl ⊢
  have hl : lv_has ls 2 [(0, .ref a0)] := hl
  unfold wp_X11_numberAsked at hp
  exact t_X11_numberAsked_0 F hr hlocks hK hl0 hexc hp hW wX.rf (lv_sub hl [0] rfl) hL_a0 hK_a0
def wp_X11_answer_47 (D : wD) (post : Int32 → wS → Prop) (xp : String → wS → Prop)  (S : wS) (a0 : Nat) (a2 : Nat) (b0 : Nat) (t1 : Int32) : Prop :=
∀ S_1 : wS, S_1 = uI S b0 7 t1 →
∀ S_2 : wS, S_2 = uI S_1 a2 8 ((sI S_1 a0 17) + ((1 : Int32) <<< ((sI S_1 a2 7) &&& 31))) →
post (sI S_2 a2 7) S_2
def wp_X11_answer_0 (D : wD) (post : Int32 → wS → Prop) (xp : String → wS → Prop)  (S : wS) (a0 : Nat) (x1 : Int32) : Prop :=
∃ y_1 : Nat, sR S a0 8 = some y_1 ∧ wM D S y_1 ∧ sK S y_1 = 15 ∧
wp_X11_numberAsked D (fun r_2 S_3 => 
wp_X10_gameAt D (fun r_4 S_5 => 
((r_4 = none → post (0 : Int32) S_5) ∧
 (∀ y_6 : Nat, r_4 = some y_6 → wM D S_5 y_6 ∧ sK S_5 y_6 = 8 ∧ ∀ S_8 : wS, S_8 = uI S_5 a0 17 ((sI S_5 a0 17) + (1 : Int32)) →
((x1 = 0 → wp_X11_answer_47 D post xp S_8 a0 y_6 y_6 (0 : Int32)) ∧
 (¬ x1 = 0 → wp_X11_answer_47 D post xp S_8 a0 y_6 y_6 (if (4 : Int32) < ((sI S_8 y_6 7) + (1 : Int32)) then (4 : Int32) else ((sI S_8 y_6 7) + (1 : Int32)))))))) S_3 y_1 r_2) xp S a0
abbrev r_X11_answer : Room := { frames := 7, cells := 1, slots := 6, locals := 141 }
def wp_X11_answer (D : wD) (post : Int32 → wS → Prop) (xp : String → wS → Prop) (S : wS) (a0 : Nat) (x1 : Int32) : Prop := wp_X11_answer_0 D post xp S a0 x1
set_option maxHeartbeats 4000000 in
set_option maxRecDepth 100000 in
theorem t_X11_answer_47 {p : Program} {l : Launch} {e : Env} {s : State} {m : MethodId} {args : Array Value} {below : List Frame} {meth : Method} {c : Code} {D : wD} {cy : Nat → ClassId} {X : va_W} {A : Nat → Prop} {S0 : wS} {post : Int32 → wS → Prop} {xp : String → wS → Prop} (F : CallFix p m c cX11_answer 3 s args wz_X11_answer RX11) (hr : meth.sig.returnType = (some .int)) (hlocks : meth.locks = false) (hK : wK D cy A s) (hl0 : l.stackTraces = false) (hexc : ∀ x ∈ c.exceptionTable.toList, False) : ∀ {S : wS} {H : Heap} {locs : List Loc} {ls : Array Slot} {a0 : Nat} {a2 : Nat} {b0 : Nat} {t1 : Int32}, wp_X11_answer_47 D post xp S a0 a2 b0 t1 → wO D cy X A s.heap S H locs → wX D S0 S → lv_has ls 3 [(0, .ref a0), (2, .ref a2)] → wM D S a0 → sK S a0 = 16 → wM D S a2 → sK S a2 = 8 → wM D S b0 → sK S b0 = 8 → W p l e r_X11_answer s m args below meth c H locs 1 6 (vx_MQ below (va_Qi (fun r S9 => wX D S0 S9 ∧ post r S9) (wB D cy X A) A) (wEx D cy X A (fun E S9 => wX D S0 S9 ∧ xp E S9)) args s 1 6 A) (F0 m 47 ls [.int t1, .ref b0]) := by
  obtain ⟨hx, hb, hml, hown, hts⟩ := id F
  have hwg : ∀ w ∈ WG, w.before args s = true := fun w h => hts w (List.mem_cons_of_mem _ h)
  have i_16 : ∀ w ∈ u_ws RX11 TX11 18, w ∈ wz_X11_answer := fun w h => List.mem_cons_of_mem _ (wu_16 w h)
  have i_8 : ∀ w ∈ u_ws RX3 TX3 9, w ∈ wz_X11_answer := fun w h => List.mem_cons_of_mem _ (wu_8 w h)
  have k_120 := hwg _ wf_RX11_120
  intro S H locs ls a0 a2 b0 t1 hp hW hE hl hL_a0 hK_a0 hL_a2 hK_a2 hL_b0 hK_b0
  unfold wp_X11_answer_47 at hp
  refine w_putIN (k := 8) (f := 7) (T := TX3) F hK hW hL_b0 hK_b0 (by decide) (by decide) rfl rfl (by decide) i_8 tyX3 tyX3_ok nmX3 (hK.2.1 (.fieldLinkNest "OpeningsCabinet" 416 "OpeningsCabinet$Game" "box" "I" "OpeningsCabinet") (by decide +kernel)) rfl rfl (ty := .int) rfl rfl rfl dX11_answer_47 (fun H locs hW => ?_)
  obtain ⟨S_1, eS_1⟩ : ∃ z : wS, z = uI S b0 7 t1 := ⟨_, rfl⟩
  rw [← eS_1] at hW
  replace hp := hp S_1 eS_1
  have hX_S_1 : wX D S S_1 := by rw [eS_1]; exact wX_uI
  have hE := hE.trans hX_S_1
  have hK_a0 : sK S_1 a0 = 16 := (hX_S_1.2 a0 hL_a0).1.trans hK_a0
  have hL_a0 : wM D S_1 a0 := hX_S_1.M hL_a0
  have hK_a2 : sK S_1 a2 = 8 := (hX_S_1.2 a2 hL_a2).1.trans hK_a2
  have hL_a2 : wM D S_1 a2 := hX_S_1.M hL_a2
  refine lv_aload_n hx hb dX11_answer_50 rfl (lv_at hl 1 rfl) ?_
  refine lv_aload_n hx hb dX11_answer_51 rfl (lv_at hl 0 rfl) ?_
  refine w_get (k := 16) (f := 17) (T := TX11) (v := .int (sI S_1 a0 17)) F hK hW hL_a0 hK_a0 (by decide) rfl rfl (by decide) i_16 k_120 rfl dX11_answer_52 ?_
  refine lv_iconst (v := 1) hx hb dX11_answer_55 (by decide) ?_
  refine lv_aload_n hx hb dX11_answer_56 rfl (lv_at hl 1 rfl) ?_
  refine w_getN (k := 8) (f := 7) (T := TX3) (v := .int (sI S_1 a2 7)) F hK hW hL_a2 hK_a2 (by decide) rfl rfl (by decide) i_8 (hK.2.1 (.fieldLinkNest "OpeningsCabinet" 416 "OpeningsCabinet$Game" "box" "I" "OpeningsCabinet") (by decide +kernel)) rfl dX11_answer_57 ?_
  refine lv_ishl hx hb dX11_answer_60 ?_
  refine lv_iadd hx hb dX11_answer_61 ?_
  refine w_putIN (k := 8) (f := 8) (T := TX3) F hK hW hL_a2 hK_a2 (by decide) (by decide) rfl rfl (by decide) i_8 tyX3 tyX3_ok nmX3 (hK.2.1 (.fieldLinkNest "OpeningsCabinet" 419 "OpeningsCabinet$Game" "due" "I" "OpeningsCabinet") (by decide +kernel)) rfl rfl (ty := .int) rfl rfl rfl dX11_answer_62 (fun H locs hW => ?_)
  obtain ⟨S_2, eS_2⟩ : ∃ z : wS, z = uI S_1 a2 8 ((sI S_1 a0 17) + ((1 : Int32) <<< ((sI S_1 a2 7) &&& 31))) := ⟨_, rfl⟩
  rw [← eS_2] at hW
  replace hp := hp S_2 eS_2
  have hX_S_2 : wX D S_1 S_2 := by rw [eS_2]; exact wX_uI
  have hE := hE.trans hX_S_2
  have hK_a0 : sK S_2 a0 = 16 := (hX_S_2.2 a0 hL_a0).1.trans hK_a0
  have hL_a0 : wM D S_2 a0 := hX_S_2.M hL_a0
  have hK_a2 : sK S_2 a2 = 8 := (hX_S_2.2 a2 hL_a2).1.trans hK_a2
  have hL_a2 : wM D S_2 a2 := hX_S_2.M hL_a2
  refine lv_aload_n hx hb dX11_answer_65 rfl (lv_at hl 1 rfl) ?_
  refine w_getN (k := 8) (f := 7) (T := TX3) (v := .int (sI S_2 a2 7)) F hK hW hL_a2 hK_a2 (by decide) rfl rfl (by decide) i_8 (hK.2.1 (.fieldLinkNest "OpeningsCabinet" 416 "OpeningsCabinet$Game" "box" "I" "OpeningsCabinet") (by decide +kernel)) rfl dX11_answer_66 ?_
  refine vx_ret ?_
  exact w_iret hx hb hr hlocks hW ⟨hE, hp⟩ dX11_answer_69
set_option maxHeartbeats 4000000 in
set_option maxRecDepth 100000 in
theorem t_X11_answer_0 {p : Program} {l : Launch} {e : Env} {s : State} {m : MethodId} {args : Array Value} {below : List Frame} {meth : Method} {c : Code} {D : wD} {cy : Nat → ClassId} {X : va_W} {A : Nat → Prop} {S0 : wS} {post : Int32 → wS → Prop} {xp : String → wS → Prop} (F : CallFix p m c cX11_answer 3 s args wz_X11_answer RX11) (hr : meth.sig.returnType = (some .int)) (hlocks : meth.locks = false) (hK : wK D cy A s) (hl0 : l.stackTraces = false) (hexc : ∀ x ∈ c.exceptionTable.toList, False) : ∀ {S : wS} {H : Heap} {locs : List Loc} {ls : Array Slot} {a0 : Nat} {x1 : Int32}, wp_X11_answer_0 D post xp S a0 x1 → wO D cy X A s.heap S H locs → wX D S0 S → lv_has ls 3 [(0, .ref a0), (1, .int x1)] → wM D S a0 → sK S a0 = 16 → W p l e r_X11_answer s m args below meth c H locs 0 0 (vx_MQ below (va_Qi (fun r S9 => wX D S0 S9 ∧ post r S9) (wB D cy X A) A) (wEx D cy X A (fun E S9 => wX D S0 S9 ∧ xp E S9)) args s 1 6 A) (F0 m 0 ls []) := by
  obtain ⟨hx, hb, hml, hown, hts⟩ := id F
  have hwg : ∀ w ∈ WG, w.before args s = true := fun w h => hts w (List.mem_cons_of_mem _ h)
  have i_16 : ∀ w ∈ u_ws RX11 TX11 18, w ∈ wz_X11_answer := fun w h => List.mem_cons_of_mem _ (wu_16 w h)
  have i_8 : ∀ w ∈ u_ws RX3 TX3 9, w ∈ wz_X11_answer := fun w h => List.mem_cons_of_mem _ (wu_8 w h)
  have k_120 := hwg _ wf_RX11_120
  have k_72 := hwg _ wf_RX11_72
  intro S H locs ls a0 x1 hp hW hE hl hL_a0 hK_a0
  unfold wp_X11_answer_0 at hp
  refine lv_aload_n hx hb dX11_answer_0 rfl (lv_at hl 0 rfl) ?_
  obtain ⟨y_1, ey_1, hL_y_1, hK_y_1, hp⟩ := hp
  refine w_get (k := 16) (f := 8) (T := TX11) (v := .ref y_1) F hK hW hL_a0 hK_a0 (by decide) rfl rfl (by decide) i_16 k_72 (by rw [show wv 16 8 S a0 = va_rf (sR S a0 8) from rfl, ey_1]; rfl) dX11_answer_1 ?_
  refine lv_aload_n hx hb dX11_answer_4 rfl (lv_at hl 0 rfl) ?_
  refine x_callI (vx_runV (As := []) (rest := [.ref y_1]) F (c_X11_numberAsked l hl0 hL_a0 hK_a0 hp H.size) (cwV (C := RX11) 0 hts (wg_V wm_RX11_474 wy_X11_numberAsked) rfl rfl rfl (by decide +kernel) ⟨Nat.le_of_ble_eq_true rfl, Nat.le_of_ble_eq_true rfl⟩) (w_preV hK hW hL_a0 hK_a0 (by decide) rfl) rfl rfl hl.1 rfl (lv_room (Nat.le_of_ble_eq_true rfl)) dX11_answer_5 ⟨Nat.le_of_ble_eq_true rfl, Nat.le_of_ble_eq_true rfl⟩) hW (fun E ce q9 S9 H locs hp hW h1 h2 h3 => x_out hexc hlocks ⟨hE.trans hp.1, hp.2⟩ hW h1 h2 h3 (by decide) (by decide)) (fun r_2 S_3 H locs hp hW => ?_)
  obtain ⟨hX_S_3, hp⟩ := hp
  refine W.widen (k := 1) (n := 6) (by decide) (by decide) ?_
  have hE := hE.trans hX_S_3
  have hK_a0 : sK S_3 a0 = 16 := (hX_S_3.2 a0 hL_a0).1.trans hK_a0
  have hL_a0 : wM D S_3 a0 := hX_S_3.M hL_a0
  have hK_y_1 : sK S_3 y_1 = 15 := (hX_S_3.2 y_1 hL_y_1).1.trans hK_y_1
  have hL_y_1 : wM D S_3 y_1 := hX_S_3.M hL_y_1
  refine w_callR (va_runV (As := [.int r_2]) (rest := []) F (c_X10_gameAt l hL_y_1 hK_y_1 hp H.size) (cwV (C := RX10) 1 hts (wg_V wm_RX11_408 wy_X10_gameAt) rfl rfl rfl (by decide +kernel) ⟨Nat.le_of_ble_eq_true rfl, Nat.le_of_ble_eq_true rfl⟩) (w_preV hK hW hL_y_1 hK_y_1 (by decide) rfl) rfl rfl hl.1 rfl (lv_room (Nat.le_of_ble_eq_true rfl)) dX11_answer_8 ⟨Nat.le_of_ble_eq_true rfl, Nat.le_of_ble_eq_true rfl⟩) hW (fun r_4 S_5 H locs hp hW => ?_)
  obtain ⟨hX_S_5, hp⟩ := hp
  refine W.widen (k := 1) (n := 6) (by decide) (by decide) ?_
  have hE := hE.trans hX_S_5
  have hK_a0 : sK S_5 a0 = 16 := (hX_S_5.2 a0 hL_a0).1.trans hK_a0
  have hL_a0 : wM D S_5 a0 := hX_S_5.M hL_a0
  refine w_astore_n (lv' := [(2, va_rf r_4), (0, .ref a0), (1, .int x1)]) hx hb dX11_answer_11 rfl hl (by decide) rfl (fun ls hl => ?_)
  refine w_aload_n hx hb dX11_answer_12 rfl (lv_at hl 0 rfl) ?_
  refine w_ifnonnull (tgt := 18) hx hb dX11_answer_13 (by decide) (fun h_7 => ?_) (fun y_6 h_7 => ?_)
  · replace hp := hp.1 h_7
    subst h_7
    refine lv_iconst (v := 0) hx hb dX11_answer_16 (by decide) ?_
    refine vx_ret ?_
    exact w_iret hx hb hr hlocks hW ⟨hE, hp⟩ dX11_answer_17
  · obtain ⟨hL_y_6, hK_y_6, hp⟩ := hp.2 y_6 h_7
    subst h_7
    refine lv_aload_n hx hb dX11_answer_18 rfl (lv_at hl 1 rfl) ?_
    refine lv_dup hx hb dX11_answer_19 rfl ?_
    refine w_get (k := 16) (f := 17) (T := TX11) (v := .int (sI S_5 a0 17)) F hK hW hL_a0 hK_a0 (by decide) rfl rfl (by decide) i_16 k_120 rfl dX11_answer_20 ?_
    refine lv_iconst (v := 1) hx hb dX11_answer_23 (by decide) ?_
    refine lv_iadd hx hb dX11_answer_24 ?_
    refine w_putI (k := 16) (f := 17) (T := TX11) F hK hW hL_a0 hK_a0 (by decide) (by decide) rfl rfl (by decide) i_16 tyX11 tyX11_ok nmX11 k_120 rfl rfl (ty := .int) rfl rfl rfl dX11_answer_25 (fun H locs hW => ?_)
    obtain ⟨S_8, eS_8⟩ : ∃ z : wS, z = uI S_5 a0 17 ((sI S_5 a0 17) + (1 : Int32)) := ⟨_, rfl⟩
    rw [← eS_8] at hW
    replace hp := hp S_8 eS_8
    have hX_S_8 : wX D S_5 S_8 := by rw [eS_8]; exact wX_uI
    have hE := hE.trans hX_S_8
    have hK_a0 : sK S_8 a0 = 16 := (hX_S_8.2 a0 hL_a0).1.trans hK_a0
    have hL_a0 : wM D S_8 a0 := hX_S_8.M hL_a0
    have hK_y_6 : sK S_8 y_6 = 8 := (hX_S_8.2 y_6 hL_y_6).1.trans hK_y_6
    have hL_y_6 : wM D S_8 y_6 := hX_S_8.M hL_y_6
    refine lv_aload_n hx hb dX11_answer_28 rfl (lv_at hl 0 rfl) ?_
    refine lv_iload_n hx hb dX11_answer_29 rfl (lv_at hl 2 rfl) ?_
    refine lv_if_eq (tgt := 46) hx hb dX11_answer_30 (by decide) (fun c_9 => ?_) (fun c_9 => ?_)
    · replace hp := hp.1 c_9
      refine lv_iconst (v := 0) hx hb dX11_answer_46 (by decide) ?_
      exact t_X11_answer_47 F hr hlocks hK hl0 hexc hp hW hE (lv_sub hl [1, 0] rfl) hL_a0 hK_a0 hL_y_6 hK_y_6 hL_y_6 hK_y_6
    · replace hp := hp.2 c_9
      refine lv_aload_n hx hb dX11_answer_33 rfl (lv_at hl 0 rfl) ?_
      refine w_getN (k := 8) (f := 7) (T := TX3) (v := .int (sI S_8 y_6 7)) F hK hW hL_y_6 hK_y_6 (by decide) rfl rfl (by decide) i_8 (hK.2.1 (.fieldLinkNest "OpeningsCabinet" 416 "OpeningsCabinet$Game" "box" "I" "OpeningsCabinet") (by decide +kernel)) rfl dX11_answer_34 ?_
      refine lv_iconst (v := 1) hx hb dX11_answer_37 (by decide) ?_
      refine lv_iadd hx hb dX11_answer_38 ?_
      refine lv_iconst (v := 4) hx hb dX11_answer_39 (by decide) ?_
      refine va_mmin hx hb (hml.trans hl.1.symm) hown (hwg _ wm_RX11_477) (hwg _ wmm_min.1) (hwg _ wmm_min.2.1) (hwg _ wmm_min.2.2) (Nat.le_of_ble_eq_true rfl) (Nat.le_of_ble_eq_true rfl) (Nat.le_of_ble_eq_true rfl) (Nat.le_of_ble_eq_true rfl) dX11_answer_40 ?_
      refine lv_goto (tgt := 47) hx hb dX11_answer_43 (by decide) ?_
      exact t_X11_answer_47 F hr hlocks hK hl0 hexc hp hW hE (lv_sub hl [1, 0] rfl) hL_a0 hK_a0 hL_y_6 hK_y_6 hL_y_6 hK_y_6
set_option maxHeartbeats 4000000 in
set_option maxRecDepth 100000 in
theorem c_X11_answer (l : Launch) {D : wD} {cy : Nat → ClassId} {X : va_W} {S0 : wS} {post : Int32 → wS → Prop} {xp : String → wS → Prop} (hl0 : l.stackTraces = false) {a0 : Nat} {x1 : Int32} (hL_a0 : wM D S0 a0) (hK_a0 : sK S0 a0 = 16) (hp : wp_X11_answer D post xp S0 a0 x1) : xI D cy X l yX11_answer wz_X11_answer r_X11_answer [.ref a0, .int x1] S0 (fun r S9 => wX D S0 S9 ∧ post r S9) (fun E S9 => wX D S0 S9 ∧ xp E S9) := by
  intro sz
  refine vx_ofW (cc := cX11_answer) (maxL := 3) (ret := (some .int)) (by decide) rfl ?_
  intro p e s m args below meth c s₁ B hml hexc hv
  obtain ⟨rfl, hsz, hP, hK, hD0, hRO⟩ := hv
  have hts := atoms_spec (ws := wz_X11_answer) B.pre
  have hown : s.vm.findClass RX11 = some m.cls := findClass_of_methodNamed B.named
  subst hsz
  have hD := hD0.self (sz := s.heap.size)
  have F : CallFix p m c cX11_answer 3 s _ wz_X11_answer RX11 := ⟨B.exec, B.bytes, hml, hown, hts⟩
  have hr := B.returns
  have hlocks := B.notSynchronized
  generalize hAe : va_A (wL cy X S0) s.heap.size = A at hD hK ⊢
  have hA : ∀ q, s.heap.size ≤ q → A q := fun q h => by rw [← hAe]; exact Or.inr h
  have hW : wO D cy X A s.heap S0 s.heap [] := ⟨hP, hD, va_S.rf, hA, hRO⟩
  have hl := lv_entry ([.ref a0, .int x1]) (n := 3) (Nat.le_of_ble_eq_true rfl)
  rw [lg_entry_eq]
  generalize (lg_sl ([.ref a0, .int x1]) ++ List.replicate (3 - (lg_sl ([.ref a0, .int x1])).length) Slot.unset).toArray = ls at hl ⊢
  have hl : lv_has ls 3 [(0, .ref a0), (1, .int x1)] := hl
  unfold wp_X11_answer at hp
  exact t_X11_answer_0 F hr hlocks hK hl0 hexc hp hW wX.rf (lv_sub hl [0, 1] rfl) hL_a0 hK_a0
def wp_X11_asked_0 (D : wD) (post : Int32 → wS → Prop) (xp : String → wS → Prop)  (S : wS) (a0 : Nat) : Prop :=
wp_X11_numberAsked D (fun r_1 S_2 => 
post r_1 S_2) xp S a0
abbrev r_X11_asked : Room := { frames := 7, cells := 1, slots := 6, locals := 141 }
def wp_X11_asked (D : wD) (post : Int32 → wS → Prop) (xp : String → wS → Prop) (S : wS) (a0 : Nat) : Prop := wp_X11_asked_0 D post xp S a0
set_option maxHeartbeats 4000000 in
set_option maxRecDepth 100000 in
theorem t_X11_asked_0 {p : Program} {l : Launch} {e : Env} {s : State} {m : MethodId} {args : Array Value} {below : List Frame} {meth : Method} {c : Code} {D : wD} {cy : Nat → ClassId} {X : va_W} {A : Nat → Prop} {S0 : wS} {post : Int32 → wS → Prop} {xp : String → wS → Prop} (F : CallFix p m c cX11_asked 1 s args wz_X11_asked RX11) (hr : meth.sig.returnType = (some .int)) (hlocks : meth.locks = false) (hK : wK D cy A s) (hl0 : l.stackTraces = false) (hexc : ∀ x ∈ c.exceptionTable.toList, False) : ∀ {S : wS} {H : Heap} {locs : List Loc} {ls : Array Slot} {a0 : Nat}, wp_X11_asked_0 D post xp S a0 → wO D cy X A s.heap S H locs → wX D S0 S → lv_has ls 1 [(0, .ref a0)] → wM D S a0 → sK S a0 = 16 → W p l e r_X11_asked s m args below meth c H locs 0 0 (vx_MQ below (va_Qi (fun r S9 => wX D S0 S9 ∧ post r S9) (wB D cy X A) A) (wEx D cy X A (fun E S9 => wX D S0 S9 ∧ xp E S9)) args s 1 6 A) (F0 m 0 ls []) := by
  obtain ⟨hx, hb, hml, hown, hts⟩ := id F
  have hwg : ∀ w ∈ WG, w.before args s = true := fun w h => hts w (List.mem_cons_of_mem _ h)
  intro S H locs ls a0 hp hW hE hl hL_a0 hK_a0
  unfold wp_X11_asked_0 at hp
  refine lv_aload_n hx hb dX11_asked_0 rfl (lv_at hl 0 rfl) ?_
  refine x_callI (vx_runV (As := []) (rest := []) F (c_X11_numberAsked l hl0 hL_a0 hK_a0 hp H.size) (cwV (C := RX11) 0 hts (wg_V wm_RX11_474 wy_X11_numberAsked) rfl rfl rfl (by decide +kernel) ⟨Nat.le_of_ble_eq_true rfl, Nat.le_of_ble_eq_true rfl⟩) (w_preV hK hW hL_a0 hK_a0 (by decide) rfl) rfl rfl hl.1 rfl (lv_room (Nat.le_of_ble_eq_true rfl)) dX11_asked_1 ⟨Nat.le_of_ble_eq_true rfl, Nat.le_of_ble_eq_true rfl⟩) hW (fun E ce q9 S9 H locs hp hW h1 h2 h3 => x_out hexc hlocks ⟨hE.trans hp.1, hp.2⟩ hW h1 h2 h3 (by decide) (by decide)) (fun r_1 S_2 H locs hp hW => ?_)
  obtain ⟨hX_S_2, hp⟩ := hp
  refine W.widen (k := 1) (n := 6) (by decide) (by decide) ?_
  have hE := hE.trans hX_S_2
  have hK_a0 : sK S_2 a0 = 16 := (hX_S_2.2 a0 hL_a0).1.trans hK_a0
  have hL_a0 : wM D S_2 a0 := hX_S_2.M hL_a0
  refine vx_ret ?_
  exact w_iret hx hb hr hlocks hW ⟨hE, hp⟩ dX11_asked_4
set_option maxHeartbeats 4000000 in
set_option maxRecDepth 100000 in
theorem c_X11_asked (l : Launch) {D : wD} {cy : Nat → ClassId} {X : va_W} {S0 : wS} {post : Int32 → wS → Prop} {xp : String → wS → Prop} (hl0 : l.stackTraces = false) {a0 : Nat} (hL_a0 : wM D S0 a0) (hK_a0 : sK S0 a0 = 16) (hp : wp_X11_asked D post xp S0 a0) : xI D cy X l yX11_asked wz_X11_asked r_X11_asked [.ref a0] S0 (fun r S9 => wX D S0 S9 ∧ post r S9) (fun E S9 => wX D S0 S9 ∧ xp E S9) := by
  intro sz
  refine vx_ofW (cc := cX11_asked) (maxL := 1) (ret := (some .int)) (by decide) rfl ?_
  intro p e s m args below meth c s₁ B hml hexc hv
  obtain ⟨rfl, hsz, hP, hK, hD0, hRO⟩ := hv
  have hts := atoms_spec (ws := wz_X11_asked) B.pre
  have hown : s.vm.findClass RX11 = some m.cls := findClass_of_methodNamed B.named
  subst hsz
  have hD := hD0.self (sz := s.heap.size)
  have F : CallFix p m c cX11_asked 1 s _ wz_X11_asked RX11 := ⟨B.exec, B.bytes, hml, hown, hts⟩
  have hr := B.returns
  have hlocks := B.notSynchronized
  generalize hAe : va_A (wL cy X S0) s.heap.size = A at hD hK ⊢
  have hA : ∀ q, s.heap.size ≤ q → A q := fun q h => by rw [← hAe]; exact Or.inr h
  have hW : wO D cy X A s.heap S0 s.heap [] := ⟨hP, hD, va_S.rf, hA, hRO⟩
  have hl := lv_entry ([.ref a0]) (n := 1) (Nat.le_of_ble_eq_true rfl)
  rw [lg_entry_eq]
  generalize (lg_sl ([.ref a0]) ++ List.replicate (1 - (lg_sl ([.ref a0])).length) Slot.unset).toArray = ls at hl ⊢
  have hl : lv_has ls 1 [(0, .ref a0)] := hl
  unfold wp_X11_asked at hp
  exact t_X11_asked_0 F hr hlocks hK hl0 hexc hp hW wX.rf (lv_sub hl [0] rfl) hL_a0 hK_a0
def wp_X11_clearText_0 (D : wD) (post : Int32 → wS → Prop)  (bc bs : Nat) (S : wS) (a0 : Nat) : Prop :=
∃ y_1 : Nat, sR S a0 13 = some y_1 ∧ wM D S y_1 ∧ sK S y_1 = 1 ∧
wp_J4_length_8abf5 D (fun r_2 S_3 => 
∃ y_4 : Nat, sR S_3 a0 13 = some y_4 ∧ wM D S_3 y_4 ∧ sK S_3 y_4 = 1 ∧
∃ m_7 z_8 : Nat, m_7 ≤ bc ∧ z_8 ≤ bs ∧
wp_J4_setLength_d00df D (fun S_6 => 
post r_2 S_6) m_7 z_8 S_3 y_4 (0 : Int32)) S y_1
abbrev r_X11_clearText (rC rS : Nat) : Room := { frames := 16, cells := rC, slots := rS, locals := 354 }
def wp_X11_clearText (D : wD) (post : Int32 → wS → Prop) (bc bs : Nat) (S : wS) (a0 : Nat) : Prop := wp_X11_clearText_0 D post bc bs S a0
set_option maxHeartbeats 4000000 in
set_option maxRecDepth 100000 in
theorem t_X11_clearText_0 {p : Program} {l : Launch} {e : Env} {s : State} {m : MethodId} {args : Array Value} {below : List Frame} {meth : Method} {c : Code} {D : wD} {cy : Nat → ClassId} {X : va_W} {A : Nat → Prop} {S0 : wS} {rC rS : Nat} {post : Int32 → wS → Prop} (F : CallFix p m c cX11_clearText 2 s args wz_X11_clearText RX11) (hr : meth.sig.returnType = (some .int)) (hlocks : meth.locks = false) (hK : wK D cy A s) : ∀ {bc bs cells slots : Nat} (hbc : cells + bc ≤ rC) (hbs : slots + bs ≤ rS) {S : wS} {H : Heap} {locs : List Loc} {ls : Array Slot} {a0 : Nat}, wp_X11_clearText_0 D post bc bs S a0 → wO D cy X A s.heap S H locs → wX D S0 S → lv_has ls 2 [(0, .ref a0)] → wM D S a0 → sK S a0 = 16 → W p l e (r_X11_clearText rC rS) s m args below meth c H locs cells slots (MQ below (va_Qi (fun r S9 => wX D S0 S9 ∧ post r S9) (wB D cy X A) A) args s rC rS A) (F0 m 0 ls []) := by
  obtain ⟨hx, hb, hml, hown, hts⟩ := id F
  have hwg : ∀ w ∈ WG, w.before args s = true := fun w h => hts w (List.mem_cons_of_mem _ h)
  have i_16 : ∀ w ∈ u_ws RX11 TX11 18, w ∈ wz_X11_clearText := fun w h => List.mem_cons_of_mem _ (wu_16 w h)
  have k_105 := hwg _ wf_RX11_105
  intro bc bs cells slots hbc hbs S H locs ls a0 hp hW hE hl hL_a0 hK_a0
  unfold wp_X11_clearText_0 at hp
  refine lv_aload_n hx hb dX11_clearText_0 rfl (lv_at hl 0 rfl) ?_
  obtain ⟨y_1, ey_1, hL_y_1, hK_y_1, hp⟩ := hp
  refine w_get (k := 16) (f := 13) (T := TX11) (v := .ref y_1) F hK hW hL_a0 hK_a0 (by decide) rfl rfl (by decide) i_16 k_105 (by rw [show wv 16 13 S a0 = va_rf (sR S a0 13) from rfl, ey_1]; rfl) dX11_clearText_1 ?_
  refine w_callI (va_runV (As := []) (rest := []) F (c_J4_length_8abf5 l hL_y_1 hK_y_1 hp H.size) (cwV (C := RJ4) 0 hts (wg_V wm_RX11_232 wy_J4_length_8abf5) rfl rfl rfl (by decide +kernel) ⟨Nat.le_of_ble_eq_true rfl, Nat.le_of_ble_eq_true rfl⟩) (w_preV hK hW hL_y_1 hK_y_1 (by decide) rfl) rfl rfl hl.1 rfl (lv_room (Nat.le_of_ble_eq_true rfl)) dX11_clearText_4 ⟨by show _ ≤ rC; exact Nat.le_trans (Nat.le_add_right _ _) hbc, by show _ ≤ rS; exact Nat.le_trans (Nat.le_add_right _ _) hbs⟩) hW (fun r_2 S_3 H locs hp hW => ?_)
  obtain ⟨hX_S_3, hp⟩ := hp
  refine w_same ?_
  have hE := hE.trans hX_S_3
  have hK_a0 : sK S_3 a0 = 16 := (hX_S_3.2 a0 hL_a0).1.trans hK_a0
  have hL_a0 : wM D S_3 a0 := hX_S_3.M hL_a0
  refine lv_istore_n (lv' := [(1, .int r_2), (0, .ref a0)]) hx hb dX11_clearText_7 rfl hl (by decide) rfl (fun ls hl => ?_)
  refine lv_aload_n hx hb dX11_clearText_8 rfl (lv_at hl 1 rfl) ?_
  obtain ⟨y_4, ey_4, hL_y_4, hK_y_4, hp⟩ := hp
  refine w_get (k := 16) (f := 13) (T := TX11) (v := .ref y_4) F hK hW hL_a0 hK_a0 (by decide) rfl rfl (by decide) i_16 k_105 (by rw [show wv 16 13 S_3 a0 = va_rf (sR S_3 a0 13) from rfl, ey_4]; rfl) dX11_clearText_9 ?_
  refine lv_iconst (v := 0) hx hb dX11_clearText_12 (by decide) ?_
  obtain ⟨m_7, z_8, hm_7, hz_8, hp⟩ := hp
  refine w_callV (va_runV (As := [.int (0 : Int32)]) (rest := []) F (c_J4_setLength_d00df l hL_y_4 hK_y_4 hp H.size) (cwV (C := RJ4) 1 hts (wg_V wm_RX11_191 wy_J4_setLength_d00df) rfl rfl rfl (by decide +kernel) ⟨Nat.le_of_ble_eq_true rfl, Nat.le_of_ble_eq_true rfl⟩) (w_preV hK hW hL_y_4 hK_y_4 (by decide) rfl) rfl rfl hl.1 rfl (lv_room (Nat.le_of_ble_eq_true rfl)) dX11_clearText_13 ⟨by show _ + m_7 ≤ rC; omega, by show _ + z_8 ≤ rS; omega⟩) hW (fun S_6 H locs hp hW => ?_)
  obtain ⟨hX_S_6, hp⟩ := hp
  refine W.widen (k := _ + m_7) (n := _ + z_8) (Nat.le_refl _) (Nat.le_refl _) ?_
  replace hbc := w_spend hbc (show m_7 ≤ bc by omega)
  replace hbs := w_spend hbs (show z_8 ≤ bs by omega)
  have hE := hE.trans hX_S_6
  have hK_a0 : sK S_6 a0 = 16 := (hX_S_6.2 a0 hL_a0).1.trans hK_a0
  have hL_a0 : wM D S_6 a0 := hX_S_6.M hL_a0
  refine lv_iload_n hx hb dX11_clearText_16 rfl (lv_at hl 0 rfl) ?_
  refine W.widen (k := rC) (n := rS) (Nat.le_trans (Nat.le_add_right _ _) hbc) (Nat.le_trans (Nat.le_add_right _ _) hbs) ?_
  exact w_iret hx hb hr hlocks hW ⟨hE, hp⟩ dX11_clearText_17
set_option maxHeartbeats 4000000 in
set_option maxRecDepth 100000 in
theorem c_X11_clearText (l : Launch) {rC rS : Nat} {D : wD} {cy : Nat → ClassId} {X : va_W} {S0 : wS} {post : Int32 → wS → Prop} {a0 : Nat} (hL_a0 : wM D S0 a0) (hK_a0 : sK S0 a0 = 16) (hp : wp_X11_clearText D post rC rS S0 a0) : mI D cy X l yX11_clearText wz_X11_clearText (r_X11_clearText rC rS) [.ref a0] S0 (fun r S9 => wX D S0 S9 ∧ post r S9) := by
  intro sz
  refine Met.ofW (cc := cX11_clearText) (maxL := 2) (ret := (some .int)) (by decide) rfl ?_
  intro p e s m args below meth c s₁ B hml hv
  obtain ⟨rfl, hsz, hP, hK, hD0, hRO⟩ := hv
  have hts := atoms_spec (ws := wz_X11_clearText) B.pre
  have hown : s.vm.findClass RX11 = some m.cls := findClass_of_methodNamed B.named
  subst hsz
  have hD := hD0.self (sz := s.heap.size)
  have F : CallFix p m c cX11_clearText 2 s _ wz_X11_clearText RX11 := ⟨B.exec, B.bytes, hml, hown, hts⟩
  have hr := B.returns
  have hlocks := B.notSynchronized
  generalize hAe : va_A (wL cy X S0) s.heap.size = A at hD hK ⊢
  have hA : ∀ q, s.heap.size ≤ q → A q := fun q h => by rw [← hAe]; exact Or.inr h
  have hW : wO D cy X A s.heap S0 s.heap [] := ⟨hP, hD, va_S.rf, hA, hRO⟩
  have hl := lv_entry ([.ref a0]) (n := 2) (Nat.le_of_ble_eq_true rfl)
  rw [lg_entry_eq]
  generalize (lg_sl ([.ref a0]) ++ List.replicate (2 - (lg_sl ([.ref a0])).length) Slot.unset).toArray = ls at hl ⊢
  have hl : lv_has ls 2 [(0, .ref a0)] := hl
  unfold wp_X11_clearText at hp
  exact t_X11_clearText_0 F hr hlocks hK (Nat.le_of_eq (Nat.zero_add _)) (Nat.le_of_eq (Nat.zero_add _)) hp hW wX.rf (lv_sub hl [0] rfl) hL_a0 hK_a0
def wp_X4_plainWord_238 (D : wD) (post : Int64 → wS → Prop)  (S : wS) (x7 : Int64) : Prop :=
post x7 S
def wp_X4_plainWord_173 (D : wD) (post : Int64 → wS → Prop)  (S : wS) (a0 : Nat) (x2 : Int32) (x4 : Int32) (x7 : Int64) : Prop :=
wp_X4_fileName D (fun r_1 S_2 => 
wp_X4_rankName D (fun r_3 S_4 => 
∀ x_5 : Int64, x_5 = (((jlshl x7 (16 : Int32)) ||| (jlshl r_1 (8 : Int32))) ||| r_3) →
wp_X11_becomesOf D (fun r_6 S_7 => 
((r_6 ≤ 0 → wp_X4_plainWord_238 D post S_7 x_5) ∧
 (¬ r_6 ≤ 0 → ∀ y_9 : Nat, y_9 = D.2.2.1 1 →
wp_J0_length_8abf5 D (fun r_10 S_11 => 
((r_10 ≤ r_6 → wp_X4_plainWord_238 D post S_11 x_5) ∧
 (¬ r_10 ≤ r_6 → ∀ y_13 : Nat, y_13 = D.2.2.1 1 →
wp_J0_charAt_5068e D (fun r_14 S_15 => 
∀ x_16 : Int64, x_16 = (((jlshl x_5 (16 : Int32)) ||| (15616 : Int64)) ||| (Int32.toInt64 r_14)) →
wp_X4_plainWord_238 D post S_15 x_16) S_11 y_13 r_6))) S_7 y_9))) S_4 x2) S_2 a0 x4) S a0 x4
def wp_X4_plainWord_157 (D : wD) (post : Int64 → wS → Prop)  (S : wS) (a0 : Nat) (x2 : Int32) (x4 : Int32) (x6 : Int32) (x7 : Int64) : Prop :=
((x6 = 0 → wp_X4_plainWord_173 D post S a0 x2 x4 x7) ∧
 (¬ x6 = 0 → ∀ x_2 : Int64, x_2 = ((jlshl x7 (8 : Int32)) ||| (120 : Int64)) →
wp_X4_plainWord_173 D post S a0 x2 x4 x_2))
def wp_X4_plainWord_125 (D : wD) (post : Int64 → wS → Prop)  (S : wS) (a0 : Nat) (x2 : Int32) (x4 : Int32) (x6 : Int32) (t0 : Int64) : Prop :=
wp_X4_plainWord_157 D post S a0 x2 x4 x6 t0
def wp_X4_plainWord_99 (D : wD) (post : Int64 → wS → Prop)  (S : wS) (a0 : Nat) (x2 : Int32) (x3 : Int32) (x4 : Int32) (x5 : Int32) (t0 : Int32) : Prop :=
((¬ x5 = (6 : Int32) → ∀ y_2 : Nat, y_2 = D.2.2.1 1 →
wp_J0_length_8abf5 D (fun r_3 S_4 => 
((r_3 ≤ x5 → wp_X4_plainWord_157 D post S_4 a0 x2 x4 t0 (0 : Int64)) ∧
 (¬ r_3 ≤ x5 → ∀ y_6 : Nat, y_6 = D.2.2.1 1 →
wp_J0_charAt_5068e D (fun r_7 S_8 => 
wp_X4_withOrigin D (fun r_9 S_10 => 
wp_X4_plainWord_157 D post S_10 a0 x2 x4 t0 r_9) S_8 a0 (Int32.toInt64 r_7) x2 x5) S_4 y_6 x5))) S y_2) ∧
 (x5 = (6 : Int32) → ((t0 = 0 → wp_X4_plainWord_125 D post S a0 x2 x4 t0 (0 : Int64)) ∧
 (¬ t0 = 0 → wp_X4_fileName D (fun r_12 S_13 => 
wp_X4_plainWord_125 D post S_13 a0 x2 x4 t0 r_12) S a0 x3))))
def wp_X4_plainWord_98 (D : wD) (post : Int64 → wS → Prop)  (S : wS) (a0 : Nat) (x2 : Int32) (x3 : Int32) (x4 : Int32) (x5 : Int32) : Prop :=
wp_X4_plainWord_99 D post S a0 x2 x3 x4 x5 (0 : Int32)
def wp_X4_plainWord_94 (D : wD) (post : Int64 → wS → Prop)  (S : wS) (a0 : Nat) (x2 : Int32) (x3 : Int32) (x4 : Int32) (x5 : Int32) : Prop :=
wp_X4_plainWord_99 D post S a0 x2 x3 x4 x5 (1 : Int32)
def wp_X4_plainWord_63 (D : wD) (post : Int64 → wS → Prop)  (S : wS) (a0 : Nat) (x2 : Int32) (x3 : Int32) (x4 : Int32) (x5 : Int32) : Prop :=
∃ y_1 : Nat, sR S a0 2 = some y_1 ∧ wM D S y_1 ∧ sK S y_1 = 12 ∧
wp_X7_kindOn D (fun r_2 S_3 => 
((¬ r_2 = 0 → wp_X4_plainWord_94 D post S_3 a0 x2 x3 x4 x5) ∧
 (r_2 = 0 → ((¬ x5 = (6 : Int32) → wp_X4_plainWord_98 D post S_3 a0 x2 x3 x4 x5) ∧
 (x5 = (6 : Int32) → ∃ y_6 : Nat, sR S_3 a0 2 = some y_6 ∧ wM D S_3 y_6 ∧ sK S_3 y_6 = 12 ∧
((¬ x4 = (sI S_3 y_6 7) → wp_X4_plainWord_98 D post S_3 a0 x2 x3 x4 x5) ∧
 (x4 = (sI S_3 y_6 7) → wp_X4_plainWord_94 D post S_3 a0 x2 x3 x4 x5))))))) S y_1 x4
def wp_X4_plainWord_45 (D : wD) (post : Int64 → wS → Prop)  (S : wS) (a0 : Nat) (x2 : Int32) (x3 : Int32) (x4 : Int32) (x5 : Int32) : Prop :=
((¬ x5 = (1 : Int32) → wp_X4_plainWord_63 D post S a0 x2 x3 x4 x5) ∧
 (x5 = (1 : Int32) → ((¬ (x3 - x4) = (2 : Int32) → wp_X4_plainWord_63 D post S a0 x2 x3 x4 x5) ∧
 ((x3 - x4) = (2 : Int32) → post (340062580047 : Int64) S))))
def wp_X4_plainWord_0 (D : wD) (post : Int64 → wS → Prop)  (S : wS) (a0 : Nat) (x1 : Int32) : Prop :=
wp_X4_codeAt D (fun r_1 S_2 => 
wp_X11_fromOf D (fun r_3 S_4 => 
wp_X11_toOf D (fun r_5 S_6 => 
∃ y_7 : Nat, sR S_6 a0 2 = some y_7 ∧ wM D S_6 y_7 ∧ sK S_6 y_7 = 12 ∧
wp_X7_kindOn D (fun r_8 S_9 => 
((¬ r_8 = (1 : Int32) → wp_X4_plainWord_45 D post S_9 a0 r_1 r_3 r_5 r_8) ∧
 (r_8 = (1 : Int32) → ((¬ (r_5 - r_3) = (2 : Int32) → wp_X4_plainWord_45 D post S_9 a0 r_1 r_3 r_5 r_8) ∧
 ((r_5 - r_3) = (2 : Int32) → post (5188943 : Int64) S_9))))) S_6 y_7 r_3) S_4 r_1) S_2 r_1) S a0 x1
abbrev r_X4_plainWord : Room := { frames := 5, cells := 0, slots := 0, locals := 106 }
def wp_X4_plainWord (D : wD) (post : Int64 → wS → Prop) (S : wS) (a0 : Nat) (x1 : Int32) : Prop := wp_X4_plainWord_0 D post S a0 x1
set_option maxHeartbeats 4000000 in
set_option maxRecDepth 100000 in
theorem t_X4_plainWord_238 {p : Program} {l : Launch} {e : Env} {s : State} {m : MethodId} {args : Array Value} {below : List Frame} {meth : Method} {c : Code} {D : wD} {cy : Nat → ClassId} {X : va_W} {A : Nat → Prop} {S0 : wS} {post : Int64 → wS → Prop} (F : CallFix p m c cX4_plainWord 10 s args wz_X4_plainWord RX4) (hr : meth.sig.returnType = (some .long)) (hlocks : meth.locks = false) (hK : wK D cy A s) : ∀ {S : wS} {H : Heap} {locs : List Loc} {ls : Array Slot} {x7 : Int64}, wp_X4_plainWord_238 D post S x7 → wO D cy X A s.heap S H locs → wX D S0 S → lv_has ls 10 [(7, .long x7)] → W p l e r_X4_plainWord s m args below meth c H locs 0 0 (MQ below (va_Ql (fun r S9 => wX D S0 S9 ∧ post r S9) (wB D cy X A) A) args s 0 0 A) (F0 m 238 ls []) := by
  obtain ⟨hx, hb, hml, hown, hts⟩ := id F
  have hwg : ∀ w ∈ WG, w.before args s = true := fun w h => hts w (List.mem_cons_of_mem _ h)
  intro S H locs ls x7 hp hW hE hl
  unfold wp_X4_plainWord_238 at hp
  refine lv_lload hx hb dX4_plainWord_238 (lv_at hl 0 rfl) ?_
  exact w_lret hx hb hr hlocks hW ⟨hE, hp⟩ dX4_plainWord_240
set_option maxHeartbeats 4000000 in
set_option maxRecDepth 100000 in
theorem t_X4_plainWord_173 {p : Program} {l : Launch} {e : Env} {s : State} {m : MethodId} {args : Array Value} {below : List Frame} {meth : Method} {c : Code} {D : wD} {cy : Nat → ClassId} {X : va_W} {A : Nat → Prop} {S0 : wS} {post : Int64 → wS → Prop} (F : CallFix p m c cX4_plainWord 10 s args wz_X4_plainWord RX4) (hr : meth.sig.returnType = (some .long)) (hlocks : meth.locks = false) (hK : wK D cy A s) : ∀ {S : wS} {H : Heap} {locs : List Loc} {ls : Array Slot} {a0 : Nat} {x2 : Int32} {x4 : Int32} {x7 : Int64}, wp_X4_plainWord_173 D post S a0 x2 x4 x7 → wO D cy X A s.heap S H locs → wX D S0 S → lv_has ls 10 [(0, .ref a0), (2, .int x2), (4, .int x4), (7, .long x7)] → wM D S a0 → sK S a0 = 9 → W p l e r_X4_plainWord s m args below meth c H locs 0 0 (MQ below (va_Ql (fun r S9 => wX D S0 S9 ∧ post r S9) (wB D cy X A) A) args s 0 0 A) (F0 m 173 ls []) := by
  obtain ⟨hx, hb, hml, hown, hts⟩ := id F
  have hwg : ∀ w ∈ WG, w.before args s = true := fun w h => hts w (List.mem_cons_of_mem _ h)
  intro S H locs ls a0 x2 x4 x7 hp hW hE hl hL_a0 hK_a0
  unfold wp_X4_plainWord_173 at hp
  refine lv_lload hx hb dX4_plainWord_173 (lv_at hl 3 rfl) ?_
  refine lv_bipush (v := 16) hx hb dX4_plainWord_175 (by decide) ?_
  refine lv_lshl (v := (jlshl x7 (16 : Int32))) hx hb dX4_plainWord_177 rfl ?_
  refine lv_aload_n hx hb dX4_plainWord_178 rfl (lv_at hl 0 rfl) ?_
  refine lv_iload hx hb dX4_plainWord_179 (lv_at hl 2 rfl) ?_
  refine w_callJ (va_runV (As := [.int x4]) (rest := [.long (jlshl x7 (16 : Int32))]) F (c_X4_fileName l hL_a0 hK_a0 hp H.size) (cwV (C := RX4) 1 hts (wg_V wm_RX4_84 wy_X4_fileName) rfl rfl rfl (by decide +kernel) ⟨Nat.le_of_ble_eq_true rfl, Nat.le_of_ble_eq_true rfl⟩) (w_preV hK hW hL_a0 hK_a0 (by decide) rfl) rfl rfl hl.1 rfl (lv_room (Nat.le_of_ble_eq_true rfl)) dX4_plainWord_181 ⟨Nat.le_of_ble_eq_true rfl, Nat.le_of_ble_eq_true rfl⟩) hW (fun r_1 S_2 H locs hp hW => ?_)
  obtain ⟨hX_S_2, hp⟩ := hp
  refine W.widen (k := 0) (n := 0) (by decide) (by decide) ?_
  have hE := hE.trans hX_S_2
  have hK_a0 : sK S_2 a0 = 9 := (hX_S_2.2 a0 hL_a0).1.trans hK_a0
  have hL_a0 : wM D S_2 a0 := hX_S_2.M hL_a0
  refine lv_bipush (v := 8) hx hb dX4_plainWord_184 (by decide) ?_
  refine lv_lshl (v := (jlshl r_1 (8 : Int32))) hx hb dX4_plainWord_186 rfl ?_
  refine lv_lor hx hb dX4_plainWord_187 ?_
  refine lv_aload_n hx hb dX4_plainWord_188 rfl (lv_at hl 0 rfl) ?_
  refine lv_iload hx hb dX4_plainWord_189 (lv_at hl 2 rfl) ?_
  refine w_callJ (va_runV (As := [.int x4]) (rest := [.long ((jlshl x7 (16 : Int32)) ||| (jlshl r_1 (8 : Int32)))]) F (c_X4_rankName l hL_a0 hK_a0 hp H.size) (cwV (C := RX4) 1 hts (wg_V wm_RX4_105 wy_X4_rankName) rfl rfl rfl (by decide +kernel) ⟨Nat.le_of_ble_eq_true rfl, Nat.le_of_ble_eq_true rfl⟩) (w_preV hK hW hL_a0 hK_a0 (by decide) rfl) rfl rfl hl.1 rfl (lv_room (Nat.le_of_ble_eq_true rfl)) dX4_plainWord_191 ⟨Nat.le_of_ble_eq_true rfl, Nat.le_of_ble_eq_true rfl⟩) hW (fun r_3 S_4 H locs hp hW => ?_)
  obtain ⟨hX_S_4, hp⟩ := hp
  refine W.widen (k := 0) (n := 0) (by decide) (by decide) ?_
  have hE := hE.trans hX_S_4
  have hK_a0 : sK S_4 a0 = 9 := (hX_S_4.2 a0 hL_a0).1.trans hK_a0
  have hL_a0 : wM D S_4 a0 := hX_S_4.M hL_a0
  refine lv_lor hx hb dX4_plainWord_194 ?_
  refine lv_topl (fun x_5 ex_5 => ?_)
  replace hp := hp x_5 ex_5
  refine lv_lstore (lv' := [(7, .long x_5), (0, .ref a0), (2, .int x2), (4, .int x4)]) hx hb dX4_plainWord_195 hl (by decide) rfl (fun ls hl => ?_)
  refine lv_iload_n hx hb dX4_plainWord_197 rfl (lv_at hl 2 rfl) ?_
  refine w_callI (va_runSN (As := [.int x2]) (rest := []) F (c_X11_becomesOf l hp H.size) ⟨va_cnB (host := "OpeningsCabinet") 1 hts (wg_cons wy_X11_becomesOf.2.2) rfl rfl rfl (hK.2.1 (.methodLinkNest "OpeningsCabinet$MoveList" 108 ⟨"OpeningsCabinet", "becomesOf", "(I)I"⟩ "OpeningsCabinet") (by decide +kernel)) (hwg _ wy_X11_becomesOf.2.1) ⟨by decide, by decide, by decide +kernel⟩ ⟨Nat.le_of_ble_eq_true rfl, Nat.le_of_ble_eq_true rfl⟩, hwg _ wy_X11_becomesOf.1, trivial⟩ (w_preS hK hW) rfl rfl hl.1 rfl (lv_room (Nat.le_of_ble_eq_true rfl)) dX4_plainWord_198 ⟨Nat.le_of_ble_eq_true rfl, Nat.le_of_ble_eq_true rfl⟩) hW (fun r_6 S_7 H locs hp hW => ?_)
  obtain ⟨hX_S_7, hp⟩ := hp
  refine W.widen (k := 0) (n := 0) (by decide) (by decide) ?_
  have hE := hE.trans hX_S_7
  have hK_a0 : sK S_7 a0 = 9 := (hX_S_7.2 a0 hL_a0).1.trans hK_a0
  have hL_a0 : wM D S_7 a0 := hX_S_7.M hL_a0
  refine lv_istore (lv' := [(9, .int r_6), (7, .long x_5), (0, .ref a0), (2, .int x2), (4, .int x4)]) hx hb dX4_plainWord_201 hl (by decide) rfl (fun ls hl => ?_)
  refine lv_iload hx hb dX4_plainWord_203 (lv_at hl 0 rfl) ?_
  refine lv_if_le (tgt := 238) hx hb dX4_plainWord_205 (by decide) (fun c_8 => ?_) (fun c_8 => ?_)
  · replace hp := hp.1 c_8
    exact t_X4_plainWord_238 F hr hlocks hK hp hW hE (lv_sub hl [1] rfl)
  · replace hp := hp.2 c_8
    refine lv_iload hx hb dX4_plainWord_208 (lv_at hl 0 rfl) ?_
    refine w_str F hK (show ("OpeningsCabinet$MoveList", 87, " KQRBNPkqrbnp", 1) ∈ wStr by decide +kernel) dX4_plainWord_210 ?_
    obtain ⟨y_9, ey_9⟩ : ∃ z : Nat, z = D.2.2.1 1 := ⟨_, rfl⟩
    rw [← ey_9]
    replace hp := hp y_9 ey_9
    obtain ⟨hL_y_9, hK_y_9⟩ : wM D S_7 y_9 ∧ sK S_7 y_9 = 0 := by rw [ey_9]; exact w_strM hK hW (show ("OpeningsCabinet$MoveList", 87, " KQRBNPkqrbnp", 1) ∈ wStr by decide +kernel)
    refine w_callI (va_runV (As := []) (rest := [.int r_6]) F (c_J0_length_8abf5 l hL_y_9 hK_y_9 hp H.size) (cwV (C := RJ0) 0 hts (wg_V wm_RX4_89 wy_J0_length_8abf5) rfl rfl rfl (by decide +kernel) ⟨Nat.le_of_ble_eq_true rfl, Nat.le_of_ble_eq_true rfl⟩) (w_preV hK hW hL_y_9 hK_y_9 (by decide) rfl) rfl rfl hl.1 rfl (lv_room (Nat.le_of_ble_eq_true rfl)) dX4_plainWord_212 ⟨Nat.le_of_ble_eq_true rfl, Nat.le_of_ble_eq_true rfl⟩) hW (fun r_10 S_11 H locs hp hW => ?_)
    obtain ⟨hX_S_11, hp⟩ := hp
    refine W.widen (k := 0) (n := 0) (by decide) (by decide) ?_
    have hE := hE.trans hX_S_11
    have hK_a0 : sK S_11 a0 = 9 := (hX_S_11.2 a0 hL_a0).1.trans hK_a0
    have hL_a0 : wM D S_11 a0 := hX_S_11.M hL_a0
    refine lv_icmp_ge (tgt := 238) hx hb dX4_plainWord_215 (by decide) (fun c_12 => ?_) (fun c_12 => ?_)
    · replace hp := hp.1 c_12
      exact t_X4_plainWord_238 F hr hlocks hK hp hW hE (lv_sub hl [1] rfl)
    · replace hp := hp.2 c_12
      refine lv_lload hx hb dX4_plainWord_218 (lv_at hl 1 rfl) ?_
      refine lv_bipush (v := 16) hx hb dX4_plainWord_220 (by decide) ?_
      refine lv_lshl (v := (jlshl x_5 (16 : Int32))) hx hb dX4_plainWord_222 rfl ?_
      refine lv_ldc2 (v := 15616) hx hb hown (hwg _ wJ_RX4_111) dX4_plainWord_223 ?_
      refine lv_lor hx hb dX4_plainWord_226 ?_
      refine w_str F hK (show ("OpeningsCabinet$MoveList", 87, " KQRBNPkqrbnp", 1) ∈ wStr by decide +kernel) dX4_plainWord_227 ?_
      obtain ⟨y_13, ey_13⟩ : ∃ z : Nat, z = D.2.2.1 1 := ⟨_, rfl⟩
      rw [← ey_13]
      replace hp := hp y_13 ey_13
      obtain ⟨hL_y_13, hK_y_13⟩ : wM D S_11 y_13 ∧ sK S_11 y_13 = 0 := by rw [ey_13]; exact w_strM hK hW (show ("OpeningsCabinet$MoveList", 87, " KQRBNPkqrbnp", 1) ∈ wStr by decide +kernel)
      refine lv_iload hx hb dX4_plainWord_229 (lv_at hl 0 rfl) ?_
      refine w_callI (va_runV (As := [.int r_6]) (rest := [.long ((jlshl x_5 (16 : Int32)) ||| (15616 : Int64))]) F (c_J0_charAt_5068e l hL_y_13 hK_y_13 hp H.size) (cwV (C := RJ0) 1 hts (wg_V wm_RX4_95 wy_J0_charAt_5068e) rfl rfl rfl (by decide +kernel) ⟨Nat.le_of_ble_eq_true rfl, Nat.le_of_ble_eq_true rfl⟩) (w_preV hK hW hL_y_13 hK_y_13 (by decide) rfl) rfl rfl hl.1 rfl (lv_room (Nat.le_of_ble_eq_true rfl)) dX4_plainWord_231 ⟨Nat.le_of_ble_eq_true rfl, Nat.le_of_ble_eq_true rfl⟩) hW (fun r_14 S_15 H locs hp hW => ?_)
      obtain ⟨hX_S_15, hp⟩ := hp
      refine W.widen (k := 0) (n := 0) (by decide) (by decide) ?_
      have hE := hE.trans hX_S_15
      have hK_a0 : sK S_15 a0 = 9 := (hX_S_15.2 a0 hL_a0).1.trans hK_a0
      have hL_a0 : wM D S_15 a0 := hX_S_15.M hL_a0
      refine lv_i2l (v := (Int32.toInt64 r_14)) hx hb dX4_plainWord_234 rfl ?_
      refine lv_lor hx hb dX4_plainWord_235 ?_
      refine lv_topl (fun x_16 ex_16 => ?_)
      replace hp := hp x_16 ex_16
      refine lv_lstore (lv' := [(7, .long x_16), (9, .int r_6), (0, .ref a0), (2, .int x2), (4, .int x4)]) hx hb dX4_plainWord_236 hl (by decide) rfl (fun ls hl => ?_)
      exact t_X4_plainWord_238 F hr hlocks hK hp hW hE (lv_sub hl [0] rfl)
set_option maxHeartbeats 4000000 in
set_option maxRecDepth 100000 in
theorem t_X4_plainWord_157 {p : Program} {l : Launch} {e : Env} {s : State} {m : MethodId} {args : Array Value} {below : List Frame} {meth : Method} {c : Code} {D : wD} {cy : Nat → ClassId} {X : va_W} {A : Nat → Prop} {S0 : wS} {post : Int64 → wS → Prop} (F : CallFix p m c cX4_plainWord 10 s args wz_X4_plainWord RX4) (hr : meth.sig.returnType = (some .long)) (hlocks : meth.locks = false) (hK : wK D cy A s) : ∀ {S : wS} {H : Heap} {locs : List Loc} {ls : Array Slot} {a0 : Nat} {x2 : Int32} {x4 : Int32} {x6 : Int32} {x7 : Int64}, wp_X4_plainWord_157 D post S a0 x2 x4 x6 x7 → wO D cy X A s.heap S H locs → wX D S0 S → lv_has ls 10 [(0, .ref a0), (2, .int x2), (4, .int x4), (6, .int x6), (7, .long x7)] → wM D S a0 → sK S a0 = 9 → W p l e r_X4_plainWord s m args below meth c H locs 0 0 (MQ below (va_Ql (fun r S9 => wX D S0 S9 ∧ post r S9) (wB D cy X A) A) args s 0 0 A) (F0 m 157 ls []) := by
  obtain ⟨hx, hb, hml, hown, hts⟩ := id F
  have hwg : ∀ w ∈ WG, w.before args s = true := fun w h => hts w (List.mem_cons_of_mem _ h)
  intro S H locs ls a0 x2 x4 x6 x7 hp hW hE hl hL_a0 hK_a0
  unfold wp_X4_plainWord_157 at hp
  refine lv_iload hx hb dX4_plainWord_157 (lv_at hl 3 rfl) ?_
  refine lv_if_eq (tgt := 173) hx hb dX4_plainWord_159 (by decide) (fun c_1 => ?_) (fun c_1 => ?_)
  · replace hp := hp.1 c_1
    exact t_X4_plainWord_173 F hr hlocks hK hp hW hE (lv_sub hl [0, 1, 2, 4] rfl) hL_a0 hK_a0
  · replace hp := hp.2 c_1
    refine lv_lload hx hb dX4_plainWord_162 (lv_at hl 4 rfl) ?_
    refine lv_bipush (v := 8) hx hb dX4_plainWord_164 (by decide) ?_
    refine lv_lshl (v := (jlshl x7 (8 : Int32))) hx hb dX4_plainWord_166 rfl ?_
    refine lv_ldc2 (v := 120) hx hb hown (hwg _ wJ_RX4_103) dX4_plainWord_167 ?_
    refine lv_lor hx hb dX4_plainWord_170 ?_
    refine lv_topl (fun x_2 ex_2 => ?_)
    replace hp := hp x_2 ex_2
    refine lv_lstore (lv' := [(7, .long x_2), (0, .ref a0), (2, .int x2), (4, .int x4), (6, .int x6)]) hx hb dX4_plainWord_171 hl (by decide) rfl (fun ls hl => ?_)
    exact t_X4_plainWord_173 F hr hlocks hK hp hW hE (lv_sub hl [1, 2, 3, 0] rfl) hL_a0 hK_a0
set_option maxHeartbeats 4000000 in
set_option maxRecDepth 100000 in
theorem t_X4_plainWord_125 {p : Program} {l : Launch} {e : Env} {s : State} {m : MethodId} {args : Array Value} {below : List Frame} {meth : Method} {c : Code} {D : wD} {cy : Nat → ClassId} {X : va_W} {A : Nat → Prop} {S0 : wS} {post : Int64 → wS → Prop} (F : CallFix p m c cX4_plainWord 10 s args wz_X4_plainWord RX4) (hr : meth.sig.returnType = (some .long)) (hlocks : meth.locks = false) (hK : wK D cy A s) : ∀ {S : wS} {H : Heap} {locs : List Loc} {ls : Array Slot} {a0 : Nat} {x2 : Int32} {x4 : Int32} {x6 : Int32} {t0 : Int64}, wp_X4_plainWord_125 D post S a0 x2 x4 x6 t0 → wO D cy X A s.heap S H locs → wX D S0 S → lv_has ls 10 [(0, .ref a0), (2, .int x2), (4, .int x4), (6, .int x6)] → wM D S a0 → sK S a0 = 9 → W p l e r_X4_plainWord s m args below meth c H locs 0 0 (MQ below (va_Ql (fun r S9 => wX D S0 S9 ∧ post r S9) (wB D cy X A) A) args s 0 0 A) (F0 m 125 ls [.long t0]) := by
  obtain ⟨hx, hb, hml, hown, hts⟩ := id F
  have hwg : ∀ w ∈ WG, w.before args s = true := fun w h => hts w (List.mem_cons_of_mem _ h)
  intro S H locs ls a0 x2 x4 x6 t0 hp hW hE hl hL_a0 hK_a0
  unfold wp_X4_plainWord_125 at hp
  refine lv_lstore (lv' := [(7, .long t0), (0, .ref a0), (2, .int x2), (4, .int x4), (6, .int x6)]) hx hb dX4_plainWord_125 hl (by decide) rfl (fun ls hl => ?_)
  refine lv_goto (tgt := 157) hx hb dX4_plainWord_127 (by decide) ?_
  exact t_X4_plainWord_157 F hr hlocks hK hp hW hE (lv_sub hl [1, 2, 3, 4, 0] rfl) hL_a0 hK_a0
set_option maxHeartbeats 4000000 in
set_option maxRecDepth 100000 in
theorem t_X4_plainWord_99 {p : Program} {l : Launch} {e : Env} {s : State} {m : MethodId} {args : Array Value} {below : List Frame} {meth : Method} {c : Code} {D : wD} {cy : Nat → ClassId} {X : va_W} {A : Nat → Prop} {S0 : wS} {post : Int64 → wS → Prop} (F : CallFix p m c cX4_plainWord 10 s args wz_X4_plainWord RX4) (hr : meth.sig.returnType = (some .long)) (hlocks : meth.locks = false) (hK : wK D cy A s) : ∀ {S : wS} {H : Heap} {locs : List Loc} {ls : Array Slot} {a0 : Nat} {x2 : Int32} {x3 : Int32} {x4 : Int32} {x5 : Int32} {t0 : Int32}, wp_X4_plainWord_99 D post S a0 x2 x3 x4 x5 t0 → wO D cy X A s.heap S H locs → wX D S0 S → lv_has ls 10 [(0, .ref a0), (2, .int x2), (3, .int x3), (4, .int x4), (5, .int x5)] → wM D S a0 → sK S a0 = 9 → W p l e r_X4_plainWord s m args below meth c H locs 0 0 (MQ below (va_Ql (fun r S9 => wX D S0 S9 ∧ post r S9) (wB D cy X A) A) args s 0 0 A) (F0 m 99 ls [.int t0]) := by
  obtain ⟨hx, hb, hml, hown, hts⟩ := id F
  have hwg : ∀ w ∈ WG, w.before args s = true := fun w h => hts w (List.mem_cons_of_mem _ h)
  intro S H locs ls a0 x2 x3 x4 x5 t0 hp hW hE hl hL_a0 hK_a0
  unfold wp_X4_plainWord_99 at hp
  refine lv_istore (lv' := [(6, .int t0), (0, .ref a0), (2, .int x2), (3, .int x3), (4, .int x4), (5, .int x5)]) hx hb dX4_plainWord_99 hl (by decide) rfl (fun ls hl => ?_)
  refine lv_lconst (v := 0) hx hb dX4_plainWord_101 (by decide) ?_
  refine lv_lstore (lv' := [(7, .long (0 : Int64)), (6, .int t0), (0, .ref a0), (2, .int x2), (3, .int x3), (4, .int x4), (5, .int x5)]) hx hb dX4_plainWord_102 hl (by decide) rfl (fun ls hl => ?_)
  refine lv_iload hx hb dX4_plainWord_104 (lv_at hl 6 rfl) ?_
  refine lv_bipush (v := 6) hx hb dX4_plainWord_106 (by decide) ?_
  refine lv_icmp_ne (tgt := 130) hx hb dX4_plainWord_108 (by decide) (fun c_1 => ?_) (fun c_1 => ?_)
  · replace hp := hp.1 c_1
    refine lv_iload hx hb dX4_plainWord_130 (lv_at hl 6 rfl) ?_
    refine w_str F hK (show ("OpeningsCabinet$MoveList", 87, " KQRBNPkqrbnp", 1) ∈ wStr by decide +kernel) dX4_plainWord_132 ?_
    obtain ⟨y_2, ey_2⟩ : ∃ z : Nat, z = D.2.2.1 1 := ⟨_, rfl⟩
    rw [← ey_2]
    replace hp := hp y_2 ey_2
    obtain ⟨hL_y_2, hK_y_2⟩ : wM D S y_2 ∧ sK S y_2 = 0 := by rw [ey_2]; exact w_strM hK hW (show ("OpeningsCabinet$MoveList", 87, " KQRBNPkqrbnp", 1) ∈ wStr by decide +kernel)
    refine w_callI (va_runV (As := []) (rest := [.int x5]) F (c_J0_length_8abf5 l hL_y_2 hK_y_2 hp H.size) (cwV (C := RJ0) 0 hts (wg_V wm_RX4_89 wy_J0_length_8abf5) rfl rfl rfl (by decide +kernel) ⟨Nat.le_of_ble_eq_true rfl, Nat.le_of_ble_eq_true rfl⟩) (w_preV hK hW hL_y_2 hK_y_2 (by decide) rfl) rfl rfl hl.1 rfl (lv_room (Nat.le_of_ble_eq_true rfl)) dX4_plainWord_134 ⟨Nat.le_of_ble_eq_true rfl, Nat.le_of_ble_eq_true rfl⟩) hW (fun r_3 S_4 H locs hp hW => ?_)
    obtain ⟨hX_S_4, hp⟩ := hp
    refine W.widen (k := 0) (n := 0) (by decide) (by decide) ?_
    have hE := hE.trans hX_S_4
    have hK_a0 : sK S_4 a0 = 9 := (hX_S_4.2 a0 hL_a0).1.trans hK_a0
    have hL_a0 : wM D S_4 a0 := hX_S_4.M hL_a0
    refine lv_icmp_ge (tgt := 157) hx hb dX4_plainWord_137 (by decide) (fun c_5 => ?_) (fun c_5 => ?_)
    · replace hp := hp.1 c_5
      exact t_X4_plainWord_157 F hr hlocks hK hp hW hE (lv_sub hl [2, 3, 5, 1, 0] rfl) hL_a0 hK_a0
    · replace hp := hp.2 c_5
      refine lv_aload_n hx hb dX4_plainWord_140 rfl (lv_at hl 2 rfl) ?_
      refine w_str F hK (show ("OpeningsCabinet$MoveList", 87, " KQRBNPkqrbnp", 1) ∈ wStr by decide +kernel) dX4_plainWord_141 ?_
      obtain ⟨y_6, ey_6⟩ : ∃ z : Nat, z = D.2.2.1 1 := ⟨_, rfl⟩
      rw [← ey_6]
      replace hp := hp y_6 ey_6
      obtain ⟨hL_y_6, hK_y_6⟩ : wM D S_4 y_6 ∧ sK S_4 y_6 = 0 := by rw [ey_6]; exact w_strM hK hW (show ("OpeningsCabinet$MoveList", 87, " KQRBNPkqrbnp", 1) ∈ wStr by decide +kernel)
      refine lv_iload hx hb dX4_plainWord_143 (lv_at hl 6 rfl) ?_
      refine w_callI (va_runV (As := [.int x5]) (rest := [.ref a0]) F (c_J0_charAt_5068e l hL_y_6 hK_y_6 hp H.size) (cwV (C := RJ0) 1 hts (wg_V wm_RX4_95 wy_J0_charAt_5068e) rfl rfl rfl (by decide +kernel) ⟨Nat.le_of_ble_eq_true rfl, Nat.le_of_ble_eq_true rfl⟩) (w_preV hK hW hL_y_6 hK_y_6 (by decide) rfl) rfl rfl hl.1 rfl (lv_room (Nat.le_of_ble_eq_true rfl)) dX4_plainWord_145 ⟨Nat.le_of_ble_eq_true rfl, Nat.le_of_ble_eq_true rfl⟩) hW (fun r_7 S_8 H locs hp hW => ?_)
      obtain ⟨hX_S_8, hp⟩ := hp
      refine W.widen (k := 0) (n := 0) (by decide) (by decide) ?_
      have hE := hE.trans hX_S_8
      have hK_a0 : sK S_8 a0 = 9 := (hX_S_8.2 a0 hL_a0).1.trans hK_a0
      have hL_a0 : wM D S_8 a0 := hX_S_8.M hL_a0
      refine lv_i2l (v := (Int32.toInt64 r_7)) hx hb dX4_plainWord_148 rfl ?_
      refine lv_iload_n hx hb dX4_plainWord_149 rfl (lv_at hl 3 rfl) ?_
      refine lv_iload hx hb dX4_plainWord_150 (lv_at hl 6 rfl) ?_
      refine w_callJ (va_runV (As := [.long (Int32.toInt64 r_7), .int x2, .int x5]) (rest := []) F (c_X4_withOrigin l hL_a0 hK_a0 hp H.size) (cwV (C := RX4) 3 hts (wg_V wm_RX4_99 wy_X4_withOrigin) rfl rfl rfl (by decide +kernel) ⟨Nat.le_of_ble_eq_true rfl, Nat.le_of_ble_eq_true rfl⟩) (w_preV hK hW hL_a0 hK_a0 (by decide) rfl) rfl rfl hl.1 rfl (lv_room (Nat.le_of_ble_eq_true rfl)) dX4_plainWord_152 ⟨Nat.le_of_ble_eq_true rfl, Nat.le_of_ble_eq_true rfl⟩) hW (fun r_9 S_10 H locs hp hW => ?_)
      obtain ⟨hX_S_10, hp⟩ := hp
      refine W.widen (k := 0) (n := 0) (by decide) (by decide) ?_
      have hE := hE.trans hX_S_10
      have hK_a0 : sK S_10 a0 = 9 := (hX_S_10.2 a0 hL_a0).1.trans hK_a0
      have hL_a0 : wM D S_10 a0 := hX_S_10.M hL_a0
      refine lv_lstore (lv' := [(7, .long r_9), (6, .int t0), (0, .ref a0), (2, .int x2), (3, .int x3), (4, .int x4), (5, .int x5)]) hx hb dX4_plainWord_155 hl (by decide) rfl (fun ls hl => ?_)
      exact t_X4_plainWord_157 F hr hlocks hK hp hW hE (lv_sub hl [2, 3, 5, 1, 0] rfl) hL_a0 hK_a0
  · replace hp := hp.2 c_1
    refine lv_iload hx hb dX4_plainWord_111 (lv_at hl 1 rfl) ?_
    refine lv_if_eq (tgt := 124) hx hb dX4_plainWord_113 (by decide) (fun c_11 => ?_) (fun c_11 => ?_)
    · replace hp := hp.1 c_11
      refine lv_lconst (v := 0) hx hb dX4_plainWord_124 (by decide) ?_
      exact t_X4_plainWord_125 F hr hlocks hK hp hW hE (lv_sub hl [2, 3, 5, 1] rfl) hL_a0 hK_a0
    · replace hp := hp.2 c_11
      refine lv_aload_n hx hb dX4_plainWord_116 rfl (lv_at hl 2 rfl) ?_
      refine lv_iload_n hx hb dX4_plainWord_117 rfl (lv_at hl 4 rfl) ?_
      refine w_callJ (va_runV (As := [.int x3]) (rest := []) F (c_X4_fileName l hL_a0 hK_a0 hp H.size) (cwV (C := RX4) 1 hts (wg_V wm_RX4_84 wy_X4_fileName) rfl rfl rfl (by decide +kernel) ⟨Nat.le_of_ble_eq_true rfl, Nat.le_of_ble_eq_true rfl⟩) (w_preV hK hW hL_a0 hK_a0 (by decide) rfl) rfl rfl hl.1 rfl (lv_room (Nat.le_of_ble_eq_true rfl)) dX4_plainWord_118 ⟨Nat.le_of_ble_eq_true rfl, Nat.le_of_ble_eq_true rfl⟩) hW (fun r_12 S_13 H locs hp hW => ?_)
      obtain ⟨hX_S_13, hp⟩ := hp
      refine W.widen (k := 0) (n := 0) (by decide) (by decide) ?_
      have hE := hE.trans hX_S_13
      have hK_a0 : sK S_13 a0 = 9 := (hX_S_13.2 a0 hL_a0).1.trans hK_a0
      have hL_a0 : wM D S_13 a0 := hX_S_13.M hL_a0
      refine lv_goto (tgt := 125) hx hb dX4_plainWord_121 (by decide) ?_
      exact t_X4_plainWord_125 F hr hlocks hK hp hW hE (lv_sub hl [2, 3, 5, 1] rfl) hL_a0 hK_a0
set_option maxHeartbeats 4000000 in
set_option maxRecDepth 100000 in
theorem t_X4_plainWord_98 {p : Program} {l : Launch} {e : Env} {s : State} {m : MethodId} {args : Array Value} {below : List Frame} {meth : Method} {c : Code} {D : wD} {cy : Nat → ClassId} {X : va_W} {A : Nat → Prop} {S0 : wS} {post : Int64 → wS → Prop} (F : CallFix p m c cX4_plainWord 10 s args wz_X4_plainWord RX4) (hr : meth.sig.returnType = (some .long)) (hlocks : meth.locks = false) (hK : wK D cy A s) : ∀ {S : wS} {H : Heap} {locs : List Loc} {ls : Array Slot} {a0 : Nat} {x2 : Int32} {x3 : Int32} {x4 : Int32} {x5 : Int32}, wp_X4_plainWord_98 D post S a0 x2 x3 x4 x5 → wO D cy X A s.heap S H locs → wX D S0 S → lv_has ls 10 [(0, .ref a0), (2, .int x2), (3, .int x3), (4, .int x4), (5, .int x5)] → wM D S a0 → sK S a0 = 9 → W p l e r_X4_plainWord s m args below meth c H locs 0 0 (MQ below (va_Ql (fun r S9 => wX D S0 S9 ∧ post r S9) (wB D cy X A) A) args s 0 0 A) (F0 m 98 ls []) := by
  obtain ⟨hx, hb, hml, hown, hts⟩ := id F
  have hwg : ∀ w ∈ WG, w.before args s = true := fun w h => hts w (List.mem_cons_of_mem _ h)
  intro S H locs ls a0 x2 x3 x4 x5 hp hW hE hl hL_a0 hK_a0
  unfold wp_X4_plainWord_98 at hp
  refine lv_iconst (v := 0) hx hb dX4_plainWord_98 (by decide) ?_
  exact t_X4_plainWord_99 F hr hlocks hK hp hW hE (lv_sub hl [0, 1, 2, 3, 4] rfl) hL_a0 hK_a0
set_option maxHeartbeats 4000000 in
set_option maxRecDepth 100000 in
theorem t_X4_plainWord_94 {p : Program} {l : Launch} {e : Env} {s : State} {m : MethodId} {args : Array Value} {below : List Frame} {meth : Method} {c : Code} {D : wD} {cy : Nat → ClassId} {X : va_W} {A : Nat → Prop} {S0 : wS} {post : Int64 → wS → Prop} (F : CallFix p m c cX4_plainWord 10 s args wz_X4_plainWord RX4) (hr : meth.sig.returnType = (some .long)) (hlocks : meth.locks = false) (hK : wK D cy A s) : ∀ {S : wS} {H : Heap} {locs : List Loc} {ls : Array Slot} {a0 : Nat} {x2 : Int32} {x3 : Int32} {x4 : Int32} {x5 : Int32}, wp_X4_plainWord_94 D post S a0 x2 x3 x4 x5 → wO D cy X A s.heap S H locs → wX D S0 S → lv_has ls 10 [(0, .ref a0), (2, .int x2), (3, .int x3), (4, .int x4), (5, .int x5)] → wM D S a0 → sK S a0 = 9 → W p l e r_X4_plainWord s m args below meth c H locs 0 0 (MQ below (va_Ql (fun r S9 => wX D S0 S9 ∧ post r S9) (wB D cy X A) A) args s 0 0 A) (F0 m 94 ls []) := by
  obtain ⟨hx, hb, hml, hown, hts⟩ := id F
  have hwg : ∀ w ∈ WG, w.before args s = true := fun w h => hts w (List.mem_cons_of_mem _ h)
  intro S H locs ls a0 x2 x3 x4 x5 hp hW hE hl hL_a0 hK_a0
  unfold wp_X4_plainWord_94 at hp
  refine lv_iconst (v := 1) hx hb dX4_plainWord_94 (by decide) ?_
  refine lv_goto (tgt := 99) hx hb dX4_plainWord_95 (by decide) ?_
  exact t_X4_plainWord_99 F hr hlocks hK hp hW hE (lv_sub hl [0, 1, 2, 3, 4] rfl) hL_a0 hK_a0
set_option maxHeartbeats 4000000 in
set_option maxRecDepth 100000 in
theorem t_X4_plainWord_63 {p : Program} {l : Launch} {e : Env} {s : State} {m : MethodId} {args : Array Value} {below : List Frame} {meth : Method} {c : Code} {D : wD} {cy : Nat → ClassId} {X : va_W} {A : Nat → Prop} {S0 : wS} {post : Int64 → wS → Prop} (F : CallFix p m c cX4_plainWord 10 s args wz_X4_plainWord RX4) (hr : meth.sig.returnType = (some .long)) (hlocks : meth.locks = false) (hK : wK D cy A s) : ∀ {S : wS} {H : Heap} {locs : List Loc} {ls : Array Slot} {a0 : Nat} {x2 : Int32} {x3 : Int32} {x4 : Int32} {x5 : Int32}, wp_X4_plainWord_63 D post S a0 x2 x3 x4 x5 → wO D cy X A s.heap S H locs → wX D S0 S → lv_has ls 10 [(0, .ref a0), (2, .int x2), (3, .int x3), (4, .int x4), (5, .int x5)] → wM D S a0 → sK S a0 = 9 → W p l e r_X4_plainWord s m args below meth c H locs 0 0 (MQ below (va_Ql (fun r S9 => wX D S0 S9 ∧ post r S9) (wB D cy X A) A) args s 0 0 A) (F0 m 63 ls []) := by
  obtain ⟨hx, hb, hml, hown, hts⟩ := id F
  have hwg : ∀ w ∈ WG, w.before args s = true := fun w h => hts w (List.mem_cons_of_mem _ h)
  have i_12 : ∀ w ∈ u_ws RX7 TX7 8, w ∈ wz_X4_plainWord := fun w h => List.mem_cons_of_mem _ (wu_12 w h)
  have i_9 : ∀ w ∈ u_ws RX4 TX4 8, w ∈ wz_X4_plainWord := fun w h => List.mem_cons_of_mem _ (wu_9 w h)
  have k_40 := hwg _ wf_RX4_40
  intro S H locs ls a0 x2 x3 x4 x5 hp hW hE hl hL_a0 hK_a0
  unfold wp_X4_plainWord_63 at hp
  refine lv_aload_n hx hb dX4_plainWord_63 rfl (lv_at hl 0 rfl) ?_
  obtain ⟨y_1, ey_1, hL_y_1, hK_y_1, hp⟩ := hp
  refine w_get (k := 9) (f := 2) (T := TX4) (v := .ref y_1) F hK hW hL_a0 hK_a0 (by decide) rfl rfl (by decide) i_9 k_40 (by rw [show wv 9 2 S a0 = va_rf (sR S a0 2) from rfl, ey_1]; rfl) dX4_plainWord_64 ?_
  refine lv_iload hx hb dX4_plainWord_67 (lv_at hl 3 rfl) ?_
  refine w_callI (va_runV (As := [.int x4]) (rest := []) F (c_X7_kindOn l hL_y_1 hK_y_1 hp H.size) (cwV (C := RX7) 1 hts (wg_V wm_RX4_74 wy_X7_kindOn) rfl rfl rfl (by decide +kernel) ⟨Nat.le_of_ble_eq_true rfl, Nat.le_of_ble_eq_true rfl⟩) (w_preV hK hW hL_y_1 hK_y_1 (by decide) rfl) rfl rfl hl.1 rfl (lv_room (Nat.le_of_ble_eq_true rfl)) dX4_plainWord_69 ⟨Nat.le_of_ble_eq_true rfl, Nat.le_of_ble_eq_true rfl⟩) hW (fun r_2 S_3 H locs hp hW => ?_)
  obtain ⟨hX_S_3, hp⟩ := hp
  refine W.widen (k := 0) (n := 0) (by decide) (by decide) ?_
  have hE := hE.trans hX_S_3
  have hK_a0 : sK S_3 a0 = 9 := (hX_S_3.2 a0 hL_a0).1.trans hK_a0
  have hL_a0 : wM D S_3 a0 := hX_S_3.M hL_a0
  refine lv_if_ne (tgt := 94) hx hb dX4_plainWord_72 (by decide) (fun c_4 => ?_) (fun c_4 => ?_)
  · replace hp := hp.1 c_4
    exact t_X4_plainWord_94 F hr hlocks hK hp hW hE (lv_sub hl [0, 1, 2, 3, 4] rfl) hL_a0 hK_a0
  · replace hp := hp.2 c_4
    refine lv_iload hx hb dX4_plainWord_75 (lv_at hl 4 rfl) ?_
    refine lv_bipush (v := 6) hx hb dX4_plainWord_77 (by decide) ?_
    refine lv_icmp_ne (tgt := 98) hx hb dX4_plainWord_79 (by decide) (fun c_5 => ?_) (fun c_5 => ?_)
    · replace hp := hp.1 c_5
      exact t_X4_plainWord_98 F hr hlocks hK hp hW hE (lv_sub hl [0, 1, 2, 3, 4] rfl) hL_a0 hK_a0
    · replace hp := hp.2 c_5
      refine lv_iload hx hb dX4_plainWord_82 (lv_at hl 3 rfl) ?_
      refine lv_aload_n hx hb dX4_plainWord_84 rfl (lv_at hl 0 rfl) ?_
      obtain ⟨y_6, ey_6, hL_y_6, hK_y_6, hp⟩ := hp
      refine w_get (k := 9) (f := 2) (T := TX4) (v := .ref y_6) F hK hW hL_a0 hK_a0 (by decide) rfl rfl (by decide) i_9 k_40 (by rw [show wv 9 2 S_3 a0 = va_rf (sR S_3 a0 2) from rfl, ey_6]; rfl) dX4_plainWord_85 ?_
      refine w_getN (k := 12) (f := 7) (T := TX7) (v := .int (sI S_3 y_6 7)) F hK hW hL_y_6 hK_y_6 (by decide) rfl rfl (by decide) i_12 (hK.2.1 (.fieldLinkNest "OpeningsCabinet$MoveList" 81 "OpeningsCabinet$Position" "passing" "I" "OpeningsCabinet") (by decide +kernel)) rfl dX4_plainWord_88 ?_
      refine lv_icmp_ne (tgt := 98) hx hb dX4_plainWord_91 (by decide) (fun c_7 => ?_) (fun c_7 => ?_)
      · replace hp := hp.1 c_7
        exact t_X4_plainWord_98 F hr hlocks hK hp hW hE (lv_sub hl [0, 1, 2, 3, 4] rfl) hL_a0 hK_a0
      · replace hp := hp.2 c_7
        exact t_X4_plainWord_94 F hr hlocks hK hp hW hE (lv_sub hl [0, 1, 2, 3, 4] rfl) hL_a0 hK_a0
set_option maxHeartbeats 4000000 in
set_option maxRecDepth 100000 in
theorem t_X4_plainWord_45 {p : Program} {l : Launch} {e : Env} {s : State} {m : MethodId} {args : Array Value} {below : List Frame} {meth : Method} {c : Code} {D : wD} {cy : Nat → ClassId} {X : va_W} {A : Nat → Prop} {S0 : wS} {post : Int64 → wS → Prop} (F : CallFix p m c cX4_plainWord 10 s args wz_X4_plainWord RX4) (hr : meth.sig.returnType = (some .long)) (hlocks : meth.locks = false) (hK : wK D cy A s) : ∀ {S : wS} {H : Heap} {locs : List Loc} {ls : Array Slot} {a0 : Nat} {x2 : Int32} {x3 : Int32} {x4 : Int32} {x5 : Int32}, wp_X4_plainWord_45 D post S a0 x2 x3 x4 x5 → wO D cy X A s.heap S H locs → wX D S0 S → lv_has ls 10 [(0, .ref a0), (2, .int x2), (3, .int x3), (4, .int x4), (5, .int x5)] → wM D S a0 → sK S a0 = 9 → W p l e r_X4_plainWord s m args below meth c H locs 0 0 (MQ below (va_Ql (fun r S9 => wX D S0 S9 ∧ post r S9) (wB D cy X A) A) args s 0 0 A) (F0 m 45 ls []) := by
  obtain ⟨hx, hb, hml, hown, hts⟩ := id F
  have hwg : ∀ w ∈ WG, w.before args s = true := fun w h => hts w (List.mem_cons_of_mem _ h)
  intro S H locs ls a0 x2 x3 x4 x5 hp hW hE hl hL_a0 hK_a0
  unfold wp_X4_plainWord_45 at hp
  refine lv_iload hx hb dX4_plainWord_45 (lv_at hl 4 rfl) ?_
  refine lv_iconst (v := 1) hx hb dX4_plainWord_47 (by decide) ?_
  refine lv_icmp_ne (tgt := 63) hx hb dX4_plainWord_48 (by decide) (fun c_1 => ?_) (fun c_1 => ?_)
  · replace hp := hp.1 c_1
    exact t_X4_plainWord_63 F hr hlocks hK hp hW hE (lv_sub hl [0, 1, 2, 3, 4] rfl) hL_a0 hK_a0
  · replace hp := hp.2 c_1
    refine lv_iload_n hx hb dX4_plainWord_51 rfl (lv_at hl 2 rfl) ?_
    refine lv_iload hx hb dX4_plainWord_52 (lv_at hl 3 rfl) ?_
    refine lv_isub hx hb dX4_plainWord_54 ?_
    refine lv_iconst (v := 2) hx hb dX4_plainWord_55 (by decide) ?_
    refine lv_icmp_ne (tgt := 63) hx hb dX4_plainWord_56 (by decide) (fun c_2 => ?_) (fun c_2 => ?_)
    · replace hp := hp.1 c_2
      exact t_X4_plainWord_63 F hr hlocks hK hp hW hE (lv_sub hl [0, 1, 2, 3, 4] rfl) hL_a0 hK_a0
    · replace hp := hp.2 c_2
      refine lv_ldc2 (v := 340062580047) hx hb hown (hwg _ wJ_RX4_79) dX4_plainWord_59 ?_
      exact w_lret hx hb hr hlocks hW ⟨hE, hp⟩ dX4_plainWord_62
set_option maxHeartbeats 4000000 in
set_option maxRecDepth 100000 in
theorem t_X4_plainWord_0 {p : Program} {l : Launch} {e : Env} {s : State} {m : MethodId} {args : Array Value} {below : List Frame} {meth : Method} {c : Code} {D : wD} {cy : Nat → ClassId} {X : va_W} {A : Nat → Prop} {S0 : wS} {post : Int64 → wS → Prop} (F : CallFix p m c cX4_plainWord 10 s args wz_X4_plainWord RX4) (hr : meth.sig.returnType = (some .long)) (hlocks : meth.locks = false) (hK : wK D cy A s) : ∀ {S : wS} {H : Heap} {locs : List Loc} {ls : Array Slot} {a0 : Nat} {x1 : Int32}, wp_X4_plainWord_0 D post S a0 x1 → wO D cy X A s.heap S H locs → wX D S0 S → lv_has ls 10 [(0, .ref a0), (1, .int x1)] → wM D S a0 → sK S a0 = 9 → W p l e r_X4_plainWord s m args below meth c H locs 0 0 (MQ below (va_Ql (fun r S9 => wX D S0 S9 ∧ post r S9) (wB D cy X A) A) args s 0 0 A) (F0 m 0 ls []) := by
  obtain ⟨hx, hb, hml, hown, hts⟩ := id F
  have hwg : ∀ w ∈ WG, w.before args s = true := fun w h => hts w (List.mem_cons_of_mem _ h)
  have i_9 : ∀ w ∈ u_ws RX4 TX4 8, w ∈ wz_X4_plainWord := fun w h => List.mem_cons_of_mem _ (wu_9 w h)
  have k_40 := hwg _ wf_RX4_40
  intro S H locs ls a0 x1 hp hW hE hl hL_a0 hK_a0
  unfold wp_X4_plainWord_0 at hp
  refine lv_aload_n hx hb dX4_plainWord_0 rfl (lv_at hl 0 rfl) ?_
  refine lv_iload_n hx hb dX4_plainWord_1 rfl (lv_at hl 1 rfl) ?_
  refine w_callI (va_runV (As := [.int x1]) (rest := []) F (c_X4_codeAt l hL_a0 hK_a0 hp H.size) (cwV (C := RX4) 1 hts (wg_V wm_RX4_65 wy_X4_codeAt) rfl rfl rfl (by decide +kernel) ⟨Nat.le_of_ble_eq_true rfl, Nat.le_of_ble_eq_true rfl⟩) (w_preV hK hW hL_a0 hK_a0 (by decide) rfl) rfl rfl hl.1 rfl (lv_room (Nat.le_of_ble_eq_true rfl)) dX4_plainWord_2 ⟨Nat.le_of_ble_eq_true rfl, Nat.le_of_ble_eq_true rfl⟩) hW (fun r_1 S_2 H locs hp hW => ?_)
  obtain ⟨hX_S_2, hp⟩ := hp
  refine W.widen (k := 0) (n := 0) (by decide) (by decide) ?_
  have hE := hE.trans hX_S_2
  have hK_a0 : sK S_2 a0 = 9 := (hX_S_2.2 a0 hL_a0).1.trans hK_a0
  have hL_a0 : wM D S_2 a0 := hX_S_2.M hL_a0
  refine lv_istore_n (lv' := [(2, .int r_1), (0, .ref a0), (1, .int x1)]) hx hb dX4_plainWord_5 rfl hl (by decide) rfl (fun ls hl => ?_)
  refine lv_iload_n hx hb dX4_plainWord_6 rfl (lv_at hl 0 rfl) ?_
  refine w_callI (va_runSN (As := [.int r_1]) (rest := []) F (c_X11_fromOf l hp H.size) ⟨va_cnB (host := "OpeningsCabinet") 1 hts (wg_cons wy_X11_fromOf.2.2) rfl rfl rfl (hK.2.1 (.methodLinkNest "OpeningsCabinet$MoveList" 68 ⟨"OpeningsCabinet", "fromOf", "(I)I"⟩ "OpeningsCabinet") (by decide +kernel)) (hwg _ wy_X11_fromOf.2.1) ⟨by decide, by decide, by decide +kernel⟩ ⟨Nat.le_of_ble_eq_true rfl, Nat.le_of_ble_eq_true rfl⟩, hwg _ wy_X11_fromOf.1, trivial⟩ (w_preS hK hW) rfl rfl hl.1 rfl (lv_room (Nat.le_of_ble_eq_true rfl)) dX4_plainWord_7 ⟨Nat.le_of_ble_eq_true rfl, Nat.le_of_ble_eq_true rfl⟩) hW (fun r_3 S_4 H locs hp hW => ?_)
  obtain ⟨hX_S_4, hp⟩ := hp
  refine W.widen (k := 0) (n := 0) (by decide) (by decide) ?_
  have hE := hE.trans hX_S_4
  have hK_a0 : sK S_4 a0 = 9 := (hX_S_4.2 a0 hL_a0).1.trans hK_a0
  have hL_a0 : wM D S_4 a0 := hX_S_4.M hL_a0
  refine lv_istore_n (lv' := [(3, .int r_3), (2, .int r_1), (0, .ref a0), (1, .int x1)]) hx hb dX4_plainWord_10 rfl hl (by decide) rfl (fun ls hl => ?_)
  refine lv_iload_n hx hb dX4_plainWord_11 rfl (lv_at hl 1 rfl) ?_
  refine w_callI (va_runSN (As := [.int r_1]) (rest := []) F (c_X11_toOf l hp H.size) ⟨va_cnB (host := "OpeningsCabinet") 1 hts (wg_cons wy_X11_toOf.2.2) rfl rfl rfl (hK.2.1 (.methodLinkNest "OpeningsCabinet$MoveList" 71 ⟨"OpeningsCabinet", "toOf", "(I)I"⟩ "OpeningsCabinet") (by decide +kernel)) (hwg _ wy_X11_toOf.2.1) ⟨by decide, by decide, by decide +kernel⟩ ⟨Nat.le_of_ble_eq_true rfl, Nat.le_of_ble_eq_true rfl⟩, hwg _ wy_X11_toOf.1, trivial⟩ (w_preS hK hW) rfl rfl hl.1 rfl (lv_room (Nat.le_of_ble_eq_true rfl)) dX4_plainWord_12 ⟨Nat.le_of_ble_eq_true rfl, Nat.le_of_ble_eq_true rfl⟩) hW (fun r_5 S_6 H locs hp hW => ?_)
  obtain ⟨hX_S_6, hp⟩ := hp
  refine W.widen (k := 0) (n := 0) (by decide) (by decide) ?_
  have hE := hE.trans hX_S_6
  have hK_a0 : sK S_6 a0 = 9 := (hX_S_6.2 a0 hL_a0).1.trans hK_a0
  have hL_a0 : wM D S_6 a0 := hX_S_6.M hL_a0
  refine lv_istore (lv' := [(4, .int r_5), (3, .int r_3), (2, .int r_1), (0, .ref a0), (1, .int x1)]) hx hb dX4_plainWord_15 hl (by decide) rfl (fun ls hl => ?_)
  refine lv_aload_n hx hb dX4_plainWord_17 rfl (lv_at hl 3 rfl) ?_
  obtain ⟨y_7, ey_7, hL_y_7, hK_y_7, hp⟩ := hp
  refine w_get (k := 9) (f := 2) (T := TX4) (v := .ref y_7) F hK hW hL_a0 hK_a0 (by decide) rfl rfl (by decide) i_9 k_40 (by rw [show wv 9 2 S_6 a0 = va_rf (sR S_6 a0 2) from rfl, ey_7]; rfl) dX4_plainWord_18 ?_
  refine lv_iload_n hx hb dX4_plainWord_21 rfl (lv_at hl 1 rfl) ?_
  refine w_callI (va_runV (As := [.int r_3]) (rest := []) F (c_X7_kindOn l hL_y_7 hK_y_7 hp H.size) (cwV (C := RX7) 1 hts (wg_V wm_RX4_74 wy_X7_kindOn) rfl rfl rfl (by decide +kernel) ⟨Nat.le_of_ble_eq_true rfl, Nat.le_of_ble_eq_true rfl⟩) (w_preV hK hW hL_y_7 hK_y_7 (by decide) rfl) rfl rfl hl.1 rfl (lv_room (Nat.le_of_ble_eq_true rfl)) dX4_plainWord_22 ⟨Nat.le_of_ble_eq_true rfl, Nat.le_of_ble_eq_true rfl⟩) hW (fun r_8 S_9 H locs hp hW => ?_)
  obtain ⟨hX_S_9, hp⟩ := hp
  refine W.widen (k := 0) (n := 0) (by decide) (by decide) ?_
  have hE := hE.trans hX_S_9
  have hK_a0 : sK S_9 a0 = 9 := (hX_S_9.2 a0 hL_a0).1.trans hK_a0
  have hL_a0 : wM D S_9 a0 := hX_S_9.M hL_a0
  refine lv_istore (lv' := [(5, .int r_8), (4, .int r_5), (3, .int r_3), (2, .int r_1), (0, .ref a0), (1, .int x1)]) hx hb dX4_plainWord_25 hl (by decide) rfl (fun ls hl => ?_)
  refine lv_iload hx hb dX4_plainWord_27 (lv_at hl 0 rfl) ?_
  refine lv_iconst (v := 1) hx hb dX4_plainWord_29 (by decide) ?_
  refine lv_icmp_ne (tgt := 45) hx hb dX4_plainWord_30 (by decide) (fun c_10 => ?_) (fun c_10 => ?_)
  · replace hp := hp.1 c_10
    exact t_X4_plainWord_45 F hr hlocks hK hp hW hE (lv_sub hl [4, 3, 2, 1, 0] rfl) hL_a0 hK_a0
  · replace hp := hp.2 c_10
    refine lv_iload hx hb dX4_plainWord_33 (lv_at hl 1 rfl) ?_
    refine lv_iload_n hx hb dX4_plainWord_35 rfl (lv_at hl 2 rfl) ?_
    refine lv_isub hx hb dX4_plainWord_36 ?_
    refine lv_iconst (v := 2) hx hb dX4_plainWord_37 (by decide) ?_
    refine lv_icmp_ne (tgt := 45) hx hb dX4_plainWord_38 (by decide) (fun c_11 => ?_) (fun c_11 => ?_)
    · replace hp := hp.1 c_11
      exact t_X4_plainWord_45 F hr hlocks hK hp hW hE (lv_sub hl [4, 3, 2, 1, 0] rfl) hL_a0 hK_a0
    · replace hp := hp.2 c_11
      refine lv_ldc2 (v := 5188943) hx hb hown (hwg _ wJ_RX4_77) dX4_plainWord_41 ?_
      exact w_lret hx hb hr hlocks hW ⟨hE, hp⟩ dX4_plainWord_44
set_option maxHeartbeats 4000000 in
set_option maxRecDepth 100000 in
theorem c_X4_plainWord (l : Launch) {D : wD} {cy : Nat → ClassId} {X : va_W} {S0 : wS} {post : Int64 → wS → Prop} {a0 : Nat} {x1 : Int32} (hL_a0 : wM D S0 a0) (hK_a0 : sK S0 a0 = 9) (hp : wp_X4_plainWord D post S0 a0 x1) : mJ D cy X l yX4_plainWord wz_X4_plainWord r_X4_plainWord [.ref a0, .int x1] S0 (fun r S9 => wX D S0 S9 ∧ post r S9) := by
  intro sz
  refine Met.ofW (cc := cX4_plainWord) (maxL := 10) (ret := (some .long)) (by decide) rfl ?_
  intro p e s m args below meth c s₁ B hml hv
  obtain ⟨rfl, hsz, hP, hK, hD0, hRO⟩ := hv
  have hts := atoms_spec (ws := wz_X4_plainWord) B.pre
  have hown : s.vm.findClass RX4 = some m.cls := findClass_of_methodNamed B.named
  subst hsz
  have hD := hD0.self (sz := s.heap.size)
  have F : CallFix p m c cX4_plainWord 10 s _ wz_X4_plainWord RX4 := ⟨B.exec, B.bytes, hml, hown, hts⟩
  have hr := B.returns
  have hlocks := B.notSynchronized
  generalize hAe : va_A (wL cy X S0) s.heap.size = A at hD hK ⊢
  have hA : ∀ q, s.heap.size ≤ q → A q := fun q h => by rw [← hAe]; exact Or.inr h
  have hW : wO D cy X A s.heap S0 s.heap [] := ⟨hP, hD, va_S.rf, hA, hRO⟩
  have hl := lv_entry ([.ref a0, .int x1]) (n := 10) (Nat.le_of_ble_eq_true rfl)
  rw [lg_entry_eq]
  generalize (lg_sl ([.ref a0, .int x1]) ++ List.replicate (10 - (lg_sl ([.ref a0, .int x1])).length) Slot.unset).toArray = ls at hl ⊢
  have hl : lv_has ls 10 [(0, .ref a0), (1, .int x1)] := hl
  unfold wp_X4_plainWord at hp
  exact t_X4_plainWord_0 F hr hlocks hK hp hW wX.rf (lv_sub hl [0, 1] rfl) hL_a0 hK_a0
def wp_X4_wordOf_30 (D : wD) (post : Int64 → wS → Prop)  (S : wS) (t0 : Int64) : Prop :=
post t0 S
def wp_X4_wordOf_0 (D : wD) (post : Int64 → wS → Prop)  (S : wS) (a0 : Nat) (x1 : Int32) : Prop :=
wp_X4_plainWord D (fun r_1 S_2 => 
wp_X4_markOf D (fun r_3 S_4 => 
((¬ r_3 = 0 → wp_X4_wordOf_30 D post S_4 ((jlshl r_1 (8 : Int32)) ||| (Int32.toInt64 r_3))) ∧
 (r_3 = 0 → wp_X4_wordOf_30 D post S_4 r_1))) S_2 a0 x1) S a0 x1
abbrev r_X4_wordOf : Room := { frames := 6, cells := 0, slots := 0, locals := 141 }
def wp_X4_wordOf (D : wD) (post : Int64 → wS → Prop) (S : wS) (a0 : Nat) (x1 : Int32) : Prop := wp_X4_wordOf_0 D post S a0 x1
set_option maxHeartbeats 4000000 in
set_option maxRecDepth 100000 in
theorem t_X4_wordOf_30 {p : Program} {l : Launch} {e : Env} {s : State} {m : MethodId} {args : Array Value} {below : List Frame} {meth : Method} {c : Code} {D : wD} {cy : Nat → ClassId} {X : va_W} {A : Nat → Prop} {S0 : wS} {post : Int64 → wS → Prop} (F : CallFix p m c cX4_wordOf 5 s args wz_X4_wordOf RX4) (hr : meth.sig.returnType = (some .long)) (hlocks : meth.locks = false) (hK : wK D cy A s) : ∀ {S : wS} {H : Heap} {locs : List Loc} {ls : Array Slot} {t0 : Int64}, wp_X4_wordOf_30 D post S t0 → wO D cy X A s.heap S H locs → wX D S0 S → lv_has ls 5 [] → W p l e r_X4_wordOf s m args below meth c H locs 0 0 (MQ below (va_Ql (fun r S9 => wX D S0 S9 ∧ post r S9) (wB D cy X A) A) args s 0 0 A) (F0 m 30 ls [.long t0]) := by
  obtain ⟨hx, hb, hml, hown, hts⟩ := id F
  have hwg : ∀ w ∈ WG, w.before args s = true := fun w h => hts w (List.mem_cons_of_mem _ h)
  intro S H locs ls t0 hp hW hE hl
  unfold wp_X4_wordOf_30 at hp
  exact w_lret hx hb hr hlocks hW ⟨hE, hp⟩ dX4_wordOf_30
set_option maxHeartbeats 4000000 in
set_option maxRecDepth 100000 in
theorem t_X4_wordOf_0 {p : Program} {l : Launch} {e : Env} {s : State} {m : MethodId} {args : Array Value} {below : List Frame} {meth : Method} {c : Code} {D : wD} {cy : Nat → ClassId} {X : va_W} {A : Nat → Prop} {S0 : wS} {post : Int64 → wS → Prop} (F : CallFix p m c cX4_wordOf 5 s args wz_X4_wordOf RX4) (hr : meth.sig.returnType = (some .long)) (hlocks : meth.locks = false) (hK : wK D cy A s) : ∀ {S : wS} {H : Heap} {locs : List Loc} {ls : Array Slot} {a0 : Nat} {x1 : Int32}, wp_X4_wordOf_0 D post S a0 x1 → wO D cy X A s.heap S H locs → wX D S0 S → lv_has ls 5 [(0, .ref a0), (1, .int x1)] → wM D S a0 → sK S a0 = 9 → W p l e r_X4_wordOf s m args below meth c H locs 0 0 (MQ below (va_Ql (fun r S9 => wX D S0 S9 ∧ post r S9) (wB D cy X A) A) args s 0 0 A) (F0 m 0 ls []) := by
  obtain ⟨hx, hb, hml, hown, hts⟩ := id F
  have hwg : ∀ w ∈ WG, w.before args s = true := fun w h => hts w (List.mem_cons_of_mem _ h)
  intro S H locs ls a0 x1 hp hW hE hl hL_a0 hK_a0
  unfold wp_X4_wordOf_0 at hp
  refine lv_aload_n hx hb dX4_wordOf_0 rfl (lv_at hl 0 rfl) ?_
  refine lv_iload_n hx hb dX4_wordOf_1 rfl (lv_at hl 1 rfl) ?_
  refine w_callJ (va_runV (As := [.int x1]) (rest := []) F (c_X4_plainWord l hL_a0 hK_a0 hp H.size) (cwV (C := RX4) 1 hts (wg_V wm_RX4_57 wy_X4_plainWord) rfl rfl rfl (by decide +kernel) ⟨Nat.le_of_ble_eq_true rfl, Nat.le_of_ble_eq_true rfl⟩) (w_preV hK hW hL_a0 hK_a0 (by decide) rfl) rfl rfl hl.1 rfl (lv_room (Nat.le_of_ble_eq_true rfl)) dX4_wordOf_2 ⟨Nat.le_of_ble_eq_true rfl, Nat.le_of_ble_eq_true rfl⟩) hW (fun r_1 S_2 H locs hp hW => ?_)
  obtain ⟨hX_S_2, hp⟩ := hp
  refine W.widen (k := 0) (n := 0) (by decide) (by decide) ?_
  have hE := hE.trans hX_S_2
  have hK_a0 : sK S_2 a0 = 9 := (hX_S_2.2 a0 hL_a0).1.trans hK_a0
  have hL_a0 : wM D S_2 a0 := hX_S_2.M hL_a0
  refine lv_lstore_n (lv' := [(2, .long r_1), (0, .ref a0), (1, .int x1)]) hx hb dX4_wordOf_5 rfl hl (by decide) rfl (fun ls hl => ?_)
  refine lv_aload_n hx hb dX4_wordOf_6 rfl (lv_at hl 1 rfl) ?_
  refine lv_iload_n hx hb dX4_wordOf_7 rfl (lv_at hl 2 rfl) ?_
  refine w_callI (va_runV (As := [.int x1]) (rest := []) F (c_X4_markOf l hL_a0 hK_a0 hp H.size) (cwV (C := RX4) 1 hts (wg_V wm_RX4_61 wy_X4_markOf) rfl rfl rfl (by decide +kernel) ⟨Nat.le_of_ble_eq_true rfl, Nat.le_of_ble_eq_true rfl⟩) (w_preV hK hW hL_a0 hK_a0 (by decide) rfl) rfl rfl hl.1 rfl (lv_room (Nat.le_of_ble_eq_true rfl)) dX4_wordOf_8 ⟨Nat.le_of_ble_eq_true rfl, Nat.le_of_ble_eq_true rfl⟩) hW (fun r_3 S_4 H locs hp hW => ?_)
  obtain ⟨hX_S_4, hp⟩ := hp
  refine W.widen (k := 0) (n := 0) (by decide) (by decide) ?_
  have hE := hE.trans hX_S_4
  have hK_a0 : sK S_4 a0 = 9 := (hX_S_4.2 a0 hL_a0).1.trans hK_a0
  have hL_a0 : wM D S_4 a0 := hX_S_4.M hL_a0
  refine lv_istore (lv' := [(4, .int r_3), (2, .long r_1), (0, .ref a0), (1, .int x1)]) hx hb dX4_wordOf_11 hl (by decide) rfl (fun ls hl => ?_)
  refine lv_iload hx hb dX4_wordOf_13 (lv_at hl 0 rfl) ?_
  refine lv_if_ne (tgt := 22) hx hb dX4_wordOf_15 (by decide) (fun c_5 => ?_) (fun c_5 => ?_)
  · replace hp := hp.1 c_5
    refine lv_lload_n hx hb dX4_wordOf_22 rfl (lv_at hl 1 rfl) ?_
    refine lv_bipush (v := 8) hx hb dX4_wordOf_23 (by decide) ?_
    refine lv_lshl (v := (jlshl r_1 (8 : Int32))) hx hb dX4_wordOf_25 rfl ?_
    refine lv_iload hx hb dX4_wordOf_26 (lv_at hl 0 rfl) ?_
    refine lv_i2l (v := (Int32.toInt64 r_3)) hx hb dX4_wordOf_28 rfl ?_
    refine lv_lor hx hb dX4_wordOf_29 ?_
    exact t_X4_wordOf_30 F hr hlocks hK hp hW hE (lv_sub hl [] rfl)
  · replace hp := hp.2 c_5
    refine lv_lload_n hx hb dX4_wordOf_18 rfl (lv_at hl 1 rfl) ?_
    refine lv_goto (tgt := 30) hx hb dX4_wordOf_19 (by decide) ?_
    exact t_X4_wordOf_30 F hr hlocks hK hp hW hE (lv_sub hl [] rfl)
set_option maxHeartbeats 4000000 in
set_option maxRecDepth 100000 in
theorem c_X4_wordOf (l : Launch) {D : wD} {cy : Nat → ClassId} {X : va_W} {S0 : wS} {post : Int64 → wS → Prop} {a0 : Nat} {x1 : Int32} (hL_a0 : wM D S0 a0) (hK_a0 : sK S0 a0 = 9) (hp : wp_X4_wordOf D post S0 a0 x1) : mJ D cy X l yX4_wordOf wz_X4_wordOf r_X4_wordOf [.ref a0, .int x1] S0 (fun r S9 => wX D S0 S9 ∧ post r S9) := by
  intro sz
  refine Met.ofW (cc := cX4_wordOf) (maxL := 5) (ret := (some .long)) (by decide) rfl ?_
  intro p e s m args below meth c s₁ B hml hv
  obtain ⟨rfl, hsz, hP, hK, hD0, hRO⟩ := hv
  have hts := atoms_spec (ws := wz_X4_wordOf) B.pre
  have hown : s.vm.findClass RX4 = some m.cls := findClass_of_methodNamed B.named
  subst hsz
  have hD := hD0.self (sz := s.heap.size)
  have F : CallFix p m c cX4_wordOf 5 s _ wz_X4_wordOf RX4 := ⟨B.exec, B.bytes, hml, hown, hts⟩
  have hr := B.returns
  have hlocks := B.notSynchronized
  generalize hAe : va_A (wL cy X S0) s.heap.size = A at hD hK ⊢
  have hA : ∀ q, s.heap.size ≤ q → A q := fun q h => by rw [← hAe]; exact Or.inr h
  have hW : wO D cy X A s.heap S0 s.heap [] := ⟨hP, hD, va_S.rf, hA, hRO⟩
  have hl := lv_entry ([.ref a0, .int x1]) (n := 5) (Nat.le_of_ble_eq_true rfl)
  rw [lg_entry_eq]
  generalize (lg_sl ([.ref a0, .int x1]) ++ List.replicate (5 - (lg_sl ([.ref a0, .int x1])).length) Slot.unset).toArray = ls at hl ⊢
  have hl : lv_has ls 5 [(0, .ref a0), (1, .int x1)] := hl
  unfold wp_X4_wordOf at hp
  exact t_X4_wordOf_0 F hr hlocks hK hp hW wX.rf (lv_sub hl [0, 1] rfl) hL_a0 hK_a0
def wp_X1_gather_161 (D : wD) (post : wS → Prop)  (S : wS) : Prop :=
post S
def wp_X1_gather_154 (D : wD) (post : wS → Prop) (k_106 : wS → Nat → Int32 → Prop) (S : wS) (a0 : Nat) (x3 : Int32) (b0 : Nat) (t1 : Int32) (t2 : Int64) : Prop :=
b0 ∈ sL S ∧ vp_in t1 (sN S b0) ∧
∀ S_2 : wS, S_2 = uJ S b0 (t1).toNatClampNeg t2 →
∀ x_3 : Int32, x_3 = x3 + 1 →
k_106 S_2 a0 x_3
def wp_X1_gather_106 (D : wD) (post : wS → Prop)  : Nat → wS → Nat → Int32 → Prop
  | 0, _, _, _ => False
  | n + 1, S, a0, x3 =>
    ∃ y_1 : Nat, sR S a0 0 = some y_1 ∧ wM D S y_1 ∧ sK S y_1 = 9 ∧
    (((sI S y_1 7) ≤ x3 → wp_X1_gather_161 D post S) ∧
     (¬ (sI S y_1 7) ≤ x3 → ∃ y_3 : Nat, sR S a0 3 = some y_3 ∧ wM D S y_3 ∧ sK S y_3 = 22 ∧
    (((Int32.ofNat (sN S y_3)) ≤ x3 → wp_X1_gather_161 D post S) ∧
     (¬ (Int32.ofNat (sN S y_3)) ≤ x3 → ∃ y_5 : Nat, sR S a0 3 = some y_5 ∧ wM D S y_5 ∧ sK S y_5 = 22 ∧
    wp_X1_gamesWith D (fun r_6 S_7 => 
    ((r_6 ≤ 0 → wp_X1_gather_154 D post (wp_X1_gather_106 D post n) S_7 a0 x3 y_5 x3 (0 : Int64)) ∧
     (¬ r_6 ≤ 0 → ∃ y_9 : Nat, sR S_7 a0 0 = some y_9 ∧ wM D S_7 y_9 ∧ sK S_7 y_9 = 9 ∧
    wp_X4_wordOf D (fun r_10 S_11 => 
    wp_X1_aligned D (fun r_12 S_13 => 
    wp_X1_gather_154 D post (wp_X1_gather_106 D post n) S_13 a0 x3 y_5 x3 r_12) S_11 r_10) S_7 y_9 x3))) S a0 x3))))
def wp_X1_gather_98 (D : wD) (post : wS → Prop) (k_26 : wS → Nat → Nat → Nat → Int32 → Prop) (S : wS) (a0 : Nat) (a1 : Nat) (a2 : Nat) (x3 : Int32) : Prop :=
∀ x_1 : Int32, x_1 = x3 + 1 →
k_26 S a0 a1 a2 x_1
def wp_X1_gather_92 (D : wD) (post : wS → Prop) (k_26 : wS → Nat → Nat → Nat → Int32 → Prop) (k_44 : wS → Nat → Nat → Nat → Int32 → Option Nat → Int32 → Prop) (S : wS) (a0 : Nat) (a1 : Nat) (a2 : Nat) (x3 : Int32) (a4 : Nat) (x5 : Int32) : Prop :=
∀ x_1 : Int32, x_1 = x5 + 1 →
k_44 S a0 a1 a2 x3 (some a4) x_1
def wp_X1_gather_44 (D : wD) (post : wS → Prop) (k_26 : wS → Nat → Nat → Nat → Int32 → Prop) : Nat → wS → Nat → Nat → Nat → Int32 → Option Nat → Int32 → Prop
  | 0, _, _, _, _, _, _, _ => False
  | n + 1, S, a0, a1, a2, x3, g4, x5 =>
    ((g4 = none → wp_X1_gather_98 D post k_26 S a0 a1 a2 x3) ∧
     (∀ y_1 : Nat, g4 = some y_1 → wM D S y_1 ∧ sK S y_1 = 8 ∧ (((sI S y_1 3) ≤ x5 → wp_X1_gather_98 D post k_26 S a0 a1 a2 x3) ∧
     (¬ (sI S y_1 3) ≤ x5 → ∃ y_4 : Nat, sR S y_1 0 = some y_4 ∧ wM D S y_4 ∧ sK S y_4 = 22 ∧
    wp_X7_isSavedAt D (fun r_5 S_6 => 
    ((r_5 = 0 → wp_X1_gather_92 D post k_26 (wp_X1_gather_44 D post k_26 n) S_6 a0 a1 a2 x3 y_1 x5) ∧
     (¬ r_5 = 0 → ∃ y_8 : Nat, sR S_6 a0 0 = some y_8 ∧ wM D S_6 y_8 ∧ sK S_6 y_8 = 9 ∧
    wp_X3_moveAt D (fun r_9 S_10 => 
    wp_X4_numberOfCode D (fun r_11 S_12 => 
    wp_X1_note D (fun S_14 => 
    wp_X1_gather_92 D post k_26 (wp_X1_gather_44 D post k_26 n) S_14 a0 a1 a2 x3 y_1 x5) S_12 a0 r_11 x3) S_10 y_8 r_9) S_6 y_1 x5))) S a2 y_4 x5))))
def wp_X1_gather_26 (D : wD) (post : wS → Prop)  : Nat → wS → Nat → Nat → Nat → Int32 → Prop
  | 0, _, _, _, _, _ => False
  | n + 1, S, a0, a1, a2, x3 =>
    wp_X10_size D (fun r_1 S_2 => 
    ((r_1 ≤ x3 → ∃ n_4 : Nat, wp_X1_gather_106 D post n_4 S_2 a0 (0 : Int32)) ∧
     (¬ r_1 ≤ x3 → wp_X10_gameAt D (fun r_5 S_6 => 
    ∃ n_7 : Nat, wp_X1_gather_44 D post (wp_X1_gather_26 D post n) n_7 S_6 a0 a1 a2 x3 r_5 (0 : Int32)) S_2 a1 x3))) S a1
def wp_X1_gather_0 (D : wD) (post : wS → Prop)  (S : wS) (a0 : Nat) (a1 : Nat) (a2 : Nat) : Prop :=
∃ y_1 : Nat, sR S a0 0 = some y_1 ∧ wM D S y_1 ∧ sK S y_1 = 9 ∧
wp_X4_look D (fun S_3 => 
∃ y_4 : Nat, sR S_3 a0 1 = some y_4 ∧ wM D S_3 y_4 ∧ sK S_3 y_4 = 21 ∧
wp_J7_fill_53178 D (fun S_6 => 
∃ y_7 : Nat, sR S_6 a0 2 = some y_7 ∧ wM D S_6 y_7 ∧ sK S_6 y_7 = 21 ∧
wp_J7_fill_53178 D (fun S_9 => 
∃ n_10 : Nat, wp_X1_gather_26 D post n_10 S_9 a0 a1 a2 (0 : Int32)) S_6 y_7 (-1 : Int32)) S_3 y_4 (0 : Int32)) S y_1 a2
abbrev r_X1_gather : Room := { frames := 7, cells := 0, slots := 0, locals := 165 }
def wp_X1_gather (D : wD) (post : wS → Prop) (S : wS) (a0 : Nat) (a1 : Nat) (a2 : Nat) : Prop := wp_X1_gather_0 D post S a0 a1 a2
set_option maxHeartbeats 4000000 in
set_option maxRecDepth 100000 in
theorem t_X1_gather_161 {p : Program} {l : Launch} {e : Env} {s : State} {m : MethodId} {args : Array Value} {below : List Frame} {meth : Method} {c : Code} {D : wD} {cy : Nat → ClassId} {X : va_W} {A : Nat → Prop} {S0 : wS} {post : wS → Prop} (F : CallFix p m c cX1_gather 6 s args wz_X1_gather RX1) (hr : meth.sig.returnType = none) (hlocks : meth.locks = false) (hK : wK D cy A s) : ∀ {S : wS} {H : Heap} {locs : List Loc} {ls : Array Slot}, wp_X1_gather_161 D post S → wO D cy X A s.heap S H locs → wX D S0 S → lv_has ls 6 [] → W p l e r_X1_gather s m args below meth c H locs 0 0 (MQ below (va_Qv (fun S9 => wX D S0 S9 ∧ post S9) (wB D cy X A) A) args s 0 0 A) (F0 m 161 ls []) := by
  obtain ⟨hx, hb, hml, hown, hts⟩ := id F
  have hwg : ∀ w ∈ WG, w.before args s = true := fun w h => hts w (List.mem_cons_of_mem _ h)
  intro S H locs ls hp hW hE hl
  unfold wp_X1_gather_161 at hp
  exact w_vret hx hb hr hlocks hW ⟨hE, hp⟩ dX1_gather_161
set_option maxHeartbeats 4000000 in
set_option maxRecDepth 100000 in
theorem t_X1_gather_154 {p : Program} {l : Launch} {e : Env} {s : State} {m : MethodId} {args : Array Value} {below : List Frame} {meth : Method} {c : Code} {D : wD} {cy : Nat → ClassId} {X : va_W} {A : Nat → Prop} {S0 : wS} {post : wS → Prop} (F : CallFix p m c cX1_gather 6 s args wz_X1_gather RX1) (hr : meth.sig.returnType = none) (hlocks : meth.locks = false) (hK : wK D cy A s) {k_106 : wS → Nat → Int32 → Prop} (q_106 : ∀ {S : wS} {H : Heap} {locs : List Loc} {ls : Array Slot} {a0 : Nat} {x3 : Int32}, k_106 S a0 x3 → wO D cy X A s.heap S H locs → wX D S0 S → lv_has ls 6 [(0, .ref a0), (3, .int x3)] → wM D S a0 → sK S a0 = 6 → W p l e r_X1_gather s m args below meth c H locs 0 0 (MQ below (va_Qv (fun S9 => wX D S0 S9 ∧ post S9) (wB D cy X A) A) args s 0 0 A) (F0 m 106 ls [])) : ∀ {S : wS} {H : Heap} {locs : List Loc} {ls : Array Slot} {a0 : Nat} {x3 : Int32} {b0 : Nat} {t1 : Int32} {t2 : Int64}, wp_X1_gather_154 D post k_106 S a0 x3 b0 t1 t2 → wO D cy X A s.heap S H locs → wX D S0 S → lv_has ls 6 [(0, .ref a0), (3, .int x3)] → wM D S a0 → sK S a0 = 6 → wM D S b0 → sK S b0 = 22 → W p l e r_X1_gather s m args below meth c H locs 0 0 (MQ below (va_Qv (fun S9 => wX D S0 S9 ∧ post S9) (wB D cy X A) A) args s 0 0 A) (F0 m 154 ls [.long t2, .int t1, .ref b0]) := by
  obtain ⟨hx, hb, hml, hown, hts⟩ := id F
  have hwg : ∀ w ∈ WG, w.before args s = true := fun w h => hts w (List.mem_cons_of_mem _ h)
  intro S H locs ls a0 x3 b0 t1 t2 hp hW hE hl hL_a0 hK_a0 hL_b0 hK_b0
  unfold wp_X1_gather_154 at hp
  obtain ⟨h_1m, h_1, hp⟩ := hp
  refine w_lst F hK hW h_1m hK_b0 h_1 dX1_gather_154 (fun H locs hW => ?_)
  obtain ⟨S_2, eS_2⟩ : ∃ z : wS, z = uJ S b0 (t1).toNatClampNeg t2 := ⟨_, rfl⟩
  rw [← eS_2] at hW
  replace hp := hp S_2 eS_2
  have hX_S_2 : wX D S S_2 := by rw [eS_2]; exact wX_uJ
  have hE := hE.trans hX_S_2
  have hK_a0 : sK S_2 a0 = 6 := (hX_S_2.2 a0 hL_a0).1.trans hK_a0
  have hL_a0 : wM D S_2 a0 := hX_S_2.M hL_a0
  obtain ⟨x_3, ex_3⟩ : ∃ z : Int32, z = x3 + 1 := ⟨_, rfl⟩
  replace hp := hp x_3 ex_3
  refine lv_iinc (v := x_3) (lv' := [(3, .int x_3), (0, .ref a0)]) hx hb dX1_gather_155 hl (k := 1) rfl (by rw [ex_3]; rfl) (by decide) rfl (fun ls hl => ?_)
  refine lv_goto (tgt := 106) hx hb dX1_gather_158 (by decide) ?_
  exact q_106 hp hW hE (lv_sub hl [1, 0] rfl) hL_a0 hK_a0
set_option maxHeartbeats 4000000 in
set_option maxRecDepth 100000 in
theorem t_X1_gather_106 {p : Program} {l : Launch} {e : Env} {s : State} {m : MethodId} {args : Array Value} {below : List Frame} {meth : Method} {c : Code} {D : wD} {cy : Nat → ClassId} {X : va_W} {A : Nat → Prop} {S0 : wS} {post : wS → Prop} (F : CallFix p m c cX1_gather 6 s args wz_X1_gather RX1) (hr : meth.sig.returnType = none) (hlocks : meth.locks = false) (hK : wK D cy A s) : ∀ (n : Nat) {S : wS} {H : Heap} {locs : List Loc} {ls : Array Slot} {a0 : Nat} {x3 : Int32}, wp_X1_gather_106 D post n S a0 x3 → wO D cy X A s.heap S H locs → wX D S0 S → lv_has ls 6 [(0, .ref a0), (3, .int x3)] → wM D S a0 → sK S a0 = 6 → W p l e r_X1_gather s m args below meth c H locs 0 0 (MQ below (va_Qv (fun S9 => wX D S0 S9 ∧ post S9) (wB D cy X A) A) args s 0 0 A) (F0 m 106 ls []) := by
  obtain ⟨hx, hb, hml, hown, hts⟩ := id F
  have hwg : ∀ w ∈ WG, w.before args s = true := fun w h => hts w (List.mem_cons_of_mem _ h)
  have i_6 : ∀ w ∈ u_ws RX1 TX1 4, w ∈ wz_X1_gather := fun w h => List.mem_cons_of_mem _ (wu_6 w h)
  have i_9 : ∀ w ∈ u_ws RX4 TX4 8, w ∈ wz_X1_gather := fun w h => List.mem_cons_of_mem _ (wu_9 w h)
  have k_18 := hwg _ wf_RX1_18
  have k_22 := hwg _ wf_RX1_22
  intro n
  induction n with
  | zero =>
    intro S H locs ls a0 x3 hp
    exact hp.elim
  | succ n ih =>
    intro S H locs ls a0 x3 hp hW hE hl hL_a0 hK_a0
    unfold wp_X1_gather_106 at hp
    refine lv_iload_n hx hb dX1_gather_106 rfl (lv_at hl 1 rfl) ?_
    refine lv_aload_n hx hb dX1_gather_107 rfl (lv_at hl 0 rfl) ?_
    obtain ⟨y_1, ey_1, hL_y_1, hK_y_1, hp⟩ := hp
    refine w_get (k := 6) (f := 0) (T := TX1) (v := .ref y_1) F hK hW hL_a0 hK_a0 (by decide) rfl rfl (by decide) i_6 k_22 (by rw [show wv 6 0 S a0 = va_rf (sR S a0 0) from rfl, ey_1]; rfl) dX1_gather_108 ?_
    refine w_getN (k := 9) (f := 7) (T := TX4) (v := .int (sI S y_1 7)) F hK hW hL_y_1 hK_y_1 (by decide) rfl rfl (by decide) i_9 (hK.2.1 (.fieldLinkNest "OpeningsCabinet$Continuations" 74 "OpeningsCabinet$MoveList" "size" "I" "OpeningsCabinet") (by decide +kernel)) rfl dX1_gather_111 ?_
    refine lv_icmp_ge (tgt := 161) hx hb dX1_gather_114 (by decide) (fun c_2 => ?_) (fun c_2 => ?_)
    · replace hp := hp.1 c_2
      exact t_X1_gather_161 F hr hlocks hK hp hW hE (lv_sub hl [] rfl)
    · replace hp := hp.2 c_2
      refine lv_iload_n hx hb dX1_gather_117 rfl (lv_at hl 1 rfl) ?_
      refine lv_aload_n hx hb dX1_gather_118 rfl (lv_at hl 0 rfl) ?_
      obtain ⟨y_3, ey_3, hL_y_3, hK_y_3, hp⟩ := hp
      refine w_get (k := 6) (f := 3) (T := TX1) (v := .ref y_3) F hK hW hL_a0 hK_a0 (by decide) rfl rfl (by decide) i_6 k_18 (by rw [show wv 6 3 S a0 = va_rf (sR S a0 3) from rfl, ey_3]; rfl) dX1_gather_119 ?_
      refine w_len F hK hW hL_y_3 hK_y_3 (by decide) dX1_gather_122 ?_
      refine lv_icmp_ge (tgt := 161) hx hb dX1_gather_123 (by decide) (fun c_4 => ?_) (fun c_4 => ?_)
      · replace hp := hp.1 c_4
        exact t_X1_gather_161 F hr hlocks hK hp hW hE (lv_sub hl [] rfl)
      · replace hp := hp.2 c_4
        refine lv_aload_n hx hb dX1_gather_126 rfl (lv_at hl 0 rfl) ?_
        obtain ⟨y_5, ey_5, hL_y_5, hK_y_5, hp⟩ := hp
        refine w_get (k := 6) (f := 3) (T := TX1) (v := .ref y_5) F hK hW hL_a0 hK_a0 (by decide) rfl rfl (by decide) i_6 k_18 (by rw [show wv 6 3 S a0 = va_rf (sR S a0 3) from rfl, ey_5]; rfl) dX1_gather_127 ?_
        refine lv_iload_n hx hb dX1_gather_130 rfl (lv_at hl 1 rfl) ?_
        refine lv_aload_n hx hb dX1_gather_131 rfl (lv_at hl 0 rfl) ?_
        refine lv_iload_n hx hb dX1_gather_132 rfl (lv_at hl 1 rfl) ?_
        refine w_callI (va_runV (As := [.int x3]) (rest := [.int x3, .ref y_5]) F (c_X1_gamesWith l hL_a0 hK_a0 hp H.size) (cwV (C := RX1) 1 hts (wg_V wm_RX1_76 wy_X1_gamesWith) rfl rfl rfl (by decide +kernel) ⟨Nat.le_of_ble_eq_true rfl, Nat.le_of_ble_eq_true rfl⟩) (w_preV hK hW hL_a0 hK_a0 (by decide) rfl) rfl rfl hl.1 rfl (lv_room (Nat.le_of_ble_eq_true rfl)) dX1_gather_133 ⟨Nat.le_of_ble_eq_true rfl, Nat.le_of_ble_eq_true rfl⟩) hW (fun r_6 S_7 H locs hp hW => ?_)
        obtain ⟨hX_S_7, hp⟩ := hp
        refine W.widen (k := 0) (n := 0) (by decide) (by decide) ?_
        have hE := hE.trans hX_S_7
        have hK_a0 : sK S_7 a0 = 6 := (hX_S_7.2 a0 hL_a0).1.trans hK_a0
        have hL_a0 : wM D S_7 a0 := hX_S_7.M hL_a0
        have hK_y_5 : sK S_7 y_5 = 22 := (hX_S_7.2 y_5 hL_y_5).1.trans hK_y_5
        have hL_y_5 : wM D S_7 y_5 := hX_S_7.M hL_y_5
        refine lv_if_le (tgt := 153) hx hb dX1_gather_136 (by decide) (fun c_8 => ?_) (fun c_8 => ?_)
        · replace hp := hp.1 c_8
          refine lv_lconst (v := 0) hx hb dX1_gather_153 (by decide) ?_
          exact t_X1_gather_154 F hr hlocks hK ih hp hW hE (lv_sub hl [0, 1] rfl) hL_a0 hK_a0 hL_y_5 hK_y_5
        · replace hp := hp.2 c_8
          refine lv_aload_n hx hb dX1_gather_139 rfl (lv_at hl 0 rfl) ?_
          obtain ⟨y_9, ey_9, hL_y_9, hK_y_9, hp⟩ := hp
          refine w_get (k := 6) (f := 0) (T := TX1) (v := .ref y_9) F hK hW hL_a0 hK_a0 (by decide) rfl rfl (by decide) i_6 k_22 (by rw [show wv 6 0 S_7 a0 = va_rf (sR S_7 a0 0) from rfl, ey_9]; rfl) dX1_gather_140 ?_
          refine lv_iload_n hx hb dX1_gather_143 rfl (lv_at hl 1 rfl) ?_
          refine w_callJ (va_runV (As := [.int x3]) (rest := [.int x3, .ref y_5]) F (c_X4_wordOf l hL_y_9 hK_y_9 hp H.size) (cwV (C := RX4) 1 hts (wg_V wm_RX1_79 wy_X4_wordOf) rfl rfl rfl (by decide +kernel) ⟨Nat.le_of_ble_eq_true rfl, Nat.le_of_ble_eq_true rfl⟩) (w_preV hK hW hL_y_9 hK_y_9 (by decide) rfl) rfl rfl hl.1 rfl (lv_room (Nat.le_of_ble_eq_true rfl)) dX1_gather_144 ⟨Nat.le_of_ble_eq_true rfl, Nat.le_of_ble_eq_true rfl⟩) hW (fun r_10 S_11 H locs hp hW => ?_)
          obtain ⟨hX_S_11, hp⟩ := hp
          refine W.widen (k := 0) (n := 0) (by decide) (by decide) ?_
          have hE := hE.trans hX_S_11
          have hK_a0 : sK S_11 a0 = 6 := (hX_S_11.2 a0 hL_a0).1.trans hK_a0
          have hL_a0 : wM D S_11 a0 := hX_S_11.M hL_a0
          have hK_y_5 : sK S_11 y_5 = 22 := (hX_S_11.2 y_5 hL_y_5).1.trans hK_y_5
          have hL_y_5 : wM D S_11 y_5 := hX_S_11.M hL_y_5
          refine w_callJ (va_runS (As := [.long r_10]) (rest := [.int x3, .ref y_5]) F (c_X1_aligned l hp H.size) (va_cwS 1 hts (wg_S wm_RX1_83 wy_X1_aligned) rfl rfl rfl (by decide +kernel) ⟨Nat.le_of_ble_eq_true rfl, Nat.le_of_ble_eq_true rfl⟩) (w_preS hK hW) rfl rfl hl.1 rfl (lv_room (Nat.le_of_ble_eq_true rfl)) dX1_gather_147 ⟨Nat.le_of_ble_eq_true rfl, Nat.le_of_ble_eq_true rfl⟩) hW (fun r_12 S_13 H locs hp hW => ?_)
          obtain ⟨hX_S_13, hp⟩ := hp
          refine W.widen (k := 0) (n := 0) (by decide) (by decide) ?_
          have hE := hE.trans hX_S_13
          have hK_a0 : sK S_13 a0 = 6 := (hX_S_13.2 a0 hL_a0).1.trans hK_a0
          have hL_a0 : wM D S_13 a0 := hX_S_13.M hL_a0
          have hK_y_5 : sK S_13 y_5 = 22 := (hX_S_13.2 y_5 hL_y_5).1.trans hK_y_5
          have hL_y_5 : wM D S_13 y_5 := hX_S_13.M hL_y_5
          refine lv_goto (tgt := 154) hx hb dX1_gather_150 (by decide) ?_
          exact t_X1_gather_154 F hr hlocks hK ih hp hW hE (lv_sub hl [0, 1] rfl) hL_a0 hK_a0 hL_y_5 hK_y_5
set_option maxHeartbeats 4000000 in
set_option maxRecDepth 100000 in
theorem t_X1_gather_98 {p : Program} {l : Launch} {e : Env} {s : State} {m : MethodId} {args : Array Value} {below : List Frame} {meth : Method} {c : Code} {D : wD} {cy : Nat → ClassId} {X : va_W} {A : Nat → Prop} {S0 : wS} {post : wS → Prop} (F : CallFix p m c cX1_gather 6 s args wz_X1_gather RX1) (hr : meth.sig.returnType = none) (hlocks : meth.locks = false) (hK : wK D cy A s) {k_26 : wS → Nat → Nat → Nat → Int32 → Prop} (q_26 : ∀ {S : wS} {H : Heap} {locs : List Loc} {ls : Array Slot} {a0 : Nat} {a1 : Nat} {a2 : Nat} {x3 : Int32}, k_26 S a0 a1 a2 x3 → wO D cy X A s.heap S H locs → wX D S0 S → lv_has ls 6 [(0, .ref a0), (1, .ref a1), (2, .ref a2), (3, .int x3)] → wM D S a0 → sK S a0 = 6 → wM D S a1 → sK S a1 = 15 → wM D S a2 → sK S a2 = 12 → W p l e r_X1_gather s m args below meth c H locs 0 0 (MQ below (va_Qv (fun S9 => wX D S0 S9 ∧ post S9) (wB D cy X A) A) args s 0 0 A) (F0 m 26 ls [])) : ∀ {S : wS} {H : Heap} {locs : List Loc} {ls : Array Slot} {a0 : Nat} {a1 : Nat} {a2 : Nat} {x3 : Int32}, wp_X1_gather_98 D post k_26 S a0 a1 a2 x3 → wO D cy X A s.heap S H locs → wX D S0 S → lv_has ls 6 [(0, .ref a0), (1, .ref a1), (2, .ref a2), (3, .int x3)] → wM D S a0 → sK S a0 = 6 → wM D S a1 → sK S a1 = 15 → wM D S a2 → sK S a2 = 12 → W p l e r_X1_gather s m args below meth c H locs 0 0 (MQ below (va_Qv (fun S9 => wX D S0 S9 ∧ post S9) (wB D cy X A) A) args s 0 0 A) (F0 m 98 ls []) := by
  obtain ⟨hx, hb, hml, hown, hts⟩ := id F
  have hwg : ∀ w ∈ WG, w.before args s = true := fun w h => hts w (List.mem_cons_of_mem _ h)
  intro S H locs ls a0 a1 a2 x3 hp hW hE hl hL_a0 hK_a0 hL_a1 hK_a1 hL_a2 hK_a2
  unfold wp_X1_gather_98 at hp
  obtain ⟨x_1, ex_1⟩ : ∃ z : Int32, z = x3 + 1 := ⟨_, rfl⟩
  replace hp := hp x_1 ex_1
  refine lv_iinc (v := x_1) (lv' := [(3, .int x_1), (0, .ref a0), (1, .ref a1), (2, .ref a2)]) hx hb dX1_gather_98 hl (k := 3) rfl (by rw [ex_1]; rfl) (by decide) rfl (fun ls hl => ?_)
  refine lv_goto (tgt := 26) hx hb dX1_gather_101 (by decide) ?_
  exact q_26 hp hW hE (lv_sub hl [1, 2, 3, 0] rfl) hL_a0 hK_a0 hL_a1 hK_a1 hL_a2 hK_a2
set_option maxHeartbeats 4000000 in
set_option maxRecDepth 100000 in
theorem t_X1_gather_92 {p : Program} {l : Launch} {e : Env} {s : State} {m : MethodId} {args : Array Value} {below : List Frame} {meth : Method} {c : Code} {D : wD} {cy : Nat → ClassId} {X : va_W} {A : Nat → Prop} {S0 : wS} {post : wS → Prop} (F : CallFix p m c cX1_gather 6 s args wz_X1_gather RX1) (hr : meth.sig.returnType = none) (hlocks : meth.locks = false) (hK : wK D cy A s) {k_26 : wS → Nat → Nat → Nat → Int32 → Prop} (q_26 : ∀ {S : wS} {H : Heap} {locs : List Loc} {ls : Array Slot} {a0 : Nat} {a1 : Nat} {a2 : Nat} {x3 : Int32}, k_26 S a0 a1 a2 x3 → wO D cy X A s.heap S H locs → wX D S0 S → lv_has ls 6 [(0, .ref a0), (1, .ref a1), (2, .ref a2), (3, .int x3)] → wM D S a0 → sK S a0 = 6 → wM D S a1 → sK S a1 = 15 → wM D S a2 → sK S a2 = 12 → W p l e r_X1_gather s m args below meth c H locs 0 0 (MQ below (va_Qv (fun S9 => wX D S0 S9 ∧ post S9) (wB D cy X A) A) args s 0 0 A) (F0 m 26 ls [])) {k_44 : wS → Nat → Nat → Nat → Int32 → Option Nat → Int32 → Prop} (q_44 : ∀ {S : wS} {H : Heap} {locs : List Loc} {ls : Array Slot} {a0 : Nat} {a1 : Nat} {a2 : Nat} {x3 : Int32} {g4 : Option Nat} {x5 : Int32}, k_44 S a0 a1 a2 x3 g4 x5 → wO D cy X A s.heap S H locs → wX D S0 S → lv_has ls 6 [(0, .ref a0), (1, .ref a1), (2, .ref a2), (3, .int x3), (4, va_rf g4), (5, .int x5)] → wM D S a0 → sK S a0 = 6 → wM D S a1 → sK S a1 = 15 → wM D S a2 → sK S a2 = 12 → W p l e r_X1_gather s m args below meth c H locs 0 0 (MQ below (va_Qv (fun S9 => wX D S0 S9 ∧ post S9) (wB D cy X A) A) args s 0 0 A) (F0 m 44 ls [])) : ∀ {S : wS} {H : Heap} {locs : List Loc} {ls : Array Slot} {a0 : Nat} {a1 : Nat} {a2 : Nat} {x3 : Int32} {a4 : Nat} {x5 : Int32}, wp_X1_gather_92 D post k_26 k_44 S a0 a1 a2 x3 a4 x5 → wO D cy X A s.heap S H locs → wX D S0 S → lv_has ls 6 [(0, .ref a0), (1, .ref a1), (2, .ref a2), (3, .int x3), (4, .ref a4), (5, .int x5)] → wM D S a0 → sK S a0 = 6 → wM D S a1 → sK S a1 = 15 → wM D S a2 → sK S a2 = 12 → wM D S a4 → sK S a4 = 8 → W p l e r_X1_gather s m args below meth c H locs 0 0 (MQ below (va_Qv (fun S9 => wX D S0 S9 ∧ post S9) (wB D cy X A) A) args s 0 0 A) (F0 m 92 ls []) := by
  obtain ⟨hx, hb, hml, hown, hts⟩ := id F
  have hwg : ∀ w ∈ WG, w.before args s = true := fun w h => hts w (List.mem_cons_of_mem _ h)
  intro S H locs ls a0 a1 a2 x3 a4 x5 hp hW hE hl hL_a0 hK_a0 hL_a1 hK_a1 hL_a2 hK_a2 hL_a4 hK_a4
  unfold wp_X1_gather_92 at hp
  obtain ⟨x_1, ex_1⟩ : ∃ z : Int32, z = x5 + 1 := ⟨_, rfl⟩
  replace hp := hp x_1 ex_1
  refine lv_iinc (v := x_1) (lv' := [(5, .int x_1), (0, .ref a0), (1, .ref a1), (2, .ref a2), (3, .int x3), (4, .ref a4)]) hx hb dX1_gather_92 hl (k := 5) rfl (by rw [ex_1]; rfl) (by decide) rfl (fun ls hl => ?_)
  refine lv_goto (tgt := 44) hx hb dX1_gather_95 (by decide) ?_
  exact q_44 hp hW hE (lv_sub hl [1, 2, 3, 4, 5, 0] rfl) hL_a0 hK_a0 hL_a1 hK_a1 hL_a2 hK_a2
set_option maxHeartbeats 4000000 in
set_option maxRecDepth 100000 in
theorem t_X1_gather_44 {p : Program} {l : Launch} {e : Env} {s : State} {m : MethodId} {args : Array Value} {below : List Frame} {meth : Method} {c : Code} {D : wD} {cy : Nat → ClassId} {X : va_W} {A : Nat → Prop} {S0 : wS} {post : wS → Prop} (F : CallFix p m c cX1_gather 6 s args wz_X1_gather RX1) (hr : meth.sig.returnType = none) (hlocks : meth.locks = false) (hK : wK D cy A s) {k_26 : wS → Nat → Nat → Nat → Int32 → Prop} (q_26 : ∀ {S : wS} {H : Heap} {locs : List Loc} {ls : Array Slot} {a0 : Nat} {a1 : Nat} {a2 : Nat} {x3 : Int32}, k_26 S a0 a1 a2 x3 → wO D cy X A s.heap S H locs → wX D S0 S → lv_has ls 6 [(0, .ref a0), (1, .ref a1), (2, .ref a2), (3, .int x3)] → wM D S a0 → sK S a0 = 6 → wM D S a1 → sK S a1 = 15 → wM D S a2 → sK S a2 = 12 → W p l e r_X1_gather s m args below meth c H locs 0 0 (MQ below (va_Qv (fun S9 => wX D S0 S9 ∧ post S9) (wB D cy X A) A) args s 0 0 A) (F0 m 26 ls [])) : ∀ (n : Nat) {S : wS} {H : Heap} {locs : List Loc} {ls : Array Slot} {a0 : Nat} {a1 : Nat} {a2 : Nat} {x3 : Int32} {g4 : Option Nat} {x5 : Int32}, wp_X1_gather_44 D post k_26 n S a0 a1 a2 x3 g4 x5 → wO D cy X A s.heap S H locs → wX D S0 S → lv_has ls 6 [(0, .ref a0), (1, .ref a1), (2, .ref a2), (3, .int x3), (4, va_rf g4), (5, .int x5)] → wM D S a0 → sK S a0 = 6 → wM D S a1 → sK S a1 = 15 → wM D S a2 → sK S a2 = 12 → W p l e r_X1_gather s m args below meth c H locs 0 0 (MQ below (va_Qv (fun S9 => wX D S0 S9 ∧ post S9) (wB D cy X A) A) args s 0 0 A) (F0 m 44 ls []) := by
  obtain ⟨hx, hb, hml, hown, hts⟩ := id F
  have hwg : ∀ w ∈ WG, w.before args s = true := fun w h => hts w (List.mem_cons_of_mem _ h)
  have i_6 : ∀ w ∈ u_ws RX1 TX1 4, w ∈ wz_X1_gather := fun w h => List.mem_cons_of_mem _ (wu_6 w h)
  have i_8 : ∀ w ∈ u_ws RX3 TX3 9, w ∈ wz_X1_gather := fun w h => List.mem_cons_of_mem _ (wu_8 w h)
  have k_22 := hwg _ wf_RX1_22
  intro n
  induction n with
  | zero =>
    intro S H locs ls a0 a1 a2 x3 g4 x5 hp
    exact hp.elim
  | succ n ih =>
    intro S H locs ls a0 a1 a2 x3 g4 x5 hp hW hE hl hL_a0 hK_a0 hL_a1 hK_a1 hL_a2 hK_a2
    unfold wp_X1_gather_44 at hp
    refine w_aload hx hb dX1_gather_44 (lv_at hl 4 rfl) ?_
    refine w_ifnull (tgt := 98) hx hb dX1_gather_46 (by decide) (fun h_2 => ?_) (fun y_1 h_2 => ?_)
    · replace hp := hp.1 h_2
      subst h_2
      exact t_X1_gather_98 F hr hlocks hK q_26 hp hW hE (lv_sub hl [0, 1, 2, 3] rfl) hL_a0 hK_a0 hL_a1 hK_a1 hL_a2 hK_a2
    · obtain ⟨hL_y_1, hK_y_1, hp⟩ := hp.2 y_1 h_2
      subst h_2
      refine lv_iload hx hb dX1_gather_49 (lv_at hl 5 rfl) ?_
      refine lv_aload hx hb dX1_gather_51 (lv_at hl 4 rfl) ?_
      refine w_getN (k := 8) (f := 3) (T := TX3) (v := .int (sI S y_1 3)) F hK hW hL_y_1 hK_y_1 (by decide) rfl rfl (by decide) i_8 (hK.2.1 (.fieldLinkNest "OpeningsCabinet$Continuations" 48 "OpeningsCabinet$Game" "length" "I" "OpeningsCabinet") (by decide +kernel)) rfl dX1_gather_53 ?_
      refine lv_icmp_ge (tgt := 98) hx hb dX1_gather_56 (by decide) (fun c_3 => ?_) (fun c_3 => ?_)
      · replace hp := hp.1 c_3
        exact t_X1_gather_98 F hr hlocks hK q_26 hp hW hE (lv_sub hl [0, 1, 2, 3] rfl) hL_a0 hK_a0 hL_a1 hK_a1 hL_a2 hK_a2
      · replace hp := hp.2 c_3
        refine lv_aload_n hx hb dX1_gather_59 rfl (lv_at hl 2 rfl) ?_
        refine lv_aload hx hb dX1_gather_60 (lv_at hl 4 rfl) ?_
        obtain ⟨y_4, ey_4, hL_y_4, hK_y_4, hp⟩ := hp
        refine w_getN (k := 8) (f := 0) (T := TX3) (v := .ref y_4) F hK hW hL_y_1 hK_y_1 (by decide) rfl rfl (by decide) i_8 (hK.2.1 (.fieldLinkNest "OpeningsCabinet$Continuations" 54 "OpeningsCabinet$Game" "places" "[J" "OpeningsCabinet") (by decide +kernel)) (by rw [show wv 8 0 S y_1 = va_rf (sR S y_1 0) from rfl, ey_4]; rfl) dX1_gather_62 ?_
        refine lv_iload hx hb dX1_gather_65 (lv_at hl 5 rfl) ?_
        refine w_callI (va_runV (As := [.ref y_4, .int x5]) (rest := []) F (c_X7_isSavedAt l hL_a2 hK_a2 hL_y_4 hK_y_4 hp H.size) (cwV (C := RX7) 2 hts (wg_V wm_RX1_57 wy_X7_isSavedAt) rfl rfl rfl (by decide +kernel) ⟨Nat.le_of_ble_eq_true rfl, Nat.le_of_ble_eq_true rfl⟩) (w_preV hK hW hL_a2 hK_a2 (by decide) rfl) rfl rfl hl.1 rfl (lv_room (Nat.le_of_ble_eq_true rfl)) dX1_gather_67 ⟨Nat.le_of_ble_eq_true rfl, Nat.le_of_ble_eq_true rfl⟩) hW (fun r_5 S_6 H locs hp hW => ?_)
        obtain ⟨hX_S_6, hp⟩ := hp
        refine W.widen (k := 0) (n := 0) (by decide) (by decide) ?_
        have hE := hE.trans hX_S_6
        have hK_a0 : sK S_6 a0 = 6 := (hX_S_6.2 a0 hL_a0).1.trans hK_a0
        have hL_a0 : wM D S_6 a0 := hX_S_6.M hL_a0
        have hK_a1 : sK S_6 a1 = 15 := (hX_S_6.2 a1 hL_a1).1.trans hK_a1
        have hL_a1 : wM D S_6 a1 := hX_S_6.M hL_a1
        have hK_a2 : sK S_6 a2 = 12 := (hX_S_6.2 a2 hL_a2).1.trans hK_a2
        have hL_a2 : wM D S_6 a2 := hX_S_6.M hL_a2
        have hK_y_1 : sK S_6 y_1 = 8 := (hX_S_6.2 y_1 hL_y_1).1.trans hK_y_1
        have hL_y_1 : wM D S_6 y_1 := hX_S_6.M hL_y_1
        refine lv_if_eq (tgt := 92) hx hb dX1_gather_70 (by decide) (fun c_7 => ?_) (fun c_7 => ?_)
        · replace hp := hp.1 c_7
          exact t_X1_gather_92 F hr hlocks hK q_26 ih hp hW hE (lv_sub hl [0, 1, 2, 3, 4, 5] rfl) hL_a0 hK_a0 hL_a1 hK_a1 hL_a2 hK_a2 hL_y_1 hK_y_1
        · replace hp := hp.2 c_7
          refine lv_aload_n hx hb dX1_gather_73 rfl (lv_at hl 0 rfl) ?_
          refine lv_aload_n hx hb dX1_gather_74 rfl (lv_at hl 0 rfl) ?_
          obtain ⟨y_8, ey_8, hL_y_8, hK_y_8, hp⟩ := hp
          refine w_get (k := 6) (f := 0) (T := TX1) (v := .ref y_8) F hK hW hL_a0 hK_a0 (by decide) rfl rfl (by decide) i_6 k_22 (by rw [show wv 6 0 S_6 a0 = va_rf (sR S_6 a0 0) from rfl, ey_8]; rfl) dX1_gather_75 ?_
          refine lv_aload hx hb dX1_gather_78 (lv_at hl 4 rfl) ?_
          refine lv_iload hx hb dX1_gather_80 (lv_at hl 5 rfl) ?_
          refine w_callI (va_runV (As := [.int x5]) (rest := [.ref y_8, .ref a0]) F (c_X3_moveAt l hL_y_1 hK_y_1 hp H.size) (cwV (C := RX3) 1 hts (wg_V wm_RX1_63 wy_X3_moveAt) rfl rfl rfl (by decide +kernel) ⟨Nat.le_of_ble_eq_true rfl, Nat.le_of_ble_eq_true rfl⟩) (w_preV hK hW hL_y_1 hK_y_1 (by decide) rfl) rfl rfl hl.1 rfl (lv_room (Nat.le_of_ble_eq_true rfl)) dX1_gather_82 ⟨Nat.le_of_ble_eq_true rfl, Nat.le_of_ble_eq_true rfl⟩) hW (fun r_9 S_10 H locs hp hW => ?_)
          obtain ⟨hX_S_10, hp⟩ := hp
          refine W.widen (k := 0) (n := 0) (by decide) (by decide) ?_
          have hE := hE.trans hX_S_10
          have hK_a0 : sK S_10 a0 = 6 := (hX_S_10.2 a0 hL_a0).1.trans hK_a0
          have hL_a0 : wM D S_10 a0 := hX_S_10.M hL_a0
          have hK_a1 : sK S_10 a1 = 15 := (hX_S_10.2 a1 hL_a1).1.trans hK_a1
          have hL_a1 : wM D S_10 a1 := hX_S_10.M hL_a1
          have hK_a2 : sK S_10 a2 = 12 := (hX_S_10.2 a2 hL_a2).1.trans hK_a2
          have hL_a2 : wM D S_10 a2 := hX_S_10.M hL_a2
          have hK_y_1 : sK S_10 y_1 = 8 := (hX_S_10.2 y_1 hL_y_1).1.trans hK_y_1
          have hL_y_1 : wM D S_10 y_1 := hX_S_10.M hL_y_1
          have hK_y_8 : sK S_10 y_8 = 9 := (hX_S_10.2 y_8 hL_y_8).1.trans hK_y_8
          have hL_y_8 : wM D S_10 y_8 := hX_S_10.M hL_y_8
          refine w_callI (va_runV (As := [.int r_9]) (rest := [.ref a0]) F (c_X4_numberOfCode l hL_y_8 hK_y_8 hp H.size) (cwV (C := RX4) 1 hts (wg_V wm_RX1_67 wy_X4_numberOfCode) rfl rfl rfl (by decide +kernel) ⟨Nat.le_of_ble_eq_true rfl, Nat.le_of_ble_eq_true rfl⟩) (w_preV hK hW hL_y_8 hK_y_8 (by decide) rfl) rfl rfl hl.1 rfl (lv_room (Nat.le_of_ble_eq_true rfl)) dX1_gather_85 ⟨Nat.le_of_ble_eq_true rfl, Nat.le_of_ble_eq_true rfl⟩) hW (fun r_11 S_12 H locs hp hW => ?_)
          obtain ⟨hX_S_12, hp⟩ := hp
          refine W.widen (k := 0) (n := 0) (by decide) (by decide) ?_
          have hE := hE.trans hX_S_12
          have hK_a0 : sK S_12 a0 = 6 := (hX_S_12.2 a0 hL_a0).1.trans hK_a0
          have hL_a0 : wM D S_12 a0 := hX_S_12.M hL_a0
          have hK_a1 : sK S_12 a1 = 15 := (hX_S_12.2 a1 hL_a1).1.trans hK_a1
          have hL_a1 : wM D S_12 a1 := hX_S_12.M hL_a1
          have hK_a2 : sK S_12 a2 = 12 := (hX_S_12.2 a2 hL_a2).1.trans hK_a2
          have hL_a2 : wM D S_12 a2 := hX_S_12.M hL_a2
          have hK_y_1 : sK S_12 y_1 = 8 := (hX_S_12.2 y_1 hL_y_1).1.trans hK_y_1
          have hL_y_1 : wM D S_12 y_1 := hX_S_12.M hL_y_1
          refine lv_iload_n hx hb dX1_gather_88 rfl (lv_at hl 3 rfl) ?_
          refine w_callV (va_runV (As := [.int r_11, .int x3]) (rest := []) F (c_X1_note l hL_a0 hK_a0 hp H.size) (cwV (C := RX1) 2 hts (wg_V wm_RX1_70 wy_X1_note) rfl rfl rfl (by decide +kernel) ⟨Nat.le_of_ble_eq_true rfl, Nat.le_of_ble_eq_true rfl⟩) (w_preV hK hW hL_a0 hK_a0 (by decide) rfl) rfl rfl hl.1 rfl (lv_room (Nat.le_of_ble_eq_true rfl)) dX1_gather_89 ⟨Nat.le_of_ble_eq_true rfl, Nat.le_of_ble_eq_true rfl⟩) hW (fun S_14 H locs hp hW => ?_)
          obtain ⟨hX_S_14, hp⟩ := hp
          refine W.widen (k := 0) (n := 0) (by decide) (by decide) ?_
          have hE := hE.trans hX_S_14
          have hK_a0 : sK S_14 a0 = 6 := (hX_S_14.2 a0 hL_a0).1.trans hK_a0
          have hL_a0 : wM D S_14 a0 := hX_S_14.M hL_a0
          have hK_a1 : sK S_14 a1 = 15 := (hX_S_14.2 a1 hL_a1).1.trans hK_a1
          have hL_a1 : wM D S_14 a1 := hX_S_14.M hL_a1
          have hK_a2 : sK S_14 a2 = 12 := (hX_S_14.2 a2 hL_a2).1.trans hK_a2
          have hL_a2 : wM D S_14 a2 := hX_S_14.M hL_a2
          have hK_y_1 : sK S_14 y_1 = 8 := (hX_S_14.2 y_1 hL_y_1).1.trans hK_y_1
          have hL_y_1 : wM D S_14 y_1 := hX_S_14.M hL_y_1
          exact t_X1_gather_92 F hr hlocks hK q_26 ih hp hW hE (lv_sub hl [0, 1, 2, 3, 4, 5] rfl) hL_a0 hK_a0 hL_a1 hK_a1 hL_a2 hK_a2 hL_y_1 hK_y_1
set_option maxHeartbeats 4000000 in
set_option maxRecDepth 100000 in
theorem t_X1_gather_26 {p : Program} {l : Launch} {e : Env} {s : State} {m : MethodId} {args : Array Value} {below : List Frame} {meth : Method} {c : Code} {D : wD} {cy : Nat → ClassId} {X : va_W} {A : Nat → Prop} {S0 : wS} {post : wS → Prop} (F : CallFix p m c cX1_gather 6 s args wz_X1_gather RX1) (hr : meth.sig.returnType = none) (hlocks : meth.locks = false) (hK : wK D cy A s) : ∀ (n : Nat) {S : wS} {H : Heap} {locs : List Loc} {ls : Array Slot} {a0 : Nat} {a1 : Nat} {a2 : Nat} {x3 : Int32}, wp_X1_gather_26 D post n S a0 a1 a2 x3 → wO D cy X A s.heap S H locs → wX D S0 S → lv_has ls 6 [(0, .ref a0), (1, .ref a1), (2, .ref a2), (3, .int x3)] → wM D S a0 → sK S a0 = 6 → wM D S a1 → sK S a1 = 15 → wM D S a2 → sK S a2 = 12 → W p l e r_X1_gather s m args below meth c H locs 0 0 (MQ below (va_Qv (fun S9 => wX D S0 S9 ∧ post S9) (wB D cy X A) A) args s 0 0 A) (F0 m 26 ls []) := by
  obtain ⟨hx, hb, hml, hown, hts⟩ := id F
  have hwg : ∀ w ∈ WG, w.before args s = true := fun w h => hts w (List.mem_cons_of_mem _ h)
  intro n
  induction n with
  | zero =>
    intro S H locs ls a0 a1 a2 x3 hp
    exact hp.elim
  | succ n ih =>
    intro S H locs ls a0 a1 a2 x3 hp hW hE hl hL_a0 hK_a0 hL_a1 hK_a1 hL_a2 hK_a2
    unfold wp_X1_gather_26 at hp
    refine lv_iload_n hx hb dX1_gather_26 rfl (lv_at hl 3 rfl) ?_
    refine lv_aload_n hx hb dX1_gather_27 rfl (lv_at hl 1 rfl) ?_
    refine w_callI (va_runV (As := []) (rest := [.int x3]) F (c_X10_size l hL_a1 hK_a1 hp H.size) (cwV (C := RX10) 0 hts (wg_V wm_RX1_38 wy_X10_size) rfl rfl rfl (by decide +kernel) ⟨Nat.le_of_ble_eq_true rfl, Nat.le_of_ble_eq_true rfl⟩) (w_preV hK hW hL_a1 hK_a1 (by decide) rfl) rfl rfl hl.1 rfl (lv_room (Nat.le_of_ble_eq_true rfl)) dX1_gather_28 ⟨Nat.le_of_ble_eq_true rfl, Nat.le_of_ble_eq_true rfl⟩) hW (fun r_1 S_2 H locs hp hW => ?_)
    obtain ⟨hX_S_2, hp⟩ := hp
    refine W.widen (k := 0) (n := 0) (by decide) (by decide) ?_
    have hE := hE.trans hX_S_2
    have hK_a0 : sK S_2 a0 = 6 := (hX_S_2.2 a0 hL_a0).1.trans hK_a0
    have hL_a0 : wM D S_2 a0 := hX_S_2.M hL_a0
    have hK_a1 : sK S_2 a1 = 15 := (hX_S_2.2 a1 hL_a1).1.trans hK_a1
    have hL_a1 : wM D S_2 a1 := hX_S_2.M hL_a1
    have hK_a2 : sK S_2 a2 = 12 := (hX_S_2.2 a2 hL_a2).1.trans hK_a2
    have hL_a2 : wM D S_2 a2 := hX_S_2.M hL_a2
    refine lv_icmp_ge (tgt := 104) hx hb dX1_gather_31 (by decide) (fun c_3 => ?_) (fun c_3 => ?_)
    · replace hp := hp.1 c_3
      refine lv_iconst (v := 0) hx hb dX1_gather_104 (by decide) ?_
      refine lv_istore_n (lv' := [(3, .int (0 : Int32)), (0, .ref a0), (1, .ref a1), (2, .ref a2)]) hx hb dX1_gather_105 rfl hl (by decide) rfl (fun ls hl => ?_)
      obtain ⟨n_4, hp⟩ := hp
      exact t_X1_gather_106 F hr hlocks hK n_4 hp hW hE (lv_sub hl [1, 0] rfl) hL_a0 hK_a0
    · replace hp := hp.2 c_3
      refine lv_aload_n hx hb dX1_gather_34 rfl (lv_at hl 1 rfl) ?_
      refine lv_iload_n hx hb dX1_gather_35 rfl (lv_at hl 3 rfl) ?_
      refine w_callR (va_runV (As := [.int x3]) (rest := []) F (c_X10_gameAt l hL_a1 hK_a1 hp H.size) (cwV (C := RX10) 1 hts (wg_V wm_RX1_44 wy_X10_gameAt) rfl rfl rfl (by decide +kernel) ⟨Nat.le_of_ble_eq_true rfl, Nat.le_of_ble_eq_true rfl⟩) (w_preV hK hW hL_a1 hK_a1 (by decide) rfl) rfl rfl hl.1 rfl (lv_room (Nat.le_of_ble_eq_true rfl)) dX1_gather_36 ⟨Nat.le_of_ble_eq_true rfl, Nat.le_of_ble_eq_true rfl⟩) hW (fun r_5 S_6 H locs hp hW => ?_)
      obtain ⟨hX_S_6, hp⟩ := hp
      refine W.widen (k := 0) (n := 0) (by decide) (by decide) ?_
      have hE := hE.trans hX_S_6
      have hK_a0 : sK S_6 a0 = 6 := (hX_S_6.2 a0 hL_a0).1.trans hK_a0
      have hL_a0 : wM D S_6 a0 := hX_S_6.M hL_a0
      have hK_a1 : sK S_6 a1 = 15 := (hX_S_6.2 a1 hL_a1).1.trans hK_a1
      have hL_a1 : wM D S_6 a1 := hX_S_6.M hL_a1
      have hK_a2 : sK S_6 a2 = 12 := (hX_S_6.2 a2 hL_a2).1.trans hK_a2
      have hL_a2 : wM D S_6 a2 := hX_S_6.M hL_a2
      refine w_astore (lv' := [(4, va_rf r_5), (0, .ref a0), (1, .ref a1), (2, .ref a2), (3, .int x3)]) hx hb dX1_gather_39 hl (by decide) rfl (fun ls hl => ?_)
      refine lv_iconst (v := 0) hx hb dX1_gather_41 (by decide) ?_
      refine lv_istore (lv' := [(5, .int (0 : Int32)), (4, va_rf r_5), (0, .ref a0), (1, .ref a1), (2, .ref a2), (3, .int x3)]) hx hb dX1_gather_42 hl (by decide) rfl (fun ls hl => ?_)
      obtain ⟨n_7, hp⟩ := hp
      exact t_X1_gather_44 F hr hlocks hK ih n_7 hp hW hE (lv_sub hl [2, 3, 4, 5, 1, 0] rfl) hL_a0 hK_a0 hL_a1 hK_a1 hL_a2 hK_a2
set_option maxHeartbeats 4000000 in
set_option maxRecDepth 100000 in
theorem t_X1_gather_0 {p : Program} {l : Launch} {e : Env} {s : State} {m : MethodId} {args : Array Value} {below : List Frame} {meth : Method} {c : Code} {D : wD} {cy : Nat → ClassId} {X : va_W} {A : Nat → Prop} {S0 : wS} {post : wS → Prop} (F : CallFix p m c cX1_gather 6 s args wz_X1_gather RX1) (hr : meth.sig.returnType = none) (hlocks : meth.locks = false) (hK : wK D cy A s) : ∀ {S : wS} {H : Heap} {locs : List Loc} {ls : Array Slot} {a0 : Nat} {a1 : Nat} {a2 : Nat}, wp_X1_gather_0 D post S a0 a1 a2 → wO D cy X A s.heap S H locs → wX D S0 S → lv_has ls 6 [(0, .ref a0), (1, .ref a1), (2, .ref a2)] → wM D S a0 → sK S a0 = 6 → wM D S a1 → sK S a1 = 15 → wM D S a2 → sK S a2 = 12 → W p l e r_X1_gather s m args below meth c H locs 0 0 (MQ below (va_Qv (fun S9 => wX D S0 S9 ∧ post S9) (wB D cy X A) A) args s 0 0 A) (F0 m 0 ls []) := by
  obtain ⟨hx, hb, hml, hown, hts⟩ := id F
  have hwg : ∀ w ∈ WG, w.before args s = true := fun w h => hts w (List.mem_cons_of_mem _ h)
  have i_6 : ∀ w ∈ u_ws RX1 TX1 4, w ∈ wz_X1_gather := fun w h => List.mem_cons_of_mem _ (wu_6 w h)
  have k_15 := hwg _ wf_RX1_15
  have k_22 := hwg _ wf_RX1_22
  have k_9 := hwg _ wf_RX1_9
  intro S H locs ls a0 a1 a2 hp hW hE hl hL_a0 hK_a0 hL_a1 hK_a1 hL_a2 hK_a2
  unfold wp_X1_gather_0 at hp
  refine lv_aload_n hx hb dX1_gather_0 rfl (lv_at hl 0 rfl) ?_
  obtain ⟨y_1, ey_1, hL_y_1, hK_y_1, hp⟩ := hp
  refine w_get (k := 6) (f := 0) (T := TX1) (v := .ref y_1) F hK hW hL_a0 hK_a0 (by decide) rfl rfl (by decide) i_6 k_22 (by rw [show wv 6 0 S a0 = va_rf (sR S a0 0) from rfl, ey_1]; rfl) dX1_gather_1 ?_
  refine lv_aload_n hx hb dX1_gather_4 rfl (lv_at hl 2 rfl) ?_
  refine w_callV (va_runV (As := [.ref a2]) (rest := []) F (c_X4_look l hL_y_1 hK_y_1 hL_a2 hK_a2 hp H.size) (cwV (C := RX4) 1 hts (wg_V wm_RX1_26 wy_X4_look) rfl rfl rfl (by decide +kernel) ⟨Nat.le_of_ble_eq_true rfl, Nat.le_of_ble_eq_true rfl⟩) (w_preV hK hW hL_y_1 hK_y_1 (by decide) rfl) rfl rfl hl.1 rfl (lv_room (Nat.le_of_ble_eq_true rfl)) dX1_gather_5 ⟨Nat.le_of_ble_eq_true rfl, Nat.le_of_ble_eq_true rfl⟩) hW (fun S_3 H locs hp hW => ?_)
  obtain ⟨hX_S_3, hp⟩ := hp
  refine W.widen (k := 0) (n := 0) (by decide) (by decide) ?_
  have hE := hE.trans hX_S_3
  have hK_a0 : sK S_3 a0 = 6 := (hX_S_3.2 a0 hL_a0).1.trans hK_a0
  have hL_a0 : wM D S_3 a0 := hX_S_3.M hL_a0
  have hK_a1 : sK S_3 a1 = 15 := (hX_S_3.2 a1 hL_a1).1.trans hK_a1
  have hL_a1 : wM D S_3 a1 := hX_S_3.M hL_a1
  have hK_a2 : sK S_3 a2 = 12 := (hX_S_3.2 a2 hL_a2).1.trans hK_a2
  have hL_a2 : wM D S_3 a2 := hX_S_3.M hL_a2
  refine lv_aload_n hx hb dX1_gather_8 rfl (lv_at hl 0 rfl) ?_
  obtain ⟨y_4, ey_4, hL_y_4, hK_y_4, hp⟩ := hp
  refine w_get (k := 6) (f := 1) (T := TX1) (v := .ref y_4) F hK hW hL_a0 hK_a0 (by decide) rfl rfl (by decide) i_6 k_9 (by rw [show wv 6 1 S_3 a0 = va_rf (sR S_3 a0 1) from rfl, ey_4]; rfl) dX1_gather_9 ?_
  refine lv_iconst (v := 0) hx hb dX1_gather_12 (by decide) ?_
  refine w_callV (va_runS (As := [.ref y_4, .int (0 : Int32)]) (rest := []) F (c_J7_fill_53178 l hL_y_4 hK_y_4 hp H.size) (va_cwS 2 hts (wg_S wm_RX1_32 wy_J7_fill_53178) rfl rfl rfl (by decide +kernel) ⟨Nat.le_of_ble_eq_true rfl, Nat.le_of_ble_eq_true rfl⟩) (w_preS hK hW) rfl rfl hl.1 rfl (lv_room (Nat.le_of_ble_eq_true rfl)) dX1_gather_13 ⟨Nat.le_of_ble_eq_true rfl, Nat.le_of_ble_eq_true rfl⟩) hW (fun S_6 H locs hp hW => ?_)
  obtain ⟨hX_S_6, hp⟩ := hp
  refine W.widen (k := 0) (n := 0) (by decide) (by decide) ?_
  have hE := hE.trans hX_S_6
  have hK_a0 : sK S_6 a0 = 6 := (hX_S_6.2 a0 hL_a0).1.trans hK_a0
  have hL_a0 : wM D S_6 a0 := hX_S_6.M hL_a0
  have hK_a1 : sK S_6 a1 = 15 := (hX_S_6.2 a1 hL_a1).1.trans hK_a1
  have hL_a1 : wM D S_6 a1 := hX_S_6.M hL_a1
  have hK_a2 : sK S_6 a2 = 12 := (hX_S_6.2 a2 hL_a2).1.trans hK_a2
  have hL_a2 : wM D S_6 a2 := hX_S_6.M hL_a2
  refine lv_aload_n hx hb dX1_gather_16 rfl (lv_at hl 0 rfl) ?_
  obtain ⟨y_7, ey_7, hL_y_7, hK_y_7, hp⟩ := hp
  refine w_get (k := 6) (f := 2) (T := TX1) (v := .ref y_7) F hK hW hL_a0 hK_a0 (by decide) rfl rfl (by decide) i_6 k_15 (by rw [show wv 6 2 S_6 a0 = va_rf (sR S_6 a0 2) from rfl, ey_7]; rfl) dX1_gather_17 ?_
  refine lv_iconst (v := (-1)) hx hb dX1_gather_20 (by decide) ?_
  refine w_callV (va_runS (As := [.ref y_7, .int (-1 : Int32)]) (rest := []) F (c_J7_fill_53178 l hL_y_7 hK_y_7 hp H.size) (va_cwS 2 hts (wg_S wm_RX1_32 wy_J7_fill_53178) rfl rfl rfl (by decide +kernel) ⟨Nat.le_of_ble_eq_true rfl, Nat.le_of_ble_eq_true rfl⟩) (w_preS hK hW) rfl rfl hl.1 rfl (lv_room (Nat.le_of_ble_eq_true rfl)) dX1_gather_21 ⟨Nat.le_of_ble_eq_true rfl, Nat.le_of_ble_eq_true rfl⟩) hW (fun S_9 H locs hp hW => ?_)
  obtain ⟨hX_S_9, hp⟩ := hp
  refine W.widen (k := 0) (n := 0) (by decide) (by decide) ?_
  have hE := hE.trans hX_S_9
  have hK_a0 : sK S_9 a0 = 6 := (hX_S_9.2 a0 hL_a0).1.trans hK_a0
  have hL_a0 : wM D S_9 a0 := hX_S_9.M hL_a0
  have hK_a1 : sK S_9 a1 = 15 := (hX_S_9.2 a1 hL_a1).1.trans hK_a1
  have hL_a1 : wM D S_9 a1 := hX_S_9.M hL_a1
  have hK_a2 : sK S_9 a2 = 12 := (hX_S_9.2 a2 hL_a2).1.trans hK_a2
  have hL_a2 : wM D S_9 a2 := hX_S_9.M hL_a2
  refine lv_iconst (v := 0) hx hb dX1_gather_24 (by decide) ?_
  refine lv_istore_n (lv' := [(3, .int (0 : Int32)), (0, .ref a0), (1, .ref a1), (2, .ref a2)]) hx hb dX1_gather_25 rfl hl (by decide) rfl (fun ls hl => ?_)
  obtain ⟨n_10, hp⟩ := hp
  exact t_X1_gather_26 F hr hlocks hK n_10 hp hW hE (lv_sub hl [1, 2, 3, 0] rfl) hL_a0 hK_a0 hL_a1 hK_a1 hL_a2 hK_a2
set_option maxHeartbeats 4000000 in
set_option maxRecDepth 100000 in
theorem c_X1_gather (l : Launch) {D : wD} {cy : Nat → ClassId} {X : va_W} {S0 : wS} {post : wS → Prop} {a0 : Nat} {a1 : Nat} {a2 : Nat} (hL_a0 : wM D S0 a0) (hK_a0 : sK S0 a0 = 6) (hL_a1 : wM D S0 a1) (hK_a1 : sK S0 a1 = 15) (hL_a2 : wM D S0 a2) (hK_a2 : sK S0 a2 = 12) (hp : wp_X1_gather D post S0 a0 a1 a2) : mV D cy X l yX1_gather wz_X1_gather r_X1_gather [.ref a0, .ref a1, .ref a2] S0 (fun S9 => wX D S0 S9 ∧ post S9) := by
  intro sz
  refine Met.ofW (cc := cX1_gather) (maxL := 6) (ret := none) (by decide) rfl ?_
  intro p e s m args below meth c s₁ B hml hv
  obtain ⟨rfl, hsz, hP, hK, hD0, hRO⟩ := hv
  have hts := atoms_spec (ws := wz_X1_gather) B.pre
  have hown : s.vm.findClass RX1 = some m.cls := findClass_of_methodNamed B.named
  subst hsz
  have hD := hD0.self (sz := s.heap.size)
  have F : CallFix p m c cX1_gather 6 s _ wz_X1_gather RX1 := ⟨B.exec, B.bytes, hml, hown, hts⟩
  have hr := B.returns
  have hlocks := B.notSynchronized
  generalize hAe : va_A (wL cy X S0) s.heap.size = A at hD hK ⊢
  have hA : ∀ q, s.heap.size ≤ q → A q := fun q h => by rw [← hAe]; exact Or.inr h
  have hW : wO D cy X A s.heap S0 s.heap [] := ⟨hP, hD, va_S.rf, hA, hRO⟩
  have hl := lv_entry ([.ref a0, .ref a1, .ref a2]) (n := 6) (Nat.le_of_ble_eq_true rfl)
  rw [lg_entry_eq]
  generalize (lg_sl ([.ref a0, .ref a1, .ref a2]) ++ List.replicate (6 - (lg_sl ([.ref a0, .ref a1, .ref a2])).length) Slot.unset).toArray = ls at hl ⊢
  have hl : lv_has ls 6 [(0, .ref a0), (1, .ref a1), (2, .ref a2)] := hl
  unfold wp_X1_gather at hp
  exact t_X1_gather_0 F hr hlocks hK hp hW wX.rf (lv_sub hl [0, 1, 2] rfl) hL_a0 hK_a0 hL_a1 hK_a1 hL_a2 hK_a2
