theorem dJ15_checkIndex_7cf53_0 : decode cJ15_checkIndex_7cf53 0 = .ok (.iload_n 0, 1) := by decide +kernel
theorem dJ15_checkIndex_7cf53_1 : decode cJ15_checkIndex_7cf53 1 = .ok (.iload_n 1, 1) := by decide +kernel
theorem dJ15_checkIndex_7cf53_2 : decode cJ15_checkIndex_7cf53 2 = .ok (.aconst_null, 1) := by decide +kernel
theorem dJ15_checkIndex_7cf53_3 : decode cJ15_checkIndex_7cf53 3 = .ok (.invokestatic 105, 3) := by decide +kernel
theorem dJ15_checkIndex_7cf53_6 : decode cJ15_checkIndex_7cf53 6 = .ok (.ireturn, 1) := by decide +kernel
theorem dJ1_canEncode_fc78d_0 : decode cJ1_canEncode_fc78d 0 = .ok (.iload_n 0, 1) := by decide +kernel
theorem dJ1_canEncode_fc78d_1 : decode cJ1_canEncode_fc78d 1 = .ok (.sipush 255, 3) := by decide +kernel
theorem dJ1_canEncode_fc78d_4 : decode cJ1_canEncode_fc78d 4 = .ok (.if_icmp .gt 7, 3) := by decide +kernel
theorem dJ1_canEncode_fc78d_7 : decode cJ1_canEncode_fc78d 7 = .ok (.iconst 1, 1) := by decide +kernel
theorem dJ1_canEncode_fc78d_8 : decode cJ1_canEncode_fc78d 8 = .ok (.goto 4, 3) := by decide +kernel
theorem dJ1_canEncode_fc78d_11 : decode cJ1_canEncode_fc78d 11 = .ok (.iconst 0, 1) := by decide +kernel
theorem dJ1_canEncode_fc78d_12 : decode cJ1_canEncode_fc78d 12 = .ok (.ireturn, 1) := by decide +kernel
theorem dJx00060_init_d00df_0 : decode cJx00060_init_d00df 0 = .ok (.aload_n 0, 1) := by decide +kernel
theorem dJx00060_init_d00df_1 : decode cJx00060_init_d00df 1 = .ok (.new 10, 3) := by decide +kernel
theorem dJx00060_init_d00df_4 : decode cJx00060_init_d00df 4 = .ok (.dup, 1) := by decide +kernel
theorem dJx00060_init_d00df_5 : decode cJx00060_init_d00df 5 = .ok (.invokespecial 12, 3) := by decide +kernel
theorem dJx00060_init_d00df_8 : decode cJx00060_init_d00df 8 = .ok (.ldc 13, 2) := by decide +kernel
theorem dJx00060_init_d00df_10 : decode cJx00060_init_d00df 10 = .ok (.invokevirtual 15, 3) := by decide +kernel
theorem dJx00060_init_d00df_13 : decode cJx00060_init_d00df 13 = .ok (.iload_n 1, 1) := by decide +kernel
theorem dJx00060_init_d00df_14 : decode cJx00060_init_d00df 14 = .ok (.invokevirtual 19, 3) := by decide +kernel
theorem dJx00060_init_d00df_17 : decode cJx00060_init_d00df 17 = .ok (.invokevirtual 22, 3) := by decide +kernel
theorem dJx00060_init_d00df_20 : decode cJx00060_init_d00df 20 = .ok (.invokespecial 7, 3) := by decide +kernel
theorem dJx00060_init_d00df_23 : decode cJx00060_init_d00df 23 = .ok (.return_, 1) := by decide +kernel
theorem dJ7_rangeCheck_23922_0 : decode cJ7_rangeCheck_23922 0 = .ok (.iload_n 1, 1) := by decide +kernel
theorem dJ7_rangeCheck_23922_1 : decode cJ7_rangeCheck_23922 1 = .ok (.iload_n 2, 1) := by decide +kernel
theorem dJ7_rangeCheck_23922_2 : decode cJ7_rangeCheck_23922 2 = .ok (.if_icmp .le 44, 3) := by decide +kernel
theorem dJ7_rangeCheck_23922_5 : decode cJ7_rangeCheck_23922 5 = .ok (.new 43, 3) := by decide +kernel
theorem dJ7_rangeCheck_23922_8 : decode cJ7_rangeCheck_23922 8 = .ok (.dup, 1) := by decide +kernel
theorem dJ7_rangeCheck_23922_9 : decode cJ7_rangeCheck_23922 9 = .ok (.new 45, 3) := by decide +kernel
theorem dJ7_rangeCheck_23922_12 : decode cJ7_rangeCheck_23922 12 = .ok (.dup, 1) := by decide +kernel
theorem dJ7_rangeCheck_23922_13 : decode cJ7_rangeCheck_23922 13 = .ok (.invokespecial 47, 3) := by decide +kernel
theorem dJ7_rangeCheck_23922_16 : decode cJ7_rangeCheck_23922 16 = .ok (.ldc 48, 2) := by decide +kernel
theorem dJ7_rangeCheck_23922_18 : decode cJ7_rangeCheck_23922 18 = .ok (.invokevirtual 50, 3) := by decide +kernel
theorem dJ7_rangeCheck_23922_21 : decode cJ7_rangeCheck_23922 21 = .ok (.iload_n 1, 1) := by decide +kernel
theorem dJ7_rangeCheck_23922_22 : decode cJ7_rangeCheck_23922 22 = .ok (.invokevirtual 54, 3) := by decide +kernel
theorem dJ7_rangeCheck_23922_25 : decode cJ7_rangeCheck_23922 25 = .ok (.ldc 57, 2) := by decide +kernel
theorem dJ7_rangeCheck_23922_27 : decode cJ7_rangeCheck_23922 27 = .ok (.invokevirtual 50, 3) := by decide +kernel
theorem dJ7_rangeCheck_23922_30 : decode cJ7_rangeCheck_23922 30 = .ok (.iload_n 2, 1) := by decide +kernel
theorem dJ7_rangeCheck_23922_31 : decode cJ7_rangeCheck_23922 31 = .ok (.invokevirtual 54, 3) := by decide +kernel
theorem dJ7_rangeCheck_23922_34 : decode cJ7_rangeCheck_23922 34 = .ok (.ldc 59, 2) := by decide +kernel
theorem dJ7_rangeCheck_23922_36 : decode cJ7_rangeCheck_23922 36 = .ok (.invokevirtual 50, 3) := by decide +kernel
theorem dJ7_rangeCheck_23922_39 : decode cJ7_rangeCheck_23922 39 = .ok (.invokevirtual 61, 3) := by decide +kernel
theorem dJ7_rangeCheck_23922_42 : decode cJ7_rangeCheck_23922 42 = .ok (.invokespecial 65, 3) := by decide +kernel
theorem dJ7_rangeCheck_23922_45 : decode cJ7_rangeCheck_23922 45 = .ok (.athrow, 1) := by decide +kernel
theorem dJ7_rangeCheck_23922_46 : decode cJ7_rangeCheck_23922 46 = .ok (.iload_n 1, 1) := by decide +kernel
theorem dJ7_rangeCheck_23922_47 : decode cJ7_rangeCheck_23922 47 = .ok (.ifCond .ge 12, 3) := by decide +kernel
theorem dJ7_rangeCheck_23922_50 : decode cJ7_rangeCheck_23922 50 = .ok (.new 68, 3) := by decide +kernel
theorem dJ7_rangeCheck_23922_53 : decode cJ7_rangeCheck_23922 53 = .ok (.dup, 1) := by decide +kernel
theorem dJ7_rangeCheck_23922_54 : decode cJ7_rangeCheck_23922 54 = .ok (.iload_n 1, 1) := by decide +kernel
theorem dJ7_rangeCheck_23922_55 : decode cJ7_rangeCheck_23922 55 = .ok (.invokespecial 70, 3) := by decide +kernel
theorem dJ7_rangeCheck_23922_58 : decode cJ7_rangeCheck_23922 58 = .ok (.athrow, 1) := by decide +kernel
theorem dJ7_rangeCheck_23922_59 : decode cJ7_rangeCheck_23922 59 = .ok (.iload_n 2, 1) := by decide +kernel
theorem dJ7_rangeCheck_23922_60 : decode cJ7_rangeCheck_23922 60 = .ok (.iload_n 0, 1) := by decide +kernel
theorem dJ7_rangeCheck_23922_61 : decode cJ7_rangeCheck_23922 61 = .ok (.if_icmp .le 12, 3) := by decide +kernel
theorem dJ7_rangeCheck_23922_64 : decode cJ7_rangeCheck_23922 64 = .ok (.new 68, 3) := by decide +kernel
theorem dJ7_rangeCheck_23922_67 : decode cJ7_rangeCheck_23922 67 = .ok (.dup, 1) := by decide +kernel
theorem dJ7_rangeCheck_23922_68 : decode cJ7_rangeCheck_23922 68 = .ok (.iload_n 2, 1) := by decide +kernel
theorem dJ7_rangeCheck_23922_69 : decode cJ7_rangeCheck_23922 69 = .ok (.invokespecial 70, 3) := by decide +kernel
theorem dJ7_rangeCheck_23922_72 : decode cJ7_rangeCheck_23922 72 = .ok (.athrow, 1) := by decide +kernel
theorem dJ7_rangeCheck_23922_73 : decode cJ7_rangeCheck_23922 73 = .ok (.return_, 1) := by decide +kernel
theorem dJ7_fill_eb02e_0 : decode cJ7_fill_eb02e 0 = .ok (.aload_n 0, 1) := by decide +kernel
theorem dJ7_fill_eb02e_1 : decode cJ7_fill_eb02e 1 = .ok (.arraylength, 1) := by decide +kernel
theorem dJ7_fill_eb02e_2 : decode cJ7_fill_eb02e 2 = .ok (.iload_n 1, 1) := by decide +kernel
theorem dJ7_fill_eb02e_3 : decode cJ7_fill_eb02e 3 = .ok (.iload_n 2, 1) := by decide +kernel
theorem dJ7_fill_eb02e_4 : decode cJ7_fill_eb02e 4 = .ok (.invokestatic 13, 3) := by decide +kernel
theorem dJ7_fill_eb02e_7 : decode cJ7_fill_eb02e 7 = .ok (.iload_n 1, 1) := by decide +kernel
theorem dJ7_fill_eb02e_8 : decode cJ7_fill_eb02e 8 = .ok (.istore 4, 2) := by decide +kernel
theorem dJ7_fill_eb02e_10 : decode cJ7_fill_eb02e 10 = .ok (.iload 4, 2) := by decide +kernel
theorem dJ7_fill_eb02e_12 : decode cJ7_fill_eb02e 12 = .ok (.iload_n 2, 1) := by decide +kernel
theorem dJ7_fill_eb02e_13 : decode cJ7_fill_eb02e 13 = .ok (.if_icmp .ge 14, 3) := by decide +kernel
theorem dJ7_fill_eb02e_16 : decode cJ7_fill_eb02e 16 = .ok (.aload_n 0, 1) := by decide +kernel
theorem dJ7_fill_eb02e_17 : decode cJ7_fill_eb02e 17 = .ok (.iload 4, 2) := by decide +kernel
theorem dJ7_fill_eb02e_19 : decode cJ7_fill_eb02e 19 = .ok (.iload_n 3, 1) := by decide +kernel
theorem dJ7_fill_eb02e_20 : decode cJ7_fill_eb02e 20 = .ok (.bastore, 1) := by decide +kernel
theorem dJ7_fill_eb02e_21 : decode cJ7_fill_eb02e 21 = .ok (.iinc 4 1, 3) := by decide +kernel
theorem dJ7_fill_eb02e_24 : decode cJ7_fill_eb02e 24 = .ok (.goto (-14), 3) := by decide +kernel
theorem dJ7_fill_eb02e_27 : decode cJ7_fill_eb02e 27 = .ok (.return_, 1) := by decide +kernel
theorem dJ1_fillNull_b72d1_0 : decode cJ1_fillNull_b72d1 0 = .ok (.aload_n 0, 1) := by decide +kernel
theorem dJ1_fillNull_b72d1_1 : decode cJ1_fillNull_b72d1 1 = .ok (.iload_n 1, 1) := by decide +kernel
theorem dJ1_fillNull_b72d1_2 : decode cJ1_fillNull_b72d1 2 = .ok (.iload_n 2, 1) := by decide +kernel
theorem dJ1_fillNull_b72d1_3 : decode cJ1_fillNull_b72d1 3 = .ok (.iconst 0, 1) := by decide +kernel
theorem dJ1_fillNull_b72d1_4 : decode cJ1_fillNull_b72d1 4 = .ok (.invokestatic 236, 3) := by decide +kernel
theorem dJ1_fillNull_b72d1_7 : decode cJ1_fillNull_b72d1 7 = .ok (.return_, 1) := by decide +kernel
theorem dJ2_fillNull_b72d1_0 : decode cJ2_fillNull_b72d1 0 = .ok (.aload_n 0, 1) := by decide +kernel
theorem dJ2_fillNull_b72d1_1 : decode cJ2_fillNull_b72d1 1 = .ok (.iload_n 1, 1) := by decide +kernel
theorem dJ2_fillNull_b72d1_2 : decode cJ2_fillNull_b72d1 2 = .ok (.iconst 1, 1) := by decide +kernel
theorem dJ2_fillNull_b72d1_3 : decode cJ2_fillNull_b72d1 3 = .ok (.ishl, 1) := by decide +kernel
theorem dJ2_fillNull_b72d1_4 : decode cJ2_fillNull_b72d1 4 = .ok (.iload_n 2, 1) := by decide +kernel
theorem dJ2_fillNull_b72d1_5 : decode cJ2_fillNull_b72d1 5 = .ok (.iconst 1, 1) := by decide +kernel
theorem dJ2_fillNull_b72d1_6 : decode cJ2_fillNull_b72d1 6 = .ok (.ishl, 1) := by decide +kernel
theorem dJ2_fillNull_b72d1_7 : decode cJ2_fillNull_b72d1 7 = .ok (.iconst 0, 1) := by decide +kernel
theorem dJ2_fillNull_b72d1_8 : decode cJ2_fillNull_b72d1 8 = .ok (.invokestatic 380, 3) := by decide +kernel
theorem dJ2_fillNull_b72d1_11 : decode cJ2_fillNull_b72d1 11 = .ok (.return_, 1) := by decide +kernel
theorem dJ2_putCharSB_b72d1_0 : decode cJ2_putCharSB_b72d1 0 = .ok (.iload_n 1, 1) := by decide +kernel
theorem dJ2_putCharSB_b72d1_1 : decode cJ2_putCharSB_b72d1 1 = .ok (.aload_n 0, 1) := by decide +kernel
theorem dJ2_putCharSB_b72d1_2 : decode cJ2_putCharSB_b72d1 2 = .ok (.invokestatic 67, 3) := by decide +kernel
theorem dJ2_putCharSB_b72d1_5 : decode cJ2_putCharSB_b72d1 5 = .ok (.aload_n 0, 1) := by decide +kernel
theorem dJ2_putCharSB_b72d1_6 : decode cJ2_putCharSB_b72d1 6 = .ok (.iload_n 1, 1) := by decide +kernel
theorem dJ2_putCharSB_b72d1_7 : decode cJ2_putCharSB_b72d1 7 = .ok (.iload_n 2, 1) := by decide +kernel
theorem dJ2_putCharSB_b72d1_8 : decode cJ2_putCharSB_b72d1 8 = .ok (.invokestatic 111, 3) := by decide +kernel
theorem dJ2_putCharSB_b72d1_11 : decode cJ2_putCharSB_b72d1 11 = .ok (.return_, 1) := by decide +kernel
theorem dJ5_append_3fe6f_0 : decode cJ5_append_3fe6f 0 = .ok (.aload_n 0, 1) := by decide +kernel
theorem dJ5_append_3fe6f_1 : decode cJ5_append_3fe6f 1 = .ok (.aload_n 0, 1) := by decide +kernel
theorem dJ5_append_3fe6f_2 : decode cJ5_append_3fe6f 2 = .ok (.getfield 79, 3) := by decide +kernel
theorem dJ5_append_3fe6f_5 : decode cJ5_append_3fe6f 5 = .ok (.iconst 1, 1) := by decide +kernel
theorem dJ5_append_3fe6f_6 : decode cJ5_append_3fe6f 6 = .ok (.iadd, 1) := by decide +kernel
theorem dJ5_append_3fe6f_7 : decode cJ5_append_3fe6f 7 = .ok (.invokevirtual 100, 3) := by decide +kernel
theorem dJ5_append_3fe6f_10 : decode cJ5_append_3fe6f 10 = .ok (.aload_n 0, 1) := by decide +kernel
theorem dJ5_append_3fe6f_11 : decode cJ5_append_3fe6f 11 = .ok (.invokevirtual 83, 3) := by decide +kernel
theorem dJ5_append_3fe6f_14 : decode cJ5_append_3fe6f 14 = .ok (.ifCond .eq 31, 3) := by decide +kernel
theorem dJ5_append_3fe6f_17 : decode cJ5_append_3fe6f 17 = .ok (.iload_n 1, 1) := by decide +kernel
theorem dJ5_append_3fe6f_18 : decode cJ5_append_3fe6f 18 = .ok (.invokestatic 191, 3) := by decide +kernel
theorem dJ5_append_3fe6f_21 : decode cJ5_append_3fe6f 21 = .ok (.ifCond .eq 24, 3) := by decide +kernel
theorem dJ5_append_3fe6f_24 : decode cJ5_append_3fe6f 24 = .ok (.aload_n 0, 1) := by decide +kernel
theorem dJ5_append_3fe6f_25 : decode cJ5_append_3fe6f 25 = .ok (.getfield 15, 3) := by decide +kernel
theorem dJ5_append_3fe6f_28 : decode cJ5_append_3fe6f 28 = .ok (.aload_n 0, 1) := by decide +kernel
theorem dJ5_append_3fe6f_29 : decode cJ5_append_3fe6f 29 = .ok (.dup, 1) := by decide +kernel
theorem dJ5_append_3fe6f_30 : decode cJ5_append_3fe6f 30 = .ok (.getfield 79, 3) := by decide +kernel
theorem dJ5_append_3fe6f_33 : decode cJ5_append_3fe6f 33 = .ok (.dup_x1, 1) := by decide +kernel
theorem dJ5_append_3fe6f_34 : decode cJ5_append_3fe6f 34 = .ok (.iconst 1, 1) := by decide +kernel
theorem dJ5_append_3fe6f_35 : decode cJ5_append_3fe6f 35 = .ok (.iadd, 1) := by decide +kernel
theorem dJ5_append_3fe6f_36 : decode cJ5_append_3fe6f 36 = .ok (.putfield 79, 3) := by decide +kernel
theorem dJ5_append_3fe6f_39 : decode cJ5_append_3fe6f 39 = .ok (.iload_n 1, 1) := by decide +kernel
theorem dJ5_append_3fe6f_40 : decode cJ5_append_3fe6f 40 = .ok (.i2b, 1) := by decide +kernel
theorem dJ5_append_3fe6f_41 : decode cJ5_append_3fe6f 41 = .ok (.bastore, 1) := by decide +kernel
theorem dJ5_append_3fe6f_42 : decode cJ5_append_3fe6f 42 = .ok (.goto 33, 3) := by decide +kernel
theorem dJ5_append_3fe6f_45 : decode cJ5_append_3fe6f 45 = .ok (.aload_n 0, 1) := by decide +kernel
theorem dJ5_append_3fe6f_46 : decode cJ5_append_3fe6f 46 = .ok (.invokevirtual 83, 3) := by decide +kernel
theorem dJ5_append_3fe6f_49 : decode cJ5_append_3fe6f 49 = .ok (.ifCond .eq 7, 3) := by decide +kernel
theorem dJ5_append_3fe6f_52 : decode cJ5_append_3fe6f 52 = .ok (.aload_n 0, 1) := by decide +kernel
theorem dJ5_append_3fe6f_53 : decode cJ5_append_3fe6f 53 = .ok (.invokevirtual 195, 3) := by decide +kernel
theorem dJ5_append_3fe6f_56 : decode cJ5_append_3fe6f 56 = .ok (.aload_n 0, 1) := by decide +kernel
theorem dJ5_append_3fe6f_57 : decode cJ5_append_3fe6f 57 = .ok (.getfield 15, 3) := by decide +kernel
theorem dJ5_append_3fe6f_60 : decode cJ5_append_3fe6f 60 = .ok (.aload_n 0, 1) := by decide +kernel
theorem dJ5_append_3fe6f_61 : decode cJ5_append_3fe6f 61 = .ok (.dup, 1) := by decide +kernel
theorem dJ5_append_3fe6f_62 : decode cJ5_append_3fe6f 62 = .ok (.getfield 79, 3) := by decide +kernel
theorem dJ5_append_3fe6f_65 : decode cJ5_append_3fe6f 65 = .ok (.dup_x1, 1) := by decide +kernel
theorem dJ5_append_3fe6f_66 : decode cJ5_append_3fe6f 66 = .ok (.iconst 1, 1) := by decide +kernel
theorem dJ5_append_3fe6f_67 : decode cJ5_append_3fe6f 67 = .ok (.iadd, 1) := by decide +kernel
theorem dJ5_append_3fe6f_68 : decode cJ5_append_3fe6f 68 = .ok (.putfield 79, 3) := by decide +kernel
theorem dJ5_append_3fe6f_71 : decode cJ5_append_3fe6f 71 = .ok (.iload_n 1, 1) := by decide +kernel
theorem dJ5_append_3fe6f_72 : decode cJ5_append_3fe6f 72 = .ok (.invokestatic 197, 3) := by decide +kernel
theorem dJ5_append_3fe6f_75 : decode cJ5_append_3fe6f 75 = .ok (.aload_n 0, 1) := by decide +kernel
theorem dJ5_append_3fe6f_76 : decode cJ5_append_3fe6f 76 = .ok (.areturn, 1) := by decide +kernel
theorem dJ4_append_cf468_0 : decode cJ4_append_cf468 0 = .ok (.aload_n 0, 1) := by decide +kernel
theorem dJ4_append_cf468_1 : decode cJ4_append_cf468 1 = .ok (.iload_n 1, 1) := by decide +kernel
theorem dJ4_append_cf468_2 : decode cJ4_append_cf468 2 = .ok (.invokespecial 50, 3) := by decide +kernel
theorem dJ4_append_cf468_5 : decode cJ4_append_cf468 5 = .ok (.pop, 1) := by decide +kernel
theorem dJ4_append_cf468_6 : decode cJ4_append_cf468 6 = .ok (.aload_n 0, 1) := by decide +kernel
theorem dJ4_append_cf468_7 : decode cJ4_append_cf468 7 = .ok (.areturn, 1) := by decide +kernel
theorem dJ5_charAt_5068e_0 : decode cJ5_charAt_5068e 0 = .ok (.aload_n 0, 1) := by decide +kernel
theorem dJ5_charAt_5068e_1 : decode cJ5_charAt_5068e 1 = .ok (.getfield 22, 3) := by decide +kernel
theorem dJ5_charAt_5068e_4 : decode cJ5_charAt_5068e 4 = .ok (.istore_n 2, 1) := by decide +kernel
theorem dJ5_charAt_5068e_5 : decode cJ5_charAt_5068e 5 = .ok (.aload_n 0, 1) := by decide +kernel
theorem dJ5_charAt_5068e_6 : decode cJ5_charAt_5068e 6 = .ok (.getfield 15, 3) := by decide +kernel
theorem dJ5_charAt_5068e_9 : decode cJ5_charAt_5068e 9 = .ok (.astore_n 3, 1) := by decide +kernel
theorem dJ5_charAt_5068e_10 : decode cJ5_charAt_5068e 10 = .ok (.aload_n 0, 1) := by decide +kernel
theorem dJ5_charAt_5068e_11 : decode cJ5_charAt_5068e 11 = .ok (.getfield 79, 3) := by decide +kernel
theorem dJ5_charAt_5068e_14 : decode cJ5_charAt_5068e 14 = .ok (.aload_n 3, 1) := by decide +kernel
theorem dJ5_charAt_5068e_15 : decode cJ5_charAt_5068e 15 = .ok (.arraylength, 1) := by decide +kernel
theorem dJ5_charAt_5068e_16 : decode cJ5_charAt_5068e 16 = .ok (.iload_n 2, 1) := by decide +kernel
theorem dJ5_charAt_5068e_17 : decode cJ5_charAt_5068e 17 = .ok (.ishr, 1) := by decide +kernel
theorem dJ5_charAt_5068e_18 : decode cJ5_charAt_5068e 18 = .ok (.invokestatic 138, 3) := by decide +kernel
theorem dJ5_charAt_5068e_21 : decode cJ5_charAt_5068e 21 = .ok (.istore 4, 2) := by decide +kernel
theorem dJ5_charAt_5068e_23 : decode cJ5_charAt_5068e 23 = .ok (.iload_n 1, 1) := by decide +kernel
theorem dJ5_charAt_5068e_24 : decode cJ5_charAt_5068e 24 = .ok (.iload 4, 2) := by decide +kernel
theorem dJ5_charAt_5068e_26 : decode cJ5_charAt_5068e 26 = .ok (.invokestatic 144, 3) := by decide +kernel
theorem dJ5_charAt_5068e_29 : decode cJ5_charAt_5068e 29 = .ok (.iload_n 2, 1) := by decide +kernel
theorem dJ5_charAt_5068e_30 : decode cJ5_charAt_5068e 30 = .ok (.ifCond .ne 12, 3) := by decide +kernel
theorem dJ5_charAt_5068e_33 : decode cJ5_charAt_5068e 33 = .ok (.aload_n 3, 1) := by decide +kernel
theorem dJ5_charAt_5068e_34 : decode cJ5_charAt_5068e 34 = .ok (.iload_n 1, 1) := by decide +kernel
theorem dJ5_charAt_5068e_35 : decode cJ5_charAt_5068e 35 = .ok (.baload, 1) := by decide +kernel
theorem dJ5_charAt_5068e_36 : decode cJ5_charAt_5068e 36 = .ok (.sipush 255, 3) := by decide +kernel
theorem dJ5_charAt_5068e_39 : decode cJ5_charAt_5068e 39 = .ok (.iand, 1) := by decide +kernel
theorem dJ5_charAt_5068e_40 : decode cJ5_charAt_5068e 40 = .ok (.i2c, 1) := by decide +kernel
theorem dJ5_charAt_5068e_41 : decode cJ5_charAt_5068e 41 = .ok (.ireturn, 1) := by decide +kernel
theorem dJ5_charAt_5068e_42 : decode cJ5_charAt_5068e 42 = .ok (.aload_n 3, 1) := by decide +kernel
theorem dJ5_charAt_5068e_43 : decode cJ5_charAt_5068e 43 = .ok (.iload_n 1, 1) := by decide +kernel
theorem dJ5_charAt_5068e_44 : decode cJ5_charAt_5068e 44 = .ok (.invokestatic 148, 3) := by decide +kernel
theorem dJ5_charAt_5068e_47 : decode cJ5_charAt_5068e 47 = .ok (.ireturn, 1) := by decide +kernel
theorem dJ4_charAt_5068e_0 : decode cJ4_charAt_5068e 0 = .ok (.aload_n 0, 1) := by decide +kernel
theorem dJ4_charAt_5068e_1 : decode cJ4_charAt_5068e 1 = .ok (.iload_n 1, 1) := by decide +kernel
theorem dJ4_charAt_5068e_2 : decode cJ4_charAt_5068e 2 = .ok (.invokespecial 329, 3) := by decide +kernel
theorem dJ4_charAt_5068e_5 : decode cJ4_charAt_5068e 5 = .ok (.ireturn, 1) := by decide +kernel
theorem dJ4_length_8abf5_0 : decode cJ4_length_8abf5 0 = .ok (.aload_n 0, 1) := by decide +kernel
theorem dJ4_length_8abf5_1 : decode cJ4_length_8abf5 1 = .ok (.invokespecial 343, 3) := by decide +kernel
theorem dJ4_length_8abf5_4 : decode cJ4_length_8abf5 4 = .ok (.ireturn, 1) := by decide +kernel
theorem dJx7c733_init_d00df_0 : decode cJx7c733_init_d00df 0 = .ok (.aload_n 0, 1) := by decide +kernel
theorem dJx7c733_init_d00df_1 : decode cJx7c733_init_d00df 1 = .ok (.new 10, 3) := by decide +kernel
theorem dJx7c733_init_d00df_4 : decode cJx7c733_init_d00df 4 = .ok (.dup, 1) := by decide +kernel
theorem dJx7c733_init_d00df_5 : decode cJx7c733_init_d00df 5 = .ok (.invokespecial 12, 3) := by decide +kernel
theorem dJx7c733_init_d00df_8 : decode cJx7c733_init_d00df 8 = .ok (.ldc 13, 2) := by decide +kernel
theorem dJx7c733_init_d00df_10 : decode cJx7c733_init_d00df 10 = .ok (.invokevirtual 15, 3) := by decide +kernel
theorem dJx7c733_init_d00df_13 : decode cJx7c733_init_d00df 13 = .ok (.iload_n 1, 1) := by decide +kernel
theorem dJx7c733_init_d00df_14 : decode cJx7c733_init_d00df 14 = .ok (.invokevirtual 19, 3) := by decide +kernel
theorem dJx7c733_init_d00df_17 : decode cJx7c733_init_d00df 17 = .ok (.invokevirtual 22, 3) := by decide +kernel
theorem dJx7c733_init_d00df_20 : decode cJx7c733_init_d00df 20 = .ok (.invokespecial 7, 3) := by decide +kernel
theorem dJx7c733_init_d00df_23 : decode cJx7c733_init_d00df 23 = .ok (.return_, 1) := by decide +kernel
theorem dJ5_setLength_d00df_0 : decode cJ5_setLength_d00df 0 = .ok (.iload_n 1, 1) := by decide +kernel
theorem dJ5_setLength_d00df_1 : decode cJ5_setLength_d00df 1 = .ok (.ifCond .ge 12, 3) := by decide +kernel
theorem dJ5_setLength_d00df_4 : decode cJ5_setLength_d00df 4 = .ok (.new 129, 3) := by decide +kernel
theorem dJ5_setLength_d00df_7 : decode cJ5_setLength_d00df 7 = .ok (.dup, 1) := by decide +kernel
theorem dJ5_setLength_d00df_8 : decode cJ5_setLength_d00df 8 = .ok (.iload_n 1, 1) := by decide +kernel
theorem dJ5_setLength_d00df_9 : decode cJ5_setLength_d00df 9 = .ok (.invokespecial 131, 3) := by decide +kernel
theorem dJ5_setLength_d00df_12 : decode cJ5_setLength_d00df 12 = .ok (.athrow, 1) := by decide +kernel
theorem dJ5_setLength_d00df_13 : decode cJ5_setLength_d00df 13 = .ok (.aload_n 0, 1) := by decide +kernel
theorem dJ5_setLength_d00df_14 : decode cJ5_setLength_d00df 14 = .ok (.iload_n 1, 1) := by decide +kernel
theorem dJ5_setLength_d00df_15 : decode cJ5_setLength_d00df 15 = .ok (.invokevirtual 100, 3) := by decide +kernel
theorem dJ5_setLength_d00df_18 : decode cJ5_setLength_d00df 18 = .ok (.aload_n 0, 1) := by decide +kernel
theorem dJ5_setLength_d00df_19 : decode cJ5_setLength_d00df 19 = .ok (.getfield 79, 3) := by decide +kernel
theorem dJ5_setLength_d00df_22 : decode cJ5_setLength_d00df 22 = .ok (.iload_n 1, 1) := by decide +kernel
theorem dJ5_setLength_d00df_23 : decode cJ5_setLength_d00df 23 = .ok (.if_icmp .ge 40, 3) := by decide +kernel
theorem dJ5_setLength_d00df_26 : decode cJ5_setLength_d00df 26 = .ok (.aload_n 0, 1) := by decide +kernel
theorem dJ5_setLength_d00df_27 : decode cJ5_setLength_d00df 27 = .ok (.invokevirtual 83, 3) := by decide +kernel
theorem dJ5_setLength_d00df_30 : decode cJ5_setLength_d00df 30 = .ok (.ifCond .eq 18, 3) := by decide +kernel
theorem dJ5_setLength_d00df_33 : decode cJ5_setLength_d00df 33 = .ok (.aload_n 0, 1) := by decide +kernel
theorem dJ5_setLength_d00df_34 : decode cJ5_setLength_d00df 34 = .ok (.getfield 15, 3) := by decide +kernel
theorem dJ5_setLength_d00df_37 : decode cJ5_setLength_d00df 37 = .ok (.aload_n 0, 1) := by decide +kernel
theorem dJ5_setLength_d00df_38 : decode cJ5_setLength_d00df 38 = .ok (.getfield 79, 3) := by decide +kernel
theorem dJ5_setLength_d00df_41 : decode cJ5_setLength_d00df 41 = .ok (.iload_n 1, 1) := by decide +kernel
theorem dJ5_setLength_d00df_42 : decode cJ5_setLength_d00df 42 = .ok (.invokestatic 133, 3) := by decide +kernel
theorem dJ5_setLength_d00df_45 : decode cJ5_setLength_d00df 45 = .ok (.goto 31, 3) := by decide +kernel
theorem dJ5_setLength_d00df_48 : decode cJ5_setLength_d00df 48 = .ok (.aload_n 0, 1) := by decide +kernel
theorem dJ5_setLength_d00df_49 : decode cJ5_setLength_d00df 49 = .ok (.getfield 15, 3) := by decide +kernel
theorem dJ5_setLength_d00df_52 : decode cJ5_setLength_d00df 52 = .ok (.aload_n 0, 1) := by decide +kernel
theorem dJ5_setLength_d00df_53 : decode cJ5_setLength_d00df 53 = .ok (.getfield 79, 3) := by decide +kernel
theorem dJ5_setLength_d00df_56 : decode cJ5_setLength_d00df 56 = .ok (.iload_n 1, 1) := by decide +kernel
theorem dJ5_setLength_d00df_57 : decode cJ5_setLength_d00df 57 = .ok (.invokestatic 137, 3) := by decide +kernel
theorem dJ5_setLength_d00df_60 : decode cJ5_setLength_d00df 60 = .ok (.goto 16, 3) := by decide +kernel
theorem dJ5_setLength_d00df_63 : decode cJ5_setLength_d00df 63 = .ok (.aload_n 0, 1) := by decide +kernel
theorem dJ5_setLength_d00df_64 : decode cJ5_setLength_d00df 64 = .ok (.getfield 79, 3) := by decide +kernel
theorem dJ5_setLength_d00df_67 : decode cJ5_setLength_d00df 67 = .ok (.iload_n 1, 1) := by decide +kernel
theorem dJ5_setLength_d00df_68 : decode cJ5_setLength_d00df 68 = .ok (.if_icmp .le 8, 3) := by decide +kernel
theorem dJ5_setLength_d00df_71 : decode cJ5_setLength_d00df 71 = .ok (.aload_n 0, 1) := by decide +kernel
theorem dJ5_setLength_d00df_72 : decode cJ5_setLength_d00df 72 = .ok (.iconst 1, 1) := by decide +kernel
theorem dJ5_setLength_d00df_73 : decode cJ5_setLength_d00df 73 = .ok (.putfield 73, 3) := by decide +kernel
theorem dJ5_setLength_d00df_76 : decode cJ5_setLength_d00df 76 = .ok (.aload_n 0, 1) := by decide +kernel
theorem dJ5_setLength_d00df_77 : decode cJ5_setLength_d00df 77 = .ok (.iload_n 1, 1) := by decide +kernel
theorem dJ5_setLength_d00df_78 : decode cJ5_setLength_d00df 78 = .ok (.putfield 79, 3) := by decide +kernel
theorem dJ5_setLength_d00df_81 : decode cJ5_setLength_d00df 81 = .ok (.return_, 1) := by decide +kernel
theorem dJ4_setLength_d00df_0 : decode cJ4_setLength_d00df 0 = .ok (.aload_n 0, 1) := by decide +kernel
theorem dJ4_setLength_d00df_1 : decode cJ4_setLength_d00df 1 = .ok (.iload_n 1, 1) := by decide +kernel
theorem dJ4_setLength_d00df_2 : decode cJ4_setLength_d00df 2 = .ok (.invokespecial 333, 3) := by decide +kernel
theorem dJ4_setLength_d00df_5 : decode cJ4_setLength_d00df 5 = .ok (.return_, 1) := by decide +kernel
theorem dJ7_copyOf_6403c_0 : decode cJ7_copyOf_6403c 0 = .ok (.aload_n 2, 1) := by decide +kernel
theorem dJ7_copyOf_6403c_1 : decode cJ7_copyOf_6403c 1 = .ok (.ldc 110, 2) := by decide +kernel
theorem dJ7_copyOf_6403c_3 : decode cJ7_copyOf_6403c 3 = .ok (.if_acmp .ne 10, 3) := by decide +kernel
theorem dJ7_copyOf_6403c_6 : decode cJ7_copyOf_6403c 6 = .ok (.iload_n 1, 1) := by decide +kernel
theorem dJ7_copyOf_6403c_7 : decode cJ7_copyOf_6403c 7 = .ok (.anewarray 2, 3) := by decide +kernel
theorem dJ7_copyOf_6403c_10 : decode cJ7_copyOf_6403c 10 = .ok (.goto 14, 3) := by decide +kernel
theorem dJ7_copyOf_6403c_13 : decode cJ7_copyOf_6403c 13 = .ok (.aload_n 2, 1) := by decide +kernel
theorem dJ7_copyOf_6403c_14 : decode cJ7_copyOf_6403c 14 = .ok (.invokevirtual 90, 3) := by decide +kernel
theorem dJ7_copyOf_6403c_17 : decode cJ7_copyOf_6403c 17 = .ok (.iload_n 1, 1) := by decide +kernel
theorem dJ7_copyOf_6403c_18 : decode cJ7_copyOf_6403c 18 = .ok (.invokestatic 95, 3) := by decide +kernel
theorem dJ7_copyOf_6403c_21 : decode cJ7_copyOf_6403c 21 = .ok (.checkcast 110, 3) := by decide +kernel
theorem dJ7_copyOf_6403c_24 : decode cJ7_copyOf_6403c 24 = .ok (.astore_n 3, 1) := by decide +kernel
theorem dJ7_copyOf_6403c_25 : decode cJ7_copyOf_6403c 25 = .ok (.aload_n 0, 1) := by decide +kernel
theorem dJ7_copyOf_6403c_26 : decode cJ7_copyOf_6403c 26 = .ok (.iconst 0, 1) := by decide +kernel
theorem dJ7_copyOf_6403c_27 : decode cJ7_copyOf_6403c 27 = .ok (.aload_n 3, 1) := by decide +kernel
theorem dJ7_copyOf_6403c_28 : decode cJ7_copyOf_6403c 28 = .ok (.iconst 0, 1) := by decide +kernel
theorem dJ7_copyOf_6403c_29 : decode cJ7_copyOf_6403c 29 = .ok (.aload_n 0, 1) := by decide +kernel
theorem dJ7_copyOf_6403c_30 : decode cJ7_copyOf_6403c 30 = .ok (.arraylength, 1) := by decide +kernel
theorem dJ7_copyOf_6403c_31 : decode cJ7_copyOf_6403c 31 = .ok (.iload_n 1, 1) := by decide +kernel
theorem dJ7_copyOf_6403c_32 : decode cJ7_copyOf_6403c 32 = .ok (.invokestatic 304, 3) := by decide +kernel
theorem dJ7_copyOf_6403c_35 : decode cJ7_copyOf_6403c 35 = .ok (.invokestatic 150, 3) := by decide +kernel
theorem dJ7_copyOf_6403c_38 : decode cJ7_copyOf_6403c 38 = .ok (.aload_n 3, 1) := by decide +kernel
theorem dJ7_copyOf_6403c_39 : decode cJ7_copyOf_6403c 39 = .ok (.areturn, 1) := by decide +kernel
theorem dJ7_copyOf_1904c_0 : decode cJ7_copyOf_1904c 0 = .ok (.aload_n 0, 1) := by decide +kernel
theorem dJ7_copyOf_1904c_1 : decode cJ7_copyOf_1904c 1 = .ok (.iload_n 1, 1) := by decide +kernel
theorem dJ7_copyOf_1904c_2 : decode cJ7_copyOf_1904c 2 = .ok (.aload_n 0, 1) := by decide +kernel
theorem dJ7_copyOf_1904c_3 : decode cJ7_copyOf_1904c 3 = .ok (.invokevirtual 86, 3) := by decide +kernel
theorem dJ7_copyOf_1904c_6 : decode cJ7_copyOf_1904c 6 = .ok (.invokestatic 300, 3) := by decide +kernel
theorem dJ7_copyOf_1904c_9 : decode cJ7_copyOf_1904c 9 = .ok (.areturn, 1) := by decide +kernel
theorem dJ7_fill_53178_0 : decode cJ7_fill_53178 0 = .ok (.iconst 0, 1) := by decide +kernel
theorem dJ7_fill_53178_1 : decode cJ7_fill_53178 1 = .ok (.istore_n 2, 1) := by decide +kernel
theorem dJ7_fill_53178_2 : decode cJ7_fill_53178 2 = .ok (.aload_n 0, 1) := by decide +kernel
theorem dJ7_fill_53178_3 : decode cJ7_fill_53178 3 = .ok (.arraylength, 1) := by decide +kernel
theorem dJ7_fill_53178_4 : decode cJ7_fill_53178 4 = .ok (.istore_n 3, 1) := by decide +kernel
theorem dJ7_fill_53178_5 : decode cJ7_fill_53178 5 = .ok (.iload_n 2, 1) := by decide +kernel
theorem dJ7_fill_53178_6 : decode cJ7_fill_53178 6 = .ok (.iload_n 3, 1) := by decide +kernel
theorem dJ7_fill_53178_7 : decode cJ7_fill_53178 7 = .ok (.if_icmp .ge 13, 3) := by decide +kernel
theorem dJ7_fill_53178_10 : decode cJ7_fill_53178 10 = .ok (.aload_n 0, 1) := by decide +kernel
theorem dJ7_fill_53178_11 : decode cJ7_fill_53178 11 = .ok (.iload_n 2, 1) := by decide +kernel
theorem dJ7_fill_53178_12 : decode cJ7_fill_53178 12 = .ok (.iload_n 1, 1) := by decide +kernel
theorem dJ7_fill_53178_13 : decode cJ7_fill_53178 13 = .ok (.iastore, 1) := by decide +kernel
theorem dJ7_fill_53178_14 : decode cJ7_fill_53178 14 = .ok (.iinc 2 1, 3) := by decide +kernel
theorem dJ7_fill_53178_17 : decode cJ7_fill_53178 17 = .ok (.goto (-12), 3) := by decide +kernel
theorem dJ7_fill_53178_20 : decode cJ7_fill_53178 20 = .ok (.return_, 1) := by decide +kernel
theorem dJx4a65c_grow_92f84_0 : decode cJx4a65c_grow_92f84 0 = .ok (.aload_n 0, 1) := by decide +kernel
theorem dJx4a65c_grow_92f84_1 : decode cJx4a65c_grow_92f84 1 = .ok (.getfield 9, 3) := by decide +kernel
theorem dJx4a65c_grow_92f84_4 : decode cJx4a65c_grow_92f84 4 = .ok (.arraylength, 1) := by decide +kernel
theorem dJx4a65c_grow_92f84_5 : decode cJx4a65c_grow_92f84 5 = .ok (.istore_n 2, 1) := by decide +kernel
theorem dJx4a65c_grow_92f84_6 : decode cJx4a65c_grow_92f84 6 = .ok (.iload_n 2, 1) := by decide +kernel
theorem dJx4a65c_grow_92f84_7 : decode cJx4a65c_grow_92f84 7 = .ok (.ifCond .gt 13, 3) := by decide +kernel
theorem dJx4a65c_grow_92f84_10 : decode cJx4a65c_grow_92f84 10 = .ok (.aload_n 0, 1) := by decide +kernel
theorem dJx4a65c_grow_92f84_11 : decode cJx4a65c_grow_92f84 11 = .ok (.getfield 9, 3) := by decide +kernel
theorem dJx4a65c_grow_92f84_14 : decode cJx4a65c_grow_92f84 14 = .ok (.getstatic 39, 3) := by decide +kernel
theorem dJx4a65c_grow_92f84_17 : decode cJx4a65c_grow_92f84 17 = .ok (.if_acmp .eq 28, 3) := by decide +kernel
theorem dJx4a65c_grow_92f84_20 : decode cJx4a65c_grow_92f84 20 = .ok (.iload_n 2, 1) := by decide +kernel
theorem dJx4a65c_grow_92f84_21 : decode cJx4a65c_grow_92f84 21 = .ok (.iload_n 1, 1) := by decide +kernel
theorem dJx4a65c_grow_92f84_22 : decode cJx4a65c_grow_92f84 22 = .ok (.iload_n 2, 1) := by decide +kernel
theorem dJx4a65c_grow_92f84_23 : decode cJx4a65c_grow_92f84 23 = .ok (.isub, 1) := by decide +kernel
theorem dJx4a65c_grow_92f84_24 : decode cJx4a65c_grow_92f84 24 = .ok (.iload_n 2, 1) := by decide +kernel
theorem dJx4a65c_grow_92f84_25 : decode cJx4a65c_grow_92f84 25 = .ok (.iconst 1, 1) := by decide +kernel
theorem dJx4a65c_grow_92f84_26 : decode cJx4a65c_grow_92f84 26 = .ok (.ishr, 1) := by decide +kernel
theorem dJx4a65c_grow_92f84_27 : decode cJx4a65c_grow_92f84 27 = .ok (.invokestatic 73, 3) := by decide +kernel
theorem dJx4a65c_grow_92f84_30 : decode cJx4a65c_grow_92f84 30 = .ok (.istore_n 3, 1) := by decide +kernel
theorem dJx4a65c_grow_92f84_31 : decode cJx4a65c_grow_92f84 31 = .ok (.aload_n 0, 1) := by decide +kernel
theorem dJx4a65c_grow_92f84_32 : decode cJx4a65c_grow_92f84 32 = .ok (.aload_n 0, 1) := by decide +kernel
theorem dJx4a65c_grow_92f84_33 : decode cJx4a65c_grow_92f84 33 = .ok (.getfield 9, 3) := by decide +kernel
theorem dJx4a65c_grow_92f84_36 : decode cJx4a65c_grow_92f84 36 = .ok (.iload_n 3, 1) := by decide +kernel
theorem dJx4a65c_grow_92f84_37 : decode cJx4a65c_grow_92f84 37 = .ok (.invokestatic 66, 3) := by decide +kernel
theorem dJx4a65c_grow_92f84_40 : decode cJx4a65c_grow_92f84 40 = .ok (.dup_x1, 1) := by decide +kernel
theorem dJx4a65c_grow_92f84_41 : decode cJx4a65c_grow_92f84 41 = .ok (.putfield 9, 3) := by decide +kernel
theorem dJx4a65c_grow_92f84_44 : decode cJx4a65c_grow_92f84 44 = .ok (.areturn, 1) := by decide +kernel
theorem dJx4a65c_grow_92f84_45 : decode cJx4a65c_grow_92f84 45 = .ok (.aload_n 0, 1) := by decide +kernel
theorem dJx4a65c_grow_92f84_46 : decode cJx4a65c_grow_92f84 46 = .ok (.bipush 10, 2) := by decide +kernel
theorem dJx4a65c_grow_92f84_48 : decode cJx4a65c_grow_92f84 48 = .ok (.iload_n 1, 1) := by decide +kernel
theorem dJx4a65c_grow_92f84_49 : decode cJx4a65c_grow_92f84 49 = .ok (.invokestatic 79, 3) := by decide +kernel
theorem dJx4a65c_grow_92f84_52 : decode cJx4a65c_grow_92f84 52 = .ok (.anewarray 7, 3) := by decide +kernel
theorem dJx4a65c_grow_92f84_55 : decode cJx4a65c_grow_92f84 55 = .ok (.dup_x1, 1) := by decide +kernel
theorem dJx4a65c_grow_92f84_56 : decode cJx4a65c_grow_92f84 56 = .ok (.putfield 9, 3) := by decide +kernel
theorem dJx4a65c_grow_92f84_59 : decode cJx4a65c_grow_92f84 59 = .ok (.areturn, 1) := by decide +kernel
theorem dJx4a65c_grow_d5877_0 : decode cJx4a65c_grow_d5877 0 = .ok (.aload_n 0, 1) := by decide +kernel
theorem dJx4a65c_grow_d5877_1 : decode cJx4a65c_grow_d5877 1 = .ok (.aload_n 0, 1) := by decide +kernel
theorem dJx4a65c_grow_d5877_2 : decode cJx4a65c_grow_d5877 2 = .ok (.getfield 48, 3) := by decide +kernel
theorem dJx4a65c_grow_d5877_5 : decode cJx4a65c_grow_d5877 5 = .ok (.iconst 1, 1) := by decide +kernel
theorem dJx4a65c_grow_d5877_6 : decode cJx4a65c_grow_d5877 6 = .ok (.iadd, 1) := by decide +kernel
theorem dJx4a65c_grow_d5877_7 : decode cJx4a65c_grow_d5877 7 = .ok (.invokevirtual 69, 3) := by decide +kernel
theorem dJx4a65c_grow_d5877_10 : decode cJx4a65c_grow_d5877 10 = .ok (.areturn, 1) := by decide +kernel
theorem dJx4a65c_add_72be8_0 : decode cJx4a65c_add_72be8 0 = .ok (.iload_n 3, 1) := by decide +kernel
theorem dJx4a65c_add_72be8_1 : decode cJx4a65c_add_72be8 1 = .ok (.aload_n 2, 1) := by decide +kernel
theorem dJx4a65c_add_72be8_2 : decode cJx4a65c_add_72be8 2 = .ok (.arraylength, 1) := by decide +kernel
theorem dJx4a65c_add_72be8_3 : decode cJx4a65c_add_72be8 3 = .ok (.if_icmp .ne 8, 3) := by decide +kernel
theorem dJx4a65c_add_72be8_6 : decode cJx4a65c_add_72be8 6 = .ok (.aload_n 0, 1) := by decide +kernel
theorem dJx4a65c_add_72be8_7 : decode cJx4a65c_add_72be8 7 = .ok (.invokevirtual 129, 3) := by decide +kernel
theorem dJx4a65c_add_72be8_10 : decode cJx4a65c_add_72be8 10 = .ok (.astore_n 2, 1) := by decide +kernel
theorem dJx4a65c_add_72be8_11 : decode cJx4a65c_add_72be8 11 = .ok (.aload_n 2, 1) := by decide +kernel
theorem dJx4a65c_add_72be8_12 : decode cJx4a65c_add_72be8 12 = .ok (.iload_n 3, 1) := by decide +kernel
theorem dJx4a65c_add_72be8_13 : decode cJx4a65c_add_72be8 13 = .ok (.aload_n 1, 1) := by decide +kernel
theorem dJx4a65c_add_72be8_14 : decode cJx4a65c_add_72be8 14 = .ok (.aastore, 1) := by decide +kernel
theorem dJx4a65c_add_72be8_15 : decode cJx4a65c_add_72be8 15 = .ok (.aload_n 0, 1) := by decide +kernel
theorem dJx4a65c_add_72be8_16 : decode cJx4a65c_add_72be8 16 = .ok (.iload_n 3, 1) := by decide +kernel
theorem dJx4a65c_add_72be8_17 : decode cJx4a65c_add_72be8 17 = .ok (.iconst 1, 1) := by decide +kernel
theorem dJx4a65c_add_72be8_18 : decode cJx4a65c_add_72be8 18 = .ok (.iadd, 1) := by decide +kernel
theorem dJx4a65c_add_72be8_19 : decode cJx4a65c_add_72be8 19 = .ok (.putfield 48, 3) := by decide +kernel
theorem dJx4a65c_add_72be8_22 : decode cJx4a65c_add_72be8 22 = .ok (.return_, 1) := by decide +kernel
theorem dJx4a65c_add_9ea2d_0 : decode cJx4a65c_add_9ea2d 0 = .ok (.aload_n 0, 1) := by decide +kernel
theorem dJx4a65c_add_9ea2d_1 : decode cJx4a65c_add_9ea2d 1 = .ok (.dup, 1) := by decide +kernel
theorem dJx4a65c_add_9ea2d_2 : decode cJx4a65c_add_9ea2d 2 = .ok (.getfield 63, 3) := by decide +kernel
theorem dJx4a65c_add_9ea2d_5 : decode cJx4a65c_add_9ea2d 5 = .ok (.iconst 1, 1) := by decide +kernel
theorem dJx4a65c_add_9ea2d_6 : decode cJx4a65c_add_9ea2d 6 = .ok (.iadd, 1) := by decide +kernel
theorem dJx4a65c_add_9ea2d_7 : decode cJx4a65c_add_9ea2d 7 = .ok (.putfield 63, 3) := by decide +kernel
theorem dJx4a65c_add_9ea2d_10 : decode cJx4a65c_add_9ea2d 10 = .ok (.aload_n 0, 1) := by decide +kernel
theorem dJx4a65c_add_9ea2d_11 : decode cJx4a65c_add_9ea2d 11 = .ok (.aload_n 1, 1) := by decide +kernel
theorem dJx4a65c_add_9ea2d_12 : decode cJx4a65c_add_9ea2d 12 = .ok (.aload_n 0, 1) := by decide +kernel
theorem dJx4a65c_add_9ea2d_13 : decode cJx4a65c_add_9ea2d 13 = .ok (.getfield 9, 3) := by decide +kernel
theorem dJx4a65c_add_9ea2d_16 : decode cJx4a65c_add_9ea2d 16 = .ok (.aload_n 0, 1) := by decide +kernel
theorem dJx4a65c_add_9ea2d_17 : decode cJx4a65c_add_9ea2d 17 = .ok (.getfield 48, 3) := by decide +kernel
theorem dJx4a65c_add_9ea2d_20 : decode cJx4a65c_add_9ea2d 20 = .ok (.invokevirtual 131, 3) := by decide +kernel
theorem dJx4a65c_add_9ea2d_23 : decode cJx4a65c_add_9ea2d 23 = .ok (.iconst 1, 1) := by decide +kernel
theorem dJx4a65c_add_9ea2d_24 : decode cJx4a65c_add_9ea2d 24 = .ok (.ireturn, 1) := by decide +kernel
theorem dJx4a65c_clear_da8c8_0 : decode cJx4a65c_clear_da8c8 0 = .ok (.aload_n 0, 1) := by decide +kernel
theorem dJx4a65c_clear_da8c8_1 : decode cJx4a65c_clear_da8c8 1 = .ok (.dup, 1) := by decide +kernel
theorem dJx4a65c_clear_da8c8_2 : decode cJx4a65c_clear_da8c8 2 = .ok (.getfield 63, 3) := by decide +kernel
theorem dJx4a65c_clear_da8c8_5 : decode cJx4a65c_clear_da8c8 5 = .ok (.iconst 1, 1) := by decide +kernel
theorem dJx4a65c_clear_da8c8_6 : decode cJx4a65c_clear_da8c8 6 = .ok (.iadd, 1) := by decide +kernel
theorem dJx4a65c_clear_da8c8_7 : decode cJx4a65c_clear_da8c8 7 = .ok (.putfield 63, 3) := by decide +kernel
theorem dJx4a65c_clear_da8c8_10 : decode cJx4a65c_clear_da8c8 10 = .ok (.aload_n 0, 1) := by decide +kernel
theorem dJx4a65c_clear_da8c8_11 : decode cJx4a65c_clear_da8c8 11 = .ok (.getfield 9, 3) := by decide +kernel
theorem dJx4a65c_clear_da8c8_14 : decode cJx4a65c_clear_da8c8 14 = .ok (.astore_n 1, 1) := by decide +kernel
theorem dJx4a65c_clear_da8c8_15 : decode cJx4a65c_clear_da8c8 15 = .ok (.aload_n 0, 1) := by decide +kernel
theorem dJx4a65c_clear_da8c8_16 : decode cJx4a65c_clear_da8c8 16 = .ok (.getfield 48, 3) := by decide +kernel
theorem dJx4a65c_clear_da8c8_19 : decode cJx4a65c_clear_da8c8 19 = .ok (.istore_n 2, 1) := by decide +kernel
theorem dJx4a65c_clear_da8c8_20 : decode cJx4a65c_clear_da8c8 20 = .ok (.aload_n 0, 1) := by decide +kernel
theorem dJx4a65c_clear_da8c8_21 : decode cJx4a65c_clear_da8c8 21 = .ok (.iconst 0, 1) := by decide +kernel
theorem dJx4a65c_clear_da8c8_22 : decode cJx4a65c_clear_da8c8 22 = .ok (.dup_x1, 1) := by decide +kernel
theorem dJx4a65c_clear_da8c8_23 : decode cJx4a65c_clear_da8c8 23 = .ok (.putfield 48, 3) := by decide +kernel
theorem dJx4a65c_clear_da8c8_26 : decode cJx4a65c_clear_da8c8 26 = .ok (.istore_n 3, 1) := by decide +kernel
theorem dJx4a65c_clear_da8c8_27 : decode cJx4a65c_clear_da8c8 27 = .ok (.iload_n 3, 1) := by decide +kernel
theorem dJx4a65c_clear_da8c8_28 : decode cJx4a65c_clear_da8c8 28 = .ok (.iload_n 2, 1) := by decide +kernel
theorem dJx4a65c_clear_da8c8_29 : decode cJx4a65c_clear_da8c8 29 = .ok (.if_icmp .ge 13, 3) := by decide +kernel
theorem dJx4a65c_clear_da8c8_32 : decode cJx4a65c_clear_da8c8 32 = .ok (.aload_n 1, 1) := by decide +kernel
theorem dJx4a65c_clear_da8c8_33 : decode cJx4a65c_clear_da8c8 33 = .ok (.iload_n 3, 1) := by decide +kernel
theorem dJx4a65c_clear_da8c8_34 : decode cJx4a65c_clear_da8c8 34 = .ok (.aconst_null, 1) := by decide +kernel
theorem dJx4a65c_clear_da8c8_35 : decode cJx4a65c_clear_da8c8 35 = .ok (.aastore, 1) := by decide +kernel
theorem dJx4a65c_clear_da8c8_36 : decode cJx4a65c_clear_da8c8 36 = .ok (.iinc 3 1, 3) := by decide +kernel
theorem dJx4a65c_clear_da8c8_39 : decode cJx4a65c_clear_da8c8 39 = .ok (.goto (-12), 3) := by decide +kernel
theorem dJx4a65c_clear_da8c8_42 : decode cJx4a65c_clear_da8c8 42 = .ok (.return_, 1) := by decide +kernel
theorem dJx4a65c_elementData_915e3_0 : decode cJx4a65c_elementData_915e3 0 = .ok (.aload_n 0, 1) := by decide +kernel
theorem dJx4a65c_elementData_915e3_1 : decode cJx4a65c_elementData_915e3 1 = .ok (.getfield 9, 3) := by decide +kernel
theorem dJx4a65c_elementData_915e3_4 : decode cJx4a65c_elementData_915e3 4 = .ok (.iload_n 1, 1) := by decide +kernel
theorem dJx4a65c_elementData_915e3_5 : decode cJx4a65c_elementData_915e3 5 = .ok (.aaload, 1) := by decide +kernel
theorem dJx4a65c_elementData_915e3_6 : decode cJx4a65c_elementData_915e3 6 = .ok (.areturn, 1) := by decide +kernel
theorem dJx4a65c_get_915e3_0 : decode cJx4a65c_get_915e3 0 = .ok (.iload_n 1, 1) := by decide +kernel
theorem dJx4a65c_get_915e3_1 : decode cJx4a65c_get_915e3 1 = .ok (.aload_n 0, 1) := by decide +kernel
theorem dJx4a65c_get_915e3_2 : decode cJx4a65c_get_915e3 2 = .ok (.getfield 48, 3) := by decide +kernel
theorem dJx4a65c_get_915e3_5 : decode cJx4a65c_get_915e3 5 = .ok (.invokestatic 118, 3) := by decide +kernel
theorem dJx4a65c_get_915e3_8 : decode cJx4a65c_get_915e3 8 = .ok (.pop, 1) := by decide +kernel
theorem dJx4a65c_get_915e3_9 : decode cJx4a65c_get_915e3 9 = .ok (.aload_n 0, 1) := by decide +kernel
theorem dJx4a65c_get_915e3_10 : decode cJx4a65c_get_915e3 10 = .ok (.iload_n 1, 1) := by decide +kernel
theorem dJx4a65c_get_915e3_11 : decode cJx4a65c_get_915e3 11 = .ok (.invokevirtual 123, 3) := by decide +kernel
theorem dJx4a65c_get_915e3_14 : decode cJx4a65c_get_915e3 14 = .ok (.areturn, 1) := by decide +kernel
theorem dJxa1e45_init_da8c8_0 : decode cJxa1e45_init_da8c8 0 = .ok (.aload_n 0, 1) := by decide +kernel
theorem dJxa1e45_init_da8c8_1 : decode cJxa1e45_init_da8c8 1 = .ok (.invokespecial 1, 3) := by decide +kernel
theorem dJxa1e45_init_da8c8_4 : decode cJxa1e45_init_da8c8 4 = .ok (.return_, 1) := by decide +kernel
theorem dJxc12de_init_da8c8_0 : decode cJxc12de_init_da8c8 0 = .ok (.aload_n 0, 1) := by decide +kernel
theorem dJxc12de_init_da8c8_1 : decode cJxc12de_init_da8c8 1 = .ok (.invokespecial 1, 3) := by decide +kernel
theorem dJxc12de_init_da8c8_4 : decode cJxc12de_init_da8c8 4 = .ok (.aload_n 0, 1) := by decide +kernel
theorem dJxc12de_init_da8c8_5 : decode cJxc12de_init_da8c8 5 = .ok (.iconst 0, 1) := by decide +kernel
theorem dJxc12de_init_da8c8_6 : decode cJxc12de_init_da8c8 6 = .ok (.putfield 7, 3) := by decide +kernel
theorem dJxc12de_init_da8c8_9 : decode cJxc12de_init_da8c8 9 = .ok (.return_, 1) := by decide +kernel
theorem dJx4a65c_init_da8c8_0 : decode cJx4a65c_init_da8c8 0 = .ok (.aload_n 0, 1) := by decide +kernel
theorem dJx4a65c_init_da8c8_1 : decode cJx4a65c_init_da8c8 1 = .ok (.invokespecial 1, 3) := by decide +kernel
theorem dJx4a65c_init_da8c8_4 : decode cJx4a65c_init_da8c8 4 = .ok (.aload_n 0, 1) := by decide +kernel
theorem dJx4a65c_init_da8c8_5 : decode cJx4a65c_init_da8c8 5 = .ok (.getstatic 39, 3) := by decide +kernel
theorem dJx4a65c_init_da8c8_8 : decode cJx4a65c_init_da8c8 8 = .ok (.putfield 9, 3) := by decide +kernel
theorem dJx4a65c_init_da8c8_11 : decode cJx4a65c_init_da8c8 11 = .ok (.return_, 1) := by decide +kernel
theorem dJx4a65c_size_8abf5_0 : decode cJx4a65c_size_8abf5 0 = .ok (.aload_n 0, 1) := by decide +kernel
theorem dJx4a65c_size_8abf5_1 : decode cJx4a65c_size_8abf5 1 = .ok (.getfield 48, 3) := by decide +kernel
theorem dJx4a65c_size_8abf5_4 : decode cJx4a65c_size_8abf5 4 = .ok (.ireturn, 1) := by decide +kernel
def wp_J15_checkIndex_7cf53_0 (D : wD) (post : Int32 → wS → Prop)  (S : wS) (x0 : Int32) (x1 : Int32) : Prop :=
wp_J3_checkIndex_8e157 D (fun r_1 S_2 => 
post r_1 S_2) S x0 x1 none
abbrev r_J15_checkIndex_7cf53 : Room := { frames := 1, cells := 0, slots := 0, locals := 22 }
def wp_J15_checkIndex_7cf53 (D : wD) (post : Int32 → wS → Prop) (S : wS) (x0 : Int32) (x1 : Int32) : Prop := wp_J15_checkIndex_7cf53_0 D post S x0 x1
set_option maxHeartbeats 4000000 in
set_option maxRecDepth 100000 in
theorem t_J15_checkIndex_7cf53_0 {p : Program} {l : Launch} {e : Env} {s : State} {m : MethodId} {args : Array Value} {below : List Frame} {meth : Method} {c : Code} {D : wD} {cy : Nat → ClassId} {X : va_W} {A : Nat → Prop} {S0 : wS} {post : Int32 → wS → Prop} (F : CallFix p m c cJ15_checkIndex_7cf53 2 s args wz_J15_checkIndex_7cf53 RJ15) (hr : meth.sig.returnType = (some .int)) (hlocks : meth.locks = false) (hK : wK D cy A s) : ∀ {S : wS} {H : Heap} {locs : List Loc} {ls : Array Slot} {x0 : Int32} {x1 : Int32}, wp_J15_checkIndex_7cf53_0 D post S x0 x1 → wO D cy X A s.heap S H locs → wX D S0 S → lv_has ls 2 [(0, .int x0), (1, .int x1)] → W p l e r_J15_checkIndex_7cf53 s m args below meth c H locs 0 0 (MQ below (va_Qi (fun r S9 => wX D S0 S9 ∧ post r S9) (wB D cy X A) A) args s 0 0 A) (F0 m 0 ls []) := by
  obtain ⟨hx, hb, hml, hown, hts⟩ := id F
  have hwg : ∀ w ∈ WG, w.before args s = true := fun w h => hts w (List.mem_cons_of_mem _ h)
  intro S H locs ls x0 x1 hp hW hE hl
  unfold wp_J15_checkIndex_7cf53_0 at hp
  refine lv_iload_n hx hb dJ15_checkIndex_7cf53_0 rfl (lv_at hl 0 rfl) ?_
  refine lv_iload_n hx hb dJ15_checkIndex_7cf53_1 rfl (lv_at hl 1 rfl) ?_
  refine lv_null hx hb dJ15_checkIndex_7cf53_2 ?_
  refine w_callI (va_runS (As := [.int x0, .int x1, .null]) (rest := []) F (c_J3_checkIndex_8e157 l hp H.size) (va_cwS 3 hts (wg_S wm_RJ15_105 wy_J3_checkIndex_8e157) rfl rfl rfl (by decide +kernel) ⟨Nat.le_of_ble_eq_true rfl, Nat.le_of_ble_eq_true rfl⟩) (w_preS hK hW) rfl rfl hl.1 rfl (lv_room (Nat.le_of_ble_eq_true rfl)) dJ15_checkIndex_7cf53_3 ⟨Nat.le_of_ble_eq_true rfl, Nat.le_of_ble_eq_true rfl⟩) hW (fun r_1 S_2 H locs hp hW => ?_)
  obtain ⟨hX_S_2, hp⟩ := hp
  refine W.widen (k := 0) (n := 0) (by decide) (by decide) ?_
  have hE := hE.trans hX_S_2
  exact w_iret hx hb hr hlocks hW ⟨hE, hp⟩ dJ15_checkIndex_7cf53_6
set_option maxHeartbeats 4000000 in
set_option maxRecDepth 100000 in
theorem c_J15_checkIndex_7cf53 (l : Launch) {D : wD} {cy : Nat → ClassId} {X : va_W} {S0 : wS} {post : Int32 → wS → Prop} {x0 : Int32} {x1 : Int32} (hp : wp_J15_checkIndex_7cf53 D post S0 x0 x1) : mI D cy X l yJ15_checkIndex_7cf53 wz_J15_checkIndex_7cf53 r_J15_checkIndex_7cf53 [.int x0, .int x1] S0 (fun r S9 => wX D S0 S9 ∧ post r S9) := by
  intro sz
  refine Met.ofW (cc := cJ15_checkIndex_7cf53) (maxL := 2) (ret := (some .int)) (by decide) rfl ?_
  intro p e s m args below meth c s₁ B hml hv
  obtain ⟨rfl, hsz, hP, hK, hD0, hRO⟩ := hv
  have hts := atoms_spec (ws := wz_J15_checkIndex_7cf53) B.pre
  have hown : s.vm.findClass RJ15 = some m.cls := findClass_of_methodNamed B.named
  subst hsz
  have hD := hD0.self (sz := s.heap.size)
  have F : CallFix p m c cJ15_checkIndex_7cf53 2 s _ wz_J15_checkIndex_7cf53 RJ15 := ⟨B.exec, B.bytes, hml, hown, hts⟩
  have hr := B.returns
  have hlocks := B.notSynchronized
  generalize hAe : va_A (wL cy X S0) s.heap.size = A at hD hK ⊢
  have hA : ∀ q, s.heap.size ≤ q → A q := fun q h => by rw [← hAe]; exact Or.inr h
  have hW : wO D cy X A s.heap S0 s.heap [] := ⟨hP, hD, va_S.rf, hA, hRO⟩
  have hl := lv_entry ([.int x0, .int x1]) (n := 2) (Nat.le_of_ble_eq_true rfl)
  rw [lg_entry_eq]
  generalize (lg_sl ([.int x0, .int x1]) ++ List.replicate (2 - (lg_sl ([.int x0, .int x1])).length) Slot.unset).toArray = ls at hl ⊢
  have hl : lv_has ls 2 [(0, .int x0), (1, .int x1)] := hl
  unfold wp_J15_checkIndex_7cf53 at hp
  exact t_J15_checkIndex_7cf53_0 F hr hlocks hK hp hW wX.rf (lv_sub hl [0, 1] rfl)
def wp_J1_canEncode_fc78d_12 (D : wD) (post : Int32 → wS → Prop)  (S : wS) (t0 : Int32) : Prop :=
narrow .boolean (.int t0) = .int t0 ∧ post t0 S
def wp_J1_canEncode_fc78d_0 (D : wD) (post : Int32 → wS → Prop)  (S : wS) (x0 : Int32) : Prop :=
(((255 : Int32) < x0 → wp_J1_canEncode_fc78d_12 D post S (0 : Int32)) ∧
 (¬ (255 : Int32) < x0 → wp_J1_canEncode_fc78d_12 D post S (1 : Int32)))
abbrev r_J1_canEncode_fc78d : Room := { frames := 0, cells := 0, slots := 0, locals := 0 }
def wp_J1_canEncode_fc78d (D : wD) (post : Int32 → wS → Prop) (S : wS) (x0 : Int32) : Prop := wp_J1_canEncode_fc78d_0 D post S x0
set_option maxHeartbeats 4000000 in
set_option maxRecDepth 100000 in
theorem t_J1_canEncode_fc78d_12 {p : Program} {l : Launch} {e : Env} {s : State} {m : MethodId} {args : Array Value} {below : List Frame} {meth : Method} {c : Code} {D : wD} {cy : Nat → ClassId} {X : va_W} {A : Nat → Prop} {S0 : wS} {post : Int32 → wS → Prop} (F : CallFix p m c cJ1_canEncode_fc78d 1 s args wz_J1_canEncode_fc78d RJ1) (hr : meth.sig.returnType = (some .boolean)) (hlocks : meth.locks = false) (hK : wK D cy A s) : ∀ {S : wS} {H : Heap} {locs : List Loc} {ls : Array Slot} {t0 : Int32}, wp_J1_canEncode_fc78d_12 D post S t0 → wO D cy X A s.heap S H locs → wX D S0 S → lv_has ls 1 [] → W p l e r_J1_canEncode_fc78d s m args below meth c H locs 0 0 (MQ below (va_Qi (fun r S9 => wX D S0 S9 ∧ post r S9) (wB D cy X A) A) args s 0 0 A) (F0 m 12 ls [.int t0]) := by
  obtain ⟨hx, hb, hml, hown, hts⟩ := id F
  have hwg : ∀ w ∈ WG, w.before args s = true := fun w h => hts w (List.mem_cons_of_mem _ h)
  intro S H locs ls t0 hp hW hE hl
  unfold wp_J1_canEncode_fc78d_12 at hp
  exact w_zret hx hb hr hlocks hW hp.1 ⟨hE, hp.2⟩ dJ1_canEncode_fc78d_12
set_option maxHeartbeats 4000000 in
set_option maxRecDepth 100000 in
theorem t_J1_canEncode_fc78d_0 {p : Program} {l : Launch} {e : Env} {s : State} {m : MethodId} {args : Array Value} {below : List Frame} {meth : Method} {c : Code} {D : wD} {cy : Nat → ClassId} {X : va_W} {A : Nat → Prop} {S0 : wS} {post : Int32 → wS → Prop} (F : CallFix p m c cJ1_canEncode_fc78d 1 s args wz_J1_canEncode_fc78d RJ1) (hr : meth.sig.returnType = (some .boolean)) (hlocks : meth.locks = false) (hK : wK D cy A s) : ∀ {S : wS} {H : Heap} {locs : List Loc} {ls : Array Slot} {x0 : Int32}, wp_J1_canEncode_fc78d_0 D post S x0 → wO D cy X A s.heap S H locs → wX D S0 S → lv_has ls 1 [(0, .int x0)] → W p l e r_J1_canEncode_fc78d s m args below meth c H locs 0 0 (MQ below (va_Qi (fun r S9 => wX D S0 S9 ∧ post r S9) (wB D cy X A) A) args s 0 0 A) (F0 m 0 ls []) := by
  obtain ⟨hx, hb, hml, hown, hts⟩ := id F
  have hwg : ∀ w ∈ WG, w.before args s = true := fun w h => hts w (List.mem_cons_of_mem _ h)
  intro S H locs ls x0 hp hW hE hl
  unfold wp_J1_canEncode_fc78d_0 at hp
  refine lv_iload_n hx hb dJ1_canEncode_fc78d_0 rfl (lv_at hl 0 rfl) ?_
  refine lv_sipush (v := 255) hx hb dJ1_canEncode_fc78d_1 (by decide) ?_
  refine lv_icmp_gt (tgt := 11) hx hb dJ1_canEncode_fc78d_4 (by decide) (fun c_1 => ?_) (fun c_1 => ?_)
  · replace hp := hp.1 c_1
    refine lv_iconst (v := 0) hx hb dJ1_canEncode_fc78d_11 (by decide) ?_
    exact t_J1_canEncode_fc78d_12 F hr hlocks hK hp hW hE (lv_sub hl [] rfl)
  · replace hp := hp.2 c_1
    refine lv_iconst (v := 1) hx hb dJ1_canEncode_fc78d_7 (by decide) ?_
    refine lv_goto (tgt := 12) hx hb dJ1_canEncode_fc78d_8 (by decide) ?_
    exact t_J1_canEncode_fc78d_12 F hr hlocks hK hp hW hE (lv_sub hl [] rfl)
set_option maxHeartbeats 4000000 in
set_option maxRecDepth 100000 in
theorem c_J1_canEncode_fc78d (l : Launch) {D : wD} {cy : Nat → ClassId} {X : va_W} {S0 : wS} {post : Int32 → wS → Prop} {x0 : Int32} (hp : wp_J1_canEncode_fc78d D post S0 x0) : mI D cy X l yJ1_canEncode_fc78d wz_J1_canEncode_fc78d r_J1_canEncode_fc78d [.int x0] S0 (fun r S9 => wX D S0 S9 ∧ post r S9) := by
  intro sz
  refine Met.ofW (cc := cJ1_canEncode_fc78d) (maxL := 1) (ret := (some .boolean)) (by decide) rfl ?_
  intro p e s m args below meth c s₁ B hml hv
  obtain ⟨rfl, hsz, hP, hK, hD0, hRO⟩ := hv
  have hts := atoms_spec (ws := wz_J1_canEncode_fc78d) B.pre
  have hown : s.vm.findClass RJ1 = some m.cls := findClass_of_methodNamed B.named
  subst hsz
  have hD := hD0.self (sz := s.heap.size)
  have F : CallFix p m c cJ1_canEncode_fc78d 1 s _ wz_J1_canEncode_fc78d RJ1 := ⟨B.exec, B.bytes, hml, hown, hts⟩
  have hr := B.returns
  have hlocks := B.notSynchronized
  generalize hAe : va_A (wL cy X S0) s.heap.size = A at hD hK ⊢
  have hA : ∀ q, s.heap.size ≤ q → A q := fun q h => by rw [← hAe]; exact Or.inr h
  have hW : wO D cy X A s.heap S0 s.heap [] := ⟨hP, hD, va_S.rf, hA, hRO⟩
  have hl := lv_entry ([.int x0]) (n := 1) (Nat.le_of_ble_eq_true rfl)
  rw [lg_entry_eq]
  generalize (lg_sl ([.int x0]) ++ List.replicate (1 - (lg_sl ([.int x0])).length) Slot.unset).toArray = ls at hl ⊢
  have hl : lv_has ls 1 [(0, .int x0)] := hl
  unfold wp_J1_canEncode_fc78d at hp
  exact t_J1_canEncode_fc78d_0 F hr hlocks hK hp hW wX.rf (lv_sub hl [0] rfl)
def wp_Jx00060_init_d00df_0 (D : wD) (post : wS → Prop)  (bc bs : Nat) (S : wS) (a0 : Nat) (x1 : Int32) : Prop :=
1 ≤ bc ∧ 4 ≤ bs ∧
∀ y_1 : Nat, ¬ wM D S y_1 → ∀ S_2 : wS, S_2 = nA S y_1 1 0 →
∃ m_6 z_7 : Nat, m_6 ≤ (bc - 1) ∧ z_7 ≤ (bs - 4) ∧
wp_J4_init_da8c8 D (fun S_5 => 
∀ y_8 : Nat, y_8 = D.2.2.1 7 →
∃ m_11 z_12 : Nat, m_11 ≤ ((bc - 1) - m_6) ∧ z_12 ≤ ((bs - 4) - z_7) ∧
wp_J4_append_15ec4 D (fun r_9 S_10 => 
∃ y_13 : Nat, r_9 = some y_13 ∧ wM D S_10 y_13 ∧ sK S_10 y_13 = 1 ∧
∃ m_17 z_18 : Nat, m_17 ≤ (((bc - 1) - m_6) - m_11) ∧ z_18 ≤ (((bs - 4) - z_7) - z_12) ∧
wp_J4_append_bf812 D (fun r_15 S_16 => 
∃ y_19 : Nat, r_15 = some y_19 ∧ wM D S_16 y_19 ∧ sK S_16 y_19 = 1 ∧
∃ m_23 z_24 : Nat, m_23 ≤ ((((bc - 1) - m_6) - m_11) - m_17) ∧ z_24 ≤ ((((bs - 4) - z_7) - z_12) - z_18) ∧
wp_J4_toString_0e30d D (fun r_21 S_22 => 
False) m_23 z_24 S_16 y_19) m_17 z_18 S_10 y_13 x1) m_11 z_12 S_5 y_1 y_8) m_6 z_7 S_2 y_1
abbrev r_Jx00060_init_d00df (rC rS : Nat) : Room := { frames := 10, cells := rC, slots := rS, locals := 223 }
def wp_Jx00060_init_d00df (D : wD) (post : wS → Prop) (bc bs : Nat) (S : wS) (a0 : Nat) (x1 : Int32) : Prop := wp_Jx00060_init_d00df_0 D post bc bs S a0 x1
set_option maxHeartbeats 4000000 in
set_option maxRecDepth 100000 in
theorem t_Jx00060_init_d00df_0 {p : Program} {l : Launch} {e : Env} {s : State} {m : MethodId} {args : Array Value} {below : List Frame} {meth : Method} {c : Code} {D : wD} {cy : Nat → ClassId} {X : va_W} {A : Nat → Prop} {S0 : wS} {rC rS : Nat} {post : wS → Prop} (F : CallFix p m c cJx00060_init_d00df 2 s args wz_Jx00060_init_d00df RJx00060) (hr : meth.sig.returnType = none) (hlocks : meth.locks = false) (hK : wK D cy A s) (hin : meth.name = "<init>") : ∀ {bc bs cells slots : Nat} (hbc : cells + bc ≤ rC) (hbs : slots + bs ≤ rS) {S : wS} {H : Heap} {locs : List Loc} {ls : Array Slot} {a0 : Nat} {x1 : Int32}, wp_Jx00060_init_d00df_0 D post bc bs S a0 x1 → wO D cy X A s.heap S H locs → wX D S0 S → lv_has ls 2 [(0, .ref a0), (1, .int x1)] → wM D S a0 → sK S a0 = 2 → W p l e (r_Jx00060_init_d00df rC rS) s m args below meth c H locs cells slots (MQ below (va_Qv (fun S9 => wX D S0 S9 ∧ post S9) (wB D cy X A) A) args s rC rS A) (F0 m 0 ls []) := by
  obtain ⟨hx, hb, hml, hown, hts⟩ := id F
  have hwg : ∀ w ∈ WG, w.before args s = true := fun w h => hts w (List.mem_cons_of_mem _ h)
  intro bc bs cells slots hbc hbs S H locs ls a0 x1 hp hW hE hl hL_a0 hK_a0
  unfold wp_Jx00060_init_d00df_0 at hp
  refine lv_aload_n hx hb dJx00060_init_d00df_0 rfl (lv_at hl 0 rfl) ?_
  obtain ⟨h_3, h_3b, hp⟩ := hp
  refine w_new (k := 1) (T := TJ4) F hK hW rfl (by decide) (fun w h => List.mem_cons_of_mem _ (wu_1 w h)) tyJ4 tyJ4_ok (hwg _ wc_RJx00060_10) (hwg _ wn_1) (hwg _ wi_java_lang_StringBuilder) wdef_1 (by show _ ≤ rC; omega) (by show _ ≤ rS; omega) dJx00060_init_d00df_1 (fun y_1 H hq_y_1 hW => ?_)
  replace hbc := w_spend hbc (show 1 ≤ bc by omega)
  replace hbs := w_spend hbs (show 4 ≤ bs by omega)
  obtain ⟨S_2, eS_2⟩ : ∃ z : wS, z = nA S y_1 1 0 := ⟨_, rfl⟩
  rw [← eS_2] at hW
  replace hp := hp y_1 hq_y_1 S_2 eS_2
  have hX_S_2 : wX D S S_2 := by rw [eS_2]; exact wX_nA hq_y_1
  have hE := hE.trans hX_S_2
  have hK_a0 : sK S_2 a0 = 2 := (hX_S_2.2 a0 hL_a0).1.trans hK_a0
  have hL_a0 : wM D S_2 a0 := hX_S_2.M hL_a0
  have hL_y_1 : wM D S_2 y_1 := by rw [eS_2]; exact Or.inl (List.mem_append_right _ List.mem_cons_self)
  have hK_y_1 : sK S_2 y_1 = 1 := by rw [eS_2]; exact va_up_self _ _ _
  refine lv_dup hx hb dJx00060_init_d00df_4 rfl ?_
  obtain ⟨m_6, z_7, hm_6, hz_7, hp⟩ := hp
  refine w_callV (va_runI (As := []) (rest := [.ref y_1, .ref a0]) F (c_J4_init_da8c8 l hL_y_1 hK_y_1 hp H.size) (cwI 0 hts (wg_cons wy_J4_init_da8c8.2.2) rfl rfl rfl (hwg _ wy_J4_init_da8c8.2.1) (hwg _ wm_RJx00060_12) (hwg _ wy_J4_init_da8c8.1) rfl (by decide +kernel) ⟨Nat.le_of_ble_eq_true rfl, Nat.le_of_ble_eq_true rfl⟩) (w_preS hK hW) rfl rfl hl.1 rfl (lv_room (Nat.le_of_ble_eq_true rfl)) dJx00060_init_d00df_5 ⟨by show _ + m_6 ≤ rC; omega, by show _ + z_7 ≤ rS; omega⟩) hW (fun S_5 H locs hp hW => ?_)
  obtain ⟨hX_S_5, hp⟩ := hp
  refine W.widen (k := _ + m_6) (n := _ + z_7) (Nat.le_refl _) (Nat.le_refl _) ?_
  replace hbc := w_spend hbc (show m_6 ≤ (bc - 1) by omega)
  replace hbs := w_spend hbs (show z_7 ≤ (bs - 4) by omega)
  have hE := hE.trans hX_S_5
  have hK_a0 : sK S_5 a0 = 2 := (hX_S_5.2 a0 hL_a0).1.trans hK_a0
  have hL_a0 : wM D S_5 a0 := hX_S_5.M hL_a0
  have hK_y_1 : sK S_5 y_1 = 1 := (hX_S_5.2 y_1 hL_y_1).1.trans hK_y_1
  have hL_y_1 : wM D S_5 y_1 := hX_S_5.M hL_y_1
  refine w_str F hK (show ("java/lang/ArrayIndexOutOfBoundsException", 13, "Array index out of range: ", 7) ∈ wStr by decide +kernel) dJx00060_init_d00df_8 ?_
  obtain ⟨y_8, ey_8⟩ : ∃ z : Nat, z = D.2.2.1 7 := ⟨_, rfl⟩
  rw [← ey_8]
  replace hp := hp y_8 ey_8
  obtain ⟨hL_y_8, hK_y_8⟩ : wM D S_5 y_8 ∧ sK S_5 y_8 = 0 := by rw [ey_8]; exact w_strM hK hW (show ("java/lang/ArrayIndexOutOfBoundsException", 13, "Array index out of range: ", 7) ∈ wStr by decide +kernel)
  obtain ⟨m_11, z_12, hm_11, hz_12, hp⟩ := hp
  refine w_callR (va_runV (As := [.ref y_8]) (rest := [.ref a0]) F (c_J4_append_15ec4 l hL_y_1 hK_y_1 hL_y_8 hK_y_8 hp H.size) (cwV (C := RJ4) 1 hts (wg_V wm_RJx00060_15 wy_J4_append_15ec4) rfl rfl rfl (by decide +kernel) ⟨Nat.le_of_ble_eq_true rfl, Nat.le_of_ble_eq_true rfl⟩) (w_preV hK hW hL_y_1 hK_y_1 (by decide) rfl) rfl rfl hl.1 rfl (lv_room (Nat.le_of_ble_eq_true rfl)) dJx00060_init_d00df_10 ⟨by show _ + m_11 ≤ rC; omega, by show _ + z_12 ≤ rS; omega⟩) hW (fun r_9 S_10 H locs hp hW => ?_)
  obtain ⟨hX_S_10, hp⟩ := hp
  refine W.widen (k := _ + m_11) (n := _ + z_12) (Nat.le_refl _) (Nat.le_refl _) ?_
  replace hbc := w_spend hbc (show m_11 ≤ ((bc - 1) - m_6) by omega)
  replace hbs := w_spend hbs (show z_12 ≤ ((bs - 4) - z_7) by omega)
  have hE := hE.trans hX_S_10
  have hK_a0 : sK S_10 a0 = 2 := (hX_S_10.2 a0 hL_a0).1.trans hK_a0
  have hL_a0 : wM D S_10 a0 := hX_S_10.M hL_a0
  refine lv_iload_n hx hb dJx00060_init_d00df_13 rfl (lv_at hl 1 rfl) ?_
  obtain ⟨y_13, h_14, hL_y_13, hK_y_13, hp⟩ := hp
  revert hp; revert hl; revert hW; revert hE; subst h_14; intro hE hW hl hp
  obtain ⟨m_17, z_18, hm_17, hz_18, hp⟩ := hp
  refine w_callR (va_runV (As := [.int x1]) (rest := [.ref a0]) F (c_J4_append_bf812 l hL_y_13 hK_y_13 hp H.size) (cwV (C := RJ4) 1 hts (wg_V wm_RJx00060_19 wy_J4_append_bf812) rfl rfl rfl (by decide +kernel) ⟨Nat.le_of_ble_eq_true rfl, Nat.le_of_ble_eq_true rfl⟩) (w_preV hK hW hL_y_13 hK_y_13 (by decide) rfl) rfl rfl hl.1 rfl (lv_room (Nat.le_of_ble_eq_true rfl)) dJx00060_init_d00df_14 ⟨by show _ + m_17 ≤ rC; omega, by show _ + z_18 ≤ rS; omega⟩) hW (fun r_15 S_16 H locs hp hW => ?_)
  obtain ⟨hX_S_16, hp⟩ := hp
  refine W.widen (k := _ + m_17) (n := _ + z_18) (Nat.le_refl _) (Nat.le_refl _) ?_
  replace hbc := w_spend hbc (show m_17 ≤ (((bc - 1) - m_6) - m_11) by omega)
  replace hbs := w_spend hbs (show z_18 ≤ (((bs - 4) - z_7) - z_12) by omega)
  have hE := hE.trans hX_S_16
  have hK_a0 : sK S_16 a0 = 2 := (hX_S_16.2 a0 hL_a0).1.trans hK_a0
  have hL_a0 : wM D S_16 a0 := hX_S_16.M hL_a0
  obtain ⟨y_19, h_20, hL_y_19, hK_y_19, hp⟩ := hp
  revert hp; revert hl; revert hW; revert hE; subst h_20; intro hE hW hl hp
  obtain ⟨m_23, z_24, hm_23, hz_24, hp⟩ := hp
  refine w_callR (va_runV (As := []) (rest := [.ref a0]) F (c_J4_toString_0e30d l hL_y_19 hK_y_19 hp H.size) (cwV (C := RJ4) 0 hts (wg_V wm_RJx00060_22 wy_J4_toString_0e30d) rfl rfl rfl (by decide +kernel) ⟨Nat.le_of_ble_eq_true rfl, Nat.le_of_ble_eq_true rfl⟩) (w_preV hK hW hL_y_19 hK_y_19 (by decide) rfl) rfl rfl hl.1 rfl (lv_room (Nat.le_of_ble_eq_true rfl)) dJx00060_init_d00df_17 ⟨by show _ + m_23 ≤ rC; omega, by show _ + z_24 ≤ rS; omega⟩) hW (fun r_21 S_22 H locs hp hW => ?_)
  obtain ⟨hX_S_22, hp⟩ := hp
  refine W.widen (k := _ + m_23) (n := _ + z_24) (Nat.le_refl _) (Nat.le_refl _) ?_
  replace hbc := w_spend hbc (show m_23 ≤ ((((bc - 1) - m_6) - m_11) - m_17) by omega)
  replace hbs := w_spend hbs (show z_24 ≤ ((((bs - 4) - z_7) - z_12) - z_18) by omega)
  have hE := hE.trans hX_S_22
  have hK_a0 : sK S_22 a0 = 2 := (hX_S_22.2 a0 hL_a0).1.trans hK_a0
  have hL_a0 : wM D S_22 a0 := hX_S_22.M hL_a0
  exact hp.elim
set_option maxHeartbeats 4000000 in
set_option maxRecDepth 100000 in
theorem c_Jx00060_init_d00df (l : Launch) {rC rS : Nat} {D : wD} {cy : Nat → ClassId} {X : va_W} {S0 : wS} {post : wS → Prop} {a0 : Nat} {x1 : Int32} (hL_a0 : wM D S0 a0) (hK_a0 : sK S0 a0 = 2) (hp : wp_Jx00060_init_d00df D post rC rS S0 a0 x1) : mV D cy X l yJx00060_init_d00df wz_Jx00060_init_d00df (r_Jx00060_init_d00df rC rS) [.ref a0, .int x1] S0 (fun S9 => wX D S0 S9 ∧ post S9) := by
  intro sz
  refine Met.ofW (cc := cJx00060_init_d00df) (maxL := 2) (ret := none) (by decide) rfl ?_
  intro p e s m args below meth c s₁ B hml hv
  obtain ⟨rfl, hsz, hP, hK, hD0, hRO⟩ := hv
  have hts := atoms_spec (ws := wz_Jx00060_init_d00df) B.pre
  have hown : s.vm.findClass RJx00060 = some m.cls := findClass_of_methodNamed B.named
  subst hsz
  have hD := hD0.self (sz := s.heap.size)
  have F : CallFix p m c cJx00060_init_d00df 2 s _ wz_Jx00060_init_d00df RJx00060 := ⟨B.exec, B.bytes, hml, hown, hts⟩
  have hr := B.returns
  have hlocks := B.notSynchronized
  have hin : meth.name = "<init>" := (name_of_methodNamed B.named B.method).1
  generalize hAe : va_A (wL cy X S0) s.heap.size = A at hD hK ⊢
  have hA : ∀ q, s.heap.size ≤ q → A q := fun q h => by rw [← hAe]; exact Or.inr h
  have hW : wO D cy X A s.heap S0 s.heap [] := ⟨hP, hD, va_S.rf, hA, hRO⟩
  have hl := lv_entry ([.ref a0, .int x1]) (n := 2) (Nat.le_of_ble_eq_true rfl)
  rw [lg_entry_eq]
  generalize (lg_sl ([.ref a0, .int x1]) ++ List.replicate (2 - (lg_sl ([.ref a0, .int x1])).length) Slot.unset).toArray = ls at hl ⊢
  have hl : lv_has ls 2 [(0, .ref a0), (1, .int x1)] := hl
  unfold wp_Jx00060_init_d00df at hp
  exact t_Jx00060_init_d00df_0 F hr hlocks hK hin (Nat.le_of_eq (Nat.zero_add _)) (Nat.le_of_eq (Nat.zero_add _)) hp hW wX.rf (lv_sub hl [0, 1] rfl) hL_a0 hK_a0
def wp_J7_rangeCheck_23922_0 (D : wD) (post : wS → Prop)  (bc bs : Nat) (S : wS) (x0 : Int32) (x1 : Int32) (x2 : Int32) : Prop :=
((x1 ≤ x2 → ((0 ≤ x1 → ((x2 ≤ x0 → post S) ∧
 (¬ x2 ≤ x0 → 1 ≤ bc ∧ 6 ≤ bs ∧
∀ y_4 : Nat, ¬ wM D S y_4 → ∀ S_5 : wS, S_5 = nA S y_4 2 0 →
∃ m_9 z_10 : Nat, m_9 ≤ (bc - 1) ∧ z_10 ≤ (bs - 6) ∧
wp_Jx00060_init_d00df D (fun S_8 => 
False) m_9 z_10 S_5 y_4 x2))) ∧
 (¬ 0 ≤ x1 → 1 ≤ bc ∧ 6 ≤ bs ∧
∀ y_11 : Nat, ¬ wM D S y_11 → ∀ S_12 : wS, S_12 = nA S y_11 2 0 →
∃ m_16 z_17 : Nat, m_16 ≤ (bc - 1) ∧ z_17 ≤ (bs - 6) ∧
wp_Jx00060_init_d00df D (fun S_15 => 
False) m_16 z_17 S_12 y_11 x1))) ∧
 (¬ x1 ≤ x2 → False))
abbrev r_J7_rangeCheck_23922 (rC rS : Nat) : Room := { frames := 11, cells := rC, slots := rS, locals := 244 }
def wp_J7_rangeCheck_23922 (D : wD) (post : wS → Prop) (bc bs : Nat) (S : wS) (x0 : Int32) (x1 : Int32) (x2 : Int32) : Prop := wp_J7_rangeCheck_23922_0 D post bc bs S x0 x1 x2
set_option maxHeartbeats 4000000 in
set_option maxRecDepth 100000 in
theorem t_J7_rangeCheck_23922_0 {p : Program} {l : Launch} {e : Env} {s : State} {m : MethodId} {args : Array Value} {below : List Frame} {meth : Method} {c : Code} {D : wD} {cy : Nat → ClassId} {X : va_W} {A : Nat → Prop} {S0 : wS} {rC rS : Nat} {post : wS → Prop} (F : CallFix p m c cJ7_rangeCheck_23922 3 s args wz_J7_rangeCheck_23922 RJ7) (hr : meth.sig.returnType = none) (hlocks : meth.locks = false) (hK : wK D cy A s) : ∀ {bc bs cells slots : Nat} (hbc : cells + bc ≤ rC) (hbs : slots + bs ≤ rS) {S : wS} {H : Heap} {locs : List Loc} {ls : Array Slot} {x0 : Int32} {x1 : Int32} {x2 : Int32}, wp_J7_rangeCheck_23922_0 D post bc bs S x0 x1 x2 → wO D cy X A s.heap S H locs → wX D S0 S → lv_has ls 3 [(0, .int x0), (1, .int x1), (2, .int x2)] → W p l e (r_J7_rangeCheck_23922 rC rS) s m args below meth c H locs cells slots (MQ below (va_Qv (fun S9 => wX D S0 S9 ∧ post S9) (wB D cy X A) A) args s rC rS A) (F0 m 0 ls []) := by
  obtain ⟨hx, hb, hml, hown, hts⟩ := id F
  have hwg : ∀ w ∈ WG, w.before args s = true := fun w h => hts w (List.mem_cons_of_mem _ h)
  intro bc bs cells slots hbc hbs S H locs ls x0 x1 x2 hp hW hE hl
  unfold wp_J7_rangeCheck_23922_0 at hp
  refine lv_iload_n hx hb dJ7_rangeCheck_23922_0 rfl (lv_at hl 1 rfl) ?_
  refine lv_iload_n hx hb dJ7_rangeCheck_23922_1 rfl (lv_at hl 2 rfl) ?_
  refine lv_icmp_le (tgt := 46) hx hb dJ7_rangeCheck_23922_2 (by decide) (fun c_1 => ?_) (fun c_1 => ?_)
  · replace hp := hp.1 c_1
    refine lv_iload_n hx hb dJ7_rangeCheck_23922_46 rfl (lv_at hl 1 rfl) ?_
    refine lv_if_ge (tgt := 59) hx hb dJ7_rangeCheck_23922_47 (by decide) (fun c_2 => ?_) (fun c_2 => ?_)
    · replace hp := hp.1 c_2
      refine lv_iload_n hx hb dJ7_rangeCheck_23922_59 rfl (lv_at hl 2 rfl) ?_
      refine lv_iload_n hx hb dJ7_rangeCheck_23922_60 rfl (lv_at hl 0 rfl) ?_
      refine lv_icmp_le (tgt := 73) hx hb dJ7_rangeCheck_23922_61 (by decide) (fun c_3 => ?_) (fun c_3 => ?_)
      · replace hp := hp.1 c_3
        refine W.widen (k := rC) (n := rS) (Nat.le_trans (Nat.le_add_right _ _) hbc) (Nat.le_trans (Nat.le_add_right _ _) hbs) ?_
        exact w_vret hx hb hr hlocks hW ⟨hE, hp⟩ dJ7_rangeCheck_23922_73
      · replace hp := hp.2 c_3
        obtain ⟨h_6, h_6b, hp⟩ := hp
        refine w_new (k := 2) (T := TJx00060) F hK hW rfl (by decide) (fun w h => List.mem_cons_of_mem _ (wu_2 w h)) tyJx00060 tyJx00060_ok (hwg _ wc_RJ7_68) (hwg _ wn_2) (hwg _ wi_java_lang_ArrayIndexOutOfBoundsException) wdef_2 (by show _ ≤ rC; omega) (by show _ ≤ rS; omega) dJ7_rangeCheck_23922_64 (fun y_4 H hq_y_4 hW => ?_)
        replace hbc := w_spend hbc (show 1 ≤ bc by omega)
        replace hbs := w_spend hbs (show 6 ≤ bs by omega)
        obtain ⟨S_5, eS_5⟩ : ∃ z : wS, z = nA S y_4 2 0 := ⟨_, rfl⟩
        rw [← eS_5] at hW
        replace hp := hp y_4 hq_y_4 S_5 eS_5
        have hX_S_5 : wX D S S_5 := by rw [eS_5]; exact wX_nA hq_y_4
        have hE := hE.trans hX_S_5
        have hL_y_4 : wM D S_5 y_4 := by rw [eS_5]; exact Or.inl (List.mem_append_right _ List.mem_cons_self)
        have hK_y_4 : sK S_5 y_4 = 2 := by rw [eS_5]; exact va_up_self _ _ _
        refine lv_dup hx hb dJ7_rangeCheck_23922_67 rfl ?_
        refine lv_iload_n hx hb dJ7_rangeCheck_23922_68 rfl (lv_at hl 2 rfl) ?_
        obtain ⟨m_9, z_10, hm_9, hz_10, hp⟩ := hp
        refine w_callV (va_runI (As := [.int x2]) (rest := [.ref y_4]) F (c_Jx00060_init_d00df l hL_y_4 hK_y_4 hp H.size) (cwI 1 hts (wg_cons wy_Jx00060_init_d00df.2.2) rfl rfl rfl (hwg _ wy_Jx00060_init_d00df.2.1) (hwg _ wm_RJ7_70) (hwg _ wy_Jx00060_init_d00df.1) rfl (by decide +kernel) ⟨Nat.le_of_ble_eq_true rfl, Nat.le_of_ble_eq_true rfl⟩) (w_preS hK hW) rfl rfl hl.1 rfl (lv_room (Nat.le_of_ble_eq_true rfl)) dJ7_rangeCheck_23922_69 ⟨by show _ + m_9 ≤ rC; omega, by show _ + z_10 ≤ rS; omega⟩) hW (fun S_8 H locs hp hW => ?_)
        obtain ⟨hX_S_8, hp⟩ := hp
        refine W.widen (k := _ + m_9) (n := _ + z_10) (Nat.le_refl _) (Nat.le_refl _) ?_
        replace hbc := w_spend hbc (show m_9 ≤ (bc - 1) by omega)
        replace hbs := w_spend hbs (show z_10 ≤ (bs - 6) by omega)
        have hE := hE.trans hX_S_8
        have hK_y_4 : sK S_8 y_4 = 2 := (hX_S_8.2 y_4 hL_y_4).1.trans hK_y_4
        have hL_y_4 : wM D S_8 y_4 := hX_S_8.M hL_y_4
        exact hp.elim
    · replace hp := hp.2 c_2
      obtain ⟨h_13, h_13b, hp⟩ := hp
      refine w_new (k := 2) (T := TJx00060) F hK hW rfl (by decide) (fun w h => List.mem_cons_of_mem _ (wu_2 w h)) tyJx00060 tyJx00060_ok (hwg _ wc_RJ7_68) (hwg _ wn_2) (hwg _ wi_java_lang_ArrayIndexOutOfBoundsException) wdef_2 (by show _ ≤ rC; omega) (by show _ ≤ rS; omega) dJ7_rangeCheck_23922_50 (fun y_11 H hq_y_11 hW => ?_)
      replace hbc := w_spend hbc (show 1 ≤ bc by omega)
      replace hbs := w_spend hbs (show 6 ≤ bs by omega)
      obtain ⟨S_12, eS_12⟩ : ∃ z : wS, z = nA S y_11 2 0 := ⟨_, rfl⟩
      rw [← eS_12] at hW
      replace hp := hp y_11 hq_y_11 S_12 eS_12
      have hX_S_12 : wX D S S_12 := by rw [eS_12]; exact wX_nA hq_y_11
      have hE := hE.trans hX_S_12
      have hL_y_11 : wM D S_12 y_11 := by rw [eS_12]; exact Or.inl (List.mem_append_right _ List.mem_cons_self)
      have hK_y_11 : sK S_12 y_11 = 2 := by rw [eS_12]; exact va_up_self _ _ _
      refine lv_dup hx hb dJ7_rangeCheck_23922_53 rfl ?_
      refine lv_iload_n hx hb dJ7_rangeCheck_23922_54 rfl (lv_at hl 1 rfl) ?_
      obtain ⟨m_16, z_17, hm_16, hz_17, hp⟩ := hp
      refine w_callV (va_runI (As := [.int x1]) (rest := [.ref y_11]) F (c_Jx00060_init_d00df l hL_y_11 hK_y_11 hp H.size) (cwI 1 hts (wg_cons wy_Jx00060_init_d00df.2.2) rfl rfl rfl (hwg _ wy_Jx00060_init_d00df.2.1) (hwg _ wm_RJ7_70) (hwg _ wy_Jx00060_init_d00df.1) rfl (by decide +kernel) ⟨Nat.le_of_ble_eq_true rfl, Nat.le_of_ble_eq_true rfl⟩) (w_preS hK hW) rfl rfl hl.1 rfl (lv_room (Nat.le_of_ble_eq_true rfl)) dJ7_rangeCheck_23922_55 ⟨by show _ + m_16 ≤ rC; omega, by show _ + z_17 ≤ rS; omega⟩) hW (fun S_15 H locs hp hW => ?_)
      obtain ⟨hX_S_15, hp⟩ := hp
      refine W.widen (k := _ + m_16) (n := _ + z_17) (Nat.le_refl _) (Nat.le_refl _) ?_
      replace hbc := w_spend hbc (show m_16 ≤ (bc - 1) by omega)
      replace hbs := w_spend hbs (show z_17 ≤ (bs - 6) by omega)
      have hE := hE.trans hX_S_15
      have hK_y_11 : sK S_15 y_11 = 2 := (hX_S_15.2 y_11 hL_y_11).1.trans hK_y_11
      have hL_y_11 : wM D S_15 y_11 := hX_S_15.M hL_y_11
      exact hp.elim
  · replace hp := hp.2 c_1
    exact hp.elim
set_option maxHeartbeats 4000000 in
set_option maxRecDepth 100000 in
theorem c_J7_rangeCheck_23922 (l : Launch) {rC rS : Nat} {D : wD} {cy : Nat → ClassId} {X : va_W} {S0 : wS} {post : wS → Prop} {x0 : Int32} {x1 : Int32} {x2 : Int32} (hp : wp_J7_rangeCheck_23922 D post rC rS S0 x0 x1 x2) : mV D cy X l yJ7_rangeCheck_23922 wz_J7_rangeCheck_23922 (r_J7_rangeCheck_23922 rC rS) [.int x0, .int x1, .int x2] S0 (fun S9 => wX D S0 S9 ∧ post S9) := by
  intro sz
  refine Met.ofW (cc := cJ7_rangeCheck_23922) (maxL := 3) (ret := none) (by decide) rfl ?_
  intro p e s m args below meth c s₁ B hml hv
  obtain ⟨rfl, hsz, hP, hK, hD0, hRO⟩ := hv
  have hts := atoms_spec (ws := wz_J7_rangeCheck_23922) B.pre
  have hown : s.vm.findClass RJ7 = some m.cls := findClass_of_methodNamed B.named
  subst hsz
  have hD := hD0.self (sz := s.heap.size)
  have F : CallFix p m c cJ7_rangeCheck_23922 3 s _ wz_J7_rangeCheck_23922 RJ7 := ⟨B.exec, B.bytes, hml, hown, hts⟩
  have hr := B.returns
  have hlocks := B.notSynchronized
  generalize hAe : va_A (wL cy X S0) s.heap.size = A at hD hK ⊢
  have hA : ∀ q, s.heap.size ≤ q → A q := fun q h => by rw [← hAe]; exact Or.inr h
  have hW : wO D cy X A s.heap S0 s.heap [] := ⟨hP, hD, va_S.rf, hA, hRO⟩
  have hl := lv_entry ([.int x0, .int x1, .int x2]) (n := 3) (Nat.le_of_ble_eq_true rfl)
  rw [lg_entry_eq]
  generalize (lg_sl ([.int x0, .int x1, .int x2]) ++ List.replicate (3 - (lg_sl ([.int x0, .int x1, .int x2])).length) Slot.unset).toArray = ls at hl ⊢
  have hl : lv_has ls 3 [(0, .int x0), (1, .int x1), (2, .int x2)] := hl
  unfold wp_J7_rangeCheck_23922 at hp
  exact t_J7_rangeCheck_23922_0 F hr hlocks hK (Nat.le_of_eq (Nat.zero_add _)) (Nat.le_of_eq (Nat.zero_add _)) hp hW wX.rf (lv_sub hl [0, 1, 2] rfl)
def wp_J7_fill_eb02e_10 (D : wD) (post : wS → Prop)  : Nat → Nat → Nat → wS → Nat → Int32 → Int32 → Int32 → Prop
  | 0, _, _, _, _, _, _, _ => False
  | n + 1, bc, bs, S, a0, x2, x3, x4 =>
    ((x2 ≤ x4 → post S) ∧
     (¬ x2 ≤ x4 → a0 ∈ sL S ∧ vp_in x4 (sN S a0) ∧
    ∀ S_3 : wS, S_3 = uI S a0 (x4).toNatClampNeg (vp_nar .byte x3) →
    ∀ x_4 : Int32, x_4 = x4 + 1 →
    wp_J7_fill_eb02e_10 D post n bc bs S_3 a0 x2 x3 x_4))
def wp_J7_fill_eb02e_0 (D : wD) (post : wS → Prop)  (bc bs : Nat) (S : wS) (a0 : Nat) (x1 : Int32) (x2 : Int32) (x3 : Int32) : Prop :=
∃ m_3 z_4 : Nat, m_3 ≤ bc ∧ z_4 ≤ bs ∧
wp_J7_rangeCheck_23922 D (fun S_2 => 
∃ n_5 : Nat, wp_J7_fill_eb02e_10 D post n_5 (bc - m_3) (bs - z_4) S_2 a0 x2 x3 x1) m_3 z_4 S (Int32.ofNat (sN S a0)) x1 x2
abbrev r_J7_fill_eb02e (rC rS : Nat) : Room := { frames := 12, cells := rC, slots := rS, locals := 266 }
def wp_J7_fill_eb02e (D : wD) (post : wS → Prop) (bc bs : Nat) (S : wS) (a0 : Nat) (x1 : Int32) (x2 : Int32) (x3 : Int32) : Prop := wp_J7_fill_eb02e_0 D post bc bs S a0 x1 x2 x3
set_option maxHeartbeats 4000000 in
set_option maxRecDepth 100000 in
theorem t_J7_fill_eb02e_10 {p : Program} {l : Launch} {e : Env} {s : State} {m : MethodId} {args : Array Value} {below : List Frame} {meth : Method} {c : Code} {D : wD} {cy : Nat → ClassId} {X : va_W} {A : Nat → Prop} {S0 : wS} {rC rS : Nat} {post : wS → Prop} (F : CallFix p m c cJ7_fill_eb02e 5 s args wz_J7_fill_eb02e RJ7) (hr : meth.sig.returnType = none) (hlocks : meth.locks = false) (hK : wK D cy A s) : ∀ (n : Nat) {bc bs cells slots : Nat} (hbc : cells + bc ≤ rC) (hbs : slots + bs ≤ rS) {S : wS} {H : Heap} {locs : List Loc} {ls : Array Slot} {a0 : Nat} {x2 : Int32} {x3 : Int32} {x4 : Int32}, wp_J7_fill_eb02e_10 D post n bc bs S a0 x2 x3 x4 → wO D cy X A s.heap S H locs → wX D S0 S → lv_has ls 5 [(0, .ref a0), (2, .int x2), (3, .int x3), (4, .int x4)] → wM D S a0 → sK S a0 = 20 → W p l e (r_J7_fill_eb02e rC rS) s m args below meth c H locs cells slots (MQ below (va_Qv (fun S9 => wX D S0 S9 ∧ post S9) (wB D cy X A) A) args s rC rS A) (F0 m 10 ls []) := by
  obtain ⟨hx, hb, hml, hown, hts⟩ := id F
  have hwg : ∀ w ∈ WG, w.before args s = true := fun w h => hts w (List.mem_cons_of_mem _ h)
  intro n
  induction n with
  | zero =>
    intro bc bs cells slots hbc hbs S H locs ls a0 x2 x3 x4 hp
    exact hp.elim
  | succ n ih =>
    intro bc bs cells slots hbc hbs S H locs ls a0 x2 x3 x4 hp hW hE hl hL_a0 hK_a0
    unfold wp_J7_fill_eb02e_10 at hp
    refine lv_iload hx hb dJ7_fill_eb02e_10 (lv_at hl 3 rfl) ?_
    refine lv_iload_n hx hb dJ7_fill_eb02e_12 rfl (lv_at hl 1 rfl) ?_
    refine lv_icmp_ge (tgt := 27) hx hb dJ7_fill_eb02e_13 (by decide) (fun c_1 => ?_) (fun c_1 => ?_)
    · replace hp := hp.1 c_1
      refine W.widen (k := rC) (n := rS) (Nat.le_trans (Nat.le_add_right _ _) hbc) (Nat.le_trans (Nat.le_add_right _ _) hbs) ?_
      exact w_vret hx hb hr hlocks hW ⟨hE, hp⟩ dJ7_fill_eb02e_27
    · replace hp := hp.2 c_1
      refine lv_aload_n hx hb dJ7_fill_eb02e_16 rfl (lv_at hl 0 rfl) ?_
      refine lv_iload hx hb dJ7_fill_eb02e_17 (lv_at hl 3 rfl) ?_
      refine lv_iload_n hx hb dJ7_fill_eb02e_19 rfl (lv_at hl 2 rfl) ?_
      obtain ⟨h_2m, h_2, hp⟩ := hp
      refine w_bst F hK hW h_2m hK_a0 h_2 dJ7_fill_eb02e_20 (fun H locs hW => ?_)
      obtain ⟨S_3, eS_3⟩ : ∃ z : wS, z = uI S a0 (x4).toNatClampNeg (vp_nar .byte x3) := ⟨_, rfl⟩
      rw [← eS_3] at hW
      replace hp := hp S_3 eS_3
      have hX_S_3 : wX D S S_3 := by rw [eS_3]; exact wX_uI
      have hE := hE.trans hX_S_3
      have hK_a0 : sK S_3 a0 = 20 := (hX_S_3.2 a0 hL_a0).1.trans hK_a0
      have hL_a0 : wM D S_3 a0 := hX_S_3.M hL_a0
      obtain ⟨x_4, ex_4⟩ : ∃ z : Int32, z = x4 + 1 := ⟨_, rfl⟩
      replace hp := hp x_4 ex_4
      refine lv_iinc (v := x_4) (lv' := [(4, .int x_4), (0, .ref a0), (2, .int x2), (3, .int x3)]) hx hb dJ7_fill_eb02e_21 hl (k := 3) rfl (by rw [ex_4]; rfl) (by decide) rfl (fun ls hl => ?_)
      refine lv_goto (tgt := 10) hx hb dJ7_fill_eb02e_24 (by decide) ?_
      exact ih hbc hbs hp hW hE (lv_sub hl [1, 2, 3, 0] rfl) hL_a0 hK_a0
set_option maxHeartbeats 4000000 in
set_option maxRecDepth 100000 in
theorem t_J7_fill_eb02e_0 {p : Program} {l : Launch} {e : Env} {s : State} {m : MethodId} {args : Array Value} {below : List Frame} {meth : Method} {c : Code} {D : wD} {cy : Nat → ClassId} {X : va_W} {A : Nat → Prop} {S0 : wS} {rC rS : Nat} {post : wS → Prop} (F : CallFix p m c cJ7_fill_eb02e 5 s args wz_J7_fill_eb02e RJ7) (hr : meth.sig.returnType = none) (hlocks : meth.locks = false) (hK : wK D cy A s) : ∀ {bc bs cells slots : Nat} (hbc : cells + bc ≤ rC) (hbs : slots + bs ≤ rS) {S : wS} {H : Heap} {locs : List Loc} {ls : Array Slot} {a0 : Nat} {x1 : Int32} {x2 : Int32} {x3 : Int32}, wp_J7_fill_eb02e_0 D post bc bs S a0 x1 x2 x3 → wO D cy X A s.heap S H locs → wX D S0 S → lv_has ls 5 [(0, .ref a0), (1, .int x1), (2, .int x2), (3, .int x3)] → wM D S a0 → sK S a0 = 20 → W p l e (r_J7_fill_eb02e rC rS) s m args below meth c H locs cells slots (MQ below (va_Qv (fun S9 => wX D S0 S9 ∧ post S9) (wB D cy X A) A) args s rC rS A) (F0 m 0 ls []) := by
  obtain ⟨hx, hb, hml, hown, hts⟩ := id F
  have hwg : ∀ w ∈ WG, w.before args s = true := fun w h => hts w (List.mem_cons_of_mem _ h)
  intro bc bs cells slots hbc hbs S H locs ls a0 x1 x2 x3 hp hW hE hl hL_a0 hK_a0
  unfold wp_J7_fill_eb02e_0 at hp
  refine lv_aload_n hx hb dJ7_fill_eb02e_0 rfl (lv_at hl 0 rfl) ?_
  refine w_len F hK hW hL_a0 hK_a0 (by decide) dJ7_fill_eb02e_1 ?_
  refine lv_iload_n hx hb dJ7_fill_eb02e_2 rfl (lv_at hl 1 rfl) ?_
  refine lv_iload_n hx hb dJ7_fill_eb02e_3 rfl (lv_at hl 2 rfl) ?_
  obtain ⟨m_3, z_4, hm_3, hz_4, hp⟩ := hp
  refine w_callV (va_runS (As := [.int (Int32.ofNat (sN S a0)), .int x1, .int x2]) (rest := []) F (c_J7_rangeCheck_23922 l hp H.size) (va_cwS 3 hts (wg_S wm_RJ7_13 wy_J7_rangeCheck_23922) rfl rfl rfl (by decide +kernel) ⟨Nat.le_of_ble_eq_true rfl, Nat.le_of_ble_eq_true rfl⟩) (w_preS hK hW) rfl rfl hl.1 rfl (lv_room (Nat.le_of_ble_eq_true rfl)) dJ7_fill_eb02e_4 ⟨by show _ + m_3 ≤ rC; omega, by show _ + z_4 ≤ rS; omega⟩) hW (fun S_2 H locs hp hW => ?_)
  obtain ⟨hX_S_2, hp⟩ := hp
  refine W.widen (k := _ + m_3) (n := _ + z_4) (Nat.le_refl _) (Nat.le_refl _) ?_
  replace hbc := w_spend hbc (show m_3 ≤ bc by omega)
  replace hbs := w_spend hbs (show z_4 ≤ bs by omega)
  have hE := hE.trans hX_S_2
  have hK_a0 : sK S_2 a0 = 20 := (hX_S_2.2 a0 hL_a0).1.trans hK_a0
  have hL_a0 : wM D S_2 a0 := hX_S_2.M hL_a0
  refine lv_iload_n hx hb dJ7_fill_eb02e_7 rfl (lv_at hl 1 rfl) ?_
  refine lv_istore (lv' := [(4, .int x1), (0, .ref a0), (1, .int x1), (2, .int x2), (3, .int x3)]) hx hb dJ7_fill_eb02e_8 hl (by decide) rfl (fun ls hl => ?_)
  obtain ⟨n_5, hp⟩ := hp
  exact t_J7_fill_eb02e_10 F hr hlocks hK n_5 hbc hbs hp hW hE (lv_sub hl [1, 3, 4, 0] rfl) hL_a0 hK_a0
set_option maxHeartbeats 4000000 in
set_option maxRecDepth 100000 in
theorem c_J7_fill_eb02e (l : Launch) {rC rS : Nat} {D : wD} {cy : Nat → ClassId} {X : va_W} {S0 : wS} {post : wS → Prop} {a0 : Nat} {x1 : Int32} {x2 : Int32} {x3 : Int32} (hL_a0 : wM D S0 a0) (hK_a0 : sK S0 a0 = 20) (hp : wp_J7_fill_eb02e D post rC rS S0 a0 x1 x2 x3) : mV D cy X l yJ7_fill_eb02e wz_J7_fill_eb02e (r_J7_fill_eb02e rC rS) [.ref a0, .int x1, .int x2, .int x3] S0 (fun S9 => wX D S0 S9 ∧ post S9) := by
  intro sz
  refine Met.ofW (cc := cJ7_fill_eb02e) (maxL := 5) (ret := none) (by decide) rfl ?_
  intro p e s m args below meth c s₁ B hml hv
  obtain ⟨rfl, hsz, hP, hK, hD0, hRO⟩ := hv
  have hts := atoms_spec (ws := wz_J7_fill_eb02e) B.pre
  have hown : s.vm.findClass RJ7 = some m.cls := findClass_of_methodNamed B.named
  subst hsz
  have hD := hD0.self (sz := s.heap.size)
  have F : CallFix p m c cJ7_fill_eb02e 5 s _ wz_J7_fill_eb02e RJ7 := ⟨B.exec, B.bytes, hml, hown, hts⟩
  have hr := B.returns
  have hlocks := B.notSynchronized
  generalize hAe : va_A (wL cy X S0) s.heap.size = A at hD hK ⊢
  have hA : ∀ q, s.heap.size ≤ q → A q := fun q h => by rw [← hAe]; exact Or.inr h
  have hW : wO D cy X A s.heap S0 s.heap [] := ⟨hP, hD, va_S.rf, hA, hRO⟩
  have hl := lv_entry ([.ref a0, .int x1, .int x2, .int x3]) (n := 5) (Nat.le_of_ble_eq_true rfl)
  rw [lg_entry_eq]
  generalize (lg_sl ([.ref a0, .int x1, .int x2, .int x3]) ++ List.replicate (5 - (lg_sl ([.ref a0, .int x1, .int x2, .int x3])).length) Slot.unset).toArray = ls at hl ⊢
  have hl : lv_has ls 5 [(0, .ref a0), (1, .int x1), (2, .int x2), (3, .int x3)] := hl
  unfold wp_J7_fill_eb02e at hp
  exact t_J7_fill_eb02e_0 F hr hlocks hK (Nat.le_of_eq (Nat.zero_add _)) (Nat.le_of_eq (Nat.zero_add _)) hp hW wX.rf (lv_sub hl [0, 1, 2, 3] rfl) hL_a0 hK_a0
def wp_J1_fillNull_b72d1_0 (D : wD) (post : wS → Prop)  (bc bs : Nat) (S : wS) (a0 : Nat) (x1 : Int32) (x2 : Int32) : Prop :=
∃ m_3 z_4 : Nat, m_3 ≤ bc ∧ z_4 ≤ bs ∧
wp_J7_fill_eb02e D (fun S_2 => 
post S_2) m_3 z_4 S a0 x1 x2 (0 : Int32)
abbrev r_J1_fillNull_b72d1 (rC rS : Nat) : Room := { frames := 13, cells := rC, slots := rS, locals := 290 }
def wp_J1_fillNull_b72d1 (D : wD) (post : wS → Prop) (bc bs : Nat) (S : wS) (a0 : Nat) (x1 : Int32) (x2 : Int32) : Prop := wp_J1_fillNull_b72d1_0 D post bc bs S a0 x1 x2
set_option maxHeartbeats 4000000 in
set_option maxRecDepth 100000 in
theorem t_J1_fillNull_b72d1_0 {p : Program} {l : Launch} {e : Env} {s : State} {m : MethodId} {args : Array Value} {below : List Frame} {meth : Method} {c : Code} {D : wD} {cy : Nat → ClassId} {X : va_W} {A : Nat → Prop} {S0 : wS} {rC rS : Nat} {post : wS → Prop} (F : CallFix p m c cJ1_fillNull_b72d1 3 s args wz_J1_fillNull_b72d1 RJ1) (hr : meth.sig.returnType = none) (hlocks : meth.locks = false) (hK : wK D cy A s) : ∀ {bc bs cells slots : Nat} (hbc : cells + bc ≤ rC) (hbs : slots + bs ≤ rS) {S : wS} {H : Heap} {locs : List Loc} {ls : Array Slot} {a0 : Nat} {x1 : Int32} {x2 : Int32}, wp_J1_fillNull_b72d1_0 D post bc bs S a0 x1 x2 → wO D cy X A s.heap S H locs → wX D S0 S → lv_has ls 3 [(0, .ref a0), (1, .int x1), (2, .int x2)] → wM D S a0 → sK S a0 = 20 → W p l e (r_J1_fillNull_b72d1 rC rS) s m args below meth c H locs cells slots (MQ below (va_Qv (fun S9 => wX D S0 S9 ∧ post S9) (wB D cy X A) A) args s rC rS A) (F0 m 0 ls []) := by
  obtain ⟨hx, hb, hml, hown, hts⟩ := id F
  have hwg : ∀ w ∈ WG, w.before args s = true := fun w h => hts w (List.mem_cons_of_mem _ h)
  intro bc bs cells slots hbc hbs S H locs ls a0 x1 x2 hp hW hE hl hL_a0 hK_a0
  unfold wp_J1_fillNull_b72d1_0 at hp
  refine lv_aload_n hx hb dJ1_fillNull_b72d1_0 rfl (lv_at hl 0 rfl) ?_
  refine lv_iload_n hx hb dJ1_fillNull_b72d1_1 rfl (lv_at hl 1 rfl) ?_
  refine lv_iload_n hx hb dJ1_fillNull_b72d1_2 rfl (lv_at hl 2 rfl) ?_
  refine lv_iconst (v := 0) hx hb dJ1_fillNull_b72d1_3 (by decide) ?_
  obtain ⟨m_3, z_4, hm_3, hz_4, hp⟩ := hp
  refine w_callV (va_runS (As := [.ref a0, .int x1, .int x2, .int (0 : Int32)]) (rest := []) F (c_J7_fill_eb02e l hL_a0 hK_a0 hp H.size) (va_cwS 4 hts (wg_S wm_RJ1_236 wy_J7_fill_eb02e) rfl rfl rfl (by decide +kernel) ⟨Nat.le_of_ble_eq_true rfl, Nat.le_of_ble_eq_true rfl⟩) (w_preS hK hW) rfl rfl hl.1 rfl (lv_room (Nat.le_of_ble_eq_true rfl)) dJ1_fillNull_b72d1_4 ⟨by show _ + m_3 ≤ rC; omega, by show _ + z_4 ≤ rS; omega⟩) hW (fun S_2 H locs hp hW => ?_)
  obtain ⟨hX_S_2, hp⟩ := hp
  refine W.widen (k := _ + m_3) (n := _ + z_4) (Nat.le_refl _) (Nat.le_refl _) ?_
  replace hbc := w_spend hbc (show m_3 ≤ bc by omega)
  replace hbs := w_spend hbs (show z_4 ≤ bs by omega)
  have hE := hE.trans hX_S_2
  have hK_a0 : sK S_2 a0 = 20 := (hX_S_2.2 a0 hL_a0).1.trans hK_a0
  have hL_a0 : wM D S_2 a0 := hX_S_2.M hL_a0
  refine W.widen (k := rC) (n := rS) (Nat.le_trans (Nat.le_add_right _ _) hbc) (Nat.le_trans (Nat.le_add_right _ _) hbs) ?_
  exact w_vret hx hb hr hlocks hW ⟨hE, hp⟩ dJ1_fillNull_b72d1_7
set_option maxHeartbeats 4000000 in
set_option maxRecDepth 100000 in
theorem c_J1_fillNull_b72d1 (l : Launch) {rC rS : Nat} {D : wD} {cy : Nat → ClassId} {X : va_W} {S0 : wS} {post : wS → Prop} {a0 : Nat} {x1 : Int32} {x2 : Int32} (hL_a0 : wM D S0 a0) (hK_a0 : sK S0 a0 = 20) (hp : wp_J1_fillNull_b72d1 D post rC rS S0 a0 x1 x2) : mV D cy X l yJ1_fillNull_b72d1 wz_J1_fillNull_b72d1 (r_J1_fillNull_b72d1 rC rS) [.ref a0, .int x1, .int x2] S0 (fun S9 => wX D S0 S9 ∧ post S9) := by
  intro sz
  refine Met.ofW (cc := cJ1_fillNull_b72d1) (maxL := 3) (ret := none) (by decide) rfl ?_
  intro p e s m args below meth c s₁ B hml hv
  obtain ⟨rfl, hsz, hP, hK, hD0, hRO⟩ := hv
  have hts := atoms_spec (ws := wz_J1_fillNull_b72d1) B.pre
  have hown : s.vm.findClass RJ1 = some m.cls := findClass_of_methodNamed B.named
  subst hsz
  have hD := hD0.self (sz := s.heap.size)
  have F : CallFix p m c cJ1_fillNull_b72d1 3 s _ wz_J1_fillNull_b72d1 RJ1 := ⟨B.exec, B.bytes, hml, hown, hts⟩
  have hr := B.returns
  have hlocks := B.notSynchronized
  generalize hAe : va_A (wL cy X S0) s.heap.size = A at hD hK ⊢
  have hA : ∀ q, s.heap.size ≤ q → A q := fun q h => by rw [← hAe]; exact Or.inr h
  have hW : wO D cy X A s.heap S0 s.heap [] := ⟨hP, hD, va_S.rf, hA, hRO⟩
  have hl := lv_entry ([.ref a0, .int x1, .int x2]) (n := 3) (Nat.le_of_ble_eq_true rfl)
  rw [lg_entry_eq]
  generalize (lg_sl ([.ref a0, .int x1, .int x2]) ++ List.replicate (3 - (lg_sl ([.ref a0, .int x1, .int x2])).length) Slot.unset).toArray = ls at hl ⊢
  have hl : lv_has ls 3 [(0, .ref a0), (1, .int x1), (2, .int x2)] := hl
  unfold wp_J1_fillNull_b72d1 at hp
  exact t_J1_fillNull_b72d1_0 F hr hlocks hK (Nat.le_of_eq (Nat.zero_add _)) (Nat.le_of_eq (Nat.zero_add _)) hp hW wX.rf (lv_sub hl [0, 1, 2] rfl) hL_a0 hK_a0
def wp_J2_fillNull_b72d1_0 (D : wD) (post : wS → Prop)  (bc bs : Nat) (S : wS) (a0 : Nat) (x1 : Int32) (x2 : Int32) : Prop :=
∃ m_3 z_4 : Nat, m_3 ≤ bc ∧ z_4 ≤ bs ∧
wp_J7_fill_eb02e D (fun S_2 => 
post S_2) m_3 z_4 S a0 (x1 <<< ((1 : Int32) &&& 31)) (x2 <<< ((1 : Int32) &&& 31)) (0 : Int32)
abbrev r_J2_fillNull_b72d1 (rC rS : Nat) : Room := { frames := 13, cells := rC, slots := rS, locals := 290 }
def wp_J2_fillNull_b72d1 (D : wD) (post : wS → Prop) (bc bs : Nat) (S : wS) (a0 : Nat) (x1 : Int32) (x2 : Int32) : Prop := wp_J2_fillNull_b72d1_0 D post bc bs S a0 x1 x2
set_option maxHeartbeats 4000000 in
set_option maxRecDepth 100000 in
theorem t_J2_fillNull_b72d1_0 {p : Program} {l : Launch} {e : Env} {s : State} {m : MethodId} {args : Array Value} {below : List Frame} {meth : Method} {c : Code} {D : wD} {cy : Nat → ClassId} {X : va_W} {A : Nat → Prop} {S0 : wS} {rC rS : Nat} {post : wS → Prop} (F : CallFix p m c cJ2_fillNull_b72d1 3 s args wz_J2_fillNull_b72d1 RJ2) (hr : meth.sig.returnType = none) (hlocks : meth.locks = false) (hK : wK D cy A s) : ∀ {bc bs cells slots : Nat} (hbc : cells + bc ≤ rC) (hbs : slots + bs ≤ rS) {S : wS} {H : Heap} {locs : List Loc} {ls : Array Slot} {a0 : Nat} {x1 : Int32} {x2 : Int32}, wp_J2_fillNull_b72d1_0 D post bc bs S a0 x1 x2 → wO D cy X A s.heap S H locs → wX D S0 S → lv_has ls 3 [(0, .ref a0), (1, .int x1), (2, .int x2)] → wM D S a0 → sK S a0 = 20 → W p l e (r_J2_fillNull_b72d1 rC rS) s m args below meth c H locs cells slots (MQ below (va_Qv (fun S9 => wX D S0 S9 ∧ post S9) (wB D cy X A) A) args s rC rS A) (F0 m 0 ls []) := by
  obtain ⟨hx, hb, hml, hown, hts⟩ := id F
  have hwg : ∀ w ∈ WG, w.before args s = true := fun w h => hts w (List.mem_cons_of_mem _ h)
  intro bc bs cells slots hbc hbs S H locs ls a0 x1 x2 hp hW hE hl hL_a0 hK_a0
  unfold wp_J2_fillNull_b72d1_0 at hp
  refine lv_aload_n hx hb dJ2_fillNull_b72d1_0 rfl (lv_at hl 0 rfl) ?_
  refine lv_iload_n hx hb dJ2_fillNull_b72d1_1 rfl (lv_at hl 1 rfl) ?_
  refine lv_iconst (v := 1) hx hb dJ2_fillNull_b72d1_2 (by decide) ?_
  refine lv_ishl hx hb dJ2_fillNull_b72d1_3 ?_
  refine lv_iload_n hx hb dJ2_fillNull_b72d1_4 rfl (lv_at hl 2 rfl) ?_
  refine lv_iconst (v := 1) hx hb dJ2_fillNull_b72d1_5 (by decide) ?_
  refine lv_ishl hx hb dJ2_fillNull_b72d1_6 ?_
  refine lv_iconst (v := 0) hx hb dJ2_fillNull_b72d1_7 (by decide) ?_
  obtain ⟨m_3, z_4, hm_3, hz_4, hp⟩ := hp
  refine w_callV (va_runS (As := [.ref a0, .int (x1 <<< ((1 : Int32) &&& 31)), .int (x2 <<< ((1 : Int32) &&& 31)), .int (0 : Int32)]) (rest := []) F (c_J7_fill_eb02e l hL_a0 hK_a0 hp H.size) (va_cwS 4 hts (wg_S wm_RJ2_380 wy_J7_fill_eb02e) rfl rfl rfl (by decide +kernel) ⟨Nat.le_of_ble_eq_true rfl, Nat.le_of_ble_eq_true rfl⟩) (w_preS hK hW) rfl rfl hl.1 rfl (lv_room (Nat.le_of_ble_eq_true rfl)) dJ2_fillNull_b72d1_8 ⟨by show _ + m_3 ≤ rC; omega, by show _ + z_4 ≤ rS; omega⟩) hW (fun S_2 H locs hp hW => ?_)
  obtain ⟨hX_S_2, hp⟩ := hp
  refine W.widen (k := _ + m_3) (n := _ + z_4) (Nat.le_refl _) (Nat.le_refl _) ?_
  replace hbc := w_spend hbc (show m_3 ≤ bc by omega)
  replace hbs := w_spend hbs (show z_4 ≤ bs by omega)
  have hE := hE.trans hX_S_2
  have hK_a0 : sK S_2 a0 = 20 := (hX_S_2.2 a0 hL_a0).1.trans hK_a0
  have hL_a0 : wM D S_2 a0 := hX_S_2.M hL_a0
  refine W.widen (k := rC) (n := rS) (Nat.le_trans (Nat.le_add_right _ _) hbc) (Nat.le_trans (Nat.le_add_right _ _) hbs) ?_
  exact w_vret hx hb hr hlocks hW ⟨hE, hp⟩ dJ2_fillNull_b72d1_11
set_option maxHeartbeats 4000000 in
set_option maxRecDepth 100000 in
theorem c_J2_fillNull_b72d1 (l : Launch) {rC rS : Nat} {D : wD} {cy : Nat → ClassId} {X : va_W} {S0 : wS} {post : wS → Prop} {a0 : Nat} {x1 : Int32} {x2 : Int32} (hL_a0 : wM D S0 a0) (hK_a0 : sK S0 a0 = 20) (hp : wp_J2_fillNull_b72d1 D post rC rS S0 a0 x1 x2) : mV D cy X l yJ2_fillNull_b72d1 wz_J2_fillNull_b72d1 (r_J2_fillNull_b72d1 rC rS) [.ref a0, .int x1, .int x2] S0 (fun S9 => wX D S0 S9 ∧ post S9) := by
  intro sz
  refine Met.ofW (cc := cJ2_fillNull_b72d1) (maxL := 3) (ret := none) (by decide) rfl ?_
  intro p e s m args below meth c s₁ B hml hv
  obtain ⟨rfl, hsz, hP, hK, hD0, hRO⟩ := hv
  have hts := atoms_spec (ws := wz_J2_fillNull_b72d1) B.pre
  have hown : s.vm.findClass RJ2 = some m.cls := findClass_of_methodNamed B.named
  subst hsz
  have hD := hD0.self (sz := s.heap.size)
  have F : CallFix p m c cJ2_fillNull_b72d1 3 s _ wz_J2_fillNull_b72d1 RJ2 := ⟨B.exec, B.bytes, hml, hown, hts⟩
  have hr := B.returns
  have hlocks := B.notSynchronized
  generalize hAe : va_A (wL cy X S0) s.heap.size = A at hD hK ⊢
  have hA : ∀ q, s.heap.size ≤ q → A q := fun q h => by rw [← hAe]; exact Or.inr h
  have hW : wO D cy X A s.heap S0 s.heap [] := ⟨hP, hD, va_S.rf, hA, hRO⟩
  have hl := lv_entry ([.ref a0, .int x1, .int x2]) (n := 3) (Nat.le_of_ble_eq_true rfl)
  rw [lg_entry_eq]
  generalize (lg_sl ([.ref a0, .int x1, .int x2]) ++ List.replicate (3 - (lg_sl ([.ref a0, .int x1, .int x2])).length) Slot.unset).toArray = ls at hl ⊢
  have hl : lv_has ls 3 [(0, .ref a0), (1, .int x1), (2, .int x2)] := hl
  unfold wp_J2_fillNull_b72d1 at hp
  exact t_J2_fillNull_b72d1_0 F hr hlocks hK (Nat.le_of_eq (Nat.zero_add _)) (Nat.le_of_eq (Nat.zero_add _)) hp hW wX.rf (lv_sub hl [0, 1, 2] rfl) hL_a0 hK_a0
def wp_J2_putCharSB_b72d1_0 (D : wD) (post : wS → Prop)  (S : wS) (a0 : Nat) (x1 : Int32) (x2 : Int32) : Prop :=
wp_J2_checkIndex_2214a D (fun S_2 => 
wp_J2_putChar_b72d1 D (fun S_4 => 
post S_4) S_2 a0 x1 x2) S x1 a0
abbrev r_J2_putCharSB_b72d1 : Room := { frames := 3, cells := 0, slots := 0, locals := 64 }
def wp_J2_putCharSB_b72d1 (D : wD) (post : wS → Prop) (S : wS) (a0 : Nat) (x1 : Int32) (x2 : Int32) : Prop := wp_J2_putCharSB_b72d1_0 D post S a0 x1 x2
set_option maxHeartbeats 4000000 in
set_option maxRecDepth 100000 in
theorem t_J2_putCharSB_b72d1_0 {p : Program} {l : Launch} {e : Env} {s : State} {m : MethodId} {args : Array Value} {below : List Frame} {meth : Method} {c : Code} {D : wD} {cy : Nat → ClassId} {X : va_W} {A : Nat → Prop} {S0 : wS} {post : wS → Prop} (F : CallFix p m c cJ2_putCharSB_b72d1 3 s args wz_J2_putCharSB_b72d1 RJ2) (hr : meth.sig.returnType = none) (hlocks : meth.locks = false) (hK : wK D cy A s) : ∀ {S : wS} {H : Heap} {locs : List Loc} {ls : Array Slot} {a0 : Nat} {x1 : Int32} {x2 : Int32}, wp_J2_putCharSB_b72d1_0 D post S a0 x1 x2 → wO D cy X A s.heap S H locs → wX D S0 S → lv_has ls 3 [(0, .ref a0), (1, .int x1), (2, .int x2)] → wM D S a0 → sK S a0 = 20 → W p l e r_J2_putCharSB_b72d1 s m args below meth c H locs 0 0 (MQ below (va_Qv (fun S9 => wX D S0 S9 ∧ post S9) (wB D cy X A) A) args s 0 0 A) (F0 m 0 ls []) := by
  obtain ⟨hx, hb, hml, hown, hts⟩ := id F
  have hwg : ∀ w ∈ WG, w.before args s = true := fun w h => hts w (List.mem_cons_of_mem _ h)
  intro S H locs ls a0 x1 x2 hp hW hE hl hL_a0 hK_a0
  unfold wp_J2_putCharSB_b72d1_0 at hp
  refine lv_iload_n hx hb dJ2_putCharSB_b72d1_0 rfl (lv_at hl 1 rfl) ?_
  refine lv_aload_n hx hb dJ2_putCharSB_b72d1_1 rfl (lv_at hl 0 rfl) ?_
  refine w_callV (va_runS (As := [.int x1, .ref a0]) (rest := []) F (c_J2_checkIndex_2214a l hL_a0 hK_a0 hp H.size) (va_cwS 2 hts (wg_S wm_RJ2_67 wy_J2_checkIndex_2214a) rfl rfl rfl (by decide +kernel) ⟨Nat.le_of_ble_eq_true rfl, Nat.le_of_ble_eq_true rfl⟩) (w_preS hK hW) rfl rfl hl.1 rfl (lv_room (Nat.le_of_ble_eq_true rfl)) dJ2_putCharSB_b72d1_2 ⟨Nat.le_of_ble_eq_true rfl, Nat.le_of_ble_eq_true rfl⟩) hW (fun S_2 H locs hp hW => ?_)
  obtain ⟨hX_S_2, hp⟩ := hp
  refine W.widen (k := 0) (n := 0) (by decide) (by decide) ?_
  have hE := hE.trans hX_S_2
  have hK_a0 : sK S_2 a0 = 20 := (hX_S_2.2 a0 hL_a0).1.trans hK_a0
  have hL_a0 : wM D S_2 a0 := hX_S_2.M hL_a0
  refine lv_aload_n hx hb dJ2_putCharSB_b72d1_5 rfl (lv_at hl 0 rfl) ?_
  refine lv_iload_n hx hb dJ2_putCharSB_b72d1_6 rfl (lv_at hl 1 rfl) ?_
  refine lv_iload_n hx hb dJ2_putCharSB_b72d1_7 rfl (lv_at hl 2 rfl) ?_
  refine w_callV (va_runS (As := [.ref a0, .int x1, .int x2]) (rest := []) F (c_J2_putChar_b72d1 l hL_a0 hK_a0 hp H.size) (va_cwS 3 hts (wg_S wm_RJ2_111 wy_J2_putChar_b72d1) rfl rfl rfl (by decide +kernel) ⟨Nat.le_of_ble_eq_true rfl, Nat.le_of_ble_eq_true rfl⟩) (w_preS hK hW) rfl rfl hl.1 rfl (lv_room (Nat.le_of_ble_eq_true rfl)) dJ2_putCharSB_b72d1_8 ⟨Nat.le_of_ble_eq_true rfl, Nat.le_of_ble_eq_true rfl⟩) hW (fun S_4 H locs hp hW => ?_)
  obtain ⟨hX_S_4, hp⟩ := hp
  refine W.widen (k := 0) (n := 0) (by decide) (by decide) ?_
  have hE := hE.trans hX_S_4
  have hK_a0 : sK S_4 a0 = 20 := (hX_S_4.2 a0 hL_a0).1.trans hK_a0
  have hL_a0 : wM D S_4 a0 := hX_S_4.M hL_a0
  exact w_vret hx hb hr hlocks hW ⟨hE, hp⟩ dJ2_putCharSB_b72d1_11
set_option maxHeartbeats 4000000 in
set_option maxRecDepth 100000 in
theorem c_J2_putCharSB_b72d1 (l : Launch) {D : wD} {cy : Nat → ClassId} {X : va_W} {S0 : wS} {post : wS → Prop} {a0 : Nat} {x1 : Int32} {x2 : Int32} (hL_a0 : wM D S0 a0) (hK_a0 : sK S0 a0 = 20) (hp : wp_J2_putCharSB_b72d1 D post S0 a0 x1 x2) : mV D cy X l yJ2_putCharSB_b72d1 wz_J2_putCharSB_b72d1 r_J2_putCharSB_b72d1 [.ref a0, .int x1, .int x2] S0 (fun S9 => wX D S0 S9 ∧ post S9) := by
  intro sz
  refine Met.ofW (cc := cJ2_putCharSB_b72d1) (maxL := 3) (ret := none) (by decide) rfl ?_
  intro p e s m args below meth c s₁ B hml hv
  obtain ⟨rfl, hsz, hP, hK, hD0, hRO⟩ := hv
  have hts := atoms_spec (ws := wz_J2_putCharSB_b72d1) B.pre
  have hown : s.vm.findClass RJ2 = some m.cls := findClass_of_methodNamed B.named
  subst hsz
  have hD := hD0.self (sz := s.heap.size)
  have F : CallFix p m c cJ2_putCharSB_b72d1 3 s _ wz_J2_putCharSB_b72d1 RJ2 := ⟨B.exec, B.bytes, hml, hown, hts⟩
  have hr := B.returns
  have hlocks := B.notSynchronized
  generalize hAe : va_A (wL cy X S0) s.heap.size = A at hD hK ⊢
  have hA : ∀ q, s.heap.size ≤ q → A q := fun q h => by rw [← hAe]; exact Or.inr h
  have hW : wO D cy X A s.heap S0 s.heap [] := ⟨hP, hD, va_S.rf, hA, hRO⟩
  have hl := lv_entry ([.ref a0, .int x1, .int x2]) (n := 3) (Nat.le_of_ble_eq_true rfl)
  rw [lg_entry_eq]
  generalize (lg_sl ([.ref a0, .int x1, .int x2]) ++ List.replicate (3 - (lg_sl ([.ref a0, .int x1, .int x2])).length) Slot.unset).toArray = ls at hl ⊢
  have hl : lv_has ls 3 [(0, .ref a0), (1, .int x1), (2, .int x2)] := hl
  unfold wp_J2_putCharSB_b72d1 at hp
  exact t_J2_putCharSB_b72d1_0 F hr hlocks hK hp hW wX.rf (lv_sub hl [0, 1, 2] rfl) hL_a0 hK_a0
def wp_J5_append_3fe6f_75 (D : wD) (post : Option Nat → wS → Prop)  (bc bs : Nat) (S : wS) (a0 : Nat) : Prop :=
post (some a0) S
def wp_J5_append_3fe6f_56 (D : wD) (post : Option Nat → wS → Prop)  (bc bs : Nat) (S : wS) (a0 : Nat) (x1 : Int32) : Prop :=
∃ y_1 : Nat, sR S a0 0 = some y_1 ∧ wM D S y_1 ∧ sK S y_1 = 20 ∧
∀ S_2 : wS, S_2 = uI S a0 3 ((sI S a0 3) + (1 : Int32)) →
wp_J2_putCharSB_b72d1 D (fun S_4 => 
wp_J5_append_3fe6f_75 D post bc bs S_4 a0) S_2 y_1 (sI S a0 3) x1
def wp_J5_append_3fe6f_45 (D : wD) (post : Option Nat → wS → Prop)  (bc bs : Nat) (S : wS) (a0 : Nat) (x1 : Int32) : Prop :=
wp_J5_isLatin1_aae02 D (fun r_1 S_2 => 
((r_1 = 0 → wp_J5_append_3fe6f_56 D post bc bs S_2 a0 x1) ∧
 (¬ r_1 = 0 → ∃ m_6 z_7 : Nat, m_6 ≤ bc ∧ z_7 ≤ bs ∧
wp_J5_inflate_da8c8 D (fun S_5 => 
wp_J5_append_3fe6f_56 D post (bc - m_6) (bs - z_7) S_5 a0 x1) m_6 z_7 S_2 a0))) S a0
def wp_J5_append_3fe6f_0 (D : wD) (post : Option Nat → wS → Prop)  (bc bs : Nat) (S : wS) (a0 : Nat) (x1 : Int32) : Prop :=
∃ m_3 z_4 : Nat, m_3 ≤ bc ∧ z_4 ≤ bs ∧
wp_J5_ensureCapacityInternal_d00df D (fun S_2 => 
wp_J5_isLatin1_aae02 D (fun r_5 S_6 => 
((r_5 = 0 → wp_J5_append_3fe6f_45 D post (bc - m_3) (bs - z_4) S_6 a0 x1) ∧
 (¬ r_5 = 0 → wp_J1_canEncode_fc78d D (fun r_8 S_9 => 
((r_8 = 0 → wp_J5_append_3fe6f_45 D post (bc - m_3) (bs - z_4) S_9 a0 x1) ∧
 (¬ r_8 = 0 → ∃ y_11 : Nat, sR S_9 a0 0 = some y_11 ∧ wM D S_9 y_11 ∧ sK S_9 y_11 = 20 ∧
∀ S_12 : wS, S_12 = uI S_9 a0 3 ((sI S_9 a0 3) + (1 : Int32)) →
y_11 ∈ sL S_12 ∧ vp_in (sI S_9 a0 3) (sN S_12 y_11) ∧
∀ S_14 : wS, S_14 = uI S_12 y_11 ((sI S_9 a0 3)).toNatClampNeg (vp_nar .byte ((Int32.toInt8 x1).toInt32)) →
wp_J5_append_3fe6f_75 D post (bc - m_3) (bs - z_4) S_14 a0))) S_6 x1))) S_2 a0) m_3 z_4 S a0 ((sI S a0 3) + (1 : Int32))
abbrev r_J5_append_3fe6f (rC rS : Nat) : Room := { frames := 6, cells := rC, slots := rS, locals := 137 }
def wp_J5_append_3fe6f (D : wD) (post : Option Nat → wS → Prop) (bc bs : Nat) (S : wS) (a0 : Nat) (x1 : Int32) : Prop := wp_J5_append_3fe6f_0 D post bc bs S a0 x1
set_option maxHeartbeats 4000000 in
set_option maxRecDepth 100000 in
theorem t_J5_append_3fe6f_75 {p : Program} {l : Launch} {e : Env} {s : State} {m : MethodId} {args : Array Value} {below : List Frame} {meth : Method} {c : Code} {D : wD} {cy : Nat → ClassId} {X : va_W} {A : Nat → Prop} {S0 : wS} {rC rS : Nat} {post : Option Nat → wS → Prop} (F : CallFix p m c cJ5_append_3fe6f 2 s args wz_J5_append_3fe6f RJ5) (hr : meth.sig.returnType = (some (.object "java/lang/AbstractStringBuilder"))) (hlocks : meth.locks = false) (hK : wK D cy A s) : ∀ {bc bs cells slots : Nat} (hbc : cells + bc ≤ rC) (hbs : slots + bs ≤ rS) {S : wS} {H : Heap} {locs : List Loc} {ls : Array Slot} {a0 : Nat}, wp_J5_append_3fe6f_75 D post bc bs S a0 → wO D cy X A s.heap S H locs → wX D S0 S → lv_has ls 2 [(0, .ref a0)] → wM D S a0 → sK S a0 = 1 → W p l e (r_J5_append_3fe6f rC rS) s m args below meth c H locs cells slots (MQ below (va_Qq (fun r S9 => wX D S0 S9 ∧ post r S9) (wB D cy X A) A) args s rC rS A) (F0 m 75 ls []) := by
  obtain ⟨hx, hb, hml, hown, hts⟩ := id F
  have hwg : ∀ w ∈ WG, w.before args s = true := fun w h => hts w (List.mem_cons_of_mem _ h)
  intro bc bs cells slots hbc hbs S H locs ls a0 hp hW hE hl hL_a0 hK_a0
  unfold wp_J5_append_3fe6f_75 at hp
  refine lv_aload_n hx hb dJ5_append_3fe6f_75 rfl (lv_at hl 0 rfl) ?_
  refine W.widen (k := rC) (n := rS) (Nat.le_trans (Nat.le_add_right _ _) hbc) (Nat.le_trans (Nat.le_add_right _ _) hbs) ?_
  exact w_aret (g := (some a0)) hx hb hr hlocks hW ⟨hE, hp⟩ dJ5_append_3fe6f_76
set_option maxHeartbeats 4000000 in
set_option maxRecDepth 100000 in
theorem t_J5_append_3fe6f_56 {p : Program} {l : Launch} {e : Env} {s : State} {m : MethodId} {args : Array Value} {below : List Frame} {meth : Method} {c : Code} {D : wD} {cy : Nat → ClassId} {X : va_W} {A : Nat → Prop} {S0 : wS} {rC rS : Nat} {post : Option Nat → wS → Prop} (F : CallFix p m c cJ5_append_3fe6f 2 s args wz_J5_append_3fe6f RJ5) (hr : meth.sig.returnType = (some (.object "java/lang/AbstractStringBuilder"))) (hlocks : meth.locks = false) (hK : wK D cy A s) : ∀ {bc bs cells slots : Nat} (hbc : cells + bc ≤ rC) (hbs : slots + bs ≤ rS) {S : wS} {H : Heap} {locs : List Loc} {ls : Array Slot} {a0 : Nat} {x1 : Int32}, wp_J5_append_3fe6f_56 D post bc bs S a0 x1 → wO D cy X A s.heap S H locs → wX D S0 S → lv_has ls 2 [(0, .ref a0), (1, .int x1)] → wM D S a0 → sK S a0 = 1 → W p l e (r_J5_append_3fe6f rC rS) s m args below meth c H locs cells slots (MQ below (va_Qq (fun r S9 => wX D S0 S9 ∧ post r S9) (wB D cy X A) A) args s rC rS A) (F0 m 56 ls []) := by
  obtain ⟨hx, hb, hml, hown, hts⟩ := id F
  have hwg : ∀ w ∈ WG, w.before args s = true := fun w h => hts w (List.mem_cons_of_mem _ h)
  have i_1 : ∀ w ∈ u_ws RJ4 TJ4 4, w ∈ wz_J5_append_3fe6f := fun w h => List.mem_cons_of_mem _ (wu_1 w h)
  have k_15 := hwg _ wf_RJ5_15
  have k_79 := hwg _ wf_RJ5_79
  intro bc bs cells slots hbc hbs S H locs ls a0 x1 hp hW hE hl hL_a0 hK_a0
  unfold wp_J5_append_3fe6f_56 at hp
  refine lv_aload_n hx hb dJ5_append_3fe6f_56 rfl (lv_at hl 0 rfl) ?_
  obtain ⟨y_1, ey_1, hL_y_1, hK_y_1, hp⟩ := hp
  refine w_get (k := 1) (f := 0) (T := TJ4) (v := .ref y_1) F hK hW hL_a0 hK_a0 (by decide) rfl rfl (by decide) i_1 k_15 (by rw [show wv 1 0 S a0 = va_rf (sR S a0 0) from rfl, ey_1]; rfl) dJ5_append_3fe6f_57 ?_
  refine lv_aload_n hx hb dJ5_append_3fe6f_60 rfl (lv_at hl 0 rfl) ?_
  refine lv_dup hx hb dJ5_append_3fe6f_61 rfl ?_
  refine w_get (k := 1) (f := 3) (T := TJ4) (v := .int (sI S a0 3)) F hK hW hL_a0 hK_a0 (by decide) rfl rfl (by decide) i_1 k_79 rfl dJ5_append_3fe6f_62 ?_
  refine lv_dup_x1 hx hb dJ5_append_3fe6f_65 rfl rfl ?_
  refine lv_iconst (v := 1) hx hb dJ5_append_3fe6f_66 (by decide) ?_
  refine lv_iadd hx hb dJ5_append_3fe6f_67 ?_
  refine w_putI (k := 1) (f := 3) (T := TJ4) F hK hW hL_a0 hK_a0 (by decide) (by decide) rfl rfl (by decide) i_1 tyJ4 tyJ4_ok nmJ4 k_79 rfl rfl (ty := .int) rfl rfl rfl dJ5_append_3fe6f_68 (fun H locs hW => ?_)
  obtain ⟨S_2, eS_2⟩ : ∃ z : wS, z = uI S a0 3 ((sI S a0 3) + (1 : Int32)) := ⟨_, rfl⟩
  rw [← eS_2] at hW
  replace hp := hp S_2 eS_2
  have hX_S_2 : wX D S S_2 := by rw [eS_2]; exact wX_uI
  have hE := hE.trans hX_S_2
  have hK_a0 : sK S_2 a0 = 1 := (hX_S_2.2 a0 hL_a0).1.trans hK_a0
  have hL_a0 : wM D S_2 a0 := hX_S_2.M hL_a0
  have hK_y_1 : sK S_2 y_1 = 20 := (hX_S_2.2 y_1 hL_y_1).1.trans hK_y_1
  have hL_y_1 : wM D S_2 y_1 := hX_S_2.M hL_y_1
  refine lv_iload_n hx hb dJ5_append_3fe6f_71 rfl (lv_at hl 1 rfl) ?_
  refine w_callV (va_runS (As := [.ref y_1, .int (sI S a0 3), .int x1]) (rest := []) F (c_J2_putCharSB_b72d1 l hL_y_1 hK_y_1 hp H.size) (va_cwS 3 hts (wg_S wm_RJ5_197 wy_J2_putCharSB_b72d1) rfl rfl rfl (by decide +kernel) ⟨Nat.le_of_ble_eq_true rfl, Nat.le_of_ble_eq_true rfl⟩) (w_preS hK hW) rfl rfl hl.1 rfl (lv_room (Nat.le_of_ble_eq_true rfl)) dJ5_append_3fe6f_72 ⟨by show _ ≤ rC; exact Nat.le_trans (Nat.le_add_right _ _) hbc, by show _ ≤ rS; exact Nat.le_trans (Nat.le_add_right _ _) hbs⟩) hW (fun S_4 H locs hp hW => ?_)
  obtain ⟨hX_S_4, hp⟩ := hp
  refine w_same ?_
  have hE := hE.trans hX_S_4
  have hK_a0 : sK S_4 a0 = 1 := (hX_S_4.2 a0 hL_a0).1.trans hK_a0
  have hL_a0 : wM D S_4 a0 := hX_S_4.M hL_a0
  exact t_J5_append_3fe6f_75 F hr hlocks hK hbc hbs hp hW hE (lv_sub hl [0] rfl) hL_a0 hK_a0
set_option maxHeartbeats 4000000 in
set_option maxRecDepth 100000 in
theorem t_J5_append_3fe6f_45 {p : Program} {l : Launch} {e : Env} {s : State} {m : MethodId} {args : Array Value} {below : List Frame} {meth : Method} {c : Code} {D : wD} {cy : Nat → ClassId} {X : va_W} {A : Nat → Prop} {S0 : wS} {rC rS : Nat} {post : Option Nat → wS → Prop} (F : CallFix p m c cJ5_append_3fe6f 2 s args wz_J5_append_3fe6f RJ5) (hr : meth.sig.returnType = (some (.object "java/lang/AbstractStringBuilder"))) (hlocks : meth.locks = false) (hK : wK D cy A s) : ∀ {bc bs cells slots : Nat} (hbc : cells + bc ≤ rC) (hbs : slots + bs ≤ rS) {S : wS} {H : Heap} {locs : List Loc} {ls : Array Slot} {a0 : Nat} {x1 : Int32}, wp_J5_append_3fe6f_45 D post bc bs S a0 x1 → wO D cy X A s.heap S H locs → wX D S0 S → lv_has ls 2 [(0, .ref a0), (1, .int x1)] → wM D S a0 → sK S a0 = 1 → W p l e (r_J5_append_3fe6f rC rS) s m args below meth c H locs cells slots (MQ below (va_Qq (fun r S9 => wX D S0 S9 ∧ post r S9) (wB D cy X A) A) args s rC rS A) (F0 m 45 ls []) := by
  obtain ⟨hx, hb, hml, hown, hts⟩ := id F
  have hwg : ∀ w ∈ WG, w.before args s = true := fun w h => hts w (List.mem_cons_of_mem _ h)
  intro bc bs cells slots hbc hbs S H locs ls a0 x1 hp hW hE hl hL_a0 hK_a0
  unfold wp_J5_append_3fe6f_45 at hp
  refine lv_aload_n hx hb dJ5_append_3fe6f_45 rfl (lv_at hl 0 rfl) ?_
  refine w_callI (va_runU (As := []) (rest := []) F (c_J5_isLatin1_aae02 l hL_a0 hK_a0 hp H.size) (va_cwU (C := RJ4) (owner := RJ5) 0 hts (wg_U wm_RJ5_83 wsm_J5_isLatin1_aae02 wse_J5_isLatin1_aae02 wi5_J5_isLatin1_aae02 winit5 wco_J5_isLatin1_aae02) rfl rfl rfl rfl ⟨by decide, by decide, by decide +kernel⟩ ⟨Nat.le_of_ble_eq_true rfl, Nat.le_of_ble_eq_true rfl⟩) (w_preV hK hW hL_a0 hK_a0 (by decide) rfl) rfl rfl hl.1 rfl (lv_room (Nat.le_of_ble_eq_true rfl)) dJ5_append_3fe6f_46 ⟨by show _ ≤ rC; exact Nat.le_trans (Nat.le_add_right _ _) hbc, by show _ ≤ rS; exact Nat.le_trans (Nat.le_add_right _ _) hbs⟩) hW (fun r_1 S_2 H locs hp hW => ?_)
  obtain ⟨hX_S_2, hp⟩ := hp
  refine w_same ?_
  have hE := hE.trans hX_S_2
  have hK_a0 : sK S_2 a0 = 1 := (hX_S_2.2 a0 hL_a0).1.trans hK_a0
  have hL_a0 : wM D S_2 a0 := hX_S_2.M hL_a0
  refine lv_if_eq (tgt := 56) hx hb dJ5_append_3fe6f_49 (by decide) (fun c_3 => ?_) (fun c_3 => ?_)
  · replace hp := hp.1 c_3
    exact t_J5_append_3fe6f_56 F hr hlocks hK hbc hbs hp hW hE (lv_sub hl [0, 1] rfl) hL_a0 hK_a0
  · replace hp := hp.2 c_3
    refine lv_aload_n hx hb dJ5_append_3fe6f_52 rfl (lv_at hl 0 rfl) ?_
    obtain ⟨m_6, z_7, hm_6, hz_7, hp⟩ := hp
    refine w_callV (va_runU (As := []) (rest := []) F (c_J5_inflate_da8c8 l hL_a0 hK_a0 hp H.size) (va_cwU (C := RJ4) (owner := RJ5) 0 hts (wg_U wm_RJ5_195 wsm_J5_inflate_da8c8 wse_J5_inflate_da8c8 wi5_J5_inflate_da8c8 winit5 wco_J5_inflate_da8c8) rfl rfl rfl rfl ⟨by decide, by decide, by decide +kernel⟩ ⟨Nat.le_of_ble_eq_true rfl, Nat.le_of_ble_eq_true rfl⟩) (w_preV hK hW hL_a0 hK_a0 (by decide) rfl) rfl rfl hl.1 rfl (lv_room (Nat.le_of_ble_eq_true rfl)) dJ5_append_3fe6f_53 ⟨by show _ + m_6 ≤ rC; omega, by show _ + z_7 ≤ rS; omega⟩) hW (fun S_5 H locs hp hW => ?_)
    obtain ⟨hX_S_5, hp⟩ := hp
    refine W.widen (k := _ + m_6) (n := _ + z_7) (Nat.le_refl _) (Nat.le_refl _) ?_
    replace hbc := w_spend hbc (show m_6 ≤ bc by omega)
    replace hbs := w_spend hbs (show z_7 ≤ bs by omega)
    have hE := hE.trans hX_S_5
    have hK_a0 : sK S_5 a0 = 1 := (hX_S_5.2 a0 hL_a0).1.trans hK_a0
    have hL_a0 : wM D S_5 a0 := hX_S_5.M hL_a0
    exact t_J5_append_3fe6f_56 F hr hlocks hK hbc hbs hp hW hE (lv_sub hl [0, 1] rfl) hL_a0 hK_a0
set_option maxHeartbeats 4000000 in
set_option maxRecDepth 100000 in
theorem t_J5_append_3fe6f_0 {p : Program} {l : Launch} {e : Env} {s : State} {m : MethodId} {args : Array Value} {below : List Frame} {meth : Method} {c : Code} {D : wD} {cy : Nat → ClassId} {X : va_W} {A : Nat → Prop} {S0 : wS} {rC rS : Nat} {post : Option Nat → wS → Prop} (F : CallFix p m c cJ5_append_3fe6f 2 s args wz_J5_append_3fe6f RJ5) (hr : meth.sig.returnType = (some (.object "java/lang/AbstractStringBuilder"))) (hlocks : meth.locks = false) (hK : wK D cy A s) : ∀ {bc bs cells slots : Nat} (hbc : cells + bc ≤ rC) (hbs : slots + bs ≤ rS) {S : wS} {H : Heap} {locs : List Loc} {ls : Array Slot} {a0 : Nat} {x1 : Int32}, wp_J5_append_3fe6f_0 D post bc bs S a0 x1 → wO D cy X A s.heap S H locs → wX D S0 S → lv_has ls 2 [(0, .ref a0), (1, .int x1)] → wM D S a0 → sK S a0 = 1 → W p l e (r_J5_append_3fe6f rC rS) s m args below meth c H locs cells slots (MQ below (va_Qq (fun r S9 => wX D S0 S9 ∧ post r S9) (wB D cy X A) A) args s rC rS A) (F0 m 0 ls []) := by
  obtain ⟨hx, hb, hml, hown, hts⟩ := id F
  have hwg : ∀ w ∈ WG, w.before args s = true := fun w h => hts w (List.mem_cons_of_mem _ h)
  have i_1 : ∀ w ∈ u_ws RJ4 TJ4 4, w ∈ wz_J5_append_3fe6f := fun w h => List.mem_cons_of_mem _ (wu_1 w h)
  have k_15 := hwg _ wf_RJ5_15
  have k_79 := hwg _ wf_RJ5_79
  intro bc bs cells slots hbc hbs S H locs ls a0 x1 hp hW hE hl hL_a0 hK_a0
  unfold wp_J5_append_3fe6f_0 at hp
  refine lv_aload_n hx hb dJ5_append_3fe6f_0 rfl (lv_at hl 0 rfl) ?_
  refine lv_aload_n hx hb dJ5_append_3fe6f_1 rfl (lv_at hl 0 rfl) ?_
  refine w_get (k := 1) (f := 3) (T := TJ4) (v := .int (sI S a0 3)) F hK hW hL_a0 hK_a0 (by decide) rfl rfl (by decide) i_1 k_79 rfl dJ5_append_3fe6f_2 ?_
  refine lv_iconst (v := 1) hx hb dJ5_append_3fe6f_5 (by decide) ?_
  refine lv_iadd hx hb dJ5_append_3fe6f_6 ?_
  obtain ⟨m_3, z_4, hm_3, hz_4, hp⟩ := hp
  refine w_callV (va_runU (As := [.int ((sI S a0 3) + (1 : Int32))]) (rest := []) F (c_J5_ensureCapacityInternal_d00df l hL_a0 hK_a0 hp H.size) (va_cwU (C := RJ4) (owner := RJ5) 1 hts (wg_U wm_RJ5_100 wsm_J5_ensureCapacityInternal_d00df wse_J5_ensureCapacityInternal_d00df wi5_J5_ensureCapacityInternal_d00df winit5 wco_J5_ensureCapacityInternal_d00df) rfl rfl rfl rfl ⟨by decide, by decide, by decide +kernel⟩ ⟨Nat.le_of_ble_eq_true rfl, Nat.le_of_ble_eq_true rfl⟩) (w_preV hK hW hL_a0 hK_a0 (by decide) rfl) rfl rfl hl.1 rfl (lv_room (Nat.le_of_ble_eq_true rfl)) dJ5_append_3fe6f_7 ⟨by show _ + m_3 ≤ rC; omega, by show _ + z_4 ≤ rS; omega⟩) hW (fun S_2 H locs hp hW => ?_)
  obtain ⟨hX_S_2, hp⟩ := hp
  refine W.widen (k := _ + m_3) (n := _ + z_4) (Nat.le_refl _) (Nat.le_refl _) ?_
  replace hbc := w_spend hbc (show m_3 ≤ bc by omega)
  replace hbs := w_spend hbs (show z_4 ≤ bs by omega)
  have hE := hE.trans hX_S_2
  have hK_a0 : sK S_2 a0 = 1 := (hX_S_2.2 a0 hL_a0).1.trans hK_a0
  have hL_a0 : wM D S_2 a0 := hX_S_2.M hL_a0
  refine lv_aload_n hx hb dJ5_append_3fe6f_10 rfl (lv_at hl 0 rfl) ?_
  refine w_callI (va_runU (As := []) (rest := []) F (c_J5_isLatin1_aae02 l hL_a0 hK_a0 hp H.size) (va_cwU (C := RJ4) (owner := RJ5) 0 hts (wg_U wm_RJ5_83 wsm_J5_isLatin1_aae02 wse_J5_isLatin1_aae02 wi5_J5_isLatin1_aae02 winit5 wco_J5_isLatin1_aae02) rfl rfl rfl rfl ⟨by decide, by decide, by decide +kernel⟩ ⟨Nat.le_of_ble_eq_true rfl, Nat.le_of_ble_eq_true rfl⟩) (w_preV hK hW hL_a0 hK_a0 (by decide) rfl) rfl rfl hl.1 rfl (lv_room (Nat.le_of_ble_eq_true rfl)) dJ5_append_3fe6f_11 ⟨by show _ ≤ rC; exact Nat.le_trans (Nat.le_add_right _ _) hbc, by show _ ≤ rS; exact Nat.le_trans (Nat.le_add_right _ _) hbs⟩) hW (fun r_5 S_6 H locs hp hW => ?_)
  obtain ⟨hX_S_6, hp⟩ := hp
  refine w_same ?_
  have hE := hE.trans hX_S_6
  have hK_a0 : sK S_6 a0 = 1 := (hX_S_6.2 a0 hL_a0).1.trans hK_a0
  have hL_a0 : wM D S_6 a0 := hX_S_6.M hL_a0
  refine lv_if_eq (tgt := 45) hx hb dJ5_append_3fe6f_14 (by decide) (fun c_7 => ?_) (fun c_7 => ?_)
  · replace hp := hp.1 c_7
    exact t_J5_append_3fe6f_45 F hr hlocks hK hbc hbs hp hW hE (lv_sub hl [0, 1] rfl) hL_a0 hK_a0
  · replace hp := hp.2 c_7
    refine lv_iload_n hx hb dJ5_append_3fe6f_17 rfl (lv_at hl 1 rfl) ?_
    refine w_callI (va_runS (As := [.int x1]) (rest := []) F (c_J1_canEncode_fc78d l hp H.size) (va_cwS 1 hts (wg_S wm_RJ5_191 wy_J1_canEncode_fc78d) rfl rfl rfl (by decide +kernel) ⟨Nat.le_of_ble_eq_true rfl, Nat.le_of_ble_eq_true rfl⟩) (w_preS hK hW) rfl rfl hl.1 rfl (lv_room (Nat.le_of_ble_eq_true rfl)) dJ5_append_3fe6f_18 ⟨by show _ ≤ rC; exact Nat.le_trans (Nat.le_add_right _ _) hbc, by show _ ≤ rS; exact Nat.le_trans (Nat.le_add_right _ _) hbs⟩) hW (fun r_8 S_9 H locs hp hW => ?_)
    obtain ⟨hX_S_9, hp⟩ := hp
    refine w_same ?_
    have hE := hE.trans hX_S_9
    have hK_a0 : sK S_9 a0 = 1 := (hX_S_9.2 a0 hL_a0).1.trans hK_a0
    have hL_a0 : wM D S_9 a0 := hX_S_9.M hL_a0
    refine lv_if_eq (tgt := 45) hx hb dJ5_append_3fe6f_21 (by decide) (fun c_10 => ?_) (fun c_10 => ?_)
    · replace hp := hp.1 c_10
      exact t_J5_append_3fe6f_45 F hr hlocks hK hbc hbs hp hW hE (lv_sub hl [0, 1] rfl) hL_a0 hK_a0
    · replace hp := hp.2 c_10
      refine lv_aload_n hx hb dJ5_append_3fe6f_24 rfl (lv_at hl 0 rfl) ?_
      obtain ⟨y_11, ey_11, hL_y_11, hK_y_11, hp⟩ := hp
      refine w_get (k := 1) (f := 0) (T := TJ4) (v := .ref y_11) F hK hW hL_a0 hK_a0 (by decide) rfl rfl (by decide) i_1 k_15 (by rw [show wv 1 0 S_9 a0 = va_rf (sR S_9 a0 0) from rfl, ey_11]; rfl) dJ5_append_3fe6f_25 ?_
      refine lv_aload_n hx hb dJ5_append_3fe6f_28 rfl (lv_at hl 0 rfl) ?_
      refine lv_dup hx hb dJ5_append_3fe6f_29 rfl ?_
      refine w_get (k := 1) (f := 3) (T := TJ4) (v := .int (sI S_9 a0 3)) F hK hW hL_a0 hK_a0 (by decide) rfl rfl (by decide) i_1 k_79 rfl dJ5_append_3fe6f_30 ?_
      refine lv_dup_x1 hx hb dJ5_append_3fe6f_33 rfl rfl ?_
      refine lv_iconst (v := 1) hx hb dJ5_append_3fe6f_34 (by decide) ?_
      refine lv_iadd hx hb dJ5_append_3fe6f_35 ?_
      refine w_putI (k := 1) (f := 3) (T := TJ4) F hK hW hL_a0 hK_a0 (by decide) (by decide) rfl rfl (by decide) i_1 tyJ4 tyJ4_ok nmJ4 k_79 rfl rfl (ty := .int) rfl rfl rfl dJ5_append_3fe6f_36 (fun H locs hW => ?_)
      obtain ⟨S_12, eS_12⟩ : ∃ z : wS, z = uI S_9 a0 3 ((sI S_9 a0 3) + (1 : Int32)) := ⟨_, rfl⟩
      rw [← eS_12] at hW
      replace hp := hp S_12 eS_12
      have hX_S_12 : wX D S_9 S_12 := by rw [eS_12]; exact wX_uI
      have hE := hE.trans hX_S_12
      have hK_a0 : sK S_12 a0 = 1 := (hX_S_12.2 a0 hL_a0).1.trans hK_a0
      have hL_a0 : wM D S_12 a0 := hX_S_12.M hL_a0
      have hK_y_11 : sK S_12 y_11 = 20 := (hX_S_12.2 y_11 hL_y_11).1.trans hK_y_11
      have hL_y_11 : wM D S_12 y_11 := hX_S_12.M hL_y_11
      refine lv_iload_n hx hb dJ5_append_3fe6f_39 rfl (lv_at hl 1 rfl) ?_
      refine lv_i2b (v := (Int32.toInt8 x1).toInt32) hx hb dJ5_append_3fe6f_40 rfl ?_
      obtain ⟨h_13m, h_13, hp⟩ := hp
      refine w_bst F hK hW h_13m hK_y_11 h_13 dJ5_append_3fe6f_41 (fun H locs hW => ?_)
      obtain ⟨S_14, eS_14⟩ : ∃ z : wS, z = uI S_12 y_11 ((sI S_9 a0 3)).toNatClampNeg (vp_nar .byte ((Int32.toInt8 x1).toInt32)) := ⟨_, rfl⟩
      rw [← eS_14] at hW
      replace hp := hp S_14 eS_14
      have hX_S_14 : wX D S_12 S_14 := by rw [eS_14]; exact wX_uI
      have hE := hE.trans hX_S_14
      have hK_a0 : sK S_14 a0 = 1 := (hX_S_14.2 a0 hL_a0).1.trans hK_a0
      have hL_a0 : wM D S_14 a0 := hX_S_14.M hL_a0
      refine lv_goto (tgt := 75) hx hb dJ5_append_3fe6f_42 (by decide) ?_
      exact t_J5_append_3fe6f_75 F hr hlocks hK hbc hbs hp hW hE (lv_sub hl [0] rfl) hL_a0 hK_a0
set_option maxHeartbeats 4000000 in
set_option maxRecDepth 100000 in
theorem c_J5_append_3fe6f (l : Launch) {rC rS : Nat} {D : wD} {cy : Nat → ClassId} {X : va_W} {S0 : wS} {post : Option Nat → wS → Prop} {a0 : Nat} {x1 : Int32} (hL_a0 : wM D S0 a0) (hK_a0 : sK S0 a0 = 1) (hp : wp_J5_append_3fe6f D post rC rS S0 a0 x1) : mR D cy X l yJ5_append_3fe6f wz_J5_append_3fe6f (r_J5_append_3fe6f rC rS) [.ref a0, .int x1] S0 (fun r S9 => wX D S0 S9 ∧ post r S9) := by
  intro sz
  refine Met.ofW (cc := cJ5_append_3fe6f) (maxL := 2) (ret := (some (.object "java/lang/AbstractStringBuilder"))) (by decide) rfl ?_
  intro p e s m args below meth c s₁ B hml hv
  obtain ⟨rfl, hsz, hP, hK, hD0, hRO⟩ := hv
  have hts := atoms_spec (ws := wz_J5_append_3fe6f) B.pre
  have hown : s.vm.findClass RJ5 = some m.cls := findClass_of_methodNamed B.named
  subst hsz
  have hD := hD0.self (sz := s.heap.size)
  have F : CallFix p m c cJ5_append_3fe6f 2 s _ wz_J5_append_3fe6f RJ5 := ⟨B.exec, B.bytes, hml, hown, hts⟩
  have hr := B.returns
  have hlocks := B.notSynchronized
  generalize hAe : va_A (wL cy X S0) s.heap.size = A at hD hK ⊢
  have hA : ∀ q, s.heap.size ≤ q → A q := fun q h => by rw [← hAe]; exact Or.inr h
  have hW : wO D cy X A s.heap S0 s.heap [] := ⟨hP, hD, va_S.rf, hA, hRO⟩
  have hl := lv_entry ([.ref a0, .int x1]) (n := 2) (Nat.le_of_ble_eq_true rfl)
  rw [lg_entry_eq]
  generalize (lg_sl ([.ref a0, .int x1]) ++ List.replicate (2 - (lg_sl ([.ref a0, .int x1])).length) Slot.unset).toArray = ls at hl ⊢
  have hl : lv_has ls 2 [(0, .ref a0), (1, .int x1)] := hl
  unfold wp_J5_append_3fe6f at hp
  exact t_J5_append_3fe6f_0 F hr hlocks hK (Nat.le_of_eq (Nat.zero_add _)) (Nat.le_of_eq (Nat.zero_add _)) hp hW wX.rf (lv_sub hl [0, 1] rfl) hL_a0 hK_a0
def wp_J4_append_cf468_0 (D : wD) (post : Option Nat → wS → Prop)  (bc bs : Nat) (S : wS) (a0 : Nat) (x1 : Int32) : Prop :=
∃ m_3 z_4 : Nat, m_3 ≤ bc ∧ z_4 ≤ bs ∧
wp_J5_append_3fe6f D (fun r_1 S_2 => 
post (some a0) S_2) m_3 z_4 S a0 x1
abbrev r_J4_append_cf468 (rC rS : Nat) : Room := { frames := 7, cells := rC, slots := rS, locals := 158 }
def wp_J4_append_cf468 (D : wD) (post : Option Nat → wS → Prop) (bc bs : Nat) (S : wS) (a0 : Nat) (x1 : Int32) : Prop := wp_J4_append_cf468_0 D post bc bs S a0 x1
set_option maxHeartbeats 4000000 in
set_option maxRecDepth 100000 in
theorem t_J4_append_cf468_0 {p : Program} {l : Launch} {e : Env} {s : State} {m : MethodId} {args : Array Value} {below : List Frame} {meth : Method} {c : Code} {D : wD} {cy : Nat → ClassId} {X : va_W} {A : Nat → Prop} {S0 : wS} {rC rS : Nat} {post : Option Nat → wS → Prop} (F : CallFix p m c cJ4_append_cf468 2 s args wz_J4_append_cf468 RJ4) (hr : meth.sig.returnType = (some (.object "java/lang/StringBuilder"))) (hlocks : meth.locks = false) (hK : wK D cy A s) : ∀ {bc bs cells slots : Nat} (hbc : cells + bc ≤ rC) (hbs : slots + bs ≤ rS) {S : wS} {H : Heap} {locs : List Loc} {ls : Array Slot} {a0 : Nat} {x1 : Int32}, wp_J4_append_cf468_0 D post bc bs S a0 x1 → wO D cy X A s.heap S H locs → wX D S0 S → lv_has ls 2 [(0, .ref a0), (1, .int x1)] → wM D S a0 → sK S a0 = 1 → W p l e (r_J4_append_cf468 rC rS) s m args below meth c H locs cells slots (MQ below (va_Qq (fun r S9 => wX D S0 S9 ∧ post r S9) (wB D cy X A) A) args s rC rS A) (F0 m 0 ls []) := by
  obtain ⟨hx, hb, hml, hown, hts⟩ := id F
  have hwg : ∀ w ∈ WG, w.before args s = true := fun w h => hts w (List.mem_cons_of_mem _ h)
  intro bc bs cells slots hbc hbs S H locs ls a0 x1 hp hW hE hl hL_a0 hK_a0
  unfold wp_J4_append_cf468_0 at hp
  refine lv_aload_n hx hb dJ4_append_cf468_0 rfl (lv_at hl 0 rfl) ?_
  refine lv_iload_n hx hb dJ4_append_cf468_1 rfl (lv_at hl 1 rfl) ?_
  obtain ⟨m_3, z_4, hm_3, hz_4, hp⟩ := hp
  refine w_callR (va_runSU (hK.1.1 1 _ rfl).2 (As := [.int x1]) (rest := []) F (c_J5_append_3fe6f l hL_a0 hK_a0 hp H.size) (va_cwSU 1 hts (wg_SU wm_RJ4_50 wsm_J5_append_3fe6f wsup5 wi5_J5_append_3fe6f winit5 wco_J5_append_3fe6f) rfl rfl rfl ⟨by decide, by decide +kernel⟩ ⟨Nat.le_of_ble_eq_true rfl, Nat.le_of_ble_eq_true rfl⟩) (w_preV hK hW hL_a0 hK_a0 (by decide) rfl) rfl rfl hl.1 rfl (lv_room (Nat.le_of_ble_eq_true rfl)) dJ4_append_cf468_2 ⟨by show _ + m_3 ≤ rC; omega, by show _ + z_4 ≤ rS; omega⟩) hW (fun r_1 S_2 H locs hp hW => ?_)
  obtain ⟨hX_S_2, hp⟩ := hp
  refine W.widen (k := _ + m_3) (n := _ + z_4) (Nat.le_refl _) (Nat.le_refl _) ?_
  replace hbc := w_spend hbc (show m_3 ≤ bc by omega)
  replace hbs := w_spend hbs (show z_4 ≤ bs by omega)
  have hE := hE.trans hX_S_2
  have hK_a0 : sK S_2 a0 = 1 := (hX_S_2.2 a0 hL_a0).1.trans hK_a0
  have hL_a0 : wM D S_2 a0 := hX_S_2.M hL_a0
  refine lv_pop hx hb dJ4_append_cf468_5 (by cases r_1 <;> rfl) ?_
  refine lv_aload_n hx hb dJ4_append_cf468_6 rfl (lv_at hl 0 rfl) ?_
  refine W.widen (k := rC) (n := rS) (Nat.le_trans (Nat.le_add_right _ _) hbc) (Nat.le_trans (Nat.le_add_right _ _) hbs) ?_
  exact w_aret (g := (some a0)) hx hb hr hlocks hW ⟨hE, hp⟩ dJ4_append_cf468_7
set_option maxHeartbeats 4000000 in
set_option maxRecDepth 100000 in
theorem c_J4_append_cf468 (l : Launch) {rC rS : Nat} {D : wD} {cy : Nat → ClassId} {X : va_W} {S0 : wS} {post : Option Nat → wS → Prop} {a0 : Nat} {x1 : Int32} (hL_a0 : wM D S0 a0) (hK_a0 : sK S0 a0 = 1) (hp : wp_J4_append_cf468 D post rC rS S0 a0 x1) : mR D cy X l yJ4_append_cf468 wz_J4_append_cf468 (r_J4_append_cf468 rC rS) [.ref a0, .int x1] S0 (fun r S9 => wX D S0 S9 ∧ post r S9) := by
  intro sz
  refine Met.ofW (cc := cJ4_append_cf468) (maxL := 2) (ret := (some (.object "java/lang/StringBuilder"))) (by decide) rfl ?_
  intro p e s m args below meth c s₁ B hml hv
  obtain ⟨rfl, hsz, hP, hK, hD0, hRO⟩ := hv
  have hts := atoms_spec (ws := wz_J4_append_cf468) B.pre
  have hown : s.vm.findClass RJ4 = some m.cls := findClass_of_methodNamed B.named
  subst hsz
  have hD := hD0.self (sz := s.heap.size)
  have F : CallFix p m c cJ4_append_cf468 2 s _ wz_J4_append_cf468 RJ4 := ⟨B.exec, B.bytes, hml, hown, hts⟩
  have hr := B.returns
  have hlocks := B.notSynchronized
  generalize hAe : va_A (wL cy X S0) s.heap.size = A at hD hK ⊢
  have hA : ∀ q, s.heap.size ≤ q → A q := fun q h => by rw [← hAe]; exact Or.inr h
  have hW : wO D cy X A s.heap S0 s.heap [] := ⟨hP, hD, va_S.rf, hA, hRO⟩
  have hl := lv_entry ([.ref a0, .int x1]) (n := 2) (Nat.le_of_ble_eq_true rfl)
  rw [lg_entry_eq]
  generalize (lg_sl ([.ref a0, .int x1]) ++ List.replicate (2 - (lg_sl ([.ref a0, .int x1])).length) Slot.unset).toArray = ls at hl ⊢
  have hl : lv_has ls 2 [(0, .ref a0), (1, .int x1)] := hl
  unfold wp_J4_append_cf468 at hp
  exact t_J4_append_cf468_0 F hr hlocks hK (Nat.le_of_eq (Nat.zero_add _)) (Nat.le_of_eq (Nat.zero_add _)) hp hW wX.rf (lv_sub hl [0, 1] rfl) hL_a0 hK_a0
def wp_J5_charAt_5068e_0 (D : wD) (post : Int32 → wS → Prop)  (S : wS) (a0 : Nat) (x1 : Int32) : Prop :=
∀ x_1 : Int32, x_1 = (sI S a0 1) →
∃ y_2 : Nat, sR S a0 0 = some y_2 ∧ wM D S y_2 ∧ sK S y_2 = 20 ∧
∀ x_3 : Int32, x_3 = (if ((Int32.ofNat (sN S y_2)) >>> (x_1 &&& 31)) < (sI S a0 3) then ((Int32.ofNat (sN S y_2)) >>> (x_1 &&& 31)) else (sI S a0 3)) →
wp_J0_checkIndex_df160 D (fun S_5 => 
((¬ x_1 = 0 → wp_J2_getChar_3b067 D (fun r_7 S_8 => 
narrow .char (.int r_7) = .int r_7 ∧ post r_7 S_8) S_5 y_2 x1) ∧
 (x_1 = 0 → vp_in x1 (sN S_5 y_2) ∧
narrow .char (.int (ji2c ((sI S_5 y_2 (x1).toNatClampNeg) &&& (255 : Int32)))) = .int (ji2c ((sI S_5 y_2 (x1).toNatClampNeg) &&& (255 : Int32))) ∧ post (ji2c ((sI S_5 y_2 (x1).toNatClampNeg) &&& (255 : Int32))) S_5))) S x1 x_3
abbrev r_J5_charAt_5068e : Room := { frames := 2, cells := 0, slots := 0, locals := 43 }
def wp_J5_charAt_5068e (D : wD) (post : Int32 → wS → Prop) (S : wS) (a0 : Nat) (x1 : Int32) : Prop := wp_J5_charAt_5068e_0 D post S a0 x1
set_option maxHeartbeats 4000000 in
set_option maxRecDepth 100000 in
theorem t_J5_charAt_5068e_0 {p : Program} {l : Launch} {e : Env} {s : State} {m : MethodId} {args : Array Value} {below : List Frame} {meth : Method} {c : Code} {D : wD} {cy : Nat → ClassId} {X : va_W} {A : Nat → Prop} {S0 : wS} {post : Int32 → wS → Prop} (F : CallFix p m c cJ5_charAt_5068e 5 s args wz_J5_charAt_5068e RJ5) (hr : meth.sig.returnType = (some .char)) (hlocks : meth.locks = false) (hK : wK D cy A s) : ∀ {S : wS} {H : Heap} {locs : List Loc} {ls : Array Slot} {a0 : Nat} {x1 : Int32}, wp_J5_charAt_5068e_0 D post S a0 x1 → wO D cy X A s.heap S H locs → wX D S0 S → lv_has ls 5 [(0, .ref a0), (1, .int x1)] → wM D S a0 → sK S a0 = 1 → W p l e r_J5_charAt_5068e s m args below meth c H locs 0 0 (MQ below (va_Qi (fun r S9 => wX D S0 S9 ∧ post r S9) (wB D cy X A) A) args s 0 0 A) (F0 m 0 ls []) := by
  obtain ⟨hx, hb, hml, hown, hts⟩ := id F
  have hwg : ∀ w ∈ WG, w.before args s = true := fun w h => hts w (List.mem_cons_of_mem _ h)
  have i_1 : ∀ w ∈ u_ws RJ4 TJ4 4, w ∈ wz_J5_charAt_5068e := fun w h => List.mem_cons_of_mem _ (wu_1 w h)
  have k_15 := hwg _ wf_RJ5_15
  have k_22 := hwg _ wf_RJ5_22
  have k_79 := hwg _ wf_RJ5_79
  intro S H locs ls a0 x1 hp hW hE hl hL_a0 hK_a0
  unfold wp_J5_charAt_5068e_0 at hp
  refine lv_aload_n hx hb dJ5_charAt_5068e_0 rfl (lv_at hl 0 rfl) ?_
  refine w_get (k := 1) (f := 1) (T := TJ4) (v := .int (sI S a0 1)) F hK hW hL_a0 hK_a0 (by decide) rfl rfl (by decide) i_1 k_22 rfl dJ5_charAt_5068e_1 ?_
  refine lv_topi (fun x_1 ex_1 => ?_)
  replace hp := hp x_1 ex_1
  refine lv_istore_n (lv' := [(2, .int x_1), (0, .ref a0), (1, .int x1)]) hx hb dJ5_charAt_5068e_4 rfl hl (by decide) rfl (fun ls hl => ?_)
  refine lv_aload_n hx hb dJ5_charAt_5068e_5 rfl (lv_at hl 1 rfl) ?_
  obtain ⟨y_2, ey_2, hL_y_2, hK_y_2, hp⟩ := hp
  refine w_get (k := 1) (f := 0) (T := TJ4) (v := .ref y_2) F hK hW hL_a0 hK_a0 (by decide) rfl rfl (by decide) i_1 k_15 (by rw [show wv 1 0 S a0 = va_rf (sR S a0 0) from rfl, ey_2]; rfl) dJ5_charAt_5068e_6 ?_
  refine lv_astore_n (lv' := [(3, .ref y_2), (2, .int x_1), (0, .ref a0), (1, .int x1)]) hx hb dJ5_charAt_5068e_9 rfl hl (by decide) rfl (fun ls hl => ?_)
  refine lv_aload_n hx hb dJ5_charAt_5068e_10 rfl (lv_at hl 2 rfl) ?_
  refine w_get (k := 1) (f := 3) (T := TJ4) (v := .int (sI S a0 3)) F hK hW hL_a0 hK_a0 (by decide) rfl rfl (by decide) i_1 k_79 rfl dJ5_charAt_5068e_11 ?_
  refine lv_aload_n hx hb dJ5_charAt_5068e_14 rfl (lv_at hl 0 rfl) ?_
  refine w_len F hK hW hL_y_2 hK_y_2 (by decide) dJ5_charAt_5068e_15 ?_
  refine lv_iload_n hx hb dJ5_charAt_5068e_16 rfl (lv_at hl 1 rfl) ?_
  refine lv_ishr hx hb dJ5_charAt_5068e_17 ?_
  refine va_mmin hx hb (hml.trans hl.1.symm) hown (hwg _ wm_RJ5_138) (hwg _ wmm_min.1) (hwg _ wmm_min.2.1) (hwg _ wmm_min.2.2) (Nat.le_of_ble_eq_true rfl) (Nat.le_of_ble_eq_true rfl) (Nat.le_of_ble_eq_true rfl) (Nat.le_of_ble_eq_true rfl) dJ5_charAt_5068e_18 ?_
  refine lv_topi (fun x_3 ex_3 => ?_)
  replace hp := hp x_3 ex_3
  refine lv_istore (lv' := [(4, .int x_3), (3, .ref y_2), (2, .int x_1), (0, .ref a0), (1, .int x1)]) hx hb dJ5_charAt_5068e_21 hl (by decide) rfl (fun ls hl => ?_)
  refine lv_iload_n hx hb dJ5_charAt_5068e_23 rfl (lv_at hl 4 rfl) ?_
  refine lv_iload hx hb dJ5_charAt_5068e_24 (lv_at hl 0 rfl) ?_
  refine w_callV (va_runS (As := [.int x1, .int x_3]) (rest := []) F (c_J0_checkIndex_df160 l hp H.size) (va_cwS 2 hts (wg_S wm_RJ5_144 wy_J0_checkIndex_df160) rfl rfl rfl (by decide +kernel) ⟨Nat.le_of_ble_eq_true rfl, Nat.le_of_ble_eq_true rfl⟩) (w_preS hK hW) rfl rfl hl.1 rfl (lv_room (Nat.le_of_ble_eq_true rfl)) dJ5_charAt_5068e_26 ⟨Nat.le_of_ble_eq_true rfl, Nat.le_of_ble_eq_true rfl⟩) hW (fun S_5 H locs hp hW => ?_)
  obtain ⟨hX_S_5, hp⟩ := hp
  refine W.widen (k := 0) (n := 0) (by decide) (by decide) ?_
  have hE := hE.trans hX_S_5
  have hK_a0 : sK S_5 a0 = 1 := (hX_S_5.2 a0 hL_a0).1.trans hK_a0
  have hL_a0 : wM D S_5 a0 := hX_S_5.M hL_a0
  have hK_y_2 : sK S_5 y_2 = 20 := (hX_S_5.2 y_2 hL_y_2).1.trans hK_y_2
  have hL_y_2 : wM D S_5 y_2 := hX_S_5.M hL_y_2
  refine lv_iload_n hx hb dJ5_charAt_5068e_29 rfl (lv_at hl 2 rfl) ?_
  refine lv_if_ne (tgt := 42) hx hb dJ5_charAt_5068e_30 (by decide) (fun c_6 => ?_) (fun c_6 => ?_)
  · replace hp := hp.1 c_6
    refine lv_aload_n hx hb dJ5_charAt_5068e_42 rfl (lv_at hl 1 rfl) ?_
    refine lv_iload_n hx hb dJ5_charAt_5068e_43 rfl (lv_at hl 4 rfl) ?_
    refine w_callI (va_runS (As := [.ref y_2, .int x1]) (rest := []) F (c_J2_getChar_3b067 l hL_y_2 hK_y_2 hp H.size) (va_cwS 2 hts (wg_S wm_RJ5_148 wy_J2_getChar_3b067) rfl rfl rfl (by decide +kernel) ⟨Nat.le_of_ble_eq_true rfl, Nat.le_of_ble_eq_true rfl⟩) (w_preS hK hW) rfl rfl hl.1 rfl (lv_room (Nat.le_of_ble_eq_true rfl)) dJ5_charAt_5068e_44 ⟨Nat.le_of_ble_eq_true rfl, Nat.le_of_ble_eq_true rfl⟩) hW (fun r_7 S_8 H locs hp hW => ?_)
    obtain ⟨hX_S_8, hp⟩ := hp
    refine W.widen (k := 0) (n := 0) (by decide) (by decide) ?_
    have hE := hE.trans hX_S_8
    have hK_a0 : sK S_8 a0 = 1 := (hX_S_8.2 a0 hL_a0).1.trans hK_a0
    have hL_a0 : wM D S_8 a0 := hX_S_8.M hL_a0
    have hK_y_2 : sK S_8 y_2 = 20 := (hX_S_8.2 y_2 hL_y_2).1.trans hK_y_2
    have hL_y_2 : wM D S_8 y_2 := hX_S_8.M hL_y_2
    exact w_zret hx hb hr hlocks hW hp.1 ⟨hE, hp.2⟩ dJ5_charAt_5068e_47
  · replace hp := hp.2 c_6
    refine lv_aload_n hx hb dJ5_charAt_5068e_33 rfl (lv_at hl 1 rfl) ?_
    refine lv_iload_n hx hb dJ5_charAt_5068e_34 rfl (lv_at hl 4 rfl) ?_
    obtain ⟨h_9, hp⟩ := hp
    refine w_bld F hK hW hL_y_2 hK_y_2 h_9 dJ5_charAt_5068e_35 ?_
    refine lv_sipush (v := 255) hx hb dJ5_charAt_5068e_36 (by decide) ?_
    refine lv_iand hx hb dJ5_charAt_5068e_39 ?_
    refine lv_i2c (v := (ji2c ((sI S_5 y_2 (x1).toNatClampNeg) &&& (255 : Int32)))) hx hb dJ5_charAt_5068e_40 rfl ?_
    exact w_zret hx hb hr hlocks hW hp.1 ⟨hE, hp.2⟩ dJ5_charAt_5068e_41
set_option maxHeartbeats 4000000 in
set_option maxRecDepth 100000 in
theorem c_J5_charAt_5068e (l : Launch) {D : wD} {cy : Nat → ClassId} {X : va_W} {S0 : wS} {post : Int32 → wS → Prop} {a0 : Nat} {x1 : Int32} (hL_a0 : wM D S0 a0) (hK_a0 : sK S0 a0 = 1) (hp : wp_J5_charAt_5068e D post S0 a0 x1) : mI D cy X l yJ5_charAt_5068e wz_J5_charAt_5068e r_J5_charAt_5068e [.ref a0, .int x1] S0 (fun r S9 => wX D S0 S9 ∧ post r S9) := by
  intro sz
  refine Met.ofW (cc := cJ5_charAt_5068e) (maxL := 5) (ret := (some .char)) (by decide) rfl ?_
  intro p e s m args below meth c s₁ B hml hv
  obtain ⟨rfl, hsz, hP, hK, hD0, hRO⟩ := hv
  have hts := atoms_spec (ws := wz_J5_charAt_5068e) B.pre
  have hown : s.vm.findClass RJ5 = some m.cls := findClass_of_methodNamed B.named
  subst hsz
  have hD := hD0.self (sz := s.heap.size)
  have F : CallFix p m c cJ5_charAt_5068e 5 s _ wz_J5_charAt_5068e RJ5 := ⟨B.exec, B.bytes, hml, hown, hts⟩
  have hr := B.returns
  have hlocks := B.notSynchronized
  generalize hAe : va_A (wL cy X S0) s.heap.size = A at hD hK ⊢
  have hA : ∀ q, s.heap.size ≤ q → A q := fun q h => by rw [← hAe]; exact Or.inr h
  have hW : wO D cy X A s.heap S0 s.heap [] := ⟨hP, hD, va_S.rf, hA, hRO⟩
  have hl := lv_entry ([.ref a0, .int x1]) (n := 5) (Nat.le_of_ble_eq_true rfl)
  rw [lg_entry_eq]
  generalize (lg_sl ([.ref a0, .int x1]) ++ List.replicate (5 - (lg_sl ([.ref a0, .int x1])).length) Slot.unset).toArray = ls at hl ⊢
  have hl : lv_has ls 5 [(0, .ref a0), (1, .int x1)] := hl
  unfold wp_J5_charAt_5068e at hp
  exact t_J5_charAt_5068e_0 F hr hlocks hK hp hW wX.rf (lv_sub hl [0, 1] rfl) hL_a0 hK_a0
def wp_J4_charAt_5068e_0 (D : wD) (post : Int32 → wS → Prop)  (S : wS) (a0 : Nat) (x1 : Int32) : Prop :=
wp_J5_charAt_5068e D (fun r_1 S_2 => 
narrow .char (.int r_1) = .int r_1 ∧ post r_1 S_2) S a0 x1
abbrev r_J4_charAt_5068e : Room := { frames := 3, cells := 0, slots := 0, locals := 67 }
def wp_J4_charAt_5068e (D : wD) (post : Int32 → wS → Prop) (S : wS) (a0 : Nat) (x1 : Int32) : Prop := wp_J4_charAt_5068e_0 D post S a0 x1
set_option maxHeartbeats 4000000 in
set_option maxRecDepth 100000 in
theorem t_J4_charAt_5068e_0 {p : Program} {l : Launch} {e : Env} {s : State} {m : MethodId} {args : Array Value} {below : List Frame} {meth : Method} {c : Code} {D : wD} {cy : Nat → ClassId} {X : va_W} {A : Nat → Prop} {S0 : wS} {post : Int32 → wS → Prop} (F : CallFix p m c cJ4_charAt_5068e 2 s args wz_J4_charAt_5068e RJ4) (hr : meth.sig.returnType = (some .char)) (hlocks : meth.locks = false) (hK : wK D cy A s) : ∀ {S : wS} {H : Heap} {locs : List Loc} {ls : Array Slot} {a0 : Nat} {x1 : Int32}, wp_J4_charAt_5068e_0 D post S a0 x1 → wO D cy X A s.heap S H locs → wX D S0 S → lv_has ls 2 [(0, .ref a0), (1, .int x1)] → wM D S a0 → sK S a0 = 1 → W p l e r_J4_charAt_5068e s m args below meth c H locs 0 0 (MQ below (va_Qi (fun r S9 => wX D S0 S9 ∧ post r S9) (wB D cy X A) A) args s 0 0 A) (F0 m 0 ls []) := by
  obtain ⟨hx, hb, hml, hown, hts⟩ := id F
  have hwg : ∀ w ∈ WG, w.before args s = true := fun w h => hts w (List.mem_cons_of_mem _ h)
  intro S H locs ls a0 x1 hp hW hE hl hL_a0 hK_a0
  unfold wp_J4_charAt_5068e_0 at hp
  refine lv_aload_n hx hb dJ4_charAt_5068e_0 rfl (lv_at hl 0 rfl) ?_
  refine lv_iload_n hx hb dJ4_charAt_5068e_1 rfl (lv_at hl 1 rfl) ?_
  refine w_callI (va_runSU (hK.1.1 1 _ rfl).2 (As := [.int x1]) (rest := []) F (c_J5_charAt_5068e l hL_a0 hK_a0 hp H.size) (va_cwSU 1 hts (wg_SU wm_RJ4_329 wsm_J5_charAt_5068e wsup5 wi5_J5_charAt_5068e winit5 wco_J5_charAt_5068e) rfl rfl rfl ⟨by decide, by decide +kernel⟩ ⟨Nat.le_of_ble_eq_true rfl, Nat.le_of_ble_eq_true rfl⟩) (w_preV hK hW hL_a0 hK_a0 (by decide) rfl) rfl rfl hl.1 rfl (lv_room (Nat.le_of_ble_eq_true rfl)) dJ4_charAt_5068e_2 ⟨Nat.le_of_ble_eq_true rfl, Nat.le_of_ble_eq_true rfl⟩) hW (fun r_1 S_2 H locs hp hW => ?_)
  obtain ⟨hX_S_2, hp⟩ := hp
  refine W.widen (k := 0) (n := 0) (by decide) (by decide) ?_
  have hE := hE.trans hX_S_2
  have hK_a0 : sK S_2 a0 = 1 := (hX_S_2.2 a0 hL_a0).1.trans hK_a0
  have hL_a0 : wM D S_2 a0 := hX_S_2.M hL_a0
  exact w_zret hx hb hr hlocks hW hp.1 ⟨hE, hp.2⟩ dJ4_charAt_5068e_5
set_option maxHeartbeats 4000000 in
set_option maxRecDepth 100000 in
theorem c_J4_charAt_5068e (l : Launch) {D : wD} {cy : Nat → ClassId} {X : va_W} {S0 : wS} {post : Int32 → wS → Prop} {a0 : Nat} {x1 : Int32} (hL_a0 : wM D S0 a0) (hK_a0 : sK S0 a0 = 1) (hp : wp_J4_charAt_5068e D post S0 a0 x1) : mI D cy X l yJ4_charAt_5068e wz_J4_charAt_5068e r_J4_charAt_5068e [.ref a0, .int x1] S0 (fun r S9 => wX D S0 S9 ∧ post r S9) := by
  intro sz
  refine Met.ofW (cc := cJ4_charAt_5068e) (maxL := 2) (ret := (some .char)) (by decide) rfl ?_
  intro p e s m args below meth c s₁ B hml hv
  obtain ⟨rfl, hsz, hP, hK, hD0, hRO⟩ := hv
  have hts := atoms_spec (ws := wz_J4_charAt_5068e) B.pre
  have hown : s.vm.findClass RJ4 = some m.cls := findClass_of_methodNamed B.named
  subst hsz
  have hD := hD0.self (sz := s.heap.size)
  have F : CallFix p m c cJ4_charAt_5068e 2 s _ wz_J4_charAt_5068e RJ4 := ⟨B.exec, B.bytes, hml, hown, hts⟩
  have hr := B.returns
  have hlocks := B.notSynchronized
  generalize hAe : va_A (wL cy X S0) s.heap.size = A at hD hK ⊢
  have hA : ∀ q, s.heap.size ≤ q → A q := fun q h => by rw [← hAe]; exact Or.inr h
  have hW : wO D cy X A s.heap S0 s.heap [] := ⟨hP, hD, va_S.rf, hA, hRO⟩
  have hl := lv_entry ([.ref a0, .int x1]) (n := 2) (Nat.le_of_ble_eq_true rfl)
  rw [lg_entry_eq]
  generalize (lg_sl ([.ref a0, .int x1]) ++ List.replicate (2 - (lg_sl ([.ref a0, .int x1])).length) Slot.unset).toArray = ls at hl ⊢
  have hl : lv_has ls 2 [(0, .ref a0), (1, .int x1)] := hl
  unfold wp_J4_charAt_5068e at hp
  exact t_J4_charAt_5068e_0 F hr hlocks hK hp hW wX.rf (lv_sub hl [0, 1] rfl) hL_a0 hK_a0
def wp_J4_length_8abf5_0 (D : wD) (post : Int32 → wS → Prop)  (S : wS) (a0 : Nat) : Prop :=
wp_J5_length_8abf5 D (fun r_1 S_2 => 
post r_1 S_2) S a0
abbrev r_J4_length_8abf5 : Room := { frames := 1, cells := 0, slots := 0, locals := 20 }
def wp_J4_length_8abf5 (D : wD) (post : Int32 → wS → Prop) (S : wS) (a0 : Nat) : Prop := wp_J4_length_8abf5_0 D post S a0
set_option maxHeartbeats 4000000 in
set_option maxRecDepth 100000 in
theorem t_J4_length_8abf5_0 {p : Program} {l : Launch} {e : Env} {s : State} {m : MethodId} {args : Array Value} {below : List Frame} {meth : Method} {c : Code} {D : wD} {cy : Nat → ClassId} {X : va_W} {A : Nat → Prop} {S0 : wS} {post : Int32 → wS → Prop} (F : CallFix p m c cJ4_length_8abf5 1 s args wz_J4_length_8abf5 RJ4) (hr : meth.sig.returnType = (some .int)) (hlocks : meth.locks = false) (hK : wK D cy A s) : ∀ {S : wS} {H : Heap} {locs : List Loc} {ls : Array Slot} {a0 : Nat}, wp_J4_length_8abf5_0 D post S a0 → wO D cy X A s.heap S H locs → wX D S0 S → lv_has ls 1 [(0, .ref a0)] → wM D S a0 → sK S a0 = 1 → W p l e r_J4_length_8abf5 s m args below meth c H locs 0 0 (MQ below (va_Qi (fun r S9 => wX D S0 S9 ∧ post r S9) (wB D cy X A) A) args s 0 0 A) (F0 m 0 ls []) := by
  obtain ⟨hx, hb, hml, hown, hts⟩ := id F
  have hwg : ∀ w ∈ WG, w.before args s = true := fun w h => hts w (List.mem_cons_of_mem _ h)
  intro S H locs ls a0 hp hW hE hl hL_a0 hK_a0
  unfold wp_J4_length_8abf5_0 at hp
  refine lv_aload_n hx hb dJ4_length_8abf5_0 rfl (lv_at hl 0 rfl) ?_
  refine w_callI (va_runSU (hK.1.1 1 _ rfl).2 (As := []) (rest := []) F (c_J5_length_8abf5 l hL_a0 hK_a0 hp H.size) (va_cwSU 0 hts (wg_SU wm_RJ4_343 wsm_J5_length_8abf5 wsup5 wi5_J5_length_8abf5 winit5 wco_J5_length_8abf5) rfl rfl rfl ⟨by decide, by decide +kernel⟩ ⟨Nat.le_of_ble_eq_true rfl, Nat.le_of_ble_eq_true rfl⟩) (w_preV hK hW hL_a0 hK_a0 (by decide) rfl) rfl rfl hl.1 rfl (lv_room (Nat.le_of_ble_eq_true rfl)) dJ4_length_8abf5_1 ⟨Nat.le_of_ble_eq_true rfl, Nat.le_of_ble_eq_true rfl⟩) hW (fun r_1 S_2 H locs hp hW => ?_)
  obtain ⟨hX_S_2, hp⟩ := hp
  refine W.widen (k := 0) (n := 0) (by decide) (by decide) ?_
  have hE := hE.trans hX_S_2
  have hK_a0 : sK S_2 a0 = 1 := (hX_S_2.2 a0 hL_a0).1.trans hK_a0
  have hL_a0 : wM D S_2 a0 := hX_S_2.M hL_a0
  exact w_iret hx hb hr hlocks hW ⟨hE, hp⟩ dJ4_length_8abf5_4
set_option maxHeartbeats 4000000 in
set_option maxRecDepth 100000 in
theorem c_J4_length_8abf5 (l : Launch) {D : wD} {cy : Nat → ClassId} {X : va_W} {S0 : wS} {post : Int32 → wS → Prop} {a0 : Nat} (hL_a0 : wM D S0 a0) (hK_a0 : sK S0 a0 = 1) (hp : wp_J4_length_8abf5 D post S0 a0) : mI D cy X l yJ4_length_8abf5 wz_J4_length_8abf5 r_J4_length_8abf5 [.ref a0] S0 (fun r S9 => wX D S0 S9 ∧ post r S9) := by
  intro sz
  refine Met.ofW (cc := cJ4_length_8abf5) (maxL := 1) (ret := (some .int)) (by decide) rfl ?_
  intro p e s m args below meth c s₁ B hml hv
  obtain ⟨rfl, hsz, hP, hK, hD0, hRO⟩ := hv
  have hts := atoms_spec (ws := wz_J4_length_8abf5) B.pre
  have hown : s.vm.findClass RJ4 = some m.cls := findClass_of_methodNamed B.named
  subst hsz
  have hD := hD0.self (sz := s.heap.size)
  have F : CallFix p m c cJ4_length_8abf5 1 s _ wz_J4_length_8abf5 RJ4 := ⟨B.exec, B.bytes, hml, hown, hts⟩
  have hr := B.returns
  have hlocks := B.notSynchronized
  generalize hAe : va_A (wL cy X S0) s.heap.size = A at hD hK ⊢
  have hA : ∀ q, s.heap.size ≤ q → A q := fun q h => by rw [← hAe]; exact Or.inr h
  have hW : wO D cy X A s.heap S0 s.heap [] := ⟨hP, hD, va_S.rf, hA, hRO⟩
  have hl := lv_entry ([.ref a0]) (n := 1) (Nat.le_of_ble_eq_true rfl)
  rw [lg_entry_eq]
  generalize (lg_sl ([.ref a0]) ++ List.replicate (1 - (lg_sl ([.ref a0])).length) Slot.unset).toArray = ls at hl ⊢
  have hl : lv_has ls 1 [(0, .ref a0)] := hl
  unfold wp_J4_length_8abf5 at hp
  exact t_J4_length_8abf5_0 F hr hlocks hK hp hW wX.rf (lv_sub hl [0] rfl) hL_a0 hK_a0
def wp_Jx7c733_init_d00df_0 (D : wD) (post : wS → Prop)  (bc bs : Nat) (S : wS) (a0 : Nat) (x1 : Int32) : Prop :=
1 ≤ bc ∧ 4 ≤ bs ∧
∀ y_1 : Nat, ¬ wM D S y_1 → ∀ S_2 : wS, S_2 = nA S y_1 1 0 →
∃ m_6 z_7 : Nat, m_6 ≤ (bc - 1) ∧ z_7 ≤ (bs - 4) ∧
wp_J4_init_da8c8 D (fun S_5 => 
∀ y_8 : Nat, y_8 = D.2.2.1 2 →
∃ m_11 z_12 : Nat, m_11 ≤ ((bc - 1) - m_6) ∧ z_12 ≤ ((bs - 4) - z_7) ∧
wp_J4_append_15ec4 D (fun r_9 S_10 => 
∃ y_13 : Nat, r_9 = some y_13 ∧ wM D S_10 y_13 ∧ sK S_10 y_13 = 1 ∧
∃ m_17 z_18 : Nat, m_17 ≤ (((bc - 1) - m_6) - m_11) ∧ z_18 ≤ (((bs - 4) - z_7) - z_12) ∧
wp_J4_append_bf812 D (fun r_15 S_16 => 
∃ y_19 : Nat, r_15 = some y_19 ∧ wM D S_16 y_19 ∧ sK S_16 y_19 = 1 ∧
∃ m_23 z_24 : Nat, m_23 ≤ ((((bc - 1) - m_6) - m_11) - m_17) ∧ z_24 ≤ ((((bs - 4) - z_7) - z_12) - z_18) ∧
wp_J4_toString_0e30d D (fun r_21 S_22 => 
False) m_23 z_24 S_16 y_19) m_17 z_18 S_10 y_13 x1) m_11 z_12 S_5 y_1 y_8) m_6 z_7 S_2 y_1
abbrev r_Jx7c733_init_d00df (rC rS : Nat) : Room := { frames := 10, cells := rC, slots := rS, locals := 223 }
def wp_Jx7c733_init_d00df (D : wD) (post : wS → Prop) (bc bs : Nat) (S : wS) (a0 : Nat) (x1 : Int32) : Prop := wp_Jx7c733_init_d00df_0 D post bc bs S a0 x1
set_option maxHeartbeats 4000000 in
set_option maxRecDepth 100000 in
theorem t_Jx7c733_init_d00df_0 {p : Program} {l : Launch} {e : Env} {s : State} {m : MethodId} {args : Array Value} {below : List Frame} {meth : Method} {c : Code} {D : wD} {cy : Nat → ClassId} {X : va_W} {A : Nat → Prop} {S0 : wS} {rC rS : Nat} {post : wS → Prop} (F : CallFix p m c cJx7c733_init_d00df 2 s args wz_Jx7c733_init_d00df RJx7c733) (hr : meth.sig.returnType = none) (hlocks : meth.locks = false) (hK : wK D cy A s) (hin : meth.name = "<init>") : ∀ {bc bs cells slots : Nat} (hbc : cells + bc ≤ rC) (hbs : slots + bs ≤ rS) {S : wS} {H : Heap} {locs : List Loc} {ls : Array Slot} {a0 : Nat} {x1 : Int32}, wp_Jx7c733_init_d00df_0 D post bc bs S a0 x1 → wO D cy X A s.heap S H locs → wX D S0 S → lv_has ls 2 [(0, .ref a0), (1, .int x1)] → wM D S a0 → sK S a0 = 3 → W p l e (r_Jx7c733_init_d00df rC rS) s m args below meth c H locs cells slots (MQ below (va_Qv (fun S9 => wX D S0 S9 ∧ post S9) (wB D cy X A) A) args s rC rS A) (F0 m 0 ls []) := by
  obtain ⟨hx, hb, hml, hown, hts⟩ := id F
  have hwg : ∀ w ∈ WG, w.before args s = true := fun w h => hts w (List.mem_cons_of_mem _ h)
  intro bc bs cells slots hbc hbs S H locs ls a0 x1 hp hW hE hl hL_a0 hK_a0
  unfold wp_Jx7c733_init_d00df_0 at hp
  refine lv_aload_n hx hb dJx7c733_init_d00df_0 rfl (lv_at hl 0 rfl) ?_
  obtain ⟨h_3, h_3b, hp⟩ := hp
  refine w_new (k := 1) (T := TJ4) F hK hW rfl (by decide) (fun w h => List.mem_cons_of_mem _ (wu_1 w h)) tyJ4 tyJ4_ok (hwg _ wc_RJx7c733_10) (hwg _ wn_1) (hwg _ wi_java_lang_StringBuilder) wdef_1 (by show _ ≤ rC; omega) (by show _ ≤ rS; omega) dJx7c733_init_d00df_1 (fun y_1 H hq_y_1 hW => ?_)
  replace hbc := w_spend hbc (show 1 ≤ bc by omega)
  replace hbs := w_spend hbs (show 4 ≤ bs by omega)
  obtain ⟨S_2, eS_2⟩ : ∃ z : wS, z = nA S y_1 1 0 := ⟨_, rfl⟩
  rw [← eS_2] at hW
  replace hp := hp y_1 hq_y_1 S_2 eS_2
  have hX_S_2 : wX D S S_2 := by rw [eS_2]; exact wX_nA hq_y_1
  have hE := hE.trans hX_S_2
  have hK_a0 : sK S_2 a0 = 3 := (hX_S_2.2 a0 hL_a0).1.trans hK_a0
  have hL_a0 : wM D S_2 a0 := hX_S_2.M hL_a0
  have hL_y_1 : wM D S_2 y_1 := by rw [eS_2]; exact Or.inl (List.mem_append_right _ List.mem_cons_self)
  have hK_y_1 : sK S_2 y_1 = 1 := by rw [eS_2]; exact va_up_self _ _ _
  refine lv_dup hx hb dJx7c733_init_d00df_4 rfl ?_
  obtain ⟨m_6, z_7, hm_6, hz_7, hp⟩ := hp
  refine w_callV (va_runI (As := []) (rest := [.ref y_1, .ref a0]) F (c_J4_init_da8c8 l hL_y_1 hK_y_1 hp H.size) (cwI 0 hts (wg_cons wy_J4_init_da8c8.2.2) rfl rfl rfl (hwg _ wy_J4_init_da8c8.2.1) (hwg _ wm_RJx7c733_12) (hwg _ wy_J4_init_da8c8.1) rfl (by decide +kernel) ⟨Nat.le_of_ble_eq_true rfl, Nat.le_of_ble_eq_true rfl⟩) (w_preS hK hW) rfl rfl hl.1 rfl (lv_room (Nat.le_of_ble_eq_true rfl)) dJx7c733_init_d00df_5 ⟨by show _ + m_6 ≤ rC; omega, by show _ + z_7 ≤ rS; omega⟩) hW (fun S_5 H locs hp hW => ?_)
  obtain ⟨hX_S_5, hp⟩ := hp
  refine W.widen (k := _ + m_6) (n := _ + z_7) (Nat.le_refl _) (Nat.le_refl _) ?_
  replace hbc := w_spend hbc (show m_6 ≤ (bc - 1) by omega)
  replace hbs := w_spend hbs (show z_7 ≤ (bs - 4) by omega)
  have hE := hE.trans hX_S_5
  have hK_a0 : sK S_5 a0 = 3 := (hX_S_5.2 a0 hL_a0).1.trans hK_a0
  have hL_a0 : wM D S_5 a0 := hX_S_5.M hL_a0
  have hK_y_1 : sK S_5 y_1 = 1 := (hX_S_5.2 y_1 hL_y_1).1.trans hK_y_1
  have hL_y_1 : wM D S_5 y_1 := hX_S_5.M hL_y_1
  refine w_str F hK (show ("java/lang/StringIndexOutOfBoundsException", 13, "String index out of range: ", 2) ∈ wStr by decide +kernel) dJx7c733_init_d00df_8 ?_
  obtain ⟨y_8, ey_8⟩ : ∃ z : Nat, z = D.2.2.1 2 := ⟨_, rfl⟩
  rw [← ey_8]
  replace hp := hp y_8 ey_8
  obtain ⟨hL_y_8, hK_y_8⟩ : wM D S_5 y_8 ∧ sK S_5 y_8 = 0 := by rw [ey_8]; exact w_strM hK hW (show ("java/lang/StringIndexOutOfBoundsException", 13, "String index out of range: ", 2) ∈ wStr by decide +kernel)
  obtain ⟨m_11, z_12, hm_11, hz_12, hp⟩ := hp
  refine w_callR (va_runV (As := [.ref y_8]) (rest := [.ref a0]) F (c_J4_append_15ec4 l hL_y_1 hK_y_1 hL_y_8 hK_y_8 hp H.size) (cwV (C := RJ4) 1 hts (wg_V wm_RJx7c733_15 wy_J4_append_15ec4) rfl rfl rfl (by decide +kernel) ⟨Nat.le_of_ble_eq_true rfl, Nat.le_of_ble_eq_true rfl⟩) (w_preV hK hW hL_y_1 hK_y_1 (by decide) rfl) rfl rfl hl.1 rfl (lv_room (Nat.le_of_ble_eq_true rfl)) dJx7c733_init_d00df_10 ⟨by show _ + m_11 ≤ rC; omega, by show _ + z_12 ≤ rS; omega⟩) hW (fun r_9 S_10 H locs hp hW => ?_)
  obtain ⟨hX_S_10, hp⟩ := hp
  refine W.widen (k := _ + m_11) (n := _ + z_12) (Nat.le_refl _) (Nat.le_refl _) ?_
  replace hbc := w_spend hbc (show m_11 ≤ ((bc - 1) - m_6) by omega)
  replace hbs := w_spend hbs (show z_12 ≤ ((bs - 4) - z_7) by omega)
  have hE := hE.trans hX_S_10
  have hK_a0 : sK S_10 a0 = 3 := (hX_S_10.2 a0 hL_a0).1.trans hK_a0
  have hL_a0 : wM D S_10 a0 := hX_S_10.M hL_a0
  refine lv_iload_n hx hb dJx7c733_init_d00df_13 rfl (lv_at hl 1 rfl) ?_
  obtain ⟨y_13, h_14, hL_y_13, hK_y_13, hp⟩ := hp
  revert hp; revert hl; revert hW; revert hE; subst h_14; intro hE hW hl hp
  obtain ⟨m_17, z_18, hm_17, hz_18, hp⟩ := hp
  refine w_callR (va_runV (As := [.int x1]) (rest := [.ref a0]) F (c_J4_append_bf812 l hL_y_13 hK_y_13 hp H.size) (cwV (C := RJ4) 1 hts (wg_V wm_RJx7c733_19 wy_J4_append_bf812) rfl rfl rfl (by decide +kernel) ⟨Nat.le_of_ble_eq_true rfl, Nat.le_of_ble_eq_true rfl⟩) (w_preV hK hW hL_y_13 hK_y_13 (by decide) rfl) rfl rfl hl.1 rfl (lv_room (Nat.le_of_ble_eq_true rfl)) dJx7c733_init_d00df_14 ⟨by show _ + m_17 ≤ rC; omega, by show _ + z_18 ≤ rS; omega⟩) hW (fun r_15 S_16 H locs hp hW => ?_)
  obtain ⟨hX_S_16, hp⟩ := hp
  refine W.widen (k := _ + m_17) (n := _ + z_18) (Nat.le_refl _) (Nat.le_refl _) ?_
  replace hbc := w_spend hbc (show m_17 ≤ (((bc - 1) - m_6) - m_11) by omega)
  replace hbs := w_spend hbs (show z_18 ≤ (((bs - 4) - z_7) - z_12) by omega)
  have hE := hE.trans hX_S_16
  have hK_a0 : sK S_16 a0 = 3 := (hX_S_16.2 a0 hL_a0).1.trans hK_a0
  have hL_a0 : wM D S_16 a0 := hX_S_16.M hL_a0
  obtain ⟨y_19, h_20, hL_y_19, hK_y_19, hp⟩ := hp
  revert hp; revert hl; revert hW; revert hE; subst h_20; intro hE hW hl hp
  obtain ⟨m_23, z_24, hm_23, hz_24, hp⟩ := hp
  refine w_callR (va_runV (As := []) (rest := [.ref a0]) F (c_J4_toString_0e30d l hL_y_19 hK_y_19 hp H.size) (cwV (C := RJ4) 0 hts (wg_V wm_RJx7c733_22 wy_J4_toString_0e30d) rfl rfl rfl (by decide +kernel) ⟨Nat.le_of_ble_eq_true rfl, Nat.le_of_ble_eq_true rfl⟩) (w_preV hK hW hL_y_19 hK_y_19 (by decide) rfl) rfl rfl hl.1 rfl (lv_room (Nat.le_of_ble_eq_true rfl)) dJx7c733_init_d00df_17 ⟨by show _ + m_23 ≤ rC; omega, by show _ + z_24 ≤ rS; omega⟩) hW (fun r_21 S_22 H locs hp hW => ?_)
  obtain ⟨hX_S_22, hp⟩ := hp
  refine W.widen (k := _ + m_23) (n := _ + z_24) (Nat.le_refl _) (Nat.le_refl _) ?_
  replace hbc := w_spend hbc (show m_23 ≤ ((((bc - 1) - m_6) - m_11) - m_17) by omega)
  replace hbs := w_spend hbs (show z_24 ≤ ((((bs - 4) - z_7) - z_12) - z_18) by omega)
  have hE := hE.trans hX_S_22
  have hK_a0 : sK S_22 a0 = 3 := (hX_S_22.2 a0 hL_a0).1.trans hK_a0
  have hL_a0 : wM D S_22 a0 := hX_S_22.M hL_a0
  exact hp.elim
set_option maxHeartbeats 4000000 in
set_option maxRecDepth 100000 in
theorem c_Jx7c733_init_d00df (l : Launch) {rC rS : Nat} {D : wD} {cy : Nat → ClassId} {X : va_W} {S0 : wS} {post : wS → Prop} {a0 : Nat} {x1 : Int32} (hL_a0 : wM D S0 a0) (hK_a0 : sK S0 a0 = 3) (hp : wp_Jx7c733_init_d00df D post rC rS S0 a0 x1) : mV D cy X l yJx7c733_init_d00df wz_Jx7c733_init_d00df (r_Jx7c733_init_d00df rC rS) [.ref a0, .int x1] S0 (fun S9 => wX D S0 S9 ∧ post S9) := by
  intro sz
  refine Met.ofW (cc := cJx7c733_init_d00df) (maxL := 2) (ret := none) (by decide) rfl ?_
  intro p e s m args below meth c s₁ B hml hv
  obtain ⟨rfl, hsz, hP, hK, hD0, hRO⟩ := hv
  have hts := atoms_spec (ws := wz_Jx7c733_init_d00df) B.pre
  have hown : s.vm.findClass RJx7c733 = some m.cls := findClass_of_methodNamed B.named
  subst hsz
  have hD := hD0.self (sz := s.heap.size)
  have F : CallFix p m c cJx7c733_init_d00df 2 s _ wz_Jx7c733_init_d00df RJx7c733 := ⟨B.exec, B.bytes, hml, hown, hts⟩
  have hr := B.returns
  have hlocks := B.notSynchronized
  have hin : meth.name = "<init>" := (name_of_methodNamed B.named B.method).1
  generalize hAe : va_A (wL cy X S0) s.heap.size = A at hD hK ⊢
  have hA : ∀ q, s.heap.size ≤ q → A q := fun q h => by rw [← hAe]; exact Or.inr h
  have hW : wO D cy X A s.heap S0 s.heap [] := ⟨hP, hD, va_S.rf, hA, hRO⟩
  have hl := lv_entry ([.ref a0, .int x1]) (n := 2) (Nat.le_of_ble_eq_true rfl)
  rw [lg_entry_eq]
  generalize (lg_sl ([.ref a0, .int x1]) ++ List.replicate (2 - (lg_sl ([.ref a0, .int x1])).length) Slot.unset).toArray = ls at hl ⊢
  have hl : lv_has ls 2 [(0, .ref a0), (1, .int x1)] := hl
  unfold wp_Jx7c733_init_d00df at hp
  exact t_Jx7c733_init_d00df_0 F hr hlocks hK hin (Nat.le_of_eq (Nat.zero_add _)) (Nat.le_of_eq (Nat.zero_add _)) hp hW wX.rf (lv_sub hl [0, 1] rfl) hL_a0 hK_a0
def wp_J5_setLength_d00df_76 (D : wD) (post : wS → Prop)  (bc bs : Nat) (S : wS) (a0 : Nat) (x1 : Int32) : Prop :=
∀ S_1 : wS, S_1 = uI S a0 3 x1 →
post S_1
def wp_J5_setLength_d00df_0 (D : wD) (post : wS → Prop)  (bc bs : Nat) (S : wS) (a0 : Nat) (x1 : Int32) : Prop :=
((0 ≤ x1 → ∃ m_4 z_5 : Nat, m_4 ≤ bc ∧ z_5 ≤ bs ∧
wp_J5_ensureCapacityInternal_d00df D (fun S_3 => 
((x1 ≤ (sI S_3 a0 3) → (((sI S_3 a0 3) ≤ x1 → wp_J5_setLength_d00df_76 D post (bc - m_4) (bs - z_5) S_3 a0 x1) ∧
 (¬ (sI S_3 a0 3) ≤ x1 → narrow .boolean (.int (1 : Int32)) = .int (1 : Int32) ∧ fits .boolean (.int (1 : Int32)) = true ∧
∀ S_8 : wS, S_8 = uI S_3 a0 2 (1 : Int32) →
wp_J5_setLength_d00df_76 D post (bc - m_4) (bs - z_5) S_8 a0 x1))) ∧
 (¬ x1 ≤ (sI S_3 a0 3) → wp_J5_isLatin1_aae02 D (fun r_10 S_11 => 
((r_10 = 0 → ∃ y_13 : Nat, sR S_11 a0 0 = some y_13 ∧ wM D S_11 y_13 ∧ sK S_11 y_13 = 20 ∧
∃ m_16 z_17 : Nat, m_16 ≤ (bc - m_4) ∧ z_17 ≤ (bs - z_5) ∧
wp_J2_fillNull_b72d1 D (fun S_15 => 
wp_J5_setLength_d00df_76 D post ((bc - m_4) - m_16) ((bs - z_5) - z_17) S_15 a0 x1) m_16 z_17 S_11 y_13 (sI S_11 a0 3) x1) ∧
 (¬ r_10 = 0 → ∃ y_18 : Nat, sR S_11 a0 0 = some y_18 ∧ wM D S_11 y_18 ∧ sK S_11 y_18 = 20 ∧
∃ m_21 z_22 : Nat, m_21 ≤ (bc - m_4) ∧ z_22 ≤ (bs - z_5) ∧
wp_J1_fillNull_b72d1 D (fun S_20 => 
wp_J5_setLength_d00df_76 D post ((bc - m_4) - m_21) ((bs - z_5) - z_22) S_20 a0 x1) m_21 z_22 S_11 y_18 (sI S_11 a0 3) x1))) S_3 a0))) m_4 z_5 S a0 x1) ∧
 (¬ 0 ≤ x1 → 1 ≤ bc ∧ 6 ≤ bs ∧
∀ y_23 : Nat, ¬ wM D S y_23 → ∀ S_24 : wS, S_24 = nA S y_23 3 0 →
∃ m_28 z_29 : Nat, m_28 ≤ (bc - 1) ∧ z_29 ≤ (bs - 6) ∧
wp_Jx7c733_init_d00df D (fun S_27 => 
False) m_28 z_29 S_24 y_23 x1))
abbrev r_J5_setLength_d00df (rC rS : Nat) : Room := { frames := 14, cells := rC, slots := rS, locals := 312 }
def wp_J5_setLength_d00df (D : wD) (post : wS → Prop) (bc bs : Nat) (S : wS) (a0 : Nat) (x1 : Int32) : Prop := wp_J5_setLength_d00df_0 D post bc bs S a0 x1
set_option maxHeartbeats 4000000 in
set_option maxRecDepth 100000 in
theorem t_J5_setLength_d00df_76 {p : Program} {l : Launch} {e : Env} {s : State} {m : MethodId} {args : Array Value} {below : List Frame} {meth : Method} {c : Code} {D : wD} {cy : Nat → ClassId} {X : va_W} {A : Nat → Prop} {S0 : wS} {rC rS : Nat} {post : wS → Prop} (F : CallFix p m c cJ5_setLength_d00df 2 s args wz_J5_setLength_d00df RJ5) (hr : meth.sig.returnType = none) (hlocks : meth.locks = false) (hK : wK D cy A s) : ∀ {bc bs cells slots : Nat} (hbc : cells + bc ≤ rC) (hbs : slots + bs ≤ rS) {S : wS} {H : Heap} {locs : List Loc} {ls : Array Slot} {a0 : Nat} {x1 : Int32}, wp_J5_setLength_d00df_76 D post bc bs S a0 x1 → wO D cy X A s.heap S H locs → wX D S0 S → lv_has ls 2 [(0, .ref a0), (1, .int x1)] → wM D S a0 → sK S a0 = 1 → W p l e (r_J5_setLength_d00df rC rS) s m args below meth c H locs cells slots (MQ below (va_Qv (fun S9 => wX D S0 S9 ∧ post S9) (wB D cy X A) A) args s rC rS A) (F0 m 76 ls []) := by
  obtain ⟨hx, hb, hml, hown, hts⟩ := id F
  have hwg : ∀ w ∈ WG, w.before args s = true := fun w h => hts w (List.mem_cons_of_mem _ h)
  have i_1 : ∀ w ∈ u_ws RJ4 TJ4 4, w ∈ wz_J5_setLength_d00df := fun w h => List.mem_cons_of_mem _ (wu_1 w h)
  have k_79 := hwg _ wf_RJ5_79
  intro bc bs cells slots hbc hbs S H locs ls a0 x1 hp hW hE hl hL_a0 hK_a0
  unfold wp_J5_setLength_d00df_76 at hp
  refine lv_aload_n hx hb dJ5_setLength_d00df_76 rfl (lv_at hl 0 rfl) ?_
  refine lv_iload_n hx hb dJ5_setLength_d00df_77 rfl (lv_at hl 1 rfl) ?_
  refine w_putI (k := 1) (f := 3) (T := TJ4) F hK hW hL_a0 hK_a0 (by decide) (by decide) rfl rfl (by decide) i_1 tyJ4 tyJ4_ok nmJ4 k_79 rfl rfl (ty := .int) rfl rfl rfl dJ5_setLength_d00df_78 (fun H locs hW => ?_)
  obtain ⟨S_1, eS_1⟩ : ∃ z : wS, z = uI S a0 3 x1 := ⟨_, rfl⟩
  rw [← eS_1] at hW
  replace hp := hp S_1 eS_1
  have hX_S_1 : wX D S S_1 := by rw [eS_1]; exact wX_uI
  have hE := hE.trans hX_S_1
  have hK_a0 : sK S_1 a0 = 1 := (hX_S_1.2 a0 hL_a0).1.trans hK_a0
  have hL_a0 : wM D S_1 a0 := hX_S_1.M hL_a0
  refine W.widen (k := rC) (n := rS) (Nat.le_trans (Nat.le_add_right _ _) hbc) (Nat.le_trans (Nat.le_add_right _ _) hbs) ?_
  exact w_vret hx hb hr hlocks hW ⟨hE, hp⟩ dJ5_setLength_d00df_81
set_option maxHeartbeats 4000000 in
set_option maxRecDepth 100000 in
theorem t_J5_setLength_d00df_0 {p : Program} {l : Launch} {e : Env} {s : State} {m : MethodId} {args : Array Value} {below : List Frame} {meth : Method} {c : Code} {D : wD} {cy : Nat → ClassId} {X : va_W} {A : Nat → Prop} {S0 : wS} {rC rS : Nat} {post : wS → Prop} (F : CallFix p m c cJ5_setLength_d00df 2 s args wz_J5_setLength_d00df RJ5) (hr : meth.sig.returnType = none) (hlocks : meth.locks = false) (hK : wK D cy A s) : ∀ {bc bs cells slots : Nat} (hbc : cells + bc ≤ rC) (hbs : slots + bs ≤ rS) {S : wS} {H : Heap} {locs : List Loc} {ls : Array Slot} {a0 : Nat} {x1 : Int32}, wp_J5_setLength_d00df_0 D post bc bs S a0 x1 → wO D cy X A s.heap S H locs → wX D S0 S → lv_has ls 2 [(0, .ref a0), (1, .int x1)] → wM D S a0 → sK S a0 = 1 → W p l e (r_J5_setLength_d00df rC rS) s m args below meth c H locs cells slots (MQ below (va_Qv (fun S9 => wX D S0 S9 ∧ post S9) (wB D cy X A) A) args s rC rS A) (F0 m 0 ls []) := by
  obtain ⟨hx, hb, hml, hown, hts⟩ := id F
  have hwg : ∀ w ∈ WG, w.before args s = true := fun w h => hts w (List.mem_cons_of_mem _ h)
  have i_1 : ∀ w ∈ u_ws RJ4 TJ4 4, w ∈ wz_J5_setLength_d00df := fun w h => List.mem_cons_of_mem _ (wu_1 w h)
  have k_15 := hwg _ wf_RJ5_15
  have k_73 := hwg _ wf_RJ5_73
  have k_79 := hwg _ wf_RJ5_79
  intro bc bs cells slots hbc hbs S H locs ls a0 x1 hp hW hE hl hL_a0 hK_a0
  unfold wp_J5_setLength_d00df_0 at hp
  refine lv_iload_n hx hb dJ5_setLength_d00df_0 rfl (lv_at hl 1 rfl) ?_
  refine lv_if_ge (tgt := 13) hx hb dJ5_setLength_d00df_1 (by decide) (fun c_1 => ?_) (fun c_1 => ?_)
  · replace hp := hp.1 c_1
    refine lv_aload_n hx hb dJ5_setLength_d00df_13 rfl (lv_at hl 0 rfl) ?_
    refine lv_iload_n hx hb dJ5_setLength_d00df_14 rfl (lv_at hl 1 rfl) ?_
    obtain ⟨m_4, z_5, hm_4, hz_5, hp⟩ := hp
    refine w_callV (va_runU (As := [.int x1]) (rest := []) F (c_J5_ensureCapacityInternal_d00df l hL_a0 hK_a0 hp H.size) (va_cwU (C := RJ4) (owner := RJ5) 1 hts (wg_U wm_RJ5_100 wsm_J5_ensureCapacityInternal_d00df wse_J5_ensureCapacityInternal_d00df wi5_J5_ensureCapacityInternal_d00df winit5 wco_J5_ensureCapacityInternal_d00df) rfl rfl rfl rfl ⟨by decide, by decide, by decide +kernel⟩ ⟨Nat.le_of_ble_eq_true rfl, Nat.le_of_ble_eq_true rfl⟩) (w_preV hK hW hL_a0 hK_a0 (by decide) rfl) rfl rfl hl.1 rfl (lv_room (Nat.le_of_ble_eq_true rfl)) dJ5_setLength_d00df_15 ⟨by show _ + m_4 ≤ rC; omega, by show _ + z_5 ≤ rS; omega⟩) hW (fun S_3 H locs hp hW => ?_)
    obtain ⟨hX_S_3, hp⟩ := hp
    refine W.widen (k := _ + m_4) (n := _ + z_5) (Nat.le_refl _) (Nat.le_refl _) ?_
    replace hbc := w_spend hbc (show m_4 ≤ bc by omega)
    replace hbs := w_spend hbs (show z_5 ≤ bs by omega)
    have hE := hE.trans hX_S_3
    have hK_a0 : sK S_3 a0 = 1 := (hX_S_3.2 a0 hL_a0).1.trans hK_a0
    have hL_a0 : wM D S_3 a0 := hX_S_3.M hL_a0
    refine lv_aload_n hx hb dJ5_setLength_d00df_18 rfl (lv_at hl 0 rfl) ?_
    refine w_get (k := 1) (f := 3) (T := TJ4) (v := .int (sI S_3 a0 3)) F hK hW hL_a0 hK_a0 (by decide) rfl rfl (by decide) i_1 k_79 rfl dJ5_setLength_d00df_19 ?_
    refine lv_iload_n hx hb dJ5_setLength_d00df_22 rfl (lv_at hl 1 rfl) ?_
    refine lv_icmp_ge (tgt := 63) hx hb dJ5_setLength_d00df_23 (by decide) (fun c_6 => ?_) (fun c_6 => ?_)
    · replace hp := hp.1 c_6
      refine lv_aload_n hx hb dJ5_setLength_d00df_63 rfl (lv_at hl 0 rfl) ?_
      refine w_get (k := 1) (f := 3) (T := TJ4) (v := .int (sI S_3 a0 3)) F hK hW hL_a0 hK_a0 (by decide) rfl rfl (by decide) i_1 k_79 rfl dJ5_setLength_d00df_64 ?_
      refine lv_iload_n hx hb dJ5_setLength_d00df_67 rfl (lv_at hl 1 rfl) ?_
      refine lv_icmp_le (tgt := 76) hx hb dJ5_setLength_d00df_68 (by decide) (fun c_7 => ?_) (fun c_7 => ?_)
      · replace hp := hp.1 c_7
        exact t_J5_setLength_d00df_76 F hr hlocks hK hbc hbs hp hW hE (lv_sub hl [0, 1] rfl) hL_a0 hK_a0
      · replace hp := hp.2 c_7
        refine lv_aload_n hx hb dJ5_setLength_d00df_71 rfl (lv_at hl 0 rfl) ?_
        refine lv_iconst (v := 1) hx hb dJ5_setLength_d00df_72 (by decide) ?_
        obtain ⟨h_9, h_9f, hp⟩ := hp
        refine w_putI (k := 1) (f := 2) (T := TJ4) F hK hW hL_a0 hK_a0 (by decide) (by decide) rfl rfl (by decide) i_1 tyJ4 tyJ4_ok nmJ4 k_73 rfl rfl (ty := .boolean) rfl h_9 h_9f dJ5_setLength_d00df_73 (fun H locs hW => ?_)
        obtain ⟨S_8, eS_8⟩ : ∃ z : wS, z = uI S_3 a0 2 (1 : Int32) := ⟨_, rfl⟩
        rw [← eS_8] at hW
        replace hp := hp S_8 eS_8
        have hX_S_8 : wX D S_3 S_8 := by rw [eS_8]; exact wX_uI
        have hE := hE.trans hX_S_8
        have hK_a0 : sK S_8 a0 = 1 := (hX_S_8.2 a0 hL_a0).1.trans hK_a0
        have hL_a0 : wM D S_8 a0 := hX_S_8.M hL_a0
        exact t_J5_setLength_d00df_76 F hr hlocks hK hbc hbs hp hW hE (lv_sub hl [0, 1] rfl) hL_a0 hK_a0
    · replace hp := hp.2 c_6
      refine lv_aload_n hx hb dJ5_setLength_d00df_26 rfl (lv_at hl 0 rfl) ?_
      refine w_callI (va_runU (As := []) (rest := []) F (c_J5_isLatin1_aae02 l hL_a0 hK_a0 hp H.size) (va_cwU (C := RJ4) (owner := RJ5) 0 hts (wg_U wm_RJ5_83 wsm_J5_isLatin1_aae02 wse_J5_isLatin1_aae02 wi5_J5_isLatin1_aae02 winit5 wco_J5_isLatin1_aae02) rfl rfl rfl rfl ⟨by decide, by decide, by decide +kernel⟩ ⟨Nat.le_of_ble_eq_true rfl, Nat.le_of_ble_eq_true rfl⟩) (w_preV hK hW hL_a0 hK_a0 (by decide) rfl) rfl rfl hl.1 rfl (lv_room (Nat.le_of_ble_eq_true rfl)) dJ5_setLength_d00df_27 ⟨by show _ ≤ rC; exact Nat.le_trans (Nat.le_add_right _ _) hbc, by show _ ≤ rS; exact Nat.le_trans (Nat.le_add_right _ _) hbs⟩) hW (fun r_10 S_11 H locs hp hW => ?_)
      obtain ⟨hX_S_11, hp⟩ := hp
      refine w_same ?_
      have hE := hE.trans hX_S_11
      have hK_a0 : sK S_11 a0 = 1 := (hX_S_11.2 a0 hL_a0).1.trans hK_a0
      have hL_a0 : wM D S_11 a0 := hX_S_11.M hL_a0
      refine lv_if_eq (tgt := 48) hx hb dJ5_setLength_d00df_30 (by decide) (fun c_12 => ?_) (fun c_12 => ?_)
      · replace hp := hp.1 c_12
        refine lv_aload_n hx hb dJ5_setLength_d00df_48 rfl (lv_at hl 0 rfl) ?_
        obtain ⟨y_13, ey_13, hL_y_13, hK_y_13, hp⟩ := hp
        refine w_get (k := 1) (f := 0) (T := TJ4) (v := .ref y_13) F hK hW hL_a0 hK_a0 (by decide) rfl rfl (by decide) i_1 k_15 (by rw [show wv 1 0 S_11 a0 = va_rf (sR S_11 a0 0) from rfl, ey_13]; rfl) dJ5_setLength_d00df_49 ?_
        refine lv_aload_n hx hb dJ5_setLength_d00df_52 rfl (lv_at hl 0 rfl) ?_
        refine w_get (k := 1) (f := 3) (T := TJ4) (v := .int (sI S_11 a0 3)) F hK hW hL_a0 hK_a0 (by decide) rfl rfl (by decide) i_1 k_79 rfl dJ5_setLength_d00df_53 ?_
        refine lv_iload_n hx hb dJ5_setLength_d00df_56 rfl (lv_at hl 1 rfl) ?_
        obtain ⟨m_16, z_17, hm_16, hz_17, hp⟩ := hp
        refine w_callV (va_runS (As := [.ref y_13, .int (sI S_11 a0 3), .int x1]) (rest := []) F (c_J2_fillNull_b72d1 l hL_y_13 hK_y_13 hp H.size) (va_cwS 3 hts (wg_S wm_RJ5_137 wy_J2_fillNull_b72d1) rfl rfl rfl (by decide +kernel) ⟨Nat.le_of_ble_eq_true rfl, Nat.le_of_ble_eq_true rfl⟩) (w_preS hK hW) rfl rfl hl.1 rfl (lv_room (Nat.le_of_ble_eq_true rfl)) dJ5_setLength_d00df_57 ⟨by show _ + m_16 ≤ rC; omega, by show _ + z_17 ≤ rS; omega⟩) hW (fun S_15 H locs hp hW => ?_)
        obtain ⟨hX_S_15, hp⟩ := hp
        refine W.widen (k := _ + m_16) (n := _ + z_17) (Nat.le_refl _) (Nat.le_refl _) ?_
        replace hbc := w_spend hbc (show m_16 ≤ (bc - m_4) by omega)
        replace hbs := w_spend hbs (show z_17 ≤ (bs - z_5) by omega)
        have hE := hE.trans hX_S_15
        have hK_a0 : sK S_15 a0 = 1 := (hX_S_15.2 a0 hL_a0).1.trans hK_a0
        have hL_a0 : wM D S_15 a0 := hX_S_15.M hL_a0
        refine lv_goto (tgt := 76) hx hb dJ5_setLength_d00df_60 (by decide) ?_
        exact t_J5_setLength_d00df_76 F hr hlocks hK hbc hbs hp hW hE (lv_sub hl [0, 1] rfl) hL_a0 hK_a0
      · replace hp := hp.2 c_12
        refine lv_aload_n hx hb dJ5_setLength_d00df_33 rfl (lv_at hl 0 rfl) ?_
        obtain ⟨y_18, ey_18, hL_y_18, hK_y_18, hp⟩ := hp
        refine w_get (k := 1) (f := 0) (T := TJ4) (v := .ref y_18) F hK hW hL_a0 hK_a0 (by decide) rfl rfl (by decide) i_1 k_15 (by rw [show wv 1 0 S_11 a0 = va_rf (sR S_11 a0 0) from rfl, ey_18]; rfl) dJ5_setLength_d00df_34 ?_
        refine lv_aload_n hx hb dJ5_setLength_d00df_37 rfl (lv_at hl 0 rfl) ?_
        refine w_get (k := 1) (f := 3) (T := TJ4) (v := .int (sI S_11 a0 3)) F hK hW hL_a0 hK_a0 (by decide) rfl rfl (by decide) i_1 k_79 rfl dJ5_setLength_d00df_38 ?_
        refine lv_iload_n hx hb dJ5_setLength_d00df_41 rfl (lv_at hl 1 rfl) ?_
        obtain ⟨m_21, z_22, hm_21, hz_22, hp⟩ := hp
        refine w_callV (va_runS (As := [.ref y_18, .int (sI S_11 a0 3), .int x1]) (rest := []) F (c_J1_fillNull_b72d1 l hL_y_18 hK_y_18 hp H.size) (va_cwS 3 hts (wg_S wm_RJ5_133 wy_J1_fillNull_b72d1) rfl rfl rfl (by decide +kernel) ⟨Nat.le_of_ble_eq_true rfl, Nat.le_of_ble_eq_true rfl⟩) (w_preS hK hW) rfl rfl hl.1 rfl (lv_room (Nat.le_of_ble_eq_true rfl)) dJ5_setLength_d00df_42 ⟨by show _ + m_21 ≤ rC; omega, by show _ + z_22 ≤ rS; omega⟩) hW (fun S_20 H locs hp hW => ?_)
        obtain ⟨hX_S_20, hp⟩ := hp
        refine W.widen (k := _ + m_21) (n := _ + z_22) (Nat.le_refl _) (Nat.le_refl _) ?_
        replace hbc := w_spend hbc (show m_21 ≤ (bc - m_4) by omega)
        replace hbs := w_spend hbs (show z_22 ≤ (bs - z_5) by omega)
        have hE := hE.trans hX_S_20
        have hK_a0 : sK S_20 a0 = 1 := (hX_S_20.2 a0 hL_a0).1.trans hK_a0
        have hL_a0 : wM D S_20 a0 := hX_S_20.M hL_a0
        refine lv_goto (tgt := 76) hx hb dJ5_setLength_d00df_45 (by decide) ?_
        exact t_J5_setLength_d00df_76 F hr hlocks hK hbc hbs hp hW hE (lv_sub hl [0, 1] rfl) hL_a0 hK_a0
  · replace hp := hp.2 c_1
    obtain ⟨h_25, h_25b, hp⟩ := hp
    refine w_new (k := 3) (T := TJx7c733) F hK hW rfl (by decide) (fun w h => List.mem_cons_of_mem _ (wu_3 w h)) tyJx7c733 tyJx7c733_ok (hwg _ wc_RJ5_129) (hwg _ wn_3) (hwg _ wi_java_lang_StringIndexOutOfBoundsException) wdef_3 (by show _ ≤ rC; omega) (by show _ ≤ rS; omega) dJ5_setLength_d00df_4 (fun y_23 H hq_y_23 hW => ?_)
    replace hbc := w_spend hbc (show 1 ≤ bc by omega)
    replace hbs := w_spend hbs (show 6 ≤ bs by omega)
    obtain ⟨S_24, eS_24⟩ : ∃ z : wS, z = nA S y_23 3 0 := ⟨_, rfl⟩
    rw [← eS_24] at hW
    replace hp := hp y_23 hq_y_23 S_24 eS_24
    have hX_S_24 : wX D S S_24 := by rw [eS_24]; exact wX_nA hq_y_23
    have hE := hE.trans hX_S_24
    have hK_a0 : sK S_24 a0 = 1 := (hX_S_24.2 a0 hL_a0).1.trans hK_a0
    have hL_a0 : wM D S_24 a0 := hX_S_24.M hL_a0
    have hL_y_23 : wM D S_24 y_23 := by rw [eS_24]; exact Or.inl (List.mem_append_right _ List.mem_cons_self)
    have hK_y_23 : sK S_24 y_23 = 3 := by rw [eS_24]; exact va_up_self _ _ _
    refine lv_dup hx hb dJ5_setLength_d00df_7 rfl ?_
    refine lv_iload_n hx hb dJ5_setLength_d00df_8 rfl (lv_at hl 1 rfl) ?_
    obtain ⟨m_28, z_29, hm_28, hz_29, hp⟩ := hp
    refine w_callV (va_runI (As := [.int x1]) (rest := [.ref y_23]) F (c_Jx7c733_init_d00df l hL_y_23 hK_y_23 hp H.size) (cwI 1 hts (wg_cons wy_Jx7c733_init_d00df.2.2) rfl rfl rfl (hwg _ wy_Jx7c733_init_d00df.2.1) (hwg _ wm_RJ5_131) (hwg _ wy_Jx7c733_init_d00df.1) rfl (by decide +kernel) ⟨Nat.le_of_ble_eq_true rfl, Nat.le_of_ble_eq_true rfl⟩) (w_preS hK hW) rfl rfl hl.1 rfl (lv_room (Nat.le_of_ble_eq_true rfl)) dJ5_setLength_d00df_9 ⟨by show _ + m_28 ≤ rC; omega, by show _ + z_29 ≤ rS; omega⟩) hW (fun S_27 H locs hp hW => ?_)
    obtain ⟨hX_S_27, hp⟩ := hp
    refine W.widen (k := _ + m_28) (n := _ + z_29) (Nat.le_refl _) (Nat.le_refl _) ?_
    replace hbc := w_spend hbc (show m_28 ≤ (bc - 1) by omega)
    replace hbs := w_spend hbs (show z_29 ≤ (bs - 6) by omega)
    have hE := hE.trans hX_S_27
    have hK_a0 : sK S_27 a0 = 1 := (hX_S_27.2 a0 hL_a0).1.trans hK_a0
    have hL_a0 : wM D S_27 a0 := hX_S_27.M hL_a0
    have hK_y_23 : sK S_27 y_23 = 3 := (hX_S_27.2 y_23 hL_y_23).1.trans hK_y_23
    have hL_y_23 : wM D S_27 y_23 := hX_S_27.M hL_y_23
    exact hp.elim
set_option maxHeartbeats 4000000 in
set_option maxRecDepth 100000 in
theorem c_J5_setLength_d00df (l : Launch) {rC rS : Nat} {D : wD} {cy : Nat → ClassId} {X : va_W} {S0 : wS} {post : wS → Prop} {a0 : Nat} {x1 : Int32} (hL_a0 : wM D S0 a0) (hK_a0 : sK S0 a0 = 1) (hp : wp_J5_setLength_d00df D post rC rS S0 a0 x1) : mV D cy X l yJ5_setLength_d00df wz_J5_setLength_d00df (r_J5_setLength_d00df rC rS) [.ref a0, .int x1] S0 (fun S9 => wX D S0 S9 ∧ post S9) := by
  intro sz
  refine Met.ofW (cc := cJ5_setLength_d00df) (maxL := 2) (ret := none) (by decide) rfl ?_
  intro p e s m args below meth c s₁ B hml hv
  obtain ⟨rfl, hsz, hP, hK, hD0, hRO⟩ := hv
  have hts := atoms_spec (ws := wz_J5_setLength_d00df) B.pre
  have hown : s.vm.findClass RJ5 = some m.cls := findClass_of_methodNamed B.named
  subst hsz
  have hD := hD0.self (sz := s.heap.size)
  have F : CallFix p m c cJ5_setLength_d00df 2 s _ wz_J5_setLength_d00df RJ5 := ⟨B.exec, B.bytes, hml, hown, hts⟩
  have hr := B.returns
  have hlocks := B.notSynchronized
  generalize hAe : va_A (wL cy X S0) s.heap.size = A at hD hK ⊢
  have hA : ∀ q, s.heap.size ≤ q → A q := fun q h => by rw [← hAe]; exact Or.inr h
  have hW : wO D cy X A s.heap S0 s.heap [] := ⟨hP, hD, va_S.rf, hA, hRO⟩
  have hl := lv_entry ([.ref a0, .int x1]) (n := 2) (Nat.le_of_ble_eq_true rfl)
  rw [lg_entry_eq]
  generalize (lg_sl ([.ref a0, .int x1]) ++ List.replicate (2 - (lg_sl ([.ref a0, .int x1])).length) Slot.unset).toArray = ls at hl ⊢
  have hl : lv_has ls 2 [(0, .ref a0), (1, .int x1)] := hl
  unfold wp_J5_setLength_d00df at hp
  exact t_J5_setLength_d00df_0 F hr hlocks hK (Nat.le_of_eq (Nat.zero_add _)) (Nat.le_of_eq (Nat.zero_add _)) hp hW wX.rf (lv_sub hl [0, 1] rfl) hL_a0 hK_a0
def wp_J4_setLength_d00df_0 (D : wD) (post : wS → Prop)  (bc bs : Nat) (S : wS) (a0 : Nat) (x1 : Int32) : Prop :=
∃ m_3 z_4 : Nat, m_3 ≤ bc ∧ z_4 ≤ bs ∧
wp_J5_setLength_d00df D (fun S_2 => 
post S_2) m_3 z_4 S a0 x1
abbrev r_J4_setLength_d00df (rC rS : Nat) : Room := { frames := 15, cells := rC, slots := rS, locals := 333 }
def wp_J4_setLength_d00df (D : wD) (post : wS → Prop) (bc bs : Nat) (S : wS) (a0 : Nat) (x1 : Int32) : Prop := wp_J4_setLength_d00df_0 D post bc bs S a0 x1
set_option maxHeartbeats 4000000 in
set_option maxRecDepth 100000 in
theorem t_J4_setLength_d00df_0 {p : Program} {l : Launch} {e : Env} {s : State} {m : MethodId} {args : Array Value} {below : List Frame} {meth : Method} {c : Code} {D : wD} {cy : Nat → ClassId} {X : va_W} {A : Nat → Prop} {S0 : wS} {rC rS : Nat} {post : wS → Prop} (F : CallFix p m c cJ4_setLength_d00df 2 s args wz_J4_setLength_d00df RJ4) (hr : meth.sig.returnType = none) (hlocks : meth.locks = false) (hK : wK D cy A s) : ∀ {bc bs cells slots : Nat} (hbc : cells + bc ≤ rC) (hbs : slots + bs ≤ rS) {S : wS} {H : Heap} {locs : List Loc} {ls : Array Slot} {a0 : Nat} {x1 : Int32}, wp_J4_setLength_d00df_0 D post bc bs S a0 x1 → wO D cy X A s.heap S H locs → wX D S0 S → lv_has ls 2 [(0, .ref a0), (1, .int x1)] → wM D S a0 → sK S a0 = 1 → W p l e (r_J4_setLength_d00df rC rS) s m args below meth c H locs cells slots (MQ below (va_Qv (fun S9 => wX D S0 S9 ∧ post S9) (wB D cy X A) A) args s rC rS A) (F0 m 0 ls []) := by
  obtain ⟨hx, hb, hml, hown, hts⟩ := id F
  have hwg : ∀ w ∈ WG, w.before args s = true := fun w h => hts w (List.mem_cons_of_mem _ h)
  intro bc bs cells slots hbc hbs S H locs ls a0 x1 hp hW hE hl hL_a0 hK_a0
  unfold wp_J4_setLength_d00df_0 at hp
  refine lv_aload_n hx hb dJ4_setLength_d00df_0 rfl (lv_at hl 0 rfl) ?_
  refine lv_iload_n hx hb dJ4_setLength_d00df_1 rfl (lv_at hl 1 rfl) ?_
  obtain ⟨m_3, z_4, hm_3, hz_4, hp⟩ := hp
  refine w_callV (va_runSU (hK.1.1 1 _ rfl).2 (As := [.int x1]) (rest := []) F (c_J5_setLength_d00df l hL_a0 hK_a0 hp H.size) (va_cwSU 1 hts (wg_SU wm_RJ4_333 wsm_J5_setLength_d00df wsup5 wi5_J5_setLength_d00df winit5 wco_J5_setLength_d00df) rfl rfl rfl ⟨by decide, by decide +kernel⟩ ⟨Nat.le_of_ble_eq_true rfl, Nat.le_of_ble_eq_true rfl⟩) (w_preV hK hW hL_a0 hK_a0 (by decide) rfl) rfl rfl hl.1 rfl (lv_room (Nat.le_of_ble_eq_true rfl)) dJ4_setLength_d00df_2 ⟨by show _ + m_3 ≤ rC; omega, by show _ + z_4 ≤ rS; omega⟩) hW (fun S_2 H locs hp hW => ?_)
  obtain ⟨hX_S_2, hp⟩ := hp
  refine W.widen (k := _ + m_3) (n := _ + z_4) (Nat.le_refl _) (Nat.le_refl _) ?_
  replace hbc := w_spend hbc (show m_3 ≤ bc by omega)
  replace hbs := w_spend hbs (show z_4 ≤ bs by omega)
  have hE := hE.trans hX_S_2
  have hK_a0 : sK S_2 a0 = 1 := (hX_S_2.2 a0 hL_a0).1.trans hK_a0
  have hL_a0 : wM D S_2 a0 := hX_S_2.M hL_a0
  refine W.widen (k := rC) (n := rS) (Nat.le_trans (Nat.le_add_right _ _) hbc) (Nat.le_trans (Nat.le_add_right _ _) hbs) ?_
  exact w_vret hx hb hr hlocks hW ⟨hE, hp⟩ dJ4_setLength_d00df_5
set_option maxHeartbeats 4000000 in
set_option maxRecDepth 100000 in
theorem c_J4_setLength_d00df (l : Launch) {rC rS : Nat} {D : wD} {cy : Nat → ClassId} {X : va_W} {S0 : wS} {post : wS → Prop} {a0 : Nat} {x1 : Int32} (hL_a0 : wM D S0 a0) (hK_a0 : sK S0 a0 = 1) (hp : wp_J4_setLength_d00df D post rC rS S0 a0 x1) : mV D cy X l yJ4_setLength_d00df wz_J4_setLength_d00df (r_J4_setLength_d00df rC rS) [.ref a0, .int x1] S0 (fun S9 => wX D S0 S9 ∧ post S9) := by
  intro sz
  refine Met.ofW (cc := cJ4_setLength_d00df) (maxL := 2) (ret := none) (by decide) rfl ?_
  intro p e s m args below meth c s₁ B hml hv
  obtain ⟨rfl, hsz, hP, hK, hD0, hRO⟩ := hv
  have hts := atoms_spec (ws := wz_J4_setLength_d00df) B.pre
  have hown : s.vm.findClass RJ4 = some m.cls := findClass_of_methodNamed B.named
  subst hsz
  have hD := hD0.self (sz := s.heap.size)
  have F : CallFix p m c cJ4_setLength_d00df 2 s _ wz_J4_setLength_d00df RJ4 := ⟨B.exec, B.bytes, hml, hown, hts⟩
  have hr := B.returns
  have hlocks := B.notSynchronized
  generalize hAe : va_A (wL cy X S0) s.heap.size = A at hD hK ⊢
  have hA : ∀ q, s.heap.size ≤ q → A q := fun q h => by rw [← hAe]; exact Or.inr h
  have hW : wO D cy X A s.heap S0 s.heap [] := ⟨hP, hD, va_S.rf, hA, hRO⟩
  have hl := lv_entry ([.ref a0, .int x1]) (n := 2) (Nat.le_of_ble_eq_true rfl)
  rw [lg_entry_eq]
  generalize (lg_sl ([.ref a0, .int x1]) ++ List.replicate (2 - (lg_sl ([.ref a0, .int x1])).length) Slot.unset).toArray = ls at hl ⊢
  have hl : lv_has ls 2 [(0, .ref a0), (1, .int x1)] := hl
  unfold wp_J4_setLength_d00df at hp
  exact t_J4_setLength_d00df_0 F hr hlocks hK (Nat.le_of_eq (Nat.zero_add _)) (Nat.le_of_eq (Nat.zero_add _)) hp hW wX.rf (lv_sub hl [0, 1] rfl) hL_a0 hK_a0
def wp_J7_copyOf_6403c_0 (D : wD) (post : Option Nat → wS → Prop)  (bc bs : Nat) (S : wS) (a0 : Nat) (x1 : Int32) (g2 : Option Nat) : Prop :=
∀ y_1 : Nat, y_1 = D.2.2.1 200 →
((g2 = (some y_1) → ¬ x1 < 0 ∧ (x1).toNatClampNeg ≤ 1000000 ∧ 1 ≤ bc ∧ (x1).toNatClampNeg ≤ bs ∧ ∀ y_3 : Nat, ¬ wM D S y_3 → ∀ S_4 : wS, S_4 = nA S y_3 24 (x1).toNatClampNeg →
a0 ∈ sL S_4 ∧ y_3 ∈ sL S_4 ∧ ¬ (0 : Int32) < 0 ∧ ¬ (0 : Int32) < 0 ∧ ¬ (if x1 < (Int32.ofNat (sN S_4 a0)) then x1 else (Int32.ofNat (sN S_4 a0))) < 0 ∧ Int32.toNatClampNeg (0 : Int32) + Int32.toNatClampNeg (if x1 < (Int32.ofNat (sN S_4 a0)) then x1 else (Int32.ofNat (sN S_4 a0))) ≤ sN S_4 a0 ∧ Int32.toNatClampNeg (0 : Int32) + Int32.toNatClampNeg (if x1 < (Int32.ofNat (sN S_4 a0)) then x1 else (Int32.ofNat (sN S_4 a0))) ≤ sN S_4 y_3 ∧ (∀ i, i < Int32.toNatClampNeg (if x1 < (Int32.ofNat (sN S_4 a0)) then x1 else (Int32.ofNat (sN S_4 a0))) → ∀ y : Nat, sR S_4 a0 (Int32.toNatClampNeg (0 : Int32) + i) = some y → wM D S_4 y ∧ sK S_4 y = 8) ∧
∀ S_7 : wS, S_7 = uZ S_4 a0 y_3 (Int32.toNatClampNeg (0 : Int32)) (Int32.toNatClampNeg (0 : Int32)) (Int32.toNatClampNeg (if x1 < (Int32.ofNat (sN S_4 a0)) then x1 else (Int32.ofNat (sN S_4 a0)))) →
post (some y_3) S_7) ∧
 (¬ g2 = (some y_1) → False))
abbrev r_J7_copyOf_6403c (rC rS : Nat) : Room := { frames := 1, cells := rC, slots := rS, locals := 60 }
def wp_J7_copyOf_6403c (D : wD) (post : Option Nat → wS → Prop) (bc bs : Nat) (S : wS) (a0 : Nat) (x1 : Int32) (g2 : Option Nat) : Prop := wp_J7_copyOf_6403c_0 D post bc bs S a0 x1 g2
set_option maxHeartbeats 4000000 in
set_option maxRecDepth 100000 in
theorem t_J7_copyOf_6403c_0 {p : Program} {l : Launch} {e : Env} {s : State} {m : MethodId} {args : Array Value} {below : List Frame} {meth : Method} {c : Code} {D : wD} {cy : Nat → ClassId} {X : va_W} {A : Nat → Prop} {S0 : wS} {rC rS : Nat} {post : Option Nat → wS → Prop} (F : CallFix p m c cJ7_copyOf_6403c 4 s args wz_J7_copyOf_6403c RJ7) (hr : meth.sig.returnType = (some (.array (.object "java/lang/Object")))) (hlocks : meth.locks = false) (hK : wK D cy A s) : ∀ {bc bs cells slots : Nat} (hbc : cells + bc ≤ rC) (hbs : slots + bs ≤ rS) {S : wS} {H : Heap} {locs : List Loc} {ls : Array Slot} {a0 : Nat} {x1 : Int32} {g2 : Option Nat}, wp_J7_copyOf_6403c_0 D post bc bs S a0 x1 g2 → wO D cy X A s.heap S H locs → wX D S0 S → lv_has ls 4 [(0, .ref a0), (1, .int x1), (2, va_rf g2)] → wM D S a0 → sK S a0 = 24 → W p l e (r_J7_copyOf_6403c rC rS) s m args below meth c H locs cells slots (MQ below (va_Qq (fun r S9 => wX D S0 S9 ∧ post r S9) (wB D cy X A) A) args s rC rS A) (F0 m 0 ls []) := by
  obtain ⟨hx, hb, hml, hown, hts⟩ := id F
  have hwg : ∀ w ∈ WG, w.before args s = true := fun w h => hts w (List.mem_cons_of_mem _ h)
  intro bc bs cells slots hbc hbs S H locs ls a0 x1 g2 hp hW hE hl hL_a0 hK_a0
  unfold wp_J7_copyOf_6403c_0 at hp
  refine w_aload_n hx hb dJ7_copyOf_6403c_0 rfl (lv_at hl 2 rfl) ?_
  refine w_ldcM F hK (hwg _ wc_RJ7_110) dJ7_copyOf_6403c_1 ?_
  obtain ⟨y_1, ey_1⟩ : ∃ z : Nat, z = D.2.2.1 200 := ⟨_, rfl⟩
  rw [← ey_1]
  replace hp := hp y_1 ey_1
  refine lv_acmp_ne (rx := g2) (ry := (some y_1)) (tgt := 13) hx hb dJ7_copyOf_6403c_3 (by decide) (fun h_2 => ?_) (fun h_2 => ?_)
  · replace hp := hp.2 h_2
    exact hp.elim
  · replace hp := hp.1 h_2
    refine lv_iload_n hx hb dJ7_copyOf_6403c_6 rfl (lv_at hl 1 rfl) ?_
    obtain ⟨h_5, h_5b, h_5c, h_5d, hp⟩ := hp
    refine w_anew F hK hW (hwg _ wc_RJ7_2) h_5 h_5b (by show _ ≤ rC; omega) (by show _ ≤ rS; omega) dJ7_copyOf_6403c_7 (fun y_3 H hq_y_3 hW => ?_)
    replace hbc := w_spend hbc (show 1 ≤ bc by omega)
    replace hbs := w_spend hbs (show (x1).toNatClampNeg ≤ bs by omega)
    obtain ⟨S_4, eS_4⟩ : ∃ z : wS, z = nA S y_3 24 (x1).toNatClampNeg := ⟨_, rfl⟩
    rw [← eS_4] at hW
    replace hp := hp y_3 hq_y_3 S_4 eS_4
    have hX_S_4 : wX D S S_4 := by rw [eS_4]; exact wX_nA hq_y_3
    have hE := hE.trans hX_S_4
    have hK_a0 : sK S_4 a0 = 24 := (hX_S_4.2 a0 hL_a0).1.trans hK_a0
    have hL_a0 : wM D S_4 a0 := hX_S_4.M hL_a0
    have hL_y_3 : wM D S_4 y_3 := by rw [eS_4]; exact Or.inl (List.mem_append_right _ List.mem_cons_self)
    have hK_y_3 : sK S_4 y_3 = 24 := by rw [eS_4]; exact va_up_self _ _ _
    refine lv_goto (tgt := 24) hx hb dJ7_copyOf_6403c_10 (by decide) ?_
    refine lv_astore_n (lv' := [(3, .ref y_3), (0, .ref a0), (1, .int x1), (2, va_rf g2)]) hx hb dJ7_copyOf_6403c_24 rfl hl (by decide) (by cases g2 <;> rfl) (fun ls hl => ?_)
    refine lv_aload_n hx hb dJ7_copyOf_6403c_25 rfl (lv_at hl 1 rfl) ?_
    refine lv_iconst (v := 0) hx hb dJ7_copyOf_6403c_26 (by decide) ?_
    refine lv_aload_n hx hb dJ7_copyOf_6403c_27 rfl (lv_at hl 0 rfl) ?_
    refine lv_iconst (v := 0) hx hb dJ7_copyOf_6403c_28 (by decide) ?_
    refine lv_aload_n hx hb dJ7_copyOf_6403c_29 rfl (lv_at hl 1 rfl) ?_
    refine w_len F hK hW hL_a0 hK_a0 (by decide) dJ7_copyOf_6403c_30 ?_
    refine lv_iload_n hx hb dJ7_copyOf_6403c_31 rfl (lv_at hl 2 rfl) ?_
    refine va_mmin hx hb (hml.trans hl.1.symm) hown (hwg _ wm_RJ7_304) (hwg _ wmm_min.1) (hwg _ wmm_min.2.1) (hwg _ wmm_min.2.2) (Nat.le_of_ble_eq_true rfl) (Nat.le_of_ble_eq_true rfl) (by show _ ≤ rC; omega) (by show _ ≤ rS; omega) dJ7_copyOf_6403c_32 ?_
    obtain ⟨h_6a, h_6b, h_6c, h_6d, h_6e, h_6f, h_6g, h_6i, hp⟩ := hp
    refine w_copyQ F hK hW (hml.trans hl.1.symm) (hwg _ wm_RJ7_150) (hwg _ wacp.1) (hwg _ wacp.2.1) (hwg _ wacp.2.2) h_6a hK_a0 h_6b hK_y_3 h_6c h_6d h_6e h_6f h_6g h_6i (Nat.le_of_ble_eq_true rfl) (Nat.le_of_ble_eq_true rfl) dJ7_copyOf_6403c_35 (fun H locs hW => ?_)
    obtain ⟨S_7, eS_7⟩ : ∃ z : wS, z = uZ S_4 a0 y_3 (Int32.toNatClampNeg (0 : Int32)) (Int32.toNatClampNeg (0 : Int32)) (Int32.toNatClampNeg (if x1 < (Int32.ofNat (sN S_4 a0)) then x1 else (Int32.ofNat (sN S_4 a0)))) := ⟨_, rfl⟩
    rw [← eS_7] at hW
    replace hp := hp S_7 eS_7
    have hX_S_7 : wX D S_4 S_7 := by rw [eS_7]; exact wX_uZ
    have hE := hE.trans hX_S_7
    have hK_a0 : sK S_7 a0 = 24 := (hX_S_7.2 a0 hL_a0).1.trans hK_a0
    have hL_a0 : wM D S_7 a0 := hX_S_7.M hL_a0
    have hK_y_3 : sK S_7 y_3 = 24 := (hX_S_7.2 y_3 hL_y_3).1.trans hK_y_3
    have hL_y_3 : wM D S_7 y_3 := hX_S_7.M hL_y_3
    refine lv_aload_n hx hb dJ7_copyOf_6403c_38 rfl (lv_at hl 0 rfl) ?_
    refine W.widen (k := rC) (n := rS) (Nat.le_trans (Nat.le_add_right _ _) hbc) (Nat.le_trans (Nat.le_add_right _ _) hbs) ?_
    exact w_aret (g := (some y_3)) hx hb hr hlocks hW ⟨hE, hp⟩ dJ7_copyOf_6403c_39
set_option maxHeartbeats 4000000 in
set_option maxRecDepth 100000 in
theorem c_J7_copyOf_6403c (l : Launch) {rC rS : Nat} {D : wD} {cy : Nat → ClassId} {X : va_W} {S0 : wS} {post : Option Nat → wS → Prop} {a0 : Nat} {x1 : Int32} {g2 : Option Nat} (hL_a0 : wM D S0 a0) (hK_a0 : sK S0 a0 = 24) (hp : wp_J7_copyOf_6403c D post rC rS S0 a0 x1 g2) : mR D cy X l yJ7_copyOf_6403c wz_J7_copyOf_6403c (r_J7_copyOf_6403c rC rS) [.ref a0, .int x1, va_rf g2] S0 (fun r S9 => wX D S0 S9 ∧ post r S9) := by
  intro sz
  refine Met.ofW (cc := cJ7_copyOf_6403c) (maxL := 4) (ret := (some (.array (.object "java/lang/Object")))) (by decide) rfl ?_
  intro p e s m args below meth c s₁ B hml hv
  obtain ⟨rfl, hsz, hP, hK, hD0, hRO⟩ := hv
  have hts := atoms_spec (ws := wz_J7_copyOf_6403c) B.pre
  have hown : s.vm.findClass RJ7 = some m.cls := findClass_of_methodNamed B.named
  subst hsz
  have hD := hD0.self (sz := s.heap.size)
  have F : CallFix p m c cJ7_copyOf_6403c 4 s _ wz_J7_copyOf_6403c RJ7 := ⟨B.exec, B.bytes, hml, hown, hts⟩
  have hr := B.returns
  have hlocks := B.notSynchronized
  generalize hAe : va_A (wL cy X S0) s.heap.size = A at hD hK ⊢
  have hA : ∀ q, s.heap.size ≤ q → A q := fun q h => by rw [← hAe]; exact Or.inr h
  have hW : wO D cy X A s.heap S0 s.heap [] := ⟨hP, hD, va_S.rf, hA, hRO⟩
  have hl : lv_has ((lg_sl ([.ref a0, .int x1, va_rf g2]) ++ List.replicate (4 - (lg_sl ([.ref a0, .int x1, va_rf g2])).length) Slot.unset).toArray) 4 [(0, .ref a0), (1, .int x1), (2, va_rf g2)] := by
    cases g2 <;> exact lv_entry _ (n := 4) (Nat.le_of_ble_eq_true rfl)
  rw [lg_entry_eq]
  generalize (lg_sl ([.ref a0, .int x1, va_rf g2]) ++ List.replicate (4 - (lg_sl ([.ref a0, .int x1, va_rf g2])).length) Slot.unset).toArray = ls at hl ⊢
  have hl : lv_has ls 4 [(0, .ref a0), (1, .int x1), (2, va_rf g2)] := hl
  unfold wp_J7_copyOf_6403c at hp
  exact t_J7_copyOf_6403c_0 F hr hlocks hK (Nat.le_of_eq (Nat.zero_add _)) (Nat.le_of_eq (Nat.zero_add _)) hp hW wX.rf (lv_sub hl [0, 1, 2] rfl) hL_a0 hK_a0
def wp_J7_copyOf_1904c_0 (D : wD) (post : Option Nat → wS → Prop)  (bc bs : Nat) (S : wS) (a0 : Nat) (x1 : Int32) : Prop :=
∀ y_1 : Nat, y_1 = D.2.2.1 200 →
∃ m_4 z_5 : Nat, m_4 ≤ bc ∧ z_5 ≤ bs ∧
wp_J7_copyOf_6403c D (fun r_2 S_3 => 
post r_2 S_3) m_4 z_5 S a0 x1 (some y_1)
abbrev r_J7_copyOf_1904c (rC rS : Nat) : Room := { frames := 2, cells := rC, slots := rS, locals := 83 }
def wp_J7_copyOf_1904c (D : wD) (post : Option Nat → wS → Prop) (bc bs : Nat) (S : wS) (a0 : Nat) (x1 : Int32) : Prop := wp_J7_copyOf_1904c_0 D post bc bs S a0 x1
set_option maxHeartbeats 4000000 in
set_option maxRecDepth 100000 in
theorem t_J7_copyOf_1904c_0 {p : Program} {l : Launch} {e : Env} {s : State} {m : MethodId} {args : Array Value} {below : List Frame} {meth : Method} {c : Code} {D : wD} {cy : Nat → ClassId} {X : va_W} {A : Nat → Prop} {S0 : wS} {rC rS : Nat} {post : Option Nat → wS → Prop} (F : CallFix p m c cJ7_copyOf_1904c 2 s args wz_J7_copyOf_1904c RJ7) (hr : meth.sig.returnType = (some (.array (.object "java/lang/Object")))) (hlocks : meth.locks = false) (hK : wK D cy A s) : ∀ {bc bs cells slots : Nat} (hbc : cells + bc ≤ rC) (hbs : slots + bs ≤ rS) {S : wS} {H : Heap} {locs : List Loc} {ls : Array Slot} {a0 : Nat} {x1 : Int32}, wp_J7_copyOf_1904c_0 D post bc bs S a0 x1 → wO D cy X A s.heap S H locs → wX D S0 S → lv_has ls 2 [(0, .ref a0), (1, .int x1)] → wM D S a0 → sK S a0 = 24 → W p l e (r_J7_copyOf_1904c rC rS) s m args below meth c H locs cells slots (MQ below (va_Qq (fun r S9 => wX D S0 S9 ∧ post r S9) (wB D cy X A) A) args s rC rS A) (F0 m 0 ls []) := by
  obtain ⟨hx, hb, hml, hown, hts⟩ := id F
  have hwg : ∀ w ∈ WG, w.before args s = true := fun w h => hts w (List.mem_cons_of_mem _ h)
  intro bc bs cells slots hbc hbs S H locs ls a0 x1 hp hW hE hl hL_a0 hK_a0
  unfold wp_J7_copyOf_1904c_0 at hp
  refine lv_aload_n hx hb dJ7_copyOf_1904c_0 rfl (lv_at hl 0 rfl) ?_
  refine lv_iload_n hx hb dJ7_copyOf_1904c_1 rfl (lv_at hl 1 rfl) ?_
  refine lv_aload_n hx hb dJ7_copyOf_1904c_2 rfl (lv_at hl 0 rfl) ?_
  refine w_getC F hK hW (hml.trans hl.1.symm) (hwg _ wm_RJ7_86) (hwg _ wgc.1) (hwg _ wgc.2.1) (hwg _ wgc.2.2) hL_a0 hK_a0 (Nat.le_of_ble_eq_true rfl) (Nat.le_of_ble_eq_true rfl) dJ7_copyOf_1904c_3 ?_
  obtain ⟨y_1, ey_1⟩ : ∃ z : Nat, z = D.2.2.1 200 := ⟨_, rfl⟩
  rw [← ey_1]
  replace hp := hp y_1 ey_1
  obtain ⟨m_4, z_5, hm_4, hz_5, hp⟩ := hp
  refine w_callR (va_runS (As := [.ref a0, .int x1, va_rf (some y_1)]) (rest := []) F (c_J7_copyOf_6403c l hL_a0 hK_a0 hp H.size) (va_cwS 3 hts (wg_S wm_RJ7_300 wy_J7_copyOf_6403c) rfl rfl rfl (by decide +kernel) ⟨Nat.le_of_ble_eq_true rfl, Nat.le_of_ble_eq_true rfl⟩) (w_preS hK hW) rfl rfl hl.1 rfl (lv_room (Nat.le_of_ble_eq_true rfl)) dJ7_copyOf_1904c_6 ⟨by show _ + m_4 ≤ rC; omega, by show _ + z_5 ≤ rS; omega⟩) hW (fun r_2 S_3 H locs hp hW => ?_)
  obtain ⟨hX_S_3, hp⟩ := hp
  refine W.widen (k := _ + m_4) (n := _ + z_5) (Nat.le_refl _) (Nat.le_refl _) ?_
  replace hbc := w_spend hbc (show m_4 ≤ bc by omega)
  replace hbs := w_spend hbs (show z_5 ≤ bs by omega)
  have hE := hE.trans hX_S_3
  have hK_a0 : sK S_3 a0 = 24 := (hX_S_3.2 a0 hL_a0).1.trans hK_a0
  have hL_a0 : wM D S_3 a0 := hX_S_3.M hL_a0
  refine W.widen (k := rC) (n := rS) (Nat.le_trans (Nat.le_add_right _ _) hbc) (Nat.le_trans (Nat.le_add_right _ _) hbs) ?_
  exact w_aret (g := r_2) hx hb hr hlocks hW ⟨hE, hp⟩ dJ7_copyOf_1904c_9
set_option maxHeartbeats 4000000 in
set_option maxRecDepth 100000 in
theorem c_J7_copyOf_1904c (l : Launch) {rC rS : Nat} {D : wD} {cy : Nat → ClassId} {X : va_W} {S0 : wS} {post : Option Nat → wS → Prop} {a0 : Nat} {x1 : Int32} (hL_a0 : wM D S0 a0) (hK_a0 : sK S0 a0 = 24) (hp : wp_J7_copyOf_1904c D post rC rS S0 a0 x1) : mR D cy X l yJ7_copyOf_1904c wz_J7_copyOf_1904c (r_J7_copyOf_1904c rC rS) [.ref a0, .int x1] S0 (fun r S9 => wX D S0 S9 ∧ post r S9) := by
  intro sz
  refine Met.ofW (cc := cJ7_copyOf_1904c) (maxL := 2) (ret := (some (.array (.object "java/lang/Object")))) (by decide) rfl ?_
  intro p e s m args below meth c s₁ B hml hv
  obtain ⟨rfl, hsz, hP, hK, hD0, hRO⟩ := hv
  have hts := atoms_spec (ws := wz_J7_copyOf_1904c) B.pre
  have hown : s.vm.findClass RJ7 = some m.cls := findClass_of_methodNamed B.named
  subst hsz
  have hD := hD0.self (sz := s.heap.size)
  have F : CallFix p m c cJ7_copyOf_1904c 2 s _ wz_J7_copyOf_1904c RJ7 := ⟨B.exec, B.bytes, hml, hown, hts⟩
  have hr := B.returns
  have hlocks := B.notSynchronized
  generalize hAe : va_A (wL cy X S0) s.heap.size = A at hD hK ⊢
  have hA : ∀ q, s.heap.size ≤ q → A q := fun q h => by rw [← hAe]; exact Or.inr h
  have hW : wO D cy X A s.heap S0 s.heap [] := ⟨hP, hD, va_S.rf, hA, hRO⟩
  have hl := lv_entry ([.ref a0, .int x1]) (n := 2) (Nat.le_of_ble_eq_true rfl)
  rw [lg_entry_eq]
  generalize (lg_sl ([.ref a0, .int x1]) ++ List.replicate (2 - (lg_sl ([.ref a0, .int x1])).length) Slot.unset).toArray = ls at hl ⊢
  have hl : lv_has ls 2 [(0, .ref a0), (1, .int x1)] := hl
  unfold wp_J7_copyOf_1904c at hp
  exact t_J7_copyOf_1904c_0 F hr hlocks hK (Nat.le_of_eq (Nat.zero_add _)) (Nat.le_of_eq (Nat.zero_add _)) hp hW wX.rf (lv_sub hl [0, 1] rfl) hL_a0 hK_a0
def wp_J7_fill_53178_5 (D : wD) (post : wS → Prop)  : Nat → wS → Nat → Int32 → Int32 → Int32 → Prop
  | 0, _, _, _, _, _ => False
  | n + 1, S, a0, x1, x2, x3 =>
    ((x3 ≤ x2 → post S) ∧
     (¬ x3 ≤ x2 → a0 ∈ sL S ∧ vp_in x2 (sN S a0) ∧
    ∀ S_3 : wS, S_3 = uI S a0 (x2).toNatClampNeg x1 →
    ∀ x_4 : Int32, x_4 = x2 + 1 →
    wp_J7_fill_53178_5 D post n S_3 a0 x1 x_4 x3))
def wp_J7_fill_53178_0 (D : wD) (post : wS → Prop)  (S : wS) (a0 : Nat) (x1 : Int32) : Prop :=
∀ x_1 : Int32, x_1 = (Int32.ofNat (sN S a0)) →
∃ n_2 : Nat, wp_J7_fill_53178_5 D post n_2 S a0 x1 (0 : Int32) x_1
abbrev r_J7_fill_53178 : Room := { frames := 0, cells := 0, slots := 0, locals := 0 }
def wp_J7_fill_53178 (D : wD) (post : wS → Prop) (S : wS) (a0 : Nat) (x1 : Int32) : Prop := wp_J7_fill_53178_0 D post S a0 x1
set_option maxHeartbeats 4000000 in
set_option maxRecDepth 100000 in
theorem t_J7_fill_53178_5 {p : Program} {l : Launch} {e : Env} {s : State} {m : MethodId} {args : Array Value} {below : List Frame} {meth : Method} {c : Code} {D : wD} {cy : Nat → ClassId} {X : va_W} {A : Nat → Prop} {S0 : wS} {post : wS → Prop} (F : CallFix p m c cJ7_fill_53178 4 s args wz_J7_fill_53178 RJ7) (hr : meth.sig.returnType = none) (hlocks : meth.locks = false) (hK : wK D cy A s) : ∀ (n : Nat) {S : wS} {H : Heap} {locs : List Loc} {ls : Array Slot} {a0 : Nat} {x1 : Int32} {x2 : Int32} {x3 : Int32}, wp_J7_fill_53178_5 D post n S a0 x1 x2 x3 → wO D cy X A s.heap S H locs → wX D S0 S → lv_has ls 4 [(0, .ref a0), (1, .int x1), (2, .int x2), (3, .int x3)] → wM D S a0 → sK S a0 = 21 → W p l e r_J7_fill_53178 s m args below meth c H locs 0 0 (MQ below (va_Qv (fun S9 => wX D S0 S9 ∧ post S9) (wB D cy X A) A) args s 0 0 A) (F0 m 5 ls []) := by
  obtain ⟨hx, hb, hml, hown, hts⟩ := id F
  have hwg : ∀ w ∈ WG, w.before args s = true := fun w h => hts w (List.mem_cons_of_mem _ h)
  intro n
  induction n with
  | zero =>
    intro S H locs ls a0 x1 x2 x3 hp
    exact hp.elim
  | succ n ih =>
    intro S H locs ls a0 x1 x2 x3 hp hW hE hl hL_a0 hK_a0
    unfold wp_J7_fill_53178_5 at hp
    refine lv_iload_n hx hb dJ7_fill_53178_5 rfl (lv_at hl 2 rfl) ?_
    refine lv_iload_n hx hb dJ7_fill_53178_6 rfl (lv_at hl 3 rfl) ?_
    refine lv_icmp_ge (tgt := 20) hx hb dJ7_fill_53178_7 (by decide) (fun c_1 => ?_) (fun c_1 => ?_)
    · replace hp := hp.1 c_1
      exact w_vret hx hb hr hlocks hW ⟨hE, hp⟩ dJ7_fill_53178_20
    · replace hp := hp.2 c_1
      refine lv_aload_n hx hb dJ7_fill_53178_10 rfl (lv_at hl 0 rfl) ?_
      refine lv_iload_n hx hb dJ7_fill_53178_11 rfl (lv_at hl 2 rfl) ?_
      refine lv_iload_n hx hb dJ7_fill_53178_12 rfl (lv_at hl 1 rfl) ?_
      obtain ⟨h_2m, h_2, hp⟩ := hp
      refine w_ist F hK hW h_2m hK_a0 h_2 dJ7_fill_53178_13 (fun H locs hW => ?_)
      obtain ⟨S_3, eS_3⟩ : ∃ z : wS, z = uI S a0 (x2).toNatClampNeg x1 := ⟨_, rfl⟩
      rw [← eS_3] at hW
      replace hp := hp S_3 eS_3
      have hX_S_3 : wX D S S_3 := by rw [eS_3]; exact wX_uI
      have hE := hE.trans hX_S_3
      have hK_a0 : sK S_3 a0 = 21 := (hX_S_3.2 a0 hL_a0).1.trans hK_a0
      have hL_a0 : wM D S_3 a0 := hX_S_3.M hL_a0
      obtain ⟨x_4, ex_4⟩ : ∃ z : Int32, z = x2 + 1 := ⟨_, rfl⟩
      replace hp := hp x_4 ex_4
      refine lv_iinc (v := x_4) (lv' := [(2, .int x_4), (0, .ref a0), (1, .int x1), (3, .int x3)]) hx hb dJ7_fill_53178_14 hl (k := 2) rfl (by rw [ex_4]; rfl) (by decide) rfl (fun ls hl => ?_)
      refine lv_goto (tgt := 5) hx hb dJ7_fill_53178_17 (by decide) ?_
      exact ih hp hW hE (lv_sub hl [1, 2, 0, 3] rfl) hL_a0 hK_a0
set_option maxHeartbeats 4000000 in
set_option maxRecDepth 100000 in
theorem t_J7_fill_53178_0 {p : Program} {l : Launch} {e : Env} {s : State} {m : MethodId} {args : Array Value} {below : List Frame} {meth : Method} {c : Code} {D : wD} {cy : Nat → ClassId} {X : va_W} {A : Nat → Prop} {S0 : wS} {post : wS → Prop} (F : CallFix p m c cJ7_fill_53178 4 s args wz_J7_fill_53178 RJ7) (hr : meth.sig.returnType = none) (hlocks : meth.locks = false) (hK : wK D cy A s) : ∀ {S : wS} {H : Heap} {locs : List Loc} {ls : Array Slot} {a0 : Nat} {x1 : Int32}, wp_J7_fill_53178_0 D post S a0 x1 → wO D cy X A s.heap S H locs → wX D S0 S → lv_has ls 4 [(0, .ref a0), (1, .int x1)] → wM D S a0 → sK S a0 = 21 → W p l e r_J7_fill_53178 s m args below meth c H locs 0 0 (MQ below (va_Qv (fun S9 => wX D S0 S9 ∧ post S9) (wB D cy X A) A) args s 0 0 A) (F0 m 0 ls []) := by
  obtain ⟨hx, hb, hml, hown, hts⟩ := id F
  have hwg : ∀ w ∈ WG, w.before args s = true := fun w h => hts w (List.mem_cons_of_mem _ h)
  intro S H locs ls a0 x1 hp hW hE hl hL_a0 hK_a0
  unfold wp_J7_fill_53178_0 at hp
  refine lv_iconst (v := 0) hx hb dJ7_fill_53178_0 (by decide) ?_
  refine lv_istore_n (lv' := [(2, .int (0 : Int32)), (0, .ref a0), (1, .int x1)]) hx hb dJ7_fill_53178_1 rfl hl (by decide) rfl (fun ls hl => ?_)
  refine lv_aload_n hx hb dJ7_fill_53178_2 rfl (lv_at hl 1 rfl) ?_
  refine w_len F hK hW hL_a0 hK_a0 (by decide) dJ7_fill_53178_3 ?_
  refine lv_topi (fun x_1 ex_1 => ?_)
  replace hp := hp x_1 ex_1
  refine lv_istore_n (lv' := [(3, .int x_1), (2, .int (0 : Int32)), (0, .ref a0), (1, .int x1)]) hx hb dJ7_fill_53178_4 rfl hl (by decide) rfl (fun ls hl => ?_)
  obtain ⟨n_2, hp⟩ := hp
  exact t_J7_fill_53178_5 F hr hlocks hK n_2 hp hW hE (lv_sub hl [2, 3, 1, 0] rfl) hL_a0 hK_a0
set_option maxHeartbeats 4000000 in
set_option maxRecDepth 100000 in
theorem c_J7_fill_53178 (l : Launch) {D : wD} {cy : Nat → ClassId} {X : va_W} {S0 : wS} {post : wS → Prop} {a0 : Nat} {x1 : Int32} (hL_a0 : wM D S0 a0) (hK_a0 : sK S0 a0 = 21) (hp : wp_J7_fill_53178 D post S0 a0 x1) : mV D cy X l yJ7_fill_53178 wz_J7_fill_53178 r_J7_fill_53178 [.ref a0, .int x1] S0 (fun S9 => wX D S0 S9 ∧ post S9) := by
  intro sz
  refine Met.ofW (cc := cJ7_fill_53178) (maxL := 4) (ret := none) (by decide) rfl ?_
  intro p e s m args below meth c s₁ B hml hv
  obtain ⟨rfl, hsz, hP, hK, hD0, hRO⟩ := hv
  have hts := atoms_spec (ws := wz_J7_fill_53178) B.pre
  have hown : s.vm.findClass RJ7 = some m.cls := findClass_of_methodNamed B.named
  subst hsz
  have hD := hD0.self (sz := s.heap.size)
  have F : CallFix p m c cJ7_fill_53178 4 s _ wz_J7_fill_53178 RJ7 := ⟨B.exec, B.bytes, hml, hown, hts⟩
  have hr := B.returns
  have hlocks := B.notSynchronized
  generalize hAe : va_A (wL cy X S0) s.heap.size = A at hD hK ⊢
  have hA : ∀ q, s.heap.size ≤ q → A q := fun q h => by rw [← hAe]; exact Or.inr h
  have hW : wO D cy X A s.heap S0 s.heap [] := ⟨hP, hD, va_S.rf, hA, hRO⟩
  have hl := lv_entry ([.ref a0, .int x1]) (n := 4) (Nat.le_of_ble_eq_true rfl)
  rw [lg_entry_eq]
  generalize (lg_sl ([.ref a0, .int x1]) ++ List.replicate (4 - (lg_sl ([.ref a0, .int x1])).length) Slot.unset).toArray = ls at hl ⊢
  have hl : lv_has ls 4 [(0, .ref a0), (1, .int x1)] := hl
  unfold wp_J7_fill_53178 at hp
  exact t_J7_fill_53178_0 F hr hlocks hK hp hW wX.rf (lv_sub hl [0, 1] rfl) hL_a0 hK_a0
def wp_Jx4a65c_grow_92f84_20 (D : wD) (post : Option Nat → wS → Prop)  (bc bs : Nat) (S : wS) (a0 : Nat) (x1 : Int32) (x2 : Int32) : Prop :=
wp_J8_newLength_cabcc D (fun r_1 S_2 => 
∃ y_3 : Nat, sR S_2 a0 1 = some y_3 ∧ wM D S_2 y_3 ∧ sK S_2 y_3 = 24 ∧
∃ m_6 z_7 : Nat, m_6 ≤ bc ∧ z_7 ≤ bs ∧
wp_J7_copyOf_1904c D (fun r_4 S_5 => 
∀ S_8 : wS, S_8 = uR S_5 a0 1 r_4 →
post r_4 S_8) m_6 z_7 S_2 y_3 r_1) S x2 (x1 - x2) (x2 >>> ((1 : Int32) &&& 31))
def wp_Jx4a65c_grow_92f84_0 (D : wD) (post : Option Nat → wS → Prop)  (bc bs : Nat) (S : wS) (a0 : Nat) (x1 : Int32) : Prop :=
∃ y_1 : Nat, sR S a0 1 = some y_1 ∧ wM D S y_1 ∧ sK S y_1 = 24 ∧
∀ x_2 : Int32, x_2 = (Int32.ofNat (sN S y_1)) →
((0 < x_2 → wp_Jx4a65c_grow_92f84_20 D post bc bs S a0 x1 x_2) ∧
 (¬ 0 < x_2 → ∃ y_4 : Nat, sR S a0 1 = some y_4 ∧ wM D S y_4 ∧ sK S y_4 = 24 ∧
∀ y_5 : Nat, y_5 = D.2.2.1 106 →
(((some y_4) = (some y_5) → ¬ (if (10 : Int32) < x1 then x1 else (10 : Int32)) < 0 ∧ ((if (10 : Int32) < x1 then x1 else (10 : Int32))).toNatClampNeg ≤ 1000000 ∧ 1 ≤ bc ∧ ((if (10 : Int32) < x1 then x1 else (10 : Int32))).toNatClampNeg ≤ bs ∧ ∀ y_7 : Nat, ¬ wM D S y_7 → ∀ S_8 : wS, S_8 = nA S y_7 24 ((if (10 : Int32) < x1 then x1 else (10 : Int32))).toNatClampNeg →
∀ S_10 : wS, S_10 = uR S_8 a0 1 (some y_7) →
post (some y_7) S_10) ∧
 (¬ (some y_4) = (some y_5) → wp_Jx4a65c_grow_92f84_20 D post bc bs S a0 x1 x_2))))
abbrev r_Jx4a65c_grow_92f84 (rC rS : Nat) : Room := { frames := 3, cells := rC, slots := rS, locals := 104 }
def wp_Jx4a65c_grow_92f84 (D : wD) (post : Option Nat → wS → Prop) (bc bs : Nat) (S : wS) (a0 : Nat) (x1 : Int32) : Prop := wp_Jx4a65c_grow_92f84_0 D post bc bs S a0 x1
set_option maxHeartbeats 4000000 in
set_option maxRecDepth 100000 in
theorem t_Jx4a65c_grow_92f84_20 {p : Program} {l : Launch} {e : Env} {s : State} {m : MethodId} {args : Array Value} {below : List Frame} {meth : Method} {c : Code} {D : wD} {cy : Nat → ClassId} {X : va_W} {A : Nat → Prop} {S0 : wS} {rC rS : Nat} {post : Option Nat → wS → Prop} (F : CallFix p m c cJx4a65c_grow_92f84 4 s args wz_Jx4a65c_grow_92f84 RJx4a65c) (hr : meth.sig.returnType = (some (.array (.object "java/lang/Object")))) (hlocks : meth.locks = false) (hK : wK D cy A s) : ∀ {bc bs cells slots : Nat} (hbc : cells + bc ≤ rC) (hbs : slots + bs ≤ rS) {S : wS} {H : Heap} {locs : List Loc} {ls : Array Slot} {a0 : Nat} {x1 : Int32} {x2 : Int32}, wp_Jx4a65c_grow_92f84_20 D post bc bs S a0 x1 x2 → wO D cy X A s.heap S H locs → wX D S0 S → lv_has ls 4 [(0, .ref a0), (1, .int x1), (2, .int x2)] → wM D S a0 → sK S a0 = 4 → W p l e (r_Jx4a65c_grow_92f84 rC rS) s m args below meth c H locs cells slots (MQ below (va_Qq (fun r S9 => wX D S0 S9 ∧ post r S9) (wB D cy X A) A) args s rC rS A) (F0 m 20 ls []) := by
  obtain ⟨hx, hb, hml, hown, hts⟩ := id F
  have hwg : ∀ w ∈ WG, w.before args s = true := fun w h => hts w (List.mem_cons_of_mem _ h)
  have i_4 : ∀ w ∈ u_ws RJx4a65c TJx4a65c 3, w ∈ wz_Jx4a65c_grow_92f84 := fun w h => List.mem_cons_of_mem _ (wu_4 w h)
  have k_9 := hwg _ wf_RJx4a65c_9
  intro bc bs cells slots hbc hbs S H locs ls a0 x1 x2 hp hW hE hl hL_a0 hK_a0
  unfold wp_Jx4a65c_grow_92f84_20 at hp
  refine lv_iload_n hx hb dJx4a65c_grow_92f84_20 rfl (lv_at hl 2 rfl) ?_
  refine lv_iload_n hx hb dJx4a65c_grow_92f84_21 rfl (lv_at hl 1 rfl) ?_
  refine lv_iload_n hx hb dJx4a65c_grow_92f84_22 rfl (lv_at hl 2 rfl) ?_
  refine lv_isub hx hb dJx4a65c_grow_92f84_23 ?_
  refine lv_iload_n hx hb dJx4a65c_grow_92f84_24 rfl (lv_at hl 2 rfl) ?_
  refine lv_iconst (v := 1) hx hb dJx4a65c_grow_92f84_25 (by decide) ?_
  refine lv_ishr hx hb dJx4a65c_grow_92f84_26 ?_
  refine w_callI (va_runS (As := [.int x2, .int (x1 - x2), .int (x2 >>> ((1 : Int32) &&& 31))]) (rest := []) F (c_J8_newLength_cabcc l hp H.size) (va_cwS 3 hts (wg_S wm_RJx4a65c_73 wy_J8_newLength_cabcc) rfl rfl rfl (by decide +kernel) ⟨Nat.le_of_ble_eq_true rfl, Nat.le_of_ble_eq_true rfl⟩) (w_preS hK hW) rfl rfl hl.1 rfl (lv_room (Nat.le_of_ble_eq_true rfl)) dJx4a65c_grow_92f84_27 ⟨by show _ ≤ rC; exact Nat.le_trans (Nat.le_add_right _ _) hbc, by show _ ≤ rS; exact Nat.le_trans (Nat.le_add_right _ _) hbs⟩) hW (fun r_1 S_2 H locs hp hW => ?_)
  obtain ⟨hX_S_2, hp⟩ := hp
  refine w_same ?_
  have hE := hE.trans hX_S_2
  have hK_a0 : sK S_2 a0 = 4 := (hX_S_2.2 a0 hL_a0).1.trans hK_a0
  have hL_a0 : wM D S_2 a0 := hX_S_2.M hL_a0
  refine lv_istore_n (lv' := [(3, .int r_1), (0, .ref a0), (1, .int x1), (2, .int x2)]) hx hb dJx4a65c_grow_92f84_30 rfl hl (by decide) rfl (fun ls hl => ?_)
  refine lv_aload_n hx hb dJx4a65c_grow_92f84_31 rfl (lv_at hl 1 rfl) ?_
  refine lv_aload_n hx hb dJx4a65c_grow_92f84_32 rfl (lv_at hl 1 rfl) ?_
  obtain ⟨y_3, ey_3, hL_y_3, hK_y_3, hp⟩ := hp
  refine w_get (k := 4) (f := 1) (T := TJx4a65c) (v := .ref y_3) F hK hW hL_a0 hK_a0 (by decide) rfl rfl (by decide) i_4 k_9 (by rw [show wv 4 1 S_2 a0 = va_rf (sR S_2 a0 1) from rfl, ey_3]; rfl) dJx4a65c_grow_92f84_33 ?_
  refine lv_iload_n hx hb dJx4a65c_grow_92f84_36 rfl (lv_at hl 0 rfl) ?_
  obtain ⟨m_6, z_7, hm_6, hz_7, hp⟩ := hp
  refine w_callR (va_runS (As := [.ref y_3, .int r_1]) (rest := [.ref a0]) F (c_J7_copyOf_1904c l hL_y_3 hK_y_3 hp H.size) (va_cwS 2 hts (wg_S wm_RJx4a65c_66 wy_J7_copyOf_1904c) rfl rfl rfl (by decide +kernel) ⟨Nat.le_of_ble_eq_true rfl, Nat.le_of_ble_eq_true rfl⟩) (w_preS hK hW) rfl rfl hl.1 rfl (lv_room (Nat.le_of_ble_eq_true rfl)) dJx4a65c_grow_92f84_37 ⟨by show _ + m_6 ≤ rC; omega, by show _ + z_7 ≤ rS; omega⟩) hW (fun r_4 S_5 H locs hp hW => ?_)
  obtain ⟨hX_S_5, hp⟩ := hp
  refine W.widen (k := _ + m_6) (n := _ + z_7) (Nat.le_refl _) (Nat.le_refl _) ?_
  replace hbc := w_spend hbc (show m_6 ≤ bc by omega)
  replace hbs := w_spend hbs (show z_7 ≤ bs by omega)
  have hE := hE.trans hX_S_5
  have hK_a0 : sK S_5 a0 = 4 := (hX_S_5.2 a0 hL_a0).1.trans hK_a0
  have hL_a0 : wM D S_5 a0 := hX_S_5.M hL_a0
  refine lv_dup_x1 hx hb dJx4a65c_grow_92f84_40 (by cases r_4 <;> rfl) rfl ?_
  refine w_putR (k := 4) (f := 1) (T := TJx4a65c) (g := r_4) F hK hW hL_a0 hK_a0 (by decide) (by decide) rfl rfl (by decide) i_4 tyJx4a65c tyJx4a65c_ok nmJx4a65c k_9 rfl rfl (ty := (.array (.object "java/lang/Object"))) rfl (v_narrow _ _) (v_fitsA _ _) dJx4a65c_grow_92f84_41 (fun H locs hW => ?_)
  obtain ⟨S_8, eS_8⟩ : ∃ z : wS, z = uR S_5 a0 1 r_4 := ⟨_, rfl⟩
  rw [← eS_8] at hW
  replace hp := hp S_8 eS_8
  have hX_S_8 : wX D S_5 S_8 := by rw [eS_8]; exact wX_uR
  have hE := hE.trans hX_S_8
  have hK_a0 : sK S_8 a0 = 4 := (hX_S_8.2 a0 hL_a0).1.trans hK_a0
  have hL_a0 : wM D S_8 a0 := hX_S_8.M hL_a0
  refine W.widen (k := rC) (n := rS) (Nat.le_trans (Nat.le_add_right _ _) hbc) (Nat.le_trans (Nat.le_add_right _ _) hbs) ?_
  exact w_aret (g := r_4) hx hb hr hlocks hW ⟨hE, hp⟩ dJx4a65c_grow_92f84_44
set_option maxHeartbeats 4000000 in
set_option maxRecDepth 100000 in
theorem t_Jx4a65c_grow_92f84_0 {p : Program} {l : Launch} {e : Env} {s : State} {m : MethodId} {args : Array Value} {below : List Frame} {meth : Method} {c : Code} {D : wD} {cy : Nat → ClassId} {X : va_W} {A : Nat → Prop} {S0 : wS} {rC rS : Nat} {post : Option Nat → wS → Prop} (F : CallFix p m c cJx4a65c_grow_92f84 4 s args wz_Jx4a65c_grow_92f84 RJx4a65c) (hr : meth.sig.returnType = (some (.array (.object "java/lang/Object")))) (hlocks : meth.locks = false) (hK : wK D cy A s) : ∀ {bc bs cells slots : Nat} (hbc : cells + bc ≤ rC) (hbs : slots + bs ≤ rS) {S : wS} {H : Heap} {locs : List Loc} {ls : Array Slot} {a0 : Nat} {x1 : Int32}, wp_Jx4a65c_grow_92f84_0 D post bc bs S a0 x1 → wO D cy X A s.heap S H locs → wX D S0 S → lv_has ls 4 [(0, .ref a0), (1, .int x1)] → wM D S a0 → sK S a0 = 4 → W p l e (r_Jx4a65c_grow_92f84 rC rS) s m args below meth c H locs cells slots (MQ below (va_Qq (fun r S9 => wX D S0 S9 ∧ post r S9) (wB D cy X A) A) args s rC rS A) (F0 m 0 ls []) := by
  obtain ⟨hx, hb, hml, hown, hts⟩ := id F
  have hwg : ∀ w ∈ WG, w.before args s = true := fun w h => hts w (List.mem_cons_of_mem _ h)
  have i_4 : ∀ w ∈ u_ws RJx4a65c TJx4a65c 3, w ∈ wz_Jx4a65c_grow_92f84 := fun w h => List.mem_cons_of_mem _ (wu_4 w h)
  have k_9 := hwg _ wf_RJx4a65c_9
  intro bc bs cells slots hbc hbs S H locs ls a0 x1 hp hW hE hl hL_a0 hK_a0
  unfold wp_Jx4a65c_grow_92f84_0 at hp
  refine lv_aload_n hx hb dJx4a65c_grow_92f84_0 rfl (lv_at hl 0 rfl) ?_
  obtain ⟨y_1, ey_1, hL_y_1, hK_y_1, hp⟩ := hp
  refine w_get (k := 4) (f := 1) (T := TJx4a65c) (v := .ref y_1) F hK hW hL_a0 hK_a0 (by decide) rfl rfl (by decide) i_4 k_9 (by rw [show wv 4 1 S a0 = va_rf (sR S a0 1) from rfl, ey_1]; rfl) dJx4a65c_grow_92f84_1 ?_
  refine w_len F hK hW hL_y_1 hK_y_1 (by decide) dJx4a65c_grow_92f84_4 ?_
  refine lv_topi (fun x_2 ex_2 => ?_)
  replace hp := hp x_2 ex_2
  refine lv_istore_n (lv' := [(2, .int x_2), (0, .ref a0), (1, .int x1)]) hx hb dJx4a65c_grow_92f84_5 rfl hl (by decide) rfl (fun ls hl => ?_)
  refine lv_iload_n hx hb dJx4a65c_grow_92f84_6 rfl (lv_at hl 0 rfl) ?_
  refine lv_if_gt (tgt := 20) hx hb dJx4a65c_grow_92f84_7 (by decide) (fun c_3 => ?_) (fun c_3 => ?_)
  · replace hp := hp.1 c_3
    exact t_Jx4a65c_grow_92f84_20 F hr hlocks hK hbc hbs hp hW hE (lv_sub hl [1, 2, 0] rfl) hL_a0 hK_a0
  · replace hp := hp.2 c_3
    refine lv_aload_n hx hb dJx4a65c_grow_92f84_10 rfl (lv_at hl 1 rfl) ?_
    obtain ⟨y_4, ey_4, hL_y_4, hK_y_4, hp⟩ := hp
    refine w_get (k := 4) (f := 1) (T := TJx4a65c) (v := .ref y_4) F hK hW hL_a0 hK_a0 (by decide) rfl rfl (by decide) i_4 k_9 (by rw [show wv 4 1 S a0 = va_rf (sR S a0 1) from rfl, ey_4]; rfl) dJx4a65c_grow_92f84_11 ?_
    refine w_stat F hK hW (show ("java/util/ArrayList", "DEFAULTCAPACITY_EMPTY_ELEMENTDATA", "[Ljava/lang/Object;", 106, 24) ∈ wSr by decide +kernel) (hwg _ wf_RJx4a65c_39) dJx4a65c_grow_92f84_14 ?_
    obtain ⟨y_5, ey_5⟩ : ∃ z : Nat, z = D.2.2.1 106 := ⟨_, rfl⟩
    rw [← ey_5]
    replace hp := hp y_5 ey_5
    obtain ⟨hL_y_5, hK_y_5⟩ : wM D S y_5 ∧ sK S y_5 = 24 := by rw [ey_5]; exact w_statM hK hW (show ("java/util/ArrayList", "DEFAULTCAPACITY_EMPTY_ELEMENTDATA", "[Ljava/lang/Object;", 106, 24) ∈ wSr by decide +kernel)
    refine lv_acmp_eq (rx := (some y_4)) (ry := (some y_5)) (tgt := 45) hx hb dJx4a65c_grow_92f84_17 (by decide) (fun h_6 => ?_) (fun h_6 => ?_)
    · replace hp := hp.1 h_6
      refine lv_aload_n hx hb dJx4a65c_grow_92f84_45 rfl (lv_at hl 1 rfl) ?_
      refine lv_bipush (v := 10) hx hb dJx4a65c_grow_92f84_46 (by decide) ?_
      refine lv_iload_n hx hb dJx4a65c_grow_92f84_48 rfl (lv_at hl 2 rfl) ?_
      refine va_mmax hx hb (hml.trans hl.1.symm) hown (hwg _ wm_RJx4a65c_79) (hwg _ wmm_max.1) (hwg _ wmm_max.2.1) (hwg _ wmm_max.2.2) (Nat.le_of_ble_eq_true rfl) (Nat.le_of_ble_eq_true rfl) (by show _ ≤ rC; omega) (by show _ ≤ rS; omega) dJx4a65c_grow_92f84_49 ?_
      obtain ⟨h_9, h_9b, h_9c, h_9d, hp⟩ := hp
      refine w_anew F hK hW (hwg _ wc_RJx4a65c_7) h_9 h_9b (by show _ ≤ rC; omega) (by show _ ≤ rS; omega) dJx4a65c_grow_92f84_52 (fun y_7 H hq_y_7 hW => ?_)
      replace hbc := w_spend hbc (show 1 ≤ bc by omega)
      replace hbs := w_spend hbs (show ((if (10 : Int32) < x1 then x1 else (10 : Int32))).toNatClampNeg ≤ bs by omega)
      obtain ⟨S_8, eS_8⟩ : ∃ z : wS, z = nA S y_7 24 ((if (10 : Int32) < x1 then x1 else (10 : Int32))).toNatClampNeg := ⟨_, rfl⟩
      rw [← eS_8] at hW
      replace hp := hp y_7 hq_y_7 S_8 eS_8
      have hX_S_8 : wX D S S_8 := by rw [eS_8]; exact wX_nA hq_y_7
      have hE := hE.trans hX_S_8
      have hK_a0 : sK S_8 a0 = 4 := (hX_S_8.2 a0 hL_a0).1.trans hK_a0
      have hL_a0 : wM D S_8 a0 := hX_S_8.M hL_a0
      have hL_y_7 : wM D S_8 y_7 := by rw [eS_8]; exact Or.inl (List.mem_append_right _ List.mem_cons_self)
      have hK_y_7 : sK S_8 y_7 = 24 := by rw [eS_8]; exact va_up_self _ _ _
      refine lv_dup_x1 hx hb dJx4a65c_grow_92f84_55 rfl rfl ?_
      refine w_putR (k := 4) (f := 1) (T := TJx4a65c) (g := (some y_7)) F hK hW hL_a0 hK_a0 (by decide) (by decide) rfl rfl (by decide) i_4 tyJx4a65c tyJx4a65c_ok nmJx4a65c k_9 rfl rfl (ty := (.array (.object "java/lang/Object"))) rfl (v_narrow _ _) (v_fitsA _ _) dJx4a65c_grow_92f84_56 (fun H locs hW => ?_)
      obtain ⟨S_10, eS_10⟩ : ∃ z : wS, z = uR S_8 a0 1 (some y_7) := ⟨_, rfl⟩
      rw [← eS_10] at hW
      replace hp := hp S_10 eS_10
      have hX_S_10 : wX D S_8 S_10 := by rw [eS_10]; exact wX_uR
      have hE := hE.trans hX_S_10
      have hK_a0 : sK S_10 a0 = 4 := (hX_S_10.2 a0 hL_a0).1.trans hK_a0
      have hL_a0 : wM D S_10 a0 := hX_S_10.M hL_a0
      have hK_y_7 : sK S_10 y_7 = 24 := (hX_S_10.2 y_7 hL_y_7).1.trans hK_y_7
      have hL_y_7 : wM D S_10 y_7 := hX_S_10.M hL_y_7
      refine W.widen (k := rC) (n := rS) (Nat.le_trans (Nat.le_add_right _ _) hbc) (Nat.le_trans (Nat.le_add_right _ _) hbs) ?_
      exact w_aret (g := (some y_7)) hx hb hr hlocks hW ⟨hE, hp⟩ dJx4a65c_grow_92f84_59
    · replace hp := hp.2 h_6
      exact t_Jx4a65c_grow_92f84_20 F hr hlocks hK hbc hbs hp hW hE (lv_sub hl [1, 2, 0] rfl) hL_a0 hK_a0
set_option maxHeartbeats 4000000 in
set_option maxRecDepth 100000 in
theorem c_Jx4a65c_grow_92f84 (l : Launch) {rC rS : Nat} {D : wD} {cy : Nat → ClassId} {X : va_W} {S0 : wS} {post : Option Nat → wS → Prop} {a0 : Nat} {x1 : Int32} (hL_a0 : wM D S0 a0) (hK_a0 : sK S0 a0 = 4) (hp : wp_Jx4a65c_grow_92f84 D post rC rS S0 a0 x1) : mR D cy X l yJx4a65c_grow_92f84 wz_Jx4a65c_grow_92f84 (r_Jx4a65c_grow_92f84 rC rS) [.ref a0, .int x1] S0 (fun r S9 => wX D S0 S9 ∧ post r S9) := by
  intro sz
  refine Met.ofW (cc := cJx4a65c_grow_92f84) (maxL := 4) (ret := (some (.array (.object "java/lang/Object")))) (by decide) rfl ?_
  intro p e s m args below meth c s₁ B hml hv
  obtain ⟨rfl, hsz, hP, hK, hD0, hRO⟩ := hv
  have hts := atoms_spec (ws := wz_Jx4a65c_grow_92f84) B.pre
  have hown : s.vm.findClass RJx4a65c = some m.cls := findClass_of_methodNamed B.named
  subst hsz
  have hD := hD0.self (sz := s.heap.size)
  have F : CallFix p m c cJx4a65c_grow_92f84 4 s _ wz_Jx4a65c_grow_92f84 RJx4a65c := ⟨B.exec, B.bytes, hml, hown, hts⟩
  have hr := B.returns
  have hlocks := B.notSynchronized
  generalize hAe : va_A (wL cy X S0) s.heap.size = A at hD hK ⊢
  have hA : ∀ q, s.heap.size ≤ q → A q := fun q h => by rw [← hAe]; exact Or.inr h
  have hW : wO D cy X A s.heap S0 s.heap [] := ⟨hP, hD, va_S.rf, hA, hRO⟩
  have hl := lv_entry ([.ref a0, .int x1]) (n := 4) (Nat.le_of_ble_eq_true rfl)
  rw [lg_entry_eq]
  generalize (lg_sl ([.ref a0, .int x1]) ++ List.replicate (4 - (lg_sl ([.ref a0, .int x1])).length) Slot.unset).toArray = ls at hl ⊢
  have hl : lv_has ls 4 [(0, .ref a0), (1, .int x1)] := hl
  unfold wp_Jx4a65c_grow_92f84 at hp
  exact t_Jx4a65c_grow_92f84_0 F hr hlocks hK (Nat.le_of_eq (Nat.zero_add _)) (Nat.le_of_eq (Nat.zero_add _)) hp hW wX.rf (lv_sub hl [0, 1] rfl) hL_a0 hK_a0
def wp_Jx4a65c_grow_d5877_0 (D : wD) (post : Option Nat → wS → Prop)  (bc bs : Nat) (S : wS) (a0 : Nat) : Prop :=
∃ m_3 z_4 : Nat, m_3 ≤ bc ∧ z_4 ≤ bs ∧
wp_Jx4a65c_grow_92f84 D (fun r_1 S_2 => 
post r_1 S_2) m_3 z_4 S a0 ((sI S a0 2) + (1 : Int32))
abbrev r_Jx4a65c_grow_d5877 (rC rS : Nat) : Room := { frames := 4, cells := rC, slots := rS, locals := 127 }
def wp_Jx4a65c_grow_d5877 (D : wD) (post : Option Nat → wS → Prop) (bc bs : Nat) (S : wS) (a0 : Nat) : Prop := wp_Jx4a65c_grow_d5877_0 D post bc bs S a0
set_option maxHeartbeats 4000000 in
set_option maxRecDepth 100000 in
theorem t_Jx4a65c_grow_d5877_0 {p : Program} {l : Launch} {e : Env} {s : State} {m : MethodId} {args : Array Value} {below : List Frame} {meth : Method} {c : Code} {D : wD} {cy : Nat → ClassId} {X : va_W} {A : Nat → Prop} {S0 : wS} {rC rS : Nat} {post : Option Nat → wS → Prop} (F : CallFix p m c cJx4a65c_grow_d5877 1 s args wz_Jx4a65c_grow_d5877 RJx4a65c) (hr : meth.sig.returnType = (some (.array (.object "java/lang/Object")))) (hlocks : meth.locks = false) (hK : wK D cy A s) : ∀ {bc bs cells slots : Nat} (hbc : cells + bc ≤ rC) (hbs : slots + bs ≤ rS) {S : wS} {H : Heap} {locs : List Loc} {ls : Array Slot} {a0 : Nat}, wp_Jx4a65c_grow_d5877_0 D post bc bs S a0 → wO D cy X A s.heap S H locs → wX D S0 S → lv_has ls 1 [(0, .ref a0)] → wM D S a0 → sK S a0 = 4 → W p l e (r_Jx4a65c_grow_d5877 rC rS) s m args below meth c H locs cells slots (MQ below (va_Qq (fun r S9 => wX D S0 S9 ∧ post r S9) (wB D cy X A) A) args s rC rS A) (F0 m 0 ls []) := by
  obtain ⟨hx, hb, hml, hown, hts⟩ := id F
  have hwg : ∀ w ∈ WG, w.before args s = true := fun w h => hts w (List.mem_cons_of_mem _ h)
  have i_4 : ∀ w ∈ u_ws RJx4a65c TJx4a65c 3, w ∈ wz_Jx4a65c_grow_d5877 := fun w h => List.mem_cons_of_mem _ (wu_4 w h)
  have k_48 := hwg _ wf_RJx4a65c_48
  intro bc bs cells slots hbc hbs S H locs ls a0 hp hW hE hl hL_a0 hK_a0
  unfold wp_Jx4a65c_grow_d5877_0 at hp
  refine lv_aload_n hx hb dJx4a65c_grow_d5877_0 rfl (lv_at hl 0 rfl) ?_
  refine lv_aload_n hx hb dJx4a65c_grow_d5877_1 rfl (lv_at hl 0 rfl) ?_
  refine w_get (k := 4) (f := 2) (T := TJx4a65c) (v := .int (sI S a0 2)) F hK hW hL_a0 hK_a0 (by decide) rfl rfl (by decide) i_4 k_48 rfl dJx4a65c_grow_d5877_2 ?_
  refine lv_iconst (v := 1) hx hb dJx4a65c_grow_d5877_5 (by decide) ?_
  refine lv_iadd hx hb dJx4a65c_grow_d5877_6 ?_
  obtain ⟨m_3, z_4, hm_3, hz_4, hp⟩ := hp
  refine w_callR (va_runV (As := [.int ((sI S a0 2) + (1 : Int32))]) (rest := []) F (c_Jx4a65c_grow_92f84 l hL_a0 hK_a0 hp H.size) (cwV (C := RJx4a65c) 1 hts (wg_V wm_RJx4a65c_69 wy_Jx4a65c_grow_92f84) rfl rfl rfl (by decide +kernel) ⟨Nat.le_of_ble_eq_true rfl, Nat.le_of_ble_eq_true rfl⟩) (w_preV hK hW hL_a0 hK_a0 (by decide) rfl) rfl rfl hl.1 rfl (lv_room (Nat.le_of_ble_eq_true rfl)) dJx4a65c_grow_d5877_7 ⟨by show _ + m_3 ≤ rC; omega, by show _ + z_4 ≤ rS; omega⟩) hW (fun r_1 S_2 H locs hp hW => ?_)
  obtain ⟨hX_S_2, hp⟩ := hp
  refine W.widen (k := _ + m_3) (n := _ + z_4) (Nat.le_refl _) (Nat.le_refl _) ?_
  replace hbc := w_spend hbc (show m_3 ≤ bc by omega)
  replace hbs := w_spend hbs (show z_4 ≤ bs by omega)
  have hE := hE.trans hX_S_2
  have hK_a0 : sK S_2 a0 = 4 := (hX_S_2.2 a0 hL_a0).1.trans hK_a0
  have hL_a0 : wM D S_2 a0 := hX_S_2.M hL_a0
  refine W.widen (k := rC) (n := rS) (Nat.le_trans (Nat.le_add_right _ _) hbc) (Nat.le_trans (Nat.le_add_right _ _) hbs) ?_
  exact w_aret (g := r_1) hx hb hr hlocks hW ⟨hE, hp⟩ dJx4a65c_grow_d5877_10
set_option maxHeartbeats 4000000 in
set_option maxRecDepth 100000 in
theorem c_Jx4a65c_grow_d5877 (l : Launch) {rC rS : Nat} {D : wD} {cy : Nat → ClassId} {X : va_W} {S0 : wS} {post : Option Nat → wS → Prop} {a0 : Nat} (hL_a0 : wM D S0 a0) (hK_a0 : sK S0 a0 = 4) (hp : wp_Jx4a65c_grow_d5877 D post rC rS S0 a0) : mR D cy X l yJx4a65c_grow_d5877 wz_Jx4a65c_grow_d5877 (r_Jx4a65c_grow_d5877 rC rS) [.ref a0] S0 (fun r S9 => wX D S0 S9 ∧ post r S9) := by
  intro sz
  refine Met.ofW (cc := cJx4a65c_grow_d5877) (maxL := 1) (ret := (some (.array (.object "java/lang/Object")))) (by decide) rfl ?_
  intro p e s m args below meth c s₁ B hml hv
  obtain ⟨rfl, hsz, hP, hK, hD0, hRO⟩ := hv
  have hts := atoms_spec (ws := wz_Jx4a65c_grow_d5877) B.pre
  have hown : s.vm.findClass RJx4a65c = some m.cls := findClass_of_methodNamed B.named
  subst hsz
  have hD := hD0.self (sz := s.heap.size)
  have F : CallFix p m c cJx4a65c_grow_d5877 1 s _ wz_Jx4a65c_grow_d5877 RJx4a65c := ⟨B.exec, B.bytes, hml, hown, hts⟩
  have hr := B.returns
  have hlocks := B.notSynchronized
  generalize hAe : va_A (wL cy X S0) s.heap.size = A at hD hK ⊢
  have hA : ∀ q, s.heap.size ≤ q → A q := fun q h => by rw [← hAe]; exact Or.inr h
  have hW : wO D cy X A s.heap S0 s.heap [] := ⟨hP, hD, va_S.rf, hA, hRO⟩
  have hl := lv_entry ([.ref a0]) (n := 1) (Nat.le_of_ble_eq_true rfl)
  rw [lg_entry_eq]
  generalize (lg_sl ([.ref a0]) ++ List.replicate (1 - (lg_sl ([.ref a0])).length) Slot.unset).toArray = ls at hl ⊢
  have hl : lv_has ls 1 [(0, .ref a0)] := hl
  unfold wp_Jx4a65c_grow_d5877 at hp
  exact t_Jx4a65c_grow_d5877_0 F hr hlocks hK (Nat.le_of_eq (Nat.zero_add _)) (Nat.le_of_eq (Nat.zero_add _)) hp hW wX.rf (lv_sub hl [0] rfl) hL_a0 hK_a0
def wp_Jx4a65c_add_72be8_11 (D : wD) (post : wS → Prop)  (bc bs : Nat) (S : wS) (a0 : Nat) (g1 : Option Nat) (g2 : Option Nat) (x3 : Int32) : Prop :=
∃ y_1 : Nat, g2 = some y_1 ∧ wM D S y_1 ∧ sK S y_1 = 24 ∧
y_1 ∈ sL S ∧ vp_in x3 (sN S y_1) ∧ wQo S g1 ∧
∀ S_4 : wS, S_4 = uR S y_1 (x3).toNatClampNeg g1 →
∀ S_5 : wS, S_5 = uI S_4 a0 2 (x3 + (1 : Int32)) →
post S_5
def wp_Jx4a65c_add_72be8_0 (D : wD) (post : wS → Prop)  (bc bs : Nat) (S : wS) (a0 : Nat) (g1 : Option Nat) (a2 : Nat) (x3 : Int32) : Prop :=
((¬ x3 = (Int32.ofNat (sN S a2)) → wp_Jx4a65c_add_72be8_11 D post bc bs S a0 g1 (some a2) x3) ∧
 (x3 = (Int32.ofNat (sN S a2)) → ∃ m_4 z_5 : Nat, m_4 ≤ bc ∧ z_5 ≤ bs ∧
wp_Jx4a65c_grow_d5877 D (fun r_2 S_3 => 
wp_Jx4a65c_add_72be8_11 D post (bc - m_4) (bs - z_5) S_3 a0 g1 r_2 x3) m_4 z_5 S a0))
abbrev r_Jx4a65c_add_72be8 (rC rS : Nat) : Room := { frames := 5, cells := rC, slots := rS, locals := 147 }
def wp_Jx4a65c_add_72be8 (D : wD) (post : wS → Prop) (bc bs : Nat) (S : wS) (a0 : Nat) (g1 : Option Nat) (a2 : Nat) (x3 : Int32) : Prop := wp_Jx4a65c_add_72be8_0 D post bc bs S a0 g1 a2 x3
set_option maxHeartbeats 4000000 in
set_option maxRecDepth 100000 in
theorem t_Jx4a65c_add_72be8_11 {p : Program} {l : Launch} {e : Env} {s : State} {m : MethodId} {args : Array Value} {below : List Frame} {meth : Method} {c : Code} {D : wD} {cy : Nat → ClassId} {X : va_W} {A : Nat → Prop} {S0 : wS} {rC rS : Nat} {post : wS → Prop} (F : CallFix p m c cJx4a65c_add_72be8 4 s args wz_Jx4a65c_add_72be8 RJx4a65c) (hr : meth.sig.returnType = none) (hlocks : meth.locks = false) (hK : wK D cy A s) : ∀ {bc bs cells slots : Nat} (hbc : cells + bc ≤ rC) (hbs : slots + bs ≤ rS) {S : wS} {H : Heap} {locs : List Loc} {ls : Array Slot} {a0 : Nat} {g1 : Option Nat} {g2 : Option Nat} {x3 : Int32}, wp_Jx4a65c_add_72be8_11 D post bc bs S a0 g1 g2 x3 → wO D cy X A s.heap S H locs → wX D S0 S → lv_has ls 4 [(0, .ref a0), (1, va_rf g1), (2, va_rf g2), (3, .int x3)] → wM D S a0 → sK S a0 = 4 → W p l e (r_Jx4a65c_add_72be8 rC rS) s m args below meth c H locs cells slots (MQ below (va_Qv (fun S9 => wX D S0 S9 ∧ post S9) (wB D cy X A) A) args s rC rS A) (F0 m 11 ls []) := by
  obtain ⟨hx, hb, hml, hown, hts⟩ := id F
  have hwg : ∀ w ∈ WG, w.before args s = true := fun w h => hts w (List.mem_cons_of_mem _ h)
  have i_4 : ∀ w ∈ u_ws RJx4a65c TJx4a65c 3, w ∈ wz_Jx4a65c_add_72be8 := fun w h => List.mem_cons_of_mem _ (wu_4 w h)
  have k_48 := hwg _ wf_RJx4a65c_48
  intro bc bs cells slots hbc hbs S H locs ls a0 g1 g2 x3 hp hW hE hl hL_a0 hK_a0
  unfold wp_Jx4a65c_add_72be8_11 at hp
  refine w_aload_n hx hb dJx4a65c_add_72be8_11 rfl (lv_at hl 2 rfl) ?_
  refine lv_iload_n hx hb dJx4a65c_add_72be8_12 rfl (lv_at hl 3 rfl) ?_
  refine w_aload_n hx hb dJx4a65c_add_72be8_13 rfl (lv_at hl 1 rfl) ?_
  obtain ⟨y_1, h_2, hL_y_1, hK_y_1, hp⟩ := hp
  revert hp; revert hl; revert hW; revert hE; subst h_2; intro hE hW hl hp
  obtain ⟨h_3m, h_3, h_3q, hp⟩ := hp
  refine w_ast (g := g1) F hK hW h_3m hK_y_1 h_3 h_3q dJx4a65c_add_72be8_14 (fun H locs hW => ?_)
  obtain ⟨S_4, eS_4⟩ : ∃ z : wS, z = uR S y_1 (x3).toNatClampNeg g1 := ⟨_, rfl⟩
  rw [← eS_4] at hW
  replace hp := hp S_4 eS_4
  have hX_S_4 : wX D S S_4 := by rw [eS_4]; exact wX_uR
  have hE := hE.trans hX_S_4
  have hK_a0 : sK S_4 a0 = 4 := (hX_S_4.2 a0 hL_a0).1.trans hK_a0
  have hL_a0 : wM D S_4 a0 := hX_S_4.M hL_a0
  have hK_y_1 : sK S_4 y_1 = 24 := (hX_S_4.2 y_1 hL_y_1).1.trans hK_y_1
  have hL_y_1 : wM D S_4 y_1 := hX_S_4.M hL_y_1
  refine lv_aload_n hx hb dJx4a65c_add_72be8_15 rfl (lv_at hl 0 rfl) ?_
  refine lv_iload_n hx hb dJx4a65c_add_72be8_16 rfl (lv_at hl 3 rfl) ?_
  refine lv_iconst (v := 1) hx hb dJx4a65c_add_72be8_17 (by decide) ?_
  refine lv_iadd hx hb dJx4a65c_add_72be8_18 ?_
  refine w_putI (k := 4) (f := 2) (T := TJx4a65c) F hK hW hL_a0 hK_a0 (by decide) (by decide) rfl rfl (by decide) i_4 tyJx4a65c tyJx4a65c_ok nmJx4a65c k_48 rfl rfl (ty := .int) rfl rfl rfl dJx4a65c_add_72be8_19 (fun H locs hW => ?_)
  obtain ⟨S_5, eS_5⟩ : ∃ z : wS, z = uI S_4 a0 2 (x3 + (1 : Int32)) := ⟨_, rfl⟩
  rw [← eS_5] at hW
  replace hp := hp S_5 eS_5
  have hX_S_5 : wX D S_4 S_5 := by rw [eS_5]; exact wX_uI
  have hE := hE.trans hX_S_5
  have hK_a0 : sK S_5 a0 = 4 := (hX_S_5.2 a0 hL_a0).1.trans hK_a0
  have hL_a0 : wM D S_5 a0 := hX_S_5.M hL_a0
  have hK_y_1 : sK S_5 y_1 = 24 := (hX_S_5.2 y_1 hL_y_1).1.trans hK_y_1
  have hL_y_1 : wM D S_5 y_1 := hX_S_5.M hL_y_1
  refine W.widen (k := rC) (n := rS) (Nat.le_trans (Nat.le_add_right _ _) hbc) (Nat.le_trans (Nat.le_add_right _ _) hbs) ?_
  exact w_vret hx hb hr hlocks hW ⟨hE, hp⟩ dJx4a65c_add_72be8_22
set_option maxHeartbeats 4000000 in
set_option maxRecDepth 100000 in
theorem t_Jx4a65c_add_72be8_0 {p : Program} {l : Launch} {e : Env} {s : State} {m : MethodId} {args : Array Value} {below : List Frame} {meth : Method} {c : Code} {D : wD} {cy : Nat → ClassId} {X : va_W} {A : Nat → Prop} {S0 : wS} {rC rS : Nat} {post : wS → Prop} (F : CallFix p m c cJx4a65c_add_72be8 4 s args wz_Jx4a65c_add_72be8 RJx4a65c) (hr : meth.sig.returnType = none) (hlocks : meth.locks = false) (hK : wK D cy A s) : ∀ {bc bs cells slots : Nat} (hbc : cells + bc ≤ rC) (hbs : slots + bs ≤ rS) {S : wS} {H : Heap} {locs : List Loc} {ls : Array Slot} {a0 : Nat} {g1 : Option Nat} {a2 : Nat} {x3 : Int32}, wp_Jx4a65c_add_72be8_0 D post bc bs S a0 g1 a2 x3 → wO D cy X A s.heap S H locs → wX D S0 S → lv_has ls 4 [(0, .ref a0), (1, va_rf g1), (2, .ref a2), (3, .int x3)] → wM D S a0 → sK S a0 = 4 → wM D S a2 → sK S a2 = 24 → W p l e (r_Jx4a65c_add_72be8 rC rS) s m args below meth c H locs cells slots (MQ below (va_Qv (fun S9 => wX D S0 S9 ∧ post S9) (wB D cy X A) A) args s rC rS A) (F0 m 0 ls []) := by
  obtain ⟨hx, hb, hml, hown, hts⟩ := id F
  have hwg : ∀ w ∈ WG, w.before args s = true := fun w h => hts w (List.mem_cons_of_mem _ h)
  intro bc bs cells slots hbc hbs S H locs ls a0 g1 a2 x3 hp hW hE hl hL_a0 hK_a0 hL_a2 hK_a2
  unfold wp_Jx4a65c_add_72be8_0 at hp
  refine lv_iload_n hx hb dJx4a65c_add_72be8_0 rfl (lv_at hl 3 rfl) ?_
  refine lv_aload_n hx hb dJx4a65c_add_72be8_1 rfl (lv_at hl 2 rfl) ?_
  refine w_len F hK hW hL_a2 hK_a2 (by decide) dJx4a65c_add_72be8_2 ?_
  refine lv_icmp_ne (tgt := 11) hx hb dJx4a65c_add_72be8_3 (by decide) (fun c_1 => ?_) (fun c_1 => ?_)
  · replace hp := hp.1 c_1
    exact t_Jx4a65c_add_72be8_11 F hr hlocks hK hbc hbs hp hW hE (lv_sub hl [0, 1, 2, 3] rfl) hL_a0 hK_a0
  · replace hp := hp.2 c_1
    refine lv_aload_n hx hb dJx4a65c_add_72be8_6 rfl (lv_at hl 0 rfl) ?_
    obtain ⟨m_4, z_5, hm_4, hz_5, hp⟩ := hp
    refine w_callR (va_runV (As := []) (rest := []) F (c_Jx4a65c_grow_d5877 l hL_a0 hK_a0 hp H.size) (cwV (C := RJx4a65c) 0 hts (wg_V wm_RJx4a65c_129 wy_Jx4a65c_grow_d5877) rfl rfl rfl (by decide +kernel) ⟨Nat.le_of_ble_eq_true rfl, Nat.le_of_ble_eq_true rfl⟩) (w_preV hK hW hL_a0 hK_a0 (by decide) rfl) rfl rfl hl.1 rfl (lv_room (Nat.le_of_ble_eq_true rfl)) dJx4a65c_add_72be8_7 ⟨by show _ + m_4 ≤ rC; omega, by show _ + z_5 ≤ rS; omega⟩) hW (fun r_2 S_3 H locs hp hW => ?_)
    obtain ⟨hX_S_3, hp⟩ := hp
    refine W.widen (k := _ + m_4) (n := _ + z_5) (Nat.le_refl _) (Nat.le_refl _) ?_
    replace hbc := w_spend hbc (show m_4 ≤ bc by omega)
    replace hbs := w_spend hbs (show z_5 ≤ bs by omega)
    have hE := hE.trans hX_S_3
    have hK_a0 : sK S_3 a0 = 4 := (hX_S_3.2 a0 hL_a0).1.trans hK_a0
    have hL_a0 : wM D S_3 a0 := hX_S_3.M hL_a0
    have hK_a2 : sK S_3 a2 = 24 := (hX_S_3.2 a2 hL_a2).1.trans hK_a2
    have hL_a2 : wM D S_3 a2 := hX_S_3.M hL_a2
    refine w_astore_n (lv' := [(2, va_rf r_2), (0, .ref a0), (1, va_rf g1), (3, .int x3)]) hx hb dJx4a65c_add_72be8_10 rfl hl (by decide) (by cases g1 <;> rfl) (fun ls hl => ?_)
    exact t_Jx4a65c_add_72be8_11 F hr hlocks hK hbc hbs hp hW hE (lv_sub hl [1, 2, 0, 3] rfl) hL_a0 hK_a0
set_option maxHeartbeats 4000000 in
set_option maxRecDepth 100000 in
theorem c_Jx4a65c_add_72be8 (l : Launch) {rC rS : Nat} {D : wD} {cy : Nat → ClassId} {X : va_W} {S0 : wS} {post : wS → Prop} {a0 : Nat} {g1 : Option Nat} {a2 : Nat} {x3 : Int32} (hL_a0 : wM D S0 a0) (hK_a0 : sK S0 a0 = 4) (hL_a2 : wM D S0 a2) (hK_a2 : sK S0 a2 = 24) (hp : wp_Jx4a65c_add_72be8 D post rC rS S0 a0 g1 a2 x3) : mV D cy X l yJx4a65c_add_72be8 wz_Jx4a65c_add_72be8 (r_Jx4a65c_add_72be8 rC rS) [.ref a0, va_rf g1, .ref a2, .int x3] S0 (fun S9 => wX D S0 S9 ∧ post S9) := by
  intro sz
  refine Met.ofW (cc := cJx4a65c_add_72be8) (maxL := 4) (ret := none) (by decide) rfl ?_
  intro p e s m args below meth c s₁ B hml hv
  obtain ⟨rfl, hsz, hP, hK, hD0, hRO⟩ := hv
  have hts := atoms_spec (ws := wz_Jx4a65c_add_72be8) B.pre
  have hown : s.vm.findClass RJx4a65c = some m.cls := findClass_of_methodNamed B.named
  subst hsz
  have hD := hD0.self (sz := s.heap.size)
  have F : CallFix p m c cJx4a65c_add_72be8 4 s _ wz_Jx4a65c_add_72be8 RJx4a65c := ⟨B.exec, B.bytes, hml, hown, hts⟩
  have hr := B.returns
  have hlocks := B.notSynchronized
  generalize hAe : va_A (wL cy X S0) s.heap.size = A at hD hK ⊢
  have hA : ∀ q, s.heap.size ≤ q → A q := fun q h => by rw [← hAe]; exact Or.inr h
  have hW : wO D cy X A s.heap S0 s.heap [] := ⟨hP, hD, va_S.rf, hA, hRO⟩
  have hl : lv_has ((lg_sl ([.ref a0, va_rf g1, .ref a2, .int x3]) ++ List.replicate (4 - (lg_sl ([.ref a0, va_rf g1, .ref a2, .int x3])).length) Slot.unset).toArray) 4 [(0, .ref a0), (1, va_rf g1), (2, .ref a2), (3, .int x3)] := by
    cases g1 <;> exact lv_entry _ (n := 4) (Nat.le_of_ble_eq_true rfl)
  rw [lg_entry_eq]
  generalize (lg_sl ([.ref a0, va_rf g1, .ref a2, .int x3]) ++ List.replicate (4 - (lg_sl ([.ref a0, va_rf g1, .ref a2, .int x3])).length) Slot.unset).toArray = ls at hl ⊢
  have hl : lv_has ls 4 [(0, .ref a0), (1, va_rf g1), (2, .ref a2), (3, .int x3)] := hl
  unfold wp_Jx4a65c_add_72be8 at hp
  exact t_Jx4a65c_add_72be8_0 F hr hlocks hK (Nat.le_of_eq (Nat.zero_add _)) (Nat.le_of_eq (Nat.zero_add _)) hp hW wX.rf (lv_sub hl [0, 1, 2, 3] rfl) hL_a0 hK_a0 hL_a2 hK_a2
def wp_Jx4a65c_add_9ea2d_0 (D : wD) (post : Int32 → wS → Prop)  (bc bs : Nat) (S : wS) (a0 : Nat) (g1 : Option Nat) : Prop :=
∀ S_1 : wS, S_1 = uI S a0 0 ((sI S a0 0) + (1 : Int32)) →
∃ y_2 : Nat, sR S_1 a0 1 = some y_2 ∧ wM D S_1 y_2 ∧ sK S_1 y_2 = 24 ∧
∃ m_5 z_6 : Nat, m_5 ≤ bc ∧ z_6 ≤ bs ∧
wp_Jx4a65c_add_72be8 D (fun S_4 => 
narrow .boolean (.int (1 : Int32)) = .int (1 : Int32) ∧ post (1 : Int32) S_4) m_5 z_6 S_1 a0 g1 y_2 (sI S_1 a0 2)
abbrev r_Jx4a65c_add_9ea2d (rC rS : Nat) : Room := { frames := 6, cells := rC, slots := rS, locals := 170 }
def wp_Jx4a65c_add_9ea2d (D : wD) (post : Int32 → wS → Prop) (bc bs : Nat) (S : wS) (a0 : Nat) (g1 : Option Nat) : Prop := wp_Jx4a65c_add_9ea2d_0 D post bc bs S a0 g1
set_option maxHeartbeats 4000000 in
set_option maxRecDepth 100000 in
theorem t_Jx4a65c_add_9ea2d_0 {p : Program} {l : Launch} {e : Env} {s : State} {m : MethodId} {args : Array Value} {below : List Frame} {meth : Method} {c : Code} {D : wD} {cy : Nat → ClassId} {X : va_W} {A : Nat → Prop} {S0 : wS} {rC rS : Nat} {post : Int32 → wS → Prop} (F : CallFix p m c cJx4a65c_add_9ea2d 2 s args wz_Jx4a65c_add_9ea2d RJx4a65c) (hr : meth.sig.returnType = (some .boolean)) (hlocks : meth.locks = false) (hK : wK D cy A s) : ∀ {bc bs cells slots : Nat} (hbc : cells + bc ≤ rC) (hbs : slots + bs ≤ rS) {S : wS} {H : Heap} {locs : List Loc} {ls : Array Slot} {a0 : Nat} {g1 : Option Nat}, wp_Jx4a65c_add_9ea2d_0 D post bc bs S a0 g1 → wO D cy X A s.heap S H locs → wX D S0 S → lv_has ls 2 [(0, .ref a0), (1, va_rf g1)] → wM D S a0 → sK S a0 = 4 → W p l e (r_Jx4a65c_add_9ea2d rC rS) s m args below meth c H locs cells slots (MQ below (va_Qi (fun r S9 => wX D S0 S9 ∧ post r S9) (wB D cy X A) A) args s rC rS A) (F0 m 0 ls []) := by
  obtain ⟨hx, hb, hml, hown, hts⟩ := id F
  have hwg : ∀ w ∈ WG, w.before args s = true := fun w h => hts w (List.mem_cons_of_mem _ h)
  have i_4 : ∀ w ∈ u_ws RJx4a65c TJx4a65c 3, w ∈ wz_Jx4a65c_add_9ea2d := fun w h => List.mem_cons_of_mem _ (wu_4 w h)
  have k_48 := hwg _ wf_RJx4a65c_48
  have k_63 := hwg _ wf_RJx4a65c_63
  have k_9 := hwg _ wf_RJx4a65c_9
  intro bc bs cells slots hbc hbs S H locs ls a0 g1 hp hW hE hl hL_a0 hK_a0
  unfold wp_Jx4a65c_add_9ea2d_0 at hp
  refine lv_aload_n hx hb dJx4a65c_add_9ea2d_0 rfl (lv_at hl 0 rfl) ?_
  refine lv_dup hx hb dJx4a65c_add_9ea2d_1 rfl ?_
  refine w_getS (k := 4) (f := 0) (T := TJx4a65c) (v := .int (sI S a0 0)) F hK hW hL_a0 hK_a0 (by decide) rfl rfl (by decide) i_4 k_63 (hwg _ wsf_mod) rfl dJx4a65c_add_9ea2d_2 ?_
  refine lv_iconst (v := 1) hx hb dJx4a65c_add_9ea2d_5 (by decide) ?_
  refine lv_iadd hx hb dJx4a65c_add_9ea2d_6 ?_
  refine w_putIS (k := 4) (f := 0) (T := TJx4a65c) F hK hW hL_a0 hK_a0 (by decide) (by decide) rfl rfl (by decide) i_4 tyJx4a65c tyJx4a65c_ok nmJx4a65c k_63 (hwg _ wsf_mod) rfl rfl (ty := .int) rfl rfl rfl dJx4a65c_add_9ea2d_7 (fun H locs hW => ?_)
  obtain ⟨S_1, eS_1⟩ : ∃ z : wS, z = uI S a0 0 ((sI S a0 0) + (1 : Int32)) := ⟨_, rfl⟩
  rw [← eS_1] at hW
  replace hp := hp S_1 eS_1
  have hX_S_1 : wX D S S_1 := by rw [eS_1]; exact wX_uI
  have hE := hE.trans hX_S_1
  have hK_a0 : sK S_1 a0 = 4 := (hX_S_1.2 a0 hL_a0).1.trans hK_a0
  have hL_a0 : wM D S_1 a0 := hX_S_1.M hL_a0
  refine lv_aload_n hx hb dJx4a65c_add_9ea2d_10 rfl (lv_at hl 0 rfl) ?_
  refine w_aload_n hx hb dJx4a65c_add_9ea2d_11 rfl (lv_at hl 1 rfl) ?_
  refine lv_aload_n hx hb dJx4a65c_add_9ea2d_12 rfl (lv_at hl 0 rfl) ?_
  obtain ⟨y_2, ey_2, hL_y_2, hK_y_2, hp⟩ := hp
  refine w_get (k := 4) (f := 1) (T := TJx4a65c) (v := .ref y_2) F hK hW hL_a0 hK_a0 (by decide) rfl rfl (by decide) i_4 k_9 (by rw [show wv 4 1 S_1 a0 = va_rf (sR S_1 a0 1) from rfl, ey_2]; rfl) dJx4a65c_add_9ea2d_13 ?_
  refine lv_aload_n hx hb dJx4a65c_add_9ea2d_16 rfl (lv_at hl 0 rfl) ?_
  refine w_get (k := 4) (f := 2) (T := TJx4a65c) (v := .int (sI S_1 a0 2)) F hK hW hL_a0 hK_a0 (by decide) rfl rfl (by decide) i_4 k_48 rfl dJx4a65c_add_9ea2d_17 ?_
  obtain ⟨m_5, z_6, hm_5, hz_6, hp⟩ := hp
  refine w_callV (va_runV (As := [va_rf g1, .ref y_2, .int (sI S_1 a0 2)]) (rest := []) F (c_Jx4a65c_add_72be8 l hL_a0 hK_a0 hL_y_2 hK_y_2 hp H.size) (cwV (C := RJx4a65c) 3 hts (wg_V wm_RJx4a65c_131 wy_Jx4a65c_add_72be8) rfl rfl rfl (by decide +kernel) ⟨Nat.le_of_ble_eq_true rfl, Nat.le_of_ble_eq_true rfl⟩) (w_preV hK hW hL_a0 hK_a0 (by decide) rfl) rfl rfl hl.1 rfl (lv_room (Nat.le_of_ble_eq_true rfl)) dJx4a65c_add_9ea2d_20 ⟨by show _ + m_5 ≤ rC; omega, by show _ + z_6 ≤ rS; omega⟩) hW (fun S_4 H locs hp hW => ?_)
  obtain ⟨hX_S_4, hp⟩ := hp
  refine W.widen (k := _ + m_5) (n := _ + z_6) (Nat.le_refl _) (Nat.le_refl _) ?_
  replace hbc := w_spend hbc (show m_5 ≤ bc by omega)
  replace hbs := w_spend hbs (show z_6 ≤ bs by omega)
  have hE := hE.trans hX_S_4
  have hK_a0 : sK S_4 a0 = 4 := (hX_S_4.2 a0 hL_a0).1.trans hK_a0
  have hL_a0 : wM D S_4 a0 := hX_S_4.M hL_a0
  refine lv_iconst (v := 1) hx hb dJx4a65c_add_9ea2d_23 (by decide) ?_
  refine W.widen (k := rC) (n := rS) (Nat.le_trans (Nat.le_add_right _ _) hbc) (Nat.le_trans (Nat.le_add_right _ _) hbs) ?_
  exact w_zret hx hb hr hlocks hW hp.1 ⟨hE, hp.2⟩ dJx4a65c_add_9ea2d_24
set_option maxHeartbeats 4000000 in
set_option maxRecDepth 100000 in
theorem c_Jx4a65c_add_9ea2d (l : Launch) {rC rS : Nat} {D : wD} {cy : Nat → ClassId} {X : va_W} {S0 : wS} {post : Int32 → wS → Prop} {a0 : Nat} {g1 : Option Nat} (hL_a0 : wM D S0 a0) (hK_a0 : sK S0 a0 = 4) (hp : wp_Jx4a65c_add_9ea2d D post rC rS S0 a0 g1) : mI D cy X l yJx4a65c_add_9ea2d wz_Jx4a65c_add_9ea2d (r_Jx4a65c_add_9ea2d rC rS) [.ref a0, va_rf g1] S0 (fun r S9 => wX D S0 S9 ∧ post r S9) := by
  intro sz
  refine Met.ofW (cc := cJx4a65c_add_9ea2d) (maxL := 2) (ret := (some .boolean)) (by decide) rfl ?_
  intro p e s m args below meth c s₁ B hml hv
  obtain ⟨rfl, hsz, hP, hK, hD0, hRO⟩ := hv
  have hts := atoms_spec (ws := wz_Jx4a65c_add_9ea2d) B.pre
  have hown : s.vm.findClass RJx4a65c = some m.cls := findClass_of_methodNamed B.named
  subst hsz
  have hD := hD0.self (sz := s.heap.size)
  have F : CallFix p m c cJx4a65c_add_9ea2d 2 s _ wz_Jx4a65c_add_9ea2d RJx4a65c := ⟨B.exec, B.bytes, hml, hown, hts⟩
  have hr := B.returns
  have hlocks := B.notSynchronized
  generalize hAe : va_A (wL cy X S0) s.heap.size = A at hD hK ⊢
  have hA : ∀ q, s.heap.size ≤ q → A q := fun q h => by rw [← hAe]; exact Or.inr h
  have hW : wO D cy X A s.heap S0 s.heap [] := ⟨hP, hD, va_S.rf, hA, hRO⟩
  have hl : lv_has ((lg_sl ([.ref a0, va_rf g1]) ++ List.replicate (2 - (lg_sl ([.ref a0, va_rf g1])).length) Slot.unset).toArray) 2 [(0, .ref a0), (1, va_rf g1)] := by
    cases g1 <;> exact lv_entry _ (n := 2) (Nat.le_of_ble_eq_true rfl)
  rw [lg_entry_eq]
  generalize (lg_sl ([.ref a0, va_rf g1]) ++ List.replicate (2 - (lg_sl ([.ref a0, va_rf g1])).length) Slot.unset).toArray = ls at hl ⊢
  have hl : lv_has ls 2 [(0, .ref a0), (1, va_rf g1)] := hl
  unfold wp_Jx4a65c_add_9ea2d at hp
  exact t_Jx4a65c_add_9ea2d_0 F hr hlocks hK (Nat.le_of_eq (Nat.zero_add _)) (Nat.le_of_eq (Nat.zero_add _)) hp hW wX.rf (lv_sub hl [0, 1] rfl) hL_a0 hK_a0
def wp_Jx4a65c_clear_da8c8_27 (D : wD) (post : wS → Prop)  : Nat → wS → Nat → Int32 → Int32 → Prop
  | 0, _, _, _, _ => False
  | n + 1, S, a1, x2, x3 =>
    ((x2 ≤ x3 → post S) ∧
     (¬ x2 ≤ x3 → a1 ∈ sL S ∧ vp_in x3 (sN S a1) ∧ wQo S none ∧
    ∀ S_3 : wS, S_3 = uR S a1 (x3).toNatClampNeg none →
    ∀ x_4 : Int32, x_4 = x3 + 1 →
    wp_Jx4a65c_clear_da8c8_27 D post n S_3 a1 x2 x_4))
def wp_Jx4a65c_clear_da8c8_0 (D : wD) (post : wS → Prop)  (S : wS) (a0 : Nat) : Prop :=
∀ S_1 : wS, S_1 = uI S a0 0 ((sI S a0 0) + (1 : Int32)) →
∃ y_2 : Nat, sR S_1 a0 1 = some y_2 ∧ wM D S_1 y_2 ∧ sK S_1 y_2 = 24 ∧
∀ x_3 : Int32, x_3 = (sI S_1 a0 2) →
∀ S_4 : wS, S_4 = uI S_1 a0 2 (0 : Int32) →
∃ n_5 : Nat, wp_Jx4a65c_clear_da8c8_27 D post n_5 S_4 y_2 x_3 (0 : Int32)
abbrev r_Jx4a65c_clear_da8c8 : Room := { frames := 0, cells := 0, slots := 0, locals := 0 }
def wp_Jx4a65c_clear_da8c8 (D : wD) (post : wS → Prop) (S : wS) (a0 : Nat) : Prop := wp_Jx4a65c_clear_da8c8_0 D post S a0
set_option maxHeartbeats 4000000 in
set_option maxRecDepth 100000 in
theorem t_Jx4a65c_clear_da8c8_27 {p : Program} {l : Launch} {e : Env} {s : State} {m : MethodId} {args : Array Value} {below : List Frame} {meth : Method} {c : Code} {D : wD} {cy : Nat → ClassId} {X : va_W} {A : Nat → Prop} {S0 : wS} {post : wS → Prop} (F : CallFix p m c cJx4a65c_clear_da8c8 4 s args wz_Jx4a65c_clear_da8c8 RJx4a65c) (hr : meth.sig.returnType = none) (hlocks : meth.locks = false) (hK : wK D cy A s) : ∀ (n : Nat) {S : wS} {H : Heap} {locs : List Loc} {ls : Array Slot} {a1 : Nat} {x2 : Int32} {x3 : Int32}, wp_Jx4a65c_clear_da8c8_27 D post n S a1 x2 x3 → wO D cy X A s.heap S H locs → wX D S0 S → lv_has ls 4 [(1, .ref a1), (2, .int x2), (3, .int x3)] → wM D S a1 → sK S a1 = 24 → W p l e r_Jx4a65c_clear_da8c8 s m args below meth c H locs 0 0 (MQ below (va_Qv (fun S9 => wX D S0 S9 ∧ post S9) (wB D cy X A) A) args s 0 0 A) (F0 m 27 ls []) := by
  obtain ⟨hx, hb, hml, hown, hts⟩ := id F
  have hwg : ∀ w ∈ WG, w.before args s = true := fun w h => hts w (List.mem_cons_of_mem _ h)
  intro n
  induction n with
  | zero =>
    intro S H locs ls a1 x2 x3 hp
    exact hp.elim
  | succ n ih =>
    intro S H locs ls a1 x2 x3 hp hW hE hl hL_a1 hK_a1
    unfold wp_Jx4a65c_clear_da8c8_27 at hp
    refine lv_iload_n hx hb dJx4a65c_clear_da8c8_27 rfl (lv_at hl 2 rfl) ?_
    refine lv_iload_n hx hb dJx4a65c_clear_da8c8_28 rfl (lv_at hl 1 rfl) ?_
    refine lv_icmp_ge (tgt := 42) hx hb dJx4a65c_clear_da8c8_29 (by decide) (fun c_1 => ?_) (fun c_1 => ?_)
    · replace hp := hp.1 c_1
      exact w_vret hx hb hr hlocks hW ⟨hE, hp⟩ dJx4a65c_clear_da8c8_42
    · replace hp := hp.2 c_1
      refine lv_aload_n hx hb dJx4a65c_clear_da8c8_32 rfl (lv_at hl 0 rfl) ?_
      refine lv_iload_n hx hb dJx4a65c_clear_da8c8_33 rfl (lv_at hl 2 rfl) ?_
      refine lv_null hx hb dJx4a65c_clear_da8c8_34 ?_
      obtain ⟨h_2m, h_2, h_2q, hp⟩ := hp
      refine w_ast (g := none) F hK hW h_2m hK_a1 h_2 h_2q dJx4a65c_clear_da8c8_35 (fun H locs hW => ?_)
      obtain ⟨S_3, eS_3⟩ : ∃ z : wS, z = uR S a1 (x3).toNatClampNeg none := ⟨_, rfl⟩
      rw [← eS_3] at hW
      replace hp := hp S_3 eS_3
      have hX_S_3 : wX D S S_3 := by rw [eS_3]; exact wX_uR
      have hE := hE.trans hX_S_3
      have hK_a1 : sK S_3 a1 = 24 := (hX_S_3.2 a1 hL_a1).1.trans hK_a1
      have hL_a1 : wM D S_3 a1 := hX_S_3.M hL_a1
      obtain ⟨x_4, ex_4⟩ : ∃ z : Int32, z = x3 + 1 := ⟨_, rfl⟩
      replace hp := hp x_4 ex_4
      refine lv_iinc (v := x_4) (lv' := [(3, .int x_4), (1, .ref a1), (2, .int x2)]) hx hb dJx4a65c_clear_da8c8_36 hl (k := 2) rfl (by rw [ex_4]; rfl) (by decide) rfl (fun ls hl => ?_)
      refine lv_goto (tgt := 27) hx hb dJx4a65c_clear_da8c8_39 (by decide) ?_
      exact ih hp hW hE (lv_sub hl [1, 2, 0] rfl) hL_a1 hK_a1
set_option maxHeartbeats 4000000 in
set_option maxRecDepth 100000 in
theorem t_Jx4a65c_clear_da8c8_0 {p : Program} {l : Launch} {e : Env} {s : State} {m : MethodId} {args : Array Value} {below : List Frame} {meth : Method} {c : Code} {D : wD} {cy : Nat → ClassId} {X : va_W} {A : Nat → Prop} {S0 : wS} {post : wS → Prop} (F : CallFix p m c cJx4a65c_clear_da8c8 4 s args wz_Jx4a65c_clear_da8c8 RJx4a65c) (hr : meth.sig.returnType = none) (hlocks : meth.locks = false) (hK : wK D cy A s) : ∀ {S : wS} {H : Heap} {locs : List Loc} {ls : Array Slot} {a0 : Nat}, wp_Jx4a65c_clear_da8c8_0 D post S a0 → wO D cy X A s.heap S H locs → wX D S0 S → lv_has ls 4 [(0, .ref a0)] → wM D S a0 → sK S a0 = 4 → W p l e r_Jx4a65c_clear_da8c8 s m args below meth c H locs 0 0 (MQ below (va_Qv (fun S9 => wX D S0 S9 ∧ post S9) (wB D cy X A) A) args s 0 0 A) (F0 m 0 ls []) := by
  obtain ⟨hx, hb, hml, hown, hts⟩ := id F
  have hwg : ∀ w ∈ WG, w.before args s = true := fun w h => hts w (List.mem_cons_of_mem _ h)
  have i_4 : ∀ w ∈ u_ws RJx4a65c TJx4a65c 3, w ∈ wz_Jx4a65c_clear_da8c8 := fun w h => List.mem_cons_of_mem _ (wu_4 w h)
  have k_48 := hwg _ wf_RJx4a65c_48
  have k_63 := hwg _ wf_RJx4a65c_63
  have k_9 := hwg _ wf_RJx4a65c_9
  intro S H locs ls a0 hp hW hE hl hL_a0 hK_a0
  unfold wp_Jx4a65c_clear_da8c8_0 at hp
  refine lv_aload_n hx hb dJx4a65c_clear_da8c8_0 rfl (lv_at hl 0 rfl) ?_
  refine lv_dup hx hb dJx4a65c_clear_da8c8_1 rfl ?_
  refine w_getS (k := 4) (f := 0) (T := TJx4a65c) (v := .int (sI S a0 0)) F hK hW hL_a0 hK_a0 (by decide) rfl rfl (by decide) i_4 k_63 (hwg _ wsf_mod) rfl dJx4a65c_clear_da8c8_2 ?_
  refine lv_iconst (v := 1) hx hb dJx4a65c_clear_da8c8_5 (by decide) ?_
  refine lv_iadd hx hb dJx4a65c_clear_da8c8_6 ?_
  refine w_putIS (k := 4) (f := 0) (T := TJx4a65c) F hK hW hL_a0 hK_a0 (by decide) (by decide) rfl rfl (by decide) i_4 tyJx4a65c tyJx4a65c_ok nmJx4a65c k_63 (hwg _ wsf_mod) rfl rfl (ty := .int) rfl rfl rfl dJx4a65c_clear_da8c8_7 (fun H locs hW => ?_)
  obtain ⟨S_1, eS_1⟩ : ∃ z : wS, z = uI S a0 0 ((sI S a0 0) + (1 : Int32)) := ⟨_, rfl⟩
  rw [← eS_1] at hW
  replace hp := hp S_1 eS_1
  have hX_S_1 : wX D S S_1 := by rw [eS_1]; exact wX_uI
  have hE := hE.trans hX_S_1
  have hK_a0 : sK S_1 a0 = 4 := (hX_S_1.2 a0 hL_a0).1.trans hK_a0
  have hL_a0 : wM D S_1 a0 := hX_S_1.M hL_a0
  refine lv_aload_n hx hb dJx4a65c_clear_da8c8_10 rfl (lv_at hl 0 rfl) ?_
  obtain ⟨y_2, ey_2, hL_y_2, hK_y_2, hp⟩ := hp
  refine w_get (k := 4) (f := 1) (T := TJx4a65c) (v := .ref y_2) F hK hW hL_a0 hK_a0 (by decide) rfl rfl (by decide) i_4 k_9 (by rw [show wv 4 1 S_1 a0 = va_rf (sR S_1 a0 1) from rfl, ey_2]; rfl) dJx4a65c_clear_da8c8_11 ?_
  refine lv_astore_n (lv' := [(1, .ref y_2), (0, .ref a0)]) hx hb dJx4a65c_clear_da8c8_14 rfl hl (by decide) rfl (fun ls hl => ?_)
  refine lv_aload_n hx hb dJx4a65c_clear_da8c8_15 rfl (lv_at hl 1 rfl) ?_
  refine w_get (k := 4) (f := 2) (T := TJx4a65c) (v := .int (sI S_1 a0 2)) F hK hW hL_a0 hK_a0 (by decide) rfl rfl (by decide) i_4 k_48 rfl dJx4a65c_clear_da8c8_16 ?_
  refine lv_topi (fun x_3 ex_3 => ?_)
  replace hp := hp x_3 ex_3
  refine lv_istore_n (lv' := [(2, .int x_3), (1, .ref y_2), (0, .ref a0)]) hx hb dJx4a65c_clear_da8c8_19 rfl hl (by decide) rfl (fun ls hl => ?_)
  refine lv_aload_n hx hb dJx4a65c_clear_da8c8_20 rfl (lv_at hl 2 rfl) ?_
  refine lv_iconst (v := 0) hx hb dJx4a65c_clear_da8c8_21 (by decide) ?_
  refine lv_dup_x1 hx hb dJx4a65c_clear_da8c8_22 rfl rfl ?_
  refine w_putI (k := 4) (f := 2) (T := TJx4a65c) F hK hW hL_a0 hK_a0 (by decide) (by decide) rfl rfl (by decide) i_4 tyJx4a65c tyJx4a65c_ok nmJx4a65c k_48 rfl rfl (ty := .int) rfl rfl rfl dJx4a65c_clear_da8c8_23 (fun H locs hW => ?_)
  obtain ⟨S_4, eS_4⟩ : ∃ z : wS, z = uI S_1 a0 2 (0 : Int32) := ⟨_, rfl⟩
  rw [← eS_4] at hW
  replace hp := hp S_4 eS_4
  have hX_S_4 : wX D S_1 S_4 := by rw [eS_4]; exact wX_uI
  have hE := hE.trans hX_S_4
  have hK_a0 : sK S_4 a0 = 4 := (hX_S_4.2 a0 hL_a0).1.trans hK_a0
  have hL_a0 : wM D S_4 a0 := hX_S_4.M hL_a0
  have hK_y_2 : sK S_4 y_2 = 24 := (hX_S_4.2 y_2 hL_y_2).1.trans hK_y_2
  have hL_y_2 : wM D S_4 y_2 := hX_S_4.M hL_y_2
  refine lv_istore_n (lv' := [(3, .int (0 : Int32)), (2, .int x_3), (1, .ref y_2), (0, .ref a0)]) hx hb dJx4a65c_clear_da8c8_26 rfl hl (by decide) rfl (fun ls hl => ?_)
  obtain ⟨n_5, hp⟩ := hp
  exact t_Jx4a65c_clear_da8c8_27 F hr hlocks hK n_5 hp hW hE (lv_sub hl [2, 1, 0] rfl) hL_y_2 hK_y_2
set_option maxHeartbeats 4000000 in
set_option maxRecDepth 100000 in
theorem c_Jx4a65c_clear_da8c8 (l : Launch) {D : wD} {cy : Nat → ClassId} {X : va_W} {S0 : wS} {post : wS → Prop} {a0 : Nat} (hL_a0 : wM D S0 a0) (hK_a0 : sK S0 a0 = 4) (hp : wp_Jx4a65c_clear_da8c8 D post S0 a0) : mV D cy X l yJx4a65c_clear_da8c8 wz_Jx4a65c_clear_da8c8 r_Jx4a65c_clear_da8c8 [.ref a0] S0 (fun S9 => wX D S0 S9 ∧ post S9) := by
  intro sz
  refine Met.ofW (cc := cJx4a65c_clear_da8c8) (maxL := 4) (ret := none) (by decide) rfl ?_
  intro p e s m args below meth c s₁ B hml hv
  obtain ⟨rfl, hsz, hP, hK, hD0, hRO⟩ := hv
  have hts := atoms_spec (ws := wz_Jx4a65c_clear_da8c8) B.pre
  have hown : s.vm.findClass RJx4a65c = some m.cls := findClass_of_methodNamed B.named
  subst hsz
  have hD := hD0.self (sz := s.heap.size)
  have F : CallFix p m c cJx4a65c_clear_da8c8 4 s _ wz_Jx4a65c_clear_da8c8 RJx4a65c := ⟨B.exec, B.bytes, hml, hown, hts⟩
  have hr := B.returns
  have hlocks := B.notSynchronized
  generalize hAe : va_A (wL cy X S0) s.heap.size = A at hD hK ⊢
  have hA : ∀ q, s.heap.size ≤ q → A q := fun q h => by rw [← hAe]; exact Or.inr h
  have hW : wO D cy X A s.heap S0 s.heap [] := ⟨hP, hD, va_S.rf, hA, hRO⟩
  have hl := lv_entry ([.ref a0]) (n := 4) (Nat.le_of_ble_eq_true rfl)
  rw [lg_entry_eq]
  generalize (lg_sl ([.ref a0]) ++ List.replicate (4 - (lg_sl ([.ref a0])).length) Slot.unset).toArray = ls at hl ⊢
  have hl : lv_has ls 4 [(0, .ref a0)] := hl
  unfold wp_Jx4a65c_clear_da8c8 at hp
  exact t_Jx4a65c_clear_da8c8_0 F hr hlocks hK hp hW wX.rf (lv_sub hl [0] rfl) hL_a0 hK_a0
def wp_Jx4a65c_elementData_915e3_0 (D : wD) (post : Option Nat → wS → Prop)  (S : wS) (a0 : Nat) (x1 : Int32) : Prop :=
∃ y_1 : Nat, sR S a0 1 = some y_1 ∧ wM D S y_1 ∧ sK S y_1 = 24 ∧
vp_in x1 (sN S y_1) ∧
∀ g_3 : Option Nat, g_3 = sR S y_1 (x1).toNatClampNeg →
post g_3 S
abbrev r_Jx4a65c_elementData_915e3 : Room := { frames := 0, cells := 0, slots := 0, locals := 0 }
def wp_Jx4a65c_elementData_915e3 (D : wD) (post : Option Nat → wS → Prop) (S : wS) (a0 : Nat) (x1 : Int32) : Prop := wp_Jx4a65c_elementData_915e3_0 D post S a0 x1
set_option maxHeartbeats 4000000 in
set_option maxRecDepth 100000 in
theorem t_Jx4a65c_elementData_915e3_0 {p : Program} {l : Launch} {e : Env} {s : State} {m : MethodId} {args : Array Value} {below : List Frame} {meth : Method} {c : Code} {D : wD} {cy : Nat → ClassId} {X : va_W} {A : Nat → Prop} {S0 : wS} {post : Option Nat → wS → Prop} (F : CallFix p m c cJx4a65c_elementData_915e3 2 s args wz_Jx4a65c_elementData_915e3 RJx4a65c) (hr : meth.sig.returnType = (some (.object "java/lang/Object"))) (hlocks : meth.locks = false) (hK : wK D cy A s) : ∀ {S : wS} {H : Heap} {locs : List Loc} {ls : Array Slot} {a0 : Nat} {x1 : Int32}, wp_Jx4a65c_elementData_915e3_0 D post S a0 x1 → wO D cy X A s.heap S H locs → wX D S0 S → lv_has ls 2 [(0, .ref a0), (1, .int x1)] → wM D S a0 → sK S a0 = 4 → W p l e r_Jx4a65c_elementData_915e3 s m args below meth c H locs 0 0 (MQ below (va_Qq (fun r S9 => wX D S0 S9 ∧ post r S9) (wB D cy X A) A) args s 0 0 A) (F0 m 0 ls []) := by
  obtain ⟨hx, hb, hml, hown, hts⟩ := id F
  have hwg : ∀ w ∈ WG, w.before args s = true := fun w h => hts w (List.mem_cons_of_mem _ h)
  have i_4 : ∀ w ∈ u_ws RJx4a65c TJx4a65c 3, w ∈ wz_Jx4a65c_elementData_915e3 := fun w h => List.mem_cons_of_mem _ (wu_4 w h)
  have k_9 := hwg _ wf_RJx4a65c_9
  intro S H locs ls a0 x1 hp hW hE hl hL_a0 hK_a0
  unfold wp_Jx4a65c_elementData_915e3_0 at hp
  refine lv_aload_n hx hb dJx4a65c_elementData_915e3_0 rfl (lv_at hl 0 rfl) ?_
  obtain ⟨y_1, ey_1, hL_y_1, hK_y_1, hp⟩ := hp
  refine w_get (k := 4) (f := 1) (T := TJx4a65c) (v := .ref y_1) F hK hW hL_a0 hK_a0 (by decide) rfl rfl (by decide) i_4 k_9 (by rw [show wv 4 1 S a0 = va_rf (sR S a0 1) from rfl, ey_1]; rfl) dJx4a65c_elementData_915e3_1 ?_
  refine lv_iload_n hx hb dJx4a65c_elementData_915e3_4 rfl (lv_at hl 1 rfl) ?_
  obtain ⟨h_2, hp⟩ := hp
  refine w_ald F hK hW hL_y_1 hK_y_1 h_2 dJx4a65c_elementData_915e3_5 ?_
  obtain ⟨g_3, eg_3⟩ : ∃ z : Option Nat, z = sR S y_1 (x1).toNatClampNeg := ⟨_, rfl⟩
  rw [← eg_3]
  replace hp := hp g_3 eg_3
  exact w_aret (g := g_3) hx hb hr hlocks hW ⟨hE, hp⟩ dJx4a65c_elementData_915e3_6
set_option maxHeartbeats 4000000 in
set_option maxRecDepth 100000 in
theorem c_Jx4a65c_elementData_915e3 (l : Launch) {D : wD} {cy : Nat → ClassId} {X : va_W} {S0 : wS} {post : Option Nat → wS → Prop} {a0 : Nat} {x1 : Int32} (hL_a0 : wM D S0 a0) (hK_a0 : sK S0 a0 = 4) (hp : wp_Jx4a65c_elementData_915e3 D post S0 a0 x1) : mR D cy X l yJx4a65c_elementData_915e3 wz_Jx4a65c_elementData_915e3 r_Jx4a65c_elementData_915e3 [.ref a0, .int x1] S0 (fun r S9 => wX D S0 S9 ∧ post r S9) := by
  intro sz
  refine Met.ofW (cc := cJx4a65c_elementData_915e3) (maxL := 2) (ret := (some (.object "java/lang/Object"))) (by decide) rfl ?_
  intro p e s m args below meth c s₁ B hml hv
  obtain ⟨rfl, hsz, hP, hK, hD0, hRO⟩ := hv
  have hts := atoms_spec (ws := wz_Jx4a65c_elementData_915e3) B.pre
  have hown : s.vm.findClass RJx4a65c = some m.cls := findClass_of_methodNamed B.named
  subst hsz
  have hD := hD0.self (sz := s.heap.size)
  have F : CallFix p m c cJx4a65c_elementData_915e3 2 s _ wz_Jx4a65c_elementData_915e3 RJx4a65c := ⟨B.exec, B.bytes, hml, hown, hts⟩
  have hr := B.returns
  have hlocks := B.notSynchronized
  generalize hAe : va_A (wL cy X S0) s.heap.size = A at hD hK ⊢
  have hA : ∀ q, s.heap.size ≤ q → A q := fun q h => by rw [← hAe]; exact Or.inr h
  have hW : wO D cy X A s.heap S0 s.heap [] := ⟨hP, hD, va_S.rf, hA, hRO⟩
  have hl := lv_entry ([.ref a0, .int x1]) (n := 2) (Nat.le_of_ble_eq_true rfl)
  rw [lg_entry_eq]
  generalize (lg_sl ([.ref a0, .int x1]) ++ List.replicate (2 - (lg_sl ([.ref a0, .int x1])).length) Slot.unset).toArray = ls at hl ⊢
  have hl : lv_has ls 2 [(0, .ref a0), (1, .int x1)] := hl
  unfold wp_Jx4a65c_elementData_915e3 at hp
  exact t_Jx4a65c_elementData_915e3_0 F hr hlocks hK hp hW wX.rf (lv_sub hl [0, 1] rfl) hL_a0 hK_a0
def wp_Jx4a65c_get_915e3_0 (D : wD) (post : Option Nat → wS → Prop)  (S : wS) (a0 : Nat) (x1 : Int32) : Prop :=
wp_J15_checkIndex_7cf53 D (fun r_1 S_2 => 
wp_Jx4a65c_elementData_915e3 D (fun r_3 S_4 => 
post r_3 S_4) S_2 a0 x1) S x1 (sI S a0 2)
abbrev r_Jx4a65c_get_915e3 : Room := { frames := 2, cells := 0, slots := 0, locals := 43 }
def wp_Jx4a65c_get_915e3 (D : wD) (post : Option Nat → wS → Prop) (S : wS) (a0 : Nat) (x1 : Int32) : Prop := wp_Jx4a65c_get_915e3_0 D post S a0 x1
set_option maxHeartbeats 4000000 in
set_option maxRecDepth 100000 in
theorem t_Jx4a65c_get_915e3_0 {p : Program} {l : Launch} {e : Env} {s : State} {m : MethodId} {args : Array Value} {below : List Frame} {meth : Method} {c : Code} {D : wD} {cy : Nat → ClassId} {X : va_W} {A : Nat → Prop} {S0 : wS} {post : Option Nat → wS → Prop} (F : CallFix p m c cJx4a65c_get_915e3 2 s args wz_Jx4a65c_get_915e3 RJx4a65c) (hr : meth.sig.returnType = (some (.object "java/lang/Object"))) (hlocks : meth.locks = false) (hK : wK D cy A s) : ∀ {S : wS} {H : Heap} {locs : List Loc} {ls : Array Slot} {a0 : Nat} {x1 : Int32}, wp_Jx4a65c_get_915e3_0 D post S a0 x1 → wO D cy X A s.heap S H locs → wX D S0 S → lv_has ls 2 [(0, .ref a0), (1, .int x1)] → wM D S a0 → sK S a0 = 4 → W p l e r_Jx4a65c_get_915e3 s m args below meth c H locs 0 0 (MQ below (va_Qq (fun r S9 => wX D S0 S9 ∧ post r S9) (wB D cy X A) A) args s 0 0 A) (F0 m 0 ls []) := by
  obtain ⟨hx, hb, hml, hown, hts⟩ := id F
  have hwg : ∀ w ∈ WG, w.before args s = true := fun w h => hts w (List.mem_cons_of_mem _ h)
  have i_4 : ∀ w ∈ u_ws RJx4a65c TJx4a65c 3, w ∈ wz_Jx4a65c_get_915e3 := fun w h => List.mem_cons_of_mem _ (wu_4 w h)
  have k_48 := hwg _ wf_RJx4a65c_48
  intro S H locs ls a0 x1 hp hW hE hl hL_a0 hK_a0
  unfold wp_Jx4a65c_get_915e3_0 at hp
  refine lv_iload_n hx hb dJx4a65c_get_915e3_0 rfl (lv_at hl 1 rfl) ?_
  refine lv_aload_n hx hb dJx4a65c_get_915e3_1 rfl (lv_at hl 0 rfl) ?_
  refine w_get (k := 4) (f := 2) (T := TJx4a65c) (v := .int (sI S a0 2)) F hK hW hL_a0 hK_a0 (by decide) rfl rfl (by decide) i_4 k_48 rfl dJx4a65c_get_915e3_2 ?_
  refine w_callI (va_runS (As := [.int x1, .int (sI S a0 2)]) (rest := []) F (c_J15_checkIndex_7cf53 l hp H.size) (va_cwS 2 hts (wg_S wm_RJx4a65c_118 wy_J15_checkIndex_7cf53) rfl rfl rfl (by decide +kernel) ⟨Nat.le_of_ble_eq_true rfl, Nat.le_of_ble_eq_true rfl⟩) (w_preS hK hW) rfl rfl hl.1 rfl (lv_room (Nat.le_of_ble_eq_true rfl)) dJx4a65c_get_915e3_5 ⟨Nat.le_of_ble_eq_true rfl, Nat.le_of_ble_eq_true rfl⟩) hW (fun r_1 S_2 H locs hp hW => ?_)
  obtain ⟨hX_S_2, hp⟩ := hp
  refine W.widen (k := 0) (n := 0) (by decide) (by decide) ?_
  have hE := hE.trans hX_S_2
  have hK_a0 : sK S_2 a0 = 4 := (hX_S_2.2 a0 hL_a0).1.trans hK_a0
  have hL_a0 : wM D S_2 a0 := hX_S_2.M hL_a0
  refine lv_pop hx hb dJx4a65c_get_915e3_8 rfl ?_
  refine lv_aload_n hx hb dJx4a65c_get_915e3_9 rfl (lv_at hl 0 rfl) ?_
  refine lv_iload_n hx hb dJx4a65c_get_915e3_10 rfl (lv_at hl 1 rfl) ?_
  refine w_callR (va_runV (As := [.int x1]) (rest := []) F (c_Jx4a65c_elementData_915e3 l hL_a0 hK_a0 hp H.size) (cwV (C := RJx4a65c) 1 hts (wg_V wm_RJx4a65c_123 wy_Jx4a65c_elementData_915e3) rfl rfl rfl (by decide +kernel) ⟨Nat.le_of_ble_eq_true rfl, Nat.le_of_ble_eq_true rfl⟩) (w_preV hK hW hL_a0 hK_a0 (by decide) rfl) rfl rfl hl.1 rfl (lv_room (Nat.le_of_ble_eq_true rfl)) dJx4a65c_get_915e3_11 ⟨Nat.le_of_ble_eq_true rfl, Nat.le_of_ble_eq_true rfl⟩) hW (fun r_3 S_4 H locs hp hW => ?_)
  obtain ⟨hX_S_4, hp⟩ := hp
  refine W.widen (k := 0) (n := 0) (by decide) (by decide) ?_
  have hE := hE.trans hX_S_4
  have hK_a0 : sK S_4 a0 = 4 := (hX_S_4.2 a0 hL_a0).1.trans hK_a0
  have hL_a0 : wM D S_4 a0 := hX_S_4.M hL_a0
  exact w_aret (g := r_3) hx hb hr hlocks hW ⟨hE, hp⟩ dJx4a65c_get_915e3_14
set_option maxHeartbeats 4000000 in
set_option maxRecDepth 100000 in
theorem c_Jx4a65c_get_915e3 (l : Launch) {D : wD} {cy : Nat → ClassId} {X : va_W} {S0 : wS} {post : Option Nat → wS → Prop} {a0 : Nat} {x1 : Int32} (hL_a0 : wM D S0 a0) (hK_a0 : sK S0 a0 = 4) (hp : wp_Jx4a65c_get_915e3 D post S0 a0 x1) : mR D cy X l yJx4a65c_get_915e3 wz_Jx4a65c_get_915e3 r_Jx4a65c_get_915e3 [.ref a0, .int x1] S0 (fun r S9 => wX D S0 S9 ∧ post r S9) := by
  intro sz
  refine Met.ofW (cc := cJx4a65c_get_915e3) (maxL := 2) (ret := (some (.object "java/lang/Object"))) (by decide) rfl ?_
  intro p e s m args below meth c s₁ B hml hv
  obtain ⟨rfl, hsz, hP, hK, hD0, hRO⟩ := hv
  have hts := atoms_spec (ws := wz_Jx4a65c_get_915e3) B.pre
  have hown : s.vm.findClass RJx4a65c = some m.cls := findClass_of_methodNamed B.named
  subst hsz
  have hD := hD0.self (sz := s.heap.size)
  have F : CallFix p m c cJx4a65c_get_915e3 2 s _ wz_Jx4a65c_get_915e3 RJx4a65c := ⟨B.exec, B.bytes, hml, hown, hts⟩
  have hr := B.returns
  have hlocks := B.notSynchronized
  generalize hAe : va_A (wL cy X S0) s.heap.size = A at hD hK ⊢
  have hA : ∀ q, s.heap.size ≤ q → A q := fun q h => by rw [← hAe]; exact Or.inr h
  have hW : wO D cy X A s.heap S0 s.heap [] := ⟨hP, hD, va_S.rf, hA, hRO⟩
  have hl := lv_entry ([.ref a0, .int x1]) (n := 2) (Nat.le_of_ble_eq_true rfl)
  rw [lg_entry_eq]
  generalize (lg_sl ([.ref a0, .int x1]) ++ List.replicate (2 - (lg_sl ([.ref a0, .int x1])).length) Slot.unset).toArray = ls at hl ⊢
  have hl : lv_has ls 2 [(0, .ref a0), (1, .int x1)] := hl
  unfold wp_Jx4a65c_get_915e3 at hp
  exact t_Jx4a65c_get_915e3_0 F hr hlocks hK hp hW wX.rf (lv_sub hl [0, 1] rfl) hL_a0 hK_a0
def wp_Jxa1e45_init_da8c8_0 (D : wD) (post : wS → Prop)  (S : wS) (a0 : Nat) : Prop :=
post S
abbrev r_Jxa1e45_init_da8c8 : Room := { frames := 1, cells := 0, slots := 0, locals := 60 }
def wp_Jxa1e45_init_da8c8 (D : wD) (post : wS → Prop) (S : wS) (a0 : Nat) : Prop := wp_Jxa1e45_init_da8c8_0 D post S a0
set_option maxHeartbeats 4000000 in
set_option maxRecDepth 100000 in
theorem t_Jxa1e45_init_da8c8_0 {p : Program} {l : Launch} {e : Env} {s : State} {m : MethodId} {args : Array Value} {below : List Frame} {meth : Method} {c : Code} {D : wD} {cy : Nat → ClassId} {X : va_W} {A : Nat → Prop} {S0 : wS} {post : wS → Prop} (F : CallFix p m c cJxa1e45_init_da8c8 1 s args wz_Jxa1e45_init_da8c8 RJxa1e45) (hr : meth.sig.returnType = none) (hlocks : meth.locks = false) (hK : wK D cy A s) (hin : meth.name = "<init>") : ∀ {S : wS} {H : Heap} {locs : List Loc} {ls : Array Slot} {a0 : Nat}, wp_Jxa1e45_init_da8c8_0 D post S a0 → wO D cy X A s.heap S H locs → wX D S0 S → lv_has ls 1 [(0, .ref a0)] → wM D S a0 → sK S a0 = 4 → W p l e r_Jxa1e45_init_da8c8 s m args below meth c H locs 0 0 (MQ below (va_Qv (fun S9 => wX D S0 S9 ∧ post S9) (wB D cy X A) A) args s 0 0 A) (F0 m 0 ls []) := by
  obtain ⟨hx, hb, hml, hown, hts⟩ := id F
  have hwg : ∀ w ∈ WG, w.before args s = true := fun w h => hts w (List.mem_cons_of_mem _ h)
  intro S H locs ls a0 hp hW hE hl hL_a0 hK_a0
  unfold wp_Jxa1e45_init_da8c8_0 at hp
  refine lv_aload_n hx hb dJxa1e45_init_da8c8_0 rfl (lv_at hl 0 rfl) ?_
  refine W.objInit hx hb hown (hwg _ wm_RJxa1e45_1) (hwg _ wobj.1) (hwg _ wobj.2) rfl (by rw [hml]; exact hl.1) rfl dJxa1e45_init_da8c8_1 (Nat.le_of_ble_eq_true rfl) (Nat.le_of_ble_eq_true rfl) ?_
  refine W.eq (g2 := F0 m 4 ls []) rfl ?_
  exact w_vret hx hb hr hlocks hW ⟨hE, hp⟩ dJxa1e45_init_da8c8_4
set_option maxHeartbeats 4000000 in
set_option maxRecDepth 100000 in
theorem c_Jxa1e45_init_da8c8 (l : Launch) {D : wD} {cy : Nat → ClassId} {X : va_W} {S0 : wS} {post : wS → Prop} {a0 : Nat} (hL_a0 : wM D S0 a0) (hK_a0 : sK S0 a0 = 4) (hp : wp_Jxa1e45_init_da8c8 D post S0 a0) : mV D cy X l yJxa1e45_init_da8c8 wz_Jxa1e45_init_da8c8 r_Jxa1e45_init_da8c8 [.ref a0] S0 (fun S9 => wX D S0 S9 ∧ post S9) := by
  intro sz
  refine Met.ofW (cc := cJxa1e45_init_da8c8) (maxL := 1) (ret := none) (by decide) rfl ?_
  intro p e s m args below meth c s₁ B hml hv
  obtain ⟨rfl, hsz, hP, hK, hD0, hRO⟩ := hv
  have hts := atoms_spec (ws := wz_Jxa1e45_init_da8c8) B.pre
  have hown : s.vm.findClass RJxa1e45 = some m.cls := findClass_of_methodNamed B.named
  subst hsz
  have hD := hD0.self (sz := s.heap.size)
  have F : CallFix p m c cJxa1e45_init_da8c8 1 s _ wz_Jxa1e45_init_da8c8 RJxa1e45 := ⟨B.exec, B.bytes, hml, hown, hts⟩
  have hr := B.returns
  have hlocks := B.notSynchronized
  have hin : meth.name = "<init>" := (name_of_methodNamed B.named B.method).1
  generalize hAe : va_A (wL cy X S0) s.heap.size = A at hD hK ⊢
  have hA : ∀ q, s.heap.size ≤ q → A q := fun q h => by rw [← hAe]; exact Or.inr h
  have hW : wO D cy X A s.heap S0 s.heap [] := ⟨hP, hD, va_S.rf, hA, hRO⟩
  have hl := lv_entry ([.ref a0]) (n := 1) (Nat.le_of_ble_eq_true rfl)
  rw [lg_entry_eq]
  generalize (lg_sl ([.ref a0]) ++ List.replicate (1 - (lg_sl ([.ref a0])).length) Slot.unset).toArray = ls at hl ⊢
  have hl : lv_has ls 1 [(0, .ref a0)] := hl
  unfold wp_Jxa1e45_init_da8c8 at hp
  exact t_Jxa1e45_init_da8c8_0 F hr hlocks hK hin hp hW wX.rf (lv_sub hl [0] rfl) hL_a0 hK_a0
def wp_Jxc12de_init_da8c8_0 (D : wD) (post : wS → Prop)  (S : wS) (a0 : Nat) : Prop :=
wp_Jxa1e45_init_da8c8 D (fun S_2 => 
∀ S_3 : wS, S_3 = uI S_2 a0 0 (0 : Int32) →
post S_3) S a0
abbrev r_Jxc12de_init_da8c8 : Room := { frames := 2, cells := 0, slots := 0, locals := 80 }
def wp_Jxc12de_init_da8c8 (D : wD) (post : wS → Prop) (S : wS) (a0 : Nat) : Prop := wp_Jxc12de_init_da8c8_0 D post S a0
set_option maxHeartbeats 4000000 in
set_option maxRecDepth 100000 in
theorem t_Jxc12de_init_da8c8_0 {p : Program} {l : Launch} {e : Env} {s : State} {m : MethodId} {args : Array Value} {below : List Frame} {meth : Method} {c : Code} {D : wD} {cy : Nat → ClassId} {X : va_W} {A : Nat → Prop} {S0 : wS} {post : wS → Prop} (F : CallFix p m c cJxc12de_init_da8c8 1 s args wz_Jxc12de_init_da8c8 RJxc12de) (hr : meth.sig.returnType = none) (hlocks : meth.locks = false) (hK : wK D cy A s) (hin : meth.name = "<init>") : ∀ {S : wS} {H : Heap} {locs : List Loc} {ls : Array Slot} {a0 : Nat}, wp_Jxc12de_init_da8c8_0 D post S a0 → wO D cy X A s.heap S H locs → wX D S0 S → lv_has ls 1 [(0, .ref a0)] → wM D S a0 → sK S a0 = 4 → W p l e r_Jxc12de_init_da8c8 s m args below meth c H locs 0 0 (MQ below (va_Qv (fun S9 => wX D S0 S9 ∧ post S9) (wB D cy X A) A) args s 0 0 A) (F0 m 0 ls []) := by
  obtain ⟨hx, hb, hml, hown, hts⟩ := id F
  have hwg : ∀ w ∈ WG, w.before args s = true := fun w h => hts w (List.mem_cons_of_mem _ h)
  have i_4 : ∀ w ∈ u_ws RJx4a65c TJx4a65c 3, w ∈ wz_Jxc12de_init_da8c8 := fun w h => List.mem_cons_of_mem _ (wu_4 w h)
  have k_7 := hwg _ wf_RJxc12de_7
  intro S H locs ls a0 hp hW hE hl hL_a0 hK_a0
  unfold wp_Jxc12de_init_da8c8_0 at hp
  refine lv_aload_n hx hb dJxc12de_init_da8c8_0 rfl (lv_at hl 0 rfl) ?_
  refine w_callV (va_runI (As := []) (rest := []) F (c_Jxa1e45_init_da8c8 l hL_a0 hK_a0 hp H.size) (cwI 0 hts (wg_cons wy_Jxa1e45_init_da8c8.2.2) rfl rfl rfl (hwg _ wy_Jxa1e45_init_da8c8.2.1) (hwg _ wm_RJxc12de_1) (hwg _ wy_Jxa1e45_init_da8c8.1) rfl (by decide +kernel) ⟨Nat.le_of_ble_eq_true rfl, Nat.le_of_ble_eq_true rfl⟩) (w_preS hK hW) rfl rfl hl.1 rfl (lv_room (Nat.le_of_ble_eq_true rfl)) dJxc12de_init_da8c8_1 ⟨Nat.le_of_ble_eq_true rfl, Nat.le_of_ble_eq_true rfl⟩) hW (fun S_2 H locs hp hW => ?_)
  obtain ⟨hX_S_2, hp⟩ := hp
  refine W.widen (k := 0) (n := 0) (by decide) (by decide) ?_
  have hE := hE.trans hX_S_2
  have hK_a0 : sK S_2 a0 = 4 := (hX_S_2.2 a0 hL_a0).1.trans hK_a0
  have hL_a0 : wM D S_2 a0 := hX_S_2.M hL_a0
  refine lv_aload_n hx hb dJxc12de_init_da8c8_4 rfl (lv_at hl 0 rfl) ?_
  refine lv_iconst (v := 0) hx hb dJxc12de_init_da8c8_5 (by decide) ?_
  refine w_putI (k := 4) (f := 0) (T := TJx4a65c) F hK hW hL_a0 hK_a0 (by decide) (by decide) rfl rfl (by decide) i_4 tyJx4a65c tyJx4a65c_ok nmJx4a65c k_7 rfl rfl (ty := .int) rfl rfl rfl dJxc12de_init_da8c8_6 (fun H locs hW => ?_)
  obtain ⟨S_3, eS_3⟩ : ∃ z : wS, z = uI S_2 a0 0 (0 : Int32) := ⟨_, rfl⟩
  rw [← eS_3] at hW
  replace hp := hp S_3 eS_3
  have hX_S_3 : wX D S_2 S_3 := by rw [eS_3]; exact wX_uI
  have hE := hE.trans hX_S_3
  have hK_a0 : sK S_3 a0 = 4 := (hX_S_3.2 a0 hL_a0).1.trans hK_a0
  have hL_a0 : wM D S_3 a0 := hX_S_3.M hL_a0
  exact w_vret hx hb hr hlocks hW ⟨hE, hp⟩ dJxc12de_init_da8c8_9
set_option maxHeartbeats 4000000 in
set_option maxRecDepth 100000 in
theorem c_Jxc12de_init_da8c8 (l : Launch) {D : wD} {cy : Nat → ClassId} {X : va_W} {S0 : wS} {post : wS → Prop} {a0 : Nat} (hL_a0 : wM D S0 a0) (hK_a0 : sK S0 a0 = 4) (hp : wp_Jxc12de_init_da8c8 D post S0 a0) : mV D cy X l yJxc12de_init_da8c8 wz_Jxc12de_init_da8c8 r_Jxc12de_init_da8c8 [.ref a0] S0 (fun S9 => wX D S0 S9 ∧ post S9) := by
  intro sz
  refine Met.ofW (cc := cJxc12de_init_da8c8) (maxL := 1) (ret := none) (by decide) rfl ?_
  intro p e s m args below meth c s₁ B hml hv
  obtain ⟨rfl, hsz, hP, hK, hD0, hRO⟩ := hv
  have hts := atoms_spec (ws := wz_Jxc12de_init_da8c8) B.pre
  have hown : s.vm.findClass RJxc12de = some m.cls := findClass_of_methodNamed B.named
  subst hsz
  have hD := hD0.self (sz := s.heap.size)
  have F : CallFix p m c cJxc12de_init_da8c8 1 s _ wz_Jxc12de_init_da8c8 RJxc12de := ⟨B.exec, B.bytes, hml, hown, hts⟩
  have hr := B.returns
  have hlocks := B.notSynchronized
  have hin : meth.name = "<init>" := (name_of_methodNamed B.named B.method).1
  generalize hAe : va_A (wL cy X S0) s.heap.size = A at hD hK ⊢
  have hA : ∀ q, s.heap.size ≤ q → A q := fun q h => by rw [← hAe]; exact Or.inr h
  have hW : wO D cy X A s.heap S0 s.heap [] := ⟨hP, hD, va_S.rf, hA, hRO⟩
  have hl := lv_entry ([.ref a0]) (n := 1) (Nat.le_of_ble_eq_true rfl)
  rw [lg_entry_eq]
  generalize (lg_sl ([.ref a0]) ++ List.replicate (1 - (lg_sl ([.ref a0])).length) Slot.unset).toArray = ls at hl ⊢
  have hl : lv_has ls 1 [(0, .ref a0)] := hl
  unfold wp_Jxc12de_init_da8c8 at hp
  exact t_Jxc12de_init_da8c8_0 F hr hlocks hK hin hp hW wX.rf (lv_sub hl [0] rfl) hL_a0 hK_a0
def wp_Jx4a65c_init_da8c8_0 (D : wD) (post : wS → Prop)  (S : wS) (a0 : Nat) : Prop :=
wp_Jxc12de_init_da8c8 D (fun S_2 => 
∀ y_3 : Nat, y_3 = D.2.2.1 106 →
∀ S_4 : wS, S_4 = uR S_2 a0 1 (some y_3) →
post S_4) S a0
abbrev r_Jx4a65c_init_da8c8 : Room := { frames := 3, cells := 0, slots := 0, locals := 100 }
def wp_Jx4a65c_init_da8c8 (D : wD) (post : wS → Prop) (S : wS) (a0 : Nat) : Prop := wp_Jx4a65c_init_da8c8_0 D post S a0
set_option maxHeartbeats 4000000 in
set_option maxRecDepth 100000 in
theorem t_Jx4a65c_init_da8c8_0 {p : Program} {l : Launch} {e : Env} {s : State} {m : MethodId} {args : Array Value} {below : List Frame} {meth : Method} {c : Code} {D : wD} {cy : Nat → ClassId} {X : va_W} {A : Nat → Prop} {S0 : wS} {post : wS → Prop} (F : CallFix p m c cJx4a65c_init_da8c8 1 s args wz_Jx4a65c_init_da8c8 RJx4a65c) (hr : meth.sig.returnType = none) (hlocks : meth.locks = false) (hK : wK D cy A s) (hin : meth.name = "<init>") : ∀ {S : wS} {H : Heap} {locs : List Loc} {ls : Array Slot} {a0 : Nat}, wp_Jx4a65c_init_da8c8_0 D post S a0 → wO D cy X A s.heap S H locs → wX D S0 S → lv_has ls 1 [(0, .ref a0)] → wM D S a0 → sK S a0 = 4 → W p l e r_Jx4a65c_init_da8c8 s m args below meth c H locs 0 0 (MQ below (va_Qv (fun S9 => wX D S0 S9 ∧ post S9) (wB D cy X A) A) args s 0 0 A) (F0 m 0 ls []) := by
  obtain ⟨hx, hb, hml, hown, hts⟩ := id F
  have hwg : ∀ w ∈ WG, w.before args s = true := fun w h => hts w (List.mem_cons_of_mem _ h)
  have i_4 : ∀ w ∈ u_ws RJx4a65c TJx4a65c 3, w ∈ wz_Jx4a65c_init_da8c8 := fun w h => List.mem_cons_of_mem _ (wu_4 w h)
  have k_9 := hwg _ wf_RJx4a65c_9
  intro S H locs ls a0 hp hW hE hl hL_a0 hK_a0
  unfold wp_Jx4a65c_init_da8c8_0 at hp
  refine lv_aload_n hx hb dJx4a65c_init_da8c8_0 rfl (lv_at hl 0 rfl) ?_
  refine w_callV (va_runI (As := []) (rest := []) F (c_Jxc12de_init_da8c8 l hL_a0 hK_a0 hp H.size) (cwI 0 hts (wg_cons wy_Jxc12de_init_da8c8.2.2) rfl rfl rfl (hwg _ wy_Jxc12de_init_da8c8.2.1) (hwg _ wm_RJx4a65c_1) (hwg _ wy_Jxc12de_init_da8c8.1) rfl (by decide +kernel) ⟨Nat.le_of_ble_eq_true rfl, Nat.le_of_ble_eq_true rfl⟩) (w_preS hK hW) rfl rfl hl.1 rfl (lv_room (Nat.le_of_ble_eq_true rfl)) dJx4a65c_init_da8c8_1 ⟨Nat.le_of_ble_eq_true rfl, Nat.le_of_ble_eq_true rfl⟩) hW (fun S_2 H locs hp hW => ?_)
  obtain ⟨hX_S_2, hp⟩ := hp
  refine W.widen (k := 0) (n := 0) (by decide) (by decide) ?_
  have hE := hE.trans hX_S_2
  have hK_a0 : sK S_2 a0 = 4 := (hX_S_2.2 a0 hL_a0).1.trans hK_a0
  have hL_a0 : wM D S_2 a0 := hX_S_2.M hL_a0
  refine lv_aload_n hx hb dJx4a65c_init_da8c8_4 rfl (lv_at hl 0 rfl) ?_
  refine w_stat F hK hW (show ("java/util/ArrayList", "DEFAULTCAPACITY_EMPTY_ELEMENTDATA", "[Ljava/lang/Object;", 106, 24) ∈ wSr by decide +kernel) (hwg _ wf_RJx4a65c_39) dJx4a65c_init_da8c8_5 ?_
  obtain ⟨y_3, ey_3⟩ : ∃ z : Nat, z = D.2.2.1 106 := ⟨_, rfl⟩
  rw [← ey_3]
  replace hp := hp y_3 ey_3
  obtain ⟨hL_y_3, hK_y_3⟩ : wM D S_2 y_3 ∧ sK S_2 y_3 = 24 := by rw [ey_3]; exact w_statM hK hW (show ("java/util/ArrayList", "DEFAULTCAPACITY_EMPTY_ELEMENTDATA", "[Ljava/lang/Object;", 106, 24) ∈ wSr by decide +kernel)
  refine w_putR (k := 4) (f := 1) (T := TJx4a65c) (g := (some y_3)) F hK hW hL_a0 hK_a0 (by decide) (by decide) rfl rfl (by decide) i_4 tyJx4a65c tyJx4a65c_ok nmJx4a65c k_9 rfl rfl (ty := (.array (.object "java/lang/Object"))) rfl (v_narrow _ _) (v_fitsA _ _) dJx4a65c_init_da8c8_8 (fun H locs hW => ?_)
  obtain ⟨S_4, eS_4⟩ : ∃ z : wS, z = uR S_2 a0 1 (some y_3) := ⟨_, rfl⟩
  rw [← eS_4] at hW
  replace hp := hp S_4 eS_4
  have hX_S_4 : wX D S_2 S_4 := by rw [eS_4]; exact wX_uR
  have hE := hE.trans hX_S_4
  have hK_a0 : sK S_4 a0 = 4 := (hX_S_4.2 a0 hL_a0).1.trans hK_a0
  have hL_a0 : wM D S_4 a0 := hX_S_4.M hL_a0
  exact w_vret hx hb hr hlocks hW ⟨hE, hp⟩ dJx4a65c_init_da8c8_11
set_option maxHeartbeats 4000000 in
set_option maxRecDepth 100000 in
theorem c_Jx4a65c_init_da8c8 (l : Launch) {D : wD} {cy : Nat → ClassId} {X : va_W} {S0 : wS} {post : wS → Prop} {a0 : Nat} (hL_a0 : wM D S0 a0) (hK_a0 : sK S0 a0 = 4) (hp : wp_Jx4a65c_init_da8c8 D post S0 a0) : mV D cy X l yJx4a65c_init_da8c8 wz_Jx4a65c_init_da8c8 r_Jx4a65c_init_da8c8 [.ref a0] S0 (fun S9 => wX D S0 S9 ∧ post S9) := by
  intro sz
  refine Met.ofW (cc := cJx4a65c_init_da8c8) (maxL := 1) (ret := none) (by decide) rfl ?_
  intro p e s m args below meth c s₁ B hml hv
  obtain ⟨rfl, hsz, hP, hK, hD0, hRO⟩ := hv
  have hts := atoms_spec (ws := wz_Jx4a65c_init_da8c8) B.pre
  have hown : s.vm.findClass RJx4a65c = some m.cls := findClass_of_methodNamed B.named
  subst hsz
  have hD := hD0.self (sz := s.heap.size)
  have F : CallFix p m c cJx4a65c_init_da8c8 1 s _ wz_Jx4a65c_init_da8c8 RJx4a65c := ⟨B.exec, B.bytes, hml, hown, hts⟩
  have hr := B.returns
  have hlocks := B.notSynchronized
  have hin : meth.name = "<init>" := (name_of_methodNamed B.named B.method).1
  generalize hAe : va_A (wL cy X S0) s.heap.size = A at hD hK ⊢
  have hA : ∀ q, s.heap.size ≤ q → A q := fun q h => by rw [← hAe]; exact Or.inr h
  have hW : wO D cy X A s.heap S0 s.heap [] := ⟨hP, hD, va_S.rf, hA, hRO⟩
  have hl := lv_entry ([.ref a0]) (n := 1) (Nat.le_of_ble_eq_true rfl)
  rw [lg_entry_eq]
  generalize (lg_sl ([.ref a0]) ++ List.replicate (1 - (lg_sl ([.ref a0])).length) Slot.unset).toArray = ls at hl ⊢
  have hl : lv_has ls 1 [(0, .ref a0)] := hl
  unfold wp_Jx4a65c_init_da8c8 at hp
  exact t_Jx4a65c_init_da8c8_0 F hr hlocks hK hin hp hW wX.rf (lv_sub hl [0] rfl) hL_a0 hK_a0
def wp_Jx4a65c_size_8abf5_0 (D : wD) (post : Int32 → wS → Prop)  (S : wS) (a0 : Nat) : Prop :=
post (sI S a0 2) S
abbrev r_Jx4a65c_size_8abf5 : Room := { frames := 0, cells := 0, slots := 0, locals := 0 }
def wp_Jx4a65c_size_8abf5 (D : wD) (post : Int32 → wS → Prop) (S : wS) (a0 : Nat) : Prop := wp_Jx4a65c_size_8abf5_0 D post S a0
set_option maxHeartbeats 4000000 in
set_option maxRecDepth 100000 in
theorem t_Jx4a65c_size_8abf5_0 {p : Program} {l : Launch} {e : Env} {s : State} {m : MethodId} {args : Array Value} {below : List Frame} {meth : Method} {c : Code} {D : wD} {cy : Nat → ClassId} {X : va_W} {A : Nat → Prop} {S0 : wS} {post : Int32 → wS → Prop} (F : CallFix p m c cJx4a65c_size_8abf5 1 s args wz_Jx4a65c_size_8abf5 RJx4a65c) (hr : meth.sig.returnType = (some .int)) (hlocks : meth.locks = false) (hK : wK D cy A s) : ∀ {S : wS} {H : Heap} {locs : List Loc} {ls : Array Slot} {a0 : Nat}, wp_Jx4a65c_size_8abf5_0 D post S a0 → wO D cy X A s.heap S H locs → wX D S0 S → lv_has ls 1 [(0, .ref a0)] → wM D S a0 → sK S a0 = 4 → W p l e r_Jx4a65c_size_8abf5 s m args below meth c H locs 0 0 (MQ below (va_Qi (fun r S9 => wX D S0 S9 ∧ post r S9) (wB D cy X A) A) args s 0 0 A) (F0 m 0 ls []) := by
  obtain ⟨hx, hb, hml, hown, hts⟩ := id F
  have hwg : ∀ w ∈ WG, w.before args s = true := fun w h => hts w (List.mem_cons_of_mem _ h)
  have i_4 : ∀ w ∈ u_ws RJx4a65c TJx4a65c 3, w ∈ wz_Jx4a65c_size_8abf5 := fun w h => List.mem_cons_of_mem _ (wu_4 w h)
  have k_48 := hwg _ wf_RJx4a65c_48
  intro S H locs ls a0 hp hW hE hl hL_a0 hK_a0
  unfold wp_Jx4a65c_size_8abf5_0 at hp
  refine lv_aload_n hx hb dJx4a65c_size_8abf5_0 rfl (lv_at hl 0 rfl) ?_
  refine w_get (k := 4) (f := 2) (T := TJx4a65c) (v := .int (sI S a0 2)) F hK hW hL_a0 hK_a0 (by decide) rfl rfl (by decide) i_4 k_48 rfl dJx4a65c_size_8abf5_1 ?_
  exact w_iret hx hb hr hlocks hW ⟨hE, hp⟩ dJx4a65c_size_8abf5_4
set_option maxHeartbeats 4000000 in
set_option maxRecDepth 100000 in
theorem c_Jx4a65c_size_8abf5 (l : Launch) {D : wD} {cy : Nat → ClassId} {X : va_W} {S0 : wS} {post : Int32 → wS → Prop} {a0 : Nat} (hL_a0 : wM D S0 a0) (hK_a0 : sK S0 a0 = 4) (hp : wp_Jx4a65c_size_8abf5 D post S0 a0) : mI D cy X l yJx4a65c_size_8abf5 wz_Jx4a65c_size_8abf5 r_Jx4a65c_size_8abf5 [.ref a0] S0 (fun r S9 => wX D S0 S9 ∧ post r S9) := by
  intro sz
  refine Met.ofW (cc := cJx4a65c_size_8abf5) (maxL := 1) (ret := (some .int)) (by decide) rfl ?_
  intro p e s m args below meth c s₁ B hml hv
  obtain ⟨rfl, hsz, hP, hK, hD0, hRO⟩ := hv
  have hts := atoms_spec (ws := wz_Jx4a65c_size_8abf5) B.pre
  have hown : s.vm.findClass RJx4a65c = some m.cls := findClass_of_methodNamed B.named
  subst hsz
  have hD := hD0.self (sz := s.heap.size)
  have F : CallFix p m c cJx4a65c_size_8abf5 1 s _ wz_Jx4a65c_size_8abf5 RJx4a65c := ⟨B.exec, B.bytes, hml, hown, hts⟩
  have hr := B.returns
  have hlocks := B.notSynchronized
  generalize hAe : va_A (wL cy X S0) s.heap.size = A at hD hK ⊢
  have hA : ∀ q, s.heap.size ≤ q → A q := fun q h => by rw [← hAe]; exact Or.inr h
  have hW : wO D cy X A s.heap S0 s.heap [] := ⟨hP, hD, va_S.rf, hA, hRO⟩
  have hl := lv_entry ([.ref a0]) (n := 1) (Nat.le_of_ble_eq_true rfl)
  rw [lg_entry_eq]
  generalize (lg_sl ([.ref a0]) ++ List.replicate (1 - (lg_sl ([.ref a0])).length) Slot.unset).toArray = ls at hl ⊢
  have hl : lv_has ls 1 [(0, .ref a0)] := hl
  unfold wp_Jx4a65c_size_8abf5 at hp
  exact t_Jx4a65c_size_8abf5_0 F hr hlocks hK hp hW wX.rf (lv_sub hl [0] rfl) hL_a0 hK_a0
