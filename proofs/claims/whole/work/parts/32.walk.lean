theorem dJ1_canEncode_fc78d_0 : decode cJ1_canEncode_fc78d 0 = .ok (.iload_n 0, 1) := by decide +kernel
theorem dJ1_canEncode_fc78d_1 : decode cJ1_canEncode_fc78d 1 = .ok (.sipush 255, 3) := by decide +kernel
theorem dJ1_canEncode_fc78d_4 : decode cJ1_canEncode_fc78d 4 = .ok (.if_icmp .gt 7, 3) := by decide +kernel
theorem dJ1_canEncode_fc78d_7 : decode cJ1_canEncode_fc78d 7 = .ok (.iconst 1, 1) := by decide +kernel
theorem dJ1_canEncode_fc78d_8 : decode cJ1_canEncode_fc78d 8 = .ok (.goto 4, 3) := by decide +kernel
theorem dJ1_canEncode_fc78d_11 : decode cJ1_canEncode_fc78d 11 = .ok (.iconst 0, 1) := by decide +kernel
theorem dJ1_canEncode_fc78d_12 : decode cJ1_canEncode_fc78d 12 = .ok (.ireturn, 1) := by decide +kernel
theorem dJx00060_init_d00df_0 : decode cJx00060_init_d00df 0 = .ok (.aload_n 0, 1) := by decide +kernel
theorem dJx00060_init_d00df_1 : decode cJx00060_init_d00df 1 = .ok (.new 10, 3) := by decide +kernel
theorem dJx00060_init_d00df_4 : decode cJx00060_init_d00df 4 = .ok (.dup, 1) := by decide +kernel
theorem dJx00060_init_d00df_5 : decode cJx00060_init_d00df 5 = .ok (.invokespecial 12, 3) := by decide +kernel
theorem dJx00060_init_d00df_8 : decode cJx00060_init_d00df 8 = .ok (.ldc 13, 2) := by decide +kernel
theorem dJx00060_init_d00df_10 : decode cJx00060_init_d00df 10 = .ok (.invokevirtual 15, 3) := by decide +kernel
theorem dJx00060_init_d00df_13 : decode cJx00060_init_d00df 13 = .ok (.iload_n 1, 1) := by decide +kernel
theorem dJx00060_init_d00df_14 : decode cJx00060_init_d00df 14 = .ok (.invokevirtual 19, 3) := by decide +kernel
theorem dJx00060_init_d00df_17 : decode cJx00060_init_d00df 17 = .ok (.invokevirtual 22, 3) := by decide +kernel
theorem dJx00060_init_d00df_20 : decode cJx00060_init_d00df 20 = .ok (.invokespecial 7, 3) := by decide +kernel
theorem dJx00060_init_d00df_23 : decode cJx00060_init_d00df 23 = .ok (.return_, 1) := by decide +kernel
theorem dJ7_rangeCheck_23922_0 : decode cJ7_rangeCheck_23922 0 = .ok (.iload_n 1, 1) := by decide +kernel
theorem dJ7_rangeCheck_23922_1 : decode cJ7_rangeCheck_23922 1 = .ok (.iload_n 2, 1) := by decide +kernel
theorem dJ7_rangeCheck_23922_2 : decode cJ7_rangeCheck_23922 2 = .ok (.if_icmp .le 44, 3) := by decide +kernel
theorem dJ7_rangeCheck_23922_5 : decode cJ7_rangeCheck_23922 5 = .ok (.new 43, 3) := by decide +kernel
theorem dJ7_rangeCheck_23922_8 : decode cJ7_rangeCheck_23922 8 = .ok (.dup, 1) := by decide +kernel
theorem dJ7_rangeCheck_23922_9 : decode cJ7_rangeCheck_23922 9 = .ok (.new 45, 3) := by decide +kernel
theorem dJ7_rangeCheck_23922_12 : decode cJ7_rangeCheck_23922 12 = .ok (.dup, 1) := by decide +kernel
theorem dJ7_rangeCheck_23922_13 : decode cJ7_rangeCheck_23922 13 = .ok (.invokespecial 47, 3) := by decide +kernel
theorem dJ7_rangeCheck_23922_16 : decode cJ7_rangeCheck_23922 16 = .ok (.ldc 48, 2) := by decide +kernel
theorem dJ7_rangeCheck_23922_18 : decode cJ7_rangeCheck_23922 18 = .ok (.invokevirtual 50, 3) := by decide +kernel
theorem dJ7_rangeCheck_23922_21 : decode cJ7_rangeCheck_23922 21 = .ok (.iload_n 1, 1) := by decide +kernel
theorem dJ7_rangeCheck_23922_22 : decode cJ7_rangeCheck_23922 22 = .ok (.invokevirtual 54, 3) := by decide +kernel
theorem dJ7_rangeCheck_23922_25 : decode cJ7_rangeCheck_23922 25 = .ok (.ldc 57, 2) := by decide +kernel
theorem dJ7_rangeCheck_23922_27 : decode cJ7_rangeCheck_23922 27 = .ok (.invokevirtual 50, 3) := by decide +kernel
theorem dJ7_rangeCheck_23922_30 : decode cJ7_rangeCheck_23922 30 = .ok (.iload_n 2, 1) := by decide +kernel
theorem dJ7_rangeCheck_23922_31 : decode cJ7_rangeCheck_23922 31 = .ok (.invokevirtual 54, 3) := by decide +kernel
theorem dJ7_rangeCheck_23922_34 : decode cJ7_rangeCheck_23922 34 = .ok (.ldc 59, 2) := by decide +kernel
theorem dJ7_rangeCheck_23922_36 : decode cJ7_rangeCheck_23922 36 = .ok (.invokevirtual 50, 3) := by decide +kernel
theorem dJ7_rangeCheck_23922_39 : decode cJ7_rangeCheck_23922 39 = .ok (.invokevirtual 61, 3) := by decide +kernel
theorem dJ7_rangeCheck_23922_42 : decode cJ7_rangeCheck_23922 42 = .ok (.invokespecial 65, 3) := by decide +kernel
theorem dJ7_rangeCheck_23922_45 : decode cJ7_rangeCheck_23922 45 = .ok (.athrow, 1) := by decide +kernel
theorem dJ7_rangeCheck_23922_46 : decode cJ7_rangeCheck_23922 46 = .ok (.iload_n 1, 1) := by decide +kernel
theorem dJ7_rangeCheck_23922_47 : decode cJ7_rangeCheck_23922 47 = .ok (.ifCond .ge 12, 3) := by decide +kernel
theorem dJ7_rangeCheck_23922_50 : decode cJ7_rangeCheck_23922 50 = .ok (.new 68, 3) := by decide +kernel
theorem dJ7_rangeCheck_23922_53 : decode cJ7_rangeCheck_23922 53 = .ok (.dup, 1) := by decide +kernel
theorem dJ7_rangeCheck_23922_54 : decode cJ7_rangeCheck_23922 54 = .ok (.iload_n 1, 1) := by decide +kernel
theorem dJ7_rangeCheck_23922_55 : decode cJ7_rangeCheck_23922 55 = .ok (.invokespecial 70, 3) := by decide +kernel
theorem dJ7_rangeCheck_23922_58 : decode cJ7_rangeCheck_23922 58 = .ok (.athrow, 1) := by decide +kernel
theorem dJ7_rangeCheck_23922_59 : decode cJ7_rangeCheck_23922 59 = .ok (.iload_n 2, 1) := by decide +kernel
theorem dJ7_rangeCheck_23922_60 : decode cJ7_rangeCheck_23922 60 = .ok (.iload_n 0, 1) := by decide +kernel
theorem dJ7_rangeCheck_23922_61 : decode cJ7_rangeCheck_23922 61 = .ok (.if_icmp .le 12, 3) := by decide +kernel
theorem dJ7_rangeCheck_23922_64 : decode cJ7_rangeCheck_23922 64 = .ok (.new 68, 3) := by decide +kernel
theorem dJ7_rangeCheck_23922_67 : decode cJ7_rangeCheck_23922 67 = .ok (.dup, 1) := by decide +kernel
theorem dJ7_rangeCheck_23922_68 : decode cJ7_rangeCheck_23922 68 = .ok (.iload_n 2, 1) := by decide +kernel
theorem dJ7_rangeCheck_23922_69 : decode cJ7_rangeCheck_23922 69 = .ok (.invokespecial 70, 3) := by decide +kernel
theorem dJ7_rangeCheck_23922_72 : decode cJ7_rangeCheck_23922 72 = .ok (.athrow, 1) := by decide +kernel
theorem dJ7_rangeCheck_23922_73 : decode cJ7_rangeCheck_23922 73 = .ok (.return_, 1) := by decide +kernel
theorem dJ7_fill_eb02e_0 : decode cJ7_fill_eb02e 0 = .ok (.aload_n 0, 1) := by decide +kernel
theorem dJ7_fill_eb02e_1 : decode cJ7_fill_eb02e 1 = .ok (.arraylength, 1) := by decide +kernel
theorem dJ7_fill_eb02e_2 : decode cJ7_fill_eb02e 2 = .ok (.iload_n 1, 1) := by decide +kernel
theorem dJ7_fill_eb02e_3 : decode cJ7_fill_eb02e 3 = .ok (.iload_n 2, 1) := by decide +kernel
theorem dJ7_fill_eb02e_4 : decode cJ7_fill_eb02e 4 = .ok (.invokestatic 13, 3) := by decide +kernel
theorem dJ7_fill_eb02e_7 : decode cJ7_fill_eb02e 7 = .ok (.iload_n 1, 1) := by decide +kernel
theorem dJ7_fill_eb02e_8 : decode cJ7_fill_eb02e 8 = .ok (.istore 4, 2) := by decide +kernel
theorem dJ7_fill_eb02e_10 : decode cJ7_fill_eb02e 10 = .ok (.iload 4, 2) := by decide +kernel
theorem dJ7_fill_eb02e_12 : decode cJ7_fill_eb02e 12 = .ok (.iload_n 2, 1) := by decide +kernel
theorem dJ7_fill_eb02e_13 : decode cJ7_fill_eb02e 13 = .ok (.if_icmp .ge 14, 3) := by decide +kernel
theorem dJ7_fill_eb02e_16 : decode cJ7_fill_eb02e 16 = .ok (.aload_n 0, 1) := by decide +kernel
theorem dJ7_fill_eb02e_17 : decode cJ7_fill_eb02e 17 = .ok (.iload 4, 2) := by decide +kernel
theorem dJ7_fill_eb02e_19 : decode cJ7_fill_eb02e 19 = .ok (.iload_n 3, 1) := by decide +kernel
theorem dJ7_fill_eb02e_20 : decode cJ7_fill_eb02e 20 = .ok (.bastore, 1) := by decide +kernel
theorem dJ7_fill_eb02e_21 : decode cJ7_fill_eb02e 21 = .ok (.iinc 4 1, 3) := by decide +kernel
theorem dJ7_fill_eb02e_24 : decode cJ7_fill_eb02e 24 = .ok (.goto (-14), 3) := by decide +kernel
theorem dJ7_fill_eb02e_27 : decode cJ7_fill_eb02e 27 = .ok (.return_, 1) := by decide +kernel
theorem dJ1_fillNull_b72d1_0 : decode cJ1_fillNull_b72d1 0 = .ok (.aload_n 0, 1) := by decide +kernel
theorem dJ1_fillNull_b72d1_1 : decode cJ1_fillNull_b72d1 1 = .ok (.iload_n 1, 1) := by decide +kernel
theorem dJ1_fillNull_b72d1_2 : decode cJ1_fillNull_b72d1 2 = .ok (.iload_n 2, 1) := by decide +kernel
theorem dJ1_fillNull_b72d1_3 : decode cJ1_fillNull_b72d1 3 = .ok (.iconst 0, 1) := by decide +kernel
theorem dJ1_fillNull_b72d1_4 : decode cJ1_fillNull_b72d1 4 = .ok (.invokestatic 236, 3) := by decide +kernel
theorem dJ1_fillNull_b72d1_7 : decode cJ1_fillNull_b72d1 7 = .ok (.return_, 1) := by decide +kernel
theorem dJ2_fillNull_b72d1_0 : decode cJ2_fillNull_b72d1 0 = .ok (.aload_n 0, 1) := by decide +kernel
theorem dJ2_fillNull_b72d1_1 : decode cJ2_fillNull_b72d1 1 = .ok (.iload_n 1, 1) := by decide +kernel
theorem dJ2_fillNull_b72d1_2 : decode cJ2_fillNull_b72d1 2 = .ok (.iconst 1, 1) := by decide +kernel
theorem dJ2_fillNull_b72d1_3 : decode cJ2_fillNull_b72d1 3 = .ok (.ishl, 1) := by decide +kernel
theorem dJ2_fillNull_b72d1_4 : decode cJ2_fillNull_b72d1 4 = .ok (.iload_n 2, 1) := by decide +kernel
theorem dJ2_fillNull_b72d1_5 : decode cJ2_fillNull_b72d1 5 = .ok (.iconst 1, 1) := by decide +kernel
theorem dJ2_fillNull_b72d1_6 : decode cJ2_fillNull_b72d1 6 = .ok (.ishl, 1) := by decide +kernel
theorem dJ2_fillNull_b72d1_7 : decode cJ2_fillNull_b72d1 7 = .ok (.iconst 0, 1) := by decide +kernel
theorem dJ2_fillNull_b72d1_8 : decode cJ2_fillNull_b72d1 8 = .ok (.invokestatic 380, 3) := by decide +kernel
theorem dJ2_fillNull_b72d1_11 : decode cJ2_fillNull_b72d1 11 = .ok (.return_, 1) := by decide +kernel
theorem dJ2_putCharSB_b72d1_0 : decode cJ2_putCharSB_b72d1 0 = .ok (.iload_n 1, 1) := by decide +kernel
theorem dJ2_putCharSB_b72d1_1 : decode cJ2_putCharSB_b72d1 1 = .ok (.aload_n 0, 1) := by decide +kernel
theorem dJ2_putCharSB_b72d1_2 : decode cJ2_putCharSB_b72d1 2 = .ok (.invokestatic 67, 3) := by decide +kernel
theorem dJ2_putCharSB_b72d1_5 : decode cJ2_putCharSB_b72d1 5 = .ok (.aload_n 0, 1) := by decide +kernel
theorem dJ2_putCharSB_b72d1_6 : decode cJ2_putCharSB_b72d1 6 = .ok (.iload_n 1, 1) := by decide +kernel
theorem dJ2_putCharSB_b72d1_7 : decode cJ2_putCharSB_b72d1 7 = .ok (.iload_n 2, 1) := by decide +kernel
theorem dJ2_putCharSB_b72d1_8 : decode cJ2_putCharSB_b72d1 8 = .ok (.invokestatic 111, 3) := by decide +kernel
theorem dJ2_putCharSB_b72d1_11 : decode cJ2_putCharSB_b72d1 11 = .ok (.return_, 1) := by decide +kernel
theorem dJ5_append_3fe6f_0 : decode cJ5_append_3fe6f 0 = .ok (.aload_n 0, 1) := by decide +kernel
theorem dJ5_append_3fe6f_1 : decode cJ5_append_3fe6f 1 = .ok (.aload_n 0, 1) := by decide +kernel
theorem dJ5_append_3fe6f_2 : decode cJ5_append_3fe6f 2 = .ok (.getfield 79, 3) := by decide +kernel
theorem dJ5_append_3fe6f_5 : decode cJ5_append_3fe6f 5 = .ok (.iconst 1, 1) := by decide +kernel
theorem dJ5_append_3fe6f_6 : decode cJ5_append_3fe6f 6 = .ok (.iadd, 1) := by decide +kernel
theorem dJ5_append_3fe6f_7 : decode cJ5_append_3fe6f 7 = .ok (.invokevirtual 100, 3) := by decide +kernel
theorem dJ5_append_3fe6f_10 : decode cJ5_append_3fe6f 10 = .ok (.aload_n 0, 1) := by decide +kernel
theorem dJ5_append_3fe6f_11 : decode cJ5_append_3fe6f 11 = .ok (.invokevirtual 83, 3) := by decide +kernel
theorem dJ5_append_3fe6f_14 : decode cJ5_append_3fe6f 14 = .ok (.ifCond .eq 31, 3) := by decide +kernel
theorem dJ5_append_3fe6f_17 : decode cJ5_append_3fe6f 17 = .ok (.iload_n 1, 1) := by decide +kernel
theorem dJ5_append_3fe6f_18 : decode cJ5_append_3fe6f 18 = .ok (.invokestatic 191, 3) := by decide +kernel
theorem dJ5_append_3fe6f_21 : decode cJ5_append_3fe6f 21 = .ok (.ifCond .eq 24, 3) := by decide +kernel
theorem dJ5_append_3fe6f_24 : decode cJ5_append_3fe6f 24 = .ok (.aload_n 0, 1) := by decide +kernel
theorem dJ5_append_3fe6f_25 : decode cJ5_append_3fe6f 25 = .ok (.getfield 15, 3) := by decide +kernel
theorem dJ5_append_3fe6f_28 : decode cJ5_append_3fe6f 28 = .ok (.aload_n 0, 1) := by decide +kernel
theorem dJ5_append_3fe6f_29 : decode cJ5_append_3fe6f 29 = .ok (.dup, 1) := by decide +kernel
theorem dJ5_append_3fe6f_30 : decode cJ5_append_3fe6f 30 = .ok (.getfield 79, 3) := by decide +kernel
theorem dJ5_append_3fe6f_33 : decode cJ5_append_3fe6f 33 = .ok (.dup_x1, 1) := by decide +kernel
theorem dJ5_append_3fe6f_34 : decode cJ5_append_3fe6f 34 = .ok (.iconst 1, 1) := by decide +kernel
theorem dJ5_append_3fe6f_35 : decode cJ5_append_3fe6f 35 = .ok (.iadd, 1) := by decide +kernel
theorem dJ5_append_3fe6f_36 : decode cJ5_append_3fe6f 36 = .ok (.putfield 79, 3) := by decide +kernel
theorem dJ5_append_3fe6f_39 : decode cJ5_append_3fe6f 39 = .ok (.iload_n 1, 1) := by decide +kernel
theorem dJ5_append_3fe6f_40 : decode cJ5_append_3fe6f 40 = .ok (.i2b, 1) := by decide +kernel
theorem dJ5_append_3fe6f_41 : decode cJ5_append_3fe6f 41 = .ok (.bastore, 1) := by decide +kernel
theorem dJ5_append_3fe6f_42 : decode cJ5_append_3fe6f 42 = .ok (.goto 33, 3) := by decide +kernel
theorem dJ5_append_3fe6f_45 : decode cJ5_append_3fe6f 45 = .ok (.aload_n 0, 1) := by decide +kernel
theorem dJ5_append_3fe6f_46 : decode cJ5_append_3fe6f 46 = .ok (.invokevirtual 83, 3) := by decide +kernel
theorem dJ5_append_3fe6f_49 : decode cJ5_append_3fe6f 49 = .ok (.ifCond .eq 7, 3) := by decide +kernel
theorem dJ5_append_3fe6f_52 : decode cJ5_append_3fe6f 52 = .ok (.aload_n 0, 1) := by decide +kernel
theorem dJ5_append_3fe6f_53 : decode cJ5_append_3fe6f 53 = .ok (.invokevirtual 195, 3) := by decide +kernel
theorem dJ5_append_3fe6f_56 : decode cJ5_append_3fe6f 56 = .ok (.aload_n 0, 1) := by decide +kernel
theorem dJ5_append_3fe6f_57 : decode cJ5_append_3fe6f 57 = .ok (.getfield 15, 3) := by decide +kernel
theorem dJ5_append_3fe6f_60 : decode cJ5_append_3fe6f 60 = .ok (.aload_n 0, 1) := by decide +kernel
theorem dJ5_append_3fe6f_61 : decode cJ5_append_3fe6f 61 = .ok (.dup, 1) := by decide +kernel
theorem dJ5_append_3fe6f_62 : decode cJ5_append_3fe6f 62 = .ok (.getfield 79, 3) := by decide +kernel
theorem dJ5_append_3fe6f_65 : decode cJ5_append_3fe6f 65 = .ok (.dup_x1, 1) := by decide +kernel
theorem dJ5_append_3fe6f_66 : decode cJ5_append_3fe6f 66 = .ok (.iconst 1, 1) := by decide +kernel
theorem dJ5_append_3fe6f_67 : decode cJ5_append_3fe6f 67 = .ok (.iadd, 1) := by decide +kernel
theorem dJ5_append_3fe6f_68 : decode cJ5_append_3fe6f 68 = .ok (.putfield 79, 3) := by decide +kernel
theorem dJ5_append_3fe6f_71 : decode cJ5_append_3fe6f 71 = .ok (.iload_n 1, 1) := by decide +kernel
theorem dJ5_append_3fe6f_72 : decode cJ5_append_3fe6f 72 = .ok (.invokestatic 197, 3) := by decide +kernel
theorem dJ5_append_3fe6f_75 : decode cJ5_append_3fe6f 75 = .ok (.aload_n 0, 1) := by decide +kernel
theorem dJ5_append_3fe6f_76 : decode cJ5_append_3fe6f 76 = .ok (.areturn, 1) := by decide +kernel
theorem dJ4_append_cf468_0 : decode cJ4_append_cf468 0 = .ok (.aload_n 0, 1) := by decide +kernel
theorem dJ4_append_cf468_1 : decode cJ4_append_cf468 1 = .ok (.iload_n 1, 1) := by decide +kernel
theorem dJ4_append_cf468_2 : decode cJ4_append_cf468 2 = .ok (.invokespecial 50, 3) := by decide +kernel
theorem dJ4_append_cf468_5 : decode cJ4_append_cf468 5 = .ok (.pop, 1) := by decide +kernel
theorem dJ4_append_cf468_6 : decode cJ4_append_cf468 6 = .ok (.aload_n 0, 1) := by decide +kernel
theorem dJ4_append_cf468_7 : decode cJ4_append_cf468 7 = .ok (.areturn, 1) := by decide +kernel
theorem dJ5_charAt_5068e_0 : decode cJ5_charAt_5068e 0 = .ok (.aload_n 0, 1) := by decide +kernel
theorem dJ5_charAt_5068e_1 : decode cJ5_charAt_5068e 1 = .ok (.getfield 22, 3) := by decide +kernel
theorem dJ5_charAt_5068e_4 : decode cJ5_charAt_5068e 4 = .ok (.istore_n 2, 1) := by decide +kernel
theorem dJ5_charAt_5068e_5 : decode cJ5_charAt_5068e 5 = .ok (.aload_n 0, 1) := by decide +kernel
theorem dJ5_charAt_5068e_6 : decode cJ5_charAt_5068e 6 = .ok (.getfield 15, 3) := by decide +kernel
theorem dJ5_charAt_5068e_9 : decode cJ5_charAt_5068e 9 = .ok (.astore_n 3, 1) := by decide +kernel
theorem dJ5_charAt_5068e_10 : decode cJ5_charAt_5068e 10 = .ok (.aload_n 0, 1) := by decide +kernel
theorem dJ5_charAt_5068e_11 : decode cJ5_charAt_5068e 11 = .ok (.getfield 79, 3) := by decide +kernel
theorem dJ5_charAt_5068e_14 : decode cJ5_charAt_5068e 14 = .ok (.aload_n 3, 1) := by decide +kernel
theorem dJ5_charAt_5068e_15 : decode cJ5_charAt_5068e 15 = .ok (.arraylength, 1) := by decide +kernel
theorem dJ5_charAt_5068e_16 : decode cJ5_charAt_5068e 16 = .ok (.iload_n 2, 1) := by decide +kernel
theorem dJ5_charAt_5068e_17 : decode cJ5_charAt_5068e 17 = .ok (.ishr, 1) := by decide +kernel
theorem dJ5_charAt_5068e_18 : decode cJ5_charAt_5068e 18 = .ok (.invokestatic 138, 3) := by decide +kernel
theorem dJ5_charAt_5068e_21 : decode cJ5_charAt_5068e 21 = .ok (.istore 4, 2) := by decide +kernel
theorem dJ5_charAt_5068e_23 : decode cJ5_charAt_5068e 23 = .ok (.iload_n 1, 1) := by decide +kernel
theorem dJ5_charAt_5068e_24 : decode cJ5_charAt_5068e 24 = .ok (.iload 4, 2) := by decide +kernel
theorem dJ5_charAt_5068e_26 : decode cJ5_charAt_5068e 26 = .ok (.invokestatic 144, 3) := by decide +kernel
theorem dJ5_charAt_5068e_29 : decode cJ5_charAt_5068e 29 = .ok (.iload_n 2, 1) := by decide +kernel
theorem dJ5_charAt_5068e_30 : decode cJ5_charAt_5068e 30 = .ok (.ifCond .ne 12, 3) := by decide +kernel
theorem dJ5_charAt_5068e_33 : decode cJ5_charAt_5068e 33 = .ok (.aload_n 3, 1) := by decide +kernel
theorem dJ5_charAt_5068e_34 : decode cJ5_charAt_5068e 34 = .ok (.iload_n 1, 1) := by decide +kernel
theorem dJ5_charAt_5068e_35 : decode cJ5_charAt_5068e 35 = .ok (.baload, 1) := by decide +kernel
theorem dJ5_charAt_5068e_36 : decode cJ5_charAt_5068e 36 = .ok (.sipush 255, 3) := by decide +kernel
theorem dJ5_charAt_5068e_39 : decode cJ5_charAt_5068e 39 = .ok (.iand, 1) := by decide +kernel
theorem dJ5_charAt_5068e_40 : decode cJ5_charAt_5068e 40 = .ok (.i2c, 1) := by decide +kernel
theorem dJ5_charAt_5068e_41 : decode cJ5_charAt_5068e 41 = .ok (.ireturn, 1) := by decide +kernel
theorem dJ5_charAt_5068e_42 : decode cJ5_charAt_5068e 42 = .ok (.aload_n 3, 1) := by decide +kernel
theorem dJ5_charAt_5068e_43 : decode cJ5_charAt_5068e 43 = .ok (.iload_n 1, 1) := by decide +kernel
theorem dJ5_charAt_5068e_44 : decode cJ5_charAt_5068e 44 = .ok (.invokestatic 148, 3) := by decide +kernel
theorem dJ5_charAt_5068e_47 : decode cJ5_charAt_5068e 47 = .ok (.ireturn, 1) := by decide +kernel
theorem dJ4_charAt_5068e_0 : decode cJ4_charAt_5068e 0 = .ok (.aload_n 0, 1) := by decide +kernel
theorem dJ4_charAt_5068e_1 : decode cJ4_charAt_5068e 1 = .ok (.iload_n 1, 1) := by decide +kernel
theorem dJ4_charAt_5068e_2 : decode cJ4_charAt_5068e 2 = .ok (.invokespecial 329, 3) := by decide +kernel
theorem dJ4_charAt_5068e_5 : decode cJ4_charAt_5068e 5 = .ok (.ireturn, 1) := by decide +kernel
theorem dJ4_length_8abf5_0 : decode cJ4_length_8abf5 0 = .ok (.aload_n 0, 1) := by decide +kernel
theorem dJ4_length_8abf5_1 : decode cJ4_length_8abf5 1 = .ok (.invokespecial 343, 3) := by decide +kernel
theorem dJ4_length_8abf5_4 : decode cJ4_length_8abf5 4 = .ok (.ireturn, 1) := by decide +kernel
theorem dJx7c733_init_d00df_0 : decode cJx7c733_init_d00df 0 = .ok (.aload_n 0, 1) := by decide +kernel
theorem dJx7c733_init_d00df_1 : decode cJx7c733_init_d00df 1 = .ok (.new 10, 3) := by decide +kernel
theorem dJx7c733_init_d00df_4 : decode cJx7c733_init_d00df 4 = .ok (.dup, 1) := by decide +kernel
theorem dJx7c733_init_d00df_5 : decode cJx7c733_init_d00df 5 = .ok (.invokespecial 12, 3) := by decide +kernel
theorem dJx7c733_init_d00df_8 : decode cJx7c733_init_d00df 8 = .ok (.ldc 13, 2) := by decide +kernel
theorem dJx7c733_init_d00df_10 : decode cJx7c733_init_d00df 10 = .ok (.invokevirtual 15, 3) := by decide +kernel
theorem dJx7c733_init_d00df_13 : decode cJx7c733_init_d00df 13 = .ok (.iload_n 1, 1) := by decide +kernel
theorem dJx7c733_init_d00df_14 : decode cJx7c733_init_d00df 14 = .ok (.invokevirtual 19, 3) := by decide +kernel
theorem dJx7c733_init_d00df_17 : decode cJx7c733_init_d00df 17 = .ok (.invokevirtual 22, 3) := by decide +kernel
theorem dJx7c733_init_d00df_20 : decode cJx7c733_init_d00df 20 = .ok (.invokespecial 7, 3) := by decide +kernel
theorem dJx7c733_init_d00df_23 : decode cJx7c733_init_d00df 23 = .ok (.return_, 1) := by decide +kernel
theorem dJ5_setLength_d00df_0 : decode cJ5_setLength_d00df 0 = .ok (.iload_n 1, 1) := by decide +kernel
theorem dJ5_setLength_d00df_1 : decode cJ5_setLength_d00df 1 = .ok (.ifCond .ge 12, 3) := by decide +kernel
theorem dJ5_setLength_d00df_4 : decode cJ5_setLength_d00df 4 = .ok (.new 129, 3) := by decide +kernel
theorem dJ5_setLength_d00df_7 : decode cJ5_setLength_d00df 7 = .ok (.dup, 1) := by decide +kernel
theorem dJ5_setLength_d00df_8 : decode cJ5_setLength_d00df 8 = .ok (.iload_n 1, 1) := by decide +kernel
theorem dJ5_setLength_d00df_9 : decode cJ5_setLength_d00df 9 = .ok (.invokespecial 131, 3) := by decide +kernel
theorem dJ5_setLength_d00df_12 : decode cJ5_setLength_d00df 12 = .ok (.athrow, 1) := by decide +kernel
theorem dJ5_setLength_d00df_13 : decode cJ5_setLength_d00df 13 = .ok (.aload_n 0, 1) := by decide +kernel
theorem dJ5_setLength_d00df_14 : decode cJ5_setLength_d00df 14 = .ok (.iload_n 1, 1) := by decide +kernel
theorem dJ5_setLength_d00df_15 : decode cJ5_setLength_d00df 15 = .ok (.invokevirtual 100, 3) := by decide +kernel
theorem dJ5_setLength_d00df_18 : decode cJ5_setLength_d00df 18 = .ok (.aload_n 0, 1) := by decide +kernel
theorem dJ5_setLength_d00df_19 : decode cJ5_setLength_d00df 19 = .ok (.getfield 79, 3) := by decide +kernel
theorem dJ5_setLength_d00df_22 : decode cJ5_setLength_d00df 22 = .ok (.iload_n 1, 1) := by decide +kernel
theorem dJ5_setLength_d00df_23 : decode cJ5_setLength_d00df 23 = .ok (.if_icmp .ge 40, 3) := by decide +kernel
theorem dJ5_setLength_d00df_26 : decode cJ5_setLength_d00df 26 = .ok (.aload_n 0, 1) := by decide +kernel
theorem dJ5_setLength_d00df_27 : decode cJ5_setLength_d00df 27 = .ok (.invokevirtual 83, 3) := by decide +kernel
theorem dJ5_setLength_d00df_30 : decode cJ5_setLength_d00df 30 = .ok (.ifCond .eq 18, 3) := by decide +kernel
theorem dJ5_setLength_d00df_33 : decode cJ5_setLength_d00df 33 = .ok (.aload_n 0, 1) := by decide +kernel
theorem dJ5_setLength_d00df_34 : decode cJ5_setLength_d00df 34 = .ok (.getfield 15, 3) := by decide +kernel
theorem dJ5_setLength_d00df_37 : decode cJ5_setLength_d00df 37 = .ok (.aload_n 0, 1) := by decide +kernel
theorem dJ5_setLength_d00df_38 : decode cJ5_setLength_d00df 38 = .ok (.getfield 79, 3) := by decide +kernel
theorem dJ5_setLength_d00df_41 : decode cJ5_setLength_d00df 41 = .ok (.iload_n 1, 1) := by decide +kernel
theorem dJ5_setLength_d00df_42 : decode cJ5_setLength_d00df 42 = .ok (.invokestatic 133, 3) := by decide +kernel
theorem dJ5_setLength_d00df_45 : decode cJ5_setLength_d00df 45 = .ok (.goto 31, 3) := by decide +kernel
theorem dJ5_setLength_d00df_48 : decode cJ5_setLength_d00df 48 = .ok (.aload_n 0, 1) := by decide +kernel
theorem dJ5_setLength_d00df_49 : decode cJ5_setLength_d00df 49 = .ok (.getfield 15, 3) := by decide +kernel
theorem dJ5_setLength_d00df_52 : decode cJ5_setLength_d00df 52 = .ok (.aload_n 0, 1) := by decide +kernel
theorem dJ5_setLength_d00df_53 : decode cJ5_setLength_d00df 53 = .ok (.getfield 79, 3) := by decide +kernel
theorem dJ5_setLength_d00df_56 : decode cJ5_setLength_d00df 56 = .ok (.iload_n 1, 1) := by decide +kernel
theorem dJ5_setLength_d00df_57 : decode cJ5_setLength_d00df 57 = .ok (.invokestatic 137, 3) := by decide +kernel
theorem dJ5_setLength_d00df_60 : decode cJ5_setLength_d00df 60 = .ok (.goto 16, 3) := by decide +kernel
theorem dJ5_setLength_d00df_63 : decode cJ5_setLength_d00df 63 = .ok (.aload_n 0, 1) := by decide +kernel
theorem dJ5_setLength_d00df_64 : decode cJ5_setLength_d00df 64 = .ok (.getfield 79, 3) := by decide +kernel
theorem dJ5_setLength_d00df_67 : decode cJ5_setLength_d00df 67 = .ok (.iload_n 1, 1) := by decide +kernel
theorem dJ5_setLength_d00df_68 : decode cJ5_setLength_d00df 68 = .ok (.if_icmp .le 8, 3) := by decide +kernel
theorem dJ5_setLength_d00df_71 : decode cJ5_setLength_d00df 71 = .ok (.aload_n 0, 1) := by decide +kernel
theorem dJ5_setLength_d00df_72 : decode cJ5_setLength_d00df 72 = .ok (.iconst 1, 1) := by decide +kernel
theorem dJ5_setLength_d00df_73 : decode cJ5_setLength_d00df 73 = .ok (.putfield 73, 3) := by decide +kernel
theorem dJ5_setLength_d00df_76 : decode cJ5_setLength_d00df 76 = .ok (.aload_n 0, 1) := by decide +kernel
theorem dJ5_setLength_d00df_77 : decode cJ5_setLength_d00df 77 = .ok (.iload_n 1, 1) := by decide +kernel
theorem dJ5_setLength_d00df_78 : decode cJ5_setLength_d00df 78 = .ok (.putfield 79, 3) := by decide +kernel
theorem dJ5_setLength_d00df_81 : decode cJ5_setLength_d00df 81 = .ok (.return_, 1) := by decide +kernel
theorem dJ4_setLength_d00df_0 : decode cJ4_setLength_d00df 0 = .ok (.aload_n 0, 1) := by decide +kernel
theorem dJ4_setLength_d00df_1 : decode cJ4_setLength_d00df 1 = .ok (.iload_n 1, 1) := by decide +kernel
theorem dJ4_setLength_d00df_2 : decode cJ4_setLength_d00df 2 = .ok (.invokespecial 333, 3) := by decide +kernel
theorem dJ4_setLength_d00df_5 : decode cJ4_setLength_d00df 5 = .ok (.return_, 1) := by decide +kernel
theorem dJ7_copyOf_6403c_0 : decode cJ7_copyOf_6403c 0 = .ok (.aload_n 2, 1) := by decide +kernel
theorem dJ7_copyOf_6403c_1 : decode cJ7_copyOf_6403c 1 = .ok (.ldc 110, 2) := by decide +kernel
theorem dJ7_copyOf_6403c_3 : decode cJ7_copyOf_6403c 3 = .ok (.if_acmp .ne 10, 3) := by decide +kernel
theorem dJ7_copyOf_6403c_6 : decode cJ7_copyOf_6403c 6 = .ok (.iload_n 1, 1) := by decide +kernel
theorem dJ7_copyOf_6403c_7 : decode cJ7_copyOf_6403c 7 = .ok (.anewarray 2, 3) := by decide +kernel
theorem dJ7_copyOf_6403c_10 : decode cJ7_copyOf_6403c 10 = .ok (.goto 14, 3) := by decide +kernel
theorem dJ7_copyOf_6403c_13 : decode cJ7_copyOf_6403c 13 = .ok (.aload_n 2, 1) := by decide +kernel
theorem dJ7_copyOf_6403c_14 : decode cJ7_copyOf_6403c 14 = .ok (.invokevirtual 90, 3) := by decide +kernel
theorem dJ7_copyOf_6403c_17 : decode cJ7_copyOf_6403c 17 = .ok (.iload_n 1, 1) := by decide +kernel
theorem dJ7_copyOf_6403c_18 : decode cJ7_copyOf_6403c 18 = .ok (.invokestatic 95, 3) := by decide +kernel
theorem dJ7_copyOf_6403c_21 : decode cJ7_copyOf_6403c 21 = .ok (.checkcast 110, 3) := by decide +kernel
theorem dJ7_copyOf_6403c_24 : decode cJ7_copyOf_6403c 24 = .ok (.astore_n 3, 1) := by decide +kernel
theorem dJ7_copyOf_6403c_25 : decode cJ7_copyOf_6403c 25 = .ok (.aload_n 0, 1) := by decide +kernel
theorem dJ7_copyOf_6403c_26 : decode cJ7_copyOf_6403c 26 = .ok (.iconst 0, 1) := by decide +kernel
theorem dJ7_copyOf_6403c_27 : decode cJ7_copyOf_6403c 27 = .ok (.aload_n 3, 1) := by decide +kernel
theorem dJ7_copyOf_6403c_28 : decode cJ7_copyOf_6403c 28 = .ok (.iconst 0, 1) := by decide +kernel
theorem dJ7_copyOf_6403c_29 : decode cJ7_copyOf_6403c 29 = .ok (.aload_n 0, 1) := by decide +kernel
theorem dJ7_copyOf_6403c_30 : decode cJ7_copyOf_6403c 30 = .ok (.arraylength, 1) := by decide +kernel
theorem dJ7_copyOf_6403c_31 : decode cJ7_copyOf_6403c 31 = .ok (.iload_n 1, 1) := by decide +kernel
theorem dJ7_copyOf_6403c_32 : decode cJ7_copyOf_6403c 32 = .ok (.invokestatic 304, 3) := by decide +kernel
theorem dJ7_copyOf_6403c_35 : decode cJ7_copyOf_6403c 35 = .ok (.invokestatic 150, 3) := by decide +kernel
theorem dJ7_copyOf_6403c_38 : decode cJ7_copyOf_6403c 38 = .ok (.aload_n 3, 1) := by decide +kernel
theorem dJ7_copyOf_6403c_39 : decode cJ7_copyOf_6403c 39 = .ok (.areturn, 1) := by decide +kernel
theorem dJ7_copyOf_1904c_0 : decode cJ7_copyOf_1904c 0 = .ok (.aload_n 0, 1) := by decide +kernel
theorem dJ7_copyOf_1904c_1 : decode cJ7_copyOf_1904c 1 = .ok (.iload_n 1, 1) := by decide +kernel
theorem dJ7_copyOf_1904c_2 : decode cJ7_copyOf_1904c 2 = .ok (.aload_n 0, 1) := by decide +kernel
theorem dJ7_copyOf_1904c_3 : decode cJ7_copyOf_1904c 3 = .ok (.invokevirtual 86, 3) := by decide +kernel
theorem dJ7_copyOf_1904c_6 : decode cJ7_copyOf_1904c 6 = .ok (.invokestatic 300, 3) := by decide +kernel
theorem dJ7_copyOf_1904c_9 : decode cJ7_copyOf_1904c 9 = .ok (.areturn, 1) := by decide +kernel
theorem dJ7_fill_53178_0 : decode cJ7_fill_53178 0 = .ok (.iconst 0, 1) := by decide +kernel
theorem dJ7_fill_53178_1 : decode cJ7_fill_53178 1 = .ok (.istore_n 2, 1) := by decide +kernel
theorem dJ7_fill_53178_2 : decode cJ7_fill_53178 2 = .ok (.aload_n 0, 1) := by decide +kernel
theorem dJ7_fill_53178_3 : decode cJ7_fill_53178 3 = .ok (.arraylength, 1) := by decide +kernel
theorem dJ7_fill_53178_4 : decode cJ7_fill_53178 4 = .ok (.istore_n 3, 1) := by decide +kernel
theorem dJ7_fill_53178_5 : decode cJ7_fill_53178 5 = .ok (.iload_n 2, 1) := by decide +kernel
theorem dJ7_fill_53178_6 : decode cJ7_fill_53178 6 = .ok (.iload_n 3, 1) := by decide +kernel
theorem dJ7_fill_53178_7 : decode cJ7_fill_53178 7 = .ok (.if_icmp .ge 13, 3) := by decide +kernel
theorem dJ7_fill_53178_10 : decode cJ7_fill_53178 10 = .ok (.aload_n 0, 1) := by decide +kernel
theorem dJ7_fill_53178_11 : decode cJ7_fill_53178 11 = .ok (.iload_n 2, 1) := by decide +kernel
theorem dJ7_fill_53178_12 : decode cJ7_fill_53178 12 = .ok (.iload_n 1, 1) := by decide +kernel
theorem dJ7_fill_53178_13 : decode cJ7_fill_53178 13 = .ok (.iastore, 1) := by decide +kernel
theorem dJ7_fill_53178_14 : decode cJ7_fill_53178 14 = .ok (.iinc 2 1, 3) := by decide +kernel
theorem dJ7_fill_53178_17 : decode cJ7_fill_53178 17 = .ok (.goto (-12), 3) := by decide +kernel
theorem dJ7_fill_53178_20 : decode cJ7_fill_53178 20 = .ok (.return_, 1) := by decide +kernel
theorem dJx4a65c_grow_92f84_0 : decode cJx4a65c_grow_92f84 0 = .ok (.aload_n 0, 1) := by decide +kernel
theorem dJx4a65c_grow_92f84_1 : decode cJx4a65c_grow_92f84 1 = .ok (.getfield 9, 3) := by decide +kernel
theorem dJx4a65c_grow_92f84_4 : decode cJx4a65c_grow_92f84 4 = .ok (.arraylength, 1) := by decide +kernel
theorem dJx4a65c_grow_92f84_5 : decode cJx4a65c_grow_92f84 5 = .ok (.istore_n 2, 1) := by decide +kernel
theorem dJx4a65c_grow_92f84_6 : decode cJx4a65c_grow_92f84 6 = .ok (.iload_n 2, 1) := by decide +kernel
theorem dJx4a65c_grow_92f84_7 : decode cJx4a65c_grow_92f84 7 = .ok (.ifCond .gt 13, 3) := by decide +kernel
theorem dJx4a65c_grow_92f84_10 : decode cJx4a65c_grow_92f84 10 = .ok (.aload_n 0, 1) := by decide +kernel
theorem dJx4a65c_grow_92f84_11 : decode cJx4a65c_grow_92f84 11 = .ok (.getfield 9, 3) := by decide +kernel
theorem dJx4a65c_grow_92f84_14 : decode cJx4a65c_grow_92f84 14 = .ok (.getstatic 39, 3) := by decide +kernel
theorem dJx4a65c_grow_92f84_17 : decode cJx4a65c_grow_92f84 17 = .ok (.if_acmp .eq 28, 3) := by decide +kernel
theorem dJx4a65c_grow_92f84_20 : decode cJx4a65c_grow_92f84 20 = .ok (.iload_n 2, 1) := by decide +kernel
theorem dJx4a65c_grow_92f84_21 : decode cJx4a65c_grow_92f84 21 = .ok (.iload_n 1, 1) := by decide +kernel
theorem dJx4a65c_grow_92f84_22 : decode cJx4a65c_grow_92f84 22 = .ok (.iload_n 2, 1) := by decide +kernel
theorem dJx4a65c_grow_92f84_23 : decode cJx4a65c_grow_92f84 23 = .ok (.isub, 1) := by decide +kernel
theorem dJx4a65c_grow_92f84_24 : decode cJx4a65c_grow_92f84 24 = .ok (.iload_n 2, 1) := by decide +kernel
theorem dJx4a65c_grow_92f84_25 : decode cJx4a65c_grow_92f84 25 = .ok (.iconst 1, 1) := by decide +kernel
theorem dJx4a65c_grow_92f84_26 : decode cJx4a65c_grow_92f84 26 = .ok (.ishr, 1) := by decide +kernel
theorem dJx4a65c_grow_92f84_27 : decode cJx4a65c_grow_92f84 27 = .ok (.invokestatic 73, 3) := by decide +kernel
theorem dJx4a65c_grow_92f84_30 : decode cJx4a65c_grow_92f84 30 = .ok (.istore_n 3, 1) := by decide +kernel
theorem dJx4a65c_grow_92f84_31 : decode cJx4a65c_grow_92f84 31 = .ok (.aload_n 0, 1) := by decide +kernel
theorem dJx4a65c_grow_92f84_32 : decode cJx4a65c_grow_92f84 32 = .ok (.aload_n 0, 1) := by decide +kernel
theorem dJx4a65c_grow_92f84_33 : decode cJx4a65c_grow_92f84 33 = .ok (.getfield 9, 3) := by decide +kernel
theorem dJx4a65c_grow_92f84_36 : decode cJx4a65c_grow_92f84 36 = .ok (.iload_n 3, 1) := by decide +kernel
theorem dJx4a65c_grow_92f84_37 : decode cJx4a65c_grow_92f84 37 = .ok (.invokestatic 66, 3) := by decide +kernel
theorem dJx4a65c_grow_92f84_40 : decode cJx4a65c_grow_92f84 40 = .ok (.dup_x1, 1) := by decide +kernel
theorem dJx4a65c_grow_92f84_41 : decode cJx4a65c_grow_92f84 41 = .ok (.putfield 9, 3) := by decide +kernel
theorem dJx4a65c_grow_92f84_44 : decode cJx4a65c_grow_92f84 44 = .ok (.areturn, 1) := by decide +kernel
theorem dJx4a65c_grow_92f84_45 : decode cJx4a65c_grow_92f84 45 = .ok (.aload_n 0, 1) := by decide +kernel
theorem dJx4a65c_grow_92f84_46 : decode cJx4a65c_grow_92f84 46 = .ok (.bipush 10, 2) := by decide +kernel
theorem dJx4a65c_grow_92f84_48 : decode cJx4a65c_grow_92f84 48 = .ok (.iload_n 1, 1) := by decide +kernel
theorem dJx4a65c_grow_92f84_49 : decode cJx4a65c_grow_92f84 49 = .ok (.invokestatic 79, 3) := by decide +kernel
theorem dJx4a65c_grow_92f84_52 : decode cJx4a65c_grow_92f84 52 = .ok (.anewarray 7, 3) := by decide +kernel
theorem dJx4a65c_grow_92f84_55 : decode cJx4a65c_grow_92f84 55 = .ok (.dup_x1, 1) := by decide +kernel
theorem dJx4a65c_grow_92f84_56 : decode cJx4a65c_grow_92f84 56 = .ok (.putfield 9, 3) := by decide +kernel
theorem dJx4a65c_grow_92f84_59 : decode cJx4a65c_grow_92f84 59 = .ok (.areturn, 1) := by decide +kernel
theorem dJx4a65c_grow_d5877_0 : decode cJx4a65c_grow_d5877 0 = .ok (.aload_n 0, 1) := by decide +kernel
theorem dJx4a65c_grow_d5877_1 : decode cJx4a65c_grow_d5877 1 = .ok (.aload_n 0, 1) := by decide +kernel
theorem dJx4a65c_grow_d5877_2 : decode cJx4a65c_grow_d5877 2 = .ok (.getfield 48, 3) := by decide +kernel
theorem dJx4a65c_grow_d5877_5 : decode cJx4a65c_grow_d5877 5 = .ok (.iconst 1, 1) := by decide +kernel
theorem dJx4a65c_grow_d5877_6 : decode cJx4a65c_grow_d5877 6 = .ok (.iadd, 1) := by decide +kernel
theorem dJx4a65c_grow_d5877_7 : decode cJx4a65c_grow_d5877 7 = .ok (.invokevirtual 69, 3) := by decide +kernel
theorem dJx4a65c_grow_d5877_10 : decode cJx4a65c_grow_d5877 10 = .ok (.areturn, 1) := by decide +kernel
theorem dJx4a65c_add_72be8_0 : decode cJx4a65c_add_72be8 0 = .ok (.iload_n 3, 1) := by decide +kernel
theorem dJx4a65c_add_72be8_1 : decode cJx4a65c_add_72be8 1 = .ok (.aload_n 2, 1) := by decide +kernel
theorem dJx4a65c_add_72be8_2 : decode cJx4a65c_add_72be8 2 = .ok (.arraylength, 1) := by decide +kernel
theorem dJx4a65c_add_72be8_3 : decode cJx4a65c_add_72be8 3 = .ok (.if_icmp .ne 8, 3) := by decide +kernel
theorem dJx4a65c_add_72be8_6 : decode cJx4a65c_add_72be8 6 = .ok (.aload_n 0, 1) := by decide +kernel
theorem dJx4a65c_add_72be8_7 : decode cJx4a65c_add_72be8 7 = .ok (.invokevirtual 129, 3) := by decide +kernel
theorem dJx4a65c_add_72be8_10 : decode cJx4a65c_add_72be8 10 = .ok (.astore_n 2, 1) := by decide +kernel
theorem dJx4a65c_add_72be8_11 : decode cJx4a65c_add_72be8 11 = .ok (.aload_n 2, 1) := by decide +kernel
theorem dJx4a65c_add_72be8_12 : decode cJx4a65c_add_72be8 12 = .ok (.iload_n 3, 1) := by decide +kernel
theorem dJx4a65c_add_72be8_13 : decode cJx4a65c_add_72be8 13 = .ok (.aload_n 1, 1) := by decide +kernel
theorem dJx4a65c_add_72be8_14 : decode cJx4a65c_add_72be8 14 = .ok (.aastore, 1) := by decide +kernel
theorem dJx4a65c_add_72be8_15 : decode cJx4a65c_add_72be8 15 = .ok (.aload_n 0, 1) := by decide +kernel
theorem dJx4a65c_add_72be8_16 : decode cJx4a65c_add_72be8 16 = .ok (.iload_n 3, 1) := by decide +kernel
theorem dJx4a65c_add_72be8_17 : decode cJx4a65c_add_72be8 17 = .ok (.iconst 1, 1) := by decide +kernel
theorem dJx4a65c_add_72be8_18 : decode cJx4a65c_add_72be8 18 = .ok (.iadd, 1) := by decide +kernel
theorem dJx4a65c_add_72be8_19 : decode cJx4a65c_add_72be8 19 = .ok (.putfield 48, 3) := by decide +kernel
theorem dJx4a65c_add_72be8_22 : decode cJx4a65c_add_72be8 22 = .ok (.return_, 1) := by decide +kernel
theorem dJx4a65c_add_9ea2d_0 : decode cJx4a65c_add_9ea2d 0 = .ok (.aload_n 0, 1) := by decide +kernel
theorem dJx4a65c_add_9ea2d_1 : decode cJx4a65c_add_9ea2d 1 = .ok (.dup, 1) := by decide +kernel
theorem dJx4a65c_add_9ea2d_2 : decode cJx4a65c_add_9ea2d 2 = .ok (.getfield 63, 3) := by decide +kernel
theorem dJx4a65c_add_9ea2d_5 : decode cJx4a65c_add_9ea2d 5 = .ok (.iconst 1, 1) := by decide +kernel
theorem dJx4a65c_add_9ea2d_6 : decode cJx4a65c_add_9ea2d 6 = .ok (.iadd, 1) := by decide +kernel
theorem dJx4a65c_add_9ea2d_7 : decode cJx4a65c_add_9ea2d 7 = .ok (.putfield 63, 3) := by decide +kernel
theorem dJx4a65c_add_9ea2d_10 : decode cJx4a65c_add_9ea2d 10 = .ok (.aload_n 0, 1) := by decide +kernel
theorem dJx4a65c_add_9ea2d_11 : decode cJx4a65c_add_9ea2d 11 = .ok (.aload_n 1, 1) := by decide +kernel
theorem dJx4a65c_add_9ea2d_12 : decode cJx4a65c_add_9ea2d 12 = .ok (.aload_n 0, 1) := by decide +kernel
theorem dJx4a65c_add_9ea2d_13 : decode cJx4a65c_add_9ea2d 13 = .ok (.getfield 9, 3) := by decide +kernel
theorem dJx4a65c_add_9ea2d_16 : decode cJx4a65c_add_9ea2d 16 = .ok (.aload_n 0, 1) := by decide +kernel
theorem dJx4a65c_add_9ea2d_17 : decode cJx4a65c_add_9ea2d 17 = .ok (.getfield 48, 3) := by decide +kernel
theorem dJx4a65c_add_9ea2d_20 : decode cJx4a65c_add_9ea2d 20 = .ok (.invokevirtual 131, 3) := by decide +kernel
theorem dJx4a65c_add_9ea2d_23 : decode cJx4a65c_add_9ea2d 23 = .ok (.iconst 1, 1) := by decide +kernel
theorem dJx4a65c_add_9ea2d_24 : decode cJx4a65c_add_9ea2d 24 = .ok (.ireturn, 1) := by decide +kernel
theorem dJx4a65c_clear_da8c8_0 : decode cJx4a65c_clear_da8c8 0 = .ok (.aload_n 0, 1) := by decide +kernel
theorem dJx4a65c_clear_da8c8_1 : decode cJx4a65c_clear_da8c8 1 = .ok (.dup, 1) := by decide +kernel
theorem dJx4a65c_clear_da8c8_2 : decode cJx4a65c_clear_da8c8 2 = .ok (.getfield 63, 3) := by decide +kernel
theorem dJx4a65c_clear_da8c8_5 : decode cJx4a65c_clear_da8c8 5 = .ok (.iconst 1, 1) := by decide +kernel
theorem dJx4a65c_clear_da8c8_6 : decode cJx4a65c_clear_da8c8 6 = .ok (.iadd, 1) := by decide +kernel
theorem dJx4a65c_clear_da8c8_7 : decode cJx4a65c_clear_da8c8 7 = .ok (.putfield 63, 3) := by decide +kernel
theorem dJx4a65c_clear_da8c8_10 : decode cJx4a65c_clear_da8c8 10 = .ok (.aload_n 0, 1) := by decide +kernel
theorem dJx4a65c_clear_da8c8_11 : decode cJx4a65c_clear_da8c8 11 = .ok (.getfield 9, 3) := by decide +kernel
theorem dJx4a65c_clear_da8c8_14 : decode cJx4a65c_clear_da8c8 14 = .ok (.astore_n 1, 1) := by decide +kernel
theorem dJx4a65c_clear_da8c8_15 : decode cJx4a65c_clear_da8c8 15 = .ok (.aload_n 0, 1) := by decide +kernel
theorem dJx4a65c_clear_da8c8_16 : decode cJx4a65c_clear_da8c8 16 = .ok (.getfield 48, 3) := by decide +kernel
theorem dJx4a65c_clear_da8c8_19 : decode cJx4a65c_clear_da8c8 19 = .ok (.istore_n 2, 1) := by decide +kernel
theorem dJx4a65c_clear_da8c8_20 : decode cJx4a65c_clear_da8c8 20 = .ok (.aload_n 0, 1) := by decide +kernel
theorem dJx4a65c_clear_da8c8_21 : decode cJx4a65c_clear_da8c8 21 = .ok (.iconst 0, 1) := by decide +kernel
theorem dJx4a65c_clear_da8c8_22 : decode cJx4a65c_clear_da8c8 22 = .ok (.dup_x1, 1) := by decide +kernel
theorem dJx4a65c_clear_da8c8_23 : decode cJx4a65c_clear_da8c8 23 = .ok (.putfield 48, 3) := by decide +kernel
theorem dJx4a65c_clear_da8c8_26 : decode cJx4a65c_clear_da8c8 26 = .ok (.istore_n 3, 1) := by decide +kernel
theorem dJx4a65c_clear_da8c8_27 : decode cJx4a65c_clear_da8c8 27 = .ok (.iload_n 3, 1) := by decide +kernel
theorem dJx4a65c_clear_da8c8_28 : decode cJx4a65c_clear_da8c8 28 = .ok (.iload_n 2, 1) := by decide +kernel
theorem dJx4a65c_clear_da8c8_29 : decode cJx4a65c_clear_da8c8 29 = .ok (.if_icmp .ge 13, 3) := by decide +kernel
theorem dJx4a65c_clear_da8c8_32 : decode cJx4a65c_clear_da8c8 32 = .ok (.aload_n 1, 1) := by decide +kernel
theorem dJx4a65c_clear_da8c8_33 : decode cJx4a65c_clear_da8c8 33 = .ok (.iload_n 3, 1) := by decide +kernel
theorem dJx4a65c_clear_da8c8_34 : decode cJx4a65c_clear_da8c8 34 = .ok (.aconst_null, 1) := by decide +kernel
theorem dJx4a65c_clear_da8c8_35 : decode cJx4a65c_clear_da8c8 35 = .ok (.aastore, 1) := by decide +kernel
theorem dJx4a65c_clear_da8c8_36 : decode cJx4a65c_clear_da8c8 36 = .ok (.iinc 3 1, 3) := by decide +kernel
theorem dJx4a65c_clear_da8c8_39 : decode cJx4a65c_clear_da8c8 39 = .ok (.goto (-12), 3) := by decide +kernel
theorem dJx4a65c_clear_da8c8_42 : decode cJx4a65c_clear_da8c8 42 = .ok (.return_, 1) := by decide +kernel
theorem dJx4a65c_elementData_915e3_0 : decode cJx4a65c_elementData_915e3 0 = .ok (.aload_n 0, 1) := by decide +kernel
theorem dJx4a65c_elementData_915e3_1 : decode cJx4a65c_elementData_915e3 1 = .ok (.getfield 9, 3) := by decide +kernel
theorem dJx4a65c_elementData_915e3_4 : decode cJx4a65c_elementData_915e3 4 = .ok (.iload_n 1, 1) := by decide +kernel
theorem dJx4a65c_elementData_915e3_5 : decode cJx4a65c_elementData_915e3 5 = .ok (.aaload, 1) := by decide +kernel
theorem dJx4a65c_elementData_915e3_6 : decode cJx4a65c_elementData_915e3 6 = .ok (.areturn, 1) := by decide +kernel
theorem dJx4a65c_get_915e3_0 : decode cJx4a65c_get_915e3 0 = .ok (.iload_n 1, 1) := by decide +kernel
theorem dJx4a65c_get_915e3_1 : decode cJx4a65c_get_915e3 1 = .ok (.aload_n 0, 1) := by decide +kernel
theorem dJx4a65c_get_915e3_2 : decode cJx4a65c_get_915e3 2 = .ok (.getfield 48, 3) := by decide +kernel
theorem dJx4a65c_get_915e3_5 : decode cJx4a65c_get_915e3 5 = .ok (.invokestatic 118, 3) := by decide +kernel
theorem dJx4a65c_get_915e3_8 : decode cJx4a65c_get_915e3 8 = .ok (.pop, 1) := by decide +kernel
theorem dJx4a65c_get_915e3_9 : decode cJx4a65c_get_915e3 9 = .ok (.aload_n 0, 1) := by decide +kernel
theorem dJx4a65c_get_915e3_10 : decode cJx4a65c_get_915e3 10 = .ok (.iload_n 1, 1) := by decide +kernel
theorem dJx4a65c_get_915e3_11 : decode cJx4a65c_get_915e3 11 = .ok (.invokevirtual 123, 3) := by decide +kernel
theorem dJx4a65c_get_915e3_14 : decode cJx4a65c_get_915e3 14 = .ok (.areturn, 1) := by decide +kernel
theorem dJxa1e45_init_da8c8_0 : decode cJxa1e45_init_da8c8 0 = .ok (.aload_n 0, 1) := by decide +kernel
theorem dJxa1e45_init_da8c8_1 : decode cJxa1e45_init_da8c8 1 = .ok (.invokespecial 1, 3) := by decide +kernel
theorem dJxa1e45_init_da8c8_4 : decode cJxa1e45_init_da8c8 4 = .ok (.return_, 1) := by decide +kernel
theorem dJxc12de_init_da8c8_0 : decode cJxc12de_init_da8c8 0 = .ok (.aload_n 0, 1) := by decide +kernel
theorem dJxc12de_init_da8c8_1 : decode cJxc12de_init_da8c8 1 = .ok (.invokespecial 1, 3) := by decide +kernel
theorem dJxc12de_init_da8c8_4 : decode cJxc12de_init_da8c8 4 = .ok (.aload_n 0, 1) := by decide +kernel
theorem dJxc12de_init_da8c8_5 : decode cJxc12de_init_da8c8 5 = .ok (.iconst 0, 1) := by decide +kernel
theorem dJxc12de_init_da8c8_6 : decode cJxc12de_init_da8c8 6 = .ok (.putfield 7, 3) := by decide +kernel
theorem dJxc12de_init_da8c8_9 : decode cJxc12de_init_da8c8 9 = .ok (.return_, 1) := by decide +kernel
theorem dJx4a65c_init_da8c8_0 : decode cJx4a65c_init_da8c8 0 = .ok (.aload_n 0, 1) := by decide +kernel
theorem dJx4a65c_init_da8c8_1 : decode cJx4a65c_init_da8c8 1 = .ok (.invokespecial 1, 3) := by decide +kernel
theorem dJx4a65c_init_da8c8_4 : decode cJx4a65c_init_da8c8 4 = .ok (.aload_n 0, 1) := by decide +kernel
theorem dJx4a65c_init_da8c8_5 : decode cJx4a65c_init_da8c8 5 = .ok (.getstatic 39, 3) := by decide +kernel
theorem dJx4a65c_init_da8c8_8 : decode cJx4a65c_init_da8c8 8 = .ok (.putfield 9, 3) := by decide +kernel
theorem dJx4a65c_init_da8c8_11 : decode cJx4a65c_init_da8c8 11 = .ok (.return_, 1) := by decide +kernel
theorem dJx4a65c_size_8abf5_0 : decode cJx4a65c_size_8abf5 0 = .ok (.aload_n 0, 1) := by decide +kernel
theorem dJx4a65c_size_8abf5_1 : decode cJx4a65c_size_8abf5 1 = .ok (.getfield 48, 3) := by decide +kernel
theorem dJx4a65c_size_8abf5_4 : decode cJx4a65c_size_8abf5 4 = .ok (.ireturn, 1) := by decide +kernel
theorem dX0_init_0 : decode cX0_init 0 = .ok (.aload_n 0, 1) := by decide +kernel
theorem dX0_init_1 : decode cX0_init 1 = .ok (.invokespecial 3, 3) := by decide +kernel
theorem dX0_init_4 : decode cX0_init 4 = .ok (.aload_n 0, 1) := by decide +kernel
theorem dX0_init_5 : decode cX0_init 5 = .ok (.iconst 0, 1) := by decide +kernel
theorem dX0_init_6 : decode cX0_init 6 = .ok (.putfield 9, 3) := by decide +kernel
theorem dX0_init_9 : decode cX0_init 9 = .ok (.aload_n 0, 1) := by decide +kernel
theorem dX0_init_10 : decode cX0_init 10 = .ok (.iconst 0, 1) := by decide +kernel
theorem dX0_init_11 : decode cX0_init 11 = .ok (.putfield 15, 3) := by decide +kernel
theorem dX0_init_14 : decode cX0_init 14 = .ok (.aload_n 0, 1) := by decide +kernel
theorem dX0_init_15 : decode cX0_init 15 = .ok (.iconst 0, 1) := by decide +kernel
theorem dX0_init_16 : decode cX0_init 16 = .ok (.putfield 18, 3) := by decide +kernel
theorem dX0_init_19 : decode cX0_init 19 = .ok (.aload_n 0, 1) := by decide +kernel
theorem dX0_init_20 : decode cX0_init 20 = .ok (.lconst 0, 1) := by decide +kernel
theorem dX0_init_21 : decode cX0_init 21 = .ok (.putfield 21, 3) := by decide +kernel
theorem dX0_init_24 : decode cX0_init 24 = .ok (.aload_n 0, 1) := by decide +kernel
theorem dX0_init_25 : decode cX0_init 25 = .ok (.bipush 64, 2) := by decide +kernel
theorem dX0_init_27 : decode cX0_init 27 = .ok (.newarray .int, 2) := by decide +kernel
theorem dX0_init_29 : decode cX0_init 29 = .ok (.putfield 25, 3) := by decide +kernel
theorem dX0_init_32 : decode cX0_init 32 = .ok (.aload_n 0, 1) := by decide +kernel
theorem dX0_init_33 : decode cX0_init 33 = .ok (.bipush 64, 2) := by decide +kernel
theorem dX0_init_35 : decode cX0_init 35 = .ok (.newarray .int, 2) := by decide +kernel
theorem dX0_init_37 : decode cX0_init 37 = .ok (.putfield 29, 3) := by decide +kernel
theorem dX0_init_40 : decode cX0_init 40 = .ok (.aload_n 0, 1) := by decide +kernel
theorem dX0_init_41 : decode cX0_init 41 = .ok (.sipush 512, 3) := by decide +kernel
theorem dX0_init_44 : decode cX0_init 44 = .ok (.newarray .long, 2) := by decide +kernel
theorem dX0_init_46 : decode cX0_init 46 = .ok (.putfield 32, 3) := by decide +kernel
theorem dX0_init_49 : decode cX0_init 49 = .ok (.aload_n 0, 1) := by decide +kernel
theorem dX0_init_50 : decode cX0_init 50 = .ok (.bipush 64, 2) := by decide +kernel
theorem dX0_init_52 : decode cX0_init 52 = .ok (.newarray .long, 2) := by decide +kernel
theorem dX0_init_54 : decode cX0_init 54 = .ok (.putfield 36, 3) := by decide +kernel
theorem dX0_init_57 : decode cX0_init 57 = .ok (.aload_n 0, 1) := by decide +kernel
theorem dX0_init_58 : decode cX0_init 58 = .ok (.bipush 64, 2) := by decide +kernel
theorem dX0_init_60 : decode cX0_init 60 = .ok (.newarray .long, 2) := by decide +kernel
theorem dX0_init_62 : decode cX0_init 62 = .ok (.putfield 39, 3) := by decide +kernel
theorem dX0_init_65 : decode cX0_init 65 = .ok (.aload_n 0, 1) := by decide +kernel
theorem dX0_init_66 : decode cX0_init 66 = .ok (.bipush 64, 2) := by decide +kernel
theorem dX0_init_68 : decode cX0_init 68 = .ok (.newarray .long, 2) := by decide +kernel
theorem dX0_init_70 : decode cX0_init 70 = .ok (.putfield 42, 3) := by decide +kernel
theorem dX0_init_73 : decode cX0_init 73 = .ok (.aload_n 0, 1) := by decide +kernel
theorem dX0_init_74 : decode cX0_init 74 = .ok (.bipush 64, 2) := by decide +kernel
theorem dX0_init_76 : decode cX0_init 76 = .ok (.newarray .long, 2) := by decide +kernel
theorem dX0_init_78 : decode cX0_init 78 = .ok (.putfield 45, 3) := by decide +kernel
theorem dX0_init_81 : decode cX0_init 81 = .ok (.aload_n 0, 1) := by decide +kernel
theorem dX0_init_82 : decode cX0_init 82 = .ok (.bipush 64, 2) := by decide +kernel
theorem dX0_init_84 : decode cX0_init 84 = .ok (.newarray .long, 2) := by decide +kernel
theorem dX0_init_86 : decode cX0_init 86 = .ok (.putfield 48, 3) := by decide +kernel
theorem dX0_init_89 : decode cX0_init 89 = .ok (.return_, 1) := by decide +kernel
theorem dX0_laySquare_0 : decode cX0_laySquare 0 = .ok (.aload_n 0, 1) := by decide +kernel
theorem dX0_laySquare_1 : decode cX0_laySquare 1 = .ok (.iload_n 1, 1) := by decide +kernel
theorem dX0_laySquare_2 : decode cX0_laySquare 2 = .ok (.invokevirtual 61, 3) := by decide +kernel
theorem dX0_laySquare_5 : decode cX0_laySquare 5 = .ok (.ifCond .ne 4, 3) := by decide +kernel
theorem dX0_laySquare_8 : decode cX0_laySquare 8 = .ok (.return_, 1) := by decide +kernel
theorem dX0_laySquare_9 : decode cX0_laySquare 9 = .ok (.iload_n 3, 1) := by decide +kernel
theorem dX0_laySquare_10 : decode cX0_laySquare 10 = .ok (.ifCond .eq 13, 3) := by decide +kernel
theorem dX0_laySquare_13 : decode cX0_laySquare 13 = .ok (.iload_n 3, 1) := by decide +kernel
theorem dX0_laySquare_14 : decode cX0_laySquare 14 = .ok (.aload_n 0, 1) := by decide +kernel
theorem dX0_laySquare_15 : decode cX0_laySquare 15 = .ok (.getfield 15, 3) := by decide +kernel
theorem dX0_laySquare_18 : decode cX0_laySquare 18 = .ok (.iconst 1, 1) := by decide +kernel
theorem dX0_laySquare_19 : decode cX0_laySquare 19 = .ok (.isub, 1) := by decide +kernel
theorem dX0_laySquare_20 : decode cX0_laySquare 20 = .ok (.if_icmp .ne 15, 3) := by decide +kernel
theorem dX0_laySquare_23 : decode cX0_laySquare 23 = .ok (.aload_n 0, 1) := by decide +kernel
theorem dX0_laySquare_24 : decode cX0_laySquare 24 = .ok (.dup, 1) := by decide +kernel
theorem dX0_laySquare_25 : decode cX0_laySquare 25 = .ok (.getfield 21, 3) := by decide +kernel
theorem dX0_laySquare_28 : decode cX0_laySquare 28 = .ok (.lconst 1, 1) := by decide +kernel
theorem dX0_laySquare_29 : decode cX0_laySquare 29 = .ok (.iload_n 1, 1) := by decide +kernel
theorem dX0_laySquare_30 : decode cX0_laySquare 30 = .ok (.lshl, 1) := by decide +kernel
theorem dX0_laySquare_31 : decode cX0_laySquare 31 = .ok (.lor, 1) := by decide +kernel
theorem dX0_laySquare_32 : decode cX0_laySquare 32 = .ok (.putfield 21, 3) := by decide +kernel
theorem dX0_laySquare_35 : decode cX0_laySquare 35 = .ok (.aload_n 0, 1) := by decide +kernel
theorem dX0_laySquare_36 : decode cX0_laySquare 36 = .ok (.getfield 25, 3) := by decide +kernel
theorem dX0_laySquare_39 : decode cX0_laySquare 39 = .ok (.iload_n 1, 1) := by decide +kernel
theorem dX0_laySquare_40 : decode cX0_laySquare 40 = .ok (.iload_n 2, 1) := by decide +kernel
theorem dX0_laySquare_41 : decode cX0_laySquare 41 = .ok (.iastore, 1) := by decide +kernel
theorem dX0_laySquare_42 : decode cX0_laySquare 42 = .ok (.aload_n 0, 1) := by decide +kernel
theorem dX0_laySquare_43 : decode cX0_laySquare 43 = .ok (.getfield 29, 3) := by decide +kernel
theorem dX0_laySquare_46 : decode cX0_laySquare 46 = .ok (.iload_n 1, 1) := by decide +kernel
theorem dX0_laySquare_47 : decode cX0_laySquare 47 = .ok (.iload_n 3, 1) := by decide +kernel
theorem dX0_laySquare_48 : decode cX0_laySquare 48 = .ok (.iastore, 1) := by decide +kernel
theorem dX0_laySquare_49 : decode cX0_laySquare 49 = .ok (.aload_n 0, 1) := by decide +kernel
theorem dX0_laySquare_50 : decode cX0_laySquare 50 = .ok (.getfield 36, 3) := by decide +kernel
theorem dX0_laySquare_53 : decode cX0_laySquare 53 = .ok (.iload_n 1, 1) := by decide +kernel
theorem dX0_laySquare_54 : decode cX0_laySquare 54 = .ok (.lconst 0, 1) := by decide +kernel
theorem dX0_laySquare_55 : decode cX0_laySquare 55 = .ok (.lastore, 1) := by decide +kernel
theorem dX0_laySquare_56 : decode cX0_laySquare 56 = .ok (.aload_n 0, 1) := by decide +kernel
theorem dX0_laySquare_57 : decode cX0_laySquare 57 = .ok (.getfield 39, 3) := by decide +kernel
theorem dX0_laySquare_60 : decode cX0_laySquare 60 = .ok (.iload_n 1, 1) := by decide +kernel
theorem dX0_laySquare_61 : decode cX0_laySquare 61 = .ok (.lconst 0, 1) := by decide +kernel
theorem dX0_laySquare_62 : decode cX0_laySquare 62 = .ok (.lastore, 1) := by decide +kernel
theorem dX0_laySquare_63 : decode cX0_laySquare 63 = .ok (.iconst 0, 1) := by decide +kernel
theorem dX0_laySquare_64 : decode cX0_laySquare 64 = .ok (.istore 4, 2) := by decide +kernel
theorem dX0_laySquare_66 : decode cX0_laySquare 66 = .ok (.iload 4, 2) := by decide +kernel
theorem dX0_laySquare_68 : decode cX0_laySquare 68 = .ok (.bipush 8, 2) := by decide +kernel
theorem dX0_laySquare_70 : decode cX0_laySquare 70 = .ok (.if_icmp .ge 97, 3) := by decide +kernel
theorem dX0_laySquare_73 : decode cX0_laySquare 73 = .ok (.aload_n 0, 1) := by decide +kernel
theorem dX0_laySquare_74 : decode cX0_laySquare 74 = .ok (.getfield 32, 3) := by decide +kernel
theorem dX0_laySquare_77 : decode cX0_laySquare 77 = .ok (.iload_n 1, 1) := by decide +kernel
theorem dX0_laySquare_78 : decode cX0_laySquare 78 = .ok (.bipush 8, 2) := by decide +kernel
theorem dX0_laySquare_80 : decode cX0_laySquare 80 = .ok (.imul, 1) := by decide +kernel
theorem dX0_laySquare_81 : decode cX0_laySquare 81 = .ok (.iload 4, 2) := by decide +kernel
theorem dX0_laySquare_83 : decode cX0_laySquare 83 = .ok (.iadd, 1) := by decide +kernel
theorem dX0_laySquare_84 : decode cX0_laySquare 84 = .ok (.aload_n 0, 1) := by decide +kernel
theorem dX0_laySquare_85 : decode cX0_laySquare 85 = .ok (.iload_n 2, 1) := by decide +kernel
theorem dX0_laySquare_86 : decode cX0_laySquare 86 = .ok (.iload_n 3, 1) := by decide +kernel
theorem dX0_laySquare_87 : decode cX0_laySquare 87 = .ok (.getstatic 65, 3) := by decide +kernel
theorem dX0_laySquare_90 : decode cX0_laySquare 90 = .ok (.iload 4, 2) := by decide +kernel
theorem dX0_laySquare_92 : decode cX0_laySquare 92 = .ok (.iaload, 1) := by decide +kernel
theorem dX0_laySquare_93 : decode cX0_laySquare 93 = .ok (.getstatic 68, 3) := by decide +kernel
theorem dX0_laySquare_96 : decode cX0_laySquare 96 = .ok (.iload 4, 2) := by decide +kernel
theorem dX0_laySquare_98 : decode cX0_laySquare 98 = .ok (.iaload, 1) := by decide +kernel
theorem dX0_laySquare_99 : decode cX0_laySquare 99 = .ok (.invokevirtual 71, 3) := by decide +kernel
theorem dX0_laySquare_102 : decode cX0_laySquare 102 = .ok (.lastore, 1) := by decide +kernel
theorem dX0_laySquare_103 : decode cX0_laySquare 103 = .ok (.aload_n 0, 1) := by decide +kernel
theorem dX0_laySquare_104 : decode cX0_laySquare 104 = .ok (.getfield 36, 3) := by decide +kernel
theorem dX0_laySquare_107 : decode cX0_laySquare 107 = .ok (.iload_n 1, 1) := by decide +kernel
theorem dX0_laySquare_108 : decode cX0_laySquare 108 = .ok (.dup2, 1) := by decide +kernel
theorem dX0_laySquare_109 : decode cX0_laySquare 109 = .ok (.laload, 1) := by decide +kernel
theorem dX0_laySquare_110 : decode cX0_laySquare 110 = .ok (.aload_n 0, 1) := by decide +kernel
theorem dX0_laySquare_111 : decode cX0_laySquare 111 = .ok (.iload_n 2, 1) := by decide +kernel
theorem dX0_laySquare_112 : decode cX0_laySquare 112 = .ok (.getstatic 65, 3) := by decide +kernel
theorem dX0_laySquare_115 : decode cX0_laySquare 115 = .ok (.iload 4, 2) := by decide +kernel
theorem dX0_laySquare_117 : decode cX0_laySquare 117 = .ok (.iaload, 1) := by decide +kernel
theorem dX0_laySquare_118 : decode cX0_laySquare 118 = .ok (.iadd, 1) := by decide +kernel
theorem dX0_laySquare_119 : decode cX0_laySquare 119 = .ok (.iload_n 3, 1) := by decide +kernel
theorem dX0_laySquare_120 : decode cX0_laySquare 120 = .ok (.getstatic 68, 3) := by decide +kernel
theorem dX0_laySquare_123 : decode cX0_laySquare 123 = .ok (.iload 4, 2) := by decide +kernel
theorem dX0_laySquare_125 : decode cX0_laySquare 125 = .ok (.iaload, 1) := by decide +kernel
theorem dX0_laySquare_126 : decode cX0_laySquare 126 = .ok (.iadd, 1) := by decide +kernel
theorem dX0_laySquare_127 : decode cX0_laySquare 127 = .ok (.invokevirtual 75, 3) := by decide +kernel
theorem dX0_laySquare_130 : decode cX0_laySquare 130 = .ok (.lor, 1) := by decide +kernel
theorem dX0_laySquare_131 : decode cX0_laySquare 131 = .ok (.lastore, 1) := by decide +kernel
theorem dX0_laySquare_132 : decode cX0_laySquare 132 = .ok (.aload_n 0, 1) := by decide +kernel
theorem dX0_laySquare_133 : decode cX0_laySquare 133 = .ok (.getfield 39, 3) := by decide +kernel
theorem dX0_laySquare_136 : decode cX0_laySquare 136 = .ok (.iload_n 1, 1) := by decide +kernel
theorem dX0_laySquare_137 : decode cX0_laySquare 137 = .ok (.dup2, 1) := by decide +kernel
theorem dX0_laySquare_138 : decode cX0_laySquare 138 = .ok (.laload, 1) := by decide +kernel
theorem dX0_laySquare_139 : decode cX0_laySquare 139 = .ok (.aload_n 0, 1) := by decide +kernel
theorem dX0_laySquare_140 : decode cX0_laySquare 140 = .ok (.iload_n 2, 1) := by decide +kernel
theorem dX0_laySquare_141 : decode cX0_laySquare 141 = .ok (.getstatic 79, 3) := by decide +kernel
theorem dX0_laySquare_144 : decode cX0_laySquare 144 = .ok (.iload 4, 2) := by decide +kernel
theorem dX0_laySquare_146 : decode cX0_laySquare 146 = .ok (.iaload, 1) := by decide +kernel
theorem dX0_laySquare_147 : decode cX0_laySquare 147 = .ok (.iadd, 1) := by decide +kernel
theorem dX0_laySquare_148 : decode cX0_laySquare 148 = .ok (.iload_n 3, 1) := by decide +kernel
theorem dX0_laySquare_149 : decode cX0_laySquare 149 = .ok (.getstatic 82, 3) := by decide +kernel
theorem dX0_laySquare_152 : decode cX0_laySquare 152 = .ok (.iload 4, 2) := by decide +kernel
theorem dX0_laySquare_154 : decode cX0_laySquare 154 = .ok (.iaload, 1) := by decide +kernel
theorem dX0_laySquare_155 : decode cX0_laySquare 155 = .ok (.iadd, 1) := by decide +kernel
theorem dX0_laySquare_156 : decode cX0_laySquare 156 = .ok (.invokevirtual 75, 3) := by decide +kernel
theorem dX0_laySquare_159 : decode cX0_laySquare 159 = .ok (.lor, 1) := by decide +kernel
theorem dX0_laySquare_160 : decode cX0_laySquare 160 = .ok (.lastore, 1) := by decide +kernel
theorem dX0_laySquare_161 : decode cX0_laySquare 161 = .ok (.iinc 4 1, 3) := by decide +kernel
theorem dX0_laySquare_164 : decode cX0_laySquare 164 = .ok (.goto (-98), 3) := by decide +kernel
theorem dX0_laySquare_167 : decode cX0_laySquare 167 = .ok (.aload_n 0, 1) := by decide +kernel
theorem dX0_laySquare_168 : decode cX0_laySquare 168 = .ok (.getfield 42, 3) := by decide +kernel
theorem dX0_laySquare_171 : decode cX0_laySquare 171 = .ok (.iload_n 1, 1) := by decide +kernel
theorem dX0_laySquare_172 : decode cX0_laySquare 172 = .ok (.aload_n 0, 1) := by decide +kernel
theorem dX0_laySquare_173 : decode cX0_laySquare 173 = .ok (.iload_n 2, 1) := by decide +kernel
theorem dX0_laySquare_174 : decode cX0_laySquare 174 = .ok (.iconst 1, 1) := by decide +kernel
theorem dX0_laySquare_175 : decode cX0_laySquare 175 = .ok (.isub, 1) := by decide +kernel
theorem dX0_laySquare_176 : decode cX0_laySquare 176 = .ok (.iload_n 3, 1) := by decide +kernel
theorem dX0_laySquare_177 : decode cX0_laySquare 177 = .ok (.iconst 1, 1) := by decide +kernel
theorem dX0_laySquare_178 : decode cX0_laySquare 178 = .ok (.iadd, 1) := by decide +kernel
theorem dX0_laySquare_179 : decode cX0_laySquare 179 = .ok (.invokevirtual 75, 3) := by decide +kernel
theorem dX0_laySquare_182 : decode cX0_laySquare 182 = .ok (.aload_n 0, 1) := by decide +kernel
theorem dX0_laySquare_183 : decode cX0_laySquare 183 = .ok (.iload_n 2, 1) := by decide +kernel
theorem dX0_laySquare_184 : decode cX0_laySquare 184 = .ok (.iconst 1, 1) := by decide +kernel
theorem dX0_laySquare_185 : decode cX0_laySquare 185 = .ok (.iadd, 1) := by decide +kernel
theorem dX0_laySquare_186 : decode cX0_laySquare 186 = .ok (.iload_n 3, 1) := by decide +kernel
theorem dX0_laySquare_187 : decode cX0_laySquare 187 = .ok (.iconst 1, 1) := by decide +kernel
theorem dX0_laySquare_188 : decode cX0_laySquare 188 = .ok (.iadd, 1) := by decide +kernel
theorem dX0_laySquare_189 : decode cX0_laySquare 189 = .ok (.invokevirtual 75, 3) := by decide +kernel
theorem dX0_laySquare_192 : decode cX0_laySquare 192 = .ok (.lor, 1) := by decide +kernel
theorem dX0_laySquare_193 : decode cX0_laySquare 193 = .ok (.lastore, 1) := by decide +kernel
theorem dX0_laySquare_194 : decode cX0_laySquare 194 = .ok (.aload_n 0, 1) := by decide +kernel
theorem dX0_laySquare_195 : decode cX0_laySquare 195 = .ok (.getfield 45, 3) := by decide +kernel
theorem dX0_laySquare_198 : decode cX0_laySquare 198 = .ok (.iload_n 1, 1) := by decide +kernel
theorem dX0_laySquare_199 : decode cX0_laySquare 199 = .ok (.aload_n 0, 1) := by decide +kernel
theorem dX0_laySquare_200 : decode cX0_laySquare 200 = .ok (.iload_n 2, 1) := by decide +kernel
theorem dX0_laySquare_201 : decode cX0_laySquare 201 = .ok (.iconst 1, 1) := by decide +kernel
theorem dX0_laySquare_202 : decode cX0_laySquare 202 = .ok (.isub, 1) := by decide +kernel
theorem dX0_laySquare_203 : decode cX0_laySquare 203 = .ok (.iload_n 3, 1) := by decide +kernel
theorem dX0_laySquare_204 : decode cX0_laySquare 204 = .ok (.iconst 1, 1) := by decide +kernel
theorem dX0_laySquare_205 : decode cX0_laySquare 205 = .ok (.isub, 1) := by decide +kernel
theorem dX0_laySquare_206 : decode cX0_laySquare 206 = .ok (.invokevirtual 75, 3) := by decide +kernel
theorem dX0_laySquare_209 : decode cX0_laySquare 209 = .ok (.aload_n 0, 1) := by decide +kernel
theorem dX0_laySquare_210 : decode cX0_laySquare 210 = .ok (.iload_n 2, 1) := by decide +kernel
theorem dX0_laySquare_211 : decode cX0_laySquare 211 = .ok (.iconst 1, 1) := by decide +kernel
theorem dX0_laySquare_212 : decode cX0_laySquare 212 = .ok (.iadd, 1) := by decide +kernel
theorem dX0_laySquare_213 : decode cX0_laySquare 213 = .ok (.iload_n 3, 1) := by decide +kernel
theorem dX0_laySquare_214 : decode cX0_laySquare 214 = .ok (.iconst 1, 1) := by decide +kernel
theorem dX0_laySquare_215 : decode cX0_laySquare 215 = .ok (.isub, 1) := by decide +kernel
theorem dX0_laySquare_216 : decode cX0_laySquare 216 = .ok (.invokevirtual 75, 3) := by decide +kernel
theorem dX0_laySquare_219 : decode cX0_laySquare 219 = .ok (.lor, 1) := by decide +kernel
theorem dX0_laySquare_220 : decode cX0_laySquare 220 = .ok (.lastore, 1) := by decide +kernel
theorem dX0_laySquare_221 : decode cX0_laySquare 221 = .ok (.aload_n 0, 1) := by decide +kernel
theorem dX0_laySquare_222 : decode cX0_laySquare 222 = .ok (.getfield 48, 3) := by decide +kernel
theorem dX0_laySquare_225 : decode cX0_laySquare 225 = .ok (.iload_n 1, 1) := by decide +kernel
theorem dX0_laySquare_226 : decode cX0_laySquare 226 = .ok (.aload_n 0, 1) := by decide +kernel
theorem dX0_laySquare_227 : decode cX0_laySquare 227 = .ok (.iload_n 2, 1) := by decide +kernel
theorem dX0_laySquare_228 : decode cX0_laySquare 228 = .ok (.iconst 1, 1) := by decide +kernel
theorem dX0_laySquare_229 : decode cX0_laySquare 229 = .ok (.isub, 1) := by decide +kernel
theorem dX0_laySquare_230 : decode cX0_laySquare 230 = .ok (.iload_n 3, 1) := by decide +kernel
theorem dX0_laySquare_231 : decode cX0_laySquare 231 = .ok (.invokevirtual 75, 3) := by decide +kernel
theorem dX0_laySquare_234 : decode cX0_laySquare 234 = .ok (.aload_n 0, 1) := by decide +kernel
theorem dX0_laySquare_235 : decode cX0_laySquare 235 = .ok (.iload_n 2, 1) := by decide +kernel
theorem dX0_laySquare_236 : decode cX0_laySquare 236 = .ok (.iconst 1, 1) := by decide +kernel
theorem dX0_laySquare_237 : decode cX0_laySquare 237 = .ok (.iadd, 1) := by decide +kernel
theorem dX0_laySquare_238 : decode cX0_laySquare 238 = .ok (.iload_n 3, 1) := by decide +kernel
theorem dX0_laySquare_239 : decode cX0_laySquare 239 = .ok (.invokevirtual 75, 3) := by decide +kernel
theorem dX0_laySquare_242 : decode cX0_laySquare 242 = .ok (.lor, 1) := by decide +kernel
theorem dX0_laySquare_243 : decode cX0_laySquare 243 = .ok (.lastore, 1) := by decide +kernel
theorem dX0_laySquare_244 : decode cX0_laySquare 244 = .ok (.return_, 1) := by decide +kernel
theorem dX0_lay_0 : decode cX0_lay 0 = .ok (.aload_n 0, 1) := by decide +kernel
theorem dX0_lay_1 : decode cX0_lay 1 = .ok (.iload_n 1, 1) := by decide +kernel
theorem dX0_lay_2 : decode cX0_lay 2 = .ok (.putfield 9, 3) := by decide +kernel
theorem dX0_lay_5 : decode cX0_lay 5 = .ok (.aload_n 0, 1) := by decide +kernel
theorem dX0_lay_6 : decode cX0_lay 6 = .ok (.iload_n 2, 1) := by decide +kernel
theorem dX0_lay_7 : decode cX0_lay 7 = .ok (.putfield 15, 3) := by decide +kernel
theorem dX0_lay_10 : decode cX0_lay 10 = .ok (.aload_n 0, 1) := by decide +kernel
theorem dX0_lay_11 : decode cX0_lay 11 = .ok (.iload_n 1, 1) := by decide +kernel
theorem dX0_lay_12 : decode cX0_lay 12 = .ok (.iload_n 2, 1) := by decide +kernel
theorem dX0_lay_13 : decode cX0_lay 13 = .ok (.imul, 1) := by decide +kernel
theorem dX0_lay_14 : decode cX0_lay 14 = .ok (.bipush 64, 2) := by decide +kernel
theorem dX0_lay_16 : decode cX0_lay 16 = .ok (.invokestatic 51, 3) := by decide +kernel
theorem dX0_lay_19 : decode cX0_lay 19 = .ok (.putfield 18, 3) := by decide +kernel
theorem dX0_lay_22 : decode cX0_lay 22 = .ok (.aload_n 0, 1) := by decide +kernel
theorem dX0_lay_23 : decode cX0_lay 23 = .ok (.lconst 0, 1) := by decide +kernel
theorem dX0_lay_24 : decode cX0_lay 24 = .ok (.putfield 21, 3) := by decide +kernel
theorem dX0_lay_27 : decode cX0_lay 27 = .ok (.iconst 0, 1) := by decide +kernel
theorem dX0_lay_28 : decode cX0_lay 28 = .ok (.istore_n 3, 1) := by decide +kernel
theorem dX0_lay_29 : decode cX0_lay 29 = .ok (.iload_n 3, 1) := by decide +kernel
theorem dX0_lay_30 : decode cX0_lay 30 = .ok (.aload_n 0, 1) := by decide +kernel
theorem dX0_lay_31 : decode cX0_lay 31 = .ok (.getfield 15, 3) := by decide +kernel
theorem dX0_lay_34 : decode cX0_lay 34 = .ok (.if_icmp .ge 43, 3) := by decide +kernel
theorem dX0_lay_37 : decode cX0_lay 37 = .ok (.iconst 0, 1) := by decide +kernel
theorem dX0_lay_38 : decode cX0_lay 38 = .ok (.istore 4, 2) := by decide +kernel
theorem dX0_lay_40 : decode cX0_lay 40 = .ok (.iload 4, 2) := by decide +kernel
theorem dX0_lay_42 : decode cX0_lay 42 = .ok (.aload_n 0, 1) := by decide +kernel
theorem dX0_lay_43 : decode cX0_lay 43 = .ok (.getfield 9, 3) := by decide +kernel
theorem dX0_lay_46 : decode cX0_lay 46 = .ok (.if_icmp .ge 25, 3) := by decide +kernel
theorem dX0_lay_49 : decode cX0_lay 49 = .ok (.aload_n 0, 1) := by decide +kernel
theorem dX0_lay_50 : decode cX0_lay 50 = .ok (.iload_n 3, 1) := by decide +kernel
theorem dX0_lay_51 : decode cX0_lay 51 = .ok (.aload_n 0, 1) := by decide +kernel
theorem dX0_lay_52 : decode cX0_lay 52 = .ok (.getfield 9, 3) := by decide +kernel
theorem dX0_lay_55 : decode cX0_lay 55 = .ok (.imul, 1) := by decide +kernel
theorem dX0_lay_56 : decode cX0_lay 56 = .ok (.iload 4, 2) := by decide +kernel
theorem dX0_lay_58 : decode cX0_lay 58 = .ok (.iadd, 1) := by decide +kernel
theorem dX0_lay_59 : decode cX0_lay 59 = .ok (.iload 4, 2) := by decide +kernel
theorem dX0_lay_61 : decode cX0_lay 61 = .ok (.iload_n 3, 1) := by decide +kernel
theorem dX0_lay_62 : decode cX0_lay 62 = .ok (.invokevirtual 57, 3) := by decide +kernel
theorem dX0_lay_65 : decode cX0_lay 65 = .ok (.iinc 4 1, 3) := by decide +kernel
theorem dX0_lay_68 : decode cX0_lay 68 = .ok (.goto (-28), 3) := by decide +kernel
theorem dX0_lay_71 : decode cX0_lay 71 = .ok (.iinc 3 1, 3) := by decide +kernel
theorem dX0_lay_74 : decode cX0_lay 74 = .ok (.goto (-45), 3) := by decide +kernel
theorem dX0_lay_77 : decode cX0_lay 77 = .ok (.return_, 1) := by decide +kernel
def wp_J1_canEncode_fc78d_12 (D : wD) (post : Int32 → wS → Prop)  (S : wS) (t0 : Int32) : Prop :=
narrow .boolean (.int t0) = .int t0 ∧ post t0 S
def wp_J1_canEncode_fc78d_0 (D : wD) (post : Int32 → wS → Prop)  (S : wS) (x0 : Int32) : Prop :=
(((255 : Int32) < x0 → wp_J1_canEncode_fc78d_12 D post S (0 : Int32)) ∧
 (¬ (255 : Int32) < x0 → wp_J1_canEncode_fc78d_12 D post S (1 : Int32)))
abbrev r_J1_canEncode_fc78d : Room := { frames := 0, cells := 0, slots := 0, locals := 0 }
def wp_J1_canEncode_fc78d (D : wD) (post : Int32 → wS → Prop) (S : wS) (x0 : Int32) : Prop := wp_J1_canEncode_fc78d_0 D post S x0
set_option maxHeartbeats 4000000 in
set_option maxRecDepth 100000 in
theorem t_J1_canEncode_fc78d_12 {p : Program} {l : Launch} {e : Env} {s : State} {m : MethodId} {args : Array Value} {below : List Frame} {meth : Method} {c : Code} {D : wD} {cy : Nat → ClassId} {X : va_W} {A : Nat → Prop} {S0 : wS} {post : Int32 → wS → Prop} (F : CallFix p m c cJ1_canEncode_fc78d 1 s args wz_J1_canEncode_fc78d RJ1) (hr : meth.sig.returnType = (some .boolean)) (hlocks : meth.locks = false) (hK : wK D cy A s) : ∀ {S : wS} {H : Heap} {locs : List Loc} {ls : Array Slot} {t0 : Int32}, wp_J1_canEncode_fc78d_12 D post S t0 → wO D cy X A s.heap S H locs → wX D S0 S → lv_has ls 1 [] → W p l e r_J1_canEncode_fc78d s m args below meth c H locs 0 0 (MQ below (va_Qi (fun r S9 => wX D S0 S9 ∧ post r S9) (wB D cy X A) A) args s 0 0 A) (F0 m 12 ls [.int t0]) := by
  obtain ⟨hx, hb, hml, hown, hts⟩ := id F
  have hwg : ∀ w ∈ WG, w.before args s = true := fun w h => hts w (List.mem_cons_of_mem _ h)
  intro S H locs ls t0 hp hW hE hl
  unfold wp_J1_canEncode_fc78d_12 at hp
  exact w_zret hx hb hr hlocks hW hp.1 ⟨hE, hp.2⟩ dJ1_canEncode_fc78d_12
set_option maxHeartbeats 4000000 in
set_option maxRecDepth 100000 in
theorem t_J1_canEncode_fc78d_0 {p : Program} {l : Launch} {e : Env} {s : State} {m : MethodId} {args : Array Value} {below : List Frame} {meth : Method} {c : Code} {D : wD} {cy : Nat → ClassId} {X : va_W} {A : Nat → Prop} {S0 : wS} {post : Int32 → wS → Prop} (F : CallFix p m c cJ1_canEncode_fc78d 1 s args wz_J1_canEncode_fc78d RJ1) (hr : meth.sig.returnType = (some .boolean)) (hlocks : meth.locks = false) (hK : wK D cy A s) : ∀ {S : wS} {H : Heap} {locs : List Loc} {ls : Array Slot} {x0 : Int32}, wp_J1_canEncode_fc78d_0 D post S x0 → wO D cy X A s.heap S H locs → wX D S0 S → lv_has ls 1 [(0, .int x0)] → W p l e r_J1_canEncode_fc78d s m args below meth c H locs 0 0 (MQ below (va_Qi (fun r S9 => wX D S0 S9 ∧ post r S9) (wB D cy X A) A) args s 0 0 A) (F0 m 0 ls []) := by
  obtain ⟨hx, hb, hml, hown, hts⟩ := id F
  have hwg : ∀ w ∈ WG, w.before args s = true := fun w h => hts w (List.mem_cons_of_mem _ h)
  intro S H locs ls x0 hp hW hE hl
  unfold wp_J1_canEncode_fc78d_0 at hp
  refine lv_iload_n hx hb dJ1_canEncode_fc78d_0 rfl (lv_at hl 0 rfl) ?_
  refine lv_sipush (v := 255) hx hb dJ1_canEncode_fc78d_1 (by decide) ?_
  refine lv_icmp_gt (tgt := 11) hx hb dJ1_canEncode_fc78d_4 (by decide) (fun c_1 => ?_) (fun c_1 => ?_)
  · replace hp := hp.1 c_1
    refine lv_iconst (v := 0) hx hb dJ1_canEncode_fc78d_11 (by decide) ?_
    exact t_J1_canEncode_fc78d_12 F hr hlocks hK hp hW hE (lv_sub hl [] rfl)
  · replace hp := hp.2 c_1
    refine lv_iconst (v := 1) hx hb dJ1_canEncode_fc78d_7 (by decide) ?_
    refine lv_goto (tgt := 12) hx hb dJ1_canEncode_fc78d_8 (by decide) ?_
    exact t_J1_canEncode_fc78d_12 F hr hlocks hK hp hW hE (lv_sub hl [] rfl)
set_option maxHeartbeats 4000000 in
set_option maxRecDepth 100000 in
theorem c_J1_canEncode_fc78d (l : Launch) {D : wD} {cy : Nat → ClassId} {X : va_W} {S0 : wS} {post : Int32 → wS → Prop} {x0 : Int32} (hp : wp_J1_canEncode_fc78d D post S0 x0) : mI D cy X l yJ1_canEncode_fc78d wz_J1_canEncode_fc78d r_J1_canEncode_fc78d [.int x0] S0 (fun r S9 => wX D S0 S9 ∧ post r S9) := by
  intro sz
  refine Met.ofW (cc := cJ1_canEncode_fc78d) (maxL := 1) (ret := (some .boolean)) (by decide) rfl ?_
  intro p e s m args below meth c s₁ B hml hv
  obtain ⟨rfl, hsz, hP, hK, hD0, hRO⟩ := hv
  have hts := atoms_spec (ws := wz_J1_canEncode_fc78d) B.pre
  have hown : s.vm.findClass RJ1 = some m.cls := findClass_of_methodNamed B.named
  subst hsz
  have hD := hD0.self (sz := s.heap.size)
  have F : CallFix p m c cJ1_canEncode_fc78d 1 s _ wz_J1_canEncode_fc78d RJ1 := ⟨B.exec, B.bytes, hml, hown, hts⟩
  have hr := B.returns
  have hlocks := B.notSynchronized
  generalize hAe : va_A (wL cy X S0) s.heap.size = A at hD hK ⊢
  have hA : ∀ q, s.heap.size ≤ q → A q := fun q h => by rw [← hAe]; exact Or.inr h
  have hW : wO D cy X A s.heap S0 s.heap [] := ⟨hP, hD, va_S.rf, hA, hRO⟩
  have hl := lv_entry ([.int x0]) (n := 1) (Nat.le_of_ble_eq_true rfl)
  rw [lg_entry_eq]
  generalize (lg_sl ([.int x0]) ++ List.replicate (1 - (lg_sl ([.int x0])).length) Slot.unset).toArray = ls at hl ⊢
  have hl : lv_has ls 1 [(0, .int x0)] := hl
  unfold wp_J1_canEncode_fc78d at hp
  exact t_J1_canEncode_fc78d_0 F hr hlocks hK hp hW wX.rf (lv_sub hl [0] rfl)
def wp_Jx00060_init_d00df_0 (D : wD) (post : wS → Prop)  (bc bs : Nat) (S : wS) (a0 : Nat) (x1 : Int32) : Prop :=
1 ≤ bc ∧ 4 ≤ bs ∧
∀ y_1 : Nat, ¬ wM D S y_1 → ∀ S_2 : wS, S_2 = nA S y_1 1 0 →
∃ m_6 z_7 : Nat, m_6 ≤ (bc - 1) ∧ z_7 ≤ (bs - 4) ∧
wp_J4_init_da8c8 D (fun S_5 => 
∀ y_8 : Nat, y_8 = D.2.2.1 7 →
∃ m_11 z_12 : Nat, m_11 ≤ ((bc - 1) - m_6) ∧ z_12 ≤ ((bs - 4) - z_7) ∧
wp_J4_append_15ec4 D (fun r_9 S_10 => 
∃ y_13 : Nat, r_9 = some y_13 ∧ wM D S_10 y_13 ∧ sK S_10 y_13 = 1 ∧
∃ m_17 z_18 : Nat, m_17 ≤ (((bc - 1) - m_6) - m_11) ∧ z_18 ≤ (((bs - 4) - z_7) - z_12) ∧
wp_J4_append_bf812 D (fun r_15 S_16 => 
∃ y_19 : Nat, r_15 = some y_19 ∧ wM D S_16 y_19 ∧ sK S_16 y_19 = 1 ∧
∃ m_23 z_24 : Nat, m_23 ≤ ((((bc - 1) - m_6) - m_11) - m_17) ∧ z_24 ≤ ((((bs - 4) - z_7) - z_12) - z_18) ∧
wp_J4_toString_0e30d D (fun r_21 S_22 => 
False) m_23 z_24 S_16 y_19) m_17 z_18 S_10 y_13 x1) m_11 z_12 S_5 y_1 y_8) m_6 z_7 S_2 y_1
abbrev r_Jx00060_init_d00df (rC rS : Nat) : Room := { frames := 10, cells := rC, slots := rS, locals := 223 }
def wp_Jx00060_init_d00df (D : wD) (post : wS → Prop) (bc bs : Nat) (S : wS) (a0 : Nat) (x1 : Int32) : Prop := wp_Jx00060_init_d00df_0 D post bc bs S a0 x1
set_option maxHeartbeats 4000000 in
set_option maxRecDepth 100000 in
theorem t_Jx00060_init_d00df_0 {p : Program} {l : Launch} {e : Env} {s : State} {m : MethodId} {args : Array Value} {below : List Frame} {meth : Method} {c : Code} {D : wD} {cy : Nat → ClassId} {X : va_W} {A : Nat → Prop} {S0 : wS} {rC rS : Nat} {post : wS → Prop} (F : CallFix p m c cJx00060_init_d00df 2 s args wz_Jx00060_init_d00df RJx00060) (hr : meth.sig.returnType = none) (hlocks : meth.locks = false) (hK : wK D cy A s) (hin : meth.name = "<init>") : ∀ {bc bs cells slots : Nat} (hbc : cells + bc ≤ rC) (hbs : slots + bs ≤ rS) {S : wS} {H : Heap} {locs : List Loc} {ls : Array Slot} {a0 : Nat} {x1 : Int32}, wp_Jx00060_init_d00df_0 D post bc bs S a0 x1 → wO D cy X A s.heap S H locs → wX D S0 S → lv_has ls 2 [(0, .ref a0), (1, .int x1)] → wM D S a0 → sK S a0 = 2 → W p l e (r_Jx00060_init_d00df rC rS) s m args below meth c H locs cells slots (MQ below (va_Qv (fun S9 => wX D S0 S9 ∧ post S9) (wB D cy X A) A) args s rC rS A) (F0 m 0 ls []) := by
  obtain ⟨hx, hb, hml, hown, hts⟩ := id F
  have hwg : ∀ w ∈ WG, w.before args s = true := fun w h => hts w (List.mem_cons_of_mem _ h)
  intro bc bs cells slots hbc hbs S H locs ls a0 x1 hp hW hE hl hL_a0 hK_a0
  unfold wp_Jx00060_init_d00df_0 at hp
  refine lv_aload_n hx hb dJx00060_init_d00df_0 rfl (lv_at hl 0 rfl) ?_
  obtain ⟨h_3, h_3b, hp⟩ := hp
  refine w_new (k := 1) (T := TJ4) F hK hW rfl (by decide) (fun w h => List.mem_cons_of_mem _ (wu_1 w h)) tyJ4 tyJ4_ok (hwg _ wc_RJx00060_10) (hwg _ wn_1) (hwg _ wi_java_lang_StringBuilder) wdef_1 (by show _ ≤ rC; omega) (by show _ ≤ rS; omega) dJx00060_init_d00df_1 (fun y_1 H hq_y_1 hW => ?_)
  replace hbc := w_spend hbc (show 1 ≤ bc by omega)
  replace hbs := w_spend hbs (show 4 ≤ bs by omega)
  obtain ⟨S_2, eS_2⟩ : ∃ z : wS, z = nA S y_1 1 0 := ⟨_, rfl⟩
  rw [← eS_2] at hW
  replace hp := hp y_1 hq_y_1 S_2 eS_2
  have hX_S_2 : wX D S S_2 := by rw [eS_2]; exact wX_nA hq_y_1
  have hE := hE.trans hX_S_2
  have hK_a0 : sK S_2 a0 = 2 := (hX_S_2.2 a0 hL_a0).1.trans hK_a0
  have hL_a0 : wM D S_2 a0 := hX_S_2.M hL_a0
  have hL_y_1 : wM D S_2 y_1 := by rw [eS_2]; exact Or.inl (List.mem_append_right _ List.mem_cons_self)
  have hK_y_1 : sK S_2 y_1 = 1 := by rw [eS_2]; exact va_up_self _ _ _
  refine lv_dup hx hb dJx00060_init_d00df_4 rfl ?_
  obtain ⟨m_6, z_7, hm_6, hz_7, hp⟩ := hp
  refine w_callV (va_runI (As := []) (rest := [.ref y_1, .ref a0]) F (c_J4_init_da8c8 l hL_y_1 hK_y_1 hp H.size) (cwI 0 hts (wg_cons wy_J4_init_da8c8.2.2) rfl rfl rfl (hwg _ wy_J4_init_da8c8.2.1) (hwg _ wm_RJx00060_12) (hwg _ wy_J4_init_da8c8.1) rfl (by decide +kernel) ⟨Nat.le_of_ble_eq_true rfl, Nat.le_of_ble_eq_true rfl⟩) (w_preS hK hW) rfl rfl hl.1 rfl (lv_room (Nat.le_of_ble_eq_true rfl)) dJx00060_init_d00df_5 ⟨by show _ + m_6 ≤ rC; omega, by show _ + z_7 ≤ rS; omega⟩) hW (fun S_5 H locs hp hW => ?_)
  obtain ⟨hX_S_5, hp⟩ := hp
  refine W.widen (k := _ + m_6) (n := _ + z_7) (Nat.le_refl _) (Nat.le_refl _) ?_
  replace hbc := w_spend hbc (show m_6 ≤ (bc - 1) by omega)
  replace hbs := w_spend hbs (show z_7 ≤ (bs - 4) by omega)
  have hE := hE.trans hX_S_5
  have hK_a0 : sK S_5 a0 = 2 := (hX_S_5.2 a0 hL_a0).1.trans hK_a0
  have hL_a0 : wM D S_5 a0 := hX_S_5.M hL_a0
  have hK_y_1 : sK S_5 y_1 = 1 := (hX_S_5.2 y_1 hL_y_1).1.trans hK_y_1
  have hL_y_1 : wM D S_5 y_1 := hX_S_5.M hL_y_1
  refine w_str F hK (show ("java/lang/ArrayIndexOutOfBoundsException", 13, "Array index out of range: ", 7) ∈ wStr by decide +kernel) dJx00060_init_d00df_8 ?_
  obtain ⟨y_8, ey_8⟩ : ∃ z : Nat, z = D.2.2.1 7 := ⟨_, rfl⟩
  rw [← ey_8]
  replace hp := hp y_8 ey_8
  obtain ⟨hL_y_8, hK_y_8⟩ : wM D S_5 y_8 ∧ sK S_5 y_8 = 0 := by rw [ey_8]; exact w_strM hK hW (show ("java/lang/ArrayIndexOutOfBoundsException", 13, "Array index out of range: ", 7) ∈ wStr by decide +kernel)
  obtain ⟨m_11, z_12, hm_11, hz_12, hp⟩ := hp
  refine w_callR (va_runV (As := [.ref y_8]) (rest := [.ref a0]) F (c_J4_append_15ec4 l hL_y_1 hK_y_1 hL_y_8 hK_y_8 hp H.size) (cwV (C := RJ4) 1 hts (wg_V wm_RJx00060_15 wy_J4_append_15ec4) rfl rfl rfl (by decide +kernel) ⟨Nat.le_of_ble_eq_true rfl, Nat.le_of_ble_eq_true rfl⟩) (w_preV hK hW hL_y_1 hK_y_1 (by decide) rfl) rfl rfl hl.1 rfl (lv_room (Nat.le_of_ble_eq_true rfl)) dJx00060_init_d00df_10 ⟨by show _ + m_11 ≤ rC; omega, by show _ + z_12 ≤ rS; omega⟩) hW (fun r_9 S_10 H locs hp hW => ?_)
  obtain ⟨hX_S_10, hp⟩ := hp
  refine W.widen (k := _ + m_11) (n := _ + z_12) (Nat.le_refl _) (Nat.le_refl _) ?_
  replace hbc := w_spend hbc (show m_11 ≤ ((bc - 1) - m_6) by omega)
  replace hbs := w_spend hbs (show z_12 ≤ ((bs - 4) - z_7) by omega)
  have hE := hE.trans hX_S_10
  have hK_a0 : sK S_10 a0 = 2 := (hX_S_10.2 a0 hL_a0).1.trans hK_a0
  have hL_a0 : wM D S_10 a0 := hX_S_10.M hL_a0
  refine lv_iload_n hx hb dJx00060_init_d00df_13 rfl (lv_at hl 1 rfl) ?_
  obtain ⟨y_13, h_14, hL_y_13, hK_y_13, hp⟩ := hp
  subst h_14
  obtain ⟨m_17, z_18, hm_17, hz_18, hp⟩ := hp
  refine w_callR (va_runV (As := [.int x1]) (rest := [.ref a0]) F (c_J4_append_bf812 l hL_y_13 hK_y_13 hp H.size) (cwV (C := RJ4) 1 hts (wg_V wm_RJx00060_19 wy_J4_append_bf812) rfl rfl rfl (by decide +kernel) ⟨Nat.le_of_ble_eq_true rfl, Nat.le_of_ble_eq_true rfl⟩) (w_preV hK hW hL_y_13 hK_y_13 (by decide) rfl) rfl rfl hl.1 rfl (lv_room (Nat.le_of_ble_eq_true rfl)) dJx00060_init_d00df_14 ⟨by show _ + m_17 ≤ rC; omega, by show _ + z_18 ≤ rS; omega⟩) hW (fun r_15 S_16 H locs hp hW => ?_)
  obtain ⟨hX_S_16, hp⟩ := hp
  refine W.widen (k := _ + m_17) (n := _ + z_18) (Nat.le_refl _) (Nat.le_refl _) ?_
  replace hbc := w_spend hbc (show m_17 ≤ (((bc - 1) - m_6) - m_11) by omega)
  replace hbs := w_spend hbs (show z_18 ≤ (((bs - 4) - z_7) - z_12) by omega)
  have hE := hE.trans hX_S_16
  have hK_a0 : sK S_16 a0 = 2 := (hX_S_16.2 a0 hL_a0).1.trans hK_a0
  have hL_a0 : wM D S_16 a0 := hX_S_16.M hL_a0
  obtain ⟨y_19, h_20, hL_y_19, hK_y_19, hp⟩ := hp
  subst h_20
  obtain ⟨m_23, z_24, hm_23, hz_24, hp⟩ := hp
  refine w_callR (va_runV (As := []) (rest := [.ref a0]) F (c_J4_toString_0e30d l hL_y_19 hK_y_19 hp H.size) (cwV (C := RJ4) 0 hts (wg_V wm_RJx00060_22 wy_J4_toString_0e30d) rfl rfl rfl (by decide +kernel) ⟨Nat.le_of_ble_eq_true rfl, Nat.le_of_ble_eq_true rfl⟩) (w_preV hK hW hL_y_19 hK_y_19 (by decide) rfl) rfl rfl hl.1 rfl (lv_room (Nat.le_of_ble_eq_true rfl)) dJx00060_init_d00df_17 ⟨by show _ + m_23 ≤ rC; omega, by show _ + z_24 ≤ rS; omega⟩) hW (fun r_21 S_22 H locs hp hW => ?_)
  obtain ⟨hX_S_22, hp⟩ := hp
  refine W.widen (k := _ + m_23) (n := _ + z_24) (Nat.le_refl _) (Nat.le_refl _) ?_
  replace hbc := w_spend hbc (show m_23 ≤ ((((bc - 1) - m_6) - m_11) - m_17) by omega)
  replace hbs := w_spend hbs (show z_24 ≤ ((((bs - 4) - z_7) - z_12) - z_18) by omega)
  have hE := hE.trans hX_S_22
  have hK_a0 : sK S_22 a0 = 2 := (hX_S_22.2 a0 hL_a0).1.trans hK_a0
  have hL_a0 : wM D S_22 a0 := hX_S_22.M hL_a0
  exact hp.elim
set_option maxHeartbeats 4000000 in
set_option maxRecDepth 100000 in
theorem c_Jx00060_init_d00df (l : Launch) {rC rS : Nat} {D : wD} {cy : Nat → ClassId} {X : va_W} {S0 : wS} {post : wS → Prop} {a0 : Nat} {x1 : Int32} (hL_a0 : wM D S0 a0) (hK_a0 : sK S0 a0 = 2) (hp : wp_Jx00060_init_d00df D post rC rS S0 a0 x1) : mV D cy X l yJx00060_init_d00df wz_Jx00060_init_d00df (r_Jx00060_init_d00df rC rS) [.ref a0, .int x1] S0 (fun S9 => wX D S0 S9 ∧ post S9) := by
  intro sz
  refine Met.ofW (cc := cJx00060_init_d00df) (maxL := 2) (ret := none) (by decide) rfl ?_
  intro p e s m args below meth c s₁ B hml hv
  obtain ⟨rfl, hsz, hP, hK, hD0, hRO⟩ := hv
  have hts := atoms_spec (ws := wz_Jx00060_init_d00df) B.pre
  have hown : s.vm.findClass RJx00060 = some m.cls := findClass_of_methodNamed B.named
  subst hsz
  have hD := hD0.self (sz := s.heap.size)
  have F : CallFix p m c cJx00060_init_d00df 2 s _ wz_Jx00060_init_d00df RJx00060 := ⟨B.exec, B.bytes, hml, hown, hts⟩
  have hr := B.returns
  have hlocks := B.notSynchronized
  have hin : meth.name = "<init>" := (name_of_methodNamed B.named B.method).1
  generalize hAe : va_A (wL cy X S0) s.heap.size = A at hD hK ⊢
  have hA : ∀ q, s.heap.size ≤ q → A q := fun q h => by rw [← hAe]; exact Or.inr h
  have hW : wO D cy X A s.heap S0 s.heap [] := ⟨hP, hD, va_S.rf, hA, hRO⟩
  have hl := lv_entry ([.ref a0, .int x1]) (n := 2) (Nat.le_of_ble_eq_true rfl)
  rw [lg_entry_eq]
  generalize (lg_sl ([.ref a0, .int x1]) ++ List.replicate (2 - (lg_sl ([.ref a0, .int x1])).length) Slot.unset).toArray = ls at hl ⊢
  have hl : lv_has ls 2 [(0, .ref a0), (1, .int x1)] := hl
  unfold wp_Jx00060_init_d00df at hp
  exact t_Jx00060_init_d00df_0 F hr hlocks hK hin (Nat.le_of_eq (Nat.zero_add _)) (Nat.le_of_eq (Nat.zero_add _)) hp hW wX.rf (lv_sub hl [0, 1] rfl) hL_a0 hK_a0
def wp_J7_rangeCheck_23922_0 (D : wD) (post : wS → Prop)  (bc bs : Nat) (S : wS) (x0 : Int32) (x1 : Int32) (x2 : Int32) : Prop :=
((x1 ≤ x2 → ((0 ≤ x1 → ((x2 ≤ x0 → post S) ∧
 (¬ x2 ≤ x0 → 1 ≤ bc ∧ 6 ≤ bs ∧
∀ y_4 : Nat, ¬ wM D S y_4 → ∀ S_5 : wS, S_5 = nA S y_4 2 0 →
∃ m_9 z_10 : Nat, m_9 ≤ (bc - 1) ∧ z_10 ≤ (bs - 6) ∧
wp_Jx00060_init_d00df D (fun S_8 => 
False) m_9 z_10 S_5 y_4 x2))) ∧
 (¬ 0 ≤ x1 → 1 ≤ bc ∧ 6 ≤ bs ∧
∀ y_11 : Nat, ¬ wM D S y_11 → ∀ S_12 : wS, S_12 = nA S y_11 2 0 →
∃ m_16 z_17 : Nat, m_16 ≤ (bc - 1) ∧ z_17 ≤ (bs - 6) ∧
wp_Jx00060_init_d00df D (fun S_15 => 
False) m_16 z_17 S_12 y_11 x1))) ∧
 (¬ x1 ≤ x2 → False))
abbrev r_J7_rangeCheck_23922 (rC rS : Nat) : Room := { frames := 11, cells := rC, slots := rS, locals := 244 }
def wp_J7_rangeCheck_23922 (D : wD) (post : wS → Prop) (bc bs : Nat) (S : wS) (x0 : Int32) (x1 : Int32) (x2 : Int32) : Prop := wp_J7_rangeCheck_23922_0 D post bc bs S x0 x1 x2
set_option maxHeartbeats 4000000 in
set_option maxRecDepth 100000 in
theorem t_J7_rangeCheck_23922_0 {p : Program} {l : Launch} {e : Env} {s : State} {m : MethodId} {args : Array Value} {below : List Frame} {meth : Method} {c : Code} {D : wD} {cy : Nat → ClassId} {X : va_W} {A : Nat → Prop} {S0 : wS} {rC rS : Nat} {post : wS → Prop} (F : CallFix p m c cJ7_rangeCheck_23922 3 s args wz_J7_rangeCheck_23922 RJ7) (hr : meth.sig.returnType = none) (hlocks : meth.locks = false) (hK : wK D cy A s) : ∀ {bc bs cells slots : Nat} (hbc : cells + bc ≤ rC) (hbs : slots + bs ≤ rS) {S : wS} {H : Heap} {locs : List Loc} {ls : Array Slot} {x0 : Int32} {x1 : Int32} {x2 : Int32}, wp_J7_rangeCheck_23922_0 D post bc bs S x0 x1 x2 → wO D cy X A s.heap S H locs → wX D S0 S → lv_has ls 3 [(0, .int x0), (1, .int x1), (2, .int x2)] → W p l e (r_J7_rangeCheck_23922 rC rS) s m args below meth c H locs cells slots (MQ below (va_Qv (fun S9 => wX D S0 S9 ∧ post S9) (wB D cy X A) A) args s rC rS A) (F0 m 0 ls []) := by
  obtain ⟨hx, hb, hml, hown, hts⟩ := id F
  have hwg : ∀ w ∈ WG, w.before args s = true := fun w h => hts w (List.mem_cons_of_mem _ h)
  intro bc bs cells slots hbc hbs S H locs ls x0 x1 x2 hp hW hE hl
  unfold wp_J7_rangeCheck_23922_0 at hp
  refine lv_iload_n hx hb dJ7_rangeCheck_23922_0 rfl (lv_at hl 1 rfl) ?_
  refine lv_iload_n hx hb dJ7_rangeCheck_23922_1 rfl (lv_at hl 2 rfl) ?_
  refine lv_icmp_le (tgt := 46) hx hb dJ7_rangeCheck_23922_2 (by decide) (fun c_1 => ?_) (fun c_1 => ?_)
  · replace hp := hp.1 c_1
    refine lv_iload_n hx hb dJ7_rangeCheck_23922_46 rfl (lv_at hl 1 rfl) ?_
    refine lv_if_ge (tgt := 59) hx hb dJ7_rangeCheck_23922_47 (by decide) (fun c_2 => ?_) (fun c_2 => ?_)
    · replace hp := hp.1 c_2
      refine lv_iload_n hx hb dJ7_rangeCheck_23922_59 rfl (lv_at hl 2 rfl) ?_
      refine lv_iload_n hx hb dJ7_rangeCheck_23922_60 rfl (lv_at hl 0 rfl) ?_
      refine lv_icmp_le (tgt := 73) hx hb dJ7_rangeCheck_23922_61 (by decide) (fun c_3 => ?_) (fun c_3 => ?_)
      · replace hp := hp.1 c_3
        refine W.widen (k := rC) (n := rS) (Nat.le_trans (Nat.le_add_right _ _) hbc) (Nat.le_trans (Nat.le_add_right _ _) hbs) ?_
        exact w_vret hx hb hr hlocks hW ⟨hE, hp⟩ dJ7_rangeCheck_23922_73
      · replace hp := hp.2 c_3
        obtain ⟨h_6, h_6b, hp⟩ := hp
        refine w_new (k := 2) (T := TJx00060) F hK hW rfl (by decide) (fun w h => List.mem_cons_of_mem _ (wu_2 w h)) tyJx00060 tyJx00060_ok (hwg _ wc_RJ7_68) (hwg _ wn_2) (hwg _ wi_java_lang_ArrayIndexOutOfBoundsException) wdef_2 (by show _ ≤ rC; omega) (by show _ ≤ rS; omega) dJ7_rangeCheck_23922_64 (fun y_4 H hq_y_4 hW => ?_)
        replace hbc := w_spend hbc (show 1 ≤ bc by omega)
        replace hbs := w_spend hbs (show 6 ≤ bs by omega)
        obtain ⟨S_5, eS_5⟩ : ∃ z : wS, z = nA S y_4 2 0 := ⟨_, rfl⟩
        rw [← eS_5] at hW
        replace hp := hp y_4 hq_y_4 S_5 eS_5
        have hX_S_5 : wX D S S_5 := by rw [eS_5]; exact wX_nA hq_y_4
        have hE := hE.trans hX_S_5
        have hL_y_4 : wM D S_5 y_4 := by rw [eS_5]; exact Or.inl (List.mem_append_right _ List.mem_cons_self)
        have hK_y_4 : sK S_5 y_4 = 2 := by rw [eS_5]; exact va_up_self _ _ _
        refine lv_dup hx hb dJ7_rangeCheck_23922_67 rfl ?_
        refine lv_iload_n hx hb dJ7_rangeCheck_23922_68 rfl (lv_at hl 2 rfl) ?_
        obtain ⟨m_9, z_10, hm_9, hz_10, hp⟩ := hp
        refine w_callV (va_runI (As := [.int x2]) (rest := [.ref y_4]) F (c_Jx00060_init_d00df l hL_y_4 hK_y_4 hp H.size) (cwI 1 hts (wg_cons wy_Jx00060_init_d00df.2.2) rfl rfl rfl (hwg _ wy_Jx00060_init_d00df.2.1) (hwg _ wm_RJ7_70) (hwg _ wy_Jx00060_init_d00df.1) rfl (by decide +kernel) ⟨Nat.le_of_ble_eq_true rfl, Nat.le_of_ble_eq_true rfl⟩) (w_preS hK hW) rfl rfl hl.1 rfl (lv_room (Nat.le_of_ble_eq_true rfl)) dJ7_rangeCheck_23922_69 ⟨by show _ + m_9 ≤ rC; omega, by show _ + z_10 ≤ rS; omega⟩) hW (fun S_8 H locs hp hW => ?_)
        obtain ⟨hX_S_8, hp⟩ := hp
        refine W.widen (k := _ + m_9) (n := _ + z_10) (Nat.le_refl _) (Nat.le_refl _) ?_
        replace hbc := w_spend hbc (show m_9 ≤ (bc - 1) by omega)
        replace hbs := w_spend hbs (show z_10 ≤ (bs - 6) by omega)
        have hE := hE.trans hX_S_8
        have hK_y_4 : sK S_8 y_4 = 2 := (hX_S_8.2 y_4 hL_y_4).1.trans hK_y_4
        have hL_y_4 : wM D S_8 y_4 := hX_S_8.M hL_y_4
        exact hp.elim
    · replace hp := hp.2 c_2
      obtain ⟨h_13, h_13b, hp⟩ := hp
      refine w_new (k := 2) (T := TJx00060) F hK hW rfl (by decide) (fun w h => List.mem_cons_of_mem _ (wu_2 w h)) tyJx00060 tyJx00060_ok (hwg _ wc_RJ7_68) (hwg _ wn_2) (hwg _ wi_java_lang_ArrayIndexOutOfBoundsException) wdef_2 (by show _ ≤ rC; omega) (by show _ ≤ rS; omega) dJ7_rangeCheck_23922_50 (fun y_11 H hq_y_11 hW => ?_)
      replace hbc := w_spend hbc (show 1 ≤ bc by omega)
      replace hbs := w_spend hbs (show 6 ≤ bs by omega)
      obtain ⟨S_12, eS_12⟩ : ∃ z : wS, z = nA S y_11 2 0 := ⟨_, rfl⟩
      rw [← eS_12] at hW
      replace hp := hp y_11 hq_y_11 S_12 eS_12
      have hX_S_12 : wX D S S_12 := by rw [eS_12]; exact wX_nA hq_y_11
      have hE := hE.trans hX_S_12
      have hL_y_11 : wM D S_12 y_11 := by rw [eS_12]; exact Or.inl (List.mem_append_right _ List.mem_cons_self)
      have hK_y_11 : sK S_12 y_11 = 2 := by rw [eS_12]; exact va_up_self _ _ _
      refine lv_dup hx hb dJ7_rangeCheck_23922_53 rfl ?_
      refine lv_iload_n hx hb dJ7_rangeCheck_23922_54 rfl (lv_at hl 1 rfl) ?_
      obtain ⟨m_16, z_17, hm_16, hz_17, hp⟩ := hp
      refine w_callV (va_runI (As := [.int x1]) (rest := [.ref y_11]) F (c_Jx00060_init_d00df l hL_y_11 hK_y_11 hp H.size) (cwI 1 hts (wg_cons wy_Jx00060_init_d00df.2.2) rfl rfl rfl (hwg _ wy_Jx00060_init_d00df.2.1) (hwg _ wm_RJ7_70) (hwg _ wy_Jx00060_init_d00df.1) rfl (by decide +kernel) ⟨Nat.le_of_ble_eq_true rfl, Nat.le_of_ble_eq_true rfl⟩) (w_preS hK hW) rfl rfl hl.1 rfl (lv_room (Nat.le_of_ble_eq_true rfl)) dJ7_rangeCheck_23922_55 ⟨by show _ + m_16 ≤ rC; omega, by show _ + z_17 ≤ rS; omega⟩) hW (fun S_15 H locs hp hW => ?_)
      obtain ⟨hX_S_15, hp⟩ := hp
      refine W.widen (k := _ + m_16) (n := _ + z_17) (Nat.le_refl _) (Nat.le_refl _) ?_
      replace hbc := w_spend hbc (show m_16 ≤ (bc - 1) by omega)
      replace hbs := w_spend hbs (show z_17 ≤ (bs - 6) by omega)
      have hE := hE.trans hX_S_15
      have hK_y_11 : sK S_15 y_11 = 2 := (hX_S_15.2 y_11 hL_y_11).1.trans hK_y_11
      have hL_y_11 : wM D S_15 y_11 := hX_S_15.M hL_y_11
      exact hp.elim
  · replace hp := hp.2 c_1
    exact hp.elim
set_option maxHeartbeats 4000000 in
set_option maxRecDepth 100000 in
theorem c_J7_rangeCheck_23922 (l : Launch) {rC rS : Nat} {D : wD} {cy : Nat → ClassId} {X : va_W} {S0 : wS} {post : wS → Prop} {x0 : Int32} {x1 : Int32} {x2 : Int32} (hp : wp_J7_rangeCheck_23922 D post rC rS S0 x0 x1 x2) : mV D cy X l yJ7_rangeCheck_23922 wz_J7_rangeCheck_23922 (r_J7_rangeCheck_23922 rC rS) [.int x0, .int x1, .int x2] S0 (fun S9 => wX D S0 S9 ∧ post S9) := by
  intro sz
  refine Met.ofW (cc := cJ7_rangeCheck_23922) (maxL := 3) (ret := none) (by decide) rfl ?_
  intro p e s m args below meth c s₁ B hml hv
  obtain ⟨rfl, hsz, hP, hK, hD0, hRO⟩ := hv
  have hts := atoms_spec (ws := wz_J7_rangeCheck_23922) B.pre
  have hown : s.vm.findClass RJ7 = some m.cls := findClass_of_methodNamed B.named
  subst hsz
  have hD := hD0.self (sz := s.heap.size)
  have F : CallFix p m c cJ7_rangeCheck_23922 3 s _ wz_J7_rangeCheck_23922 RJ7 := ⟨B.exec, B.bytes, hml, hown, hts⟩
  have hr := B.returns
  have hlocks := B.notSynchronized
  generalize hAe : va_A (wL cy X S0) s.heap.size = A at hD hK ⊢
  have hA : ∀ q, s.heap.size ≤ q → A q := fun q h => by rw [← hAe]; exact Or.inr h
  have hW : wO D cy X A s.heap S0 s.heap [] := ⟨hP, hD, va_S.rf, hA, hRO⟩
  have hl := lv_entry ([.int x0, .int x1, .int x2]) (n := 3) (Nat.le_of_ble_eq_true rfl)
  rw [lg_entry_eq]
  generalize (lg_sl ([.int x0, .int x1, .int x2]) ++ List.replicate (3 - (lg_sl ([.int x0, .int x1, .int x2])).length) Slot.unset).toArray = ls at hl ⊢
  have hl : lv_has ls 3 [(0, .int x0), (1, .int x1), (2, .int x2)] := hl
  unfold wp_J7_rangeCheck_23922 at hp
  exact t_J7_rangeCheck_23922_0 F hr hlocks hK (Nat.le_of_eq (Nat.zero_add _)) (Nat.le_of_eq (Nat.zero_add _)) hp hW wX.rf (lv_sub hl [0, 1, 2] rfl)
def wp_J7_fill_eb02e_10 (D : wD) (post : wS → Prop)  : Nat → Nat → Nat → wS → Nat → Int32 → Int32 → Int32 → Prop
  | 0, _, _, _, _, _, _, _ => False
  | n + 1, bc, bs, S, a0, x2, x3, x4 =>
    ((x2 ≤ x4 → post S) ∧
     (¬ x2 ≤ x4 → a0 ∈ sL S ∧ vp_in x4 (sN S a0) ∧
    ∀ S_3 : wS, S_3 = uI S a0 (x4).toNatClampNeg (vp_nar .byte x3) →
    ∀ x_4 : Int32, x_4 = x4 + 1 →
    wp_J7_fill_eb02e_10 D post n bc bs S_3 a0 x2 x3 x_4))
def wp_J7_fill_eb02e_0 (D : wD) (post : wS → Prop)  (bc bs : Nat) (S : wS) (a0 : Nat) (x1 : Int32) (x2 : Int32) (x3 : Int32) : Prop :=
∃ m_3 z_4 : Nat, m_3 ≤ bc ∧ z_4 ≤ bs ∧
wp_J7_rangeCheck_23922 D (fun S_2 => 
∃ n_5 : Nat, wp_J7_fill_eb02e_10 D post n_5 (bc - m_3) (bs - z_4) S_2 a0 x2 x3 x1) m_3 z_4 S (Int32.ofNat (sN S a0)) x1 x2
abbrev r_J7_fill_eb02e (rC rS : Nat) : Room := { frames := 12, cells := rC, slots := rS, locals := 266 }
def wp_J7_fill_eb02e (D : wD) (post : wS → Prop) (bc bs : Nat) (S : wS) (a0 : Nat) (x1 : Int32) (x2 : Int32) (x3 : Int32) : Prop := wp_J7_fill_eb02e_0 D post bc bs S a0 x1 x2 x3
set_option maxHeartbeats 4000000 in
set_option maxRecDepth 100000 in
theorem t_J7_fill_eb02e_10 {p : Program} {l : Launch} {e : Env} {s : State} {m : MethodId} {args : Array Value} {below : List Frame} {meth : Method} {c : Code} {D : wD} {cy : Nat → ClassId} {X : va_W} {A : Nat → Prop} {S0 : wS} {rC rS : Nat} {post : wS → Prop} (F : CallFix p m c cJ7_fill_eb02e 5 s args wz_J7_fill_eb02e RJ7) (hr : meth.sig.returnType = none) (hlocks : meth.locks = false) (hK : wK D cy A s) : ∀ (n : Nat) {bc bs cells slots : Nat} (hbc : cells + bc ≤ rC) (hbs : slots + bs ≤ rS) {S : wS} {H : Heap} {locs : List Loc} {ls : Array Slot} {a0 : Nat} {x2 : Int32} {x3 : Int32} {x4 : Int32}, wp_J7_fill_eb02e_10 D post n bc bs S a0 x2 x3 x4 → wO D cy X A s.heap S H locs → wX D S0 S → lv_has ls 5 [(0, .ref a0), (2, .int x2), (3, .int x3), (4, .int x4)] → wM D S a0 → sK S a0 = 20 → W p l e (r_J7_fill_eb02e rC rS) s m args below meth c H locs cells slots (MQ below (va_Qv (fun S9 => wX D S0 S9 ∧ post S9) (wB D cy X A) A) args s rC rS A) (F0 m 10 ls []) := by
  obtain ⟨hx, hb, hml, hown, hts⟩ := id F
  have hwg : ∀ w ∈ WG, w.before args s = true := fun w h => hts w (List.mem_cons_of_mem _ h)
  intro n
  induction n with
  | zero =>
    intro bc bs cells slots hbc hbs S H locs ls a0 x2 x3 x4 hp
    exact hp.elim
  | succ n ih =>
    intro bc bs cells slots hbc hbs S H locs ls a0 x2 x3 x4 hp hW hE hl hL_a0 hK_a0
    unfold wp_J7_fill_eb02e_10 at hp
    refine lv_iload hx hb dJ7_fill_eb02e_10 (lv_at hl 3 rfl) ?_
    refine lv_iload_n hx hb dJ7_fill_eb02e_12 rfl (lv_at hl 1 rfl) ?_
    refine lv_icmp_ge (tgt := 27) hx hb dJ7_fill_eb02e_13 (by decide) (fun c_1 => ?_) (fun c_1 => ?_)
    · replace hp := hp.1 c_1
      refine W.widen (k := rC) (n := rS) (Nat.le_trans (Nat.le_add_right _ _) hbc) (Nat.le_trans (Nat.le_add_right _ _) hbs) ?_
      exact w_vret hx hb hr hlocks hW ⟨hE, hp⟩ dJ7_fill_eb02e_27
    · replace hp := hp.2 c_1
      refine lv_aload_n hx hb dJ7_fill_eb02e_16 rfl (lv_at hl 0 rfl) ?_
      refine lv_iload hx hb dJ7_fill_eb02e_17 (lv_at hl 3 rfl) ?_
      refine lv_iload_n hx hb dJ7_fill_eb02e_19 rfl (lv_at hl 2 rfl) ?_
      obtain ⟨h_2m, h_2, hp⟩ := hp
      refine w_bst F hK hW h_2m hK_a0 h_2 dJ7_fill_eb02e_20 (fun H locs hW => ?_)
      obtain ⟨S_3, eS_3⟩ : ∃ z : wS, z = uI S a0 (x4).toNatClampNeg (vp_nar .byte x3) := ⟨_, rfl⟩
      rw [← eS_3] at hW
      replace hp := hp S_3 eS_3
      have hX_S_3 : wX D S S_3 := by rw [eS_3]; exact wX_uI
      have hE := hE.trans hX_S_3
      have hK_a0 : sK S_3 a0 = 20 := (hX_S_3.2 a0 hL_a0).1.trans hK_a0
      have hL_a0 : wM D S_3 a0 := hX_S_3.M hL_a0
      obtain ⟨x_4, ex_4⟩ : ∃ z : Int32, z = x4 + 1 := ⟨_, rfl⟩
      replace hp := hp x_4 ex_4
      refine lv_iinc (v := x_4) (lv' := [(4, .int x_4), (0, .ref a0), (2, .int x2), (3, .int x3)]) hx hb dJ7_fill_eb02e_21 hl (k := 3) rfl (by rw [ex_4]; rfl) (by decide) rfl (fun ls hl => ?_)
      refine lv_goto (tgt := 10) hx hb dJ7_fill_eb02e_24 (by decide) ?_
      exact ih hbc hbs hp hW hE (lv_sub hl [1, 2, 3, 0] rfl) hL_a0 hK_a0
set_option maxHeartbeats 4000000 in
set_option maxRecDepth 100000 in
theorem t_J7_fill_eb02e_0 {p : Program} {l : Launch} {e : Env} {s : State} {m : MethodId} {args : Array Value} {below : List Frame} {meth : Method} {c : Code} {D : wD} {cy : Nat → ClassId} {X : va_W} {A : Nat → Prop} {S0 : wS} {rC rS : Nat} {post : wS → Prop} (F : CallFix p m c cJ7_fill_eb02e 5 s args wz_J7_fill_eb02e RJ7) (hr : meth.sig.returnType = none) (hlocks : meth.locks = false) (hK : wK D cy A s) : ∀ {bc bs cells slots : Nat} (hbc : cells + bc ≤ rC) (hbs : slots + bs ≤ rS) {S : wS} {H : Heap} {locs : List Loc} {ls : Array Slot} {a0 : Nat} {x1 : Int32} {x2 : Int32} {x3 : Int32}, wp_J7_fill_eb02e_0 D post bc bs S a0 x1 x2 x3 → wO D cy X A s.heap S H locs → wX D S0 S → lv_has ls 5 [(0, .ref a0), (1, .int x1), (2, .int x2), (3, .int x3)] → wM D S a0 → sK S a0 = 20 → W p l e (r_J7_fill_eb02e rC rS) s m args below meth c H locs cells slots (MQ below (va_Qv (fun S9 => wX D S0 S9 ∧ post S9) (wB D cy X A) A) args s rC rS A) (F0 m 0 ls []) := by
  obtain ⟨hx, hb, hml, hown, hts⟩ := id F
  have hwg : ∀ w ∈ WG, w.before args s = true := fun w h => hts w (List.mem_cons_of_mem _ h)
  intro bc bs cells slots hbc hbs S H locs ls a0 x1 x2 x3 hp hW hE hl hL_a0 hK_a0
  unfold wp_J7_fill_eb02e_0 at hp
  refine lv_aload_n hx hb dJ7_fill_eb02e_0 rfl (lv_at hl 0 rfl) ?_
  refine w_len F hK hW hL_a0 hK_a0 (by decide) dJ7_fill_eb02e_1 ?_
  refine lv_iload_n hx hb dJ7_fill_eb02e_2 rfl (lv_at hl 1 rfl) ?_
  refine lv_iload_n hx hb dJ7_fill_eb02e_3 rfl (lv_at hl 2 rfl) ?_
  obtain ⟨m_3, z_4, hm_3, hz_4, hp⟩ := hp
  refine w_callV (va_runS (As := [.int (Int32.ofNat (sN S a0)), .int x1, .int x2]) (rest := []) F (c_J7_rangeCheck_23922 l hp H.size) (va_cwS 3 hts (wg_S wm_RJ7_13 wy_J7_rangeCheck_23922) rfl rfl rfl (by decide +kernel) ⟨Nat.le_of_ble_eq_true rfl, Nat.le_of_ble_eq_true rfl⟩) (w_preS hK hW) rfl rfl hl.1 rfl (lv_room (Nat.le_of_ble_eq_true rfl)) dJ7_fill_eb02e_4 ⟨by show _ + m_3 ≤ rC; omega, by show _ + z_4 ≤ rS; omega⟩) hW (fun S_2 H locs hp hW => ?_)
  obtain ⟨hX_S_2, hp⟩ := hp
  refine W.widen (k := _ + m_3) (n := _ + z_4) (Nat.le_refl _) (Nat.le_refl _) ?_
  replace hbc := w_spend hbc (show m_3 ≤ bc by omega)
  replace hbs := w_spend hbs (show z_4 ≤ bs by omega)
  have hE := hE.trans hX_S_2
  have hK_a0 : sK S_2 a0 = 20 := (hX_S_2.2 a0 hL_a0).1.trans hK_a0
  have hL_a0 : wM D S_2 a0 := hX_S_2.M hL_a0
  refine lv_iload_n hx hb dJ7_fill_eb02e_7 rfl (lv_at hl 1 rfl) ?_
  refine lv_istore (lv' := [(4, .int x1), (0, .ref a0), (1, .int x1), (2, .int x2), (3, .int x3)]) hx hb dJ7_fill_eb02e_8 hl (by decide) rfl (fun ls hl => ?_)
  obtain ⟨n_5, hp⟩ := hp
  exact t_J7_fill_eb02e_10 F hr hlocks hK n_5 hbc hbs hp hW hE (lv_sub hl [1, 3, 4, 0] rfl) hL_a0 hK_a0
set_option maxHeartbeats 4000000 in
set_option maxRecDepth 100000 in
theorem c_J7_fill_eb02e (l : Launch) {rC rS : Nat} {D : wD} {cy : Nat → ClassId} {X : va_W} {S0 : wS} {post : wS → Prop} {a0 : Nat} {x1 : Int32} {x2 : Int32} {x3 : Int32} (hL_a0 : wM D S0 a0) (hK_a0 : sK S0 a0 = 20) (hp : wp_J7_fill_eb02e D post rC rS S0 a0 x1 x2 x3) : mV D cy X l yJ7_fill_eb02e wz_J7_fill_eb02e (r_J7_fill_eb02e rC rS) [.ref a0, .int x1, .int x2, .int x3] S0 (fun S9 => wX D S0 S9 ∧ post S9) := by
  intro sz
  refine Met.ofW (cc := cJ7_fill_eb02e) (maxL := 5) (ret := none) (by decide) rfl ?_
  intro p e s m args below meth c s₁ B hml hv
  obtain ⟨rfl, hsz, hP, hK, hD0, hRO⟩ := hv
  have hts := atoms_spec (ws := wz_J7_fill_eb02e) B.pre
  have hown : s.vm.findClass RJ7 = some m.cls := findClass_of_methodNamed B.named
  subst hsz
  have hD := hD0.self (sz := s.heap.size)
  have F : CallFix p m c cJ7_fill_eb02e 5 s _ wz_J7_fill_eb02e RJ7 := ⟨B.exec, B.bytes, hml, hown, hts⟩
  have hr := B.returns
  have hlocks := B.notSynchronized
  generalize hAe : va_A (wL cy X S0) s.heap.size = A at hD hK ⊢
  have hA : ∀ q, s.heap.size ≤ q → A q := fun q h => by rw [← hAe]; exact Or.inr h
  have hW : wO D cy X A s.heap S0 s.heap [] := ⟨hP, hD, va_S.rf, hA, hRO⟩
  have hl := lv_entry ([.ref a0, .int x1, .int x2, .int x3]) (n := 5) (Nat.le_of_ble_eq_true rfl)
  rw [lg_entry_eq]
  generalize (lg_sl ([.ref a0, .int x1, .int x2, .int x3]) ++ List.replicate (5 - (lg_sl ([.ref a0, .int x1, .int x2, .int x3])).length) Slot.unset).toArray = ls at hl ⊢
  have hl : lv_has ls 5 [(0, .ref a0), (1, .int x1), (2, .int x2), (3, .int x3)] := hl
  unfold wp_J7_fill_eb02e at hp
  exact t_J7_fill_eb02e_0 F hr hlocks hK (Nat.le_of_eq (Nat.zero_add _)) (Nat.le_of_eq (Nat.zero_add _)) hp hW wX.rf (lv_sub hl [0, 1, 2, 3] rfl) hL_a0 hK_a0
def wp_J1_fillNull_b72d1_0 (D : wD) (post : wS → Prop)  (bc bs : Nat) (S : wS) (a0 : Nat) (x1 : Int32) (x2 : Int32) : Prop :=
∃ m_3 z_4 : Nat, m_3 ≤ bc ∧ z_4 ≤ bs ∧
wp_J7_fill_eb02e D (fun S_2 => 
post S_2) m_3 z_4 S a0 x1 x2 (0 : Int32)
abbrev r_J1_fillNull_b72d1 (rC rS : Nat) : Room := { frames := 13, cells := rC, slots := rS, locals := 290 }
def wp_J1_fillNull_b72d1 (D : wD) (post : wS → Prop) (bc bs : Nat) (S : wS) (a0 : Nat) (x1 : Int32) (x2 : Int32) : Prop := wp_J1_fillNull_b72d1_0 D post bc bs S a0 x1 x2
set_option maxHeartbeats 4000000 in
set_option maxRecDepth 100000 in
theorem t_J1_fillNull_b72d1_0 {p : Program} {l : Launch} {e : Env} {s : State} {m : MethodId} {args : Array Value} {below : List Frame} {meth : Method} {c : Code} {D : wD} {cy : Nat → ClassId} {X : va_W} {A : Nat → Prop} {S0 : wS} {rC rS : Nat} {post : wS → Prop} (F : CallFix p m c cJ1_fillNull_b72d1 3 s args wz_J1_fillNull_b72d1 RJ1) (hr : meth.sig.returnType = none) (hlocks : meth.locks = false) (hK : wK D cy A s) : ∀ {bc bs cells slots : Nat} (hbc : cells + bc ≤ rC) (hbs : slots + bs ≤ rS) {S : wS} {H : Heap} {locs : List Loc} {ls : Array Slot} {a0 : Nat} {x1 : Int32} {x2 : Int32}, wp_J1_fillNull_b72d1_0 D post bc bs S a0 x1 x2 → wO D cy X A s.heap S H locs → wX D S0 S → lv_has ls 3 [(0, .ref a0), (1, .int x1), (2, .int x2)] → wM D S a0 → sK S a0 = 20 → W p l e (r_J1_fillNull_b72d1 rC rS) s m args below meth c H locs cells slots (MQ below (va_Qv (fun S9 => wX D S0 S9 ∧ post S9) (wB D cy X A) A) args s rC rS A) (F0 m 0 ls []) := by
  obtain ⟨hx, hb, hml, hown, hts⟩ := id F
  have hwg : ∀ w ∈ WG, w.before args s = true := fun w h => hts w (List.mem_cons_of_mem _ h)
  intro bc bs cells slots hbc hbs S H locs ls a0 x1 x2 hp hW hE hl hL_a0 hK_a0
  unfold wp_J1_fillNull_b72d1_0 at hp
  refine lv_aload_n hx hb dJ1_fillNull_b72d1_0 rfl (lv_at hl 0 rfl) ?_
  refine lv_iload_n hx hb dJ1_fillNull_b72d1_1 rfl (lv_at hl 1 rfl) ?_
  refine lv_iload_n hx hb dJ1_fillNull_b72d1_2 rfl (lv_at hl 2 rfl) ?_
  refine lv_iconst (v := 0) hx hb dJ1_fillNull_b72d1_3 (by decide) ?_
  obtain ⟨m_3, z_4, hm_3, hz_4, hp⟩ := hp
  refine w_callV (va_runS (As := [.ref a0, .int x1, .int x2, .int (0 : Int32)]) (rest := []) F (c_J7_fill_eb02e l hL_a0 hK_a0 hp H.size) (va_cwS 4 hts (wg_S wm_RJ1_236 wy_J7_fill_eb02e) rfl rfl rfl (by decide +kernel) ⟨Nat.le_of_ble_eq_true rfl, Nat.le_of_ble_eq_true rfl⟩) (w_preS hK hW) rfl rfl hl.1 rfl (lv_room (Nat.le_of_ble_eq_true rfl)) dJ1_fillNull_b72d1_4 ⟨by show _ + m_3 ≤ rC; omega, by show _ + z_4 ≤ rS; omega⟩) hW (fun S_2 H locs hp hW => ?_)
  obtain ⟨hX_S_2, hp⟩ := hp
  refine W.widen (k := _ + m_3) (n := _ + z_4) (Nat.le_refl _) (Nat.le_refl _) ?_
  replace hbc := w_spend hbc (show m_3 ≤ bc by omega)
  replace hbs := w_spend hbs (show z_4 ≤ bs by omega)
  have hE := hE.trans hX_S_2
  have hK_a0 : sK S_2 a0 = 20 := (hX_S_2.2 a0 hL_a0).1.trans hK_a0
  have hL_a0 : wM D S_2 a0 := hX_S_2.M hL_a0
  refine W.widen (k := rC) (n := rS) (Nat.le_trans (Nat.le_add_right _ _) hbc) (Nat.le_trans (Nat.le_add_right _ _) hbs) ?_
  exact w_vret hx hb hr hlocks hW ⟨hE, hp⟩ dJ1_fillNull_b72d1_7
set_option maxHeartbeats 4000000 in
set_option maxRecDepth 100000 in
theorem c_J1_fillNull_b72d1 (l : Launch) {rC rS : Nat} {D : wD} {cy : Nat → ClassId} {X : va_W} {S0 : wS} {post : wS → Prop} {a0 : Nat} {x1 : Int32} {x2 : Int32} (hL_a0 : wM D S0 a0) (hK_a0 : sK S0 a0 = 20) (hp : wp_J1_fillNull_b72d1 D post rC rS S0 a0 x1 x2) : mV D cy X l yJ1_fillNull_b72d1 wz_J1_fillNull_b72d1 (r_J1_fillNull_b72d1 rC rS) [.ref a0, .int x1, .int x2] S0 (fun S9 => wX D S0 S9 ∧ post S9) := by
  intro sz
  refine Met.ofW (cc := cJ1_fillNull_b72d1) (maxL := 3) (ret := none) (by decide) rfl ?_
  intro p e s m args below meth c s₁ B hml hv
  obtain ⟨rfl, hsz, hP, hK, hD0, hRO⟩ := hv
  have hts := atoms_spec (ws := wz_J1_fillNull_b72d1) B.pre
  have hown : s.vm.findClass RJ1 = some m.cls := findClass_of_methodNamed B.named
  subst hsz
  have hD := hD0.self (sz := s.heap.size)
  have F : CallFix p m c cJ1_fillNull_b72d1 3 s _ wz_J1_fillNull_b72d1 RJ1 := ⟨B.exec, B.bytes, hml, hown, hts⟩
  have hr := B.returns
  have hlocks := B.notSynchronized
  generalize hAe : va_A (wL cy X S0) s.heap.size = A at hD hK ⊢
  have hA : ∀ q, s.heap.size ≤ q → A q := fun q h => by rw [← hAe]; exact Or.inr h
  have hW : wO D cy X A s.heap S0 s.heap [] := ⟨hP, hD, va_S.rf, hA, hRO⟩
  have hl := lv_entry ([.ref a0, .int x1, .int x2]) (n := 3) (Nat.le_of_ble_eq_true rfl)
  rw [lg_entry_eq]
  generalize (lg_sl ([.ref a0, .int x1, .int x2]) ++ List.replicate (3 - (lg_sl ([.ref a0, .int x1, .int x2])).length) Slot.unset).toArray = ls at hl ⊢
  have hl : lv_has ls 3 [(0, .ref a0), (1, .int x1), (2, .int x2)] := hl
  unfold wp_J1_fillNull_b72d1 at hp
  exact t_J1_fillNull_b72d1_0 F hr hlocks hK (Nat.le_of_eq (Nat.zero_add _)) (Nat.le_of_eq (Nat.zero_add _)) hp hW wX.rf (lv_sub hl [0, 1, 2] rfl) hL_a0 hK_a0
def wp_J2_fillNull_b72d1_0 (D : wD) (post : wS → Prop)  (bc bs : Nat) (S : wS) (a0 : Nat) (x1 : Int32) (x2 : Int32) : Prop :=
∃ m_3 z_4 : Nat, m_3 ≤ bc ∧ z_4 ≤ bs ∧
wp_J7_fill_eb02e D (fun S_2 => 
post S_2) m_3 z_4 S a0 (x1 <<< ((1 : Int32) &&& 31)) (x2 <<< ((1 : Int32) &&& 31)) (0 : Int32)
abbrev r_J2_fillNull_b72d1 (rC rS : Nat) : Room := { frames := 13, cells := rC, slots := rS, locals := 290 }
def wp_J2_fillNull_b72d1 (D : wD) (post : wS → Prop) (bc bs : Nat) (S : wS) (a0 : Nat) (x1 : Int32) (x2 : Int32) : Prop := wp_J2_fillNull_b72d1_0 D post bc bs S a0 x1 x2
set_option maxHeartbeats 4000000 in
set_option maxRecDepth 100000 in
theorem t_J2_fillNull_b72d1_0 {p : Program} {l : Launch} {e : Env} {s : State} {m : MethodId} {args : Array Value} {below : List Frame} {meth : Method} {c : Code} {D : wD} {cy : Nat → ClassId} {X : va_W} {A : Nat → Prop} {S0 : wS} {rC rS : Nat} {post : wS → Prop} (F : CallFix p m c cJ2_fillNull_b72d1 3 s args wz_J2_fillNull_b72d1 RJ2) (hr : meth.sig.returnType = none) (hlocks : meth.locks = false) (hK : wK D cy A s) : ∀ {bc bs cells slots : Nat} (hbc : cells + bc ≤ rC) (hbs : slots + bs ≤ rS) {S : wS} {H : Heap} {locs : List Loc} {ls : Array Slot} {a0 : Nat} {x1 : Int32} {x2 : Int32}, wp_J2_fillNull_b72d1_0 D post bc bs S a0 x1 x2 → wO D cy X A s.heap S H locs → wX D S0 S → lv_has ls 3 [(0, .ref a0), (1, .int x1), (2, .int x2)] → wM D S a0 → sK S a0 = 20 → W p l e (r_J2_fillNull_b72d1 rC rS) s m args below meth c H locs cells slots (MQ below (va_Qv (fun S9 => wX D S0 S9 ∧ post S9) (wB D cy X A) A) args s rC rS A) (F0 m 0 ls []) := by
  obtain ⟨hx, hb, hml, hown, hts⟩ := id F
  have hwg : ∀ w ∈ WG, w.before args s = true := fun w h => hts w (List.mem_cons_of_mem _ h)
  intro bc bs cells slots hbc hbs S H locs ls a0 x1 x2 hp hW hE hl hL_a0 hK_a0
  unfold wp_J2_fillNull_b72d1_0 at hp
  refine lv_aload_n hx hb dJ2_fillNull_b72d1_0 rfl (lv_at hl 0 rfl) ?_
  refine lv_iload_n hx hb dJ2_fillNull_b72d1_1 rfl (lv_at hl 1 rfl) ?_
  refine lv_iconst (v := 1) hx hb dJ2_fillNull_b72d1_2 (by decide) ?_
  refine lv_ishl hx hb dJ2_fillNull_b72d1_3 ?_
  refine lv_iload_n hx hb dJ2_fillNull_b72d1_4 rfl (lv_at hl 2 rfl) ?_
  refine lv_iconst (v := 1) hx hb dJ2_fillNull_b72d1_5 (by decide) ?_
  refine lv_ishl hx hb dJ2_fillNull_b72d1_6 ?_
  refine lv_iconst (v := 0) hx hb dJ2_fillNull_b72d1_7 (by decide) ?_
  obtain ⟨m_3, z_4, hm_3, hz_4, hp⟩ := hp
  refine w_callV (va_runS (As := [.ref a0, .int (x1 <<< ((1 : Int32) &&& 31)), .int (x2 <<< ((1 : Int32) &&& 31)), .int (0 : Int32)]) (rest := []) F (c_J7_fill_eb02e l hL_a0 hK_a0 hp H.size) (va_cwS 4 hts (wg_S wm_RJ2_380 wy_J7_fill_eb02e) rfl rfl rfl (by decide +kernel) ⟨Nat.le_of_ble_eq_true rfl, Nat.le_of_ble_eq_true rfl⟩) (w_preS hK hW) rfl rfl hl.1 rfl (lv_room (Nat.le_of_ble_eq_true rfl)) dJ2_fillNull_b72d1_8 ⟨by show _ + m_3 ≤ rC; omega, by show _ + z_4 ≤ rS; omega⟩) hW (fun S_2 H locs hp hW => ?_)
  obtain ⟨hX_S_2, hp⟩ := hp
  refine W.widen (k := _ + m_3) (n := _ + z_4) (Nat.le_refl _) (Nat.le_refl _) ?_
  replace hbc := w_spend hbc (show m_3 ≤ bc by omega)
  replace hbs := w_spend hbs (show z_4 ≤ bs by omega)
  have hE := hE.trans hX_S_2
  have hK_a0 : sK S_2 a0 = 20 := (hX_S_2.2 a0 hL_a0).1.trans hK_a0
  have hL_a0 : wM D S_2 a0 := hX_S_2.M hL_a0
  refine W.widen (k := rC) (n := rS) (Nat.le_trans (Nat.le_add_right _ _) hbc) (Nat.le_trans (Nat.le_add_right _ _) hbs) ?_
  exact w_vret hx hb hr hlocks hW ⟨hE, hp⟩ dJ2_fillNull_b72d1_11
set_option maxHeartbeats 4000000 in
set_option maxRecDepth 100000 in
theorem c_J2_fillNull_b72d1 (l : Launch) {rC rS : Nat} {D : wD} {cy : Nat → ClassId} {X : va_W} {S0 : wS} {post : wS → Prop} {a0 : Nat} {x1 : Int32} {x2 : Int32} (hL_a0 : wM D S0 a0) (hK_a0 : sK S0 a0 = 20) (hp : wp_J2_fillNull_b72d1 D post rC rS S0 a0 x1 x2) : mV D cy X l yJ2_fillNull_b72d1 wz_J2_fillNull_b72d1 (r_J2_fillNull_b72d1 rC rS) [.ref a0, .int x1, .int x2] S0 (fun S9 => wX D S0 S9 ∧ post S9) := by
  intro sz
  refine Met.ofW (cc := cJ2_fillNull_b72d1) (maxL := 3) (ret := none) (by decide) rfl ?_
  intro p e s m args below meth c s₁ B hml hv
  obtain ⟨rfl, hsz, hP, hK, hD0, hRO⟩ := hv
  have hts := atoms_spec (ws := wz_J2_fillNull_b72d1) B.pre
  have hown : s.vm.findClass RJ2 = some m.cls := findClass_of_methodNamed B.named
  subst hsz
  have hD := hD0.self (sz := s.heap.size)
  have F : CallFix p m c cJ2_fillNull_b72d1 3 s _ wz_J2_fillNull_b72d1 RJ2 := ⟨B.exec, B.bytes, hml, hown, hts⟩
  have hr := B.returns
  have hlocks := B.notSynchronized
  generalize hAe : va_A (wL cy X S0) s.heap.size = A at hD hK ⊢
  have hA : ∀ q, s.heap.size ≤ q → A q := fun q h => by rw [← hAe]; exact Or.inr h
  have hW : wO D cy X A s.heap S0 s.heap [] := ⟨hP, hD, va_S.rf, hA, hRO⟩
  have hl := lv_entry ([.ref a0, .int x1, .int x2]) (n := 3) (Nat.le_of_ble_eq_true rfl)
  rw [lg_entry_eq]
  generalize (lg_sl ([.ref a0, .int x1, .int x2]) ++ List.replicate (3 - (lg_sl ([.ref a0, .int x1, .int x2])).length) Slot.unset).toArray = ls at hl ⊢
  have hl : lv_has ls 3 [(0, .ref a0), (1, .int x1), (2, .int x2)] := hl
  unfold wp_J2_fillNull_b72d1 at hp
  exact t_J2_fillNull_b72d1_0 F hr hlocks hK (Nat.le_of_eq (Nat.zero_add _)) (Nat.le_of_eq (Nat.zero_add _)) hp hW wX.rf (lv_sub hl [0, 1, 2] rfl) hL_a0 hK_a0
def wp_J2_putCharSB_b72d1_0 (D : wD) (post : wS → Prop)  (S : wS) (a0 : Nat) (x1 : Int32) (x2 : Int32) : Prop :=
wp_J2_checkIndex_2214a D (fun S_2 => 
wp_J2_putChar_b72d1 D (fun S_4 => 
post S_4) S_2 a0 x1 x2) S x1 a0
abbrev r_J2_putCharSB_b72d1 : Room := { frames := 3, cells := 0, slots := 0, locals := 64 }
def wp_J2_putCharSB_b72d1 (D : wD) (post : wS → Prop) (S : wS) (a0 : Nat) (x1 : Int32) (x2 : Int32) : Prop := wp_J2_putCharSB_b72d1_0 D post S a0 x1 x2
set_option maxHeartbeats 4000000 in
set_option maxRecDepth 100000 in
theorem t_J2_putCharSB_b72d1_0 {p : Program} {l : Launch} {e : Env} {s : State} {m : MethodId} {args : Array Value} {below : List Frame} {meth : Method} {c : Code} {D : wD} {cy : Nat → ClassId} {X : va_W} {A : Nat → Prop} {S0 : wS} {post : wS → Prop} (F : CallFix p m c cJ2_putCharSB_b72d1 3 s args wz_J2_putCharSB_b72d1 RJ2) (hr : meth.sig.returnType = none) (hlocks : meth.locks = false) (hK : wK D cy A s) : ∀ {S : wS} {H : Heap} {locs : List Loc} {ls : Array Slot} {a0 : Nat} {x1 : Int32} {x2 : Int32}, wp_J2_putCharSB_b72d1_0 D post S a0 x1 x2 → wO D cy X A s.heap S H locs → wX D S0 S → lv_has ls 3 [(0, .ref a0), (1, .int x1), (2, .int x2)] → wM D S a0 → sK S a0 = 20 → W p l e r_J2_putCharSB_b72d1 s m args below meth c H locs 0 0 (MQ below (va_Qv (fun S9 => wX D S0 S9 ∧ post S9) (wB D cy X A) A) args s 0 0 A) (F0 m 0 ls []) := by
  obtain ⟨hx, hb, hml, hown, hts⟩ := id F
  have hwg : ∀ w ∈ WG, w.before args s = true := fun w h => hts w (List.mem_cons_of_mem _ h)
  intro S H locs ls a0 x1 x2 hp hW hE hl hL_a0 hK_a0
  unfold wp_J2_putCharSB_b72d1_0 at hp
  refine lv_iload_n hx hb dJ2_putCharSB_b72d1_0 rfl (lv_at hl 1 rfl) ?_
  refine lv_aload_n hx hb dJ2_putCharSB_b72d1_1 rfl (lv_at hl 0 rfl) ?_
  refine w_callV (va_runS (As := [.int x1, .ref a0]) (rest := []) F (c_J2_checkIndex_2214a l hL_a0 hK_a0 hp H.size) (va_cwS 2 hts (wg_S wm_RJ2_67 wy_J2_checkIndex_2214a) rfl rfl rfl (by decide +kernel) ⟨Nat.le_of_ble_eq_true rfl, Nat.le_of_ble_eq_true rfl⟩) (w_preS hK hW) rfl rfl hl.1 rfl (lv_room (Nat.le_of_ble_eq_true rfl)) dJ2_putCharSB_b72d1_2 ⟨Nat.le_of_ble_eq_true rfl, Nat.le_of_ble_eq_true rfl⟩) hW (fun S_2 H locs hp hW => ?_)
  obtain ⟨hX_S_2, hp⟩ := hp
  refine W.widen (k := 0) (n := 0) (by decide) (by decide) ?_
  have hE := hE.trans hX_S_2
  have hK_a0 : sK S_2 a0 = 20 := (hX_S_2.2 a0 hL_a0).1.trans hK_a0
  have hL_a0 : wM D S_2 a0 := hX_S_2.M hL_a0
  refine lv_aload_n hx hb dJ2_putCharSB_b72d1_5 rfl (lv_at hl 0 rfl) ?_
  refine lv_iload_n hx hb dJ2_putCharSB_b72d1_6 rfl (lv_at hl 1 rfl) ?_
  refine lv_iload_n hx hb dJ2_putCharSB_b72d1_7 rfl (lv_at hl 2 rfl) ?_
  refine w_callV (va_runS (As := [.ref a0, .int x1, .int x2]) (rest := []) F (c_J2_putChar_b72d1 l hL_a0 hK_a0 hp H.size) (va_cwS 3 hts (wg_S wm_RJ2_111 wy_J2_putChar_b72d1) rfl rfl rfl (by decide +kernel) ⟨Nat.le_of_ble_eq_true rfl, Nat.le_of_ble_eq_true rfl⟩) (w_preS hK hW) rfl rfl hl.1 rfl (lv_room (Nat.le_of_ble_eq_true rfl)) dJ2_putCharSB_b72d1_8 ⟨Nat.le_of_ble_eq_true rfl, Nat.le_of_ble_eq_true rfl⟩) hW (fun S_4 H locs hp hW => ?_)
  obtain ⟨hX_S_4, hp⟩ := hp
  refine W.widen (k := 0) (n := 0) (by decide) (by decide) ?_
  have hE := hE.trans hX_S_4
  have hK_a0 : sK S_4 a0 = 20 := (hX_S_4.2 a0 hL_a0).1.trans hK_a0
  have hL_a0 : wM D S_4 a0 := hX_S_4.M hL_a0
  exact w_vret hx hb hr hlocks hW ⟨hE, hp⟩ dJ2_putCharSB_b72d1_11
set_option maxHeartbeats 4000000 in
set_option maxRecDepth 100000 in
theorem c_J2_putCharSB_b72d1 (l : Launch) {D : wD} {cy : Nat → ClassId} {X : va_W} {S0 : wS} {post : wS → Prop} {a0 : Nat} {x1 : Int32} {x2 : Int32} (hL_a0 : wM D S0 a0) (hK_a0 : sK S0 a0 = 20) (hp : wp_J2_putCharSB_b72d1 D post S0 a0 x1 x2) : mV D cy X l yJ2_putCharSB_b72d1 wz_J2_putCharSB_b72d1 r_J2_putCharSB_b72d1 [.ref a0, .int x1, .int x2] S0 (fun S9 => wX D S0 S9 ∧ post S9) := by
  intro sz
  refine Met.ofW (cc := cJ2_putCharSB_b72d1) (maxL := 3) (ret := none) (by decide) rfl ?_
  intro p e s m args below meth c s₁ B hml hv
  obtain ⟨rfl, hsz, hP, hK, hD0, hRO⟩ := hv
  have hts := atoms_spec (ws := wz_J2_putCharSB_b72d1) B.pre
  have hown : s.vm.findClass RJ2 = some m.cls := findClass_of_methodNamed B.named
  subst hsz
  have hD := hD0.self (sz := s.heap.size)
  have F : CallFix p m c cJ2_putCharSB_b72d1 3 s _ wz_J2_putCharSB_b72d1 RJ2 := ⟨B.exec, B.bytes, hml, hown, hts⟩
  have hr := B.returns
  have hlocks := B.notSynchronized
  generalize hAe : va_A (wL cy X S0) s.heap.size = A at hD hK ⊢
  have hA : ∀ q, s.heap.size ≤ q → A q := fun q h => by rw [← hAe]; exact Or.inr h
  have hW : wO D cy X A s.heap S0 s.heap [] := ⟨hP, hD, va_S.rf, hA, hRO⟩
  have hl := lv_entry ([.ref a0, .int x1, .int x2]) (n := 3) (Nat.le_of_ble_eq_true rfl)
  rw [lg_entry_eq]
  generalize (lg_sl ([.ref a0, .int x1, .int x2]) ++ List.replicate (3 - (lg_sl ([.ref a0, .int x1, .int x2])).length) Slot.unset).toArray = ls at hl ⊢
  have hl : lv_has ls 3 [(0, .ref a0), (1, .int x1), (2, .int x2)] := hl
  unfold wp_J2_putCharSB_b72d1 at hp
  exact t_J2_putCharSB_b72d1_0 F hr hlocks hK hp hW wX.rf (lv_sub hl [0, 1, 2] rfl) hL_a0 hK_a0
def wp_J5_append_3fe6f_75 (D : wD) (post : Option Nat → wS → Prop)  (bc bs : Nat) (S : wS) (a0 : Nat) : Prop :=
post (some a0) S
def wp_J5_append_3fe6f_56 (D : wD) (post : Option Nat → wS → Prop)  (bc bs : Nat) (S : wS) (a0 : Nat) (x1 : Int32) : Prop :=
∃ y_1 : Nat, sR S a0 0 = some y_1 ∧ wM D S y_1 ∧ sK S y_1 = 20 ∧
∀ S_2 : wS, S_2 = uI S a0 3 ((sI S a0 3) + (1 : Int32)) →
wp_J2_putCharSB_b72d1 D (fun S_4 => 
wp_J5_append_3fe6f_75 D post bc bs S_4 a0) S_2 y_1 (sI S a0 3) x1
def wp_J5_append_3fe6f_45 (D : wD) (post : Option Nat → wS → Prop)  (bc bs : Nat) (S : wS) (a0 : Nat) (x1 : Int32) : Prop :=
wp_J5_isLatin1_aae02 D (fun r_1 S_2 => 
((r_1 = 0 → wp_J5_append_3fe6f_56 D post bc bs S_2 a0 x1) ∧
 (¬ r_1 = 0 → ∃ m_6 z_7 : Nat, m_6 ≤ bc ∧ z_7 ≤ bs ∧
wp_J5_inflate_da8c8 D (fun S_5 => 
wp_J5_append_3fe6f_56 D post (bc - m_6) (bs - z_7) S_5 a0 x1) m_6 z_7 S_2 a0))) S a0
def wp_J5_append_3fe6f_0 (D : wD) (post : Option Nat → wS → Prop)  (bc bs : Nat) (S : wS) (a0 : Nat) (x1 : Int32) : Prop :=
∃ m_3 z_4 : Nat, m_3 ≤ bc ∧ z_4 ≤ bs ∧
wp_J5_ensureCapacityInternal_d00df D (fun S_2 => 
wp_J5_isLatin1_aae02 D (fun r_5 S_6 => 
((r_5 = 0 → wp_J5_append_3fe6f_45 D post (bc - m_3) (bs - z_4) S_6 a0 x1) ∧
 (¬ r_5 = 0 → wp_J1_canEncode_fc78d D (fun r_8 S_9 => 
((r_8 = 0 → wp_J5_append_3fe6f_45 D post (bc - m_3) (bs - z_4) S_9 a0 x1) ∧
 (¬ r_8 = 0 → ∃ y_11 : Nat, sR S_9 a0 0 = some y_11 ∧ wM D S_9 y_11 ∧ sK S_9 y_11 = 20 ∧
∀ S_12 : wS, S_12 = uI S_9 a0 3 ((sI S_9 a0 3) + (1 : Int32)) →
y_11 ∈ sL S_12 ∧ vp_in (sI S_9 a0 3) (sN S_12 y_11) ∧
∀ S_14 : wS, S_14 = uI S_12 y_11 ((sI S_9 a0 3)).toNatClampNeg (vp_nar .byte ((Int32.toInt8 x1).toInt32)) →
wp_J5_append_3fe6f_75 D post (bc - m_3) (bs - z_4) S_14 a0))) S_6 x1))) S_2 a0) m_3 z_4 S a0 ((sI S a0 3) + (1 : Int32))
abbrev r_J5_append_3fe6f (rC rS : Nat) : Room := { frames := 6, cells := rC, slots := rS, locals := 137 }
def wp_J5_append_3fe6f (D : wD) (post : Option Nat → wS → Prop) (bc bs : Nat) (S : wS) (a0 : Nat) (x1 : Int32) : Prop := wp_J5_append_3fe6f_0 D post bc bs S a0 x1
set_option maxHeartbeats 4000000 in
set_option maxRecDepth 100000 in
theorem t_J5_append_3fe6f_75 {p : Program} {l : Launch} {e : Env} {s : State} {m : MethodId} {args : Array Value} {below : List Frame} {meth : Method} {c : Code} {D : wD} {cy : Nat → ClassId} {X : va_W} {A : Nat → Prop} {S0 : wS} {rC rS : Nat} {post : Option Nat → wS → Prop} (F : CallFix p m c cJ5_append_3fe6f 2 s args wz_J5_append_3fe6f RJ5) (hr : meth.sig.returnType = (some (.object "java/lang/AbstractStringBuilder"))) (hlocks : meth.locks = false) (hK : wK D cy A s) : ∀ {bc bs cells slots : Nat} (hbc : cells + bc ≤ rC) (hbs : slots + bs ≤ rS) {S : wS} {H : Heap} {locs : List Loc} {ls : Array Slot} {a0 : Nat}, wp_J5_append_3fe6f_75 D post bc bs S a0 → wO D cy X A s.heap S H locs → wX D S0 S → lv_has ls 2 [(0, .ref a0)] → wM D S a0 → sK S a0 = 1 → W p l e (r_J5_append_3fe6f rC rS) s m args below meth c H locs cells slots (MQ below (va_Qq (fun r S9 => wX D S0 S9 ∧ post r S9) (wB D cy X A) A) args s rC rS A) (F0 m 75 ls []) := by
  obtain ⟨hx, hb, hml, hown, hts⟩ := id F
  have hwg : ∀ w ∈ WG, w.before args s = true := fun w h => hts w (List.mem_cons_of_mem _ h)
  intro bc bs cells slots hbc hbs S H locs ls a0 hp hW hE hl hL_a0 hK_a0
  unfold wp_J5_append_3fe6f_75 at hp
  refine lv_aload_n hx hb dJ5_append_3fe6f_75 rfl (lv_at hl 0 rfl) ?_
  refine W.widen (k := rC) (n := rS) (Nat.le_trans (Nat.le_add_right _ _) hbc) (Nat.le_trans (Nat.le_add_right _ _) hbs) ?_
  exact w_aret (g := (some a0)) hx hb hr hlocks hW ⟨hE, hp⟩ dJ5_append_3fe6f_76
set_option maxHeartbeats 4000000 in
set_option maxRecDepth 100000 in
theorem t_J5_append_3fe6f_56 {p : Program} {l : Launch} {e : Env} {s : State} {m : MethodId} {args : Array Value} {below : List Frame} {meth : Method} {c : Code} {D : wD} {cy : Nat → ClassId} {X : va_W} {A : Nat → Prop} {S0 : wS} {rC rS : Nat} {post : Option Nat → wS → Prop} (F : CallFix p m c cJ5_append_3fe6f 2 s args wz_J5_append_3fe6f RJ5) (hr : meth.sig.returnType = (some (.object "java/lang/AbstractStringBuilder"))) (hlocks : meth.locks = false) (hK : wK D cy A s) : ∀ {bc bs cells slots : Nat} (hbc : cells + bc ≤ rC) (hbs : slots + bs ≤ rS) {S : wS} {H : Heap} {locs : List Loc} {ls : Array Slot} {a0 : Nat} {x1 : Int32}, wp_J5_append_3fe6f_56 D post bc bs S a0 x1 → wO D cy X A s.heap S H locs → wX D S0 S → lv_has ls 2 [(0, .ref a0), (1, .int x1)] → wM D S a0 → sK S a0 = 1 → W p l e (r_J5_append_3fe6f rC rS) s m args below meth c H locs cells slots (MQ below (va_Qq (fun r S9 => wX D S0 S9 ∧ post r S9) (wB D cy X A) A) args s rC rS A) (F0 m 56 ls []) := by
  obtain ⟨hx, hb, hml, hown, hts⟩ := id F
  have hwg : ∀ w ∈ WG, w.before args s = true := fun w h => hts w (List.mem_cons_of_mem _ h)
  have i_1 : ∀ w ∈ u_ws RJ4 TJ4 4, w ∈ wz_J5_append_3fe6f := fun w h => List.mem_cons_of_mem _ (wu_1 w h)
  have k_15 := hwg _ wf_RJ5_15
  have k_79 := hwg _ wf_RJ5_79
  intro bc bs cells slots hbc hbs S H locs ls a0 x1 hp hW hE hl hL_a0 hK_a0
  unfold wp_J5_append_3fe6f_56 at hp
  refine lv_aload_n hx hb dJ5_append_3fe6f_56 rfl (lv_at hl 0 rfl) ?_
  obtain ⟨y_1, ey_1, hL_y_1, hK_y_1, hp⟩ := hp
  refine w_get (k := 1) (f := 0) (T := TJ4) (v := .ref y_1) F hK hW hL_a0 hK_a0 (by decide) rfl rfl (by decide) i_1 k_15 (by rw [show wv 1 0 S a0 = va_rf (sR S a0 0) from rfl, ey_1]; rfl) dJ5_append_3fe6f_57 ?_
  refine lv_aload_n hx hb dJ5_append_3fe6f_60 rfl (lv_at hl 0 rfl) ?_
  refine lv_dup hx hb dJ5_append_3fe6f_61 rfl ?_
  refine w_get (k := 1) (f := 3) (T := TJ4) (v := .int (sI S a0 3)) F hK hW hL_a0 hK_a0 (by decide) rfl rfl (by decide) i_1 k_79 rfl dJ5_append_3fe6f_62 ?_
  refine lv_dup_x1 hx hb dJ5_append_3fe6f_65 rfl rfl ?_
  refine lv_iconst (v := 1) hx hb dJ5_append_3fe6f_66 (by decide) ?_
  refine lv_iadd hx hb dJ5_append_3fe6f_67 ?_
  refine w_putI (k := 1) (f := 3) (T := TJ4) F hK hW hL_a0 hK_a0 (by decide) (by decide) rfl rfl (by decide) i_1 tyJ4 tyJ4_ok nmJ4 k_79 rfl rfl (ty := .int) rfl rfl rfl dJ5_append_3fe6f_68 (fun H locs hW => ?_)
  obtain ⟨S_2, eS_2⟩ : ∃ z : wS, z = uI S a0 3 ((sI S a0 3) + (1 : Int32)) := ⟨_, rfl⟩
  rw [← eS_2] at hW
  replace hp := hp S_2 eS_2
  have hX_S_2 : wX D S S_2 := by rw [eS_2]; exact wX_uI
  have hE := hE.trans hX_S_2
  have hK_a0 : sK S_2 a0 = 1 := (hX_S_2.2 a0 hL_a0).1.trans hK_a0
  have hL_a0 : wM D S_2 a0 := hX_S_2.M hL_a0
  have hK_y_1 : sK S_2 y_1 = 20 := (hX_S_2.2 y_1 hL_y_1).1.trans hK_y_1
  have hL_y_1 : wM D S_2 y_1 := hX_S_2.M hL_y_1
  refine lv_iload_n hx hb dJ5_append_3fe6f_71 rfl (lv_at hl 1 rfl) ?_
  refine w_callV (va_runS (As := [.ref y_1, .int (sI S a0 3), .int x1]) (rest := []) F (c_J2_putCharSB_b72d1 l hL_y_1 hK_y_1 hp H.size) (va_cwS 3 hts (wg_S wm_RJ5_197 wy_J2_putCharSB_b72d1) rfl rfl rfl (by decide +kernel) ⟨Nat.le_of_ble_eq_true rfl, Nat.le_of_ble_eq_true rfl⟩) (w_preS hK hW) rfl rfl hl.1 rfl (lv_room (Nat.le_of_ble_eq_true rfl)) dJ5_append_3fe6f_72 ⟨by show _ ≤ rC; exact Nat.le_trans (Nat.le_add_right _ _) hbc, by show _ ≤ rS; exact Nat.le_trans (Nat.le_add_right _ _) hbs⟩) hW (fun S_4 H locs hp hW => ?_)
  obtain ⟨hX_S_4, hp⟩ := hp
  refine w_same ?_
  have hE := hE.trans hX_S_4
  have hK_a0 : sK S_4 a0 = 1 := (hX_S_4.2 a0 hL_a0).1.trans hK_a0
  have hL_a0 : wM D S_4 a0 := hX_S_4.M hL_a0
  exact t_J5_append_3fe6f_75 F hr hlocks hK hbc hbs hp hW hE (lv_sub hl [0] rfl) hL_a0 hK_a0
set_option maxHeartbeats 4000000 in
set_option maxRecDepth 100000 in
theorem t_J5_append_3fe6f_45 {p : Program} {l : Launch} {e : Env} {s : State} {m : MethodId} {args : Array Value} {below : List Frame} {meth : Method} {c : Code} {D : wD} {cy : Nat → ClassId} {X : va_W} {A : Nat → Prop} {S0 : wS} {rC rS : Nat} {post : Option Nat → wS → Prop} (F : CallFix p m c cJ5_append_3fe6f 2 s args wz_J5_append_3fe6f RJ5) (hr : meth.sig.returnType = (some (.object "java/lang/AbstractStringBuilder"))) (hlocks : meth.locks = false) (hK : wK D cy A s) : ∀ {bc bs cells slots : Nat} (hbc : cells + bc ≤ rC) (hbs : slots + bs ≤ rS) {S : wS} {H : Heap} {locs : List Loc} {ls : Array Slot} {a0 : Nat} {x1 : Int32}, wp_J5_append_3fe6f_45 D post bc bs S a0 x1 → wO D cy X A s.heap S H locs → wX D S0 S → lv_has ls 2 [(0, .ref a0), (1, .int x1)] → wM D S a0 → sK S a0 = 1 → W p l e (r_J5_append_3fe6f rC rS) s m args below meth c H locs cells slots (MQ below (va_Qq (fun r S9 => wX D S0 S9 ∧ post r S9) (wB D cy X A) A) args s rC rS A) (F0 m 45 ls []) := by
  obtain ⟨hx, hb, hml, hown, hts⟩ := id F
  have hwg : ∀ w ∈ WG, w.before args s = true := fun w h => hts w (List.mem_cons_of_mem _ h)
  intro bc bs cells slots hbc hbs S H locs ls a0 x1 hp hW hE hl hL_a0 hK_a0
  unfold wp_J5_append_3fe6f_45 at hp
  refine lv_aload_n hx hb dJ5_append_3fe6f_45 rfl (lv_at hl 0 rfl) ?_
  refine w_callI (va_runU (As := []) (rest := []) F (c_J5_isLatin1_aae02 l hL_a0 hK_a0 hp H.size) (va_cwU (C := RJ4) (owner := RJ5) 0 hts (wg_U wm_RJ5_83 wsm_J5_isLatin1_aae02 wse_J5_isLatin1_aae02 wi5_J5_isLatin1_aae02 winit5 wco_J5_isLatin1_aae02) rfl rfl rfl rfl ⟨by decide, by decide, by decide +kernel⟩ ⟨Nat.le_of_ble_eq_true rfl, Nat.le_of_ble_eq_true rfl⟩) (w_preV hK hW hL_a0 hK_a0 (by decide) rfl) rfl rfl hl.1 rfl (lv_room (Nat.le_of_ble_eq_true rfl)) dJ5_append_3fe6f_46 ⟨by show _ ≤ rC; exact Nat.le_trans (Nat.le_add_right _ _) hbc, by show _ ≤ rS; exact Nat.le_trans (Nat.le_add_right _ _) hbs⟩) hW (fun r_1 S_2 H locs hp hW => ?_)
  obtain ⟨hX_S_2, hp⟩ := hp
  refine w_same ?_
  have hE := hE.trans hX_S_2
  have hK_a0 : sK S_2 a0 = 1 := (hX_S_2.2 a0 hL_a0).1.trans hK_a0
  have hL_a0 : wM D S_2 a0 := hX_S_2.M hL_a0
  refine lv_if_eq (tgt := 56) hx hb dJ5_append_3fe6f_49 (by decide) (fun c_3 => ?_) (fun c_3 => ?_)
  · replace hp := hp.1 c_3
    exact t_J5_append_3fe6f_56 F hr hlocks hK hbc hbs hp hW hE (lv_sub hl [0, 1] rfl) hL_a0 hK_a0
  · replace hp := hp.2 c_3
    refine lv_aload_n hx hb dJ5_append_3fe6f_52 rfl (lv_at hl 0 rfl) ?_
    obtain ⟨m_6, z_7, hm_6, hz_7, hp⟩ := hp
    refine w_callV (va_runU (As := []) (rest := []) F (c_J5_inflate_da8c8 l hL_a0 hK_a0 hp H.size) (va_cwU (C := RJ4) (owner := RJ5) 0 hts (wg_U wm_RJ5_195 wsm_J5_inflate_da8c8 wse_J5_inflate_da8c8 wi5_J5_inflate_da8c8 winit5 wco_J5_inflate_da8c8) rfl rfl rfl rfl ⟨by decide, by decide, by decide +kernel⟩ ⟨Nat.le_of_ble_eq_true rfl, Nat.le_of_ble_eq_true rfl⟩) (w_preV hK hW hL_a0 hK_a0 (by decide) rfl) rfl rfl hl.1 rfl (lv_room (Nat.le_of_ble_eq_true rfl)) dJ5_append_3fe6f_53 ⟨by show _ + m_6 ≤ rC; omega, by show _ + z_7 ≤ rS; omega⟩) hW (fun S_5 H locs hp hW => ?_)
    obtain ⟨hX_S_5, hp⟩ := hp
    refine W.widen (k := _ + m_6) (n := _ + z_7) (Nat.le_refl _) (Nat.le_refl _) ?_
    replace hbc := w_spend hbc (show m_6 ≤ bc by omega)
    replace hbs := w_spend hbs (show z_7 ≤ bs by omega)
    have hE := hE.trans hX_S_5
    have hK_a0 : sK S_5 a0 = 1 := (hX_S_5.2 a0 hL_a0).1.trans hK_a0
    have hL_a0 : wM D S_5 a0 := hX_S_5.M hL_a0
    exact t_J5_append_3fe6f_56 F hr hlocks hK hbc hbs hp hW hE (lv_sub hl [0, 1] rfl) hL_a0 hK_a0
set_option maxHeartbeats 4000000 in
set_option maxRecDepth 100000 in
theorem t_J5_append_3fe6f_0 {p : Program} {l : Launch} {e : Env} {s : State} {m : MethodId} {args : Array Value} {below : List Frame} {meth : Method} {c : Code} {D : wD} {cy : Nat → ClassId} {X : va_W} {A : Nat → Prop} {S0 : wS} {rC rS : Nat} {post : Option Nat → wS → Prop} (F : CallFix p m c cJ5_append_3fe6f 2 s args wz_J5_append_3fe6f RJ5) (hr : meth.sig.returnType = (some (.object "java/lang/AbstractStringBuilder"))) (hlocks : meth.locks = false) (hK : wK D cy A s) : ∀ {bc bs cells slots : Nat} (hbc : cells + bc ≤ rC) (hbs : slots + bs ≤ rS) {S : wS} {H : Heap} {locs : List Loc} {ls : Array Slot} {a0 : Nat} {x1 : Int32}, wp_J5_append_3fe6f_0 D post bc bs S a0 x1 → wO D cy X A s.heap S H locs → wX D S0 S → lv_has ls 2 [(0, .ref a0), (1, .int x1)] → wM D S a0 → sK S a0 = 1 → W p l e (r_J5_append_3fe6f rC rS) s m args below meth c H locs cells slots (MQ below (va_Qq (fun r S9 => wX D S0 S9 ∧ post r S9) (wB D cy X A) A) args s rC rS A) (F0 m 0 ls []) := by
  obtain ⟨hx, hb, hml, hown, hts⟩ := id F
  have hwg : ∀ w ∈ WG, w.before args s = true := fun w h => hts w (List.mem_cons_of_mem _ h)
  have i_1 : ∀ w ∈ u_ws RJ4 TJ4 4, w ∈ wz_J5_append_3fe6f := fun w h => List.mem_cons_of_mem _ (wu_1 w h)
  have k_15 := hwg _ wf_RJ5_15
  have k_79 := hwg _ wf_RJ5_79
  intro bc bs cells slots hbc hbs S H locs ls a0 x1 hp hW hE hl hL_a0 hK_a0
  unfold wp_J5_append_3fe6f_0 at hp
  refine lv_aload_n hx hb dJ5_append_3fe6f_0 rfl (lv_at hl 0 rfl) ?_
  refine lv_aload_n hx hb dJ5_append_3fe6f_1 rfl (lv_at hl 0 rfl) ?_
  refine w_get (k := 1) (f := 3) (T := TJ4) (v := .int (sI S a0 3)) F hK hW hL_a0 hK_a0 (by decide) rfl rfl (by decide) i_1 k_79 rfl dJ5_append_3fe6f_2 ?_
  refine lv_iconst (v := 1) hx hb dJ5_append_3fe6f_5 (by decide) ?_
  refine lv_iadd hx hb dJ5_append_3fe6f_6 ?_
  obtain ⟨m_3, z_4, hm_3, hz_4, hp⟩ := hp
  refine w_callV (va_runU (As := [.int ((sI S a0 3) + (1 : Int32))]) (rest := []) F (c_J5_ensureCapacityInternal_d00df l hL_a0 hK_a0 hp H.size) (va_cwU (C := RJ4) (owner := RJ5) 1 hts (wg_U wm_RJ5_100 wsm_J5_ensureCapacityInternal_d00df wse_J5_ensureCapacityInternal_d00df wi5_J5_ensureCapacityInternal_d00df winit5 wco_J5_ensureCapacityInternal_d00df) rfl rfl rfl rfl ⟨by decide, by decide, by decide +kernel⟩ ⟨Nat.le_of_ble_eq_true rfl, Nat.le_of_ble_eq_true rfl⟩) (w_preV hK hW hL_a0 hK_a0 (by decide) rfl) rfl rfl hl.1 rfl (lv_room (Nat.le_of_ble_eq_true rfl)) dJ5_append_3fe6f_7 ⟨by show _ + m_3 ≤ rC; omega, by show _ + z_4 ≤ rS; omega⟩) hW (fun S_2 H locs hp hW => ?_)
  obtain ⟨hX_S_2, hp⟩ := hp
  refine W.widen (k := _ + m_3) (n := _ + z_4) (Nat.le_refl _) (Nat.le_refl _) ?_
  replace hbc := w_spend hbc (show m_3 ≤ bc by omega)
  replace hbs := w_spend hbs (show z_4 ≤ bs by omega)
  have hE := hE.trans hX_S_2
  have hK_a0 : sK S_2 a0 = 1 := (hX_S_2.2 a0 hL_a0).1.trans hK_a0
  have hL_a0 : wM D S_2 a0 := hX_S_2.M hL_a0
  refine lv_aload_n hx hb dJ5_append_3fe6f_10 rfl (lv_at hl 0 rfl) ?_
  refine w_callI (va_runU (As := []) (rest := []) F (c_J5_isLatin1_aae02 l hL_a0 hK_a0 hp H.size) (va_cwU (C := RJ4) (owner := RJ5) 0 hts (wg_U wm_RJ5_83 wsm_J5_isLatin1_aae02 wse_J5_isLatin1_aae02 wi5_J5_isLatin1_aae02 winit5 wco_J5_isLatin1_aae02) rfl rfl rfl rfl ⟨by decide, by decide, by decide +kernel⟩ ⟨Nat.le_of_ble_eq_true rfl, Nat.le_of_ble_eq_true rfl⟩) (w_preV hK hW hL_a0 hK_a0 (by decide) rfl) rfl rfl hl.1 rfl (lv_room (Nat.le_of_ble_eq_true rfl)) dJ5_append_3fe6f_11 ⟨by show _ ≤ rC; exact Nat.le_trans (Nat.le_add_right _ _) hbc, by show _ ≤ rS; exact Nat.le_trans (Nat.le_add_right _ _) hbs⟩) hW (fun r_5 S_6 H locs hp hW => ?_)
  obtain ⟨hX_S_6, hp⟩ := hp
  refine w_same ?_
  have hE := hE.trans hX_S_6
  have hK_a0 : sK S_6 a0 = 1 := (hX_S_6.2 a0 hL_a0).1.trans hK_a0
  have hL_a0 : wM D S_6 a0 := hX_S_6.M hL_a0
  refine lv_if_eq (tgt := 45) hx hb dJ5_append_3fe6f_14 (by decide) (fun c_7 => ?_) (fun c_7 => ?_)
  · replace hp := hp.1 c_7
    exact t_J5_append_3fe6f_45 F hr hlocks hK hbc hbs hp hW hE (lv_sub hl [0, 1] rfl) hL_a0 hK_a0
  · replace hp := hp.2 c_7
    refine lv_iload_n hx hb dJ5_append_3fe6f_17 rfl (lv_at hl 1 rfl) ?_
    refine w_callI (va_runS (As := [.int x1]) (rest := []) F (c_J1_canEncode_fc78d l hp H.size) (va_cwS 1 hts (wg_S wm_RJ5_191 wy_J1_canEncode_fc78d) rfl rfl rfl (by decide +kernel) ⟨Nat.le_of_ble_eq_true rfl, Nat.le_of_ble_eq_true rfl⟩) (w_preS hK hW) rfl rfl hl.1 rfl (lv_room (Nat.le_of_ble_eq_true rfl)) dJ5_append_3fe6f_18 ⟨by show _ ≤ rC; exact Nat.le_trans (Nat.le_add_right _ _) hbc, by show _ ≤ rS; exact Nat.le_trans (Nat.le_add_right _ _) hbs⟩) hW (fun r_8 S_9 H locs hp hW => ?_)
    obtain ⟨hX_S_9, hp⟩ := hp
    refine w_same ?_
    have hE := hE.trans hX_S_9
    have hK_a0 : sK S_9 a0 = 1 := (hX_S_9.2 a0 hL_a0).1.trans hK_a0
    have hL_a0 : wM D S_9 a0 := hX_S_9.M hL_a0
    refine lv_if_eq (tgt := 45) hx hb dJ5_append_3fe6f_21 (by decide) (fun c_10 => ?_) (fun c_10 => ?_)
    · replace hp := hp.1 c_10
      exact t_J5_append_3fe6f_45 F hr hlocks hK hbc hbs hp hW hE (lv_sub hl [0, 1] rfl) hL_a0 hK_a0
    · replace hp := hp.2 c_10
      refine lv_aload_n hx hb dJ5_append_3fe6f_24 rfl (lv_at hl 0 rfl) ?_
      obtain ⟨y_11, ey_11, hL_y_11, hK_y_11, hp⟩ := hp
      refine w_get (k := 1) (f := 0) (T := TJ4) (v := .ref y_11) F hK hW hL_a0 hK_a0 (by decide) rfl rfl (by decide) i_1 k_15 (by rw [show wv 1 0 S_9 a0 = va_rf (sR S_9 a0 0) from rfl, ey_11]; rfl) dJ5_append_3fe6f_25 ?_
      refine lv_aload_n hx hb dJ5_append_3fe6f_28 rfl (lv_at hl 0 rfl) ?_
      refine lv_dup hx hb dJ5_append_3fe6f_29 rfl ?_
      refine w_get (k := 1) (f := 3) (T := TJ4) (v := .int (sI S_9 a0 3)) F hK hW hL_a0 hK_a0 (by decide) rfl rfl (by decide) i_1 k_79 rfl dJ5_append_3fe6f_30 ?_
      refine lv_dup_x1 hx hb dJ5_append_3fe6f_33 rfl rfl ?_
      refine lv_iconst (v := 1) hx hb dJ5_append_3fe6f_34 (by decide) ?_
      refine lv_iadd hx hb dJ5_append_3fe6f_35 ?_
      refine w_putI (k := 1) (f := 3) (T := TJ4) F hK hW hL_a0 hK_a0 (by decide) (by decide) rfl rfl (by decide) i_1 tyJ4 tyJ4_ok nmJ4 k_79 rfl rfl (ty := .int) rfl rfl rfl dJ5_append_3fe6f_36 (fun H locs hW => ?_)
      obtain ⟨S_12, eS_12⟩ : ∃ z : wS, z = uI S_9 a0 3 ((sI S_9 a0 3) + (1 : Int32)) := ⟨_, rfl⟩
      rw [← eS_12] at hW
      replace hp := hp S_12 eS_12
      have hX_S_12 : wX D S_9 S_12 := by rw [eS_12]; exact wX_uI
      have hE := hE.trans hX_S_12
      have hK_a0 : sK S_12 a0 = 1 := (hX_S_12.2 a0 hL_a0).1.trans hK_a0
      have hL_a0 : wM D S_12 a0 := hX_S_12.M hL_a0
      have hK_y_11 : sK S_12 y_11 = 20 := (hX_S_12.2 y_11 hL_y_11).1.trans hK_y_11
      have hL_y_11 : wM D S_12 y_11 := hX_S_12.M hL_y_11
      refine lv_iload_n hx hb dJ5_append_3fe6f_39 rfl (lv_at hl 1 rfl) ?_
      refine lv_i2b (v := (Int32.toInt8 x1).toInt32) hx hb dJ5_append_3fe6f_40 rfl ?_
      obtain ⟨h_13m, h_13, hp⟩ := hp
      refine w_bst F hK hW h_13m hK_y_11 h_13 dJ5_append_3fe6f_41 (fun H locs hW => ?_)
      obtain ⟨S_14, eS_14⟩ : ∃ z : wS, z = uI S_12 y_11 ((sI S_9 a0 3)).toNatClampNeg (vp_nar .byte ((Int32.toInt8 x1).toInt32)) := ⟨_, rfl⟩
      rw [← eS_14] at hW
      replace hp := hp S_14 eS_14
      have hX_S_14 : wX D S_12 S_14 := by rw [eS_14]; exact wX_uI
      have hE := hE.trans hX_S_14
      have hK_a0 : sK S_14 a0 = 1 := (hX_S_14.2 a0 hL_a0).1.trans hK_a0
      have hL_a0 : wM D S_14 a0 := hX_S_14.M hL_a0
      refine lv_goto (tgt := 75) hx hb dJ5_append_3fe6f_42 (by decide) ?_
      exact t_J5_append_3fe6f_75 F hr hlocks hK hbc hbs hp hW hE (lv_sub hl [0] rfl) hL_a0 hK_a0
set_option maxHeartbeats 4000000 in
set_option maxRecDepth 100000 in
theorem c_J5_append_3fe6f (l : Launch) {rC rS : Nat} {D : wD} {cy : Nat → ClassId} {X : va_W} {S0 : wS} {post : Option Nat → wS → Prop} {a0 : Nat} {x1 : Int32} (hL_a0 : wM D S0 a0) (hK_a0 : sK S0 a0 = 1) (hp : wp_J5_append_3fe6f D post rC rS S0 a0 x1) : mR D cy X l yJ5_append_3fe6f wz_J5_append_3fe6f (r_J5_append_3fe6f rC rS) [.ref a0, .int x1] S0 (fun r S9 => wX D S0 S9 ∧ post r S9) := by
  intro sz
  refine Met.ofW (cc := cJ5_append_3fe6f) (maxL := 2) (ret := (some (.object "java/lang/AbstractStringBuilder"))) (by decide) rfl ?_
  intro p e s m args below meth c s₁ B hml hv
  obtain ⟨rfl, hsz, hP, hK, hD0, hRO⟩ := hv
  have hts := atoms_spec (ws := wz_J5_append_3fe6f) B.pre
  have hown : s.vm.findClass RJ5 = some m.cls := findClass_of_methodNamed B.named
  subst hsz
  have hD := hD0.self (sz := s.heap.size)
  have F : CallFix p m c cJ5_append_3fe6f 2 s _ wz_J5_append_3fe6f RJ5 := ⟨B.exec, B.bytes, hml, hown, hts⟩
  have hr := B.returns
  have hlocks := B.notSynchronized
  generalize hAe : va_A (wL cy X S0) s.heap.size = A at hD hK ⊢
  have hA : ∀ q, s.heap.size ≤ q → A q := fun q h => by rw [← hAe]; exact Or.inr h
  have hW : wO D cy X A s.heap S0 s.heap [] := ⟨hP, hD, va_S.rf, hA, hRO⟩
  have hl := lv_entry ([.ref a0, .int x1]) (n := 2) (Nat.le_of_ble_eq_true rfl)
  rw [lg_entry_eq]
  generalize (lg_sl ([.ref a0, .int x1]) ++ List.replicate (2 - (lg_sl ([.ref a0, .int x1])).length) Slot.unset).toArray = ls at hl ⊢
  have hl : lv_has ls 2 [(0, .ref a0), (1, .int x1)] := hl
  unfold wp_J5_append_3fe6f at hp
  exact t_J5_append_3fe6f_0 F hr hlocks hK (Nat.le_of_eq (Nat.zero_add _)) (Nat.le_of_eq (Nat.zero_add _)) hp hW wX.rf (lv_sub hl [0, 1] rfl) hL_a0 hK_a0
def wp_J4_append_cf468_0 (D : wD) (post : Option Nat → wS → Prop)  (bc bs : Nat) (S : wS) (a0 : Nat) (x1 : Int32) : Prop :=
∃ m_3 z_4 : Nat, m_3 ≤ bc ∧ z_4 ≤ bs ∧
wp_J5_append_3fe6f D (fun r_1 S_2 => 
post (some a0) S_2) m_3 z_4 S a0 x1
abbrev r_J4_append_cf468 (rC rS : Nat) : Room := { frames := 7, cells := rC, slots := rS, locals := 158 }
def wp_J4_append_cf468 (D : wD) (post : Option Nat → wS → Prop) (bc bs : Nat) (S : wS) (a0 : Nat) (x1 : Int32) : Prop := wp_J4_append_cf468_0 D post bc bs S a0 x1
set_option maxHeartbeats 4000000 in
set_option maxRecDepth 100000 in
theorem t_J4_append_cf468_0 {p : Program} {l : Launch} {e : Env} {s : State} {m : MethodId} {args : Array Value} {below : List Frame} {meth : Method} {c : Code} {D : wD} {cy : Nat → ClassId} {X : va_W} {A : Nat → Prop} {S0 : wS} {rC rS : Nat} {post : Option Nat → wS → Prop} (F : CallFix p m c cJ4_append_cf468 2 s args wz_J4_append_cf468 RJ4) (hr : meth.sig.returnType = (some (.object "java/lang/StringBuilder"))) (hlocks : meth.locks = false) (hK : wK D cy A s) : ∀ {bc bs cells slots : Nat} (hbc : cells + bc ≤ rC) (hbs : slots + bs ≤ rS) {S : wS} {H : Heap} {locs : List Loc} {ls : Array Slot} {a0 : Nat} {x1 : Int32}, wp_J4_append_cf468_0 D post bc bs S a0 x1 → wO D cy X A s.heap S H locs → wX D S0 S → lv_has ls 2 [(0, .ref a0), (1, .int x1)] → wM D S a0 → sK S a0 = 1 → W p l e (r_J4_append_cf468 rC rS) s m args below meth c H locs cells slots (MQ below (va_Qq (fun r S9 => wX D S0 S9 ∧ post r S9) (wB D cy X A) A) args s rC rS A) (F0 m 0 ls []) := by
  obtain ⟨hx, hb, hml, hown, hts⟩ := id F
  have hwg : ∀ w ∈ WG, w.before args s = true := fun w h => hts w (List.mem_cons_of_mem _ h)
  intro bc bs cells slots hbc hbs S H locs ls a0 x1 hp hW hE hl hL_a0 hK_a0
  unfold wp_J4_append_cf468_0 at hp
  refine lv_aload_n hx hb dJ4_append_cf468_0 rfl (lv_at hl 0 rfl) ?_
  refine lv_iload_n hx hb dJ4_append_cf468_1 rfl (lv_at hl 1 rfl) ?_
  obtain ⟨m_3, z_4, hm_3, hz_4, hp⟩ := hp
  refine w_callR (va_runSU (hK.1.1 1 _ rfl).2 (As := [.int x1]) (rest := []) F (c_J5_append_3fe6f l hL_a0 hK_a0 hp H.size) (va_cwSU 1 hts (wg_SU wm_RJ4_50 wsm_J5_append_3fe6f wsup5 wi5_J5_append_3fe6f winit5 wco_J5_append_3fe6f) rfl rfl rfl ⟨by decide, by decide +kernel⟩ ⟨Nat.le_of_ble_eq_true rfl, Nat.le_of_ble_eq_true rfl⟩) (w_preV hK hW hL_a0 hK_a0 (by decide) rfl) rfl rfl hl.1 rfl (lv_room (Nat.le_of_ble_eq_true rfl)) dJ4_append_cf468_2 ⟨by show _ + m_3 ≤ rC; omega, by show _ + z_4 ≤ rS; omega⟩) hW (fun r_1 S_2 H locs hp hW => ?_)
  obtain ⟨hX_S_2, hp⟩ := hp
  refine W.widen (k := _ + m_3) (n := _ + z_4) (Nat.le_refl _) (Nat.le_refl _) ?_
  replace hbc := w_spend hbc (show m_3 ≤ bc by omega)
  replace hbs := w_spend hbs (show z_4 ≤ bs by omega)
  have hE := hE.trans hX_S_2
  have hK_a0 : sK S_2 a0 = 1 := (hX_S_2.2 a0 hL_a0).1.trans hK_a0
  have hL_a0 : wM D S_2 a0 := hX_S_2.M hL_a0
  refine lv_pop hx hb dJ4_append_cf468_5 (by cases r_1 <;> rfl) ?_
  refine lv_aload_n hx hb dJ4_append_cf468_6 rfl (lv_at hl 0 rfl) ?_
  refine W.widen (k := rC) (n := rS) (Nat.le_trans (Nat.le_add_right _ _) hbc) (Nat.le_trans (Nat.le_add_right _ _) hbs) ?_
  exact w_aret (g := (some a0)) hx hb hr hlocks hW ⟨hE, hp⟩ dJ4_append_cf468_7
set_option maxHeartbeats 4000000 in
set_option maxRecDepth 100000 in
theorem c_J4_append_cf468 (l : Launch) {rC rS : Nat} {D : wD} {cy : Nat → ClassId} {X : va_W} {S0 : wS} {post : Option Nat → wS → Prop} {a0 : Nat} {x1 : Int32} (hL_a0 : wM D S0 a0) (hK_a0 : sK S0 a0 = 1) (hp : wp_J4_append_cf468 D post rC rS S0 a0 x1) : mR D cy X l yJ4_append_cf468 wz_J4_append_cf468 (r_J4_append_cf468 rC rS) [.ref a0, .int x1] S0 (fun r S9 => wX D S0 S9 ∧ post r S9) := by
  intro sz
  refine Met.ofW (cc := cJ4_append_cf468) (maxL := 2) (ret := (some (.object "java/lang/StringBuilder"))) (by decide) rfl ?_
  intro p e s m args below meth c s₁ B hml hv
  obtain ⟨rfl, hsz, hP, hK, hD0, hRO⟩ := hv
  have hts := atoms_spec (ws := wz_J4_append_cf468) B.pre
  have hown : s.vm.findClass RJ4 = some m.cls := findClass_of_methodNamed B.named
  subst hsz
  have hD := hD0.self (sz := s.heap.size)
  have F : CallFix p m c cJ4_append_cf468 2 s _ wz_J4_append_cf468 RJ4 := ⟨B.exec, B.bytes, hml, hown, hts⟩
  have hr := B.returns
  have hlocks := B.notSynchronized
  generalize hAe : va_A (wL cy X S0) s.heap.size = A at hD hK ⊢
  have hA : ∀ q, s.heap.size ≤ q → A q := fun q h => by rw [← hAe]; exact Or.inr h
  have hW : wO D cy X A s.heap S0 s.heap [] := ⟨hP, hD, va_S.rf, hA, hRO⟩
  have hl := lv_entry ([.ref a0, .int x1]) (n := 2) (Nat.le_of_ble_eq_true rfl)
  rw [lg_entry_eq]
  generalize (lg_sl ([.ref a0, .int x1]) ++ List.replicate (2 - (lg_sl ([.ref a0, .int x1])).length) Slot.unset).toArray = ls at hl ⊢
  have hl : lv_has ls 2 [(0, .ref a0), (1, .int x1)] := hl
  unfold wp_J4_append_cf468 at hp
  exact t_J4_append_cf468_0 F hr hlocks hK (Nat.le_of_eq (Nat.zero_add _)) (Nat.le_of_eq (Nat.zero_add _)) hp hW wX.rf (lv_sub hl [0, 1] rfl) hL_a0 hK_a0
def wp_J5_charAt_5068e_0 (D : wD) (post : Int32 → wS → Prop)  (S : wS) (a0 : Nat) (x1 : Int32) : Prop :=
∀ x_1 : Int32, x_1 = (sI S a0 1) →
∃ y_2 : Nat, sR S a0 0 = some y_2 ∧ wM D S y_2 ∧ sK S y_2 = 20 ∧
∀ x_3 : Int32, x_3 = (if ((Int32.ofNat (sN S y_2)) >>> (x_1 &&& 31)) < (sI S a0 3) then ((Int32.ofNat (sN S y_2)) >>> (x_1 &&& 31)) else (sI S a0 3)) →
wp_J0_checkIndex_df160 D (fun S_5 => 
((¬ x_1 = 0 → wp_J2_getChar_3b067 D (fun r_7 S_8 => 
narrow .char (.int r_7) = .int r_7 ∧ post r_7 S_8) S_5 y_2 x1) ∧
 (x_1 = 0 → vp_in x1 (sN S_5 y_2) ∧
narrow .char (.int (ji2c ((sI S_5 y_2 (x1).toNatClampNeg) &&& (255 : Int32)))) = .int (ji2c ((sI S_5 y_2 (x1).toNatClampNeg) &&& (255 : Int32))) ∧ post (ji2c ((sI S_5 y_2 (x1).toNatClampNeg) &&& (255 : Int32))) S_5))) S x1 x_3
abbrev r_J5_charAt_5068e : Room := { frames := 2, cells := 0, slots := 0, locals := 43 }
def wp_J5_charAt_5068e (D : wD) (post : Int32 → wS → Prop) (S : wS) (a0 : Nat) (x1 : Int32) : Prop := wp_J5_charAt_5068e_0 D post S a0 x1
set_option maxHeartbeats 4000000 in
set_option maxRecDepth 100000 in
theorem t_J5_charAt_5068e_0 {p : Program} {l : Launch} {e : Env} {s : State} {m : MethodId} {args : Array Value} {below : List Frame} {meth : Method} {c : Code} {D : wD} {cy : Nat → ClassId} {X : va_W} {A : Nat → Prop} {S0 : wS} {post : Int32 → wS → Prop} (F : CallFix p m c cJ5_charAt_5068e 5 s args wz_J5_charAt_5068e RJ5) (hr : meth.sig.returnType = (some .char)) (hlocks : meth.locks = false) (hK : wK D cy A s) : ∀ {S : wS} {H : Heap} {locs : List Loc} {ls : Array Slot} {a0 : Nat} {x1 : Int32}, wp_J5_charAt_5068e_0 D post S a0 x1 → wO D cy X A s.heap S H locs → wX D S0 S → lv_has ls 5 [(0, .ref a0), (1, .int x1)] → wM D S a0 → sK S a0 = 1 → W p l e r_J5_charAt_5068e s m args below meth c H locs 0 0 (MQ below (va_Qi (fun r S9 => wX D S0 S9 ∧ post r S9) (wB D cy X A) A) args s 0 0 A) (F0 m 0 ls []) := by
  obtain ⟨hx, hb, hml, hown, hts⟩ := id F
  have hwg : ∀ w ∈ WG, w.before args s = true := fun w h => hts w (List.mem_cons_of_mem _ h)
  have i_1 : ∀ w ∈ u_ws RJ4 TJ4 4, w ∈ wz_J5_charAt_5068e := fun w h => List.mem_cons_of_mem _ (wu_1 w h)
  have k_15 := hwg _ wf_RJ5_15
  have k_22 := hwg _ wf_RJ5_22
  have k_79 := hwg _ wf_RJ5_79
  intro S H locs ls a0 x1 hp hW hE hl hL_a0 hK_a0
  unfold wp_J5_charAt_5068e_0 at hp
  refine lv_aload_n hx hb dJ5_charAt_5068e_0 rfl (lv_at hl 0 rfl) ?_
  refine w_get (k := 1) (f := 1) (T := TJ4) (v := .int (sI S a0 1)) F hK hW hL_a0 hK_a0 (by decide) rfl rfl (by decide) i_1 k_22 rfl dJ5_charAt_5068e_1 ?_
  refine lv_topi (fun x_1 ex_1 => ?_)
  replace hp := hp x_1 ex_1
  refine lv_istore_n (lv' := [(2, .int x_1), (0, .ref a0), (1, .int x1)]) hx hb dJ5_charAt_5068e_4 rfl hl (by decide) rfl (fun ls hl => ?_)
  refine lv_aload_n hx hb dJ5_charAt_5068e_5 rfl (lv_at hl 1 rfl) ?_
  obtain ⟨y_2, ey_2, hL_y_2, hK_y_2, hp⟩ := hp
  refine w_get (k := 1) (f := 0) (T := TJ4) (v := .ref y_2) F hK hW hL_a0 hK_a0 (by decide) rfl rfl (by decide) i_1 k_15 (by rw [show wv 1 0 S a0 = va_rf (sR S a0 0) from rfl, ey_2]; rfl) dJ5_charAt_5068e_6 ?_
  refine lv_astore_n (lv' := [(3, .ref y_2), (2, .int x_1), (0, .ref a0), (1, .int x1)]) hx hb dJ5_charAt_5068e_9 rfl hl (by decide) rfl (fun ls hl => ?_)
  refine lv_aload_n hx hb dJ5_charAt_5068e_10 rfl (lv_at hl 2 rfl) ?_
  refine w_get (k := 1) (f := 3) (T := TJ4) (v := .int (sI S a0 3)) F hK hW hL_a0 hK_a0 (by decide) rfl rfl (by decide) i_1 k_79 rfl dJ5_charAt_5068e_11 ?_
  refine lv_aload_n hx hb dJ5_charAt_5068e_14 rfl (lv_at hl 0 rfl) ?_
  refine w_len F hK hW hL_y_2 hK_y_2 (by decide) dJ5_charAt_5068e_15 ?_
  refine lv_iload_n hx hb dJ5_charAt_5068e_16 rfl (lv_at hl 1 rfl) ?_
  refine lv_ishr hx hb dJ5_charAt_5068e_17 ?_
  refine va_mmin hx hb (hml.trans hl.1.symm) hown (hwg _ wm_RJ5_138) (hwg _ wmm_min.1) (hwg _ wmm_min.2.1) (hwg _ wmm_min.2.2) (Nat.le_of_ble_eq_true rfl) (Nat.le_of_ble_eq_true rfl) (Nat.le_of_ble_eq_true rfl) (Nat.le_of_ble_eq_true rfl) dJ5_charAt_5068e_18 ?_
  refine lv_topi (fun x_3 ex_3 => ?_)
  replace hp := hp x_3 ex_3
  refine lv_istore (lv' := [(4, .int x_3), (3, .ref y_2), (2, .int x_1), (0, .ref a0), (1, .int x1)]) hx hb dJ5_charAt_5068e_21 hl (by decide) rfl (fun ls hl => ?_)
  refine lv_iload_n hx hb dJ5_charAt_5068e_23 rfl (lv_at hl 4 rfl) ?_
  refine lv_iload hx hb dJ5_charAt_5068e_24 (lv_at hl 0 rfl) ?_
  refine w_callV (va_runS (As := [.int x1, .int x_3]) (rest := []) F (c_J0_checkIndex_df160 l hp H.size) (va_cwS 2 hts (wg_S wm_RJ5_144 wy_J0_checkIndex_df160) rfl rfl rfl (by decide +kernel) ⟨Nat.le_of_ble_eq_true rfl, Nat.le_of_ble_eq_true rfl⟩) (w_preS hK hW) rfl rfl hl.1 rfl (lv_room (Nat.le_of_ble_eq_true rfl)) dJ5_charAt_5068e_26 ⟨Nat.le_of_ble_eq_true rfl, Nat.le_of_ble_eq_true rfl⟩) hW (fun S_5 H locs hp hW => ?_)
  obtain ⟨hX_S_5, hp⟩ := hp
  refine W.widen (k := 0) (n := 0) (by decide) (by decide) ?_
  have hE := hE.trans hX_S_5
  have hK_a0 : sK S_5 a0 = 1 := (hX_S_5.2 a0 hL_a0).1.trans hK_a0
  have hL_a0 : wM D S_5 a0 := hX_S_5.M hL_a0
  have hK_y_2 : sK S_5 y_2 = 20 := (hX_S_5.2 y_2 hL_y_2).1.trans hK_y_2
  have hL_y_2 : wM D S_5 y_2 := hX_S_5.M hL_y_2
  refine lv_iload_n hx hb dJ5_charAt_5068e_29 rfl (lv_at hl 2 rfl) ?_
  refine lv_if_ne (tgt := 42) hx hb dJ5_charAt_5068e_30 (by decide) (fun c_6 => ?_) (fun c_6 => ?_)
  · replace hp := hp.1 c_6
    refine lv_aload_n hx hb dJ5_charAt_5068e_42 rfl (lv_at hl 1 rfl) ?_
    refine lv_iload_n hx hb dJ5_charAt_5068e_43 rfl (lv_at hl 4 rfl) ?_
    refine w_callI (va_runS (As := [.ref y_2, .int x1]) (rest := []) F (c_J2_getChar_3b067 l hL_y_2 hK_y_2 hp H.size) (va_cwS 2 hts (wg_S wm_RJ5_148 wy_J2_getChar_3b067) rfl rfl rfl (by decide +kernel) ⟨Nat.le_of_ble_eq_true rfl, Nat.le_of_ble_eq_true rfl⟩) (w_preS hK hW) rfl rfl hl.1 rfl (lv_room (Nat.le_of_ble_eq_true rfl)) dJ5_charAt_5068e_44 ⟨Nat.le_of_ble_eq_true rfl, Nat.le_of_ble_eq_true rfl⟩) hW (fun r_7 S_8 H locs hp hW => ?_)
    obtain ⟨hX_S_8, hp⟩ := hp
    refine W.widen (k := 0) (n := 0) (by decide) (by decide) ?_
    have hE := hE.trans hX_S_8
    have hK_a0 : sK S_8 a0 = 1 := (hX_S_8.2 a0 hL_a0).1.trans hK_a0
    have hL_a0 : wM D S_8 a0 := hX_S_8.M hL_a0
    have hK_y_2 : sK S_8 y_2 = 20 := (hX_S_8.2 y_2 hL_y_2).1.trans hK_y_2
    have hL_y_2 : wM D S_8 y_2 := hX_S_8.M hL_y_2
    exact w_zret hx hb hr hlocks hW hp.1 ⟨hE, hp.2⟩ dJ5_charAt_5068e_47
  · replace hp := hp.2 c_6
    refine lv_aload_n hx hb dJ5_charAt_5068e_33 rfl (lv_at hl 1 rfl) ?_
    refine lv_iload_n hx hb dJ5_charAt_5068e_34 rfl (lv_at hl 4 rfl) ?_
    obtain ⟨h_9, hp⟩ := hp
    refine w_bld F hK hW hL_y_2 hK_y_2 h_9 dJ5_charAt_5068e_35 ?_
    refine lv_sipush (v := 255) hx hb dJ5_charAt_5068e_36 (by decide) ?_
    refine lv_iand hx hb dJ5_charAt_5068e_39 ?_
    refine lv_i2c (v := (ji2c ((sI S_5 y_2 (x1).toNatClampNeg) &&& (255 : Int32)))) hx hb dJ5_charAt_5068e_40 rfl ?_
    exact w_zret hx hb hr hlocks hW hp.1 ⟨hE, hp.2⟩ dJ5_charAt_5068e_41
set_option maxHeartbeats 4000000 in
set_option maxRecDepth 100000 in
theorem c_J5_charAt_5068e (l : Launch) {D : wD} {cy : Nat → ClassId} {X : va_W} {S0 : wS} {post : Int32 → wS → Prop} {a0 : Nat} {x1 : Int32} (hL_a0 : wM D S0 a0) (hK_a0 : sK S0 a0 = 1) (hp : wp_J5_charAt_5068e D post S0 a0 x1) : mI D cy X l yJ5_charAt_5068e wz_J5_charAt_5068e r_J5_charAt_5068e [.ref a0, .int x1] S0 (fun r S9 => wX D S0 S9 ∧ post r S9) := by
  intro sz
  refine Met.ofW (cc := cJ5_charAt_5068e) (maxL := 5) (ret := (some .char)) (by decide) rfl ?_
  intro p e s m args below meth c s₁ B hml hv
  obtain ⟨rfl, hsz, hP, hK, hD0, hRO⟩ := hv
  have hts := atoms_spec (ws := wz_J5_charAt_5068e) B.pre
  have hown : s.vm.findClass RJ5 = some m.cls := findClass_of_methodNamed B.named
  subst hsz
  have hD := hD0.self (sz := s.heap.size)
  have F : CallFix p m c cJ5_charAt_5068e 5 s _ wz_J5_charAt_5068e RJ5 := ⟨B.exec, B.bytes, hml, hown, hts⟩
  have hr := B.returns
  have hlocks := B.notSynchronized
  generalize hAe : va_A (wL cy X S0) s.heap.size = A at hD hK ⊢
  have hA : ∀ q, s.heap.size ≤ q → A q := fun q h => by rw [← hAe]; exact Or.inr h
  have hW : wO D cy X A s.heap S0 s.heap [] := ⟨hP, hD, va_S.rf, hA, hRO⟩
  have hl := lv_entry ([.ref a0, .int x1]) (n := 5) (Nat.le_of_ble_eq_true rfl)
  rw [lg_entry_eq]
  generalize (lg_sl ([.ref a0, .int x1]) ++ List.replicate (5 - (lg_sl ([.ref a0, .int x1])).length) Slot.unset).toArray = ls at hl ⊢
  have hl : lv_has ls 5 [(0, .ref a0), (1, .int x1)] := hl
  unfold wp_J5_charAt_5068e at hp
  exact t_J5_charAt_5068e_0 F hr hlocks hK hp hW wX.rf (lv_sub hl [0, 1] rfl) hL_a0 hK_a0
def wp_J4_charAt_5068e_0 (D : wD) (post : Int32 → wS → Prop)  (S : wS) (a0 : Nat) (x1 : Int32) : Prop :=
wp_J5_charAt_5068e D (fun r_1 S_2 => 
narrow .char (.int r_1) = .int r_1 ∧ post r_1 S_2) S a0 x1
abbrev r_J4_charAt_5068e : Room := { frames := 3, cells := 0, slots := 0, locals := 67 }
def wp_J4_charAt_5068e (D : wD) (post : Int32 → wS → Prop) (S : wS) (a0 : Nat) (x1 : Int32) : Prop := wp_J4_charAt_5068e_0 D post S a0 x1
set_option maxHeartbeats 4000000 in
set_option maxRecDepth 100000 in
theorem t_J4_charAt_5068e_0 {p : Program} {l : Launch} {e : Env} {s : State} {m : MethodId} {args : Array Value} {below : List Frame} {meth : Method} {c : Code} {D : wD} {cy : Nat → ClassId} {X : va_W} {A : Nat → Prop} {S0 : wS} {post : Int32 → wS → Prop} (F : CallFix p m c cJ4_charAt_5068e 2 s args wz_J4_charAt_5068e RJ4) (hr : meth.sig.returnType = (some .char)) (hlocks : meth.locks = false) (hK : wK D cy A s) : ∀ {S : wS} {H : Heap} {locs : List Loc} {ls : Array Slot} {a0 : Nat} {x1 : Int32}, wp_J4_charAt_5068e_0 D post S a0 x1 → wO D cy X A s.heap S H locs → wX D S0 S → lv_has ls 2 [(0, .ref a0), (1, .int x1)] → wM D S a0 → sK S a0 = 1 → W p l e r_J4_charAt_5068e s m args below meth c H locs 0 0 (MQ below (va_Qi (fun r S9 => wX D S0 S9 ∧ post r S9) (wB D cy X A) A) args s 0 0 A) (F0 m 0 ls []) := by
  obtain ⟨hx, hb, hml, hown, hts⟩ := id F
  have hwg : ∀ w ∈ WG, w.before args s = true := fun w h => hts w (List.mem_cons_of_mem _ h)
  intro S H locs ls a0 x1 hp hW hE hl hL_a0 hK_a0
  unfold wp_J4_charAt_5068e_0 at hp
  refine lv_aload_n hx hb dJ4_charAt_5068e_0 rfl (lv_at hl 0 rfl) ?_
  refine lv_iload_n hx hb dJ4_charAt_5068e_1 rfl (lv_at hl 1 rfl) ?_
  refine w_callI (va_runSU (hK.1.1 1 _ rfl).2 (As := [.int x1]) (rest := []) F (c_J5_charAt_5068e l hL_a0 hK_a0 hp H.size) (va_cwSU 1 hts (wg_SU wm_RJ4_329 wsm_J5_charAt_5068e wsup5 wi5_J5_charAt_5068e winit5 wco_J5_charAt_5068e) rfl rfl rfl ⟨by decide, by decide +kernel⟩ ⟨Nat.le_of_ble_eq_true rfl, Nat.le_of_ble_eq_true rfl⟩) (w_preV hK hW hL_a0 hK_a0 (by decide) rfl) rfl rfl hl.1 rfl (lv_room (Nat.le_of_ble_eq_true rfl)) dJ4_charAt_5068e_2 ⟨Nat.le_of_ble_eq_true rfl, Nat.le_of_ble_eq_true rfl⟩) hW (fun r_1 S_2 H locs hp hW => ?_)
  obtain ⟨hX_S_2, hp⟩ := hp
  refine W.widen (k := 0) (n := 0) (by decide) (by decide) ?_
  have hE := hE.trans hX_S_2
  have hK_a0 : sK S_2 a0 = 1 := (hX_S_2.2 a0 hL_a0).1.trans hK_a0
  have hL_a0 : wM D S_2 a0 := hX_S_2.M hL_a0
  exact w_zret hx hb hr hlocks hW hp.1 ⟨hE, hp.2⟩ dJ4_charAt_5068e_5
set_option maxHeartbeats 4000000 in
set_option maxRecDepth 100000 in
theorem c_J4_charAt_5068e (l : Launch) {D : wD} {cy : Nat → ClassId} {X : va_W} {S0 : wS} {post : Int32 → wS → Prop} {a0 : Nat} {x1 : Int32} (hL_a0 : wM D S0 a0) (hK_a0 : sK S0 a0 = 1) (hp : wp_J4_charAt_5068e D post S0 a0 x1) : mI D cy X l yJ4_charAt_5068e wz_J4_charAt_5068e r_J4_charAt_5068e [.ref a0, .int x1] S0 (fun r S9 => wX D S0 S9 ∧ post r S9) := by
  intro sz
  refine Met.ofW (cc := cJ4_charAt_5068e) (maxL := 2) (ret := (some .char)) (by decide) rfl ?_
  intro p e s m args below meth c s₁ B hml hv
  obtain ⟨rfl, hsz, hP, hK, hD0, hRO⟩ := hv
  have hts := atoms_spec (ws := wz_J4_charAt_5068e) B.pre
  have hown : s.vm.findClass RJ4 = some m.cls := findClass_of_methodNamed B.named
  subst hsz
  have hD := hD0.self (sz := s.heap.size)
  have F : CallFix p m c cJ4_charAt_5068e 2 s _ wz_J4_charAt_5068e RJ4 := ⟨B.exec, B.bytes, hml, hown, hts⟩
  have hr := B.returns
  have hlocks := B.notSynchronized
  generalize hAe : va_A (wL cy X S0) s.heap.size = A at hD hK ⊢
  have hA : ∀ q, s.heap.size ≤ q → A q := fun q h => by rw [← hAe]; exact Or.inr h
  have hW : wO D cy X A s.heap S0 s.heap [] := ⟨hP, hD, va_S.rf, hA, hRO⟩
  have hl := lv_entry ([.ref a0, .int x1]) (n := 2) (Nat.le_of_ble_eq_true rfl)
  rw [lg_entry_eq]
  generalize (lg_sl ([.ref a0, .int x1]) ++ List.replicate (2 - (lg_sl ([.ref a0, .int x1])).length) Slot.unset).toArray = ls at hl ⊢
  have hl : lv_has ls 2 [(0, .ref a0), (1, .int x1)] := hl
  unfold wp_J4_charAt_5068e at hp
  exact t_J4_charAt_5068e_0 F hr hlocks hK hp hW wX.rf (lv_sub hl [0, 1] rfl) hL_a0 hK_a0
def wp_J4_length_8abf5_0 (D : wD) (post : Int32 → wS → Prop)  (S : wS) (a0 : Nat) : Prop :=
wp_J5_length_8abf5 D (fun r_1 S_2 => 
post r_1 S_2) S a0
abbrev r_J4_length_8abf5 : Room := { frames := 1, cells := 0, slots := 0, locals := 20 }
def wp_J4_length_8abf5 (D : wD) (post : Int32 → wS → Prop) (S : wS) (a0 : Nat) : Prop := wp_J4_length_8abf5_0 D post S a0
set_option maxHeartbeats 4000000 in
set_option maxRecDepth 100000 in
theorem t_J4_length_8abf5_0 {p : Program} {l : Launch} {e : Env} {s : State} {m : MethodId} {args : Array Value} {below : List Frame} {meth : Method} {c : Code} {D : wD} {cy : Nat → ClassId} {X : va_W} {A : Nat → Prop} {S0 : wS} {post : Int32 → wS → Prop} (F : CallFix p m c cJ4_length_8abf5 1 s args wz_J4_length_8abf5 RJ4) (hr : meth.sig.returnType = (some .int)) (hlocks : meth.locks = false) (hK : wK D cy A s) : ∀ {S : wS} {H : Heap} {locs : List Loc} {ls : Array Slot} {a0 : Nat}, wp_J4_length_8abf5_0 D post S a0 → wO D cy X A s.heap S H locs → wX D S0 S → lv_has ls 1 [(0, .ref a0)] → wM D S a0 → sK S a0 = 1 → W p l e r_J4_length_8abf5 s m args below meth c H locs 0 0 (MQ below (va_Qi (fun r S9 => wX D S0 S9 ∧ post r S9) (wB D cy X A) A) args s 0 0 A) (F0 m 0 ls []) := by
  obtain ⟨hx, hb, hml, hown, hts⟩ := id F
  have hwg : ∀ w ∈ WG, w.before args s = true := fun w h => hts w (List.mem_cons_of_mem _ h)
  intro S H locs ls a0 hp hW hE hl hL_a0 hK_a0
  unfold wp_J4_length_8abf5_0 at hp
  refine lv_aload_n hx hb dJ4_length_8abf5_0 rfl (lv_at hl 0 rfl) ?_
  refine w_callI (va_runSU (hK.1.1 1 _ rfl).2 (As := []) (rest := []) F (c_J5_length_8abf5 l hL_a0 hK_a0 hp H.size) (va_cwSU 0 hts (wg_SU wm_RJ4_343 wsm_J5_length_8abf5 wsup5 wi5_J5_length_8abf5 winit5 wco_J5_length_8abf5) rfl rfl rfl ⟨by decide, by decide +kernel⟩ ⟨Nat.le_of_ble_eq_true rfl, Nat.le_of_ble_eq_true rfl⟩) (w_preV hK hW hL_a0 hK_a0 (by decide) rfl) rfl rfl hl.1 rfl (lv_room (Nat.le_of_ble_eq_true rfl)) dJ4_length_8abf5_1 ⟨Nat.le_of_ble_eq_true rfl, Nat.le_of_ble_eq_true rfl⟩) hW (fun r_1 S_2 H locs hp hW => ?_)
  obtain ⟨hX_S_2, hp⟩ := hp
  refine W.widen (k := 0) (n := 0) (by decide) (by decide) ?_
  have hE := hE.trans hX_S_2
  have hK_a0 : sK S_2 a0 = 1 := (hX_S_2.2 a0 hL_a0).1.trans hK_a0
  have hL_a0 : wM D S_2 a0 := hX_S_2.M hL_a0
  exact w_iret hx hb hr hlocks hW ⟨hE, hp⟩ dJ4_length_8abf5_4
set_option maxHeartbeats 4000000 in
set_option maxRecDepth 100000 in
theorem c_J4_length_8abf5 (l : Launch) {D : wD} {cy : Nat → ClassId} {X : va_W} {S0 : wS} {post : Int32 → wS → Prop} {a0 : Nat} (hL_a0 : wM D S0 a0) (hK_a0 : sK S0 a0 = 1) (hp : wp_J4_length_8abf5 D post S0 a0) : mI D cy X l yJ4_length_8abf5 wz_J4_length_8abf5 r_J4_length_8abf5 [.ref a0] S0 (fun r S9 => wX D S0 S9 ∧ post r S9) := by
  intro sz
  refine Met.ofW (cc := cJ4_length_8abf5) (maxL := 1) (ret := (some .int)) (by decide) rfl ?_
  intro p e s m args below meth c s₁ B hml hv
  obtain ⟨rfl, hsz, hP, hK, hD0, hRO⟩ := hv
  have hts := atoms_spec (ws := wz_J4_length_8abf5) B.pre
  have hown : s.vm.findClass RJ4 = some m.cls := findClass_of_methodNamed B.named
  subst hsz
  have hD := hD0.self (sz := s.heap.size)
  have F : CallFix p m c cJ4_length_8abf5 1 s _ wz_J4_length_8abf5 RJ4 := ⟨B.exec, B.bytes, hml, hown, hts⟩
  have hr := B.returns
  have hlocks := B.notSynchronized
  generalize hAe : va_A (wL cy X S0) s.heap.size = A at hD hK ⊢
  have hA : ∀ q, s.heap.size ≤ q → A q := fun q h => by rw [← hAe]; exact Or.inr h
  have hW : wO D cy X A s.heap S0 s.heap [] := ⟨hP, hD, va_S.rf, hA, hRO⟩
  have hl := lv_entry ([.ref a0]) (n := 1) (Nat.le_of_ble_eq_true rfl)
  rw [lg_entry_eq]
  generalize (lg_sl ([.ref a0]) ++ List.replicate (1 - (lg_sl ([.ref a0])).length) Slot.unset).toArray = ls at hl ⊢
  have hl : lv_has ls 1 [(0, .ref a0)] := hl
  unfold wp_J4_length_8abf5 at hp
  exact t_J4_length_8abf5_0 F hr hlocks hK hp hW wX.rf (lv_sub hl [0] rfl) hL_a0 hK_a0
def wp_Jx7c733_init_d00df_0 (D : wD) (post : wS → Prop)  (bc bs : Nat) (S : wS) (a0 : Nat) (x1 : Int32) : Prop :=
1 ≤ bc ∧ 4 ≤ bs ∧
∀ y_1 : Nat, ¬ wM D S y_1 → ∀ S_2 : wS, S_2 = nA S y_1 1 0 →
∃ m_6 z_7 : Nat, m_6 ≤ (bc - 1) ∧ z_7 ≤ (bs - 4) ∧
wp_J4_init_da8c8 D (fun S_5 => 
∀ y_8 : Nat, y_8 = D.2.2.1 2 →
∃ m_11 z_12 : Nat, m_11 ≤ ((bc - 1) - m_6) ∧ z_12 ≤ ((bs - 4) - z_7) ∧
wp_J4_append_15ec4 D (fun r_9 S_10 => 
∃ y_13 : Nat, r_9 = some y_13 ∧ wM D S_10 y_13 ∧ sK S_10 y_13 = 1 ∧
∃ m_17 z_18 : Nat, m_17 ≤ (((bc - 1) - m_6) - m_11) ∧ z_18 ≤ (((bs - 4) - z_7) - z_12) ∧
wp_J4_append_bf812 D (fun r_15 S_16 => 
∃ y_19 : Nat, r_15 = some y_19 ∧ wM D S_16 y_19 ∧ sK S_16 y_19 = 1 ∧
∃ m_23 z_24 : Nat, m_23 ≤ ((((bc - 1) - m_6) - m_11) - m_17) ∧ z_24 ≤ ((((bs - 4) - z_7) - z_12) - z_18) ∧
wp_J4_toString_0e30d D (fun r_21 S_22 => 
False) m_23 z_24 S_16 y_19) m_17 z_18 S_10 y_13 x1) m_11 z_12 S_5 y_1 y_8) m_6 z_7 S_2 y_1
abbrev r_Jx7c733_init_d00df (rC rS : Nat) : Room := { frames := 10, cells := rC, slots := rS, locals := 223 }
def wp_Jx7c733_init_d00df (D : wD) (post : wS → Prop) (bc bs : Nat) (S : wS) (a0 : Nat) (x1 : Int32) : Prop := wp_Jx7c733_init_d00df_0 D post bc bs S a0 x1
set_option maxHeartbeats 4000000 in
set_option maxRecDepth 100000 in
theorem t_Jx7c733_init_d00df_0 {p : Program} {l : Launch} {e : Env} {s : State} {m : MethodId} {args : Array Value} {below : List Frame} {meth : Method} {c : Code} {D : wD} {cy : Nat → ClassId} {X : va_W} {A : Nat → Prop} {S0 : wS} {rC rS : Nat} {post : wS → Prop} (F : CallFix p m c cJx7c733_init_d00df 2 s args wz_Jx7c733_init_d00df RJx7c733) (hr : meth.sig.returnType = none) (hlocks : meth.locks = false) (hK : wK D cy A s) (hin : meth.name = "<init>") : ∀ {bc bs cells slots : Nat} (hbc : cells + bc ≤ rC) (hbs : slots + bs ≤ rS) {S : wS} {H : Heap} {locs : List Loc} {ls : Array Slot} {a0 : Nat} {x1 : Int32}, wp_Jx7c733_init_d00df_0 D post bc bs S a0 x1 → wO D cy X A s.heap S H locs → wX D S0 S → lv_has ls 2 [(0, .ref a0), (1, .int x1)] → wM D S a0 → sK S a0 = 3 → W p l e (r_Jx7c733_init_d00df rC rS) s m args below meth c H locs cells slots (MQ below (va_Qv (fun S9 => wX D S0 S9 ∧ post S9) (wB D cy X A) A) args s rC rS A) (F0 m 0 ls []) := by
  obtain ⟨hx, hb, hml, hown, hts⟩ := id F
  have hwg : ∀ w ∈ WG, w.before args s = true := fun w h => hts w (List.mem_cons_of_mem _ h)
  intro bc bs cells slots hbc hbs S H locs ls a0 x1 hp hW hE hl hL_a0 hK_a0
  unfold wp_Jx7c733_init_d00df_0 at hp
  refine lv_aload_n hx hb dJx7c733_init_d00df_0 rfl (lv_at hl 0 rfl) ?_
  obtain ⟨h_3, h_3b, hp⟩ := hp
  refine w_new (k := 1) (T := TJ4) F hK hW rfl (by decide) (fun w h => List.mem_cons_of_mem _ (wu_1 w h)) tyJ4 tyJ4_ok (hwg _ wc_RJx7c733_10) (hwg _ wn_1) (hwg _ wi_java_lang_StringBuilder) wdef_1 (by show _ ≤ rC; omega) (by show _ ≤ rS; omega) dJx7c733_init_d00df_1 (fun y_1 H hq_y_1 hW => ?_)
  replace hbc := w_spend hbc (show 1 ≤ bc by omega)
  replace hbs := w_spend hbs (show 4 ≤ bs by omega)
  obtain ⟨S_2, eS_2⟩ : ∃ z : wS, z = nA S y_1 1 0 := ⟨_, rfl⟩
  rw [← eS_2] at hW
  replace hp := hp y_1 hq_y_1 S_2 eS_2
  have hX_S_2 : wX D S S_2 := by rw [eS_2]; exact wX_nA hq_y_1
  have hE := hE.trans hX_S_2
  have hK_a0 : sK S_2 a0 = 3 := (hX_S_2.2 a0 hL_a0).1.trans hK_a0
  have hL_a0 : wM D S_2 a0 := hX_S_2.M hL_a0
  have hL_y_1 : wM D S_2 y_1 := by rw [eS_2]; exact Or.inl (List.mem_append_right _ List.mem_cons_self)
  have hK_y_1 : sK S_2 y_1 = 1 := by rw [eS_2]; exact va_up_self _ _ _
  refine lv_dup hx hb dJx7c733_init_d00df_4 rfl ?_
  obtain ⟨m_6, z_7, hm_6, hz_7, hp⟩ := hp
  refine w_callV (va_runI (As := []) (rest := [.ref y_1, .ref a0]) F (c_J4_init_da8c8 l hL_y_1 hK_y_1 hp H.size) (cwI 0 hts (wg_cons wy_J4_init_da8c8.2.2) rfl rfl rfl (hwg _ wy_J4_init_da8c8.2.1) (hwg _ wm_RJx7c733_12) (hwg _ wy_J4_init_da8c8.1) rfl (by decide +kernel) ⟨Nat.le_of_ble_eq_true rfl, Nat.le_of_ble_eq_true rfl⟩) (w_preS hK hW) rfl rfl hl.1 rfl (lv_room (Nat.le_of_ble_eq_true rfl)) dJx7c733_init_d00df_5 ⟨by show _ + m_6 ≤ rC; omega, by show _ + z_7 ≤ rS; omega⟩) hW (fun S_5 H locs hp hW => ?_)
  obtain ⟨hX_S_5, hp⟩ := hp
  refine W.widen (k := _ + m_6) (n := _ + z_7) (Nat.le_refl _) (Nat.le_refl _) ?_
  replace hbc := w_spend hbc (show m_6 ≤ (bc - 1) by omega)
  replace hbs := w_spend hbs (show z_7 ≤ (bs - 4) by omega)
  have hE := hE.trans hX_S_5
  have hK_a0 : sK S_5 a0 = 3 := (hX_S_5.2 a0 hL_a0).1.trans hK_a0
  have hL_a0 : wM D S_5 a0 := hX_S_5.M hL_a0
  have hK_y_1 : sK S_5 y_1 = 1 := (hX_S_5.2 y_1 hL_y_1).1.trans hK_y_1
  have hL_y_1 : wM D S_5 y_1 := hX_S_5.M hL_y_1
  refine w_str F hK (show ("java/lang/StringIndexOutOfBoundsException", 13, "String index out of range: ", 2) ∈ wStr by decide +kernel) dJx7c733_init_d00df_8 ?_
  obtain ⟨y_8, ey_8⟩ : ∃ z : Nat, z = D.2.2.1 2 := ⟨_, rfl⟩
  rw [← ey_8]
  replace hp := hp y_8 ey_8
  obtain ⟨hL_y_8, hK_y_8⟩ : wM D S_5 y_8 ∧ sK S_5 y_8 = 0 := by rw [ey_8]; exact w_strM hK hW (show ("java/lang/StringIndexOutOfBoundsException", 13, "String index out of range: ", 2) ∈ wStr by decide +kernel)
  obtain ⟨m_11, z_12, hm_11, hz_12, hp⟩ := hp
  refine w_callR (va_runV (As := [.ref y_8]) (rest := [.ref a0]) F (c_J4_append_15ec4 l hL_y_1 hK_y_1 hL_y_8 hK_y_8 hp H.size) (cwV (C := RJ4) 1 hts (wg_V wm_RJx7c733_15 wy_J4_append_15ec4) rfl rfl rfl (by decide +kernel) ⟨Nat.le_of_ble_eq_true rfl, Nat.le_of_ble_eq_true rfl⟩) (w_preV hK hW hL_y_1 hK_y_1 (by decide) rfl) rfl rfl hl.1 rfl (lv_room (Nat.le_of_ble_eq_true rfl)) dJx7c733_init_d00df_10 ⟨by show _ + m_11 ≤ rC; omega, by show _ + z_12 ≤ rS; omega⟩) hW (fun r_9 S_10 H locs hp hW => ?_)
  obtain ⟨hX_S_10, hp⟩ := hp
  refine W.widen (k := _ + m_11) (n := _ + z_12) (Nat.le_refl _) (Nat.le_refl _) ?_
  replace hbc := w_spend hbc (show m_11 ≤ ((bc - 1) - m_6) by omega)
  replace hbs := w_spend hbs (show z_12 ≤ ((bs - 4) - z_7) by omega)
  have hE := hE.trans hX_S_10
  have hK_a0 : sK S_10 a0 = 3 := (hX_S_10.2 a0 hL_a0).1.trans hK_a0
  have hL_a0 : wM D S_10 a0 := hX_S_10.M hL_a0
  refine lv_iload_n hx hb dJx7c733_init_d00df_13 rfl (lv_at hl 1 rfl) ?_
  obtain ⟨y_13, h_14, hL_y_13, hK_y_13, hp⟩ := hp
  subst h_14
  obtain ⟨m_17, z_18, hm_17, hz_18, hp⟩ := hp
  refine w_callR (va_runV (As := [.int x1]) (rest := [.ref a0]) F (c_J4_append_bf812 l hL_y_13 hK_y_13 hp H.size) (cwV (C := RJ4) 1 hts (wg_V wm_RJx7c733_19 wy_J4_append_bf812) rfl rfl rfl (by decide +kernel) ⟨Nat.le_of_ble_eq_true rfl, Nat.le_of_ble_eq_true rfl⟩) (w_preV hK hW hL_y_13 hK_y_13 (by decide) rfl) rfl rfl hl.1 rfl (lv_room (Nat.le_of_ble_eq_true rfl)) dJx7c733_init_d00df_14 ⟨by show _ + m_17 ≤ rC; omega, by show _ + z_18 ≤ rS; omega⟩) hW (fun r_15 S_16 H locs hp hW => ?_)
  obtain ⟨hX_S_16, hp⟩ := hp
  refine W.widen (k := _ + m_17) (n := _ + z_18) (Nat.le_refl _) (Nat.le_refl _) ?_
  replace hbc := w_spend hbc (show m_17 ≤ (((bc - 1) - m_6) - m_11) by omega)
  replace hbs := w_spend hbs (show z_18 ≤ (((bs - 4) - z_7) - z_12) by omega)
  have hE := hE.trans hX_S_16
  have hK_a0 : sK S_16 a0 = 3 := (hX_S_16.2 a0 hL_a0).1.trans hK_a0
  have hL_a0 : wM D S_16 a0 := hX_S_16.M hL_a0
  obtain ⟨y_19, h_20, hL_y_19, hK_y_19, hp⟩ := hp
  subst h_20
  obtain ⟨m_23, z_24, hm_23, hz_24, hp⟩ := hp
  refine w_callR (va_runV (As := []) (rest := [.ref a0]) F (c_J4_toString_0e30d l hL_y_19 hK_y_19 hp H.size) (cwV (C := RJ4) 0 hts (wg_V wm_RJx7c733_22 wy_J4_toString_0e30d) rfl rfl rfl (by decide +kernel) ⟨Nat.le_of_ble_eq_true rfl, Nat.le_of_ble_eq_true rfl⟩) (w_preV hK hW hL_y_19 hK_y_19 (by decide) rfl) rfl rfl hl.1 rfl (lv_room (Nat.le_of_ble_eq_true rfl)) dJx7c733_init_d00df_17 ⟨by show _ + m_23 ≤ rC; omega, by show _ + z_24 ≤ rS; omega⟩) hW (fun r_21 S_22 H locs hp hW => ?_)
  obtain ⟨hX_S_22, hp⟩ := hp
  refine W.widen (k := _ + m_23) (n := _ + z_24) (Nat.le_refl _) (Nat.le_refl _) ?_
  replace hbc := w_spend hbc (show m_23 ≤ ((((bc - 1) - m_6) - m_11) - m_17) by omega)
  replace hbs := w_spend hbs (show z_24 ≤ ((((bs - 4) - z_7) - z_12) - z_18) by omega)
  have hE := hE.trans hX_S_22
  have hK_a0 : sK S_22 a0 = 3 := (hX_S_22.2 a0 hL_a0).1.trans hK_a0
  have hL_a0 : wM D S_22 a0 := hX_S_22.M hL_a0
  exact hp.elim
set_option maxHeartbeats 4000000 in
set_option maxRecDepth 100000 in
theorem c_Jx7c733_init_d00df (l : Launch) {rC rS : Nat} {D : wD} {cy : Nat → ClassId} {X : va_W} {S0 : wS} {post : wS → Prop} {a0 : Nat} {x1 : Int32} (hL_a0 : wM D S0 a0) (hK_a0 : sK S0 a0 = 3) (hp : wp_Jx7c733_init_d00df D post rC rS S0 a0 x1) : mV D cy X l yJx7c733_init_d00df wz_Jx7c733_init_d00df (r_Jx7c733_init_d00df rC rS) [.ref a0, .int x1] S0 (fun S9 => wX D S0 S9 ∧ post S9) := by
  intro sz
  refine Met.ofW (cc := cJx7c733_init_d00df) (maxL := 2) (ret := none) (by decide) rfl ?_
  intro p e s m args below meth c s₁ B hml hv
  obtain ⟨rfl, hsz, hP, hK, hD0, hRO⟩ := hv
  have hts := atoms_spec (ws := wz_Jx7c733_init_d00df) B.pre
  have hown : s.vm.findClass RJx7c733 = some m.cls := findClass_of_methodNamed B.named
  subst hsz
  have hD := hD0.self (sz := s.heap.size)
  have F : CallFix p m c cJx7c733_init_d00df 2 s _ wz_Jx7c733_init_d00df RJx7c733 := ⟨B.exec, B.bytes, hml, hown, hts⟩
  have hr := B.returns
  have hlocks := B.notSynchronized
  have hin : meth.name = "<init>" := (name_of_methodNamed B.named B.method).1
  generalize hAe : va_A (wL cy X S0) s.heap.size = A at hD hK ⊢
  have hA : ∀ q, s.heap.size ≤ q → A q := fun q h => by rw [← hAe]; exact Or.inr h
  have hW : wO D cy X A s.heap S0 s.heap [] := ⟨hP, hD, va_S.rf, hA, hRO⟩
  have hl := lv_entry ([.ref a0, .int x1]) (n := 2) (Nat.le_of_ble_eq_true rfl)
  rw [lg_entry_eq]
  generalize (lg_sl ([.ref a0, .int x1]) ++ List.replicate (2 - (lg_sl ([.ref a0, .int x1])).length) Slot.unset).toArray = ls at hl ⊢
  have hl : lv_has ls 2 [(0, .ref a0), (1, .int x1)] := hl
  unfold wp_Jx7c733_init_d00df at hp
  exact t_Jx7c733_init_d00df_0 F hr hlocks hK hin (Nat.le_of_eq (Nat.zero_add _)) (Nat.le_of_eq (Nat.zero_add _)) hp hW wX.rf (lv_sub hl [0, 1] rfl) hL_a0 hK_a0
def wp_J5_setLength_d00df_76 (D : wD) (post : wS → Prop)  (bc bs : Nat) (S : wS) (a0 : Nat) (x1 : Int32) : Prop :=
∀ S_1 : wS, S_1 = uI S a0 3 x1 →
post S_1
def wp_J5_setLength_d00df_0 (D : wD) (post : wS → Prop)  (bc bs : Nat) (S : wS) (a0 : Nat) (x1 : Int32) : Prop :=
((0 ≤ x1 → ∃ m_4 z_5 : Nat, m_4 ≤ bc ∧ z_5 ≤ bs ∧
wp_J5_ensureCapacityInternal_d00df D (fun S_3 => 
((x1 ≤ (sI S_3 a0 3) → (((sI S_3 a0 3) ≤ x1 → wp_J5_setLength_d00df_76 D post (bc - m_4) (bs - z_5) S_3 a0 x1) ∧
 (¬ (sI S_3 a0 3) ≤ x1 → narrow .boolean (.int (1 : Int32)) = .int (1 : Int32) ∧ fits .boolean (.int (1 : Int32)) = true ∧
∀ S_8 : wS, S_8 = uI S_3 a0 2 (1 : Int32) →
wp_J5_setLength_d00df_76 D post (bc - m_4) (bs - z_5) S_8 a0 x1))) ∧
 (¬ x1 ≤ (sI S_3 a0 3) → wp_J5_isLatin1_aae02 D (fun r_10 S_11 => 
((r_10 = 0 → ∃ y_13 : Nat, sR S_11 a0 0 = some y_13 ∧ wM D S_11 y_13 ∧ sK S_11 y_13 = 20 ∧
∃ m_16 z_17 : Nat, m_16 ≤ (bc - m_4) ∧ z_17 ≤ (bs - z_5) ∧
wp_J2_fillNull_b72d1 D (fun S_15 => 
wp_J5_setLength_d00df_76 D post ((bc - m_4) - m_16) ((bs - z_5) - z_17) S_15 a0 x1) m_16 z_17 S_11 y_13 (sI S_11 a0 3) x1) ∧
 (¬ r_10 = 0 → ∃ y_18 : Nat, sR S_11 a0 0 = some y_18 ∧ wM D S_11 y_18 ∧ sK S_11 y_18 = 20 ∧
∃ m_21 z_22 : Nat, m_21 ≤ (bc - m_4) ∧ z_22 ≤ (bs - z_5) ∧
wp_J1_fillNull_b72d1 D (fun S_20 => 
wp_J5_setLength_d00df_76 D post ((bc - m_4) - m_21) ((bs - z_5) - z_22) S_20 a0 x1) m_21 z_22 S_11 y_18 (sI S_11 a0 3) x1))) S_3 a0))) m_4 z_5 S a0 x1) ∧
 (¬ 0 ≤ x1 → 1 ≤ bc ∧ 6 ≤ bs ∧
∀ y_23 : Nat, ¬ wM D S y_23 → ∀ S_24 : wS, S_24 = nA S y_23 3 0 →
∃ m_28 z_29 : Nat, m_28 ≤ (bc - 1) ∧ z_29 ≤ (bs - 6) ∧
wp_Jx7c733_init_d00df D (fun S_27 => 
False) m_28 z_29 S_24 y_23 x1))
abbrev r_J5_setLength_d00df (rC rS : Nat) : Room := { frames := 14, cells := rC, slots := rS, locals := 312 }
def wp_J5_setLength_d00df (D : wD) (post : wS → Prop) (bc bs : Nat) (S : wS) (a0 : Nat) (x1 : Int32) : Prop := wp_J5_setLength_d00df_0 D post bc bs S a0 x1
set_option maxHeartbeats 4000000 in
set_option maxRecDepth 100000 in
theorem t_J5_setLength_d00df_76 {p : Program} {l : Launch} {e : Env} {s : State} {m : MethodId} {args : Array Value} {below : List Frame} {meth : Method} {c : Code} {D : wD} {cy : Nat → ClassId} {X : va_W} {A : Nat → Prop} {S0 : wS} {rC rS : Nat} {post : wS → Prop} (F : CallFix p m c cJ5_setLength_d00df 2 s args wz_J5_setLength_d00df RJ5) (hr : meth.sig.returnType = none) (hlocks : meth.locks = false) (hK : wK D cy A s) : ∀ {bc bs cells slots : Nat} (hbc : cells + bc ≤ rC) (hbs : slots + bs ≤ rS) {S : wS} {H : Heap} {locs : List Loc} {ls : Array Slot} {a0 : Nat} {x1 : Int32}, wp_J5_setLength_d00df_76 D post bc bs S a0 x1 → wO D cy X A s.heap S H locs → wX D S0 S → lv_has ls 2 [(0, .ref a0), (1, .int x1)] → wM D S a0 → sK S a0 = 1 → W p l e (r_J5_setLength_d00df rC rS) s m args below meth c H locs cells slots (MQ below (va_Qv (fun S9 => wX D S0 S9 ∧ post S9) (wB D cy X A) A) args s rC rS A) (F0 m 76 ls []) := by
  obtain ⟨hx, hb, hml, hown, hts⟩ := id F
  have hwg : ∀ w ∈ WG, w.before args s = true := fun w h => hts w (List.mem_cons_of_mem _ h)
  have i_1 : ∀ w ∈ u_ws RJ4 TJ4 4, w ∈ wz_J5_setLength_d00df := fun w h => List.mem_cons_of_mem _ (wu_1 w h)
  have k_79 := hwg _ wf_RJ5_79
  intro bc bs cells slots hbc hbs S H locs ls a0 x1 hp hW hE hl hL_a0 hK_a0
  unfold wp_J5_setLength_d00df_76 at hp
  refine lv_aload_n hx hb dJ5_setLength_d00df_76 rfl (lv_at hl 0 rfl) ?_
  refine lv_iload_n hx hb dJ5_setLength_d00df_77 rfl (lv_at hl 1 rfl) ?_
  refine w_putI (k := 1) (f := 3) (T := TJ4) F hK hW hL_a0 hK_a0 (by decide) (by decide) rfl rfl (by decide) i_1 tyJ4 tyJ4_ok nmJ4 k_79 rfl rfl (ty := .int) rfl rfl rfl dJ5_setLength_d00df_78 (fun H locs hW => ?_)
  obtain ⟨S_1, eS_1⟩ : ∃ z : wS, z = uI S a0 3 x1 := ⟨_, rfl⟩
  rw [← eS_1] at hW
  replace hp := hp S_1 eS_1
  have hX_S_1 : wX D S S_1 := by rw [eS_1]; exact wX_uI
  have hE := hE.trans hX_S_1
  have hK_a0 : sK S_1 a0 = 1 := (hX_S_1.2 a0 hL_a0).1.trans hK_a0
  have hL_a0 : wM D S_1 a0 := hX_S_1.M hL_a0
  refine W.widen (k := rC) (n := rS) (Nat.le_trans (Nat.le_add_right _ _) hbc) (Nat.le_trans (Nat.le_add_right _ _) hbs) ?_
  exact w_vret hx hb hr hlocks hW ⟨hE, hp⟩ dJ5_setLength_d00df_81
set_option maxHeartbeats 4000000 in
set_option maxRecDepth 100000 in
theorem t_J5_setLength_d00df_0 {p : Program} {l : Launch} {e : Env} {s : State} {m : MethodId} {args : Array Value} {below : List Frame} {meth : Method} {c : Code} {D : wD} {cy : Nat → ClassId} {X : va_W} {A : Nat → Prop} {S0 : wS} {rC rS : Nat} {post : wS → Prop} (F : CallFix p m c cJ5_setLength_d00df 2 s args wz_J5_setLength_d00df RJ5) (hr : meth.sig.returnType = none) (hlocks : meth.locks = false) (hK : wK D cy A s) : ∀ {bc bs cells slots : Nat} (hbc : cells + bc ≤ rC) (hbs : slots + bs ≤ rS) {S : wS} {H : Heap} {locs : List Loc} {ls : Array Slot} {a0 : Nat} {x1 : Int32}, wp_J5_setLength_d00df_0 D post bc bs S a0 x1 → wO D cy X A s.heap S H locs → wX D S0 S → lv_has ls 2 [(0, .ref a0), (1, .int x1)] → wM D S a0 → sK S a0 = 1 → W p l e (r_J5_setLength_d00df rC rS) s m args below meth c H locs cells slots (MQ below (va_Qv (fun S9 => wX D S0 S9 ∧ post S9) (wB D cy X A) A) args s rC rS A) (F0 m 0 ls []) := by
  obtain ⟨hx, hb, hml, hown, hts⟩ := id F
  have hwg : ∀ w ∈ WG, w.before args s = true := fun w h => hts w (List.mem_cons_of_mem _ h)
  have i_1 : ∀ w ∈ u_ws RJ4 TJ4 4, w ∈ wz_J5_setLength_d00df := fun w h => List.mem_cons_of_mem _ (wu_1 w h)
  have k_15 := hwg _ wf_RJ5_15
  have k_73 := hwg _ wf_RJ5_73
  have k_79 := hwg _ wf_RJ5_79
  intro bc bs cells slots hbc hbs S H locs ls a0 x1 hp hW hE hl hL_a0 hK_a0
  unfold wp_J5_setLength_d00df_0 at hp
  refine lv_iload_n hx hb dJ5_setLength_d00df_0 rfl (lv_at hl 1 rfl) ?_
  refine lv_if_ge (tgt := 13) hx hb dJ5_setLength_d00df_1 (by decide) (fun c_1 => ?_) (fun c_1 => ?_)
  · replace hp := hp.1 c_1
    refine lv_aload_n hx hb dJ5_setLength_d00df_13 rfl (lv_at hl 0 rfl) ?_
    refine lv_iload_n hx hb dJ5_setLength_d00df_14 rfl (lv_at hl 1 rfl) ?_
    obtain ⟨m_4, z_5, hm_4, hz_5, hp⟩ := hp
    refine w_callV (va_runU (As := [.int x1]) (rest := []) F (c_J5_ensureCapacityInternal_d00df l hL_a0 hK_a0 hp H.size) (va_cwU (C := RJ4) (owner := RJ5) 1 hts (wg_U wm_RJ5_100 wsm_J5_ensureCapacityInternal_d00df wse_J5_ensureCapacityInternal_d00df wi5_J5_ensureCapacityInternal_d00df winit5 wco_J5_ensureCapacityInternal_d00df) rfl rfl rfl rfl ⟨by decide, by decide, by decide +kernel⟩ ⟨Nat.le_of_ble_eq_true rfl, Nat.le_of_ble_eq_true rfl⟩) (w_preV hK hW hL_a0 hK_a0 (by decide) rfl) rfl rfl hl.1 rfl (lv_room (Nat.le_of_ble_eq_true rfl)) dJ5_setLength_d00df_15 ⟨by show _ + m_4 ≤ rC; omega, by show _ + z_5 ≤ rS; omega⟩) hW (fun S_3 H locs hp hW => ?_)
    obtain ⟨hX_S_3, hp⟩ := hp
    refine W.widen (k := _ + m_4) (n := _ + z_5) (Nat.le_refl _) (Nat.le_refl _) ?_
    replace hbc := w_spend hbc (show m_4 ≤ bc by omega)
    replace hbs := w_spend hbs (show z_5 ≤ bs by omega)
    have hE := hE.trans hX_S_3
    have hK_a0 : sK S_3 a0 = 1 := (hX_S_3.2 a0 hL_a0).1.trans hK_a0
    have hL_a0 : wM D S_3 a0 := hX_S_3.M hL_a0
    refine lv_aload_n hx hb dJ5_setLength_d00df_18 rfl (lv_at hl 0 rfl) ?_
    refine w_get (k := 1) (f := 3) (T := TJ4) (v := .int (sI S_3 a0 3)) F hK hW hL_a0 hK_a0 (by decide) rfl rfl (by decide) i_1 k_79 rfl dJ5_setLength_d00df_19 ?_
    refine lv_iload_n hx hb dJ5_setLength_d00df_22 rfl (lv_at hl 1 rfl) ?_
    refine lv_icmp_ge (tgt := 63) hx hb dJ5_setLength_d00df_23 (by decide) (fun c_6 => ?_) (fun c_6 => ?_)
    · replace hp := hp.1 c_6
      refine lv_aload_n hx hb dJ5_setLength_d00df_63 rfl (lv_at hl 0 rfl) ?_
      refine w_get (k := 1) (f := 3) (T := TJ4) (v := .int (sI S_3 a0 3)) F hK hW hL_a0 hK_a0 (by decide) rfl rfl (by decide) i_1 k_79 rfl dJ5_setLength_d00df_64 ?_
      refine lv_iload_n hx hb dJ5_setLength_d00df_67 rfl (lv_at hl 1 rfl) ?_
      refine lv_icmp_le (tgt := 76) hx hb dJ5_setLength_d00df_68 (by decide) (fun c_7 => ?_) (fun c_7 => ?_)
      · replace hp := hp.1 c_7
        exact t_J5_setLength_d00df_76 F hr hlocks hK hbc hbs hp hW hE (lv_sub hl [0, 1] rfl) hL_a0 hK_a0
      · replace hp := hp.2 c_7
        refine lv_aload_n hx hb dJ5_setLength_d00df_71 rfl (lv_at hl 0 rfl) ?_
        refine lv_iconst (v := 1) hx hb dJ5_setLength_d00df_72 (by decide) ?_
        obtain ⟨h_9, h_9f, hp⟩ := hp
        refine w_putI (k := 1) (f := 2) (T := TJ4) F hK hW hL_a0 hK_a0 (by decide) (by decide) rfl rfl (by decide) i_1 tyJ4 tyJ4_ok nmJ4 k_73 rfl rfl (ty := .boolean) rfl h_9 h_9f dJ5_setLength_d00df_73 (fun H locs hW => ?_)
        obtain ⟨S_8, eS_8⟩ : ∃ z : wS, z = uI S_3 a0 2 (1 : Int32) := ⟨_, rfl⟩
        rw [← eS_8] at hW
        replace hp := hp S_8 eS_8
        have hX_S_8 : wX D S_3 S_8 := by rw [eS_8]; exact wX_uI
        have hE := hE.trans hX_S_8
        have hK_a0 : sK S_8 a0 = 1 := (hX_S_8.2 a0 hL_a0).1.trans hK_a0
        have hL_a0 : wM D S_8 a0 := hX_S_8.M hL_a0
        exact t_J5_setLength_d00df_76 F hr hlocks hK hbc hbs hp hW hE (lv_sub hl [0, 1] rfl) hL_a0 hK_a0
    · replace hp := hp.2 c_6
      refine lv_aload_n hx hb dJ5_setLength_d00df_26 rfl (lv_at hl 0 rfl) ?_
      refine w_callI (va_runU (As := []) (rest := []) F (c_J5_isLatin1_aae02 l hL_a0 hK_a0 hp H.size) (va_cwU (C := RJ4) (owner := RJ5) 0 hts (wg_U wm_RJ5_83 wsm_J5_isLatin1_aae02 wse_J5_isLatin1_aae02 wi5_J5_isLatin1_aae02 winit5 wco_J5_isLatin1_aae02) rfl rfl rfl rfl ⟨by decide, by decide, by decide +kernel⟩ ⟨Nat.le_of_ble_eq_true rfl, Nat.le_of_ble_eq_true rfl⟩) (w_preV hK hW hL_a0 hK_a0 (by decide) rfl) rfl rfl hl.1 rfl (lv_room (Nat.le_of_ble_eq_true rfl)) dJ5_setLength_d00df_27 ⟨by show _ ≤ rC; exact Nat.le_trans (Nat.le_add_right _ _) hbc, by show _ ≤ rS; exact Nat.le_trans (Nat.le_add_right _ _) hbs⟩) hW (fun r_10 S_11 H locs hp hW => ?_)
      obtain ⟨hX_S_11, hp⟩ := hp
      refine w_same ?_
      have hE := hE.trans hX_S_11
      have hK_a0 : sK S_11 a0 = 1 := (hX_S_11.2 a0 hL_a0).1.trans hK_a0
      have hL_a0 : wM D S_11 a0 := hX_S_11.M hL_a0
      refine lv_if_eq (tgt := 48) hx hb dJ5_setLength_d00df_30 (by decide) (fun c_12 => ?_) (fun c_12 => ?_)
      · replace hp := hp.1 c_12
        refine lv_aload_n hx hb dJ5_setLength_d00df_48 rfl (lv_at hl 0 rfl) ?_
        obtain ⟨y_13, ey_13, hL_y_13, hK_y_13, hp⟩ := hp
        refine w_get (k := 1) (f := 0) (T := TJ4) (v := .ref y_13) F hK hW hL_a0 hK_a0 (by decide) rfl rfl (by decide) i_1 k_15 (by rw [show wv 1 0 S_11 a0 = va_rf (sR S_11 a0 0) from rfl, ey_13]; rfl) dJ5_setLength_d00df_49 ?_
        refine lv_aload_n hx hb dJ5_setLength_d00df_52 rfl (lv_at hl 0 rfl) ?_
        refine w_get (k := 1) (f := 3) (T := TJ4) (v := .int (sI S_11 a0 3)) F hK hW hL_a0 hK_a0 (by decide) rfl rfl (by decide) i_1 k_79 rfl dJ5_setLength_d00df_53 ?_
        refine lv_iload_n hx hb dJ5_setLength_d00df_56 rfl (lv_at hl 1 rfl) ?_
        obtain ⟨m_16, z_17, hm_16, hz_17, hp⟩ := hp
        refine w_callV (va_runS (As := [.ref y_13, .int (sI S_11 a0 3), .int x1]) (rest := []) F (c_J2_fillNull_b72d1 l hL_y_13 hK_y_13 hp H.size) (va_cwS 3 hts (wg_S wm_RJ5_137 wy_J2_fillNull_b72d1) rfl rfl rfl (by decide +kernel) ⟨Nat.le_of_ble_eq_true rfl, Nat.le_of_ble_eq_true rfl⟩) (w_preS hK hW) rfl rfl hl.1 rfl (lv_room (Nat.le_of_ble_eq_true rfl)) dJ5_setLength_d00df_57 ⟨by show _ + m_16 ≤ rC; omega, by show _ + z_17 ≤ rS; omega⟩) hW (fun S_15 H locs hp hW => ?_)
        obtain ⟨hX_S_15, hp⟩ := hp
        refine W.widen (k := _ + m_16) (n := _ + z_17) (Nat.le_refl _) (Nat.le_refl _) ?_
        replace hbc := w_spend hbc (show m_16 ≤ (bc - m_4) by omega)
        replace hbs := w_spend hbs (show z_17 ≤ (bs - z_5) by omega)
        have hE := hE.trans hX_S_15
        have hK_a0 : sK S_15 a0 = 1 := (hX_S_15.2 a0 hL_a0).1.trans hK_a0
        have hL_a0 : wM D S_15 a0 := hX_S_15.M hL_a0
        refine lv_goto (tgt := 76) hx hb dJ5_setLength_d00df_60 (by decide) ?_
        exact t_J5_setLength_d00df_76 F hr hlocks hK hbc hbs hp hW hE (lv_sub hl [0, 1] rfl) hL_a0 hK_a0
      · replace hp := hp.2 c_12
        refine lv_aload_n hx hb dJ5_setLength_d00df_33 rfl (lv_at hl 0 rfl) ?_
        obtain ⟨y_18, ey_18, hL_y_18, hK_y_18, hp⟩ := hp
        refine w_get (k := 1) (f := 0) (T := TJ4) (v := .ref y_18) F hK hW hL_a0 hK_a0 (by decide) rfl rfl (by decide) i_1 k_15 (by rw [show wv 1 0 S_11 a0 = va_rf (sR S_11 a0 0) from rfl, ey_18]; rfl) dJ5_setLength_d00df_34 ?_
        refine lv_aload_n hx hb dJ5_setLength_d00df_37 rfl (lv_at hl 0 rfl) ?_
        refine w_get (k := 1) (f := 3) (T := TJ4) (v := .int (sI S_11 a0 3)) F hK hW hL_a0 hK_a0 (by decide) rfl rfl (by decide) i_1 k_79 rfl dJ5_setLength_d00df_38 ?_
        refine lv_iload_n hx hb dJ5_setLength_d00df_41 rfl (lv_at hl 1 rfl) ?_
        obtain ⟨m_21, z_22, hm_21, hz_22, hp⟩ := hp
        refine w_callV (va_runS (As := [.ref y_18, .int (sI S_11 a0 3), .int x1]) (rest := []) F (c_J1_fillNull_b72d1 l hL_y_18 hK_y_18 hp H.size) (va_cwS 3 hts (wg_S wm_RJ5_133 wy_J1_fillNull_b72d1) rfl rfl rfl (by decide +kernel) ⟨Nat.le_of_ble_eq_true rfl, Nat.le_of_ble_eq_true rfl⟩) (w_preS hK hW) rfl rfl hl.1 rfl (lv_room (Nat.le_of_ble_eq_true rfl)) dJ5_setLength_d00df_42 ⟨by show _ + m_21 ≤ rC; omega, by show _ + z_22 ≤ rS; omega⟩) hW (fun S_20 H locs hp hW => ?_)
        obtain ⟨hX_S_20, hp⟩ := hp
        refine W.widen (k := _ + m_21) (n := _ + z_22) (Nat.le_refl _) (Nat.le_refl _) ?_
        replace hbc := w_spend hbc (show m_21 ≤ (bc - m_4) by omega)
        replace hbs := w_spend hbs (show z_22 ≤ (bs - z_5) by omega)
        have hE := hE.trans hX_S_20
        have hK_a0 : sK S_20 a0 = 1 := (hX_S_20.2 a0 hL_a0).1.trans hK_a0
        have hL_a0 : wM D S_20 a0 := hX_S_20.M hL_a0
        refine lv_goto (tgt := 76) hx hb dJ5_setLength_d00df_45 (by decide) ?_
        exact t_J5_setLength_d00df_76 F hr hlocks hK hbc hbs hp hW hE (lv_sub hl [0, 1] rfl) hL_a0 hK_a0
  · replace hp := hp.2 c_1
    obtain ⟨h_25, h_25b, hp⟩ := hp
    refine w_new (k := 3) (T := TJx7c733) F hK hW rfl (by decide) (fun w h => List.mem_cons_of_mem _ (wu_3 w h)) tyJx7c733 tyJx7c733_ok (hwg _ wc_RJ5_129) (hwg _ wn_3) (hwg _ wi_java_lang_StringIndexOutOfBoundsException) wdef_3 (by show _ ≤ rC; omega) (by show _ ≤ rS; omega) dJ5_setLength_d00df_4 (fun y_23 H hq_y_23 hW => ?_)
    replace hbc := w_spend hbc (show 1 ≤ bc by omega)
    replace hbs := w_spend hbs (show 6 ≤ bs by omega)
    obtain ⟨S_24, eS_24⟩ : ∃ z : wS, z = nA S y_23 3 0 := ⟨_, rfl⟩
    rw [← eS_24] at hW
    replace hp := hp y_23 hq_y_23 S_24 eS_24
    have hX_S_24 : wX D S S_24 := by rw [eS_24]; exact wX_nA hq_y_23
    have hE := hE.trans hX_S_24
    have hK_a0 : sK S_24 a0 = 1 := (hX_S_24.2 a0 hL_a0).1.trans hK_a0
    have hL_a0 : wM D S_24 a0 := hX_S_24.M hL_a0
    have hL_y_23 : wM D S_24 y_23 := by rw [eS_24]; exact Or.inl (List.mem_append_right _ List.mem_cons_self)
    have hK_y_23 : sK S_24 y_23 = 3 := by rw [eS_24]; exact va_up_self _ _ _
    refine lv_dup hx hb dJ5_setLength_d00df_7 rfl ?_
    refine lv_iload_n hx hb dJ5_setLength_d00df_8 rfl (lv_at hl 1 rfl) ?_
    obtain ⟨m_28, z_29, hm_28, hz_29, hp⟩ := hp
    refine w_callV (va_runI (As := [.int x1]) (rest := [.ref y_23]) F (c_Jx7c733_init_d00df l hL_y_23 hK_y_23 hp H.size) (cwI 1 hts (wg_cons wy_Jx7c733_init_d00df.2.2) rfl rfl rfl (hwg _ wy_Jx7c733_init_d00df.2.1) (hwg _ wm_RJ5_131) (hwg _ wy_Jx7c733_init_d00df.1) rfl (by decide +kernel) ⟨Nat.le_of_ble_eq_true rfl, Nat.le_of_ble_eq_true rfl⟩) (w_preS hK hW) rfl rfl hl.1 rfl (lv_room (Nat.le_of_ble_eq_true rfl)) dJ5_setLength_d00df_9 ⟨by show _ + m_28 ≤ rC; omega, by show _ + z_29 ≤ rS; omega⟩) hW (fun S_27 H locs hp hW => ?_)
    obtain ⟨hX_S_27, hp⟩ := hp
    refine W.widen (k := _ + m_28) (n := _ + z_29) (Nat.le_refl _) (Nat.le_refl _) ?_
    replace hbc := w_spend hbc (show m_28 ≤ (bc - 1) by omega)
    replace hbs := w_spend hbs (show z_29 ≤ (bs - 6) by omega)
    have hE := hE.trans hX_S_27
    have hK_a0 : sK S_27 a0 = 1 := (hX_S_27.2 a0 hL_a0).1.trans hK_a0
    have hL_a0 : wM D S_27 a0 := hX_S_27.M hL_a0
    have hK_y_23 : sK S_27 y_23 = 3 := (hX_S_27.2 y_23 hL_y_23).1.trans hK_y_23
    have hL_y_23 : wM D S_27 y_23 := hX_S_27.M hL_y_23
    exact hp.elim
set_option maxHeartbeats 4000000 in
set_option maxRecDepth 100000 in
theorem c_J5_setLength_d00df (l : Launch) {rC rS : Nat} {D : wD} {cy : Nat → ClassId} {X : va_W} {S0 : wS} {post : wS → Prop} {a0 : Nat} {x1 : Int32} (hL_a0 : wM D S0 a0) (hK_a0 : sK S0 a0 = 1) (hp : wp_J5_setLength_d00df D post rC rS S0 a0 x1) : mV D cy X l yJ5_setLength_d00df wz_J5_setLength_d00df (r_J5_setLength_d00df rC rS) [.ref a0, .int x1] S0 (fun S9 => wX D S0 S9 ∧ post S9) := by
  intro sz
  refine Met.ofW (cc := cJ5_setLength_d00df) (maxL := 2) (ret := none) (by decide) rfl ?_
  intro p e s m args below meth c s₁ B hml hv
  obtain ⟨rfl, hsz, hP, hK, hD0, hRO⟩ := hv
  have hts := atoms_spec (ws := wz_J5_setLength_d00df) B.pre
  have hown : s.vm.findClass RJ5 = some m.cls := findClass_of_methodNamed B.named
  subst hsz
  have hD := hD0.self (sz := s.heap.size)
  have F : CallFix p m c cJ5_setLength_d00df 2 s _ wz_J5_setLength_d00df RJ5 := ⟨B.exec, B.bytes, hml, hown, hts⟩
  have hr := B.returns
  have hlocks := B.notSynchronized
  generalize hAe : va_A (wL cy X S0) s.heap.size = A at hD hK ⊢
  have hA : ∀ q, s.heap.size ≤ q → A q := fun q h => by rw [← hAe]; exact Or.inr h
  have hW : wO D cy X A s.heap S0 s.heap [] := ⟨hP, hD, va_S.rf, hA, hRO⟩
  have hl := lv_entry ([.ref a0, .int x1]) (n := 2) (Nat.le_of_ble_eq_true rfl)
  rw [lg_entry_eq]
  generalize (lg_sl ([.ref a0, .int x1]) ++ List.replicate (2 - (lg_sl ([.ref a0, .int x1])).length) Slot.unset).toArray = ls at hl ⊢
  have hl : lv_has ls 2 [(0, .ref a0), (1, .int x1)] := hl
  unfold wp_J5_setLength_d00df at hp
  exact t_J5_setLength_d00df_0 F hr hlocks hK (Nat.le_of_eq (Nat.zero_add _)) (Nat.le_of_eq (Nat.zero_add _)) hp hW wX.rf (lv_sub hl [0, 1] rfl) hL_a0 hK_a0
def wp_J4_setLength_d00df_0 (D : wD) (post : wS → Prop)  (bc bs : Nat) (S : wS) (a0 : Nat) (x1 : Int32) : Prop :=
∃ m_3 z_4 : Nat, m_3 ≤ bc ∧ z_4 ≤ bs ∧
wp_J5_setLength_d00df D (fun S_2 => 
post S_2) m_3 z_4 S a0 x1
abbrev r_J4_setLength_d00df (rC rS : Nat) : Room := { frames := 15, cells := rC, slots := rS, locals := 333 }
def wp_J4_setLength_d00df (D : wD) (post : wS → Prop) (bc bs : Nat) (S : wS) (a0 : Nat) (x1 : Int32) : Prop := wp_J4_setLength_d00df_0 D post bc bs S a0 x1
set_option maxHeartbeats 4000000 in
set_option maxRecDepth 100000 in
theorem t_J4_setLength_d00df_0 {p : Program} {l : Launch} {e : Env} {s : State} {m : MethodId} {args : Array Value} {below : List Frame} {meth : Method} {c : Code} {D : wD} {cy : Nat → ClassId} {X : va_W} {A : Nat → Prop} {S0 : wS} {rC rS : Nat} {post : wS → Prop} (F : CallFix p m c cJ4_setLength_d00df 2 s args wz_J4_setLength_d00df RJ4) (hr : meth.sig.returnType = none) (hlocks : meth.locks = false) (hK : wK D cy A s) : ∀ {bc bs cells slots : Nat} (hbc : cells + bc ≤ rC) (hbs : slots + bs ≤ rS) {S : wS} {H : Heap} {locs : List Loc} {ls : Array Slot} {a0 : Nat} {x1 : Int32}, wp_J4_setLength_d00df_0 D post bc bs S a0 x1 → wO D cy X A s.heap S H locs → wX D S0 S → lv_has ls 2 [(0, .ref a0), (1, .int x1)] → wM D S a0 → sK S a0 = 1 → W p l e (r_J4_setLength_d00df rC rS) s m args below meth c H locs cells slots (MQ below (va_Qv (fun S9 => wX D S0 S9 ∧ post S9) (wB D cy X A) A) args s rC rS A) (F0 m 0 ls []) := by
  obtain ⟨hx, hb, hml, hown, hts⟩ := id F
  have hwg : ∀ w ∈ WG, w.before args s = true := fun w h => hts w (List.mem_cons_of_mem _ h)
  intro bc bs cells slots hbc hbs S H locs ls a0 x1 hp hW hE hl hL_a0 hK_a0
  unfold wp_J4_setLength_d00df_0 at hp
  refine lv_aload_n hx hb dJ4_setLength_d00df_0 rfl (lv_at hl 0 rfl) ?_
  refine lv_iload_n hx hb dJ4_setLength_d00df_1 rfl (lv_at hl 1 rfl) ?_
  obtain ⟨m_3, z_4, hm_3, hz_4, hp⟩ := hp
  refine w_callV (va_runSU (hK.1.1 1 _ rfl).2 (As := [.int x1]) (rest := []) F (c_J5_setLength_d00df l hL_a0 hK_a0 hp H.size) (va_cwSU 1 hts (wg_SU wm_RJ4_333 wsm_J5_setLength_d00df wsup5 wi5_J5_setLength_d00df winit5 wco_J5_setLength_d00df) rfl rfl rfl ⟨by decide, by decide +kernel⟩ ⟨Nat.le_of_ble_eq_true rfl, Nat.le_of_ble_eq_true rfl⟩) (w_preV hK hW hL_a0 hK_a0 (by decide) rfl) rfl rfl hl.1 rfl (lv_room (Nat.le_of_ble_eq_true rfl)) dJ4_setLength_d00df_2 ⟨by show _ + m_3 ≤ rC; omega, by show _ + z_4 ≤ rS; omega⟩) hW (fun S_2 H locs hp hW => ?_)
  obtain ⟨hX_S_2, hp⟩ := hp
  refine W.widen (k := _ + m_3) (n := _ + z_4) (Nat.le_refl _) (Nat.le_refl _) ?_
  replace hbc := w_spend hbc (show m_3 ≤ bc by omega)
  replace hbs := w_spend hbs (show z_4 ≤ bs by omega)
  have hE := hE.trans hX_S_2
  have hK_a0 : sK S_2 a0 = 1 := (hX_S_2.2 a0 hL_a0).1.trans hK_a0
  have hL_a0 : wM D S_2 a0 := hX_S_2.M hL_a0
  refine W.widen (k := rC) (n := rS) (Nat.le_trans (Nat.le_add_right _ _) hbc) (Nat.le_trans (Nat.le_add_right _ _) hbs) ?_
  exact w_vret hx hb hr hlocks hW ⟨hE, hp⟩ dJ4_setLength_d00df_5
set_option maxHeartbeats 4000000 in
set_option maxRecDepth 100000 in
theorem c_J4_setLength_d00df (l : Launch) {rC rS : Nat} {D : wD} {cy : Nat → ClassId} {X : va_W} {S0 : wS} {post : wS → Prop} {a0 : Nat} {x1 : Int32} (hL_a0 : wM D S0 a0) (hK_a0 : sK S0 a0 = 1) (hp : wp_J4_setLength_d00df D post rC rS S0 a0 x1) : mV D cy X l yJ4_setLength_d00df wz_J4_setLength_d00df (r_J4_setLength_d00df rC rS) [.ref a0, .int x1] S0 (fun S9 => wX D S0 S9 ∧ post S9) := by
  intro sz
  refine Met.ofW (cc := cJ4_setLength_d00df) (maxL := 2) (ret := none) (by decide) rfl ?_
  intro p e s m args below meth c s₁ B hml hv
  obtain ⟨rfl, hsz, hP, hK, hD0, hRO⟩ := hv
  have hts := atoms_spec (ws := wz_J4_setLength_d00df) B.pre
  have hown : s.vm.findClass RJ4 = some m.cls := findClass_of_methodNamed B.named
  subst hsz
  have hD := hD0.self (sz := s.heap.size)
  have F : CallFix p m c cJ4_setLength_d00df 2 s _ wz_J4_setLength_d00df RJ4 := ⟨B.exec, B.bytes, hml, hown, hts⟩
  have hr := B.returns
  have hlocks := B.notSynchronized
  generalize hAe : va_A (wL cy X S0) s.heap.size = A at hD hK ⊢
  have hA : ∀ q, s.heap.size ≤ q → A q := fun q h => by rw [← hAe]; exact Or.inr h
  have hW : wO D cy X A s.heap S0 s.heap [] := ⟨hP, hD, va_S.rf, hA, hRO⟩
  have hl := lv_entry ([.ref a0, .int x1]) (n := 2) (Nat.le_of_ble_eq_true rfl)
  rw [lg_entry_eq]
  generalize (lg_sl ([.ref a0, .int x1]) ++ List.replicate (2 - (lg_sl ([.ref a0, .int x1])).length) Slot.unset).toArray = ls at hl ⊢
  have hl : lv_has ls 2 [(0, .ref a0), (1, .int x1)] := hl
  unfold wp_J4_setLength_d00df at hp
  exact t_J4_setLength_d00df_0 F hr hlocks hK (Nat.le_of_eq (Nat.zero_add _)) (Nat.le_of_eq (Nat.zero_add _)) hp hW wX.rf (lv_sub hl [0, 1] rfl) hL_a0 hK_a0
def wp_J7_copyOf_6403c_0 (D : wD) (post : Option Nat → wS → Prop)  (bc bs : Nat) (S : wS) (g2 : Option Nat) : Prop :=
False
abbrev r_J7_copyOf_6403c (rC rS : Nat) : Room := { frames := 0, cells := rC, slots := rS, locals := 0 }
def wp_J7_copyOf_6403c (D : wD) (post : Option Nat → wS → Prop) (bc bs : Nat) (S : wS) (a0 : Nat) (x1 : Int32) (g2 : Option Nat) : Prop := wp_J7_copyOf_6403c_0 D post bc bs S g2
set_option maxHeartbeats 4000000 in
set_option maxRecDepth 100000 in
theorem t_J7_copyOf_6403c_0 {p : Program} {l : Launch} {e : Env} {s : State} {m : MethodId} {args : Array Value} {below : List Frame} {meth : Method} {c : Code} {D : wD} {cy : Nat → ClassId} {X : va_W} {A : Nat → Prop} {S0 : wS} {rC rS : Nat} {post : Option Nat → wS → Prop} (F : CallFix p m c cJ7_copyOf_6403c 4 s args wz_J7_copyOf_6403c RJ7) (hr : meth.sig.returnType = (some (.array (.object "java/lang/Object")))) (hlocks : meth.locks = false) (hK : wK D cy A s) : ∀ {bc bs cells slots : Nat} (hbc : cells + bc ≤ rC) (hbs : slots + bs ≤ rS) {S : wS} {H : Heap} {locs : List Loc} {ls : Array Slot} {g2 : Option Nat}, wp_J7_copyOf_6403c_0 D post bc bs S g2 → wO D cy X A s.heap S H locs → wX D S0 S → lv_has ls 4 [(2, va_rf g2)] → W p l e (r_J7_copyOf_6403c rC rS) s m args below meth c H locs cells slots (MQ below (va_Qq (fun r S9 => wX D S0 S9 ∧ post r S9) (wB D cy X A) A) args s rC rS A) (F0 m 0 ls []) := by
  obtain ⟨hx, hb, hml, hown, hts⟩ := id F
  have hwg : ∀ w ∈ WG, w.before args s = true := fun w h => hts w (List.mem_cons_of_mem _ h)
  intro bc bs cells slots hbc hbs S H locs ls g2 hp hW hE hl
  unfold wp_J7_copyOf_6403c_0 at hp
  exact hp.elim
set_option maxHeartbeats 4000000 in
set_option maxRecDepth 100000 in
theorem c_J7_copyOf_6403c (l : Launch) {rC rS : Nat} {D : wD} {cy : Nat → ClassId} {X : va_W} {S0 : wS} {post : Option Nat → wS → Prop} {a0 : Nat} {x1 : Int32} {g2 : Option Nat} (hL_a0 : wM D S0 a0) (hK_a0 : sK S0 a0 = 24) (hp : wp_J7_copyOf_6403c D post rC rS S0 a0 x1 g2) : mR D cy X l yJ7_copyOf_6403c wz_J7_copyOf_6403c (r_J7_copyOf_6403c rC rS) [.ref a0, .int x1, va_rf g2] S0 (fun r S9 => wX D S0 S9 ∧ post r S9) := by
  intro sz
  refine Met.ofW (cc := cJ7_copyOf_6403c) (maxL := 4) (ret := (some (.array (.object "java/lang/Object")))) (by decide) rfl ?_
  intro p e s m args below meth c s₁ B hml hv
  obtain ⟨rfl, hsz, hP, hK, hD0, hRO⟩ := hv
  have hts := atoms_spec (ws := wz_J7_copyOf_6403c) B.pre
  have hown : s.vm.findClass RJ7 = some m.cls := findClass_of_methodNamed B.named
  subst hsz
  have hD := hD0.self (sz := s.heap.size)
  have F : CallFix p m c cJ7_copyOf_6403c 4 s _ wz_J7_copyOf_6403c RJ7 := ⟨B.exec, B.bytes, hml, hown, hts⟩
  have hr := B.returns
  have hlocks := B.notSynchronized
  generalize hAe : va_A (wL cy X S0) s.heap.size = A at hD hK ⊢
  have hA : ∀ q, s.heap.size ≤ q → A q := fun q h => by rw [← hAe]; exact Or.inr h
  have hW : wO D cy X A s.heap S0 s.heap [] := ⟨hP, hD, va_S.rf, hA, hRO⟩
  have hl : lv_has ((lg_sl ([.ref a0, .int x1, va_rf g2]) ++ List.replicate (4 - (lg_sl ([.ref a0, .int x1, va_rf g2])).length) Slot.unset).toArray) 4 [(0, .ref a0), (1, .int x1), (2, va_rf g2)] := by
    cases g2 <;> exact lv_entry _ (n := 4) (Nat.le_of_ble_eq_true rfl)
  rw [lg_entry_eq]
  generalize (lg_sl ([.ref a0, .int x1, va_rf g2]) ++ List.replicate (4 - (lg_sl ([.ref a0, .int x1, va_rf g2])).length) Slot.unset).toArray = ls at hl ⊢
  have hl : lv_has ls 4 [(0, .ref a0), (1, .int x1), (2, va_rf g2)] := hl
  unfold wp_J7_copyOf_6403c at hp
  exact t_J7_copyOf_6403c_0 F hr hlocks hK (Nat.le_of_eq (Nat.zero_add _)) (Nat.le_of_eq (Nat.zero_add _)) hp hW wX.rf (lv_sub hl [2] rfl)
def wp_J7_copyOf_1904c_0 (D : wD) (post : Option Nat → wS → Prop)  (bc bs : Nat) (S : wS) (a0 : Nat) (x1 : Int32) : Prop :=
False
abbrev r_J7_copyOf_1904c (rC rS : Nat) : Room := { frames := 0, cells := rC, slots := rS, locals := 0 }
def wp_J7_copyOf_1904c (D : wD) (post : Option Nat → wS → Prop) (bc bs : Nat) (S : wS) (a0 : Nat) (x1 : Int32) : Prop := wp_J7_copyOf_1904c_0 D post bc bs S a0 x1
set_option maxHeartbeats 4000000 in
set_option maxRecDepth 100000 in
theorem t_J7_copyOf_1904c_0 {p : Program} {l : Launch} {e : Env} {s : State} {m : MethodId} {args : Array Value} {below : List Frame} {meth : Method} {c : Code} {D : wD} {cy : Nat → ClassId} {X : va_W} {A : Nat → Prop} {S0 : wS} {rC rS : Nat} {post : Option Nat → wS → Prop} (F : CallFix p m c cJ7_copyOf_1904c 2 s args wz_J7_copyOf_1904c RJ7) (hr : meth.sig.returnType = (some (.array (.object "java/lang/Object")))) (hlocks : meth.locks = false) (hK : wK D cy A s) : ∀ {bc bs cells slots : Nat} (hbc : cells + bc ≤ rC) (hbs : slots + bs ≤ rS) {S : wS} {H : Heap} {locs : List Loc} {ls : Array Slot} {a0 : Nat} {x1 : Int32}, wp_J7_copyOf_1904c_0 D post bc bs S a0 x1 → wO D cy X A s.heap S H locs → wX D S0 S → lv_has ls 2 [(0, .ref a0), (1, .int x1)] → wM D S a0 → sK S a0 = 24 → W p l e (r_J7_copyOf_1904c rC rS) s m args below meth c H locs cells slots (MQ below (va_Qq (fun r S9 => wX D S0 S9 ∧ post r S9) (wB D cy X A) A) args s rC rS A) (F0 m 0 ls []) := by
  obtain ⟨hx, hb, hml, hown, hts⟩ := id F
  have hwg : ∀ w ∈ WG, w.before args s = true := fun w h => hts w (List.mem_cons_of_mem _ h)
  intro bc bs cells slots hbc hbs S H locs ls a0 x1 hp hW hE hl hL_a0 hK_a0
  unfold wp_J7_copyOf_1904c_0 at hp
  exact hp.elim
set_option maxHeartbeats 4000000 in
set_option maxRecDepth 100000 in
theorem c_J7_copyOf_1904c (l : Launch) {rC rS : Nat} {D : wD} {cy : Nat → ClassId} {X : va_W} {S0 : wS} {post : Option Nat → wS → Prop} {a0 : Nat} {x1 : Int32} (hL_a0 : wM D S0 a0) (hK_a0 : sK S0 a0 = 24) (hp : wp_J7_copyOf_1904c D post rC rS S0 a0 x1) : mR D cy X l yJ7_copyOf_1904c wz_J7_copyOf_1904c (r_J7_copyOf_1904c rC rS) [.ref a0, .int x1] S0 (fun r S9 => wX D S0 S9 ∧ post r S9) := by
  intro sz
  refine Met.ofW (cc := cJ7_copyOf_1904c) (maxL := 2) (ret := (some (.array (.object "java/lang/Object")))) (by decide) rfl ?_
  intro p e s m args below meth c s₁ B hml hv
  obtain ⟨rfl, hsz, hP, hK, hD0, hRO⟩ := hv
  have hts := atoms_spec (ws := wz_J7_copyOf_1904c) B.pre
  have hown : s.vm.findClass RJ7 = some m.cls := findClass_of_methodNamed B.named
  subst hsz
  have hD := hD0.self (sz := s.heap.size)
  have F : CallFix p m c cJ7_copyOf_1904c 2 s _ wz_J7_copyOf_1904c RJ7 := ⟨B.exec, B.bytes, hml, hown, hts⟩
  have hr := B.returns
  have hlocks := B.notSynchronized
  generalize hAe : va_A (wL cy X S0) s.heap.size = A at hD hK ⊢
  have hA : ∀ q, s.heap.size ≤ q → A q := fun q h => by rw [← hAe]; exact Or.inr h
  have hW : wO D cy X A s.heap S0 s.heap [] := ⟨hP, hD, va_S.rf, hA, hRO⟩
  have hl := lv_entry ([.ref a0, .int x1]) (n := 2) (Nat.le_of_ble_eq_true rfl)
  rw [lg_entry_eq]
  generalize (lg_sl ([.ref a0, .int x1]) ++ List.replicate (2 - (lg_sl ([.ref a0, .int x1])).length) Slot.unset).toArray = ls at hl ⊢
  have hl : lv_has ls 2 [(0, .ref a0), (1, .int x1)] := hl
  unfold wp_J7_copyOf_1904c at hp
  exact t_J7_copyOf_1904c_0 F hr hlocks hK (Nat.le_of_eq (Nat.zero_add _)) (Nat.le_of_eq (Nat.zero_add _)) hp hW wX.rf (lv_sub hl [0, 1] rfl) hL_a0 hK_a0
def wp_J7_fill_53178_5 (D : wD) (post : wS → Prop)  : Nat → wS → Nat → Int32 → Int32 → Int32 → Prop
  | 0, _, _, _, _, _ => False
  | n + 1, S, a0, x1, x2, x3 =>
    ((x3 ≤ x2 → post S) ∧
     (¬ x3 ≤ x2 → a0 ∈ sL S ∧ vp_in x2 (sN S a0) ∧
    ∀ S_3 : wS, S_3 = uI S a0 (x2).toNatClampNeg x1 →
    ∀ x_4 : Int32, x_4 = x2 + 1 →
    wp_J7_fill_53178_5 D post n S_3 a0 x1 x_4 x3))
def wp_J7_fill_53178_0 (D : wD) (post : wS → Prop)  (S : wS) (a0 : Nat) (x1 : Int32) : Prop :=
∀ x_1 : Int32, x_1 = (Int32.ofNat (sN S a0)) →
∃ n_2 : Nat, wp_J7_fill_53178_5 D post n_2 S a0 x1 (0 : Int32) x_1
abbrev r_J7_fill_53178 : Room := { frames := 0, cells := 0, slots := 0, locals := 0 }
def wp_J7_fill_53178 (D : wD) (post : wS → Prop) (S : wS) (a0 : Nat) (x1 : Int32) : Prop := wp_J7_fill_53178_0 D post S a0 x1
set_option maxHeartbeats 4000000 in
set_option maxRecDepth 100000 in
theorem t_J7_fill_53178_5 {p : Program} {l : Launch} {e : Env} {s : State} {m : MethodId} {args : Array Value} {below : List Frame} {meth : Method} {c : Code} {D : wD} {cy : Nat → ClassId} {X : va_W} {A : Nat → Prop} {S0 : wS} {post : wS → Prop} (F : CallFix p m c cJ7_fill_53178 4 s args wz_J7_fill_53178 RJ7) (hr : meth.sig.returnType = none) (hlocks : meth.locks = false) (hK : wK D cy A s) : ∀ (n : Nat) {S : wS} {H : Heap} {locs : List Loc} {ls : Array Slot} {a0 : Nat} {x1 : Int32} {x2 : Int32} {x3 : Int32}, wp_J7_fill_53178_5 D post n S a0 x1 x2 x3 → wO D cy X A s.heap S H locs → wX D S0 S → lv_has ls 4 [(0, .ref a0), (1, .int x1), (2, .int x2), (3, .int x3)] → wM D S a0 → sK S a0 = 21 → W p l e r_J7_fill_53178 s m args below meth c H locs 0 0 (MQ below (va_Qv (fun S9 => wX D S0 S9 ∧ post S9) (wB D cy X A) A) args s 0 0 A) (F0 m 5 ls []) := by
  obtain ⟨hx, hb, hml, hown, hts⟩ := id F
  have hwg : ∀ w ∈ WG, w.before args s = true := fun w h => hts w (List.mem_cons_of_mem _ h)
  intro n
  induction n with
  | zero =>
    intro S H locs ls a0 x1 x2 x3 hp
    exact hp.elim
  | succ n ih =>
    intro S H locs ls a0 x1 x2 x3 hp hW hE hl hL_a0 hK_a0
    unfold wp_J7_fill_53178_5 at hp
    refine lv_iload_n hx hb dJ7_fill_53178_5 rfl (lv_at hl 2 rfl) ?_
    refine lv_iload_n hx hb dJ7_fill_53178_6 rfl (lv_at hl 3 rfl) ?_
    refine lv_icmp_ge (tgt := 20) hx hb dJ7_fill_53178_7 (by decide) (fun c_1 => ?_) (fun c_1 => ?_)
    · replace hp := hp.1 c_1
      exact w_vret hx hb hr hlocks hW ⟨hE, hp⟩ dJ7_fill_53178_20
    · replace hp := hp.2 c_1
      refine lv_aload_n hx hb dJ7_fill_53178_10 rfl (lv_at hl 0 rfl) ?_
      refine lv_iload_n hx hb dJ7_fill_53178_11 rfl (lv_at hl 2 rfl) ?_
      refine lv_iload_n hx hb dJ7_fill_53178_12 rfl (lv_at hl 1 rfl) ?_
      obtain ⟨h_2m, h_2, hp⟩ := hp
      refine w_ist F hK hW h_2m hK_a0 h_2 dJ7_fill_53178_13 (fun H locs hW => ?_)
      obtain ⟨S_3, eS_3⟩ : ∃ z : wS, z = uI S a0 (x2).toNatClampNeg x1 := ⟨_, rfl⟩
      rw [← eS_3] at hW
      replace hp := hp S_3 eS_3
      have hX_S_3 : wX D S S_3 := by rw [eS_3]; exact wX_uI
      have hE := hE.trans hX_S_3
      have hK_a0 : sK S_3 a0 = 21 := (hX_S_3.2 a0 hL_a0).1.trans hK_a0
      have hL_a0 : wM D S_3 a0 := hX_S_3.M hL_a0
      obtain ⟨x_4, ex_4⟩ : ∃ z : Int32, z = x2 + 1 := ⟨_, rfl⟩
      replace hp := hp x_4 ex_4
      refine lv_iinc (v := x_4) (lv' := [(2, .int x_4), (0, .ref a0), (1, .int x1), (3, .int x3)]) hx hb dJ7_fill_53178_14 hl (k := 2) rfl (by rw [ex_4]; rfl) (by decide) rfl (fun ls hl => ?_)
      refine lv_goto (tgt := 5) hx hb dJ7_fill_53178_17 (by decide) ?_
      exact ih hp hW hE (lv_sub hl [1, 2, 0, 3] rfl) hL_a0 hK_a0
set_option maxHeartbeats 4000000 in
set_option maxRecDepth 100000 in
theorem t_J7_fill_53178_0 {p : Program} {l : Launch} {e : Env} {s : State} {m : MethodId} {args : Array Value} {below : List Frame} {meth : Method} {c : Code} {D : wD} {cy : Nat → ClassId} {X : va_W} {A : Nat → Prop} {S0 : wS} {post : wS → Prop} (F : CallFix p m c cJ7_fill_53178 4 s args wz_J7_fill_53178 RJ7) (hr : meth.sig.returnType = none) (hlocks : meth.locks = false) (hK : wK D cy A s) : ∀ {S : wS} {H : Heap} {locs : List Loc} {ls : Array Slot} {a0 : Nat} {x1 : Int32}, wp_J7_fill_53178_0 D post S a0 x1 → wO D cy X A s.heap S H locs → wX D S0 S → lv_has ls 4 [(0, .ref a0), (1, .int x1)] → wM D S a0 → sK S a0 = 21 → W p l e r_J7_fill_53178 s m args below meth c H locs 0 0 (MQ below (va_Qv (fun S9 => wX D S0 S9 ∧ post S9) (wB D cy X A) A) args s 0 0 A) (F0 m 0 ls []) := by
  obtain ⟨hx, hb, hml, hown, hts⟩ := id F
  have hwg : ∀ w ∈ WG, w.before args s = true := fun w h => hts w (List.mem_cons_of_mem _ h)
  intro S H locs ls a0 x1 hp hW hE hl hL_a0 hK_a0
  unfold wp_J7_fill_53178_0 at hp
  refine lv_iconst (v := 0) hx hb dJ7_fill_53178_0 (by decide) ?_
  refine lv_istore_n (lv' := [(2, .int (0 : Int32)), (0, .ref a0), (1, .int x1)]) hx hb dJ7_fill_53178_1 rfl hl (by decide) rfl (fun ls hl => ?_)
  refine lv_aload_n hx hb dJ7_fill_53178_2 rfl (lv_at hl 1 rfl) ?_
  refine w_len F hK hW hL_a0 hK_a0 (by decide) dJ7_fill_53178_3 ?_
  refine lv_topi (fun x_1 ex_1 => ?_)
  replace hp := hp x_1 ex_1
  refine lv_istore_n (lv' := [(3, .int x_1), (2, .int (0 : Int32)), (0, .ref a0), (1, .int x1)]) hx hb dJ7_fill_53178_4 rfl hl (by decide) rfl (fun ls hl => ?_)
  obtain ⟨n_2, hp⟩ := hp
  exact t_J7_fill_53178_5 F hr hlocks hK n_2 hp hW hE (lv_sub hl [2, 3, 1, 0] rfl) hL_a0 hK_a0
set_option maxHeartbeats 4000000 in
set_option maxRecDepth 100000 in
theorem c_J7_fill_53178 (l : Launch) {D : wD} {cy : Nat → ClassId} {X : va_W} {S0 : wS} {post : wS → Prop} {a0 : Nat} {x1 : Int32} (hL_a0 : wM D S0 a0) (hK_a0 : sK S0 a0 = 21) (hp : wp_J7_fill_53178 D post S0 a0 x1) : mV D cy X l yJ7_fill_53178 wz_J7_fill_53178 r_J7_fill_53178 [.ref a0, .int x1] S0 (fun S9 => wX D S0 S9 ∧ post S9) := by
  intro sz
  refine Met.ofW (cc := cJ7_fill_53178) (maxL := 4) (ret := none) (by decide) rfl ?_
  intro p e s m args below meth c s₁ B hml hv
  obtain ⟨rfl, hsz, hP, hK, hD0, hRO⟩ := hv
  have hts := atoms_spec (ws := wz_J7_fill_53178) B.pre
  have hown : s.vm.findClass RJ7 = some m.cls := findClass_of_methodNamed B.named
  subst hsz
  have hD := hD0.self (sz := s.heap.size)
  have F : CallFix p m c cJ7_fill_53178 4 s _ wz_J7_fill_53178 RJ7 := ⟨B.exec, B.bytes, hml, hown, hts⟩
  have hr := B.returns
  have hlocks := B.notSynchronized
  generalize hAe : va_A (wL cy X S0) s.heap.size = A at hD hK ⊢
  have hA : ∀ q, s.heap.size ≤ q → A q := fun q h => by rw [← hAe]; exact Or.inr h
  have hW : wO D cy X A s.heap S0 s.heap [] := ⟨hP, hD, va_S.rf, hA, hRO⟩
  have hl := lv_entry ([.ref a0, .int x1]) (n := 4) (Nat.le_of_ble_eq_true rfl)
  rw [lg_entry_eq]
  generalize (lg_sl ([.ref a0, .int x1]) ++ List.replicate (4 - (lg_sl ([.ref a0, .int x1])).length) Slot.unset).toArray = ls at hl ⊢
  have hl : lv_has ls 4 [(0, .ref a0), (1, .int x1)] := hl
  unfold wp_J7_fill_53178 at hp
  exact t_J7_fill_53178_0 F hr hlocks hK hp hW wX.rf (lv_sub hl [0, 1] rfl) hL_a0 hK_a0
def wp_Jx4a65c_grow_92f84_20 (D : wD) (post : Option Nat → wS → Prop)  (bc bs : Nat) (S : wS) (a0 : Nat) (x1 : Int32) (x2 : Int32) : Prop :=
wp_J8_newLength_cabcc D (fun r_1 S_2 => 
∃ y_3 : Nat, sR S_2 a0 1 = some y_3 ∧ wM D S_2 y_3 ∧ sK S_2 y_3 = 24 ∧
∃ m_6 z_7 : Nat, m_6 ≤ bc ∧ z_7 ≤ bs ∧
wp_J7_copyOf_1904c D (fun r_4 S_5 => 
∀ S_8 : wS, S_8 = uR S_5 a0 1 r_4 →
post r_4 S_8) m_6 z_7 S_2 y_3 r_1) S x2 (x1 - x2) (x2 >>> ((1 : Int32) &&& 31))
def wp_Jx4a65c_grow_92f84_0 (D : wD) (post : Option Nat → wS → Prop)  (bc bs : Nat) (S : wS) (a0 : Nat) (x1 : Int32) : Prop :=
∃ y_1 : Nat, sR S a0 1 = some y_1 ∧ wM D S y_1 ∧ sK S y_1 = 24 ∧
∀ x_2 : Int32, x_2 = (Int32.ofNat (sN S y_1)) →
((0 < x_2 → wp_Jx4a65c_grow_92f84_20 D post bc bs S a0 x1 x_2) ∧
 (¬ 0 < x_2 → ∃ y_4 : Nat, sR S a0 1 = some y_4 ∧ wM D S y_4 ∧ sK S y_4 = 24 ∧
∀ y_5 : Nat, y_5 = D.2.2.1 106 →
(((some y_4) = (some y_5) → ¬ (if (10 : Int32) < x1 then x1 else (10 : Int32)) < 0 ∧ ((if (10 : Int32) < x1 then x1 else (10 : Int32))).toNatClampNeg ≤ 1000000 ∧ 1 ≤ bc ∧ ((if (10 : Int32) < x1 then x1 else (10 : Int32))).toNatClampNeg ≤ bs ∧ ∀ y_7 : Nat, ¬ wM D S y_7 → ∀ S_8 : wS, S_8 = nA S y_7 24 ((if (10 : Int32) < x1 then x1 else (10 : Int32))).toNatClampNeg →
∀ S_10 : wS, S_10 = uR S_8 a0 1 (some y_7) →
post (some y_7) S_10) ∧
 (¬ (some y_4) = (some y_5) → wp_Jx4a65c_grow_92f84_20 D post bc bs S a0 x1 x_2))))
abbrev r_Jx4a65c_grow_92f84 (rC rS : Nat) : Room := { frames := 2, cells := rC, slots := rS, locals := 63 }
def wp_Jx4a65c_grow_92f84 (D : wD) (post : Option Nat → wS → Prop) (bc bs : Nat) (S : wS) (a0 : Nat) (x1 : Int32) : Prop := wp_Jx4a65c_grow_92f84_0 D post bc bs S a0 x1
set_option maxHeartbeats 4000000 in
set_option maxRecDepth 100000 in
theorem t_Jx4a65c_grow_92f84_20 {p : Program} {l : Launch} {e : Env} {s : State} {m : MethodId} {args : Array Value} {below : List Frame} {meth : Method} {c : Code} {D : wD} {cy : Nat → ClassId} {X : va_W} {A : Nat → Prop} {S0 : wS} {rC rS : Nat} {post : Option Nat → wS → Prop} (F : CallFix p m c cJx4a65c_grow_92f84 4 s args wz_Jx4a65c_grow_92f84 RJx4a65c) (hr : meth.sig.returnType = (some (.array (.object "java/lang/Object")))) (hlocks : meth.locks = false) (hK : wK D cy A s) : ∀ {bc bs cells slots : Nat} (hbc : cells + bc ≤ rC) (hbs : slots + bs ≤ rS) {S : wS} {H : Heap} {locs : List Loc} {ls : Array Slot} {a0 : Nat} {x1 : Int32} {x2 : Int32}, wp_Jx4a65c_grow_92f84_20 D post bc bs S a0 x1 x2 → wO D cy X A s.heap S H locs → wX D S0 S → lv_has ls 4 [(0, .ref a0), (1, .int x1), (2, .int x2)] → wM D S a0 → sK S a0 = 4 → W p l e (r_Jx4a65c_grow_92f84 rC rS) s m args below meth c H locs cells slots (MQ below (va_Qq (fun r S9 => wX D S0 S9 ∧ post r S9) (wB D cy X A) A) args s rC rS A) (F0 m 20 ls []) := by
  obtain ⟨hx, hb, hml, hown, hts⟩ := id F
  have hwg : ∀ w ∈ WG, w.before args s = true := fun w h => hts w (List.mem_cons_of_mem _ h)
  have i_4 : ∀ w ∈ u_ws RJx4a65c TJx4a65c 3, w ∈ wz_Jx4a65c_grow_92f84 := fun w h => List.mem_cons_of_mem _ (wu_4 w h)
  have k_9 := hwg _ wf_RJx4a65c_9
  intro bc bs cells slots hbc hbs S H locs ls a0 x1 x2 hp hW hE hl hL_a0 hK_a0
  unfold wp_Jx4a65c_grow_92f84_20 at hp
  refine lv_iload_n hx hb dJx4a65c_grow_92f84_20 rfl (lv_at hl 2 rfl) ?_
  refine lv_iload_n hx hb dJx4a65c_grow_92f84_21 rfl (lv_at hl 1 rfl) ?_
  refine lv_iload_n hx hb dJx4a65c_grow_92f84_22 rfl (lv_at hl 2 rfl) ?_
  refine lv_isub hx hb dJx4a65c_grow_92f84_23 ?_
  refine lv_iload_n hx hb dJx4a65c_grow_92f84_24 rfl (lv_at hl 2 rfl) ?_
  refine lv_iconst (v := 1) hx hb dJx4a65c_grow_92f84_25 (by decide) ?_
  refine lv_ishr hx hb dJx4a65c_grow_92f84_26 ?_
  refine w_callI (va_runS (As := [.int x2, .int (x1 - x2), .int (x2 >>> ((1 : Int32) &&& 31))]) (rest := []) F (c_J8_newLength_cabcc l hp H.size) (va_cwS 3 hts (wg_S wm_RJx4a65c_73 wy_J8_newLength_cabcc) rfl rfl rfl (by decide +kernel) ⟨Nat.le_of_ble_eq_true rfl, Nat.le_of_ble_eq_true rfl⟩) (w_preS hK hW) rfl rfl hl.1 rfl (lv_room (Nat.le_of_ble_eq_true rfl)) dJx4a65c_grow_92f84_27 ⟨by show _ ≤ rC; exact Nat.le_trans (Nat.le_add_right _ _) hbc, by show _ ≤ rS; exact Nat.le_trans (Nat.le_add_right _ _) hbs⟩) hW (fun r_1 S_2 H locs hp hW => ?_)
  obtain ⟨hX_S_2, hp⟩ := hp
  refine w_same ?_
  have hE := hE.trans hX_S_2
  have hK_a0 : sK S_2 a0 = 4 := (hX_S_2.2 a0 hL_a0).1.trans hK_a0
  have hL_a0 : wM D S_2 a0 := hX_S_2.M hL_a0
  refine lv_istore_n (lv' := [(3, .int r_1), (0, .ref a0), (1, .int x1), (2, .int x2)]) hx hb dJx4a65c_grow_92f84_30 rfl hl (by decide) rfl (fun ls hl => ?_)
  refine lv_aload_n hx hb dJx4a65c_grow_92f84_31 rfl (lv_at hl 1 rfl) ?_
  refine lv_aload_n hx hb dJx4a65c_grow_92f84_32 rfl (lv_at hl 1 rfl) ?_
  obtain ⟨y_3, ey_3, hL_y_3, hK_y_3, hp⟩ := hp
  refine w_get (k := 4) (f := 1) (T := TJx4a65c) (v := .ref y_3) F hK hW hL_a0 hK_a0 (by decide) rfl rfl (by decide) i_4 k_9 (by rw [show wv 4 1 S_2 a0 = va_rf (sR S_2 a0 1) from rfl, ey_3]; rfl) dJx4a65c_grow_92f84_33 ?_
  refine lv_iload_n hx hb dJx4a65c_grow_92f84_36 rfl (lv_at hl 0 rfl) ?_
  obtain ⟨m_6, z_7, hm_6, hz_7, hp⟩ := hp
  refine w_callR (va_runS (As := [.ref y_3, .int r_1]) (rest := [.ref a0]) F (c_J7_copyOf_1904c l hL_y_3 hK_y_3 hp H.size) (va_cwS 2 hts (wg_S wm_RJx4a65c_66 wy_J7_copyOf_1904c) rfl rfl rfl (by decide +kernel) ⟨Nat.le_of_ble_eq_true rfl, Nat.le_of_ble_eq_true rfl⟩) (w_preS hK hW) rfl rfl hl.1 rfl (lv_room (Nat.le_of_ble_eq_true rfl)) dJx4a65c_grow_92f84_37 ⟨by show _ + m_6 ≤ rC; omega, by show _ + z_7 ≤ rS; omega⟩) hW (fun r_4 S_5 H locs hp hW => ?_)
  obtain ⟨hX_S_5, hp⟩ := hp
  refine W.widen (k := _ + m_6) (n := _ + z_7) (Nat.le_refl _) (Nat.le_refl _) ?_
  replace hbc := w_spend hbc (show m_6 ≤ bc by omega)
  replace hbs := w_spend hbs (show z_7 ≤ bs by omega)
  have hE := hE.trans hX_S_5
  have hK_a0 : sK S_5 a0 = 4 := (hX_S_5.2 a0 hL_a0).1.trans hK_a0
  have hL_a0 : wM D S_5 a0 := hX_S_5.M hL_a0
  refine lv_dup_x1 hx hb dJx4a65c_grow_92f84_40 rfl rfl ?_
  refine w_putR (k := 4) (f := 1) (T := TJx4a65c) (g := r_4) F hK hW hL_a0 hK_a0 (by decide) (by decide) rfl rfl (by decide) i_4 tyJx4a65c tyJx4a65c_ok nmJx4a65c k_9 rfl rfl (ty := (.array (.object "java/lang/Object"))) rfl (v_narrow _ _) (v_fitsA _ _) dJx4a65c_grow_92f84_41 (fun H locs hW => ?_)
  obtain ⟨S_8, eS_8⟩ : ∃ z : wS, z = uR S_5 a0 1 r_4 := ⟨_, rfl⟩
  rw [← eS_8] at hW
  replace hp := hp S_8 eS_8
  have hX_S_8 : wX D S_5 S_8 := by rw [eS_8]; exact wX_uR
  have hE := hE.trans hX_S_8
  have hK_a0 : sK S_8 a0 = 4 := (hX_S_8.2 a0 hL_a0).1.trans hK_a0
  have hL_a0 : wM D S_8 a0 := hX_S_8.M hL_a0
  refine W.widen (k := rC) (n := rS) (Nat.le_trans (Nat.le_add_right _ _) hbc) (Nat.le_trans (Nat.le_add_right _ _) hbs) ?_
  exact w_aret (g := r_4) hx hb hr hlocks hW ⟨hE, hp⟩ dJx4a65c_grow_92f84_44
set_option maxHeartbeats 4000000 in
set_option maxRecDepth 100000 in
theorem t_Jx4a65c_grow_92f84_0 {p : Program} {l : Launch} {e : Env} {s : State} {m : MethodId} {args : Array Value} {below : List Frame} {meth : Method} {c : Code} {D : wD} {cy : Nat → ClassId} {X : va_W} {A : Nat → Prop} {S0 : wS} {rC rS : Nat} {post : Option Nat → wS → Prop} (F : CallFix p m c cJx4a65c_grow_92f84 4 s args wz_Jx4a65c_grow_92f84 RJx4a65c) (hr : meth.sig.returnType = (some (.array (.object "java/lang/Object")))) (hlocks : meth.locks = false) (hK : wK D cy A s) : ∀ {bc bs cells slots : Nat} (hbc : cells + bc ≤ rC) (hbs : slots + bs ≤ rS) {S : wS} {H : Heap} {locs : List Loc} {ls : Array Slot} {a0 : Nat} {x1 : Int32}, wp_Jx4a65c_grow_92f84_0 D post bc bs S a0 x1 → wO D cy X A s.heap S H locs → wX D S0 S → lv_has ls 4 [(0, .ref a0), (1, .int x1)] → wM D S a0 → sK S a0 = 4 → W p l e (r_Jx4a65c_grow_92f84 rC rS) s m args below meth c H locs cells slots (MQ below (va_Qq (fun r S9 => wX D S0 S9 ∧ post r S9) (wB D cy X A) A) args s rC rS A) (F0 m 0 ls []) := by
  obtain ⟨hx, hb, hml, hown, hts⟩ := id F
  have hwg : ∀ w ∈ WG, w.before args s = true := fun w h => hts w (List.mem_cons_of_mem _ h)
  have i_4 : ∀ w ∈ u_ws RJx4a65c TJx4a65c 3, w ∈ wz_Jx4a65c_grow_92f84 := fun w h => List.mem_cons_of_mem _ (wu_4 w h)
  have k_9 := hwg _ wf_RJx4a65c_9
  intro bc bs cells slots hbc hbs S H locs ls a0 x1 hp hW hE hl hL_a0 hK_a0
  unfold wp_Jx4a65c_grow_92f84_0 at hp
  refine lv_aload_n hx hb dJx4a65c_grow_92f84_0 rfl (lv_at hl 0 rfl) ?_
  obtain ⟨y_1, ey_1, hL_y_1, hK_y_1, hp⟩ := hp
  refine w_get (k := 4) (f := 1) (T := TJx4a65c) (v := .ref y_1) F hK hW hL_a0 hK_a0 (by decide) rfl rfl (by decide) i_4 k_9 (by rw [show wv 4 1 S a0 = va_rf (sR S a0 1) from rfl, ey_1]; rfl) dJx4a65c_grow_92f84_1 ?_
  refine w_len F hK hW hL_y_1 hK_y_1 (by decide) dJx4a65c_grow_92f84_4 ?_
  refine lv_topi (fun x_2 ex_2 => ?_)
  replace hp := hp x_2 ex_2
  refine lv_istore_n (lv' := [(2, .int x_2), (0, .ref a0), (1, .int x1)]) hx hb dJx4a65c_grow_92f84_5 rfl hl (by decide) rfl (fun ls hl => ?_)
  refine lv_iload_n hx hb dJx4a65c_grow_92f84_6 rfl (lv_at hl 0 rfl) ?_
  refine lv_if_gt (tgt := 20) hx hb dJx4a65c_grow_92f84_7 (by decide) (fun c_3 => ?_) (fun c_3 => ?_)
  · replace hp := hp.1 c_3
    exact t_Jx4a65c_grow_92f84_20 F hr hlocks hK hbc hbs hp hW hE (lv_sub hl [1, 2, 0] rfl) hL_a0 hK_a0
  · replace hp := hp.2 c_3
    refine lv_aload_n hx hb dJx4a65c_grow_92f84_10 rfl (lv_at hl 1 rfl) ?_
    obtain ⟨y_4, ey_4, hL_y_4, hK_y_4, hp⟩ := hp
    refine w_get (k := 4) (f := 1) (T := TJx4a65c) (v := .ref y_4) F hK hW hL_a0 hK_a0 (by decide) rfl rfl (by decide) i_4 k_9 (by rw [show wv 4 1 S a0 = va_rf (sR S a0 1) from rfl, ey_4]; rfl) dJx4a65c_grow_92f84_11 ?_
    refine w_stat F hK hW (show ("java/util/ArrayList", "DEFAULTCAPACITY_EMPTY_ELEMENTDATA", "[Ljava/lang/Object;", 106, 24) ∈ wSr by decide +kernel) (hwg _ wf_RJx4a65c_39) dJx4a65c_grow_92f84_14 ?_
    obtain ⟨y_5, ey_5⟩ : ∃ z : Nat, z = D.2.2.1 106 := ⟨_, rfl⟩
    rw [← ey_5]
    replace hp := hp y_5 ey_5
    obtain ⟨hL_y_5, hK_y_5⟩ : wM D S y_5 ∧ sK S y_5 = 24 := by rw [ey_5]; exact w_statM hK hW (show ("java/util/ArrayList", "DEFAULTCAPACITY_EMPTY_ELEMENTDATA", "[Ljava/lang/Object;", 106, 24) ∈ wSr by decide +kernel)
    refine lv_acmp_eq (rx := (some y_4)) (ry := (some y_5)) (tgt := 45) hx hb dJx4a65c_grow_92f84_17 (by decide) (fun h_6 => ?_) (fun h_6 => ?_)
    · replace hp := hp.1 h_6
      refine lv_aload_n hx hb dJx4a65c_grow_92f84_45 rfl (lv_at hl 1 rfl) ?_
      refine lv_bipush (v := 10) hx hb dJx4a65c_grow_92f84_46 (by decide) ?_
      refine lv_iload_n hx hb dJx4a65c_grow_92f84_48 rfl (lv_at hl 2 rfl) ?_
      refine va_mmax hx hb (hml.trans hl.1.symm) hown (hwg _ wm_RJx4a65c_79) (hwg _ wmm_max.1) (hwg _ wmm_max.2.1) (hwg _ wmm_max.2.2) (Nat.le_of_ble_eq_true rfl) (Nat.le_of_ble_eq_true rfl) (by show _ ≤ rC; omega) (by show _ ≤ rS; omega) dJx4a65c_grow_92f84_49 ?_
      obtain ⟨h_9, h_9b, h_9c, h_9d, hp⟩ := hp
      refine w_anew F hK hW (hwg _ wc_RJx4a65c_7) h_9 h_9b (by show _ ≤ rC; omega) (by show _ ≤ rS; omega) dJx4a65c_grow_92f84_52 (fun y_7 H hq_y_7 hW => ?_)
      replace hbc := w_spend hbc (show 1 ≤ bc by omega)
      replace hbs := w_spend hbs (show ((if (10 : Int32) < x1 then x1 else (10 : Int32))).toNatClampNeg ≤ bs by omega)
      obtain ⟨S_8, eS_8⟩ : ∃ z : wS, z = nA S y_7 24 ((if (10 : Int32) < x1 then x1 else (10 : Int32))).toNatClampNeg := ⟨_, rfl⟩
      rw [← eS_8] at hW
      replace hp := hp y_7 hq_y_7 S_8 eS_8
      have hX_S_8 : wX D S S_8 := by rw [eS_8]; exact wX_nA hq_y_7
      have hE := hE.trans hX_S_8
      have hK_a0 : sK S_8 a0 = 4 := (hX_S_8.2 a0 hL_a0).1.trans hK_a0
      have hL_a0 : wM D S_8 a0 := hX_S_8.M hL_a0
      have hL_y_7 : wM D S_8 y_7 := by rw [eS_8]; exact Or.inl (List.mem_append_right _ List.mem_cons_self)
      have hK_y_7 : sK S_8 y_7 = 24 := by rw [eS_8]; exact va_up_self _ _ _
      refine lv_dup_x1 hx hb dJx4a65c_grow_92f84_55 rfl rfl ?_
      refine w_putR (k := 4) (f := 1) (T := TJx4a65c) (g := (some y_7)) F hK hW hL_a0 hK_a0 (by decide) (by decide) rfl rfl (by decide) i_4 tyJx4a65c tyJx4a65c_ok nmJx4a65c k_9 rfl rfl (ty := (.array (.object "java/lang/Object"))) rfl (v_narrow _ _) (v_fitsA _ _) dJx4a65c_grow_92f84_56 (fun H locs hW => ?_)
      obtain ⟨S_10, eS_10⟩ : ∃ z : wS, z = uR S_8 a0 1 (some y_7) := ⟨_, rfl⟩
      rw [← eS_10] at hW
      replace hp := hp S_10 eS_10
      have hX_S_10 : wX D S_8 S_10 := by rw [eS_10]; exact wX_uR
      have hE := hE.trans hX_S_10
      have hK_a0 : sK S_10 a0 = 4 := (hX_S_10.2 a0 hL_a0).1.trans hK_a0
      have hL_a0 : wM D S_10 a0 := hX_S_10.M hL_a0
      have hK_y_7 : sK S_10 y_7 = 24 := (hX_S_10.2 y_7 hL_y_7).1.trans hK_y_7
      have hL_y_7 : wM D S_10 y_7 := hX_S_10.M hL_y_7
      refine W.widen (k := rC) (n := rS) (Nat.le_trans (Nat.le_add_right _ _) hbc) (Nat.le_trans (Nat.le_add_right _ _) hbs) ?_
      exact w_aret (g := (some y_7)) hx hb hr hlocks hW ⟨hE, hp⟩ dJx4a65c_grow_92f84_59
    · replace hp := hp.2 h_6
      exact t_Jx4a65c_grow_92f84_20 F hr hlocks hK hbc hbs hp hW hE (lv_sub hl [1, 2, 0] rfl) hL_a0 hK_a0
set_option maxHeartbeats 4000000 in
set_option maxRecDepth 100000 in
theorem c_Jx4a65c_grow_92f84 (l : Launch) {rC rS : Nat} {D : wD} {cy : Nat → ClassId} {X : va_W} {S0 : wS} {post : Option Nat → wS → Prop} {a0 : Nat} {x1 : Int32} (hL_a0 : wM D S0 a0) (hK_a0 : sK S0 a0 = 4) (hp : wp_Jx4a65c_grow_92f84 D post rC rS S0 a0 x1) : mR D cy X l yJx4a65c_grow_92f84 wz_Jx4a65c_grow_92f84 (r_Jx4a65c_grow_92f84 rC rS) [.ref a0, .int x1] S0 (fun r S9 => wX D S0 S9 ∧ post r S9) := by
  intro sz
  refine Met.ofW (cc := cJx4a65c_grow_92f84) (maxL := 4) (ret := (some (.array (.object "java/lang/Object")))) (by decide) rfl ?_
  intro p e s m args below meth c s₁ B hml hv
  obtain ⟨rfl, hsz, hP, hK, hD0, hRO⟩ := hv
  have hts := atoms_spec (ws := wz_Jx4a65c_grow_92f84) B.pre
  have hown : s.vm.findClass RJx4a65c = some m.cls := findClass_of_methodNamed B.named
  subst hsz
  have hD := hD0.self (sz := s.heap.size)
  have F : CallFix p m c cJx4a65c_grow_92f84 4 s _ wz_Jx4a65c_grow_92f84 RJx4a65c := ⟨B.exec, B.bytes, hml, hown, hts⟩
  have hr := B.returns
  have hlocks := B.notSynchronized
  generalize hAe : va_A (wL cy X S0) s.heap.size = A at hD hK ⊢
  have hA : ∀ q, s.heap.size ≤ q → A q := fun q h => by rw [← hAe]; exact Or.inr h
  have hW : wO D cy X A s.heap S0 s.heap [] := ⟨hP, hD, va_S.rf, hA, hRO⟩
  have hl := lv_entry ([.ref a0, .int x1]) (n := 4) (Nat.le_of_ble_eq_true rfl)
  rw [lg_entry_eq]
  generalize (lg_sl ([.ref a0, .int x1]) ++ List.replicate (4 - (lg_sl ([.ref a0, .int x1])).length) Slot.unset).toArray = ls at hl ⊢
  have hl : lv_has ls 4 [(0, .ref a0), (1, .int x1)] := hl
  unfold wp_Jx4a65c_grow_92f84 at hp
  exact t_Jx4a65c_grow_92f84_0 F hr hlocks hK (Nat.le_of_eq (Nat.zero_add _)) (Nat.le_of_eq (Nat.zero_add _)) hp hW wX.rf (lv_sub hl [0, 1] rfl) hL_a0 hK_a0
def wp_Jx4a65c_grow_d5877_0 (D : wD) (post : Option Nat → wS → Prop)  (bc bs : Nat) (S : wS) (a0 : Nat) : Prop :=
∃ m_3 z_4 : Nat, m_3 ≤ bc ∧ z_4 ≤ bs ∧
wp_Jx4a65c_grow_92f84 D (fun r_1 S_2 => 
post r_1 S_2) m_3 z_4 S a0 ((sI S a0 2) + (1 : Int32))
abbrev r_Jx4a65c_grow_d5877 (rC rS : Nat) : Room := { frames := 3, cells := rC, slots := rS, locals := 86 }
def wp_Jx4a65c_grow_d5877 (D : wD) (post : Option Nat → wS → Prop) (bc bs : Nat) (S : wS) (a0 : Nat) : Prop := wp_Jx4a65c_grow_d5877_0 D post bc bs S a0
set_option maxHeartbeats 4000000 in
set_option maxRecDepth 100000 in
theorem t_Jx4a65c_grow_d5877_0 {p : Program} {l : Launch} {e : Env} {s : State} {m : MethodId} {args : Array Value} {below : List Frame} {meth : Method} {c : Code} {D : wD} {cy : Nat → ClassId} {X : va_W} {A : Nat → Prop} {S0 : wS} {rC rS : Nat} {post : Option Nat → wS → Prop} (F : CallFix p m c cJx4a65c_grow_d5877 1 s args wz_Jx4a65c_grow_d5877 RJx4a65c) (hr : meth.sig.returnType = (some (.array (.object "java/lang/Object")))) (hlocks : meth.locks = false) (hK : wK D cy A s) : ∀ {bc bs cells slots : Nat} (hbc : cells + bc ≤ rC) (hbs : slots + bs ≤ rS) {S : wS} {H : Heap} {locs : List Loc} {ls : Array Slot} {a0 : Nat}, wp_Jx4a65c_grow_d5877_0 D post bc bs S a0 → wO D cy X A s.heap S H locs → wX D S0 S → lv_has ls 1 [(0, .ref a0)] → wM D S a0 → sK S a0 = 4 → W p l e (r_Jx4a65c_grow_d5877 rC rS) s m args below meth c H locs cells slots (MQ below (va_Qq (fun r S9 => wX D S0 S9 ∧ post r S9) (wB D cy X A) A) args s rC rS A) (F0 m 0 ls []) := by
  obtain ⟨hx, hb, hml, hown, hts⟩ := id F
  have hwg : ∀ w ∈ WG, w.before args s = true := fun w h => hts w (List.mem_cons_of_mem _ h)
  have i_4 : ∀ w ∈ u_ws RJx4a65c TJx4a65c 3, w ∈ wz_Jx4a65c_grow_d5877 := fun w h => List.mem_cons_of_mem _ (wu_4 w h)
  have k_48 := hwg _ wf_RJx4a65c_48
  intro bc bs cells slots hbc hbs S H locs ls a0 hp hW hE hl hL_a0 hK_a0
  unfold wp_Jx4a65c_grow_d5877_0 at hp
  refine lv_aload_n hx hb dJx4a65c_grow_d5877_0 rfl (lv_at hl 0 rfl) ?_
  refine lv_aload_n hx hb dJx4a65c_grow_d5877_1 rfl (lv_at hl 0 rfl) ?_
  refine w_get (k := 4) (f := 2) (T := TJx4a65c) (v := .int (sI S a0 2)) F hK hW hL_a0 hK_a0 (by decide) rfl rfl (by decide) i_4 k_48 rfl dJx4a65c_grow_d5877_2 ?_
  refine lv_iconst (v := 1) hx hb dJx4a65c_grow_d5877_5 (by decide) ?_
  refine lv_iadd hx hb dJx4a65c_grow_d5877_6 ?_
  obtain ⟨m_3, z_4, hm_3, hz_4, hp⟩ := hp
  refine w_callR (va_runV (As := [.int ((sI S a0 2) + (1 : Int32))]) (rest := []) F (c_Jx4a65c_grow_92f84 l hL_a0 hK_a0 hp H.size) (cwV (C := RJx4a65c) 1 hts (wg_V wm_RJx4a65c_69 wy_Jx4a65c_grow_92f84) rfl rfl rfl (by decide +kernel) ⟨Nat.le_of_ble_eq_true rfl, Nat.le_of_ble_eq_true rfl⟩) (w_preV hK hW hL_a0 hK_a0 (by decide) rfl) rfl rfl hl.1 rfl (lv_room (Nat.le_of_ble_eq_true rfl)) dJx4a65c_grow_d5877_7 ⟨by show _ + m_3 ≤ rC; omega, by show _ + z_4 ≤ rS; omega⟩) hW (fun r_1 S_2 H locs hp hW => ?_)
  obtain ⟨hX_S_2, hp⟩ := hp
  refine W.widen (k := _ + m_3) (n := _ + z_4) (Nat.le_refl _) (Nat.le_refl _) ?_
  replace hbc := w_spend hbc (show m_3 ≤ bc by omega)
  replace hbs := w_spend hbs (show z_4 ≤ bs by omega)
  have hE := hE.trans hX_S_2
  have hK_a0 : sK S_2 a0 = 4 := (hX_S_2.2 a0 hL_a0).1.trans hK_a0
  have hL_a0 : wM D S_2 a0 := hX_S_2.M hL_a0
  refine W.widen (k := rC) (n := rS) (Nat.le_trans (Nat.le_add_right _ _) hbc) (Nat.le_trans (Nat.le_add_right _ _) hbs) ?_
  exact w_aret (g := r_1) hx hb hr hlocks hW ⟨hE, hp⟩ dJx4a65c_grow_d5877_10
set_option maxHeartbeats 4000000 in
set_option maxRecDepth 100000 in
theorem c_Jx4a65c_grow_d5877 (l : Launch) {rC rS : Nat} {D : wD} {cy : Nat → ClassId} {X : va_W} {S0 : wS} {post : Option Nat → wS → Prop} {a0 : Nat} (hL_a0 : wM D S0 a0) (hK_a0 : sK S0 a0 = 4) (hp : wp_Jx4a65c_grow_d5877 D post rC rS S0 a0) : mR D cy X l yJx4a65c_grow_d5877 wz_Jx4a65c_grow_d5877 (r_Jx4a65c_grow_d5877 rC rS) [.ref a0] S0 (fun r S9 => wX D S0 S9 ∧ post r S9) := by
  intro sz
  refine Met.ofW (cc := cJx4a65c_grow_d5877) (maxL := 1) (ret := (some (.array (.object "java/lang/Object")))) (by decide) rfl ?_
  intro p e s m args below meth c s₁ B hml hv
  obtain ⟨rfl, hsz, hP, hK, hD0, hRO⟩ := hv
  have hts := atoms_spec (ws := wz_Jx4a65c_grow_d5877) B.pre
  have hown : s.vm.findClass RJx4a65c = some m.cls := findClass_of_methodNamed B.named
  subst hsz
  have hD := hD0.self (sz := s.heap.size)
  have F : CallFix p m c cJx4a65c_grow_d5877 1 s _ wz_Jx4a65c_grow_d5877 RJx4a65c := ⟨B.exec, B.bytes, hml, hown, hts⟩
  have hr := B.returns
  have hlocks := B.notSynchronized
  generalize hAe : va_A (wL cy X S0) s.heap.size = A at hD hK ⊢
  have hA : ∀ q, s.heap.size ≤ q → A q := fun q h => by rw [← hAe]; exact Or.inr h
  have hW : wO D cy X A s.heap S0 s.heap [] := ⟨hP, hD, va_S.rf, hA, hRO⟩
  have hl := lv_entry ([.ref a0]) (n := 1) (Nat.le_of_ble_eq_true rfl)
  rw [lg_entry_eq]
  generalize (lg_sl ([.ref a0]) ++ List.replicate (1 - (lg_sl ([.ref a0])).length) Slot.unset).toArray = ls at hl ⊢
  have hl : lv_has ls 1 [(0, .ref a0)] := hl
  unfold wp_Jx4a65c_grow_d5877 at hp
  exact t_Jx4a65c_grow_d5877_0 F hr hlocks hK (Nat.le_of_eq (Nat.zero_add _)) (Nat.le_of_eq (Nat.zero_add _)) hp hW wX.rf (lv_sub hl [0] rfl) hL_a0 hK_a0
def wp_Jx4a65c_add_72be8_11 (D : wD) (post : wS → Prop)  (bc bs : Nat) (S : wS) (a0 : Nat) (g1 : Option Nat) (g2 : Option Nat) (x3 : Int32) : Prop :=
∃ y_1 : Nat, g2 = some y_1 ∧ wM D S y_1 ∧ sK S y_1 = 24 ∧
y_1 ∈ sL S ∧ vp_in x3 (sN S y_1) ∧ wQo S g1 ∧
∀ S_4 : wS, S_4 = uR S y_1 (x3).toNatClampNeg g1 →
∀ S_5 : wS, S_5 = uI S_4 a0 2 (x3 + (1 : Int32)) →
post S_5
def wp_Jx4a65c_add_72be8_0 (D : wD) (post : wS → Prop)  (bc bs : Nat) (S : wS) (a0 : Nat) (g1 : Option Nat) (a2 : Nat) (x3 : Int32) : Prop :=
((¬ x3 = (Int32.ofNat (sN S a2)) → wp_Jx4a65c_add_72be8_11 D post bc bs S a0 g1 (some a2) x3) ∧
 (x3 = (Int32.ofNat (sN S a2)) → ∃ m_4 z_5 : Nat, m_4 ≤ bc ∧ z_5 ≤ bs ∧
wp_Jx4a65c_grow_d5877 D (fun r_2 S_3 => 
wp_Jx4a65c_add_72be8_11 D post (bc - m_4) (bs - z_5) S_3 a0 g1 r_2 x3) m_4 z_5 S a0))
abbrev r_Jx4a65c_add_72be8 (rC rS : Nat) : Room := { frames := 4, cells := rC, slots := rS, locals := 106 }
def wp_Jx4a65c_add_72be8 (D : wD) (post : wS → Prop) (bc bs : Nat) (S : wS) (a0 : Nat) (g1 : Option Nat) (a2 : Nat) (x3 : Int32) : Prop := wp_Jx4a65c_add_72be8_0 D post bc bs S a0 g1 a2 x3
set_option maxHeartbeats 4000000 in
set_option maxRecDepth 100000 in
theorem t_Jx4a65c_add_72be8_11 {p : Program} {l : Launch} {e : Env} {s : State} {m : MethodId} {args : Array Value} {below : List Frame} {meth : Method} {c : Code} {D : wD} {cy : Nat → ClassId} {X : va_W} {A : Nat → Prop} {S0 : wS} {rC rS : Nat} {post : wS → Prop} (F : CallFix p m c cJx4a65c_add_72be8 4 s args wz_Jx4a65c_add_72be8 RJx4a65c) (hr : meth.sig.returnType = none) (hlocks : meth.locks = false) (hK : wK D cy A s) : ∀ {bc bs cells slots : Nat} (hbc : cells + bc ≤ rC) (hbs : slots + bs ≤ rS) {S : wS} {H : Heap} {locs : List Loc} {ls : Array Slot} {a0 : Nat} {g1 : Option Nat} {g2 : Option Nat} {x3 : Int32}, wp_Jx4a65c_add_72be8_11 D post bc bs S a0 g1 g2 x3 → wO D cy X A s.heap S H locs → wX D S0 S → lv_has ls 4 [(0, .ref a0), (1, va_rf g1), (2, va_rf g2), (3, .int x3)] → wM D S a0 → sK S a0 = 4 → W p l e (r_Jx4a65c_add_72be8 rC rS) s m args below meth c H locs cells slots (MQ below (va_Qv (fun S9 => wX D S0 S9 ∧ post S9) (wB D cy X A) A) args s rC rS A) (F0 m 11 ls []) := by
  obtain ⟨hx, hb, hml, hown, hts⟩ := id F
  have hwg : ∀ w ∈ WG, w.before args s = true := fun w h => hts w (List.mem_cons_of_mem _ h)
  have i_4 : ∀ w ∈ u_ws RJx4a65c TJx4a65c 3, w ∈ wz_Jx4a65c_add_72be8 := fun w h => List.mem_cons_of_mem _ (wu_4 w h)
  have k_48 := hwg _ wf_RJx4a65c_48
  intro bc bs cells slots hbc hbs S H locs ls a0 g1 g2 x3 hp hW hE hl hL_a0 hK_a0
  unfold wp_Jx4a65c_add_72be8_11 at hp
  refine w_aload_n hx hb dJx4a65c_add_72be8_11 rfl (lv_at hl 2 rfl) ?_
  refine lv_iload_n hx hb dJx4a65c_add_72be8_12 rfl (lv_at hl 3 rfl) ?_
  refine w_aload_n hx hb dJx4a65c_add_72be8_13 rfl (lv_at hl 1 rfl) ?_
  obtain ⟨y_1, h_2, hL_y_1, hK_y_1, hp⟩ := hp
  subst h_2
  obtain ⟨h_3m, h_3, h_3q, hp⟩ := hp
  refine w_ast (g := g1) F hK hW h_3m hK_y_1 h_3 h_3q dJx4a65c_add_72be8_14 (fun H locs hW => ?_)
  obtain ⟨S_4, eS_4⟩ : ∃ z : wS, z = uR S y_1 (x3).toNatClampNeg g1 := ⟨_, rfl⟩
  rw [← eS_4] at hW
  replace hp := hp S_4 eS_4
  have hX_S_4 : wX D S S_4 := by rw [eS_4]; exact wX_uR
  have hE := hE.trans hX_S_4
  have hK_a0 : sK S_4 a0 = 4 := (hX_S_4.2 a0 hL_a0).1.trans hK_a0
  have hL_a0 : wM D S_4 a0 := hX_S_4.M hL_a0
  have hK_y_1 : sK S_4 y_1 = 24 := (hX_S_4.2 y_1 hL_y_1).1.trans hK_y_1
  have hL_y_1 : wM D S_4 y_1 := hX_S_4.M hL_y_1
  refine lv_aload_n hx hb dJx4a65c_add_72be8_15 rfl (lv_at hl 0 rfl) ?_
  refine lv_iload_n hx hb dJx4a65c_add_72be8_16 rfl (lv_at hl 3 rfl) ?_
  refine lv_iconst (v := 1) hx hb dJx4a65c_add_72be8_17 (by decide) ?_
  refine lv_iadd hx hb dJx4a65c_add_72be8_18 ?_
  refine w_putI (k := 4) (f := 2) (T := TJx4a65c) F hK hW hL_a0 hK_a0 (by decide) (by decide) rfl rfl (by decide) i_4 tyJx4a65c tyJx4a65c_ok nmJx4a65c k_48 rfl rfl (ty := .int) rfl rfl rfl dJx4a65c_add_72be8_19 (fun H locs hW => ?_)
  obtain ⟨S_5, eS_5⟩ : ∃ z : wS, z = uI S_4 a0 2 (x3 + (1 : Int32)) := ⟨_, rfl⟩
  rw [← eS_5] at hW
  replace hp := hp S_5 eS_5
  have hX_S_5 : wX D S_4 S_5 := by rw [eS_5]; exact wX_uI
  have hE := hE.trans hX_S_5
  have hK_a0 : sK S_5 a0 = 4 := (hX_S_5.2 a0 hL_a0).1.trans hK_a0
  have hL_a0 : wM D S_5 a0 := hX_S_5.M hL_a0
  have hK_y_1 : sK S_5 y_1 = 24 := (hX_S_5.2 y_1 hL_y_1).1.trans hK_y_1
  have hL_y_1 : wM D S_5 y_1 := hX_S_5.M hL_y_1
  refine W.widen (k := rC) (n := rS) (Nat.le_trans (Nat.le_add_right _ _) hbc) (Nat.le_trans (Nat.le_add_right _ _) hbs) ?_
  exact w_vret hx hb hr hlocks hW ⟨hE, hp⟩ dJx4a65c_add_72be8_22
set_option maxHeartbeats 4000000 in
set_option maxRecDepth 100000 in
theorem t_Jx4a65c_add_72be8_0 {p : Program} {l : Launch} {e : Env} {s : State} {m : MethodId} {args : Array Value} {below : List Frame} {meth : Method} {c : Code} {D : wD} {cy : Nat → ClassId} {X : va_W} {A : Nat → Prop} {S0 : wS} {rC rS : Nat} {post : wS → Prop} (F : CallFix p m c cJx4a65c_add_72be8 4 s args wz_Jx4a65c_add_72be8 RJx4a65c) (hr : meth.sig.returnType = none) (hlocks : meth.locks = false) (hK : wK D cy A s) : ∀ {bc bs cells slots : Nat} (hbc : cells + bc ≤ rC) (hbs : slots + bs ≤ rS) {S : wS} {H : Heap} {locs : List Loc} {ls : Array Slot} {a0 : Nat} {g1 : Option Nat} {a2 : Nat} {x3 : Int32}, wp_Jx4a65c_add_72be8_0 D post bc bs S a0 g1 a2 x3 → wO D cy X A s.heap S H locs → wX D S0 S → lv_has ls 4 [(0, .ref a0), (1, va_rf g1), (2, .ref a2), (3, .int x3)] → wM D S a0 → sK S a0 = 4 → wM D S a2 → sK S a2 = 24 → W p l e (r_Jx4a65c_add_72be8 rC rS) s m args below meth c H locs cells slots (MQ below (va_Qv (fun S9 => wX D S0 S9 ∧ post S9) (wB D cy X A) A) args s rC rS A) (F0 m 0 ls []) := by
  obtain ⟨hx, hb, hml, hown, hts⟩ := id F
  have hwg : ∀ w ∈ WG, w.before args s = true := fun w h => hts w (List.mem_cons_of_mem _ h)
  intro bc bs cells slots hbc hbs S H locs ls a0 g1 a2 x3 hp hW hE hl hL_a0 hK_a0 hL_a2 hK_a2
  unfold wp_Jx4a65c_add_72be8_0 at hp
  refine lv_iload_n hx hb dJx4a65c_add_72be8_0 rfl (lv_at hl 3 rfl) ?_
  refine lv_aload_n hx hb dJx4a65c_add_72be8_1 rfl (lv_at hl 2 rfl) ?_
  refine w_len F hK hW hL_a2 hK_a2 (by decide) dJx4a65c_add_72be8_2 ?_
  refine lv_icmp_ne (tgt := 11) hx hb dJx4a65c_add_72be8_3 (by decide) (fun c_1 => ?_) (fun c_1 => ?_)
  · replace hp := hp.1 c_1
    exact t_Jx4a65c_add_72be8_11 F hr hlocks hK hbc hbs hp hW hE (lv_sub hl [0, 1, 2, 3] rfl) hL_a0 hK_a0
  · replace hp := hp.2 c_1
    refine lv_aload_n hx hb dJx4a65c_add_72be8_6 rfl (lv_at hl 0 rfl) ?_
    obtain ⟨m_4, z_5, hm_4, hz_5, hp⟩ := hp
    refine w_callR (va_runV (As := []) (rest := []) F (c_Jx4a65c_grow_d5877 l hL_a0 hK_a0 hp H.size) (cwV (C := RJx4a65c) 0 hts (wg_V wm_RJx4a65c_129 wy_Jx4a65c_grow_d5877) rfl rfl rfl (by decide +kernel) ⟨Nat.le_of_ble_eq_true rfl, Nat.le_of_ble_eq_true rfl⟩) (w_preV hK hW hL_a0 hK_a0 (by decide) rfl) rfl rfl hl.1 rfl (lv_room (Nat.le_of_ble_eq_true rfl)) dJx4a65c_add_72be8_7 ⟨by show _ + m_4 ≤ rC; omega, by show _ + z_5 ≤ rS; omega⟩) hW (fun r_2 S_3 H locs hp hW => ?_)
    obtain ⟨hX_S_3, hp⟩ := hp
    refine W.widen (k := _ + m_4) (n := _ + z_5) (Nat.le_refl _) (Nat.le_refl _) ?_
    replace hbc := w_spend hbc (show m_4 ≤ bc by omega)
    replace hbs := w_spend hbs (show z_5 ≤ bs by omega)
    have hE := hE.trans hX_S_3
    have hK_a0 : sK S_3 a0 = 4 := (hX_S_3.2 a0 hL_a0).1.trans hK_a0
    have hL_a0 : wM D S_3 a0 := hX_S_3.M hL_a0
    have hK_a2 : sK S_3 a2 = 24 := (hX_S_3.2 a2 hL_a2).1.trans hK_a2
    have hL_a2 : wM D S_3 a2 := hX_S_3.M hL_a2
    refine w_astore_n (lv' := [(2, va_rf r_2), (0, .ref a0), (1, va_rf g1), (3, .int x3)]) hx hb dJx4a65c_add_72be8_10 rfl hl (by decide) rfl (fun ls hl => ?_)
    exact t_Jx4a65c_add_72be8_11 F hr hlocks hK hbc hbs hp hW hE (lv_sub hl [1, 2, 0, 3] rfl) hL_a0 hK_a0
set_option maxHeartbeats 4000000 in
set_option maxRecDepth 100000 in
theorem c_Jx4a65c_add_72be8 (l : Launch) {rC rS : Nat} {D : wD} {cy : Nat → ClassId} {X : va_W} {S0 : wS} {post : wS → Prop} {a0 : Nat} {g1 : Option Nat} {a2 : Nat} {x3 : Int32} (hL_a0 : wM D S0 a0) (hK_a0 : sK S0 a0 = 4) (hL_a2 : wM D S0 a2) (hK_a2 : sK S0 a2 = 24) (hp : wp_Jx4a65c_add_72be8 D post rC rS S0 a0 g1 a2 x3) : mV D cy X l yJx4a65c_add_72be8 wz_Jx4a65c_add_72be8 (r_Jx4a65c_add_72be8 rC rS) [.ref a0, va_rf g1, .ref a2, .int x3] S0 (fun S9 => wX D S0 S9 ∧ post S9) := by
  intro sz
  refine Met.ofW (cc := cJx4a65c_add_72be8) (maxL := 4) (ret := none) (by decide) rfl ?_
  intro p e s m args below meth c s₁ B hml hv
  obtain ⟨rfl, hsz, hP, hK, hD0, hRO⟩ := hv
  have hts := atoms_spec (ws := wz_Jx4a65c_add_72be8) B.pre
  have hown : s.vm.findClass RJx4a65c = some m.cls := findClass_of_methodNamed B.named
  subst hsz
  have hD := hD0.self (sz := s.heap.size)
  have F : CallFix p m c cJx4a65c_add_72be8 4 s _ wz_Jx4a65c_add_72be8 RJx4a65c := ⟨B.exec, B.bytes, hml, hown, hts⟩
  have hr := B.returns
  have hlocks := B.notSynchronized
  generalize hAe : va_A (wL cy X S0) s.heap.size = A at hD hK ⊢
  have hA : ∀ q, s.heap.size ≤ q → A q := fun q h => by rw [← hAe]; exact Or.inr h
  have hW : wO D cy X A s.heap S0 s.heap [] := ⟨hP, hD, va_S.rf, hA, hRO⟩
  have hl : lv_has ((lg_sl ([.ref a0, va_rf g1, .ref a2, .int x3]) ++ List.replicate (4 - (lg_sl ([.ref a0, va_rf g1, .ref a2, .int x3])).length) Slot.unset).toArray) 4 [(0, .ref a0), (1, va_rf g1), (2, .ref a2), (3, .int x3)] := by
    cases g1 <;> exact lv_entry _ (n := 4) (Nat.le_of_ble_eq_true rfl)
  rw [lg_entry_eq]
  generalize (lg_sl ([.ref a0, va_rf g1, .ref a2, .int x3]) ++ List.replicate (4 - (lg_sl ([.ref a0, va_rf g1, .ref a2, .int x3])).length) Slot.unset).toArray = ls at hl ⊢
  have hl : lv_has ls 4 [(0, .ref a0), (1, va_rf g1), (2, .ref a2), (3, .int x3)] := hl
  unfold wp_Jx4a65c_add_72be8 at hp
  exact t_Jx4a65c_add_72be8_0 F hr hlocks hK (Nat.le_of_eq (Nat.zero_add _)) (Nat.le_of_eq (Nat.zero_add _)) hp hW wX.rf (lv_sub hl [0, 1, 2, 3] rfl) hL_a0 hK_a0 hL_a2 hK_a2
def wp_Jx4a65c_add_9ea2d_0 (D : wD) (post : Int32 → wS → Prop)  (bc bs : Nat) (S : wS) (a0 : Nat) (g1 : Option Nat) : Prop :=
∀ S_1 : wS, S_1 = uI S a0 0 ((sI S a0 0) + (1 : Int32)) →
∃ y_2 : Nat, sR S_1 a0 1 = some y_2 ∧ wM D S_1 y_2 ∧ sK S_1 y_2 = 24 ∧
∃ m_5 z_6 : Nat, m_5 ≤ bc ∧ z_6 ≤ bs ∧
wp_Jx4a65c_add_72be8 D (fun S_4 => 
narrow .boolean (.int (1 : Int32)) = .int (1 : Int32) ∧ post (1 : Int32) S_4) m_5 z_6 S_1 a0 g1 y_2 (sI S_1 a0 2)
abbrev r_Jx4a65c_add_9ea2d (rC rS : Nat) : Room := { frames := 5, cells := rC, slots := rS, locals := 129 }
def wp_Jx4a65c_add_9ea2d (D : wD) (post : Int32 → wS → Prop) (bc bs : Nat) (S : wS) (a0 : Nat) (g1 : Option Nat) : Prop := wp_Jx4a65c_add_9ea2d_0 D post bc bs S a0 g1
set_option maxHeartbeats 4000000 in
set_option maxRecDepth 100000 in
theorem t_Jx4a65c_add_9ea2d_0 {p : Program} {l : Launch} {e : Env} {s : State} {m : MethodId} {args : Array Value} {below : List Frame} {meth : Method} {c : Code} {D : wD} {cy : Nat → ClassId} {X : va_W} {A : Nat → Prop} {S0 : wS} {rC rS : Nat} {post : Int32 → wS → Prop} (F : CallFix p m c cJx4a65c_add_9ea2d 2 s args wz_Jx4a65c_add_9ea2d RJx4a65c) (hr : meth.sig.returnType = (some .boolean)) (hlocks : meth.locks = false) (hK : wK D cy A s) : ∀ {bc bs cells slots : Nat} (hbc : cells + bc ≤ rC) (hbs : slots + bs ≤ rS) {S : wS} {H : Heap} {locs : List Loc} {ls : Array Slot} {a0 : Nat} {g1 : Option Nat}, wp_Jx4a65c_add_9ea2d_0 D post bc bs S a0 g1 → wO D cy X A s.heap S H locs → wX D S0 S → lv_has ls 2 [(0, .ref a0), (1, va_rf g1)] → wM D S a0 → sK S a0 = 4 → W p l e (r_Jx4a65c_add_9ea2d rC rS) s m args below meth c H locs cells slots (MQ below (va_Qi (fun r S9 => wX D S0 S9 ∧ post r S9) (wB D cy X A) A) args s rC rS A) (F0 m 0 ls []) := by
  obtain ⟨hx, hb, hml, hown, hts⟩ := id F
  have hwg : ∀ w ∈ WG, w.before args s = true := fun w h => hts w (List.mem_cons_of_mem _ h)
  have i_4 : ∀ w ∈ u_ws RJx4a65c TJx4a65c 3, w ∈ wz_Jx4a65c_add_9ea2d := fun w h => List.mem_cons_of_mem _ (wu_4 w h)
  have k_48 := hwg _ wf_RJx4a65c_48
  have k_63 := hwg _ wf_RJx4a65c_63
  have k_9 := hwg _ wf_RJx4a65c_9
  intro bc bs cells slots hbc hbs S H locs ls a0 g1 hp hW hE hl hL_a0 hK_a0
  unfold wp_Jx4a65c_add_9ea2d_0 at hp
  refine lv_aload_n hx hb dJx4a65c_add_9ea2d_0 rfl (lv_at hl 0 rfl) ?_
  refine lv_dup hx hb dJx4a65c_add_9ea2d_1 rfl ?_
  refine w_get (k := 4) (f := 0) (T := TJx4a65c) (v := .int (sI S a0 0)) F hK hW hL_a0 hK_a0 (by decide) rfl rfl (by decide) i_4 k_63 rfl dJx4a65c_add_9ea2d_2 ?_
  refine lv_iconst (v := 1) hx hb dJx4a65c_add_9ea2d_5 (by decide) ?_
  refine lv_iadd hx hb dJx4a65c_add_9ea2d_6 ?_
  refine w_putI (k := 4) (f := 0) (T := TJx4a65c) F hK hW hL_a0 hK_a0 (by decide) (by decide) rfl rfl (by decide) i_4 tyJx4a65c tyJx4a65c_ok nmJx4a65c k_63 rfl rfl (ty := .int) rfl rfl rfl dJx4a65c_add_9ea2d_7 (fun H locs hW => ?_)
  obtain ⟨S_1, eS_1⟩ : ∃ z : wS, z = uI S a0 0 ((sI S a0 0) + (1 : Int32)) := ⟨_, rfl⟩
  rw [← eS_1] at hW
  replace hp := hp S_1 eS_1
  have hX_S_1 : wX D S S_1 := by rw [eS_1]; exact wX_uI
  have hE := hE.trans hX_S_1
  have hK_a0 : sK S_1 a0 = 4 := (hX_S_1.2 a0 hL_a0).1.trans hK_a0
  have hL_a0 : wM D S_1 a0 := hX_S_1.M hL_a0
  refine lv_aload_n hx hb dJx4a65c_add_9ea2d_10 rfl (lv_at hl 0 rfl) ?_
  refine w_aload_n hx hb dJx4a65c_add_9ea2d_11 rfl (lv_at hl 1 rfl) ?_
  refine lv_aload_n hx hb dJx4a65c_add_9ea2d_12 rfl (lv_at hl 0 rfl) ?_
  obtain ⟨y_2, ey_2, hL_y_2, hK_y_2, hp⟩ := hp
  refine w_get (k := 4) (f := 1) (T := TJx4a65c) (v := .ref y_2) F hK hW hL_a0 hK_a0 (by decide) rfl rfl (by decide) i_4 k_9 (by rw [show wv 4 1 S_1 a0 = va_rf (sR S_1 a0 1) from rfl, ey_2]; rfl) dJx4a65c_add_9ea2d_13 ?_
  refine lv_aload_n hx hb dJx4a65c_add_9ea2d_16 rfl (lv_at hl 0 rfl) ?_
  refine w_get (k := 4) (f := 2) (T := TJx4a65c) (v := .int (sI S_1 a0 2)) F hK hW hL_a0 hK_a0 (by decide) rfl rfl (by decide) i_4 k_48 rfl dJx4a65c_add_9ea2d_17 ?_
  obtain ⟨m_5, z_6, hm_5, hz_6, hp⟩ := hp
  refine w_callV (va_runV (As := [va_rf g1, .ref y_2, .int (sI S_1 a0 2)]) (rest := []) F (c_Jx4a65c_add_72be8 l hL_a0 hK_a0 hL_y_2 hK_y_2 hp H.size) (cwV (C := RJx4a65c) 3 hts (wg_V wm_RJx4a65c_131 wy_Jx4a65c_add_72be8) rfl rfl rfl (by decide +kernel) ⟨Nat.le_of_ble_eq_true rfl, Nat.le_of_ble_eq_true rfl⟩) (w_preV hK hW hL_a0 hK_a0 (by decide) rfl) rfl rfl hl.1 rfl (lv_room (Nat.le_of_ble_eq_true rfl)) dJx4a65c_add_9ea2d_20 ⟨by show _ + m_5 ≤ rC; omega, by show _ + z_6 ≤ rS; omega⟩) hW (fun S_4 H locs hp hW => ?_)
  obtain ⟨hX_S_4, hp⟩ := hp
  refine W.widen (k := _ + m_5) (n := _ + z_6) (Nat.le_refl _) (Nat.le_refl _) ?_
  replace hbc := w_spend hbc (show m_5 ≤ bc by omega)
  replace hbs := w_spend hbs (show z_6 ≤ bs by omega)
  have hE := hE.trans hX_S_4
  have hK_a0 : sK S_4 a0 = 4 := (hX_S_4.2 a0 hL_a0).1.trans hK_a0
  have hL_a0 : wM D S_4 a0 := hX_S_4.M hL_a0
  refine lv_iconst (v := 1) hx hb dJx4a65c_add_9ea2d_23 (by decide) ?_
  refine W.widen (k := rC) (n := rS) (Nat.le_trans (Nat.le_add_right _ _) hbc) (Nat.le_trans (Nat.le_add_right _ _) hbs) ?_
  exact w_zret hx hb hr hlocks hW hp.1 ⟨hE, hp.2⟩ dJx4a65c_add_9ea2d_24
set_option maxHeartbeats 4000000 in
set_option maxRecDepth 100000 in
theorem c_Jx4a65c_add_9ea2d (l : Launch) {rC rS : Nat} {D : wD} {cy : Nat → ClassId} {X : va_W} {S0 : wS} {post : Int32 → wS → Prop} {a0 : Nat} {g1 : Option Nat} (hL_a0 : wM D S0 a0) (hK_a0 : sK S0 a0 = 4) (hp : wp_Jx4a65c_add_9ea2d D post rC rS S0 a0 g1) : mI D cy X l yJx4a65c_add_9ea2d wz_Jx4a65c_add_9ea2d (r_Jx4a65c_add_9ea2d rC rS) [.ref a0, va_rf g1] S0 (fun r S9 => wX D S0 S9 ∧ post r S9) := by
  intro sz
  refine Met.ofW (cc := cJx4a65c_add_9ea2d) (maxL := 2) (ret := (some .boolean)) (by decide) rfl ?_
  intro p e s m args below meth c s₁ B hml hv
  obtain ⟨rfl, hsz, hP, hK, hD0, hRO⟩ := hv
  have hts := atoms_spec (ws := wz_Jx4a65c_add_9ea2d) B.pre
  have hown : s.vm.findClass RJx4a65c = some m.cls := findClass_of_methodNamed B.named
  subst hsz
  have hD := hD0.self (sz := s.heap.size)
  have F : CallFix p m c cJx4a65c_add_9ea2d 2 s _ wz_Jx4a65c_add_9ea2d RJx4a65c := ⟨B.exec, B.bytes, hml, hown, hts⟩
  have hr := B.returns
  have hlocks := B.notSynchronized
  generalize hAe : va_A (wL cy X S0) s.heap.size = A at hD hK ⊢
  have hA : ∀ q, s.heap.size ≤ q → A q := fun q h => by rw [← hAe]; exact Or.inr h
  have hW : wO D cy X A s.heap S0 s.heap [] := ⟨hP, hD, va_S.rf, hA, hRO⟩
  have hl : lv_has ((lg_sl ([.ref a0, va_rf g1]) ++ List.replicate (2 - (lg_sl ([.ref a0, va_rf g1])).length) Slot.unset).toArray) 2 [(0, .ref a0), (1, va_rf g1)] := by
    cases g1 <;> exact lv_entry _ (n := 2) (Nat.le_of_ble_eq_true rfl)
  rw [lg_entry_eq]
  generalize (lg_sl ([.ref a0, va_rf g1]) ++ List.replicate (2 - (lg_sl ([.ref a0, va_rf g1])).length) Slot.unset).toArray = ls at hl ⊢
  have hl : lv_has ls 2 [(0, .ref a0), (1, va_rf g1)] := hl
  unfold wp_Jx4a65c_add_9ea2d at hp
  exact t_Jx4a65c_add_9ea2d_0 F hr hlocks hK (Nat.le_of_eq (Nat.zero_add _)) (Nat.le_of_eq (Nat.zero_add _)) hp hW wX.rf (lv_sub hl [0, 1] rfl) hL_a0 hK_a0
def wp_Jx4a65c_clear_da8c8_27 (D : wD) (post : wS → Prop)  : Nat → wS → Nat → Int32 → Int32 → Prop
  | 0, _, _, _, _ => False
  | n + 1, S, a1, x2, x3 =>
    ((x2 ≤ x3 → post S) ∧
     (¬ x2 ≤ x3 → a1 ∈ sL S ∧ vp_in x3 (sN S a1) ∧ wQo S none ∧
    ∀ S_3 : wS, S_3 = uR S a1 (x3).toNatClampNeg none →
    ∀ x_4 : Int32, x_4 = x3 + 1 →
    wp_Jx4a65c_clear_da8c8_27 D post n S_3 a1 x2 x_4))
def wp_Jx4a65c_clear_da8c8_0 (D : wD) (post : wS → Prop)  (S : wS) (a0 : Nat) : Prop :=
∀ S_1 : wS, S_1 = uI S a0 0 ((sI S a0 0) + (1 : Int32)) →
∃ y_2 : Nat, sR S_1 a0 1 = some y_2 ∧ wM D S_1 y_2 ∧ sK S_1 y_2 = 24 ∧
∀ x_3 : Int32, x_3 = (sI S_1 a0 2) →
∀ S_4 : wS, S_4 = uI S_1 a0 2 (0 : Int32) →
∃ n_5 : Nat, wp_Jx4a65c_clear_da8c8_27 D post n_5 S_4 y_2 x_3 (0 : Int32)
abbrev r_Jx4a65c_clear_da8c8 : Room := { frames := 0, cells := 0, slots := 0, locals := 0 }
def wp_Jx4a65c_clear_da8c8 (D : wD) (post : wS → Prop) (S : wS) (a0 : Nat) : Prop := wp_Jx4a65c_clear_da8c8_0 D post S a0
set_option maxHeartbeats 4000000 in
set_option maxRecDepth 100000 in
theorem t_Jx4a65c_clear_da8c8_27 {p : Program} {l : Launch} {e : Env} {s : State} {m : MethodId} {args : Array Value} {below : List Frame} {meth : Method} {c : Code} {D : wD} {cy : Nat → ClassId} {X : va_W} {A : Nat → Prop} {S0 : wS} {post : wS → Prop} (F : CallFix p m c cJx4a65c_clear_da8c8 4 s args wz_Jx4a65c_clear_da8c8 RJx4a65c) (hr : meth.sig.returnType = none) (hlocks : meth.locks = false) (hK : wK D cy A s) : ∀ (n : Nat) {S : wS} {H : Heap} {locs : List Loc} {ls : Array Slot} {a1 : Nat} {x2 : Int32} {x3 : Int32}, wp_Jx4a65c_clear_da8c8_27 D post n S a1 x2 x3 → wO D cy X A s.heap S H locs → wX D S0 S → lv_has ls 4 [(1, .ref a1), (2, .int x2), (3, .int x3)] → wM D S a1 → sK S a1 = 24 → W p l e r_Jx4a65c_clear_da8c8 s m args below meth c H locs 0 0 (MQ below (va_Qv (fun S9 => wX D S0 S9 ∧ post S9) (wB D cy X A) A) args s 0 0 A) (F0 m 27 ls []) := by
  obtain ⟨hx, hb, hml, hown, hts⟩ := id F
  have hwg : ∀ w ∈ WG, w.before args s = true := fun w h => hts w (List.mem_cons_of_mem _ h)
  intro n
  induction n with
  | zero =>
    intro S H locs ls a1 x2 x3 hp
    exact hp.elim
  | succ n ih =>
    intro S H locs ls a1 x2 x3 hp hW hE hl hL_a1 hK_a1
    unfold wp_Jx4a65c_clear_da8c8_27 at hp
    refine lv_iload_n hx hb dJx4a65c_clear_da8c8_27 rfl (lv_at hl 2 rfl) ?_
    refine lv_iload_n hx hb dJx4a65c_clear_da8c8_28 rfl (lv_at hl 1 rfl) ?_
    refine lv_icmp_ge (tgt := 42) hx hb dJx4a65c_clear_da8c8_29 (by decide) (fun c_1 => ?_) (fun c_1 => ?_)
    · replace hp := hp.1 c_1
      exact w_vret hx hb hr hlocks hW ⟨hE, hp⟩ dJx4a65c_clear_da8c8_42
    · replace hp := hp.2 c_1
      refine lv_aload_n hx hb dJx4a65c_clear_da8c8_32 rfl (lv_at hl 0 rfl) ?_
      refine lv_iload_n hx hb dJx4a65c_clear_da8c8_33 rfl (lv_at hl 2 rfl) ?_
      refine lv_null hx hb dJx4a65c_clear_da8c8_34 ?_
      obtain ⟨h_2m, h_2, h_2q, hp⟩ := hp
      refine w_ast (g := none) F hK hW h_2m hK_a1 h_2 h_2q dJx4a65c_clear_da8c8_35 (fun H locs hW => ?_)
      obtain ⟨S_3, eS_3⟩ : ∃ z : wS, z = uR S a1 (x3).toNatClampNeg none := ⟨_, rfl⟩
      rw [← eS_3] at hW
      replace hp := hp S_3 eS_3
      have hX_S_3 : wX D S S_3 := by rw [eS_3]; exact wX_uR
      have hE := hE.trans hX_S_3
      have hK_a1 : sK S_3 a1 = 24 := (hX_S_3.2 a1 hL_a1).1.trans hK_a1
      have hL_a1 : wM D S_3 a1 := hX_S_3.M hL_a1
      obtain ⟨x_4, ex_4⟩ : ∃ z : Int32, z = x3 + 1 := ⟨_, rfl⟩
      replace hp := hp x_4 ex_4
      refine lv_iinc (v := x_4) (lv' := [(3, .int x_4), (1, .ref a1), (2, .int x2)]) hx hb dJx4a65c_clear_da8c8_36 hl (k := 2) rfl (by rw [ex_4]; rfl) (by decide) rfl (fun ls hl => ?_)
      refine lv_goto (tgt := 27) hx hb dJx4a65c_clear_da8c8_39 (by decide) ?_
      exact ih hp hW hE (lv_sub hl [1, 2, 0] rfl) hL_a1 hK_a1
set_option maxHeartbeats 4000000 in
set_option maxRecDepth 100000 in
theorem t_Jx4a65c_clear_da8c8_0 {p : Program} {l : Launch} {e : Env} {s : State} {m : MethodId} {args : Array Value} {below : List Frame} {meth : Method} {c : Code} {D : wD} {cy : Nat → ClassId} {X : va_W} {A : Nat → Prop} {S0 : wS} {post : wS → Prop} (F : CallFix p m c cJx4a65c_clear_da8c8 4 s args wz_Jx4a65c_clear_da8c8 RJx4a65c) (hr : meth.sig.returnType = none) (hlocks : meth.locks = false) (hK : wK D cy A s) : ∀ {S : wS} {H : Heap} {locs : List Loc} {ls : Array Slot} {a0 : Nat}, wp_Jx4a65c_clear_da8c8_0 D post S a0 → wO D cy X A s.heap S H locs → wX D S0 S → lv_has ls 4 [(0, .ref a0)] → wM D S a0 → sK S a0 = 4 → W p l e r_Jx4a65c_clear_da8c8 s m args below meth c H locs 0 0 (MQ below (va_Qv (fun S9 => wX D S0 S9 ∧ post S9) (wB D cy X A) A) args s 0 0 A) (F0 m 0 ls []) := by
  obtain ⟨hx, hb, hml, hown, hts⟩ := id F
  have hwg : ∀ w ∈ WG, w.before args s = true := fun w h => hts w (List.mem_cons_of_mem _ h)
  have i_4 : ∀ w ∈ u_ws RJx4a65c TJx4a65c 3, w ∈ wz_Jx4a65c_clear_da8c8 := fun w h => List.mem_cons_of_mem _ (wu_4 w h)
  have k_48 := hwg _ wf_RJx4a65c_48
  have k_63 := hwg _ wf_RJx4a65c_63
  have k_9 := hwg _ wf_RJx4a65c_9
  intro S H locs ls a0 hp hW hE hl hL_a0 hK_a0
  unfold wp_Jx4a65c_clear_da8c8_0 at hp
  refine lv_aload_n hx hb dJx4a65c_clear_da8c8_0 rfl (lv_at hl 0 rfl) ?_
  refine lv_dup hx hb dJx4a65c_clear_da8c8_1 rfl ?_
  refine w_get (k := 4) (f := 0) (T := TJx4a65c) (v := .int (sI S a0 0)) F hK hW hL_a0 hK_a0 (by decide) rfl rfl (by decide) i_4 k_63 rfl dJx4a65c_clear_da8c8_2 ?_
  refine lv_iconst (v := 1) hx hb dJx4a65c_clear_da8c8_5 (by decide) ?_
  refine lv_iadd hx hb dJx4a65c_clear_da8c8_6 ?_
  refine w_putI (k := 4) (f := 0) (T := TJx4a65c) F hK hW hL_a0 hK_a0 (by decide) (by decide) rfl rfl (by decide) i_4 tyJx4a65c tyJx4a65c_ok nmJx4a65c k_63 rfl rfl (ty := .int) rfl rfl rfl dJx4a65c_clear_da8c8_7 (fun H locs hW => ?_)
  obtain ⟨S_1, eS_1⟩ : ∃ z : wS, z = uI S a0 0 ((sI S a0 0) + (1 : Int32)) := ⟨_, rfl⟩
  rw [← eS_1] at hW
  replace hp := hp S_1 eS_1
  have hX_S_1 : wX D S S_1 := by rw [eS_1]; exact wX_uI
  have hE := hE.trans hX_S_1
  have hK_a0 : sK S_1 a0 = 4 := (hX_S_1.2 a0 hL_a0).1.trans hK_a0
  have hL_a0 : wM D S_1 a0 := hX_S_1.M hL_a0
  refine lv_aload_n hx hb dJx4a65c_clear_da8c8_10 rfl (lv_at hl 0 rfl) ?_
  obtain ⟨y_2, ey_2, hL_y_2, hK_y_2, hp⟩ := hp
  refine w_get (k := 4) (f := 1) (T := TJx4a65c) (v := .ref y_2) F hK hW hL_a0 hK_a0 (by decide) rfl rfl (by decide) i_4 k_9 (by rw [show wv 4 1 S_1 a0 = va_rf (sR S_1 a0 1) from rfl, ey_2]; rfl) dJx4a65c_clear_da8c8_11 ?_
  refine lv_astore_n (lv' := [(1, .ref y_2), (0, .ref a0)]) hx hb dJx4a65c_clear_da8c8_14 rfl hl (by decide) rfl (fun ls hl => ?_)
  refine lv_aload_n hx hb dJx4a65c_clear_da8c8_15 rfl (lv_at hl 1 rfl) ?_
  refine w_get (k := 4) (f := 2) (T := TJx4a65c) (v := .int (sI S_1 a0 2)) F hK hW hL_a0 hK_a0 (by decide) rfl rfl (by decide) i_4 k_48 rfl dJx4a65c_clear_da8c8_16 ?_
  refine lv_topi (fun x_3 ex_3 => ?_)
  replace hp := hp x_3 ex_3
  refine lv_istore_n (lv' := [(2, .int x_3), (1, .ref y_2), (0, .ref a0)]) hx hb dJx4a65c_clear_da8c8_19 rfl hl (by decide) rfl (fun ls hl => ?_)
  refine lv_aload_n hx hb dJx4a65c_clear_da8c8_20 rfl (lv_at hl 2 rfl) ?_
  refine lv_iconst (v := 0) hx hb dJx4a65c_clear_da8c8_21 (by decide) ?_
  refine lv_dup_x1 hx hb dJx4a65c_clear_da8c8_22 rfl rfl ?_
  refine w_putI (k := 4) (f := 2) (T := TJx4a65c) F hK hW hL_a0 hK_a0 (by decide) (by decide) rfl rfl (by decide) i_4 tyJx4a65c tyJx4a65c_ok nmJx4a65c k_48 rfl rfl (ty := .int) rfl rfl rfl dJx4a65c_clear_da8c8_23 (fun H locs hW => ?_)
  obtain ⟨S_4, eS_4⟩ : ∃ z : wS, z = uI S_1 a0 2 (0 : Int32) := ⟨_, rfl⟩
  rw [← eS_4] at hW
  replace hp := hp S_4 eS_4
  have hX_S_4 : wX D S_1 S_4 := by rw [eS_4]; exact wX_uI
  have hE := hE.trans hX_S_4
  have hK_a0 : sK S_4 a0 = 4 := (hX_S_4.2 a0 hL_a0).1.trans hK_a0
  have hL_a0 : wM D S_4 a0 := hX_S_4.M hL_a0
  have hK_y_2 : sK S_4 y_2 = 24 := (hX_S_4.2 y_2 hL_y_2).1.trans hK_y_2
  have hL_y_2 : wM D S_4 y_2 := hX_S_4.M hL_y_2
  refine lv_istore_n (lv' := [(3, .int (0 : Int32)), (2, .int x_3), (1, .ref y_2), (0, .ref a0)]) hx hb dJx4a65c_clear_da8c8_26 rfl hl (by decide) rfl (fun ls hl => ?_)
  obtain ⟨n_5, hp⟩ := hp
  exact t_Jx4a65c_clear_da8c8_27 F hr hlocks hK n_5 hp hW hE (lv_sub hl [2, 1, 0] rfl) hL_y_2 hK_y_2
set_option maxHeartbeats 4000000 in
set_option maxRecDepth 100000 in
theorem c_Jx4a65c_clear_da8c8 (l : Launch) {D : wD} {cy : Nat → ClassId} {X : va_W} {S0 : wS} {post : wS → Prop} {a0 : Nat} (hL_a0 : wM D S0 a0) (hK_a0 : sK S0 a0 = 4) (hp : wp_Jx4a65c_clear_da8c8 D post S0 a0) : mV D cy X l yJx4a65c_clear_da8c8 wz_Jx4a65c_clear_da8c8 r_Jx4a65c_clear_da8c8 [.ref a0] S0 (fun S9 => wX D S0 S9 ∧ post S9) := by
  intro sz
  refine Met.ofW (cc := cJx4a65c_clear_da8c8) (maxL := 4) (ret := none) (by decide) rfl ?_
  intro p e s m args below meth c s₁ B hml hv
  obtain ⟨rfl, hsz, hP, hK, hD0, hRO⟩ := hv
  have hts := atoms_spec (ws := wz_Jx4a65c_clear_da8c8) B.pre
  have hown : s.vm.findClass RJx4a65c = some m.cls := findClass_of_methodNamed B.named
  subst hsz
  have hD := hD0.self (sz := s.heap.size)
  have F : CallFix p m c cJx4a65c_clear_da8c8 4 s _ wz_Jx4a65c_clear_da8c8 RJx4a65c := ⟨B.exec, B.bytes, hml, hown, hts⟩
  have hr := B.returns
  have hlocks := B.notSynchronized
  generalize hAe : va_A (wL cy X S0) s.heap.size = A at hD hK ⊢
  have hA : ∀ q, s.heap.size ≤ q → A q := fun q h => by rw [← hAe]; exact Or.inr h
  have hW : wO D cy X A s.heap S0 s.heap [] := ⟨hP, hD, va_S.rf, hA, hRO⟩
  have hl := lv_entry ([.ref a0]) (n := 4) (Nat.le_of_ble_eq_true rfl)
  rw [lg_entry_eq]
  generalize (lg_sl ([.ref a0]) ++ List.replicate (4 - (lg_sl ([.ref a0])).length) Slot.unset).toArray = ls at hl ⊢
  have hl : lv_has ls 4 [(0, .ref a0)] := hl
  unfold wp_Jx4a65c_clear_da8c8 at hp
  exact t_Jx4a65c_clear_da8c8_0 F hr hlocks hK hp hW wX.rf (lv_sub hl [0] rfl) hL_a0 hK_a0
def wp_Jx4a65c_elementData_915e3_0 (D : wD) (post : Option Nat → wS → Prop)  (S : wS) (a0 : Nat) (x1 : Int32) : Prop :=
∃ y_1 : Nat, sR S a0 1 = some y_1 ∧ wM D S y_1 ∧ sK S y_1 = 24 ∧
vp_in x1 (sN S y_1) ∧
∀ g_3 : Option Nat, g_3 = sR S y_1 (x1).toNatClampNeg →
post g_3 S
abbrev r_Jx4a65c_elementData_915e3 : Room := { frames := 0, cells := 0, slots := 0, locals := 0 }
def wp_Jx4a65c_elementData_915e3 (D : wD) (post : Option Nat → wS → Prop) (S : wS) (a0 : Nat) (x1 : Int32) : Prop := wp_Jx4a65c_elementData_915e3_0 D post S a0 x1
set_option maxHeartbeats 4000000 in
set_option maxRecDepth 100000 in
theorem t_Jx4a65c_elementData_915e3_0 {p : Program} {l : Launch} {e : Env} {s : State} {m : MethodId} {args : Array Value} {below : List Frame} {meth : Method} {c : Code} {D : wD} {cy : Nat → ClassId} {X : va_W} {A : Nat → Prop} {S0 : wS} {post : Option Nat → wS → Prop} (F : CallFix p m c cJx4a65c_elementData_915e3 2 s args wz_Jx4a65c_elementData_915e3 RJx4a65c) (hr : meth.sig.returnType = (some (.object "java/lang/Object"))) (hlocks : meth.locks = false) (hK : wK D cy A s) : ∀ {S : wS} {H : Heap} {locs : List Loc} {ls : Array Slot} {a0 : Nat} {x1 : Int32}, wp_Jx4a65c_elementData_915e3_0 D post S a0 x1 → wO D cy X A s.heap S H locs → wX D S0 S → lv_has ls 2 [(0, .ref a0), (1, .int x1)] → wM D S a0 → sK S a0 = 4 → W p l e r_Jx4a65c_elementData_915e3 s m args below meth c H locs 0 0 (MQ below (va_Qq (fun r S9 => wX D S0 S9 ∧ post r S9) (wB D cy X A) A) args s 0 0 A) (F0 m 0 ls []) := by
  obtain ⟨hx, hb, hml, hown, hts⟩ := id F
  have hwg : ∀ w ∈ WG, w.before args s = true := fun w h => hts w (List.mem_cons_of_mem _ h)
  have i_4 : ∀ w ∈ u_ws RJx4a65c TJx4a65c 3, w ∈ wz_Jx4a65c_elementData_915e3 := fun w h => List.mem_cons_of_mem _ (wu_4 w h)
  have k_9 := hwg _ wf_RJx4a65c_9
  intro S H locs ls a0 x1 hp hW hE hl hL_a0 hK_a0
  unfold wp_Jx4a65c_elementData_915e3_0 at hp
  refine lv_aload_n hx hb dJx4a65c_elementData_915e3_0 rfl (lv_at hl 0 rfl) ?_
  obtain ⟨y_1, ey_1, hL_y_1, hK_y_1, hp⟩ := hp
  refine w_get (k := 4) (f := 1) (T := TJx4a65c) (v := .ref y_1) F hK hW hL_a0 hK_a0 (by decide) rfl rfl (by decide) i_4 k_9 (by rw [show wv 4 1 S a0 = va_rf (sR S a0 1) from rfl, ey_1]; rfl) dJx4a65c_elementData_915e3_1 ?_
  refine lv_iload_n hx hb dJx4a65c_elementData_915e3_4 rfl (lv_at hl 1 rfl) ?_
  obtain ⟨h_2, hp⟩ := hp
  refine w_ald F hK hW hL_y_1 hK_y_1 h_2 dJx4a65c_elementData_915e3_5 ?_
  obtain ⟨g_3, eg_3⟩ : ∃ z : Option Nat, z = sR S y_1 (x1).toNatClampNeg := ⟨_, rfl⟩
  rw [← eg_3]
  replace hp := hp g_3 eg_3
  exact w_aret (g := g_3) hx hb hr hlocks hW ⟨hE, hp⟩ dJx4a65c_elementData_915e3_6
set_option maxHeartbeats 4000000 in
set_option maxRecDepth 100000 in
theorem c_Jx4a65c_elementData_915e3 (l : Launch) {D : wD} {cy : Nat → ClassId} {X : va_W} {S0 : wS} {post : Option Nat → wS → Prop} {a0 : Nat} {x1 : Int32} (hL_a0 : wM D S0 a0) (hK_a0 : sK S0 a0 = 4) (hp : wp_Jx4a65c_elementData_915e3 D post S0 a0 x1) : mR D cy X l yJx4a65c_elementData_915e3 wz_Jx4a65c_elementData_915e3 r_Jx4a65c_elementData_915e3 [.ref a0, .int x1] S0 (fun r S9 => wX D S0 S9 ∧ post r S9) := by
  intro sz
  refine Met.ofW (cc := cJx4a65c_elementData_915e3) (maxL := 2) (ret := (some (.object "java/lang/Object"))) (by decide) rfl ?_
  intro p e s m args below meth c s₁ B hml hv
  obtain ⟨rfl, hsz, hP, hK, hD0, hRO⟩ := hv
  have hts := atoms_spec (ws := wz_Jx4a65c_elementData_915e3) B.pre
  have hown : s.vm.findClass RJx4a65c = some m.cls := findClass_of_methodNamed B.named
  subst hsz
  have hD := hD0.self (sz := s.heap.size)
  have F : CallFix p m c cJx4a65c_elementData_915e3 2 s _ wz_Jx4a65c_elementData_915e3 RJx4a65c := ⟨B.exec, B.bytes, hml, hown, hts⟩
  have hr := B.returns
  have hlocks := B.notSynchronized
  generalize hAe : va_A (wL cy X S0) s.heap.size = A at hD hK ⊢
  have hA : ∀ q, s.heap.size ≤ q → A q := fun q h => by rw [← hAe]; exact Or.inr h
  have hW : wO D cy X A s.heap S0 s.heap [] := ⟨hP, hD, va_S.rf, hA, hRO⟩
  have hl := lv_entry ([.ref a0, .int x1]) (n := 2) (Nat.le_of_ble_eq_true rfl)
  rw [lg_entry_eq]
  generalize (lg_sl ([.ref a0, .int x1]) ++ List.replicate (2 - (lg_sl ([.ref a0, .int x1])).length) Slot.unset).toArray = ls at hl ⊢
  have hl : lv_has ls 2 [(0, .ref a0), (1, .int x1)] := hl
  unfold wp_Jx4a65c_elementData_915e3 at hp
  exact t_Jx4a65c_elementData_915e3_0 F hr hlocks hK hp hW wX.rf (lv_sub hl [0, 1] rfl) hL_a0 hK_a0
def wp_Jx4a65c_get_915e3_0 (D : wD) (post : Option Nat → wS → Prop)  (S : wS) (a0 : Nat) (x1 : Int32) : Prop :=
wp_J15_checkIndex_7cf53 D (fun r_1 S_2 => 
wp_Jx4a65c_elementData_915e3 D (fun r_3 S_4 => 
post r_3 S_4) S_2 a0 x1) S x1 (sI S a0 2)
abbrev r_Jx4a65c_get_915e3 : Room := { frames := 2, cells := 0, slots := 0, locals := 43 }
def wp_Jx4a65c_get_915e3 (D : wD) (post : Option Nat → wS → Prop) (S : wS) (a0 : Nat) (x1 : Int32) : Prop := wp_Jx4a65c_get_915e3_0 D post S a0 x1
set_option maxHeartbeats 4000000 in
set_option maxRecDepth 100000 in
theorem t_Jx4a65c_get_915e3_0 {p : Program} {l : Launch} {e : Env} {s : State} {m : MethodId} {args : Array Value} {below : List Frame} {meth : Method} {c : Code} {D : wD} {cy : Nat → ClassId} {X : va_W} {A : Nat → Prop} {S0 : wS} {post : Option Nat → wS → Prop} (F : CallFix p m c cJx4a65c_get_915e3 2 s args wz_Jx4a65c_get_915e3 RJx4a65c) (hr : meth.sig.returnType = (some (.object "java/lang/Object"))) (hlocks : meth.locks = false) (hK : wK D cy A s) : ∀ {S : wS} {H : Heap} {locs : List Loc} {ls : Array Slot} {a0 : Nat} {x1 : Int32}, wp_Jx4a65c_get_915e3_0 D post S a0 x1 → wO D cy X A s.heap S H locs → wX D S0 S → lv_has ls 2 [(0, .ref a0), (1, .int x1)] → wM D S a0 → sK S a0 = 4 → W p l e r_Jx4a65c_get_915e3 s m args below meth c H locs 0 0 (MQ below (va_Qq (fun r S9 => wX D S0 S9 ∧ post r S9) (wB D cy X A) A) args s 0 0 A) (F0 m 0 ls []) := by
  obtain ⟨hx, hb, hml, hown, hts⟩ := id F
  have hwg : ∀ w ∈ WG, w.before args s = true := fun w h => hts w (List.mem_cons_of_mem _ h)
  have i_4 : ∀ w ∈ u_ws RJx4a65c TJx4a65c 3, w ∈ wz_Jx4a65c_get_915e3 := fun w h => List.mem_cons_of_mem _ (wu_4 w h)
  have k_48 := hwg _ wf_RJx4a65c_48
  intro S H locs ls a0 x1 hp hW hE hl hL_a0 hK_a0
  unfold wp_Jx4a65c_get_915e3_0 at hp
  refine lv_iload_n hx hb dJx4a65c_get_915e3_0 rfl (lv_at hl 1 rfl) ?_
  refine lv_aload_n hx hb dJx4a65c_get_915e3_1 rfl (lv_at hl 0 rfl) ?_
  refine w_get (k := 4) (f := 2) (T := TJx4a65c) (v := .int (sI S a0 2)) F hK hW hL_a0 hK_a0 (by decide) rfl rfl (by decide) i_4 k_48 rfl dJx4a65c_get_915e3_2 ?_
  refine w_callI (va_runS (As := [.int x1, .int (sI S a0 2)]) (rest := []) F (c_J15_checkIndex_7cf53 l hp H.size) (va_cwS 2 hts (wg_S wm_RJx4a65c_118 wy_J15_checkIndex_7cf53) rfl rfl rfl (by decide +kernel) ⟨Nat.le_of_ble_eq_true rfl, Nat.le_of_ble_eq_true rfl⟩) (w_preS hK hW) rfl rfl hl.1 rfl (lv_room (Nat.le_of_ble_eq_true rfl)) dJx4a65c_get_915e3_5 ⟨Nat.le_of_ble_eq_true rfl, Nat.le_of_ble_eq_true rfl⟩) hW (fun r_1 S_2 H locs hp hW => ?_)
  obtain ⟨hX_S_2, hp⟩ := hp
  refine W.widen (k := 0) (n := 0) (by decide) (by decide) ?_
  have hE := hE.trans hX_S_2
  have hK_a0 : sK S_2 a0 = 4 := (hX_S_2.2 a0 hL_a0).1.trans hK_a0
  have hL_a0 : wM D S_2 a0 := hX_S_2.M hL_a0
  refine lv_pop hx hb dJx4a65c_get_915e3_8 rfl ?_
  refine lv_aload_n hx hb dJx4a65c_get_915e3_9 rfl (lv_at hl 0 rfl) ?_
  refine lv_iload_n hx hb dJx4a65c_get_915e3_10 rfl (lv_at hl 1 rfl) ?_
  refine w_callR (va_runV (As := [.int x1]) (rest := []) F (c_Jx4a65c_elementData_915e3 l hL_a0 hK_a0 hp H.size) (cwV (C := RJx4a65c) 1 hts (wg_V wm_RJx4a65c_123 wy_Jx4a65c_elementData_915e3) rfl rfl rfl (by decide +kernel) ⟨Nat.le_of_ble_eq_true rfl, Nat.le_of_ble_eq_true rfl⟩) (w_preV hK hW hL_a0 hK_a0 (by decide) rfl) rfl rfl hl.1 rfl (lv_room (Nat.le_of_ble_eq_true rfl)) dJx4a65c_get_915e3_11 ⟨Nat.le_of_ble_eq_true rfl, Nat.le_of_ble_eq_true rfl⟩) hW (fun r_3 S_4 H locs hp hW => ?_)
  obtain ⟨hX_S_4, hp⟩ := hp
  refine W.widen (k := 0) (n := 0) (by decide) (by decide) ?_
  have hE := hE.trans hX_S_4
  have hK_a0 : sK S_4 a0 = 4 := (hX_S_4.2 a0 hL_a0).1.trans hK_a0
  have hL_a0 : wM D S_4 a0 := hX_S_4.M hL_a0
  exact w_aret (g := r_3) hx hb hr hlocks hW ⟨hE, hp⟩ dJx4a65c_get_915e3_14
set_option maxHeartbeats 4000000 in
set_option maxRecDepth 100000 in
theorem c_Jx4a65c_get_915e3 (l : Launch) {D : wD} {cy : Nat → ClassId} {X : va_W} {S0 : wS} {post : Option Nat → wS → Prop} {a0 : Nat} {x1 : Int32} (hL_a0 : wM D S0 a0) (hK_a0 : sK S0 a0 = 4) (hp : wp_Jx4a65c_get_915e3 D post S0 a0 x1) : mR D cy X l yJx4a65c_get_915e3 wz_Jx4a65c_get_915e3 r_Jx4a65c_get_915e3 [.ref a0, .int x1] S0 (fun r S9 => wX D S0 S9 ∧ post r S9) := by
  intro sz
  refine Met.ofW (cc := cJx4a65c_get_915e3) (maxL := 2) (ret := (some (.object "java/lang/Object"))) (by decide) rfl ?_
  intro p e s m args below meth c s₁ B hml hv
  obtain ⟨rfl, hsz, hP, hK, hD0, hRO⟩ := hv
  have hts := atoms_spec (ws := wz_Jx4a65c_get_915e3) B.pre
  have hown : s.vm.findClass RJx4a65c = some m.cls := findClass_of_methodNamed B.named
  subst hsz
  have hD := hD0.self (sz := s.heap.size)
  have F : CallFix p m c cJx4a65c_get_915e3 2 s _ wz_Jx4a65c_get_915e3 RJx4a65c := ⟨B.exec, B.bytes, hml, hown, hts⟩
  have hr := B.returns
  have hlocks := B.notSynchronized
  generalize hAe : va_A (wL cy X S0) s.heap.size = A at hD hK ⊢
  have hA : ∀ q, s.heap.size ≤ q → A q := fun q h => by rw [← hAe]; exact Or.inr h
  have hW : wO D cy X A s.heap S0 s.heap [] := ⟨hP, hD, va_S.rf, hA, hRO⟩
  have hl := lv_entry ([.ref a0, .int x1]) (n := 2) (Nat.le_of_ble_eq_true rfl)
  rw [lg_entry_eq]
  generalize (lg_sl ([.ref a0, .int x1]) ++ List.replicate (2 - (lg_sl ([.ref a0, .int x1])).length) Slot.unset).toArray = ls at hl ⊢
  have hl : lv_has ls 2 [(0, .ref a0), (1, .int x1)] := hl
  unfold wp_Jx4a65c_get_915e3 at hp
  exact t_Jx4a65c_get_915e3_0 F hr hlocks hK hp hW wX.rf (lv_sub hl [0, 1] rfl) hL_a0 hK_a0
def wp_Jxa1e45_init_da8c8_0 (D : wD) (post : wS → Prop)  (S : wS) (a0 : Nat) : Prop :=
post S
abbrev r_Jxa1e45_init_da8c8 : Room := { frames := 1, cells := 0, slots := 0, locals := 60 }
def wp_Jxa1e45_init_da8c8 (D : wD) (post : wS → Prop) (S : wS) (a0 : Nat) : Prop := wp_Jxa1e45_init_da8c8_0 D post S a0
set_option maxHeartbeats 4000000 in
set_option maxRecDepth 100000 in
theorem t_Jxa1e45_init_da8c8_0 {p : Program} {l : Launch} {e : Env} {s : State} {m : MethodId} {args : Array Value} {below : List Frame} {meth : Method} {c : Code} {D : wD} {cy : Nat → ClassId} {X : va_W} {A : Nat → Prop} {S0 : wS} {post : wS → Prop} (F : CallFix p m c cJxa1e45_init_da8c8 1 s args wz_Jxa1e45_init_da8c8 RJxa1e45) (hr : meth.sig.returnType = none) (hlocks : meth.locks = false) (hK : wK D cy A s) (hin : meth.name = "<init>") : ∀ {S : wS} {H : Heap} {locs : List Loc} {ls : Array Slot} {a0 : Nat}, wp_Jxa1e45_init_da8c8_0 D post S a0 → wO D cy X A s.heap S H locs → wX D S0 S → lv_has ls 1 [(0, .ref a0)] → wM D S a0 → sK S a0 = 4 → W p l e r_Jxa1e45_init_da8c8 s m args below meth c H locs 0 0 (MQ below (va_Qv (fun S9 => wX D S0 S9 ∧ post S9) (wB D cy X A) A) args s 0 0 A) (F0 m 0 ls []) := by
  obtain ⟨hx, hb, hml, hown, hts⟩ := id F
  have hwg : ∀ w ∈ WG, w.before args s = true := fun w h => hts w (List.mem_cons_of_mem _ h)
  intro S H locs ls a0 hp hW hE hl hL_a0 hK_a0
  unfold wp_Jxa1e45_init_da8c8_0 at hp
  refine lv_aload_n hx hb dJxa1e45_init_da8c8_0 rfl (lv_at hl 0 rfl) ?_
  refine W.objInit hx hb hown (hwg _ wm_RJxa1e45_1) (hwg _ wobj.1) (hwg _ wobj.2) rfl (by rw [hml]; exact hl.1) rfl dJxa1e45_init_da8c8_1 (Nat.le_of_ble_eq_true rfl) (Nat.le_of_ble_eq_true rfl) ?_
  refine W.eq (g2 := F0 m 4 ls []) rfl ?_
  exact w_vret hx hb hr hlocks hW ⟨hE, hp⟩ dJxa1e45_init_da8c8_4
set_option maxHeartbeats 4000000 in
set_option maxRecDepth 100000 in
theorem c_Jxa1e45_init_da8c8 (l : Launch) {D : wD} {cy : Nat → ClassId} {X : va_W} {S0 : wS} {post : wS → Prop} {a0 : Nat} (hL_a0 : wM D S0 a0) (hK_a0 : sK S0 a0 = 4) (hp : wp_Jxa1e45_init_da8c8 D post S0 a0) : mV D cy X l yJxa1e45_init_da8c8 wz_Jxa1e45_init_da8c8 r_Jxa1e45_init_da8c8 [.ref a0] S0 (fun S9 => wX D S0 S9 ∧ post S9) := by
  intro sz
  refine Met.ofW (cc := cJxa1e45_init_da8c8) (maxL := 1) (ret := none) (by decide) rfl ?_
  intro p e s m args below meth c s₁ B hml hv
  obtain ⟨rfl, hsz, hP, hK, hD0, hRO⟩ := hv
  have hts := atoms_spec (ws := wz_Jxa1e45_init_da8c8) B.pre
  have hown : s.vm.findClass RJxa1e45 = some m.cls := findClass_of_methodNamed B.named
  subst hsz
  have hD := hD0.self (sz := s.heap.size)
  have F : CallFix p m c cJxa1e45_init_da8c8 1 s _ wz_Jxa1e45_init_da8c8 RJxa1e45 := ⟨B.exec, B.bytes, hml, hown, hts⟩
  have hr := B.returns
  have hlocks := B.notSynchronized
  have hin : meth.name = "<init>" := (name_of_methodNamed B.named B.method).1
  generalize hAe : va_A (wL cy X S0) s.heap.size = A at hD hK ⊢
  have hA : ∀ q, s.heap.size ≤ q → A q := fun q h => by rw [← hAe]; exact Or.inr h
  have hW : wO D cy X A s.heap S0 s.heap [] := ⟨hP, hD, va_S.rf, hA, hRO⟩
  have hl := lv_entry ([.ref a0]) (n := 1) (Nat.le_of_ble_eq_true rfl)
  rw [lg_entry_eq]
  generalize (lg_sl ([.ref a0]) ++ List.replicate (1 - (lg_sl ([.ref a0])).length) Slot.unset).toArray = ls at hl ⊢
  have hl : lv_has ls 1 [(0, .ref a0)] := hl
  unfold wp_Jxa1e45_init_da8c8 at hp
  exact t_Jxa1e45_init_da8c8_0 F hr hlocks hK hin hp hW wX.rf (lv_sub hl [0] rfl) hL_a0 hK_a0
def wp_Jxc12de_init_da8c8_0 (D : wD) (post : wS → Prop)  (S : wS) (a0 : Nat) : Prop :=
wp_Jxa1e45_init_da8c8 D (fun S_2 => 
∀ S_3 : wS, S_3 = uI S_2 a0 0 (0 : Int32) →
post S_3) S a0
abbrev r_Jxc12de_init_da8c8 : Room := { frames := 2, cells := 0, slots := 0, locals := 80 }
def wp_Jxc12de_init_da8c8 (D : wD) (post : wS → Prop) (S : wS) (a0 : Nat) : Prop := wp_Jxc12de_init_da8c8_0 D post S a0
set_option maxHeartbeats 4000000 in
set_option maxRecDepth 100000 in
theorem t_Jxc12de_init_da8c8_0 {p : Program} {l : Launch} {e : Env} {s : State} {m : MethodId} {args : Array Value} {below : List Frame} {meth : Method} {c : Code} {D : wD} {cy : Nat → ClassId} {X : va_W} {A : Nat → Prop} {S0 : wS} {post : wS → Prop} (F : CallFix p m c cJxc12de_init_da8c8 1 s args wz_Jxc12de_init_da8c8 RJxc12de) (hr : meth.sig.returnType = none) (hlocks : meth.locks = false) (hK : wK D cy A s) (hin : meth.name = "<init>") : ∀ {S : wS} {H : Heap} {locs : List Loc} {ls : Array Slot} {a0 : Nat}, wp_Jxc12de_init_da8c8_0 D post S a0 → wO D cy X A s.heap S H locs → wX D S0 S → lv_has ls 1 [(0, .ref a0)] → wM D S a0 → sK S a0 = 4 → W p l e r_Jxc12de_init_da8c8 s m args below meth c H locs 0 0 (MQ below (va_Qv (fun S9 => wX D S0 S9 ∧ post S9) (wB D cy X A) A) args s 0 0 A) (F0 m 0 ls []) := by
  obtain ⟨hx, hb, hml, hown, hts⟩ := id F
  have hwg : ∀ w ∈ WG, w.before args s = true := fun w h => hts w (List.mem_cons_of_mem _ h)
  have i_4 : ∀ w ∈ u_ws RJx4a65c TJx4a65c 3, w ∈ wz_Jxc12de_init_da8c8 := fun w h => List.mem_cons_of_mem _ (wu_4 w h)
  have k_7 := hwg _ wf_RJxc12de_7
  intro S H locs ls a0 hp hW hE hl hL_a0 hK_a0
  unfold wp_Jxc12de_init_da8c8_0 at hp
  refine lv_aload_n hx hb dJxc12de_init_da8c8_0 rfl (lv_at hl 0 rfl) ?_
  refine w_callV (va_runI (As := []) (rest := []) F (c_Jxa1e45_init_da8c8 l hL_a0 hK_a0 hp H.size) (cwI 0 hts (wg_cons wy_Jxa1e45_init_da8c8.2.2) rfl rfl rfl (hwg _ wy_Jxa1e45_init_da8c8.2.1) (hwg _ wm_RJxc12de_1) (hwg _ wy_Jxa1e45_init_da8c8.1) rfl (by decide +kernel) ⟨Nat.le_of_ble_eq_true rfl, Nat.le_of_ble_eq_true rfl⟩) (w_preS hK hW) rfl rfl hl.1 rfl (lv_room (Nat.le_of_ble_eq_true rfl)) dJxc12de_init_da8c8_1 ⟨Nat.le_of_ble_eq_true rfl, Nat.le_of_ble_eq_true rfl⟩) hW (fun S_2 H locs hp hW => ?_)
  obtain ⟨hX_S_2, hp⟩ := hp
  refine W.widen (k := 0) (n := 0) (by decide) (by decide) ?_
  have hE := hE.trans hX_S_2
  have hK_a0 : sK S_2 a0 = 4 := (hX_S_2.2 a0 hL_a0).1.trans hK_a0
  have hL_a0 : wM D S_2 a0 := hX_S_2.M hL_a0
  refine lv_aload_n hx hb dJxc12de_init_da8c8_4 rfl (lv_at hl 0 rfl) ?_
  refine lv_iconst (v := 0) hx hb dJxc12de_init_da8c8_5 (by decide) ?_
  refine w_putI (k := 4) (f := 0) (T := TJx4a65c) F hK hW hL_a0 hK_a0 (by decide) (by decide) rfl rfl (by decide) i_4 tyJx4a65c tyJx4a65c_ok nmJx4a65c k_7 rfl rfl (ty := .int) rfl rfl rfl dJxc12de_init_da8c8_6 (fun H locs hW => ?_)
  obtain ⟨S_3, eS_3⟩ : ∃ z : wS, z = uI S_2 a0 0 (0 : Int32) := ⟨_, rfl⟩
  rw [← eS_3] at hW
  replace hp := hp S_3 eS_3
  have hX_S_3 : wX D S_2 S_3 := by rw [eS_3]; exact wX_uI
  have hE := hE.trans hX_S_3
  have hK_a0 : sK S_3 a0 = 4 := (hX_S_3.2 a0 hL_a0).1.trans hK_a0
  have hL_a0 : wM D S_3 a0 := hX_S_3.M hL_a0
  exact w_vret hx hb hr hlocks hW ⟨hE, hp⟩ dJxc12de_init_da8c8_9
set_option maxHeartbeats 4000000 in
set_option maxRecDepth 100000 in
theorem c_Jxc12de_init_da8c8 (l : Launch) {D : wD} {cy : Nat → ClassId} {X : va_W} {S0 : wS} {post : wS → Prop} {a0 : Nat} (hL_a0 : wM D S0 a0) (hK_a0 : sK S0 a0 = 4) (hp : wp_Jxc12de_init_da8c8 D post S0 a0) : mV D cy X l yJxc12de_init_da8c8 wz_Jxc12de_init_da8c8 r_Jxc12de_init_da8c8 [.ref a0] S0 (fun S9 => wX D S0 S9 ∧ post S9) := by
  intro sz
  refine Met.ofW (cc := cJxc12de_init_da8c8) (maxL := 1) (ret := none) (by decide) rfl ?_
  intro p e s m args below meth c s₁ B hml hv
  obtain ⟨rfl, hsz, hP, hK, hD0, hRO⟩ := hv
  have hts := atoms_spec (ws := wz_Jxc12de_init_da8c8) B.pre
  have hown : s.vm.findClass RJxc12de = some m.cls := findClass_of_methodNamed B.named
  subst hsz
  have hD := hD0.self (sz := s.heap.size)
  have F : CallFix p m c cJxc12de_init_da8c8 1 s _ wz_Jxc12de_init_da8c8 RJxc12de := ⟨B.exec, B.bytes, hml, hown, hts⟩
  have hr := B.returns
  have hlocks := B.notSynchronized
  have hin : meth.name = "<init>" := (name_of_methodNamed B.named B.method).1
  generalize hAe : va_A (wL cy X S0) s.heap.size = A at hD hK ⊢
  have hA : ∀ q, s.heap.size ≤ q → A q := fun q h => by rw [← hAe]; exact Or.inr h
  have hW : wO D cy X A s.heap S0 s.heap [] := ⟨hP, hD, va_S.rf, hA, hRO⟩
  have hl := lv_entry ([.ref a0]) (n := 1) (Nat.le_of_ble_eq_true rfl)
  rw [lg_entry_eq]
  generalize (lg_sl ([.ref a0]) ++ List.replicate (1 - (lg_sl ([.ref a0])).length) Slot.unset).toArray = ls at hl ⊢
  have hl : lv_has ls 1 [(0, .ref a0)] := hl
  unfold wp_Jxc12de_init_da8c8 at hp
  exact t_Jxc12de_init_da8c8_0 F hr hlocks hK hin hp hW wX.rf (lv_sub hl [0] rfl) hL_a0 hK_a0
def wp_Jx4a65c_init_da8c8_0 (D : wD) (post : wS → Prop)  (S : wS) (a0 : Nat) : Prop :=
wp_Jxc12de_init_da8c8 D (fun S_2 => 
∀ y_3 : Nat, y_3 = D.2.2.1 106 →
∀ S_4 : wS, S_4 = uR S_2 a0 1 (some y_3) →
post S_4) S a0
abbrev r_Jx4a65c_init_da8c8 : Room := { frames := 3, cells := 0, slots := 0, locals := 100 }
def wp_Jx4a65c_init_da8c8 (D : wD) (post : wS → Prop) (S : wS) (a0 : Nat) : Prop := wp_Jx4a65c_init_da8c8_0 D post S a0
set_option maxHeartbeats 4000000 in
set_option maxRecDepth 100000 in
theorem t_Jx4a65c_init_da8c8_0 {p : Program} {l : Launch} {e : Env} {s : State} {m : MethodId} {args : Array Value} {below : List Frame} {meth : Method} {c : Code} {D : wD} {cy : Nat → ClassId} {X : va_W} {A : Nat → Prop} {S0 : wS} {post : wS → Prop} (F : CallFix p m c cJx4a65c_init_da8c8 1 s args wz_Jx4a65c_init_da8c8 RJx4a65c) (hr : meth.sig.returnType = none) (hlocks : meth.locks = false) (hK : wK D cy A s) (hin : meth.name = "<init>") : ∀ {S : wS} {H : Heap} {locs : List Loc} {ls : Array Slot} {a0 : Nat}, wp_Jx4a65c_init_da8c8_0 D post S a0 → wO D cy X A s.heap S H locs → wX D S0 S → lv_has ls 1 [(0, .ref a0)] → wM D S a0 → sK S a0 = 4 → W p l e r_Jx4a65c_init_da8c8 s m args below meth c H locs 0 0 (MQ below (va_Qv (fun S9 => wX D S0 S9 ∧ post S9) (wB D cy X A) A) args s 0 0 A) (F0 m 0 ls []) := by
  obtain ⟨hx, hb, hml, hown, hts⟩ := id F
  have hwg : ∀ w ∈ WG, w.before args s = true := fun w h => hts w (List.mem_cons_of_mem _ h)
  have i_4 : ∀ w ∈ u_ws RJx4a65c TJx4a65c 3, w ∈ wz_Jx4a65c_init_da8c8 := fun w h => List.mem_cons_of_mem _ (wu_4 w h)
  have k_9 := hwg _ wf_RJx4a65c_9
  intro S H locs ls a0 hp hW hE hl hL_a0 hK_a0
  unfold wp_Jx4a65c_init_da8c8_0 at hp
  refine lv_aload_n hx hb dJx4a65c_init_da8c8_0 rfl (lv_at hl 0 rfl) ?_
  refine w_callV (va_runI (As := []) (rest := []) F (c_Jxc12de_init_da8c8 l hL_a0 hK_a0 hp H.size) (cwI 0 hts (wg_cons wy_Jxc12de_init_da8c8.2.2) rfl rfl rfl (hwg _ wy_Jxc12de_init_da8c8.2.1) (hwg _ wm_RJx4a65c_1) (hwg _ wy_Jxc12de_init_da8c8.1) rfl (by decide +kernel) ⟨Nat.le_of_ble_eq_true rfl, Nat.le_of_ble_eq_true rfl⟩) (w_preS hK hW) rfl rfl hl.1 rfl (lv_room (Nat.le_of_ble_eq_true rfl)) dJx4a65c_init_da8c8_1 ⟨Nat.le_of_ble_eq_true rfl, Nat.le_of_ble_eq_true rfl⟩) hW (fun S_2 H locs hp hW => ?_)
  obtain ⟨hX_S_2, hp⟩ := hp
  refine W.widen (k := 0) (n := 0) (by decide) (by decide) ?_
  have hE := hE.trans hX_S_2
  have hK_a0 : sK S_2 a0 = 4 := (hX_S_2.2 a0 hL_a0).1.trans hK_a0
  have hL_a0 : wM D S_2 a0 := hX_S_2.M hL_a0
  refine lv_aload_n hx hb dJx4a65c_init_da8c8_4 rfl (lv_at hl 0 rfl) ?_
  refine w_stat F hK hW (show ("java/util/ArrayList", "DEFAULTCAPACITY_EMPTY_ELEMENTDATA", "[Ljava/lang/Object;", 106, 24) ∈ wSr by decide +kernel) (hwg _ wf_RJx4a65c_39) dJx4a65c_init_da8c8_5 ?_
  obtain ⟨y_3, ey_3⟩ : ∃ z : Nat, z = D.2.2.1 106 := ⟨_, rfl⟩
  rw [← ey_3]
  replace hp := hp y_3 ey_3
  obtain ⟨hL_y_3, hK_y_3⟩ : wM D S_2 y_3 ∧ sK S_2 y_3 = 24 := by rw [ey_3]; exact w_statM hK hW (show ("java/util/ArrayList", "DEFAULTCAPACITY_EMPTY_ELEMENTDATA", "[Ljava/lang/Object;", 106, 24) ∈ wSr by decide +kernel)
  refine w_putR (k := 4) (f := 1) (T := TJx4a65c) (g := (some y_3)) F hK hW hL_a0 hK_a0 (by decide) (by decide) rfl rfl (by decide) i_4 tyJx4a65c tyJx4a65c_ok nmJx4a65c k_9 rfl rfl (ty := (.array (.object "java/lang/Object"))) rfl (v_narrow _ _) (v_fitsA _ _) dJx4a65c_init_da8c8_8 (fun H locs hW => ?_)
  obtain ⟨S_4, eS_4⟩ : ∃ z : wS, z = uR S_2 a0 1 (some y_3) := ⟨_, rfl⟩
  rw [← eS_4] at hW
  replace hp := hp S_4 eS_4
  have hX_S_4 : wX D S_2 S_4 := by rw [eS_4]; exact wX_uR
  have hE := hE.trans hX_S_4
  have hK_a0 : sK S_4 a0 = 4 := (hX_S_4.2 a0 hL_a0).1.trans hK_a0
  have hL_a0 : wM D S_4 a0 := hX_S_4.M hL_a0
  exact w_vret hx hb hr hlocks hW ⟨hE, hp⟩ dJx4a65c_init_da8c8_11
set_option maxHeartbeats 4000000 in
set_option maxRecDepth 100000 in
theorem c_Jx4a65c_init_da8c8 (l : Launch) {D : wD} {cy : Nat → ClassId} {X : va_W} {S0 : wS} {post : wS → Prop} {a0 : Nat} (hL_a0 : wM D S0 a0) (hK_a0 : sK S0 a0 = 4) (hp : wp_Jx4a65c_init_da8c8 D post S0 a0) : mV D cy X l yJx4a65c_init_da8c8 wz_Jx4a65c_init_da8c8 r_Jx4a65c_init_da8c8 [.ref a0] S0 (fun S9 => wX D S0 S9 ∧ post S9) := by
  intro sz
  refine Met.ofW (cc := cJx4a65c_init_da8c8) (maxL := 1) (ret := none) (by decide) rfl ?_
  intro p e s m args below meth c s₁ B hml hv
  obtain ⟨rfl, hsz, hP, hK, hD0, hRO⟩ := hv
  have hts := atoms_spec (ws := wz_Jx4a65c_init_da8c8) B.pre
  have hown : s.vm.findClass RJx4a65c = some m.cls := findClass_of_methodNamed B.named
  subst hsz
  have hD := hD0.self (sz := s.heap.size)
  have F : CallFix p m c cJx4a65c_init_da8c8 1 s _ wz_Jx4a65c_init_da8c8 RJx4a65c := ⟨B.exec, B.bytes, hml, hown, hts⟩
  have hr := B.returns
  have hlocks := B.notSynchronized
  have hin : meth.name = "<init>" := (name_of_methodNamed B.named B.method).1
  generalize hAe : va_A (wL cy X S0) s.heap.size = A at hD hK ⊢
  have hA : ∀ q, s.heap.size ≤ q → A q := fun q h => by rw [← hAe]; exact Or.inr h
  have hW : wO D cy X A s.heap S0 s.heap [] := ⟨hP, hD, va_S.rf, hA, hRO⟩
  have hl := lv_entry ([.ref a0]) (n := 1) (Nat.le_of_ble_eq_true rfl)
  rw [lg_entry_eq]
  generalize (lg_sl ([.ref a0]) ++ List.replicate (1 - (lg_sl ([.ref a0])).length) Slot.unset).toArray = ls at hl ⊢
  have hl : lv_has ls 1 [(0, .ref a0)] := hl
  unfold wp_Jx4a65c_init_da8c8 at hp
  exact t_Jx4a65c_init_da8c8_0 F hr hlocks hK hin hp hW wX.rf (lv_sub hl [0] rfl) hL_a0 hK_a0
def wp_Jx4a65c_size_8abf5_0 (D : wD) (post : Int32 → wS → Prop)  (S : wS) (a0 : Nat) : Prop :=
post (sI S a0 2) S
abbrev r_Jx4a65c_size_8abf5 : Room := { frames := 0, cells := 0, slots := 0, locals := 0 }
def wp_Jx4a65c_size_8abf5 (D : wD) (post : Int32 → wS → Prop) (S : wS) (a0 : Nat) : Prop := wp_Jx4a65c_size_8abf5_0 D post S a0
set_option maxHeartbeats 4000000 in
set_option maxRecDepth 100000 in
theorem t_Jx4a65c_size_8abf5_0 {p : Program} {l : Launch} {e : Env} {s : State} {m : MethodId} {args : Array Value} {below : List Frame} {meth : Method} {c : Code} {D : wD} {cy : Nat → ClassId} {X : va_W} {A : Nat → Prop} {S0 : wS} {post : Int32 → wS → Prop} (F : CallFix p m c cJx4a65c_size_8abf5 1 s args wz_Jx4a65c_size_8abf5 RJx4a65c) (hr : meth.sig.returnType = (some .int)) (hlocks : meth.locks = false) (hK : wK D cy A s) : ∀ {S : wS} {H : Heap} {locs : List Loc} {ls : Array Slot} {a0 : Nat}, wp_Jx4a65c_size_8abf5_0 D post S a0 → wO D cy X A s.heap S H locs → wX D S0 S → lv_has ls 1 [(0, .ref a0)] → wM D S a0 → sK S a0 = 4 → W p l e r_Jx4a65c_size_8abf5 s m args below meth c H locs 0 0 (MQ below (va_Qi (fun r S9 => wX D S0 S9 ∧ post r S9) (wB D cy X A) A) args s 0 0 A) (F0 m 0 ls []) := by
  obtain ⟨hx, hb, hml, hown, hts⟩ := id F
  have hwg : ∀ w ∈ WG, w.before args s = true := fun w h => hts w (List.mem_cons_of_mem _ h)
  have i_4 : ∀ w ∈ u_ws RJx4a65c TJx4a65c 3, w ∈ wz_Jx4a65c_size_8abf5 := fun w h => List.mem_cons_of_mem _ (wu_4 w h)
  have k_48 := hwg _ wf_RJx4a65c_48
  intro S H locs ls a0 hp hW hE hl hL_a0 hK_a0
  unfold wp_Jx4a65c_size_8abf5_0 at hp
  refine lv_aload_n hx hb dJx4a65c_size_8abf5_0 rfl (lv_at hl 0 rfl) ?_
  refine w_get (k := 4) (f := 2) (T := TJx4a65c) (v := .int (sI S a0 2)) F hK hW hL_a0 hK_a0 (by decide) rfl rfl (by decide) i_4 k_48 rfl dJx4a65c_size_8abf5_1 ?_
  exact w_iret hx hb hr hlocks hW ⟨hE, hp⟩ dJx4a65c_size_8abf5_4
set_option maxHeartbeats 4000000 in
set_option maxRecDepth 100000 in
theorem c_Jx4a65c_size_8abf5 (l : Launch) {D : wD} {cy : Nat → ClassId} {X : va_W} {S0 : wS} {post : Int32 → wS → Prop} {a0 : Nat} (hL_a0 : wM D S0 a0) (hK_a0 : sK S0 a0 = 4) (hp : wp_Jx4a65c_size_8abf5 D post S0 a0) : mI D cy X l yJx4a65c_size_8abf5 wz_Jx4a65c_size_8abf5 r_Jx4a65c_size_8abf5 [.ref a0] S0 (fun r S9 => wX D S0 S9 ∧ post r S9) := by
  intro sz
  refine Met.ofW (cc := cJx4a65c_size_8abf5) (maxL := 1) (ret := (some .int)) (by decide) rfl ?_
  intro p e s m args below meth c s₁ B hml hv
  obtain ⟨rfl, hsz, hP, hK, hD0, hRO⟩ := hv
  have hts := atoms_spec (ws := wz_Jx4a65c_size_8abf5) B.pre
  have hown : s.vm.findClass RJx4a65c = some m.cls := findClass_of_methodNamed B.named
  subst hsz
  have hD := hD0.self (sz := s.heap.size)
  have F : CallFix p m c cJx4a65c_size_8abf5 1 s _ wz_Jx4a65c_size_8abf5 RJx4a65c := ⟨B.exec, B.bytes, hml, hown, hts⟩
  have hr := B.returns
  have hlocks := B.notSynchronized
  generalize hAe : va_A (wL cy X S0) s.heap.size = A at hD hK ⊢
  have hA : ∀ q, s.heap.size ≤ q → A q := fun q h => by rw [← hAe]; exact Or.inr h
  have hW : wO D cy X A s.heap S0 s.heap [] := ⟨hP, hD, va_S.rf, hA, hRO⟩
  have hl := lv_entry ([.ref a0]) (n := 1) (Nat.le_of_ble_eq_true rfl)
  rw [lg_entry_eq]
  generalize (lg_sl ([.ref a0]) ++ List.replicate (1 - (lg_sl ([.ref a0])).length) Slot.unset).toArray = ls at hl ⊢
  have hl : lv_has ls 1 [(0, .ref a0)] := hl
  unfold wp_Jx4a65c_size_8abf5 at hp
  exact t_Jx4a65c_size_8abf5_0 F hr hlocks hK hp hW wX.rf (lv_sub hl [0] rfl) hL_a0 hK_a0
def wp_X0_init_0 (D : wD) (post : wS → Prop)  (S : wS) (a0 : Nat) : Prop :=
∀ S_1 : wS, S_1 = uI S a0 0 (0 : Int32) →
∀ S_2 : wS, S_2 = uI S_1 a0 1 (0 : Int32) →
∀ S_3 : wS, S_3 = uI S_2 a0 2 (0 : Int32) →
∀ S_4 : wS, S_4 = uJ S_3 a0 3 (0 : Int64) →
¬ (64 : Int32) < 0 ∧ ((64 : Int32)).toNatClampNeg ≤ 64 ∧ ∀ y_5 : Nat, ¬ wM D S_4 y_5 → ∀ S_6 : wS, S_6 = nA S_4 y_5 21 ((64 : Int32)).toNatClampNeg →
∀ S_8 : wS, S_8 = uR S_6 a0 4 (some y_5) →
¬ (64 : Int32) < 0 ∧ ((64 : Int32)).toNatClampNeg ≤ 64 ∧ ∀ y_9 : Nat, ¬ wM D S_8 y_9 → ∀ S_10 : wS, S_10 = nA S_8 y_9 21 ((64 : Int32)).toNatClampNeg →
∀ S_12 : wS, S_12 = uR S_10 a0 5 (some y_9) →
¬ (512 : Int32) < 0 ∧ ((512 : Int32)).toNatClampNeg ≤ 512 ∧ ∀ y_13 : Nat, ¬ wM D S_12 y_13 → ∀ S_14 : wS, S_14 = nA S_12 y_13 22 ((512 : Int32)).toNatClampNeg →
∀ S_16 : wS, S_16 = uR S_14 a0 6 (some y_13) →
¬ (64 : Int32) < 0 ∧ ((64 : Int32)).toNatClampNeg ≤ 64 ∧ ∀ y_17 : Nat, ¬ wM D S_16 y_17 → ∀ S_18 : wS, S_18 = nA S_16 y_17 22 ((64 : Int32)).toNatClampNeg →
∀ S_20 : wS, S_20 = uR S_18 a0 7 (some y_17) →
¬ (64 : Int32) < 0 ∧ ((64 : Int32)).toNatClampNeg ≤ 64 ∧ ∀ y_21 : Nat, ¬ wM D S_20 y_21 → ∀ S_22 : wS, S_22 = nA S_20 y_21 22 ((64 : Int32)).toNatClampNeg →
∀ S_24 : wS, S_24 = uR S_22 a0 8 (some y_21) →
¬ (64 : Int32) < 0 ∧ ((64 : Int32)).toNatClampNeg ≤ 64 ∧ ∀ y_25 : Nat, ¬ wM D S_24 y_25 → ∀ S_26 : wS, S_26 = nA S_24 y_25 22 ((64 : Int32)).toNatClampNeg →
∀ S_28 : wS, S_28 = uR S_26 a0 9 (some y_25) →
¬ (64 : Int32) < 0 ∧ ((64 : Int32)).toNatClampNeg ≤ 64 ∧ ∀ y_29 : Nat, ¬ wM D S_28 y_29 → ∀ S_30 : wS, S_30 = nA S_28 y_29 22 ((64 : Int32)).toNatClampNeg →
∀ S_32 : wS, S_32 = uR S_30 a0 10 (some y_29) →
¬ (64 : Int32) < 0 ∧ ((64 : Int32)).toNatClampNeg ≤ 64 ∧ ∀ y_33 : Nat, ¬ wM D S_32 y_33 → ∀ S_34 : wS, S_34 = nA S_32 y_33 22 ((64 : Int32)).toNatClampNeg →
∀ S_36 : wS, S_36 = uR S_34 a0 11 (some y_33) →
post S_36
abbrev r_X0_init : Room := { frames := 1, cells := 8, slots := 960, locals := 60 }
def wp_X0_init (D : wD) (post : wS → Prop) (S : wS) (a0 : Nat) : Prop := wp_X0_init_0 D post S a0
set_option maxHeartbeats 4000000 in
set_option maxRecDepth 100000 in
theorem t_X0_init_0 {p : Program} {l : Launch} {e : Env} {s : State} {m : MethodId} {args : Array Value} {below : List Frame} {meth : Method} {c : Code} {D : wD} {cy : Nat → ClassId} {X : va_W} {A : Nat → Prop} {S0 : wS} {post : wS → Prop} (F : CallFix p m c cX0_init 1 s args wz_X0_init RX0) (hr : meth.sig.returnType = none) (hlocks : meth.locks = false) (hK : wK D cy A s) (hin : meth.name = "<init>") : ∀ {S : wS} {H : Heap} {locs : List Loc} {ls : Array Slot} {a0 : Nat}, wp_X0_init_0 D post S a0 → wO D cy X A s.heap S H locs → wX D S0 S → lv_has ls 1 [(0, .ref a0)] → wM D S a0 → sK S a0 = 5 → W p l e r_X0_init s m args below meth c H locs 0 0 (MQ below (va_Qv (fun S9 => wX D S0 S9 ∧ post S9) (wB D cy X A) A) args s 8 960 A) (F0 m 0 ls []) := by
  obtain ⟨hx, hb, hml, hown, hts⟩ := id F
  have hwg : ∀ w ∈ WG, w.before args s = true := fun w h => hts w (List.mem_cons_of_mem _ h)
  have i_5 : ∀ w ∈ u_ws RX0 TX0 12, w ∈ wz_X0_init := fun w h => List.mem_cons_of_mem _ (wu_5 w h)
  have k_15 := hwg _ wf_RX0_15
  have k_18 := hwg _ wf_RX0_18
  have k_21 := hwg _ wf_RX0_21
  have k_25 := hwg _ wf_RX0_25
  have k_29 := hwg _ wf_RX0_29
  have k_32 := hwg _ wf_RX0_32
  have k_36 := hwg _ wf_RX0_36
  have k_39 := hwg _ wf_RX0_39
  have k_42 := hwg _ wf_RX0_42
  have k_45 := hwg _ wf_RX0_45
  have k_48 := hwg _ wf_RX0_48
  have k_9 := hwg _ wf_RX0_9
  intro S H locs ls a0 hp hW hE hl hL_a0 hK_a0
  unfold wp_X0_init_0 at hp
  refine lv_aload_n hx hb dX0_init_0 rfl (lv_at hl 0 rfl) ?_
  refine W.objInit hx hb hown (hwg _ wm_RX0_3) (hwg _ wobj.1) (hwg _ wobj.2) rfl (by rw [hml]; exact hl.1) rfl dX0_init_1 (Nat.le_of_ble_eq_true rfl) (Nat.le_of_ble_eq_true rfl) ?_
  refine W.eq (g2 := F0 m 4 ls []) rfl ?_
  refine lv_aload_n hx hb dX0_init_4 rfl (lv_at hl 0 rfl) ?_
  refine lv_iconst (v := 0) hx hb dX0_init_5 (by decide) ?_
  refine w_putI (k := 5) (f := 0) (T := TX0) F hK hW hL_a0 hK_a0 (by decide) (by decide) rfl rfl (by decide) i_5 tyX0 tyX0_ok nmX0 k_9 rfl rfl (ty := .int) rfl rfl rfl dX0_init_6 (fun H locs hW => ?_)
  obtain ⟨S_1, eS_1⟩ : ∃ z : wS, z = uI S a0 0 (0 : Int32) := ⟨_, rfl⟩
  rw [← eS_1] at hW
  replace hp := hp S_1 eS_1
  have hX_S_1 : wX D S S_1 := by rw [eS_1]; exact wX_uI
  have hE := hE.trans hX_S_1
  have hK_a0 : sK S_1 a0 = 5 := (hX_S_1.2 a0 hL_a0).1.trans hK_a0
  have hL_a0 : wM D S_1 a0 := hX_S_1.M hL_a0
  refine lv_aload_n hx hb dX0_init_9 rfl (lv_at hl 0 rfl) ?_
  refine lv_iconst (v := 0) hx hb dX0_init_10 (by decide) ?_
  refine w_putI (k := 5) (f := 1) (T := TX0) F hK hW hL_a0 hK_a0 (by decide) (by decide) rfl rfl (by decide) i_5 tyX0 tyX0_ok nmX0 k_15 rfl rfl (ty := .int) rfl rfl rfl dX0_init_11 (fun H locs hW => ?_)
  obtain ⟨S_2, eS_2⟩ : ∃ z : wS, z = uI S_1 a0 1 (0 : Int32) := ⟨_, rfl⟩
  rw [← eS_2] at hW
  replace hp := hp S_2 eS_2
  have hX_S_2 : wX D S_1 S_2 := by rw [eS_2]; exact wX_uI
  have hE := hE.trans hX_S_2
  have hK_a0 : sK S_2 a0 = 5 := (hX_S_2.2 a0 hL_a0).1.trans hK_a0
  have hL_a0 : wM D S_2 a0 := hX_S_2.M hL_a0
  refine lv_aload_n hx hb dX0_init_14 rfl (lv_at hl 0 rfl) ?_
  refine lv_iconst (v := 0) hx hb dX0_init_15 (by decide) ?_
  refine w_putI (k := 5) (f := 2) (T := TX0) F hK hW hL_a0 hK_a0 (by decide) (by decide) rfl rfl (by decide) i_5 tyX0 tyX0_ok nmX0 k_18 rfl rfl (ty := .int) rfl rfl rfl dX0_init_16 (fun H locs hW => ?_)
  obtain ⟨S_3, eS_3⟩ : ∃ z : wS, z = uI S_2 a0 2 (0 : Int32) := ⟨_, rfl⟩
  rw [← eS_3] at hW
  replace hp := hp S_3 eS_3
  have hX_S_3 : wX D S_2 S_3 := by rw [eS_3]; exact wX_uI
  have hE := hE.trans hX_S_3
  have hK_a0 : sK S_3 a0 = 5 := (hX_S_3.2 a0 hL_a0).1.trans hK_a0
  have hL_a0 : wM D S_3 a0 := hX_S_3.M hL_a0
  refine lv_aload_n hx hb dX0_init_19 rfl (lv_at hl 0 rfl) ?_
  refine lv_lconst (v := 0) hx hb dX0_init_20 (by decide) ?_
  refine w_putJ (k := 5) (f := 3) (T := TX0) F hK hW hL_a0 hK_a0 (by decide) (by decide) rfl rfl (by decide) i_5 tyX0 tyX0_ok nmX0 k_21 rfl rfl rfl dX0_init_21 (fun H locs hW => ?_)
  obtain ⟨S_4, eS_4⟩ : ∃ z : wS, z = uJ S_3 a0 3 (0 : Int64) := ⟨_, rfl⟩
  rw [← eS_4] at hW
  replace hp := hp S_4 eS_4
  have hX_S_4 : wX D S_3 S_4 := by rw [eS_4]; exact wX_uJ
  have hE := hE.trans hX_S_4
  have hK_a0 : sK S_4 a0 = 5 := (hX_S_4.2 a0 hL_a0).1.trans hK_a0
  have hL_a0 : wM D S_4 a0 := hX_S_4.M hL_a0
  refine lv_aload_n hx hb dX0_init_24 rfl (lv_at hl 0 rfl) ?_
  refine lv_bipush (v := 64) hx hb dX0_init_25 (by decide) ?_
  obtain ⟨h_7, h_7b, hp⟩ := hp
  refine w_newaI F hK hW (hwg _ wr_int) h_7 (by omega) (Nat.le_of_ble_eq_true rfl) (Nat.le_trans (Nat.add_le_add_left h_7b _) (Nat.le_of_ble_eq_true rfl)) dX0_init_27 (fun y_5 H hq_y_5 hW => ?_)
  refine W.widen (k := 1) (n := 64) (by decide) (Nat.add_le_add_left h_7b _) ?_
  obtain ⟨S_6, eS_6⟩ : ∃ z : wS, z = nA S_4 y_5 21 ((64 : Int32)).toNatClampNeg := ⟨_, rfl⟩
  rw [← eS_6] at hW
  replace hp := hp y_5 hq_y_5 S_6 eS_6
  have hX_S_6 : wX D S_4 S_6 := by rw [eS_6]; exact wX_nA hq_y_5
  have hE := hE.trans hX_S_6
  have hK_a0 : sK S_6 a0 = 5 := (hX_S_6.2 a0 hL_a0).1.trans hK_a0
  have hL_a0 : wM D S_6 a0 := hX_S_6.M hL_a0
  have hL_y_5 : wM D S_6 y_5 := by rw [eS_6]; exact Or.inl (List.mem_append_right _ List.mem_cons_self)
  have hK_y_5 : sK S_6 y_5 = 21 := by rw [eS_6]; exact va_up_self _ _ _
  refine w_putRF (k := 5) (f := 4) (T := TX0) (g := (some y_5)) F hK hW hL_a0 hK_a0 (by decide) (by decide) rfl rfl (by decide) i_5 tyX0 tyX0_ok nmX0 k_25 rfl rfl hin rfl (ty := (.array .int)) rfl (v_narrow _ _) (v_fitsA _ _) dX0_init_29 (fun H locs hW => ?_)
  obtain ⟨S_8, eS_8⟩ : ∃ z : wS, z = uR S_6 a0 4 (some y_5) := ⟨_, rfl⟩
  rw [← eS_8] at hW
  replace hp := hp S_8 eS_8
  have hX_S_8 : wX D S_6 S_8 := by rw [eS_8]; exact wX_uR
  have hE := hE.trans hX_S_8
  have hK_a0 : sK S_8 a0 = 5 := (hX_S_8.2 a0 hL_a0).1.trans hK_a0
  have hL_a0 : wM D S_8 a0 := hX_S_8.M hL_a0
  refine lv_aload_n hx hb dX0_init_32 rfl (lv_at hl 0 rfl) ?_
  refine lv_bipush (v := 64) hx hb dX0_init_33 (by decide) ?_
  obtain ⟨h_11, h_11b, hp⟩ := hp
  refine w_newaI F hK hW (hwg _ wr_int) h_11 (by omega) (Nat.le_of_ble_eq_true rfl) (Nat.le_trans (Nat.add_le_add_left h_11b _) (Nat.le_of_ble_eq_true rfl)) dX0_init_35 (fun y_9 H hq_y_9 hW => ?_)
  refine W.widen (k := 2) (n := 128) (by decide) (Nat.add_le_add_left h_11b _) ?_
  obtain ⟨S_10, eS_10⟩ : ∃ z : wS, z = nA S_8 y_9 21 ((64 : Int32)).toNatClampNeg := ⟨_, rfl⟩
  rw [← eS_10] at hW
  replace hp := hp y_9 hq_y_9 S_10 eS_10
  have hX_S_10 : wX D S_8 S_10 := by rw [eS_10]; exact wX_nA hq_y_9
  have hE := hE.trans hX_S_10
  have hK_a0 : sK S_10 a0 = 5 := (hX_S_10.2 a0 hL_a0).1.trans hK_a0
  have hL_a0 : wM D S_10 a0 := hX_S_10.M hL_a0
  have hL_y_9 : wM D S_10 y_9 := by rw [eS_10]; exact Or.inl (List.mem_append_right _ List.mem_cons_self)
  have hK_y_9 : sK S_10 y_9 = 21 := by rw [eS_10]; exact va_up_self _ _ _
  refine w_putRF (k := 5) (f := 5) (T := TX0) (g := (some y_9)) F hK hW hL_a0 hK_a0 (by decide) (by decide) rfl rfl (by decide) i_5 tyX0 tyX0_ok nmX0 k_29 rfl rfl hin rfl (ty := (.array .int)) rfl (v_narrow _ _) (v_fitsA _ _) dX0_init_37 (fun H locs hW => ?_)
  obtain ⟨S_12, eS_12⟩ : ∃ z : wS, z = uR S_10 a0 5 (some y_9) := ⟨_, rfl⟩
  rw [← eS_12] at hW
  replace hp := hp S_12 eS_12
  have hX_S_12 : wX D S_10 S_12 := by rw [eS_12]; exact wX_uR
  have hE := hE.trans hX_S_12
  have hK_a0 : sK S_12 a0 = 5 := (hX_S_12.2 a0 hL_a0).1.trans hK_a0
  have hL_a0 : wM D S_12 a0 := hX_S_12.M hL_a0
  refine lv_aload_n hx hb dX0_init_40 rfl (lv_at hl 0 rfl) ?_
  refine lv_sipush (v := 512) hx hb dX0_init_41 (by decide) ?_
  obtain ⟨h_15, h_15b, hp⟩ := hp
  refine w_newaJ F hK hW (hwg _ wr_long) h_15 (by omega) (Nat.le_of_ble_eq_true rfl) (Nat.le_trans (Nat.add_le_add_left h_15b _) (Nat.le_of_ble_eq_true rfl)) dX0_init_44 (fun y_13 H hq_y_13 hW => ?_)
  refine W.widen (k := 3) (n := 640) (by decide) (Nat.add_le_add_left h_15b _) ?_
  obtain ⟨S_14, eS_14⟩ : ∃ z : wS, z = nA S_12 y_13 22 ((512 : Int32)).toNatClampNeg := ⟨_, rfl⟩
  rw [← eS_14] at hW
  replace hp := hp y_13 hq_y_13 S_14 eS_14
  have hX_S_14 : wX D S_12 S_14 := by rw [eS_14]; exact wX_nA hq_y_13
  have hE := hE.trans hX_S_14
  have hK_a0 : sK S_14 a0 = 5 := (hX_S_14.2 a0 hL_a0).1.trans hK_a0
  have hL_a0 : wM D S_14 a0 := hX_S_14.M hL_a0
  have hL_y_13 : wM D S_14 y_13 := by rw [eS_14]; exact Or.inl (List.mem_append_right _ List.mem_cons_self)
  have hK_y_13 : sK S_14 y_13 = 22 := by rw [eS_14]; exact va_up_self _ _ _
  refine w_putRF (k := 5) (f := 6) (T := TX0) (g := (some y_13)) F hK hW hL_a0 hK_a0 (by decide) (by decide) rfl rfl (by decide) i_5 tyX0 tyX0_ok nmX0 k_32 rfl rfl hin rfl (ty := (.array .long)) rfl (v_narrow _ _) (v_fitsA _ _) dX0_init_46 (fun H locs hW => ?_)
  obtain ⟨S_16, eS_16⟩ : ∃ z : wS, z = uR S_14 a0 6 (some y_13) := ⟨_, rfl⟩
  rw [← eS_16] at hW
  replace hp := hp S_16 eS_16
  have hX_S_16 : wX D S_14 S_16 := by rw [eS_16]; exact wX_uR
  have hE := hE.trans hX_S_16
  have hK_a0 : sK S_16 a0 = 5 := (hX_S_16.2 a0 hL_a0).1.trans hK_a0
  have hL_a0 : wM D S_16 a0 := hX_S_16.M hL_a0
  refine lv_aload_n hx hb dX0_init_49 rfl (lv_at hl 0 rfl) ?_
  refine lv_bipush (v := 64) hx hb dX0_init_50 (by decide) ?_
  obtain ⟨h_19, h_19b, hp⟩ := hp
  refine w_newaJ F hK hW (hwg _ wr_long) h_19 (by omega) (Nat.le_of_ble_eq_true rfl) (Nat.le_trans (Nat.add_le_add_left h_19b _) (Nat.le_of_ble_eq_true rfl)) dX0_init_52 (fun y_17 H hq_y_17 hW => ?_)
  refine W.widen (k := 4) (n := 704) (by decide) (Nat.add_le_add_left h_19b _) ?_
  obtain ⟨S_18, eS_18⟩ : ∃ z : wS, z = nA S_16 y_17 22 ((64 : Int32)).toNatClampNeg := ⟨_, rfl⟩
  rw [← eS_18] at hW
  replace hp := hp y_17 hq_y_17 S_18 eS_18
  have hX_S_18 : wX D S_16 S_18 := by rw [eS_18]; exact wX_nA hq_y_17
  have hE := hE.trans hX_S_18
  have hK_a0 : sK S_18 a0 = 5 := (hX_S_18.2 a0 hL_a0).1.trans hK_a0
  have hL_a0 : wM D S_18 a0 := hX_S_18.M hL_a0
  have hL_y_17 : wM D S_18 y_17 := by rw [eS_18]; exact Or.inl (List.mem_append_right _ List.mem_cons_self)
  have hK_y_17 : sK S_18 y_17 = 22 := by rw [eS_18]; exact va_up_self _ _ _
  refine w_putRF (k := 5) (f := 7) (T := TX0) (g := (some y_17)) F hK hW hL_a0 hK_a0 (by decide) (by decide) rfl rfl (by decide) i_5 tyX0 tyX0_ok nmX0 k_36 rfl rfl hin rfl (ty := (.array .long)) rfl (v_narrow _ _) (v_fitsA _ _) dX0_init_54 (fun H locs hW => ?_)
  obtain ⟨S_20, eS_20⟩ : ∃ z : wS, z = uR S_18 a0 7 (some y_17) := ⟨_, rfl⟩
  rw [← eS_20] at hW
  replace hp := hp S_20 eS_20
  have hX_S_20 : wX D S_18 S_20 := by rw [eS_20]; exact wX_uR
  have hE := hE.trans hX_S_20
  have hK_a0 : sK S_20 a0 = 5 := (hX_S_20.2 a0 hL_a0).1.trans hK_a0
  have hL_a0 : wM D S_20 a0 := hX_S_20.M hL_a0
  refine lv_aload_n hx hb dX0_init_57 rfl (lv_at hl 0 rfl) ?_
  refine lv_bipush (v := 64) hx hb dX0_init_58 (by decide) ?_
  obtain ⟨h_23, h_23b, hp⟩ := hp
  refine w_newaJ F hK hW (hwg _ wr_long) h_23 (by omega) (Nat.le_of_ble_eq_true rfl) (Nat.le_trans (Nat.add_le_add_left h_23b _) (Nat.le_of_ble_eq_true rfl)) dX0_init_60 (fun y_21 H hq_y_21 hW => ?_)
  refine W.widen (k := 5) (n := 768) (by decide) (Nat.add_le_add_left h_23b _) ?_
  obtain ⟨S_22, eS_22⟩ : ∃ z : wS, z = nA S_20 y_21 22 ((64 : Int32)).toNatClampNeg := ⟨_, rfl⟩
  rw [← eS_22] at hW
  replace hp := hp y_21 hq_y_21 S_22 eS_22
  have hX_S_22 : wX D S_20 S_22 := by rw [eS_22]; exact wX_nA hq_y_21
  have hE := hE.trans hX_S_22
  have hK_a0 : sK S_22 a0 = 5 := (hX_S_22.2 a0 hL_a0).1.trans hK_a0
  have hL_a0 : wM D S_22 a0 := hX_S_22.M hL_a0
  have hL_y_21 : wM D S_22 y_21 := by rw [eS_22]; exact Or.inl (List.mem_append_right _ List.mem_cons_self)
  have hK_y_21 : sK S_22 y_21 = 22 := by rw [eS_22]; exact va_up_self _ _ _
  refine w_putRF (k := 5) (f := 8) (T := TX0) (g := (some y_21)) F hK hW hL_a0 hK_a0 (by decide) (by decide) rfl rfl (by decide) i_5 tyX0 tyX0_ok nmX0 k_39 rfl rfl hin rfl (ty := (.array .long)) rfl (v_narrow _ _) (v_fitsA _ _) dX0_init_62 (fun H locs hW => ?_)
  obtain ⟨S_24, eS_24⟩ : ∃ z : wS, z = uR S_22 a0 8 (some y_21) := ⟨_, rfl⟩
  rw [← eS_24] at hW
  replace hp := hp S_24 eS_24
  have hX_S_24 : wX D S_22 S_24 := by rw [eS_24]; exact wX_uR
  have hE := hE.trans hX_S_24
  have hK_a0 : sK S_24 a0 = 5 := (hX_S_24.2 a0 hL_a0).1.trans hK_a0
  have hL_a0 : wM D S_24 a0 := hX_S_24.M hL_a0
  refine lv_aload_n hx hb dX0_init_65 rfl (lv_at hl 0 rfl) ?_
  refine lv_bipush (v := 64) hx hb dX0_init_66 (by decide) ?_
  obtain ⟨h_27, h_27b, hp⟩ := hp
  refine w_newaJ F hK hW (hwg _ wr_long) h_27 (by omega) (Nat.le_of_ble_eq_true rfl) (Nat.le_trans (Nat.add_le_add_left h_27b _) (Nat.le_of_ble_eq_true rfl)) dX0_init_68 (fun y_25 H hq_y_25 hW => ?_)
  refine W.widen (k := 6) (n := 832) (by decide) (Nat.add_le_add_left h_27b _) ?_
  obtain ⟨S_26, eS_26⟩ : ∃ z : wS, z = nA S_24 y_25 22 ((64 : Int32)).toNatClampNeg := ⟨_, rfl⟩
  rw [← eS_26] at hW
  replace hp := hp y_25 hq_y_25 S_26 eS_26
  have hX_S_26 : wX D S_24 S_26 := by rw [eS_26]; exact wX_nA hq_y_25
  have hE := hE.trans hX_S_26
  have hK_a0 : sK S_26 a0 = 5 := (hX_S_26.2 a0 hL_a0).1.trans hK_a0
  have hL_a0 : wM D S_26 a0 := hX_S_26.M hL_a0
  have hL_y_25 : wM D S_26 y_25 := by rw [eS_26]; exact Or.inl (List.mem_append_right _ List.mem_cons_self)
  have hK_y_25 : sK S_26 y_25 = 22 := by rw [eS_26]; exact va_up_self _ _ _
  refine w_putRF (k := 5) (f := 9) (T := TX0) (g := (some y_25)) F hK hW hL_a0 hK_a0 (by decide) (by decide) rfl rfl (by decide) i_5 tyX0 tyX0_ok nmX0 k_42 rfl rfl hin rfl (ty := (.array .long)) rfl (v_narrow _ _) (v_fitsA _ _) dX0_init_70 (fun H locs hW => ?_)
  obtain ⟨S_28, eS_28⟩ : ∃ z : wS, z = uR S_26 a0 9 (some y_25) := ⟨_, rfl⟩
  rw [← eS_28] at hW
  replace hp := hp S_28 eS_28
  have hX_S_28 : wX D S_26 S_28 := by rw [eS_28]; exact wX_uR
  have hE := hE.trans hX_S_28
  have hK_a0 : sK S_28 a0 = 5 := (hX_S_28.2 a0 hL_a0).1.trans hK_a0
  have hL_a0 : wM D S_28 a0 := hX_S_28.M hL_a0
  refine lv_aload_n hx hb dX0_init_73 rfl (lv_at hl 0 rfl) ?_
  refine lv_bipush (v := 64) hx hb dX0_init_74 (by decide) ?_
  obtain ⟨h_31, h_31b, hp⟩ := hp
  refine w_newaJ F hK hW (hwg _ wr_long) h_31 (by omega) (Nat.le_of_ble_eq_true rfl) (Nat.le_trans (Nat.add_le_add_left h_31b _) (Nat.le_of_ble_eq_true rfl)) dX0_init_76 (fun y_29 H hq_y_29 hW => ?_)
  refine W.widen (k := 7) (n := 896) (by decide) (Nat.add_le_add_left h_31b _) ?_
  obtain ⟨S_30, eS_30⟩ : ∃ z : wS, z = nA S_28 y_29 22 ((64 : Int32)).toNatClampNeg := ⟨_, rfl⟩
  rw [← eS_30] at hW
  replace hp := hp y_29 hq_y_29 S_30 eS_30
  have hX_S_30 : wX D S_28 S_30 := by rw [eS_30]; exact wX_nA hq_y_29
  have hE := hE.trans hX_S_30
  have hK_a0 : sK S_30 a0 = 5 := (hX_S_30.2 a0 hL_a0).1.trans hK_a0
  have hL_a0 : wM D S_30 a0 := hX_S_30.M hL_a0
  have hL_y_29 : wM D S_30 y_29 := by rw [eS_30]; exact Or.inl (List.mem_append_right _ List.mem_cons_self)
  have hK_y_29 : sK S_30 y_29 = 22 := by rw [eS_30]; exact va_up_self _ _ _
  refine w_putRF (k := 5) (f := 10) (T := TX0) (g := (some y_29)) F hK hW hL_a0 hK_a0 (by decide) (by decide) rfl rfl (by decide) i_5 tyX0 tyX0_ok nmX0 k_45 rfl rfl hin rfl (ty := (.array .long)) rfl (v_narrow _ _) (v_fitsA _ _) dX0_init_78 (fun H locs hW => ?_)
  obtain ⟨S_32, eS_32⟩ : ∃ z : wS, z = uR S_30 a0 10 (some y_29) := ⟨_, rfl⟩
  rw [← eS_32] at hW
  replace hp := hp S_32 eS_32
  have hX_S_32 : wX D S_30 S_32 := by rw [eS_32]; exact wX_uR
  have hE := hE.trans hX_S_32
  have hK_a0 : sK S_32 a0 = 5 := (hX_S_32.2 a0 hL_a0).1.trans hK_a0
  have hL_a0 : wM D S_32 a0 := hX_S_32.M hL_a0
  refine lv_aload_n hx hb dX0_init_81 rfl (lv_at hl 0 rfl) ?_
  refine lv_bipush (v := 64) hx hb dX0_init_82 (by decide) ?_
  obtain ⟨h_35, h_35b, hp⟩ := hp
  refine w_newaJ F hK hW (hwg _ wr_long) h_35 (by omega) (Nat.le_of_ble_eq_true rfl) (Nat.le_trans (Nat.add_le_add_left h_35b _) (Nat.le_of_ble_eq_true rfl)) dX0_init_84 (fun y_33 H hq_y_33 hW => ?_)
  refine W.widen (k := 8) (n := 960) (by decide) (Nat.add_le_add_left h_35b _) ?_
  obtain ⟨S_34, eS_34⟩ : ∃ z : wS, z = nA S_32 y_33 22 ((64 : Int32)).toNatClampNeg := ⟨_, rfl⟩
  rw [← eS_34] at hW
  replace hp := hp y_33 hq_y_33 S_34 eS_34
  have hX_S_34 : wX D S_32 S_34 := by rw [eS_34]; exact wX_nA hq_y_33
  have hE := hE.trans hX_S_34
  have hK_a0 : sK S_34 a0 = 5 := (hX_S_34.2 a0 hL_a0).1.trans hK_a0
  have hL_a0 : wM D S_34 a0 := hX_S_34.M hL_a0
  have hL_y_33 : wM D S_34 y_33 := by rw [eS_34]; exact Or.inl (List.mem_append_right _ List.mem_cons_self)
  have hK_y_33 : sK S_34 y_33 = 22 := by rw [eS_34]; exact va_up_self _ _ _
  refine w_putRF (k := 5) (f := 11) (T := TX0) (g := (some y_33)) F hK hW hL_a0 hK_a0 (by decide) (by decide) rfl rfl (by decide) i_5 tyX0 tyX0_ok nmX0 k_48 rfl rfl hin rfl (ty := (.array .long)) rfl (v_narrow _ _) (v_fitsA _ _) dX0_init_86 (fun H locs hW => ?_)
  obtain ⟨S_36, eS_36⟩ : ∃ z : wS, z = uR S_34 a0 11 (some y_33) := ⟨_, rfl⟩
  rw [← eS_36] at hW
  replace hp := hp S_36 eS_36
  have hX_S_36 : wX D S_34 S_36 := by rw [eS_36]; exact wX_uR
  have hE := hE.trans hX_S_36
  have hK_a0 : sK S_36 a0 = 5 := (hX_S_36.2 a0 hL_a0).1.trans hK_a0
  have hL_a0 : wM D S_36 a0 := hX_S_36.M hL_a0
  exact w_vret hx hb hr hlocks hW ⟨hE, hp⟩ dX0_init_89
set_option maxHeartbeats 4000000 in
set_option maxRecDepth 100000 in
theorem c_X0_init (l : Launch) {D : wD} {cy : Nat → ClassId} {X : va_W} {S0 : wS} {post : wS → Prop} {a0 : Nat} (hL_a0 : wM D S0 a0) (hK_a0 : sK S0 a0 = 5) (hp : wp_X0_init D post S0 a0) : mV D cy X l yX0_init wz_X0_init r_X0_init [.ref a0] S0 (fun S9 => wX D S0 S9 ∧ post S9) := by
  intro sz
  refine Met.ofW (cc := cX0_init) (maxL := 1) (ret := none) (by decide) rfl ?_
  intro p e s m args below meth c s₁ B hml hv
  obtain ⟨rfl, hsz, hP, hK, hD0, hRO⟩ := hv
  have hts := atoms_spec (ws := wz_X0_init) B.pre
  have hown : s.vm.findClass RX0 = some m.cls := findClass_of_methodNamed B.named
  subst hsz
  have hD := hD0.self (sz := s.heap.size)
  have F : CallFix p m c cX0_init 1 s _ wz_X0_init RX0 := ⟨B.exec, B.bytes, hml, hown, hts⟩
  have hr := B.returns
  have hlocks := B.notSynchronized
  have hin : meth.name = "<init>" := (name_of_methodNamed B.named B.method).1
  generalize hAe : va_A (wL cy X S0) s.heap.size = A at hD hK ⊢
  have hA : ∀ q, s.heap.size ≤ q → A q := fun q h => by rw [← hAe]; exact Or.inr h
  have hW : wO D cy X A s.heap S0 s.heap [] := ⟨hP, hD, va_S.rf, hA, hRO⟩
  have hl := lv_entry ([.ref a0]) (n := 1) (Nat.le_of_ble_eq_true rfl)
  rw [lg_entry_eq]
  generalize (lg_sl ([.ref a0]) ++ List.replicate (1 - (lg_sl ([.ref a0])).length) Slot.unset).toArray = ls at hl ⊢
  have hl : lv_has ls 1 [(0, .ref a0)] := hl
  unfold wp_X0_init at hp
  exact t_X0_init_0 F hr hlocks hK hin hp hW wX.rf (lv_sub hl [0] rfl) hL_a0 hK_a0
def wp_X0_laySquare_66 (D : wD) (post : wS → Prop)  : Nat → wS → Nat → Int32 → Int32 → Int32 → Int32 → Prop
  | 0, _, _, _, _, _, _ => False
  | n + 1, S, a0, x1, x2, x3, x4 =>
    (((8 : Int32) ≤ x4 → ∃ y_2 : Nat, sR S a0 9 = some y_2 ∧ wM D S y_2 ∧ sK S y_2 = 22 ∧
    wp_X0_setOf D (fun r_3 S_4 => 
    wp_X0_setOf D (fun r_5 S_6 => 
    y_2 ∈ sL S_6 ∧ vp_in x1 (sN S_6 y_2) ∧
    ∀ S_8 : wS, S_8 = uJ S_6 y_2 (x1).toNatClampNeg (r_3 ||| r_5) →
    ∃ y_9 : Nat, sR S_8 a0 10 = some y_9 ∧ wM D S_8 y_9 ∧ sK S_8 y_9 = 22 ∧
    wp_X0_setOf D (fun r_10 S_11 => 
    wp_X0_setOf D (fun r_12 S_13 => 
    y_9 ∈ sL S_13 ∧ vp_in x1 (sN S_13 y_9) ∧
    ∀ S_15 : wS, S_15 = uJ S_13 y_9 (x1).toNatClampNeg (r_10 ||| r_12) →
    ∃ y_16 : Nat, sR S_15 a0 11 = some y_16 ∧ wM D S_15 y_16 ∧ sK S_15 y_16 = 22 ∧
    wp_X0_setOf D (fun r_17 S_18 => 
    wp_X0_setOf D (fun r_19 S_20 => 
    y_16 ∈ sL S_20 ∧ vp_in x1 (sN S_20 y_16) ∧
    ∀ S_22 : wS, S_22 = uJ S_20 y_16 (x1).toNatClampNeg (r_17 ||| r_19) →
    post S_22) S_18 a0 (x2 + (1 : Int32)) x3) S_15 a0 (x2 - (1 : Int32)) x3) S_11 a0 (x2 + (1 : Int32)) (x3 - (1 : Int32))) S_8 a0 (x2 - (1 : Int32)) (x3 - (1 : Int32))) S_4 a0 (x2 + (1 : Int32)) (x3 + (1 : Int32))) S a0 (x2 - (1 : Int32)) (x3 + (1 : Int32))) ∧
     (¬ (8 : Int32) ≤ x4 → ∃ y_23 : Nat, sR S a0 6 = some y_23 ∧ wM D S y_23 ∧ sK S y_23 = 22 ∧
    ∀ y_24 : Nat, y_24 = D.2.2.1 100 →
    vp_in x4 (sN S y_24) ∧
    ∀ y_26 : Nat, y_26 = D.2.2.1 101 →
    vp_in x4 (sN S y_26) ∧
    wp_X0_ray D (fun r_28 S_29 => 
    y_23 ∈ sL S_29 ∧ vp_in ((x1 * (8 : Int32)) + x4) (sN S_29 y_23) ∧
    ∀ S_31 : wS, S_31 = uJ S_29 y_23 (((x1 * (8 : Int32)) + x4)).toNatClampNeg r_28 →
    ∃ y_32 : Nat, sR S_31 a0 7 = some y_32 ∧ wM D S_31 y_32 ∧ sK S_31 y_32 = 22 ∧
    vp_in x1 (sN S_31 y_32) ∧
    ∀ y_34 : Nat, y_34 = D.2.2.1 100 →
    vp_in x4 (sN S_31 y_34) ∧
    ∀ y_36 : Nat, y_36 = D.2.2.1 101 →
    vp_in x4 (sN S_31 y_36) ∧
    wp_X0_setOf D (fun r_38 S_39 => 
    y_32 ∈ sL S_39 ∧ vp_in x1 (sN S_39 y_32) ∧
    ∀ S_41 : wS, S_41 = uJ S_39 y_32 (x1).toNatClampNeg ((sJ S_31 y_32 (x1).toNatClampNeg) ||| r_38) →
    ∃ y_42 : Nat, sR S_41 a0 8 = some y_42 ∧ wM D S_41 y_42 ∧ sK S_41 y_42 = 22 ∧
    vp_in x1 (sN S_41 y_42) ∧
    ∀ y_44 : Nat, y_44 = D.2.2.1 102 →
    vp_in x4 (sN S_41 y_44) ∧
    ∀ y_46 : Nat, y_46 = D.2.2.1 103 →
    vp_in x4 (sN S_41 y_46) ∧
    wp_X0_setOf D (fun r_48 S_49 => 
    y_42 ∈ sL S_49 ∧ vp_in x1 (sN S_49 y_42) ∧
    ∀ S_51 : wS, S_51 = uJ S_49 y_42 (x1).toNatClampNeg ((sJ S_41 y_42 (x1).toNatClampNeg) ||| r_48) →
    ∀ x_52 : Int32, x_52 = x4 + 1 →
    wp_X0_laySquare_66 D post n S_51 a0 x1 x2 x3 x_52) S_41 a0 (x2 + (sI S_41 y_44 (x4).toNatClampNeg)) (x3 + (sI S_41 y_46 (x4).toNatClampNeg))) S_31 a0 (x2 + (sI S_31 y_34 (x4).toNatClampNeg)) (x3 + (sI S_31 y_36 (x4).toNatClampNeg))) S a0 x2 x3 (sI S y_24 (x4).toNatClampNeg) (sI S y_26 (x4).toNatClampNeg)))
def wp_X0_laySquare_35 (D : wD) (post : wS → Prop)  (S : wS) (a0 : Nat) (x1 : Int32) (x2 : Int32) (x3 : Int32) : Prop :=
∃ y_1 : Nat, sR S a0 4 = some y_1 ∧ wM D S y_1 ∧ sK S y_1 = 21 ∧
y_1 ∈ sL S ∧ vp_in x1 (sN S y_1) ∧
∀ S_3 : wS, S_3 = uI S y_1 (x1).toNatClampNeg x2 →
∃ y_4 : Nat, sR S_3 a0 5 = some y_4 ∧ wM D S_3 y_4 ∧ sK S_3 y_4 = 21 ∧
y_4 ∈ sL S_3 ∧ vp_in x1 (sN S_3 y_4) ∧
∀ S_6 : wS, S_6 = uI S_3 y_4 (x1).toNatClampNeg x3 →
∃ y_7 : Nat, sR S_6 a0 7 = some y_7 ∧ wM D S_6 y_7 ∧ sK S_6 y_7 = 22 ∧
y_7 ∈ sL S_6 ∧ vp_in x1 (sN S_6 y_7) ∧
∀ S_9 : wS, S_9 = uJ S_6 y_7 (x1).toNatClampNeg (0 : Int64) →
∃ y_10 : Nat, sR S_9 a0 8 = some y_10 ∧ wM D S_9 y_10 ∧ sK S_9 y_10 = 22 ∧
y_10 ∈ sL S_9 ∧ vp_in x1 (sN S_9 y_10) ∧
∀ S_12 : wS, S_12 = uJ S_9 y_10 (x1).toNatClampNeg (0 : Int64) →
∃ n_13 : Nat, wp_X0_laySquare_66 D post n_13 S_12 a0 x1 x2 x3 (0 : Int32)
def wp_X0_laySquare_23 (D : wD) (post : wS → Prop)  (S : wS) (a0 : Nat) (x1 : Int32) (x2 : Int32) (x3 : Int32) : Prop :=
∀ S_1 : wS, S_1 = uJ S a0 3 ((sJ S a0 3) ||| (jlshl (1 : Int64) x1)) →
wp_X0_laySquare_35 D post S_1 a0 x1 x2 x3
def wp_X0_laySquare_0 (D : wD) (post : wS → Prop)  (S : wS) (a0 : Nat) (x1 : Int32) (x2 : Int32) (x3 : Int32) : Prop :=
wp_X0_has D (fun r_1 S_2 => 
((¬ r_1 = 0 → ((x3 = 0 → wp_X0_laySquare_23 D post S_2 a0 x1 x2 x3) ∧
 (¬ x3 = 0 → ((¬ x3 = ((sI S_2 a0 1) - (1 : Int32)) → wp_X0_laySquare_35 D post S_2 a0 x1 x2 x3) ∧
 (x3 = ((sI S_2 a0 1) - (1 : Int32)) → wp_X0_laySquare_23 D post S_2 a0 x1 x2 x3))))) ∧
 (r_1 = 0 → post S_2))) S a0 x1
abbrev r_X0_laySquare : Room := { frames := 2, cells := 0, slots := 0, locals := 50 }
def wp_X0_laySquare (D : wD) (post : wS → Prop) (S : wS) (a0 : Nat) (x1 : Int32) (x2 : Int32) (x3 : Int32) : Prop := wp_X0_laySquare_0 D post S a0 x1 x2 x3
set_option maxHeartbeats 4000000 in
set_option maxRecDepth 100000 in
theorem t_X0_laySquare_66 {p : Program} {l : Launch} {e : Env} {s : State} {m : MethodId} {args : Array Value} {below : List Frame} {meth : Method} {c : Code} {D : wD} {cy : Nat → ClassId} {X : va_W} {A : Nat → Prop} {S0 : wS} {post : wS → Prop} (F : CallFix p m c cX0_laySquare 5 s args wz_X0_laySquare RX0) (hr : meth.sig.returnType = none) (hlocks : meth.locks = false) (hK : wK D cy A s) : ∀ (n : Nat) {S : wS} {H : Heap} {locs : List Loc} {ls : Array Slot} {a0 : Nat} {x1 : Int32} {x2 : Int32} {x3 : Int32} {x4 : Int32}, wp_X0_laySquare_66 D post n S a0 x1 x2 x3 x4 → wO D cy X A s.heap S H locs → wX D S0 S → lv_has ls 5 [(0, .ref a0), (1, .int x1), (2, .int x2), (3, .int x3), (4, .int x4)] → wM D S a0 → sK S a0 = 5 → W p l e r_X0_laySquare s m args below meth c H locs 0 0 (MQ below (va_Qv (fun S9 => wX D S0 S9 ∧ post S9) (wB D cy X A) A) args s 0 0 A) (F0 m 66 ls []) := by
  obtain ⟨hx, hb, hml, hown, hts⟩ := id F
  have hwg : ∀ w ∈ WG, w.before args s = true := fun w h => hts w (List.mem_cons_of_mem _ h)
  have i_5 : ∀ w ∈ u_ws RX0 TX0 12, w ∈ wz_X0_laySquare := fun w h => List.mem_cons_of_mem _ (wu_5 w h)
  have k_32 := hwg _ wf_RX0_32
  have k_36 := hwg _ wf_RX0_36
  have k_39 := hwg _ wf_RX0_39
  have k_42 := hwg _ wf_RX0_42
  have k_45 := hwg _ wf_RX0_45
  have k_48 := hwg _ wf_RX0_48
  intro n
  induction n with
  | zero =>
    intro S H locs ls a0 x1 x2 x3 x4 hp
    exact hp.elim
  | succ n ih =>
    intro S H locs ls a0 x1 x2 x3 x4 hp hW hE hl hL_a0 hK_a0
    unfold wp_X0_laySquare_66 at hp
    refine lv_iload hx hb dX0_laySquare_66 (lv_at hl 4 rfl) ?_
    refine lv_bipush (v := 8) hx hb dX0_laySquare_68 (by decide) ?_
    refine lv_icmp_ge (tgt := 167) hx hb dX0_laySquare_70 (by decide) (fun c_1 => ?_) (fun c_1 => ?_)
    · replace hp := hp.1 c_1
      refine lv_aload_n hx hb dX0_laySquare_167 rfl (lv_at hl 0 rfl) ?_
      obtain ⟨y_2, ey_2, hL_y_2, hK_y_2, hp⟩ := hp
      refine w_get (k := 5) (f := 9) (T := TX0) (v := .ref y_2) F hK hW hL_a0 hK_a0 (by decide) rfl rfl (by decide) i_5 k_42 (by rw [show wv 5 9 S a0 = va_rf (sR S a0 9) from rfl, ey_2]; rfl) dX0_laySquare_168 ?_
      refine lv_iload_n hx hb dX0_laySquare_171 rfl (lv_at hl 1 rfl) ?_
      refine lv_aload_n hx hb dX0_laySquare_172 rfl (lv_at hl 0 rfl) ?_
      refine lv_iload_n hx hb dX0_laySquare_173 rfl (lv_at hl 2 rfl) ?_
      refine lv_iconst (v := 1) hx hb dX0_laySquare_174 (by decide) ?_
      refine lv_isub hx hb dX0_laySquare_175 ?_
      refine lv_iload_n hx hb dX0_laySquare_176 rfl (lv_at hl 3 rfl) ?_
      refine lv_iconst (v := 1) hx hb dX0_laySquare_177 (by decide) ?_
      refine lv_iadd hx hb dX0_laySquare_178 ?_
      refine w_callJ (va_runV (As := [.int (x2 - (1 : Int32)), .int (x3 + (1 : Int32))]) (rest := [.int x1, .ref y_2]) F (c_X0_setOf l hL_a0 hK_a0 hp H.size) (cwV (C := RX0) 2 hts (wg_V wm_RX0_75 wy_X0_setOf) rfl rfl rfl (by decide +kernel) ⟨Nat.le_of_ble_eq_true rfl, Nat.le_of_ble_eq_true rfl⟩) (w_preV hK hW hL_a0 hK_a0 (by decide) rfl) rfl rfl hl.1 rfl (lv_room (Nat.le_of_ble_eq_true rfl)) dX0_laySquare_179 ⟨Nat.le_of_ble_eq_true rfl, Nat.le_of_ble_eq_true rfl⟩) hW (fun r_3 S_4 H locs hp hW => ?_)
      obtain ⟨hX_S_4, hp⟩ := hp
      refine W.widen (k := 0) (n := 0) (by decide) (by decide) ?_
      have hE := hE.trans hX_S_4
      have hK_a0 : sK S_4 a0 = 5 := (hX_S_4.2 a0 hL_a0).1.trans hK_a0
      have hL_a0 : wM D S_4 a0 := hX_S_4.M hL_a0
      have hK_y_2 : sK S_4 y_2 = 22 := (hX_S_4.2 y_2 hL_y_2).1.trans hK_y_2
      have hL_y_2 : wM D S_4 y_2 := hX_S_4.M hL_y_2
      refine lv_aload_n hx hb dX0_laySquare_182 rfl (lv_at hl 0 rfl) ?_
      refine lv_iload_n hx hb dX0_laySquare_183 rfl (lv_at hl 2 rfl) ?_
      refine lv_iconst (v := 1) hx hb dX0_laySquare_184 (by decide) ?_
      refine lv_iadd hx hb dX0_laySquare_185 ?_
      refine lv_iload_n hx hb dX0_laySquare_186 rfl (lv_at hl 3 rfl) ?_
      refine lv_iconst (v := 1) hx hb dX0_laySquare_187 (by decide) ?_
      refine lv_iadd hx hb dX0_laySquare_188 ?_
      refine w_callJ (va_runV (As := [.int (x2 + (1 : Int32)), .int (x3 + (1 : Int32))]) (rest := [.long r_3, .int x1, .ref y_2]) F (c_X0_setOf l hL_a0 hK_a0 hp H.size) (cwV (C := RX0) 2 hts (wg_V wm_RX0_75 wy_X0_setOf) rfl rfl rfl (by decide +kernel) ⟨Nat.le_of_ble_eq_true rfl, Nat.le_of_ble_eq_true rfl⟩) (w_preV hK hW hL_a0 hK_a0 (by decide) rfl) rfl rfl hl.1 rfl (lv_room (Nat.le_of_ble_eq_true rfl)) dX0_laySquare_189 ⟨Nat.le_of_ble_eq_true rfl, Nat.le_of_ble_eq_true rfl⟩) hW (fun r_5 S_6 H locs hp hW => ?_)
      obtain ⟨hX_S_6, hp⟩ := hp
      refine W.widen (k := 0) (n := 0) (by decide) (by decide) ?_
      have hE := hE.trans hX_S_6
      have hK_a0 : sK S_6 a0 = 5 := (hX_S_6.2 a0 hL_a0).1.trans hK_a0
      have hL_a0 : wM D S_6 a0 := hX_S_6.M hL_a0
      have hK_y_2 : sK S_6 y_2 = 22 := (hX_S_6.2 y_2 hL_y_2).1.trans hK_y_2
      have hL_y_2 : wM D S_6 y_2 := hX_S_6.M hL_y_2
      refine lv_lor hx hb dX0_laySquare_192 ?_
      obtain ⟨h_7m, h_7, hp⟩ := hp
      refine w_lst F hK hW h_7m hK_y_2 h_7 dX0_laySquare_193 (fun H locs hW => ?_)
      obtain ⟨S_8, eS_8⟩ : ∃ z : wS, z = uJ S_6 y_2 (x1).toNatClampNeg (r_3 ||| r_5) := ⟨_, rfl⟩
      rw [← eS_8] at hW
      replace hp := hp S_8 eS_8
      have hX_S_8 : wX D S_6 S_8 := by rw [eS_8]; exact wX_uJ
      have hE := hE.trans hX_S_8
      have hK_a0 : sK S_8 a0 = 5 := (hX_S_8.2 a0 hL_a0).1.trans hK_a0
      have hL_a0 : wM D S_8 a0 := hX_S_8.M hL_a0
      refine lv_aload_n hx hb dX0_laySquare_194 rfl (lv_at hl 0 rfl) ?_
      obtain ⟨y_9, ey_9, hL_y_9, hK_y_9, hp⟩ := hp
      refine w_get (k := 5) (f := 10) (T := TX0) (v := .ref y_9) F hK hW hL_a0 hK_a0 (by decide) rfl rfl (by decide) i_5 k_45 (by rw [show wv 5 10 S_8 a0 = va_rf (sR S_8 a0 10) from rfl, ey_9]; rfl) dX0_laySquare_195 ?_
      refine lv_iload_n hx hb dX0_laySquare_198 rfl (lv_at hl 1 rfl) ?_
      refine lv_aload_n hx hb dX0_laySquare_199 rfl (lv_at hl 0 rfl) ?_
      refine lv_iload_n hx hb dX0_laySquare_200 rfl (lv_at hl 2 rfl) ?_
      refine lv_iconst (v := 1) hx hb dX0_laySquare_201 (by decide) ?_
      refine lv_isub hx hb dX0_laySquare_202 ?_
      refine lv_iload_n hx hb dX0_laySquare_203 rfl (lv_at hl 3 rfl) ?_
      refine lv_iconst (v := 1) hx hb dX0_laySquare_204 (by decide) ?_
      refine lv_isub hx hb dX0_laySquare_205 ?_
      refine w_callJ (va_runV (As := [.int (x2 - (1 : Int32)), .int (x3 - (1 : Int32))]) (rest := [.int x1, .ref y_9]) F (c_X0_setOf l hL_a0 hK_a0 hp H.size) (cwV (C := RX0) 2 hts (wg_V wm_RX0_75 wy_X0_setOf) rfl rfl rfl (by decide +kernel) ⟨Nat.le_of_ble_eq_true rfl, Nat.le_of_ble_eq_true rfl⟩) (w_preV hK hW hL_a0 hK_a0 (by decide) rfl) rfl rfl hl.1 rfl (lv_room (Nat.le_of_ble_eq_true rfl)) dX0_laySquare_206 ⟨Nat.le_of_ble_eq_true rfl, Nat.le_of_ble_eq_true rfl⟩) hW (fun r_10 S_11 H locs hp hW => ?_)
      obtain ⟨hX_S_11, hp⟩ := hp
      refine W.widen (k := 0) (n := 0) (by decide) (by decide) ?_
      have hE := hE.trans hX_S_11
      have hK_a0 : sK S_11 a0 = 5 := (hX_S_11.2 a0 hL_a0).1.trans hK_a0
      have hL_a0 : wM D S_11 a0 := hX_S_11.M hL_a0
      have hK_y_9 : sK S_11 y_9 = 22 := (hX_S_11.2 y_9 hL_y_9).1.trans hK_y_9
      have hL_y_9 : wM D S_11 y_9 := hX_S_11.M hL_y_9
      refine lv_aload_n hx hb dX0_laySquare_209 rfl (lv_at hl 0 rfl) ?_
      refine lv_iload_n hx hb dX0_laySquare_210 rfl (lv_at hl 2 rfl) ?_
      refine lv_iconst (v := 1) hx hb dX0_laySquare_211 (by decide) ?_
      refine lv_iadd hx hb dX0_laySquare_212 ?_
      refine lv_iload_n hx hb dX0_laySquare_213 rfl (lv_at hl 3 rfl) ?_
      refine lv_iconst (v := 1) hx hb dX0_laySquare_214 (by decide) ?_
      refine lv_isub hx hb dX0_laySquare_215 ?_
      refine w_callJ (va_runV (As := [.int (x2 + (1 : Int32)), .int (x3 - (1 : Int32))]) (rest := [.long r_10, .int x1, .ref y_9]) F (c_X0_setOf l hL_a0 hK_a0 hp H.size) (cwV (C := RX0) 2 hts (wg_V wm_RX0_75 wy_X0_setOf) rfl rfl rfl (by decide +kernel) ⟨Nat.le_of_ble_eq_true rfl, Nat.le_of_ble_eq_true rfl⟩) (w_preV hK hW hL_a0 hK_a0 (by decide) rfl) rfl rfl hl.1 rfl (lv_room (Nat.le_of_ble_eq_true rfl)) dX0_laySquare_216 ⟨Nat.le_of_ble_eq_true rfl, Nat.le_of_ble_eq_true rfl⟩) hW (fun r_12 S_13 H locs hp hW => ?_)
      obtain ⟨hX_S_13, hp⟩ := hp
      refine W.widen (k := 0) (n := 0) (by decide) (by decide) ?_
      have hE := hE.trans hX_S_13
      have hK_a0 : sK S_13 a0 = 5 := (hX_S_13.2 a0 hL_a0).1.trans hK_a0
      have hL_a0 : wM D S_13 a0 := hX_S_13.M hL_a0
      have hK_y_9 : sK S_13 y_9 = 22 := (hX_S_13.2 y_9 hL_y_9).1.trans hK_y_9
      have hL_y_9 : wM D S_13 y_9 := hX_S_13.M hL_y_9
      refine lv_lor hx hb dX0_laySquare_219 ?_
      obtain ⟨h_14m, h_14, hp⟩ := hp
      refine w_lst F hK hW h_14m hK_y_9 h_14 dX0_laySquare_220 (fun H locs hW => ?_)
      obtain ⟨S_15, eS_15⟩ : ∃ z : wS, z = uJ S_13 y_9 (x1).toNatClampNeg (r_10 ||| r_12) := ⟨_, rfl⟩
      rw [← eS_15] at hW
      replace hp := hp S_15 eS_15
      have hX_S_15 : wX D S_13 S_15 := by rw [eS_15]; exact wX_uJ
      have hE := hE.trans hX_S_15
      have hK_a0 : sK S_15 a0 = 5 := (hX_S_15.2 a0 hL_a0).1.trans hK_a0
      have hL_a0 : wM D S_15 a0 := hX_S_15.M hL_a0
      refine lv_aload_n hx hb dX0_laySquare_221 rfl (lv_at hl 0 rfl) ?_
      obtain ⟨y_16, ey_16, hL_y_16, hK_y_16, hp⟩ := hp
      refine w_get (k := 5) (f := 11) (T := TX0) (v := .ref y_16) F hK hW hL_a0 hK_a0 (by decide) rfl rfl (by decide) i_5 k_48 (by rw [show wv 5 11 S_15 a0 = va_rf (sR S_15 a0 11) from rfl, ey_16]; rfl) dX0_laySquare_222 ?_
      refine lv_iload_n hx hb dX0_laySquare_225 rfl (lv_at hl 1 rfl) ?_
      refine lv_aload_n hx hb dX0_laySquare_226 rfl (lv_at hl 0 rfl) ?_
      refine lv_iload_n hx hb dX0_laySquare_227 rfl (lv_at hl 2 rfl) ?_
      refine lv_iconst (v := 1) hx hb dX0_laySquare_228 (by decide) ?_
      refine lv_isub hx hb dX0_laySquare_229 ?_
      refine lv_iload_n hx hb dX0_laySquare_230 rfl (lv_at hl 3 rfl) ?_
      refine w_callJ (va_runV (As := [.int (x2 - (1 : Int32)), .int x3]) (rest := [.int x1, .ref y_16]) F (c_X0_setOf l hL_a0 hK_a0 hp H.size) (cwV (C := RX0) 2 hts (wg_V wm_RX0_75 wy_X0_setOf) rfl rfl rfl (by decide +kernel) ⟨Nat.le_of_ble_eq_true rfl, Nat.le_of_ble_eq_true rfl⟩) (w_preV hK hW hL_a0 hK_a0 (by decide) rfl) rfl rfl hl.1 rfl (lv_room (Nat.le_of_ble_eq_true rfl)) dX0_laySquare_231 ⟨Nat.le_of_ble_eq_true rfl, Nat.le_of_ble_eq_true rfl⟩) hW (fun r_17 S_18 H locs hp hW => ?_)
      obtain ⟨hX_S_18, hp⟩ := hp
      refine W.widen (k := 0) (n := 0) (by decide) (by decide) ?_
      have hE := hE.trans hX_S_18
      have hK_a0 : sK S_18 a0 = 5 := (hX_S_18.2 a0 hL_a0).1.trans hK_a0
      have hL_a0 : wM D S_18 a0 := hX_S_18.M hL_a0
      have hK_y_16 : sK S_18 y_16 = 22 := (hX_S_18.2 y_16 hL_y_16).1.trans hK_y_16
      have hL_y_16 : wM D S_18 y_16 := hX_S_18.M hL_y_16
      refine lv_aload_n hx hb dX0_laySquare_234 rfl (lv_at hl 0 rfl) ?_
      refine lv_iload_n hx hb dX0_laySquare_235 rfl (lv_at hl 2 rfl) ?_
      refine lv_iconst (v := 1) hx hb dX0_laySquare_236 (by decide) ?_
      refine lv_iadd hx hb dX0_laySquare_237 ?_
      refine lv_iload_n hx hb dX0_laySquare_238 rfl (lv_at hl 3 rfl) ?_
      refine w_callJ (va_runV (As := [.int (x2 + (1 : Int32)), .int x3]) (rest := [.long r_17, .int x1, .ref y_16]) F (c_X0_setOf l hL_a0 hK_a0 hp H.size) (cwV (C := RX0) 2 hts (wg_V wm_RX0_75 wy_X0_setOf) rfl rfl rfl (by decide +kernel) ⟨Nat.le_of_ble_eq_true rfl, Nat.le_of_ble_eq_true rfl⟩) (w_preV hK hW hL_a0 hK_a0 (by decide) rfl) rfl rfl hl.1 rfl (lv_room (Nat.le_of_ble_eq_true rfl)) dX0_laySquare_239 ⟨Nat.le_of_ble_eq_true rfl, Nat.le_of_ble_eq_true rfl⟩) hW (fun r_19 S_20 H locs hp hW => ?_)
      obtain ⟨hX_S_20, hp⟩ := hp
      refine W.widen (k := 0) (n := 0) (by decide) (by decide) ?_
      have hE := hE.trans hX_S_20
      have hK_a0 : sK S_20 a0 = 5 := (hX_S_20.2 a0 hL_a0).1.trans hK_a0
      have hL_a0 : wM D S_20 a0 := hX_S_20.M hL_a0
      have hK_y_16 : sK S_20 y_16 = 22 := (hX_S_20.2 y_16 hL_y_16).1.trans hK_y_16
      have hL_y_16 : wM D S_20 y_16 := hX_S_20.M hL_y_16
      refine lv_lor hx hb dX0_laySquare_242 ?_
      obtain ⟨h_21m, h_21, hp⟩ := hp
      refine w_lst F hK hW h_21m hK_y_16 h_21 dX0_laySquare_243 (fun H locs hW => ?_)
      obtain ⟨S_22, eS_22⟩ : ∃ z : wS, z = uJ S_20 y_16 (x1).toNatClampNeg (r_17 ||| r_19) := ⟨_, rfl⟩
      rw [← eS_22] at hW
      replace hp := hp S_22 eS_22
      have hX_S_22 : wX D S_20 S_22 := by rw [eS_22]; exact wX_uJ
      have hE := hE.trans hX_S_22
      have hK_a0 : sK S_22 a0 = 5 := (hX_S_22.2 a0 hL_a0).1.trans hK_a0
      have hL_a0 : wM D S_22 a0 := hX_S_22.M hL_a0
      exact w_vret hx hb hr hlocks hW ⟨hE, hp⟩ dX0_laySquare_244
    · replace hp := hp.2 c_1
      refine lv_aload_n hx hb dX0_laySquare_73 rfl (lv_at hl 0 rfl) ?_
      obtain ⟨y_23, ey_23, hL_y_23, hK_y_23, hp⟩ := hp
      refine w_get (k := 5) (f := 6) (T := TX0) (v := .ref y_23) F hK hW hL_a0 hK_a0 (by decide) rfl rfl (by decide) i_5 k_32 (by rw [show wv 5 6 S a0 = va_rf (sR S a0 6) from rfl, ey_23]; rfl) dX0_laySquare_74 ?_
      refine lv_iload_n hx hb dX0_laySquare_77 rfl (lv_at hl 1 rfl) ?_
      refine lv_bipush (v := 8) hx hb dX0_laySquare_78 (by decide) ?_
      refine lv_imul hx hb dX0_laySquare_80 ?_
      refine lv_iload hx hb dX0_laySquare_81 (lv_at hl 4 rfl) ?_
      refine lv_iadd hx hb dX0_laySquare_83 ?_
      refine lv_aload_n hx hb dX0_laySquare_84 rfl (lv_at hl 0 rfl) ?_
      refine lv_iload_n hx hb dX0_laySquare_85 rfl (lv_at hl 2 rfl) ?_
      refine lv_iload_n hx hb dX0_laySquare_86 rfl (lv_at hl 3 rfl) ?_
      refine w_stat F hK hW (show ("OpeningsCabinet$Board", "FILE_STEPS", "[I", 100, 21) ∈ wSr by decide +kernel) (hwg _ wf_RX0_65) dX0_laySquare_87 ?_
      obtain ⟨y_24, ey_24⟩ : ∃ z : Nat, z = D.2.2.1 100 := ⟨_, rfl⟩
      rw [← ey_24]
      replace hp := hp y_24 ey_24
      obtain ⟨hL_y_24, hK_y_24⟩ : wM D S y_24 ∧ sK S y_24 = 21 := by rw [ey_24]; exact w_statM hK hW (show ("OpeningsCabinet$Board", "FILE_STEPS", "[I", 100, 21) ∈ wSr by decide +kernel)
      refine lv_iload hx hb dX0_laySquare_90 (lv_at hl 4 rfl) ?_
      obtain ⟨h_25, hp⟩ := hp
      refine w_ild F hK hW hL_y_24 hK_y_24 h_25 dX0_laySquare_92 ?_
      refine w_stat F hK hW (show ("OpeningsCabinet$Board", "RANK_STEPS", "[I", 101, 21) ∈ wSr by decide +kernel) (hwg _ wf_RX0_68) dX0_laySquare_93 ?_
      obtain ⟨y_26, ey_26⟩ : ∃ z : Nat, z = D.2.2.1 101 := ⟨_, rfl⟩
      rw [← ey_26]
      replace hp := hp y_26 ey_26
      obtain ⟨hL_y_26, hK_y_26⟩ : wM D S y_26 ∧ sK S y_26 = 21 := by rw [ey_26]; exact w_statM hK hW (show ("OpeningsCabinet$Board", "RANK_STEPS", "[I", 101, 21) ∈ wSr by decide +kernel)
      refine lv_iload hx hb dX0_laySquare_96 (lv_at hl 4 rfl) ?_
      obtain ⟨h_27, hp⟩ := hp
      refine w_ild F hK hW hL_y_26 hK_y_26 h_27 dX0_laySquare_98 ?_
      refine w_callJ (va_runV (As := [.int x2, .int x3, .int (sI S y_24 (x4).toNatClampNeg), .int (sI S y_26 (x4).toNatClampNeg)]) (rest := [.int ((x1 * (8 : Int32)) + x4), .ref y_23]) F (c_X0_ray l hL_a0 hK_a0 hp H.size) (cwV (C := RX0) 4 hts (wg_V wm_RX0_71 wy_X0_ray) rfl rfl rfl (by decide +kernel) ⟨Nat.le_of_ble_eq_true rfl, Nat.le_of_ble_eq_true rfl⟩) (w_preV hK hW hL_a0 hK_a0 (by decide) rfl) rfl rfl hl.1 rfl (lv_room (Nat.le_of_ble_eq_true rfl)) dX0_laySquare_99 ⟨Nat.le_of_ble_eq_true rfl, Nat.le_of_ble_eq_true rfl⟩) hW (fun r_28 S_29 H locs hp hW => ?_)
      obtain ⟨hX_S_29, hp⟩ := hp
      refine W.widen (k := 0) (n := 0) (by decide) (by decide) ?_
      have hE := hE.trans hX_S_29
      have hK_a0 : sK S_29 a0 = 5 := (hX_S_29.2 a0 hL_a0).1.trans hK_a0
      have hL_a0 : wM D S_29 a0 := hX_S_29.M hL_a0
      have hK_y_23 : sK S_29 y_23 = 22 := (hX_S_29.2 y_23 hL_y_23).1.trans hK_y_23
      have hL_y_23 : wM D S_29 y_23 := hX_S_29.M hL_y_23
      obtain ⟨h_30m, h_30, hp⟩ := hp
      refine w_lst F hK hW h_30m hK_y_23 h_30 dX0_laySquare_102 (fun H locs hW => ?_)
      obtain ⟨S_31, eS_31⟩ : ∃ z : wS, z = uJ S_29 y_23 (((x1 * (8 : Int32)) + x4)).toNatClampNeg r_28 := ⟨_, rfl⟩
      rw [← eS_31] at hW
      replace hp := hp S_31 eS_31
      have hX_S_31 : wX D S_29 S_31 := by rw [eS_31]; exact wX_uJ
      have hE := hE.trans hX_S_31
      have hK_a0 : sK S_31 a0 = 5 := (hX_S_31.2 a0 hL_a0).1.trans hK_a0
      have hL_a0 : wM D S_31 a0 := hX_S_31.M hL_a0
      refine lv_aload_n hx hb dX0_laySquare_103 rfl (lv_at hl 0 rfl) ?_
      obtain ⟨y_32, ey_32, hL_y_32, hK_y_32, hp⟩ := hp
      refine w_get (k := 5) (f := 7) (T := TX0) (v := .ref y_32) F hK hW hL_a0 hK_a0 (by decide) rfl rfl (by decide) i_5 k_36 (by rw [show wv 5 7 S_31 a0 = va_rf (sR S_31 a0 7) from rfl, ey_32]; rfl) dX0_laySquare_104 ?_
      refine lv_iload_n hx hb dX0_laySquare_107 rfl (lv_at hl 1 rfl) ?_
      refine lv_dup2_11 hx hb dX0_laySquare_108 rfl rfl ?_
      obtain ⟨h_33, hp⟩ := hp
      refine w_lld F hK hW hL_y_32 hK_y_32 h_33 dX0_laySquare_109 ?_
      refine lv_aload_n hx hb dX0_laySquare_110 rfl (lv_at hl 0 rfl) ?_
      refine lv_iload_n hx hb dX0_laySquare_111 rfl (lv_at hl 2 rfl) ?_
      refine w_stat F hK hW (show ("OpeningsCabinet$Board", "FILE_STEPS", "[I", 100, 21) ∈ wSr by decide +kernel) (hwg _ wf_RX0_65) dX0_laySquare_112 ?_
      obtain ⟨y_34, ey_34⟩ : ∃ z : Nat, z = D.2.2.1 100 := ⟨_, rfl⟩
      rw [← ey_34]
      replace hp := hp y_34 ey_34
      obtain ⟨hL_y_34, hK_y_34⟩ : wM D S_31 y_34 ∧ sK S_31 y_34 = 21 := by rw [ey_34]; exact w_statM hK hW (show ("OpeningsCabinet$Board", "FILE_STEPS", "[I", 100, 21) ∈ wSr by decide +kernel)
      refine lv_iload hx hb dX0_laySquare_115 (lv_at hl 4 rfl) ?_
      obtain ⟨h_35, hp⟩ := hp
      refine w_ild F hK hW hL_y_34 hK_y_34 h_35 dX0_laySquare_117 ?_
      refine lv_iadd hx hb dX0_laySquare_118 ?_
      refine lv_iload_n hx hb dX0_laySquare_119 rfl (lv_at hl 3 rfl) ?_
      refine w_stat F hK hW (show ("OpeningsCabinet$Board", "RANK_STEPS", "[I", 101, 21) ∈ wSr by decide +kernel) (hwg _ wf_RX0_68) dX0_laySquare_120 ?_
      obtain ⟨y_36, ey_36⟩ : ∃ z : Nat, z = D.2.2.1 101 := ⟨_, rfl⟩
      rw [← ey_36]
      replace hp := hp y_36 ey_36
      obtain ⟨hL_y_36, hK_y_36⟩ : wM D S_31 y_36 ∧ sK S_31 y_36 = 21 := by rw [ey_36]; exact w_statM hK hW (show ("OpeningsCabinet$Board", "RANK_STEPS", "[I", 101, 21) ∈ wSr by decide +kernel)
      refine lv_iload hx hb dX0_laySquare_123 (lv_at hl 4 rfl) ?_
      obtain ⟨h_37, hp⟩ := hp
      refine w_ild F hK hW hL_y_36 hK_y_36 h_37 dX0_laySquare_125 ?_
      refine lv_iadd hx hb dX0_laySquare_126 ?_
      refine w_callJ (va_runV (As := [.int (x2 + (sI S_31 y_34 (x4).toNatClampNeg)), .int (x3 + (sI S_31 y_36 (x4).toNatClampNeg))]) (rest := [.long (sJ S_31 y_32 (x1).toNatClampNeg), .int x1, .ref y_32]) F (c_X0_setOf l hL_a0 hK_a0 hp H.size) (cwV (C := RX0) 2 hts (wg_V wm_RX0_75 wy_X0_setOf) rfl rfl rfl (by decide +kernel) ⟨Nat.le_of_ble_eq_true rfl, Nat.le_of_ble_eq_true rfl⟩) (w_preV hK hW hL_a0 hK_a0 (by decide) rfl) rfl rfl hl.1 rfl (lv_room (Nat.le_of_ble_eq_true rfl)) dX0_laySquare_127 ⟨Nat.le_of_ble_eq_true rfl, Nat.le_of_ble_eq_true rfl⟩) hW (fun r_38 S_39 H locs hp hW => ?_)
      obtain ⟨hX_S_39, hp⟩ := hp
      refine W.widen (k := 0) (n := 0) (by decide) (by decide) ?_
      have hE := hE.trans hX_S_39
      have hK_a0 : sK S_39 a0 = 5 := (hX_S_39.2 a0 hL_a0).1.trans hK_a0
      have hL_a0 : wM D S_39 a0 := hX_S_39.M hL_a0
      have hK_y_32 : sK S_39 y_32 = 22 := (hX_S_39.2 y_32 hL_y_32).1.trans hK_y_32
      have hL_y_32 : wM D S_39 y_32 := hX_S_39.M hL_y_32
      refine lv_lor hx hb dX0_laySquare_130 ?_
      obtain ⟨h_40m, h_40, hp⟩ := hp
      refine w_lst F hK hW h_40m hK_y_32 h_40 dX0_laySquare_131 (fun H locs hW => ?_)
      obtain ⟨S_41, eS_41⟩ : ∃ z : wS, z = uJ S_39 y_32 (x1).toNatClampNeg ((sJ S_31 y_32 (x1).toNatClampNeg) ||| r_38) := ⟨_, rfl⟩
      rw [← eS_41] at hW
      replace hp := hp S_41 eS_41
      have hX_S_41 : wX D S_39 S_41 := by rw [eS_41]; exact wX_uJ
      have hE := hE.trans hX_S_41
      have hK_a0 : sK S_41 a0 = 5 := (hX_S_41.2 a0 hL_a0).1.trans hK_a0
      have hL_a0 : wM D S_41 a0 := hX_S_41.M hL_a0
      refine lv_aload_n hx hb dX0_laySquare_132 rfl (lv_at hl 0 rfl) ?_
      obtain ⟨y_42, ey_42, hL_y_42, hK_y_42, hp⟩ := hp
      refine w_get (k := 5) (f := 8) (T := TX0) (v := .ref y_42) F hK hW hL_a0 hK_a0 (by decide) rfl rfl (by decide) i_5 k_39 (by rw [show wv 5 8 S_41 a0 = va_rf (sR S_41 a0 8) from rfl, ey_42]; rfl) dX0_laySquare_133 ?_
      refine lv_iload_n hx hb dX0_laySquare_136 rfl (lv_at hl 1 rfl) ?_
      refine lv_dup2_11 hx hb dX0_laySquare_137 rfl rfl ?_
      obtain ⟨h_43, hp⟩ := hp
      refine w_lld F hK hW hL_y_42 hK_y_42 h_43 dX0_laySquare_138 ?_
      refine lv_aload_n hx hb dX0_laySquare_139 rfl (lv_at hl 0 rfl) ?_
      refine lv_iload_n hx hb dX0_laySquare_140 rfl (lv_at hl 2 rfl) ?_
      refine w_stat F hK hW (show ("OpeningsCabinet$Board", "LEAP_FILES", "[I", 102, 21) ∈ wSr by decide +kernel) (hwg _ wf_RX0_79) dX0_laySquare_141 ?_
      obtain ⟨y_44, ey_44⟩ : ∃ z : Nat, z = D.2.2.1 102 := ⟨_, rfl⟩
      rw [← ey_44]
      replace hp := hp y_44 ey_44
      obtain ⟨hL_y_44, hK_y_44⟩ : wM D S_41 y_44 ∧ sK S_41 y_44 = 21 := by rw [ey_44]; exact w_statM hK hW (show ("OpeningsCabinet$Board", "LEAP_FILES", "[I", 102, 21) ∈ wSr by decide +kernel)
      refine lv_iload hx hb dX0_laySquare_144 (lv_at hl 4 rfl) ?_
      obtain ⟨h_45, hp⟩ := hp
      refine w_ild F hK hW hL_y_44 hK_y_44 h_45 dX0_laySquare_146 ?_
      refine lv_iadd hx hb dX0_laySquare_147 ?_
      refine lv_iload_n hx hb dX0_laySquare_148 rfl (lv_at hl 3 rfl) ?_
      refine w_stat F hK hW (show ("OpeningsCabinet$Board", "LEAP_RANKS", "[I", 103, 21) ∈ wSr by decide +kernel) (hwg _ wf_RX0_82) dX0_laySquare_149 ?_
      obtain ⟨y_46, ey_46⟩ : ∃ z : Nat, z = D.2.2.1 103 := ⟨_, rfl⟩
      rw [← ey_46]
      replace hp := hp y_46 ey_46
      obtain ⟨hL_y_46, hK_y_46⟩ : wM D S_41 y_46 ∧ sK S_41 y_46 = 21 := by rw [ey_46]; exact w_statM hK hW (show ("OpeningsCabinet$Board", "LEAP_RANKS", "[I", 103, 21) ∈ wSr by decide +kernel)
      refine lv_iload hx hb dX0_laySquare_152 (lv_at hl 4 rfl) ?_
      obtain ⟨h_47, hp⟩ := hp
      refine w_ild F hK hW hL_y_46 hK_y_46 h_47 dX0_laySquare_154 ?_
      refine lv_iadd hx hb dX0_laySquare_155 ?_
      refine w_callJ (va_runV (As := [.int (x2 + (sI S_41 y_44 (x4).toNatClampNeg)), .int (x3 + (sI S_41 y_46 (x4).toNatClampNeg))]) (rest := [.long (sJ S_41 y_42 (x1).toNatClampNeg), .int x1, .ref y_42]) F (c_X0_setOf l hL_a0 hK_a0 hp H.size) (cwV (C := RX0) 2 hts (wg_V wm_RX0_75 wy_X0_setOf) rfl rfl rfl (by decide +kernel) ⟨Nat.le_of_ble_eq_true rfl, Nat.le_of_ble_eq_true rfl⟩) (w_preV hK hW hL_a0 hK_a0 (by decide) rfl) rfl rfl hl.1 rfl (lv_room (Nat.le_of_ble_eq_true rfl)) dX0_laySquare_156 ⟨Nat.le_of_ble_eq_true rfl, Nat.le_of_ble_eq_true rfl⟩) hW (fun r_48 S_49 H locs hp hW => ?_)
      obtain ⟨hX_S_49, hp⟩ := hp
      refine W.widen (k := 0) (n := 0) (by decide) (by decide) ?_
      have hE := hE.trans hX_S_49
      have hK_a0 : sK S_49 a0 = 5 := (hX_S_49.2 a0 hL_a0).1.trans hK_a0
      have hL_a0 : wM D S_49 a0 := hX_S_49.M hL_a0
      have hK_y_42 : sK S_49 y_42 = 22 := (hX_S_49.2 y_42 hL_y_42).1.trans hK_y_42
      have hL_y_42 : wM D S_49 y_42 := hX_S_49.M hL_y_42
      refine lv_lor hx hb dX0_laySquare_159 ?_
      obtain ⟨h_50m, h_50, hp⟩ := hp
      refine w_lst F hK hW h_50m hK_y_42 h_50 dX0_laySquare_160 (fun H locs hW => ?_)
      obtain ⟨S_51, eS_51⟩ : ∃ z : wS, z = uJ S_49 y_42 (x1).toNatClampNeg ((sJ S_41 y_42 (x1).toNatClampNeg) ||| r_48) := ⟨_, rfl⟩
      rw [← eS_51] at hW
      replace hp := hp S_51 eS_51
      have hX_S_51 : wX D S_49 S_51 := by rw [eS_51]; exact wX_uJ
      have hE := hE.trans hX_S_51
      have hK_a0 : sK S_51 a0 = 5 := (hX_S_51.2 a0 hL_a0).1.trans hK_a0
      have hL_a0 : wM D S_51 a0 := hX_S_51.M hL_a0
      obtain ⟨x_52, ex_52⟩ : ∃ z : Int32, z = x4 + 1 := ⟨_, rfl⟩
      replace hp := hp x_52 ex_52
      refine lv_iinc (v := x_52) (lv' := [(4, .int x_52), (0, .ref a0), (1, .int x1), (2, .int x2), (3, .int x3)]) hx hb dX0_laySquare_161 hl (k := 4) rfl (by rw [ex_52]; rfl) (by decide) rfl (fun ls hl => ?_)
      refine lv_goto (tgt := 66) hx hb dX0_laySquare_164 (by decide) ?_
      exact ih hp hW hE (lv_sub hl [1, 2, 3, 4, 0] rfl) hL_a0 hK_a0
set_option maxHeartbeats 4000000 in
set_option maxRecDepth 100000 in
theorem t_X0_laySquare_35 {p : Program} {l : Launch} {e : Env} {s : State} {m : MethodId} {args : Array Value} {below : List Frame} {meth : Method} {c : Code} {D : wD} {cy : Nat → ClassId} {X : va_W} {A : Nat → Prop} {S0 : wS} {post : wS → Prop} (F : CallFix p m c cX0_laySquare 5 s args wz_X0_laySquare RX0) (hr : meth.sig.returnType = none) (hlocks : meth.locks = false) (hK : wK D cy A s) : ∀ {S : wS} {H : Heap} {locs : List Loc} {ls : Array Slot} {a0 : Nat} {x1 : Int32} {x2 : Int32} {x3 : Int32}, wp_X0_laySquare_35 D post S a0 x1 x2 x3 → wO D cy X A s.heap S H locs → wX D S0 S → lv_has ls 5 [(0, .ref a0), (1, .int x1), (2, .int x2), (3, .int x3)] → wM D S a0 → sK S a0 = 5 → W p l e r_X0_laySquare s m args below meth c H locs 0 0 (MQ below (va_Qv (fun S9 => wX D S0 S9 ∧ post S9) (wB D cy X A) A) args s 0 0 A) (F0 m 35 ls []) := by
  obtain ⟨hx, hb, hml, hown, hts⟩ := id F
  have hwg : ∀ w ∈ WG, w.before args s = true := fun w h => hts w (List.mem_cons_of_mem _ h)
  have i_5 : ∀ w ∈ u_ws RX0 TX0 12, w ∈ wz_X0_laySquare := fun w h => List.mem_cons_of_mem _ (wu_5 w h)
  have k_25 := hwg _ wf_RX0_25
  have k_29 := hwg _ wf_RX0_29
  have k_36 := hwg _ wf_RX0_36
  have k_39 := hwg _ wf_RX0_39
  intro S H locs ls a0 x1 x2 x3 hp hW hE hl hL_a0 hK_a0
  unfold wp_X0_laySquare_35 at hp
  refine lv_aload_n hx hb dX0_laySquare_35 rfl (lv_at hl 0 rfl) ?_
  obtain ⟨y_1, ey_1, hL_y_1, hK_y_1, hp⟩ := hp
  refine w_get (k := 5) (f := 4) (T := TX0) (v := .ref y_1) F hK hW hL_a0 hK_a0 (by decide) rfl rfl (by decide) i_5 k_25 (by rw [show wv 5 4 S a0 = va_rf (sR S a0 4) from rfl, ey_1]; rfl) dX0_laySquare_36 ?_
  refine lv_iload_n hx hb dX0_laySquare_39 rfl (lv_at hl 1 rfl) ?_
  refine lv_iload_n hx hb dX0_laySquare_40 rfl (lv_at hl 2 rfl) ?_
  obtain ⟨h_2m, h_2, hp⟩ := hp
  refine w_ist F hK hW h_2m hK_y_1 h_2 dX0_laySquare_41 (fun H locs hW => ?_)
  obtain ⟨S_3, eS_3⟩ : ∃ z : wS, z = uI S y_1 (x1).toNatClampNeg x2 := ⟨_, rfl⟩
  rw [← eS_3] at hW
  replace hp := hp S_3 eS_3
  have hX_S_3 : wX D S S_3 := by rw [eS_3]; exact wX_uI
  have hE := hE.trans hX_S_3
  have hK_a0 : sK S_3 a0 = 5 := (hX_S_3.2 a0 hL_a0).1.trans hK_a0
  have hL_a0 : wM D S_3 a0 := hX_S_3.M hL_a0
  refine lv_aload_n hx hb dX0_laySquare_42 rfl (lv_at hl 0 rfl) ?_
  obtain ⟨y_4, ey_4, hL_y_4, hK_y_4, hp⟩ := hp
  refine w_get (k := 5) (f := 5) (T := TX0) (v := .ref y_4) F hK hW hL_a0 hK_a0 (by decide) rfl rfl (by decide) i_5 k_29 (by rw [show wv 5 5 S_3 a0 = va_rf (sR S_3 a0 5) from rfl, ey_4]; rfl) dX0_laySquare_43 ?_
  refine lv_iload_n hx hb dX0_laySquare_46 rfl (lv_at hl 1 rfl) ?_
  refine lv_iload_n hx hb dX0_laySquare_47 rfl (lv_at hl 3 rfl) ?_
  obtain ⟨h_5m, h_5, hp⟩ := hp
  refine w_ist F hK hW h_5m hK_y_4 h_5 dX0_laySquare_48 (fun H locs hW => ?_)
  obtain ⟨S_6, eS_6⟩ : ∃ z : wS, z = uI S_3 y_4 (x1).toNatClampNeg x3 := ⟨_, rfl⟩
  rw [← eS_6] at hW
  replace hp := hp S_6 eS_6
  have hX_S_6 : wX D S_3 S_6 := by rw [eS_6]; exact wX_uI
  have hE := hE.trans hX_S_6
  have hK_a0 : sK S_6 a0 = 5 := (hX_S_6.2 a0 hL_a0).1.trans hK_a0
  have hL_a0 : wM D S_6 a0 := hX_S_6.M hL_a0
  refine lv_aload_n hx hb dX0_laySquare_49 rfl (lv_at hl 0 rfl) ?_
  obtain ⟨y_7, ey_7, hL_y_7, hK_y_7, hp⟩ := hp
  refine w_get (k := 5) (f := 7) (T := TX0) (v := .ref y_7) F hK hW hL_a0 hK_a0 (by decide) rfl rfl (by decide) i_5 k_36 (by rw [show wv 5 7 S_6 a0 = va_rf (sR S_6 a0 7) from rfl, ey_7]; rfl) dX0_laySquare_50 ?_
  refine lv_iload_n hx hb dX0_laySquare_53 rfl (lv_at hl 1 rfl) ?_
  refine lv_lconst (v := 0) hx hb dX0_laySquare_54 (by decide) ?_
  obtain ⟨h_8m, h_8, hp⟩ := hp
  refine w_lst F hK hW h_8m hK_y_7 h_8 dX0_laySquare_55 (fun H locs hW => ?_)
  obtain ⟨S_9, eS_9⟩ : ∃ z : wS, z = uJ S_6 y_7 (x1).toNatClampNeg (0 : Int64) := ⟨_, rfl⟩
  rw [← eS_9] at hW
  replace hp := hp S_9 eS_9
  have hX_S_9 : wX D S_6 S_9 := by rw [eS_9]; exact wX_uJ
  have hE := hE.trans hX_S_9
  have hK_a0 : sK S_9 a0 = 5 := (hX_S_9.2 a0 hL_a0).1.trans hK_a0
  have hL_a0 : wM D S_9 a0 := hX_S_9.M hL_a0
  refine lv_aload_n hx hb dX0_laySquare_56 rfl (lv_at hl 0 rfl) ?_
  obtain ⟨y_10, ey_10, hL_y_10, hK_y_10, hp⟩ := hp
  refine w_get (k := 5) (f := 8) (T := TX0) (v := .ref y_10) F hK hW hL_a0 hK_a0 (by decide) rfl rfl (by decide) i_5 k_39 (by rw [show wv 5 8 S_9 a0 = va_rf (sR S_9 a0 8) from rfl, ey_10]; rfl) dX0_laySquare_57 ?_
  refine lv_iload_n hx hb dX0_laySquare_60 rfl (lv_at hl 1 rfl) ?_
  refine lv_lconst (v := 0) hx hb dX0_laySquare_61 (by decide) ?_
  obtain ⟨h_11m, h_11, hp⟩ := hp
  refine w_lst F hK hW h_11m hK_y_10 h_11 dX0_laySquare_62 (fun H locs hW => ?_)
  obtain ⟨S_12, eS_12⟩ : ∃ z : wS, z = uJ S_9 y_10 (x1).toNatClampNeg (0 : Int64) := ⟨_, rfl⟩
  rw [← eS_12] at hW
  replace hp := hp S_12 eS_12
  have hX_S_12 : wX D S_9 S_12 := by rw [eS_12]; exact wX_uJ
  have hE := hE.trans hX_S_12
  have hK_a0 : sK S_12 a0 = 5 := (hX_S_12.2 a0 hL_a0).1.trans hK_a0
  have hL_a0 : wM D S_12 a0 := hX_S_12.M hL_a0
  refine lv_iconst (v := 0) hx hb dX0_laySquare_63 (by decide) ?_
  refine lv_istore (lv' := [(4, .int (0 : Int32)), (0, .ref a0), (1, .int x1), (2, .int x2), (3, .int x3)]) hx hb dX0_laySquare_64 hl (by decide) rfl (fun ls hl => ?_)
  obtain ⟨n_13, hp⟩ := hp
  exact t_X0_laySquare_66 F hr hlocks hK n_13 hp hW hE (lv_sub hl [1, 2, 3, 4, 0] rfl) hL_a0 hK_a0
set_option maxHeartbeats 4000000 in
set_option maxRecDepth 100000 in
theorem t_X0_laySquare_23 {p : Program} {l : Launch} {e : Env} {s : State} {m : MethodId} {args : Array Value} {below : List Frame} {meth : Method} {c : Code} {D : wD} {cy : Nat → ClassId} {X : va_W} {A : Nat → Prop} {S0 : wS} {post : wS → Prop} (F : CallFix p m c cX0_laySquare 5 s args wz_X0_laySquare RX0) (hr : meth.sig.returnType = none) (hlocks : meth.locks = false) (hK : wK D cy A s) : ∀ {S : wS} {H : Heap} {locs : List Loc} {ls : Array Slot} {a0 : Nat} {x1 : Int32} {x2 : Int32} {x3 : Int32}, wp_X0_laySquare_23 D post S a0 x1 x2 x3 → wO D cy X A s.heap S H locs → wX D S0 S → lv_has ls 5 [(0, .ref a0), (1, .int x1), (2, .int x2), (3, .int x3)] → wM D S a0 → sK S a0 = 5 → W p l e r_X0_laySquare s m args below meth c H locs 0 0 (MQ below (va_Qv (fun S9 => wX D S0 S9 ∧ post S9) (wB D cy X A) A) args s 0 0 A) (F0 m 23 ls []) := by
  obtain ⟨hx, hb, hml, hown, hts⟩ := id F
  have hwg : ∀ w ∈ WG, w.before args s = true := fun w h => hts w (List.mem_cons_of_mem _ h)
  have i_5 : ∀ w ∈ u_ws RX0 TX0 12, w ∈ wz_X0_laySquare := fun w h => List.mem_cons_of_mem _ (wu_5 w h)
  have k_21 := hwg _ wf_RX0_21
  intro S H locs ls a0 x1 x2 x3 hp hW hE hl hL_a0 hK_a0
  unfold wp_X0_laySquare_23 at hp
  refine lv_aload_n hx hb dX0_laySquare_23 rfl (lv_at hl 0 rfl) ?_
  refine lv_dup hx hb dX0_laySquare_24 rfl ?_
  refine w_get (k := 5) (f := 3) (T := TX0) (v := .long (sJ S a0 3)) F hK hW hL_a0 hK_a0 (by decide) rfl rfl (by decide) i_5 k_21 rfl dX0_laySquare_25 ?_
  refine lv_lconst (v := 1) hx hb dX0_laySquare_28 (by decide) ?_
  refine lv_iload_n hx hb dX0_laySquare_29 rfl (lv_at hl 1 rfl) ?_
  refine lv_lshl (v := (jlshl (1 : Int64) x1)) hx hb dX0_laySquare_30 rfl ?_
  refine lv_lor hx hb dX0_laySquare_31 ?_
  refine w_putJ (k := 5) (f := 3) (T := TX0) F hK hW hL_a0 hK_a0 (by decide) (by decide) rfl rfl (by decide) i_5 tyX0 tyX0_ok nmX0 k_21 rfl rfl rfl dX0_laySquare_32 (fun H locs hW => ?_)
  obtain ⟨S_1, eS_1⟩ : ∃ z : wS, z = uJ S a0 3 ((sJ S a0 3) ||| (jlshl (1 : Int64) x1)) := ⟨_, rfl⟩
  rw [← eS_1] at hW
  replace hp := hp S_1 eS_1
  have hX_S_1 : wX D S S_1 := by rw [eS_1]; exact wX_uJ
  have hE := hE.trans hX_S_1
  have hK_a0 : sK S_1 a0 = 5 := (hX_S_1.2 a0 hL_a0).1.trans hK_a0
  have hL_a0 : wM D S_1 a0 := hX_S_1.M hL_a0
  exact t_X0_laySquare_35 F hr hlocks hK hp hW hE (lv_sub hl [0, 1, 2, 3] rfl) hL_a0 hK_a0
set_option maxHeartbeats 4000000 in
set_option maxRecDepth 100000 in
theorem t_X0_laySquare_0 {p : Program} {l : Launch} {e : Env} {s : State} {m : MethodId} {args : Array Value} {below : List Frame} {meth : Method} {c : Code} {D : wD} {cy : Nat → ClassId} {X : va_W} {A : Nat → Prop} {S0 : wS} {post : wS → Prop} (F : CallFix p m c cX0_laySquare 5 s args wz_X0_laySquare RX0) (hr : meth.sig.returnType = none) (hlocks : meth.locks = false) (hK : wK D cy A s) : ∀ {S : wS} {H : Heap} {locs : List Loc} {ls : Array Slot} {a0 : Nat} {x1 : Int32} {x2 : Int32} {x3 : Int32}, wp_X0_laySquare_0 D post S a0 x1 x2 x3 → wO D cy X A s.heap S H locs → wX D S0 S → lv_has ls 5 [(0, .ref a0), (1, .int x1), (2, .int x2), (3, .int x3)] → wM D S a0 → sK S a0 = 5 → W p l e r_X0_laySquare s m args below meth c H locs 0 0 (MQ below (va_Qv (fun S9 => wX D S0 S9 ∧ post S9) (wB D cy X A) A) args s 0 0 A) (F0 m 0 ls []) := by
  obtain ⟨hx, hb, hml, hown, hts⟩ := id F
  have hwg : ∀ w ∈ WG, w.before args s = true := fun w h => hts w (List.mem_cons_of_mem _ h)
  have i_5 : ∀ w ∈ u_ws RX0 TX0 12, w ∈ wz_X0_laySquare := fun w h => List.mem_cons_of_mem _ (wu_5 w h)
  have k_15 := hwg _ wf_RX0_15
  intro S H locs ls a0 x1 x2 x3 hp hW hE hl hL_a0 hK_a0
  unfold wp_X0_laySquare_0 at hp
  refine lv_aload_n hx hb dX0_laySquare_0 rfl (lv_at hl 0 rfl) ?_
  refine lv_iload_n hx hb dX0_laySquare_1 rfl (lv_at hl 1 rfl) ?_
  refine w_callI (va_runV (As := [.int x1]) (rest := []) F (c_X0_has l hL_a0 hK_a0 hp H.size) (cwV (C := RX0) 1 hts (wg_V wm_RX0_61 wy_X0_has) rfl rfl rfl (by decide +kernel) ⟨Nat.le_of_ble_eq_true rfl, Nat.le_of_ble_eq_true rfl⟩) (w_preV hK hW hL_a0 hK_a0 (by decide) rfl) rfl rfl hl.1 rfl (lv_room (Nat.le_of_ble_eq_true rfl)) dX0_laySquare_2 ⟨Nat.le_of_ble_eq_true rfl, Nat.le_of_ble_eq_true rfl⟩) hW (fun r_1 S_2 H locs hp hW => ?_)
  obtain ⟨hX_S_2, hp⟩ := hp
  refine W.widen (k := 0) (n := 0) (by decide) (by decide) ?_
  have hE := hE.trans hX_S_2
  have hK_a0 : sK S_2 a0 = 5 := (hX_S_2.2 a0 hL_a0).1.trans hK_a0
  have hL_a0 : wM D S_2 a0 := hX_S_2.M hL_a0
  refine lv_if_ne (tgt := 9) hx hb dX0_laySquare_5 (by decide) (fun c_3 => ?_) (fun c_3 => ?_)
  · replace hp := hp.1 c_3
    refine lv_iload_n hx hb dX0_laySquare_9 rfl (lv_at hl 3 rfl) ?_
    refine lv_if_eq (tgt := 23) hx hb dX0_laySquare_10 (by decide) (fun c_4 => ?_) (fun c_4 => ?_)
    · replace hp := hp.1 c_4
      exact t_X0_laySquare_23 F hr hlocks hK hp hW hE (lv_sub hl [0, 1, 2, 3] rfl) hL_a0 hK_a0
    · replace hp := hp.2 c_4
      refine lv_iload_n hx hb dX0_laySquare_13 rfl (lv_at hl 3 rfl) ?_
      refine lv_aload_n hx hb dX0_laySquare_14 rfl (lv_at hl 0 rfl) ?_
      refine w_get (k := 5) (f := 1) (T := TX0) (v := .int (sI S_2 a0 1)) F hK hW hL_a0 hK_a0 (by decide) rfl rfl (by decide) i_5 k_15 rfl dX0_laySquare_15 ?_
      refine lv_iconst (v := 1) hx hb dX0_laySquare_18 (by decide) ?_
      refine lv_isub hx hb dX0_laySquare_19 ?_
      refine lv_icmp_ne (tgt := 35) hx hb dX0_laySquare_20 (by decide) (fun c_5 => ?_) (fun c_5 => ?_)
      · replace hp := hp.1 c_5
        exact t_X0_laySquare_35 F hr hlocks hK hp hW hE (lv_sub hl [0, 1, 2, 3] rfl) hL_a0 hK_a0
      · replace hp := hp.2 c_5
        exact t_X0_laySquare_23 F hr hlocks hK hp hW hE (lv_sub hl [0, 1, 2, 3] rfl) hL_a0 hK_a0
  · replace hp := hp.2 c_3
    exact w_vret hx hb hr hlocks hW ⟨hE, hp⟩ dX0_laySquare_8
set_option maxHeartbeats 4000000 in
set_option maxRecDepth 100000 in
theorem c_X0_laySquare (l : Launch) {D : wD} {cy : Nat → ClassId} {X : va_W} {S0 : wS} {post : wS → Prop} {a0 : Nat} {x1 : Int32} {x2 : Int32} {x3 : Int32} (hL_a0 : wM D S0 a0) (hK_a0 : sK S0 a0 = 5) (hp : wp_X0_laySquare D post S0 a0 x1 x2 x3) : mV D cy X l yX0_laySquare wz_X0_laySquare r_X0_laySquare [.ref a0, .int x1, .int x2, .int x3] S0 (fun S9 => wX D S0 S9 ∧ post S9) := by
  intro sz
  refine Met.ofW (cc := cX0_laySquare) (maxL := 5) (ret := none) (by decide) rfl ?_
  intro p e s m args below meth c s₁ B hml hv
  obtain ⟨rfl, hsz, hP, hK, hD0, hRO⟩ := hv
  have hts := atoms_spec (ws := wz_X0_laySquare) B.pre
  have hown : s.vm.findClass RX0 = some m.cls := findClass_of_methodNamed B.named
  subst hsz
  have hD := hD0.self (sz := s.heap.size)
  have F : CallFix p m c cX0_laySquare 5 s _ wz_X0_laySquare RX0 := ⟨B.exec, B.bytes, hml, hown, hts⟩
  have hr := B.returns
  have hlocks := B.notSynchronized
  generalize hAe : va_A (wL cy X S0) s.heap.size = A at hD hK ⊢
  have hA : ∀ q, s.heap.size ≤ q → A q := fun q h => by rw [← hAe]; exact Or.inr h
  have hW : wO D cy X A s.heap S0 s.heap [] := ⟨hP, hD, va_S.rf, hA, hRO⟩
  have hl := lv_entry ([.ref a0, .int x1, .int x2, .int x3]) (n := 5) (Nat.le_of_ble_eq_true rfl)
  rw [lg_entry_eq]
  generalize (lg_sl ([.ref a0, .int x1, .int x2, .int x3]) ++ List.replicate (5 - (lg_sl ([.ref a0, .int x1, .int x2, .int x3])).length) Slot.unset).toArray = ls at hl ⊢
  have hl : lv_has ls 5 [(0, .ref a0), (1, .int x1), (2, .int x2), (3, .int x3)] := hl
  unfold wp_X0_laySquare at hp
  exact t_X0_laySquare_0 F hr hlocks hK hp hW wX.rf (lv_sub hl [0, 1, 2, 3] rfl) hL_a0 hK_a0
def wp_X0_lay_40 (D : wD) (post : wS → Prop) (k_29 : wS → Nat → Int32 → Prop) : Nat → wS → Nat → Int32 → Int32 → Prop
  | 0, _, _, _, _ => False
  | n + 1, S, a0, x3, x4 =>
    (((sI S a0 0) ≤ x4 → ∀ x_2 : Int32, x_2 = x3 + 1 →
    k_29 S a0 x_2) ∧
     (¬ (sI S a0 0) ≤ x4 → wp_X0_laySquare D (fun S_4 => 
    ∀ x_5 : Int32, x_5 = x4 + 1 →
    wp_X0_lay_40 D post k_29 n S_4 a0 x3 x_5) S a0 ((x3 * (sI S a0 0)) + x4) x4 x3))
def wp_X0_lay_29 (D : wD) (post : wS → Prop)  : Nat → wS → Nat → Int32 → Prop
  | 0, _, _, _ => False
  | n + 1, S, a0, x3 =>
    (((sI S a0 1) ≤ x3 → post S) ∧
     (¬ (sI S a0 1) ≤ x3 → ∃ n_2 : Nat, wp_X0_lay_40 D post (wp_X0_lay_29 D post n) n_2 S a0 x3 (0 : Int32)))
def wp_X0_lay_0 (D : wD) (post : wS → Prop)  (S : wS) (a0 : Nat) (x1 : Int32) (x2 : Int32) : Prop :=
∀ S_1 : wS, S_1 = uI S a0 0 x1 →
∀ S_2 : wS, S_2 = uI S_1 a0 1 x2 →
∀ S_3 : wS, S_3 = uI S_2 a0 2 (if (64 : Int32) < (x1 * x2) then (64 : Int32) else (x1 * x2)) →
∀ S_4 : wS, S_4 = uJ S_3 a0 3 (0 : Int64) →
∃ n_5 : Nat, wp_X0_lay_29 D post n_5 S_4 a0 (0 : Int32)
abbrev r_X0_lay : Room := { frames := 3, cells := 0, slots := 0, locals := 74 }
def wp_X0_lay (D : wD) (post : wS → Prop) (S : wS) (a0 : Nat) (x1 : Int32) (x2 : Int32) : Prop := wp_X0_lay_0 D post S a0 x1 x2
set_option maxHeartbeats 4000000 in
set_option maxRecDepth 100000 in
theorem t_X0_lay_40 {p : Program} {l : Launch} {e : Env} {s : State} {m : MethodId} {args : Array Value} {below : List Frame} {meth : Method} {c : Code} {D : wD} {cy : Nat → ClassId} {X : va_W} {A : Nat → Prop} {S0 : wS} {post : wS → Prop} (F : CallFix p m c cX0_lay 5 s args wz_X0_lay RX0) (hr : meth.sig.returnType = none) (hlocks : meth.locks = false) (hK : wK D cy A s) {k_29 : wS → Nat → Int32 → Prop} (q_29 : ∀ {S : wS} {H : Heap} {locs : List Loc} {ls : Array Slot} {a0 : Nat} {x3 : Int32}, k_29 S a0 x3 → wO D cy X A s.heap S H locs → wX D S0 S → lv_has ls 5 [(0, .ref a0), (3, .int x3)] → wM D S a0 → sK S a0 = 5 → W p l e r_X0_lay s m args below meth c H locs 0 0 (MQ below (va_Qv (fun S9 => wX D S0 S9 ∧ post S9) (wB D cy X A) A) args s 0 0 A) (F0 m 29 ls [])) : ∀ (n : Nat) {S : wS} {H : Heap} {locs : List Loc} {ls : Array Slot} {a0 : Nat} {x3 : Int32} {x4 : Int32}, wp_X0_lay_40 D post k_29 n S a0 x3 x4 → wO D cy X A s.heap S H locs → wX D S0 S → lv_has ls 5 [(0, .ref a0), (3, .int x3), (4, .int x4)] → wM D S a0 → sK S a0 = 5 → W p l e r_X0_lay s m args below meth c H locs 0 0 (MQ below (va_Qv (fun S9 => wX D S0 S9 ∧ post S9) (wB D cy X A) A) args s 0 0 A) (F0 m 40 ls []) := by
  obtain ⟨hx, hb, hml, hown, hts⟩ := id F
  have hwg : ∀ w ∈ WG, w.before args s = true := fun w h => hts w (List.mem_cons_of_mem _ h)
  have i_5 : ∀ w ∈ u_ws RX0 TX0 12, w ∈ wz_X0_lay := fun w h => List.mem_cons_of_mem _ (wu_5 w h)
  have k_9 := hwg _ wf_RX0_9
  intro n
  induction n with
  | zero =>
    intro S H locs ls a0 x3 x4 hp
    exact hp.elim
  | succ n ih =>
    intro S H locs ls a0 x3 x4 hp hW hE hl hL_a0 hK_a0
    unfold wp_X0_lay_40 at hp
    refine lv_iload hx hb dX0_lay_40 (lv_at hl 2 rfl) ?_
    refine lv_aload_n hx hb dX0_lay_42 rfl (lv_at hl 0 rfl) ?_
    refine w_get (k := 5) (f := 0) (T := TX0) (v := .int (sI S a0 0)) F hK hW hL_a0 hK_a0 (by decide) rfl rfl (by decide) i_5 k_9 rfl dX0_lay_43 ?_
    refine lv_icmp_ge (tgt := 71) hx hb dX0_lay_46 (by decide) (fun c_1 => ?_) (fun c_1 => ?_)
    · replace hp := hp.1 c_1
      obtain ⟨x_2, ex_2⟩ : ∃ z : Int32, z = x3 + 1 := ⟨_, rfl⟩
      replace hp := hp x_2 ex_2
      refine lv_iinc (v := x_2) (lv' := [(3, .int x_2), (0, .ref a0), (4, .int x4)]) hx hb dX0_lay_71 hl (k := 1) rfl (by rw [ex_2]; rfl) (by decide) rfl (fun ls hl => ?_)
      refine lv_goto (tgt := 29) hx hb dX0_lay_74 (by decide) ?_
      exact q_29 hp hW hE (lv_sub hl [1, 0] rfl) hL_a0 hK_a0
    · replace hp := hp.2 c_1
      refine lv_aload_n hx hb dX0_lay_49 rfl (lv_at hl 0 rfl) ?_
      refine lv_iload_n hx hb dX0_lay_50 rfl (lv_at hl 1 rfl) ?_
      refine lv_aload_n hx hb dX0_lay_51 rfl (lv_at hl 0 rfl) ?_
      refine w_get (k := 5) (f := 0) (T := TX0) (v := .int (sI S a0 0)) F hK hW hL_a0 hK_a0 (by decide) rfl rfl (by decide) i_5 k_9 rfl dX0_lay_52 ?_
      refine lv_imul hx hb dX0_lay_55 ?_
      refine lv_iload hx hb dX0_lay_56 (lv_at hl 2 rfl) ?_
      refine lv_iadd hx hb dX0_lay_58 ?_
      refine lv_iload hx hb dX0_lay_59 (lv_at hl 2 rfl) ?_
      refine lv_iload_n hx hb dX0_lay_61 rfl (lv_at hl 1 rfl) ?_
      refine w_callV (va_runV (As := [.int ((x3 * (sI S a0 0)) + x4), .int x4, .int x3]) (rest := []) F (c_X0_laySquare l hL_a0 hK_a0 hp H.size) (cwV (C := RX0) 3 hts (wg_V wm_RX0_57 wy_X0_laySquare) rfl rfl rfl (by decide +kernel) ⟨Nat.le_of_ble_eq_true rfl, Nat.le_of_ble_eq_true rfl⟩) (w_preV hK hW hL_a0 hK_a0 (by decide) rfl) rfl rfl hl.1 rfl (lv_room (Nat.le_of_ble_eq_true rfl)) dX0_lay_62 ⟨Nat.le_of_ble_eq_true rfl, Nat.le_of_ble_eq_true rfl⟩) hW (fun S_4 H locs hp hW => ?_)
      obtain ⟨hX_S_4, hp⟩ := hp
      refine W.widen (k := 0) (n := 0) (by decide) (by decide) ?_
      have hE := hE.trans hX_S_4
      have hK_a0 : sK S_4 a0 = 5 := (hX_S_4.2 a0 hL_a0).1.trans hK_a0
      have hL_a0 : wM D S_4 a0 := hX_S_4.M hL_a0
      obtain ⟨x_5, ex_5⟩ : ∃ z : Int32, z = x4 + 1 := ⟨_, rfl⟩
      replace hp := hp x_5 ex_5
      refine lv_iinc (v := x_5) (lv' := [(4, .int x_5), (0, .ref a0), (3, .int x3)]) hx hb dX0_lay_65 hl (k := 2) rfl (by rw [ex_5]; rfl) (by decide) rfl (fun ls hl => ?_)
      refine lv_goto (tgt := 40) hx hb dX0_lay_68 (by decide) ?_
      exact ih hp hW hE (lv_sub hl [1, 2, 0] rfl) hL_a0 hK_a0
set_option maxHeartbeats 4000000 in
set_option maxRecDepth 100000 in
theorem t_X0_lay_29 {p : Program} {l : Launch} {e : Env} {s : State} {m : MethodId} {args : Array Value} {below : List Frame} {meth : Method} {c : Code} {D : wD} {cy : Nat → ClassId} {X : va_W} {A : Nat → Prop} {S0 : wS} {post : wS → Prop} (F : CallFix p m c cX0_lay 5 s args wz_X0_lay RX0) (hr : meth.sig.returnType = none) (hlocks : meth.locks = false) (hK : wK D cy A s) : ∀ (n : Nat) {S : wS} {H : Heap} {locs : List Loc} {ls : Array Slot} {a0 : Nat} {x3 : Int32}, wp_X0_lay_29 D post n S a0 x3 → wO D cy X A s.heap S H locs → wX D S0 S → lv_has ls 5 [(0, .ref a0), (3, .int x3)] → wM D S a0 → sK S a0 = 5 → W p l e r_X0_lay s m args below meth c H locs 0 0 (MQ below (va_Qv (fun S9 => wX D S0 S9 ∧ post S9) (wB D cy X A) A) args s 0 0 A) (F0 m 29 ls []) := by
  obtain ⟨hx, hb, hml, hown, hts⟩ := id F
  have hwg : ∀ w ∈ WG, w.before args s = true := fun w h => hts w (List.mem_cons_of_mem _ h)
  have i_5 : ∀ w ∈ u_ws RX0 TX0 12, w ∈ wz_X0_lay := fun w h => List.mem_cons_of_mem _ (wu_5 w h)
  have k_15 := hwg _ wf_RX0_15
  intro n
  induction n with
  | zero =>
    intro S H locs ls a0 x3 hp
    exact hp.elim
  | succ n ih =>
    intro S H locs ls a0 x3 hp hW hE hl hL_a0 hK_a0
    unfold wp_X0_lay_29 at hp
    refine lv_iload_n hx hb dX0_lay_29 rfl (lv_at hl 1 rfl) ?_
    refine lv_aload_n hx hb dX0_lay_30 rfl (lv_at hl 0 rfl) ?_
    refine w_get (k := 5) (f := 1) (T := TX0) (v := .int (sI S a0 1)) F hK hW hL_a0 hK_a0 (by decide) rfl rfl (by decide) i_5 k_15 rfl dX0_lay_31 ?_
    refine lv_icmp_ge (tgt := 77) hx hb dX0_lay_34 (by decide) (fun c_1 => ?_) (fun c_1 => ?_)
    · replace hp := hp.1 c_1
      exact w_vret hx hb hr hlocks hW ⟨hE, hp⟩ dX0_lay_77
    · replace hp := hp.2 c_1
      refine lv_iconst (v := 0) hx hb dX0_lay_37 (by decide) ?_
      refine lv_istore (lv' := [(4, .int (0 : Int32)), (0, .ref a0), (3, .int x3)]) hx hb dX0_lay_38 hl (by decide) rfl (fun ls hl => ?_)
      obtain ⟨n_2, hp⟩ := hp
      exact t_X0_lay_40 F hr hlocks hK ih n_2 hp hW hE (lv_sub hl [1, 2, 0] rfl) hL_a0 hK_a0
set_option maxHeartbeats 4000000 in
set_option maxRecDepth 100000 in
theorem t_X0_lay_0 {p : Program} {l : Launch} {e : Env} {s : State} {m : MethodId} {args : Array Value} {below : List Frame} {meth : Method} {c : Code} {D : wD} {cy : Nat → ClassId} {X : va_W} {A : Nat → Prop} {S0 : wS} {post : wS → Prop} (F : CallFix p m c cX0_lay 5 s args wz_X0_lay RX0) (hr : meth.sig.returnType = none) (hlocks : meth.locks = false) (hK : wK D cy A s) : ∀ {S : wS} {H : Heap} {locs : List Loc} {ls : Array Slot} {a0 : Nat} {x1 : Int32} {x2 : Int32}, wp_X0_lay_0 D post S a0 x1 x2 → wO D cy X A s.heap S H locs → wX D S0 S → lv_has ls 5 [(0, .ref a0), (1, .int x1), (2, .int x2)] → wM D S a0 → sK S a0 = 5 → W p l e r_X0_lay s m args below meth c H locs 0 0 (MQ below (va_Qv (fun S9 => wX D S0 S9 ∧ post S9) (wB D cy X A) A) args s 0 0 A) (F0 m 0 ls []) := by
  obtain ⟨hx, hb, hml, hown, hts⟩ := id F
  have hwg : ∀ w ∈ WG, w.before args s = true := fun w h => hts w (List.mem_cons_of_mem _ h)
  have i_5 : ∀ w ∈ u_ws RX0 TX0 12, w ∈ wz_X0_lay := fun w h => List.mem_cons_of_mem _ (wu_5 w h)
  have k_15 := hwg _ wf_RX0_15
  have k_18 := hwg _ wf_RX0_18
  have k_21 := hwg _ wf_RX0_21
  have k_9 := hwg _ wf_RX0_9
  intro S H locs ls a0 x1 x2 hp hW hE hl hL_a0 hK_a0
  unfold wp_X0_lay_0 at hp
  refine lv_aload_n hx hb dX0_lay_0 rfl (lv_at hl 0 rfl) ?_
  refine lv_iload_n hx hb dX0_lay_1 rfl (lv_at hl 1 rfl) ?_
  refine w_putI (k := 5) (f := 0) (T := TX0) F hK hW hL_a0 hK_a0 (by decide) (by decide) rfl rfl (by decide) i_5 tyX0 tyX0_ok nmX0 k_9 rfl rfl (ty := .int) rfl rfl rfl dX0_lay_2 (fun H locs hW => ?_)
  obtain ⟨S_1, eS_1⟩ : ∃ z : wS, z = uI S a0 0 x1 := ⟨_, rfl⟩
  rw [← eS_1] at hW
  replace hp := hp S_1 eS_1
  have hX_S_1 : wX D S S_1 := by rw [eS_1]; exact wX_uI
  have hE := hE.trans hX_S_1
  have hK_a0 : sK S_1 a0 = 5 := (hX_S_1.2 a0 hL_a0).1.trans hK_a0
  have hL_a0 : wM D S_1 a0 := hX_S_1.M hL_a0
  refine lv_aload_n hx hb dX0_lay_5 rfl (lv_at hl 0 rfl) ?_
  refine lv_iload_n hx hb dX0_lay_6 rfl (lv_at hl 2 rfl) ?_
  refine w_putI (k := 5) (f := 1) (T := TX0) F hK hW hL_a0 hK_a0 (by decide) (by decide) rfl rfl (by decide) i_5 tyX0 tyX0_ok nmX0 k_15 rfl rfl (ty := .int) rfl rfl rfl dX0_lay_7 (fun H locs hW => ?_)
  obtain ⟨S_2, eS_2⟩ : ∃ z : wS, z = uI S_1 a0 1 x2 := ⟨_, rfl⟩
  rw [← eS_2] at hW
  replace hp := hp S_2 eS_2
  have hX_S_2 : wX D S_1 S_2 := by rw [eS_2]; exact wX_uI
  have hE := hE.trans hX_S_2
  have hK_a0 : sK S_2 a0 = 5 := (hX_S_2.2 a0 hL_a0).1.trans hK_a0
  have hL_a0 : wM D S_2 a0 := hX_S_2.M hL_a0
  refine lv_aload_n hx hb dX0_lay_10 rfl (lv_at hl 0 rfl) ?_
  refine lv_iload_n hx hb dX0_lay_11 rfl (lv_at hl 1 rfl) ?_
  refine lv_iload_n hx hb dX0_lay_12 rfl (lv_at hl 2 rfl) ?_
  refine lv_imul hx hb dX0_lay_13 ?_
  refine lv_bipush (v := 64) hx hb dX0_lay_14 (by decide) ?_
  refine va_mmin hx hb (hml.trans hl.1.symm) hown (hwg _ wm_RX0_51) (hwg _ wmm_min.1) (hwg _ wmm_min.2.1) (hwg _ wmm_min.2.2) (Nat.le_of_ble_eq_true rfl) (Nat.le_of_ble_eq_true rfl) (Nat.le_of_ble_eq_true rfl) (Nat.le_of_ble_eq_true rfl) dX0_lay_16 ?_
  refine w_putI (k := 5) (f := 2) (T := TX0) F hK hW hL_a0 hK_a0 (by decide) (by decide) rfl rfl (by decide) i_5 tyX0 tyX0_ok nmX0 k_18 rfl rfl (ty := .int) rfl rfl rfl dX0_lay_19 (fun H locs hW => ?_)
  obtain ⟨S_3, eS_3⟩ : ∃ z : wS, z = uI S_2 a0 2 (if (64 : Int32) < (x1 * x2) then (64 : Int32) else (x1 * x2)) := ⟨_, rfl⟩
  rw [← eS_3] at hW
  replace hp := hp S_3 eS_3
  have hX_S_3 : wX D S_2 S_3 := by rw [eS_3]; exact wX_uI
  have hE := hE.trans hX_S_3
  have hK_a0 : sK S_3 a0 = 5 := (hX_S_3.2 a0 hL_a0).1.trans hK_a0
  have hL_a0 : wM D S_3 a0 := hX_S_3.M hL_a0
  refine lv_aload_n hx hb dX0_lay_22 rfl (lv_at hl 0 rfl) ?_
  refine lv_lconst (v := 0) hx hb dX0_lay_23 (by decide) ?_
  refine w_putJ (k := 5) (f := 3) (T := TX0) F hK hW hL_a0 hK_a0 (by decide) (by decide) rfl rfl (by decide) i_5 tyX0 tyX0_ok nmX0 k_21 rfl rfl rfl dX0_lay_24 (fun H locs hW => ?_)
  obtain ⟨S_4, eS_4⟩ : ∃ z : wS, z = uJ S_3 a0 3 (0 : Int64) := ⟨_, rfl⟩
  rw [← eS_4] at hW
  replace hp := hp S_4 eS_4
  have hX_S_4 : wX D S_3 S_4 := by rw [eS_4]; exact wX_uJ
  have hE := hE.trans hX_S_4
  have hK_a0 : sK S_4 a0 = 5 := (hX_S_4.2 a0 hL_a0).1.trans hK_a0
  have hL_a0 : wM D S_4 a0 := hX_S_4.M hL_a0
  refine lv_iconst (v := 0) hx hb dX0_lay_27 (by decide) ?_
  refine lv_istore_n (lv' := [(3, .int (0 : Int32)), (0, .ref a0), (1, .int x1), (2, .int x2)]) hx hb dX0_lay_28 rfl hl (by decide) rfl (fun ls hl => ?_)
  obtain ⟨n_5, hp⟩ := hp
  exact t_X0_lay_29 F hr hlocks hK n_5 hp hW hE (lv_sub hl [1, 0] rfl) hL_a0 hK_a0
set_option maxHeartbeats 4000000 in
set_option maxRecDepth 100000 in
theorem c_X0_lay (l : Launch) {D : wD} {cy : Nat → ClassId} {X : va_W} {S0 : wS} {post : wS → Prop} {a0 : Nat} {x1 : Int32} {x2 : Int32} (hL_a0 : wM D S0 a0) (hK_a0 : sK S0 a0 = 5) (hp : wp_X0_lay D post S0 a0 x1 x2) : mV D cy X l yX0_lay wz_X0_lay r_X0_lay [.ref a0, .int x1, .int x2] S0 (fun S9 => wX D S0 S9 ∧ post S9) := by
  intro sz
  refine Met.ofW (cc := cX0_lay) (maxL := 5) (ret := none) (by decide) rfl ?_
  intro p e s m args below meth c s₁ B hml hv
  obtain ⟨rfl, hsz, hP, hK, hD0, hRO⟩ := hv
  have hts := atoms_spec (ws := wz_X0_lay) B.pre
  have hown : s.vm.findClass RX0 = some m.cls := findClass_of_methodNamed B.named
  subst hsz
  have hD := hD0.self (sz := s.heap.size)
  have F : CallFix p m c cX0_lay 5 s _ wz_X0_lay RX0 := ⟨B.exec, B.bytes, hml, hown, hts⟩
  have hr := B.returns
  have hlocks := B.notSynchronized
  generalize hAe : va_A (wL cy X S0) s.heap.size = A at hD hK ⊢
  have hA : ∀ q, s.heap.size ≤ q → A q := fun q h => by rw [← hAe]; exact Or.inr h
  have hW : wO D cy X A s.heap S0 s.heap [] := ⟨hP, hD, va_S.rf, hA, hRO⟩
  have hl := lv_entry ([.ref a0, .int x1, .int x2]) (n := 5) (Nat.le_of_ble_eq_true rfl)
  rw [lg_entry_eq]
  generalize (lg_sl ([.ref a0, .int x1, .int x2]) ++ List.replicate (5 - (lg_sl ([.ref a0, .int x1, .int x2])).length) Slot.unset).toArray = ls at hl ⊢
  have hl : lv_has ls 5 [(0, .ref a0), (1, .int x1), (2, .int x2)] := hl
  unfold wp_X0_lay at hp
  exact t_X0_lay_0 F hr hlocks hK hp hW wX.rf (lv_sub hl [0, 1, 2] rfl) hL_a0 hK_a0
