theorem dJ8_hugeLength_7cf53_0 : decode cJ8_hugeLength_7cf53 0 = .ok (.iload_n 0, 1) := by decide +kernel
theorem dJ8_hugeLength_7cf53_1 : decode cJ8_hugeLength_7cf53 1 = .ok (.iload_n 1, 1) := by decide +kernel
theorem dJ8_hugeLength_7cf53_2 : decode cJ8_hugeLength_7cf53 2 = .ok (.iadd, 1) := by decide +kernel
theorem dJ8_hugeLength_7cf53_3 : decode cJ8_hugeLength_7cf53 3 = .ok (.istore_n 2, 1) := by decide +kernel
theorem dJ8_hugeLength_7cf53_4 : decode cJ8_hugeLength_7cf53 4 = .ok (.iload_n 2, 1) := by decide +kernel
theorem dJ8_hugeLength_7cf53_5 : decode cJ8_hugeLength_7cf53 5 = .ok (.ifCond .ge 44, 3) := by decide +kernel
theorem dJ8_hugeLength_7cf53_8 : decode cJ8_hugeLength_7cf53 8 = .ok (.new 204, 3) := by decide +kernel
theorem dJ8_hugeLength_7cf53_11 : decode cJ8_hugeLength_7cf53 11 = .ok (.dup, 1) := by decide +kernel
theorem dJ8_hugeLength_7cf53_12 : decode cJ8_hugeLength_7cf53 12 = .ok (.new 89, 3) := by decide +kernel
theorem dJ8_hugeLength_7cf53_15 : decode cJ8_hugeLength_7cf53 15 = .ok (.dup, 1) := by decide +kernel
theorem dJ8_hugeLength_7cf53_16 : decode cJ8_hugeLength_7cf53 16 = .ok (.invokespecial 91, 3) := by decide +kernel
theorem dJ8_hugeLength_7cf53_19 : decode cJ8_hugeLength_7cf53 19 = .ok (.ldc 206, 2) := by decide +kernel
theorem dJ8_hugeLength_7cf53_21 : decode cJ8_hugeLength_7cf53 21 = .ok (.invokevirtual 94, 3) := by decide +kernel
theorem dJ8_hugeLength_7cf53_24 : decode cJ8_hugeLength_7cf53 24 = .ok (.iload_n 0, 1) := by decide +kernel
theorem dJ8_hugeLength_7cf53_25 : decode cJ8_hugeLength_7cf53 25 = .ok (.invokevirtual 98, 3) := by decide +kernel
theorem dJ8_hugeLength_7cf53_28 : decode cJ8_hugeLength_7cf53 28 = .ok (.ldc 208, 2) := by decide +kernel
theorem dJ8_hugeLength_7cf53_30 : decode cJ8_hugeLength_7cf53 30 = .ok (.invokevirtual 94, 3) := by decide +kernel
theorem dJ8_hugeLength_7cf53_33 : decode cJ8_hugeLength_7cf53 33 = .ok (.iload_n 1, 1) := by decide +kernel
theorem dJ8_hugeLength_7cf53_34 : decode cJ8_hugeLength_7cf53 34 = .ok (.invokevirtual 98, 3) := by decide +kernel
theorem dJ8_hugeLength_7cf53_37 : decode cJ8_hugeLength_7cf53 37 = .ok (.ldc 210, 2) := by decide +kernel
theorem dJ8_hugeLength_7cf53_39 : decode cJ8_hugeLength_7cf53 39 = .ok (.invokevirtual 94, 3) := by decide +kernel
theorem dJ8_hugeLength_7cf53_42 : decode cJ8_hugeLength_7cf53 42 = .ok (.invokevirtual 101, 3) := by decide +kernel
theorem dJ8_hugeLength_7cf53_45 : decode cJ8_hugeLength_7cf53 45 = .ok (.invokespecial 212, 3) := by decide +kernel
theorem dJ8_hugeLength_7cf53_48 : decode cJ8_hugeLength_7cf53 48 = .ok (.athrow, 1) := by decide +kernel
theorem dJ8_hugeLength_7cf53_49 : decode cJ8_hugeLength_7cf53 49 = .ok (.iload_n 2, 1) := by decide +kernel
theorem dJ8_hugeLength_7cf53_50 : decode cJ8_hugeLength_7cf53 50 = .ok (.ldc 200, 2) := by decide +kernel
theorem dJ8_hugeLength_7cf53_52 : decode cJ8_hugeLength_7cf53 52 = .ok (.if_icmp .gt 6, 3) := by decide +kernel
theorem dJ8_hugeLength_7cf53_55 : decode cJ8_hugeLength_7cf53 55 = .ok (.ldc 200, 2) := by decide +kernel
theorem dJ8_hugeLength_7cf53_57 : decode cJ8_hugeLength_7cf53 57 = .ok (.ireturn, 1) := by decide +kernel
theorem dJ8_hugeLength_7cf53_58 : decode cJ8_hugeLength_7cf53 58 = .ok (.iload_n 2, 1) := by decide +kernel
theorem dJ8_hugeLength_7cf53_59 : decode cJ8_hugeLength_7cf53 59 = .ok (.ireturn, 1) := by decide +kernel
theorem dJ8_newLength_cabcc_0 : decode cJ8_newLength_cabcc 0 = .ok (.iload_n 0, 1) := by decide +kernel
theorem dJ8_newLength_cabcc_1 : decode cJ8_newLength_cabcc 1 = .ok (.iload_n 1, 1) := by decide +kernel
theorem dJ8_newLength_cabcc_2 : decode cJ8_newLength_cabcc 2 = .ok (.iload_n 2, 1) := by decide +kernel
theorem dJ8_newLength_cabcc_3 : decode cJ8_newLength_cabcc 3 = .ok (.invokestatic 194, 3) := by decide +kernel
theorem dJ8_newLength_cabcc_6 : decode cJ8_newLength_cabcc 6 = .ok (.iadd, 1) := by decide +kernel
theorem dJ8_newLength_cabcc_7 : decode cJ8_newLength_cabcc 7 = .ok (.istore_n 3, 1) := by decide +kernel
theorem dJ8_newLength_cabcc_8 : decode cJ8_newLength_cabcc 8 = .ok (.iconst 0, 1) := by decide +kernel
theorem dJ8_newLength_cabcc_9 : decode cJ8_newLength_cabcc 9 = .ok (.iload_n 3, 1) := by decide +kernel
theorem dJ8_newLength_cabcc_10 : decode cJ8_newLength_cabcc 10 = .ok (.if_icmp .ge 11, 3) := by decide +kernel
theorem dJ8_newLength_cabcc_13 : decode cJ8_newLength_cabcc 13 = .ok (.iload_n 3, 1) := by decide +kernel
theorem dJ8_newLength_cabcc_14 : decode cJ8_newLength_cabcc 14 = .ok (.ldc 200, 2) := by decide +kernel
theorem dJ8_newLength_cabcc_16 : decode cJ8_newLength_cabcc 16 = .ok (.if_icmp .gt 5, 3) := by decide +kernel
theorem dJ8_newLength_cabcc_19 : decode cJ8_newLength_cabcc 19 = .ok (.iload_n 3, 1) := by decide +kernel
theorem dJ8_newLength_cabcc_20 : decode cJ8_newLength_cabcc 20 = .ok (.ireturn, 1) := by decide +kernel
theorem dJ8_newLength_cabcc_21 : decode cJ8_newLength_cabcc 21 = .ok (.iload_n 0, 1) := by decide +kernel
theorem dJ8_newLength_cabcc_22 : decode cJ8_newLength_cabcc 22 = .ok (.iload_n 1, 1) := by decide +kernel
theorem dJ8_newLength_cabcc_23 : decode cJ8_newLength_cabcc 23 = .ok (.invokestatic 201, 3) := by decide +kernel
theorem dJ8_newLength_cabcc_26 : decode cJ8_newLength_cabcc 26 = .ok (.ireturn, 1) := by decide +kernel
theorem dJ5_newCapacity_0f7a4_0 : decode cJ5_newCapacity_0f7a4 0 = .ok (.aload_n 0, 1) := by decide +kernel
theorem dJ5_newCapacity_0f7a4_1 : decode cJ5_newCapacity_0f7a4 1 = .ok (.getfield 15, 3) := by decide +kernel
theorem dJ5_newCapacity_0f7a4_4 : decode cJ5_newCapacity_0f7a4 4 = .ok (.arraylength, 1) := by decide +kernel
theorem dJ5_newCapacity_0f7a4_5 : decode cJ5_newCapacity_0f7a4 5 = .ok (.istore_n 2, 1) := by decide +kernel
theorem dJ5_newCapacity_0f7a4_6 : decode cJ5_newCapacity_0f7a4 6 = .ok (.iload_n 1, 1) := by decide +kernel
theorem dJ5_newCapacity_0f7a4_7 : decode cJ5_newCapacity_0f7a4 7 = .ok (.aload_n 0, 1) := by decide +kernel
theorem dJ5_newCapacity_0f7a4_8 : decode cJ5_newCapacity_0f7a4 8 = .ok (.getfield 22, 3) := by decide +kernel
theorem dJ5_newCapacity_0f7a4_11 : decode cJ5_newCapacity_0f7a4 11 = .ok (.ishl, 1) := by decide +kernel
theorem dJ5_newCapacity_0f7a4_12 : decode cJ5_newCapacity_0f7a4 12 = .ok (.istore_n 3, 1) := by decide +kernel
theorem dJ5_newCapacity_0f7a4_13 : decode cJ5_newCapacity_0f7a4 13 = .ok (.iload_n 3, 1) := by decide +kernel
theorem dJ5_newCapacity_0f7a4_14 : decode cJ5_newCapacity_0f7a4 14 = .ok (.iload_n 2, 1) := by decide +kernel
theorem dJ5_newCapacity_0f7a4_15 : decode cJ5_newCapacity_0f7a4 15 = .ok (.isub, 1) := by decide +kernel
theorem dJ5_newCapacity_0f7a4_16 : decode cJ5_newCapacity_0f7a4 16 = .ok (.istore 4, 2) := by decide +kernel
theorem dJ5_newCapacity_0f7a4_18 : decode cJ5_newCapacity_0f7a4 18 = .ok (.iload_n 2, 1) := by decide +kernel
theorem dJ5_newCapacity_0f7a4_19 : decode cJ5_newCapacity_0f7a4 19 = .ok (.iload 4, 2) := by decide +kernel
theorem dJ5_newCapacity_0f7a4_21 : decode cJ5_newCapacity_0f7a4 21 = .ok (.iload_n 2, 1) := by decide +kernel
theorem dJ5_newCapacity_0f7a4_22 : decode cJ5_newCapacity_0f7a4 22 = .ok (.iconst 2, 1) := by decide +kernel
theorem dJ5_newCapacity_0f7a4_23 : decode cJ5_newCapacity_0f7a4 23 = .ok (.aload_n 0, 1) := by decide +kernel
theorem dJ5_newCapacity_0f7a4_24 : decode cJ5_newCapacity_0f7a4 24 = .ok (.getfield 22, 3) := by decide +kernel
theorem dJ5_newCapacity_0f7a4_27 : decode cJ5_newCapacity_0f7a4 27 = .ok (.ishl, 1) := by decide +kernel
theorem dJ5_newCapacity_0f7a4_28 : decode cJ5_newCapacity_0f7a4 28 = .ok (.iadd, 1) := by decide +kernel
theorem dJ5_newCapacity_0f7a4_29 : decode cJ5_newCapacity_0f7a4 29 = .ok (.invokestatic 114, 3) := by decide +kernel
theorem dJ5_newCapacity_0f7a4_32 : decode cJ5_newCapacity_0f7a4 32 = .ok (.istore 5, 2) := by decide +kernel
theorem dJ5_newCapacity_0f7a4_34 : decode cJ5_newCapacity_0f7a4 34 = .ok (.iload 5, 2) := by decide +kernel
theorem dJ5_newCapacity_0f7a4_36 : decode cJ5_newCapacity_0f7a4 36 = .ok (.ldc 39, 2) := by decide +kernel
theorem dJ5_newCapacity_0f7a4_38 : decode cJ5_newCapacity_0f7a4 38 = .ok (.if_icmp .ne 13, 3) := by decide +kernel
theorem dJ5_newCapacity_0f7a4_41 : decode cJ5_newCapacity_0f7a4 41 = .ok (.new 120, 3) := by decide +kernel
theorem dJ5_newCapacity_0f7a4_44 : decode cJ5_newCapacity_0f7a4 44 = .ok (.dup, 1) := by decide +kernel
theorem dJ5_newCapacity_0f7a4_45 : decode cJ5_newCapacity_0f7a4 45 = .ok (.ldc 122, 2) := by decide +kernel
theorem dJ5_newCapacity_0f7a4_47 : decode cJ5_newCapacity_0f7a4 47 = .ok (.invokespecial 124, 3) := by decide +kernel
theorem dJ5_newCapacity_0f7a4_50 : decode cJ5_newCapacity_0f7a4 50 = .ok (.athrow, 1) := by decide +kernel
theorem dJ5_newCapacity_0f7a4_51 : decode cJ5_newCapacity_0f7a4 51 = .ok (.iload 5, 2) := by decide +kernel
theorem dJ5_newCapacity_0f7a4_53 : decode cJ5_newCapacity_0f7a4 53 = .ok (.aload_n 0, 1) := by decide +kernel
theorem dJ5_newCapacity_0f7a4_54 : decode cJ5_newCapacity_0f7a4 54 = .ok (.getfield 22, 3) := by decide +kernel
theorem dJ5_newCapacity_0f7a4_57 : decode cJ5_newCapacity_0f7a4 57 = .ok (.ishr, 1) := by decide +kernel
theorem dJ5_newCapacity_0f7a4_58 : decode cJ5_newCapacity_0f7a4 58 = .ok (.ireturn, 1) := by decide +kernel
theorem dJ7_copyOf_9075b_0 : decode cJ7_copyOf_9075b 0 = .ok (.iload_n 1, 1) := by decide +kernel
theorem dJ7_copyOf_9075b_1 : decode cJ7_copyOf_9075b 1 = .ok (.aload_n 0, 1) := by decide +kernel
theorem dJ7_copyOf_9075b_2 : decode cJ7_copyOf_9075b 2 = .ok (.arraylength, 1) := by decide +kernel
theorem dJ7_copyOf_9075b_3 : decode cJ7_copyOf_9075b 3 = .ok (.if_icmp .ne 11, 3) := by decide +kernel
theorem dJ7_copyOf_9075b_6 : decode cJ7_copyOf_9075b 6 = .ok (.aload_n 0, 1) := by decide +kernel
theorem dJ7_copyOf_9075b_7 : decode cJ7_copyOf_9075b 7 = .ok (.invokevirtual 310, 3) := by decide +kernel
theorem dJ7_copyOf_9075b_10 : decode cJ7_copyOf_9075b 10 = .ok (.checkcast 311, 3) := by decide +kernel
theorem dJ7_copyOf_9075b_13 : decode cJ7_copyOf_9075b 13 = .ok (.areturn, 1) := by decide +kernel
theorem dJ7_copyOf_9075b_14 : decode cJ7_copyOf_9075b 14 = .ok (.iload_n 1, 1) := by decide +kernel
theorem dJ7_copyOf_9075b_15 : decode cJ7_copyOf_9075b 15 = .ok (.newarray .byte, 2) := by decide +kernel
theorem dJ7_copyOf_9075b_17 : decode cJ7_copyOf_9075b 17 = .ok (.astore_n 2, 1) := by decide +kernel
theorem dJ7_copyOf_9075b_18 : decode cJ7_copyOf_9075b 18 = .ok (.aload_n 0, 1) := by decide +kernel
theorem dJ7_copyOf_9075b_19 : decode cJ7_copyOf_9075b 19 = .ok (.iconst 0, 1) := by decide +kernel
theorem dJ7_copyOf_9075b_20 : decode cJ7_copyOf_9075b 20 = .ok (.aload_n 2, 1) := by decide +kernel
theorem dJ7_copyOf_9075b_21 : decode cJ7_copyOf_9075b 21 = .ok (.iconst 0, 1) := by decide +kernel
theorem dJ7_copyOf_9075b_22 : decode cJ7_copyOf_9075b 22 = .ok (.aload_n 0, 1) := by decide +kernel
theorem dJ7_copyOf_9075b_23 : decode cJ7_copyOf_9075b 23 = .ok (.arraylength, 1) := by decide +kernel
theorem dJ7_copyOf_9075b_24 : decode cJ7_copyOf_9075b 24 = .ok (.iload_n 1, 1) := by decide +kernel
theorem dJ7_copyOf_9075b_25 : decode cJ7_copyOf_9075b 25 = .ok (.invokestatic 304, 3) := by decide +kernel
theorem dJ7_copyOf_9075b_28 : decode cJ7_copyOf_9075b 28 = .ok (.invokestatic 150, 3) := by decide +kernel
theorem dJ7_copyOf_9075b_31 : decode cJ7_copyOf_9075b 31 = .ok (.aload_n 2, 1) := by decide +kernel
theorem dJ7_copyOf_9075b_32 : decode cJ7_copyOf_9075b 32 = .ok (.areturn, 1) := by decide +kernel
theorem dJ5_ensureCapacityInternal_d00df_0 : decode cJ5_ensureCapacityInternal_d00df 0 = .ok (.aload_n 0, 1) := by decide +kernel
theorem dJ5_ensureCapacityInternal_d00df_1 : decode cJ5_ensureCapacityInternal_d00df 1 = .ok (.getfield 15, 3) := by decide +kernel
theorem dJ5_ensureCapacityInternal_d00df_4 : decode cJ5_ensureCapacityInternal_d00df 4 = .ok (.arraylength, 1) := by decide +kernel
theorem dJ5_ensureCapacityInternal_d00df_5 : decode cJ5_ensureCapacityInternal_d00df 5 = .ok (.aload_n 0, 1) := by decide +kernel
theorem dJ5_ensureCapacityInternal_d00df_6 : decode cJ5_ensureCapacityInternal_d00df 6 = .ok (.getfield 22, 3) := by decide +kernel
theorem dJ5_ensureCapacityInternal_d00df_9 : decode cJ5_ensureCapacityInternal_d00df 9 = .ok (.ishr, 1) := by decide +kernel
theorem dJ5_ensureCapacityInternal_d00df_10 : decode cJ5_ensureCapacityInternal_d00df 10 = .ok (.istore_n 2, 1) := by decide +kernel
theorem dJ5_ensureCapacityInternal_d00df_11 : decode cJ5_ensureCapacityInternal_d00df 11 = .ok (.iload_n 1, 1) := by decide +kernel
theorem dJ5_ensureCapacityInternal_d00df_12 : decode cJ5_ensureCapacityInternal_d00df 12 = .ok (.iload_n 2, 1) := by decide +kernel
theorem dJ5_ensureCapacityInternal_d00df_13 : decode cJ5_ensureCapacityInternal_d00df 13 = .ok (.isub, 1) := by decide +kernel
theorem dJ5_ensureCapacityInternal_d00df_14 : decode cJ5_ensureCapacityInternal_d00df 14 = .ok (.ifCond .le 24, 3) := by decide +kernel
theorem dJ5_ensureCapacityInternal_d00df_17 : decode cJ5_ensureCapacityInternal_d00df 17 = .ok (.aload_n 0, 1) := by decide +kernel
theorem dJ5_ensureCapacityInternal_d00df_18 : decode cJ5_ensureCapacityInternal_d00df 18 = .ok (.aload_n 0, 1) := by decide +kernel
theorem dJ5_ensureCapacityInternal_d00df_19 : decode cJ5_ensureCapacityInternal_d00df 19 = .ok (.getfield 15, 3) := by decide +kernel
theorem dJ5_ensureCapacityInternal_d00df_22 : decode cJ5_ensureCapacityInternal_d00df 22 = .ok (.aload_n 0, 1) := by decide +kernel
theorem dJ5_ensureCapacityInternal_d00df_23 : decode cJ5_ensureCapacityInternal_d00df 23 = .ok (.iload_n 1, 1) := by decide +kernel
theorem dJ5_ensureCapacityInternal_d00df_24 : decode cJ5_ensureCapacityInternal_d00df 24 = .ok (.invokevirtual 104, 3) := by decide +kernel
theorem dJ5_ensureCapacityInternal_d00df_27 : decode cJ5_ensureCapacityInternal_d00df 27 = .ok (.aload_n 0, 1) := by decide +kernel
theorem dJ5_ensureCapacityInternal_d00df_28 : decode cJ5_ensureCapacityInternal_d00df 28 = .ok (.getfield 22, 3) := by decide +kernel
theorem dJ5_ensureCapacityInternal_d00df_31 : decode cJ5_ensureCapacityInternal_d00df 31 = .ok (.ishl, 1) := by decide +kernel
theorem dJ5_ensureCapacityInternal_d00df_32 : decode cJ5_ensureCapacityInternal_d00df 32 = .ok (.invokestatic 108, 3) := by decide +kernel
theorem dJ5_ensureCapacityInternal_d00df_35 : decode cJ5_ensureCapacityInternal_d00df 35 = .ok (.putfield 15, 3) := by decide +kernel
theorem dJ5_ensureCapacityInternal_d00df_38 : decode cJ5_ensureCapacityInternal_d00df 38 = .ok (.return_, 1) := by decide +kernel
theorem dJ5_isLatin1_aae02_0 : decode cJ5_isLatin1_aae02 0 = .ok (.getstatic 18, 3) := by decide +kernel
theorem dJ5_isLatin1_aae02_3 : decode cJ5_isLatin1_aae02 3 = .ok (.ifCond .eq 14, 3) := by decide +kernel
theorem dJ5_isLatin1_aae02_6 : decode cJ5_isLatin1_aae02 6 = .ok (.aload_n 0, 1) := by decide +kernel
theorem dJ5_isLatin1_aae02_7 : decode cJ5_isLatin1_aae02 7 = .ok (.getfield 22, 3) := by decide +kernel
theorem dJ5_isLatin1_aae02_10 : decode cJ5_isLatin1_aae02 10 = .ok (.ifCond .ne 7, 3) := by decide +kernel
theorem dJ5_isLatin1_aae02_13 : decode cJ5_isLatin1_aae02 13 = .ok (.iconst 1, 1) := by decide +kernel
theorem dJ5_isLatin1_aae02_14 : decode cJ5_isLatin1_aae02 14 = .ok (.goto 4, 3) := by decide +kernel
theorem dJ5_isLatin1_aae02_17 : decode cJ5_isLatin1_aae02 17 = .ok (.iconst 0, 1) := by decide +kernel
theorem dJ5_isLatin1_aae02_18 : decode cJ5_isLatin1_aae02 18 = .ok (.ireturn, 1) := by decide +kernel
theorem dJ5_appendNull_278bc_0 : decode cJ5_appendNull_278bc 0 = .ok (.aload_n 0, 1) := by decide +kernel
theorem dJ5_appendNull_278bc_1 : decode cJ5_appendNull_278bc 1 = .ok (.aload_n 0, 1) := by decide +kernel
theorem dJ5_appendNull_278bc_2 : decode cJ5_appendNull_278bc 2 = .ok (.getfield 79, 3) := by decide +kernel
theorem dJ5_appendNull_278bc_5 : decode cJ5_appendNull_278bc 5 = .ok (.iconst 4, 1) := by decide +kernel
theorem dJ5_appendNull_278bc_6 : decode cJ5_appendNull_278bc 6 = .ok (.iadd, 1) := by decide +kernel
theorem dJ5_appendNull_278bc_7 : decode cJ5_appendNull_278bc 7 = .ok (.invokevirtual 100, 3) := by decide +kernel
theorem dJ5_appendNull_278bc_10 : decode cJ5_appendNull_278bc 10 = .ok (.aload_n 0, 1) := by decide +kernel
theorem dJ5_appendNull_278bc_11 : decode cJ5_appendNull_278bc 11 = .ok (.getfield 79, 3) := by decide +kernel
theorem dJ5_appendNull_278bc_14 : decode cJ5_appendNull_278bc 14 = .ok (.istore_n 1, 1) := by decide +kernel
theorem dJ5_appendNull_278bc_15 : decode cJ5_appendNull_278bc 15 = .ok (.aload_n 0, 1) := by decide +kernel
theorem dJ5_appendNull_278bc_16 : decode cJ5_appendNull_278bc 16 = .ok (.getfield 15, 3) := by decide +kernel
theorem dJ5_appendNull_278bc_19 : decode cJ5_appendNull_278bc 19 = .ok (.astore_n 2, 1) := by decide +kernel
theorem dJ5_appendNull_278bc_20 : decode cJ5_appendNull_278bc 20 = .ok (.aload_n 0, 1) := by decide +kernel
theorem dJ5_appendNull_278bc_21 : decode cJ5_appendNull_278bc 21 = .ok (.invokevirtual 83, 3) := by decide +kernel
theorem dJ5_appendNull_278bc_24 : decode cJ5_appendNull_278bc 24 = .ok (.ifCond .eq 38, 3) := by decide +kernel
theorem dJ5_appendNull_278bc_27 : decode cJ5_appendNull_278bc 27 = .ok (.aload_n 2, 1) := by decide +kernel
theorem dJ5_appendNull_278bc_28 : decode cJ5_appendNull_278bc 28 = .ok (.iload_n 1, 1) := by decide +kernel
theorem dJ5_appendNull_278bc_29 : decode cJ5_appendNull_278bc 29 = .ok (.iinc 1 1, 3) := by decide +kernel
theorem dJ5_appendNull_278bc_32 : decode cJ5_appendNull_278bc 32 = .ok (.bipush 110, 2) := by decide +kernel
theorem dJ5_appendNull_278bc_34 : decode cJ5_appendNull_278bc 34 = .ok (.bastore, 1) := by decide +kernel
theorem dJ5_appendNull_278bc_35 : decode cJ5_appendNull_278bc 35 = .ok (.aload_n 2, 1) := by decide +kernel
theorem dJ5_appendNull_278bc_36 : decode cJ5_appendNull_278bc 36 = .ok (.iload_n 1, 1) := by decide +kernel
theorem dJ5_appendNull_278bc_37 : decode cJ5_appendNull_278bc 37 = .ok (.iinc 1 1, 3) := by decide +kernel
theorem dJ5_appendNull_278bc_40 : decode cJ5_appendNull_278bc 40 = .ok (.bipush 117, 2) := by decide +kernel
theorem dJ5_appendNull_278bc_42 : decode cJ5_appendNull_278bc 42 = .ok (.bastore, 1) := by decide +kernel
theorem dJ5_appendNull_278bc_43 : decode cJ5_appendNull_278bc 43 = .ok (.aload_n 2, 1) := by decide +kernel
theorem dJ5_appendNull_278bc_44 : decode cJ5_appendNull_278bc 44 = .ok (.iload_n 1, 1) := by decide +kernel
theorem dJ5_appendNull_278bc_45 : decode cJ5_appendNull_278bc 45 = .ok (.iinc 1 1, 3) := by decide +kernel
theorem dJ5_appendNull_278bc_48 : decode cJ5_appendNull_278bc 48 = .ok (.bipush 108, 2) := by decide +kernel
theorem dJ5_appendNull_278bc_50 : decode cJ5_appendNull_278bc 50 = .ok (.bastore, 1) := by decide +kernel
theorem dJ5_appendNull_278bc_51 : decode cJ5_appendNull_278bc 51 = .ok (.aload_n 2, 1) := by decide +kernel
theorem dJ5_appendNull_278bc_52 : decode cJ5_appendNull_278bc 52 = .ok (.iload_n 1, 1) := by decide +kernel
theorem dJ5_appendNull_278bc_53 : decode cJ5_appendNull_278bc 53 = .ok (.iinc 1 1, 3) := by decide +kernel
theorem dJ5_appendNull_278bc_56 : decode cJ5_appendNull_278bc 56 = .ok (.bipush 108, 2) := by decide +kernel
theorem dJ5_appendNull_278bc_58 : decode cJ5_appendNull_278bc 58 = .ok (.bastore, 1) := by decide +kernel
theorem dJ5_appendNull_278bc_59 : decode cJ5_appendNull_278bc 59 = .ok (.goto 17, 3) := by decide +kernel
theorem dJ5_appendNull_278bc_62 : decode cJ5_appendNull_278bc 62 = .ok (.aload_n 2, 1) := by decide +kernel
theorem dJ5_appendNull_278bc_63 : decode cJ5_appendNull_278bc 63 = .ok (.iload_n 1, 1) := by decide +kernel
theorem dJ5_appendNull_278bc_64 : decode cJ5_appendNull_278bc 64 = .ok (.bipush 110, 2) := by decide +kernel
theorem dJ5_appendNull_278bc_66 : decode cJ5_appendNull_278bc 66 = .ok (.bipush 117, 2) := by decide +kernel
theorem dJ5_appendNull_278bc_68 : decode cJ5_appendNull_278bc 68 = .ok (.bipush 108, 2) := by decide +kernel
theorem dJ5_appendNull_278bc_70 : decode cJ5_appendNull_278bc 70 = .ok (.bipush 108, 2) := by decide +kernel
theorem dJ5_appendNull_278bc_72 : decode cJ5_appendNull_278bc 72 = .ok (.invokestatic 226, 3) := by decide +kernel
theorem dJ5_appendNull_278bc_75 : decode cJ5_appendNull_278bc 75 = .ok (.istore_n 1, 1) := by decide +kernel
theorem dJ5_appendNull_278bc_76 : decode cJ5_appendNull_278bc 76 = .ok (.aload_n 0, 1) := by decide +kernel
theorem dJ5_appendNull_278bc_77 : decode cJ5_appendNull_278bc 77 = .ok (.iload_n 1, 1) := by decide +kernel
theorem dJ5_appendNull_278bc_78 : decode cJ5_appendNull_278bc 78 = .ok (.putfield 79, 3) := by decide +kernel
theorem dJ5_appendNull_278bc_81 : decode cJ5_appendNull_278bc 81 = .ok (.aload_n 0, 1) := by decide +kernel
theorem dJ5_appendNull_278bc_82 : decode cJ5_appendNull_278bc 82 = .ok (.areturn, 1) := by decide +kernel
theorem dJ2_newBytesFor_77867_0 : decode cJ2_newBytesFor_77867 0 = .ok (.iload_n 0, 1) := by decide +kernel
theorem dJ2_newBytesFor_77867_1 : decode cJ2_newBytesFor_77867 1 = .ok (.invokestatic 11, 3) := by decide +kernel
theorem dJ2_newBytesFor_77867_4 : decode cJ2_newBytesFor_77867 4 = .ok (.newarray .byte, 2) := by decide +kernel
theorem dJ2_newBytesFor_77867_6 : decode cJ2_newBytesFor_77867 6 = .ok (.areturn, 1) := by decide +kernel
theorem dJ5_inflate_da8c8_0 : decode cJ5_inflate_da8c8 0 = .ok (.aload_n 0, 1) := by decide +kernel
theorem dJ5_inflate_da8c8_1 : decode cJ5_inflate_da8c8 1 = .ok (.invokevirtual 83, 3) := by decide +kernel
theorem dJ5_inflate_da8c8_4 : decode cJ5_inflate_da8c8 4 = .ok (.ifCond .ne 4, 3) := by decide +kernel
theorem dJ5_inflate_da8c8_7 : decode cJ5_inflate_da8c8 7 = .ok (.return_, 1) := by decide +kernel
theorem dJ5_inflate_da8c8_8 : decode cJ5_inflate_da8c8 8 = .ok (.aload_n 0, 1) := by decide +kernel
theorem dJ5_inflate_da8c8_9 : decode cJ5_inflate_da8c8 9 = .ok (.getfield 15, 3) := by decide +kernel
theorem dJ5_inflate_da8c8_12 : decode cJ5_inflate_da8c8 12 = .ok (.arraylength, 1) := by decide +kernel
theorem dJ5_inflate_da8c8_13 : decode cJ5_inflate_da8c8 13 = .ok (.invokestatic 26, 3) := by decide +kernel
theorem dJ5_inflate_da8c8_16 : decode cJ5_inflate_da8c8 16 = .ok (.astore_n 1, 1) := by decide +kernel
theorem dJ5_inflate_da8c8_17 : decode cJ5_inflate_da8c8 17 = .ok (.aload_n 0, 1) := by decide +kernel
theorem dJ5_inflate_da8c8_18 : decode cJ5_inflate_da8c8 18 = .ok (.getfield 15, 3) := by decide +kernel
theorem dJ5_inflate_da8c8_21 : decode cJ5_inflate_da8c8 21 = .ok (.iconst 0, 1) := by decide +kernel
theorem dJ5_inflate_da8c8_22 : decode cJ5_inflate_da8c8 22 = .ok (.aload_n 1, 1) := by decide +kernel
theorem dJ5_inflate_da8c8_23 : decode cJ5_inflate_da8c8 23 = .ok (.iconst 0, 1) := by decide +kernel
theorem dJ5_inflate_da8c8_24 : decode cJ5_inflate_da8c8 24 = .ok (.aload_n 0, 1) := by decide +kernel
theorem dJ5_inflate_da8c8_25 : decode cJ5_inflate_da8c8 25 = .ok (.getfield 79, 3) := by decide +kernel
theorem dJ5_inflate_da8c8_28 : decode cJ5_inflate_da8c8 28 = .ok (.invokestatic 125, 3) := by decide +kernel
theorem dJ5_inflate_da8c8_31 : decode cJ5_inflate_da8c8 31 = .ok (.aload_n 0, 1) := by decide +kernel
theorem dJ5_inflate_da8c8_32 : decode cJ5_inflate_da8c8 32 = .ok (.aload_n 1, 1) := by decide +kernel
theorem dJ5_inflate_da8c8_33 : decode cJ5_inflate_da8c8 33 = .ok (.putfield 15, 3) := by decide +kernel
theorem dJ5_inflate_da8c8_36 : decode cJ5_inflate_da8c8 36 = .ok (.aload_n 0, 1) := by decide +kernel
theorem dJ5_inflate_da8c8_37 : decode cJ5_inflate_da8c8 37 = .ok (.iconst 1, 1) := by decide +kernel
theorem dJ5_inflate_da8c8_38 : decode cJ5_inflate_da8c8 38 = .ok (.putfield 22, 3) := by decide +kernel
theorem dJ5_inflate_da8c8_41 : decode cJ5_inflate_da8c8 41 = .ok (.return_, 1) := by decide +kernel
theorem dJ5_inflateIfNeededFor_a7421_0 : decode cJ5_inflateIfNeededFor_a7421 0 = .ok (.getstatic 18, 3) := by decide +kernel
theorem dJ5_inflateIfNeededFor_a7421_3 : decode cJ5_inflateIfNeededFor_a7421 3 = .ok (.ifCond .eq 18, 3) := by decide +kernel
theorem dJ5_inflateIfNeededFor_a7421_6 : decode cJ5_inflateIfNeededFor_a7421 6 = .ok (.aload_n 0, 1) := by decide +kernel
theorem dJ5_inflateIfNeededFor_a7421_7 : decode cJ5_inflateIfNeededFor_a7421 7 = .ok (.getfield 22, 3) := by decide +kernel
theorem dJ5_inflateIfNeededFor_a7421_10 : decode cJ5_inflateIfNeededFor_a7421 10 = .ok (.aload_n 1, 1) := by decide +kernel
theorem dJ5_inflateIfNeededFor_a7421_11 : decode cJ5_inflateIfNeededFor_a7421 11 = .ok (.invokevirtual 40, 3) := by decide +kernel
theorem dJ5_inflateIfNeededFor_a7421_14 : decode cJ5_inflateIfNeededFor_a7421 14 = .ok (.if_icmp .eq 7, 3) := by decide +kernel
theorem dJ5_inflateIfNeededFor_a7421_17 : decode cJ5_inflateIfNeededFor_a7421 17 = .ok (.aload_n 0, 1) := by decide +kernel
theorem dJ5_inflateIfNeededFor_a7421_18 : decode cJ5_inflateIfNeededFor_a7421 18 = .ok (.invokevirtual 195, 3) := by decide +kernel
theorem dJ5_inflateIfNeededFor_a7421_21 : decode cJ5_inflateIfNeededFor_a7421 21 = .ok (.return_, 1) := by decide +kernel
theorem dJ5_putStringAt_47b60_0 : decode cJ5_putStringAt_47b60 0 = .ok (.aload_n 0, 1) := by decide +kernel
theorem dJ5_putStringAt_47b60_1 : decode cJ5_putStringAt_47b60 1 = .ok (.aload_n 2, 1) := by decide +kernel
theorem dJ5_putStringAt_47b60_2 : decode cJ5_putStringAt_47b60 2 = .ok (.invokevirtual 397, 3) := by decide +kernel
theorem dJ5_putStringAt_47b60_5 : decode cJ5_putStringAt_47b60 5 = .ok (.aload_n 2, 1) := by decide +kernel
theorem dJ5_putStringAt_47b60_6 : decode cJ5_putStringAt_47b60 6 = .ok (.aload_n 0, 1) := by decide +kernel
theorem dJ5_putStringAt_47b60_7 : decode cJ5_putStringAt_47b60 7 = .ok (.getfield 15, 3) := by decide +kernel
theorem dJ5_putStringAt_47b60_10 : decode cJ5_putStringAt_47b60 10 = .ok (.iload_n 1, 1) := by decide +kernel
theorem dJ5_putStringAt_47b60_11 : decode cJ5_putStringAt_47b60 11 = .ok (.aload_n 0, 1) := by decide +kernel
theorem dJ5_putStringAt_47b60_12 : decode cJ5_putStringAt_47b60 12 = .ok (.getfield 22, 3) := by decide +kernel
theorem dJ5_putStringAt_47b60_15 : decode cJ5_putStringAt_47b60 15 = .ok (.invokevirtual 399, 3) := by decide +kernel
theorem dJ5_putStringAt_47b60_18 : decode cJ5_putStringAt_47b60 18 = .ok (.return_, 1) := by decide +kernel
theorem dJ5_append_cf1ce_0 : decode cJ5_append_cf1ce 0 = .ok (.aload_n 1, 1) := by decide +kernel
theorem dJ5_append_cf1ce_1 : decode cJ5_append_cf1ce 1 = .ok (.ifnonnull 8, 3) := by decide +kernel
theorem dJ5_append_cf1ce_4 : decode cJ5_append_cf1ce 4 = .ok (.aload_n 0, 1) := by decide +kernel
theorem dJ5_append_cf1ce_5 : decode cJ5_append_cf1ce 5 = .ok (.invokevirtual 204, 3) := by decide +kernel
theorem dJ5_append_cf1ce_8 : decode cJ5_append_cf1ce 8 = .ok (.areturn, 1) := by decide +kernel
theorem dJ5_append_cf1ce_9 : decode cJ5_append_cf1ce 9 = .ok (.aload_n 1, 1) := by decide +kernel
theorem dJ5_append_cf1ce_10 : decode cJ5_append_cf1ce 10 = .ok (.invokevirtual 32, 3) := by decide +kernel
theorem dJ5_append_cf1ce_13 : decode cJ5_append_cf1ce 13 = .ok (.istore_n 2, 1) := by decide +kernel
theorem dJ5_append_cf1ce_14 : decode cJ5_append_cf1ce 14 = .ok (.aload_n 0, 1) := by decide +kernel
theorem dJ5_append_cf1ce_15 : decode cJ5_append_cf1ce 15 = .ok (.aload_n 0, 1) := by decide +kernel
theorem dJ5_append_cf1ce_16 : decode cJ5_append_cf1ce 16 = .ok (.getfield 79, 3) := by decide +kernel
theorem dJ5_append_cf1ce_19 : decode cJ5_append_cf1ce 19 = .ok (.iload_n 2, 1) := by decide +kernel
theorem dJ5_append_cf1ce_20 : decode cJ5_append_cf1ce 20 = .ok (.iadd, 1) := by decide +kernel
theorem dJ5_append_cf1ce_21 : decode cJ5_append_cf1ce 21 = .ok (.invokevirtual 100, 3) := by decide +kernel
theorem dJ5_append_cf1ce_24 : decode cJ5_append_cf1ce 24 = .ok (.aload_n 0, 1) := by decide +kernel
theorem dJ5_append_cf1ce_25 : decode cJ5_append_cf1ce 25 = .ok (.aload_n 0, 1) := by decide +kernel
theorem dJ5_append_cf1ce_26 : decode cJ5_append_cf1ce 26 = .ok (.getfield 79, 3) := by decide +kernel
theorem dJ5_append_cf1ce_29 : decode cJ5_append_cf1ce 29 = .ok (.aload_n 1, 1) := by decide +kernel
theorem dJ5_append_cf1ce_30 : decode cJ5_append_cf1ce 30 = .ok (.invokevirtual 208, 3) := by decide +kernel
theorem dJ5_append_cf1ce_33 : decode cJ5_append_cf1ce 33 = .ok (.aload_n 0, 1) := by decide +kernel
theorem dJ5_append_cf1ce_34 : decode cJ5_append_cf1ce 34 = .ok (.dup, 1) := by decide +kernel
theorem dJ5_append_cf1ce_35 : decode cJ5_append_cf1ce 35 = .ok (.getfield 79, 3) := by decide +kernel
theorem dJ5_append_cf1ce_38 : decode cJ5_append_cf1ce 38 = .ok (.iload_n 2, 1) := by decide +kernel
theorem dJ5_append_cf1ce_39 : decode cJ5_append_cf1ce 39 = .ok (.iadd, 1) := by decide +kernel
theorem dJ5_append_cf1ce_40 : decode cJ5_append_cf1ce 40 = .ok (.putfield 79, 3) := by decide +kernel
theorem dJ5_append_cf1ce_43 : decode cJ5_append_cf1ce 43 = .ok (.aload_n 0, 1) := by decide +kernel
theorem dJ5_append_cf1ce_44 : decode cJ5_append_cf1ce 44 = .ok (.areturn, 1) := by decide +kernel
theorem dJ4_append_15ec4_0 : decode cJ4_append_15ec4 0 = .ok (.aload_n 0, 1) := by decide +kernel
theorem dJ4_append_15ec4_1 : decode cJ4_append_15ec4 1 = .ok (.aload_n 1, 1) := by decide +kernel
theorem dJ4_append_15ec4_2 : decode cJ4_append_15ec4 2 = .ok (.invokespecial 29, 3) := by decide +kernel
theorem dJ4_append_15ec4_5 : decode cJ4_append_15ec4 5 = .ok (.pop, 1) := by decide +kernel
theorem dJ4_append_15ec4_6 : decode cJ4_append_15ec4 6 = .ok (.aload_n 0, 1) := by decide +kernel
theorem dJ4_append_15ec4_7 : decode cJ4_append_15ec4 7 = .ok (.areturn, 1) := by decide +kernel
theorem dJ2_getChars_ba4f3_0 : decode cJ2_getChars_ba4f3 0 = .ok (.iload_n 1, 1) := by decide +kernel
theorem dJ2_getChars_ba4f3_1 : decode cJ2_getChars_ba4f3 1 = .ok (.istore 5, 2) := by decide +kernel
theorem dJ2_getChars_ba4f3_3 : decode cJ2_getChars_ba4f3 3 = .ok (.iload_n 0, 1) := by decide +kernel
theorem dJ2_getChars_ba4f3_4 : decode cJ2_getChars_ba4f3 4 = .ok (.ifCond .ge 7, 3) := by decide +kernel
theorem dJ2_getChars_ba4f3_7 : decode cJ2_getChars_ba4f3 7 = .ok (.iconst 1, 1) := by decide +kernel
theorem dJ2_getChars_ba4f3_8 : decode cJ2_getChars_ba4f3 8 = .ok (.goto 4, 3) := by decide +kernel
theorem dJ2_getChars_ba4f3_11 : decode cJ2_getChars_ba4f3 11 = .ok (.iconst 0, 1) := by decide +kernel
theorem dJ2_getChars_ba4f3_12 : decode cJ2_getChars_ba4f3 12 = .ok (.istore 6, 2) := by decide +kernel
theorem dJ2_getChars_ba4f3_14 : decode cJ2_getChars_ba4f3 14 = .ok (.iload 6, 2) := by decide +kernel
theorem dJ2_getChars_ba4f3_16 : decode cJ2_getChars_ba4f3 16 = .ok (.ifCond .ne 6, 3) := by decide +kernel
theorem dJ2_getChars_ba4f3_19 : decode cJ2_getChars_ba4f3 19 = .ok (.iload_n 0, 1) := by decide +kernel
theorem dJ2_getChars_ba4f3_20 : decode cJ2_getChars_ba4f3 20 = .ok (.ineg, 1) := by decide +kernel
theorem dJ2_getChars_ba4f3_21 : decode cJ2_getChars_ba4f3 21 = .ok (.istore_n 0, 1) := by decide +kernel
theorem dJ2_getChars_ba4f3_22 : decode cJ2_getChars_ba4f3 22 = .ok (.iload_n 0, 1) := by decide +kernel
theorem dJ2_getChars_ba4f3_23 : decode cJ2_getChars_ba4f3 23 = .ok (.bipush (-100), 2) := by decide +kernel
theorem dJ2_getChars_ba4f3_25 : decode cJ2_getChars_ba4f3 25 = .ok (.if_icmp .gt 51, 3) := by decide +kernel
theorem dJ2_getChars_ba4f3_28 : decode cJ2_getChars_ba4f3 28 = .ok (.iload_n 0, 1) := by decide +kernel
theorem dJ2_getChars_ba4f3_29 : decode cJ2_getChars_ba4f3 29 = .ok (.bipush 100, 2) := by decide +kernel
theorem dJ2_getChars_ba4f3_31 : decode cJ2_getChars_ba4f3 31 = .ok (.idiv, 1) := by decide +kernel
theorem dJ2_getChars_ba4f3_32 : decode cJ2_getChars_ba4f3 32 = .ok (.istore_n 3, 1) := by decide +kernel
theorem dJ2_getChars_ba4f3_33 : decode cJ2_getChars_ba4f3 33 = .ok (.iload_n 3, 1) := by decide +kernel
theorem dJ2_getChars_ba4f3_34 : decode cJ2_getChars_ba4f3 34 = .ok (.bipush 100, 2) := by decide +kernel
theorem dJ2_getChars_ba4f3_36 : decode cJ2_getChars_ba4f3 36 = .ok (.imul, 1) := by decide +kernel
theorem dJ2_getChars_ba4f3_37 : decode cJ2_getChars_ba4f3 37 = .ok (.iload_n 0, 1) := by decide +kernel
theorem dJ2_getChars_ba4f3_38 : decode cJ2_getChars_ba4f3 38 = .ok (.isub, 1) := by decide +kernel
theorem dJ2_getChars_ba4f3_39 : decode cJ2_getChars_ba4f3 39 = .ok (.istore 4, 2) := by decide +kernel
theorem dJ2_getChars_ba4f3_41 : decode cJ2_getChars_ba4f3 41 = .ok (.iload_n 3, 1) := by decide +kernel
theorem dJ2_getChars_ba4f3_42 : decode cJ2_getChars_ba4f3 42 = .ok (.istore_n 0, 1) := by decide +kernel
theorem dJ2_getChars_ba4f3_43 : decode cJ2_getChars_ba4f3 43 = .ok (.aload_n 2, 1) := by decide +kernel
theorem dJ2_getChars_ba4f3_44 : decode cJ2_getChars_ba4f3 44 = .ok (.iinc 5 (-1), 3) := by decide +kernel
theorem dJ2_getChars_ba4f3_47 : decode cJ2_getChars_ba4f3 47 = .ok (.iload 5, 2) := by decide +kernel
theorem dJ2_getChars_ba4f3_49 : decode cJ2_getChars_ba4f3 49 = .ok (.getstatic 403, 3) := by decide +kernel
theorem dJ2_getChars_ba4f3_52 : decode cJ2_getChars_ba4f3 52 = .ok (.iload 4, 2) := by decide +kernel
theorem dJ2_getChars_ba4f3_54 : decode cJ2_getChars_ba4f3 54 = .ok (.baload, 1) := by decide +kernel
theorem dJ2_getChars_ba4f3_55 : decode cJ2_getChars_ba4f3 55 = .ok (.invokestatic 111, 3) := by decide +kernel
theorem dJ2_getChars_ba4f3_58 : decode cJ2_getChars_ba4f3 58 = .ok (.aload_n 2, 1) := by decide +kernel
theorem dJ2_getChars_ba4f3_59 : decode cJ2_getChars_ba4f3 59 = .ok (.iinc 5 (-1), 3) := by decide +kernel
theorem dJ2_getChars_ba4f3_62 : decode cJ2_getChars_ba4f3 62 = .ok (.iload 5, 2) := by decide +kernel
theorem dJ2_getChars_ba4f3_64 : decode cJ2_getChars_ba4f3 64 = .ok (.getstatic 407, 3) := by decide +kernel
theorem dJ2_getChars_ba4f3_67 : decode cJ2_getChars_ba4f3 67 = .ok (.iload 4, 2) := by decide +kernel
theorem dJ2_getChars_ba4f3_69 : decode cJ2_getChars_ba4f3 69 = .ok (.baload, 1) := by decide +kernel
theorem dJ2_getChars_ba4f3_70 : decode cJ2_getChars_ba4f3 70 = .ok (.invokestatic 111, 3) := by decide +kernel
theorem dJ2_getChars_ba4f3_73 : decode cJ2_getChars_ba4f3 73 = .ok (.goto (-51), 3) := by decide +kernel
theorem dJ2_getChars_ba4f3_76 : decode cJ2_getChars_ba4f3 76 = .ok (.aload_n 2, 1) := by decide +kernel
theorem dJ2_getChars_ba4f3_77 : decode cJ2_getChars_ba4f3 77 = .ok (.iinc 5 (-1), 3) := by decide +kernel
theorem dJ2_getChars_ba4f3_80 : decode cJ2_getChars_ba4f3 80 = .ok (.iload 5, 2) := by decide +kernel
theorem dJ2_getChars_ba4f3_82 : decode cJ2_getChars_ba4f3 82 = .ok (.getstatic 403, 3) := by decide +kernel
theorem dJ2_getChars_ba4f3_85 : decode cJ2_getChars_ba4f3 85 = .ok (.iload_n 0, 1) := by decide +kernel
theorem dJ2_getChars_ba4f3_86 : decode cJ2_getChars_ba4f3 86 = .ok (.ineg, 1) := by decide +kernel
theorem dJ2_getChars_ba4f3_87 : decode cJ2_getChars_ba4f3 87 = .ok (.baload, 1) := by decide +kernel
theorem dJ2_getChars_ba4f3_88 : decode cJ2_getChars_ba4f3 88 = .ok (.invokestatic 111, 3) := by decide +kernel
theorem dJ2_getChars_ba4f3_91 : decode cJ2_getChars_ba4f3 91 = .ok (.iload_n 0, 1) := by decide +kernel
theorem dJ2_getChars_ba4f3_92 : decode cJ2_getChars_ba4f3 92 = .ok (.bipush (-9), 2) := by decide +kernel
theorem dJ2_getChars_ba4f3_94 : decode cJ2_getChars_ba4f3 94 = .ok (.if_icmp .ge 18, 3) := by decide +kernel
theorem dJ2_getChars_ba4f3_97 : decode cJ2_getChars_ba4f3 97 = .ok (.aload_n 2, 1) := by decide +kernel
theorem dJ2_getChars_ba4f3_98 : decode cJ2_getChars_ba4f3 98 = .ok (.iinc 5 (-1), 3) := by decide +kernel
theorem dJ2_getChars_ba4f3_101 : decode cJ2_getChars_ba4f3 101 = .ok (.iload 5, 2) := by decide +kernel
theorem dJ2_getChars_ba4f3_103 : decode cJ2_getChars_ba4f3 103 = .ok (.getstatic 407, 3) := by decide +kernel
theorem dJ2_getChars_ba4f3_106 : decode cJ2_getChars_ba4f3 106 = .ok (.iload_n 0, 1) := by decide +kernel
theorem dJ2_getChars_ba4f3_107 : decode cJ2_getChars_ba4f3 107 = .ok (.ineg, 1) := by decide +kernel
theorem dJ2_getChars_ba4f3_108 : decode cJ2_getChars_ba4f3 108 = .ok (.baload, 1) := by decide +kernel
theorem dJ2_getChars_ba4f3_109 : decode cJ2_getChars_ba4f3 109 = .ok (.invokestatic 111, 3) := by decide +kernel
theorem dJ2_getChars_ba4f3_112 : decode cJ2_getChars_ba4f3 112 = .ok (.iload 6, 2) := by decide +kernel
theorem dJ2_getChars_ba4f3_114 : decode cJ2_getChars_ba4f3 114 = .ok (.ifCond .eq 14, 3) := by decide +kernel
theorem dJ2_getChars_ba4f3_117 : decode cJ2_getChars_ba4f3 117 = .ok (.aload_n 2, 1) := by decide +kernel
theorem dJ2_getChars_ba4f3_118 : decode cJ2_getChars_ba4f3 118 = .ok (.iinc 5 (-1), 3) := by decide +kernel
theorem dJ2_getChars_ba4f3_121 : decode cJ2_getChars_ba4f3 121 = .ok (.iload 5, 2) := by decide +kernel
theorem dJ2_getChars_ba4f3_123 : decode cJ2_getChars_ba4f3 123 = .ok (.bipush 45, 2) := by decide +kernel
theorem dJ2_getChars_ba4f3_125 : decode cJ2_getChars_ba4f3 125 = .ok (.invokestatic 111, 3) := by decide +kernel
theorem dJ2_getChars_ba4f3_128 : decode cJ2_getChars_ba4f3 128 = .ok (.iload 5, 2) := by decide +kernel
theorem dJ2_getChars_ba4f3_130 : decode cJ2_getChars_ba4f3 130 = .ok (.ireturn, 1) := by decide +kernel
theorem dJ2_getChars_46870_0 : decode cJ2_getChars_46870 0 = .ok (.iload_n 1, 1) := by decide +kernel
theorem dJ2_getChars_46870_1 : decode cJ2_getChars_46870 1 = .ok (.iload_n 2, 1) := by decide +kernel
theorem dJ2_getChars_46870_2 : decode cJ2_getChars_46870 2 = .ok (.aload_n 3, 1) := by decide +kernel
theorem dJ2_getChars_46870_3 : decode cJ2_getChars_46870 3 = .ok (.invokestatic 96, 3) := by decide +kernel
theorem dJ2_getChars_46870_6 : decode cJ2_getChars_46870 6 = .ok (.iload_n 0, 1) := by decide +kernel
theorem dJ2_getChars_46870_7 : decode cJ2_getChars_46870 7 = .ok (.iload_n 2, 1) := by decide +kernel
theorem dJ2_getChars_46870_8 : decode cJ2_getChars_46870 8 = .ok (.aload_n 3, 1) := by decide +kernel
theorem dJ2_getChars_46870_9 : decode cJ2_getChars_46870 9 = .ok (.invokestatic 393, 3) := by decide +kernel
theorem dJ2_getChars_46870_12 : decode cJ2_getChars_46870 12 = .ok (.istore 4, 2) := by decide +kernel
theorem dJ2_getChars_46870_14 : decode cJ2_getChars_46870 14 = .ok (.getstatic 44, 3) := by decide +kernel
theorem dJ2_getChars_46870_17 : decode cJ2_getChars_46870 17 = .ok (.ifCond .ne 17, 3) := by decide +kernel
theorem dJ2_getChars_46870_20 : decode cJ2_getChars_46870 20 = .ok (.iload_n 1, 1) := by decide +kernel
theorem dJ2_getChars_46870_21 : decode cJ2_getChars_46870 21 = .ok (.iload 4, 2) := by decide +kernel
theorem dJ2_getChars_46870_23 : decode cJ2_getChars_46870 23 = .ok (.if_icmp .eq 11, 3) := by decide +kernel
theorem dJ2_getChars_46870_26 : decode cJ2_getChars_46870 26 = .ok (.new 52, 3) := by decide +kernel
theorem dJ2_getChars_46870_29 : decode cJ2_getChars_46870 29 = .ok (.dup, 1) := by decide +kernel
theorem dJ2_getChars_46870_30 : decode cJ2_getChars_46870 30 = .ok (.invokespecial 66, 3) := by decide +kernel
theorem dJ2_getChars_46870_33 : decode cJ2_getChars_46870 33 = .ok (.athrow, 1) := by decide +kernel
theorem dJ2_getChars_46870_34 : decode cJ2_getChars_46870 34 = .ok (.iload 4, 2) := by decide +kernel
theorem dJ2_getChars_46870_36 : decode cJ2_getChars_46870 36 = .ok (.ireturn, 1) := by decide +kernel
theorem dJ6_getChars_ba4f3_0 : decode cJ6_getChars_ba4f3 0 = .ok (.iload_n 1, 1) := by decide +kernel
theorem dJ6_getChars_ba4f3_1 : decode cJ6_getChars_ba4f3 1 = .ok (.istore 5, 2) := by decide +kernel
theorem dJ6_getChars_ba4f3_3 : decode cJ6_getChars_ba4f3 3 = .ok (.iload_n 0, 1) := by decide +kernel
theorem dJ6_getChars_ba4f3_4 : decode cJ6_getChars_ba4f3 4 = .ok (.ifCond .ge 7, 3) := by decide +kernel
theorem dJ6_getChars_ba4f3_7 : decode cJ6_getChars_ba4f3 7 = .ok (.iconst 1, 1) := by decide +kernel
theorem dJ6_getChars_ba4f3_8 : decode cJ6_getChars_ba4f3 8 = .ok (.goto 4, 3) := by decide +kernel
theorem dJ6_getChars_ba4f3_11 : decode cJ6_getChars_ba4f3 11 = .ok (.iconst 0, 1) := by decide +kernel
theorem dJ6_getChars_ba4f3_12 : decode cJ6_getChars_ba4f3 12 = .ok (.istore 6, 2) := by decide +kernel
theorem dJ6_getChars_ba4f3_14 : decode cJ6_getChars_ba4f3 14 = .ok (.iload 6, 2) := by decide +kernel
theorem dJ6_getChars_ba4f3_16 : decode cJ6_getChars_ba4f3 16 = .ok (.ifCond .ne 6, 3) := by decide +kernel
theorem dJ6_getChars_ba4f3_19 : decode cJ6_getChars_ba4f3 19 = .ok (.iload_n 0, 1) := by decide +kernel
theorem dJ6_getChars_ba4f3_20 : decode cJ6_getChars_ba4f3 20 = .ok (.ineg, 1) := by decide +kernel
theorem dJ6_getChars_ba4f3_21 : decode cJ6_getChars_ba4f3 21 = .ok (.istore_n 0, 1) := by decide +kernel
theorem dJ6_getChars_ba4f3_22 : decode cJ6_getChars_ba4f3 22 = .ok (.iload_n 0, 1) := by decide +kernel
theorem dJ6_getChars_ba4f3_23 : decode cJ6_getChars_ba4f3 23 = .ok (.bipush (-100), 2) := by decide +kernel
theorem dJ6_getChars_ba4f3_25 : decode cJ6_getChars_ba4f3 25 = .ok (.if_icmp .gt 47, 3) := by decide +kernel
theorem dJ6_getChars_ba4f3_28 : decode cJ6_getChars_ba4f3 28 = .ok (.iload_n 0, 1) := by decide +kernel
theorem dJ6_getChars_ba4f3_29 : decode cJ6_getChars_ba4f3 29 = .ok (.bipush 100, 2) := by decide +kernel
theorem dJ6_getChars_ba4f3_31 : decode cJ6_getChars_ba4f3 31 = .ok (.idiv, 1) := by decide +kernel
theorem dJ6_getChars_ba4f3_32 : decode cJ6_getChars_ba4f3 32 = .ok (.istore_n 3, 1) := by decide +kernel
theorem dJ6_getChars_ba4f3_33 : decode cJ6_getChars_ba4f3 33 = .ok (.iload_n 3, 1) := by decide +kernel
theorem dJ6_getChars_ba4f3_34 : decode cJ6_getChars_ba4f3 34 = .ok (.bipush 100, 2) := by decide +kernel
theorem dJ6_getChars_ba4f3_36 : decode cJ6_getChars_ba4f3 36 = .ok (.imul, 1) := by decide +kernel
theorem dJ6_getChars_ba4f3_37 : decode cJ6_getChars_ba4f3 37 = .ok (.iload_n 0, 1) := by decide +kernel
theorem dJ6_getChars_ba4f3_38 : decode cJ6_getChars_ba4f3 38 = .ok (.isub, 1) := by decide +kernel
theorem dJ6_getChars_ba4f3_39 : decode cJ6_getChars_ba4f3 39 = .ok (.istore 4, 2) := by decide +kernel
theorem dJ6_getChars_ba4f3_41 : decode cJ6_getChars_ba4f3 41 = .ok (.iload_n 3, 1) := by decide +kernel
theorem dJ6_getChars_ba4f3_42 : decode cJ6_getChars_ba4f3 42 = .ok (.istore_n 0, 1) := by decide +kernel
theorem dJ6_getChars_ba4f3_43 : decode cJ6_getChars_ba4f3 43 = .ok (.aload_n 2, 1) := by decide +kernel
theorem dJ6_getChars_ba4f3_44 : decode cJ6_getChars_ba4f3 44 = .ok (.iinc 5 (-1), 3) := by decide +kernel
theorem dJ6_getChars_ba4f3_47 : decode cJ6_getChars_ba4f3 47 = .ok (.iload 5, 2) := by decide +kernel
theorem dJ6_getChars_ba4f3_49 : decode cJ6_getChars_ba4f3 49 = .ok (.getstatic 83, 3) := by decide +kernel
theorem dJ6_getChars_ba4f3_52 : decode cJ6_getChars_ba4f3 52 = .ok (.iload 4, 2) := by decide +kernel
theorem dJ6_getChars_ba4f3_54 : decode cJ6_getChars_ba4f3 54 = .ok (.baload, 1) := by decide +kernel
theorem dJ6_getChars_ba4f3_55 : decode cJ6_getChars_ba4f3 55 = .ok (.bastore, 1) := by decide +kernel
theorem dJ6_getChars_ba4f3_56 : decode cJ6_getChars_ba4f3 56 = .ok (.aload_n 2, 1) := by decide +kernel
theorem dJ6_getChars_ba4f3_57 : decode cJ6_getChars_ba4f3 57 = .ok (.iinc 5 (-1), 3) := by decide +kernel
theorem dJ6_getChars_ba4f3_60 : decode cJ6_getChars_ba4f3 60 = .ok (.iload 5, 2) := by decide +kernel
theorem dJ6_getChars_ba4f3_62 : decode cJ6_getChars_ba4f3 62 = .ok (.getstatic 87, 3) := by decide +kernel
theorem dJ6_getChars_ba4f3_65 : decode cJ6_getChars_ba4f3 65 = .ok (.iload 4, 2) := by decide +kernel
theorem dJ6_getChars_ba4f3_67 : decode cJ6_getChars_ba4f3 67 = .ok (.baload, 1) := by decide +kernel
theorem dJ6_getChars_ba4f3_68 : decode cJ6_getChars_ba4f3 68 = .ok (.bastore, 1) := by decide +kernel
theorem dJ6_getChars_ba4f3_69 : decode cJ6_getChars_ba4f3 69 = .ok (.goto (-47), 3) := by decide +kernel
theorem dJ6_getChars_ba4f3_72 : decode cJ6_getChars_ba4f3 72 = .ok (.aload_n 2, 1) := by decide +kernel
theorem dJ6_getChars_ba4f3_73 : decode cJ6_getChars_ba4f3 73 = .ok (.iinc 5 (-1), 3) := by decide +kernel
theorem dJ6_getChars_ba4f3_76 : decode cJ6_getChars_ba4f3 76 = .ok (.iload 5, 2) := by decide +kernel
theorem dJ6_getChars_ba4f3_78 : decode cJ6_getChars_ba4f3 78 = .ok (.getstatic 83, 3) := by decide +kernel
theorem dJ6_getChars_ba4f3_81 : decode cJ6_getChars_ba4f3 81 = .ok (.iload_n 0, 1) := by decide +kernel
theorem dJ6_getChars_ba4f3_82 : decode cJ6_getChars_ba4f3 82 = .ok (.ineg, 1) := by decide +kernel
theorem dJ6_getChars_ba4f3_83 : decode cJ6_getChars_ba4f3 83 = .ok (.baload, 1) := by decide +kernel
theorem dJ6_getChars_ba4f3_84 : decode cJ6_getChars_ba4f3 84 = .ok (.bastore, 1) := by decide +kernel
theorem dJ6_getChars_ba4f3_85 : decode cJ6_getChars_ba4f3 85 = .ok (.iload_n 0, 1) := by decide +kernel
theorem dJ6_getChars_ba4f3_86 : decode cJ6_getChars_ba4f3 86 = .ok (.bipush (-9), 2) := by decide +kernel
theorem dJ6_getChars_ba4f3_88 : decode cJ6_getChars_ba4f3 88 = .ok (.if_icmp .ge 16, 3) := by decide +kernel
theorem dJ6_getChars_ba4f3_91 : decode cJ6_getChars_ba4f3 91 = .ok (.aload_n 2, 1) := by decide +kernel
theorem dJ6_getChars_ba4f3_92 : decode cJ6_getChars_ba4f3 92 = .ok (.iinc 5 (-1), 3) := by decide +kernel
theorem dJ6_getChars_ba4f3_95 : decode cJ6_getChars_ba4f3 95 = .ok (.iload 5, 2) := by decide +kernel
theorem dJ6_getChars_ba4f3_97 : decode cJ6_getChars_ba4f3 97 = .ok (.getstatic 87, 3) := by decide +kernel
theorem dJ6_getChars_ba4f3_100 : decode cJ6_getChars_ba4f3 100 = .ok (.iload_n 0, 1) := by decide +kernel
theorem dJ6_getChars_ba4f3_101 : decode cJ6_getChars_ba4f3 101 = .ok (.ineg, 1) := by decide +kernel
theorem dJ6_getChars_ba4f3_102 : decode cJ6_getChars_ba4f3 102 = .ok (.baload, 1) := by decide +kernel
theorem dJ6_getChars_ba4f3_103 : decode cJ6_getChars_ba4f3 103 = .ok (.bastore, 1) := by decide +kernel
theorem dJ6_getChars_ba4f3_104 : decode cJ6_getChars_ba4f3 104 = .ok (.iload 6, 2) := by decide +kernel
theorem dJ6_getChars_ba4f3_106 : decode cJ6_getChars_ba4f3 106 = .ok (.ifCond .eq 12, 3) := by decide +kernel
theorem dJ6_getChars_ba4f3_109 : decode cJ6_getChars_ba4f3 109 = .ok (.aload_n 2, 1) := by decide +kernel
theorem dJ6_getChars_ba4f3_110 : decode cJ6_getChars_ba4f3 110 = .ok (.iinc 5 (-1), 3) := by decide +kernel
theorem dJ6_getChars_ba4f3_113 : decode cJ6_getChars_ba4f3 113 = .ok (.iload 5, 2) := by decide +kernel
theorem dJ6_getChars_ba4f3_115 : decode cJ6_getChars_ba4f3 115 = .ok (.bipush 45, 2) := by decide +kernel
theorem dJ6_getChars_ba4f3_117 : decode cJ6_getChars_ba4f3 117 = .ok (.bastore, 1) := by decide +kernel
theorem dJ6_getChars_ba4f3_118 : decode cJ6_getChars_ba4f3 118 = .ok (.iload 5, 2) := by decide +kernel
theorem dJ6_getChars_ba4f3_120 : decode cJ6_getChars_ba4f3 120 = .ok (.ireturn, 1) := by decide +kernel
theorem dJ6_stringSize_0f7a4_0 : decode cJ6_stringSize_0f7a4 0 = .ok (.iconst 1, 1) := by decide +kernel
theorem dJ6_stringSize_0f7a4_1 : decode cJ6_stringSize_0f7a4 1 = .ok (.istore_n 1, 1) := by decide +kernel
theorem dJ6_stringSize_0f7a4_2 : decode cJ6_stringSize_0f7a4 2 = .ok (.iload_n 0, 1) := by decide +kernel
theorem dJ6_stringSize_0f7a4_3 : decode cJ6_stringSize_0f7a4 3 = .ok (.ifCond .lt 8, 3) := by decide +kernel
theorem dJ6_stringSize_0f7a4_6 : decode cJ6_stringSize_0f7a4 6 = .ok (.iconst 0, 1) := by decide +kernel
theorem dJ6_stringSize_0f7a4_7 : decode cJ6_stringSize_0f7a4 7 = .ok (.istore_n 1, 1) := by decide +kernel
theorem dJ6_stringSize_0f7a4_8 : decode cJ6_stringSize_0f7a4 8 = .ok (.iload_n 0, 1) := by decide +kernel
theorem dJ6_stringSize_0f7a4_9 : decode cJ6_stringSize_0f7a4 9 = .ok (.ineg, 1) := by decide +kernel
theorem dJ6_stringSize_0f7a4_10 : decode cJ6_stringSize_0f7a4 10 = .ok (.istore_n 0, 1) := by decide +kernel
theorem dJ6_stringSize_0f7a4_11 : decode cJ6_stringSize_0f7a4 11 = .ok (.bipush (-10), 2) := by decide +kernel
theorem dJ6_stringSize_0f7a4_13 : decode cJ6_stringSize_0f7a4 13 = .ok (.istore_n 2, 1) := by decide +kernel
theorem dJ6_stringSize_0f7a4_14 : decode cJ6_stringSize_0f7a4 14 = .ok (.iconst 1, 1) := by decide +kernel
theorem dJ6_stringSize_0f7a4_15 : decode cJ6_stringSize_0f7a4 15 = .ok (.istore_n 3, 1) := by decide +kernel
theorem dJ6_stringSize_0f7a4_16 : decode cJ6_stringSize_0f7a4 16 = .ok (.iload_n 3, 1) := by decide +kernel
theorem dJ6_stringSize_0f7a4_17 : decode cJ6_stringSize_0f7a4 17 = .ok (.bipush 10, 2) := by decide +kernel
theorem dJ6_stringSize_0f7a4_19 : decode cJ6_stringSize_0f7a4 19 = .ok (.if_icmp .ge 23, 3) := by decide +kernel
theorem dJ6_stringSize_0f7a4_22 : decode cJ6_stringSize_0f7a4 22 = .ok (.iload_n 0, 1) := by decide +kernel
theorem dJ6_stringSize_0f7a4_23 : decode cJ6_stringSize_0f7a4 23 = .ok (.iload_n 2, 1) := by decide +kernel
theorem dJ6_stringSize_0f7a4_24 : decode cJ6_stringSize_0f7a4 24 = .ok (.if_icmp .le 7, 3) := by decide +kernel
theorem dJ6_stringSize_0f7a4_27 : decode cJ6_stringSize_0f7a4 27 = .ok (.iload_n 3, 1) := by decide +kernel
theorem dJ6_stringSize_0f7a4_28 : decode cJ6_stringSize_0f7a4 28 = .ok (.iload_n 1, 1) := by decide +kernel
theorem dJ6_stringSize_0f7a4_29 : decode cJ6_stringSize_0f7a4 29 = .ok (.iadd, 1) := by decide +kernel
theorem dJ6_stringSize_0f7a4_30 : decode cJ6_stringSize_0f7a4 30 = .ok (.ireturn, 1) := by decide +kernel
theorem dJ6_stringSize_0f7a4_31 : decode cJ6_stringSize_0f7a4 31 = .ok (.bipush 10, 2) := by decide +kernel
theorem dJ6_stringSize_0f7a4_33 : decode cJ6_stringSize_0f7a4 33 = .ok (.iload_n 2, 1) := by decide +kernel
theorem dJ6_stringSize_0f7a4_34 : decode cJ6_stringSize_0f7a4 34 = .ok (.imul, 1) := by decide +kernel
theorem dJ6_stringSize_0f7a4_35 : decode cJ6_stringSize_0f7a4 35 = .ok (.istore_n 2, 1) := by decide +kernel
theorem dJ6_stringSize_0f7a4_36 : decode cJ6_stringSize_0f7a4 36 = .ok (.iinc 3 1, 3) := by decide +kernel
theorem dJ6_stringSize_0f7a4_39 : decode cJ6_stringSize_0f7a4 39 = .ok (.goto (-23), 3) := by decide +kernel
theorem dJ6_stringSize_0f7a4_42 : decode cJ6_stringSize_0f7a4 42 = .ok (.bipush 10, 2) := by decide +kernel
theorem dJ6_stringSize_0f7a4_44 : decode cJ6_stringSize_0f7a4 44 = .ok (.iload_n 1, 1) := by decide +kernel
theorem dJ6_stringSize_0f7a4_45 : decode cJ6_stringSize_0f7a4 45 = .ok (.iadd, 1) := by decide +kernel
theorem dJ6_stringSize_0f7a4_46 : decode cJ6_stringSize_0f7a4 46 = .ok (.ireturn, 1) := by decide +kernel
theorem dJ5_append_c97b9_0 : decode cJ5_append_c97b9 0 = .ok (.aload_n 0, 1) := by decide +kernel
theorem dJ5_append_c97b9_1 : decode cJ5_append_c97b9 1 = .ok (.getfield 79, 3) := by decide +kernel
theorem dJ5_append_c97b9_4 : decode cJ5_append_c97b9 4 = .ok (.istore_n 2, 1) := by decide +kernel
theorem dJ5_append_c97b9_5 : decode cJ5_append_c97b9 5 = .ok (.iload_n 2, 1) := by decide +kernel
theorem dJ5_append_c97b9_6 : decode cJ5_append_c97b9 6 = .ok (.iload_n 1, 1) := by decide +kernel
theorem dJ5_append_c97b9_7 : decode cJ5_append_c97b9 7 = .ok (.invokestatic 245, 3) := by decide +kernel
theorem dJ5_append_c97b9_10 : decode cJ5_append_c97b9 10 = .ok (.iadd, 1) := by decide +kernel
theorem dJ5_append_c97b9_11 : decode cJ5_append_c97b9 11 = .ok (.istore_n 3, 1) := by decide +kernel
theorem dJ5_append_c97b9_12 : decode cJ5_append_c97b9 12 = .ok (.aload_n 0, 1) := by decide +kernel
theorem dJ5_append_c97b9_13 : decode cJ5_append_c97b9 13 = .ok (.iload_n 3, 1) := by decide +kernel
theorem dJ5_append_c97b9_14 : decode cJ5_append_c97b9 14 = .ok (.invokevirtual 100, 3) := by decide +kernel
theorem dJ5_append_c97b9_17 : decode cJ5_append_c97b9 17 = .ok (.aload_n 0, 1) := by decide +kernel
theorem dJ5_append_c97b9_18 : decode cJ5_append_c97b9 18 = .ok (.invokevirtual 83, 3) := by decide +kernel
theorem dJ5_append_c97b9_21 : decode cJ5_append_c97b9 21 = .ok (.ifCond .eq 16, 3) := by decide +kernel
theorem dJ5_append_c97b9_24 : decode cJ5_append_c97b9 24 = .ok (.iload_n 1, 1) := by decide +kernel
theorem dJ5_append_c97b9_25 : decode cJ5_append_c97b9 25 = .ok (.iload_n 3, 1) := by decide +kernel
theorem dJ5_append_c97b9_26 : decode cJ5_append_c97b9 26 = .ok (.aload_n 0, 1) := by decide +kernel
theorem dJ5_append_c97b9_27 : decode cJ5_append_c97b9 27 = .ok (.getfield 15, 3) := by decide +kernel
theorem dJ5_append_c97b9_30 : decode cJ5_append_c97b9 30 = .ok (.invokestatic 248, 3) := by decide +kernel
theorem dJ5_append_c97b9_33 : decode cJ5_append_c97b9 33 = .ok (.pop, 1) := by decide +kernel
theorem dJ5_append_c97b9_34 : decode cJ5_append_c97b9 34 = .ok (.goto 14, 3) := by decide +kernel
theorem dJ5_append_c97b9_37 : decode cJ5_append_c97b9 37 = .ok (.iload_n 1, 1) := by decide +kernel
theorem dJ5_append_c97b9_38 : decode cJ5_append_c97b9 38 = .ok (.iload_n 2, 1) := by decide +kernel
theorem dJ5_append_c97b9_39 : decode cJ5_append_c97b9 39 = .ok (.iload_n 3, 1) := by decide +kernel
theorem dJ5_append_c97b9_40 : decode cJ5_append_c97b9 40 = .ok (.aload_n 0, 1) := by decide +kernel
theorem dJ5_append_c97b9_41 : decode cJ5_append_c97b9 41 = .ok (.getfield 15, 3) := by decide +kernel
theorem dJ5_append_c97b9_44 : decode cJ5_append_c97b9 44 = .ok (.invokestatic 251, 3) := by decide +kernel
theorem dJ5_append_c97b9_47 : decode cJ5_append_c97b9 47 = .ok (.pop, 1) := by decide +kernel
theorem dJ5_append_c97b9_48 : decode cJ5_append_c97b9 48 = .ok (.aload_n 0, 1) := by decide +kernel
theorem dJ5_append_c97b9_49 : decode cJ5_append_c97b9 49 = .ok (.iload_n 3, 1) := by decide +kernel
theorem dJ5_append_c97b9_50 : decode cJ5_append_c97b9 50 = .ok (.putfield 79, 3) := by decide +kernel
theorem dJ5_append_c97b9_53 : decode cJ5_append_c97b9 53 = .ok (.aload_n 0, 1) := by decide +kernel
theorem dJ5_append_c97b9_54 : decode cJ5_append_c97b9 54 = .ok (.areturn, 1) := by decide +kernel
theorem dJ4_append_bf812_0 : decode cJ4_append_bf812 0 = .ok (.aload_n 0, 1) := by decide +kernel
theorem dJ4_append_bf812_1 : decode cJ4_append_bf812 1 = .ok (.iload_n 1, 1) := by decide +kernel
theorem dJ4_append_bf812_2 : decode cJ4_append_bf812 2 = .ok (.invokespecial 53, 3) := by decide +kernel
theorem dJ4_append_bf812_5 : decode cJ4_append_bf812 5 = .ok (.pop, 1) := by decide +kernel
theorem dJ4_append_bf812_6 : decode cJ4_append_bf812 6 = .ok (.aload_n 0, 1) := by decide +kernel
theorem dJ4_append_bf812_7 : decode cJ4_append_bf812 7 = .ok (.areturn, 1) := by decide +kernel
theorem dJ5_init_d00df_0 : decode cJ5_init_d00df 0 = .ok (.aload_n 0, 1) := by decide +kernel
theorem dJ5_init_d00df_1 : decode cJ5_init_d00df 1 = .ok (.invokespecial 3, 3) := by decide +kernel
theorem dJ5_init_d00df_4 : decode cJ5_init_d00df 4 = .ok (.getstatic 18, 3) := by decide +kernel
theorem dJ5_init_d00df_7 : decode cJ5_init_d00df 7 = .ok (.ifCond .eq 18, 3) := by decide +kernel
theorem dJ5_init_d00df_10 : decode cJ5_init_d00df 10 = .ok (.aload_n 0, 1) := by decide +kernel
theorem dJ5_init_d00df_11 : decode cJ5_init_d00df 11 = .ok (.iload_n 1, 1) := by decide +kernel
theorem dJ5_init_d00df_12 : decode cJ5_init_d00df 12 = .ok (.newarray .byte, 2) := by decide +kernel
theorem dJ5_init_d00df_14 : decode cJ5_init_d00df 14 = .ok (.putfield 15, 3) := by decide +kernel
theorem dJ5_init_d00df_17 : decode cJ5_init_d00df 17 = .ok (.aload_n 0, 1) := by decide +kernel
theorem dJ5_init_d00df_18 : decode cJ5_init_d00df 18 = .ok (.iconst 0, 1) := by decide +kernel
theorem dJ5_init_d00df_19 : decode cJ5_init_d00df 19 = .ok (.putfield 22, 3) := by decide +kernel
theorem dJ5_init_d00df_22 : decode cJ5_init_d00df 22 = .ok (.goto 16, 3) := by decide +kernel
theorem dJ5_init_d00df_25 : decode cJ5_init_d00df 25 = .ok (.aload_n 0, 1) := by decide +kernel
theorem dJ5_init_d00df_26 : decode cJ5_init_d00df 26 = .ok (.iload_n 1, 1) := by decide +kernel
theorem dJ5_init_d00df_27 : decode cJ5_init_d00df 27 = .ok (.invokestatic 26, 3) := by decide +kernel
theorem dJ5_init_d00df_30 : decode cJ5_init_d00df 30 = .ok (.putfield 15, 3) := by decide +kernel
theorem dJ5_init_d00df_33 : decode cJ5_init_d00df 33 = .ok (.aload_n 0, 1) := by decide +kernel
theorem dJ5_init_d00df_34 : decode cJ5_init_d00df 34 = .ok (.iconst 1, 1) := by decide +kernel
theorem dJ5_init_d00df_35 : decode cJ5_init_d00df 35 = .ok (.putfield 22, 3) := by decide +kernel
theorem dJ5_init_d00df_38 : decode cJ5_init_d00df 38 = .ok (.return_, 1) := by decide +kernel
theorem dJ4_init_da8c8_0 : decode cJ4_init_da8c8 0 = .ok (.aload_n 0, 1) := by decide +kernel
theorem dJ4_init_da8c8_1 : decode cJ4_init_da8c8 1 = .ok (.bipush 16, 2) := by decide +kernel
theorem dJ4_init_da8c8_3 : decode cJ4_init_da8c8 3 = .ok (.invokespecial 1, 3) := by decide +kernel
theorem dJ4_init_da8c8_6 : decode cJ4_init_da8c8 6 = .ok (.return_, 1) := by decide +kernel
theorem dJ4_toString_0e30d_0 : decode cJ4_toString_0e30d 0 = .ok (.new 18, 3) := by decide +kernel
theorem dJ4_toString_0e30d_3 : decode cJ4_toString_0e30d 3 = .ok (.dup, 1) := by decide +kernel
theorem dJ4_toString_0e30d_4 : decode cJ4_toString_0e30d 4 = .ok (.aload_n 0, 1) := by decide +kernel
theorem dJ4_toString_0e30d_5 : decode cJ4_toString_0e30d 5 = .ok (.invokespecial 137, 3) := by decide +kernel
theorem dJ4_toString_0e30d_8 : decode cJ4_toString_0e30d 8 = .ok (.areturn, 1) := by decide +kernel
theorem dJ7_checkLength_df160_0 : decode cJ7_checkLength_df160 0 = .ok (.iload_n 1, 1) := by decide +kernel
theorem dJ7_checkLength_df160_1 : decode cJ7_checkLength_df160 1 = .ok (.iload_n 0, 1) := by decide +kernel
theorem dJ7_checkLength_df160_2 : decode cJ7_checkLength_df160 2 = .ok (.if_icmp .ge 35, 3) := by decide +kernel
theorem dJ7_checkLength_df160_5 : decode cJ7_checkLength_df160 5 = .ok (.new 43, 3) := by decide +kernel
theorem dJ7_checkLength_df160_8 : decode cJ7_checkLength_df160 8 = .ok (.dup, 1) := by decide +kernel
theorem dJ7_checkLength_df160_9 : decode cJ7_checkLength_df160 9 = .ok (.new 45, 3) := by decide +kernel
theorem dJ7_checkLength_df160_12 : decode cJ7_checkLength_df160 12 = .ok (.dup, 1) := by decide +kernel
theorem dJ7_checkLength_df160_13 : decode cJ7_checkLength_df160 13 = .ok (.invokespecial 47, 3) := by decide +kernel
theorem dJ7_checkLength_df160_16 : decode cJ7_checkLength_df160 16 = .ok (.iload_n 0, 1) := by decide +kernel
theorem dJ7_checkLength_df160_17 : decode cJ7_checkLength_df160 17 = .ok (.invokevirtual 54, 3) := by decide +kernel
theorem dJ7_checkLength_df160_20 : decode cJ7_checkLength_df160 20 = .ok (.ldc_w 337, 3) := by decide +kernel
theorem dJ7_checkLength_df160_23 : decode cJ7_checkLength_df160 23 = .ok (.invokevirtual 50, 3) := by decide +kernel
theorem dJ7_checkLength_df160_26 : decode cJ7_checkLength_df160 26 = .ok (.iload_n 1, 1) := by decide +kernel
theorem dJ7_checkLength_df160_27 : decode cJ7_checkLength_df160 27 = .ok (.invokevirtual 54, 3) := by decide +kernel
theorem dJ7_checkLength_df160_30 : decode cJ7_checkLength_df160 30 = .ok (.invokevirtual 61, 3) := by decide +kernel
theorem dJ7_checkLength_df160_33 : decode cJ7_checkLength_df160 33 = .ok (.invokespecial 65, 3) := by decide +kernel
theorem dJ7_checkLength_df160_36 : decode cJ7_checkLength_df160 36 = .ok (.athrow, 1) := by decide +kernel
theorem dJ7_checkLength_df160_37 : decode cJ7_checkLength_df160 37 = .ok (.return_, 1) := by decide +kernel
theorem dJ7_copyOfRangeByte_39247_0 : decode cJ7_copyOfRangeByte_39247 0 = .ok (.iload_n 1, 1) := by decide +kernel
theorem dJ7_copyOfRangeByte_39247_1 : decode cJ7_copyOfRangeByte_39247 1 = .ok (.iload_n 2, 1) := by decide +kernel
theorem dJ7_copyOfRangeByte_39247_2 : decode cJ7_copyOfRangeByte_39247 2 = .ok (.invokestatic 343, 3) := by decide +kernel
theorem dJ7_copyOfRangeByte_39247_5 : decode cJ7_copyOfRangeByte_39247 5 = .ok (.iload_n 2, 1) := by decide +kernel
theorem dJ7_copyOfRangeByte_39247_6 : decode cJ7_copyOfRangeByte_39247 6 = .ok (.iload_n 1, 1) := by decide +kernel
theorem dJ7_copyOfRangeByte_39247_7 : decode cJ7_copyOfRangeByte_39247 7 = .ok (.isub, 1) := by decide +kernel
theorem dJ7_copyOfRangeByte_39247_8 : decode cJ7_copyOfRangeByte_39247 8 = .ok (.istore_n 3, 1) := by decide +kernel
theorem dJ7_copyOfRangeByte_39247_9 : decode cJ7_copyOfRangeByte_39247 9 = .ok (.iload_n 3, 1) := by decide +kernel
theorem dJ7_copyOfRangeByte_39247_10 : decode cJ7_copyOfRangeByte_39247 10 = .ok (.newarray .byte, 2) := by decide +kernel
theorem dJ7_copyOfRangeByte_39247_12 : decode cJ7_copyOfRangeByte_39247 12 = .ok (.astore 4, 2) := by decide +kernel
theorem dJ7_copyOfRangeByte_39247_14 : decode cJ7_copyOfRangeByte_39247 14 = .ok (.aload_n 0, 1) := by decide +kernel
theorem dJ7_copyOfRangeByte_39247_15 : decode cJ7_copyOfRangeByte_39247 15 = .ok (.iload_n 1, 1) := by decide +kernel
theorem dJ7_copyOfRangeByte_39247_16 : decode cJ7_copyOfRangeByte_39247 16 = .ok (.aload 4, 2) := by decide +kernel
theorem dJ7_copyOfRangeByte_39247_18 : decode cJ7_copyOfRangeByte_39247 18 = .ok (.iconst 0, 1) := by decide +kernel
theorem dJ7_copyOfRangeByte_39247_19 : decode cJ7_copyOfRangeByte_39247 19 = .ok (.aload_n 0, 1) := by decide +kernel
theorem dJ7_copyOfRangeByte_39247_20 : decode cJ7_copyOfRangeByte_39247 20 = .ok (.arraylength, 1) := by decide +kernel
theorem dJ7_copyOfRangeByte_39247_21 : decode cJ7_copyOfRangeByte_39247 21 = .ok (.iload_n 1, 1) := by decide +kernel
theorem dJ7_copyOfRangeByte_39247_22 : decode cJ7_copyOfRangeByte_39247 22 = .ok (.isub, 1) := by decide +kernel
theorem dJ7_copyOfRangeByte_39247_23 : decode cJ7_copyOfRangeByte_39247 23 = .ok (.iload_n 3, 1) := by decide +kernel
theorem dJ7_copyOfRangeByte_39247_24 : decode cJ7_copyOfRangeByte_39247 24 = .ok (.invokestatic 304, 3) := by decide +kernel
theorem dJ7_copyOfRangeByte_39247_27 : decode cJ7_copyOfRangeByte_39247 27 = .ok (.invokestatic 150, 3) := by decide +kernel
theorem dJ7_copyOfRangeByte_39247_30 : decode cJ7_copyOfRangeByte_39247 30 = .ok (.aload 4, 2) := by decide +kernel
theorem dJ7_copyOfRangeByte_39247_32 : decode cJ7_copyOfRangeByte_39247 32 = .ok (.areturn, 1) := by decide +kernel
theorem dJ7_copyOfRange_39247_0 : decode cJ7_copyOfRange_39247 0 = .ok (.iload_n 1, 1) := by decide +kernel
theorem dJ7_copyOfRange_39247_1 : decode cJ7_copyOfRange_39247 1 = .ok (.ifCond .ne 9, 3) := by decide +kernel
theorem dJ7_copyOfRange_39247_4 : decode cJ7_copyOfRange_39247 4 = .ok (.iload_n 2, 1) := by decide +kernel
theorem dJ7_copyOfRange_39247_5 : decode cJ7_copyOfRange_39247 5 = .ok (.aload_n 0, 1) := by decide +kernel
theorem dJ7_copyOfRange_39247_6 : decode cJ7_copyOfRange_39247 6 = .ok (.arraylength, 1) := by decide +kernel
theorem dJ7_copyOfRange_39247_7 : decode cJ7_copyOfRange_39247 7 = .ok (.if_icmp .eq 10, 3) := by decide +kernel
theorem dJ7_copyOfRange_39247_10 : decode cJ7_copyOfRange_39247 10 = .ok (.aload_n 0, 1) := by decide +kernel
theorem dJ7_copyOfRange_39247_11 : decode cJ7_copyOfRange_39247 11 = .ok (.iload_n 1, 1) := by decide +kernel
theorem dJ7_copyOfRange_39247_12 : decode cJ7_copyOfRange_39247 12 = .ok (.iload_n 2, 1) := by decide +kernel
theorem dJ7_copyOfRange_39247_13 : decode cJ7_copyOfRange_39247 13 = .ok (.invokestatic 339, 3) := by decide +kernel
theorem dJ7_copyOfRange_39247_16 : decode cJ7_copyOfRange_39247 16 = .ok (.areturn, 1) := by decide +kernel
theorem dJ7_copyOfRange_39247_17 : decode cJ7_copyOfRange_39247 17 = .ok (.aload_n 0, 1) := by decide +kernel
theorem dJ7_copyOfRange_39247_18 : decode cJ7_copyOfRange_39247 18 = .ok (.invokevirtual 310, 3) := by decide +kernel
theorem dJ7_copyOfRange_39247_21 : decode cJ7_copyOfRange_39247 21 = .ok (.checkcast 311, 3) := by decide +kernel
theorem dJ7_copyOfRange_39247_24 : decode cJ7_copyOfRange_39247 24 = .ok (.areturn, 1) := by decide +kernel
theorem dJ2_compress_39247_0 : decode cJ2_compress_39247 0 = .ok (.iload_n 2, 1) := by decide +kernel
theorem dJ2_compress_39247_1 : decode cJ2_compress_39247 1 = .ok (.newarray .byte, 2) := by decide +kernel
theorem dJ2_compress_39247_3 : decode cJ2_compress_39247 3 = .ok (.astore_n 3, 1) := by decide +kernel
theorem dJ2_compress_39247_4 : decode cJ2_compress_39247 4 = .ok (.aload_n 0, 1) := by decide +kernel
theorem dJ2_compress_39247_5 : decode cJ2_compress_39247 5 = .ok (.iload_n 1, 1) := by decide +kernel
theorem dJ2_compress_39247_6 : decode cJ2_compress_39247 6 = .ok (.aload_n 3, 1) := by decide +kernel
theorem dJ2_compress_39247_7 : decode cJ2_compress_39247 7 = .ok (.iconst 0, 1) := by decide +kernel
theorem dJ2_compress_39247_8 : decode cJ2_compress_39247 8 = .ok (.iload_n 2, 1) := by decide +kernel
theorem dJ2_compress_39247_9 : decode cJ2_compress_39247 9 = .ok (.invokestatic 123, 3) := by decide +kernel
theorem dJ2_compress_39247_12 : decode cJ2_compress_39247 12 = .ok (.istore 4, 2) := by decide +kernel
theorem dJ2_compress_39247_14 : decode cJ2_compress_39247 14 = .ok (.iload 4, 2) := by decide +kernel
theorem dJ2_compress_39247_16 : decode cJ2_compress_39247 16 = .ok (.iload_n 2, 1) := by decide +kernel
theorem dJ2_compress_39247_17 : decode cJ2_compress_39247 17 = .ok (.if_icmp .eq 47, 3) := by decide +kernel
theorem dJ2_compress_39247_20 : decode cJ2_compress_39247 20 = .ok (.aload_n 0, 1) := by decide +kernel
theorem dJ2_compress_39247_21 : decode cJ2_compress_39247 21 = .ok (.iload_n 1, 1) := by decide +kernel
theorem dJ2_compress_39247_22 : decode cJ2_compress_39247 22 = .ok (.iconst 1, 1) := by decide +kernel
theorem dJ2_compress_39247_23 : decode cJ2_compress_39247 23 = .ok (.ishl, 1) := by decide +kernel
theorem dJ2_compress_39247_24 : decode cJ2_compress_39247 24 = .ok (.iload_n 1, 1) := by decide +kernel
theorem dJ2_compress_39247_25 : decode cJ2_compress_39247 25 = .ok (.iload_n 2, 1) := by decide +kernel
theorem dJ2_compress_39247_26 : decode cJ2_compress_39247 26 = .ok (.iadd, 1) := by decide +kernel
theorem dJ2_compress_39247_27 : decode cJ2_compress_39247 27 = .ok (.invokestatic 11, 3) := by decide +kernel
theorem dJ2_compress_39247_30 : decode cJ2_compress_39247 30 = .ok (.invokestatic 126, 3) := by decide +kernel
theorem dJ2_compress_39247_33 : decode cJ2_compress_39247 33 = .ok (.astore 5, 2) := by decide +kernel
theorem dJ2_compress_39247_35 : decode cJ2_compress_39247 35 = .ok (.aload 5, 2) := by decide +kernel
theorem dJ2_compress_39247_37 : decode cJ2_compress_39247 37 = .ok (.iload 4, 2) := by decide +kernel
theorem dJ2_compress_39247_39 : decode cJ2_compress_39247 39 = .ok (.invokestatic 71, 3) := by decide +kernel
theorem dJ2_compress_39247_42 : decode cJ2_compress_39247 42 = .ok (.sipush 255, 3) := by decide +kernel
theorem dJ2_compress_39247_45 : decode cJ2_compress_39247 45 = .ok (.if_icmp .gt 16, 3) := by decide +kernel
theorem dJ2_compress_39247_48 : decode cJ2_compress_39247 48 = .ok (.aload 5, 2) := by decide +kernel
theorem dJ2_compress_39247_50 : decode cJ2_compress_39247 50 = .ok (.iconst 0, 1) := by decide +kernel
theorem dJ2_compress_39247_51 : decode cJ2_compress_39247 51 = .ok (.aload_n 3, 1) := by decide +kernel
theorem dJ2_compress_39247_52 : decode cJ2_compress_39247 52 = .ok (.iconst 0, 1) := by decide +kernel
theorem dJ2_compress_39247_53 : decode cJ2_compress_39247 53 = .ok (.iload_n 2, 1) := by decide +kernel
theorem dJ2_compress_39247_54 : decode cJ2_compress_39247 54 = .ok (.invokestatic 123, 3) := by decide +kernel
theorem dJ2_compress_39247_57 : decode cJ2_compress_39247 57 = .ok (.iload_n 2, 1) := by decide +kernel
theorem dJ2_compress_39247_58 : decode cJ2_compress_39247 58 = .ok (.if_icmp .eq 6, 3) := by decide +kernel
theorem dJ2_compress_39247_61 : decode cJ2_compress_39247 61 = .ok (.aload 5, 2) := by decide +kernel
theorem dJ2_compress_39247_63 : decode cJ2_compress_39247 63 = .ok (.areturn, 1) := by decide +kernel
theorem dJ2_compress_39247_64 : decode cJ2_compress_39247 64 = .ok (.aload_n 3, 1) := by decide +kernel
theorem dJ2_compress_39247_65 : decode cJ2_compress_39247 65 = .ok (.areturn, 1) := by decide +kernel
theorem dJ5_getValue_6d5f1_0 : decode cJ5_getValue_6d5f1 0 = .ok (.aload_n 0, 1) := by decide +kernel
theorem dJ5_getValue_6d5f1_1 : decode cJ5_getValue_6d5f1 1 = .ok (.getfield 15, 3) := by decide +kernel
theorem dJ5_getValue_6d5f1_4 : decode cJ5_getValue_6d5f1 4 = .ok (.areturn, 1) := by decide +kernel
theorem dJ5_length_8abf5_0 : decode cJ5_length_8abf5 0 = .ok (.aload_n 0, 1) := by decide +kernel
theorem dJ5_length_8abf5_1 : decode cJ5_length_8abf5 1 = .ok (.getfield 79, 3) := by decide +kernel
theorem dJ5_length_8abf5_4 : decode cJ5_length_8abf5 4 = .ok (.ireturn, 1) := by decide +kernel
theorem dJ0_init_db425_0 : decode cJ0_init_db425 0 = .ok (.aload_n 0, 1) := by decide +kernel
theorem dJ0_init_db425_1 : decode cJ0_init_db425 1 = .ok (.invokespecial 1, 3) := by decide +kernel
theorem dJ0_init_db425_4 : decode cJ0_init_db425 4 = .ok (.aload_n 1, 1) := by decide +kernel
theorem dJ0_init_db425_5 : decode cJ0_init_db425 5 = .ok (.invokevirtual 552, 3) := by decide +kernel
theorem dJ0_init_db425_8 : decode cJ0_init_db425 8 = .ok (.astore_n 3, 1) := by decide +kernel
theorem dJ0_init_db425_9 : decode cJ0_init_db425 9 = .ok (.aload_n 1, 1) := by decide +kernel
theorem dJ0_init_db425_10 : decode cJ0_init_db425 10 = .ok (.invokevirtual 549, 3) := by decide +kernel
theorem dJ0_init_db425_13 : decode cJ0_init_db425 13 = .ok (.istore 4, 2) := by decide +kernel
theorem dJ0_init_db425_15 : decode cJ0_init_db425 15 = .ok (.aload_n 1, 1) := by decide +kernel
theorem dJ0_init_db425_16 : decode cJ0_init_db425 16 = .ok (.invokevirtual 1047, 3) := by decide +kernel
theorem dJ0_init_db425_19 : decode cJ0_init_db425 19 = .ok (.ifCond .eq 22, 3) := by decide +kernel
theorem dJ0_init_db425_22 : decode cJ0_init_db425 22 = .ok (.aload_n 0, 1) := by decide +kernel
theorem dJ0_init_db425_23 : decode cJ0_init_db425 23 = .ok (.iconst 0, 1) := by decide +kernel
theorem dJ0_init_db425_24 : decode cJ0_init_db425 24 = .ok (.putfield 15, 3) := by decide +kernel
theorem dJ0_init_db425_27 : decode cJ0_init_db425 27 = .ok (.aload_n 0, 1) := by decide +kernel
theorem dJ0_init_db425_28 : decode cJ0_init_db425 28 = .ok (.aload_n 3, 1) := by decide +kernel
theorem dJ0_init_db425_29 : decode cJ0_init_db425 29 = .ok (.iconst 0, 1) := by decide +kernel
theorem dJ0_init_db425_30 : decode cJ0_init_db425 30 = .ok (.iload 4, 2) := by decide +kernel
theorem dJ0_init_db425_32 : decode cJ0_init_db425 32 = .ok (.invokestatic 54, 3) := by decide +kernel
theorem dJ0_init_db425_35 : decode cJ0_init_db425 35 = .ok (.putfield 9, 3) := by decide +kernel
theorem dJ0_init_db425_38 : decode cJ0_init_db425 38 = .ok (.goto 59, 3) := by decide +kernel
theorem dJ0_init_db425_41 : decode cJ0_init_db425 41 = .ok (.getstatic 38, 3) := by decide +kernel
theorem dJ0_init_db425_44 : decode cJ0_init_db425 44 = .ok (.ifCond .eq 35, 3) := by decide +kernel
theorem dJ0_init_db425_47 : decode cJ0_init_db425 47 = .ok (.aload_n 1, 1) := by decide +kernel
theorem dJ0_init_db425_48 : decode cJ0_init_db425 48 = .ok (.getfield 1048, 3) := by decide +kernel
theorem dJ0_init_db425_51 : decode cJ0_init_db425 51 = .ok (.ifCond .eq 28, 3) := by decide +kernel
theorem dJ0_init_db425_54 : decode cJ0_init_db425 54 = .ok (.aload_n 0, 1) := by decide +kernel
theorem dJ0_init_db425_55 : decode cJ0_init_db425 55 = .ok (.aload_n 3, 1) := by decide +kernel
theorem dJ0_init_db425_56 : decode cJ0_init_db425 56 = .ok (.iconst 0, 1) := by decide +kernel
theorem dJ0_init_db425_57 : decode cJ0_init_db425 57 = .ok (.iload 4, 2) := by decide +kernel
theorem dJ0_init_db425_59 : decode cJ0_init_db425 59 = .ok (.invokestatic 1051, 3) := by decide +kernel
theorem dJ0_init_db425_62 : decode cJ0_init_db425 62 = .ok (.putfield 9, 3) := by decide +kernel
theorem dJ0_init_db425_65 : decode cJ0_init_db425 65 = .ok (.aload_n 0, 1) := by decide +kernel
theorem dJ0_init_db425_66 : decode cJ0_init_db425 66 = .ok (.aload_n 0, 1) := by decide +kernel
theorem dJ0_init_db425_67 : decode cJ0_init_db425 67 = .ok (.getfield 9, 3) := by decide +kernel
theorem dJ0_init_db425_70 : decode cJ0_init_db425 70 = .ok (.iload 4, 2) := by decide +kernel
theorem dJ0_init_db425_72 : decode cJ0_init_db425 72 = .ok (.invokestatic 47, 3) := by decide +kernel
theorem dJ0_init_db425_75 : decode cJ0_init_db425 75 = .ok (.putfield 15, 3) := by decide +kernel
theorem dJ0_init_db425_78 : decode cJ0_init_db425 78 = .ok (.return_, 1) := by decide +kernel
theorem dJ0_init_db425_79 : decode cJ0_init_db425 79 = .ok (.aload_n 0, 1) := by decide +kernel
theorem dJ0_init_db425_80 : decode cJ0_init_db425 80 = .ok (.iconst 1, 1) := by decide +kernel
theorem dJ0_init_db425_81 : decode cJ0_init_db425 81 = .ok (.putfield 15, 3) := by decide +kernel
theorem dJ0_init_db425_84 : decode cJ0_init_db425 84 = .ok (.aload_n 0, 1) := by decide +kernel
theorem dJ0_init_db425_85 : decode cJ0_init_db425 85 = .ok (.aload_n 3, 1) := by decide +kernel
theorem dJ0_init_db425_86 : decode cJ0_init_db425 86 = .ok (.iconst 0, 1) := by decide +kernel
theorem dJ0_init_db425_87 : decode cJ0_init_db425 87 = .ok (.iload 4, 2) := by decide +kernel
theorem dJ0_init_db425_89 : decode cJ0_init_db425 89 = .ok (.iconst 1, 1) := by decide +kernel
theorem dJ0_init_db425_90 : decode cJ0_init_db425 90 = .ok (.ishl, 1) := by decide +kernel
theorem dJ0_init_db425_91 : decode cJ0_init_db425 91 = .ok (.invokestatic 54, 3) := by decide +kernel
theorem dJ0_init_db425_94 : decode cJ0_init_db425 94 = .ok (.putfield 9, 3) := by decide +kernel
theorem dJ0_init_db425_97 : decode cJ0_init_db425 97 = .ok (.return_, 1) := by decide +kernel
theorem dJ0_init_81219_0 : decode cJ0_init_81219 0 = .ok (.aload_n 0, 1) := by decide +kernel
theorem dJ0_init_81219_1 : decode cJ0_init_81219 1 = .ok (.aload_n 1, 1) := by decide +kernel
theorem dJ0_init_81219_2 : decode cJ0_init_81219 2 = .ok (.aconst_null, 1) := by decide +kernel
theorem dJ0_init_81219_3 : decode cJ0_init_81219 3 = .ok (.invokespecial 489, 3) := by decide +kernel
theorem dJ0_init_81219_6 : decode cJ0_init_81219 6 = .ok (.return_, 1) := by decide +kernel
theorem dJ13_bitCount_95d88_0 : decode cJ13_bitCount_95d88 0 = .ok (.lload_n 0, 1) := by decide +kernel
theorem dJ13_bitCount_95d88_1 : decode cJ13_bitCount_95d88 1 = .ok (.lload_n 0, 1) := by decide +kernel
theorem dJ13_bitCount_95d88_2 : decode cJ13_bitCount_95d88 2 = .ok (.iconst 1, 1) := by decide +kernel
theorem dJ13_bitCount_95d88_3 : decode cJ13_bitCount_95d88 3 = .ok (.lushr, 1) := by decide +kernel
theorem dJ13_bitCount_95d88_4 : decode cJ13_bitCount_95d88 4 = .ok (.ldc2_w 314, 3) := by decide +kernel
theorem dJ13_bitCount_95d88_7 : decode cJ13_bitCount_95d88 7 = .ok (.land, 1) := by decide +kernel
theorem dJ13_bitCount_95d88_8 : decode cJ13_bitCount_95d88 8 = .ok (.lsub, 1) := by decide +kernel
theorem dJ13_bitCount_95d88_9 : decode cJ13_bitCount_95d88 9 = .ok (.lstore_n 0, 1) := by decide +kernel
theorem dJ13_bitCount_95d88_10 : decode cJ13_bitCount_95d88 10 = .ok (.lload_n 0, 1) := by decide +kernel
theorem dJ13_bitCount_95d88_11 : decode cJ13_bitCount_95d88 11 = .ok (.ldc2_w 316, 3) := by decide +kernel
theorem dJ13_bitCount_95d88_14 : decode cJ13_bitCount_95d88 14 = .ok (.land, 1) := by decide +kernel
theorem dJ13_bitCount_95d88_15 : decode cJ13_bitCount_95d88 15 = .ok (.lload_n 0, 1) := by decide +kernel
theorem dJ13_bitCount_95d88_16 : decode cJ13_bitCount_95d88 16 = .ok (.iconst 2, 1) := by decide +kernel
theorem dJ13_bitCount_95d88_17 : decode cJ13_bitCount_95d88 17 = .ok (.lushr, 1) := by decide +kernel
theorem dJ13_bitCount_95d88_18 : decode cJ13_bitCount_95d88 18 = .ok (.ldc2_w 316, 3) := by decide +kernel
theorem dJ13_bitCount_95d88_21 : decode cJ13_bitCount_95d88 21 = .ok (.land, 1) := by decide +kernel
theorem dJ13_bitCount_95d88_22 : decode cJ13_bitCount_95d88 22 = .ok (.ladd, 1) := by decide +kernel
theorem dJ13_bitCount_95d88_23 : decode cJ13_bitCount_95d88 23 = .ok (.lstore_n 0, 1) := by decide +kernel
theorem dJ13_bitCount_95d88_24 : decode cJ13_bitCount_95d88 24 = .ok (.lload_n 0, 1) := by decide +kernel
theorem dJ13_bitCount_95d88_25 : decode cJ13_bitCount_95d88 25 = .ok (.lload_n 0, 1) := by decide +kernel
theorem dJ13_bitCount_95d88_26 : decode cJ13_bitCount_95d88 26 = .ok (.iconst 4, 1) := by decide +kernel
theorem dJ13_bitCount_95d88_27 : decode cJ13_bitCount_95d88 27 = .ok (.lushr, 1) := by decide +kernel
theorem dJ13_bitCount_95d88_28 : decode cJ13_bitCount_95d88 28 = .ok (.ladd, 1) := by decide +kernel
theorem dJ13_bitCount_95d88_29 : decode cJ13_bitCount_95d88 29 = .ok (.ldc2_w 318, 3) := by decide +kernel
theorem dJ13_bitCount_95d88_32 : decode cJ13_bitCount_95d88 32 = .ok (.land, 1) := by decide +kernel
theorem dJ13_bitCount_95d88_33 : decode cJ13_bitCount_95d88 33 = .ok (.lstore_n 0, 1) := by decide +kernel
theorem dJ13_bitCount_95d88_34 : decode cJ13_bitCount_95d88 34 = .ok (.lload_n 0, 1) := by decide +kernel
theorem dJ13_bitCount_95d88_35 : decode cJ13_bitCount_95d88 35 = .ok (.lload_n 0, 1) := by decide +kernel
theorem dJ13_bitCount_95d88_36 : decode cJ13_bitCount_95d88 36 = .ok (.bipush 8, 2) := by decide +kernel
theorem dJ13_bitCount_95d88_38 : decode cJ13_bitCount_95d88 38 = .ok (.lushr, 1) := by decide +kernel
theorem dJ13_bitCount_95d88_39 : decode cJ13_bitCount_95d88 39 = .ok (.ladd, 1) := by decide +kernel
theorem dJ13_bitCount_95d88_40 : decode cJ13_bitCount_95d88 40 = .ok (.lstore_n 0, 1) := by decide +kernel
theorem dJ13_bitCount_95d88_41 : decode cJ13_bitCount_95d88 41 = .ok (.lload_n 0, 1) := by decide +kernel
theorem dJ13_bitCount_95d88_42 : decode cJ13_bitCount_95d88 42 = .ok (.lload_n 0, 1) := by decide +kernel
theorem dJ13_bitCount_95d88_43 : decode cJ13_bitCount_95d88 43 = .ok (.bipush 16, 2) := by decide +kernel
theorem dJ13_bitCount_95d88_45 : decode cJ13_bitCount_95d88 45 = .ok (.lushr, 1) := by decide +kernel
theorem dJ13_bitCount_95d88_46 : decode cJ13_bitCount_95d88 46 = .ok (.ladd, 1) := by decide +kernel
theorem dJ13_bitCount_95d88_47 : decode cJ13_bitCount_95d88 47 = .ok (.lstore_n 0, 1) := by decide +kernel
theorem dJ13_bitCount_95d88_48 : decode cJ13_bitCount_95d88 48 = .ok (.lload_n 0, 1) := by decide +kernel
theorem dJ13_bitCount_95d88_49 : decode cJ13_bitCount_95d88 49 = .ok (.lload_n 0, 1) := by decide +kernel
theorem dJ13_bitCount_95d88_50 : decode cJ13_bitCount_95d88 50 = .ok (.bipush 32, 2) := by decide +kernel
theorem dJ13_bitCount_95d88_52 : decode cJ13_bitCount_95d88 52 = .ok (.lushr, 1) := by decide +kernel
theorem dJ13_bitCount_95d88_53 : decode cJ13_bitCount_95d88 53 = .ok (.ladd, 1) := by decide +kernel
theorem dJ13_bitCount_95d88_54 : decode cJ13_bitCount_95d88 54 = .ok (.lstore_n 0, 1) := by decide +kernel
theorem dJ13_bitCount_95d88_55 : decode cJ13_bitCount_95d88 55 = .ok (.lload_n 0, 1) := by decide +kernel
theorem dJ13_bitCount_95d88_56 : decode cJ13_bitCount_95d88 56 = .ok (.l2i, 1) := by decide +kernel
theorem dJ13_bitCount_95d88_57 : decode cJ13_bitCount_95d88 57 = .ok (.bipush 127, 2) := by decide +kernel
theorem dJ13_bitCount_95d88_59 : decode cJ13_bitCount_95d88 59 = .ok (.iand, 1) := by decide +kernel
theorem dJ13_bitCount_95d88_60 : decode cJ13_bitCount_95d88 60 = .ok (.ireturn, 1) := by decide +kernel
def wp_J8_hugeLength_7cf53_0 (D : wD) (post : Int32 → wS → Prop)  (S : wS) (x0 : Int32) (x1 : Int32) : Prop :=
∀ x_1 : Int32, x_1 = (x0 + x1) →
((0 ≤ x_1 → (((2147483639 : Int32) < x_1 → post x_1 S) ∧
 (¬ (2147483639 : Int32) < x_1 → post (2147483639 : Int32) S))) ∧
 (¬ 0 ≤ x_1 → False))
abbrev r_J8_hugeLength_7cf53 : Room := { frames := 0, cells := 0, slots := 0, locals := 0 }
def wp_J8_hugeLength_7cf53 (D : wD) (post : Int32 → wS → Prop) (S : wS) (x0 : Int32) (x1 : Int32) : Prop := wp_J8_hugeLength_7cf53_0 D post S x0 x1
set_option maxHeartbeats 4000000 in
set_option maxRecDepth 100000 in
theorem t_J8_hugeLength_7cf53_0 {p : Program} {l : Launch} {e : Env} {s : State} {m : MethodId} {args : Array Value} {below : List Frame} {meth : Method} {c : Code} {D : wD} {cy : Nat → ClassId} {X : va_W} {A : Nat → Prop} {S0 : wS} {post : Int32 → wS → Prop} (F : CallFix p m c cJ8_hugeLength_7cf53 3 s args wz_J8_hugeLength_7cf53 RJ8) (hr : meth.sig.returnType = (some .int)) (hlocks : meth.locks = false) (hK : wK D cy A s) : ∀ {S : wS} {H : Heap} {locs : List Loc} {ls : Array Slot} {x0 : Int32} {x1 : Int32}, wp_J8_hugeLength_7cf53_0 D post S x0 x1 → wO D cy X A s.heap S H locs → wX D S0 S → lv_has ls 3 [(0, .int x0), (1, .int x1)] → W p l e r_J8_hugeLength_7cf53 s m args below meth c H locs 0 0 (MQ below (va_Qi (fun r S9 => wX D S0 S9 ∧ post r S9) (wB D cy X A) A) args s 0 0 A) (F0 m 0 ls []) := by
  obtain ⟨hx, hb, hml, hown, hts⟩ := id F
  have hwg : ∀ w ∈ WG, w.before args s = true := fun w h => hts w (List.mem_cons_of_mem _ h)
  intro S H locs ls x0 x1 hp hW hE hl
  unfold wp_J8_hugeLength_7cf53_0 at hp
  refine lv_iload_n hx hb dJ8_hugeLength_7cf53_0 rfl (lv_at hl 0 rfl) ?_
  refine lv_iload_n hx hb dJ8_hugeLength_7cf53_1 rfl (lv_at hl 1 rfl) ?_
  refine lv_iadd hx hb dJ8_hugeLength_7cf53_2 ?_
  refine lv_topi (fun x_1 ex_1 => ?_)
  replace hp := hp x_1 ex_1
  refine lv_istore_n (lv' := [(2, .int x_1), (0, .int x0), (1, .int x1)]) hx hb dJ8_hugeLength_7cf53_3 rfl hl (by decide) rfl (fun ls hl => ?_)
  refine lv_iload_n hx hb dJ8_hugeLength_7cf53_4 rfl (lv_at hl 0 rfl) ?_
  refine lv_if_ge (tgt := 49) hx hb dJ8_hugeLength_7cf53_5 (by decide) (fun c_2 => ?_) (fun c_2 => ?_)
  · replace hp := hp.1 c_2
    refine lv_iload_n hx hb dJ8_hugeLength_7cf53_49 rfl (lv_at hl 0 rfl) ?_
    refine lv_ldc hx hb hown (v := 2147483639) (hwg _ wI_RJ8_200) dJ8_hugeLength_7cf53_50 ?_
    refine lv_icmp_gt (tgt := 58) hx hb dJ8_hugeLength_7cf53_52 (by decide) (fun c_3 => ?_) (fun c_3 => ?_)
    · replace hp := hp.1 c_3
      refine lv_iload_n hx hb dJ8_hugeLength_7cf53_58 rfl (lv_at hl 0 rfl) ?_
      exact w_iret hx hb hr hlocks hW ⟨hE, hp⟩ dJ8_hugeLength_7cf53_59
    · replace hp := hp.2 c_3
      refine lv_ldc hx hb hown (v := 2147483639) (hwg _ wI_RJ8_200) dJ8_hugeLength_7cf53_55 ?_
      exact w_iret hx hb hr hlocks hW ⟨hE, hp⟩ dJ8_hugeLength_7cf53_57
  · replace hp := hp.2 c_2
    exact hp.elim
set_option maxHeartbeats 4000000 in
set_option maxRecDepth 100000 in
theorem c_J8_hugeLength_7cf53 (l : Launch) {D : wD} {cy : Nat → ClassId} {X : va_W} {S0 : wS} {post : Int32 → wS → Prop} {x0 : Int32} {x1 : Int32} (hp : wp_J8_hugeLength_7cf53 D post S0 x0 x1) : mI D cy X l yJ8_hugeLength_7cf53 wz_J8_hugeLength_7cf53 r_J8_hugeLength_7cf53 [.int x0, .int x1] S0 (fun r S9 => wX D S0 S9 ∧ post r S9) := by
  intro sz
  refine Met.ofW (cc := cJ8_hugeLength_7cf53) (maxL := 3) (ret := (some .int)) (by decide) rfl ?_
  intro p e s m args below meth c s₁ B hml hv
  obtain ⟨rfl, hsz, hP, hK, hD0, hRO⟩ := hv
  have hts := atoms_spec (ws := wz_J8_hugeLength_7cf53) B.pre
  have hown : s.vm.findClass RJ8 = some m.cls := findClass_of_methodNamed B.named
  subst hsz
  have hD := hD0.self (sz := s.heap.size)
  have F : CallFix p m c cJ8_hugeLength_7cf53 3 s _ wz_J8_hugeLength_7cf53 RJ8 := ⟨B.exec, B.bytes, hml, hown, hts⟩
  have hr := B.returns
  have hlocks := B.notSynchronized
  generalize hAe : va_A (wL cy X S0) s.heap.size = A at hD hK ⊢
  have hA : ∀ q, s.heap.size ≤ q → A q := fun q h => by rw [← hAe]; exact Or.inr h
  have hW : wO D cy X A s.heap S0 s.heap [] := ⟨hP, hD, va_S.rf, hA, hRO⟩
  have hl := lv_entry ([.int x0, .int x1]) (n := 3) (Nat.le_of_ble_eq_true rfl)
  rw [lg_entry_eq]
  generalize (lg_sl ([.int x0, .int x1]) ++ List.replicate (3 - (lg_sl ([.int x0, .int x1])).length) Slot.unset).toArray = ls at hl ⊢
  have hl : lv_has ls 3 [(0, .int x0), (1, .int x1)] := hl
  unfold wp_J8_hugeLength_7cf53 at hp
  exact t_J8_hugeLength_7cf53_0 F hr hlocks hK hp hW wX.rf (lv_sub hl [0, 1] rfl)
def wp_J8_newLength_cabcc_21 (D : wD) (post : Int32 → wS → Prop)  (S : wS) (x0 : Int32) (x1 : Int32) : Prop :=
wp_J8_hugeLength_7cf53 D (fun r_1 S_2 => 
post r_1 S_2) S x0 x1
def wp_J8_newLength_cabcc_0 (D : wD) (post : Int32 → wS → Prop)  (S : wS) (x0 : Int32) (x1 : Int32) (x2 : Int32) : Prop :=
∀ x_1 : Int32, x_1 = (x0 + (if x1 < x2 then x2 else x1)) →
((x_1 ≤ (0 : Int32) → wp_J8_newLength_cabcc_21 D post S x0 x1) ∧
 (¬ x_1 ≤ (0 : Int32) → (((2147483639 : Int32) < x_1 → wp_J8_newLength_cabcc_21 D post S x0 x1) ∧
 (¬ (2147483639 : Int32) < x_1 → post x_1 S))))
abbrev r_J8_newLength_cabcc : Room := { frames := 1, cells := 0, slots := 0, locals := 40 }
def wp_J8_newLength_cabcc (D : wD) (post : Int32 → wS → Prop) (S : wS) (x0 : Int32) (x1 : Int32) (x2 : Int32) : Prop := wp_J8_newLength_cabcc_0 D post S x0 x1 x2
set_option maxHeartbeats 4000000 in
set_option maxRecDepth 100000 in
theorem t_J8_newLength_cabcc_21 {p : Program} {l : Launch} {e : Env} {s : State} {m : MethodId} {args : Array Value} {below : List Frame} {meth : Method} {c : Code} {D : wD} {cy : Nat → ClassId} {X : va_W} {A : Nat → Prop} {S0 : wS} {post : Int32 → wS → Prop} (F : CallFix p m c cJ8_newLength_cabcc 4 s args wz_J8_newLength_cabcc RJ8) (hr : meth.sig.returnType = (some .int)) (hlocks : meth.locks = false) (hK : wK D cy A s) : ∀ {S : wS} {H : Heap} {locs : List Loc} {ls : Array Slot} {x0 : Int32} {x1 : Int32}, wp_J8_newLength_cabcc_21 D post S x0 x1 → wO D cy X A s.heap S H locs → wX D S0 S → lv_has ls 4 [(0, .int x0), (1, .int x1)] → W p l e r_J8_newLength_cabcc s m args below meth c H locs 0 0 (MQ below (va_Qi (fun r S9 => wX D S0 S9 ∧ post r S9) (wB D cy X A) A) args s 0 0 A) (F0 m 21 ls []) := by
  obtain ⟨hx, hb, hml, hown, hts⟩ := id F
  have hwg : ∀ w ∈ WG, w.before args s = true := fun w h => hts w (List.mem_cons_of_mem _ h)
  intro S H locs ls x0 x1 hp hW hE hl
  unfold wp_J8_newLength_cabcc_21 at hp
  refine lv_iload_n hx hb dJ8_newLength_cabcc_21 rfl (lv_at hl 0 rfl) ?_
  refine lv_iload_n hx hb dJ8_newLength_cabcc_22 rfl (lv_at hl 1 rfl) ?_
  refine w_callI (va_runS (As := [.int x0, .int x1]) (rest := []) F (c_J8_hugeLength_7cf53 l hp H.size) (va_cwS 2 hts (wg_S wm_RJ8_201 wy_J8_hugeLength_7cf53) rfl rfl rfl (by decide +kernel) ⟨Nat.le_of_ble_eq_true rfl, Nat.le_of_ble_eq_true rfl⟩) (w_preS hK hW) rfl rfl hl.1 rfl (lv_room (Nat.le_of_ble_eq_true rfl)) dJ8_newLength_cabcc_23 ⟨Nat.le_of_ble_eq_true rfl, Nat.le_of_ble_eq_true rfl⟩) hW (fun r_1 S_2 H locs hp hW => ?_)
  obtain ⟨hX_S_2, hp⟩ := hp
  refine W.widen (k := 0) (n := 0) (by decide) (by decide) ?_
  have hE := hE.trans hX_S_2
  exact w_iret hx hb hr hlocks hW ⟨hE, hp⟩ dJ8_newLength_cabcc_26
set_option maxHeartbeats 4000000 in
set_option maxRecDepth 100000 in
theorem t_J8_newLength_cabcc_0 {p : Program} {l : Launch} {e : Env} {s : State} {m : MethodId} {args : Array Value} {below : List Frame} {meth : Method} {c : Code} {D : wD} {cy : Nat → ClassId} {X : va_W} {A : Nat → Prop} {S0 : wS} {post : Int32 → wS → Prop} (F : CallFix p m c cJ8_newLength_cabcc 4 s args wz_J8_newLength_cabcc RJ8) (hr : meth.sig.returnType = (some .int)) (hlocks : meth.locks = false) (hK : wK D cy A s) : ∀ {S : wS} {H : Heap} {locs : List Loc} {ls : Array Slot} {x0 : Int32} {x1 : Int32} {x2 : Int32}, wp_J8_newLength_cabcc_0 D post S x0 x1 x2 → wO D cy X A s.heap S H locs → wX D S0 S → lv_has ls 4 [(0, .int x0), (1, .int x1), (2, .int x2)] → W p l e r_J8_newLength_cabcc s m args below meth c H locs 0 0 (MQ below (va_Qi (fun r S9 => wX D S0 S9 ∧ post r S9) (wB D cy X A) A) args s 0 0 A) (F0 m 0 ls []) := by
  obtain ⟨hx, hb, hml, hown, hts⟩ := id F
  have hwg : ∀ w ∈ WG, w.before args s = true := fun w h => hts w (List.mem_cons_of_mem _ h)
  intro S H locs ls x0 x1 x2 hp hW hE hl
  unfold wp_J8_newLength_cabcc_0 at hp
  refine lv_iload_n hx hb dJ8_newLength_cabcc_0 rfl (lv_at hl 0 rfl) ?_
  refine lv_iload_n hx hb dJ8_newLength_cabcc_1 rfl (lv_at hl 1 rfl) ?_
  refine lv_iload_n hx hb dJ8_newLength_cabcc_2 rfl (lv_at hl 2 rfl) ?_
  refine va_mmax hx hb (hml.trans hl.1.symm) hown (hwg _ wm_RJ8_194) (hwg _ wmm_max.1) (hwg _ wmm_max.2.1) (hwg _ wmm_max.2.2) (Nat.le_of_ble_eq_true rfl) (Nat.le_of_ble_eq_true rfl) (Nat.le_of_ble_eq_true rfl) (Nat.le_of_ble_eq_true rfl) dJ8_newLength_cabcc_3 ?_
  refine lv_iadd hx hb dJ8_newLength_cabcc_6 ?_
  refine lv_topi (fun x_1 ex_1 => ?_)
  replace hp := hp x_1 ex_1
  refine lv_istore_n (lv' := [(3, .int x_1), (0, .int x0), (1, .int x1), (2, .int x2)]) hx hb dJ8_newLength_cabcc_7 rfl hl (by decide) rfl (fun ls hl => ?_)
  refine lv_iconst (v := 0) hx hb dJ8_newLength_cabcc_8 (by decide) ?_
  refine lv_iload_n hx hb dJ8_newLength_cabcc_9 rfl (lv_at hl 0 rfl) ?_
  refine lv_icmp_ge (tgt := 21) hx hb dJ8_newLength_cabcc_10 (by decide) (fun c_2 => ?_) (fun c_2 => ?_)
  · replace hp := hp.1 c_2
    exact t_J8_newLength_cabcc_21 F hr hlocks hK hp hW hE (lv_sub hl [1, 2] rfl)
  · replace hp := hp.2 c_2
    refine lv_iload_n hx hb dJ8_newLength_cabcc_13 rfl (lv_at hl 0 rfl) ?_
    refine lv_ldc hx hb hown (v := 2147483639) (hwg _ wI_RJ8_200) dJ8_newLength_cabcc_14 ?_
    refine lv_icmp_gt (tgt := 21) hx hb dJ8_newLength_cabcc_16 (by decide) (fun c_3 => ?_) (fun c_3 => ?_)
    · replace hp := hp.1 c_3
      exact t_J8_newLength_cabcc_21 F hr hlocks hK hp hW hE (lv_sub hl [1, 2] rfl)
    · replace hp := hp.2 c_3
      refine lv_iload_n hx hb dJ8_newLength_cabcc_19 rfl (lv_at hl 0 rfl) ?_
      exact w_iret hx hb hr hlocks hW ⟨hE, hp⟩ dJ8_newLength_cabcc_20
set_option maxHeartbeats 4000000 in
set_option maxRecDepth 100000 in
theorem c_J8_newLength_cabcc (l : Launch) {D : wD} {cy : Nat → ClassId} {X : va_W} {S0 : wS} {post : Int32 → wS → Prop} {x0 : Int32} {x1 : Int32} {x2 : Int32} (hp : wp_J8_newLength_cabcc D post S0 x0 x1 x2) : mI D cy X l yJ8_newLength_cabcc wz_J8_newLength_cabcc r_J8_newLength_cabcc [.int x0, .int x1, .int x2] S0 (fun r S9 => wX D S0 S9 ∧ post r S9) := by
  intro sz
  refine Met.ofW (cc := cJ8_newLength_cabcc) (maxL := 4) (ret := (some .int)) (by decide) rfl ?_
  intro p e s m args below meth c s₁ B hml hv
  obtain ⟨rfl, hsz, hP, hK, hD0, hRO⟩ := hv
  have hts := atoms_spec (ws := wz_J8_newLength_cabcc) B.pre
  have hown : s.vm.findClass RJ8 = some m.cls := findClass_of_methodNamed B.named
  subst hsz
  have hD := hD0.self (sz := s.heap.size)
  have F : CallFix p m c cJ8_newLength_cabcc 4 s _ wz_J8_newLength_cabcc RJ8 := ⟨B.exec, B.bytes, hml, hown, hts⟩
  have hr := B.returns
  have hlocks := B.notSynchronized
  generalize hAe : va_A (wL cy X S0) s.heap.size = A at hD hK ⊢
  have hA : ∀ q, s.heap.size ≤ q → A q := fun q h => by rw [← hAe]; exact Or.inr h
  have hW : wO D cy X A s.heap S0 s.heap [] := ⟨hP, hD, va_S.rf, hA, hRO⟩
  have hl := lv_entry ([.int x0, .int x1, .int x2]) (n := 4) (Nat.le_of_ble_eq_true rfl)
  rw [lg_entry_eq]
  generalize (lg_sl ([.int x0, .int x1, .int x2]) ++ List.replicate (4 - (lg_sl ([.int x0, .int x1, .int x2])).length) Slot.unset).toArray = ls at hl ⊢
  have hl : lv_has ls 4 [(0, .int x0), (1, .int x1), (2, .int x2)] := hl
  unfold wp_J8_newLength_cabcc at hp
  exact t_J8_newLength_cabcc_0 F hr hlocks hK hp hW wX.rf (lv_sub hl [0, 1, 2] rfl)
def wp_J5_newCapacity_0f7a4_0 (D : wD) (post : Int32 → wS → Prop)  (S : wS) (a0 : Nat) (x1 : Int32) : Prop :=
∃ y_1 : Nat, sR S a0 0 = some y_1 ∧ wM D S y_1 ∧ sK S y_1 = 20 ∧
∀ x_2 : Int32, x_2 = (Int32.ofNat (sN S y_1)) →
∀ x_3 : Int32, x_3 = (x1 <<< ((sI S a0 1) &&& 31)) →
∀ x_4 : Int32, x_4 = (x_3 - x_2) →
wp_J8_newLength_cabcc D (fun r_5 S_6 => 
((¬ r_5 = (2147483647 : Int32) → post (r_5 >>> ((sI S_6 a0 1) &&& 31)) S_6) ∧
 (r_5 = (2147483647 : Int32) → False))) S x_2 x_4 (x_2 + ((2 : Int32) <<< ((sI S a0 1) &&& 31)))
abbrev r_J5_newCapacity_0f7a4 : Room := { frames := 2, cells := 0, slots := 0, locals := 63 }
def wp_J5_newCapacity_0f7a4 (D : wD) (post : Int32 → wS → Prop) (S : wS) (a0 : Nat) (x1 : Int32) : Prop := wp_J5_newCapacity_0f7a4_0 D post S a0 x1
set_option maxHeartbeats 4000000 in
set_option maxRecDepth 100000 in
theorem t_J5_newCapacity_0f7a4_0 {p : Program} {l : Launch} {e : Env} {s : State} {m : MethodId} {args : Array Value} {below : List Frame} {meth : Method} {c : Code} {D : wD} {cy : Nat → ClassId} {X : va_W} {A : Nat → Prop} {S0 : wS} {post : Int32 → wS → Prop} (F : CallFix p m c cJ5_newCapacity_0f7a4 6 s args wz_J5_newCapacity_0f7a4 RJ5) (hr : meth.sig.returnType = (some .int)) (hlocks : meth.locks = false) (hK : wK D cy A s) : ∀ {S : wS} {H : Heap} {locs : List Loc} {ls : Array Slot} {a0 : Nat} {x1 : Int32}, wp_J5_newCapacity_0f7a4_0 D post S a0 x1 → wO D cy X A s.heap S H locs → wX D S0 S → lv_has ls 6 [(0, .ref a0), (1, .int x1)] → wM D S a0 → sK S a0 = 1 → W p l e r_J5_newCapacity_0f7a4 s m args below meth c H locs 0 0 (MQ below (va_Qi (fun r S9 => wX D S0 S9 ∧ post r S9) (wB D cy X A) A) args s 0 0 A) (F0 m 0 ls []) := by
  obtain ⟨hx, hb, hml, hown, hts⟩ := id F
  have hwg : ∀ w ∈ WG, w.before args s = true := fun w h => hts w (List.mem_cons_of_mem _ h)
  have i_1 : ∀ w ∈ u_ws RJ4 TJ4 4, w ∈ wz_J5_newCapacity_0f7a4 := fun w h => List.mem_cons_of_mem _ (wu_1 w h)
  have k_15 := hwg _ wf_RJ5_15
  have k_22 := hwg _ wf_RJ5_22
  intro S H locs ls a0 x1 hp hW hE hl hL_a0 hK_a0
  unfold wp_J5_newCapacity_0f7a4_0 at hp
  refine lv_aload_n hx hb dJ5_newCapacity_0f7a4_0 rfl (lv_at hl 0 rfl) ?_
  obtain ⟨y_1, ey_1, hL_y_1, hK_y_1, hp⟩ := hp
  refine w_get (k := 1) (f := 0) (T := TJ4) (v := .ref y_1) F hK hW hL_a0 hK_a0 (by decide) rfl rfl (by decide) i_1 k_15 (by rw [show wv 1 0 S a0 = va_rf (sR S a0 0) from rfl, ey_1]; rfl) dJ5_newCapacity_0f7a4_1 ?_
  refine w_len F hK hW hL_y_1 hK_y_1 (by decide) dJ5_newCapacity_0f7a4_4 ?_
  refine lv_topi (fun x_2 ex_2 => ?_)
  replace hp := hp x_2 ex_2
  refine lv_istore_n (lv' := [(2, .int x_2), (0, .ref a0), (1, .int x1)]) hx hb dJ5_newCapacity_0f7a4_5 rfl hl (by decide) rfl (fun ls hl => ?_)
  refine lv_iload_n hx hb dJ5_newCapacity_0f7a4_6 rfl (lv_at hl 2 rfl) ?_
  refine lv_aload_n hx hb dJ5_newCapacity_0f7a4_7 rfl (lv_at hl 1 rfl) ?_
  refine w_get (k := 1) (f := 1) (T := TJ4) (v := .int (sI S a0 1)) F hK hW hL_a0 hK_a0 (by decide) rfl rfl (by decide) i_1 k_22 rfl dJ5_newCapacity_0f7a4_8 ?_
  refine lv_ishl hx hb dJ5_newCapacity_0f7a4_11 ?_
  refine lv_topi (fun x_3 ex_3 => ?_)
  replace hp := hp x_3 ex_3
  refine lv_istore_n (lv' := [(3, .int x_3), (2, .int x_2), (0, .ref a0), (1, .int x1)]) hx hb dJ5_newCapacity_0f7a4_12 rfl hl (by decide) rfl (fun ls hl => ?_)
  refine lv_iload_n hx hb dJ5_newCapacity_0f7a4_13 rfl (lv_at hl 0 rfl) ?_
  refine lv_iload_n hx hb dJ5_newCapacity_0f7a4_14 rfl (lv_at hl 1 rfl) ?_
  refine lv_isub hx hb dJ5_newCapacity_0f7a4_15 ?_
  refine lv_topi (fun x_4 ex_4 => ?_)
  replace hp := hp x_4 ex_4
  refine lv_istore (lv' := [(4, .int x_4), (3, .int x_3), (2, .int x_2), (0, .ref a0), (1, .int x1)]) hx hb dJ5_newCapacity_0f7a4_16 hl (by decide) rfl (fun ls hl => ?_)
  refine lv_iload_n hx hb dJ5_newCapacity_0f7a4_18 rfl (lv_at hl 2 rfl) ?_
  refine lv_iload hx hb dJ5_newCapacity_0f7a4_19 (lv_at hl 0 rfl) ?_
  refine lv_iload_n hx hb dJ5_newCapacity_0f7a4_21 rfl (lv_at hl 2 rfl) ?_
  refine lv_iconst (v := 2) hx hb dJ5_newCapacity_0f7a4_22 (by decide) ?_
  refine lv_aload_n hx hb dJ5_newCapacity_0f7a4_23 rfl (lv_at hl 3 rfl) ?_
  refine w_get (k := 1) (f := 1) (T := TJ4) (v := .int (sI S a0 1)) F hK hW hL_a0 hK_a0 (by decide) rfl rfl (by decide) i_1 k_22 rfl dJ5_newCapacity_0f7a4_24 ?_
  refine lv_ishl hx hb dJ5_newCapacity_0f7a4_27 ?_
  refine lv_iadd hx hb dJ5_newCapacity_0f7a4_28 ?_
  refine w_callI (va_runS (As := [.int x_2, .int x_4, .int (x_2 + ((2 : Int32) <<< ((sI S a0 1) &&& 31)))]) (rest := []) F (c_J8_newLength_cabcc l hp H.size) (va_cwS 3 hts (wg_S wm_RJ5_114 wy_J8_newLength_cabcc) rfl rfl rfl (by decide +kernel) ⟨Nat.le_of_ble_eq_true rfl, Nat.le_of_ble_eq_true rfl⟩) (w_preS hK hW) rfl rfl hl.1 rfl (lv_room (Nat.le_of_ble_eq_true rfl)) dJ5_newCapacity_0f7a4_29 ⟨Nat.le_of_ble_eq_true rfl, Nat.le_of_ble_eq_true rfl⟩) hW (fun r_5 S_6 H locs hp hW => ?_)
  obtain ⟨hX_S_6, hp⟩ := hp
  refine W.widen (k := 0) (n := 0) (by decide) (by decide) ?_
  have hE := hE.trans hX_S_6
  have hK_a0 : sK S_6 a0 = 1 := (hX_S_6.2 a0 hL_a0).1.trans hK_a0
  have hL_a0 : wM D S_6 a0 := hX_S_6.M hL_a0
  refine lv_istore (lv' := [(5, .int r_5), (4, .int x_4), (3, .int x_3), (2, .int x_2), (0, .ref a0), (1, .int x1)]) hx hb dJ5_newCapacity_0f7a4_32 hl (by decide) rfl (fun ls hl => ?_)
  refine lv_iload hx hb dJ5_newCapacity_0f7a4_34 (lv_at hl 0 rfl) ?_
  refine lv_ldc hx hb hown (v := 2147483647) (hwg _ wI_RJ5_39) dJ5_newCapacity_0f7a4_36 ?_
  refine lv_icmp_ne (tgt := 51) hx hb dJ5_newCapacity_0f7a4_38 (by decide) (fun c_7 => ?_) (fun c_7 => ?_)
  · replace hp := hp.1 c_7
    refine lv_iload hx hb dJ5_newCapacity_0f7a4_51 (lv_at hl 0 rfl) ?_
    refine lv_aload_n hx hb dJ5_newCapacity_0f7a4_53 rfl (lv_at hl 4 rfl) ?_
    refine w_get (k := 1) (f := 1) (T := TJ4) (v := .int (sI S_6 a0 1)) F hK hW hL_a0 hK_a0 (by decide) rfl rfl (by decide) i_1 k_22 rfl dJ5_newCapacity_0f7a4_54 ?_
    refine lv_ishr hx hb dJ5_newCapacity_0f7a4_57 ?_
    exact w_iret hx hb hr hlocks hW ⟨hE, hp⟩ dJ5_newCapacity_0f7a4_58
  · replace hp := hp.2 c_7
    exact hp.elim
set_option maxHeartbeats 4000000 in
set_option maxRecDepth 100000 in
theorem c_J5_newCapacity_0f7a4 (l : Launch) {D : wD} {cy : Nat → ClassId} {X : va_W} {S0 : wS} {post : Int32 → wS → Prop} {a0 : Nat} {x1 : Int32} (hL_a0 : wM D S0 a0) (hK_a0 : sK S0 a0 = 1) (hp : wp_J5_newCapacity_0f7a4 D post S0 a0 x1) : mI D cy X l yJ5_newCapacity_0f7a4 wz_J5_newCapacity_0f7a4 r_J5_newCapacity_0f7a4 [.ref a0, .int x1] S0 (fun r S9 => wX D S0 S9 ∧ post r S9) := by
  intro sz
  refine Met.ofW (cc := cJ5_newCapacity_0f7a4) (maxL := 6) (ret := (some .int)) (by decide) rfl ?_
  intro p e s m args below meth c s₁ B hml hv
  obtain ⟨rfl, hsz, hP, hK, hD0, hRO⟩ := hv
  have hts := atoms_spec (ws := wz_J5_newCapacity_0f7a4) B.pre
  have hown : s.vm.findClass RJ5 = some m.cls := findClass_of_methodNamed B.named
  subst hsz
  have hD := hD0.self (sz := s.heap.size)
  have F : CallFix p m c cJ5_newCapacity_0f7a4 6 s _ wz_J5_newCapacity_0f7a4 RJ5 := ⟨B.exec, B.bytes, hml, hown, hts⟩
  have hr := B.returns
  have hlocks := B.notSynchronized
  generalize hAe : va_A (wL cy X S0) s.heap.size = A at hD hK ⊢
  have hA : ∀ q, s.heap.size ≤ q → A q := fun q h => by rw [← hAe]; exact Or.inr h
  have hW : wO D cy X A s.heap S0 s.heap [] := ⟨hP, hD, va_S.rf, hA, hRO⟩
  have hl := lv_entry ([.ref a0, .int x1]) (n := 6) (Nat.le_of_ble_eq_true rfl)
  rw [lg_entry_eq]
  generalize (lg_sl ([.ref a0, .int x1]) ++ List.replicate (6 - (lg_sl ([.ref a0, .int x1])).length) Slot.unset).toArray = ls at hl ⊢
  have hl : lv_has ls 6 [(0, .ref a0), (1, .int x1)] := hl
  unfold wp_J5_newCapacity_0f7a4 at hp
  exact t_J5_newCapacity_0f7a4_0 F hr hlocks hK hp hW wX.rf (lv_sub hl [0, 1] rfl) hL_a0 hK_a0
def wp_J7_copyOf_9075b_0 (D : wD) (post : Option Nat → wS → Prop)  (bc bs : Nat) (S : wS) (a0 : Nat) (x1 : Int32) : Prop :=
((¬ x1 = (Int32.ofNat (sN S a0)) → ¬ x1 < 0 ∧ (x1).toNatClampNeg ≤ 1000000 ∧ 1 ≤ bc ∧ (x1).toNatClampNeg ≤ bs ∧ ∀ y_2 : Nat, ¬ wM D S y_2 → ∀ S_3 : wS, S_3 = nA S y_2 20 (x1).toNatClampNeg →
y_2 ∈ sL S_3 ∧ ¬ (0 : Int32) < 0 ∧ ¬ (0 : Int32) < 0 ∧ ¬ (if x1 < (Int32.ofNat (sN S_3 a0)) then x1 else (Int32.ofNat (sN S_3 a0))) < 0 ∧ Int32.toNatClampNeg (0 : Int32) + Int32.toNatClampNeg (if x1 < (Int32.ofNat (sN S_3 a0)) then x1 else (Int32.ofNat (sN S_3 a0))) ≤ sN S_3 a0 ∧ Int32.toNatClampNeg (0 : Int32) + Int32.toNatClampNeg (if x1 < (Int32.ofNat (sN S_3 a0)) then x1 else (Int32.ofNat (sN S_3 a0))) ≤ sN S_3 y_2 ∧ (∀ i, i < Int32.toNatClampNeg (if x1 < (Int32.ofNat (sN S_3 a0)) then x1 else (Int32.ofNat (sN S_3 a0))) → fits .byte (.int (sI S_3 a0 (Int32.toNatClampNeg (0 : Int32) + i))) = true) ∧
∀ S_6 : wS, S_6 = uY S_3 a0 y_2 (Int32.toNatClampNeg (0 : Int32)) (Int32.toNatClampNeg (0 : Int32)) (Int32.toNatClampNeg (if x1 < (Int32.ofNat (sN S_3 a0)) then x1 else (Int32.ofNat (sN S_3 a0)))) →
post (some y_2) S_6) ∧
 (x1 = (Int32.ofNat (sN S a0)) → False))
abbrev r_J7_copyOf_9075b (rC rS : Nat) : Room := { frames := 1, cells := rC, slots := rS, locals := 60 }
def wp_J7_copyOf_9075b (D : wD) (post : Option Nat → wS → Prop) (bc bs : Nat) (S : wS) (a0 : Nat) (x1 : Int32) : Prop := wp_J7_copyOf_9075b_0 D post bc bs S a0 x1
set_option maxHeartbeats 4000000 in
set_option maxRecDepth 100000 in
theorem t_J7_copyOf_9075b_0 {p : Program} {l : Launch} {e : Env} {s : State} {m : MethodId} {args : Array Value} {below : List Frame} {meth : Method} {c : Code} {D : wD} {cy : Nat → ClassId} {X : va_W} {A : Nat → Prop} {S0 : wS} {rC rS : Nat} {post : Option Nat → wS → Prop} (F : CallFix p m c cJ7_copyOf_9075b 3 s args wz_J7_copyOf_9075b RJ7) (hr : meth.sig.returnType = (some (.array .byte))) (hlocks : meth.locks = false) (hK : wK D cy A s) : ∀ {bc bs cells slots : Nat} (hbc : cells + bc ≤ rC) (hbs : slots + bs ≤ rS) {S : wS} {H : Heap} {locs : List Loc} {ls : Array Slot} {a0 : Nat} {x1 : Int32}, wp_J7_copyOf_9075b_0 D post bc bs S a0 x1 → wO D cy X A s.heap S H locs → wX D S0 S → lv_has ls 3 [(0, .ref a0), (1, .int x1)] → wM D S a0 → sK S a0 = 20 → W p l e (r_J7_copyOf_9075b rC rS) s m args below meth c H locs cells slots (MQ below (va_Qq (fun r S9 => wX D S0 S9 ∧ post r S9) (wB D cy X A) A) args s rC rS A) (F0 m 0 ls []) := by
  obtain ⟨hx, hb, hml, hown, hts⟩ := id F
  have hwg : ∀ w ∈ WG, w.before args s = true := fun w h => hts w (List.mem_cons_of_mem _ h)
  intro bc bs cells slots hbc hbs S H locs ls a0 x1 hp hW hE hl hL_a0 hK_a0
  unfold wp_J7_copyOf_9075b_0 at hp
  refine lv_iload_n hx hb dJ7_copyOf_9075b_0 rfl (lv_at hl 1 rfl) ?_
  refine lv_aload_n hx hb dJ7_copyOf_9075b_1 rfl (lv_at hl 0 rfl) ?_
  refine w_len F hK hW hL_a0 hK_a0 (by decide) dJ7_copyOf_9075b_2 ?_
  refine lv_icmp_ne (tgt := 14) hx hb dJ7_copyOf_9075b_3 (by decide) (fun c_1 => ?_) (fun c_1 => ?_)
  · replace hp := hp.1 c_1
    refine lv_iload_n hx hb dJ7_copyOf_9075b_14 rfl (lv_at hl 1 rfl) ?_
    obtain ⟨h_4, h_4b, h_4c, h_4d, hp⟩ := hp
    refine w_newaB F hK hW (hwg _ wr_byte) h_4 h_4b (by show _ ≤ rC; omega) (by show _ ≤ rS; omega) dJ7_copyOf_9075b_15 (fun y_2 H hq_y_2 hW => ?_)
    replace hbc := w_spend hbc (show 1 ≤ bc by omega)
    replace hbs := w_spend hbs (show (x1).toNatClampNeg ≤ bs by omega)
    obtain ⟨S_3, eS_3⟩ : ∃ z : wS, z = nA S y_2 20 (x1).toNatClampNeg := ⟨_, rfl⟩
    rw [← eS_3] at hW
    replace hp := hp y_2 hq_y_2 S_3 eS_3
    have hX_S_3 : wX D S S_3 := by rw [eS_3]; exact wX_nA hq_y_2
    have hE := hE.trans hX_S_3
    have hK_a0 : sK S_3 a0 = 20 := (hX_S_3.2 a0 hL_a0).1.trans hK_a0
    have hL_a0 : wM D S_3 a0 := hX_S_3.M hL_a0
    have hL_y_2 : wM D S_3 y_2 := by rw [eS_3]; exact Or.inl (List.mem_append_right _ List.mem_cons_self)
    have hK_y_2 : sK S_3 y_2 = 20 := by rw [eS_3]; exact va_up_self _ _ _
    refine lv_astore_n (lv' := [(2, .ref y_2), (0, .ref a0), (1, .int x1)]) hx hb dJ7_copyOf_9075b_17 rfl hl (by decide) rfl (fun ls hl => ?_)
    refine lv_aload_n hx hb dJ7_copyOf_9075b_18 rfl (lv_at hl 1 rfl) ?_
    refine lv_iconst (v := 0) hx hb dJ7_copyOf_9075b_19 (by decide) ?_
    refine lv_aload_n hx hb dJ7_copyOf_9075b_20 rfl (lv_at hl 0 rfl) ?_
    refine lv_iconst (v := 0) hx hb dJ7_copyOf_9075b_21 (by decide) ?_
    refine lv_aload_n hx hb dJ7_copyOf_9075b_22 rfl (lv_at hl 1 rfl) ?_
    refine w_len F hK hW hL_a0 hK_a0 (by decide) dJ7_copyOf_9075b_23 ?_
    refine lv_iload_n hx hb dJ7_copyOf_9075b_24 rfl (lv_at hl 2 rfl) ?_
    refine va_mmin hx hb (hml.trans hl.1.symm) hown (hwg _ wm_RJ7_304) (hwg _ wmm_min.1) (hwg _ wmm_min.2.1) (hwg _ wmm_min.2.2) (Nat.le_of_ble_eq_true rfl) (Nat.le_of_ble_eq_true rfl) (by show _ ≤ rC; omega) (by show _ ≤ rS; omega) dJ7_copyOf_9075b_25 ?_
    obtain ⟨h_5b, h_5c, h_5d, h_5e, h_5f, h_5g, h_5i, hp⟩ := hp
    refine w_copyM F hK hW (hml.trans hl.1.symm) (hwg _ wm_RJ7_150) (hwg _ wacp.1) (hwg _ wacp.2.1) (hwg _ wacp.2.2) hL_a0 hK_a0 h_5b hK_y_2 h_5c h_5d h_5e h_5f h_5g h_5i (Nat.le_of_ble_eq_true rfl) (Nat.le_of_ble_eq_true rfl) dJ7_copyOf_9075b_28 (fun H locs hW => ?_)
    obtain ⟨S_6, eS_6⟩ : ∃ z : wS, z = uY S_3 a0 y_2 (Int32.toNatClampNeg (0 : Int32)) (Int32.toNatClampNeg (0 : Int32)) (Int32.toNatClampNeg (if x1 < (Int32.ofNat (sN S_3 a0)) then x1 else (Int32.ofNat (sN S_3 a0)))) := ⟨_, rfl⟩
    rw [← eS_6] at hW
    replace hp := hp S_6 eS_6
    have hX_S_6 : wX D S_3 S_6 := by rw [eS_6]; exact wX_uY
    have hE := hE.trans hX_S_6
    have hK_a0 : sK S_6 a0 = 20 := (hX_S_6.2 a0 hL_a0).1.trans hK_a0
    have hL_a0 : wM D S_6 a0 := hX_S_6.M hL_a0
    have hK_y_2 : sK S_6 y_2 = 20 := (hX_S_6.2 y_2 hL_y_2).1.trans hK_y_2
    have hL_y_2 : wM D S_6 y_2 := hX_S_6.M hL_y_2
    refine lv_aload_n hx hb dJ7_copyOf_9075b_31 rfl (lv_at hl 0 rfl) ?_
    refine W.widen (k := rC) (n := rS) (Nat.le_trans (Nat.le_add_right _ _) hbc) (Nat.le_trans (Nat.le_add_right _ _) hbs) ?_
    exact w_aret (g := (some y_2)) hx hb hr hlocks hW ⟨hE, hp⟩ dJ7_copyOf_9075b_32
  · replace hp := hp.2 c_1
    exact hp.elim
set_option maxHeartbeats 4000000 in
set_option maxRecDepth 100000 in
theorem c_J7_copyOf_9075b (l : Launch) {rC rS : Nat} {D : wD} {cy : Nat → ClassId} {X : va_W} {S0 : wS} {post : Option Nat → wS → Prop} {a0 : Nat} {x1 : Int32} (hL_a0 : wM D S0 a0) (hK_a0 : sK S0 a0 = 20) (hp : wp_J7_copyOf_9075b D post rC rS S0 a0 x1) : mR D cy X l yJ7_copyOf_9075b wz_J7_copyOf_9075b (r_J7_copyOf_9075b rC rS) [.ref a0, .int x1] S0 (fun r S9 => wX D S0 S9 ∧ post r S9) := by
  intro sz
  refine Met.ofW (cc := cJ7_copyOf_9075b) (maxL := 3) (ret := (some (.array .byte))) (by decide) rfl ?_
  intro p e s m args below meth c s₁ B hml hv
  obtain ⟨rfl, hsz, hP, hK, hD0, hRO⟩ := hv
  have hts := atoms_spec (ws := wz_J7_copyOf_9075b) B.pre
  have hown : s.vm.findClass RJ7 = some m.cls := findClass_of_methodNamed B.named
  subst hsz
  have hD := hD0.self (sz := s.heap.size)
  have F : CallFix p m c cJ7_copyOf_9075b 3 s _ wz_J7_copyOf_9075b RJ7 := ⟨B.exec, B.bytes, hml, hown, hts⟩
  have hr := B.returns
  have hlocks := B.notSynchronized
  generalize hAe : va_A (wL cy X S0) s.heap.size = A at hD hK ⊢
  have hA : ∀ q, s.heap.size ≤ q → A q := fun q h => by rw [← hAe]; exact Or.inr h
  have hW : wO D cy X A s.heap S0 s.heap [] := ⟨hP, hD, va_S.rf, hA, hRO⟩
  have hl := lv_entry ([.ref a0, .int x1]) (n := 3) (Nat.le_of_ble_eq_true rfl)
  rw [lg_entry_eq]
  generalize (lg_sl ([.ref a0, .int x1]) ++ List.replicate (3 - (lg_sl ([.ref a0, .int x1])).length) Slot.unset).toArray = ls at hl ⊢
  have hl : lv_has ls 3 [(0, .ref a0), (1, .int x1)] := hl
  unfold wp_J7_copyOf_9075b at hp
  exact t_J7_copyOf_9075b_0 F hr hlocks hK (Nat.le_of_eq (Nat.zero_add _)) (Nat.le_of_eq (Nat.zero_add _)) hp hW wX.rf (lv_sub hl [0, 1] rfl) hL_a0 hK_a0
def wp_J5_ensureCapacityInternal_d00df_38 (D : wD) (post : wS → Prop)  (bc bs : Nat) (S : wS) : Prop :=
post S
def wp_J5_ensureCapacityInternal_d00df_0 (D : wD) (post : wS → Prop)  (bc bs : Nat) (S : wS) (a0 : Nat) (x1 : Int32) : Prop :=
∃ y_1 : Nat, sR S a0 0 = some y_1 ∧ wM D S y_1 ∧ sK S y_1 = 20 ∧
∀ x_2 : Int32, x_2 = ((Int32.ofNat (sN S y_1)) >>> ((sI S a0 1) &&& 31)) →
(((x1 - x_2) ≤ 0 → wp_J5_ensureCapacityInternal_d00df_38 D post bc bs S) ∧
 (¬ (x1 - x_2) ≤ 0 → ∃ y_4 : Nat, sR S a0 0 = some y_4 ∧ wM D S y_4 ∧ sK S y_4 = 20 ∧
wp_J5_newCapacity_0f7a4 D (fun r_5 S_6 => 
∃ m_9 z_10 : Nat, m_9 ≤ bc ∧ z_10 ≤ bs ∧
wp_J7_copyOf_9075b D (fun r_7 S_8 => 
∀ S_11 : wS, S_11 = uR S_8 a0 0 r_7 →
wp_J5_ensureCapacityInternal_d00df_38 D post (bc - m_9) (bs - z_10) S_11) m_9 z_10 S_6 y_4 (r_5 <<< ((sI S_6 a0 1) &&& 31))) S a0 x1))
abbrev r_J5_ensureCapacityInternal_d00df (rC rS : Nat) : Room := { frames := 3, cells := rC, slots := rS, locals := 88 }
def wp_J5_ensureCapacityInternal_d00df (D : wD) (post : wS → Prop) (bc bs : Nat) (S : wS) (a0 : Nat) (x1 : Int32) : Prop := wp_J5_ensureCapacityInternal_d00df_0 D post bc bs S a0 x1
set_option maxHeartbeats 4000000 in
set_option maxRecDepth 100000 in
theorem t_J5_ensureCapacityInternal_d00df_38 {p : Program} {l : Launch} {e : Env} {s : State} {m : MethodId} {args : Array Value} {below : List Frame} {meth : Method} {c : Code} {D : wD} {cy : Nat → ClassId} {X : va_W} {A : Nat → Prop} {S0 : wS} {rC rS : Nat} {post : wS → Prop} (F : CallFix p m c cJ5_ensureCapacityInternal_d00df 3 s args wz_J5_ensureCapacityInternal_d00df RJ5) (hr : meth.sig.returnType = none) (hlocks : meth.locks = false) (hK : wK D cy A s) : ∀ {bc bs cells slots : Nat} (hbc : cells + bc ≤ rC) (hbs : slots + bs ≤ rS) {S : wS} {H : Heap} {locs : List Loc} {ls : Array Slot}, wp_J5_ensureCapacityInternal_d00df_38 D post bc bs S → wO D cy X A s.heap S H locs → wX D S0 S → lv_has ls 3 [] → W p l e (r_J5_ensureCapacityInternal_d00df rC rS) s m args below meth c H locs cells slots (MQ below (va_Qv (fun S9 => wX D S0 S9 ∧ post S9) (wB D cy X A) A) args s rC rS A) (F0 m 38 ls []) := by
  obtain ⟨hx, hb, hml, hown, hts⟩ := id F
  have hwg : ∀ w ∈ WG, w.before args s = true := fun w h => hts w (List.mem_cons_of_mem _ h)
  intro bc bs cells slots hbc hbs S H locs ls hp hW hE hl
  unfold wp_J5_ensureCapacityInternal_d00df_38 at hp
  refine W.widen (k := rC) (n := rS) (Nat.le_trans (Nat.le_add_right _ _) hbc) (Nat.le_trans (Nat.le_add_right _ _) hbs) ?_
  exact w_vret hx hb hr hlocks hW ⟨hE, hp⟩ dJ5_ensureCapacityInternal_d00df_38
set_option maxHeartbeats 4000000 in
set_option maxRecDepth 100000 in
theorem t_J5_ensureCapacityInternal_d00df_0 {p : Program} {l : Launch} {e : Env} {s : State} {m : MethodId} {args : Array Value} {below : List Frame} {meth : Method} {c : Code} {D : wD} {cy : Nat → ClassId} {X : va_W} {A : Nat → Prop} {S0 : wS} {rC rS : Nat} {post : wS → Prop} (F : CallFix p m c cJ5_ensureCapacityInternal_d00df 3 s args wz_J5_ensureCapacityInternal_d00df RJ5) (hr : meth.sig.returnType = none) (hlocks : meth.locks = false) (hK : wK D cy A s) : ∀ {bc bs cells slots : Nat} (hbc : cells + bc ≤ rC) (hbs : slots + bs ≤ rS) {S : wS} {H : Heap} {locs : List Loc} {ls : Array Slot} {a0 : Nat} {x1 : Int32}, wp_J5_ensureCapacityInternal_d00df_0 D post bc bs S a0 x1 → wO D cy X A s.heap S H locs → wX D S0 S → lv_has ls 3 [(0, .ref a0), (1, .int x1)] → wM D S a0 → sK S a0 = 1 → W p l e (r_J5_ensureCapacityInternal_d00df rC rS) s m args below meth c H locs cells slots (MQ below (va_Qv (fun S9 => wX D S0 S9 ∧ post S9) (wB D cy X A) A) args s rC rS A) (F0 m 0 ls []) := by
  obtain ⟨hx, hb, hml, hown, hts⟩ := id F
  have hwg : ∀ w ∈ WG, w.before args s = true := fun w h => hts w (List.mem_cons_of_mem _ h)
  have i_1 : ∀ w ∈ u_ws RJ4 TJ4 4, w ∈ wz_J5_ensureCapacityInternal_d00df := fun w h => List.mem_cons_of_mem _ (wu_1 w h)
  have k_15 := hwg _ wf_RJ5_15
  have k_22 := hwg _ wf_RJ5_22
  intro bc bs cells slots hbc hbs S H locs ls a0 x1 hp hW hE hl hL_a0 hK_a0
  unfold wp_J5_ensureCapacityInternal_d00df_0 at hp
  refine lv_aload_n hx hb dJ5_ensureCapacityInternal_d00df_0 rfl (lv_at hl 0 rfl) ?_
  obtain ⟨y_1, ey_1, hL_y_1, hK_y_1, hp⟩ := hp
  refine w_get (k := 1) (f := 0) (T := TJ4) (v := .ref y_1) F hK hW hL_a0 hK_a0 (by decide) rfl rfl (by decide) i_1 k_15 (by rw [show wv 1 0 S a0 = va_rf (sR S a0 0) from rfl, ey_1]; rfl) dJ5_ensureCapacityInternal_d00df_1 ?_
  refine w_len F hK hW hL_y_1 hK_y_1 (by decide) dJ5_ensureCapacityInternal_d00df_4 ?_
  refine lv_aload_n hx hb dJ5_ensureCapacityInternal_d00df_5 rfl (lv_at hl 0 rfl) ?_
  refine w_get (k := 1) (f := 1) (T := TJ4) (v := .int (sI S a0 1)) F hK hW hL_a0 hK_a0 (by decide) rfl rfl (by decide) i_1 k_22 rfl dJ5_ensureCapacityInternal_d00df_6 ?_
  refine lv_ishr hx hb dJ5_ensureCapacityInternal_d00df_9 ?_
  refine lv_topi (fun x_2 ex_2 => ?_)
  replace hp := hp x_2 ex_2
  refine lv_istore_n (lv' := [(2, .int x_2), (0, .ref a0), (1, .int x1)]) hx hb dJ5_ensureCapacityInternal_d00df_10 rfl hl (by decide) rfl (fun ls hl => ?_)
  refine lv_iload_n hx hb dJ5_ensureCapacityInternal_d00df_11 rfl (lv_at hl 2 rfl) ?_
  refine lv_iload_n hx hb dJ5_ensureCapacityInternal_d00df_12 rfl (lv_at hl 0 rfl) ?_
  refine lv_isub hx hb dJ5_ensureCapacityInternal_d00df_13 ?_
  refine lv_if_le (tgt := 38) hx hb dJ5_ensureCapacityInternal_d00df_14 (by decide) (fun c_3 => ?_) (fun c_3 => ?_)
  · replace hp := hp.1 c_3
    exact t_J5_ensureCapacityInternal_d00df_38 F hr hlocks hK hbc hbs hp hW hE (lv_sub hl [] rfl)
  · replace hp := hp.2 c_3
    refine lv_aload_n hx hb dJ5_ensureCapacityInternal_d00df_17 rfl (lv_at hl 1 rfl) ?_
    refine lv_aload_n hx hb dJ5_ensureCapacityInternal_d00df_18 rfl (lv_at hl 1 rfl) ?_
    obtain ⟨y_4, ey_4, hL_y_4, hK_y_4, hp⟩ := hp
    refine w_get (k := 1) (f := 0) (T := TJ4) (v := .ref y_4) F hK hW hL_a0 hK_a0 (by decide) rfl rfl (by decide) i_1 k_15 (by rw [show wv 1 0 S a0 = va_rf (sR S a0 0) from rfl, ey_4]; rfl) dJ5_ensureCapacityInternal_d00df_19 ?_
    refine lv_aload_n hx hb dJ5_ensureCapacityInternal_d00df_22 rfl (lv_at hl 1 rfl) ?_
    refine lv_iload_n hx hb dJ5_ensureCapacityInternal_d00df_23 rfl (lv_at hl 2 rfl) ?_
    refine w_callI (va_runU (As := [.int x1]) (rest := [.ref y_4, .ref a0]) F (c_J5_newCapacity_0f7a4 l hL_a0 hK_a0 hp H.size) (va_cwU (C := RJ4) (owner := RJ5) 1 hts (wg_U wm_RJ5_104 wsm_J5_newCapacity_0f7a4 wse_J5_newCapacity_0f7a4 wi5_J5_newCapacity_0f7a4 winit5 wco_J5_newCapacity_0f7a4) rfl rfl rfl rfl ⟨by decide, by decide, by decide +kernel⟩ ⟨Nat.le_of_ble_eq_true rfl, Nat.le_of_ble_eq_true rfl⟩) (w_preV hK hW hL_a0 hK_a0 (by decide) rfl) rfl rfl hl.1 rfl (lv_room (Nat.le_of_ble_eq_true rfl)) dJ5_ensureCapacityInternal_d00df_24 ⟨by show _ ≤ rC; exact Nat.le_trans (Nat.le_add_right _ _) hbc, by show _ ≤ rS; exact Nat.le_trans (Nat.le_add_right _ _) hbs⟩) hW (fun r_5 S_6 H locs hp hW => ?_)
    obtain ⟨hX_S_6, hp⟩ := hp
    refine w_same ?_
    have hE := hE.trans hX_S_6
    have hK_a0 : sK S_6 a0 = 1 := (hX_S_6.2 a0 hL_a0).1.trans hK_a0
    have hL_a0 : wM D S_6 a0 := hX_S_6.M hL_a0
    have hK_y_4 : sK S_6 y_4 = 20 := (hX_S_6.2 y_4 hL_y_4).1.trans hK_y_4
    have hL_y_4 : wM D S_6 y_4 := hX_S_6.M hL_y_4
    refine lv_aload_n hx hb dJ5_ensureCapacityInternal_d00df_27 rfl (lv_at hl 1 rfl) ?_
    refine w_get (k := 1) (f := 1) (T := TJ4) (v := .int (sI S_6 a0 1)) F hK hW hL_a0 hK_a0 (by decide) rfl rfl (by decide) i_1 k_22 rfl dJ5_ensureCapacityInternal_d00df_28 ?_
    refine lv_ishl hx hb dJ5_ensureCapacityInternal_d00df_31 ?_
    obtain ⟨m_9, z_10, hm_9, hz_10, hp⟩ := hp
    refine w_callR (va_runS (As := [.ref y_4, .int (r_5 <<< ((sI S_6 a0 1) &&& 31))]) (rest := [.ref a0]) F (c_J7_copyOf_9075b l hL_y_4 hK_y_4 hp H.size) (va_cwS 2 hts (wg_S wm_RJ5_108 wy_J7_copyOf_9075b) rfl rfl rfl (by decide +kernel) ⟨Nat.le_of_ble_eq_true rfl, Nat.le_of_ble_eq_true rfl⟩) (w_preS hK hW) rfl rfl hl.1 rfl (lv_room (Nat.le_of_ble_eq_true rfl)) dJ5_ensureCapacityInternal_d00df_32 ⟨by show _ + m_9 ≤ rC; omega, by show _ + z_10 ≤ rS; omega⟩) hW (fun r_7 S_8 H locs hp hW => ?_)
    obtain ⟨hX_S_8, hp⟩ := hp
    refine W.widen (k := _ + m_9) (n := _ + z_10) (Nat.le_refl _) (Nat.le_refl _) ?_
    replace hbc := w_spend hbc (show m_9 ≤ bc by omega)
    replace hbs := w_spend hbs (show z_10 ≤ bs by omega)
    have hE := hE.trans hX_S_8
    have hK_a0 : sK S_8 a0 = 1 := (hX_S_8.2 a0 hL_a0).1.trans hK_a0
    have hL_a0 : wM D S_8 a0 := hX_S_8.M hL_a0
    refine w_putR (k := 1) (f := 0) (T := TJ4) (g := r_7) F hK hW hL_a0 hK_a0 (by decide) (by decide) rfl rfl (by decide) i_1 tyJ4 tyJ4_ok nmJ4 k_15 rfl rfl (ty := (.array .byte)) rfl (v_narrow _ _) (v_fitsA _ _) dJ5_ensureCapacityInternal_d00df_35 (fun H locs hW => ?_)
    obtain ⟨S_11, eS_11⟩ : ∃ z : wS, z = uR S_8 a0 0 r_7 := ⟨_, rfl⟩
    rw [← eS_11] at hW
    replace hp := hp S_11 eS_11
    have hX_S_11 : wX D S_8 S_11 := by rw [eS_11]; exact wX_uR
    have hE := hE.trans hX_S_11
    have hK_a0 : sK S_11 a0 = 1 := (hX_S_11.2 a0 hL_a0).1.trans hK_a0
    have hL_a0 : wM D S_11 a0 := hX_S_11.M hL_a0
    exact t_J5_ensureCapacityInternal_d00df_38 F hr hlocks hK hbc hbs hp hW hE (lv_sub hl [] rfl)
set_option maxHeartbeats 4000000 in
set_option maxRecDepth 100000 in
theorem c_J5_ensureCapacityInternal_d00df (l : Launch) {rC rS : Nat} {D : wD} {cy : Nat → ClassId} {X : va_W} {S0 : wS} {post : wS → Prop} {a0 : Nat} {x1 : Int32} (hL_a0 : wM D S0 a0) (hK_a0 : sK S0 a0 = 1) (hp : wp_J5_ensureCapacityInternal_d00df D post rC rS S0 a0 x1) : mV D cy X l yJ5_ensureCapacityInternal_d00df wz_J5_ensureCapacityInternal_d00df (r_J5_ensureCapacityInternal_d00df rC rS) [.ref a0, .int x1] S0 (fun S9 => wX D S0 S9 ∧ post S9) := by
  intro sz
  refine Met.ofW (cc := cJ5_ensureCapacityInternal_d00df) (maxL := 3) (ret := none) (by decide) rfl ?_
  intro p e s m args below meth c s₁ B hml hv
  obtain ⟨rfl, hsz, hP, hK, hD0, hRO⟩ := hv
  have hts := atoms_spec (ws := wz_J5_ensureCapacityInternal_d00df) B.pre
  have hown : s.vm.findClass RJ5 = some m.cls := findClass_of_methodNamed B.named
  subst hsz
  have hD := hD0.self (sz := s.heap.size)
  have F : CallFix p m c cJ5_ensureCapacityInternal_d00df 3 s _ wz_J5_ensureCapacityInternal_d00df RJ5 := ⟨B.exec, B.bytes, hml, hown, hts⟩
  have hr := B.returns
  have hlocks := B.notSynchronized
  generalize hAe : va_A (wL cy X S0) s.heap.size = A at hD hK ⊢
  have hA : ∀ q, s.heap.size ≤ q → A q := fun q h => by rw [← hAe]; exact Or.inr h
  have hW : wO D cy X A s.heap S0 s.heap [] := ⟨hP, hD, va_S.rf, hA, hRO⟩
  have hl := lv_entry ([.ref a0, .int x1]) (n := 3) (Nat.le_of_ble_eq_true rfl)
  rw [lg_entry_eq]
  generalize (lg_sl ([.ref a0, .int x1]) ++ List.replicate (3 - (lg_sl ([.ref a0, .int x1])).length) Slot.unset).toArray = ls at hl ⊢
  have hl : lv_has ls 3 [(0, .ref a0), (1, .int x1)] := hl
  unfold wp_J5_ensureCapacityInternal_d00df at hp
  exact t_J5_ensureCapacityInternal_d00df_0 F hr hlocks hK (Nat.le_of_eq (Nat.zero_add _)) (Nat.le_of_eq (Nat.zero_add _)) hp hW wX.rf (lv_sub hl [0, 1] rfl) hL_a0 hK_a0
def wp_J5_isLatin1_aae02_18 (D : wD) (post : Int32 → wS → Prop)  (S : wS) (t0 : Int32) : Prop :=
narrow .boolean (.int t0) = .int t0 ∧ post t0 S
def wp_J5_isLatin1_aae02_17 (D : wD) (post : Int32 → wS → Prop)  (S : wS) : Prop :=
wp_J5_isLatin1_aae02_18 D post S (0 : Int32)
def wp_J5_isLatin1_aae02_0 (D : wD) (post : Int32 → wS → Prop)  (S : wS) (a0 : Nat) : Prop :=
(((1 : Int32) = 0 → wp_J5_isLatin1_aae02_17 D post S) ∧
 (¬ (1 : Int32) = 0 → ((¬ (sI S a0 1) = 0 → wp_J5_isLatin1_aae02_17 D post S) ∧
 ((sI S a0 1) = 0 → wp_J5_isLatin1_aae02_18 D post S (1 : Int32)))))
abbrev r_J5_isLatin1_aae02 : Room := { frames := 0, cells := 0, slots := 0, locals := 0 }
def wp_J5_isLatin1_aae02 (D : wD) (post : Int32 → wS → Prop) (S : wS) (a0 : Nat) : Prop := wp_J5_isLatin1_aae02_0 D post S a0
set_option maxHeartbeats 4000000 in
set_option maxRecDepth 100000 in
theorem t_J5_isLatin1_aae02_18 {p : Program} {l : Launch} {e : Env} {s : State} {m : MethodId} {args : Array Value} {below : List Frame} {meth : Method} {c : Code} {D : wD} {cy : Nat → ClassId} {X : va_W} {A : Nat → Prop} {S0 : wS} {post : Int32 → wS → Prop} (F : CallFix p m c cJ5_isLatin1_aae02 1 s args wz_J5_isLatin1_aae02 RJ5) (hr : meth.sig.returnType = (some .boolean)) (hlocks : meth.locks = false) (hK : wK D cy A s) : ∀ {S : wS} {H : Heap} {locs : List Loc} {ls : Array Slot} {t0 : Int32}, wp_J5_isLatin1_aae02_18 D post S t0 → wO D cy X A s.heap S H locs → wX D S0 S → lv_has ls 1 [] → W p l e r_J5_isLatin1_aae02 s m args below meth c H locs 0 0 (MQ below (va_Qi (fun r S9 => wX D S0 S9 ∧ post r S9) (wB D cy X A) A) args s 0 0 A) (F0 m 18 ls [.int t0]) := by
  obtain ⟨hx, hb, hml, hown, hts⟩ := id F
  have hwg : ∀ w ∈ WG, w.before args s = true := fun w h => hts w (List.mem_cons_of_mem _ h)
  intro S H locs ls t0 hp hW hE hl
  unfold wp_J5_isLatin1_aae02_18 at hp
  exact w_zret hx hb hr hlocks hW hp.1 ⟨hE, hp.2⟩ dJ5_isLatin1_aae02_18
set_option maxHeartbeats 4000000 in
set_option maxRecDepth 100000 in
theorem t_J5_isLatin1_aae02_17 {p : Program} {l : Launch} {e : Env} {s : State} {m : MethodId} {args : Array Value} {below : List Frame} {meth : Method} {c : Code} {D : wD} {cy : Nat → ClassId} {X : va_W} {A : Nat → Prop} {S0 : wS} {post : Int32 → wS → Prop} (F : CallFix p m c cJ5_isLatin1_aae02 1 s args wz_J5_isLatin1_aae02 RJ5) (hr : meth.sig.returnType = (some .boolean)) (hlocks : meth.locks = false) (hK : wK D cy A s) : ∀ {S : wS} {H : Heap} {locs : List Loc} {ls : Array Slot}, wp_J5_isLatin1_aae02_17 D post S → wO D cy X A s.heap S H locs → wX D S0 S → lv_has ls 1 [] → W p l e r_J5_isLatin1_aae02 s m args below meth c H locs 0 0 (MQ below (va_Qi (fun r S9 => wX D S0 S9 ∧ post r S9) (wB D cy X A) A) args s 0 0 A) (F0 m 17 ls []) := by
  obtain ⟨hx, hb, hml, hown, hts⟩ := id F
  have hwg : ∀ w ∈ WG, w.before args s = true := fun w h => hts w (List.mem_cons_of_mem _ h)
  intro S H locs ls hp hW hE hl
  unfold wp_J5_isLatin1_aae02_17 at hp
  refine lv_iconst (v := 0) hx hb dJ5_isLatin1_aae02_17 (by decide) ?_
  exact t_J5_isLatin1_aae02_18 F hr hlocks hK hp hW hE (lv_sub hl [] rfl)
set_option maxHeartbeats 4000000 in
set_option maxRecDepth 100000 in
theorem t_J5_isLatin1_aae02_0 {p : Program} {l : Launch} {e : Env} {s : State} {m : MethodId} {args : Array Value} {below : List Frame} {meth : Method} {c : Code} {D : wD} {cy : Nat → ClassId} {X : va_W} {A : Nat → Prop} {S0 : wS} {post : Int32 → wS → Prop} (F : CallFix p m c cJ5_isLatin1_aae02 1 s args wz_J5_isLatin1_aae02 RJ5) (hr : meth.sig.returnType = (some .boolean)) (hlocks : meth.locks = false) (hK : wK D cy A s) : ∀ {S : wS} {H : Heap} {locs : List Loc} {ls : Array Slot} {a0 : Nat}, wp_J5_isLatin1_aae02_0 D post S a0 → wO D cy X A s.heap S H locs → wX D S0 S → lv_has ls 1 [(0, .ref a0)] → wM D S a0 → sK S a0 = 1 → W p l e r_J5_isLatin1_aae02 s m args below meth c H locs 0 0 (MQ below (va_Qi (fun r S9 => wX D S0 S9 ∧ post r S9) (wB D cy X A) A) args s 0 0 A) (F0 m 0 ls []) := by
  obtain ⟨hx, hb, hml, hown, hts⟩ := id F
  have hwg : ∀ w ∈ WG, w.before args s = true := fun w h => hts w (List.mem_cons_of_mem _ h)
  have i_1 : ∀ w ∈ u_ws RJ4 TJ4 4, w ∈ wz_J5_isLatin1_aae02 := fun w h => List.mem_cons_of_mem _ (wu_1 w h)
  have k_22 := hwg _ wf_RJ5_22
  intro S H locs ls a0 hp hW hE hl hL_a0 hK_a0
  unfold wp_J5_isLatin1_aae02_0 at hp
  refine w_staI F hK hW (show ("java/lang/String", "COMPACT_STRINGS", "Z", (1 : Int32)) ∈ wSi by decide +kernel) (hwg _ wf_RJ5_18) dJ5_isLatin1_aae02_0 ?_
  refine lv_if_eq (tgt := 17) hx hb dJ5_isLatin1_aae02_3 (by decide) (fun c_1 => ?_) (fun c_1 => ?_)
  · replace hp := hp.1 c_1
    exact t_J5_isLatin1_aae02_17 F hr hlocks hK hp hW hE (lv_sub hl [] rfl)
  · replace hp := hp.2 c_1
    refine lv_aload_n hx hb dJ5_isLatin1_aae02_6 rfl (lv_at hl 0 rfl) ?_
    refine w_get (k := 1) (f := 1) (T := TJ4) (v := .int (sI S a0 1)) F hK hW hL_a0 hK_a0 (by decide) rfl rfl (by decide) i_1 k_22 rfl dJ5_isLatin1_aae02_7 ?_
    refine lv_if_ne (tgt := 17) hx hb dJ5_isLatin1_aae02_10 (by decide) (fun c_2 => ?_) (fun c_2 => ?_)
    · replace hp := hp.1 c_2
      exact t_J5_isLatin1_aae02_17 F hr hlocks hK hp hW hE (lv_sub hl [] rfl)
    · replace hp := hp.2 c_2
      refine lv_iconst (v := 1) hx hb dJ5_isLatin1_aae02_13 (by decide) ?_
      refine lv_goto (tgt := 18) hx hb dJ5_isLatin1_aae02_14 (by decide) ?_
      exact t_J5_isLatin1_aae02_18 F hr hlocks hK hp hW hE (lv_sub hl [] rfl)
set_option maxHeartbeats 4000000 in
set_option maxRecDepth 100000 in
theorem c_J5_isLatin1_aae02 (l : Launch) {D : wD} {cy : Nat → ClassId} {X : va_W} {S0 : wS} {post : Int32 → wS → Prop} {a0 : Nat} (hL_a0 : wM D S0 a0) (hK_a0 : sK S0 a0 = 1) (hp : wp_J5_isLatin1_aae02 D post S0 a0) : mI D cy X l yJ5_isLatin1_aae02 wz_J5_isLatin1_aae02 r_J5_isLatin1_aae02 [.ref a0] S0 (fun r S9 => wX D S0 S9 ∧ post r S9) := by
  intro sz
  refine Met.ofW (cc := cJ5_isLatin1_aae02) (maxL := 1) (ret := (some .boolean)) (by decide) rfl ?_
  intro p e s m args below meth c s₁ B hml hv
  obtain ⟨rfl, hsz, hP, hK, hD0, hRO⟩ := hv
  have hts := atoms_spec (ws := wz_J5_isLatin1_aae02) B.pre
  have hown : s.vm.findClass RJ5 = some m.cls := findClass_of_methodNamed B.named
  subst hsz
  have hD := hD0.self (sz := s.heap.size)
  have F : CallFix p m c cJ5_isLatin1_aae02 1 s _ wz_J5_isLatin1_aae02 RJ5 := ⟨B.exec, B.bytes, hml, hown, hts⟩
  have hr := B.returns
  have hlocks := B.notSynchronized
  generalize hAe : va_A (wL cy X S0) s.heap.size = A at hD hK ⊢
  have hA : ∀ q, s.heap.size ≤ q → A q := fun q h => by rw [← hAe]; exact Or.inr h
  have hW : wO D cy X A s.heap S0 s.heap [] := ⟨hP, hD, va_S.rf, hA, hRO⟩
  have hl := lv_entry ([.ref a0]) (n := 1) (Nat.le_of_ble_eq_true rfl)
  rw [lg_entry_eq]
  generalize (lg_sl ([.ref a0]) ++ List.replicate (1 - (lg_sl ([.ref a0])).length) Slot.unset).toArray = ls at hl ⊢
  have hl : lv_has ls 1 [(0, .ref a0)] := hl
  unfold wp_J5_isLatin1_aae02 at hp
  exact t_J5_isLatin1_aae02_0 F hr hlocks hK hp hW wX.rf (lv_sub hl [0] rfl) hL_a0 hK_a0
def wp_J5_appendNull_278bc_76 (D : wD) (post : Option Nat → wS → Prop)  (bc bs : Nat) (S : wS) (a0 : Nat) (x1 : Int32) : Prop :=
∀ S_1 : wS, S_1 = uI S a0 3 x1 →
post (some a0) S_1
def wp_J5_appendNull_278bc_0 (D : wD) (post : Option Nat → wS → Prop)  (bc bs : Nat) (S : wS) (a0 : Nat) : Prop :=
∃ m_3 z_4 : Nat, m_3 ≤ bc ∧ z_4 ≤ bs ∧
wp_J5_ensureCapacityInternal_d00df D (fun S_2 => 
∀ x_5 : Int32, x_5 = (sI S_2 a0 3) →
∃ y_6 : Nat, sR S_2 a0 0 = some y_6 ∧ wM D S_2 y_6 ∧ sK S_2 y_6 = 20 ∧
wp_J5_isLatin1_aae02 D (fun r_7 S_8 => 
((r_7 = 0 → wp_J2_putCharsAt_cd4e5 D (fun r_10 S_11 => 
wp_J5_appendNull_278bc_76 D post (bc - m_3) (bs - z_4) S_11 a0 r_10) S_8 y_6 x_5 (110 : Int32) (117 : Int32) (108 : Int32) (108 : Int32)) ∧
 (¬ r_7 = 0 → ∀ x_12 : Int32, x_12 = x_5 + 1 →
y_6 ∈ sL S_8 ∧ vp_in x_5 (sN S_8 y_6) ∧
∀ S_14 : wS, S_14 = uI S_8 y_6 (x_5).toNatClampNeg (vp_nar .byte (110 : Int32)) →
∀ x_15 : Int32, x_15 = x_12 + 1 →
y_6 ∈ sL S_14 ∧ vp_in x_12 (sN S_14 y_6) ∧
∀ S_17 : wS, S_17 = uI S_14 y_6 (x_12).toNatClampNeg (vp_nar .byte (117 : Int32)) →
∀ x_18 : Int32, x_18 = x_15 + 1 →
y_6 ∈ sL S_17 ∧ vp_in x_15 (sN S_17 y_6) ∧
∀ S_20 : wS, S_20 = uI S_17 y_6 (x_15).toNatClampNeg (vp_nar .byte (108 : Int32)) →
∀ x_21 : Int32, x_21 = x_18 + 1 →
y_6 ∈ sL S_20 ∧ vp_in x_18 (sN S_20 y_6) ∧
∀ S_23 : wS, S_23 = uI S_20 y_6 (x_18).toNatClampNeg (vp_nar .byte (108 : Int32)) →
wp_J5_appendNull_278bc_76 D post (bc - m_3) (bs - z_4) S_23 a0 x_21))) S_2 a0) m_3 z_4 S a0 ((sI S a0 3) + (4 : Int32))
abbrev r_J5_appendNull_278bc (rC rS : Nat) : Room := { frames := 4, cells := rC, slots := rS, locals := 110 }
def wp_J5_appendNull_278bc (D : wD) (post : Option Nat → wS → Prop) (bc bs : Nat) (S : wS) (a0 : Nat) : Prop := wp_J5_appendNull_278bc_0 D post bc bs S a0
set_option maxHeartbeats 4000000 in
set_option maxRecDepth 100000 in
theorem t_J5_appendNull_278bc_76 {p : Program} {l : Launch} {e : Env} {s : State} {m : MethodId} {args : Array Value} {below : List Frame} {meth : Method} {c : Code} {D : wD} {cy : Nat → ClassId} {X : va_W} {A : Nat → Prop} {S0 : wS} {rC rS : Nat} {post : Option Nat → wS → Prop} (F : CallFix p m c cJ5_appendNull_278bc 3 s args wz_J5_appendNull_278bc RJ5) (hr : meth.sig.returnType = (some (.object "java/lang/AbstractStringBuilder"))) (hlocks : meth.locks = false) (hK : wK D cy A s) : ∀ {bc bs cells slots : Nat} (hbc : cells + bc ≤ rC) (hbs : slots + bs ≤ rS) {S : wS} {H : Heap} {locs : List Loc} {ls : Array Slot} {a0 : Nat} {x1 : Int32}, wp_J5_appendNull_278bc_76 D post bc bs S a0 x1 → wO D cy X A s.heap S H locs → wX D S0 S → lv_has ls 3 [(0, .ref a0), (1, .int x1)] → wM D S a0 → sK S a0 = 1 → W p l e (r_J5_appendNull_278bc rC rS) s m args below meth c H locs cells slots (MQ below (va_Qq (fun r S9 => wX D S0 S9 ∧ post r S9) (wB D cy X A) A) args s rC rS A) (F0 m 76 ls []) := by
  obtain ⟨hx, hb, hml, hown, hts⟩ := id F
  have hwg : ∀ w ∈ WG, w.before args s = true := fun w h => hts w (List.mem_cons_of_mem _ h)
  have i_1 : ∀ w ∈ u_ws RJ4 TJ4 4, w ∈ wz_J5_appendNull_278bc := fun w h => List.mem_cons_of_mem _ (wu_1 w h)
  have k_79 := hwg _ wf_RJ5_79
  intro bc bs cells slots hbc hbs S H locs ls a0 x1 hp hW hE hl hL_a0 hK_a0
  unfold wp_J5_appendNull_278bc_76 at hp
  refine lv_aload_n hx hb dJ5_appendNull_278bc_76 rfl (lv_at hl 0 rfl) ?_
  refine lv_iload_n hx hb dJ5_appendNull_278bc_77 rfl (lv_at hl 1 rfl) ?_
  refine w_putI (k := 1) (f := 3) (T := TJ4) F hK hW hL_a0 hK_a0 (by decide) (by decide) rfl rfl (by decide) i_1 tyJ4 tyJ4_ok nmJ4 k_79 rfl rfl (ty := .int) rfl rfl rfl dJ5_appendNull_278bc_78 (fun H locs hW => ?_)
  obtain ⟨S_1, eS_1⟩ : ∃ z : wS, z = uI S a0 3 x1 := ⟨_, rfl⟩
  rw [← eS_1] at hW
  replace hp := hp S_1 eS_1
  have hX_S_1 : wX D S S_1 := by rw [eS_1]; exact wX_uI
  have hE := hE.trans hX_S_1
  have hK_a0 : sK S_1 a0 = 1 := (hX_S_1.2 a0 hL_a0).1.trans hK_a0
  have hL_a0 : wM D S_1 a0 := hX_S_1.M hL_a0
  refine lv_aload_n hx hb dJ5_appendNull_278bc_81 rfl (lv_at hl 0 rfl) ?_
  refine W.widen (k := rC) (n := rS) (Nat.le_trans (Nat.le_add_right _ _) hbc) (Nat.le_trans (Nat.le_add_right _ _) hbs) ?_
  exact w_aret (g := (some a0)) hx hb hr hlocks hW ⟨hE, hp⟩ dJ5_appendNull_278bc_82
set_option maxHeartbeats 4000000 in
set_option maxRecDepth 100000 in
theorem t_J5_appendNull_278bc_0 {p : Program} {l : Launch} {e : Env} {s : State} {m : MethodId} {args : Array Value} {below : List Frame} {meth : Method} {c : Code} {D : wD} {cy : Nat → ClassId} {X : va_W} {A : Nat → Prop} {S0 : wS} {rC rS : Nat} {post : Option Nat → wS → Prop} (F : CallFix p m c cJ5_appendNull_278bc 3 s args wz_J5_appendNull_278bc RJ5) (hr : meth.sig.returnType = (some (.object "java/lang/AbstractStringBuilder"))) (hlocks : meth.locks = false) (hK : wK D cy A s) : ∀ {bc bs cells slots : Nat} (hbc : cells + bc ≤ rC) (hbs : slots + bs ≤ rS) {S : wS} {H : Heap} {locs : List Loc} {ls : Array Slot} {a0 : Nat}, wp_J5_appendNull_278bc_0 D post bc bs S a0 → wO D cy X A s.heap S H locs → wX D S0 S → lv_has ls 3 [(0, .ref a0)] → wM D S a0 → sK S a0 = 1 → W p l e (r_J5_appendNull_278bc rC rS) s m args below meth c H locs cells slots (MQ below (va_Qq (fun r S9 => wX D S0 S9 ∧ post r S9) (wB D cy X A) A) args s rC rS A) (F0 m 0 ls []) := by
  obtain ⟨hx, hb, hml, hown, hts⟩ := id F
  have hwg : ∀ w ∈ WG, w.before args s = true := fun w h => hts w (List.mem_cons_of_mem _ h)
  have i_1 : ∀ w ∈ u_ws RJ4 TJ4 4, w ∈ wz_J5_appendNull_278bc := fun w h => List.mem_cons_of_mem _ (wu_1 w h)
  have k_15 := hwg _ wf_RJ5_15
  have k_79 := hwg _ wf_RJ5_79
  intro bc bs cells slots hbc hbs S H locs ls a0 hp hW hE hl hL_a0 hK_a0
  unfold wp_J5_appendNull_278bc_0 at hp
  refine lv_aload_n hx hb dJ5_appendNull_278bc_0 rfl (lv_at hl 0 rfl) ?_
  refine lv_aload_n hx hb dJ5_appendNull_278bc_1 rfl (lv_at hl 0 rfl) ?_
  refine w_get (k := 1) (f := 3) (T := TJ4) (v := .int (sI S a0 3)) F hK hW hL_a0 hK_a0 (by decide) rfl rfl (by decide) i_1 k_79 rfl dJ5_appendNull_278bc_2 ?_
  refine lv_iconst (v := 4) hx hb dJ5_appendNull_278bc_5 (by decide) ?_
  refine lv_iadd hx hb dJ5_appendNull_278bc_6 ?_
  obtain ⟨m_3, z_4, hm_3, hz_4, hp⟩ := hp
  refine w_callV (va_runU (As := [.int ((sI S a0 3) + (4 : Int32))]) (rest := []) F (c_J5_ensureCapacityInternal_d00df l hL_a0 hK_a0 hp H.size) (va_cwU (C := RJ4) (owner := RJ5) 1 hts (wg_U wm_RJ5_100 wsm_J5_ensureCapacityInternal_d00df wse_J5_ensureCapacityInternal_d00df wi5_J5_ensureCapacityInternal_d00df winit5 wco_J5_ensureCapacityInternal_d00df) rfl rfl rfl rfl ⟨by decide, by decide, by decide +kernel⟩ ⟨Nat.le_of_ble_eq_true rfl, Nat.le_of_ble_eq_true rfl⟩) (w_preV hK hW hL_a0 hK_a0 (by decide) rfl) rfl rfl hl.1 rfl (lv_room (Nat.le_of_ble_eq_true rfl)) dJ5_appendNull_278bc_7 ⟨by show _ + m_3 ≤ rC; omega, by show _ + z_4 ≤ rS; omega⟩) hW (fun S_2 H locs hp hW => ?_)
  obtain ⟨hX_S_2, hp⟩ := hp
  refine W.widen (k := _ + m_3) (n := _ + z_4) (Nat.le_refl _) (Nat.le_refl _) ?_
  replace hbc := w_spend hbc (show m_3 ≤ bc by omega)
  replace hbs := w_spend hbs (show z_4 ≤ bs by omega)
  have hE := hE.trans hX_S_2
  have hK_a0 : sK S_2 a0 = 1 := (hX_S_2.2 a0 hL_a0).1.trans hK_a0
  have hL_a0 : wM D S_2 a0 := hX_S_2.M hL_a0
  refine lv_aload_n hx hb dJ5_appendNull_278bc_10 rfl (lv_at hl 0 rfl) ?_
  refine w_get (k := 1) (f := 3) (T := TJ4) (v := .int (sI S_2 a0 3)) F hK hW hL_a0 hK_a0 (by decide) rfl rfl (by decide) i_1 k_79 rfl dJ5_appendNull_278bc_11 ?_
  refine lv_topi (fun x_5 ex_5 => ?_)
  replace hp := hp x_5 ex_5
  refine lv_istore_n (lv' := [(1, .int x_5), (0, .ref a0)]) hx hb dJ5_appendNull_278bc_14 rfl hl (by decide) rfl (fun ls hl => ?_)
  refine lv_aload_n hx hb dJ5_appendNull_278bc_15 rfl (lv_at hl 1 rfl) ?_
  obtain ⟨y_6, ey_6, hL_y_6, hK_y_6, hp⟩ := hp
  refine w_get (k := 1) (f := 0) (T := TJ4) (v := .ref y_6) F hK hW hL_a0 hK_a0 (by decide) rfl rfl (by decide) i_1 k_15 (by rw [show wv 1 0 S_2 a0 = va_rf (sR S_2 a0 0) from rfl, ey_6]; rfl) dJ5_appendNull_278bc_16 ?_
  refine lv_astore_n (lv' := [(2, .ref y_6), (1, .int x_5), (0, .ref a0)]) hx hb dJ5_appendNull_278bc_19 rfl hl (by decide) rfl (fun ls hl => ?_)
  refine lv_aload_n hx hb dJ5_appendNull_278bc_20 rfl (lv_at hl 2 rfl) ?_
  refine w_callI (va_runU (As := []) (rest := []) F (c_J5_isLatin1_aae02 l hL_a0 hK_a0 hp H.size) (va_cwU (C := RJ4) (owner := RJ5) 0 hts (wg_U wm_RJ5_83 wsm_J5_isLatin1_aae02 wse_J5_isLatin1_aae02 wi5_J5_isLatin1_aae02 winit5 wco_J5_isLatin1_aae02) rfl rfl rfl rfl ⟨by decide, by decide, by decide +kernel⟩ ⟨Nat.le_of_ble_eq_true rfl, Nat.le_of_ble_eq_true rfl⟩) (w_preV hK hW hL_a0 hK_a0 (by decide) rfl) rfl rfl hl.1 rfl (lv_room (Nat.le_of_ble_eq_true rfl)) dJ5_appendNull_278bc_21 ⟨by show _ ≤ rC; exact Nat.le_trans (Nat.le_add_right _ _) hbc, by show _ ≤ rS; exact Nat.le_trans (Nat.le_add_right _ _) hbs⟩) hW (fun r_7 S_8 H locs hp hW => ?_)
  obtain ⟨hX_S_8, hp⟩ := hp
  refine w_same ?_
  have hE := hE.trans hX_S_8
  have hK_a0 : sK S_8 a0 = 1 := (hX_S_8.2 a0 hL_a0).1.trans hK_a0
  have hL_a0 : wM D S_8 a0 := hX_S_8.M hL_a0
  have hK_y_6 : sK S_8 y_6 = 20 := (hX_S_8.2 y_6 hL_y_6).1.trans hK_y_6
  have hL_y_6 : wM D S_8 y_6 := hX_S_8.M hL_y_6
  refine lv_if_eq (tgt := 62) hx hb dJ5_appendNull_278bc_24 (by decide) (fun c_9 => ?_) (fun c_9 => ?_)
  · replace hp := hp.1 c_9
    refine lv_aload_n hx hb dJ5_appendNull_278bc_62 rfl (lv_at hl 0 rfl) ?_
    refine lv_iload_n hx hb dJ5_appendNull_278bc_63 rfl (lv_at hl 1 rfl) ?_
    refine lv_bipush (v := 110) hx hb dJ5_appendNull_278bc_64 (by decide) ?_
    refine lv_bipush (v := 117) hx hb dJ5_appendNull_278bc_66 (by decide) ?_
    refine lv_bipush (v := 108) hx hb dJ5_appendNull_278bc_68 (by decide) ?_
    refine lv_bipush (v := 108) hx hb dJ5_appendNull_278bc_70 (by decide) ?_
    refine w_callI (va_runS (As := [.ref y_6, .int x_5, .int (110 : Int32), .int (117 : Int32), .int (108 : Int32), .int (108 : Int32)]) (rest := []) F (c_J2_putCharsAt_cd4e5 l hL_y_6 hK_y_6 hp H.size) (va_cwS 6 hts (wg_S wm_RJ5_226 wy_J2_putCharsAt_cd4e5) rfl rfl rfl (by decide +kernel) ⟨Nat.le_of_ble_eq_true rfl, Nat.le_of_ble_eq_true rfl⟩) (w_preS hK hW) rfl rfl hl.1 rfl (lv_room (Nat.le_of_ble_eq_true rfl)) dJ5_appendNull_278bc_72 ⟨by show _ ≤ rC; exact Nat.le_trans (Nat.le_add_right _ _) hbc, by show _ ≤ rS; exact Nat.le_trans (Nat.le_add_right _ _) hbs⟩) hW (fun r_10 S_11 H locs hp hW => ?_)
    obtain ⟨hX_S_11, hp⟩ := hp
    refine w_same ?_
    have hE := hE.trans hX_S_11
    have hK_a0 : sK S_11 a0 = 1 := (hX_S_11.2 a0 hL_a0).1.trans hK_a0
    have hL_a0 : wM D S_11 a0 := hX_S_11.M hL_a0
    have hK_y_6 : sK S_11 y_6 = 20 := (hX_S_11.2 y_6 hL_y_6).1.trans hK_y_6
    have hL_y_6 : wM D S_11 y_6 := hX_S_11.M hL_y_6
    refine lv_istore_n (lv' := [(1, .int r_10), (2, .ref y_6), (0, .ref a0)]) hx hb dJ5_appendNull_278bc_75 rfl hl (by decide) rfl (fun ls hl => ?_)
    exact t_J5_appendNull_278bc_76 F hr hlocks hK hbc hbs hp hW hE (lv_sub hl [2, 0] rfl) hL_a0 hK_a0
  · replace hp := hp.2 c_9
    refine lv_aload_n hx hb dJ5_appendNull_278bc_27 rfl (lv_at hl 0 rfl) ?_
    refine lv_iload_n hx hb dJ5_appendNull_278bc_28 rfl (lv_at hl 1 rfl) ?_
    obtain ⟨x_12, ex_12⟩ : ∃ z : Int32, z = x_5 + 1 := ⟨_, rfl⟩
    replace hp := hp x_12 ex_12
    refine lv_iinc (v := x_12) (lv' := [(1, .int x_12), (2, .ref y_6), (0, .ref a0)]) hx hb dJ5_appendNull_278bc_29 hl (k := 1) rfl (by rw [ex_12]; rfl) (by decide) rfl (fun ls hl => ?_)
    refine lv_bipush (v := 110) hx hb dJ5_appendNull_278bc_32 (by decide) ?_
    obtain ⟨h_13m, h_13, hp⟩ := hp
    refine w_bst F hK hW h_13m hK_y_6 h_13 dJ5_appendNull_278bc_34 (fun H locs hW => ?_)
    obtain ⟨S_14, eS_14⟩ : ∃ z : wS, z = uI S_8 y_6 (x_5).toNatClampNeg (vp_nar .byte (110 : Int32)) := ⟨_, rfl⟩
    rw [← eS_14] at hW
    replace hp := hp S_14 eS_14
    have hX_S_14 : wX D S_8 S_14 := by rw [eS_14]; exact wX_uI
    have hE := hE.trans hX_S_14
    have hK_a0 : sK S_14 a0 = 1 := (hX_S_14.2 a0 hL_a0).1.trans hK_a0
    have hL_a0 : wM D S_14 a0 := hX_S_14.M hL_a0
    have hK_y_6 : sK S_14 y_6 = 20 := (hX_S_14.2 y_6 hL_y_6).1.trans hK_y_6
    have hL_y_6 : wM D S_14 y_6 := hX_S_14.M hL_y_6
    refine lv_aload_n hx hb dJ5_appendNull_278bc_35 rfl (lv_at hl 1 rfl) ?_
    refine lv_iload_n hx hb dJ5_appendNull_278bc_36 rfl (lv_at hl 0 rfl) ?_
    obtain ⟨x_15, ex_15⟩ : ∃ z : Int32, z = x_12 + 1 := ⟨_, rfl⟩
    replace hp := hp x_15 ex_15
    refine lv_iinc (v := x_15) (lv' := [(1, .int x_15), (2, .ref y_6), (0, .ref a0)]) hx hb dJ5_appendNull_278bc_37 hl (k := 0) rfl (by rw [ex_15]; rfl) (by decide) rfl (fun ls hl => ?_)
    refine lv_bipush (v := 117) hx hb dJ5_appendNull_278bc_40 (by decide) ?_
    obtain ⟨h_16m, h_16, hp⟩ := hp
    refine w_bst F hK hW h_16m hK_y_6 h_16 dJ5_appendNull_278bc_42 (fun H locs hW => ?_)
    obtain ⟨S_17, eS_17⟩ : ∃ z : wS, z = uI S_14 y_6 (x_12).toNatClampNeg (vp_nar .byte (117 : Int32)) := ⟨_, rfl⟩
    rw [← eS_17] at hW
    replace hp := hp S_17 eS_17
    have hX_S_17 : wX D S_14 S_17 := by rw [eS_17]; exact wX_uI
    have hE := hE.trans hX_S_17
    have hK_a0 : sK S_17 a0 = 1 := (hX_S_17.2 a0 hL_a0).1.trans hK_a0
    have hL_a0 : wM D S_17 a0 := hX_S_17.M hL_a0
    have hK_y_6 : sK S_17 y_6 = 20 := (hX_S_17.2 y_6 hL_y_6).1.trans hK_y_6
    have hL_y_6 : wM D S_17 y_6 := hX_S_17.M hL_y_6
    refine lv_aload_n hx hb dJ5_appendNull_278bc_43 rfl (lv_at hl 1 rfl) ?_
    refine lv_iload_n hx hb dJ5_appendNull_278bc_44 rfl (lv_at hl 0 rfl) ?_
    obtain ⟨x_18, ex_18⟩ : ∃ z : Int32, z = x_15 + 1 := ⟨_, rfl⟩
    replace hp := hp x_18 ex_18
    refine lv_iinc (v := x_18) (lv' := [(1, .int x_18), (2, .ref y_6), (0, .ref a0)]) hx hb dJ5_appendNull_278bc_45 hl (k := 0) rfl (by rw [ex_18]; rfl) (by decide) rfl (fun ls hl => ?_)
    refine lv_bipush (v := 108) hx hb dJ5_appendNull_278bc_48 (by decide) ?_
    obtain ⟨h_19m, h_19, hp⟩ := hp
    refine w_bst F hK hW h_19m hK_y_6 h_19 dJ5_appendNull_278bc_50 (fun H locs hW => ?_)
    obtain ⟨S_20, eS_20⟩ : ∃ z : wS, z = uI S_17 y_6 (x_15).toNatClampNeg (vp_nar .byte (108 : Int32)) := ⟨_, rfl⟩
    rw [← eS_20] at hW
    replace hp := hp S_20 eS_20
    have hX_S_20 : wX D S_17 S_20 := by rw [eS_20]; exact wX_uI
    have hE := hE.trans hX_S_20
    have hK_a0 : sK S_20 a0 = 1 := (hX_S_20.2 a0 hL_a0).1.trans hK_a0
    have hL_a0 : wM D S_20 a0 := hX_S_20.M hL_a0
    have hK_y_6 : sK S_20 y_6 = 20 := (hX_S_20.2 y_6 hL_y_6).1.trans hK_y_6
    have hL_y_6 : wM D S_20 y_6 := hX_S_20.M hL_y_6
    refine lv_aload_n hx hb dJ5_appendNull_278bc_51 rfl (lv_at hl 1 rfl) ?_
    refine lv_iload_n hx hb dJ5_appendNull_278bc_52 rfl (lv_at hl 0 rfl) ?_
    obtain ⟨x_21, ex_21⟩ : ∃ z : Int32, z = x_18 + 1 := ⟨_, rfl⟩
    replace hp := hp x_21 ex_21
    refine lv_iinc (v := x_21) (lv' := [(1, .int x_21), (2, .ref y_6), (0, .ref a0)]) hx hb dJ5_appendNull_278bc_53 hl (k := 0) rfl (by rw [ex_21]; rfl) (by decide) rfl (fun ls hl => ?_)
    refine lv_bipush (v := 108) hx hb dJ5_appendNull_278bc_56 (by decide) ?_
    obtain ⟨h_22m, h_22, hp⟩ := hp
    refine w_bst F hK hW h_22m hK_y_6 h_22 dJ5_appendNull_278bc_58 (fun H locs hW => ?_)
    obtain ⟨S_23, eS_23⟩ : ∃ z : wS, z = uI S_20 y_6 (x_18).toNatClampNeg (vp_nar .byte (108 : Int32)) := ⟨_, rfl⟩
    rw [← eS_23] at hW
    replace hp := hp S_23 eS_23
    have hX_S_23 : wX D S_20 S_23 := by rw [eS_23]; exact wX_uI
    have hE := hE.trans hX_S_23
    have hK_a0 : sK S_23 a0 = 1 := (hX_S_23.2 a0 hL_a0).1.trans hK_a0
    have hL_a0 : wM D S_23 a0 := hX_S_23.M hL_a0
    have hK_y_6 : sK S_23 y_6 = 20 := (hX_S_23.2 y_6 hL_y_6).1.trans hK_y_6
    have hL_y_6 : wM D S_23 y_6 := hX_S_23.M hL_y_6
    refine lv_goto (tgt := 76) hx hb dJ5_appendNull_278bc_59 (by decide) ?_
    exact t_J5_appendNull_278bc_76 F hr hlocks hK hbc hbs hp hW hE (lv_sub hl [2, 0] rfl) hL_a0 hK_a0
set_option maxHeartbeats 4000000 in
set_option maxRecDepth 100000 in
theorem c_J5_appendNull_278bc (l : Launch) {rC rS : Nat} {D : wD} {cy : Nat → ClassId} {X : va_W} {S0 : wS} {post : Option Nat → wS → Prop} {a0 : Nat} (hL_a0 : wM D S0 a0) (hK_a0 : sK S0 a0 = 1) (hp : wp_J5_appendNull_278bc D post rC rS S0 a0) : mR D cy X l yJ5_appendNull_278bc wz_J5_appendNull_278bc (r_J5_appendNull_278bc rC rS) [.ref a0] S0 (fun r S9 => wX D S0 S9 ∧ post r S9) := by
  intro sz
  refine Met.ofW (cc := cJ5_appendNull_278bc) (maxL := 3) (ret := (some (.object "java/lang/AbstractStringBuilder"))) (by decide) rfl ?_
  intro p e s m args below meth c s₁ B hml hv
  obtain ⟨rfl, hsz, hP, hK, hD0, hRO⟩ := hv
  have hts := atoms_spec (ws := wz_J5_appendNull_278bc) B.pre
  have hown : s.vm.findClass RJ5 = some m.cls := findClass_of_methodNamed B.named
  subst hsz
  have hD := hD0.self (sz := s.heap.size)
  have F : CallFix p m c cJ5_appendNull_278bc 3 s _ wz_J5_appendNull_278bc RJ5 := ⟨B.exec, B.bytes, hml, hown, hts⟩
  have hr := B.returns
  have hlocks := B.notSynchronized
  generalize hAe : va_A (wL cy X S0) s.heap.size = A at hD hK ⊢
  have hA : ∀ q, s.heap.size ≤ q → A q := fun q h => by rw [← hAe]; exact Or.inr h
  have hW : wO D cy X A s.heap S0 s.heap [] := ⟨hP, hD, va_S.rf, hA, hRO⟩
  have hl := lv_entry ([.ref a0]) (n := 3) (Nat.le_of_ble_eq_true rfl)
  rw [lg_entry_eq]
  generalize (lg_sl ([.ref a0]) ++ List.replicate (3 - (lg_sl ([.ref a0])).length) Slot.unset).toArray = ls at hl ⊢
  have hl : lv_has ls 3 [(0, .ref a0)] := hl
  unfold wp_J5_appendNull_278bc at hp
  exact t_J5_appendNull_278bc_0 F hr hlocks hK (Nat.le_of_eq (Nat.zero_add _)) (Nat.le_of_eq (Nat.zero_add _)) hp hW wX.rf (lv_sub hl [0] rfl) hL_a0 hK_a0
def wp_J2_newBytesFor_77867_0 (D : wD) (post : Option Nat → wS → Prop)  (bc bs : Nat) (S : wS) (x0 : Int32) : Prop :=
wp_J2_newBytesLength_0f7a4 D (fun r_1 S_2 => 
¬ r_1 < 0 ∧ (r_1).toNatClampNeg ≤ 1000000 ∧ 1 ≤ bc ∧ (r_1).toNatClampNeg ≤ bs ∧ ∀ y_3 : Nat, ¬ wM D S_2 y_3 → ∀ S_4 : wS, S_4 = nA S_2 y_3 20 (r_1).toNatClampNeg →
post (some y_3) S_4) S x0
abbrev r_J2_newBytesFor_77867 (rC rS : Nat) : Room := { frames := 1, cells := rC, slots := rS, locals := 20 }
def wp_J2_newBytesFor_77867 (D : wD) (post : Option Nat → wS → Prop) (bc bs : Nat) (S : wS) (x0 : Int32) : Prop := wp_J2_newBytesFor_77867_0 D post bc bs S x0
set_option maxHeartbeats 4000000 in
set_option maxRecDepth 100000 in
theorem t_J2_newBytesFor_77867_0 {p : Program} {l : Launch} {e : Env} {s : State} {m : MethodId} {args : Array Value} {below : List Frame} {meth : Method} {c : Code} {D : wD} {cy : Nat → ClassId} {X : va_W} {A : Nat → Prop} {S0 : wS} {rC rS : Nat} {post : Option Nat → wS → Prop} (F : CallFix p m c cJ2_newBytesFor_77867 1 s args wz_J2_newBytesFor_77867 RJ2) (hr : meth.sig.returnType = (some (.array .byte))) (hlocks : meth.locks = false) (hK : wK D cy A s) : ∀ {bc bs cells slots : Nat} (hbc : cells + bc ≤ rC) (hbs : slots + bs ≤ rS) {S : wS} {H : Heap} {locs : List Loc} {ls : Array Slot} {x0 : Int32}, wp_J2_newBytesFor_77867_0 D post bc bs S x0 → wO D cy X A s.heap S H locs → wX D S0 S → lv_has ls 1 [(0, .int x0)] → W p l e (r_J2_newBytesFor_77867 rC rS) s m args below meth c H locs cells slots (MQ below (va_Qq (fun r S9 => wX D S0 S9 ∧ post r S9) (wB D cy X A) A) args s rC rS A) (F0 m 0 ls []) := by
  obtain ⟨hx, hb, hml, hown, hts⟩ := id F
  have hwg : ∀ w ∈ WG, w.before args s = true := fun w h => hts w (List.mem_cons_of_mem _ h)
  intro bc bs cells slots hbc hbs S H locs ls x0 hp hW hE hl
  unfold wp_J2_newBytesFor_77867_0 at hp
  refine lv_iload_n hx hb dJ2_newBytesFor_77867_0 rfl (lv_at hl 0 rfl) ?_
  refine w_callI (va_runS (As := [.int x0]) (rest := []) F (c_J2_newBytesLength_0f7a4 l hp H.size) (va_cwS 1 hts (wg_S wm_RJ2_11 wy_J2_newBytesLength_0f7a4) rfl rfl rfl (by decide +kernel) ⟨Nat.le_of_ble_eq_true rfl, Nat.le_of_ble_eq_true rfl⟩) (w_preS hK hW) rfl rfl hl.1 rfl (lv_room (Nat.le_of_ble_eq_true rfl)) dJ2_newBytesFor_77867_1 ⟨by show _ ≤ rC; exact Nat.le_trans (Nat.le_add_right _ _) hbc, by show _ ≤ rS; exact Nat.le_trans (Nat.le_add_right _ _) hbs⟩) hW (fun r_1 S_2 H locs hp hW => ?_)
  obtain ⟨hX_S_2, hp⟩ := hp
  refine w_same ?_
  have hE := hE.trans hX_S_2
  obtain ⟨h_5, h_5b, h_5c, h_5d, hp⟩ := hp
  refine w_newaB F hK hW (hwg _ wr_byte) h_5 h_5b (by show _ ≤ rC; omega) (by show _ ≤ rS; omega) dJ2_newBytesFor_77867_4 (fun y_3 H hq_y_3 hW => ?_)
  replace hbc := w_spend hbc (show 1 ≤ bc by omega)
  replace hbs := w_spend hbs (show (r_1).toNatClampNeg ≤ bs by omega)
  obtain ⟨S_4, eS_4⟩ : ∃ z : wS, z = nA S_2 y_3 20 (r_1).toNatClampNeg := ⟨_, rfl⟩
  rw [← eS_4] at hW
  replace hp := hp y_3 hq_y_3 S_4 eS_4
  have hX_S_4 : wX D S_2 S_4 := by rw [eS_4]; exact wX_nA hq_y_3
  have hE := hE.trans hX_S_4
  have hL_y_3 : wM D S_4 y_3 := by rw [eS_4]; exact Or.inl (List.mem_append_right _ List.mem_cons_self)
  have hK_y_3 : sK S_4 y_3 = 20 := by rw [eS_4]; exact va_up_self _ _ _
  refine W.widen (k := rC) (n := rS) (Nat.le_trans (Nat.le_add_right _ _) hbc) (Nat.le_trans (Nat.le_add_right _ _) hbs) ?_
  exact w_aret (g := (some y_3)) hx hb hr hlocks hW ⟨hE, hp⟩ dJ2_newBytesFor_77867_6
set_option maxHeartbeats 4000000 in
set_option maxRecDepth 100000 in
theorem c_J2_newBytesFor_77867 (l : Launch) {rC rS : Nat} {D : wD} {cy : Nat → ClassId} {X : va_W} {S0 : wS} {post : Option Nat → wS → Prop} {x0 : Int32} (hp : wp_J2_newBytesFor_77867 D post rC rS S0 x0) : mR D cy X l yJ2_newBytesFor_77867 wz_J2_newBytesFor_77867 (r_J2_newBytesFor_77867 rC rS) [.int x0] S0 (fun r S9 => wX D S0 S9 ∧ post r S9) := by
  intro sz
  refine Met.ofW (cc := cJ2_newBytesFor_77867) (maxL := 1) (ret := (some (.array .byte))) (by decide) rfl ?_
  intro p e s m args below meth c s₁ B hml hv
  obtain ⟨rfl, hsz, hP, hK, hD0, hRO⟩ := hv
  have hts := atoms_spec (ws := wz_J2_newBytesFor_77867) B.pre
  have hown : s.vm.findClass RJ2 = some m.cls := findClass_of_methodNamed B.named
  subst hsz
  have hD := hD0.self (sz := s.heap.size)
  have F : CallFix p m c cJ2_newBytesFor_77867 1 s _ wz_J2_newBytesFor_77867 RJ2 := ⟨B.exec, B.bytes, hml, hown, hts⟩
  have hr := B.returns
  have hlocks := B.notSynchronized
  generalize hAe : va_A (wL cy X S0) s.heap.size = A at hD hK ⊢
  have hA : ∀ q, s.heap.size ≤ q → A q := fun q h => by rw [← hAe]; exact Or.inr h
  have hW : wO D cy X A s.heap S0 s.heap [] := ⟨hP, hD, va_S.rf, hA, hRO⟩
  have hl := lv_entry ([.int x0]) (n := 1) (Nat.le_of_ble_eq_true rfl)
  rw [lg_entry_eq]
  generalize (lg_sl ([.int x0]) ++ List.replicate (1 - (lg_sl ([.int x0])).length) Slot.unset).toArray = ls at hl ⊢
  have hl : lv_has ls 1 [(0, .int x0)] := hl
  unfold wp_J2_newBytesFor_77867 at hp
  exact t_J2_newBytesFor_77867_0 F hr hlocks hK (Nat.le_of_eq (Nat.zero_add _)) (Nat.le_of_eq (Nat.zero_add _)) hp hW wX.rf (lv_sub hl [0] rfl)
def wp_J5_inflate_da8c8_0 (D : wD) (post : wS → Prop)  (bc bs : Nat) (S : wS) (a0 : Nat) : Prop :=
wp_J5_isLatin1_aae02 D (fun r_1 S_2 => 
((¬ r_1 = 0 → ∃ y_4 : Nat, sR S_2 a0 0 = some y_4 ∧ wM D S_2 y_4 ∧ sK S_2 y_4 = 20 ∧
∃ m_7 z_8 : Nat, m_7 ≤ bc ∧ z_8 ≤ bs ∧
wp_J2_newBytesFor_77867 D (fun r_5 S_6 => 
∃ y_9 : Nat, sR S_6 a0 0 = some y_9 ∧ wM D S_6 y_9 ∧ sK S_6 y_9 = 20 ∧
∃ y_10 : Nat, r_5 = some y_10 ∧ wM D S_6 y_10 ∧ sK S_6 y_10 = 20 ∧
wp_J1_inflate_0e8fd D (fun S_13 => 
∀ S_14 : wS, S_14 = uR S_13 a0 0 (some y_10) →
narrow .byte (.int (1 : Int32)) = .int (1 : Int32) ∧ fits .byte (.int (1 : Int32)) = true ∧
∀ S_15 : wS, S_15 = uI S_14 a0 1 (1 : Int32) →
post S_15) S_6 y_9 (0 : Int32) y_10 (0 : Int32) (sI S_6 a0 3)) m_7 z_8 S_2 (Int32.ofNat (sN S_2 y_4))) ∧
 (r_1 = 0 → post S_2))) S a0
abbrev r_J5_inflate_da8c8 (rC rS : Nat) : Room := { frames := 5, cells := rC, slots := rS, locals := 116 }
def wp_J5_inflate_da8c8 (D : wD) (post : wS → Prop) (bc bs : Nat) (S : wS) (a0 : Nat) : Prop := wp_J5_inflate_da8c8_0 D post bc bs S a0
set_option maxHeartbeats 4000000 in
set_option maxRecDepth 100000 in
theorem t_J5_inflate_da8c8_0 {p : Program} {l : Launch} {e : Env} {s : State} {m : MethodId} {args : Array Value} {below : List Frame} {meth : Method} {c : Code} {D : wD} {cy : Nat → ClassId} {X : va_W} {A : Nat → Prop} {S0 : wS} {rC rS : Nat} {post : wS → Prop} (F : CallFix p m c cJ5_inflate_da8c8 2 s args wz_J5_inflate_da8c8 RJ5) (hr : meth.sig.returnType = none) (hlocks : meth.locks = false) (hK : wK D cy A s) : ∀ {bc bs cells slots : Nat} (hbc : cells + bc ≤ rC) (hbs : slots + bs ≤ rS) {S : wS} {H : Heap} {locs : List Loc} {ls : Array Slot} {a0 : Nat}, wp_J5_inflate_da8c8_0 D post bc bs S a0 → wO D cy X A s.heap S H locs → wX D S0 S → lv_has ls 2 [(0, .ref a0)] → wM D S a0 → sK S a0 = 1 → W p l e (r_J5_inflate_da8c8 rC rS) s m args below meth c H locs cells slots (MQ below (va_Qv (fun S9 => wX D S0 S9 ∧ post S9) (wB D cy X A) A) args s rC rS A) (F0 m 0 ls []) := by
  obtain ⟨hx, hb, hml, hown, hts⟩ := id F
  have hwg : ∀ w ∈ WG, w.before args s = true := fun w h => hts w (List.mem_cons_of_mem _ h)
  have i_1 : ∀ w ∈ u_ws RJ4 TJ4 4, w ∈ wz_J5_inflate_da8c8 := fun w h => List.mem_cons_of_mem _ (wu_1 w h)
  have k_15 := hwg _ wf_RJ5_15
  have k_22 := hwg _ wf_RJ5_22
  have k_79 := hwg _ wf_RJ5_79
  intro bc bs cells slots hbc hbs S H locs ls a0 hp hW hE hl hL_a0 hK_a0
  unfold wp_J5_inflate_da8c8_0 at hp
  refine lv_aload_n hx hb dJ5_inflate_da8c8_0 rfl (lv_at hl 0 rfl) ?_
  refine w_callI (va_runU (As := []) (rest := []) F (c_J5_isLatin1_aae02 l hL_a0 hK_a0 hp H.size) (va_cwU (C := RJ4) (owner := RJ5) 0 hts (wg_U wm_RJ5_83 wsm_J5_isLatin1_aae02 wse_J5_isLatin1_aae02 wi5_J5_isLatin1_aae02 winit5 wco_J5_isLatin1_aae02) rfl rfl rfl rfl ⟨by decide, by decide, by decide +kernel⟩ ⟨Nat.le_of_ble_eq_true rfl, Nat.le_of_ble_eq_true rfl⟩) (w_preV hK hW hL_a0 hK_a0 (by decide) rfl) rfl rfl hl.1 rfl (lv_room (Nat.le_of_ble_eq_true rfl)) dJ5_inflate_da8c8_1 ⟨by show _ ≤ rC; exact Nat.le_trans (Nat.le_add_right _ _) hbc, by show _ ≤ rS; exact Nat.le_trans (Nat.le_add_right _ _) hbs⟩) hW (fun r_1 S_2 H locs hp hW => ?_)
  obtain ⟨hX_S_2, hp⟩ := hp
  refine w_same ?_
  have hE := hE.trans hX_S_2
  have hK_a0 : sK S_2 a0 = 1 := (hX_S_2.2 a0 hL_a0).1.trans hK_a0
  have hL_a0 : wM D S_2 a0 := hX_S_2.M hL_a0
  refine lv_if_ne (tgt := 8) hx hb dJ5_inflate_da8c8_4 (by decide) (fun c_3 => ?_) (fun c_3 => ?_)
  · replace hp := hp.1 c_3
    refine lv_aload_n hx hb dJ5_inflate_da8c8_8 rfl (lv_at hl 0 rfl) ?_
    obtain ⟨y_4, ey_4, hL_y_4, hK_y_4, hp⟩ := hp
    refine w_get (k := 1) (f := 0) (T := TJ4) (v := .ref y_4) F hK hW hL_a0 hK_a0 (by decide) rfl rfl (by decide) i_1 k_15 (by rw [show wv 1 0 S_2 a0 = va_rf (sR S_2 a0 0) from rfl, ey_4]; rfl) dJ5_inflate_da8c8_9 ?_
    refine w_len F hK hW hL_y_4 hK_y_4 (by decide) dJ5_inflate_da8c8_12 ?_
    obtain ⟨m_7, z_8, hm_7, hz_8, hp⟩ := hp
    refine w_callR (va_runS (As := [.int (Int32.ofNat (sN S_2 y_4))]) (rest := []) F (c_J2_newBytesFor_77867 l hp H.size) (va_cwS 1 hts (wg_S wm_RJ5_26 wy_J2_newBytesFor_77867) rfl rfl rfl (by decide +kernel) ⟨Nat.le_of_ble_eq_true rfl, Nat.le_of_ble_eq_true rfl⟩) (w_preS hK hW) rfl rfl hl.1 rfl (lv_room (Nat.le_of_ble_eq_true rfl)) dJ5_inflate_da8c8_13 ⟨by show _ + m_7 ≤ rC; omega, by show _ + z_8 ≤ rS; omega⟩) hW (fun r_5 S_6 H locs hp hW => ?_)
    obtain ⟨hX_S_6, hp⟩ := hp
    refine W.widen (k := _ + m_7) (n := _ + z_8) (Nat.le_refl _) (Nat.le_refl _) ?_
    replace hbc := w_spend hbc (show m_7 ≤ bc by omega)
    replace hbs := w_spend hbs (show z_8 ≤ bs by omega)
    have hE := hE.trans hX_S_6
    have hK_a0 : sK S_6 a0 = 1 := (hX_S_6.2 a0 hL_a0).1.trans hK_a0
    have hL_a0 : wM D S_6 a0 := hX_S_6.M hL_a0
    refine w_astore_n (lv' := [(1, va_rf r_5), (0, .ref a0)]) hx hb dJ5_inflate_da8c8_16 rfl hl (by decide) rfl (fun ls hl => ?_)
    refine lv_aload_n hx hb dJ5_inflate_da8c8_17 rfl (lv_at hl 1 rfl) ?_
    obtain ⟨y_9, ey_9, hL_y_9, hK_y_9, hp⟩ := hp
    refine w_get (k := 1) (f := 0) (T := TJ4) (v := .ref y_9) F hK hW hL_a0 hK_a0 (by decide) rfl rfl (by decide) i_1 k_15 (by rw [show wv 1 0 S_6 a0 = va_rf (sR S_6 a0 0) from rfl, ey_9]; rfl) dJ5_inflate_da8c8_18 ?_
    refine lv_iconst (v := 0) hx hb dJ5_inflate_da8c8_21 (by decide) ?_
    refine w_aload_n hx hb dJ5_inflate_da8c8_22 rfl (lv_at hl 0 rfl) ?_
    refine lv_iconst (v := 0) hx hb dJ5_inflate_da8c8_23 (by decide) ?_
    refine lv_aload_n hx hb dJ5_inflate_da8c8_24 rfl (lv_at hl 1 rfl) ?_
    refine w_get (k := 1) (f := 3) (T := TJ4) (v := .int (sI S_6 a0 3)) F hK hW hL_a0 hK_a0 (by decide) rfl rfl (by decide) i_1 k_79 rfl dJ5_inflate_da8c8_25 ?_
    obtain ⟨y_10, h_11, hL_y_10, hK_y_10, hp⟩ := hp
    revert hp; revert hl; revert hW; revert hE; subst h_11; intro hE hW hl hp
    refine w_callV (va_runS (As := [.ref y_9, .int (0 : Int32), .ref y_10, .int (0 : Int32), .int (sI S_6 a0 3)]) (rest := []) F (c_J1_inflate_0e8fd l hL_y_9 hK_y_9 hL_y_10 hK_y_10 hp H.size) (va_cwS 5 hts (wg_S wm_RJ5_125 wy_J1_inflate_0e8fd) rfl rfl rfl (by decide +kernel) ⟨Nat.le_of_ble_eq_true rfl, Nat.le_of_ble_eq_true rfl⟩) (w_preS hK hW) rfl rfl hl.1 rfl (lv_room (Nat.le_of_ble_eq_true rfl)) dJ5_inflate_da8c8_28 ⟨by show _ ≤ rC; exact Nat.le_trans (Nat.le_add_right _ _) hbc, by show _ ≤ rS; exact Nat.le_trans (Nat.le_add_right _ _) hbs⟩) hW (fun S_13 H locs hp hW => ?_)
    obtain ⟨hX_S_13, hp⟩ := hp
    refine w_same ?_
    have hE := hE.trans hX_S_13
    have hK_a0 : sK S_13 a0 = 1 := (hX_S_13.2 a0 hL_a0).1.trans hK_a0
    have hL_a0 : wM D S_13 a0 := hX_S_13.M hL_a0
    have hK_y_10 : sK S_13 y_10 = 20 := (hX_S_13.2 y_10 hL_y_10).1.trans hK_y_10
    have hL_y_10 : wM D S_13 y_10 := hX_S_13.M hL_y_10
    refine lv_aload_n hx hb dJ5_inflate_da8c8_31 rfl (lv_at hl 1 rfl) ?_
    refine lv_aload_n hx hb dJ5_inflate_da8c8_32 rfl (lv_at hl 0 rfl) ?_
    refine w_putR (k := 1) (f := 0) (T := TJ4) (g := (some y_10)) F hK hW hL_a0 hK_a0 (by decide) (by decide) rfl rfl (by decide) i_1 tyJ4 tyJ4_ok nmJ4 k_15 rfl rfl (ty := (.array .byte)) rfl (v_narrow _ _) (v_fitsA _ _) dJ5_inflate_da8c8_33 (fun H locs hW => ?_)
    obtain ⟨S_14, eS_14⟩ : ∃ z : wS, z = uR S_13 a0 0 (some y_10) := ⟨_, rfl⟩
    rw [← eS_14] at hW
    replace hp := hp S_14 eS_14
    have hX_S_14 : wX D S_13 S_14 := by rw [eS_14]; exact wX_uR
    have hE := hE.trans hX_S_14
    have hK_a0 : sK S_14 a0 = 1 := (hX_S_14.2 a0 hL_a0).1.trans hK_a0
    have hL_a0 : wM D S_14 a0 := hX_S_14.M hL_a0
    have hK_y_10 : sK S_14 y_10 = 20 := (hX_S_14.2 y_10 hL_y_10).1.trans hK_y_10
    have hL_y_10 : wM D S_14 y_10 := hX_S_14.M hL_y_10
    refine lv_aload_n hx hb dJ5_inflate_da8c8_36 rfl (lv_at hl 1 rfl) ?_
    refine lv_iconst (v := 1) hx hb dJ5_inflate_da8c8_37 (by decide) ?_
    obtain ⟨h_16, h_16f, hp⟩ := hp
    refine w_putI (k := 1) (f := 1) (T := TJ4) F hK hW hL_a0 hK_a0 (by decide) (by decide) rfl rfl (by decide) i_1 tyJ4 tyJ4_ok nmJ4 k_22 rfl rfl (ty := .byte) rfl h_16 h_16f dJ5_inflate_da8c8_38 (fun H locs hW => ?_)
    obtain ⟨S_15, eS_15⟩ : ∃ z : wS, z = uI S_14 a0 1 (1 : Int32) := ⟨_, rfl⟩
    rw [← eS_15] at hW
    replace hp := hp S_15 eS_15
    have hX_S_15 : wX D S_14 S_15 := by rw [eS_15]; exact wX_uI
    have hE := hE.trans hX_S_15
    have hK_a0 : sK S_15 a0 = 1 := (hX_S_15.2 a0 hL_a0).1.trans hK_a0
    have hL_a0 : wM D S_15 a0 := hX_S_15.M hL_a0
    have hK_y_10 : sK S_15 y_10 = 20 := (hX_S_15.2 y_10 hL_y_10).1.trans hK_y_10
    have hL_y_10 : wM D S_15 y_10 := hX_S_15.M hL_y_10
    refine W.widen (k := rC) (n := rS) (Nat.le_trans (Nat.le_add_right _ _) hbc) (Nat.le_trans (Nat.le_add_right _ _) hbs) ?_
    exact w_vret hx hb hr hlocks hW ⟨hE, hp⟩ dJ5_inflate_da8c8_41
  · replace hp := hp.2 c_3
    refine W.widen (k := rC) (n := rS) (Nat.le_trans (Nat.le_add_right _ _) hbc) (Nat.le_trans (Nat.le_add_right _ _) hbs) ?_
    exact w_vret hx hb hr hlocks hW ⟨hE, hp⟩ dJ5_inflate_da8c8_7
set_option maxHeartbeats 4000000 in
set_option maxRecDepth 100000 in
theorem c_J5_inflate_da8c8 (l : Launch) {rC rS : Nat} {D : wD} {cy : Nat → ClassId} {X : va_W} {S0 : wS} {post : wS → Prop} {a0 : Nat} (hL_a0 : wM D S0 a0) (hK_a0 : sK S0 a0 = 1) (hp : wp_J5_inflate_da8c8 D post rC rS S0 a0) : mV D cy X l yJ5_inflate_da8c8 wz_J5_inflate_da8c8 (r_J5_inflate_da8c8 rC rS) [.ref a0] S0 (fun S9 => wX D S0 S9 ∧ post S9) := by
  intro sz
  refine Met.ofW (cc := cJ5_inflate_da8c8) (maxL := 2) (ret := none) (by decide) rfl ?_
  intro p e s m args below meth c s₁ B hml hv
  obtain ⟨rfl, hsz, hP, hK, hD0, hRO⟩ := hv
  have hts := atoms_spec (ws := wz_J5_inflate_da8c8) B.pre
  have hown : s.vm.findClass RJ5 = some m.cls := findClass_of_methodNamed B.named
  subst hsz
  have hD := hD0.self (sz := s.heap.size)
  have F : CallFix p m c cJ5_inflate_da8c8 2 s _ wz_J5_inflate_da8c8 RJ5 := ⟨B.exec, B.bytes, hml, hown, hts⟩
  have hr := B.returns
  have hlocks := B.notSynchronized
  generalize hAe : va_A (wL cy X S0) s.heap.size = A at hD hK ⊢
  have hA : ∀ q, s.heap.size ≤ q → A q := fun q h => by rw [← hAe]; exact Or.inr h
  have hW : wO D cy X A s.heap S0 s.heap [] := ⟨hP, hD, va_S.rf, hA, hRO⟩
  have hl := lv_entry ([.ref a0]) (n := 2) (Nat.le_of_ble_eq_true rfl)
  rw [lg_entry_eq]
  generalize (lg_sl ([.ref a0]) ++ List.replicate (2 - (lg_sl ([.ref a0])).length) Slot.unset).toArray = ls at hl ⊢
  have hl : lv_has ls 2 [(0, .ref a0)] := hl
  unfold wp_J5_inflate_da8c8 at hp
  exact t_J5_inflate_da8c8_0 F hr hlocks hK (Nat.le_of_eq (Nat.zero_add _)) (Nat.le_of_eq (Nat.zero_add _)) hp hW wX.rf (lv_sub hl [0] rfl) hL_a0 hK_a0
def wp_J5_inflateIfNeededFor_a7421_21 (D : wD) (post : wS → Prop)  (bc bs : Nat) (S : wS) : Prop :=
post S
def wp_J5_inflateIfNeededFor_a7421_0 (D : wD) (post : wS → Prop)  (bc bs : Nat) (S : wS) (a0 : Nat) (a1 : Nat) : Prop :=
(((1 : Int32) = 0 → wp_J5_inflateIfNeededFor_a7421_21 D post bc bs S) ∧
 (¬ (1 : Int32) = 0 → wp_J0_coder_7d493 D (fun r_2 S_3 => 
(((sI S a0 1) = r_2 → wp_J5_inflateIfNeededFor_a7421_21 D post bc bs S_3) ∧
 (¬ (sI S a0 1) = r_2 → ∃ m_7 z_8 : Nat, m_7 ≤ bc ∧ z_8 ≤ bs ∧
wp_J5_inflate_da8c8 D (fun S_6 => 
wp_J5_inflateIfNeededFor_a7421_21 D post (bc - m_7) (bs - z_8) S_6) m_7 z_8 S_3 a0))) S a1))
abbrev r_J5_inflateIfNeededFor_a7421 (rC rS : Nat) : Room := { frames := 6, cells := rC, slots := rS, locals := 137 }
def wp_J5_inflateIfNeededFor_a7421 (D : wD) (post : wS → Prop) (bc bs : Nat) (S : wS) (a0 : Nat) (a1 : Nat) : Prop := wp_J5_inflateIfNeededFor_a7421_0 D post bc bs S a0 a1
set_option maxHeartbeats 4000000 in
set_option maxRecDepth 100000 in
theorem t_J5_inflateIfNeededFor_a7421_21 {p : Program} {l : Launch} {e : Env} {s : State} {m : MethodId} {args : Array Value} {below : List Frame} {meth : Method} {c : Code} {D : wD} {cy : Nat → ClassId} {X : va_W} {A : Nat → Prop} {S0 : wS} {rC rS : Nat} {post : wS → Prop} (F : CallFix p m c cJ5_inflateIfNeededFor_a7421 2 s args wz_J5_inflateIfNeededFor_a7421 RJ5) (hr : meth.sig.returnType = none) (hlocks : meth.locks = false) (hK : wK D cy A s) : ∀ {bc bs cells slots : Nat} (hbc : cells + bc ≤ rC) (hbs : slots + bs ≤ rS) {S : wS} {H : Heap} {locs : List Loc} {ls : Array Slot}, wp_J5_inflateIfNeededFor_a7421_21 D post bc bs S → wO D cy X A s.heap S H locs → wX D S0 S → lv_has ls 2 [] → W p l e (r_J5_inflateIfNeededFor_a7421 rC rS) s m args below meth c H locs cells slots (MQ below (va_Qv (fun S9 => wX D S0 S9 ∧ post S9) (wB D cy X A) A) args s rC rS A) (F0 m 21 ls []) := by
  obtain ⟨hx, hb, hml, hown, hts⟩ := id F
  have hwg : ∀ w ∈ WG, w.before args s = true := fun w h => hts w (List.mem_cons_of_mem _ h)
  intro bc bs cells slots hbc hbs S H locs ls hp hW hE hl
  unfold wp_J5_inflateIfNeededFor_a7421_21 at hp
  refine W.widen (k := rC) (n := rS) (Nat.le_trans (Nat.le_add_right _ _) hbc) (Nat.le_trans (Nat.le_add_right _ _) hbs) ?_
  exact w_vret hx hb hr hlocks hW ⟨hE, hp⟩ dJ5_inflateIfNeededFor_a7421_21
set_option maxHeartbeats 4000000 in
set_option maxRecDepth 100000 in
theorem t_J5_inflateIfNeededFor_a7421_0 {p : Program} {l : Launch} {e : Env} {s : State} {m : MethodId} {args : Array Value} {below : List Frame} {meth : Method} {c : Code} {D : wD} {cy : Nat → ClassId} {X : va_W} {A : Nat → Prop} {S0 : wS} {rC rS : Nat} {post : wS → Prop} (F : CallFix p m c cJ5_inflateIfNeededFor_a7421 2 s args wz_J5_inflateIfNeededFor_a7421 RJ5) (hr : meth.sig.returnType = none) (hlocks : meth.locks = false) (hK : wK D cy A s) : ∀ {bc bs cells slots : Nat} (hbc : cells + bc ≤ rC) (hbs : slots + bs ≤ rS) {S : wS} {H : Heap} {locs : List Loc} {ls : Array Slot} {a0 : Nat} {a1 : Nat}, wp_J5_inflateIfNeededFor_a7421_0 D post bc bs S a0 a1 → wO D cy X A s.heap S H locs → wX D S0 S → lv_has ls 2 [(0, .ref a0), (1, .ref a1)] → wM D S a0 → sK S a0 = 1 → wM D S a1 → sK S a1 = 0 → W p l e (r_J5_inflateIfNeededFor_a7421 rC rS) s m args below meth c H locs cells slots (MQ below (va_Qv (fun S9 => wX D S0 S9 ∧ post S9) (wB D cy X A) A) args s rC rS A) (F0 m 0 ls []) := by
  obtain ⟨hx, hb, hml, hown, hts⟩ := id F
  have hwg : ∀ w ∈ WG, w.before args s = true := fun w h => hts w (List.mem_cons_of_mem _ h)
  have i_1 : ∀ w ∈ u_ws RJ4 TJ4 4, w ∈ wz_J5_inflateIfNeededFor_a7421 := fun w h => List.mem_cons_of_mem _ (wu_1 w h)
  have k_22 := hwg _ wf_RJ5_22
  intro bc bs cells slots hbc hbs S H locs ls a0 a1 hp hW hE hl hL_a0 hK_a0 hL_a1 hK_a1
  unfold wp_J5_inflateIfNeededFor_a7421_0 at hp
  refine w_staI F hK hW (show ("java/lang/String", "COMPACT_STRINGS", "Z", (1 : Int32)) ∈ wSi by decide +kernel) (hwg _ wf_RJ5_18) dJ5_inflateIfNeededFor_a7421_0 ?_
  refine lv_if_eq (tgt := 21) hx hb dJ5_inflateIfNeededFor_a7421_3 (by decide) (fun c_1 => ?_) (fun c_1 => ?_)
  · replace hp := hp.1 c_1
    exact t_J5_inflateIfNeededFor_a7421_21 F hr hlocks hK hbc hbs hp hW hE (lv_sub hl [] rfl)
  · replace hp := hp.2 c_1
    refine lv_aload_n hx hb dJ5_inflateIfNeededFor_a7421_6 rfl (lv_at hl 0 rfl) ?_
    refine w_get (k := 1) (f := 1) (T := TJ4) (v := .int (sI S a0 1)) F hK hW hL_a0 hK_a0 (by decide) rfl rfl (by decide) i_1 k_22 rfl dJ5_inflateIfNeededFor_a7421_7 ?_
    refine lv_aload_n hx hb dJ5_inflateIfNeededFor_a7421_10 rfl (lv_at hl 1 rfl) ?_
    refine w_callI (va_runV (As := []) (rest := [.int (sI S a0 1)]) F (c_J0_coder_7d493 l hL_a1 hK_a1 hp H.size) (cwV (C := RJ0) 0 hts (wg_V wm_RJ5_40 wy_J0_coder_7d493) rfl rfl rfl (by decide +kernel) ⟨Nat.le_of_ble_eq_true rfl, Nat.le_of_ble_eq_true rfl⟩) (w_preV hK hW hL_a1 hK_a1 (by decide) rfl) rfl rfl hl.1 rfl (lv_room (Nat.le_of_ble_eq_true rfl)) dJ5_inflateIfNeededFor_a7421_11 ⟨by show _ ≤ rC; exact Nat.le_trans (Nat.le_add_right _ _) hbc, by show _ ≤ rS; exact Nat.le_trans (Nat.le_add_right _ _) hbs⟩) hW (fun r_2 S_3 H locs hp hW => ?_)
    obtain ⟨hX_S_3, hp⟩ := hp
    refine w_same ?_
    have hE := hE.trans hX_S_3
    have hK_a0 : sK S_3 a0 = 1 := (hX_S_3.2 a0 hL_a0).1.trans hK_a0
    have hL_a0 : wM D S_3 a0 := hX_S_3.M hL_a0
    have hK_a1 : sK S_3 a1 = 0 := (hX_S_3.2 a1 hL_a1).1.trans hK_a1
    have hL_a1 : wM D S_3 a1 := hX_S_3.M hL_a1
    refine lv_icmp_eq (tgt := 21) hx hb dJ5_inflateIfNeededFor_a7421_14 (by decide) (fun c_4 => ?_) (fun c_4 => ?_)
    · replace hp := hp.1 c_4
      exact t_J5_inflateIfNeededFor_a7421_21 F hr hlocks hK hbc hbs hp hW hE (lv_sub hl [] rfl)
    · replace hp := hp.2 c_4
      refine lv_aload_n hx hb dJ5_inflateIfNeededFor_a7421_17 rfl (lv_at hl 0 rfl) ?_
      obtain ⟨m_7, z_8, hm_7, hz_8, hp⟩ := hp
      refine w_callV (va_runU (As := []) (rest := []) F (c_J5_inflate_da8c8 l hL_a0 hK_a0 hp H.size) (va_cwU (C := RJ4) (owner := RJ5) 0 hts (wg_U wm_RJ5_195 wsm_J5_inflate_da8c8 wse_J5_inflate_da8c8 wi5_J5_inflate_da8c8 winit5 wco_J5_inflate_da8c8) rfl rfl rfl rfl ⟨by decide, by decide, by decide +kernel⟩ ⟨Nat.le_of_ble_eq_true rfl, Nat.le_of_ble_eq_true rfl⟩) (w_preV hK hW hL_a0 hK_a0 (by decide) rfl) rfl rfl hl.1 rfl (lv_room (Nat.le_of_ble_eq_true rfl)) dJ5_inflateIfNeededFor_a7421_18 ⟨by show _ + m_7 ≤ rC; omega, by show _ + z_8 ≤ rS; omega⟩) hW (fun S_6 H locs hp hW => ?_)
      obtain ⟨hX_S_6, hp⟩ := hp
      refine W.widen (k := _ + m_7) (n := _ + z_8) (Nat.le_refl _) (Nat.le_refl _) ?_
      replace hbc := w_spend hbc (show m_7 ≤ bc by omega)
      replace hbs := w_spend hbs (show z_8 ≤ bs by omega)
      have hE := hE.trans hX_S_6
      have hK_a0 : sK S_6 a0 = 1 := (hX_S_6.2 a0 hL_a0).1.trans hK_a0
      have hL_a0 : wM D S_6 a0 := hX_S_6.M hL_a0
      have hK_a1 : sK S_6 a1 = 0 := (hX_S_6.2 a1 hL_a1).1.trans hK_a1
      have hL_a1 : wM D S_6 a1 := hX_S_6.M hL_a1
      exact t_J5_inflateIfNeededFor_a7421_21 F hr hlocks hK hbc hbs hp hW hE (lv_sub hl [] rfl)
set_option maxHeartbeats 4000000 in
set_option maxRecDepth 100000 in
theorem c_J5_inflateIfNeededFor_a7421 (l : Launch) {rC rS : Nat} {D : wD} {cy : Nat → ClassId} {X : va_W} {S0 : wS} {post : wS → Prop} {a0 : Nat} {a1 : Nat} (hL_a0 : wM D S0 a0) (hK_a0 : sK S0 a0 = 1) (hL_a1 : wM D S0 a1) (hK_a1 : sK S0 a1 = 0) (hp : wp_J5_inflateIfNeededFor_a7421 D post rC rS S0 a0 a1) : mV D cy X l yJ5_inflateIfNeededFor_a7421 wz_J5_inflateIfNeededFor_a7421 (r_J5_inflateIfNeededFor_a7421 rC rS) [.ref a0, .ref a1] S0 (fun S9 => wX D S0 S9 ∧ post S9) := by
  intro sz
  refine Met.ofW (cc := cJ5_inflateIfNeededFor_a7421) (maxL := 2) (ret := none) (by decide) rfl ?_
  intro p e s m args below meth c s₁ B hml hv
  obtain ⟨rfl, hsz, hP, hK, hD0, hRO⟩ := hv
  have hts := atoms_spec (ws := wz_J5_inflateIfNeededFor_a7421) B.pre
  have hown : s.vm.findClass RJ5 = some m.cls := findClass_of_methodNamed B.named
  subst hsz
  have hD := hD0.self (sz := s.heap.size)
  have F : CallFix p m c cJ5_inflateIfNeededFor_a7421 2 s _ wz_J5_inflateIfNeededFor_a7421 RJ5 := ⟨B.exec, B.bytes, hml, hown, hts⟩
  have hr := B.returns
  have hlocks := B.notSynchronized
  generalize hAe : va_A (wL cy X S0) s.heap.size = A at hD hK ⊢
  have hA : ∀ q, s.heap.size ≤ q → A q := fun q h => by rw [← hAe]; exact Or.inr h
  have hW : wO D cy X A s.heap S0 s.heap [] := ⟨hP, hD, va_S.rf, hA, hRO⟩
  have hl := lv_entry ([.ref a0, .ref a1]) (n := 2) (Nat.le_of_ble_eq_true rfl)
  rw [lg_entry_eq]
  generalize (lg_sl ([.ref a0, .ref a1]) ++ List.replicate (2 - (lg_sl ([.ref a0, .ref a1])).length) Slot.unset).toArray = ls at hl ⊢
  have hl : lv_has ls 2 [(0, .ref a0), (1, .ref a1)] := hl
  unfold wp_J5_inflateIfNeededFor_a7421 at hp
  exact t_J5_inflateIfNeededFor_a7421_0 F hr hlocks hK (Nat.le_of_eq (Nat.zero_add _)) (Nat.le_of_eq (Nat.zero_add _)) hp hW wX.rf (lv_sub hl [0, 1] rfl) hL_a0 hK_a0 hL_a1 hK_a1
def wp_J5_putStringAt_47b60_0 (D : wD) (post : wS → Prop)  (bc bs : Nat) (S : wS) (a0 : Nat) (x1 : Int32) (a2 : Nat) : Prop :=
∃ m_3 z_4 : Nat, m_3 ≤ bc ∧ z_4 ≤ bs ∧
wp_J5_inflateIfNeededFor_a7421 D (fun S_2 => 
∃ y_5 : Nat, sR S_2 a0 0 = some y_5 ∧ wM D S_2 y_5 ∧ sK S_2 y_5 = 20 ∧
wp_J0_getBytes_840e7 D (fun S_7 => 
post S_7) S_2 a2 y_5 x1 (sI S_2 a0 1)) m_3 z_4 S a0 a2
abbrev r_J5_putStringAt_47b60 (rC rS : Nat) : Room := { frames := 7, cells := rC, slots := rS, locals := 158 }
def wp_J5_putStringAt_47b60 (D : wD) (post : wS → Prop) (bc bs : Nat) (S : wS) (a0 : Nat) (x1 : Int32) (a2 : Nat) : Prop := wp_J5_putStringAt_47b60_0 D post bc bs S a0 x1 a2
set_option maxHeartbeats 4000000 in
set_option maxRecDepth 100000 in
theorem t_J5_putStringAt_47b60_0 {p : Program} {l : Launch} {e : Env} {s : State} {m : MethodId} {args : Array Value} {below : List Frame} {meth : Method} {c : Code} {D : wD} {cy : Nat → ClassId} {X : va_W} {A : Nat → Prop} {S0 : wS} {rC rS : Nat} {post : wS → Prop} (F : CallFix p m c cJ5_putStringAt_47b60 3 s args wz_J5_putStringAt_47b60 RJ5) (hr : meth.sig.returnType = none) (hlocks : meth.locks = false) (hK : wK D cy A s) : ∀ {bc bs cells slots : Nat} (hbc : cells + bc ≤ rC) (hbs : slots + bs ≤ rS) {S : wS} {H : Heap} {locs : List Loc} {ls : Array Slot} {a0 : Nat} {x1 : Int32} {a2 : Nat}, wp_J5_putStringAt_47b60_0 D post bc bs S a0 x1 a2 → wO D cy X A s.heap S H locs → wX D S0 S → lv_has ls 3 [(0, .ref a0), (1, .int x1), (2, .ref a2)] → wM D S a0 → sK S a0 = 1 → wM D S a2 → sK S a2 = 0 → W p l e (r_J5_putStringAt_47b60 rC rS) s m args below meth c H locs cells slots (MQ below (va_Qv (fun S9 => wX D S0 S9 ∧ post S9) (wB D cy X A) A) args s rC rS A) (F0 m 0 ls []) := by
  obtain ⟨hx, hb, hml, hown, hts⟩ := id F
  have hwg : ∀ w ∈ WG, w.before args s = true := fun w h => hts w (List.mem_cons_of_mem _ h)
  have i_1 : ∀ w ∈ u_ws RJ4 TJ4 4, w ∈ wz_J5_putStringAt_47b60 := fun w h => List.mem_cons_of_mem _ (wu_1 w h)
  have k_15 := hwg _ wf_RJ5_15
  have k_22 := hwg _ wf_RJ5_22
  intro bc bs cells slots hbc hbs S H locs ls a0 x1 a2 hp hW hE hl hL_a0 hK_a0 hL_a2 hK_a2
  unfold wp_J5_putStringAt_47b60_0 at hp
  refine lv_aload_n hx hb dJ5_putStringAt_47b60_0 rfl (lv_at hl 0 rfl) ?_
  refine lv_aload_n hx hb dJ5_putStringAt_47b60_1 rfl (lv_at hl 2 rfl) ?_
  obtain ⟨m_3, z_4, hm_3, hz_4, hp⟩ := hp
  refine w_callV (va_runU (As := [.ref a2]) (rest := []) F (c_J5_inflateIfNeededFor_a7421 l hL_a0 hK_a0 hL_a2 hK_a2 hp H.size) (va_cwU (C := RJ4) (owner := RJ5) 1 hts (wg_U wm_RJ5_397 wsm_J5_inflateIfNeededFor_a7421 wse_J5_inflateIfNeededFor_a7421 wi5_J5_inflateIfNeededFor_a7421 winit5 wco_J5_inflateIfNeededFor_a7421) rfl rfl rfl rfl ⟨by decide, by decide, by decide +kernel⟩ ⟨Nat.le_of_ble_eq_true rfl, Nat.le_of_ble_eq_true rfl⟩) (w_preV hK hW hL_a0 hK_a0 (by decide) rfl) rfl rfl hl.1 rfl (lv_room (Nat.le_of_ble_eq_true rfl)) dJ5_putStringAt_47b60_2 ⟨by show _ + m_3 ≤ rC; omega, by show _ + z_4 ≤ rS; omega⟩) hW (fun S_2 H locs hp hW => ?_)
  obtain ⟨hX_S_2, hp⟩ := hp
  refine W.widen (k := _ + m_3) (n := _ + z_4) (Nat.le_refl _) (Nat.le_refl _) ?_
  replace hbc := w_spend hbc (show m_3 ≤ bc by omega)
  replace hbs := w_spend hbs (show z_4 ≤ bs by omega)
  have hE := hE.trans hX_S_2
  have hK_a0 : sK S_2 a0 = 1 := (hX_S_2.2 a0 hL_a0).1.trans hK_a0
  have hL_a0 : wM D S_2 a0 := hX_S_2.M hL_a0
  have hK_a2 : sK S_2 a2 = 0 := (hX_S_2.2 a2 hL_a2).1.trans hK_a2
  have hL_a2 : wM D S_2 a2 := hX_S_2.M hL_a2
  refine lv_aload_n hx hb dJ5_putStringAt_47b60_5 rfl (lv_at hl 2 rfl) ?_
  refine lv_aload_n hx hb dJ5_putStringAt_47b60_6 rfl (lv_at hl 0 rfl) ?_
  obtain ⟨y_5, ey_5, hL_y_5, hK_y_5, hp⟩ := hp
  refine w_get (k := 1) (f := 0) (T := TJ4) (v := .ref y_5) F hK hW hL_a0 hK_a0 (by decide) rfl rfl (by decide) i_1 k_15 (by rw [show wv 1 0 S_2 a0 = va_rf (sR S_2 a0 0) from rfl, ey_5]; rfl) dJ5_putStringAt_47b60_7 ?_
  refine lv_iload_n hx hb dJ5_putStringAt_47b60_10 rfl (lv_at hl 1 rfl) ?_
  refine lv_aload_n hx hb dJ5_putStringAt_47b60_11 rfl (lv_at hl 0 rfl) ?_
  refine w_get (k := 1) (f := 1) (T := TJ4) (v := .int (sI S_2 a0 1)) F hK hW hL_a0 hK_a0 (by decide) rfl rfl (by decide) i_1 k_22 rfl dJ5_putStringAt_47b60_12 ?_
  refine w_callV (va_runV (As := [.ref y_5, .int x1, .int (sI S_2 a0 1)]) (rest := []) F (c_J0_getBytes_840e7 l hL_a2 hK_a2 hL_y_5 hK_y_5 hp H.size) (cwV (C := RJ0) 3 hts (wg_V wm_RJ5_399 wy_J0_getBytes_840e7) rfl rfl rfl (by decide +kernel) ⟨Nat.le_of_ble_eq_true rfl, Nat.le_of_ble_eq_true rfl⟩) (w_preV hK hW hL_a2 hK_a2 (by decide) rfl) rfl rfl hl.1 rfl (lv_room (Nat.le_of_ble_eq_true rfl)) dJ5_putStringAt_47b60_15 ⟨by show _ ≤ rC; exact Nat.le_trans (Nat.le_add_right _ _) hbc, by show _ ≤ rS; exact Nat.le_trans (Nat.le_add_right _ _) hbs⟩) hW (fun S_7 H locs hp hW => ?_)
  obtain ⟨hX_S_7, hp⟩ := hp
  refine w_same ?_
  have hE := hE.trans hX_S_7
  have hK_a0 : sK S_7 a0 = 1 := (hX_S_7.2 a0 hL_a0).1.trans hK_a0
  have hL_a0 : wM D S_7 a0 := hX_S_7.M hL_a0
  have hK_a2 : sK S_7 a2 = 0 := (hX_S_7.2 a2 hL_a2).1.trans hK_a2
  have hL_a2 : wM D S_7 a2 := hX_S_7.M hL_a2
  refine W.widen (k := rC) (n := rS) (Nat.le_trans (Nat.le_add_right _ _) hbc) (Nat.le_trans (Nat.le_add_right _ _) hbs) ?_
  exact w_vret hx hb hr hlocks hW ⟨hE, hp⟩ dJ5_putStringAt_47b60_18
set_option maxHeartbeats 4000000 in
set_option maxRecDepth 100000 in
theorem c_J5_putStringAt_47b60 (l : Launch) {rC rS : Nat} {D : wD} {cy : Nat → ClassId} {X : va_W} {S0 : wS} {post : wS → Prop} {a0 : Nat} {x1 : Int32} {a2 : Nat} (hL_a0 : wM D S0 a0) (hK_a0 : sK S0 a0 = 1) (hL_a2 : wM D S0 a2) (hK_a2 : sK S0 a2 = 0) (hp : wp_J5_putStringAt_47b60 D post rC rS S0 a0 x1 a2) : mV D cy X l yJ5_putStringAt_47b60 wz_J5_putStringAt_47b60 (r_J5_putStringAt_47b60 rC rS) [.ref a0, .int x1, .ref a2] S0 (fun S9 => wX D S0 S9 ∧ post S9) := by
  intro sz
  refine Met.ofW (cc := cJ5_putStringAt_47b60) (maxL := 3) (ret := none) (by decide) rfl ?_
  intro p e s m args below meth c s₁ B hml hv
  obtain ⟨rfl, hsz, hP, hK, hD0, hRO⟩ := hv
  have hts := atoms_spec (ws := wz_J5_putStringAt_47b60) B.pre
  have hown : s.vm.findClass RJ5 = some m.cls := findClass_of_methodNamed B.named
  subst hsz
  have hD := hD0.self (sz := s.heap.size)
  have F : CallFix p m c cJ5_putStringAt_47b60 3 s _ wz_J5_putStringAt_47b60 RJ5 := ⟨B.exec, B.bytes, hml, hown, hts⟩
  have hr := B.returns
  have hlocks := B.notSynchronized
  generalize hAe : va_A (wL cy X S0) s.heap.size = A at hD hK ⊢
  have hA : ∀ q, s.heap.size ≤ q → A q := fun q h => by rw [← hAe]; exact Or.inr h
  have hW : wO D cy X A s.heap S0 s.heap [] := ⟨hP, hD, va_S.rf, hA, hRO⟩
  have hl := lv_entry ([.ref a0, .int x1, .ref a2]) (n := 3) (Nat.le_of_ble_eq_true rfl)
  rw [lg_entry_eq]
  generalize (lg_sl ([.ref a0, .int x1, .ref a2]) ++ List.replicate (3 - (lg_sl ([.ref a0, .int x1, .ref a2])).length) Slot.unset).toArray = ls at hl ⊢
  have hl : lv_has ls 3 [(0, .ref a0), (1, .int x1), (2, .ref a2)] := hl
  unfold wp_J5_putStringAt_47b60 at hp
  exact t_J5_putStringAt_47b60_0 F hr hlocks hK (Nat.le_of_eq (Nat.zero_add _)) (Nat.le_of_eq (Nat.zero_add _)) hp hW wX.rf (lv_sub hl [0, 1, 2] rfl) hL_a0 hK_a0 hL_a2 hK_a2
def wp_J5_append_cf1ce_0 (D : wD) (post : Option Nat → wS → Prop)  (bc bs : Nat) (S : wS) (a0 : Nat) (a1 : Nat) : Prop :=
wp_J0_length_8abf5 D (fun r_3 S_4 => 
∃ m_7 z_8 : Nat, m_7 ≤ bc ∧ z_8 ≤ bs ∧
wp_J5_ensureCapacityInternal_d00df D (fun S_6 => 
∃ m_11 z_12 : Nat, m_11 ≤ (bc - m_7) ∧ z_12 ≤ (bs - z_8) ∧
wp_J5_putStringAt_47b60 D (fun S_10 => 
∀ S_13 : wS, S_13 = uI S_10 a0 3 ((sI S_10 a0 3) + r_3) →
post (some a0) S_13) m_11 z_12 S_6 a0 (sI S_6 a0 3) a1) m_7 z_8 S_4 a0 ((sI S_4 a0 3) + r_3)) S a1
abbrev r_J5_append_cf1ce (rC rS : Nat) : Room := { frames := 8, cells := rC, slots := rS, locals := 180 }
def wp_J5_append_cf1ce (D : wD) (post : Option Nat → wS → Prop) (bc bs : Nat) (S : wS) (a0 : Nat) (a1 : Nat) : Prop := wp_J5_append_cf1ce_0 D post bc bs S a0 a1
set_option maxHeartbeats 4000000 in
set_option maxRecDepth 100000 in
theorem t_J5_append_cf1ce_0 {p : Program} {l : Launch} {e : Env} {s : State} {m : MethodId} {args : Array Value} {below : List Frame} {meth : Method} {c : Code} {D : wD} {cy : Nat → ClassId} {X : va_W} {A : Nat → Prop} {S0 : wS} {rC rS : Nat} {post : Option Nat → wS → Prop} (F : CallFix p m c cJ5_append_cf1ce 3 s args wz_J5_append_cf1ce RJ5) (hr : meth.sig.returnType = (some (.object "java/lang/AbstractStringBuilder"))) (hlocks : meth.locks = false) (hK : wK D cy A s) : ∀ {bc bs cells slots : Nat} (hbc : cells + bc ≤ rC) (hbs : slots + bs ≤ rS) {S : wS} {H : Heap} {locs : List Loc} {ls : Array Slot} {a0 : Nat} {a1 : Nat}, wp_J5_append_cf1ce_0 D post bc bs S a0 a1 → wO D cy X A s.heap S H locs → wX D S0 S → lv_has ls 3 [(0, .ref a0), (1, .ref a1)] → wM D S a0 → sK S a0 = 1 → wM D S a1 → sK S a1 = 0 → W p l e (r_J5_append_cf1ce rC rS) s m args below meth c H locs cells slots (MQ below (va_Qq (fun r S9 => wX D S0 S9 ∧ post r S9) (wB D cy X A) A) args s rC rS A) (F0 m 0 ls []) := by
  obtain ⟨hx, hb, hml, hown, hts⟩ := id F
  have hwg : ∀ w ∈ WG, w.before args s = true := fun w h => hts w (List.mem_cons_of_mem _ h)
  have i_1 : ∀ w ∈ u_ws RJ4 TJ4 4, w ∈ wz_J5_append_cf1ce := fun w h => List.mem_cons_of_mem _ (wu_1 w h)
  have k_79 := hwg _ wf_RJ5_79
  intro bc bs cells slots hbc hbs S H locs ls a0 a1 hp hW hE hl hL_a0 hK_a0 hL_a1 hK_a1
  unfold wp_J5_append_cf1ce_0 at hp
  refine lv_aload_n hx hb dJ5_append_cf1ce_0 rfl (lv_at hl 1 rfl) ?_
  refine w_ifnonnull (g := some a1) (tgt := 9) hx hb dJ5_append_cf1ce_1 (by decide) (fun e => nomatch e) (fun y_2 h_1 => ?_)
  refine lv_aload_n hx hb dJ5_append_cf1ce_9 rfl (lv_at hl 1 rfl) ?_
  refine w_callI (va_runV (As := []) (rest := []) F (c_J0_length_8abf5 l hL_a1 hK_a1 hp H.size) (cwV (C := RJ0) 0 hts (wg_V wm_RJ5_32 wy_J0_length_8abf5) rfl rfl rfl (by decide +kernel) ⟨Nat.le_of_ble_eq_true rfl, Nat.le_of_ble_eq_true rfl⟩) (w_preV hK hW hL_a1 hK_a1 (by decide) rfl) rfl rfl hl.1 rfl (lv_room (Nat.le_of_ble_eq_true rfl)) dJ5_append_cf1ce_10 ⟨by show _ ≤ rC; exact Nat.le_trans (Nat.le_add_right _ _) hbc, by show _ ≤ rS; exact Nat.le_trans (Nat.le_add_right _ _) hbs⟩) hW (fun r_3 S_4 H locs hp hW => ?_)
  obtain ⟨hX_S_4, hp⟩ := hp
  refine w_same ?_
  have hE := hE.trans hX_S_4
  have hK_a0 : sK S_4 a0 = 1 := (hX_S_4.2 a0 hL_a0).1.trans hK_a0
  have hL_a0 : wM D S_4 a0 := hX_S_4.M hL_a0
  have hK_a1 : sK S_4 a1 = 0 := (hX_S_4.2 a1 hL_a1).1.trans hK_a1
  have hL_a1 : wM D S_4 a1 := hX_S_4.M hL_a1
  refine lv_istore_n (lv' := [(2, .int r_3), (0, .ref a0), (1, .ref a1)]) hx hb dJ5_append_cf1ce_13 rfl hl (by decide) rfl (fun ls hl => ?_)
  refine lv_aload_n hx hb dJ5_append_cf1ce_14 rfl (lv_at hl 1 rfl) ?_
  refine lv_aload_n hx hb dJ5_append_cf1ce_15 rfl (lv_at hl 1 rfl) ?_
  refine w_get (k := 1) (f := 3) (T := TJ4) (v := .int (sI S_4 a0 3)) F hK hW hL_a0 hK_a0 (by decide) rfl rfl (by decide) i_1 k_79 rfl dJ5_append_cf1ce_16 ?_
  refine lv_iload_n hx hb dJ5_append_cf1ce_19 rfl (lv_at hl 0 rfl) ?_
  refine lv_iadd hx hb dJ5_append_cf1ce_20 ?_
  obtain ⟨m_7, z_8, hm_7, hz_8, hp⟩ := hp
  refine w_callV (va_runU (As := [.int ((sI S_4 a0 3) + r_3)]) (rest := []) F (c_J5_ensureCapacityInternal_d00df l hL_a0 hK_a0 hp H.size) (va_cwU (C := RJ4) (owner := RJ5) 1 hts (wg_U wm_RJ5_100 wsm_J5_ensureCapacityInternal_d00df wse_J5_ensureCapacityInternal_d00df wi5_J5_ensureCapacityInternal_d00df winit5 wco_J5_ensureCapacityInternal_d00df) rfl rfl rfl rfl ⟨by decide, by decide, by decide +kernel⟩ ⟨Nat.le_of_ble_eq_true rfl, Nat.le_of_ble_eq_true rfl⟩) (w_preV hK hW hL_a0 hK_a0 (by decide) rfl) rfl rfl hl.1 rfl (lv_room (Nat.le_of_ble_eq_true rfl)) dJ5_append_cf1ce_21 ⟨by show _ + m_7 ≤ rC; omega, by show _ + z_8 ≤ rS; omega⟩) hW (fun S_6 H locs hp hW => ?_)
  obtain ⟨hX_S_6, hp⟩ := hp
  refine W.widen (k := _ + m_7) (n := _ + z_8) (Nat.le_refl _) (Nat.le_refl _) ?_
  replace hbc := w_spend hbc (show m_7 ≤ bc by omega)
  replace hbs := w_spend hbs (show z_8 ≤ bs by omega)
  have hE := hE.trans hX_S_6
  have hK_a0 : sK S_6 a0 = 1 := (hX_S_6.2 a0 hL_a0).1.trans hK_a0
  have hL_a0 : wM D S_6 a0 := hX_S_6.M hL_a0
  have hK_a1 : sK S_6 a1 = 0 := (hX_S_6.2 a1 hL_a1).1.trans hK_a1
  have hL_a1 : wM D S_6 a1 := hX_S_6.M hL_a1
  refine lv_aload_n hx hb dJ5_append_cf1ce_24 rfl (lv_at hl 1 rfl) ?_
  refine lv_aload_n hx hb dJ5_append_cf1ce_25 rfl (lv_at hl 1 rfl) ?_
  refine w_get (k := 1) (f := 3) (T := TJ4) (v := .int (sI S_6 a0 3)) F hK hW hL_a0 hK_a0 (by decide) rfl rfl (by decide) i_1 k_79 rfl dJ5_append_cf1ce_26 ?_
  refine lv_aload_n hx hb dJ5_append_cf1ce_29 rfl (lv_at hl 2 rfl) ?_
  obtain ⟨m_11, z_12, hm_11, hz_12, hp⟩ := hp
  refine w_callV (va_runU (As := [.int (sI S_6 a0 3), .ref a1]) (rest := []) F (c_J5_putStringAt_47b60 l hL_a0 hK_a0 hL_a1 hK_a1 hp H.size) (va_cwU (C := RJ4) (owner := RJ5) 2 hts (wg_U wm_RJ5_208 wsm_J5_putStringAt_47b60 wse_J5_putStringAt_47b60 wi5_J5_putStringAt_47b60 winit5 wco_J5_putStringAt_47b60) rfl rfl rfl rfl ⟨by decide, by decide, by decide +kernel⟩ ⟨Nat.le_of_ble_eq_true rfl, Nat.le_of_ble_eq_true rfl⟩) (w_preV hK hW hL_a0 hK_a0 (by decide) rfl) rfl rfl hl.1 rfl (lv_room (Nat.le_of_ble_eq_true rfl)) dJ5_append_cf1ce_30 ⟨by show _ + m_11 ≤ rC; omega, by show _ + z_12 ≤ rS; omega⟩) hW (fun S_10 H locs hp hW => ?_)
  obtain ⟨hX_S_10, hp⟩ := hp
  refine W.widen (k := _ + m_11) (n := _ + z_12) (Nat.le_refl _) (Nat.le_refl _) ?_
  replace hbc := w_spend hbc (show m_11 ≤ (bc - m_7) by omega)
  replace hbs := w_spend hbs (show z_12 ≤ (bs - z_8) by omega)
  have hE := hE.trans hX_S_10
  have hK_a0 : sK S_10 a0 = 1 := (hX_S_10.2 a0 hL_a0).1.trans hK_a0
  have hL_a0 : wM D S_10 a0 := hX_S_10.M hL_a0
  have hK_a1 : sK S_10 a1 = 0 := (hX_S_10.2 a1 hL_a1).1.trans hK_a1
  have hL_a1 : wM D S_10 a1 := hX_S_10.M hL_a1
  refine lv_aload_n hx hb dJ5_append_cf1ce_33 rfl (lv_at hl 1 rfl) ?_
  refine lv_dup hx hb dJ5_append_cf1ce_34 rfl ?_
  refine w_get (k := 1) (f := 3) (T := TJ4) (v := .int (sI S_10 a0 3)) F hK hW hL_a0 hK_a0 (by decide) rfl rfl (by decide) i_1 k_79 rfl dJ5_append_cf1ce_35 ?_
  refine lv_iload_n hx hb dJ5_append_cf1ce_38 rfl (lv_at hl 0 rfl) ?_
  refine lv_iadd hx hb dJ5_append_cf1ce_39 ?_
  refine w_putI (k := 1) (f := 3) (T := TJ4) F hK hW hL_a0 hK_a0 (by decide) (by decide) rfl rfl (by decide) i_1 tyJ4 tyJ4_ok nmJ4 k_79 rfl rfl (ty := .int) rfl rfl rfl dJ5_append_cf1ce_40 (fun H locs hW => ?_)
  obtain ⟨S_13, eS_13⟩ : ∃ z : wS, z = uI S_10 a0 3 ((sI S_10 a0 3) + r_3) := ⟨_, rfl⟩
  rw [← eS_13] at hW
  replace hp := hp S_13 eS_13
  have hX_S_13 : wX D S_10 S_13 := by rw [eS_13]; exact wX_uI
  have hE := hE.trans hX_S_13
  have hK_a0 : sK S_13 a0 = 1 := (hX_S_13.2 a0 hL_a0).1.trans hK_a0
  have hL_a0 : wM D S_13 a0 := hX_S_13.M hL_a0
  have hK_a1 : sK S_13 a1 = 0 := (hX_S_13.2 a1 hL_a1).1.trans hK_a1
  have hL_a1 : wM D S_13 a1 := hX_S_13.M hL_a1
  refine lv_aload_n hx hb dJ5_append_cf1ce_43 rfl (lv_at hl 1 rfl) ?_
  refine W.widen (k := rC) (n := rS) (Nat.le_trans (Nat.le_add_right _ _) hbc) (Nat.le_trans (Nat.le_add_right _ _) hbs) ?_
  exact w_aret (g := (some a0)) hx hb hr hlocks hW ⟨hE, hp⟩ dJ5_append_cf1ce_44
set_option maxHeartbeats 4000000 in
set_option maxRecDepth 100000 in
theorem c_J5_append_cf1ce (l : Launch) {rC rS : Nat} {D : wD} {cy : Nat → ClassId} {X : va_W} {S0 : wS} {post : Option Nat → wS → Prop} {a0 : Nat} {a1 : Nat} (hL_a0 : wM D S0 a0) (hK_a0 : sK S0 a0 = 1) (hL_a1 : wM D S0 a1) (hK_a1 : sK S0 a1 = 0) (hp : wp_J5_append_cf1ce D post rC rS S0 a0 a1) : mR D cy X l yJ5_append_cf1ce wz_J5_append_cf1ce (r_J5_append_cf1ce rC rS) [.ref a0, .ref a1] S0 (fun r S9 => wX D S0 S9 ∧ post r S9) := by
  intro sz
  refine Met.ofW (cc := cJ5_append_cf1ce) (maxL := 3) (ret := (some (.object "java/lang/AbstractStringBuilder"))) (by decide) rfl ?_
  intro p e s m args below meth c s₁ B hml hv
  obtain ⟨rfl, hsz, hP, hK, hD0, hRO⟩ := hv
  have hts := atoms_spec (ws := wz_J5_append_cf1ce) B.pre
  have hown : s.vm.findClass RJ5 = some m.cls := findClass_of_methodNamed B.named
  subst hsz
  have hD := hD0.self (sz := s.heap.size)
  have F : CallFix p m c cJ5_append_cf1ce 3 s _ wz_J5_append_cf1ce RJ5 := ⟨B.exec, B.bytes, hml, hown, hts⟩
  have hr := B.returns
  have hlocks := B.notSynchronized
  generalize hAe : va_A (wL cy X S0) s.heap.size = A at hD hK ⊢
  have hA : ∀ q, s.heap.size ≤ q → A q := fun q h => by rw [← hAe]; exact Or.inr h
  have hW : wO D cy X A s.heap S0 s.heap [] := ⟨hP, hD, va_S.rf, hA, hRO⟩
  have hl := lv_entry ([.ref a0, .ref a1]) (n := 3) (Nat.le_of_ble_eq_true rfl)
  rw [lg_entry_eq]
  generalize (lg_sl ([.ref a0, .ref a1]) ++ List.replicate (3 - (lg_sl ([.ref a0, .ref a1])).length) Slot.unset).toArray = ls at hl ⊢
  have hl : lv_has ls 3 [(0, .ref a0), (1, .ref a1)] := hl
  unfold wp_J5_append_cf1ce at hp
  exact t_J5_append_cf1ce_0 F hr hlocks hK (Nat.le_of_eq (Nat.zero_add _)) (Nat.le_of_eq (Nat.zero_add _)) hp hW wX.rf (lv_sub hl [0, 1] rfl) hL_a0 hK_a0 hL_a1 hK_a1
def wp_J4_append_15ec4_0 (D : wD) (post : Option Nat → wS → Prop)  (bc bs : Nat) (S : wS) (a0 : Nat) (a1 : Nat) : Prop :=
∃ m_3 z_4 : Nat, m_3 ≤ bc ∧ z_4 ≤ bs ∧
wp_J5_append_cf1ce D (fun r_1 S_2 => 
post (some a0) S_2) m_3 z_4 S a0 a1
abbrev r_J4_append_15ec4 (rC rS : Nat) : Room := { frames := 9, cells := rC, slots := rS, locals := 202 }
def wp_J4_append_15ec4 (D : wD) (post : Option Nat → wS → Prop) (bc bs : Nat) (S : wS) (a0 : Nat) (a1 : Nat) : Prop := wp_J4_append_15ec4_0 D post bc bs S a0 a1
set_option maxHeartbeats 4000000 in
set_option maxRecDepth 100000 in
theorem t_J4_append_15ec4_0 {p : Program} {l : Launch} {e : Env} {s : State} {m : MethodId} {args : Array Value} {below : List Frame} {meth : Method} {c : Code} {D : wD} {cy : Nat → ClassId} {X : va_W} {A : Nat → Prop} {S0 : wS} {rC rS : Nat} {post : Option Nat → wS → Prop} (F : CallFix p m c cJ4_append_15ec4 2 s args wz_J4_append_15ec4 RJ4) (hr : meth.sig.returnType = (some (.object "java/lang/StringBuilder"))) (hlocks : meth.locks = false) (hK : wK D cy A s) : ∀ {bc bs cells slots : Nat} (hbc : cells + bc ≤ rC) (hbs : slots + bs ≤ rS) {S : wS} {H : Heap} {locs : List Loc} {ls : Array Slot} {a0 : Nat} {a1 : Nat}, wp_J4_append_15ec4_0 D post bc bs S a0 a1 → wO D cy X A s.heap S H locs → wX D S0 S → lv_has ls 2 [(0, .ref a0), (1, .ref a1)] → wM D S a0 → sK S a0 = 1 → wM D S a1 → sK S a1 = 0 → W p l e (r_J4_append_15ec4 rC rS) s m args below meth c H locs cells slots (MQ below (va_Qq (fun r S9 => wX D S0 S9 ∧ post r S9) (wB D cy X A) A) args s rC rS A) (F0 m 0 ls []) := by
  obtain ⟨hx, hb, hml, hown, hts⟩ := id F
  have hwg : ∀ w ∈ WG, w.before args s = true := fun w h => hts w (List.mem_cons_of_mem _ h)
  intro bc bs cells slots hbc hbs S H locs ls a0 a1 hp hW hE hl hL_a0 hK_a0 hL_a1 hK_a1
  unfold wp_J4_append_15ec4_0 at hp
  refine lv_aload_n hx hb dJ4_append_15ec4_0 rfl (lv_at hl 0 rfl) ?_
  refine lv_aload_n hx hb dJ4_append_15ec4_1 rfl (lv_at hl 1 rfl) ?_
  obtain ⟨m_3, z_4, hm_3, hz_4, hp⟩ := hp
  refine w_callR (va_runSU (hK.1.1 1 _ rfl).2 (As := [.ref a1]) (rest := []) F (c_J5_append_cf1ce l hL_a0 hK_a0 hL_a1 hK_a1 hp H.size) (va_cwSU 1 hts (wg_SU wm_RJ4_29 wsm_J5_append_cf1ce wsup5 wi5_J5_append_cf1ce winit5 wco_J5_append_cf1ce) rfl rfl rfl ⟨by decide, by decide +kernel⟩ ⟨Nat.le_of_ble_eq_true rfl, Nat.le_of_ble_eq_true rfl⟩) (w_preV hK hW hL_a0 hK_a0 (by decide) rfl) rfl rfl hl.1 rfl (lv_room (Nat.le_of_ble_eq_true rfl)) dJ4_append_15ec4_2 ⟨by show _ + m_3 ≤ rC; omega, by show _ + z_4 ≤ rS; omega⟩) hW (fun r_1 S_2 H locs hp hW => ?_)
  obtain ⟨hX_S_2, hp⟩ := hp
  refine W.widen (k := _ + m_3) (n := _ + z_4) (Nat.le_refl _) (Nat.le_refl _) ?_
  replace hbc := w_spend hbc (show m_3 ≤ bc by omega)
  replace hbs := w_spend hbs (show z_4 ≤ bs by omega)
  have hE := hE.trans hX_S_2
  have hK_a0 : sK S_2 a0 = 1 := (hX_S_2.2 a0 hL_a0).1.trans hK_a0
  have hL_a0 : wM D S_2 a0 := hX_S_2.M hL_a0
  have hK_a1 : sK S_2 a1 = 0 := (hX_S_2.2 a1 hL_a1).1.trans hK_a1
  have hL_a1 : wM D S_2 a1 := hX_S_2.M hL_a1
  refine lv_pop hx hb dJ4_append_15ec4_5 (by cases r_1 <;> rfl) ?_
  refine lv_aload_n hx hb dJ4_append_15ec4_6 rfl (lv_at hl 0 rfl) ?_
  refine W.widen (k := rC) (n := rS) (Nat.le_trans (Nat.le_add_right _ _) hbc) (Nat.le_trans (Nat.le_add_right _ _) hbs) ?_
  exact w_aret (g := (some a0)) hx hb hr hlocks hW ⟨hE, hp⟩ dJ4_append_15ec4_7
set_option maxHeartbeats 4000000 in
set_option maxRecDepth 100000 in
theorem c_J4_append_15ec4 (l : Launch) {rC rS : Nat} {D : wD} {cy : Nat → ClassId} {X : va_W} {S0 : wS} {post : Option Nat → wS → Prop} {a0 : Nat} {a1 : Nat} (hL_a0 : wM D S0 a0) (hK_a0 : sK S0 a0 = 1) (hL_a1 : wM D S0 a1) (hK_a1 : sK S0 a1 = 0) (hp : wp_J4_append_15ec4 D post rC rS S0 a0 a1) : mR D cy X l yJ4_append_15ec4 wz_J4_append_15ec4 (r_J4_append_15ec4 rC rS) [.ref a0, .ref a1] S0 (fun r S9 => wX D S0 S9 ∧ post r S9) := by
  intro sz
  refine Met.ofW (cc := cJ4_append_15ec4) (maxL := 2) (ret := (some (.object "java/lang/StringBuilder"))) (by decide) rfl ?_
  intro p e s m args below meth c s₁ B hml hv
  obtain ⟨rfl, hsz, hP, hK, hD0, hRO⟩ := hv
  have hts := atoms_spec (ws := wz_J4_append_15ec4) B.pre
  have hown : s.vm.findClass RJ4 = some m.cls := findClass_of_methodNamed B.named
  subst hsz
  have hD := hD0.self (sz := s.heap.size)
  have F : CallFix p m c cJ4_append_15ec4 2 s _ wz_J4_append_15ec4 RJ4 := ⟨B.exec, B.bytes, hml, hown, hts⟩
  have hr := B.returns
  have hlocks := B.notSynchronized
  generalize hAe : va_A (wL cy X S0) s.heap.size = A at hD hK ⊢
  have hA : ∀ q, s.heap.size ≤ q → A q := fun q h => by rw [← hAe]; exact Or.inr h
  have hW : wO D cy X A s.heap S0 s.heap [] := ⟨hP, hD, va_S.rf, hA, hRO⟩
  have hl := lv_entry ([.ref a0, .ref a1]) (n := 2) (Nat.le_of_ble_eq_true rfl)
  rw [lg_entry_eq]
  generalize (lg_sl ([.ref a0, .ref a1]) ++ List.replicate (2 - (lg_sl ([.ref a0, .ref a1])).length) Slot.unset).toArray = ls at hl ⊢
  have hl : lv_has ls 2 [(0, .ref a0), (1, .ref a1)] := hl
  unfold wp_J4_append_15ec4 at hp
  exact t_J4_append_15ec4_0 F hr hlocks hK (Nat.le_of_eq (Nat.zero_add _)) (Nat.le_of_eq (Nat.zero_add _)) hp hW wX.rf (lv_sub hl [0, 1] rfl) hL_a0 hK_a0 hL_a1 hK_a1
def wp_J2_getChars_ba4f3_128 (D : wD) (post : Int32 → wS → Prop)  (S : wS) (x5 : Int32) : Prop :=
post x5 S
def wp_J2_getChars_ba4f3_112 (D : wD) (post : Int32 → wS → Prop)  (S : wS) (a2 : Nat) (x5 : Int32) (x6 : Int32) : Prop :=
((x6 = 0 → wp_J2_getChars_ba4f3_128 D post S x5) ∧
 (¬ x6 = 0 → ∀ x_2 : Int32, x_2 = x5 + (-1) →
wp_J2_putChar_b72d1 D (fun S_4 => 
wp_J2_getChars_ba4f3_128 D post S_4 x_2) S a2 x_2 (45 : Int32)))
def wp_J2_getChars_ba4f3_22 (D : wD) (post : Int32 → wS → Prop)  : Nat → wS → Int32 → Nat → Int32 → Int32 → Prop
  | 0, _, _, _, _, _ => False
  | n + 1, S, x0, a2, x5, x6 =>
    (((-100 : Int32) < x0 → ∀ x_2 : Int32, x_2 = x5 + (-1) →
    ∀ y_3 : Nat, y_3 = D.2.2.1 104 →
    vp_in (-x0) (sN S y_3) ∧
    wp_J2_putChar_b72d1 D (fun S_6 => 
    (((-9 : Int32) ≤ x0 → wp_J2_getChars_ba4f3_112 D post S_6 a2 x_2 x6) ∧
     (¬ (-9 : Int32) ≤ x0 → ∀ x_8 : Int32, x_8 = x_2 + (-1) →
    ∀ y_9 : Nat, y_9 = D.2.2.1 105 →
    vp_in (-x0) (sN S_6 y_9) ∧
    wp_J2_putChar_b72d1 D (fun S_12 => 
    wp_J2_getChars_ba4f3_112 D post S_12 a2 x_8 x6) S_6 a2 x_8 (sI S_6 y_9 ((-x0)).toNatClampNeg)))) S a2 x_2 (sI S y_3 ((-x0)).toNatClampNeg)) ∧
     (¬ (-100 : Int32) < x0 → ¬ (100 : Int32) = 0 ∧
    ∀ x_14 : Int32, x_14 = (x0 / (100 : Int32)) →
    ∀ x_15 : Int32, x_15 = ((x_14 * (100 : Int32)) - x0) →
    ∀ x_16 : Int32, x_16 = x5 + (-1) →
    ∀ y_17 : Nat, y_17 = D.2.2.1 104 →
    vp_in x_15 (sN S y_17) ∧
    wp_J2_putChar_b72d1 D (fun S_20 => 
    ∀ x_21 : Int32, x_21 = x_16 + (-1) →
    ∀ y_22 : Nat, y_22 = D.2.2.1 105 →
    vp_in x_15 (sN S_20 y_22) ∧
    wp_J2_putChar_b72d1 D (fun S_25 => 
    wp_J2_getChars_ba4f3_22 D post n S_25 x_14 a2 x_21 x6) S_20 a2 x_21 (sI S_20 y_22 (x_15).toNatClampNeg)) S a2 x_16 (sI S y_17 (x_15).toNatClampNeg)))
def wp_J2_getChars_ba4f3_12 (D : wD) (post : Int32 → wS → Prop)  (S : wS) (x0 : Int32) (a2 : Nat) (x5 : Int32) (t0 : Int32) : Prop :=
((¬ t0 = 0 → ∃ n_2 : Nat, wp_J2_getChars_ba4f3_22 D post n_2 S x0 a2 x5 t0) ∧
 (t0 = 0 → ∀ x_3 : Int32, x_3 = (-x0) →
∃ n_4 : Nat, wp_J2_getChars_ba4f3_22 D post n_4 S x_3 a2 x5 t0))
def wp_J2_getChars_ba4f3_0 (D : wD) (post : Int32 → wS → Prop)  (S : wS) (x0 : Int32) (x1 : Int32) (a2 : Nat) : Prop :=
((0 ≤ x0 → wp_J2_getChars_ba4f3_12 D post S x0 a2 x1 (0 : Int32)) ∧
 (¬ 0 ≤ x0 → wp_J2_getChars_ba4f3_12 D post S x0 a2 x1 (1 : Int32)))
abbrev r_J2_getChars_ba4f3 : Room := { frames := 2, cells := 0, slots := 0, locals := 42 }
def wp_J2_getChars_ba4f3 (D : wD) (post : Int32 → wS → Prop) (S : wS) (x0 : Int32) (x1 : Int32) (a2 : Nat) : Prop := wp_J2_getChars_ba4f3_0 D post S x0 x1 a2
set_option maxHeartbeats 4000000 in
set_option maxRecDepth 100000 in
theorem t_J2_getChars_ba4f3_128 {p : Program} {l : Launch} {e : Env} {s : State} {m : MethodId} {args : Array Value} {below : List Frame} {meth : Method} {c : Code} {D : wD} {cy : Nat → ClassId} {X : va_W} {A : Nat → Prop} {S0 : wS} {post : Int32 → wS → Prop} (F : CallFix p m c cJ2_getChars_ba4f3 7 s args wz_J2_getChars_ba4f3 RJ2) (hr : meth.sig.returnType = (some .int)) (hlocks : meth.locks = false) (hK : wK D cy A s) : ∀ {S : wS} {H : Heap} {locs : List Loc} {ls : Array Slot} {x5 : Int32}, wp_J2_getChars_ba4f3_128 D post S x5 → wO D cy X A s.heap S H locs → wX D S0 S → lv_has ls 7 [(5, .int x5)] → W p l e r_J2_getChars_ba4f3 s m args below meth c H locs 0 0 (MQ below (va_Qi (fun r S9 => wX D S0 S9 ∧ post r S9) (wB D cy X A) A) args s 0 0 A) (F0 m 128 ls []) := by
  obtain ⟨hx, hb, hml, hown, hts⟩ := id F
  have hwg : ∀ w ∈ WG, w.before args s = true := fun w h => hts w (List.mem_cons_of_mem _ h)
  intro S H locs ls x5 hp hW hE hl
  unfold wp_J2_getChars_ba4f3_128 at hp
  refine lv_iload hx hb dJ2_getChars_ba4f3_128 (lv_at hl 0 rfl) ?_
  exact w_iret hx hb hr hlocks hW ⟨hE, hp⟩ dJ2_getChars_ba4f3_130
set_option maxHeartbeats 4000000 in
set_option maxRecDepth 100000 in
theorem t_J2_getChars_ba4f3_112 {p : Program} {l : Launch} {e : Env} {s : State} {m : MethodId} {args : Array Value} {below : List Frame} {meth : Method} {c : Code} {D : wD} {cy : Nat → ClassId} {X : va_W} {A : Nat → Prop} {S0 : wS} {post : Int32 → wS → Prop} (F : CallFix p m c cJ2_getChars_ba4f3 7 s args wz_J2_getChars_ba4f3 RJ2) (hr : meth.sig.returnType = (some .int)) (hlocks : meth.locks = false) (hK : wK D cy A s) : ∀ {S : wS} {H : Heap} {locs : List Loc} {ls : Array Slot} {a2 : Nat} {x5 : Int32} {x6 : Int32}, wp_J2_getChars_ba4f3_112 D post S a2 x5 x6 → wO D cy X A s.heap S H locs → wX D S0 S → lv_has ls 7 [(2, .ref a2), (5, .int x5), (6, .int x6)] → wM D S a2 → sK S a2 = 20 → W p l e r_J2_getChars_ba4f3 s m args below meth c H locs 0 0 (MQ below (va_Qi (fun r S9 => wX D S0 S9 ∧ post r S9) (wB D cy X A) A) args s 0 0 A) (F0 m 112 ls []) := by
  obtain ⟨hx, hb, hml, hown, hts⟩ := id F
  have hwg : ∀ w ∈ WG, w.before args s = true := fun w h => hts w (List.mem_cons_of_mem _ h)
  intro S H locs ls a2 x5 x6 hp hW hE hl hL_a2 hK_a2
  unfold wp_J2_getChars_ba4f3_112 at hp
  refine lv_iload hx hb dJ2_getChars_ba4f3_112 (lv_at hl 2 rfl) ?_
  refine lv_if_eq (tgt := 128) hx hb dJ2_getChars_ba4f3_114 (by decide) (fun c_1 => ?_) (fun c_1 => ?_)
  · replace hp := hp.1 c_1
    exact t_J2_getChars_ba4f3_128 F hr hlocks hK hp hW hE (lv_sub hl [1] rfl)
  · replace hp := hp.2 c_1
    refine lv_aload_n hx hb dJ2_getChars_ba4f3_117 rfl (lv_at hl 0 rfl) ?_
    obtain ⟨x_2, ex_2⟩ : ∃ z : Int32, z = x5 + (-1) := ⟨_, rfl⟩
    replace hp := hp x_2 ex_2
    refine lv_iinc (v := x_2) (lv' := [(5, .int x_2), (2, .ref a2), (6, .int x6)]) hx hb dJ2_getChars_ba4f3_118 hl (k := 1) rfl (by rw [ex_2]; rfl) (by decide) rfl (fun ls hl => ?_)
    refine lv_iload hx hb dJ2_getChars_ba4f3_121 (lv_at hl 0 rfl) ?_
    refine lv_bipush (v := 45) hx hb dJ2_getChars_ba4f3_123 (by decide) ?_
    refine w_callV (va_runS (As := [.ref a2, .int x_2, .int (45 : Int32)]) (rest := []) F (c_J2_putChar_b72d1 l hL_a2 hK_a2 hp H.size) (va_cwS 3 hts (wg_S wm_RJ2_111 wy_J2_putChar_b72d1) rfl rfl rfl (by decide +kernel) ⟨Nat.le_of_ble_eq_true rfl, Nat.le_of_ble_eq_true rfl⟩) (w_preS hK hW) rfl rfl hl.1 rfl (lv_room (Nat.le_of_ble_eq_true rfl)) dJ2_getChars_ba4f3_125 ⟨Nat.le_of_ble_eq_true rfl, Nat.le_of_ble_eq_true rfl⟩) hW (fun S_4 H locs hp hW => ?_)
    obtain ⟨hX_S_4, hp⟩ := hp
    refine W.widen (k := 0) (n := 0) (by decide) (by decide) ?_
    have hE := hE.trans hX_S_4
    have hK_a2 : sK S_4 a2 = 20 := (hX_S_4.2 a2 hL_a2).1.trans hK_a2
    have hL_a2 : wM D S_4 a2 := hX_S_4.M hL_a2
    exact t_J2_getChars_ba4f3_128 F hr hlocks hK hp hW hE (lv_sub hl [0] rfl)
set_option maxHeartbeats 4000000 in
set_option maxRecDepth 100000 in
theorem t_J2_getChars_ba4f3_22 {p : Program} {l : Launch} {e : Env} {s : State} {m : MethodId} {args : Array Value} {below : List Frame} {meth : Method} {c : Code} {D : wD} {cy : Nat → ClassId} {X : va_W} {A : Nat → Prop} {S0 : wS} {post : Int32 → wS → Prop} (F : CallFix p m c cJ2_getChars_ba4f3 7 s args wz_J2_getChars_ba4f3 RJ2) (hr : meth.sig.returnType = (some .int)) (hlocks : meth.locks = false) (hK : wK D cy A s) : ∀ (n : Nat) {S : wS} {H : Heap} {locs : List Loc} {ls : Array Slot} {x0 : Int32} {a2 : Nat} {x5 : Int32} {x6 : Int32}, wp_J2_getChars_ba4f3_22 D post n S x0 a2 x5 x6 → wO D cy X A s.heap S H locs → wX D S0 S → lv_has ls 7 [(0, .int x0), (2, .ref a2), (5, .int x5), (6, .int x6)] → wM D S a2 → sK S a2 = 20 → W p l e r_J2_getChars_ba4f3 s m args below meth c H locs 0 0 (MQ below (va_Qi (fun r S9 => wX D S0 S9 ∧ post r S9) (wB D cy X A) A) args s 0 0 A) (F0 m 22 ls []) := by
  obtain ⟨hx, hb, hml, hown, hts⟩ := id F
  have hwg : ∀ w ∈ WG, w.before args s = true := fun w h => hts w (List.mem_cons_of_mem _ h)
  intro n
  induction n with
  | zero =>
    intro S H locs ls x0 a2 x5 x6 hp
    exact hp.elim
  | succ n ih =>
    intro S H locs ls x0 a2 x5 x6 hp hW hE hl hL_a2 hK_a2
    unfold wp_J2_getChars_ba4f3_22 at hp
    refine lv_iload_n hx hb dJ2_getChars_ba4f3_22 rfl (lv_at hl 0 rfl) ?_
    refine lv_bipush (v := (-100)) hx hb dJ2_getChars_ba4f3_23 (by decide) ?_
    refine lv_icmp_gt (tgt := 76) hx hb dJ2_getChars_ba4f3_25 (by decide) (fun c_1 => ?_) (fun c_1 => ?_)
    · replace hp := hp.1 c_1
      refine lv_aload_n hx hb dJ2_getChars_ba4f3_76 rfl (lv_at hl 1 rfl) ?_
      obtain ⟨x_2, ex_2⟩ : ∃ z : Int32, z = x5 + (-1) := ⟨_, rfl⟩
      replace hp := hp x_2 ex_2
      refine lv_iinc (v := x_2) (lv' := [(5, .int x_2), (0, .int x0), (2, .ref a2), (6, .int x6)]) hx hb dJ2_getChars_ba4f3_77 hl (k := 2) rfl (by rw [ex_2]; rfl) (by decide) rfl (fun ls hl => ?_)
      refine lv_iload hx hb dJ2_getChars_ba4f3_80 (lv_at hl 0 rfl) ?_
      refine w_stat F hK hW (show ("java/lang/Integer", "DigitOnes", "[B", 104, 20) ∈ wSr by decide +kernel) (hwg _ wf_RJ2_403) dJ2_getChars_ba4f3_82 ?_
      obtain ⟨y_3, ey_3⟩ : ∃ z : Nat, z = D.2.2.1 104 := ⟨_, rfl⟩
      rw [← ey_3]
      replace hp := hp y_3 ey_3
      obtain ⟨hL_y_3, hK_y_3⟩ : wM D S y_3 ∧ sK S y_3 = 20 := by rw [ey_3]; exact w_statM hK hW (show ("java/lang/Integer", "DigitOnes", "[B", 104, 20) ∈ wSr by decide +kernel)
      refine lv_iload_n hx hb dJ2_getChars_ba4f3_85 rfl (lv_at hl 1 rfl) ?_
      refine lv_ineg hx hb dJ2_getChars_ba4f3_86 ?_
      obtain ⟨h_4, hp⟩ := hp
      refine w_bld F hK hW hL_y_3 hK_y_3 h_4 dJ2_getChars_ba4f3_87 ?_
      refine w_callV (va_runS (As := [.ref a2, .int x_2, .int (sI S y_3 ((-x0)).toNatClampNeg)]) (rest := []) F (c_J2_putChar_b72d1 l hL_a2 hK_a2 hp H.size) (va_cwS 3 hts (wg_S wm_RJ2_111 wy_J2_putChar_b72d1) rfl rfl rfl (by decide +kernel) ⟨Nat.le_of_ble_eq_true rfl, Nat.le_of_ble_eq_true rfl⟩) (w_preS hK hW) rfl rfl hl.1 rfl (lv_room (Nat.le_of_ble_eq_true rfl)) dJ2_getChars_ba4f3_88 ⟨Nat.le_of_ble_eq_true rfl, Nat.le_of_ble_eq_true rfl⟩) hW (fun S_6 H locs hp hW => ?_)
      obtain ⟨hX_S_6, hp⟩ := hp
      refine W.widen (k := 0) (n := 0) (by decide) (by decide) ?_
      have hE := hE.trans hX_S_6
      have hK_a2 : sK S_6 a2 = 20 := (hX_S_6.2 a2 hL_a2).1.trans hK_a2
      have hL_a2 : wM D S_6 a2 := hX_S_6.M hL_a2
      refine lv_iload_n hx hb dJ2_getChars_ba4f3_91 rfl (lv_at hl 1 rfl) ?_
      refine lv_bipush (v := (-9)) hx hb dJ2_getChars_ba4f3_92 (by decide) ?_
      refine lv_icmp_ge (tgt := 112) hx hb dJ2_getChars_ba4f3_94 (by decide) (fun c_7 => ?_) (fun c_7 => ?_)
      · replace hp := hp.1 c_7
        exact t_J2_getChars_ba4f3_112 F hr hlocks hK hp hW hE (lv_sub hl [2, 0, 3] rfl) hL_a2 hK_a2
      · replace hp := hp.2 c_7
        refine lv_aload_n hx hb dJ2_getChars_ba4f3_97 rfl (lv_at hl 2 rfl) ?_
        obtain ⟨x_8, ex_8⟩ : ∃ z : Int32, z = x_2 + (-1) := ⟨_, rfl⟩
        replace hp := hp x_8 ex_8
        refine lv_iinc (v := x_8) (lv' := [(5, .int x_8), (0, .int x0), (2, .ref a2), (6, .int x6)]) hx hb dJ2_getChars_ba4f3_98 hl (k := 0) rfl (by rw [ex_8]; rfl) (by decide) rfl (fun ls hl => ?_)
        refine lv_iload hx hb dJ2_getChars_ba4f3_101 (lv_at hl 0 rfl) ?_
        refine w_stat F hK hW (show ("java/lang/Integer", "DigitTens", "[B", 105, 20) ∈ wSr by decide +kernel) (hwg _ wf_RJ2_407) dJ2_getChars_ba4f3_103 ?_
        obtain ⟨y_9, ey_9⟩ : ∃ z : Nat, z = D.2.2.1 105 := ⟨_, rfl⟩
        rw [← ey_9]
        replace hp := hp y_9 ey_9
        obtain ⟨hL_y_9, hK_y_9⟩ : wM D S_6 y_9 ∧ sK S_6 y_9 = 20 := by rw [ey_9]; exact w_statM hK hW (show ("java/lang/Integer", "DigitTens", "[B", 105, 20) ∈ wSr by decide +kernel)
        refine lv_iload_n hx hb dJ2_getChars_ba4f3_106 rfl (lv_at hl 1 rfl) ?_
        refine lv_ineg hx hb dJ2_getChars_ba4f3_107 ?_
        obtain ⟨h_10, hp⟩ := hp
        refine w_bld F hK hW hL_y_9 hK_y_9 h_10 dJ2_getChars_ba4f3_108 ?_
        refine w_callV (va_runS (As := [.ref a2, .int x_8, .int (sI S_6 y_9 ((-x0)).toNatClampNeg)]) (rest := []) F (c_J2_putChar_b72d1 l hL_a2 hK_a2 hp H.size) (va_cwS 3 hts (wg_S wm_RJ2_111 wy_J2_putChar_b72d1) rfl rfl rfl (by decide +kernel) ⟨Nat.le_of_ble_eq_true rfl, Nat.le_of_ble_eq_true rfl⟩) (w_preS hK hW) rfl rfl hl.1 rfl (lv_room (Nat.le_of_ble_eq_true rfl)) dJ2_getChars_ba4f3_109 ⟨Nat.le_of_ble_eq_true rfl, Nat.le_of_ble_eq_true rfl⟩) hW (fun S_12 H locs hp hW => ?_)
        obtain ⟨hX_S_12, hp⟩ := hp
        refine W.widen (k := 0) (n := 0) (by decide) (by decide) ?_
        have hE := hE.trans hX_S_12
        have hK_a2 : sK S_12 a2 = 20 := (hX_S_12.2 a2 hL_a2).1.trans hK_a2
        have hL_a2 : wM D S_12 a2 := hX_S_12.M hL_a2
        exact t_J2_getChars_ba4f3_112 F hr hlocks hK hp hW hE (lv_sub hl [2, 0, 3] rfl) hL_a2 hK_a2
    · replace hp := hp.2 c_1
      refine lv_iload_n hx hb dJ2_getChars_ba4f3_28 rfl (lv_at hl 0 rfl) ?_
      refine lv_bipush (v := 100) hx hb dJ2_getChars_ba4f3_29 (by decide) ?_
      obtain ⟨h_13, hp⟩ := hp
      refine lv_idiv hx hb dJ2_getChars_ba4f3_31 h_13 ?_
      refine lv_topi (fun x_14 ex_14 => ?_)
      replace hp := hp x_14 ex_14
      refine lv_istore_n (lv' := [(3, .int x_14), (0, .int x0), (2, .ref a2), (5, .int x5), (6, .int x6)]) hx hb dJ2_getChars_ba4f3_32 rfl hl (by decide) rfl (fun ls hl => ?_)
      refine lv_iload_n hx hb dJ2_getChars_ba4f3_33 rfl (lv_at hl 0 rfl) ?_
      refine lv_bipush (v := 100) hx hb dJ2_getChars_ba4f3_34 (by decide) ?_
      refine lv_imul hx hb dJ2_getChars_ba4f3_36 ?_
      refine lv_iload_n hx hb dJ2_getChars_ba4f3_37 rfl (lv_at hl 1 rfl) ?_
      refine lv_isub hx hb dJ2_getChars_ba4f3_38 ?_
      refine lv_topi (fun x_15 ex_15 => ?_)
      replace hp := hp x_15 ex_15
      refine lv_istore (lv' := [(4, .int x_15), (3, .int x_14), (0, .int x0), (2, .ref a2), (5, .int x5), (6, .int x6)]) hx hb dJ2_getChars_ba4f3_39 hl (by decide) rfl (fun ls hl => ?_)
      refine lv_iload_n hx hb dJ2_getChars_ba4f3_41 rfl (lv_at hl 1 rfl) ?_
      refine lv_istore_n (lv' := [(0, .int x_14), (4, .int x_15), (3, .int x_14), (2, .ref a2), (5, .int x5), (6, .int x6)]) hx hb dJ2_getChars_ba4f3_42 rfl hl (by decide) rfl (fun ls hl => ?_)
      refine lv_aload_n hx hb dJ2_getChars_ba4f3_43 rfl (lv_at hl 3 rfl) ?_
      obtain ⟨x_16, ex_16⟩ : ∃ z : Int32, z = x5 + (-1) := ⟨_, rfl⟩
      replace hp := hp x_16 ex_16
      refine lv_iinc (v := x_16) (lv' := [(5, .int x_16), (0, .int x_14), (4, .int x_15), (3, .int x_14), (2, .ref a2), (6, .int x6)]) hx hb dJ2_getChars_ba4f3_44 hl (k := 4) rfl (by rw [ex_16]; rfl) (by decide) rfl (fun ls hl => ?_)
      refine lv_iload hx hb dJ2_getChars_ba4f3_47 (lv_at hl 0 rfl) ?_
      refine w_stat F hK hW (show ("java/lang/Integer", "DigitOnes", "[B", 104, 20) ∈ wSr by decide +kernel) (hwg _ wf_RJ2_403) dJ2_getChars_ba4f3_49 ?_
      obtain ⟨y_17, ey_17⟩ : ∃ z : Nat, z = D.2.2.1 104 := ⟨_, rfl⟩
      rw [← ey_17]
      replace hp := hp y_17 ey_17
      obtain ⟨hL_y_17, hK_y_17⟩ : wM D S y_17 ∧ sK S y_17 = 20 := by rw [ey_17]; exact w_statM hK hW (show ("java/lang/Integer", "DigitOnes", "[B", 104, 20) ∈ wSr by decide +kernel)
      refine lv_iload hx hb dJ2_getChars_ba4f3_52 (lv_at hl 2 rfl) ?_
      obtain ⟨h_18, hp⟩ := hp
      refine w_bld F hK hW hL_y_17 hK_y_17 h_18 dJ2_getChars_ba4f3_54 ?_
      refine w_callV (va_runS (As := [.ref a2, .int x_16, .int (sI S y_17 (x_15).toNatClampNeg)]) (rest := []) F (c_J2_putChar_b72d1 l hL_a2 hK_a2 hp H.size) (va_cwS 3 hts (wg_S wm_RJ2_111 wy_J2_putChar_b72d1) rfl rfl rfl (by decide +kernel) ⟨Nat.le_of_ble_eq_true rfl, Nat.le_of_ble_eq_true rfl⟩) (w_preS hK hW) rfl rfl hl.1 rfl (lv_room (Nat.le_of_ble_eq_true rfl)) dJ2_getChars_ba4f3_55 ⟨Nat.le_of_ble_eq_true rfl, Nat.le_of_ble_eq_true rfl⟩) hW (fun S_20 H locs hp hW => ?_)
      obtain ⟨hX_S_20, hp⟩ := hp
      refine W.widen (k := 0) (n := 0) (by decide) (by decide) ?_
      have hE := hE.trans hX_S_20
      have hK_a2 : sK S_20 a2 = 20 := (hX_S_20.2 a2 hL_a2).1.trans hK_a2
      have hL_a2 : wM D S_20 a2 := hX_S_20.M hL_a2
      refine lv_aload_n hx hb dJ2_getChars_ba4f3_58 rfl (lv_at hl 4 rfl) ?_
      obtain ⟨x_21, ex_21⟩ : ∃ z : Int32, z = x_16 + (-1) := ⟨_, rfl⟩
      replace hp := hp x_21 ex_21
      refine lv_iinc (v := x_21) (lv' := [(5, .int x_21), (0, .int x_14), (4, .int x_15), (3, .int x_14), (2, .ref a2), (6, .int x6)]) hx hb dJ2_getChars_ba4f3_59 hl (k := 0) rfl (by rw [ex_21]; rfl) (by decide) rfl (fun ls hl => ?_)
      refine lv_iload hx hb dJ2_getChars_ba4f3_62 (lv_at hl 0 rfl) ?_
      refine w_stat F hK hW (show ("java/lang/Integer", "DigitTens", "[B", 105, 20) ∈ wSr by decide +kernel) (hwg _ wf_RJ2_407) dJ2_getChars_ba4f3_64 ?_
      obtain ⟨y_22, ey_22⟩ : ∃ z : Nat, z = D.2.2.1 105 := ⟨_, rfl⟩
      rw [← ey_22]
      replace hp := hp y_22 ey_22
      obtain ⟨hL_y_22, hK_y_22⟩ : wM D S_20 y_22 ∧ sK S_20 y_22 = 20 := by rw [ey_22]; exact w_statM hK hW (show ("java/lang/Integer", "DigitTens", "[B", 105, 20) ∈ wSr by decide +kernel)
      refine lv_iload hx hb dJ2_getChars_ba4f3_67 (lv_at hl 2 rfl) ?_
      obtain ⟨h_23, hp⟩ := hp
      refine w_bld F hK hW hL_y_22 hK_y_22 h_23 dJ2_getChars_ba4f3_69 ?_
      refine w_callV (va_runS (As := [.ref a2, .int x_21, .int (sI S_20 y_22 (x_15).toNatClampNeg)]) (rest := []) F (c_J2_putChar_b72d1 l hL_a2 hK_a2 hp H.size) (va_cwS 3 hts (wg_S wm_RJ2_111 wy_J2_putChar_b72d1) rfl rfl rfl (by decide +kernel) ⟨Nat.le_of_ble_eq_true rfl, Nat.le_of_ble_eq_true rfl⟩) (w_preS hK hW) rfl rfl hl.1 rfl (lv_room (Nat.le_of_ble_eq_true rfl)) dJ2_getChars_ba4f3_70 ⟨Nat.le_of_ble_eq_true rfl, Nat.le_of_ble_eq_true rfl⟩) hW (fun S_25 H locs hp hW => ?_)
      obtain ⟨hX_S_25, hp⟩ := hp
      refine W.widen (k := 0) (n := 0) (by decide) (by decide) ?_
      have hE := hE.trans hX_S_25
      have hK_a2 : sK S_25 a2 = 20 := (hX_S_25.2 a2 hL_a2).1.trans hK_a2
      have hL_a2 : wM D S_25 a2 := hX_S_25.M hL_a2
      refine lv_goto (tgt := 22) hx hb dJ2_getChars_ba4f3_73 (by decide) ?_
      exact ih hp hW hE (lv_sub hl [1, 4, 0, 5] rfl) hL_a2 hK_a2
set_option maxHeartbeats 4000000 in
set_option maxRecDepth 100000 in
theorem t_J2_getChars_ba4f3_12 {p : Program} {l : Launch} {e : Env} {s : State} {m : MethodId} {args : Array Value} {below : List Frame} {meth : Method} {c : Code} {D : wD} {cy : Nat → ClassId} {X : va_W} {A : Nat → Prop} {S0 : wS} {post : Int32 → wS → Prop} (F : CallFix p m c cJ2_getChars_ba4f3 7 s args wz_J2_getChars_ba4f3 RJ2) (hr : meth.sig.returnType = (some .int)) (hlocks : meth.locks = false) (hK : wK D cy A s) : ∀ {S : wS} {H : Heap} {locs : List Loc} {ls : Array Slot} {x0 : Int32} {a2 : Nat} {x5 : Int32} {t0 : Int32}, wp_J2_getChars_ba4f3_12 D post S x0 a2 x5 t0 → wO D cy X A s.heap S H locs → wX D S0 S → lv_has ls 7 [(0, .int x0), (2, .ref a2), (5, .int x5)] → wM D S a2 → sK S a2 = 20 → W p l e r_J2_getChars_ba4f3 s m args below meth c H locs 0 0 (MQ below (va_Qi (fun r S9 => wX D S0 S9 ∧ post r S9) (wB D cy X A) A) args s 0 0 A) (F0 m 12 ls [.int t0]) := by
  obtain ⟨hx, hb, hml, hown, hts⟩ := id F
  have hwg : ∀ w ∈ WG, w.before args s = true := fun w h => hts w (List.mem_cons_of_mem _ h)
  intro S H locs ls x0 a2 x5 t0 hp hW hE hl hL_a2 hK_a2
  unfold wp_J2_getChars_ba4f3_12 at hp
  refine lv_istore (lv' := [(6, .int t0), (0, .int x0), (2, .ref a2), (5, .int x5)]) hx hb dJ2_getChars_ba4f3_12 hl (by decide) rfl (fun ls hl => ?_)
  refine lv_iload hx hb dJ2_getChars_ba4f3_14 (lv_at hl 0 rfl) ?_
  refine lv_if_ne (tgt := 22) hx hb dJ2_getChars_ba4f3_16 (by decide) (fun c_1 => ?_) (fun c_1 => ?_)
  · replace hp := hp.1 c_1
    obtain ⟨n_2, hp⟩ := hp
    exact t_J2_getChars_ba4f3_22 F hr hlocks hK n_2 hp hW hE (lv_sub hl [1, 2, 3, 0] rfl) hL_a2 hK_a2
  · replace hp := hp.2 c_1
    refine lv_iload_n hx hb dJ2_getChars_ba4f3_19 rfl (lv_at hl 1 rfl) ?_
    refine lv_ineg hx hb dJ2_getChars_ba4f3_20 ?_
    refine lv_topi (fun x_3 ex_3 => ?_)
    replace hp := hp x_3 ex_3
    refine lv_istore_n (lv' := [(0, .int x_3), (6, .int t0), (2, .ref a2), (5, .int x5)]) hx hb dJ2_getChars_ba4f3_21 rfl hl (by decide) rfl (fun ls hl => ?_)
    obtain ⟨n_4, hp⟩ := hp
    exact t_J2_getChars_ba4f3_22 F hr hlocks hK n_4 hp hW hE (lv_sub hl [0, 2, 3, 1] rfl) hL_a2 hK_a2
set_option maxHeartbeats 4000000 in
set_option maxRecDepth 100000 in
theorem t_J2_getChars_ba4f3_0 {p : Program} {l : Launch} {e : Env} {s : State} {m : MethodId} {args : Array Value} {below : List Frame} {meth : Method} {c : Code} {D : wD} {cy : Nat → ClassId} {X : va_W} {A : Nat → Prop} {S0 : wS} {post : Int32 → wS → Prop} (F : CallFix p m c cJ2_getChars_ba4f3 7 s args wz_J2_getChars_ba4f3 RJ2) (hr : meth.sig.returnType = (some .int)) (hlocks : meth.locks = false) (hK : wK D cy A s) : ∀ {S : wS} {H : Heap} {locs : List Loc} {ls : Array Slot} {x0 : Int32} {x1 : Int32} {a2 : Nat}, wp_J2_getChars_ba4f3_0 D post S x0 x1 a2 → wO D cy X A s.heap S H locs → wX D S0 S → lv_has ls 7 [(0, .int x0), (1, .int x1), (2, .ref a2)] → wM D S a2 → sK S a2 = 20 → W p l e r_J2_getChars_ba4f3 s m args below meth c H locs 0 0 (MQ below (va_Qi (fun r S9 => wX D S0 S9 ∧ post r S9) (wB D cy X A) A) args s 0 0 A) (F0 m 0 ls []) := by
  obtain ⟨hx, hb, hml, hown, hts⟩ := id F
  have hwg : ∀ w ∈ WG, w.before args s = true := fun w h => hts w (List.mem_cons_of_mem _ h)
  intro S H locs ls x0 x1 a2 hp hW hE hl hL_a2 hK_a2
  unfold wp_J2_getChars_ba4f3_0 at hp
  refine lv_iload_n hx hb dJ2_getChars_ba4f3_0 rfl (lv_at hl 1 rfl) ?_
  refine lv_istore (lv' := [(5, .int x1), (0, .int x0), (1, .int x1), (2, .ref a2)]) hx hb dJ2_getChars_ba4f3_1 hl (by decide) rfl (fun ls hl => ?_)
  refine lv_iload_n hx hb dJ2_getChars_ba4f3_3 rfl (lv_at hl 1 rfl) ?_
  refine lv_if_ge (tgt := 11) hx hb dJ2_getChars_ba4f3_4 (by decide) (fun c_1 => ?_) (fun c_1 => ?_)
  · replace hp := hp.1 c_1
    refine lv_iconst (v := 0) hx hb dJ2_getChars_ba4f3_11 (by decide) ?_
    exact t_J2_getChars_ba4f3_12 F hr hlocks hK hp hW hE (lv_sub hl [1, 3, 0] rfl) hL_a2 hK_a2
  · replace hp := hp.2 c_1
    refine lv_iconst (v := 1) hx hb dJ2_getChars_ba4f3_7 (by decide) ?_
    refine lv_goto (tgt := 12) hx hb dJ2_getChars_ba4f3_8 (by decide) ?_
    exact t_J2_getChars_ba4f3_12 F hr hlocks hK hp hW hE (lv_sub hl [1, 3, 0] rfl) hL_a2 hK_a2
set_option maxHeartbeats 4000000 in
set_option maxRecDepth 100000 in
theorem c_J2_getChars_ba4f3 (l : Launch) {D : wD} {cy : Nat → ClassId} {X : va_W} {S0 : wS} {post : Int32 → wS → Prop} {x0 : Int32} {x1 : Int32} {a2 : Nat} (hL_a2 : wM D S0 a2) (hK_a2 : sK S0 a2 = 20) (hp : wp_J2_getChars_ba4f3 D post S0 x0 x1 a2) : mI D cy X l yJ2_getChars_ba4f3 wz_J2_getChars_ba4f3 r_J2_getChars_ba4f3 [.int x0, .int x1, .ref a2] S0 (fun r S9 => wX D S0 S9 ∧ post r S9) := by
  intro sz
  refine Met.ofW (cc := cJ2_getChars_ba4f3) (maxL := 7) (ret := (some .int)) (by decide) rfl ?_
  intro p e s m args below meth c s₁ B hml hv
  obtain ⟨rfl, hsz, hP, hK, hD0, hRO⟩ := hv
  have hts := atoms_spec (ws := wz_J2_getChars_ba4f3) B.pre
  have hown : s.vm.findClass RJ2 = some m.cls := findClass_of_methodNamed B.named
  subst hsz
  have hD := hD0.self (sz := s.heap.size)
  have F : CallFix p m c cJ2_getChars_ba4f3 7 s _ wz_J2_getChars_ba4f3 RJ2 := ⟨B.exec, B.bytes, hml, hown, hts⟩
  have hr := B.returns
  have hlocks := B.notSynchronized
  generalize hAe : va_A (wL cy X S0) s.heap.size = A at hD hK ⊢
  have hA : ∀ q, s.heap.size ≤ q → A q := fun q h => by rw [← hAe]; exact Or.inr h
  have hW : wO D cy X A s.heap S0 s.heap [] := ⟨hP, hD, va_S.rf, hA, hRO⟩
  have hl := lv_entry ([.int x0, .int x1, .ref a2]) (n := 7) (Nat.le_of_ble_eq_true rfl)
  rw [lg_entry_eq]
  generalize (lg_sl ([.int x0, .int x1, .ref a2]) ++ List.replicate (7 - (lg_sl ([.int x0, .int x1, .ref a2])).length) Slot.unset).toArray = ls at hl ⊢
  have hl : lv_has ls 7 [(0, .int x0), (1, .int x1), (2, .ref a2)] := hl
  unfold wp_J2_getChars_ba4f3 at hp
  exact t_J2_getChars_ba4f3_0 F hr hlocks hK hp hW wX.rf (lv_sub hl [0, 1, 2] rfl) hL_a2 hK_a2
def wp_J2_getChars_46870_34 (D : wD) (post : Int32 → wS → Prop)  (S : wS) (x4 : Int32) : Prop :=
post x4 S
def wp_J2_getChars_46870_0 (D : wD) (post : Int32 → wS → Prop)  (S : wS) (x0 : Int32) (x1 : Int32) (x2 : Int32) (a3 : Nat) : Prop :=
wp_J2_checkBoundsBeginEnd_d044e D (fun S_2 => 
wp_J2_getChars_ba4f3 D (fun r_3 S_4 => 
((¬ (1 : Int32) = 0 → wp_J2_getChars_46870_34 D post S_4 r_3) ∧
 ((1 : Int32) = 0 → ((x1 = r_3 → wp_J2_getChars_46870_34 D post S_4 r_3) ∧
 (¬ x1 = r_3 → False))))) S_2 x0 x2 a3) S x1 x2 a3
abbrev r_J2_getChars_46870 : Room := { frames := 3, cells := 0, slots := 0, locals := 68 }
def wp_J2_getChars_46870 (D : wD) (post : Int32 → wS → Prop) (S : wS) (x0 : Int32) (x1 : Int32) (x2 : Int32) (a3 : Nat) : Prop := wp_J2_getChars_46870_0 D post S x0 x1 x2 a3
set_option maxHeartbeats 4000000 in
set_option maxRecDepth 100000 in
theorem t_J2_getChars_46870_34 {p : Program} {l : Launch} {e : Env} {s : State} {m : MethodId} {args : Array Value} {below : List Frame} {meth : Method} {c : Code} {D : wD} {cy : Nat → ClassId} {X : va_W} {A : Nat → Prop} {S0 : wS} {post : Int32 → wS → Prop} (F : CallFix p m c cJ2_getChars_46870 5 s args wz_J2_getChars_46870 RJ2) (hr : meth.sig.returnType = (some .int)) (hlocks : meth.locks = false) (hK : wK D cy A s) : ∀ {S : wS} {H : Heap} {locs : List Loc} {ls : Array Slot} {x4 : Int32}, wp_J2_getChars_46870_34 D post S x4 → wO D cy X A s.heap S H locs → wX D S0 S → lv_has ls 5 [(4, .int x4)] → W p l e r_J2_getChars_46870 s m args below meth c H locs 0 0 (MQ below (va_Qi (fun r S9 => wX D S0 S9 ∧ post r S9) (wB D cy X A) A) args s 0 0 A) (F0 m 34 ls []) := by
  obtain ⟨hx, hb, hml, hown, hts⟩ := id F
  have hwg : ∀ w ∈ WG, w.before args s = true := fun w h => hts w (List.mem_cons_of_mem _ h)
  intro S H locs ls x4 hp hW hE hl
  unfold wp_J2_getChars_46870_34 at hp
  refine lv_iload hx hb dJ2_getChars_46870_34 (lv_at hl 0 rfl) ?_
  exact w_iret hx hb hr hlocks hW ⟨hE, hp⟩ dJ2_getChars_46870_36
set_option maxHeartbeats 4000000 in
set_option maxRecDepth 100000 in
theorem t_J2_getChars_46870_0 {p : Program} {l : Launch} {e : Env} {s : State} {m : MethodId} {args : Array Value} {below : List Frame} {meth : Method} {c : Code} {D : wD} {cy : Nat → ClassId} {X : va_W} {A : Nat → Prop} {S0 : wS} {post : Int32 → wS → Prop} (F : CallFix p m c cJ2_getChars_46870 5 s args wz_J2_getChars_46870 RJ2) (hr : meth.sig.returnType = (some .int)) (hlocks : meth.locks = false) (hK : wK D cy A s) : ∀ {S : wS} {H : Heap} {locs : List Loc} {ls : Array Slot} {x0 : Int32} {x1 : Int32} {x2 : Int32} {a3 : Nat}, wp_J2_getChars_46870_0 D post S x0 x1 x2 a3 → wO D cy X A s.heap S H locs → wX D S0 S → lv_has ls 5 [(0, .int x0), (1, .int x1), (2, .int x2), (3, .ref a3)] → wM D S a3 → sK S a3 = 20 → W p l e r_J2_getChars_46870 s m args below meth c H locs 0 0 (MQ below (va_Qi (fun r S9 => wX D S0 S9 ∧ post r S9) (wB D cy X A) A) args s 0 0 A) (F0 m 0 ls []) := by
  obtain ⟨hx, hb, hml, hown, hts⟩ := id F
  have hwg : ∀ w ∈ WG, w.before args s = true := fun w h => hts w (List.mem_cons_of_mem _ h)
  intro S H locs ls x0 x1 x2 a3 hp hW hE hl hL_a3 hK_a3
  unfold wp_J2_getChars_46870_0 at hp
  refine lv_iload_n hx hb dJ2_getChars_46870_0 rfl (lv_at hl 1 rfl) ?_
  refine lv_iload_n hx hb dJ2_getChars_46870_1 rfl (lv_at hl 2 rfl) ?_
  refine lv_aload_n hx hb dJ2_getChars_46870_2 rfl (lv_at hl 3 rfl) ?_
  refine w_callV (va_runS (As := [.int x1, .int x2, .ref a3]) (rest := []) F (c_J2_checkBoundsBeginEnd_d044e l hL_a3 hK_a3 hp H.size) (va_cwS 3 hts (wg_S wm_RJ2_96 wy_J2_checkBoundsBeginEnd_d044e) rfl rfl rfl (by decide +kernel) ⟨Nat.le_of_ble_eq_true rfl, Nat.le_of_ble_eq_true rfl⟩) (w_preS hK hW) rfl rfl hl.1 rfl (lv_room (Nat.le_of_ble_eq_true rfl)) dJ2_getChars_46870_3 ⟨Nat.le_of_ble_eq_true rfl, Nat.le_of_ble_eq_true rfl⟩) hW (fun S_2 H locs hp hW => ?_)
  obtain ⟨hX_S_2, hp⟩ := hp
  refine W.widen (k := 0) (n := 0) (by decide) (by decide) ?_
  have hE := hE.trans hX_S_2
  have hK_a3 : sK S_2 a3 = 20 := (hX_S_2.2 a3 hL_a3).1.trans hK_a3
  have hL_a3 : wM D S_2 a3 := hX_S_2.M hL_a3
  refine lv_iload_n hx hb dJ2_getChars_46870_6 rfl (lv_at hl 0 rfl) ?_
  refine lv_iload_n hx hb dJ2_getChars_46870_7 rfl (lv_at hl 2 rfl) ?_
  refine lv_aload_n hx hb dJ2_getChars_46870_8 rfl (lv_at hl 3 rfl) ?_
  refine w_callI (va_runS (As := [.int x0, .int x2, .ref a3]) (rest := []) F (c_J2_getChars_ba4f3 l hL_a3 hK_a3 hp H.size) (va_cwS 3 hts (wg_S wm_RJ2_393 wy_J2_getChars_ba4f3) rfl rfl rfl (by decide +kernel) ⟨Nat.le_of_ble_eq_true rfl, Nat.le_of_ble_eq_true rfl⟩) (w_preS hK hW) rfl rfl hl.1 rfl (lv_room (Nat.le_of_ble_eq_true rfl)) dJ2_getChars_46870_9 ⟨Nat.le_of_ble_eq_true rfl, Nat.le_of_ble_eq_true rfl⟩) hW (fun r_3 S_4 H locs hp hW => ?_)
  obtain ⟨hX_S_4, hp⟩ := hp
  refine W.widen (k := 0) (n := 0) (by decide) (by decide) ?_
  have hE := hE.trans hX_S_4
  have hK_a3 : sK S_4 a3 = 20 := (hX_S_4.2 a3 hL_a3).1.trans hK_a3
  have hL_a3 : wM D S_4 a3 := hX_S_4.M hL_a3
  refine lv_istore (lv' := [(4, .int r_3), (0, .int x0), (1, .int x1), (2, .int x2), (3, .ref a3)]) hx hb dJ2_getChars_46870_12 hl (by decide) rfl (fun ls hl => ?_)
  refine w_staI F hK hW (show ("java/lang/StringUTF16", "$assertionsDisabled", "Z", (1 : Int32)) ∈ wSi by decide +kernel) (hwg _ wf_RJ2_44) dJ2_getChars_46870_14 ?_
  refine lv_if_ne (tgt := 34) hx hb dJ2_getChars_46870_17 (by decide) (fun c_5 => ?_) (fun c_5 => ?_)
  · replace hp := hp.1 c_5
    exact t_J2_getChars_46870_34 F hr hlocks hK hp hW hE (lv_sub hl [0] rfl)
  · replace hp := hp.2 c_5
    refine lv_iload_n hx hb dJ2_getChars_46870_20 rfl (lv_at hl 2 rfl) ?_
    refine lv_iload hx hb dJ2_getChars_46870_21 (lv_at hl 0 rfl) ?_
    refine lv_icmp_eq (tgt := 34) hx hb dJ2_getChars_46870_23 (by decide) (fun c_6 => ?_) (fun c_6 => ?_)
    · replace hp := hp.1 c_6
      exact t_J2_getChars_46870_34 F hr hlocks hK hp hW hE (lv_sub hl [0] rfl)
    · replace hp := hp.2 c_6
      exact hp.elim
set_option maxHeartbeats 4000000 in
set_option maxRecDepth 100000 in
theorem c_J2_getChars_46870 (l : Launch) {D : wD} {cy : Nat → ClassId} {X : va_W} {S0 : wS} {post : Int32 → wS → Prop} {x0 : Int32} {x1 : Int32} {x2 : Int32} {a3 : Nat} (hL_a3 : wM D S0 a3) (hK_a3 : sK S0 a3 = 20) (hp : wp_J2_getChars_46870 D post S0 x0 x1 x2 a3) : mI D cy X l yJ2_getChars_46870 wz_J2_getChars_46870 r_J2_getChars_46870 [.int x0, .int x1, .int x2, .ref a3] S0 (fun r S9 => wX D S0 S9 ∧ post r S9) := by
  intro sz
  refine Met.ofW (cc := cJ2_getChars_46870) (maxL := 5) (ret := (some .int)) (by decide) rfl ?_
  intro p e s m args below meth c s₁ B hml hv
  obtain ⟨rfl, hsz, hP, hK, hD0, hRO⟩ := hv
  have hts := atoms_spec (ws := wz_J2_getChars_46870) B.pre
  have hown : s.vm.findClass RJ2 = some m.cls := findClass_of_methodNamed B.named
  subst hsz
  have hD := hD0.self (sz := s.heap.size)
  have F : CallFix p m c cJ2_getChars_46870 5 s _ wz_J2_getChars_46870 RJ2 := ⟨B.exec, B.bytes, hml, hown, hts⟩
  have hr := B.returns
  have hlocks := B.notSynchronized
  generalize hAe : va_A (wL cy X S0) s.heap.size = A at hD hK ⊢
  have hA : ∀ q, s.heap.size ≤ q → A q := fun q h => by rw [← hAe]; exact Or.inr h
  have hW : wO D cy X A s.heap S0 s.heap [] := ⟨hP, hD, va_S.rf, hA, hRO⟩
  have hl := lv_entry ([.int x0, .int x1, .int x2, .ref a3]) (n := 5) (Nat.le_of_ble_eq_true rfl)
  rw [lg_entry_eq]
  generalize (lg_sl ([.int x0, .int x1, .int x2, .ref a3]) ++ List.replicate (5 - (lg_sl ([.int x0, .int x1, .int x2, .ref a3])).length) Slot.unset).toArray = ls at hl ⊢
  have hl : lv_has ls 5 [(0, .int x0), (1, .int x1), (2, .int x2), (3, .ref a3)] := hl
  unfold wp_J2_getChars_46870 at hp
  exact t_J2_getChars_46870_0 F hr hlocks hK hp hW wX.rf (lv_sub hl [0, 1, 2, 3] rfl) hL_a3 hK_a3
def wp_J6_getChars_ba4f3_118 (D : wD) (post : Int32 → wS → Prop)  (S : wS) (x5 : Int32) : Prop :=
post x5 S
def wp_J6_getChars_ba4f3_104 (D : wD) (post : Int32 → wS → Prop)  (S : wS) (a2 : Nat) (x5 : Int32) (x6 : Int32) : Prop :=
((x6 = 0 → wp_J6_getChars_ba4f3_118 D post S x5) ∧
 (¬ x6 = 0 → ∀ x_2 : Int32, x_2 = x5 + (-1) →
a2 ∈ sL S ∧ vp_in x_2 (sN S a2) ∧
∀ S_4 : wS, S_4 = uI S a2 (x_2).toNatClampNeg (vp_nar .byte (45 : Int32)) →
wp_J6_getChars_ba4f3_118 D post S_4 x_2))
def wp_J6_getChars_ba4f3_22 (D : wD) (post : Int32 → wS → Prop)  : Nat → wS → Int32 → Nat → Int32 → Int32 → Prop
  | 0, _, _, _, _, _ => False
  | n + 1, S, x0, a2, x5, x6 =>
    (((-100 : Int32) < x0 → ∀ x_2 : Int32, x_2 = x5 + (-1) →
    ∀ y_3 : Nat, y_3 = D.2.2.1 104 →
    vp_in (-x0) (sN S y_3) ∧
    a2 ∈ sL S ∧ vp_in x_2 (sN S a2) ∧
    ∀ S_6 : wS, S_6 = uI S a2 (x_2).toNatClampNeg (vp_nar .byte (sI S y_3 ((-x0)).toNatClampNeg)) →
    (((-9 : Int32) ≤ x0 → wp_J6_getChars_ba4f3_104 D post S_6 a2 x_2 x6) ∧
     (¬ (-9 : Int32) ≤ x0 → ∀ x_8 : Int32, x_8 = x_2 + (-1) →
    ∀ y_9 : Nat, y_9 = D.2.2.1 105 →
    vp_in (-x0) (sN S_6 y_9) ∧
    a2 ∈ sL S_6 ∧ vp_in x_8 (sN S_6 a2) ∧
    ∀ S_12 : wS, S_12 = uI S_6 a2 (x_8).toNatClampNeg (vp_nar .byte (sI S_6 y_9 ((-x0)).toNatClampNeg)) →
    wp_J6_getChars_ba4f3_104 D post S_12 a2 x_8 x6))) ∧
     (¬ (-100 : Int32) < x0 → ¬ (100 : Int32) = 0 ∧
    ∀ x_14 : Int32, x_14 = (x0 / (100 : Int32)) →
    ∀ x_15 : Int32, x_15 = ((x_14 * (100 : Int32)) - x0) →
    ∀ x_16 : Int32, x_16 = x5 + (-1) →
    ∀ y_17 : Nat, y_17 = D.2.2.1 104 →
    vp_in x_15 (sN S y_17) ∧
    a2 ∈ sL S ∧ vp_in x_16 (sN S a2) ∧
    ∀ S_20 : wS, S_20 = uI S a2 (x_16).toNatClampNeg (vp_nar .byte (sI S y_17 (x_15).toNatClampNeg)) →
    ∀ x_21 : Int32, x_21 = x_16 + (-1) →
    ∀ y_22 : Nat, y_22 = D.2.2.1 105 →
    vp_in x_15 (sN S_20 y_22) ∧
    a2 ∈ sL S_20 ∧ vp_in x_21 (sN S_20 a2) ∧
    ∀ S_25 : wS, S_25 = uI S_20 a2 (x_21).toNatClampNeg (vp_nar .byte (sI S_20 y_22 (x_15).toNatClampNeg)) →
    wp_J6_getChars_ba4f3_22 D post n S_25 x_14 a2 x_21 x6))
def wp_J6_getChars_ba4f3_12 (D : wD) (post : Int32 → wS → Prop)  (S : wS) (x0 : Int32) (a2 : Nat) (x5 : Int32) (t0 : Int32) : Prop :=
((¬ t0 = 0 → ∃ n_2 : Nat, wp_J6_getChars_ba4f3_22 D post n_2 S x0 a2 x5 t0) ∧
 (t0 = 0 → ∀ x_3 : Int32, x_3 = (-x0) →
∃ n_4 : Nat, wp_J6_getChars_ba4f3_22 D post n_4 S x_3 a2 x5 t0))
def wp_J6_getChars_ba4f3_0 (D : wD) (post : Int32 → wS → Prop)  (S : wS) (x0 : Int32) (x1 : Int32) (a2 : Nat) : Prop :=
((0 ≤ x0 → wp_J6_getChars_ba4f3_12 D post S x0 a2 x1 (0 : Int32)) ∧
 (¬ 0 ≤ x0 → wp_J6_getChars_ba4f3_12 D post S x0 a2 x1 (1 : Int32)))
abbrev r_J6_getChars_ba4f3 : Room := { frames := 0, cells := 0, slots := 0, locals := 0 }
def wp_J6_getChars_ba4f3 (D : wD) (post : Int32 → wS → Prop) (S : wS) (x0 : Int32) (x1 : Int32) (a2 : Nat) : Prop := wp_J6_getChars_ba4f3_0 D post S x0 x1 a2
set_option maxHeartbeats 4000000 in
set_option maxRecDepth 100000 in
theorem t_J6_getChars_ba4f3_118 {p : Program} {l : Launch} {e : Env} {s : State} {m : MethodId} {args : Array Value} {below : List Frame} {meth : Method} {c : Code} {D : wD} {cy : Nat → ClassId} {X : va_W} {A : Nat → Prop} {S0 : wS} {post : Int32 → wS → Prop} (F : CallFix p m c cJ6_getChars_ba4f3 7 s args wz_J6_getChars_ba4f3 RJ6) (hr : meth.sig.returnType = (some .int)) (hlocks : meth.locks = false) (hK : wK D cy A s) : ∀ {S : wS} {H : Heap} {locs : List Loc} {ls : Array Slot} {x5 : Int32}, wp_J6_getChars_ba4f3_118 D post S x5 → wO D cy X A s.heap S H locs → wX D S0 S → lv_has ls 7 [(5, .int x5)] → W p l e r_J6_getChars_ba4f3 s m args below meth c H locs 0 0 (MQ below (va_Qi (fun r S9 => wX D S0 S9 ∧ post r S9) (wB D cy X A) A) args s 0 0 A) (F0 m 118 ls []) := by
  obtain ⟨hx, hb, hml, hown, hts⟩ := id F
  have hwg : ∀ w ∈ WG, w.before args s = true := fun w h => hts w (List.mem_cons_of_mem _ h)
  intro S H locs ls x5 hp hW hE hl
  unfold wp_J6_getChars_ba4f3_118 at hp
  refine lv_iload hx hb dJ6_getChars_ba4f3_118 (lv_at hl 0 rfl) ?_
  exact w_iret hx hb hr hlocks hW ⟨hE, hp⟩ dJ6_getChars_ba4f3_120
set_option maxHeartbeats 4000000 in
set_option maxRecDepth 100000 in
theorem t_J6_getChars_ba4f3_104 {p : Program} {l : Launch} {e : Env} {s : State} {m : MethodId} {args : Array Value} {below : List Frame} {meth : Method} {c : Code} {D : wD} {cy : Nat → ClassId} {X : va_W} {A : Nat → Prop} {S0 : wS} {post : Int32 → wS → Prop} (F : CallFix p m c cJ6_getChars_ba4f3 7 s args wz_J6_getChars_ba4f3 RJ6) (hr : meth.sig.returnType = (some .int)) (hlocks : meth.locks = false) (hK : wK D cy A s) : ∀ {S : wS} {H : Heap} {locs : List Loc} {ls : Array Slot} {a2 : Nat} {x5 : Int32} {x6 : Int32}, wp_J6_getChars_ba4f3_104 D post S a2 x5 x6 → wO D cy X A s.heap S H locs → wX D S0 S → lv_has ls 7 [(2, .ref a2), (5, .int x5), (6, .int x6)] → wM D S a2 → sK S a2 = 20 → W p l e r_J6_getChars_ba4f3 s m args below meth c H locs 0 0 (MQ below (va_Qi (fun r S9 => wX D S0 S9 ∧ post r S9) (wB D cy X A) A) args s 0 0 A) (F0 m 104 ls []) := by
  obtain ⟨hx, hb, hml, hown, hts⟩ := id F
  have hwg : ∀ w ∈ WG, w.before args s = true := fun w h => hts w (List.mem_cons_of_mem _ h)
  intro S H locs ls a2 x5 x6 hp hW hE hl hL_a2 hK_a2
  unfold wp_J6_getChars_ba4f3_104 at hp
  refine lv_iload hx hb dJ6_getChars_ba4f3_104 (lv_at hl 2 rfl) ?_
  refine lv_if_eq (tgt := 118) hx hb dJ6_getChars_ba4f3_106 (by decide) (fun c_1 => ?_) (fun c_1 => ?_)
  · replace hp := hp.1 c_1
    exact t_J6_getChars_ba4f3_118 F hr hlocks hK hp hW hE (lv_sub hl [1] rfl)
  · replace hp := hp.2 c_1
    refine lv_aload_n hx hb dJ6_getChars_ba4f3_109 rfl (lv_at hl 0 rfl) ?_
    obtain ⟨x_2, ex_2⟩ : ∃ z : Int32, z = x5 + (-1) := ⟨_, rfl⟩
    replace hp := hp x_2 ex_2
    refine lv_iinc (v := x_2) (lv' := [(5, .int x_2), (2, .ref a2), (6, .int x6)]) hx hb dJ6_getChars_ba4f3_110 hl (k := 1) rfl (by rw [ex_2]; rfl) (by decide) rfl (fun ls hl => ?_)
    refine lv_iload hx hb dJ6_getChars_ba4f3_113 (lv_at hl 0 rfl) ?_
    refine lv_bipush (v := 45) hx hb dJ6_getChars_ba4f3_115 (by decide) ?_
    obtain ⟨h_3m, h_3, hp⟩ := hp
    refine w_bst F hK hW h_3m hK_a2 h_3 dJ6_getChars_ba4f3_117 (fun H locs hW => ?_)
    obtain ⟨S_4, eS_4⟩ : ∃ z : wS, z = uI S a2 (x_2).toNatClampNeg (vp_nar .byte (45 : Int32)) := ⟨_, rfl⟩
    rw [← eS_4] at hW
    replace hp := hp S_4 eS_4
    have hX_S_4 : wX D S S_4 := by rw [eS_4]; exact wX_uI
    have hE := hE.trans hX_S_4
    have hK_a2 : sK S_4 a2 = 20 := (hX_S_4.2 a2 hL_a2).1.trans hK_a2
    have hL_a2 : wM D S_4 a2 := hX_S_4.M hL_a2
    exact t_J6_getChars_ba4f3_118 F hr hlocks hK hp hW hE (lv_sub hl [0] rfl)
set_option maxHeartbeats 4000000 in
set_option maxRecDepth 100000 in
theorem t_J6_getChars_ba4f3_22 {p : Program} {l : Launch} {e : Env} {s : State} {m : MethodId} {args : Array Value} {below : List Frame} {meth : Method} {c : Code} {D : wD} {cy : Nat → ClassId} {X : va_W} {A : Nat → Prop} {S0 : wS} {post : Int32 → wS → Prop} (F : CallFix p m c cJ6_getChars_ba4f3 7 s args wz_J6_getChars_ba4f3 RJ6) (hr : meth.sig.returnType = (some .int)) (hlocks : meth.locks = false) (hK : wK D cy A s) : ∀ (n : Nat) {S : wS} {H : Heap} {locs : List Loc} {ls : Array Slot} {x0 : Int32} {a2 : Nat} {x5 : Int32} {x6 : Int32}, wp_J6_getChars_ba4f3_22 D post n S x0 a2 x5 x6 → wO D cy X A s.heap S H locs → wX D S0 S → lv_has ls 7 [(0, .int x0), (2, .ref a2), (5, .int x5), (6, .int x6)] → wM D S a2 → sK S a2 = 20 → W p l e r_J6_getChars_ba4f3 s m args below meth c H locs 0 0 (MQ below (va_Qi (fun r S9 => wX D S0 S9 ∧ post r S9) (wB D cy X A) A) args s 0 0 A) (F0 m 22 ls []) := by
  obtain ⟨hx, hb, hml, hown, hts⟩ := id F
  have hwg : ∀ w ∈ WG, w.before args s = true := fun w h => hts w (List.mem_cons_of_mem _ h)
  intro n
  induction n with
  | zero =>
    intro S H locs ls x0 a2 x5 x6 hp
    exact hp.elim
  | succ n ih =>
    intro S H locs ls x0 a2 x5 x6 hp hW hE hl hL_a2 hK_a2
    unfold wp_J6_getChars_ba4f3_22 at hp
    refine lv_iload_n hx hb dJ6_getChars_ba4f3_22 rfl (lv_at hl 0 rfl) ?_
    refine lv_bipush (v := (-100)) hx hb dJ6_getChars_ba4f3_23 (by decide) ?_
    refine lv_icmp_gt (tgt := 72) hx hb dJ6_getChars_ba4f3_25 (by decide) (fun c_1 => ?_) (fun c_1 => ?_)
    · replace hp := hp.1 c_1
      refine lv_aload_n hx hb dJ6_getChars_ba4f3_72 rfl (lv_at hl 1 rfl) ?_
      obtain ⟨x_2, ex_2⟩ : ∃ z : Int32, z = x5 + (-1) := ⟨_, rfl⟩
      replace hp := hp x_2 ex_2
      refine lv_iinc (v := x_2) (lv' := [(5, .int x_2), (0, .int x0), (2, .ref a2), (6, .int x6)]) hx hb dJ6_getChars_ba4f3_73 hl (k := 2) rfl (by rw [ex_2]; rfl) (by decide) rfl (fun ls hl => ?_)
      refine lv_iload hx hb dJ6_getChars_ba4f3_76 (lv_at hl 0 rfl) ?_
      refine w_stat F hK hW (show ("java/lang/Integer", "DigitOnes", "[B", 104, 20) ∈ wSr by decide +kernel) (hwg _ wf_RJ6_83) dJ6_getChars_ba4f3_78 ?_
      obtain ⟨y_3, ey_3⟩ : ∃ z : Nat, z = D.2.2.1 104 := ⟨_, rfl⟩
      rw [← ey_3]
      replace hp := hp y_3 ey_3
      obtain ⟨hL_y_3, hK_y_3⟩ : wM D S y_3 ∧ sK S y_3 = 20 := by rw [ey_3]; exact w_statM hK hW (show ("java/lang/Integer", "DigitOnes", "[B", 104, 20) ∈ wSr by decide +kernel)
      refine lv_iload_n hx hb dJ6_getChars_ba4f3_81 rfl (lv_at hl 1 rfl) ?_
      refine lv_ineg hx hb dJ6_getChars_ba4f3_82 ?_
      obtain ⟨h_4, hp⟩ := hp
      refine w_bld F hK hW hL_y_3 hK_y_3 h_4 dJ6_getChars_ba4f3_83 ?_
      obtain ⟨h_5m, h_5, hp⟩ := hp
      refine w_bst F hK hW h_5m hK_a2 h_5 dJ6_getChars_ba4f3_84 (fun H locs hW => ?_)
      obtain ⟨S_6, eS_6⟩ : ∃ z : wS, z = uI S a2 (x_2).toNatClampNeg (vp_nar .byte (sI S y_3 ((-x0)).toNatClampNeg)) := ⟨_, rfl⟩
      rw [← eS_6] at hW
      replace hp := hp S_6 eS_6
      have hX_S_6 : wX D S S_6 := by rw [eS_6]; exact wX_uI
      have hE := hE.trans hX_S_6
      have hK_a2 : sK S_6 a2 = 20 := (hX_S_6.2 a2 hL_a2).1.trans hK_a2
      have hL_a2 : wM D S_6 a2 := hX_S_6.M hL_a2
      refine lv_iload_n hx hb dJ6_getChars_ba4f3_85 rfl (lv_at hl 1 rfl) ?_
      refine lv_bipush (v := (-9)) hx hb dJ6_getChars_ba4f3_86 (by decide) ?_
      refine lv_icmp_ge (tgt := 104) hx hb dJ6_getChars_ba4f3_88 (by decide) (fun c_7 => ?_) (fun c_7 => ?_)
      · replace hp := hp.1 c_7
        exact t_J6_getChars_ba4f3_104 F hr hlocks hK hp hW hE (lv_sub hl [2, 0, 3] rfl) hL_a2 hK_a2
      · replace hp := hp.2 c_7
        refine lv_aload_n hx hb dJ6_getChars_ba4f3_91 rfl (lv_at hl 2 rfl) ?_
        obtain ⟨x_8, ex_8⟩ : ∃ z : Int32, z = x_2 + (-1) := ⟨_, rfl⟩
        replace hp := hp x_8 ex_8
        refine lv_iinc (v := x_8) (lv' := [(5, .int x_8), (0, .int x0), (2, .ref a2), (6, .int x6)]) hx hb dJ6_getChars_ba4f3_92 hl (k := 0) rfl (by rw [ex_8]; rfl) (by decide) rfl (fun ls hl => ?_)
        refine lv_iload hx hb dJ6_getChars_ba4f3_95 (lv_at hl 0 rfl) ?_
        refine w_stat F hK hW (show ("java/lang/Integer", "DigitTens", "[B", 105, 20) ∈ wSr by decide +kernel) (hwg _ wf_RJ6_87) dJ6_getChars_ba4f3_97 ?_
        obtain ⟨y_9, ey_9⟩ : ∃ z : Nat, z = D.2.2.1 105 := ⟨_, rfl⟩
        rw [← ey_9]
        replace hp := hp y_9 ey_9
        obtain ⟨hL_y_9, hK_y_9⟩ : wM D S_6 y_9 ∧ sK S_6 y_9 = 20 := by rw [ey_9]; exact w_statM hK hW (show ("java/lang/Integer", "DigitTens", "[B", 105, 20) ∈ wSr by decide +kernel)
        refine lv_iload_n hx hb dJ6_getChars_ba4f3_100 rfl (lv_at hl 1 rfl) ?_
        refine lv_ineg hx hb dJ6_getChars_ba4f3_101 ?_
        obtain ⟨h_10, hp⟩ := hp
        refine w_bld F hK hW hL_y_9 hK_y_9 h_10 dJ6_getChars_ba4f3_102 ?_
        obtain ⟨h_11m, h_11, hp⟩ := hp
        refine w_bst F hK hW h_11m hK_a2 h_11 dJ6_getChars_ba4f3_103 (fun H locs hW => ?_)
        obtain ⟨S_12, eS_12⟩ : ∃ z : wS, z = uI S_6 a2 (x_8).toNatClampNeg (vp_nar .byte (sI S_6 y_9 ((-x0)).toNatClampNeg)) := ⟨_, rfl⟩
        rw [← eS_12] at hW
        replace hp := hp S_12 eS_12
        have hX_S_12 : wX D S_6 S_12 := by rw [eS_12]; exact wX_uI
        have hE := hE.trans hX_S_12
        have hK_a2 : sK S_12 a2 = 20 := (hX_S_12.2 a2 hL_a2).1.trans hK_a2
        have hL_a2 : wM D S_12 a2 := hX_S_12.M hL_a2
        exact t_J6_getChars_ba4f3_104 F hr hlocks hK hp hW hE (lv_sub hl [2, 0, 3] rfl) hL_a2 hK_a2
    · replace hp := hp.2 c_1
      refine lv_iload_n hx hb dJ6_getChars_ba4f3_28 rfl (lv_at hl 0 rfl) ?_
      refine lv_bipush (v := 100) hx hb dJ6_getChars_ba4f3_29 (by decide) ?_
      obtain ⟨h_13, hp⟩ := hp
      refine lv_idiv hx hb dJ6_getChars_ba4f3_31 h_13 ?_
      refine lv_topi (fun x_14 ex_14 => ?_)
      replace hp := hp x_14 ex_14
      refine lv_istore_n (lv' := [(3, .int x_14), (0, .int x0), (2, .ref a2), (5, .int x5), (6, .int x6)]) hx hb dJ6_getChars_ba4f3_32 rfl hl (by decide) rfl (fun ls hl => ?_)
      refine lv_iload_n hx hb dJ6_getChars_ba4f3_33 rfl (lv_at hl 0 rfl) ?_
      refine lv_bipush (v := 100) hx hb dJ6_getChars_ba4f3_34 (by decide) ?_
      refine lv_imul hx hb dJ6_getChars_ba4f3_36 ?_
      refine lv_iload_n hx hb dJ6_getChars_ba4f3_37 rfl (lv_at hl 1 rfl) ?_
      refine lv_isub hx hb dJ6_getChars_ba4f3_38 ?_
      refine lv_topi (fun x_15 ex_15 => ?_)
      replace hp := hp x_15 ex_15
      refine lv_istore (lv' := [(4, .int x_15), (3, .int x_14), (0, .int x0), (2, .ref a2), (5, .int x5), (6, .int x6)]) hx hb dJ6_getChars_ba4f3_39 hl (by decide) rfl (fun ls hl => ?_)
      refine lv_iload_n hx hb dJ6_getChars_ba4f3_41 rfl (lv_at hl 1 rfl) ?_
      refine lv_istore_n (lv' := [(0, .int x_14), (4, .int x_15), (3, .int x_14), (2, .ref a2), (5, .int x5), (6, .int x6)]) hx hb dJ6_getChars_ba4f3_42 rfl hl (by decide) rfl (fun ls hl => ?_)
      refine lv_aload_n hx hb dJ6_getChars_ba4f3_43 rfl (lv_at hl 3 rfl) ?_
      obtain ⟨x_16, ex_16⟩ : ∃ z : Int32, z = x5 + (-1) := ⟨_, rfl⟩
      replace hp := hp x_16 ex_16
      refine lv_iinc (v := x_16) (lv' := [(5, .int x_16), (0, .int x_14), (4, .int x_15), (3, .int x_14), (2, .ref a2), (6, .int x6)]) hx hb dJ6_getChars_ba4f3_44 hl (k := 4) rfl (by rw [ex_16]; rfl) (by decide) rfl (fun ls hl => ?_)
      refine lv_iload hx hb dJ6_getChars_ba4f3_47 (lv_at hl 0 rfl) ?_
      refine w_stat F hK hW (show ("java/lang/Integer", "DigitOnes", "[B", 104, 20) ∈ wSr by decide +kernel) (hwg _ wf_RJ6_83) dJ6_getChars_ba4f3_49 ?_
      obtain ⟨y_17, ey_17⟩ : ∃ z : Nat, z = D.2.2.1 104 := ⟨_, rfl⟩
      rw [← ey_17]
      replace hp := hp y_17 ey_17
      obtain ⟨hL_y_17, hK_y_17⟩ : wM D S y_17 ∧ sK S y_17 = 20 := by rw [ey_17]; exact w_statM hK hW (show ("java/lang/Integer", "DigitOnes", "[B", 104, 20) ∈ wSr by decide +kernel)
      refine lv_iload hx hb dJ6_getChars_ba4f3_52 (lv_at hl 2 rfl) ?_
      obtain ⟨h_18, hp⟩ := hp
      refine w_bld F hK hW hL_y_17 hK_y_17 h_18 dJ6_getChars_ba4f3_54 ?_
      obtain ⟨h_19m, h_19, hp⟩ := hp
      refine w_bst F hK hW h_19m hK_a2 h_19 dJ6_getChars_ba4f3_55 (fun H locs hW => ?_)
      obtain ⟨S_20, eS_20⟩ : ∃ z : wS, z = uI S a2 (x_16).toNatClampNeg (vp_nar .byte (sI S y_17 (x_15).toNatClampNeg)) := ⟨_, rfl⟩
      rw [← eS_20] at hW
      replace hp := hp S_20 eS_20
      have hX_S_20 : wX D S S_20 := by rw [eS_20]; exact wX_uI
      have hE := hE.trans hX_S_20
      have hK_a2 : sK S_20 a2 = 20 := (hX_S_20.2 a2 hL_a2).1.trans hK_a2
      have hL_a2 : wM D S_20 a2 := hX_S_20.M hL_a2
      refine lv_aload_n hx hb dJ6_getChars_ba4f3_56 rfl (lv_at hl 4 rfl) ?_
      obtain ⟨x_21, ex_21⟩ : ∃ z : Int32, z = x_16 + (-1) := ⟨_, rfl⟩
      replace hp := hp x_21 ex_21
      refine lv_iinc (v := x_21) (lv' := [(5, .int x_21), (0, .int x_14), (4, .int x_15), (3, .int x_14), (2, .ref a2), (6, .int x6)]) hx hb dJ6_getChars_ba4f3_57 hl (k := 0) rfl (by rw [ex_21]; rfl) (by decide) rfl (fun ls hl => ?_)
      refine lv_iload hx hb dJ6_getChars_ba4f3_60 (lv_at hl 0 rfl) ?_
      refine w_stat F hK hW (show ("java/lang/Integer", "DigitTens", "[B", 105, 20) ∈ wSr by decide +kernel) (hwg _ wf_RJ6_87) dJ6_getChars_ba4f3_62 ?_
      obtain ⟨y_22, ey_22⟩ : ∃ z : Nat, z = D.2.2.1 105 := ⟨_, rfl⟩
      rw [← ey_22]
      replace hp := hp y_22 ey_22
      obtain ⟨hL_y_22, hK_y_22⟩ : wM D S_20 y_22 ∧ sK S_20 y_22 = 20 := by rw [ey_22]; exact w_statM hK hW (show ("java/lang/Integer", "DigitTens", "[B", 105, 20) ∈ wSr by decide +kernel)
      refine lv_iload hx hb dJ6_getChars_ba4f3_65 (lv_at hl 2 rfl) ?_
      obtain ⟨h_23, hp⟩ := hp
      refine w_bld F hK hW hL_y_22 hK_y_22 h_23 dJ6_getChars_ba4f3_67 ?_
      obtain ⟨h_24m, h_24, hp⟩ := hp
      refine w_bst F hK hW h_24m hK_a2 h_24 dJ6_getChars_ba4f3_68 (fun H locs hW => ?_)
      obtain ⟨S_25, eS_25⟩ : ∃ z : wS, z = uI S_20 a2 (x_21).toNatClampNeg (vp_nar .byte (sI S_20 y_22 (x_15).toNatClampNeg)) := ⟨_, rfl⟩
      rw [← eS_25] at hW
      replace hp := hp S_25 eS_25
      have hX_S_25 : wX D S_20 S_25 := by rw [eS_25]; exact wX_uI
      have hE := hE.trans hX_S_25
      have hK_a2 : sK S_25 a2 = 20 := (hX_S_25.2 a2 hL_a2).1.trans hK_a2
      have hL_a2 : wM D S_25 a2 := hX_S_25.M hL_a2
      refine lv_goto (tgt := 22) hx hb dJ6_getChars_ba4f3_69 (by decide) ?_
      exact ih hp hW hE (lv_sub hl [1, 4, 0, 5] rfl) hL_a2 hK_a2
set_option maxHeartbeats 4000000 in
set_option maxRecDepth 100000 in
theorem t_J6_getChars_ba4f3_12 {p : Program} {l : Launch} {e : Env} {s : State} {m : MethodId} {args : Array Value} {below : List Frame} {meth : Method} {c : Code} {D : wD} {cy : Nat → ClassId} {X : va_W} {A : Nat → Prop} {S0 : wS} {post : Int32 → wS → Prop} (F : CallFix p m c cJ6_getChars_ba4f3 7 s args wz_J6_getChars_ba4f3 RJ6) (hr : meth.sig.returnType = (some .int)) (hlocks : meth.locks = false) (hK : wK D cy A s) : ∀ {S : wS} {H : Heap} {locs : List Loc} {ls : Array Slot} {x0 : Int32} {a2 : Nat} {x5 : Int32} {t0 : Int32}, wp_J6_getChars_ba4f3_12 D post S x0 a2 x5 t0 → wO D cy X A s.heap S H locs → wX D S0 S → lv_has ls 7 [(0, .int x0), (2, .ref a2), (5, .int x5)] → wM D S a2 → sK S a2 = 20 → W p l e r_J6_getChars_ba4f3 s m args below meth c H locs 0 0 (MQ below (va_Qi (fun r S9 => wX D S0 S9 ∧ post r S9) (wB D cy X A) A) args s 0 0 A) (F0 m 12 ls [.int t0]) := by
  obtain ⟨hx, hb, hml, hown, hts⟩ := id F
  have hwg : ∀ w ∈ WG, w.before args s = true := fun w h => hts w (List.mem_cons_of_mem _ h)
  intro S H locs ls x0 a2 x5 t0 hp hW hE hl hL_a2 hK_a2
  unfold wp_J6_getChars_ba4f3_12 at hp
  refine lv_istore (lv' := [(6, .int t0), (0, .int x0), (2, .ref a2), (5, .int x5)]) hx hb dJ6_getChars_ba4f3_12 hl (by decide) rfl (fun ls hl => ?_)
  refine lv_iload hx hb dJ6_getChars_ba4f3_14 (lv_at hl 0 rfl) ?_
  refine lv_if_ne (tgt := 22) hx hb dJ6_getChars_ba4f3_16 (by decide) (fun c_1 => ?_) (fun c_1 => ?_)
  · replace hp := hp.1 c_1
    obtain ⟨n_2, hp⟩ := hp
    exact t_J6_getChars_ba4f3_22 F hr hlocks hK n_2 hp hW hE (lv_sub hl [1, 2, 3, 0] rfl) hL_a2 hK_a2
  · replace hp := hp.2 c_1
    refine lv_iload_n hx hb dJ6_getChars_ba4f3_19 rfl (lv_at hl 1 rfl) ?_
    refine lv_ineg hx hb dJ6_getChars_ba4f3_20 ?_
    refine lv_topi (fun x_3 ex_3 => ?_)
    replace hp := hp x_3 ex_3
    refine lv_istore_n (lv' := [(0, .int x_3), (6, .int t0), (2, .ref a2), (5, .int x5)]) hx hb dJ6_getChars_ba4f3_21 rfl hl (by decide) rfl (fun ls hl => ?_)
    obtain ⟨n_4, hp⟩ := hp
    exact t_J6_getChars_ba4f3_22 F hr hlocks hK n_4 hp hW hE (lv_sub hl [0, 2, 3, 1] rfl) hL_a2 hK_a2
set_option maxHeartbeats 4000000 in
set_option maxRecDepth 100000 in
theorem t_J6_getChars_ba4f3_0 {p : Program} {l : Launch} {e : Env} {s : State} {m : MethodId} {args : Array Value} {below : List Frame} {meth : Method} {c : Code} {D : wD} {cy : Nat → ClassId} {X : va_W} {A : Nat → Prop} {S0 : wS} {post : Int32 → wS → Prop} (F : CallFix p m c cJ6_getChars_ba4f3 7 s args wz_J6_getChars_ba4f3 RJ6) (hr : meth.sig.returnType = (some .int)) (hlocks : meth.locks = false) (hK : wK D cy A s) : ∀ {S : wS} {H : Heap} {locs : List Loc} {ls : Array Slot} {x0 : Int32} {x1 : Int32} {a2 : Nat}, wp_J6_getChars_ba4f3_0 D post S x0 x1 a2 → wO D cy X A s.heap S H locs → wX D S0 S → lv_has ls 7 [(0, .int x0), (1, .int x1), (2, .ref a2)] → wM D S a2 → sK S a2 = 20 → W p l e r_J6_getChars_ba4f3 s m args below meth c H locs 0 0 (MQ below (va_Qi (fun r S9 => wX D S0 S9 ∧ post r S9) (wB D cy X A) A) args s 0 0 A) (F0 m 0 ls []) := by
  obtain ⟨hx, hb, hml, hown, hts⟩ := id F
  have hwg : ∀ w ∈ WG, w.before args s = true := fun w h => hts w (List.mem_cons_of_mem _ h)
  intro S H locs ls x0 x1 a2 hp hW hE hl hL_a2 hK_a2
  unfold wp_J6_getChars_ba4f3_0 at hp
  refine lv_iload_n hx hb dJ6_getChars_ba4f3_0 rfl (lv_at hl 1 rfl) ?_
  refine lv_istore (lv' := [(5, .int x1), (0, .int x0), (1, .int x1), (2, .ref a2)]) hx hb dJ6_getChars_ba4f3_1 hl (by decide) rfl (fun ls hl => ?_)
  refine lv_iload_n hx hb dJ6_getChars_ba4f3_3 rfl (lv_at hl 1 rfl) ?_
  refine lv_if_ge (tgt := 11) hx hb dJ6_getChars_ba4f3_4 (by decide) (fun c_1 => ?_) (fun c_1 => ?_)
  · replace hp := hp.1 c_1
    refine lv_iconst (v := 0) hx hb dJ6_getChars_ba4f3_11 (by decide) ?_
    exact t_J6_getChars_ba4f3_12 F hr hlocks hK hp hW hE (lv_sub hl [1, 3, 0] rfl) hL_a2 hK_a2
  · replace hp := hp.2 c_1
    refine lv_iconst (v := 1) hx hb dJ6_getChars_ba4f3_7 (by decide) ?_
    refine lv_goto (tgt := 12) hx hb dJ6_getChars_ba4f3_8 (by decide) ?_
    exact t_J6_getChars_ba4f3_12 F hr hlocks hK hp hW hE (lv_sub hl [1, 3, 0] rfl) hL_a2 hK_a2
set_option maxHeartbeats 4000000 in
set_option maxRecDepth 100000 in
theorem c_J6_getChars_ba4f3 (l : Launch) {D : wD} {cy : Nat → ClassId} {X : va_W} {S0 : wS} {post : Int32 → wS → Prop} {x0 : Int32} {x1 : Int32} {a2 : Nat} (hL_a2 : wM D S0 a2) (hK_a2 : sK S0 a2 = 20) (hp : wp_J6_getChars_ba4f3 D post S0 x0 x1 a2) : mI D cy X l yJ6_getChars_ba4f3 wz_J6_getChars_ba4f3 r_J6_getChars_ba4f3 [.int x0, .int x1, .ref a2] S0 (fun r S9 => wX D S0 S9 ∧ post r S9) := by
  intro sz
  refine Met.ofW (cc := cJ6_getChars_ba4f3) (maxL := 7) (ret := (some .int)) (by decide) rfl ?_
  intro p e s m args below meth c s₁ B hml hv
  obtain ⟨rfl, hsz, hP, hK, hD0, hRO⟩ := hv
  have hts := atoms_spec (ws := wz_J6_getChars_ba4f3) B.pre
  have hown : s.vm.findClass RJ6 = some m.cls := findClass_of_methodNamed B.named
  subst hsz
  have hD := hD0.self (sz := s.heap.size)
  have F : CallFix p m c cJ6_getChars_ba4f3 7 s _ wz_J6_getChars_ba4f3 RJ6 := ⟨B.exec, B.bytes, hml, hown, hts⟩
  have hr := B.returns
  have hlocks := B.notSynchronized
  generalize hAe : va_A (wL cy X S0) s.heap.size = A at hD hK ⊢
  have hA : ∀ q, s.heap.size ≤ q → A q := fun q h => by rw [← hAe]; exact Or.inr h
  have hW : wO D cy X A s.heap S0 s.heap [] := ⟨hP, hD, va_S.rf, hA, hRO⟩
  have hl := lv_entry ([.int x0, .int x1, .ref a2]) (n := 7) (Nat.le_of_ble_eq_true rfl)
  rw [lg_entry_eq]
  generalize (lg_sl ([.int x0, .int x1, .ref a2]) ++ List.replicate (7 - (lg_sl ([.int x0, .int x1, .ref a2])).length) Slot.unset).toArray = ls at hl ⊢
  have hl : lv_has ls 7 [(0, .int x0), (1, .int x1), (2, .ref a2)] := hl
  unfold wp_J6_getChars_ba4f3 at hp
  exact t_J6_getChars_ba4f3_0 F hr hlocks hK hp hW wX.rf (lv_sub hl [0, 1, 2] rfl) hL_a2 hK_a2
def wp_J6_stringSize_0f7a4_16 (D : wD) (post : Int32 → wS → Prop)  : Nat → wS → Int32 → Int32 → Int32 → Int32 → Prop
  | 0, _, _, _, _, _ => False
  | n + 1, S, x0, x1, x2, x3 =>
    (((10 : Int32) ≤ x3 → post ((10 : Int32) + x1) S) ∧
     (¬ (10 : Int32) ≤ x3 → ((x0 ≤ x2 → ∀ x_3 : Int32, x_3 = ((10 : Int32) * x2) →
    ∀ x_4 : Int32, x_4 = x3 + 1 →
    wp_J6_stringSize_0f7a4_16 D post n S x0 x1 x_3 x_4) ∧
     (¬ x0 ≤ x2 → post (x3 + x1) S))))
def wp_J6_stringSize_0f7a4_11 (D : wD) (post : Int32 → wS → Prop)  (S : wS) (x0 : Int32) (x1 : Int32) : Prop :=
∃ n_1 : Nat, wp_J6_stringSize_0f7a4_16 D post n_1 S x0 x1 (-10 : Int32) (1 : Int32)
def wp_J6_stringSize_0f7a4_0 (D : wD) (post : Int32 → wS → Prop)  (S : wS) (x0 : Int32) : Prop :=
((x0 < 0 → wp_J6_stringSize_0f7a4_11 D post S x0 (1 : Int32)) ∧
 (¬ x0 < 0 → ∀ x_2 : Int32, x_2 = (-x0) →
wp_J6_stringSize_0f7a4_11 D post S x_2 (0 : Int32)))
abbrev r_J6_stringSize_0f7a4 : Room := { frames := 0, cells := 0, slots := 0, locals := 0 }
def wp_J6_stringSize_0f7a4 (D : wD) (post : Int32 → wS → Prop) (S : wS) (x0 : Int32) : Prop := wp_J6_stringSize_0f7a4_0 D post S x0
set_option maxHeartbeats 4000000 in
set_option maxRecDepth 100000 in
theorem t_J6_stringSize_0f7a4_16 {p : Program} {l : Launch} {e : Env} {s : State} {m : MethodId} {args : Array Value} {below : List Frame} {meth : Method} {c : Code} {D : wD} {cy : Nat → ClassId} {X : va_W} {A : Nat → Prop} {S0 : wS} {post : Int32 → wS → Prop} (F : CallFix p m c cJ6_stringSize_0f7a4 4 s args wz_J6_stringSize_0f7a4 RJ6) (hr : meth.sig.returnType = (some .int)) (hlocks : meth.locks = false) (hK : wK D cy A s) : ∀ (n : Nat) {S : wS} {H : Heap} {locs : List Loc} {ls : Array Slot} {x0 : Int32} {x1 : Int32} {x2 : Int32} {x3 : Int32}, wp_J6_stringSize_0f7a4_16 D post n S x0 x1 x2 x3 → wO D cy X A s.heap S H locs → wX D S0 S → lv_has ls 4 [(0, .int x0), (1, .int x1), (2, .int x2), (3, .int x3)] → W p l e r_J6_stringSize_0f7a4 s m args below meth c H locs 0 0 (MQ below (va_Qi (fun r S9 => wX D S0 S9 ∧ post r S9) (wB D cy X A) A) args s 0 0 A) (F0 m 16 ls []) := by
  obtain ⟨hx, hb, hml, hown, hts⟩ := id F
  have hwg : ∀ w ∈ WG, w.before args s = true := fun w h => hts w (List.mem_cons_of_mem _ h)
  intro n
  induction n with
  | zero =>
    intro S H locs ls x0 x1 x2 x3 hp
    exact hp.elim
  | succ n ih =>
    intro S H locs ls x0 x1 x2 x3 hp hW hE hl
    unfold wp_J6_stringSize_0f7a4_16 at hp
    refine lv_iload_n hx hb dJ6_stringSize_0f7a4_16 rfl (lv_at hl 3 rfl) ?_
    refine lv_bipush (v := 10) hx hb dJ6_stringSize_0f7a4_17 (by decide) ?_
    refine lv_icmp_ge (tgt := 42) hx hb dJ6_stringSize_0f7a4_19 (by decide) (fun c_1 => ?_) (fun c_1 => ?_)
    · replace hp := hp.1 c_1
      refine lv_bipush (v := 10) hx hb dJ6_stringSize_0f7a4_42 (by decide) ?_
      refine lv_iload_n hx hb dJ6_stringSize_0f7a4_44 rfl (lv_at hl 1 rfl) ?_
      refine lv_iadd hx hb dJ6_stringSize_0f7a4_45 ?_
      exact w_iret hx hb hr hlocks hW ⟨hE, hp⟩ dJ6_stringSize_0f7a4_46
    · replace hp := hp.2 c_1
      refine lv_iload_n hx hb dJ6_stringSize_0f7a4_22 rfl (lv_at hl 0 rfl) ?_
      refine lv_iload_n hx hb dJ6_stringSize_0f7a4_23 rfl (lv_at hl 2 rfl) ?_
      refine lv_icmp_le (tgt := 31) hx hb dJ6_stringSize_0f7a4_24 (by decide) (fun c_2 => ?_) (fun c_2 => ?_)
      · replace hp := hp.1 c_2
        refine lv_bipush (v := 10) hx hb dJ6_stringSize_0f7a4_31 (by decide) ?_
        refine lv_iload_n hx hb dJ6_stringSize_0f7a4_33 rfl (lv_at hl 2 rfl) ?_
        refine lv_imul hx hb dJ6_stringSize_0f7a4_34 ?_
        refine lv_topi (fun x_3 ex_3 => ?_)
        replace hp := hp x_3 ex_3
        refine lv_istore_n (lv' := [(2, .int x_3), (0, .int x0), (1, .int x1), (3, .int x3)]) hx hb dJ6_stringSize_0f7a4_35 rfl hl (by decide) rfl (fun ls hl => ?_)
        obtain ⟨x_4, ex_4⟩ : ∃ z : Int32, z = x3 + 1 := ⟨_, rfl⟩
        replace hp := hp x_4 ex_4
        refine lv_iinc (v := x_4) (lv' := [(3, .int x_4), (2, .int x_3), (0, .int x0), (1, .int x1)]) hx hb dJ6_stringSize_0f7a4_36 hl (k := 3) rfl (by rw [ex_4]; rfl) (by decide) rfl (fun ls hl => ?_)
        refine lv_goto (tgt := 16) hx hb dJ6_stringSize_0f7a4_39 (by decide) ?_
        exact ih hp hW hE (lv_sub hl [2, 3, 1, 0] rfl)
      · replace hp := hp.2 c_2
        refine lv_iload_n hx hb dJ6_stringSize_0f7a4_27 rfl (lv_at hl 3 rfl) ?_
        refine lv_iload_n hx hb dJ6_stringSize_0f7a4_28 rfl (lv_at hl 1 rfl) ?_
        refine lv_iadd hx hb dJ6_stringSize_0f7a4_29 ?_
        exact w_iret hx hb hr hlocks hW ⟨hE, hp⟩ dJ6_stringSize_0f7a4_30
set_option maxHeartbeats 4000000 in
set_option maxRecDepth 100000 in
theorem t_J6_stringSize_0f7a4_11 {p : Program} {l : Launch} {e : Env} {s : State} {m : MethodId} {args : Array Value} {below : List Frame} {meth : Method} {c : Code} {D : wD} {cy : Nat → ClassId} {X : va_W} {A : Nat → Prop} {S0 : wS} {post : Int32 → wS → Prop} (F : CallFix p m c cJ6_stringSize_0f7a4 4 s args wz_J6_stringSize_0f7a4 RJ6) (hr : meth.sig.returnType = (some .int)) (hlocks : meth.locks = false) (hK : wK D cy A s) : ∀ {S : wS} {H : Heap} {locs : List Loc} {ls : Array Slot} {x0 : Int32} {x1 : Int32}, wp_J6_stringSize_0f7a4_11 D post S x0 x1 → wO D cy X A s.heap S H locs → wX D S0 S → lv_has ls 4 [(0, .int x0), (1, .int x1)] → W p l e r_J6_stringSize_0f7a4 s m args below meth c H locs 0 0 (MQ below (va_Qi (fun r S9 => wX D S0 S9 ∧ post r S9) (wB D cy X A) A) args s 0 0 A) (F0 m 11 ls []) := by
  obtain ⟨hx, hb, hml, hown, hts⟩ := id F
  have hwg : ∀ w ∈ WG, w.before args s = true := fun w h => hts w (List.mem_cons_of_mem _ h)
  intro S H locs ls x0 x1 hp hW hE hl
  unfold wp_J6_stringSize_0f7a4_11 at hp
  refine lv_bipush (v := (-10)) hx hb dJ6_stringSize_0f7a4_11 (by decide) ?_
  refine lv_istore_n (lv' := [(2, .int (-10 : Int32)), (0, .int x0), (1, .int x1)]) hx hb dJ6_stringSize_0f7a4_13 rfl hl (by decide) rfl (fun ls hl => ?_)
  refine lv_iconst (v := 1) hx hb dJ6_stringSize_0f7a4_14 (by decide) ?_
  refine lv_istore_n (lv' := [(3, .int (1 : Int32)), (2, .int (-10 : Int32)), (0, .int x0), (1, .int x1)]) hx hb dJ6_stringSize_0f7a4_15 rfl hl (by decide) rfl (fun ls hl => ?_)
  obtain ⟨n_1, hp⟩ := hp
  exact t_J6_stringSize_0f7a4_16 F hr hlocks hK n_1 hp hW hE (lv_sub hl [2, 3, 1, 0] rfl)
set_option maxHeartbeats 4000000 in
set_option maxRecDepth 100000 in
theorem t_J6_stringSize_0f7a4_0 {p : Program} {l : Launch} {e : Env} {s : State} {m : MethodId} {args : Array Value} {below : List Frame} {meth : Method} {c : Code} {D : wD} {cy : Nat → ClassId} {X : va_W} {A : Nat → Prop} {S0 : wS} {post : Int32 → wS → Prop} (F : CallFix p m c cJ6_stringSize_0f7a4 4 s args wz_J6_stringSize_0f7a4 RJ6) (hr : meth.sig.returnType = (some .int)) (hlocks : meth.locks = false) (hK : wK D cy A s) : ∀ {S : wS} {H : Heap} {locs : List Loc} {ls : Array Slot} {x0 : Int32}, wp_J6_stringSize_0f7a4_0 D post S x0 → wO D cy X A s.heap S H locs → wX D S0 S → lv_has ls 4 [(0, .int x0)] → W p l e r_J6_stringSize_0f7a4 s m args below meth c H locs 0 0 (MQ below (va_Qi (fun r S9 => wX D S0 S9 ∧ post r S9) (wB D cy X A) A) args s 0 0 A) (F0 m 0 ls []) := by
  obtain ⟨hx, hb, hml, hown, hts⟩ := id F
  have hwg : ∀ w ∈ WG, w.before args s = true := fun w h => hts w (List.mem_cons_of_mem _ h)
  intro S H locs ls x0 hp hW hE hl
  unfold wp_J6_stringSize_0f7a4_0 at hp
  refine lv_iconst (v := 1) hx hb dJ6_stringSize_0f7a4_0 (by decide) ?_
  refine lv_istore_n (lv' := [(1, .int (1 : Int32)), (0, .int x0)]) hx hb dJ6_stringSize_0f7a4_1 rfl hl (by decide) rfl (fun ls hl => ?_)
  refine lv_iload_n hx hb dJ6_stringSize_0f7a4_2 rfl (lv_at hl 1 rfl) ?_
  refine lv_if_lt (tgt := 11) hx hb dJ6_stringSize_0f7a4_3 (by decide) (fun c_1 => ?_) (fun c_1 => ?_)
  · replace hp := hp.1 c_1
    exact t_J6_stringSize_0f7a4_11 F hr hlocks hK hp hW hE (lv_sub hl [1, 0] rfl)
  · replace hp := hp.2 c_1
    refine lv_iconst (v := 0) hx hb dJ6_stringSize_0f7a4_6 (by decide) ?_
    refine lv_istore_n (lv' := [(1, .int (0 : Int32)), (0, .int x0)]) hx hb dJ6_stringSize_0f7a4_7 rfl hl (by decide) rfl (fun ls hl => ?_)
    refine lv_iload_n hx hb dJ6_stringSize_0f7a4_8 rfl (lv_at hl 1 rfl) ?_
    refine lv_ineg hx hb dJ6_stringSize_0f7a4_9 ?_
    refine lv_topi (fun x_2 ex_2 => ?_)
    replace hp := hp x_2 ex_2
    refine lv_istore_n (lv' := [(0, .int x_2), (1, .int (0 : Int32))]) hx hb dJ6_stringSize_0f7a4_10 rfl hl (by decide) rfl (fun ls hl => ?_)
    exact t_J6_stringSize_0f7a4_11 F hr hlocks hK hp hW hE (lv_sub hl [0, 1] rfl)
set_option maxHeartbeats 4000000 in
set_option maxRecDepth 100000 in
theorem c_J6_stringSize_0f7a4 (l : Launch) {D : wD} {cy : Nat → ClassId} {X : va_W} {S0 : wS} {post : Int32 → wS → Prop} {x0 : Int32} (hp : wp_J6_stringSize_0f7a4 D post S0 x0) : mI D cy X l yJ6_stringSize_0f7a4 wz_J6_stringSize_0f7a4 r_J6_stringSize_0f7a4 [.int x0] S0 (fun r S9 => wX D S0 S9 ∧ post r S9) := by
  intro sz
  refine Met.ofW (cc := cJ6_stringSize_0f7a4) (maxL := 4) (ret := (some .int)) (by decide) rfl ?_
  intro p e s m args below meth c s₁ B hml hv
  obtain ⟨rfl, hsz, hP, hK, hD0, hRO⟩ := hv
  have hts := atoms_spec (ws := wz_J6_stringSize_0f7a4) B.pre
  have hown : s.vm.findClass RJ6 = some m.cls := findClass_of_methodNamed B.named
  subst hsz
  have hD := hD0.self (sz := s.heap.size)
  have F : CallFix p m c cJ6_stringSize_0f7a4 4 s _ wz_J6_stringSize_0f7a4 RJ6 := ⟨B.exec, B.bytes, hml, hown, hts⟩
  have hr := B.returns
  have hlocks := B.notSynchronized
  generalize hAe : va_A (wL cy X S0) s.heap.size = A at hD hK ⊢
  have hA : ∀ q, s.heap.size ≤ q → A q := fun q h => by rw [← hAe]; exact Or.inr h
  have hW : wO D cy X A s.heap S0 s.heap [] := ⟨hP, hD, va_S.rf, hA, hRO⟩
  have hl := lv_entry ([.int x0]) (n := 4) (Nat.le_of_ble_eq_true rfl)
  rw [lg_entry_eq]
  generalize (lg_sl ([.int x0]) ++ List.replicate (4 - (lg_sl ([.int x0])).length) Slot.unset).toArray = ls at hl ⊢
  have hl : lv_has ls 4 [(0, .int x0)] := hl
  unfold wp_J6_stringSize_0f7a4 at hp
  exact t_J6_stringSize_0f7a4_0 F hr hlocks hK hp hW wX.rf (lv_sub hl [0] rfl)
def wp_J5_append_c97b9_48 (D : wD) (post : Option Nat → wS → Prop)  (bc bs : Nat) (S : wS) (a0 : Nat) (x3 : Int32) : Prop :=
∀ S_1 : wS, S_1 = uI S a0 3 x3 →
post (some a0) S_1
def wp_J5_append_c97b9_0 (D : wD) (post : Option Nat → wS → Prop)  (bc bs : Nat) (S : wS) (a0 : Nat) (x1 : Int32) : Prop :=
∀ x_1 : Int32, x_1 = (sI S a0 3) →
wp_J6_stringSize_0f7a4 D (fun r_2 S_3 => 
∀ x_4 : Int32, x_4 = (x_1 + r_2) →
∃ m_7 z_8 : Nat, m_7 ≤ bc ∧ z_8 ≤ bs ∧
wp_J5_ensureCapacityInternal_d00df D (fun S_6 => 
wp_J5_isLatin1_aae02 D (fun r_9 S_10 => 
((r_9 = 0 → ∃ y_12 : Nat, sR S_10 a0 0 = some y_12 ∧ wM D S_10 y_12 ∧ sK S_10 y_12 = 20 ∧
wp_J2_getChars_46870 D (fun r_13 S_14 => 
wp_J5_append_c97b9_48 D post (bc - m_7) (bs - z_8) S_14 a0 x_4) S_10 x1 x_1 x_4 y_12) ∧
 (¬ r_9 = 0 → ∃ y_15 : Nat, sR S_10 a0 0 = some y_15 ∧ wM D S_10 y_15 ∧ sK S_10 y_15 = 20 ∧
wp_J6_getChars_ba4f3 D (fun r_16 S_17 => 
wp_J5_append_c97b9_48 D post (bc - m_7) (bs - z_8) S_17 a0 x_4) S_10 x1 x_4 y_15))) S_6 a0) m_7 z_8 S_3 a0 x_4) S x1
abbrev r_J5_append_c97b9 (rC rS : Nat) : Room := { frames := 4, cells := rC, slots := rS, locals := 110 }
def wp_J5_append_c97b9 (D : wD) (post : Option Nat → wS → Prop) (bc bs : Nat) (S : wS) (a0 : Nat) (x1 : Int32) : Prop := wp_J5_append_c97b9_0 D post bc bs S a0 x1
set_option maxHeartbeats 4000000 in
set_option maxRecDepth 100000 in
theorem t_J5_append_c97b9_48 {p : Program} {l : Launch} {e : Env} {s : State} {m : MethodId} {args : Array Value} {below : List Frame} {meth : Method} {c : Code} {D : wD} {cy : Nat → ClassId} {X : va_W} {A : Nat → Prop} {S0 : wS} {rC rS : Nat} {post : Option Nat → wS → Prop} (F : CallFix p m c cJ5_append_c97b9 4 s args wz_J5_append_c97b9 RJ5) (hr : meth.sig.returnType = (some (.object "java/lang/AbstractStringBuilder"))) (hlocks : meth.locks = false) (hK : wK D cy A s) : ∀ {bc bs cells slots : Nat} (hbc : cells + bc ≤ rC) (hbs : slots + bs ≤ rS) {S : wS} {H : Heap} {locs : List Loc} {ls : Array Slot} {a0 : Nat} {x3 : Int32}, wp_J5_append_c97b9_48 D post bc bs S a0 x3 → wO D cy X A s.heap S H locs → wX D S0 S → lv_has ls 4 [(0, .ref a0), (3, .int x3)] → wM D S a0 → sK S a0 = 1 → W p l e (r_J5_append_c97b9 rC rS) s m args below meth c H locs cells slots (MQ below (va_Qq (fun r S9 => wX D S0 S9 ∧ post r S9) (wB D cy X A) A) args s rC rS A) (F0 m 48 ls []) := by
  obtain ⟨hx, hb, hml, hown, hts⟩ := id F
  have hwg : ∀ w ∈ WG, w.before args s = true := fun w h => hts w (List.mem_cons_of_mem _ h)
  have i_1 : ∀ w ∈ u_ws RJ4 TJ4 4, w ∈ wz_J5_append_c97b9 := fun w h => List.mem_cons_of_mem _ (wu_1 w h)
  have k_79 := hwg _ wf_RJ5_79
  intro bc bs cells slots hbc hbs S H locs ls a0 x3 hp hW hE hl hL_a0 hK_a0
  unfold wp_J5_append_c97b9_48 at hp
  refine lv_aload_n hx hb dJ5_append_c97b9_48 rfl (lv_at hl 0 rfl) ?_
  refine lv_iload_n hx hb dJ5_append_c97b9_49 rfl (lv_at hl 1 rfl) ?_
  refine w_putI (k := 1) (f := 3) (T := TJ4) F hK hW hL_a0 hK_a0 (by decide) (by decide) rfl rfl (by decide) i_1 tyJ4 tyJ4_ok nmJ4 k_79 rfl rfl (ty := .int) rfl rfl rfl dJ5_append_c97b9_50 (fun H locs hW => ?_)
  obtain ⟨S_1, eS_1⟩ : ∃ z : wS, z = uI S a0 3 x3 := ⟨_, rfl⟩
  rw [← eS_1] at hW
  replace hp := hp S_1 eS_1
  have hX_S_1 : wX D S S_1 := by rw [eS_1]; exact wX_uI
  have hE := hE.trans hX_S_1
  have hK_a0 : sK S_1 a0 = 1 := (hX_S_1.2 a0 hL_a0).1.trans hK_a0
  have hL_a0 : wM D S_1 a0 := hX_S_1.M hL_a0
  refine lv_aload_n hx hb dJ5_append_c97b9_53 rfl (lv_at hl 0 rfl) ?_
  refine W.widen (k := rC) (n := rS) (Nat.le_trans (Nat.le_add_right _ _) hbc) (Nat.le_trans (Nat.le_add_right _ _) hbs) ?_
  exact w_aret (g := (some a0)) hx hb hr hlocks hW ⟨hE, hp⟩ dJ5_append_c97b9_54
set_option maxHeartbeats 4000000 in
set_option maxRecDepth 100000 in
theorem t_J5_append_c97b9_0 {p : Program} {l : Launch} {e : Env} {s : State} {m : MethodId} {args : Array Value} {below : List Frame} {meth : Method} {c : Code} {D : wD} {cy : Nat → ClassId} {X : va_W} {A : Nat → Prop} {S0 : wS} {rC rS : Nat} {post : Option Nat → wS → Prop} (F : CallFix p m c cJ5_append_c97b9 4 s args wz_J5_append_c97b9 RJ5) (hr : meth.sig.returnType = (some (.object "java/lang/AbstractStringBuilder"))) (hlocks : meth.locks = false) (hK : wK D cy A s) : ∀ {bc bs cells slots : Nat} (hbc : cells + bc ≤ rC) (hbs : slots + bs ≤ rS) {S : wS} {H : Heap} {locs : List Loc} {ls : Array Slot} {a0 : Nat} {x1 : Int32}, wp_J5_append_c97b9_0 D post bc bs S a0 x1 → wO D cy X A s.heap S H locs → wX D S0 S → lv_has ls 4 [(0, .ref a0), (1, .int x1)] → wM D S a0 → sK S a0 = 1 → W p l e (r_J5_append_c97b9 rC rS) s m args below meth c H locs cells slots (MQ below (va_Qq (fun r S9 => wX D S0 S9 ∧ post r S9) (wB D cy X A) A) args s rC rS A) (F0 m 0 ls []) := by
  obtain ⟨hx, hb, hml, hown, hts⟩ := id F
  have hwg : ∀ w ∈ WG, w.before args s = true := fun w h => hts w (List.mem_cons_of_mem _ h)
  have i_1 : ∀ w ∈ u_ws RJ4 TJ4 4, w ∈ wz_J5_append_c97b9 := fun w h => List.mem_cons_of_mem _ (wu_1 w h)
  have k_15 := hwg _ wf_RJ5_15
  have k_79 := hwg _ wf_RJ5_79
  intro bc bs cells slots hbc hbs S H locs ls a0 x1 hp hW hE hl hL_a0 hK_a0
  unfold wp_J5_append_c97b9_0 at hp
  refine lv_aload_n hx hb dJ5_append_c97b9_0 rfl (lv_at hl 0 rfl) ?_
  refine w_get (k := 1) (f := 3) (T := TJ4) (v := .int (sI S a0 3)) F hK hW hL_a0 hK_a0 (by decide) rfl rfl (by decide) i_1 k_79 rfl dJ5_append_c97b9_1 ?_
  refine lv_topi (fun x_1 ex_1 => ?_)
  replace hp := hp x_1 ex_1
  refine lv_istore_n (lv' := [(2, .int x_1), (0, .ref a0), (1, .int x1)]) hx hb dJ5_append_c97b9_4 rfl hl (by decide) rfl (fun ls hl => ?_)
  refine lv_iload_n hx hb dJ5_append_c97b9_5 rfl (lv_at hl 0 rfl) ?_
  refine lv_iload_n hx hb dJ5_append_c97b9_6 rfl (lv_at hl 2 rfl) ?_
  refine w_callI (va_runS (As := [.int x1]) (rest := [.int x_1]) F (c_J6_stringSize_0f7a4 l hp H.size) (va_cwS 1 hts (wg_S wm_RJ5_245 wy_J6_stringSize_0f7a4) rfl rfl rfl (by decide +kernel) ⟨Nat.le_of_ble_eq_true rfl, Nat.le_of_ble_eq_true rfl⟩) (w_preS hK hW) rfl rfl hl.1 rfl (lv_room (Nat.le_of_ble_eq_true rfl)) dJ5_append_c97b9_7 ⟨by show _ ≤ rC; exact Nat.le_trans (Nat.le_add_right _ _) hbc, by show _ ≤ rS; exact Nat.le_trans (Nat.le_add_right _ _) hbs⟩) hW (fun r_2 S_3 H locs hp hW => ?_)
  obtain ⟨hX_S_3, hp⟩ := hp
  refine w_same ?_
  have hE := hE.trans hX_S_3
  have hK_a0 : sK S_3 a0 = 1 := (hX_S_3.2 a0 hL_a0).1.trans hK_a0
  have hL_a0 : wM D S_3 a0 := hX_S_3.M hL_a0
  refine lv_iadd hx hb dJ5_append_c97b9_10 ?_
  refine lv_topi (fun x_4 ex_4 => ?_)
  replace hp := hp x_4 ex_4
  refine lv_istore_n (lv' := [(3, .int x_4), (2, .int x_1), (0, .ref a0), (1, .int x1)]) hx hb dJ5_append_c97b9_11 rfl hl (by decide) rfl (fun ls hl => ?_)
  refine lv_aload_n hx hb dJ5_append_c97b9_12 rfl (lv_at hl 2 rfl) ?_
  refine lv_iload_n hx hb dJ5_append_c97b9_13 rfl (lv_at hl 0 rfl) ?_
  obtain ⟨m_7, z_8, hm_7, hz_8, hp⟩ := hp
  refine w_callV (va_runU (As := [.int x_4]) (rest := []) F (c_J5_ensureCapacityInternal_d00df l hL_a0 hK_a0 hp H.size) (va_cwU (C := RJ4) (owner := RJ5) 1 hts (wg_U wm_RJ5_100 wsm_J5_ensureCapacityInternal_d00df wse_J5_ensureCapacityInternal_d00df wi5_J5_ensureCapacityInternal_d00df winit5 wco_J5_ensureCapacityInternal_d00df) rfl rfl rfl rfl ⟨by decide, by decide, by decide +kernel⟩ ⟨Nat.le_of_ble_eq_true rfl, Nat.le_of_ble_eq_true rfl⟩) (w_preV hK hW hL_a0 hK_a0 (by decide) rfl) rfl rfl hl.1 rfl (lv_room (Nat.le_of_ble_eq_true rfl)) dJ5_append_c97b9_14 ⟨by show _ + m_7 ≤ rC; omega, by show _ + z_8 ≤ rS; omega⟩) hW (fun S_6 H locs hp hW => ?_)
  obtain ⟨hX_S_6, hp⟩ := hp
  refine W.widen (k := _ + m_7) (n := _ + z_8) (Nat.le_refl _) (Nat.le_refl _) ?_
  replace hbc := w_spend hbc (show m_7 ≤ bc by omega)
  replace hbs := w_spend hbs (show z_8 ≤ bs by omega)
  have hE := hE.trans hX_S_6
  have hK_a0 : sK S_6 a0 = 1 := (hX_S_6.2 a0 hL_a0).1.trans hK_a0
  have hL_a0 : wM D S_6 a0 := hX_S_6.M hL_a0
  refine lv_aload_n hx hb dJ5_append_c97b9_17 rfl (lv_at hl 2 rfl) ?_
  refine w_callI (va_runU (As := []) (rest := []) F (c_J5_isLatin1_aae02 l hL_a0 hK_a0 hp H.size) (va_cwU (C := RJ4) (owner := RJ5) 0 hts (wg_U wm_RJ5_83 wsm_J5_isLatin1_aae02 wse_J5_isLatin1_aae02 wi5_J5_isLatin1_aae02 winit5 wco_J5_isLatin1_aae02) rfl rfl rfl rfl ⟨by decide, by decide, by decide +kernel⟩ ⟨Nat.le_of_ble_eq_true rfl, Nat.le_of_ble_eq_true rfl⟩) (w_preV hK hW hL_a0 hK_a0 (by decide) rfl) rfl rfl hl.1 rfl (lv_room (Nat.le_of_ble_eq_true rfl)) dJ5_append_c97b9_18 ⟨by show _ ≤ rC; exact Nat.le_trans (Nat.le_add_right _ _) hbc, by show _ ≤ rS; exact Nat.le_trans (Nat.le_add_right _ _) hbs⟩) hW (fun r_9 S_10 H locs hp hW => ?_)
  obtain ⟨hX_S_10, hp⟩ := hp
  refine w_same ?_
  have hE := hE.trans hX_S_10
  have hK_a0 : sK S_10 a0 = 1 := (hX_S_10.2 a0 hL_a0).1.trans hK_a0
  have hL_a0 : wM D S_10 a0 := hX_S_10.M hL_a0
  refine lv_if_eq (tgt := 37) hx hb dJ5_append_c97b9_21 (by decide) (fun c_11 => ?_) (fun c_11 => ?_)
  · replace hp := hp.1 c_11
    refine lv_iload_n hx hb dJ5_append_c97b9_37 rfl (lv_at hl 3 rfl) ?_
    refine lv_iload_n hx hb dJ5_append_c97b9_38 rfl (lv_at hl 1 rfl) ?_
    refine lv_iload_n hx hb dJ5_append_c97b9_39 rfl (lv_at hl 0 rfl) ?_
    refine lv_aload_n hx hb dJ5_append_c97b9_40 rfl (lv_at hl 2 rfl) ?_
    obtain ⟨y_12, ey_12, hL_y_12, hK_y_12, hp⟩ := hp
    refine w_get (k := 1) (f := 0) (T := TJ4) (v := .ref y_12) F hK hW hL_a0 hK_a0 (by decide) rfl rfl (by decide) i_1 k_15 (by rw [show wv 1 0 S_10 a0 = va_rf (sR S_10 a0 0) from rfl, ey_12]; rfl) dJ5_append_c97b9_41 ?_
    refine w_callI (va_runS (As := [.int x1, .int x_1, .int x_4, .ref y_12]) (rest := []) F (c_J2_getChars_46870 l hL_y_12 hK_y_12 hp H.size) (va_cwS 4 hts (wg_S wm_RJ5_251 wy_J2_getChars_46870) rfl rfl rfl (by decide +kernel) ⟨Nat.le_of_ble_eq_true rfl, Nat.le_of_ble_eq_true rfl⟩) (w_preS hK hW) rfl rfl hl.1 rfl (lv_room (Nat.le_of_ble_eq_true rfl)) dJ5_append_c97b9_44 ⟨by show _ ≤ rC; exact Nat.le_trans (Nat.le_add_right _ _) hbc, by show _ ≤ rS; exact Nat.le_trans (Nat.le_add_right _ _) hbs⟩) hW (fun r_13 S_14 H locs hp hW => ?_)
    obtain ⟨hX_S_14, hp⟩ := hp
    refine w_same ?_
    have hE := hE.trans hX_S_14
    have hK_a0 : sK S_14 a0 = 1 := (hX_S_14.2 a0 hL_a0).1.trans hK_a0
    have hL_a0 : wM D S_14 a0 := hX_S_14.M hL_a0
    refine lv_pop hx hb dJ5_append_c97b9_47 rfl ?_
    exact t_J5_append_c97b9_48 F hr hlocks hK hbc hbs hp hW hE (lv_sub hl [2, 0] rfl) hL_a0 hK_a0
  · replace hp := hp.2 c_11
    refine lv_iload_n hx hb dJ5_append_c97b9_24 rfl (lv_at hl 3 rfl) ?_
    refine lv_iload_n hx hb dJ5_append_c97b9_25 rfl (lv_at hl 0 rfl) ?_
    refine lv_aload_n hx hb dJ5_append_c97b9_26 rfl (lv_at hl 2 rfl) ?_
    obtain ⟨y_15, ey_15, hL_y_15, hK_y_15, hp⟩ := hp
    refine w_get (k := 1) (f := 0) (T := TJ4) (v := .ref y_15) F hK hW hL_a0 hK_a0 (by decide) rfl rfl (by decide) i_1 k_15 (by rw [show wv 1 0 S_10 a0 = va_rf (sR S_10 a0 0) from rfl, ey_15]; rfl) dJ5_append_c97b9_27 ?_
    refine w_callI (va_runS (As := [.int x1, .int x_4, .ref y_15]) (rest := []) F (c_J6_getChars_ba4f3 l hL_y_15 hK_y_15 hp H.size) (va_cwS 3 hts (wg_S wm_RJ5_248 wy_J6_getChars_ba4f3) rfl rfl rfl (by decide +kernel) ⟨Nat.le_of_ble_eq_true rfl, Nat.le_of_ble_eq_true rfl⟩) (w_preS hK hW) rfl rfl hl.1 rfl (lv_room (Nat.le_of_ble_eq_true rfl)) dJ5_append_c97b9_30 ⟨by show _ ≤ rC; exact Nat.le_trans (Nat.le_add_right _ _) hbc, by show _ ≤ rS; exact Nat.le_trans (Nat.le_add_right _ _) hbs⟩) hW (fun r_16 S_17 H locs hp hW => ?_)
    obtain ⟨hX_S_17, hp⟩ := hp
    refine w_same ?_
    have hE := hE.trans hX_S_17
    have hK_a0 : sK S_17 a0 = 1 := (hX_S_17.2 a0 hL_a0).1.trans hK_a0
    have hL_a0 : wM D S_17 a0 := hX_S_17.M hL_a0
    refine lv_pop hx hb dJ5_append_c97b9_33 rfl ?_
    refine lv_goto (tgt := 48) hx hb dJ5_append_c97b9_34 (by decide) ?_
    exact t_J5_append_c97b9_48 F hr hlocks hK hbc hbs hp hW hE (lv_sub hl [2, 0] rfl) hL_a0 hK_a0
set_option maxHeartbeats 4000000 in
set_option maxRecDepth 100000 in
theorem c_J5_append_c97b9 (l : Launch) {rC rS : Nat} {D : wD} {cy : Nat → ClassId} {X : va_W} {S0 : wS} {post : Option Nat → wS → Prop} {a0 : Nat} {x1 : Int32} (hL_a0 : wM D S0 a0) (hK_a0 : sK S0 a0 = 1) (hp : wp_J5_append_c97b9 D post rC rS S0 a0 x1) : mR D cy X l yJ5_append_c97b9 wz_J5_append_c97b9 (r_J5_append_c97b9 rC rS) [.ref a0, .int x1] S0 (fun r S9 => wX D S0 S9 ∧ post r S9) := by
  intro sz
  refine Met.ofW (cc := cJ5_append_c97b9) (maxL := 4) (ret := (some (.object "java/lang/AbstractStringBuilder"))) (by decide) rfl ?_
  intro p e s m args below meth c s₁ B hml hv
  obtain ⟨rfl, hsz, hP, hK, hD0, hRO⟩ := hv
  have hts := atoms_spec (ws := wz_J5_append_c97b9) B.pre
  have hown : s.vm.findClass RJ5 = some m.cls := findClass_of_methodNamed B.named
  subst hsz
  have hD := hD0.self (sz := s.heap.size)
  have F : CallFix p m c cJ5_append_c97b9 4 s _ wz_J5_append_c97b9 RJ5 := ⟨B.exec, B.bytes, hml, hown, hts⟩
  have hr := B.returns
  have hlocks := B.notSynchronized
  generalize hAe : va_A (wL cy X S0) s.heap.size = A at hD hK ⊢
  have hA : ∀ q, s.heap.size ≤ q → A q := fun q h => by rw [← hAe]; exact Or.inr h
  have hW : wO D cy X A s.heap S0 s.heap [] := ⟨hP, hD, va_S.rf, hA, hRO⟩
  have hl := lv_entry ([.ref a0, .int x1]) (n := 4) (Nat.le_of_ble_eq_true rfl)
  rw [lg_entry_eq]
  generalize (lg_sl ([.ref a0, .int x1]) ++ List.replicate (4 - (lg_sl ([.ref a0, .int x1])).length) Slot.unset).toArray = ls at hl ⊢
  have hl : lv_has ls 4 [(0, .ref a0), (1, .int x1)] := hl
  unfold wp_J5_append_c97b9 at hp
  exact t_J5_append_c97b9_0 F hr hlocks hK (Nat.le_of_eq (Nat.zero_add _)) (Nat.le_of_eq (Nat.zero_add _)) hp hW wX.rf (lv_sub hl [0, 1] rfl) hL_a0 hK_a0
def wp_J4_append_bf812_0 (D : wD) (post : Option Nat → wS → Prop)  (bc bs : Nat) (S : wS) (a0 : Nat) (x1 : Int32) : Prop :=
∃ m_3 z_4 : Nat, m_3 ≤ bc ∧ z_4 ≤ bs ∧
wp_J5_append_c97b9 D (fun r_1 S_2 => 
post (some a0) S_2) m_3 z_4 S a0 x1
abbrev r_J4_append_bf812 (rC rS : Nat) : Room := { frames := 5, cells := rC, slots := rS, locals := 133 }
def wp_J4_append_bf812 (D : wD) (post : Option Nat → wS → Prop) (bc bs : Nat) (S : wS) (a0 : Nat) (x1 : Int32) : Prop := wp_J4_append_bf812_0 D post bc bs S a0 x1
set_option maxHeartbeats 4000000 in
set_option maxRecDepth 100000 in
theorem t_J4_append_bf812_0 {p : Program} {l : Launch} {e : Env} {s : State} {m : MethodId} {args : Array Value} {below : List Frame} {meth : Method} {c : Code} {D : wD} {cy : Nat → ClassId} {X : va_W} {A : Nat → Prop} {S0 : wS} {rC rS : Nat} {post : Option Nat → wS → Prop} (F : CallFix p m c cJ4_append_bf812 2 s args wz_J4_append_bf812 RJ4) (hr : meth.sig.returnType = (some (.object "java/lang/StringBuilder"))) (hlocks : meth.locks = false) (hK : wK D cy A s) : ∀ {bc bs cells slots : Nat} (hbc : cells + bc ≤ rC) (hbs : slots + bs ≤ rS) {S : wS} {H : Heap} {locs : List Loc} {ls : Array Slot} {a0 : Nat} {x1 : Int32}, wp_J4_append_bf812_0 D post bc bs S a0 x1 → wO D cy X A s.heap S H locs → wX D S0 S → lv_has ls 2 [(0, .ref a0), (1, .int x1)] → wM D S a0 → sK S a0 = 1 → W p l e (r_J4_append_bf812 rC rS) s m args below meth c H locs cells slots (MQ below (va_Qq (fun r S9 => wX D S0 S9 ∧ post r S9) (wB D cy X A) A) args s rC rS A) (F0 m 0 ls []) := by
  obtain ⟨hx, hb, hml, hown, hts⟩ := id F
  have hwg : ∀ w ∈ WG, w.before args s = true := fun w h => hts w (List.mem_cons_of_mem _ h)
  intro bc bs cells slots hbc hbs S H locs ls a0 x1 hp hW hE hl hL_a0 hK_a0
  unfold wp_J4_append_bf812_0 at hp
  refine lv_aload_n hx hb dJ4_append_bf812_0 rfl (lv_at hl 0 rfl) ?_
  refine lv_iload_n hx hb dJ4_append_bf812_1 rfl (lv_at hl 1 rfl) ?_
  obtain ⟨m_3, z_4, hm_3, hz_4, hp⟩ := hp
  refine w_callR (va_runSU (hK.1.1 1 _ rfl).2 (As := [.int x1]) (rest := []) F (c_J5_append_c97b9 l hL_a0 hK_a0 hp H.size) (va_cwSU 1 hts (wg_SU wm_RJ4_53 wsm_J5_append_c97b9 wsup5 wi5_J5_append_c97b9 winit5 wco_J5_append_c97b9) rfl rfl rfl ⟨by decide, by decide +kernel⟩ ⟨Nat.le_of_ble_eq_true rfl, Nat.le_of_ble_eq_true rfl⟩) (w_preV hK hW hL_a0 hK_a0 (by decide) rfl) rfl rfl hl.1 rfl (lv_room (Nat.le_of_ble_eq_true rfl)) dJ4_append_bf812_2 ⟨by show _ + m_3 ≤ rC; omega, by show _ + z_4 ≤ rS; omega⟩) hW (fun r_1 S_2 H locs hp hW => ?_)
  obtain ⟨hX_S_2, hp⟩ := hp
  refine W.widen (k := _ + m_3) (n := _ + z_4) (Nat.le_refl _) (Nat.le_refl _) ?_
  replace hbc := w_spend hbc (show m_3 ≤ bc by omega)
  replace hbs := w_spend hbs (show z_4 ≤ bs by omega)
  have hE := hE.trans hX_S_2
  have hK_a0 : sK S_2 a0 = 1 := (hX_S_2.2 a0 hL_a0).1.trans hK_a0
  have hL_a0 : wM D S_2 a0 := hX_S_2.M hL_a0
  refine lv_pop hx hb dJ4_append_bf812_5 (by cases r_1 <;> rfl) ?_
  refine lv_aload_n hx hb dJ4_append_bf812_6 rfl (lv_at hl 0 rfl) ?_
  refine W.widen (k := rC) (n := rS) (Nat.le_trans (Nat.le_add_right _ _) hbc) (Nat.le_trans (Nat.le_add_right _ _) hbs) ?_
  exact w_aret (g := (some a0)) hx hb hr hlocks hW ⟨hE, hp⟩ dJ4_append_bf812_7
set_option maxHeartbeats 4000000 in
set_option maxRecDepth 100000 in
theorem c_J4_append_bf812 (l : Launch) {rC rS : Nat} {D : wD} {cy : Nat → ClassId} {X : va_W} {S0 : wS} {post : Option Nat → wS → Prop} {a0 : Nat} {x1 : Int32} (hL_a0 : wM D S0 a0) (hK_a0 : sK S0 a0 = 1) (hp : wp_J4_append_bf812 D post rC rS S0 a0 x1) : mR D cy X l yJ4_append_bf812 wz_J4_append_bf812 (r_J4_append_bf812 rC rS) [.ref a0, .int x1] S0 (fun r S9 => wX D S0 S9 ∧ post r S9) := by
  intro sz
  refine Met.ofW (cc := cJ4_append_bf812) (maxL := 2) (ret := (some (.object "java/lang/StringBuilder"))) (by decide) rfl ?_
  intro p e s m args below meth c s₁ B hml hv
  obtain ⟨rfl, hsz, hP, hK, hD0, hRO⟩ := hv
  have hts := atoms_spec (ws := wz_J4_append_bf812) B.pre
  have hown : s.vm.findClass RJ4 = some m.cls := findClass_of_methodNamed B.named
  subst hsz
  have hD := hD0.self (sz := s.heap.size)
  have F : CallFix p m c cJ4_append_bf812 2 s _ wz_J4_append_bf812 RJ4 := ⟨B.exec, B.bytes, hml, hown, hts⟩
  have hr := B.returns
  have hlocks := B.notSynchronized
  generalize hAe : va_A (wL cy X S0) s.heap.size = A at hD hK ⊢
  have hA : ∀ q, s.heap.size ≤ q → A q := fun q h => by rw [← hAe]; exact Or.inr h
  have hW : wO D cy X A s.heap S0 s.heap [] := ⟨hP, hD, va_S.rf, hA, hRO⟩
  have hl := lv_entry ([.ref a0, .int x1]) (n := 2) (Nat.le_of_ble_eq_true rfl)
  rw [lg_entry_eq]
  generalize (lg_sl ([.ref a0, .int x1]) ++ List.replicate (2 - (lg_sl ([.ref a0, .int x1])).length) Slot.unset).toArray = ls at hl ⊢
  have hl : lv_has ls 2 [(0, .ref a0), (1, .int x1)] := hl
  unfold wp_J4_append_bf812 at hp
  exact t_J4_append_bf812_0 F hr hlocks hK (Nat.le_of_eq (Nat.zero_add _)) (Nat.le_of_eq (Nat.zero_add _)) hp hW wX.rf (lv_sub hl [0, 1] rfl) hL_a0 hK_a0
def wp_J5_init_d00df_38 (D : wD) (post : wS → Prop)  (bc bs : Nat) (S : wS) : Prop :=
post S
def wp_J5_init_d00df_0 (D : wD) (post : wS → Prop)  (bc bs : Nat) (S : wS) (a0 : Nat) (x1 : Int32) : Prop :=
(((1 : Int32) = 0 → ∃ m_4 z_5 : Nat, m_4 ≤ bc ∧ z_5 ≤ bs ∧
wp_J2_newBytesFor_77867 D (fun r_2 S_3 => 
∀ S_6 : wS, S_6 = uR S_3 a0 0 r_2 →
narrow .byte (.int (1 : Int32)) = .int (1 : Int32) ∧ fits .byte (.int (1 : Int32)) = true ∧
∀ S_7 : wS, S_7 = uI S_6 a0 1 (1 : Int32) →
wp_J5_init_d00df_38 D post (bc - m_4) (bs - z_5) S_7) m_4 z_5 S x1) ∧
 (¬ (1 : Int32) = 0 → ¬ x1 < 0 ∧ (x1).toNatClampNeg ≤ 1000000 ∧ 1 ≤ bc ∧ (x1).toNatClampNeg ≤ bs ∧ ∀ y_9 : Nat, ¬ wM D S y_9 → ∀ S_10 : wS, S_10 = nA S y_9 20 (x1).toNatClampNeg →
∀ S_12 : wS, S_12 = uR S_10 a0 0 (some y_9) →
narrow .byte (.int (0 : Int32)) = .int (0 : Int32) ∧ fits .byte (.int (0 : Int32)) = true ∧
∀ S_13 : wS, S_13 = uI S_12 a0 1 (0 : Int32) →
wp_J5_init_d00df_38 D post (bc - 1) (bs - (x1).toNatClampNeg) S_13))
abbrev r_J5_init_d00df (rC rS : Nat) : Room := { frames := 2, cells := rC, slots := rS, locals := 60 }
def wp_J5_init_d00df (D : wD) (post : wS → Prop) (bc bs : Nat) (S : wS) (a0 : Nat) (x1 : Int32) : Prop := wp_J5_init_d00df_0 D post bc bs S a0 x1
set_option maxHeartbeats 4000000 in
set_option maxRecDepth 100000 in
theorem t_J5_init_d00df_38 {p : Program} {l : Launch} {e : Env} {s : State} {m : MethodId} {args : Array Value} {below : List Frame} {meth : Method} {c : Code} {D : wD} {cy : Nat → ClassId} {X : va_W} {A : Nat → Prop} {S0 : wS} {rC rS : Nat} {post : wS → Prop} (F : CallFix p m c cJ5_init_d00df 2 s args wz_J5_init_d00df RJ5) (hr : meth.sig.returnType = none) (hlocks : meth.locks = false) (hK : wK D cy A s) (hin : meth.name = "<init>") : ∀ {bc bs cells slots : Nat} (hbc : cells + bc ≤ rC) (hbs : slots + bs ≤ rS) {S : wS} {H : Heap} {locs : List Loc} {ls : Array Slot}, wp_J5_init_d00df_38 D post bc bs S → wO D cy X A s.heap S H locs → wX D S0 S → lv_has ls 2 [] → W p l e (r_J5_init_d00df rC rS) s m args below meth c H locs cells slots (MQ below (va_Qv (fun S9 => wX D S0 S9 ∧ post S9) (wB D cy X A) A) args s rC rS A) (F0 m 38 ls []) := by
  obtain ⟨hx, hb, hml, hown, hts⟩ := id F
  have hwg : ∀ w ∈ WG, w.before args s = true := fun w h => hts w (List.mem_cons_of_mem _ h)
  intro bc bs cells slots hbc hbs S H locs ls hp hW hE hl
  unfold wp_J5_init_d00df_38 at hp
  refine W.widen (k := rC) (n := rS) (Nat.le_trans (Nat.le_add_right _ _) hbc) (Nat.le_trans (Nat.le_add_right _ _) hbs) ?_
  exact w_vret hx hb hr hlocks hW ⟨hE, hp⟩ dJ5_init_d00df_38
set_option maxHeartbeats 4000000 in
set_option maxRecDepth 100000 in
theorem t_J5_init_d00df_0 {p : Program} {l : Launch} {e : Env} {s : State} {m : MethodId} {args : Array Value} {below : List Frame} {meth : Method} {c : Code} {D : wD} {cy : Nat → ClassId} {X : va_W} {A : Nat → Prop} {S0 : wS} {rC rS : Nat} {post : wS → Prop} (F : CallFix p m c cJ5_init_d00df 2 s args wz_J5_init_d00df RJ5) (hr : meth.sig.returnType = none) (hlocks : meth.locks = false) (hK : wK D cy A s) (hin : meth.name = "<init>") : ∀ {bc bs cells slots : Nat} (hbc : cells + bc ≤ rC) (hbs : slots + bs ≤ rS) {S : wS} {H : Heap} {locs : List Loc} {ls : Array Slot} {a0 : Nat} {x1 : Int32}, wp_J5_init_d00df_0 D post bc bs S a0 x1 → wO D cy X A s.heap S H locs → wX D S0 S → lv_has ls 2 [(0, .ref a0), (1, .int x1)] → wM D S a0 → sK S a0 = 1 → W p l e (r_J5_init_d00df rC rS) s m args below meth c H locs cells slots (MQ below (va_Qv (fun S9 => wX D S0 S9 ∧ post S9) (wB D cy X A) A) args s rC rS A) (F0 m 0 ls []) := by
  obtain ⟨hx, hb, hml, hown, hts⟩ := id F
  have hwg : ∀ w ∈ WG, w.before args s = true := fun w h => hts w (List.mem_cons_of_mem _ h)
  have i_1 : ∀ w ∈ u_ws RJ4 TJ4 4, w ∈ wz_J5_init_d00df := fun w h => List.mem_cons_of_mem _ (wu_1 w h)
  have k_15 := hwg _ wf_RJ5_15
  have k_22 := hwg _ wf_RJ5_22
  intro bc bs cells slots hbc hbs S H locs ls a0 x1 hp hW hE hl hL_a0 hK_a0
  unfold wp_J5_init_d00df_0 at hp
  refine lv_aload_n hx hb dJ5_init_d00df_0 rfl (lv_at hl 0 rfl) ?_
  refine W.objInit hx hb hown (hwg _ wm_RJ5_3) (hwg _ wobj.1) (hwg _ wobj.2) rfl (by rw [hml]; exact hl.1) rfl dJ5_init_d00df_1 (Nat.le_of_ble_eq_true rfl) (Nat.le_of_ble_eq_true rfl) ?_
  refine W.eq (g2 := F0 m 4 ls []) rfl ?_
  refine w_staI F hK hW (show ("java/lang/String", "COMPACT_STRINGS", "Z", (1 : Int32)) ∈ wSi by decide +kernel) (hwg _ wf_RJ5_18) dJ5_init_d00df_4 ?_
  refine lv_if_eq (tgt := 25) hx hb dJ5_init_d00df_7 (by decide) (fun c_1 => ?_) (fun c_1 => ?_)
  · replace hp := hp.1 c_1
    refine lv_aload_n hx hb dJ5_init_d00df_25 rfl (lv_at hl 0 rfl) ?_
    refine lv_iload_n hx hb dJ5_init_d00df_26 rfl (lv_at hl 1 rfl) ?_
    obtain ⟨m_4, z_5, hm_4, hz_5, hp⟩ := hp
    refine w_callR (va_runS (As := [.int x1]) (rest := [.ref a0]) F (c_J2_newBytesFor_77867 l hp H.size) (va_cwS 1 hts (wg_S wm_RJ5_26 wy_J2_newBytesFor_77867) rfl rfl rfl (by decide +kernel) ⟨Nat.le_of_ble_eq_true rfl, Nat.le_of_ble_eq_true rfl⟩) (w_preS hK hW) rfl rfl hl.1 rfl (lv_room (Nat.le_of_ble_eq_true rfl)) dJ5_init_d00df_27 ⟨by show _ + m_4 ≤ rC; omega, by show _ + z_5 ≤ rS; omega⟩) hW (fun r_2 S_3 H locs hp hW => ?_)
    obtain ⟨hX_S_3, hp⟩ := hp
    refine W.widen (k := _ + m_4) (n := _ + z_5) (Nat.le_refl _) (Nat.le_refl _) ?_
    replace hbc := w_spend hbc (show m_4 ≤ bc by omega)
    replace hbs := w_spend hbs (show z_5 ≤ bs by omega)
    have hE := hE.trans hX_S_3
    have hK_a0 : sK S_3 a0 = 1 := (hX_S_3.2 a0 hL_a0).1.trans hK_a0
    have hL_a0 : wM D S_3 a0 := hX_S_3.M hL_a0
    refine w_putR (k := 1) (f := 0) (T := TJ4) (g := r_2) F hK hW hL_a0 hK_a0 (by decide) (by decide) rfl rfl (by decide) i_1 tyJ4 tyJ4_ok nmJ4 k_15 rfl rfl (ty := (.array .byte)) rfl (v_narrow _ _) (v_fitsA _ _) dJ5_init_d00df_30 (fun H locs hW => ?_)
    obtain ⟨S_6, eS_6⟩ : ∃ z : wS, z = uR S_3 a0 0 r_2 := ⟨_, rfl⟩
    rw [← eS_6] at hW
    replace hp := hp S_6 eS_6
    have hX_S_6 : wX D S_3 S_6 := by rw [eS_6]; exact wX_uR
    have hE := hE.trans hX_S_6
    have hK_a0 : sK S_6 a0 = 1 := (hX_S_6.2 a0 hL_a0).1.trans hK_a0
    have hL_a0 : wM D S_6 a0 := hX_S_6.M hL_a0
    refine lv_aload_n hx hb dJ5_init_d00df_33 rfl (lv_at hl 0 rfl) ?_
    refine lv_iconst (v := 1) hx hb dJ5_init_d00df_34 (by decide) ?_
    obtain ⟨h_8, h_8f, hp⟩ := hp
    refine w_putI (k := 1) (f := 1) (T := TJ4) F hK hW hL_a0 hK_a0 (by decide) (by decide) rfl rfl (by decide) i_1 tyJ4 tyJ4_ok nmJ4 k_22 rfl rfl (ty := .byte) rfl h_8 h_8f dJ5_init_d00df_35 (fun H locs hW => ?_)
    obtain ⟨S_7, eS_7⟩ : ∃ z : wS, z = uI S_6 a0 1 (1 : Int32) := ⟨_, rfl⟩
    rw [← eS_7] at hW
    replace hp := hp S_7 eS_7
    have hX_S_7 : wX D S_6 S_7 := by rw [eS_7]; exact wX_uI
    have hE := hE.trans hX_S_7
    have hK_a0 : sK S_7 a0 = 1 := (hX_S_7.2 a0 hL_a0).1.trans hK_a0
    have hL_a0 : wM D S_7 a0 := hX_S_7.M hL_a0
    exact t_J5_init_d00df_38 F hr hlocks hK hin hbc hbs hp hW hE (lv_sub hl [] rfl)
  · replace hp := hp.2 c_1
    refine lv_aload_n hx hb dJ5_init_d00df_10 rfl (lv_at hl 0 rfl) ?_
    refine lv_iload_n hx hb dJ5_init_d00df_11 rfl (lv_at hl 1 rfl) ?_
    obtain ⟨h_11, h_11b, h_11c, h_11d, hp⟩ := hp
    refine w_newaB F hK hW (hwg _ wr_byte) h_11 h_11b (by show _ ≤ rC; omega) (by show _ ≤ rS; omega) dJ5_init_d00df_12 (fun y_9 H hq_y_9 hW => ?_)
    replace hbc := w_spend hbc (show 1 ≤ bc by omega)
    replace hbs := w_spend hbs (show (x1).toNatClampNeg ≤ bs by omega)
    obtain ⟨S_10, eS_10⟩ : ∃ z : wS, z = nA S y_9 20 (x1).toNatClampNeg := ⟨_, rfl⟩
    rw [← eS_10] at hW
    replace hp := hp y_9 hq_y_9 S_10 eS_10
    have hX_S_10 : wX D S S_10 := by rw [eS_10]; exact wX_nA hq_y_9
    have hE := hE.trans hX_S_10
    have hK_a0 : sK S_10 a0 = 1 := (hX_S_10.2 a0 hL_a0).1.trans hK_a0
    have hL_a0 : wM D S_10 a0 := hX_S_10.M hL_a0
    have hL_y_9 : wM D S_10 y_9 := by rw [eS_10]; exact Or.inl (List.mem_append_right _ List.mem_cons_self)
    have hK_y_9 : sK S_10 y_9 = 20 := by rw [eS_10]; exact va_up_self _ _ _
    refine w_putR (k := 1) (f := 0) (T := TJ4) (g := (some y_9)) F hK hW hL_a0 hK_a0 (by decide) (by decide) rfl rfl (by decide) i_1 tyJ4 tyJ4_ok nmJ4 k_15 rfl rfl (ty := (.array .byte)) rfl (v_narrow _ _) (v_fitsA _ _) dJ5_init_d00df_14 (fun H locs hW => ?_)
    obtain ⟨S_12, eS_12⟩ : ∃ z : wS, z = uR S_10 a0 0 (some y_9) := ⟨_, rfl⟩
    rw [← eS_12] at hW
    replace hp := hp S_12 eS_12
    have hX_S_12 : wX D S_10 S_12 := by rw [eS_12]; exact wX_uR
    have hE := hE.trans hX_S_12
    have hK_a0 : sK S_12 a0 = 1 := (hX_S_12.2 a0 hL_a0).1.trans hK_a0
    have hL_a0 : wM D S_12 a0 := hX_S_12.M hL_a0
    refine lv_aload_n hx hb dJ5_init_d00df_17 rfl (lv_at hl 0 rfl) ?_
    refine lv_iconst (v := 0) hx hb dJ5_init_d00df_18 (by decide) ?_
    obtain ⟨h_14, h_14f, hp⟩ := hp
    refine w_putI (k := 1) (f := 1) (T := TJ4) F hK hW hL_a0 hK_a0 (by decide) (by decide) rfl rfl (by decide) i_1 tyJ4 tyJ4_ok nmJ4 k_22 rfl rfl (ty := .byte) rfl h_14 h_14f dJ5_init_d00df_19 (fun H locs hW => ?_)
    obtain ⟨S_13, eS_13⟩ : ∃ z : wS, z = uI S_12 a0 1 (0 : Int32) := ⟨_, rfl⟩
    rw [← eS_13] at hW
    replace hp := hp S_13 eS_13
    have hX_S_13 : wX D S_12 S_13 := by rw [eS_13]; exact wX_uI
    have hE := hE.trans hX_S_13
    have hK_a0 : sK S_13 a0 = 1 := (hX_S_13.2 a0 hL_a0).1.trans hK_a0
    have hL_a0 : wM D S_13 a0 := hX_S_13.M hL_a0
    refine lv_goto (tgt := 38) hx hb dJ5_init_d00df_22 (by decide) ?_
    exact t_J5_init_d00df_38 F hr hlocks hK hin hbc hbs hp hW hE (lv_sub hl [] rfl)
set_option maxHeartbeats 4000000 in
set_option maxRecDepth 100000 in
theorem c_J5_init_d00df (l : Launch) {rC rS : Nat} {D : wD} {cy : Nat → ClassId} {X : va_W} {S0 : wS} {post : wS → Prop} {a0 : Nat} {x1 : Int32} (hL_a0 : wM D S0 a0) (hK_a0 : sK S0 a0 = 1) (hp : wp_J5_init_d00df D post rC rS S0 a0 x1) : mV D cy X l yJ5_init_d00df wz_J5_init_d00df (r_J5_init_d00df rC rS) [.ref a0, .int x1] S0 (fun S9 => wX D S0 S9 ∧ post S9) := by
  intro sz
  refine Met.ofW (cc := cJ5_init_d00df) (maxL := 2) (ret := none) (by decide) rfl ?_
  intro p e s m args below meth c s₁ B hml hv
  obtain ⟨rfl, hsz, hP, hK, hD0, hRO⟩ := hv
  have hts := atoms_spec (ws := wz_J5_init_d00df) B.pre
  have hown : s.vm.findClass RJ5 = some m.cls := findClass_of_methodNamed B.named
  subst hsz
  have hD := hD0.self (sz := s.heap.size)
  have F : CallFix p m c cJ5_init_d00df 2 s _ wz_J5_init_d00df RJ5 := ⟨B.exec, B.bytes, hml, hown, hts⟩
  have hr := B.returns
  have hlocks := B.notSynchronized
  have hin : meth.name = "<init>" := (name_of_methodNamed B.named B.method).1
  generalize hAe : va_A (wL cy X S0) s.heap.size = A at hD hK ⊢
  have hA : ∀ q, s.heap.size ≤ q → A q := fun q h => by rw [← hAe]; exact Or.inr h
  have hW : wO D cy X A s.heap S0 s.heap [] := ⟨hP, hD, va_S.rf, hA, hRO⟩
  have hl := lv_entry ([.ref a0, .int x1]) (n := 2) (Nat.le_of_ble_eq_true rfl)
  rw [lg_entry_eq]
  generalize (lg_sl ([.ref a0, .int x1]) ++ List.replicate (2 - (lg_sl ([.ref a0, .int x1])).length) Slot.unset).toArray = ls at hl ⊢
  have hl : lv_has ls 2 [(0, .ref a0), (1, .int x1)] := hl
  unfold wp_J5_init_d00df at hp
  exact t_J5_init_d00df_0 F hr hlocks hK hin (Nat.le_of_eq (Nat.zero_add _)) (Nat.le_of_eq (Nat.zero_add _)) hp hW wX.rf (lv_sub hl [0, 1] rfl) hL_a0 hK_a0
def wp_J4_init_da8c8_0 (D : wD) (post : wS → Prop)  (bc bs : Nat) (S : wS) (a0 : Nat) : Prop :=
∃ m_3 z_4 : Nat, m_3 ≤ bc ∧ z_4 ≤ bs ∧
wp_J5_init_d00df D (fun S_2 => 
post S_2) m_3 z_4 S a0 (16 : Int32)
abbrev r_J4_init_da8c8 (rC rS : Nat) : Room := { frames := 3, cells := rC, slots := rS, locals := 81 }
def wp_J4_init_da8c8 (D : wD) (post : wS → Prop) (bc bs : Nat) (S : wS) (a0 : Nat) : Prop := wp_J4_init_da8c8_0 D post bc bs S a0
set_option maxHeartbeats 4000000 in
set_option maxRecDepth 100000 in
theorem t_J4_init_da8c8_0 {p : Program} {l : Launch} {e : Env} {s : State} {m : MethodId} {args : Array Value} {below : List Frame} {meth : Method} {c : Code} {D : wD} {cy : Nat → ClassId} {X : va_W} {A : Nat → Prop} {S0 : wS} {rC rS : Nat} {post : wS → Prop} (F : CallFix p m c cJ4_init_da8c8 1 s args wz_J4_init_da8c8 RJ4) (hr : meth.sig.returnType = none) (hlocks : meth.locks = false) (hK : wK D cy A s) (hin : meth.name = "<init>") : ∀ {bc bs cells slots : Nat} (hbc : cells + bc ≤ rC) (hbs : slots + bs ≤ rS) {S : wS} {H : Heap} {locs : List Loc} {ls : Array Slot} {a0 : Nat}, wp_J4_init_da8c8_0 D post bc bs S a0 → wO D cy X A s.heap S H locs → wX D S0 S → lv_has ls 1 [(0, .ref a0)] → wM D S a0 → sK S a0 = 1 → W p l e (r_J4_init_da8c8 rC rS) s m args below meth c H locs cells slots (MQ below (va_Qv (fun S9 => wX D S0 S9 ∧ post S9) (wB D cy X A) A) args s rC rS A) (F0 m 0 ls []) := by
  obtain ⟨hx, hb, hml, hown, hts⟩ := id F
  have hwg : ∀ w ∈ WG, w.before args s = true := fun w h => hts w (List.mem_cons_of_mem _ h)
  intro bc bs cells slots hbc hbs S H locs ls a0 hp hW hE hl hL_a0 hK_a0
  unfold wp_J4_init_da8c8_0 at hp
  refine lv_aload_n hx hb dJ4_init_da8c8_0 rfl (lv_at hl 0 rfl) ?_
  refine lv_bipush (v := 16) hx hb dJ4_init_da8c8_1 (by decide) ?_
  obtain ⟨m_3, z_4, hm_3, hz_4, hp⟩ := hp
  refine w_callV (va_runI (As := [.int (16 : Int32)]) (rest := []) F (c_J5_init_d00df l hL_a0 hK_a0 hp H.size) (cwI 1 hts (wg_cons wy_J5_init_d00df.2.2) rfl rfl rfl (hwg _ wy_J5_init_d00df.2.1) (hwg _ wm_RJ4_1) (hwg _ wy_J5_init_d00df.1) rfl (by decide +kernel) ⟨Nat.le_of_ble_eq_true rfl, Nat.le_of_ble_eq_true rfl⟩) (w_preS hK hW) rfl rfl hl.1 rfl (lv_room (Nat.le_of_ble_eq_true rfl)) dJ4_init_da8c8_3 ⟨by show _ + m_3 ≤ rC; omega, by show _ + z_4 ≤ rS; omega⟩) hW (fun S_2 H locs hp hW => ?_)
  obtain ⟨hX_S_2, hp⟩ := hp
  refine W.widen (k := _ + m_3) (n := _ + z_4) (Nat.le_refl _) (Nat.le_refl _) ?_
  replace hbc := w_spend hbc (show m_3 ≤ bc by omega)
  replace hbs := w_spend hbs (show z_4 ≤ bs by omega)
  have hE := hE.trans hX_S_2
  have hK_a0 : sK S_2 a0 = 1 := (hX_S_2.2 a0 hL_a0).1.trans hK_a0
  have hL_a0 : wM D S_2 a0 := hX_S_2.M hL_a0
  refine W.widen (k := rC) (n := rS) (Nat.le_trans (Nat.le_add_right _ _) hbc) (Nat.le_trans (Nat.le_add_right _ _) hbs) ?_
  exact w_vret hx hb hr hlocks hW ⟨hE, hp⟩ dJ4_init_da8c8_6
set_option maxHeartbeats 4000000 in
set_option maxRecDepth 100000 in
theorem c_J4_init_da8c8 (l : Launch) {rC rS : Nat} {D : wD} {cy : Nat → ClassId} {X : va_W} {S0 : wS} {post : wS → Prop} {a0 : Nat} (hL_a0 : wM D S0 a0) (hK_a0 : sK S0 a0 = 1) (hp : wp_J4_init_da8c8 D post rC rS S0 a0) : mV D cy X l yJ4_init_da8c8 wz_J4_init_da8c8 (r_J4_init_da8c8 rC rS) [.ref a0] S0 (fun S9 => wX D S0 S9 ∧ post S9) := by
  intro sz
  refine Met.ofW (cc := cJ4_init_da8c8) (maxL := 1) (ret := none) (by decide) rfl ?_
  intro p e s m args below meth c s₁ B hml hv
  obtain ⟨rfl, hsz, hP, hK, hD0, hRO⟩ := hv
  have hts := atoms_spec (ws := wz_J4_init_da8c8) B.pre
  have hown : s.vm.findClass RJ4 = some m.cls := findClass_of_methodNamed B.named
  subst hsz
  have hD := hD0.self (sz := s.heap.size)
  have F : CallFix p m c cJ4_init_da8c8 1 s _ wz_J4_init_da8c8 RJ4 := ⟨B.exec, B.bytes, hml, hown, hts⟩
  have hr := B.returns
  have hlocks := B.notSynchronized
  have hin : meth.name = "<init>" := (name_of_methodNamed B.named B.method).1
  generalize hAe : va_A (wL cy X S0) s.heap.size = A at hD hK ⊢
  have hA : ∀ q, s.heap.size ≤ q → A q := fun q h => by rw [← hAe]; exact Or.inr h
  have hW : wO D cy X A s.heap S0 s.heap [] := ⟨hP, hD, va_S.rf, hA, hRO⟩
  have hl := lv_entry ([.ref a0]) (n := 1) (Nat.le_of_ble_eq_true rfl)
  rw [lg_entry_eq]
  generalize (lg_sl ([.ref a0]) ++ List.replicate (1 - (lg_sl ([.ref a0])).length) Slot.unset).toArray = ls at hl ⊢
  have hl : lv_has ls 1 [(0, .ref a0)] := hl
  unfold wp_J4_init_da8c8 at hp
  exact t_J4_init_da8c8_0 F hr hlocks hK hin (Nat.le_of_eq (Nat.zero_add _)) (Nat.le_of_eq (Nat.zero_add _)) hp hW wX.rf (lv_sub hl [0] rfl) hL_a0 hK_a0
def wp_J4_toString_0e30d_0 (D : wD) (post : Option Nat → wS → Prop)  (bc bs : Nat) (S : wS) (a0 : Nat) : Prop :=
False
abbrev r_J4_toString_0e30d (rC rS : Nat) : Room := { frames := 0, cells := rC, slots := rS, locals := 0 }
def wp_J4_toString_0e30d (D : wD) (post : Option Nat → wS → Prop) (bc bs : Nat) (S : wS) (a0 : Nat) : Prop := wp_J4_toString_0e30d_0 D post bc bs S a0
set_option maxHeartbeats 4000000 in
set_option maxRecDepth 100000 in
theorem t_J4_toString_0e30d_0 {p : Program} {l : Launch} {e : Env} {s : State} {m : MethodId} {args : Array Value} {below : List Frame} {meth : Method} {c : Code} {D : wD} {cy : Nat → ClassId} {X : va_W} {A : Nat → Prop} {S0 : wS} {rC rS : Nat} {post : Option Nat → wS → Prop} (F : CallFix p m c cJ4_toString_0e30d 1 s args wz_J4_toString_0e30d RJ4) (hr : meth.sig.returnType = (some (.object "java/lang/String"))) (hlocks : meth.locks = false) (hK : wK D cy A s) : ∀ {bc bs cells slots : Nat} (hbc : cells + bc ≤ rC) (hbs : slots + bs ≤ rS) {S : wS} {H : Heap} {locs : List Loc} {ls : Array Slot} {a0 : Nat}, wp_J4_toString_0e30d_0 D post bc bs S a0 → wO D cy X A s.heap S H locs → wX D S0 S → lv_has ls 1 [(0, .ref a0)] → wM D S a0 → sK S a0 = 1 → W p l e (r_J4_toString_0e30d rC rS) s m args below meth c H locs cells slots (MQ below (va_Qq (fun r S9 => wX D S0 S9 ∧ post r S9) (wB D cy X A) A) args s rC rS A) (F0 m 0 ls []) := by
  obtain ⟨hx, hb, hml, hown, hts⟩ := id F
  have hwg : ∀ w ∈ WG, w.before args s = true := fun w h => hts w (List.mem_cons_of_mem _ h)
  intro bc bs cells slots hbc hbs S H locs ls a0 hp hW hE hl hL_a0 hK_a0
  unfold wp_J4_toString_0e30d_0 at hp
  exact hp.elim
set_option maxHeartbeats 4000000 in
set_option maxRecDepth 100000 in
theorem c_J4_toString_0e30d (l : Launch) {rC rS : Nat} {D : wD} {cy : Nat → ClassId} {X : va_W} {S0 : wS} {post : Option Nat → wS → Prop} {a0 : Nat} (hL_a0 : wM D S0 a0) (hK_a0 : sK S0 a0 = 1) (hp : wp_J4_toString_0e30d D post rC rS S0 a0) : mR D cy X l yJ4_toString_0e30d wz_J4_toString_0e30d (r_J4_toString_0e30d rC rS) [.ref a0] S0 (fun r S9 => wX D S0 S9 ∧ post r S9) := by
  intro sz
  refine Met.ofW (cc := cJ4_toString_0e30d) (maxL := 1) (ret := (some (.object "java/lang/String"))) (by decide) rfl ?_
  intro p e s m args below meth c s₁ B hml hv
  obtain ⟨rfl, hsz, hP, hK, hD0, hRO⟩ := hv
  have hts := atoms_spec (ws := wz_J4_toString_0e30d) B.pre
  have hown : s.vm.findClass RJ4 = some m.cls := findClass_of_methodNamed B.named
  subst hsz
  have hD := hD0.self (sz := s.heap.size)
  have F : CallFix p m c cJ4_toString_0e30d 1 s _ wz_J4_toString_0e30d RJ4 := ⟨B.exec, B.bytes, hml, hown, hts⟩
  have hr := B.returns
  have hlocks := B.notSynchronized
  generalize hAe : va_A (wL cy X S0) s.heap.size = A at hD hK ⊢
  have hA : ∀ q, s.heap.size ≤ q → A q := fun q h => by rw [← hAe]; exact Or.inr h
  have hW : wO D cy X A s.heap S0 s.heap [] := ⟨hP, hD, va_S.rf, hA, hRO⟩
  have hl := lv_entry ([.ref a0]) (n := 1) (Nat.le_of_ble_eq_true rfl)
  rw [lg_entry_eq]
  generalize (lg_sl ([.ref a0]) ++ List.replicate (1 - (lg_sl ([.ref a0])).length) Slot.unset).toArray = ls at hl ⊢
  have hl : lv_has ls 1 [(0, .ref a0)] := hl
  unfold wp_J4_toString_0e30d at hp
  exact t_J4_toString_0e30d_0 F hr hlocks hK (Nat.le_of_eq (Nat.zero_add _)) (Nat.le_of_eq (Nat.zero_add _)) hp hW wX.rf (lv_sub hl [0] rfl) hL_a0 hK_a0
def wp_J7_checkLength_df160_0 (D : wD) (post : wS → Prop)  (bc bs : Nat) (S : wS) (x0 : Int32) (x1 : Int32) : Prop :=
((x0 ≤ x1 → post S) ∧
 (¬ x0 ≤ x1 → False))
abbrev r_J7_checkLength_df160 (rC rS : Nat) : Room := { frames := 0, cells := rC, slots := rS, locals := 0 }
def wp_J7_checkLength_df160 (D : wD) (post : wS → Prop) (bc bs : Nat) (S : wS) (x0 : Int32) (x1 : Int32) : Prop := wp_J7_checkLength_df160_0 D post bc bs S x0 x1
set_option maxHeartbeats 4000000 in
set_option maxRecDepth 100000 in
theorem t_J7_checkLength_df160_0 {p : Program} {l : Launch} {e : Env} {s : State} {m : MethodId} {args : Array Value} {below : List Frame} {meth : Method} {c : Code} {D : wD} {cy : Nat → ClassId} {X : va_W} {A : Nat → Prop} {S0 : wS} {rC rS : Nat} {post : wS → Prop} (F : CallFix p m c cJ7_checkLength_df160 2 s args wz_J7_checkLength_df160 RJ7) (hr : meth.sig.returnType = none) (hlocks : meth.locks = false) (hK : wK D cy A s) : ∀ {bc bs cells slots : Nat} (hbc : cells + bc ≤ rC) (hbs : slots + bs ≤ rS) {S : wS} {H : Heap} {locs : List Loc} {ls : Array Slot} {x0 : Int32} {x1 : Int32}, wp_J7_checkLength_df160_0 D post bc bs S x0 x1 → wO D cy X A s.heap S H locs → wX D S0 S → lv_has ls 2 [(0, .int x0), (1, .int x1)] → W p l e (r_J7_checkLength_df160 rC rS) s m args below meth c H locs cells slots (MQ below (va_Qv (fun S9 => wX D S0 S9 ∧ post S9) (wB D cy X A) A) args s rC rS A) (F0 m 0 ls []) := by
  obtain ⟨hx, hb, hml, hown, hts⟩ := id F
  have hwg : ∀ w ∈ WG, w.before args s = true := fun w h => hts w (List.mem_cons_of_mem _ h)
  intro bc bs cells slots hbc hbs S H locs ls x0 x1 hp hW hE hl
  unfold wp_J7_checkLength_df160_0 at hp
  refine lv_iload_n hx hb dJ7_checkLength_df160_0 rfl (lv_at hl 1 rfl) ?_
  refine lv_iload_n hx hb dJ7_checkLength_df160_1 rfl (lv_at hl 0 rfl) ?_
  refine lv_icmp_ge (tgt := 37) hx hb dJ7_checkLength_df160_2 (by decide) (fun c_1 => ?_) (fun c_1 => ?_)
  · replace hp := hp.1 c_1
    refine W.widen (k := rC) (n := rS) (Nat.le_trans (Nat.le_add_right _ _) hbc) (Nat.le_trans (Nat.le_add_right _ _) hbs) ?_
    exact w_vret hx hb hr hlocks hW ⟨hE, hp⟩ dJ7_checkLength_df160_37
  · replace hp := hp.2 c_1
    exact hp.elim
set_option maxHeartbeats 4000000 in
set_option maxRecDepth 100000 in
theorem c_J7_checkLength_df160 (l : Launch) {rC rS : Nat} {D : wD} {cy : Nat → ClassId} {X : va_W} {S0 : wS} {post : wS → Prop} {x0 : Int32} {x1 : Int32} (hp : wp_J7_checkLength_df160 D post rC rS S0 x0 x1) : mV D cy X l yJ7_checkLength_df160 wz_J7_checkLength_df160 (r_J7_checkLength_df160 rC rS) [.int x0, .int x1] S0 (fun S9 => wX D S0 S9 ∧ post S9) := by
  intro sz
  refine Met.ofW (cc := cJ7_checkLength_df160) (maxL := 2) (ret := none) (by decide) rfl ?_
  intro p e s m args below meth c s₁ B hml hv
  obtain ⟨rfl, hsz, hP, hK, hD0, hRO⟩ := hv
  have hts := atoms_spec (ws := wz_J7_checkLength_df160) B.pre
  have hown : s.vm.findClass RJ7 = some m.cls := findClass_of_methodNamed B.named
  subst hsz
  have hD := hD0.self (sz := s.heap.size)
  have F : CallFix p m c cJ7_checkLength_df160 2 s _ wz_J7_checkLength_df160 RJ7 := ⟨B.exec, B.bytes, hml, hown, hts⟩
  have hr := B.returns
  have hlocks := B.notSynchronized
  generalize hAe : va_A (wL cy X S0) s.heap.size = A at hD hK ⊢
  have hA : ∀ q, s.heap.size ≤ q → A q := fun q h => by rw [← hAe]; exact Or.inr h
  have hW : wO D cy X A s.heap S0 s.heap [] := ⟨hP, hD, va_S.rf, hA, hRO⟩
  have hl := lv_entry ([.int x0, .int x1]) (n := 2) (Nat.le_of_ble_eq_true rfl)
  rw [lg_entry_eq]
  generalize (lg_sl ([.int x0, .int x1]) ++ List.replicate (2 - (lg_sl ([.int x0, .int x1])).length) Slot.unset).toArray = ls at hl ⊢
  have hl : lv_has ls 2 [(0, .int x0), (1, .int x1)] := hl
  unfold wp_J7_checkLength_df160 at hp
  exact t_J7_checkLength_df160_0 F hr hlocks hK (Nat.le_of_eq (Nat.zero_add _)) (Nat.le_of_eq (Nat.zero_add _)) hp hW wX.rf (lv_sub hl [0, 1] rfl)
def wp_J7_copyOfRangeByte_39247_0 (D : wD) (post : Option Nat → wS → Prop)  (bc bs : Nat) (S : wS) (a0 : Nat) (x1 : Int32) (x2 : Int32) : Prop :=
∃ m_3 z_4 : Nat, m_3 ≤ bc ∧ z_4 ≤ bs ∧
wp_J7_checkLength_df160 D (fun S_2 => 
∀ x_5 : Int32, x_5 = (x2 - x1) →
¬ x_5 < 0 ∧ (x_5).toNatClampNeg ≤ 1000000 ∧ 1 ≤ (bc - m_3) ∧ (x_5).toNatClampNeg ≤ (bs - z_4) ∧ ∀ y_6 : Nat, ¬ wM D S_2 y_6 → ∀ S_7 : wS, S_7 = nA S_2 y_6 20 (x_5).toNatClampNeg →
y_6 ∈ sL S_7 ∧ ¬ x1 < 0 ∧ ¬ (0 : Int32) < 0 ∧ ¬ (if x_5 < ((Int32.ofNat (sN S_7 a0)) - x1) then x_5 else ((Int32.ofNat (sN S_7 a0)) - x1)) < 0 ∧ Int32.toNatClampNeg x1 + Int32.toNatClampNeg (if x_5 < ((Int32.ofNat (sN S_7 a0)) - x1) then x_5 else ((Int32.ofNat (sN S_7 a0)) - x1)) ≤ sN S_7 a0 ∧ Int32.toNatClampNeg (0 : Int32) + Int32.toNatClampNeg (if x_5 < ((Int32.ofNat (sN S_7 a0)) - x1) then x_5 else ((Int32.ofNat (sN S_7 a0)) - x1)) ≤ sN S_7 y_6 ∧ (∀ i, i < Int32.toNatClampNeg (if x_5 < ((Int32.ofNat (sN S_7 a0)) - x1) then x_5 else ((Int32.ofNat (sN S_7 a0)) - x1)) → fits .byte (.int (sI S_7 a0 (Int32.toNatClampNeg x1 + i))) = true) ∧
∀ S_10 : wS, S_10 = uY S_7 a0 y_6 (Int32.toNatClampNeg x1) (Int32.toNatClampNeg (0 : Int32)) (Int32.toNatClampNeg (if x_5 < ((Int32.ofNat (sN S_7 a0)) - x1) then x_5 else ((Int32.ofNat (sN S_7 a0)) - x1))) →
post (some y_6) S_10) m_3 z_4 S x1 x2
abbrev r_J7_copyOfRangeByte_39247 (rC rS : Nat) : Room := { frames := 1, cells := rC, slots := rS, locals := 60 }
def wp_J7_copyOfRangeByte_39247 (D : wD) (post : Option Nat → wS → Prop) (bc bs : Nat) (S : wS) (a0 : Nat) (x1 : Int32) (x2 : Int32) : Prop := wp_J7_copyOfRangeByte_39247_0 D post bc bs S a0 x1 x2
set_option maxHeartbeats 4000000 in
set_option maxRecDepth 100000 in
theorem t_J7_copyOfRangeByte_39247_0 {p : Program} {l : Launch} {e : Env} {s : State} {m : MethodId} {args : Array Value} {below : List Frame} {meth : Method} {c : Code} {D : wD} {cy : Nat → ClassId} {X : va_W} {A : Nat → Prop} {S0 : wS} {rC rS : Nat} {post : Option Nat → wS → Prop} (F : CallFix p m c cJ7_copyOfRangeByte_39247 5 s args wz_J7_copyOfRangeByte_39247 RJ7) (hr : meth.sig.returnType = (some (.array .byte))) (hlocks : meth.locks = false) (hK : wK D cy A s) : ∀ {bc bs cells slots : Nat} (hbc : cells + bc ≤ rC) (hbs : slots + bs ≤ rS) {S : wS} {H : Heap} {locs : List Loc} {ls : Array Slot} {a0 : Nat} {x1 : Int32} {x2 : Int32}, wp_J7_copyOfRangeByte_39247_0 D post bc bs S a0 x1 x2 → wO D cy X A s.heap S H locs → wX D S0 S → lv_has ls 5 [(0, .ref a0), (1, .int x1), (2, .int x2)] → wM D S a0 → sK S a0 = 20 → W p l e (r_J7_copyOfRangeByte_39247 rC rS) s m args below meth c H locs cells slots (MQ below (va_Qq (fun r S9 => wX D S0 S9 ∧ post r S9) (wB D cy X A) A) args s rC rS A) (F0 m 0 ls []) := by
  obtain ⟨hx, hb, hml, hown, hts⟩ := id F
  have hwg : ∀ w ∈ WG, w.before args s = true := fun w h => hts w (List.mem_cons_of_mem _ h)
  intro bc bs cells slots hbc hbs S H locs ls a0 x1 x2 hp hW hE hl hL_a0 hK_a0
  unfold wp_J7_copyOfRangeByte_39247_0 at hp
  refine lv_iload_n hx hb dJ7_copyOfRangeByte_39247_0 rfl (lv_at hl 1 rfl) ?_
  refine lv_iload_n hx hb dJ7_copyOfRangeByte_39247_1 rfl (lv_at hl 2 rfl) ?_
  obtain ⟨m_3, z_4, hm_3, hz_4, hp⟩ := hp
  refine w_callV (va_runS (As := [.int x1, .int x2]) (rest := []) F (c_J7_checkLength_df160 l hp H.size) (va_cwS 2 hts (wg_S wm_RJ7_343 wy_J7_checkLength_df160) rfl rfl rfl (by decide +kernel) ⟨Nat.le_of_ble_eq_true rfl, Nat.le_of_ble_eq_true rfl⟩) (w_preS hK hW) rfl rfl hl.1 rfl (lv_room (Nat.le_of_ble_eq_true rfl)) dJ7_copyOfRangeByte_39247_2 ⟨by show _ + m_3 ≤ rC; omega, by show _ + z_4 ≤ rS; omega⟩) hW (fun S_2 H locs hp hW => ?_)
  obtain ⟨hX_S_2, hp⟩ := hp
  refine W.widen (k := _ + m_3) (n := _ + z_4) (Nat.le_refl _) (Nat.le_refl _) ?_
  replace hbc := w_spend hbc (show m_3 ≤ bc by omega)
  replace hbs := w_spend hbs (show z_4 ≤ bs by omega)
  have hE := hE.trans hX_S_2
  have hK_a0 : sK S_2 a0 = 20 := (hX_S_2.2 a0 hL_a0).1.trans hK_a0
  have hL_a0 : wM D S_2 a0 := hX_S_2.M hL_a0
  refine lv_iload_n hx hb dJ7_copyOfRangeByte_39247_5 rfl (lv_at hl 2 rfl) ?_
  refine lv_iload_n hx hb dJ7_copyOfRangeByte_39247_6 rfl (lv_at hl 1 rfl) ?_
  refine lv_isub hx hb dJ7_copyOfRangeByte_39247_7 ?_
  refine lv_topi (fun x_5 ex_5 => ?_)
  replace hp := hp x_5 ex_5
  refine lv_istore_n (lv' := [(3, .int x_5), (0, .ref a0), (1, .int x1), (2, .int x2)]) hx hb dJ7_copyOfRangeByte_39247_8 rfl hl (by decide) rfl (fun ls hl => ?_)
  refine lv_iload_n hx hb dJ7_copyOfRangeByte_39247_9 rfl (lv_at hl 0 rfl) ?_
  obtain ⟨h_8, h_8b, h_8c, h_8d, hp⟩ := hp
  refine w_newaB F hK hW (hwg _ wr_byte) h_8 h_8b (by show _ ≤ rC; omega) (by show _ ≤ rS; omega) dJ7_copyOfRangeByte_39247_10 (fun y_6 H hq_y_6 hW => ?_)
  replace hbc := w_spend hbc (show 1 ≤ (bc - m_3) by omega)
  replace hbs := w_spend hbs (show (x_5).toNatClampNeg ≤ (bs - z_4) by omega)
  obtain ⟨S_7, eS_7⟩ : ∃ z : wS, z = nA S_2 y_6 20 (x_5).toNatClampNeg := ⟨_, rfl⟩
  rw [← eS_7] at hW
  replace hp := hp y_6 hq_y_6 S_7 eS_7
  have hX_S_7 : wX D S_2 S_7 := by rw [eS_7]; exact wX_nA hq_y_6
  have hE := hE.trans hX_S_7
  have hK_a0 : sK S_7 a0 = 20 := (hX_S_7.2 a0 hL_a0).1.trans hK_a0
  have hL_a0 : wM D S_7 a0 := hX_S_7.M hL_a0
  have hL_y_6 : wM D S_7 y_6 := by rw [eS_7]; exact Or.inl (List.mem_append_right _ List.mem_cons_self)
  have hK_y_6 : sK S_7 y_6 = 20 := by rw [eS_7]; exact va_up_self _ _ _
  refine lv_astore (lv' := [(4, .ref y_6), (3, .int x_5), (0, .ref a0), (1, .int x1), (2, .int x2)]) hx hb dJ7_copyOfRangeByte_39247_12 hl (by decide) rfl (fun ls hl => ?_)
  refine lv_aload_n hx hb dJ7_copyOfRangeByte_39247_14 rfl (lv_at hl 2 rfl) ?_
  refine lv_iload_n hx hb dJ7_copyOfRangeByte_39247_15 rfl (lv_at hl 3 rfl) ?_
  refine lv_aload hx hb dJ7_copyOfRangeByte_39247_16 (lv_at hl 0 rfl) ?_
  refine lv_iconst (v := 0) hx hb dJ7_copyOfRangeByte_39247_18 (by decide) ?_
  refine lv_aload_n hx hb dJ7_copyOfRangeByte_39247_19 rfl (lv_at hl 2 rfl) ?_
  refine w_len F hK hW hL_a0 hK_a0 (by decide) dJ7_copyOfRangeByte_39247_20 ?_
  refine lv_iload_n hx hb dJ7_copyOfRangeByte_39247_21 rfl (lv_at hl 3 rfl) ?_
  refine lv_isub hx hb dJ7_copyOfRangeByte_39247_22 ?_
  refine lv_iload_n hx hb dJ7_copyOfRangeByte_39247_23 rfl (lv_at hl 1 rfl) ?_
  refine va_mmin hx hb (hml.trans hl.1.symm) hown (hwg _ wm_RJ7_304) (hwg _ wmm_min.1) (hwg _ wmm_min.2.1) (hwg _ wmm_min.2.2) (Nat.le_of_ble_eq_true rfl) (Nat.le_of_ble_eq_true rfl) (by show _ ≤ rC; omega) (by show _ ≤ rS; omega) dJ7_copyOfRangeByte_39247_24 ?_
  obtain ⟨h_9b, h_9c, h_9d, h_9e, h_9f, h_9g, h_9i, hp⟩ := hp
  refine w_copyM F hK hW (hml.trans hl.1.symm) (hwg _ wm_RJ7_150) (hwg _ wacp.1) (hwg _ wacp.2.1) (hwg _ wacp.2.2) hL_a0 hK_a0 h_9b hK_y_6 h_9c h_9d h_9e h_9f h_9g h_9i (Nat.le_of_ble_eq_true rfl) (Nat.le_of_ble_eq_true rfl) dJ7_copyOfRangeByte_39247_27 (fun H locs hW => ?_)
  obtain ⟨S_10, eS_10⟩ : ∃ z : wS, z = uY S_7 a0 y_6 (Int32.toNatClampNeg x1) (Int32.toNatClampNeg (0 : Int32)) (Int32.toNatClampNeg (if x_5 < ((Int32.ofNat (sN S_7 a0)) - x1) then x_5 else ((Int32.ofNat (sN S_7 a0)) - x1))) := ⟨_, rfl⟩
  rw [← eS_10] at hW
  replace hp := hp S_10 eS_10
  have hX_S_10 : wX D S_7 S_10 := by rw [eS_10]; exact wX_uY
  have hE := hE.trans hX_S_10
  have hK_a0 : sK S_10 a0 = 20 := (hX_S_10.2 a0 hL_a0).1.trans hK_a0
  have hL_a0 : wM D S_10 a0 := hX_S_10.M hL_a0
  have hK_y_6 : sK S_10 y_6 = 20 := (hX_S_10.2 y_6 hL_y_6).1.trans hK_y_6
  have hL_y_6 : wM D S_10 y_6 := hX_S_10.M hL_y_6
  refine lv_aload hx hb dJ7_copyOfRangeByte_39247_30 (lv_at hl 0 rfl) ?_
  refine W.widen (k := rC) (n := rS) (Nat.le_trans (Nat.le_add_right _ _) hbc) (Nat.le_trans (Nat.le_add_right _ _) hbs) ?_
  exact w_aret (g := (some y_6)) hx hb hr hlocks hW ⟨hE, hp⟩ dJ7_copyOfRangeByte_39247_32
set_option maxHeartbeats 4000000 in
set_option maxRecDepth 100000 in
theorem c_J7_copyOfRangeByte_39247 (l : Launch) {rC rS : Nat} {D : wD} {cy : Nat → ClassId} {X : va_W} {S0 : wS} {post : Option Nat → wS → Prop} {a0 : Nat} {x1 : Int32} {x2 : Int32} (hL_a0 : wM D S0 a0) (hK_a0 : sK S0 a0 = 20) (hp : wp_J7_copyOfRangeByte_39247 D post rC rS S0 a0 x1 x2) : mR D cy X l yJ7_copyOfRangeByte_39247 wz_J7_copyOfRangeByte_39247 (r_J7_copyOfRangeByte_39247 rC rS) [.ref a0, .int x1, .int x2] S0 (fun r S9 => wX D S0 S9 ∧ post r S9) := by
  intro sz
  refine Met.ofW (cc := cJ7_copyOfRangeByte_39247) (maxL := 5) (ret := (some (.array .byte))) (by decide) rfl ?_
  intro p e s m args below meth c s₁ B hml hv
  obtain ⟨rfl, hsz, hP, hK, hD0, hRO⟩ := hv
  have hts := atoms_spec (ws := wz_J7_copyOfRangeByte_39247) B.pre
  have hown : s.vm.findClass RJ7 = some m.cls := findClass_of_methodNamed B.named
  subst hsz
  have hD := hD0.self (sz := s.heap.size)
  have F : CallFix p m c cJ7_copyOfRangeByte_39247 5 s _ wz_J7_copyOfRangeByte_39247 RJ7 := ⟨B.exec, B.bytes, hml, hown, hts⟩
  have hr := B.returns
  have hlocks := B.notSynchronized
  generalize hAe : va_A (wL cy X S0) s.heap.size = A at hD hK ⊢
  have hA : ∀ q, s.heap.size ≤ q → A q := fun q h => by rw [← hAe]; exact Or.inr h
  have hW : wO D cy X A s.heap S0 s.heap [] := ⟨hP, hD, va_S.rf, hA, hRO⟩
  have hl := lv_entry ([.ref a0, .int x1, .int x2]) (n := 5) (Nat.le_of_ble_eq_true rfl)
  rw [lg_entry_eq]
  generalize (lg_sl ([.ref a0, .int x1, .int x2]) ++ List.replicate (5 - (lg_sl ([.ref a0, .int x1, .int x2])).length) Slot.unset).toArray = ls at hl ⊢
  have hl : lv_has ls 5 [(0, .ref a0), (1, .int x1), (2, .int x2)] := hl
  unfold wp_J7_copyOfRangeByte_39247 at hp
  exact t_J7_copyOfRangeByte_39247_0 F hr hlocks hK (Nat.le_of_eq (Nat.zero_add _)) (Nat.le_of_eq (Nat.zero_add _)) hp hW wX.rf (lv_sub hl [0, 1, 2] rfl) hL_a0 hK_a0
def wp_J7_copyOfRange_39247_10 (D : wD) (post : Option Nat → wS → Prop)  (bc bs : Nat) (S : wS) (a0 : Nat) (x1 : Int32) (x2 : Int32) : Prop :=
∃ m_3 z_4 : Nat, m_3 ≤ bc ∧ z_4 ≤ bs ∧
wp_J7_copyOfRangeByte_39247 D (fun r_1 S_2 => 
post r_1 S_2) m_3 z_4 S a0 x1 x2
def wp_J7_copyOfRange_39247_0 (D : wD) (post : Option Nat → wS → Prop)  (bc bs : Nat) (S : wS) (a0 : Nat) (x1 : Int32) (x2 : Int32) : Prop :=
((¬ x1 = 0 → wp_J7_copyOfRange_39247_10 D post bc bs S a0 x1 x2) ∧
 (x1 = 0 → ((x2 = (Int32.ofNat (sN S a0)) → False) ∧
 (¬ x2 = (Int32.ofNat (sN S a0)) → wp_J7_copyOfRange_39247_10 D post bc bs S a0 x1 x2))))
abbrev r_J7_copyOfRange_39247 (rC rS : Nat) : Room := { frames := 2, cells := rC, slots := rS, locals := 84 }
def wp_J7_copyOfRange_39247 (D : wD) (post : Option Nat → wS → Prop) (bc bs : Nat) (S : wS) (a0 : Nat) (x1 : Int32) (x2 : Int32) : Prop := wp_J7_copyOfRange_39247_0 D post bc bs S a0 x1 x2
set_option maxHeartbeats 4000000 in
set_option maxRecDepth 100000 in
theorem t_J7_copyOfRange_39247_10 {p : Program} {l : Launch} {e : Env} {s : State} {m : MethodId} {args : Array Value} {below : List Frame} {meth : Method} {c : Code} {D : wD} {cy : Nat → ClassId} {X : va_W} {A : Nat → Prop} {S0 : wS} {rC rS : Nat} {post : Option Nat → wS → Prop} (F : CallFix p m c cJ7_copyOfRange_39247 3 s args wz_J7_copyOfRange_39247 RJ7) (hr : meth.sig.returnType = (some (.array .byte))) (hlocks : meth.locks = false) (hK : wK D cy A s) : ∀ {bc bs cells slots : Nat} (hbc : cells + bc ≤ rC) (hbs : slots + bs ≤ rS) {S : wS} {H : Heap} {locs : List Loc} {ls : Array Slot} {a0 : Nat} {x1 : Int32} {x2 : Int32}, wp_J7_copyOfRange_39247_10 D post bc bs S a0 x1 x2 → wO D cy X A s.heap S H locs → wX D S0 S → lv_has ls 3 [(0, .ref a0), (1, .int x1), (2, .int x2)] → wM D S a0 → sK S a0 = 20 → W p l e (r_J7_copyOfRange_39247 rC rS) s m args below meth c H locs cells slots (MQ below (va_Qq (fun r S9 => wX D S0 S9 ∧ post r S9) (wB D cy X A) A) args s rC rS A) (F0 m 10 ls []) := by
  obtain ⟨hx, hb, hml, hown, hts⟩ := id F
  have hwg : ∀ w ∈ WG, w.before args s = true := fun w h => hts w (List.mem_cons_of_mem _ h)
  intro bc bs cells slots hbc hbs S H locs ls a0 x1 x2 hp hW hE hl hL_a0 hK_a0
  unfold wp_J7_copyOfRange_39247_10 at hp
  refine lv_aload_n hx hb dJ7_copyOfRange_39247_10 rfl (lv_at hl 0 rfl) ?_
  refine lv_iload_n hx hb dJ7_copyOfRange_39247_11 rfl (lv_at hl 1 rfl) ?_
  refine lv_iload_n hx hb dJ7_copyOfRange_39247_12 rfl (lv_at hl 2 rfl) ?_
  obtain ⟨m_3, z_4, hm_3, hz_4, hp⟩ := hp
  refine w_callR (va_runS (As := [.ref a0, .int x1, .int x2]) (rest := []) F (c_J7_copyOfRangeByte_39247 l hL_a0 hK_a0 hp H.size) (va_cwS 3 hts (wg_S wm_RJ7_339 wy_J7_copyOfRangeByte_39247) rfl rfl rfl (by decide +kernel) ⟨Nat.le_of_ble_eq_true rfl, Nat.le_of_ble_eq_true rfl⟩) (w_preS hK hW) rfl rfl hl.1 rfl (lv_room (Nat.le_of_ble_eq_true rfl)) dJ7_copyOfRange_39247_13 ⟨by show _ + m_3 ≤ rC; omega, by show _ + z_4 ≤ rS; omega⟩) hW (fun r_1 S_2 H locs hp hW => ?_)
  obtain ⟨hX_S_2, hp⟩ := hp
  refine W.widen (k := _ + m_3) (n := _ + z_4) (Nat.le_refl _) (Nat.le_refl _) ?_
  replace hbc := w_spend hbc (show m_3 ≤ bc by omega)
  replace hbs := w_spend hbs (show z_4 ≤ bs by omega)
  have hE := hE.trans hX_S_2
  have hK_a0 : sK S_2 a0 = 20 := (hX_S_2.2 a0 hL_a0).1.trans hK_a0
  have hL_a0 : wM D S_2 a0 := hX_S_2.M hL_a0
  refine W.widen (k := rC) (n := rS) (Nat.le_trans (Nat.le_add_right _ _) hbc) (Nat.le_trans (Nat.le_add_right _ _) hbs) ?_
  exact w_aret (g := r_1) hx hb hr hlocks hW ⟨hE, hp⟩ dJ7_copyOfRange_39247_16
set_option maxHeartbeats 4000000 in
set_option maxRecDepth 100000 in
theorem t_J7_copyOfRange_39247_0 {p : Program} {l : Launch} {e : Env} {s : State} {m : MethodId} {args : Array Value} {below : List Frame} {meth : Method} {c : Code} {D : wD} {cy : Nat → ClassId} {X : va_W} {A : Nat → Prop} {S0 : wS} {rC rS : Nat} {post : Option Nat → wS → Prop} (F : CallFix p m c cJ7_copyOfRange_39247 3 s args wz_J7_copyOfRange_39247 RJ7) (hr : meth.sig.returnType = (some (.array .byte))) (hlocks : meth.locks = false) (hK : wK D cy A s) : ∀ {bc bs cells slots : Nat} (hbc : cells + bc ≤ rC) (hbs : slots + bs ≤ rS) {S : wS} {H : Heap} {locs : List Loc} {ls : Array Slot} {a0 : Nat} {x1 : Int32} {x2 : Int32}, wp_J7_copyOfRange_39247_0 D post bc bs S a0 x1 x2 → wO D cy X A s.heap S H locs → wX D S0 S → lv_has ls 3 [(0, .ref a0), (1, .int x1), (2, .int x2)] → wM D S a0 → sK S a0 = 20 → W p l e (r_J7_copyOfRange_39247 rC rS) s m args below meth c H locs cells slots (MQ below (va_Qq (fun r S9 => wX D S0 S9 ∧ post r S9) (wB D cy X A) A) args s rC rS A) (F0 m 0 ls []) := by
  obtain ⟨hx, hb, hml, hown, hts⟩ := id F
  have hwg : ∀ w ∈ WG, w.before args s = true := fun w h => hts w (List.mem_cons_of_mem _ h)
  intro bc bs cells slots hbc hbs S H locs ls a0 x1 x2 hp hW hE hl hL_a0 hK_a0
  unfold wp_J7_copyOfRange_39247_0 at hp
  refine lv_iload_n hx hb dJ7_copyOfRange_39247_0 rfl (lv_at hl 1 rfl) ?_
  refine lv_if_ne (tgt := 10) hx hb dJ7_copyOfRange_39247_1 (by decide) (fun c_1 => ?_) (fun c_1 => ?_)
  · replace hp := hp.1 c_1
    exact t_J7_copyOfRange_39247_10 F hr hlocks hK hbc hbs hp hW hE (lv_sub hl [0, 1, 2] rfl) hL_a0 hK_a0
  · replace hp := hp.2 c_1
    refine lv_iload_n hx hb dJ7_copyOfRange_39247_4 rfl (lv_at hl 2 rfl) ?_
    refine lv_aload_n hx hb dJ7_copyOfRange_39247_5 rfl (lv_at hl 0 rfl) ?_
    refine w_len F hK hW hL_a0 hK_a0 (by decide) dJ7_copyOfRange_39247_6 ?_
    refine lv_icmp_eq (tgt := 17) hx hb dJ7_copyOfRange_39247_7 (by decide) (fun c_2 => ?_) (fun c_2 => ?_)
    · replace hp := hp.1 c_2
      exact hp.elim
    · replace hp := hp.2 c_2
      exact t_J7_copyOfRange_39247_10 F hr hlocks hK hbc hbs hp hW hE (lv_sub hl [0, 1, 2] rfl) hL_a0 hK_a0
set_option maxHeartbeats 4000000 in
set_option maxRecDepth 100000 in
theorem c_J7_copyOfRange_39247 (l : Launch) {rC rS : Nat} {D : wD} {cy : Nat → ClassId} {X : va_W} {S0 : wS} {post : Option Nat → wS → Prop} {a0 : Nat} {x1 : Int32} {x2 : Int32} (hL_a0 : wM D S0 a0) (hK_a0 : sK S0 a0 = 20) (hp : wp_J7_copyOfRange_39247 D post rC rS S0 a0 x1 x2) : mR D cy X l yJ7_copyOfRange_39247 wz_J7_copyOfRange_39247 (r_J7_copyOfRange_39247 rC rS) [.ref a0, .int x1, .int x2] S0 (fun r S9 => wX D S0 S9 ∧ post r S9) := by
  intro sz
  refine Met.ofW (cc := cJ7_copyOfRange_39247) (maxL := 3) (ret := (some (.array .byte))) (by decide) rfl ?_
  intro p e s m args below meth c s₁ B hml hv
  obtain ⟨rfl, hsz, hP, hK, hD0, hRO⟩ := hv
  have hts := atoms_spec (ws := wz_J7_copyOfRange_39247) B.pre
  have hown : s.vm.findClass RJ7 = some m.cls := findClass_of_methodNamed B.named
  subst hsz
  have hD := hD0.self (sz := s.heap.size)
  have F : CallFix p m c cJ7_copyOfRange_39247 3 s _ wz_J7_copyOfRange_39247 RJ7 := ⟨B.exec, B.bytes, hml, hown, hts⟩
  have hr := B.returns
  have hlocks := B.notSynchronized
  generalize hAe : va_A (wL cy X S0) s.heap.size = A at hD hK ⊢
  have hA : ∀ q, s.heap.size ≤ q → A q := fun q h => by rw [← hAe]; exact Or.inr h
  have hW : wO D cy X A s.heap S0 s.heap [] := ⟨hP, hD, va_S.rf, hA, hRO⟩
  have hl := lv_entry ([.ref a0, .int x1, .int x2]) (n := 3) (Nat.le_of_ble_eq_true rfl)
  rw [lg_entry_eq]
  generalize (lg_sl ([.ref a0, .int x1, .int x2]) ++ List.replicate (3 - (lg_sl ([.ref a0, .int x1, .int x2])).length) Slot.unset).toArray = ls at hl ⊢
  have hl : lv_has ls 3 [(0, .ref a0), (1, .int x1), (2, .int x2)] := hl
  unfold wp_J7_copyOfRange_39247 at hp
  exact t_J7_copyOfRange_39247_0 F hr hlocks hK (Nat.le_of_eq (Nat.zero_add _)) (Nat.le_of_eq (Nat.zero_add _)) hp hW wX.rf (lv_sub hl [0, 1, 2] rfl) hL_a0 hK_a0
def wp_J2_compress_39247_64 (D : wD) (post : Option Nat → wS → Prop)  (bc bs : Nat) (S : wS) (a3 : Nat) : Prop :=
post (some a3) S
def wp_J2_compress_39247_61 (D : wD) (post : Option Nat → wS → Prop)  (bc bs : Nat) (S : wS) (g5 : Option Nat) : Prop :=
post g5 S
def wp_J2_compress_39247_0 (D : wD) (post : Option Nat → wS → Prop)  (bc bs : Nat) (S : wS) (a0 : Nat) (x1 : Int32) (x2 : Int32) : Prop :=
¬ x2 < 0 ∧ (x2).toNatClampNeg ≤ 1000000 ∧ 1 ≤ bc ∧ (x2).toNatClampNeg ≤ bs ∧ ∀ y_1 : Nat, ¬ wM D S y_1 → ∀ S_2 : wS, S_2 = nA S y_1 20 (x2).toNatClampNeg →
wp_J2_compress_5af95 D (fun r_4 S_5 => 
((r_4 = x2 → wp_J2_compress_39247_64 D post (bc - 1) (bs - (x2).toNatClampNeg) S_5 y_1) ∧
 (¬ r_4 = x2 → wp_J2_newBytesLength_0f7a4 D (fun r_7 S_8 => 
∃ m_11 z_12 : Nat, m_11 ≤ (bc - 1) ∧ z_12 ≤ (bs - (x2).toNatClampNeg) ∧
wp_J7_copyOfRange_39247 D (fun r_9 S_10 => 
∃ y_13 : Nat, r_9 = some y_13 ∧ wM D S_10 y_13 ∧ sK S_10 y_13 = 20 ∧
wp_J2_getChar_3b067 D (fun r_15 S_16 => 
(((255 : Int32) < r_15 → wp_J2_compress_39247_61 D post ((bc - 1) - m_11) ((bs - (x2).toNatClampNeg) - z_12) S_16 (some y_13)) ∧
 (¬ (255 : Int32) < r_15 → wp_J2_compress_5af95 D (fun r_18 S_19 => 
((r_18 = x2 → wp_J2_compress_39247_64 D post ((bc - 1) - m_11) ((bs - (x2).toNatClampNeg) - z_12) S_19 y_1) ∧
 (¬ r_18 = x2 → wp_J2_compress_39247_61 D post ((bc - 1) - m_11) ((bs - (x2).toNatClampNeg) - z_12) S_19 (some y_13)))) S_16 y_13 (0 : Int32) y_1 (0 : Int32) x2))) S_10 y_13 r_4) m_11 z_12 S_8 a0 (x1 <<< ((1 : Int32) &&& 31)) r_7) S_5 (x1 + x2)))) S_2 a0 x1 y_1 (0 : Int32) x2
abbrev r_J2_compress_39247 (rC rS : Nat) : Room := { frames := 4, cells := rC, slots := rS, locals := 106 }
def wp_J2_compress_39247 (D : wD) (post : Option Nat → wS → Prop) (bc bs : Nat) (S : wS) (a0 : Nat) (x1 : Int32) (x2 : Int32) : Prop := wp_J2_compress_39247_0 D post bc bs S a0 x1 x2
set_option maxHeartbeats 4000000 in
set_option maxRecDepth 100000 in
theorem t_J2_compress_39247_64 {p : Program} {l : Launch} {e : Env} {s : State} {m : MethodId} {args : Array Value} {below : List Frame} {meth : Method} {c : Code} {D : wD} {cy : Nat → ClassId} {X : va_W} {A : Nat → Prop} {S0 : wS} {rC rS : Nat} {post : Option Nat → wS → Prop} (F : CallFix p m c cJ2_compress_39247 6 s args wz_J2_compress_39247 RJ2) (hr : meth.sig.returnType = (some (.array .byte))) (hlocks : meth.locks = false) (hK : wK D cy A s) : ∀ {bc bs cells slots : Nat} (hbc : cells + bc ≤ rC) (hbs : slots + bs ≤ rS) {S : wS} {H : Heap} {locs : List Loc} {ls : Array Slot} {a3 : Nat}, wp_J2_compress_39247_64 D post bc bs S a3 → wO D cy X A s.heap S H locs → wX D S0 S → lv_has ls 6 [(3, .ref a3)] → wM D S a3 → sK S a3 = 20 → W p l e (r_J2_compress_39247 rC rS) s m args below meth c H locs cells slots (MQ below (va_Qq (fun r S9 => wX D S0 S9 ∧ post r S9) (wB D cy X A) A) args s rC rS A) (F0 m 64 ls []) := by
  obtain ⟨hx, hb, hml, hown, hts⟩ := id F
  have hwg : ∀ w ∈ WG, w.before args s = true := fun w h => hts w (List.mem_cons_of_mem _ h)
  intro bc bs cells slots hbc hbs S H locs ls a3 hp hW hE hl hL_a3 hK_a3
  unfold wp_J2_compress_39247_64 at hp
  refine lv_aload_n hx hb dJ2_compress_39247_64 rfl (lv_at hl 0 rfl) ?_
  refine W.widen (k := rC) (n := rS) (Nat.le_trans (Nat.le_add_right _ _) hbc) (Nat.le_trans (Nat.le_add_right _ _) hbs) ?_
  exact w_aret (g := (some a3)) hx hb hr hlocks hW ⟨hE, hp⟩ dJ2_compress_39247_65
set_option maxHeartbeats 4000000 in
set_option maxRecDepth 100000 in
theorem t_J2_compress_39247_61 {p : Program} {l : Launch} {e : Env} {s : State} {m : MethodId} {args : Array Value} {below : List Frame} {meth : Method} {c : Code} {D : wD} {cy : Nat → ClassId} {X : va_W} {A : Nat → Prop} {S0 : wS} {rC rS : Nat} {post : Option Nat → wS → Prop} (F : CallFix p m c cJ2_compress_39247 6 s args wz_J2_compress_39247 RJ2) (hr : meth.sig.returnType = (some (.array .byte))) (hlocks : meth.locks = false) (hK : wK D cy A s) : ∀ {bc bs cells slots : Nat} (hbc : cells + bc ≤ rC) (hbs : slots + bs ≤ rS) {S : wS} {H : Heap} {locs : List Loc} {ls : Array Slot} {g5 : Option Nat}, wp_J2_compress_39247_61 D post bc bs S g5 → wO D cy X A s.heap S H locs → wX D S0 S → lv_has ls 6 [(5, va_rf g5)] → W p l e (r_J2_compress_39247 rC rS) s m args below meth c H locs cells slots (MQ below (va_Qq (fun r S9 => wX D S0 S9 ∧ post r S9) (wB D cy X A) A) args s rC rS A) (F0 m 61 ls []) := by
  obtain ⟨hx, hb, hml, hown, hts⟩ := id F
  have hwg : ∀ w ∈ WG, w.before args s = true := fun w h => hts w (List.mem_cons_of_mem _ h)
  intro bc bs cells slots hbc hbs S H locs ls g5 hp hW hE hl
  unfold wp_J2_compress_39247_61 at hp
  refine w_aload hx hb dJ2_compress_39247_61 (lv_at hl 0 rfl) ?_
  refine W.widen (k := rC) (n := rS) (Nat.le_trans (Nat.le_add_right _ _) hbc) (Nat.le_trans (Nat.le_add_right _ _) hbs) ?_
  exact w_aret (g := g5) hx hb hr hlocks hW ⟨hE, hp⟩ dJ2_compress_39247_63
set_option maxHeartbeats 4000000 in
set_option maxRecDepth 100000 in
theorem t_J2_compress_39247_0 {p : Program} {l : Launch} {e : Env} {s : State} {m : MethodId} {args : Array Value} {below : List Frame} {meth : Method} {c : Code} {D : wD} {cy : Nat → ClassId} {X : va_W} {A : Nat → Prop} {S0 : wS} {rC rS : Nat} {post : Option Nat → wS → Prop} (F : CallFix p m c cJ2_compress_39247 6 s args wz_J2_compress_39247 RJ2) (hr : meth.sig.returnType = (some (.array .byte))) (hlocks : meth.locks = false) (hK : wK D cy A s) : ∀ {bc bs cells slots : Nat} (hbc : cells + bc ≤ rC) (hbs : slots + bs ≤ rS) {S : wS} {H : Heap} {locs : List Loc} {ls : Array Slot} {a0 : Nat} {x1 : Int32} {x2 : Int32}, wp_J2_compress_39247_0 D post bc bs S a0 x1 x2 → wO D cy X A s.heap S H locs → wX D S0 S → lv_has ls 6 [(0, .ref a0), (1, .int x1), (2, .int x2)] → wM D S a0 → sK S a0 = 20 → W p l e (r_J2_compress_39247 rC rS) s m args below meth c H locs cells slots (MQ below (va_Qq (fun r S9 => wX D S0 S9 ∧ post r S9) (wB D cy X A) A) args s rC rS A) (F0 m 0 ls []) := by
  obtain ⟨hx, hb, hml, hown, hts⟩ := id F
  have hwg : ∀ w ∈ WG, w.before args s = true := fun w h => hts w (List.mem_cons_of_mem _ h)
  intro bc bs cells slots hbc hbs S H locs ls a0 x1 x2 hp hW hE hl hL_a0 hK_a0
  unfold wp_J2_compress_39247_0 at hp
  refine lv_iload_n hx hb dJ2_compress_39247_0 rfl (lv_at hl 2 rfl) ?_
  obtain ⟨h_3, h_3b, h_3c, h_3d, hp⟩ := hp
  refine w_newaB F hK hW (hwg _ wr_byte) h_3 h_3b (by show _ ≤ rC; omega) (by show _ ≤ rS; omega) dJ2_compress_39247_1 (fun y_1 H hq_y_1 hW => ?_)
  replace hbc := w_spend hbc (show 1 ≤ bc by omega)
  replace hbs := w_spend hbs (show (x2).toNatClampNeg ≤ bs by omega)
  obtain ⟨S_2, eS_2⟩ : ∃ z : wS, z = nA S y_1 20 (x2).toNatClampNeg := ⟨_, rfl⟩
  rw [← eS_2] at hW
  replace hp := hp y_1 hq_y_1 S_2 eS_2
  have hX_S_2 : wX D S S_2 := by rw [eS_2]; exact wX_nA hq_y_1
  have hE := hE.trans hX_S_2
  have hK_a0 : sK S_2 a0 = 20 := (hX_S_2.2 a0 hL_a0).1.trans hK_a0
  have hL_a0 : wM D S_2 a0 := hX_S_2.M hL_a0
  have hL_y_1 : wM D S_2 y_1 := by rw [eS_2]; exact Or.inl (List.mem_append_right _ List.mem_cons_self)
  have hK_y_1 : sK S_2 y_1 = 20 := by rw [eS_2]; exact va_up_self _ _ _
  refine lv_astore_n (lv' := [(3, .ref y_1), (0, .ref a0), (1, .int x1), (2, .int x2)]) hx hb dJ2_compress_39247_3 rfl hl (by decide) rfl (fun ls hl => ?_)
  refine lv_aload_n hx hb dJ2_compress_39247_4 rfl (lv_at hl 1 rfl) ?_
  refine lv_iload_n hx hb dJ2_compress_39247_5 rfl (lv_at hl 2 rfl) ?_
  refine lv_aload_n hx hb dJ2_compress_39247_6 rfl (lv_at hl 0 rfl) ?_
  refine lv_iconst (v := 0) hx hb dJ2_compress_39247_7 (by decide) ?_
  refine lv_iload_n hx hb dJ2_compress_39247_8 rfl (lv_at hl 3 rfl) ?_
  refine w_callI (va_runS (As := [.ref a0, .int x1, .ref y_1, .int (0 : Int32), .int x2]) (rest := []) F (c_J2_compress_5af95 l hL_a0 hK_a0 hL_y_1 hK_y_1 hp H.size) (va_cwS 5 hts (wg_S wm_RJ2_123 wy_J2_compress_5af95) rfl rfl rfl (by decide +kernel) ⟨Nat.le_of_ble_eq_true rfl, Nat.le_of_ble_eq_true rfl⟩) (w_preS hK hW) rfl rfl hl.1 rfl (lv_room (Nat.le_of_ble_eq_true rfl)) dJ2_compress_39247_9 ⟨by show _ ≤ rC; exact Nat.le_trans (Nat.le_add_right _ _) hbc, by show _ ≤ rS; exact Nat.le_trans (Nat.le_add_right _ _) hbs⟩) hW (fun r_4 S_5 H locs hp hW => ?_)
  obtain ⟨hX_S_5, hp⟩ := hp
  refine w_same ?_
  have hE := hE.trans hX_S_5
  have hK_a0 : sK S_5 a0 = 20 := (hX_S_5.2 a0 hL_a0).1.trans hK_a0
  have hL_a0 : wM D S_5 a0 := hX_S_5.M hL_a0
  have hK_y_1 : sK S_5 y_1 = 20 := (hX_S_5.2 y_1 hL_y_1).1.trans hK_y_1
  have hL_y_1 : wM D S_5 y_1 := hX_S_5.M hL_y_1
  refine lv_istore (lv' := [(4, .int r_4), (3, .ref y_1), (0, .ref a0), (1, .int x1), (2, .int x2)]) hx hb dJ2_compress_39247_12 hl (by decide) rfl (fun ls hl => ?_)
  refine lv_iload hx hb dJ2_compress_39247_14 (lv_at hl 0 rfl) ?_
  refine lv_iload_n hx hb dJ2_compress_39247_16 rfl (lv_at hl 4 rfl) ?_
  refine lv_icmp_eq (tgt := 64) hx hb dJ2_compress_39247_17 (by decide) (fun c_6 => ?_) (fun c_6 => ?_)
  · replace hp := hp.1 c_6
    exact t_J2_compress_39247_64 F hr hlocks hK hbc hbs hp hW hE (lv_sub hl [1] rfl) hL_y_1 hK_y_1
  · replace hp := hp.2 c_6
    refine lv_aload_n hx hb dJ2_compress_39247_20 rfl (lv_at hl 2 rfl) ?_
    refine lv_iload_n hx hb dJ2_compress_39247_21 rfl (lv_at hl 3 rfl) ?_
    refine lv_iconst (v := 1) hx hb dJ2_compress_39247_22 (by decide) ?_
    refine lv_ishl hx hb dJ2_compress_39247_23 ?_
    refine lv_iload_n hx hb dJ2_compress_39247_24 rfl (lv_at hl 3 rfl) ?_
    refine lv_iload_n hx hb dJ2_compress_39247_25 rfl (lv_at hl 4 rfl) ?_
    refine lv_iadd hx hb dJ2_compress_39247_26 ?_
    refine w_callI (va_runS (As := [.int (x1 + x2)]) (rest := [.int (x1 <<< ((1 : Int32) &&& 31)), .ref a0]) F (c_J2_newBytesLength_0f7a4 l hp H.size) (va_cwS 1 hts (wg_S wm_RJ2_11 wy_J2_newBytesLength_0f7a4) rfl rfl rfl (by decide +kernel) ⟨Nat.le_of_ble_eq_true rfl, Nat.le_of_ble_eq_true rfl⟩) (w_preS hK hW) rfl rfl hl.1 rfl (lv_room (Nat.le_of_ble_eq_true rfl)) dJ2_compress_39247_27 ⟨by show _ ≤ rC; exact Nat.le_trans (Nat.le_add_right _ _) hbc, by show _ ≤ rS; exact Nat.le_trans (Nat.le_add_right _ _) hbs⟩) hW (fun r_7 S_8 H locs hp hW => ?_)
    obtain ⟨hX_S_8, hp⟩ := hp
    refine w_same ?_
    have hE := hE.trans hX_S_8
    have hK_a0 : sK S_8 a0 = 20 := (hX_S_8.2 a0 hL_a0).1.trans hK_a0
    have hL_a0 : wM D S_8 a0 := hX_S_8.M hL_a0
    have hK_y_1 : sK S_8 y_1 = 20 := (hX_S_8.2 y_1 hL_y_1).1.trans hK_y_1
    have hL_y_1 : wM D S_8 y_1 := hX_S_8.M hL_y_1
    obtain ⟨m_11, z_12, hm_11, hz_12, hp⟩ := hp
    refine w_callR (va_runS (As := [.ref a0, .int (x1 <<< ((1 : Int32) &&& 31)), .int r_7]) (rest := []) F (c_J7_copyOfRange_39247 l hL_a0 hK_a0 hp H.size) (va_cwS 3 hts (wg_S wm_RJ2_126 wy_J7_copyOfRange_39247) rfl rfl rfl (by decide +kernel) ⟨Nat.le_of_ble_eq_true rfl, Nat.le_of_ble_eq_true rfl⟩) (w_preS hK hW) rfl rfl hl.1 rfl (lv_room (Nat.le_of_ble_eq_true rfl)) dJ2_compress_39247_30 ⟨by show _ + m_11 ≤ rC; omega, by show _ + z_12 ≤ rS; omega⟩) hW (fun r_9 S_10 H locs hp hW => ?_)
    obtain ⟨hX_S_10, hp⟩ := hp
    refine W.widen (k := _ + m_11) (n := _ + z_12) (Nat.le_refl _) (Nat.le_refl _) ?_
    replace hbc := w_spend hbc (show m_11 ≤ (bc - 1) by omega)
    replace hbs := w_spend hbs (show z_12 ≤ (bs - (x2).toNatClampNeg) by omega)
    have hE := hE.trans hX_S_10
    have hK_a0 : sK S_10 a0 = 20 := (hX_S_10.2 a0 hL_a0).1.trans hK_a0
    have hL_a0 : wM D S_10 a0 := hX_S_10.M hL_a0
    have hK_y_1 : sK S_10 y_1 = 20 := (hX_S_10.2 y_1 hL_y_1).1.trans hK_y_1
    have hL_y_1 : wM D S_10 y_1 := hX_S_10.M hL_y_1
    refine w_astore (lv' := [(5, va_rf r_9), (4, .int r_4), (3, .ref y_1), (0, .ref a0), (1, .int x1), (2, .int x2)]) hx hb dJ2_compress_39247_33 hl (by decide) rfl (fun ls hl => ?_)
    refine w_aload hx hb dJ2_compress_39247_35 (lv_at hl 0 rfl) ?_
    refine lv_iload hx hb dJ2_compress_39247_37 (lv_at hl 1 rfl) ?_
    obtain ⟨y_13, h_14, hL_y_13, hK_y_13, hp⟩ := hp
    revert hp; revert hl; revert hW; revert hE; subst h_14; intro hE hW hl hp
    refine w_callI (va_runS (As := [.ref y_13, .int r_4]) (rest := []) F (c_J2_getChar_3b067 l hL_y_13 hK_y_13 hp H.size) (va_cwS 2 hts (wg_S wm_RJ2_71 wy_J2_getChar_3b067) rfl rfl rfl (by decide +kernel) ⟨Nat.le_of_ble_eq_true rfl, Nat.le_of_ble_eq_true rfl⟩) (w_preS hK hW) rfl rfl hl.1 rfl (lv_room (Nat.le_of_ble_eq_true rfl)) dJ2_compress_39247_39 ⟨by show _ ≤ rC; exact Nat.le_trans (Nat.le_add_right _ _) hbc, by show _ ≤ rS; exact Nat.le_trans (Nat.le_add_right _ _) hbs⟩) hW (fun r_15 S_16 H locs hp hW => ?_)
    obtain ⟨hX_S_16, hp⟩ := hp
    refine w_same ?_
    have hE := hE.trans hX_S_16
    have hK_a0 : sK S_16 a0 = 20 := (hX_S_16.2 a0 hL_a0).1.trans hK_a0
    have hL_a0 : wM D S_16 a0 := hX_S_16.M hL_a0
    have hK_y_1 : sK S_16 y_1 = 20 := (hX_S_16.2 y_1 hL_y_1).1.trans hK_y_1
    have hL_y_1 : wM D S_16 y_1 := hX_S_16.M hL_y_1
    have hK_y_13 : sK S_16 y_13 = 20 := (hX_S_16.2 y_13 hL_y_13).1.trans hK_y_13
    have hL_y_13 : wM D S_16 y_13 := hX_S_16.M hL_y_13
    refine lv_sipush (v := 255) hx hb dJ2_compress_39247_42 (by decide) ?_
    refine lv_icmp_gt (tgt := 61) hx hb dJ2_compress_39247_45 (by decide) (fun c_17 => ?_) (fun c_17 => ?_)
    · replace hp := hp.1 c_17
      exact t_J2_compress_39247_61 F hr hlocks hK hbc hbs hp hW hE (lv_sub hl [0] rfl)
    · replace hp := hp.2 c_17
      refine lv_aload hx hb dJ2_compress_39247_48 (lv_at hl 0 rfl) ?_
      refine lv_iconst (v := 0) hx hb dJ2_compress_39247_50 (by decide) ?_
      refine lv_aload_n hx hb dJ2_compress_39247_51 rfl (lv_at hl 2 rfl) ?_
      refine lv_iconst (v := 0) hx hb dJ2_compress_39247_52 (by decide) ?_
      refine lv_iload_n hx hb dJ2_compress_39247_53 rfl (lv_at hl 5 rfl) ?_
      refine w_callI (va_runS (As := [.ref y_13, .int (0 : Int32), .ref y_1, .int (0 : Int32), .int x2]) (rest := []) F (c_J2_compress_5af95 l hL_y_13 hK_y_13 hL_y_1 hK_y_1 hp H.size) (va_cwS 5 hts (wg_S wm_RJ2_123 wy_J2_compress_5af95) rfl rfl rfl (by decide +kernel) ⟨Nat.le_of_ble_eq_true rfl, Nat.le_of_ble_eq_true rfl⟩) (w_preS hK hW) rfl rfl hl.1 rfl (lv_room (Nat.le_of_ble_eq_true rfl)) dJ2_compress_39247_54 ⟨by show _ ≤ rC; exact Nat.le_trans (Nat.le_add_right _ _) hbc, by show _ ≤ rS; exact Nat.le_trans (Nat.le_add_right _ _) hbs⟩) hW (fun r_18 S_19 H locs hp hW => ?_)
      obtain ⟨hX_S_19, hp⟩ := hp
      refine w_same ?_
      have hE := hE.trans hX_S_19
      have hK_a0 : sK S_19 a0 = 20 := (hX_S_19.2 a0 hL_a0).1.trans hK_a0
      have hL_a0 : wM D S_19 a0 := hX_S_19.M hL_a0
      have hK_y_1 : sK S_19 y_1 = 20 := (hX_S_19.2 y_1 hL_y_1).1.trans hK_y_1
      have hL_y_1 : wM D S_19 y_1 := hX_S_19.M hL_y_1
      have hK_y_13 : sK S_19 y_13 = 20 := (hX_S_19.2 y_13 hL_y_13).1.trans hK_y_13
      have hL_y_13 : wM D S_19 y_13 := hX_S_19.M hL_y_13
      refine lv_iload_n hx hb dJ2_compress_39247_57 rfl (lv_at hl 5 rfl) ?_
      refine lv_icmp_eq (tgt := 64) hx hb dJ2_compress_39247_58 (by decide) (fun c_20 => ?_) (fun c_20 => ?_)
      · replace hp := hp.1 c_20
        exact t_J2_compress_39247_64 F hr hlocks hK hbc hbs hp hW hE (lv_sub hl [2] rfl) hL_y_1 hK_y_1
      · replace hp := hp.2 c_20
        exact t_J2_compress_39247_61 F hr hlocks hK hbc hbs hp hW hE (lv_sub hl [0] rfl)
set_option maxHeartbeats 4000000 in
set_option maxRecDepth 100000 in
theorem c_J2_compress_39247 (l : Launch) {rC rS : Nat} {D : wD} {cy : Nat → ClassId} {X : va_W} {S0 : wS} {post : Option Nat → wS → Prop} {a0 : Nat} {x1 : Int32} {x2 : Int32} (hL_a0 : wM D S0 a0) (hK_a0 : sK S0 a0 = 20) (hp : wp_J2_compress_39247 D post rC rS S0 a0 x1 x2) : mR D cy X l yJ2_compress_39247 wz_J2_compress_39247 (r_J2_compress_39247 rC rS) [.ref a0, .int x1, .int x2] S0 (fun r S9 => wX D S0 S9 ∧ post r S9) := by
  intro sz
  refine Met.ofW (cc := cJ2_compress_39247) (maxL := 6) (ret := (some (.array .byte))) (by decide) rfl ?_
  intro p e s m args below meth c s₁ B hml hv
  obtain ⟨rfl, hsz, hP, hK, hD0, hRO⟩ := hv
  have hts := atoms_spec (ws := wz_J2_compress_39247) B.pre
  have hown : s.vm.findClass RJ2 = some m.cls := findClass_of_methodNamed B.named
  subst hsz
  have hD := hD0.self (sz := s.heap.size)
  have F : CallFix p m c cJ2_compress_39247 6 s _ wz_J2_compress_39247 RJ2 := ⟨B.exec, B.bytes, hml, hown, hts⟩
  have hr := B.returns
  have hlocks := B.notSynchronized
  generalize hAe : va_A (wL cy X S0) s.heap.size = A at hD hK ⊢
  have hA : ∀ q, s.heap.size ≤ q → A q := fun q h => by rw [← hAe]; exact Or.inr h
  have hW : wO D cy X A s.heap S0 s.heap [] := ⟨hP, hD, va_S.rf, hA, hRO⟩
  have hl := lv_entry ([.ref a0, .int x1, .int x2]) (n := 6) (Nat.le_of_ble_eq_true rfl)
  rw [lg_entry_eq]
  generalize (lg_sl ([.ref a0, .int x1, .int x2]) ++ List.replicate (6 - (lg_sl ([.ref a0, .int x1, .int x2])).length) Slot.unset).toArray = ls at hl ⊢
  have hl : lv_has ls 6 [(0, .ref a0), (1, .int x1), (2, .int x2)] := hl
  unfold wp_J2_compress_39247 at hp
  exact t_J2_compress_39247_0 F hr hlocks hK (Nat.le_of_eq (Nat.zero_add _)) (Nat.le_of_eq (Nat.zero_add _)) hp hW wX.rf (lv_sub hl [0, 1, 2] rfl) hL_a0 hK_a0
def wp_J5_getValue_6d5f1_0 (D : wD) (post : Option Nat → wS → Prop)  (S : wS) (a0 : Nat) : Prop :=
∃ y_1 : Nat, sR S a0 0 = some y_1 ∧ wM D S y_1 ∧ sK S y_1 = 20 ∧
post (some y_1) S
abbrev r_J5_getValue_6d5f1 : Room := { frames := 0, cells := 0, slots := 0, locals := 0 }
def wp_J5_getValue_6d5f1 (D : wD) (post : Option Nat → wS → Prop) (S : wS) (a0 : Nat) : Prop := wp_J5_getValue_6d5f1_0 D post S a0
set_option maxHeartbeats 4000000 in
set_option maxRecDepth 100000 in
theorem t_J5_getValue_6d5f1_0 {p : Program} {l : Launch} {e : Env} {s : State} {m : MethodId} {args : Array Value} {below : List Frame} {meth : Method} {c : Code} {D : wD} {cy : Nat → ClassId} {X : va_W} {A : Nat → Prop} {S0 : wS} {post : Option Nat → wS → Prop} (F : CallFix p m c cJ5_getValue_6d5f1 1 s args wz_J5_getValue_6d5f1 RJ5) (hr : meth.sig.returnType = (some (.array .byte))) (hlocks : meth.locks = false) (hK : wK D cy A s) : ∀ {S : wS} {H : Heap} {locs : List Loc} {ls : Array Slot} {a0 : Nat}, wp_J5_getValue_6d5f1_0 D post S a0 → wO D cy X A s.heap S H locs → wX D S0 S → lv_has ls 1 [(0, .ref a0)] → wM D S a0 → sK S a0 = 1 → W p l e r_J5_getValue_6d5f1 s m args below meth c H locs 0 0 (MQ below (va_Qq (fun r S9 => wX D S0 S9 ∧ post r S9) (wB D cy X A) A) args s 0 0 A) (F0 m 0 ls []) := by
  obtain ⟨hx, hb, hml, hown, hts⟩ := id F
  have hwg : ∀ w ∈ WG, w.before args s = true := fun w h => hts w (List.mem_cons_of_mem _ h)
  have i_1 : ∀ w ∈ u_ws RJ4 TJ4 4, w ∈ wz_J5_getValue_6d5f1 := fun w h => List.mem_cons_of_mem _ (wu_1 w h)
  have k_15 := hwg _ wf_RJ5_15
  intro S H locs ls a0 hp hW hE hl hL_a0 hK_a0
  unfold wp_J5_getValue_6d5f1_0 at hp
  refine lv_aload_n hx hb dJ5_getValue_6d5f1_0 rfl (lv_at hl 0 rfl) ?_
  obtain ⟨y_1, ey_1, hL_y_1, hK_y_1, hp⟩ := hp
  refine w_get (k := 1) (f := 0) (T := TJ4) (v := .ref y_1) F hK hW hL_a0 hK_a0 (by decide) rfl rfl (by decide) i_1 k_15 (by rw [show wv 1 0 S a0 = va_rf (sR S a0 0) from rfl, ey_1]; rfl) dJ5_getValue_6d5f1_1 ?_
  exact w_aret (g := (some y_1)) hx hb hr hlocks hW ⟨hE, hp⟩ dJ5_getValue_6d5f1_4
set_option maxHeartbeats 4000000 in
set_option maxRecDepth 100000 in
theorem c_J5_getValue_6d5f1 (l : Launch) {D : wD} {cy : Nat → ClassId} {X : va_W} {S0 : wS} {post : Option Nat → wS → Prop} {a0 : Nat} (hL_a0 : wM D S0 a0) (hK_a0 : sK S0 a0 = 1) (hp : wp_J5_getValue_6d5f1 D post S0 a0) : mR D cy X l yJ5_getValue_6d5f1 wz_J5_getValue_6d5f1 r_J5_getValue_6d5f1 [.ref a0] S0 (fun r S9 => wX D S0 S9 ∧ post r S9) := by
  intro sz
  refine Met.ofW (cc := cJ5_getValue_6d5f1) (maxL := 1) (ret := (some (.array .byte))) (by decide) rfl ?_
  intro p e s m args below meth c s₁ B hml hv
  obtain ⟨rfl, hsz, hP, hK, hD0, hRO⟩ := hv
  have hts := atoms_spec (ws := wz_J5_getValue_6d5f1) B.pre
  have hown : s.vm.findClass RJ5 = some m.cls := findClass_of_methodNamed B.named
  subst hsz
  have hD := hD0.self (sz := s.heap.size)
  have F : CallFix p m c cJ5_getValue_6d5f1 1 s _ wz_J5_getValue_6d5f1 RJ5 := ⟨B.exec, B.bytes, hml, hown, hts⟩
  have hr := B.returns
  have hlocks := B.notSynchronized
  generalize hAe : va_A (wL cy X S0) s.heap.size = A at hD hK ⊢
  have hA : ∀ q, s.heap.size ≤ q → A q := fun q h => by rw [← hAe]; exact Or.inr h
  have hW : wO D cy X A s.heap S0 s.heap [] := ⟨hP, hD, va_S.rf, hA, hRO⟩
  have hl := lv_entry ([.ref a0]) (n := 1) (Nat.le_of_ble_eq_true rfl)
  rw [lg_entry_eq]
  generalize (lg_sl ([.ref a0]) ++ List.replicate (1 - (lg_sl ([.ref a0])).length) Slot.unset).toArray = ls at hl ⊢
  have hl : lv_has ls 1 [(0, .ref a0)] := hl
  unfold wp_J5_getValue_6d5f1 at hp
  exact t_J5_getValue_6d5f1_0 F hr hlocks hK hp hW wX.rf (lv_sub hl [0] rfl) hL_a0 hK_a0
def wp_J5_length_8abf5_0 (D : wD) (post : Int32 → wS → Prop)  (S : wS) (a0 : Nat) : Prop :=
post (sI S a0 3) S
abbrev r_J5_length_8abf5 : Room := { frames := 0, cells := 0, slots := 0, locals := 0 }
def wp_J5_length_8abf5 (D : wD) (post : Int32 → wS → Prop) (S : wS) (a0 : Nat) : Prop := wp_J5_length_8abf5_0 D post S a0
set_option maxHeartbeats 4000000 in
set_option maxRecDepth 100000 in
theorem t_J5_length_8abf5_0 {p : Program} {l : Launch} {e : Env} {s : State} {m : MethodId} {args : Array Value} {below : List Frame} {meth : Method} {c : Code} {D : wD} {cy : Nat → ClassId} {X : va_W} {A : Nat → Prop} {S0 : wS} {post : Int32 → wS → Prop} (F : CallFix p m c cJ5_length_8abf5 1 s args wz_J5_length_8abf5 RJ5) (hr : meth.sig.returnType = (some .int)) (hlocks : meth.locks = false) (hK : wK D cy A s) : ∀ {S : wS} {H : Heap} {locs : List Loc} {ls : Array Slot} {a0 : Nat}, wp_J5_length_8abf5_0 D post S a0 → wO D cy X A s.heap S H locs → wX D S0 S → lv_has ls 1 [(0, .ref a0)] → wM D S a0 → sK S a0 = 1 → W p l e r_J5_length_8abf5 s m args below meth c H locs 0 0 (MQ below (va_Qi (fun r S9 => wX D S0 S9 ∧ post r S9) (wB D cy X A) A) args s 0 0 A) (F0 m 0 ls []) := by
  obtain ⟨hx, hb, hml, hown, hts⟩ := id F
  have hwg : ∀ w ∈ WG, w.before args s = true := fun w h => hts w (List.mem_cons_of_mem _ h)
  have i_1 : ∀ w ∈ u_ws RJ4 TJ4 4, w ∈ wz_J5_length_8abf5 := fun w h => List.mem_cons_of_mem _ (wu_1 w h)
  have k_79 := hwg _ wf_RJ5_79
  intro S H locs ls a0 hp hW hE hl hL_a0 hK_a0
  unfold wp_J5_length_8abf5_0 at hp
  refine lv_aload_n hx hb dJ5_length_8abf5_0 rfl (lv_at hl 0 rfl) ?_
  refine w_get (k := 1) (f := 3) (T := TJ4) (v := .int (sI S a0 3)) F hK hW hL_a0 hK_a0 (by decide) rfl rfl (by decide) i_1 k_79 rfl dJ5_length_8abf5_1 ?_
  exact w_iret hx hb hr hlocks hW ⟨hE, hp⟩ dJ5_length_8abf5_4
set_option maxHeartbeats 4000000 in
set_option maxRecDepth 100000 in
theorem c_J5_length_8abf5 (l : Launch) {D : wD} {cy : Nat → ClassId} {X : va_W} {S0 : wS} {post : Int32 → wS → Prop} {a0 : Nat} (hL_a0 : wM D S0 a0) (hK_a0 : sK S0 a0 = 1) (hp : wp_J5_length_8abf5 D post S0 a0) : mI D cy X l yJ5_length_8abf5 wz_J5_length_8abf5 r_J5_length_8abf5 [.ref a0] S0 (fun r S9 => wX D S0 S9 ∧ post r S9) := by
  intro sz
  refine Met.ofW (cc := cJ5_length_8abf5) (maxL := 1) (ret := (some .int)) (by decide) rfl ?_
  intro p e s m args below meth c s₁ B hml hv
  obtain ⟨rfl, hsz, hP, hK, hD0, hRO⟩ := hv
  have hts := atoms_spec (ws := wz_J5_length_8abf5) B.pre
  have hown : s.vm.findClass RJ5 = some m.cls := findClass_of_methodNamed B.named
  subst hsz
  have hD := hD0.self (sz := s.heap.size)
  have F : CallFix p m c cJ5_length_8abf5 1 s _ wz_J5_length_8abf5 RJ5 := ⟨B.exec, B.bytes, hml, hown, hts⟩
  have hr := B.returns
  have hlocks := B.notSynchronized
  generalize hAe : va_A (wL cy X S0) s.heap.size = A at hD hK ⊢
  have hA : ∀ q, s.heap.size ≤ q → A q := fun q h => by rw [← hAe]; exact Or.inr h
  have hW : wO D cy X A s.heap S0 s.heap [] := ⟨hP, hD, va_S.rf, hA, hRO⟩
  have hl := lv_entry ([.ref a0]) (n := 1) (Nat.le_of_ble_eq_true rfl)
  rw [lg_entry_eq]
  generalize (lg_sl ([.ref a0]) ++ List.replicate (1 - (lg_sl ([.ref a0])).length) Slot.unset).toArray = ls at hl ⊢
  have hl : lv_has ls 1 [(0, .ref a0)] := hl
  unfold wp_J5_length_8abf5 at hp
  exact t_J5_length_8abf5_0 F hr hlocks hK hp hW wX.rf (lv_sub hl [0] rfl) hL_a0 hK_a0
def wp_J0_init_db425_97 (D : wD) (post : wS → Prop)  (bc bs : Nat) (S : wS) : Prop :=
post S
def wp_J0_init_db425_79 (D : wD) (post : wS → Prop)  (bc bs : Nat) (S : wS) (a0 : Nat) (g3 : Option Nat) (x4 : Int32) : Prop :=
False
def wp_J0_init_db425_0 (D : wD) (post : wS → Prop)  (bc bs : Nat) (S : wS) (a0 : Nat) (a1 : Nat) : Prop :=
False
abbrev r_J0_init_db425 (rC rS : Nat) : Room := { frames := 5, cells := rC, slots := rS, locals := 131 }
def wp_J0_init_db425 (D : wD) (post : wS → Prop) (bc bs : Nat) (S : wS) (a0 : Nat) (a1 : Nat) (g2 : Option Nat) : Prop := wp_J0_init_db425_0 D post bc bs S a0 a1
set_option maxHeartbeats 4000000 in
set_option maxRecDepth 100000 in
theorem t_J0_init_db425_97 {p : Program} {l : Launch} {e : Env} {s : State} {m : MethodId} {args : Array Value} {below : List Frame} {meth : Method} {c : Code} {D : wD} {cy : Nat → ClassId} {X : va_W} {A : Nat → Prop} {S0 : wS} {rC rS : Nat} {post : wS → Prop} (F : CallFix p m c cJ0_init_db425 5 s args wz_J0_init_db425 RJ0) (hr : meth.sig.returnType = none) (hlocks : meth.locks = false) (hK : wK D cy A s) (hin : meth.name = "<init>") : ∀ {bc bs cells slots : Nat} (hbc : cells + bc ≤ rC) (hbs : slots + bs ≤ rS) {S : wS} {H : Heap} {locs : List Loc} {ls : Array Slot}, wp_J0_init_db425_97 D post bc bs S → wO D cy X A s.heap S H locs → wX D S0 S → lv_has ls 5 [] → W p l e (r_J0_init_db425 rC rS) s m args below meth c H locs cells slots (MQ below (va_Qv (fun S9 => wX D S0 S9 ∧ post S9) (wB D cy X A) A) args s rC rS A) (F0 m 97 ls []) := by
  obtain ⟨hx, hb, hml, hown, hts⟩ := id F
  have hwg : ∀ w ∈ WG, w.before args s = true := fun w h => hts w (List.mem_cons_of_mem _ h)
  intro bc bs cells slots hbc hbs S H locs ls hp hW hE hl
  unfold wp_J0_init_db425_97 at hp
  refine W.widen (k := rC) (n := rS) (Nat.le_trans (Nat.le_add_right _ _) hbc) (Nat.le_trans (Nat.le_add_right _ _) hbs) ?_
  exact w_vret hx hb hr hlocks hW ⟨hE, hp⟩ dJ0_init_db425_97
set_option maxHeartbeats 4000000 in
set_option maxRecDepth 100000 in
theorem t_J0_init_db425_79 {p : Program} {l : Launch} {e : Env} {s : State} {m : MethodId} {args : Array Value} {below : List Frame} {meth : Method} {c : Code} {D : wD} {cy : Nat → ClassId} {X : va_W} {A : Nat → Prop} {S0 : wS} {rC rS : Nat} {post : wS → Prop} (F : CallFix p m c cJ0_init_db425 5 s args wz_J0_init_db425 RJ0) (hr : meth.sig.returnType = none) (hlocks : meth.locks = false) (hK : wK D cy A s) (hin : meth.name = "<init>") : ∀ {bc bs cells slots : Nat} (hbc : cells + bc ≤ rC) (hbs : slots + bs ≤ rS) {S : wS} {H : Heap} {locs : List Loc} {ls : Array Slot} {a0 : Nat} {g3 : Option Nat} {x4 : Int32}, wp_J0_init_db425_79 D post bc bs S a0 g3 x4 → wO D cy X A s.heap S H locs → wX D S0 S → lv_has ls 5 [(0, .ref a0), (3, va_rf g3), (4, .int x4)] → wM D S a0 → sK S a0 = 0 → W p l e (r_J0_init_db425 rC rS) s m args below meth c H locs cells slots (MQ below (va_Qv (fun S9 => wX D S0 S9 ∧ post S9) (wB D cy X A) A) args s rC rS A) (F0 m 79 ls []) := by
  obtain ⟨hx, hb, hml, hown, hts⟩ := id F
  have hwg : ∀ w ∈ WG, w.before args s = true := fun w h => hts w (List.mem_cons_of_mem _ h)
  have i_0 : ∀ w ∈ u_ws RJ0 TJ0 4, w ∈ wz_J0_init_db425 := fun w h => List.mem_cons_of_mem _ (wu_0 w h)
  have k_15 := hwg _ wf_RJ0_15
  have k_9 := hwg _ wf_RJ0_9
  intro bc bs cells slots hbc hbs S H locs ls a0 g3 x4 hp hW hE hl hL_a0 hK_a0
  unfold wp_J0_init_db425_79 at hp
  exact hp.elim
set_option maxHeartbeats 4000000 in
set_option maxRecDepth 100000 in
theorem t_J0_init_db425_0 {p : Program} {l : Launch} {e : Env} {s : State} {m : MethodId} {args : Array Value} {below : List Frame} {meth : Method} {c : Code} {D : wD} {cy : Nat → ClassId} {X : va_W} {A : Nat → Prop} {S0 : wS} {rC rS : Nat} {post : wS → Prop} (F : CallFix p m c cJ0_init_db425 5 s args wz_J0_init_db425 RJ0) (hr : meth.sig.returnType = none) (hlocks : meth.locks = false) (hK : wK D cy A s) (hin : meth.name = "<init>") : ∀ {bc bs cells slots : Nat} (hbc : cells + bc ≤ rC) (hbs : slots + bs ≤ rS) {S : wS} {H : Heap} {locs : List Loc} {ls : Array Slot} {a0 : Nat} {a1 : Nat}, wp_J0_init_db425_0 D post bc bs S a0 a1 → wO D cy X A s.heap S H locs → wX D S0 S → lv_has ls 5 [(0, .ref a0), (1, .ref a1)] → wM D S a0 → sK S a0 = 0 → wM D S a1 → sK S a1 = 1 → W p l e (r_J0_init_db425 rC rS) s m args below meth c H locs cells slots (MQ below (va_Qv (fun S9 => wX D S0 S9 ∧ post S9) (wB D cy X A) A) args s rC rS A) (F0 m 0 ls []) := by
  obtain ⟨hx, hb, hml, hown, hts⟩ := id F
  have hwg : ∀ w ∈ WG, w.before args s = true := fun w h => hts w (List.mem_cons_of_mem _ h)
  have i_0 : ∀ w ∈ u_ws RJ0 TJ0 4, w ∈ wz_J0_init_db425 := fun w h => List.mem_cons_of_mem _ (wu_0 w h)
  have i_1 : ∀ w ∈ u_ws RJ4 TJ4 4, w ∈ wz_J0_init_db425 := fun w h => List.mem_cons_of_mem _ (wu_1 w h)
  have k_1048 := hwg _ wf_RJ0_1048
  have k_15 := hwg _ wf_RJ0_15
  have k_9 := hwg _ wf_RJ0_9
  intro bc bs cells slots hbc hbs S H locs ls a0 a1 hp hW hE hl hL_a0 hK_a0 hL_a1 hK_a1
  unfold wp_J0_init_db425_0 at hp
  exact hp.elim
set_option maxHeartbeats 4000000 in
set_option maxRecDepth 100000 in
theorem c_J0_init_db425 (l : Launch) {rC rS : Nat} {D : wD} {cy : Nat → ClassId} {X : va_W} {S0 : wS} {post : wS → Prop} {a0 : Nat} {a1 : Nat} {g2 : Option Nat} (hL_a0 : wM D S0 a0) (hK_a0 : sK S0 a0 = 0) (hL_a1 : wM D S0 a1) (hK_a1 : sK S0 a1 = 1) (hp : wp_J0_init_db425 D post rC rS S0 a0 a1 g2) : mV D cy X l yJ0_init_db425 wz_J0_init_db425 (r_J0_init_db425 rC rS) [.ref a0, .ref a1, va_rf g2] S0 (fun S9 => wX D S0 S9 ∧ post S9) := by
  intro sz
  refine Met.ofW (cc := cJ0_init_db425) (maxL := 5) (ret := none) (by decide) rfl ?_
  intro p e s m args below meth c s₁ B hml hv
  obtain ⟨rfl, hsz, hP, hK, hD0, hRO⟩ := hv
  have hts := atoms_spec (ws := wz_J0_init_db425) B.pre
  have hown : s.vm.findClass RJ0 = some m.cls := findClass_of_methodNamed B.named
  subst hsz
  have hD := hD0.self (sz := s.heap.size)
  have F : CallFix p m c cJ0_init_db425 5 s _ wz_J0_init_db425 RJ0 := ⟨B.exec, B.bytes, hml, hown, hts⟩
  have hr := B.returns
  have hlocks := B.notSynchronized
  have hin : meth.name = "<init>" := (name_of_methodNamed B.named B.method).1
  generalize hAe : va_A (wL cy X S0) s.heap.size = A at hD hK ⊢
  have hA : ∀ q, s.heap.size ≤ q → A q := fun q h => by rw [← hAe]; exact Or.inr h
  have hW : wO D cy X A s.heap S0 s.heap [] := ⟨hP, hD, va_S.rf, hA, hRO⟩
  have hl : lv_has ((lg_sl ([.ref a0, .ref a1, va_rf g2]) ++ List.replicate (5 - (lg_sl ([.ref a0, .ref a1, va_rf g2])).length) Slot.unset).toArray) 5 [(0, .ref a0), (1, .ref a1), (2, va_rf g2)] := by
    cases g2 <;> exact lv_entry _ (n := 5) (Nat.le_of_ble_eq_true rfl)
  rw [lg_entry_eq]
  generalize (lg_sl ([.ref a0, .ref a1, va_rf g2]) ++ List.replicate (5 - (lg_sl ([.ref a0, .ref a1, va_rf g2])).length) Slot.unset).toArray = ls at hl ⊢
  have hl : lv_has ls 5 [(0, .ref a0), (1, .ref a1), (2, va_rf g2)] := hl
  unfold wp_J0_init_db425 at hp
  exact t_J0_init_db425_0 F hr hlocks hK hin (Nat.le_of_eq (Nat.zero_add _)) (Nat.le_of_eq (Nat.zero_add _)) hp hW wX.rf (lv_sub hl [0, 1] rfl) hL_a0 hK_a0 hL_a1 hK_a1
def wp_J0_init_81219_0 (D : wD) (post : wS → Prop)  (bc bs : Nat) (S : wS) (a0 : Nat) (a1 : Nat) : Prop :=
∃ m_3 z_4 : Nat, m_3 ≤ bc ∧ z_4 ≤ bs ∧
wp_J0_init_db425 D (fun S_2 => 
post S_2) m_3 z_4 S a0 a1 none
abbrev r_J0_init_81219 (rC rS : Nat) : Room := { frames := 6, cells := rC, slots := rS, locals := 155 }
def wp_J0_init_81219 (D : wD) (post : wS → Prop) (bc bs : Nat) (S : wS) (a0 : Nat) (a1 : Nat) : Prop := wp_J0_init_81219_0 D post bc bs S a0 a1
set_option maxHeartbeats 4000000 in
set_option maxRecDepth 100000 in
theorem t_J0_init_81219_0 {p : Program} {l : Launch} {e : Env} {s : State} {m : MethodId} {args : Array Value} {below : List Frame} {meth : Method} {c : Code} {D : wD} {cy : Nat → ClassId} {X : va_W} {A : Nat → Prop} {S0 : wS} {rC rS : Nat} {post : wS → Prop} (F : CallFix p m c cJ0_init_81219 2 s args wz_J0_init_81219 RJ0) (hr : meth.sig.returnType = none) (hlocks : meth.locks = false) (hK : wK D cy A s) (hin : meth.name = "<init>") : ∀ {bc bs cells slots : Nat} (hbc : cells + bc ≤ rC) (hbs : slots + bs ≤ rS) {S : wS} {H : Heap} {locs : List Loc} {ls : Array Slot} {a0 : Nat} {a1 : Nat}, wp_J0_init_81219_0 D post bc bs S a0 a1 → wO D cy X A s.heap S H locs → wX D S0 S → lv_has ls 2 [(0, .ref a0), (1, .ref a1)] → wM D S a0 → sK S a0 = 0 → wM D S a1 → sK S a1 = 1 → W p l e (r_J0_init_81219 rC rS) s m args below meth c H locs cells slots (MQ below (va_Qv (fun S9 => wX D S0 S9 ∧ post S9) (wB D cy X A) A) args s rC rS A) (F0 m 0 ls []) := by
  obtain ⟨hx, hb, hml, hown, hts⟩ := id F
  have hwg : ∀ w ∈ WG, w.before args s = true := fun w h => hts w (List.mem_cons_of_mem _ h)
  intro bc bs cells slots hbc hbs S H locs ls a0 a1 hp hW hE hl hL_a0 hK_a0 hL_a1 hK_a1
  unfold wp_J0_init_81219_0 at hp
  refine lv_aload_n hx hb dJ0_init_81219_0 rfl (lv_at hl 0 rfl) ?_
  refine lv_aload_n hx hb dJ0_init_81219_1 rfl (lv_at hl 1 rfl) ?_
  refine lv_null hx hb dJ0_init_81219_2 ?_
  obtain ⟨m_3, z_4, hm_3, hz_4, hp⟩ := hp
  refine w_callV (va_runI (As := [.ref a1, .null]) (rest := []) F (c_J0_init_db425 l hL_a0 hK_a0 hL_a1 hK_a1 hp H.size) (cwI 2 hts (wg_cons wy_J0_init_db425.2.2) rfl rfl rfl (hwg _ wy_J0_init_db425.2.1) (hwg _ wm_RJ0_489) (hwg _ wy_J0_init_db425.1) rfl (by decide +kernel) ⟨Nat.le_of_ble_eq_true rfl, Nat.le_of_ble_eq_true rfl⟩) (w_preS hK hW) rfl rfl hl.1 rfl (lv_room (Nat.le_of_ble_eq_true rfl)) dJ0_init_81219_3 ⟨by show _ + m_3 ≤ rC; omega, by show _ + z_4 ≤ rS; omega⟩) hW (fun S_2 H locs hp hW => ?_)
  obtain ⟨hX_S_2, hp⟩ := hp
  refine W.widen (k := _ + m_3) (n := _ + z_4) (Nat.le_refl _) (Nat.le_refl _) ?_
  replace hbc := w_spend hbc (show m_3 ≤ bc by omega)
  replace hbs := w_spend hbs (show z_4 ≤ bs by omega)
  have hE := hE.trans hX_S_2
  have hK_a0 : sK S_2 a0 = 0 := (hX_S_2.2 a0 hL_a0).1.trans hK_a0
  have hL_a0 : wM D S_2 a0 := hX_S_2.M hL_a0
  have hK_a1 : sK S_2 a1 = 1 := (hX_S_2.2 a1 hL_a1).1.trans hK_a1
  have hL_a1 : wM D S_2 a1 := hX_S_2.M hL_a1
  refine W.widen (k := rC) (n := rS) (Nat.le_trans (Nat.le_add_right _ _) hbc) (Nat.le_trans (Nat.le_add_right _ _) hbs) ?_
  exact w_vret hx hb hr hlocks hW ⟨hE, hp⟩ dJ0_init_81219_6
set_option maxHeartbeats 4000000 in
set_option maxRecDepth 100000 in
theorem c_J0_init_81219 (l : Launch) {rC rS : Nat} {D : wD} {cy : Nat → ClassId} {X : va_W} {S0 : wS} {post : wS → Prop} {a0 : Nat} {a1 : Nat} (hL_a0 : wM D S0 a0) (hK_a0 : sK S0 a0 = 0) (hL_a1 : wM D S0 a1) (hK_a1 : sK S0 a1 = 1) (hp : wp_J0_init_81219 D post rC rS S0 a0 a1) : mV D cy X l yJ0_init_81219 wz_J0_init_81219 (r_J0_init_81219 rC rS) [.ref a0, .ref a1] S0 (fun S9 => wX D S0 S9 ∧ post S9) := by
  intro sz
  refine Met.ofW (cc := cJ0_init_81219) (maxL := 2) (ret := none) (by decide) rfl ?_
  intro p e s m args below meth c s₁ B hml hv
  obtain ⟨rfl, hsz, hP, hK, hD0, hRO⟩ := hv
  have hts := atoms_spec (ws := wz_J0_init_81219) B.pre
  have hown : s.vm.findClass RJ0 = some m.cls := findClass_of_methodNamed B.named
  subst hsz
  have hD := hD0.self (sz := s.heap.size)
  have F : CallFix p m c cJ0_init_81219 2 s _ wz_J0_init_81219 RJ0 := ⟨B.exec, B.bytes, hml, hown, hts⟩
  have hr := B.returns
  have hlocks := B.notSynchronized
  have hin : meth.name = "<init>" := (name_of_methodNamed B.named B.method).1
  generalize hAe : va_A (wL cy X S0) s.heap.size = A at hD hK ⊢
  have hA : ∀ q, s.heap.size ≤ q → A q := fun q h => by rw [← hAe]; exact Or.inr h
  have hW : wO D cy X A s.heap S0 s.heap [] := ⟨hP, hD, va_S.rf, hA, hRO⟩
  have hl := lv_entry ([.ref a0, .ref a1]) (n := 2) (Nat.le_of_ble_eq_true rfl)
  rw [lg_entry_eq]
  generalize (lg_sl ([.ref a0, .ref a1]) ++ List.replicate (2 - (lg_sl ([.ref a0, .ref a1])).length) Slot.unset).toArray = ls at hl ⊢
  have hl : lv_has ls 2 [(0, .ref a0), (1, .ref a1)] := hl
  unfold wp_J0_init_81219 at hp
  exact t_J0_init_81219_0 F hr hlocks hK hin (Nat.le_of_eq (Nat.zero_add _)) (Nat.le_of_eq (Nat.zero_add _)) hp hW wX.rf (lv_sub hl [0, 1] rfl) hL_a0 hK_a0 hL_a1 hK_a1
def wp_J13_bitCount_95d88_0 (D : wD) (post : Int32 → wS → Prop)  (S : wS) (x0 : Int64) : Prop :=
∀ x_1 : Int64, x_1 = (x0 - ((jlushr x0 (1 : Int32)) &&& (6148914691236517205 : Int64))) →
∀ x_2 : Int64, x_2 = ((x_1 &&& (3689348814741910323 : Int64)) + ((jlushr x_1 (2 : Int32)) &&& (3689348814741910323 : Int64))) →
∀ x_3 : Int64, x_3 = ((x_2 + (jlushr x_2 (4 : Int32))) &&& (1085102592571150095 : Int64)) →
∀ x_4 : Int64, x_4 = (x_3 + (jlushr x_3 (8 : Int32))) →
∀ x_5 : Int64, x_5 = (x_4 + (jlushr x_4 (16 : Int32))) →
∀ x_6 : Int64, x_6 = (x_5 + (jlushr x_5 (32 : Int32))) →
post ((Int64.toInt32 x_6) &&& (127 : Int32)) S
abbrev r_J13_bitCount_95d88 : Room := { frames := 0, cells := 0, slots := 0, locals := 0 }
def wp_J13_bitCount_95d88 (D : wD) (post : Int32 → wS → Prop) (S : wS) (x0 : Int64) : Prop := wp_J13_bitCount_95d88_0 D post S x0
set_option maxHeartbeats 4000000 in
set_option maxRecDepth 100000 in
theorem t_J13_bitCount_95d88_0 {p : Program} {l : Launch} {e : Env} {s : State} {m : MethodId} {args : Array Value} {below : List Frame} {meth : Method} {c : Code} {D : wD} {cy : Nat → ClassId} {X : va_W} {A : Nat → Prop} {S0 : wS} {post : Int32 → wS → Prop} (F : CallFix p m c cJ13_bitCount_95d88 2 s args wz_J13_bitCount_95d88 RJ13) (hr : meth.sig.returnType = (some .int)) (hlocks : meth.locks = false) (hK : wK D cy A s) : ∀ {S : wS} {H : Heap} {locs : List Loc} {ls : Array Slot} {x0 : Int64}, wp_J13_bitCount_95d88_0 D post S x0 → wO D cy X A s.heap S H locs → wX D S0 S → lv_has ls 2 [(0, .long x0)] → W p l e r_J13_bitCount_95d88 s m args below meth c H locs 0 0 (MQ below (va_Qi (fun r S9 => wX D S0 S9 ∧ post r S9) (wB D cy X A) A) args s 0 0 A) (F0 m 0 ls []) := by
  obtain ⟨hx, hb, hml, hown, hts⟩ := id F
  have hwg : ∀ w ∈ WG, w.before args s = true := fun w h => hts w (List.mem_cons_of_mem _ h)
  intro S H locs ls x0 hp hW hE hl
  unfold wp_J13_bitCount_95d88_0 at hp
  refine lv_lload_n hx hb dJ13_bitCount_95d88_0 rfl (lv_at hl 0 rfl) ?_
  refine lv_lload_n hx hb dJ13_bitCount_95d88_1 rfl (lv_at hl 0 rfl) ?_
  refine lv_iconst (v := 1) hx hb dJ13_bitCount_95d88_2 (by decide) ?_
  refine lv_lushr (v := (jlushr x0 (1 : Int32))) hx hb dJ13_bitCount_95d88_3 rfl ?_
  refine lv_ldc2 (v := 6148914691236517205) hx hb hown (hwg _ wJ_RJ13_314) dJ13_bitCount_95d88_4 ?_
  refine lv_land hx hb dJ13_bitCount_95d88_7 ?_
  refine lv_lsub hx hb dJ13_bitCount_95d88_8 ?_
  refine lv_topl (fun x_1 ex_1 => ?_)
  replace hp := hp x_1 ex_1
  refine lv_lstore_n (lv' := [(0, .long x_1)]) hx hb dJ13_bitCount_95d88_9 rfl hl (by decide) rfl (fun ls hl => ?_)
  refine lv_lload_n hx hb dJ13_bitCount_95d88_10 rfl (lv_at hl 0 rfl) ?_
  refine lv_ldc2 (v := 3689348814741910323) hx hb hown (hwg _ wJ_RJ13_316) dJ13_bitCount_95d88_11 ?_
  refine lv_land hx hb dJ13_bitCount_95d88_14 ?_
  refine lv_lload_n hx hb dJ13_bitCount_95d88_15 rfl (lv_at hl 0 rfl) ?_
  refine lv_iconst (v := 2) hx hb dJ13_bitCount_95d88_16 (by decide) ?_
  refine lv_lushr (v := (jlushr x_1 (2 : Int32))) hx hb dJ13_bitCount_95d88_17 rfl ?_
  refine lv_ldc2 (v := 3689348814741910323) hx hb hown (hwg _ wJ_RJ13_316) dJ13_bitCount_95d88_18 ?_
  refine lv_land hx hb dJ13_bitCount_95d88_21 ?_
  refine lv_ladd hx hb dJ13_bitCount_95d88_22 ?_
  refine lv_topl (fun x_2 ex_2 => ?_)
  replace hp := hp x_2 ex_2
  refine lv_lstore_n (lv' := [(0, .long x_2)]) hx hb dJ13_bitCount_95d88_23 rfl hl (by decide) rfl (fun ls hl => ?_)
  refine lv_lload_n hx hb dJ13_bitCount_95d88_24 rfl (lv_at hl 0 rfl) ?_
  refine lv_lload_n hx hb dJ13_bitCount_95d88_25 rfl (lv_at hl 0 rfl) ?_
  refine lv_iconst (v := 4) hx hb dJ13_bitCount_95d88_26 (by decide) ?_
  refine lv_lushr (v := (jlushr x_2 (4 : Int32))) hx hb dJ13_bitCount_95d88_27 rfl ?_
  refine lv_ladd hx hb dJ13_bitCount_95d88_28 ?_
  refine lv_ldc2 (v := 1085102592571150095) hx hb hown (hwg _ wJ_RJ13_318) dJ13_bitCount_95d88_29 ?_
  refine lv_land hx hb dJ13_bitCount_95d88_32 ?_
  refine lv_topl (fun x_3 ex_3 => ?_)
  replace hp := hp x_3 ex_3
  refine lv_lstore_n (lv' := [(0, .long x_3)]) hx hb dJ13_bitCount_95d88_33 rfl hl (by decide) rfl (fun ls hl => ?_)
  refine lv_lload_n hx hb dJ13_bitCount_95d88_34 rfl (lv_at hl 0 rfl) ?_
  refine lv_lload_n hx hb dJ13_bitCount_95d88_35 rfl (lv_at hl 0 rfl) ?_
  refine lv_bipush (v := 8) hx hb dJ13_bitCount_95d88_36 (by decide) ?_
  refine lv_lushr (v := (jlushr x_3 (8 : Int32))) hx hb dJ13_bitCount_95d88_38 rfl ?_
  refine lv_ladd hx hb dJ13_bitCount_95d88_39 ?_
  refine lv_topl (fun x_4 ex_4 => ?_)
  replace hp := hp x_4 ex_4
  refine lv_lstore_n (lv' := [(0, .long x_4)]) hx hb dJ13_bitCount_95d88_40 rfl hl (by decide) rfl (fun ls hl => ?_)
  refine lv_lload_n hx hb dJ13_bitCount_95d88_41 rfl (lv_at hl 0 rfl) ?_
  refine lv_lload_n hx hb dJ13_bitCount_95d88_42 rfl (lv_at hl 0 rfl) ?_
  refine lv_bipush (v := 16) hx hb dJ13_bitCount_95d88_43 (by decide) ?_
  refine lv_lushr (v := (jlushr x_4 (16 : Int32))) hx hb dJ13_bitCount_95d88_45 rfl ?_
  refine lv_ladd hx hb dJ13_bitCount_95d88_46 ?_
  refine lv_topl (fun x_5 ex_5 => ?_)
  replace hp := hp x_5 ex_5
  refine lv_lstore_n (lv' := [(0, .long x_5)]) hx hb dJ13_bitCount_95d88_47 rfl hl (by decide) rfl (fun ls hl => ?_)
  refine lv_lload_n hx hb dJ13_bitCount_95d88_48 rfl (lv_at hl 0 rfl) ?_
  refine lv_lload_n hx hb dJ13_bitCount_95d88_49 rfl (lv_at hl 0 rfl) ?_
  refine lv_bipush (v := 32) hx hb dJ13_bitCount_95d88_50 (by decide) ?_
  refine lv_lushr (v := (jlushr x_5 (32 : Int32))) hx hb dJ13_bitCount_95d88_52 rfl ?_
  refine lv_ladd hx hb dJ13_bitCount_95d88_53 ?_
  refine lv_topl (fun x_6 ex_6 => ?_)
  replace hp := hp x_6 ex_6
  refine lv_lstore_n (lv' := [(0, .long x_6)]) hx hb dJ13_bitCount_95d88_54 rfl hl (by decide) rfl (fun ls hl => ?_)
  refine lv_lload_n hx hb dJ13_bitCount_95d88_55 rfl (lv_at hl 0 rfl) ?_
  refine lv_l2i (v := (Int64.toInt32 x_6)) hx hb dJ13_bitCount_95d88_56 rfl ?_
  refine lv_bipush (v := 127) hx hb dJ13_bitCount_95d88_57 (by decide) ?_
  refine lv_iand hx hb dJ13_bitCount_95d88_59 ?_
  exact w_iret hx hb hr hlocks hW ⟨hE, hp⟩ dJ13_bitCount_95d88_60
set_option maxHeartbeats 4000000 in
set_option maxRecDepth 100000 in
theorem c_J13_bitCount_95d88 (l : Launch) {D : wD} {cy : Nat → ClassId} {X : va_W} {S0 : wS} {post : Int32 → wS → Prop} {x0 : Int64} (hp : wp_J13_bitCount_95d88 D post S0 x0) : mI D cy X l yJ13_bitCount_95d88 wz_J13_bitCount_95d88 r_J13_bitCount_95d88 [.long x0] S0 (fun r S9 => wX D S0 S9 ∧ post r S9) := by
  intro sz
  refine Met.ofW (cc := cJ13_bitCount_95d88) (maxL := 2) (ret := (some .int)) (by decide) rfl ?_
  intro p e s m args below meth c s₁ B hml hv
  obtain ⟨rfl, hsz, hP, hK, hD0, hRO⟩ := hv
  have hts := atoms_spec (ws := wz_J13_bitCount_95d88) B.pre
  have hown : s.vm.findClass RJ13 = some m.cls := findClass_of_methodNamed B.named
  subst hsz
  have hD := hD0.self (sz := s.heap.size)
  have F : CallFix p m c cJ13_bitCount_95d88 2 s _ wz_J13_bitCount_95d88 RJ13 := ⟨B.exec, B.bytes, hml, hown, hts⟩
  have hr := B.returns
  have hlocks := B.notSynchronized
  generalize hAe : va_A (wL cy X S0) s.heap.size = A at hD hK ⊢
  have hA : ∀ q, s.heap.size ≤ q → A q := fun q h => by rw [← hAe]; exact Or.inr h
  have hW : wO D cy X A s.heap S0 s.heap [] := ⟨hP, hD, va_S.rf, hA, hRO⟩
  have hl := lv_entry ([.long x0]) (n := 2) (Nat.le_of_ble_eq_true rfl)
  rw [lg_entry_eq]
  generalize (lg_sl ([.long x0]) ++ List.replicate (2 - (lg_sl ([.long x0])).length) Slot.unset).toArray = ls at hl ⊢
  have hl : lv_has ls 2 [(0, .long x0)] := hl
  unfold wp_J13_bitCount_95d88 at hp
  exact t_J13_bitCount_95d88_0 F hr hlocks hK hp hW wX.rf (lv_sub hl [0] rfl)
