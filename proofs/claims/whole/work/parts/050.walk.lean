theorem dJ0_isLatin1_aae02_0 : decode cJ0_isLatin1_aae02 0 = .ok (.getstatic 38, 3) := by decide +kernel
theorem dJ0_isLatin1_aae02_3 : decode cJ0_isLatin1_aae02 3 = .ok (.ifCond .eq 14, 3) := by decide +kernel
theorem dJ0_isLatin1_aae02_6 : decode cJ0_isLatin1_aae02 6 = .ok (.aload_n 0, 1) := by decide +kernel
theorem dJ0_isLatin1_aae02_7 : decode cJ0_isLatin1_aae02 7 = .ok (.getfield 15, 3) := by decide +kernel
theorem dJ0_isLatin1_aae02_10 : decode cJ0_isLatin1_aae02 10 = .ok (.ifCond .ne 7, 3) := by decide +kernel
theorem dJ0_isLatin1_aae02_13 : decode cJ0_isLatin1_aae02 13 = .ok (.iconst 1, 1) := by decide +kernel
theorem dJ0_isLatin1_aae02_14 : decode cJ0_isLatin1_aae02 14 = .ok (.goto 4, 3) := by decide +kernel
theorem dJ0_isLatin1_aae02_17 : decode cJ0_isLatin1_aae02 17 = .ok (.iconst 0, 1) := by decide +kernel
theorem dJ0_isLatin1_aae02_18 : decode cJ0_isLatin1_aae02 18 = .ok (.ireturn, 1) := by decide +kernel
theorem dJ3_checkIndex_8e157_0 : decode cJ3_checkIndex_8e157 0 = .ok (.iload_n 0, 1) := by decide +kernel
theorem dJ3_checkIndex_8e157_1 : decode cJ3_checkIndex_8e157 1 = .ok (.ifCond .lt 8, 3) := by decide +kernel
theorem dJ3_checkIndex_8e157_4 : decode cJ3_checkIndex_8e157 4 = .ok (.iload_n 0, 1) := by decide +kernel
theorem dJ3_checkIndex_8e157_5 : decode cJ3_checkIndex_8e157 5 = .ok (.iload_n 1, 1) := by decide +kernel
theorem dJ3_checkIndex_8e157_6 : decode cJ3_checkIndex_8e157 6 = .ok (.if_icmp .lt 10, 3) := by decide +kernel
theorem dJ3_checkIndex_8e157_9 : decode cJ3_checkIndex_8e157 9 = .ok (.aload_n 2, 1) := by decide +kernel
theorem dJ3_checkIndex_8e157_10 : decode cJ3_checkIndex_8e157 10 = .ok (.iload_n 0, 1) := by decide +kernel
theorem dJ3_checkIndex_8e157_11 : decode cJ3_checkIndex_8e157 11 = .ok (.iload_n 1, 1) := by decide +kernel
theorem dJ3_checkIndex_8e157_12 : decode cJ3_checkIndex_8e157 12 = .ok (.invokestatic 95, 3) := by decide +kernel
theorem dJ3_checkIndex_8e157_15 : decode cJ3_checkIndex_8e157 15 = .ok (.athrow, 1) := by decide +kernel
theorem dJ3_checkIndex_8e157_16 : decode cJ3_checkIndex_8e157 16 = .ok (.iload_n 0, 1) := by decide +kernel
theorem dJ3_checkIndex_8e157_17 : decode cJ3_checkIndex_8e157 17 = .ok (.ireturn, 1) := by decide +kernel
theorem dJ0_checkIndex_df160_0 : decode cJ0_checkIndex_df160 0 = .ok (.iload_n 0, 1) := by decide +kernel
theorem dJ0_checkIndex_df160_1 : decode cJ0_checkIndex_df160 1 = .ok (.iload_n 1, 1) := by decide +kernel
theorem dJ0_checkIndex_df160_2 : decode cJ0_checkIndex_df160 2 = .ok (.getstatic 1053, 3) := by decide +kernel
theorem dJ0_checkIndex_df160_5 : decode cJ0_checkIndex_df160 5 = .ok (.invokestatic 1059, 3) := by decide +kernel
theorem dJ0_checkIndex_df160_8 : decode cJ0_checkIndex_df160 8 = .ok (.pop, 1) := by decide +kernel
theorem dJ0_checkIndex_df160_9 : decode cJ0_checkIndex_df160 9 = .ok (.return_, 1) := by decide +kernel
theorem dJ1_charAt_3b067_0 : decode cJ1_charAt_3b067 0 = .ok (.iload_n 1, 1) := by decide +kernel
theorem dJ1_charAt_3b067_1 : decode cJ1_charAt_3b067 1 = .ok (.aload_n 0, 1) := by decide +kernel
theorem dJ1_charAt_3b067_2 : decode cJ1_charAt_3b067 2 = .ok (.arraylength, 1) := by decide +kernel
theorem dJ1_charAt_3b067_3 : decode cJ1_charAt_3b067 3 = .ok (.invokestatic 9, 3) := by decide +kernel
theorem dJ1_charAt_3b067_6 : decode cJ1_charAt_3b067 6 = .ok (.aload_n 0, 1) := by decide +kernel
theorem dJ1_charAt_3b067_7 : decode cJ1_charAt_3b067 7 = .ok (.iload_n 1, 1) := by decide +kernel
theorem dJ1_charAt_3b067_8 : decode cJ1_charAt_3b067 8 = .ok (.baload, 1) := by decide +kernel
theorem dJ1_charAt_3b067_9 : decode cJ1_charAt_3b067 9 = .ok (.sipush 255, 3) := by decide +kernel
theorem dJ1_charAt_3b067_12 : decode cJ1_charAt_3b067 12 = .ok (.iand, 1) := by decide +kernel
theorem dJ1_charAt_3b067_13 : decode cJ1_charAt_3b067 13 = .ok (.i2c, 1) := by decide +kernel
theorem dJ1_charAt_3b067_14 : decode cJ1_charAt_3b067 14 = .ok (.ireturn, 1) := by decide +kernel
theorem dJ2_length_9d52b_0 : decode cJ2_length_9d52b 0 = .ok (.aload_n 0, 1) := by decide +kernel
theorem dJ2_length_9d52b_1 : decode cJ2_length_9d52b 1 = .ok (.arraylength, 1) := by decide +kernel
theorem dJ2_length_9d52b_2 : decode cJ2_length_9d52b 2 = .ok (.iconst 1, 1) := by decide +kernel
theorem dJ2_length_9d52b_3 : decode cJ2_length_9d52b 3 = .ok (.ishr, 1) := by decide +kernel
theorem dJ2_length_9d52b_4 : decode cJ2_length_9d52b 4 = .ok (.ireturn, 1) := by decide +kernel
theorem dJ2_checkIndex_2214a_0 : decode cJ2_checkIndex_2214a 0 = .ok (.iload_n 0, 1) := by decide +kernel
theorem dJ2_checkIndex_2214a_1 : decode cJ2_checkIndex_2214a 1 = .ok (.aload_n 1, 1) := by decide +kernel
theorem dJ2_checkIndex_2214a_2 : decode cJ2_checkIndex_2214a 2 = .ok (.invokestatic 48, 3) := by decide +kernel
theorem dJ2_checkIndex_2214a_5 : decode cJ2_checkIndex_2214a 5 = .ok (.invokestatic 414, 3) := by decide +kernel
theorem dJ2_checkIndex_2214a_8 : decode cJ2_checkIndex_2214a 8 = .ok (.return_, 1) := by decide +kernel
theorem dJ2_getChar_3b067_0 : decode cJ2_getChar_3b067 0 = .ok (.getstatic 44, 3) := by decide +kernel
theorem dJ2_getChar_3b067_3 : decode cJ2_getChar_3b067 3 = .ok (.ifCond .ne 25, 3) := by decide +kernel
theorem dJ2_getChar_3b067_6 : decode cJ2_getChar_3b067 6 = .ok (.iload_n 1, 1) := by decide +kernel
theorem dJ2_getChar_3b067_7 : decode cJ2_getChar_3b067 7 = .ok (.ifCond .lt 11, 3) := by decide +kernel
theorem dJ2_getChar_3b067_10 : decode cJ2_getChar_3b067 10 = .ok (.iload_n 1, 1) := by decide +kernel
theorem dJ2_getChar_3b067_11 : decode cJ2_getChar_3b067 11 = .ok (.aload_n 0, 1) := by decide +kernel
theorem dJ2_getChar_3b067_12 : decode cJ2_getChar_3b067 12 = .ok (.invokestatic 48, 3) := by decide +kernel
theorem dJ2_getChar_3b067_15 : decode cJ2_getChar_3b067 15 = .ok (.if_icmp .lt 13, 3) := by decide +kernel
theorem dJ2_getChar_3b067_18 : decode cJ2_getChar_3b067 18 = .ok (.new 52, 3) := by decide +kernel
theorem dJ2_getChar_3b067_21 : decode cJ2_getChar_3b067 21 = .ok (.dup, 1) := by decide +kernel
theorem dJ2_getChar_3b067_22 : decode cJ2_getChar_3b067 22 = .ok (.ldc 54, 2) := by decide +kernel
theorem dJ2_getChar_3b067_24 : decode cJ2_getChar_3b067 24 = .ok (.invokespecial 56, 3) := by decide +kernel
theorem dJ2_getChar_3b067_27 : decode cJ2_getChar_3b067 27 = .ok (.athrow, 1) := by decide +kernel
theorem dJ2_getChar_3b067_28 : decode cJ2_getChar_3b067 28 = .ok (.iload_n 1, 1) := by decide +kernel
theorem dJ2_getChar_3b067_29 : decode cJ2_getChar_3b067 29 = .ok (.iconst 1, 1) := by decide +kernel
theorem dJ2_getChar_3b067_30 : decode cJ2_getChar_3b067 30 = .ok (.ishl, 1) := by decide +kernel
theorem dJ2_getChar_3b067_31 : decode cJ2_getChar_3b067 31 = .ok (.istore_n 1, 1) := by decide +kernel
theorem dJ2_getChar_3b067_32 : decode cJ2_getChar_3b067 32 = .ok (.aload_n 0, 1) := by decide +kernel
theorem dJ2_getChar_3b067_33 : decode cJ2_getChar_3b067 33 = .ok (.iload_n 1, 1) := by decide +kernel
theorem dJ2_getChar_3b067_34 : decode cJ2_getChar_3b067 34 = .ok (.iinc 1 1, 3) := by decide +kernel
theorem dJ2_getChar_3b067_37 : decode cJ2_getChar_3b067 37 = .ok (.baload, 1) := by decide +kernel
theorem dJ2_getChar_3b067_38 : decode cJ2_getChar_3b067 38 = .ok (.sipush 255, 3) := by decide +kernel
theorem dJ2_getChar_3b067_41 : decode cJ2_getChar_3b067 41 = .ok (.iand, 1) := by decide +kernel
theorem dJ2_getChar_3b067_42 : decode cJ2_getChar_3b067 42 = .ok (.getstatic 59, 3) := by decide +kernel
theorem dJ2_getChar_3b067_45 : decode cJ2_getChar_3b067 45 = .ok (.ishl, 1) := by decide +kernel
theorem dJ2_getChar_3b067_46 : decode cJ2_getChar_3b067 46 = .ok (.aload_n 0, 1) := by decide +kernel
theorem dJ2_getChar_3b067_47 : decode cJ2_getChar_3b067 47 = .ok (.iload_n 1, 1) := by decide +kernel
theorem dJ2_getChar_3b067_48 : decode cJ2_getChar_3b067 48 = .ok (.baload, 1) := by decide +kernel
theorem dJ2_getChar_3b067_49 : decode cJ2_getChar_3b067 49 = .ok (.sipush 255, 3) := by decide +kernel
theorem dJ2_getChar_3b067_52 : decode cJ2_getChar_3b067 52 = .ok (.iand, 1) := by decide +kernel
theorem dJ2_getChar_3b067_53 : decode cJ2_getChar_3b067 53 = .ok (.getstatic 63, 3) := by decide +kernel
theorem dJ2_getChar_3b067_56 : decode cJ2_getChar_3b067 56 = .ok (.ishl, 1) := by decide +kernel
theorem dJ2_getChar_3b067_57 : decode cJ2_getChar_3b067 57 = .ok (.ior, 1) := by decide +kernel
theorem dJ2_getChar_3b067_58 : decode cJ2_getChar_3b067 58 = .ok (.i2c, 1) := by decide +kernel
theorem dJ2_getChar_3b067_59 : decode cJ2_getChar_3b067 59 = .ok (.ireturn, 1) := by decide +kernel
theorem dJ2_charAt_3b067_0 : decode cJ2_charAt_3b067 0 = .ok (.iload_n 1, 1) := by decide +kernel
theorem dJ2_charAt_3b067_1 : decode cJ2_charAt_3b067 1 = .ok (.aload_n 0, 1) := by decide +kernel
theorem dJ2_charAt_3b067_2 : decode cJ2_charAt_3b067 2 = .ok (.invokestatic 67, 3) := by decide +kernel
theorem dJ2_charAt_3b067_5 : decode cJ2_charAt_3b067 5 = .ok (.aload_n 0, 1) := by decide +kernel
theorem dJ2_charAt_3b067_6 : decode cJ2_charAt_3b067 6 = .ok (.iload_n 1, 1) := by decide +kernel
theorem dJ2_charAt_3b067_7 : decode cJ2_charAt_3b067 7 = .ok (.invokestatic 71, 3) := by decide +kernel
theorem dJ2_charAt_3b067_10 : decode cJ2_charAt_3b067 10 = .ok (.ireturn, 1) := by decide +kernel
theorem dJ0_charAt_5068e_0 : decode cJ0_charAt_5068e 0 = .ok (.aload_n 0, 1) := by decide +kernel
theorem dJ0_charAt_5068e_1 : decode cJ0_charAt_5068e 1 = .ok (.invokevirtual 492, 3) := by decide +kernel
theorem dJ0_charAt_5068e_4 : decode cJ0_charAt_5068e 4 = .ok (.ifCond .eq 12, 3) := by decide +kernel
theorem dJ0_charAt_5068e_7 : decode cJ0_charAt_5068e 7 = .ok (.aload_n 0, 1) := by decide +kernel
theorem dJ0_charAt_5068e_8 : decode cJ0_charAt_5068e 8 = .ok (.getfield 9, 3) := by decide +kernel
theorem dJ0_charAt_5068e_11 : decode cJ0_charAt_5068e 11 = .ok (.iload_n 1, 1) := by decide +kernel
theorem dJ0_charAt_5068e_12 : decode cJ0_charAt_5068e 12 = .ok (.invokestatic 495, 3) := by decide +kernel
theorem dJ0_charAt_5068e_15 : decode cJ0_charAt_5068e 15 = .ok (.ireturn, 1) := by decide +kernel
theorem dJ0_charAt_5068e_16 : decode cJ0_charAt_5068e 16 = .ok (.aload_n 0, 1) := by decide +kernel
theorem dJ0_charAt_5068e_17 : decode cJ0_charAt_5068e 17 = .ok (.getfield 9, 3) := by decide +kernel
theorem dJ0_charAt_5068e_20 : decode cJ0_charAt_5068e 20 = .ok (.iload_n 1, 1) := by decide +kernel
theorem dJ0_charAt_5068e_21 : decode cJ0_charAt_5068e 21 = .ok (.invokestatic 498, 3) := by decide +kernel
theorem dJ0_charAt_5068e_24 : decode cJ0_charAt_5068e 24 = .ok (.ireturn, 1) := by decide +kernel
theorem dJ3_checkFromToIndex_8c36e_0 : decode cJ3_checkFromToIndex_8c36e 0 = .ok (.iload_n 0, 1) := by decide +kernel
theorem dJ3_checkFromToIndex_8c36e_1 : decode cJ3_checkFromToIndex_8c36e 1 = .ok (.ifCond .lt 13, 3) := by decide +kernel
theorem dJ3_checkFromToIndex_8c36e_4 : decode cJ3_checkFromToIndex_8c36e 4 = .ok (.iload_n 0, 1) := by decide +kernel
theorem dJ3_checkFromToIndex_8c36e_5 : decode cJ3_checkFromToIndex_8c36e 5 = .ok (.iload_n 1, 1) := by decide +kernel
theorem dJ3_checkFromToIndex_8c36e_6 : decode cJ3_checkFromToIndex_8c36e 6 = .ok (.if_icmp .gt 8, 3) := by decide +kernel
theorem dJ3_checkFromToIndex_8c36e_9 : decode cJ3_checkFromToIndex_8c36e 9 = .ok (.iload_n 1, 1) := by decide +kernel
theorem dJ3_checkFromToIndex_8c36e_10 : decode cJ3_checkFromToIndex_8c36e 10 = .ok (.iload_n 2, 1) := by decide +kernel
theorem dJ3_checkFromToIndex_8c36e_11 : decode cJ3_checkFromToIndex_8c36e 11 = .ok (.if_icmp .le 11, 3) := by decide +kernel
theorem dJ3_checkFromToIndex_8c36e_14 : decode cJ3_checkFromToIndex_8c36e 14 = .ok (.aload_n 3, 1) := by decide +kernel
theorem dJ3_checkFromToIndex_8c36e_15 : decode cJ3_checkFromToIndex_8c36e 15 = .ok (.iload_n 0, 1) := by decide +kernel
theorem dJ3_checkFromToIndex_8c36e_16 : decode cJ3_checkFromToIndex_8c36e 16 = .ok (.iload_n 1, 1) := by decide +kernel
theorem dJ3_checkFromToIndex_8c36e_17 : decode cJ3_checkFromToIndex_8c36e 17 = .ok (.iload_n 2, 1) := by decide +kernel
theorem dJ3_checkFromToIndex_8c36e_18 : decode cJ3_checkFromToIndex_8c36e 18 = .ok (.invokestatic 99, 3) := by decide +kernel
theorem dJ3_checkFromToIndex_8c36e_21 : decode cJ3_checkFromToIndex_8c36e 21 = .ok (.athrow, 1) := by decide +kernel
theorem dJ3_checkFromToIndex_8c36e_22 : decode cJ3_checkFromToIndex_8c36e 22 = .ok (.iload_n 0, 1) := by decide +kernel
theorem dJ3_checkFromToIndex_8c36e_23 : decode cJ3_checkFromToIndex_8c36e 23 = .ok (.ireturn, 1) := by decide +kernel
theorem dJ0_checkBoundsBeginEnd_23922_0 : decode cJ0_checkBoundsBeginEnd_23922 0 = .ok (.iload_n 0, 1) := by decide +kernel
theorem dJ0_checkBoundsBeginEnd_23922_1 : decode cJ0_checkBoundsBeginEnd_23922 1 = .ok (.iload_n 1, 1) := by decide +kernel
theorem dJ0_checkBoundsBeginEnd_23922_2 : decode cJ0_checkBoundsBeginEnd_23922 2 = .ok (.iload_n 2, 1) := by decide +kernel
theorem dJ0_checkBoundsBeginEnd_23922_3 : decode cJ0_checkBoundsBeginEnd_23922 3 = .ok (.getstatic 1053, 3) := by decide +kernel
theorem dJ0_checkBoundsBeginEnd_23922_6 : decode cJ0_checkBoundsBeginEnd_23922 6 = .ok (.invokestatic 1062, 3) := by decide +kernel
theorem dJ0_checkBoundsBeginEnd_23922_9 : decode cJ0_checkBoundsBeginEnd_23922 9 = .ok (.pop, 1) := by decide +kernel
theorem dJ0_checkBoundsBeginEnd_23922_10 : decode cJ0_checkBoundsBeginEnd_23922 10 = .ok (.return_, 1) := by decide +kernel
theorem dJ3_checkFromIndexSize_8c36e_0 : decode cJ3_checkFromIndexSize_8c36e 0 = .ok (.iload_n 2, 1) := by decide +kernel
theorem dJ3_checkFromIndexSize_8c36e_1 : decode cJ3_checkFromIndexSize_8c36e 1 = .ok (.iload_n 0, 1) := by decide +kernel
theorem dJ3_checkFromIndexSize_8c36e_2 : decode cJ3_checkFromIndexSize_8c36e 2 = .ok (.ior, 1) := by decide +kernel
theorem dJ3_checkFromIndexSize_8c36e_3 : decode cJ3_checkFromIndexSize_8c36e 3 = .ok (.iload_n 1, 1) := by decide +kernel
theorem dJ3_checkFromIndexSize_8c36e_4 : decode cJ3_checkFromIndexSize_8c36e 4 = .ok (.ior, 1) := by decide +kernel
theorem dJ3_checkFromIndexSize_8c36e_5 : decode cJ3_checkFromIndexSize_8c36e 5 = .ok (.ifCond .lt 10, 3) := by decide +kernel
theorem dJ3_checkFromIndexSize_8c36e_8 : decode cJ3_checkFromIndexSize_8c36e 8 = .ok (.iload_n 1, 1) := by decide +kernel
theorem dJ3_checkFromIndexSize_8c36e_9 : decode cJ3_checkFromIndexSize_8c36e 9 = .ok (.iload_n 2, 1) := by decide +kernel
theorem dJ3_checkFromIndexSize_8c36e_10 : decode cJ3_checkFromIndexSize_8c36e 10 = .ok (.iload_n 0, 1) := by decide +kernel
theorem dJ3_checkFromIndexSize_8c36e_11 : decode cJ3_checkFromIndexSize_8c36e 11 = .ok (.isub, 1) := by decide +kernel
theorem dJ3_checkFromIndexSize_8c36e_12 : decode cJ3_checkFromIndexSize_8c36e 12 = .ok (.if_icmp .le 11, 3) := by decide +kernel
theorem dJ3_checkFromIndexSize_8c36e_15 : decode cJ3_checkFromIndexSize_8c36e 15 = .ok (.aload_n 3, 1) := by decide +kernel
theorem dJ3_checkFromIndexSize_8c36e_16 : decode cJ3_checkFromIndexSize_8c36e 16 = .ok (.iload_n 0, 1) := by decide +kernel
theorem dJ3_checkFromIndexSize_8c36e_17 : decode cJ3_checkFromIndexSize_8c36e 17 = .ok (.iload_n 1, 1) := by decide +kernel
theorem dJ3_checkFromIndexSize_8c36e_18 : decode cJ3_checkFromIndexSize_8c36e 18 = .ok (.iload_n 2, 1) := by decide +kernel
theorem dJ3_checkFromIndexSize_8c36e_19 : decode cJ3_checkFromIndexSize_8c36e 19 = .ok (.invokestatic 103, 3) := by decide +kernel
theorem dJ3_checkFromIndexSize_8c36e_22 : decode cJ3_checkFromIndexSize_8c36e 22 = .ok (.athrow, 1) := by decide +kernel
theorem dJ3_checkFromIndexSize_8c36e_23 : decode cJ3_checkFromIndexSize_8c36e 23 = .ok (.iload_n 0, 1) := by decide +kernel
theorem dJ3_checkFromIndexSize_8c36e_24 : decode cJ3_checkFromIndexSize_8c36e 24 = .ok (.ireturn, 1) := by decide +kernel
theorem dJ0_checkBoundsOffCount_cabcc_0 : decode cJ0_checkBoundsOffCount_cabcc 0 = .ok (.iload_n 0, 1) := by decide +kernel
theorem dJ0_checkBoundsOffCount_cabcc_1 : decode cJ0_checkBoundsOffCount_cabcc 1 = .ok (.iload_n 1, 1) := by decide +kernel
theorem dJ0_checkBoundsOffCount_cabcc_2 : decode cJ0_checkBoundsOffCount_cabcc 2 = .ok (.iload_n 2, 1) := by decide +kernel
theorem dJ0_checkBoundsOffCount_cabcc_3 : decode cJ0_checkBoundsOffCount_cabcc 3 = .ok (.getstatic 1053, 3) := by decide +kernel
theorem dJ0_checkBoundsOffCount_cabcc_6 : decode cJ0_checkBoundsOffCount_cabcc 6 = .ok (.invokestatic 1065, 3) := by decide +kernel
theorem dJ0_checkBoundsOffCount_cabcc_9 : decode cJ0_checkBoundsOffCount_cabcc 9 = .ok (.ireturn, 1) := by decide +kernel
theorem dJ0_coder_7d493_0 : decode cJ0_coder_7d493 0 = .ok (.getstatic 38, 3) := by decide +kernel
theorem dJ0_coder_7d493_3 : decode cJ0_coder_7d493 3 = .ok (.ifCond .eq 10, 3) := by decide +kernel
theorem dJ0_coder_7d493_6 : decode cJ0_coder_7d493 6 = .ok (.aload_n 0, 1) := by decide +kernel
theorem dJ0_coder_7d493_7 : decode cJ0_coder_7d493 7 = .ok (.getfield 15, 3) := by decide +kernel
theorem dJ0_coder_7d493_10 : decode cJ0_coder_7d493 10 = .ok (.goto 4, 3) := by decide +kernel
theorem dJ0_coder_7d493_13 : decode cJ0_coder_7d493 13 = .ok (.iconst 1, 1) := by decide +kernel
theorem dJ0_coder_7d493_14 : decode cJ0_coder_7d493 14 = .ok (.ireturn, 1) := by decide +kernel
theorem dJ2_checkBoundsOffCount_d044e_0 : decode cJ2_checkBoundsOffCount_d044e 0 = .ok (.iload_n 0, 1) := by decide +kernel
theorem dJ2_checkBoundsOffCount_d044e_1 : decode cJ2_checkBoundsOffCount_d044e 1 = .ok (.iload_n 1, 1) := by decide +kernel
theorem dJ2_checkBoundsOffCount_d044e_2 : decode cJ2_checkBoundsOffCount_d044e 2 = .ok (.aload_n 2, 1) := by decide +kernel
theorem dJ2_checkBoundsOffCount_d044e_3 : decode cJ2_checkBoundsOffCount_d044e 3 = .ok (.invokestatic 48, 3) := by decide +kernel
theorem dJ2_checkBoundsOffCount_d044e_6 : decode cJ2_checkBoundsOffCount_d044e 6 = .ok (.invokestatic 419, 3) := by decide +kernel
theorem dJ2_checkBoundsOffCount_d044e_9 : decode cJ2_checkBoundsOffCount_d044e 9 = .ok (.pop, 1) := by decide +kernel
theorem dJ2_checkBoundsOffCount_d044e_10 : decode cJ2_checkBoundsOffCount_d044e 10 = .ok (.return_, 1) := by decide +kernel
theorem dJ2_putChar_b72d1_0 : decode cJ2_putChar_b72d1 0 = .ok (.getstatic 44, 3) := by decide +kernel
theorem dJ2_putChar_b72d1_3 : decode cJ2_putChar_b72d1 3 = .ok (.ifCond .ne 25, 3) := by decide +kernel
theorem dJ2_putChar_b72d1_6 : decode cJ2_putChar_b72d1 6 = .ok (.iload_n 1, 1) := by decide +kernel
theorem dJ2_putChar_b72d1_7 : decode cJ2_putChar_b72d1 7 = .ok (.ifCond .lt 11, 3) := by decide +kernel
theorem dJ2_putChar_b72d1_10 : decode cJ2_putChar_b72d1 10 = .ok (.iload_n 1, 1) := by decide +kernel
theorem dJ2_putChar_b72d1_11 : decode cJ2_putChar_b72d1 11 = .ok (.aload_n 0, 1) := by decide +kernel
theorem dJ2_putChar_b72d1_12 : decode cJ2_putChar_b72d1 12 = .ok (.invokestatic 48, 3) := by decide +kernel
theorem dJ2_putChar_b72d1_15 : decode cJ2_putChar_b72d1 15 = .ok (.if_icmp .lt 13, 3) := by decide +kernel
theorem dJ2_putChar_b72d1_18 : decode cJ2_putChar_b72d1 18 = .ok (.new 52, 3) := by decide +kernel
theorem dJ2_putChar_b72d1_21 : decode cJ2_putChar_b72d1 21 = .ok (.dup, 1) := by decide +kernel
theorem dJ2_putChar_b72d1_22 : decode cJ2_putChar_b72d1 22 = .ok (.ldc 54, 2) := by decide +kernel
theorem dJ2_putChar_b72d1_24 : decode cJ2_putChar_b72d1 24 = .ok (.invokespecial 56, 3) := by decide +kernel
theorem dJ2_putChar_b72d1_27 : decode cJ2_putChar_b72d1 27 = .ok (.athrow, 1) := by decide +kernel
theorem dJ2_putChar_b72d1_28 : decode cJ2_putChar_b72d1 28 = .ok (.iload_n 1, 1) := by decide +kernel
theorem dJ2_putChar_b72d1_29 : decode cJ2_putChar_b72d1 29 = .ok (.iconst 1, 1) := by decide +kernel
theorem dJ2_putChar_b72d1_30 : decode cJ2_putChar_b72d1 30 = .ok (.ishl, 1) := by decide +kernel
theorem dJ2_putChar_b72d1_31 : decode cJ2_putChar_b72d1 31 = .ok (.istore_n 1, 1) := by decide +kernel
theorem dJ2_putChar_b72d1_32 : decode cJ2_putChar_b72d1 32 = .ok (.aload_n 0, 1) := by decide +kernel
theorem dJ2_putChar_b72d1_33 : decode cJ2_putChar_b72d1 33 = .ok (.iload_n 1, 1) := by decide +kernel
theorem dJ2_putChar_b72d1_34 : decode cJ2_putChar_b72d1 34 = .ok (.iinc 1 1, 3) := by decide +kernel
theorem dJ2_putChar_b72d1_37 : decode cJ2_putChar_b72d1 37 = .ok (.iload_n 2, 1) := by decide +kernel
theorem dJ2_putChar_b72d1_38 : decode cJ2_putChar_b72d1 38 = .ok (.getstatic 59, 3) := by decide +kernel
theorem dJ2_putChar_b72d1_41 : decode cJ2_putChar_b72d1 41 = .ok (.ishr, 1) := by decide +kernel
theorem dJ2_putChar_b72d1_42 : decode cJ2_putChar_b72d1 42 = .ok (.i2b, 1) := by decide +kernel
theorem dJ2_putChar_b72d1_43 : decode cJ2_putChar_b72d1 43 = .ok (.bastore, 1) := by decide +kernel
theorem dJ2_putChar_b72d1_44 : decode cJ2_putChar_b72d1 44 = .ok (.aload_n 0, 1) := by decide +kernel
theorem dJ2_putChar_b72d1_45 : decode cJ2_putChar_b72d1 45 = .ok (.iload_n 1, 1) := by decide +kernel
theorem dJ2_putChar_b72d1_46 : decode cJ2_putChar_b72d1 46 = .ok (.iload_n 2, 1) := by decide +kernel
theorem dJ2_putChar_b72d1_47 : decode cJ2_putChar_b72d1 47 = .ok (.getstatic 63, 3) := by decide +kernel
theorem dJ2_putChar_b72d1_50 : decode cJ2_putChar_b72d1 50 = .ok (.ishr, 1) := by decide +kernel
theorem dJ2_putChar_b72d1_51 : decode cJ2_putChar_b72d1 51 = .ok (.i2b, 1) := by decide +kernel
theorem dJ2_putChar_b72d1_52 : decode cJ2_putChar_b72d1 52 = .ok (.bastore, 1) := by decide +kernel
theorem dJ2_putChar_b72d1_53 : decode cJ2_putChar_b72d1 53 = .ok (.return_, 1) := by decide +kernel
theorem dJ2_inflate_0e8fd_0 : decode cJ2_inflate_0e8fd 0 = .ok (.iload_n 3, 1) := by decide +kernel
theorem dJ2_inflate_0e8fd_1 : decode cJ2_inflate_0e8fd 1 = .ok (.iload 4, 2) := by decide +kernel
theorem dJ2_inflate_0e8fd_3 : decode cJ2_inflate_0e8fd 3 = .ok (.aload_n 2, 1) := by decide +kernel
theorem dJ2_inflate_0e8fd_4 : decode cJ2_inflate_0e8fd 4 = .ok (.invokestatic 173, 3) := by decide +kernel
theorem dJ2_inflate_0e8fd_7 : decode cJ2_inflate_0e8fd 7 = .ok (.iconst 0, 1) := by decide +kernel
theorem dJ2_inflate_0e8fd_8 : decode cJ2_inflate_0e8fd 8 = .ok (.istore 5, 2) := by decide +kernel
theorem dJ2_inflate_0e8fd_10 : decode cJ2_inflate_0e8fd 10 = .ok (.iload 5, 2) := by decide +kernel
theorem dJ2_inflate_0e8fd_12 : decode cJ2_inflate_0e8fd 12 = .ok (.iload 4, 2) := by decide +kernel
theorem dJ2_inflate_0e8fd_14 : decode cJ2_inflate_0e8fd 14 = .ok (.if_icmp .ge 27, 3) := by decide +kernel
theorem dJ2_inflate_0e8fd_17 : decode cJ2_inflate_0e8fd 17 = .ok (.aload_n 2, 1) := by decide +kernel
theorem dJ2_inflate_0e8fd_18 : decode cJ2_inflate_0e8fd 18 = .ok (.iload_n 3, 1) := by decide +kernel
theorem dJ2_inflate_0e8fd_19 : decode cJ2_inflate_0e8fd 19 = .ok (.iinc 3 1, 3) := by decide +kernel
theorem dJ2_inflate_0e8fd_22 : decode cJ2_inflate_0e8fd 22 = .ok (.aload_n 0, 1) := by decide +kernel
theorem dJ2_inflate_0e8fd_23 : decode cJ2_inflate_0e8fd 23 = .ok (.iload_n 1, 1) := by decide +kernel
theorem dJ2_inflate_0e8fd_24 : decode cJ2_inflate_0e8fd 24 = .ok (.iinc 1 1, 3) := by decide +kernel
theorem dJ2_inflate_0e8fd_27 : decode cJ2_inflate_0e8fd 27 = .ok (.baload, 1) := by decide +kernel
theorem dJ2_inflate_0e8fd_28 : decode cJ2_inflate_0e8fd 28 = .ok (.sipush 255, 3) := by decide +kernel
theorem dJ2_inflate_0e8fd_31 : decode cJ2_inflate_0e8fd 31 = .ok (.iand, 1) := by decide +kernel
theorem dJ2_inflate_0e8fd_32 : decode cJ2_inflate_0e8fd 32 = .ok (.invokestatic 111, 3) := by decide +kernel
theorem dJ2_inflate_0e8fd_35 : decode cJ2_inflate_0e8fd 35 = .ok (.iinc 5 1, 3) := by decide +kernel
theorem dJ2_inflate_0e8fd_38 : decode cJ2_inflate_0e8fd 38 = .ok (.goto (-28), 3) := by decide +kernel
theorem dJ2_inflate_0e8fd_41 : decode cJ2_inflate_0e8fd 41 = .ok (.return_, 1) := by decide +kernel
theorem dJ1_inflate_0e8fd_0 : decode cJ1_inflate_0e8fd 0 = .ok (.aload_n 0, 1) := by decide +kernel
theorem dJ1_inflate_0e8fd_1 : decode cJ1_inflate_0e8fd 1 = .ok (.iload_n 1, 1) := by decide +kernel
theorem dJ1_inflate_0e8fd_2 : decode cJ1_inflate_0e8fd 2 = .ok (.aload_n 2, 1) := by decide +kernel
theorem dJ1_inflate_0e8fd_3 : decode cJ1_inflate_0e8fd 3 = .ok (.iload_n 3, 1) := by decide +kernel
theorem dJ1_inflate_0e8fd_4 : decode cJ1_inflate_0e8fd 4 = .ok (.iload 4, 2) := by decide +kernel
theorem dJ1_inflate_0e8fd_6 : decode cJ1_inflate_0e8fd 6 = .ok (.invokestatic 240, 3) := by decide +kernel
theorem dJ1_inflate_0e8fd_9 : decode cJ1_inflate_0e8fd 9 = .ok (.return_, 1) := by decide +kernel
theorem dJ0_getBytes_840e7_0 : decode cJ0_getBytes_840e7 0 = .ok (.aload_n 0, 1) := by decide +kernel
theorem dJ0_getBytes_840e7_1 : decode cJ0_getBytes_840e7 1 = .ok (.invokevirtual 335, 3) := by decide +kernel
theorem dJ0_getBytes_840e7_4 : decode cJ0_getBytes_840e7 4 = .ok (.iload_n 3, 1) := by decide +kernel
theorem dJ0_getBytes_840e7_5 : decode cJ0_getBytes_840e7 5 = .ok (.if_icmp .ne 23, 3) := by decide +kernel
theorem dJ0_getBytes_840e7_8 : decode cJ0_getBytes_840e7 8 = .ok (.aload_n 0, 1) := by decide +kernel
theorem dJ0_getBytes_840e7_9 : decode cJ0_getBytes_840e7 9 = .ok (.getfield 9, 3) := by decide +kernel
theorem dJ0_getBytes_840e7_12 : decode cJ0_getBytes_840e7 12 = .ok (.iconst 0, 1) := by decide +kernel
theorem dJ0_getBytes_840e7_13 : decode cJ0_getBytes_840e7 13 = .ok (.aload_n 1, 1) := by decide +kernel
theorem dJ0_getBytes_840e7_14 : decode cJ0_getBytes_840e7 14 = .ok (.iload_n 2, 1) := by decide +kernel
theorem dJ0_getBytes_840e7_15 : decode cJ0_getBytes_840e7 15 = .ok (.iload_n 3, 1) := by decide +kernel
theorem dJ0_getBytes_840e7_16 : decode cJ0_getBytes_840e7 16 = .ok (.ishl, 1) := by decide +kernel
theorem dJ0_getBytes_840e7_17 : decode cJ0_getBytes_840e7 17 = .ok (.aload_n 0, 1) := by decide +kernel
theorem dJ0_getBytes_840e7_18 : decode cJ0_getBytes_840e7 18 = .ok (.getfield 9, 3) := by decide +kernel
theorem dJ0_getBytes_840e7_21 : decode cJ0_getBytes_840e7 21 = .ok (.arraylength, 1) := by decide +kernel
theorem dJ0_getBytes_840e7_22 : decode cJ0_getBytes_840e7 22 = .ok (.invokestatic 212, 3) := by decide +kernel
theorem dJ0_getBytes_840e7_25 : decode cJ0_getBytes_840e7 25 = .ok (.goto 18, 3) := by decide +kernel
theorem dJ0_getBytes_840e7_28 : decode cJ0_getBytes_840e7 28 = .ok (.aload_n 0, 1) := by decide +kernel
theorem dJ0_getBytes_840e7_29 : decode cJ0_getBytes_840e7 29 = .ok (.getfield 9, 3) := by decide +kernel
theorem dJ0_getBytes_840e7_32 : decode cJ0_getBytes_840e7 32 = .ok (.iconst 0, 1) := by decide +kernel
theorem dJ0_getBytes_840e7_33 : decode cJ0_getBytes_840e7 33 = .ok (.aload_n 1, 1) := by decide +kernel
theorem dJ0_getBytes_840e7_34 : decode cJ0_getBytes_840e7 34 = .ok (.iload_n 2, 1) := by decide +kernel
theorem dJ0_getBytes_840e7_35 : decode cJ0_getBytes_840e7 35 = .ok (.aload_n 0, 1) := by decide +kernel
theorem dJ0_getBytes_840e7_36 : decode cJ0_getBytes_840e7 36 = .ok (.getfield 9, 3) := by decide +kernel
theorem dJ0_getBytes_840e7_39 : decode cJ0_getBytes_840e7 39 = .ok (.arraylength, 1) := by decide +kernel
theorem dJ0_getBytes_840e7_40 : decode cJ0_getBytes_840e7 40 = .ok (.invokestatic 106, 3) := by decide +kernel
theorem dJ0_getBytes_840e7_43 : decode cJ0_getBytes_840e7 43 = .ok (.return_, 1) := by decide +kernel
theorem dJ0_length_8abf5_0 : decode cJ0_length_8abf5 0 = .ok (.aload_n 0, 1) := by decide +kernel
theorem dJ0_length_8abf5_1 : decode cJ0_length_8abf5 1 = .ok (.getfield 9, 3) := by decide +kernel
theorem dJ0_length_8abf5_4 : decode cJ0_length_8abf5 4 = .ok (.arraylength, 1) := by decide +kernel
theorem dJ0_length_8abf5_5 : decode cJ0_length_8abf5 5 = .ok (.aload_n 0, 1) := by decide +kernel
theorem dJ0_length_8abf5_6 : decode cJ0_length_8abf5 6 = .ok (.invokevirtual 335, 3) := by decide +kernel
theorem dJ0_length_8abf5_9 : decode cJ0_length_8abf5 9 = .ok (.ishr, 1) := by decide +kernel
theorem dJ0_length_8abf5_10 : decode cJ0_length_8abf5 10 = .ok (.ireturn, 1) := by decide +kernel
theorem dJ1_canEncode_9a6ad_0 : decode cJ1_canEncode_9a6ad 0 = .ok (.iload_n 0, 1) := by decide +kernel
theorem dJ1_canEncode_9a6ad_1 : decode cJ1_canEncode_9a6ad 1 = .ok (.ifCond .lt 14, 3) := by decide +kernel
theorem dJ1_canEncode_9a6ad_4 : decode cJ1_canEncode_9a6ad 4 = .ok (.iload_n 0, 1) := by decide +kernel
theorem dJ1_canEncode_9a6ad_5 : decode cJ1_canEncode_9a6ad 5 = .ok (.sipush 255, 3) := by decide +kernel
theorem dJ1_canEncode_9a6ad_8 : decode cJ1_canEncode_9a6ad 8 = .ok (.if_icmp .gt 7, 3) := by decide +kernel
theorem dJ1_canEncode_9a6ad_11 : decode cJ1_canEncode_9a6ad 11 = .ok (.iconst 1, 1) := by decide +kernel
theorem dJ1_canEncode_9a6ad_12 : decode cJ1_canEncode_9a6ad 12 = .ok (.goto 4, 3) := by decide +kernel
theorem dJ1_canEncode_9a6ad_15 : decode cJ1_canEncode_9a6ad 15 = .ok (.iconst 0, 1) := by decide +kernel
theorem dJ1_canEncode_9a6ad_16 : decode cJ1_canEncode_9a6ad 16 = .ok (.ireturn, 1) := by decide +kernel
theorem dJ1_indexOfChar_4cfef_0 : decode cJ1_indexOfChar_4cfef 0 = .ok (.iload_n 1, 1) := by decide +kernel
theorem dJ1_indexOfChar_4cfef_1 : decode cJ1_indexOfChar_4cfef 1 = .ok (.i2b, 1) := by decide +kernel
theorem dJ1_indexOfChar_4cfef_2 : decode cJ1_indexOfChar_4cfef 2 = .ok (.istore 4, 2) := by decide +kernel
theorem dJ1_indexOfChar_4cfef_4 : decode cJ1_indexOfChar_4cfef 4 = .ok (.iload_n 2, 1) := by decide +kernel
theorem dJ1_indexOfChar_4cfef_5 : decode cJ1_indexOfChar_4cfef 5 = .ok (.istore 5, 2) := by decide +kernel
theorem dJ1_indexOfChar_4cfef_7 : decode cJ1_indexOfChar_4cfef 7 = .ok (.iload 5, 2) := by decide +kernel
theorem dJ1_indexOfChar_4cfef_9 : decode cJ1_indexOfChar_4cfef 9 = .ok (.iload_n 3, 1) := by decide +kernel
theorem dJ1_indexOfChar_4cfef_10 : decode cJ1_indexOfChar_4cfef 10 = .ok (.if_icmp .ge 21, 3) := by decide +kernel
theorem dJ1_indexOfChar_4cfef_13 : decode cJ1_indexOfChar_4cfef 13 = .ok (.aload_n 0, 1) := by decide +kernel
theorem dJ1_indexOfChar_4cfef_14 : decode cJ1_indexOfChar_4cfef 14 = .ok (.iload 5, 2) := by decide +kernel
theorem dJ1_indexOfChar_4cfef_16 : decode cJ1_indexOfChar_4cfef 16 = .ok (.baload, 1) := by decide +kernel
theorem dJ1_indexOfChar_4cfef_17 : decode cJ1_indexOfChar_4cfef 17 = .ok (.iload 4, 2) := by decide +kernel
theorem dJ1_indexOfChar_4cfef_19 : decode cJ1_indexOfChar_4cfef 19 = .ok (.if_icmp .ne 6, 3) := by decide +kernel
theorem dJ1_indexOfChar_4cfef_22 : decode cJ1_indexOfChar_4cfef 22 = .ok (.iload 5, 2) := by decide +kernel
theorem dJ1_indexOfChar_4cfef_24 : decode cJ1_indexOfChar_4cfef 24 = .ok (.ireturn, 1) := by decide +kernel
theorem dJ1_indexOfChar_4cfef_25 : decode cJ1_indexOfChar_4cfef 25 = .ok (.iinc 5 1, 3) := by decide +kernel
theorem dJ1_indexOfChar_4cfef_28 : decode cJ1_indexOfChar_4cfef 28 = .ok (.goto (-21), 3) := by decide +kernel
theorem dJ1_indexOfChar_4cfef_31 : decode cJ1_indexOfChar_4cfef 31 = .ok (.iconst (-1), 1) := by decide +kernel
theorem dJ1_indexOfChar_4cfef_32 : decode cJ1_indexOfChar_4cfef 32 = .ok (.ireturn, 1) := by decide +kernel
theorem dJ1_indexOf_4cfef_0 : decode cJ1_indexOf_4cfef 0 = .ok (.iload_n 1, 1) := by decide +kernel
theorem dJ1_indexOf_4cfef_1 : decode cJ1_indexOf_4cfef 1 = .ok (.invokestatic 88, 3) := by decide +kernel
theorem dJ1_indexOf_4cfef_4 : decode cJ1_indexOf_4cfef 4 = .ok (.ifCond .ne 5, 3) := by decide +kernel
theorem dJ1_indexOf_4cfef_7 : decode cJ1_indexOf_4cfef 7 = .ok (.iconst (-1), 1) := by decide +kernel
theorem dJ1_indexOf_4cfef_8 : decode cJ1_indexOf_4cfef 8 = .ok (.ireturn, 1) := by decide +kernel
theorem dJ1_indexOf_4cfef_9 : decode cJ1_indexOf_4cfef 9 = .ok (.iload_n 2, 1) := by decide +kernel
theorem dJ1_indexOf_4cfef_10 : decode cJ1_indexOf_4cfef 10 = .ok (.iconst 0, 1) := by decide +kernel
theorem dJ1_indexOf_4cfef_11 : decode cJ1_indexOf_4cfef 11 = .ok (.invokestatic 92, 3) := by decide +kernel
theorem dJ1_indexOf_4cfef_14 : decode cJ1_indexOf_4cfef 14 = .ok (.istore_n 2, 1) := by decide +kernel
theorem dJ1_indexOf_4cfef_15 : decode cJ1_indexOf_4cfef 15 = .ok (.iload_n 3, 1) := by decide +kernel
theorem dJ1_indexOf_4cfef_16 : decode cJ1_indexOf_4cfef 16 = .ok (.aload_n 0, 1) := by decide +kernel
theorem dJ1_indexOf_4cfef_17 : decode cJ1_indexOf_4cfef 17 = .ok (.arraylength, 1) := by decide +kernel
theorem dJ1_indexOf_4cfef_18 : decode cJ1_indexOf_4cfef 18 = .ok (.invokestatic 38, 3) := by decide +kernel
theorem dJ1_indexOf_4cfef_21 : decode cJ1_indexOf_4cfef 21 = .ok (.istore_n 3, 1) := by decide +kernel
theorem dJ1_indexOf_4cfef_22 : decode cJ1_indexOf_4cfef 22 = .ok (.iload_n 2, 1) := by decide +kernel
theorem dJ1_indexOf_4cfef_23 : decode cJ1_indexOf_4cfef 23 = .ok (.iload_n 3, 1) := by decide +kernel
theorem dJ1_indexOf_4cfef_24 : decode cJ1_indexOf_4cfef 24 = .ok (.if_icmp .lt 5, 3) := by decide +kernel
theorem dJ1_indexOf_4cfef_27 : decode cJ1_indexOf_4cfef 27 = .ok (.iconst (-1), 1) := by decide +kernel
theorem dJ1_indexOf_4cfef_28 : decode cJ1_indexOf_4cfef 28 = .ok (.ireturn, 1) := by decide +kernel
theorem dJ1_indexOf_4cfef_29 : decode cJ1_indexOf_4cfef 29 = .ok (.aload_n 0, 1) := by decide +kernel
theorem dJ1_indexOf_4cfef_30 : decode cJ1_indexOf_4cfef 30 = .ok (.iload_n 1, 1) := by decide +kernel
theorem dJ1_indexOf_4cfef_31 : decode cJ1_indexOf_4cfef 31 = .ok (.iload_n 2, 1) := by decide +kernel
theorem dJ1_indexOf_4cfef_32 : decode cJ1_indexOf_4cfef 32 = .ok (.iload_n 3, 1) := by decide +kernel
theorem dJ1_indexOf_4cfef_33 : decode cJ1_indexOf_4cfef 33 = .ok (.invokestatic 95, 3) := by decide +kernel
theorem dJ1_indexOf_4cfef_36 : decode cJ1_indexOf_4cfef 36 = .ok (.ireturn, 1) := by decide +kernel
theorem dJ2_checkBoundsBeginEnd_d044e_0 : decode cJ2_checkBoundsBeginEnd_d044e 0 = .ok (.iload_n 0, 1) := by decide +kernel
theorem dJ2_checkBoundsBeginEnd_d044e_1 : decode cJ2_checkBoundsBeginEnd_d044e 1 = .ok (.iload_n 1, 1) := by decide +kernel
theorem dJ2_checkBoundsBeginEnd_d044e_2 : decode cJ2_checkBoundsBeginEnd_d044e 2 = .ok (.aload_n 2, 1) := by decide +kernel
theorem dJ2_checkBoundsBeginEnd_d044e_3 : decode cJ2_checkBoundsBeginEnd_d044e 3 = .ok (.invokestatic 48, 3) := by decide +kernel
theorem dJ2_checkBoundsBeginEnd_d044e_6 : decode cJ2_checkBoundsBeginEnd_d044e 6 = .ok (.invokestatic 241, 3) := by decide +kernel
theorem dJ2_checkBoundsBeginEnd_d044e_9 : decode cJ2_checkBoundsBeginEnd_d044e 9 = .ok (.return_, 1) := by decide +kernel
theorem dJ2_indexOfCharUnsafe_4cfef_0 : decode cJ2_indexOfCharUnsafe_4cfef 0 = .ok (.iload_n 2, 1) := by decide +kernel
theorem dJ2_indexOfCharUnsafe_4cfef_1 : decode cJ2_indexOfCharUnsafe_4cfef 1 = .ok (.istore 4, 2) := by decide +kernel
theorem dJ2_indexOfCharUnsafe_4cfef_3 : decode cJ2_indexOfCharUnsafe_4cfef 3 = .ok (.iload 4, 2) := by decide +kernel
theorem dJ2_indexOfCharUnsafe_4cfef_5 : decode cJ2_indexOfCharUnsafe_4cfef 5 = .ok (.iload_n 3, 1) := by decide +kernel
theorem dJ2_indexOfCharUnsafe_4cfef_6 : decode cJ2_indexOfCharUnsafe_4cfef 6 = .ok (.if_icmp .ge 22, 3) := by decide +kernel
theorem dJ2_indexOfCharUnsafe_4cfef_9 : decode cJ2_indexOfCharUnsafe_4cfef 9 = .ok (.aload_n 0, 1) := by decide +kernel
theorem dJ2_indexOfCharUnsafe_4cfef_10 : decode cJ2_indexOfCharUnsafe_4cfef 10 = .ok (.iload 4, 2) := by decide +kernel
theorem dJ2_indexOfCharUnsafe_4cfef_12 : decode cJ2_indexOfCharUnsafe_4cfef 12 = .ok (.invokestatic 71, 3) := by decide +kernel
theorem dJ2_indexOfCharUnsafe_4cfef_15 : decode cJ2_indexOfCharUnsafe_4cfef 15 = .ok (.iload_n 1, 1) := by decide +kernel
theorem dJ2_indexOfCharUnsafe_4cfef_16 : decode cJ2_indexOfCharUnsafe_4cfef 16 = .ok (.if_icmp .ne 6, 3) := by decide +kernel
theorem dJ2_indexOfCharUnsafe_4cfef_19 : decode cJ2_indexOfCharUnsafe_4cfef 19 = .ok (.iload 4, 2) := by decide +kernel
theorem dJ2_indexOfCharUnsafe_4cfef_21 : decode cJ2_indexOfCharUnsafe_4cfef 21 = .ok (.ireturn, 1) := by decide +kernel
theorem dJ2_indexOfCharUnsafe_4cfef_22 : decode cJ2_indexOfCharUnsafe_4cfef 22 = .ok (.iinc 4 1, 3) := by decide +kernel
theorem dJ2_indexOfCharUnsafe_4cfef_25 : decode cJ2_indexOfCharUnsafe_4cfef 25 = .ok (.goto (-22), 3) := by decide +kernel
theorem dJ2_indexOfCharUnsafe_4cfef_28 : decode cJ2_indexOfCharUnsafe_4cfef 28 = .ok (.iconst (-1), 1) := by decide +kernel
theorem dJ2_indexOfCharUnsafe_4cfef_29 : decode cJ2_indexOfCharUnsafe_4cfef 29 = .ok (.ireturn, 1) := by decide +kernel
theorem dJ2_indexOfChar_4cfef_0 : decode cJ2_indexOfChar_4cfef 0 = .ok (.iload_n 2, 1) := by decide +kernel
theorem dJ2_indexOfChar_4cfef_1 : decode cJ2_indexOfChar_4cfef 1 = .ok (.iload_n 3, 1) := by decide +kernel
theorem dJ2_indexOfChar_4cfef_2 : decode cJ2_indexOfChar_4cfef 2 = .ok (.aload_n 0, 1) := by decide +kernel
theorem dJ2_indexOfChar_4cfef_3 : decode cJ2_indexOfChar_4cfef 3 = .ok (.invokestatic 96, 3) := by decide +kernel
theorem dJ2_indexOfChar_4cfef_6 : decode cJ2_indexOfChar_4cfef 6 = .ok (.aload_n 0, 1) := by decide +kernel
theorem dJ2_indexOfChar_4cfef_7 : decode cJ2_indexOfChar_4cfef 7 = .ok (.iload_n 1, 1) := by decide +kernel
theorem dJ2_indexOfChar_4cfef_8 : decode cJ2_indexOfChar_4cfef 8 = .ok (.iload_n 2, 1) := by decide +kernel
theorem dJ2_indexOfChar_4cfef_9 : decode cJ2_indexOfChar_4cfef 9 = .ok (.iload_n 3, 1) := by decide +kernel
theorem dJ2_indexOfChar_4cfef_10 : decode cJ2_indexOfChar_4cfef 10 = .ok (.invokestatic 244, 3) := by decide +kernel
theorem dJ2_indexOfChar_4cfef_13 : decode cJ2_indexOfChar_4cfef 13 = .ok (.ireturn, 1) := by decide +kernel
theorem dJ11_highSurrogate_5068e_0 : decode cJ11_highSurrogate_5068e 0 = .ok (.iload_n 0, 1) := by decide +kernel
theorem dJ11_highSurrogate_5068e_1 : decode cJ11_highSurrogate_5068e 1 = .ok (.bipush 10, 2) := by decide +kernel
theorem dJ11_highSurrogate_5068e_3 : decode cJ11_highSurrogate_5068e 3 = .ok (.iushr, 1) := by decide +kernel
theorem dJ11_highSurrogate_5068e_4 : decode cJ11_highSurrogate_5068e 4 = .ok (.ldc 110, 2) := by decide +kernel
theorem dJ11_highSurrogate_5068e_6 : decode cJ11_highSurrogate_5068e 6 = .ok (.iadd, 1) := by decide +kernel
theorem dJ11_highSurrogate_5068e_7 : decode cJ11_highSurrogate_5068e 7 = .ok (.i2c, 1) := by decide +kernel
theorem dJ11_highSurrogate_5068e_8 : decode cJ11_highSurrogate_5068e 8 = .ok (.ireturn, 1) := by decide +kernel
theorem dJ11_isValidCodePoint_9a6ad_0 : decode cJ11_isValidCodePoint_9a6ad 0 = .ok (.iload_n 0, 1) := by decide +kernel
theorem dJ11_isValidCodePoint_9a6ad_1 : decode cJ11_isValidCodePoint_9a6ad 1 = .ok (.bipush 16, 2) := by decide +kernel
theorem dJ11_isValidCodePoint_9a6ad_3 : decode cJ11_isValidCodePoint_9a6ad 3 = .ok (.iushr, 1) := by decide +kernel
theorem dJ11_isValidCodePoint_9a6ad_4 : decode cJ11_isValidCodePoint_9a6ad 4 = .ok (.istore_n 1, 1) := by decide +kernel
theorem dJ11_isValidCodePoint_9a6ad_5 : decode cJ11_isValidCodePoint_9a6ad 5 = .ok (.iload_n 1, 1) := by decide +kernel
theorem dJ11_isValidCodePoint_9a6ad_6 : decode cJ11_isValidCodePoint_9a6ad 6 = .ok (.bipush 17, 2) := by decide +kernel
theorem dJ11_isValidCodePoint_9a6ad_8 : decode cJ11_isValidCodePoint_9a6ad 8 = .ok (.if_icmp .ge 7, 3) := by decide +kernel
theorem dJ11_isValidCodePoint_9a6ad_11 : decode cJ11_isValidCodePoint_9a6ad 11 = .ok (.iconst 1, 1) := by decide +kernel
theorem dJ11_isValidCodePoint_9a6ad_12 : decode cJ11_isValidCodePoint_9a6ad 12 = .ok (.goto 4, 3) := by decide +kernel
theorem dJ11_isValidCodePoint_9a6ad_15 : decode cJ11_isValidCodePoint_9a6ad 15 = .ok (.iconst 0, 1) := by decide +kernel
theorem dJ11_isValidCodePoint_9a6ad_16 : decode cJ11_isValidCodePoint_9a6ad 16 = .ok (.ireturn, 1) := by decide +kernel
theorem dJ11_lowSurrogate_5068e_0 : decode cJ11_lowSurrogate_5068e 0 = .ok (.iload_n 0, 1) := by decide +kernel
theorem dJ11_lowSurrogate_5068e_1 : decode cJ11_lowSurrogate_5068e 1 = .ok (.sipush 1023, 3) := by decide +kernel
theorem dJ11_lowSurrogate_5068e_4 : decode cJ11_lowSurrogate_5068e 4 = .ok (.iand, 1) := by decide +kernel
theorem dJ11_lowSurrogate_5068e_5 : decode cJ11_lowSurrogate_5068e 5 = .ok (.ldc 76, 2) := by decide +kernel
theorem dJ11_lowSurrogate_5068e_7 : decode cJ11_lowSurrogate_5068e 7 = .ok (.iadd, 1) := by decide +kernel
theorem dJ11_lowSurrogate_5068e_8 : decode cJ11_lowSurrogate_5068e 8 = .ok (.i2c, 1) := by decide +kernel
theorem dJ11_lowSurrogate_5068e_9 : decode cJ11_lowSurrogate_5068e 9 = .ok (.ireturn, 1) := by decide +kernel
theorem dJ2_indexOfSupplementary_4cfef_0 : decode cJ2_indexOfSupplementary_4cfef 0 = .ok (.iload_n 1, 1) := by decide +kernel
theorem dJ2_indexOfSupplementary_4cfef_1 : decode cJ2_indexOfSupplementary_4cfef 1 = .ok (.invokestatic 164, 3) := by decide +kernel
theorem dJ2_indexOfSupplementary_4cfef_4 : decode cJ2_indexOfSupplementary_4cfef 4 = .ok (.ifCond .eq 65, 3) := by decide +kernel
theorem dJ2_indexOfSupplementary_4cfef_7 : decode cJ2_indexOfSupplementary_4cfef 7 = .ok (.iload_n 1, 1) := by decide +kernel
theorem dJ2_indexOfSupplementary_4cfef_8 : decode cJ2_indexOfSupplementary_4cfef 8 = .ok (.invokestatic 157, 3) := by decide +kernel
theorem dJ2_indexOfSupplementary_4cfef_11 : decode cJ2_indexOfSupplementary_4cfef 11 = .ok (.istore 4, 2) := by decide +kernel
theorem dJ2_indexOfSupplementary_4cfef_13 : decode cJ2_indexOfSupplementary_4cfef 13 = .ok (.iload_n 1, 1) := by decide +kernel
theorem dJ2_indexOfSupplementary_4cfef_14 : decode cJ2_indexOfSupplementary_4cfef 14 = .ok (.invokestatic 161, 3) := by decide +kernel
theorem dJ2_indexOfSupplementary_4cfef_17 : decode cJ2_indexOfSupplementary_4cfef 17 = .ok (.istore 5, 2) := by decide +kernel
theorem dJ2_indexOfSupplementary_4cfef_19 : decode cJ2_indexOfSupplementary_4cfef 19 = .ok (.iload_n 2, 1) := by decide +kernel
theorem dJ2_indexOfSupplementary_4cfef_20 : decode cJ2_indexOfSupplementary_4cfef 20 = .ok (.iload_n 3, 1) := by decide +kernel
theorem dJ2_indexOfSupplementary_4cfef_21 : decode cJ2_indexOfSupplementary_4cfef 21 = .ok (.aload_n 0, 1) := by decide +kernel
theorem dJ2_indexOfSupplementary_4cfef_22 : decode cJ2_indexOfSupplementary_4cfef 22 = .ok (.invokestatic 96, 3) := by decide +kernel
theorem dJ2_indexOfSupplementary_4cfef_25 : decode cJ2_indexOfSupplementary_4cfef 25 = .ok (.iload_n 2, 1) := by decide +kernel
theorem dJ2_indexOfSupplementary_4cfef_26 : decode cJ2_indexOfSupplementary_4cfef 26 = .ok (.istore 6, 2) := by decide +kernel
theorem dJ2_indexOfSupplementary_4cfef_28 : decode cJ2_indexOfSupplementary_4cfef 28 = .ok (.iload 6, 2) := by decide +kernel
theorem dJ2_indexOfSupplementary_4cfef_30 : decode cJ2_indexOfSupplementary_4cfef 30 = .ok (.iload_n 3, 1) := by decide +kernel
theorem dJ2_indexOfSupplementary_4cfef_31 : decode cJ2_indexOfSupplementary_4cfef 31 = .ok (.iconst 1, 1) := by decide +kernel
theorem dJ2_indexOfSupplementary_4cfef_32 : decode cJ2_indexOfSupplementary_4cfef 32 = .ok (.isub, 1) := by decide +kernel
theorem dJ2_indexOfSupplementary_4cfef_33 : decode cJ2_indexOfSupplementary_4cfef 33 = .ok (.if_icmp .ge 36, 3) := by decide +kernel
theorem dJ2_indexOfSupplementary_4cfef_36 : decode cJ2_indexOfSupplementary_4cfef 36 = .ok (.aload_n 0, 1) := by decide +kernel
theorem dJ2_indexOfSupplementary_4cfef_37 : decode cJ2_indexOfSupplementary_4cfef 37 = .ok (.iload 6, 2) := by decide +kernel
theorem dJ2_indexOfSupplementary_4cfef_39 : decode cJ2_indexOfSupplementary_4cfef 39 = .ok (.invokestatic 71, 3) := by decide +kernel
theorem dJ2_indexOfSupplementary_4cfef_42 : decode cJ2_indexOfSupplementary_4cfef 42 = .ok (.iload 4, 2) := by decide +kernel
theorem dJ2_indexOfSupplementary_4cfef_44 : decode cJ2_indexOfSupplementary_4cfef 44 = .ok (.if_icmp .ne 19, 3) := by decide +kernel
theorem dJ2_indexOfSupplementary_4cfef_47 : decode cJ2_indexOfSupplementary_4cfef 47 = .ok (.aload_n 0, 1) := by decide +kernel
theorem dJ2_indexOfSupplementary_4cfef_48 : decode cJ2_indexOfSupplementary_4cfef 48 = .ok (.iload 6, 2) := by decide +kernel
theorem dJ2_indexOfSupplementary_4cfef_50 : decode cJ2_indexOfSupplementary_4cfef 50 = .ok (.iconst 1, 1) := by decide +kernel
theorem dJ2_indexOfSupplementary_4cfef_51 : decode cJ2_indexOfSupplementary_4cfef 51 = .ok (.iadd, 1) := by decide +kernel
theorem dJ2_indexOfSupplementary_4cfef_52 : decode cJ2_indexOfSupplementary_4cfef 52 = .ok (.invokestatic 71, 3) := by decide +kernel
theorem dJ2_indexOfSupplementary_4cfef_55 : decode cJ2_indexOfSupplementary_4cfef 55 = .ok (.iload 5, 2) := by decide +kernel
theorem dJ2_indexOfSupplementary_4cfef_57 : decode cJ2_indexOfSupplementary_4cfef 57 = .ok (.if_icmp .ne 6, 3) := by decide +kernel
theorem dJ2_indexOfSupplementary_4cfef_60 : decode cJ2_indexOfSupplementary_4cfef 60 = .ok (.iload 6, 2) := by decide +kernel
theorem dJ2_indexOfSupplementary_4cfef_62 : decode cJ2_indexOfSupplementary_4cfef 62 = .ok (.ireturn, 1) := by decide +kernel
theorem dJ2_indexOfSupplementary_4cfef_63 : decode cJ2_indexOfSupplementary_4cfef 63 = .ok (.iinc 6 1, 3) := by decide +kernel
theorem dJ2_indexOfSupplementary_4cfef_66 : decode cJ2_indexOfSupplementary_4cfef 66 = .ok (.goto (-38), 3) := by decide +kernel
theorem dJ2_indexOfSupplementary_4cfef_69 : decode cJ2_indexOfSupplementary_4cfef 69 = .ok (.iconst (-1), 1) := by decide +kernel
theorem dJ2_indexOfSupplementary_4cfef_70 : decode cJ2_indexOfSupplementary_4cfef 70 = .ok (.ireturn, 1) := by decide +kernel
theorem dJ2_indexOf_4cfef_0 : decode cJ2_indexOf_4cfef 0 = .ok (.iload_n 2, 1) := by decide +kernel
theorem dJ2_indexOf_4cfef_1 : decode cJ2_indexOf_4cfef 1 = .ok (.iconst 0, 1) := by decide +kernel
theorem dJ2_indexOf_4cfef_2 : decode cJ2_indexOf_4cfef 2 = .ok (.invokestatic 224, 3) := by decide +kernel
theorem dJ2_indexOf_4cfef_5 : decode cJ2_indexOf_4cfef 5 = .ok (.istore_n 2, 1) := by decide +kernel
theorem dJ2_indexOf_4cfef_6 : decode cJ2_indexOf_4cfef 6 = .ok (.iload_n 3, 1) := by decide +kernel
theorem dJ2_indexOf_4cfef_7 : decode cJ2_indexOf_4cfef 7 = .ok (.aload_n 0, 1) := by decide +kernel
theorem dJ2_indexOf_4cfef_8 : decode cJ2_indexOf_4cfef 8 = .ok (.arraylength, 1) := by decide +kernel
theorem dJ2_indexOf_4cfef_9 : decode cJ2_indexOf_4cfef 9 = .ok (.iconst 1, 1) := by decide +kernel
theorem dJ2_indexOf_4cfef_10 : decode cJ2_indexOf_4cfef 10 = .ok (.ishr, 1) := by decide +kernel
theorem dJ2_indexOf_4cfef_11 : decode cJ2_indexOf_4cfef 11 = .ok (.invokestatic 183, 3) := by decide +kernel
theorem dJ2_indexOf_4cfef_14 : decode cJ2_indexOf_4cfef 14 = .ok (.istore_n 3, 1) := by decide +kernel
theorem dJ2_indexOf_4cfef_15 : decode cJ2_indexOf_4cfef 15 = .ok (.iload_n 2, 1) := by decide +kernel
theorem dJ2_indexOf_4cfef_16 : decode cJ2_indexOf_4cfef 16 = .ok (.iload_n 3, 1) := by decide +kernel
theorem dJ2_indexOf_4cfef_17 : decode cJ2_indexOf_4cfef 17 = .ok (.if_icmp .lt 5, 3) := by decide +kernel
theorem dJ2_indexOf_4cfef_20 : decode cJ2_indexOf_4cfef 20 = .ok (.iconst (-1), 1) := by decide +kernel
theorem dJ2_indexOf_4cfef_21 : decode cJ2_indexOf_4cfef 21 = .ok (.ireturn, 1) := by decide +kernel
theorem dJ2_indexOf_4cfef_22 : decode cJ2_indexOf_4cfef 22 = .ok (.iload_n 1, 1) := by decide +kernel
theorem dJ2_indexOf_4cfef_23 : decode cJ2_indexOf_4cfef 23 = .ok (.ldc 227, 2) := by decide +kernel
theorem dJ2_indexOf_4cfef_25 : decode cJ2_indexOf_4cfef 25 = .ok (.if_icmp .ge 11, 3) := by decide +kernel
theorem dJ2_indexOf_4cfef_28 : decode cJ2_indexOf_4cfef 28 = .ok (.aload_n 0, 1) := by decide +kernel
theorem dJ2_indexOf_4cfef_29 : decode cJ2_indexOf_4cfef 29 = .ok (.iload_n 1, 1) := by decide +kernel
theorem dJ2_indexOf_4cfef_30 : decode cJ2_indexOf_4cfef 30 = .ok (.iload_n 2, 1) := by decide +kernel
theorem dJ2_indexOf_4cfef_31 : decode cJ2_indexOf_4cfef 31 = .ok (.iload_n 3, 1) := by decide +kernel
theorem dJ2_indexOf_4cfef_32 : decode cJ2_indexOf_4cfef 32 = .ok (.invokestatic 228, 3) := by decide +kernel
theorem dJ2_indexOf_4cfef_35 : decode cJ2_indexOf_4cfef 35 = .ok (.ireturn, 1) := by decide +kernel
theorem dJ2_indexOf_4cfef_36 : decode cJ2_indexOf_4cfef 36 = .ok (.aload_n 0, 1) := by decide +kernel
theorem dJ2_indexOf_4cfef_37 : decode cJ2_indexOf_4cfef 37 = .ok (.iload_n 1, 1) := by decide +kernel
theorem dJ2_indexOf_4cfef_38 : decode cJ2_indexOf_4cfef 38 = .ok (.iload_n 2, 1) := by decide +kernel
theorem dJ2_indexOf_4cfef_39 : decode cJ2_indexOf_4cfef 39 = .ok (.iload_n 3, 1) := by decide +kernel
theorem dJ2_indexOf_4cfef_40 : decode cJ2_indexOf_4cfef 40 = .ok (.invokestatic 232, 3) := by decide +kernel
theorem dJ2_indexOf_4cfef_43 : decode cJ2_indexOf_4cfef 43 = .ok (.ireturn, 1) := by decide +kernel
theorem dJ0_indexOf_7cf53_0 : decode cJ0_indexOf_7cf53 0 = .ok (.aload_n 0, 1) := by decide +kernel
theorem dJ0_indexOf_7cf53_1 : decode cJ0_indexOf_7cf53 1 = .ok (.invokevirtual 492, 3) := by decide +kernel
theorem dJ0_indexOf_7cf53_4 : decode cJ0_indexOf_7cf53 4 = .ok (.ifCond .eq 19, 3) := by decide +kernel
theorem dJ0_indexOf_7cf53_7 : decode cJ0_indexOf_7cf53 7 = .ok (.aload_n 0, 1) := by decide +kernel
theorem dJ0_indexOf_7cf53_8 : decode cJ0_indexOf_7cf53 8 = .ok (.getfield 9, 3) := by decide +kernel
theorem dJ0_indexOf_7cf53_11 : decode cJ0_indexOf_7cf53 11 = .ok (.iload_n 1, 1) := by decide +kernel
theorem dJ0_indexOf_7cf53_12 : decode cJ0_indexOf_7cf53 12 = .ok (.iload_n 2, 1) := by decide +kernel
theorem dJ0_indexOf_7cf53_13 : decode cJ0_indexOf_7cf53 13 = .ok (.aload_n 0, 1) := by decide +kernel
theorem dJ0_indexOf_7cf53_14 : decode cJ0_indexOf_7cf53 14 = .ok (.invokevirtual 505, 3) := by decide +kernel
theorem dJ0_indexOf_7cf53_17 : decode cJ0_indexOf_7cf53 17 = .ok (.invokestatic 637, 3) := by decide +kernel
theorem dJ0_indexOf_7cf53_20 : decode cJ0_indexOf_7cf53 20 = .ok (.goto 16, 3) := by decide +kernel
theorem dJ0_indexOf_7cf53_23 : decode cJ0_indexOf_7cf53 23 = .ok (.aload_n 0, 1) := by decide +kernel
theorem dJ0_indexOf_7cf53_24 : decode cJ0_indexOf_7cf53 24 = .ok (.getfield 9, 3) := by decide +kernel
theorem dJ0_indexOf_7cf53_27 : decode cJ0_indexOf_7cf53 27 = .ok (.iload_n 1, 1) := by decide +kernel
theorem dJ0_indexOf_7cf53_28 : decode cJ0_indexOf_7cf53 28 = .ok (.iload_n 2, 1) := by decide +kernel
theorem dJ0_indexOf_7cf53_29 : decode cJ0_indexOf_7cf53 29 = .ok (.aload_n 0, 1) := by decide +kernel
theorem dJ0_indexOf_7cf53_30 : decode cJ0_indexOf_7cf53 30 = .ok (.invokevirtual 505, 3) := by decide +kernel
theorem dJ0_indexOf_7cf53_33 : decode cJ0_indexOf_7cf53 33 = .ok (.invokestatic 640, 3) := by decide +kernel
theorem dJ0_indexOf_7cf53_36 : decode cJ0_indexOf_7cf53 36 = .ok (.ireturn, 1) := by decide +kernel
theorem dJ0_indexOf_0f7a4_0 : decode cJ0_indexOf_0f7a4 0 = .ok (.aload_n 0, 1) := by decide +kernel
theorem dJ0_indexOf_0f7a4_1 : decode cJ0_indexOf_0f7a4 1 = .ok (.iload_n 1, 1) := by decide +kernel
theorem dJ0_indexOf_0f7a4_2 : decode cJ0_indexOf_0f7a4 2 = .ok (.iconst 0, 1) := by decide +kernel
theorem dJ0_indexOf_0f7a4_3 : decode cJ0_indexOf_0f7a4 3 = .ok (.invokevirtual 633, 3) := by decide +kernel
theorem dJ0_indexOf_0f7a4_6 : decode cJ0_indexOf_0f7a4 6 = .ok (.ireturn, 1) := by decide +kernel
theorem dJ2_coderFromArrayLen_85cad_0 : decode cJ2_coderFromArrayLen_85cad 0 = .ok (.iload_n 1, 1) := by decide +kernel
theorem dJ2_coderFromArrayLen_85cad_1 : decode cJ2_coderFromArrayLen_85cad 1 = .ok (.aload_n 0, 1) := by decide +kernel
theorem dJ2_coderFromArrayLen_85cad_2 : decode cJ2_coderFromArrayLen_85cad 2 = .ok (.arraylength, 1) := by decide +kernel
theorem dJ2_coderFromArrayLen_85cad_3 : decode cJ2_coderFromArrayLen_85cad 3 = .ok (.isub, 1) := by decide +kernel
theorem dJ2_coderFromArrayLen_85cad_4 : decode cJ2_coderFromArrayLen_85cad 4 = .ok (.bipush 31, 2) := by decide +kernel
theorem dJ2_coderFromArrayLen_85cad_6 : decode cJ2_coderFromArrayLen_85cad 6 = .ok (.iushr, 1) := by decide +kernel
theorem dJ2_coderFromArrayLen_85cad_7 : decode cJ2_coderFromArrayLen_85cad 7 = .ok (.i2b, 1) := by decide +kernel
theorem dJ2_coderFromArrayLen_85cad_8 : decode cJ2_coderFromArrayLen_85cad 8 = .ok (.ireturn, 1) := by decide +kernel
theorem dJ2_compress_5af95_0 : decode cJ2_compress_5af95 0 = .ok (.iload_n 1, 1) := by decide +kernel
theorem dJ2_compress_5af95_1 : decode cJ2_compress_5af95 1 = .ok (.iload 4, 2) := by decide +kernel
theorem dJ2_compress_5af95_3 : decode cJ2_compress_5af95 3 = .ok (.aload_n 0, 1) := by decide +kernel
theorem dJ2_compress_5af95_4 : decode cJ2_compress_5af95 4 = .ok (.invokestatic 173, 3) := by decide +kernel
theorem dJ2_compress_5af95_7 : decode cJ2_compress_5af95 7 = .ok (.iconst 0, 1) := by decide +kernel
theorem dJ2_compress_5af95_8 : decode cJ2_compress_5af95 8 = .ok (.istore 5, 2) := by decide +kernel
theorem dJ2_compress_5af95_10 : decode cJ2_compress_5af95 10 = .ok (.iload 5, 2) := by decide +kernel
theorem dJ2_compress_5af95_12 : decode cJ2_compress_5af95 12 = .ok (.iload 4, 2) := by decide +kernel
theorem dJ2_compress_5af95_14 : decode cJ2_compress_5af95 14 = .ok (.if_icmp .ge 39, 3) := by decide +kernel
theorem dJ2_compress_5af95_17 : decode cJ2_compress_5af95 17 = .ok (.aload_n 0, 1) := by decide +kernel
theorem dJ2_compress_5af95_18 : decode cJ2_compress_5af95 18 = .ok (.iload_n 1, 1) := by decide +kernel
theorem dJ2_compress_5af95_19 : decode cJ2_compress_5af95 19 = .ok (.invokestatic 71, 3) := by decide +kernel
theorem dJ2_compress_5af95_22 : decode cJ2_compress_5af95 22 = .ok (.istore 6, 2) := by decide +kernel
theorem dJ2_compress_5af95_24 : decode cJ2_compress_5af95 24 = .ok (.iload 6, 2) := by decide +kernel
theorem dJ2_compress_5af95_26 : decode cJ2_compress_5af95 26 = .ok (.sipush 255, 3) := by decide +kernel
theorem dJ2_compress_5af95_29 : decode cJ2_compress_5af95 29 = .ok (.if_icmp .le 6, 3) := by decide +kernel
theorem dJ2_compress_5af95_32 : decode cJ2_compress_5af95 32 = .ok (.iload 5, 2) := by decide +kernel
theorem dJ2_compress_5af95_34 : decode cJ2_compress_5af95 34 = .ok (.ireturn, 1) := by decide +kernel
theorem dJ2_compress_5af95_35 : decode cJ2_compress_5af95 35 = .ok (.aload_n 2, 1) := by decide +kernel
theorem dJ2_compress_5af95_36 : decode cJ2_compress_5af95 36 = .ok (.iload_n 3, 1) := by decide +kernel
theorem dJ2_compress_5af95_37 : decode cJ2_compress_5af95 37 = .ok (.iload 6, 2) := by decide +kernel
theorem dJ2_compress_5af95_39 : decode cJ2_compress_5af95 39 = .ok (.i2b, 1) := by decide +kernel
theorem dJ2_compress_5af95_40 : decode cJ2_compress_5af95 40 = .ok (.bastore, 1) := by decide +kernel
theorem dJ2_compress_5af95_41 : decode cJ2_compress_5af95 41 = .ok (.iinc 1 1, 3) := by decide +kernel
theorem dJ2_compress_5af95_44 : decode cJ2_compress_5af95 44 = .ok (.iinc 3 1, 3) := by decide +kernel
theorem dJ2_compress_5af95_47 : decode cJ2_compress_5af95 47 = .ok (.iinc 5 1, 3) := by decide +kernel
theorem dJ2_compress_5af95_50 : decode cJ2_compress_5af95 50 = .ok (.goto (-40), 3) := by decide +kernel
theorem dJ2_compress_5af95_53 : decode cJ2_compress_5af95 53 = .ok (.iload 4, 2) := by decide +kernel
theorem dJ2_compress_5af95_55 : decode cJ2_compress_5af95 55 = .ok (.ireturn, 1) := by decide +kernel
theorem dJ2_newBytesLength_0f7a4_0 : decode cJ2_newBytesLength_0f7a4 0 = .ok (.iload_n 0, 1) := by decide +kernel
theorem dJ2_newBytesLength_0f7a4_1 : decode cJ2_newBytesLength_0f7a4 1 = .ok (.ifCond .ge 11, 3) := by decide +kernel
theorem dJ2_newBytesLength_0f7a4_4 : decode cJ2_newBytesLength_0f7a4 4 = .ok (.new 17, 3) := by decide +kernel
theorem dJ2_newBytesLength_0f7a4_7 : decode cJ2_newBytesLength_0f7a4 7 = .ok (.dup, 1) := by decide +kernel
theorem dJ2_newBytesLength_0f7a4_8 : decode cJ2_newBytesLength_0f7a4 8 = .ok (.invokespecial 19, 3) := by decide +kernel
theorem dJ2_newBytesLength_0f7a4_11 : decode cJ2_newBytesLength_0f7a4 11 = .ok (.athrow, 1) := by decide +kernel
theorem dJ2_newBytesLength_0f7a4_12 : decode cJ2_newBytesLength_0f7a4 12 = .ok (.iload_n 0, 1) := by decide +kernel
theorem dJ2_newBytesLength_0f7a4_13 : decode cJ2_newBytesLength_0f7a4 13 = .ok (.ldc 20, 2) := by decide +kernel
theorem dJ2_newBytesLength_0f7a4_15 : decode cJ2_newBytesLength_0f7a4 15 = .ok (.if_icmp .lt 40, 3) := by decide +kernel
theorem dJ2_newBytesLength_0f7a4_18 : decode cJ2_newBytesLength_0f7a4 18 = .ok (.new 21, 3) := by decide +kernel
theorem dJ2_newBytesLength_0f7a4_21 : decode cJ2_newBytesLength_0f7a4 21 = .ok (.dup, 1) := by decide +kernel
theorem dJ2_newBytesLength_0f7a4_22 : decode cJ2_newBytesLength_0f7a4 22 = .ok (.new 23, 3) := by decide +kernel
theorem dJ2_newBytesLength_0f7a4_25 : decode cJ2_newBytesLength_0f7a4 25 = .ok (.dup, 1) := by decide +kernel
theorem dJ2_newBytesLength_0f7a4_26 : decode cJ2_newBytesLength_0f7a4 26 = .ok (.invokespecial 25, 3) := by decide +kernel
theorem dJ2_newBytesLength_0f7a4_29 : decode cJ2_newBytesLength_0f7a4 29 = .ok (.ldc 26, 2) := by decide +kernel
theorem dJ2_newBytesLength_0f7a4_31 : decode cJ2_newBytesLength_0f7a4 31 = .ok (.invokevirtual 28, 3) := by decide +kernel
theorem dJ2_newBytesLength_0f7a4_34 : decode cJ2_newBytesLength_0f7a4 34 = .ok (.iload_n 0, 1) := by decide +kernel
theorem dJ2_newBytesLength_0f7a4_35 : decode cJ2_newBytesLength_0f7a4 35 = .ok (.invokevirtual 32, 3) := by decide +kernel
theorem dJ2_newBytesLength_0f7a4_38 : decode cJ2_newBytesLength_0f7a4 38 = .ok (.ldc 35, 2) := by decide +kernel
theorem dJ2_newBytesLength_0f7a4_40 : decode cJ2_newBytesLength_0f7a4 40 = .ok (.invokevirtual 28, 3) := by decide +kernel
theorem dJ2_newBytesLength_0f7a4_43 : decode cJ2_newBytesLength_0f7a4 43 = .ok (.ldc 20, 2) := by decide +kernel
theorem dJ2_newBytesLength_0f7a4_45 : decode cJ2_newBytesLength_0f7a4 45 = .ok (.invokevirtual 32, 3) := by decide +kernel
theorem dJ2_newBytesLength_0f7a4_48 : decode cJ2_newBytesLength_0f7a4 48 = .ok (.invokevirtual 37, 3) := by decide +kernel
theorem dJ2_newBytesLength_0f7a4_51 : decode cJ2_newBytesLength_0f7a4 51 = .ok (.invokespecial 41, 3) := by decide +kernel
theorem dJ2_newBytesLength_0f7a4_54 : decode cJ2_newBytesLength_0f7a4 54 = .ok (.athrow, 1) := by decide +kernel
theorem dJ2_newBytesLength_0f7a4_55 : decode cJ2_newBytesLength_0f7a4 55 = .ok (.iload_n 0, 1) := by decide +kernel
theorem dJ2_newBytesLength_0f7a4_56 : decode cJ2_newBytesLength_0f7a4 56 = .ok (.iconst 1, 1) := by decide +kernel
theorem dJ2_newBytesLength_0f7a4_57 : decode cJ2_newBytesLength_0f7a4 57 = .ok (.ishl, 1) := by decide +kernel
theorem dJ2_newBytesLength_0f7a4_58 : decode cJ2_newBytesLength_0f7a4 58 = .ok (.ireturn, 1) := by decide +kernel
theorem dJ2_putCharsAt_cd4e5_0 : decode cJ2_putCharsAt_cd4e5 0 = .ok (.iload_n 1, 1) := by decide +kernel
theorem dJ2_putCharsAt_cd4e5_1 : decode cJ2_putCharsAt_cd4e5 1 = .ok (.iconst 4, 1) := by decide +kernel
theorem dJ2_putCharsAt_cd4e5_2 : decode cJ2_putCharsAt_cd4e5 2 = .ok (.iadd, 1) := by decide +kernel
theorem dJ2_putCharsAt_cd4e5_3 : decode cJ2_putCharsAt_cd4e5 3 = .ok (.istore 6, 2) := by decide +kernel
theorem dJ2_putCharsAt_cd4e5_5 : decode cJ2_putCharsAt_cd4e5 5 = .ok (.iload_n 1, 1) := by decide +kernel
theorem dJ2_putCharsAt_cd4e5_6 : decode cJ2_putCharsAt_cd4e5 6 = .ok (.iload 6, 2) := by decide +kernel
theorem dJ2_putCharsAt_cd4e5_8 : decode cJ2_putCharsAt_cd4e5 8 = .ok (.aload_n 0, 1) := by decide +kernel
theorem dJ2_putCharsAt_cd4e5_9 : decode cJ2_putCharsAt_cd4e5 9 = .ok (.invokestatic 96, 3) := by decide +kernel
theorem dJ2_putCharsAt_cd4e5_12 : decode cJ2_putCharsAt_cd4e5 12 = .ok (.aload_n 0, 1) := by decide +kernel
theorem dJ2_putCharsAt_cd4e5_13 : decode cJ2_putCharsAt_cd4e5 13 = .ok (.iload_n 1, 1) := by decide +kernel
theorem dJ2_putCharsAt_cd4e5_14 : decode cJ2_putCharsAt_cd4e5 14 = .ok (.iinc 1 1, 3) := by decide +kernel
theorem dJ2_putCharsAt_cd4e5_17 : decode cJ2_putCharsAt_cd4e5 17 = .ok (.iload_n 2, 1) := by decide +kernel
theorem dJ2_putCharsAt_cd4e5_18 : decode cJ2_putCharsAt_cd4e5 18 = .ok (.invokestatic 111, 3) := by decide +kernel
theorem dJ2_putCharsAt_cd4e5_21 : decode cJ2_putCharsAt_cd4e5 21 = .ok (.aload_n 0, 1) := by decide +kernel
theorem dJ2_putCharsAt_cd4e5_22 : decode cJ2_putCharsAt_cd4e5 22 = .ok (.iload_n 1, 1) := by decide +kernel
theorem dJ2_putCharsAt_cd4e5_23 : decode cJ2_putCharsAt_cd4e5 23 = .ok (.iinc 1 1, 3) := by decide +kernel
theorem dJ2_putCharsAt_cd4e5_26 : decode cJ2_putCharsAt_cd4e5 26 = .ok (.iload_n 3, 1) := by decide +kernel
theorem dJ2_putCharsAt_cd4e5_27 : decode cJ2_putCharsAt_cd4e5 27 = .ok (.invokestatic 111, 3) := by decide +kernel
theorem dJ2_putCharsAt_cd4e5_30 : decode cJ2_putCharsAt_cd4e5 30 = .ok (.aload_n 0, 1) := by decide +kernel
theorem dJ2_putCharsAt_cd4e5_31 : decode cJ2_putCharsAt_cd4e5 31 = .ok (.iload_n 1, 1) := by decide +kernel
theorem dJ2_putCharsAt_cd4e5_32 : decode cJ2_putCharsAt_cd4e5 32 = .ok (.iinc 1 1, 3) := by decide +kernel
theorem dJ2_putCharsAt_cd4e5_35 : decode cJ2_putCharsAt_cd4e5 35 = .ok (.iload 4, 2) := by decide +kernel
theorem dJ2_putCharsAt_cd4e5_37 : decode cJ2_putCharsAt_cd4e5 37 = .ok (.invokestatic 111, 3) := by decide +kernel
theorem dJ2_putCharsAt_cd4e5_40 : decode cJ2_putCharsAt_cd4e5 40 = .ok (.aload_n 0, 1) := by decide +kernel
theorem dJ2_putCharsAt_cd4e5_41 : decode cJ2_putCharsAt_cd4e5 41 = .ok (.iload_n 1, 1) := by decide +kernel
theorem dJ2_putCharsAt_cd4e5_42 : decode cJ2_putCharsAt_cd4e5 42 = .ok (.iinc 1 1, 3) := by decide +kernel
theorem dJ2_putCharsAt_cd4e5_45 : decode cJ2_putCharsAt_cd4e5 45 = .ok (.iload 5, 2) := by decide +kernel
theorem dJ2_putCharsAt_cd4e5_47 : decode cJ2_putCharsAt_cd4e5 47 = .ok (.invokestatic 111, 3) := by decide +kernel
theorem dJ2_putCharsAt_cd4e5_50 : decode cJ2_putCharsAt_cd4e5 50 = .ok (.getstatic 44, 3) := by decide +kernel
theorem dJ2_putCharsAt_cd4e5_53 : decode cJ2_putCharsAt_cd4e5 53 = .ok (.ifCond .ne 17, 3) := by decide +kernel
theorem dJ2_putCharsAt_cd4e5_56 : decode cJ2_putCharsAt_cd4e5 56 = .ok (.iload_n 1, 1) := by decide +kernel
theorem dJ2_putCharsAt_cd4e5_57 : decode cJ2_putCharsAt_cd4e5 57 = .ok (.iload 6, 2) := by decide +kernel
theorem dJ2_putCharsAt_cd4e5_59 : decode cJ2_putCharsAt_cd4e5 59 = .ok (.if_icmp .eq 11, 3) := by decide +kernel
theorem dJ2_putCharsAt_cd4e5_62 : decode cJ2_putCharsAt_cd4e5 62 = .ok (.new 52, 3) := by decide +kernel
theorem dJ2_putCharsAt_cd4e5_65 : decode cJ2_putCharsAt_cd4e5 65 = .ok (.dup, 1) := by decide +kernel
theorem dJ2_putCharsAt_cd4e5_66 : decode cJ2_putCharsAt_cd4e5 66 = .ok (.invokespecial 66, 3) := by decide +kernel
theorem dJ2_putCharsAt_cd4e5_69 : decode cJ2_putCharsAt_cd4e5 69 = .ok (.athrow, 1) := by decide +kernel
theorem dJ2_putCharsAt_cd4e5_70 : decode cJ2_putCharsAt_cd4e5 70 = .ok (.iload 6, 2) := by decide +kernel
theorem dJ2_putCharsAt_cd4e5_72 : decode cJ2_putCharsAt_cd4e5 72 = .ok (.ireturn, 1) := by decide +kernel
def wp_J0_isLatin1_aae02_18 (D : wD) (post : Int32 → wS → Prop)  (S : wS) (t0 : Int32) : Prop :=
narrow .boolean (.int t0) = .int t0 ∧ post t0 S
def wp_J0_isLatin1_aae02_17 (D : wD) (post : Int32 → wS → Prop)  (S : wS) : Prop :=
wp_J0_isLatin1_aae02_18 D post S (0 : Int32)
def wp_J0_isLatin1_aae02_0 (D : wD) (post : Int32 → wS → Prop)  (S : wS) (a0 : Nat) : Prop :=
(((1 : Int32) = 0 → wp_J0_isLatin1_aae02_17 D post S) ∧
 (¬ (1 : Int32) = 0 → ((¬ (sI S a0 1) = 0 → wp_J0_isLatin1_aae02_17 D post S) ∧
 ((sI S a0 1) = 0 → wp_J0_isLatin1_aae02_18 D post S (1 : Int32)))))
abbrev r_J0_isLatin1_aae02 : Room := { frames := 0, cells := 0, slots := 0, locals := 0 }
def wp_J0_isLatin1_aae02 (D : wD) (post : Int32 → wS → Prop) (S : wS) (a0 : Nat) : Prop := wp_J0_isLatin1_aae02_0 D post S a0
set_option maxHeartbeats 4000000 in
set_option maxRecDepth 100000 in
theorem t_J0_isLatin1_aae02_18 {p : Program} {l : Launch} {e : Env} {s : State} {m : MethodId} {args : Array Value} {below : List Frame} {meth : Method} {c : Code} {D : wD} {cy : Nat → ClassId} {X : va_W} {A : Nat → Prop} {S0 : wS} {post : Int32 → wS → Prop} (F : CallFix p m c cJ0_isLatin1_aae02 1 s args wz_J0_isLatin1_aae02 RJ0) (hr : meth.sig.returnType = (some .boolean)) (hlocks : meth.locks = false) (hK : wK D cy A s) : ∀ {S : wS} {H : Heap} {locs : List Loc} {ls : Array Slot} {t0 : Int32}, wp_J0_isLatin1_aae02_18 D post S t0 → wO D cy X A s.heap S H locs → wX D S0 S → lv_has ls 1 [] → W p l e r_J0_isLatin1_aae02 s m args below meth c H locs 0 0 (MQ below (va_Qi (fun r S9 => wX D S0 S9 ∧ post r S9) (wB D cy X A) A) args s 0 0 A) (F0 m 18 ls [.int t0]) := by
  obtain ⟨hx, hb, hml, hown, hts⟩ := id F
  have hwg : ∀ w ∈ WG, w.before args s = true := fun w h => hts w (List.mem_cons_of_mem _ h)
  intro S H locs ls t0 hp hW hE hl
  unfold wp_J0_isLatin1_aae02_18 at hp
  exact w_zret hx hb hr hlocks hW hp.1 ⟨hE, hp.2⟩ dJ0_isLatin1_aae02_18
set_option maxHeartbeats 4000000 in
set_option maxRecDepth 100000 in
theorem t_J0_isLatin1_aae02_17 {p : Program} {l : Launch} {e : Env} {s : State} {m : MethodId} {args : Array Value} {below : List Frame} {meth : Method} {c : Code} {D : wD} {cy : Nat → ClassId} {X : va_W} {A : Nat → Prop} {S0 : wS} {post : Int32 → wS → Prop} (F : CallFix p m c cJ0_isLatin1_aae02 1 s args wz_J0_isLatin1_aae02 RJ0) (hr : meth.sig.returnType = (some .boolean)) (hlocks : meth.locks = false) (hK : wK D cy A s) : ∀ {S : wS} {H : Heap} {locs : List Loc} {ls : Array Slot}, wp_J0_isLatin1_aae02_17 D post S → wO D cy X A s.heap S H locs → wX D S0 S → lv_has ls 1 [] → W p l e r_J0_isLatin1_aae02 s m args below meth c H locs 0 0 (MQ below (va_Qi (fun r S9 => wX D S0 S9 ∧ post r S9) (wB D cy X A) A) args s 0 0 A) (F0 m 17 ls []) := by
  obtain ⟨hx, hb, hml, hown, hts⟩ := id F
  have hwg : ∀ w ∈ WG, w.before args s = true := fun w h => hts w (List.mem_cons_of_mem _ h)
  intro S H locs ls hp hW hE hl
  unfold wp_J0_isLatin1_aae02_17 at hp
  refine lv_iconst (v := 0) hx hb dJ0_isLatin1_aae02_17 (by decide) ?_
  exact t_J0_isLatin1_aae02_18 F hr hlocks hK hp hW hE (lv_sub hl [] rfl)
set_option maxHeartbeats 4000000 in
set_option maxRecDepth 100000 in
theorem t_J0_isLatin1_aae02_0 {p : Program} {l : Launch} {e : Env} {s : State} {m : MethodId} {args : Array Value} {below : List Frame} {meth : Method} {c : Code} {D : wD} {cy : Nat → ClassId} {X : va_W} {A : Nat → Prop} {S0 : wS} {post : Int32 → wS → Prop} (F : CallFix p m c cJ0_isLatin1_aae02 1 s args wz_J0_isLatin1_aae02 RJ0) (hr : meth.sig.returnType = (some .boolean)) (hlocks : meth.locks = false) (hK : wK D cy A s) : ∀ {S : wS} {H : Heap} {locs : List Loc} {ls : Array Slot} {a0 : Nat}, wp_J0_isLatin1_aae02_0 D post S a0 → wO D cy X A s.heap S H locs → wX D S0 S → lv_has ls 1 [(0, .ref a0)] → wM D S a0 → sK S a0 = 0 → W p l e r_J0_isLatin1_aae02 s m args below meth c H locs 0 0 (MQ below (va_Qi (fun r S9 => wX D S0 S9 ∧ post r S9) (wB D cy X A) A) args s 0 0 A) (F0 m 0 ls []) := by
  obtain ⟨hx, hb, hml, hown, hts⟩ := id F
  have hwg : ∀ w ∈ WG, w.before args s = true := fun w h => hts w (List.mem_cons_of_mem _ h)
  have i_0 : ∀ w ∈ u_ws RJ0 TJ0 4, w ∈ wz_J0_isLatin1_aae02 := fun w h => List.mem_cons_of_mem _ (wu_0 w h)
  have k_15 := hwg _ wf_RJ0_15
  intro S H locs ls a0 hp hW hE hl hL_a0 hK_a0
  unfold wp_J0_isLatin1_aae02_0 at hp
  refine w_staI F hK hW (show ("java/lang/String", "COMPACT_STRINGS", "Z", (1 : Int32)) ∈ wSi by decide +kernel) (hwg _ wf_RJ0_38) dJ0_isLatin1_aae02_0 ?_
  refine lv_if_eq (tgt := 17) hx hb dJ0_isLatin1_aae02_3 (by decide) (fun c_1 => ?_) (fun c_1 => ?_)
  · replace hp := hp.1 c_1
    exact t_J0_isLatin1_aae02_17 F hr hlocks hK hp hW hE (lv_sub hl [] rfl)
  · replace hp := hp.2 c_1
    refine lv_aload_n hx hb dJ0_isLatin1_aae02_6 rfl (lv_at hl 0 rfl) ?_
    refine w_get (k := 0) (f := 1) (T := TJ0) (v := .int (sI S a0 1)) F hK hW hL_a0 hK_a0 (by decide) rfl rfl (by decide) i_0 k_15 rfl dJ0_isLatin1_aae02_7 ?_
    refine lv_if_ne (tgt := 17) hx hb dJ0_isLatin1_aae02_10 (by decide) (fun c_2 => ?_) (fun c_2 => ?_)
    · replace hp := hp.1 c_2
      exact t_J0_isLatin1_aae02_17 F hr hlocks hK hp hW hE (lv_sub hl [] rfl)
    · replace hp := hp.2 c_2
      refine lv_iconst (v := 1) hx hb dJ0_isLatin1_aae02_13 (by decide) ?_
      refine lv_goto (tgt := 18) hx hb dJ0_isLatin1_aae02_14 (by decide) ?_
      exact t_J0_isLatin1_aae02_18 F hr hlocks hK hp hW hE (lv_sub hl [] rfl)
set_option maxHeartbeats 4000000 in
set_option maxRecDepth 100000 in
theorem c_J0_isLatin1_aae02 (l : Launch) {D : wD} {cy : Nat → ClassId} {X : va_W} {S0 : wS} {post : Int32 → wS → Prop} {a0 : Nat} (hL_a0 : wM D S0 a0) (hK_a0 : sK S0 a0 = 0) (hp : wp_J0_isLatin1_aae02 D post S0 a0) : mI D cy X l yJ0_isLatin1_aae02 wz_J0_isLatin1_aae02 r_J0_isLatin1_aae02 [.ref a0] S0 (fun r S9 => wX D S0 S9 ∧ post r S9) := by
  intro sz
  refine Met.ofW (cc := cJ0_isLatin1_aae02) (maxL := 1) (ret := (some .boolean)) (by decide) rfl ?_
  intro p e s m args below meth c s₁ B hml hv
  obtain ⟨rfl, hsz, hP, hK, hD0, hRO⟩ := hv
  have hts := atoms_spec (ws := wz_J0_isLatin1_aae02) B.pre
  have hown : s.vm.findClass RJ0 = some m.cls := findClass_of_methodNamed B.named
  subst hsz
  have hD := hD0.self (sz := s.heap.size)
  have F : CallFix p m c cJ0_isLatin1_aae02 1 s _ wz_J0_isLatin1_aae02 RJ0 := ⟨B.exec, B.bytes, hml, hown, hts⟩
  have hr := B.returns
  have hlocks := B.notSynchronized
  generalize hAe : va_A (wL cy X S0) s.heap.size = A at hD hK ⊢
  have hA : ∀ q, s.heap.size ≤ q → A q := fun q h => by rw [← hAe]; exact Or.inr h
  have hW : wO D cy X A s.heap S0 s.heap [] := ⟨hP, hD, va_S.rf, hA, hRO⟩
  have hl := lv_entry ([.ref a0]) (n := 1) (Nat.le_of_ble_eq_true rfl)
  rw [lg_entry_eq]
  generalize (lg_sl ([.ref a0]) ++ List.replicate (1 - (lg_sl ([.ref a0])).length) Slot.unset).toArray = ls at hl ⊢
  have hl : lv_has ls 1 [(0, .ref a0)] := hl
  unfold wp_J0_isLatin1_aae02 at hp
  exact t_J0_isLatin1_aae02_0 F hr hlocks hK hp hW wX.rf (lv_sub hl [0] rfl) hL_a0 hK_a0
def wp_J3_checkIndex_8e157_9 (D : wD) (post : Int32 → wS → Prop)  (S : wS) (x0 : Int32) (x1 : Int32) (g2 : Option Nat) : Prop :=
False
def wp_J3_checkIndex_8e157_0 (D : wD) (post : Int32 → wS → Prop)  (S : wS) (x0 : Int32) (x1 : Int32) (g2 : Option Nat) : Prop :=
((x0 < 0 → wp_J3_checkIndex_8e157_9 D post S x0 x1 g2) ∧
 (¬ x0 < 0 → ((x0 < x1 → post x0 S) ∧
 (¬ x0 < x1 → wp_J3_checkIndex_8e157_9 D post S x0 x1 g2))))
abbrev r_J3_checkIndex_8e157 : Room := { frames := 0, cells := 0, slots := 0, locals := 0 }
def wp_J3_checkIndex_8e157 (D : wD) (post : Int32 → wS → Prop) (S : wS) (x0 : Int32) (x1 : Int32) (g2 : Option Nat) : Prop := wp_J3_checkIndex_8e157_0 D post S x0 x1 g2
set_option maxHeartbeats 4000000 in
set_option maxRecDepth 100000 in
theorem t_J3_checkIndex_8e157_9 {p : Program} {l : Launch} {e : Env} {s : State} {m : MethodId} {args : Array Value} {below : List Frame} {meth : Method} {c : Code} {D : wD} {cy : Nat → ClassId} {X : va_W} {A : Nat → Prop} {S0 : wS} {post : Int32 → wS → Prop} (F : CallFix p m c cJ3_checkIndex_8e157 3 s args wz_J3_checkIndex_8e157 RJ3) (hr : meth.sig.returnType = (some .int)) (hlocks : meth.locks = false) (hK : wK D cy A s) : ∀ {S : wS} {H : Heap} {locs : List Loc} {ls : Array Slot} {x0 : Int32} {x1 : Int32} {g2 : Option Nat}, wp_J3_checkIndex_8e157_9 D post S x0 x1 g2 → wO D cy X A s.heap S H locs → wX D S0 S → lv_has ls 3 [(0, .int x0), (1, .int x1), (2, va_rf g2)] → W p l e r_J3_checkIndex_8e157 s m args below meth c H locs 0 0 (MQ below (va_Qi (fun r S9 => wX D S0 S9 ∧ post r S9) (wB D cy X A) A) args s 0 0 A) (F0 m 9 ls []) := by
  obtain ⟨hx, hb, hml, hown, hts⟩ := id F
  have hwg : ∀ w ∈ WG, w.before args s = true := fun w h => hts w (List.mem_cons_of_mem _ h)
  intro S H locs ls x0 x1 g2 hp hW hE hl
  unfold wp_J3_checkIndex_8e157_9 at hp
  exact hp.elim
set_option maxHeartbeats 4000000 in
set_option maxRecDepth 100000 in
theorem t_J3_checkIndex_8e157_0 {p : Program} {l : Launch} {e : Env} {s : State} {m : MethodId} {args : Array Value} {below : List Frame} {meth : Method} {c : Code} {D : wD} {cy : Nat → ClassId} {X : va_W} {A : Nat → Prop} {S0 : wS} {post : Int32 → wS → Prop} (F : CallFix p m c cJ3_checkIndex_8e157 3 s args wz_J3_checkIndex_8e157 RJ3) (hr : meth.sig.returnType = (some .int)) (hlocks : meth.locks = false) (hK : wK D cy A s) : ∀ {S : wS} {H : Heap} {locs : List Loc} {ls : Array Slot} {x0 : Int32} {x1 : Int32} {g2 : Option Nat}, wp_J3_checkIndex_8e157_0 D post S x0 x1 g2 → wO D cy X A s.heap S H locs → wX D S0 S → lv_has ls 3 [(0, .int x0), (1, .int x1), (2, va_rf g2)] → W p l e r_J3_checkIndex_8e157 s m args below meth c H locs 0 0 (MQ below (va_Qi (fun r S9 => wX D S0 S9 ∧ post r S9) (wB D cy X A) A) args s 0 0 A) (F0 m 0 ls []) := by
  obtain ⟨hx, hb, hml, hown, hts⟩ := id F
  have hwg : ∀ w ∈ WG, w.before args s = true := fun w h => hts w (List.mem_cons_of_mem _ h)
  intro S H locs ls x0 x1 g2 hp hW hE hl
  unfold wp_J3_checkIndex_8e157_0 at hp
  refine lv_iload_n hx hb dJ3_checkIndex_8e157_0 rfl (lv_at hl 0 rfl) ?_
  refine lv_if_lt (tgt := 9) hx hb dJ3_checkIndex_8e157_1 (by decide) (fun c_1 => ?_) (fun c_1 => ?_)
  · replace hp := hp.1 c_1
    exact t_J3_checkIndex_8e157_9 F hr hlocks hK hp hW hE (lv_sub hl [0, 1, 2] rfl)
  · replace hp := hp.2 c_1
    refine lv_iload_n hx hb dJ3_checkIndex_8e157_4 rfl (lv_at hl 0 rfl) ?_
    refine lv_iload_n hx hb dJ3_checkIndex_8e157_5 rfl (lv_at hl 1 rfl) ?_
    refine lv_icmp_lt (tgt := 16) hx hb dJ3_checkIndex_8e157_6 (by decide) (fun c_2 => ?_) (fun c_2 => ?_)
    · replace hp := hp.1 c_2
      refine lv_iload_n hx hb dJ3_checkIndex_8e157_16 rfl (lv_at hl 0 rfl) ?_
      exact w_iret hx hb hr hlocks hW ⟨hE, hp⟩ dJ3_checkIndex_8e157_17
    · replace hp := hp.2 c_2
      exact t_J3_checkIndex_8e157_9 F hr hlocks hK hp hW hE (lv_sub hl [0, 1, 2] rfl)
set_option maxHeartbeats 4000000 in
set_option maxRecDepth 100000 in
theorem c_J3_checkIndex_8e157 (l : Launch) {D : wD} {cy : Nat → ClassId} {X : va_W} {S0 : wS} {post : Int32 → wS → Prop} {x0 : Int32} {x1 : Int32} {g2 : Option Nat} (hp : wp_J3_checkIndex_8e157 D post S0 x0 x1 g2) : mI D cy X l yJ3_checkIndex_8e157 wz_J3_checkIndex_8e157 r_J3_checkIndex_8e157 [.int x0, .int x1, va_rf g2] S0 (fun r S9 => wX D S0 S9 ∧ post r S9) := by
  intro sz
  refine Met.ofW (cc := cJ3_checkIndex_8e157) (maxL := 3) (ret := (some .int)) (by decide) rfl ?_
  intro p e s m args below meth c s₁ B hml hv
  obtain ⟨rfl, hsz, hP, hK, hD0, hRO⟩ := hv
  have hts := atoms_spec (ws := wz_J3_checkIndex_8e157) B.pre
  have hown : s.vm.findClass RJ3 = some m.cls := findClass_of_methodNamed B.named
  subst hsz
  have hD := hD0.self (sz := s.heap.size)
  have F : CallFix p m c cJ3_checkIndex_8e157 3 s _ wz_J3_checkIndex_8e157 RJ3 := ⟨B.exec, B.bytes, hml, hown, hts⟩
  have hr := B.returns
  have hlocks := B.notSynchronized
  generalize hAe : va_A (wL cy X S0) s.heap.size = A at hD hK ⊢
  have hA : ∀ q, s.heap.size ≤ q → A q := fun q h => by rw [← hAe]; exact Or.inr h
  have hW : wO D cy X A s.heap S0 s.heap [] := ⟨hP, hD, va_S.rf, hA, hRO⟩
  have hl : lv_has ((lg_sl ([.int x0, .int x1, va_rf g2]) ++ List.replicate (3 - (lg_sl ([.int x0, .int x1, va_rf g2])).length) Slot.unset).toArray) 3 [(0, .int x0), (1, .int x1), (2, va_rf g2)] := by
    cases g2 <;> exact lv_entry _ (n := 3) (Nat.le_of_ble_eq_true rfl)
  rw [lg_entry_eq]
  generalize (lg_sl ([.int x0, .int x1, va_rf g2]) ++ List.replicate (3 - (lg_sl ([.int x0, .int x1, va_rf g2])).length) Slot.unset).toArray = ls at hl ⊢
  have hl : lv_has ls 3 [(0, .int x0), (1, .int x1), (2, va_rf g2)] := hl
  unfold wp_J3_checkIndex_8e157 at hp
  exact t_J3_checkIndex_8e157_0 F hr hlocks hK hp hW wX.rf (lv_sub hl [0, 1, 2] rfl)
def wp_J0_checkIndex_df160_0 (D : wD) (post : wS → Prop)  (S : wS) (x0 : Int32) (x1 : Int32) : Prop :=
∀ g_1 : Option Nat,
wp_J3_checkIndex_8e157 D (fun r_2 S_3 => 
post S_3) S x0 x1 g_1
abbrev r_J0_checkIndex_df160 : Room := { frames := 1, cells := 0, slots := 0, locals := 22 }
def wp_J0_checkIndex_df160 (D : wD) (post : wS → Prop) (S : wS) (x0 : Int32) (x1 : Int32) : Prop := wp_J0_checkIndex_df160_0 D post S x0 x1
set_option maxHeartbeats 4000000 in
set_option maxRecDepth 100000 in
theorem t_J0_checkIndex_df160_0 {p : Program} {l : Launch} {e : Env} {s : State} {m : MethodId} {args : Array Value} {below : List Frame} {meth : Method} {c : Code} {D : wD} {cy : Nat → ClassId} {X : va_W} {A : Nat → Prop} {S0 : wS} {post : wS → Prop} (F : CallFix p m c cJ0_checkIndex_df160 2 s args wz_J0_checkIndex_df160 RJ0) (hr : meth.sig.returnType = none) (hlocks : meth.locks = false) (hK : wK D cy A s) : ∀ {S : wS} {H : Heap} {locs : List Loc} {ls : Array Slot} {x0 : Int32} {x1 : Int32}, wp_J0_checkIndex_df160_0 D post S x0 x1 → wO D cy X A s.heap S H locs → wX D S0 S → lv_has ls 2 [(0, .int x0), (1, .int x1)] → W p l e r_J0_checkIndex_df160 s m args below meth c H locs 0 0 (MQ below (va_Qv (fun S9 => wX D S0 S9 ∧ post S9) (wB D cy X A) A) args s 0 0 A) (F0 m 0 ls []) := by
  obtain ⟨hx, hb, hml, hown, hts⟩ := id F
  have hwg : ∀ w ∈ WG, w.before args s = true := fun w h => hts w (List.mem_cons_of_mem _ h)
  intro S H locs ls x0 x1 hp hW hE hl
  unfold wp_J0_checkIndex_df160_0 at hp
  refine lv_iload_n hx hb dJ0_checkIndex_df160_0 rfl (lv_at hl 0 rfl) ?_
  refine lv_iload_n hx hb dJ0_checkIndex_df160_1 rfl (lv_at hl 1 rfl) ?_
  refine w_staQ F hK hW (hwg _ wf_RJ0_1053) dJ0_checkIndex_df160_2 (fun g_1 => ?_)
  replace hp := hp g_1
  refine w_callI (va_runS (As := [.int x0, .int x1, va_rf g_1]) (rest := []) F (c_J3_checkIndex_8e157 l hp H.size) (va_cwS 3 hts (wg_S wm_RJ0_1059 wy_J3_checkIndex_8e157) rfl rfl rfl (by decide +kernel) ⟨Nat.le_of_ble_eq_true rfl, Nat.le_of_ble_eq_true rfl⟩) (w_preS hK hW) rfl rfl hl.1 rfl (lv_room (Nat.le_of_ble_eq_true rfl)) dJ0_checkIndex_df160_5 ⟨Nat.le_of_ble_eq_true rfl, Nat.le_of_ble_eq_true rfl⟩) hW (fun r_2 S_3 H locs hp hW => ?_)
  obtain ⟨hX_S_3, hp⟩ := hp
  refine W.widen (k := 0) (n := 0) (by decide) (by decide) ?_
  have hE := hE.trans hX_S_3
  refine lv_pop hx hb dJ0_checkIndex_df160_8 rfl ?_
  exact w_vret hx hb hr hlocks hW ⟨hE, hp⟩ dJ0_checkIndex_df160_9
set_option maxHeartbeats 4000000 in
set_option maxRecDepth 100000 in
theorem c_J0_checkIndex_df160 (l : Launch) {D : wD} {cy : Nat → ClassId} {X : va_W} {S0 : wS} {post : wS → Prop} {x0 : Int32} {x1 : Int32} (hp : wp_J0_checkIndex_df160 D post S0 x0 x1) : mV D cy X l yJ0_checkIndex_df160 wz_J0_checkIndex_df160 r_J0_checkIndex_df160 [.int x0, .int x1] S0 (fun S9 => wX D S0 S9 ∧ post S9) := by
  intro sz
  refine Met.ofW (cc := cJ0_checkIndex_df160) (maxL := 2) (ret := none) (by decide) rfl ?_
  intro p e s m args below meth c s₁ B hml hv
  obtain ⟨rfl, hsz, hP, hK, hD0, hRO⟩ := hv
  have hts := atoms_spec (ws := wz_J0_checkIndex_df160) B.pre
  have hown : s.vm.findClass RJ0 = some m.cls := findClass_of_methodNamed B.named
  subst hsz
  have hD := hD0.self (sz := s.heap.size)
  have F : CallFix p m c cJ0_checkIndex_df160 2 s _ wz_J0_checkIndex_df160 RJ0 := ⟨B.exec, B.bytes, hml, hown, hts⟩
  have hr := B.returns
  have hlocks := B.notSynchronized
  generalize hAe : va_A (wL cy X S0) s.heap.size = A at hD hK ⊢
  have hA : ∀ q, s.heap.size ≤ q → A q := fun q h => by rw [← hAe]; exact Or.inr h
  have hW : wO D cy X A s.heap S0 s.heap [] := ⟨hP, hD, va_S.rf, hA, hRO⟩
  have hl := lv_entry ([.int x0, .int x1]) (n := 2) (Nat.le_of_ble_eq_true rfl)
  rw [lg_entry_eq]
  generalize (lg_sl ([.int x0, .int x1]) ++ List.replicate (2 - (lg_sl ([.int x0, .int x1])).length) Slot.unset).toArray = ls at hl ⊢
  have hl : lv_has ls 2 [(0, .int x0), (1, .int x1)] := hl
  unfold wp_J0_checkIndex_df160 at hp
  exact t_J0_checkIndex_df160_0 F hr hlocks hK hp hW wX.rf (lv_sub hl [0, 1] rfl)
def wp_J1_charAt_3b067_0 (D : wD) (post : Int32 → wS → Prop)  (S : wS) (a0 : Nat) (x1 : Int32) : Prop :=
wp_J0_checkIndex_df160 D (fun S_2 => 
vp_in x1 (sN S_2 a0) ∧
narrow .char (.int (ji2c ((sI S_2 a0 (x1).toNatClampNeg) &&& (255 : Int32)))) = .int (ji2c ((sI S_2 a0 (x1).toNatClampNeg) &&& (255 : Int32))) ∧ post (ji2c ((sI S_2 a0 (x1).toNatClampNeg) &&& (255 : Int32))) S_2) S x1 (Int32.ofNat (sN S a0))
abbrev r_J1_charAt_3b067 : Room := { frames := 2, cells := 0, slots := 0, locals := 43 }
def wp_J1_charAt_3b067 (D : wD) (post : Int32 → wS → Prop) (S : wS) (a0 : Nat) (x1 : Int32) : Prop := wp_J1_charAt_3b067_0 D post S a0 x1
set_option maxHeartbeats 4000000 in
set_option maxRecDepth 100000 in
theorem t_J1_charAt_3b067_0 {p : Program} {l : Launch} {e : Env} {s : State} {m : MethodId} {args : Array Value} {below : List Frame} {meth : Method} {c : Code} {D : wD} {cy : Nat → ClassId} {X : va_W} {A : Nat → Prop} {S0 : wS} {post : Int32 → wS → Prop} (F : CallFix p m c cJ1_charAt_3b067 2 s args wz_J1_charAt_3b067 RJ1) (hr : meth.sig.returnType = (some .char)) (hlocks : meth.locks = false) (hK : wK D cy A s) : ∀ {S : wS} {H : Heap} {locs : List Loc} {ls : Array Slot} {a0 : Nat} {x1 : Int32}, wp_J1_charAt_3b067_0 D post S a0 x1 → wO D cy X A s.heap S H locs → wX D S0 S → lv_has ls 2 [(0, .ref a0), (1, .int x1)] → wM D S a0 → sK S a0 = 20 → W p l e r_J1_charAt_3b067 s m args below meth c H locs 0 0 (MQ below (va_Qi (fun r S9 => wX D S0 S9 ∧ post r S9) (wB D cy X A) A) args s 0 0 A) (F0 m 0 ls []) := by
  obtain ⟨hx, hb, hml, hown, hts⟩ := id F
  have hwg : ∀ w ∈ WG, w.before args s = true := fun w h => hts w (List.mem_cons_of_mem _ h)
  intro S H locs ls a0 x1 hp hW hE hl hL_a0 hK_a0
  unfold wp_J1_charAt_3b067_0 at hp
  refine lv_iload_n hx hb dJ1_charAt_3b067_0 rfl (lv_at hl 1 rfl) ?_
  refine lv_aload_n hx hb dJ1_charAt_3b067_1 rfl (lv_at hl 0 rfl) ?_
  refine w_len F hK hW hL_a0 hK_a0 (by decide) dJ1_charAt_3b067_2 ?_
  refine w_callV (va_runS (As := [.int x1, .int (Int32.ofNat (sN S a0))]) (rest := []) F (c_J0_checkIndex_df160 l hp H.size) (va_cwS 2 hts (wg_S wm_RJ1_9 wy_J0_checkIndex_df160) rfl rfl rfl (by decide +kernel) ⟨Nat.le_of_ble_eq_true rfl, Nat.le_of_ble_eq_true rfl⟩) (w_preS hK hW) rfl rfl hl.1 rfl (lv_room (Nat.le_of_ble_eq_true rfl)) dJ1_charAt_3b067_3 ⟨Nat.le_of_ble_eq_true rfl, Nat.le_of_ble_eq_true rfl⟩) hW (fun S_2 H locs hp hW => ?_)
  obtain ⟨hX_S_2, hp⟩ := hp
  refine W.widen (k := 0) (n := 0) (by decide) (by decide) ?_
  have hE := hE.trans hX_S_2
  have hK_a0 : sK S_2 a0 = 20 := (hX_S_2.2 a0 hL_a0).1.trans hK_a0
  have hL_a0 : wM D S_2 a0 := hX_S_2.M hL_a0
  refine lv_aload_n hx hb dJ1_charAt_3b067_6 rfl (lv_at hl 0 rfl) ?_
  refine lv_iload_n hx hb dJ1_charAt_3b067_7 rfl (lv_at hl 1 rfl) ?_
  obtain ⟨h_3, hp⟩ := hp
  refine w_bld F hK hW hL_a0 hK_a0 h_3 dJ1_charAt_3b067_8 ?_
  refine lv_sipush (v := 255) hx hb dJ1_charAt_3b067_9 (by decide) ?_
  refine lv_iand hx hb dJ1_charAt_3b067_12 ?_
  refine lv_i2c (v := (ji2c ((sI S_2 a0 (x1).toNatClampNeg) &&& (255 : Int32)))) hx hb dJ1_charAt_3b067_13 rfl ?_
  exact w_zret hx hb hr hlocks hW hp.1 ⟨hE, hp.2⟩ dJ1_charAt_3b067_14
set_option maxHeartbeats 4000000 in
set_option maxRecDepth 100000 in
theorem c_J1_charAt_3b067 (l : Launch) {D : wD} {cy : Nat → ClassId} {X : va_W} {S0 : wS} {post : Int32 → wS → Prop} {a0 : Nat} {x1 : Int32} (hL_a0 : wM D S0 a0) (hK_a0 : sK S0 a0 = 20) (hp : wp_J1_charAt_3b067 D post S0 a0 x1) : mI D cy X l yJ1_charAt_3b067 wz_J1_charAt_3b067 r_J1_charAt_3b067 [.ref a0, .int x1] S0 (fun r S9 => wX D S0 S9 ∧ post r S9) := by
  intro sz
  refine Met.ofW (cc := cJ1_charAt_3b067) (maxL := 2) (ret := (some .char)) (by decide) rfl ?_
  intro p e s m args below meth c s₁ B hml hv
  obtain ⟨rfl, hsz, hP, hK, hD0, hRO⟩ := hv
  have hts := atoms_spec (ws := wz_J1_charAt_3b067) B.pre
  have hown : s.vm.findClass RJ1 = some m.cls := findClass_of_methodNamed B.named
  subst hsz
  have hD := hD0.self (sz := s.heap.size)
  have F : CallFix p m c cJ1_charAt_3b067 2 s _ wz_J1_charAt_3b067 RJ1 := ⟨B.exec, B.bytes, hml, hown, hts⟩
  have hr := B.returns
  have hlocks := B.notSynchronized
  generalize hAe : va_A (wL cy X S0) s.heap.size = A at hD hK ⊢
  have hA : ∀ q, s.heap.size ≤ q → A q := fun q h => by rw [← hAe]; exact Or.inr h
  have hW : wO D cy X A s.heap S0 s.heap [] := ⟨hP, hD, va_S.rf, hA, hRO⟩
  have hl := lv_entry ([.ref a0, .int x1]) (n := 2) (Nat.le_of_ble_eq_true rfl)
  rw [lg_entry_eq]
  generalize (lg_sl ([.ref a0, .int x1]) ++ List.replicate (2 - (lg_sl ([.ref a0, .int x1])).length) Slot.unset).toArray = ls at hl ⊢
  have hl : lv_has ls 2 [(0, .ref a0), (1, .int x1)] := hl
  unfold wp_J1_charAt_3b067 at hp
  exact t_J1_charAt_3b067_0 F hr hlocks hK hp hW wX.rf (lv_sub hl [0, 1] rfl) hL_a0 hK_a0
def wp_J2_length_9d52b_0 (D : wD) (post : Int32 → wS → Prop)  (S : wS) (a0 : Nat) : Prop :=
post ((Int32.ofNat (sN S a0)) >>> ((1 : Int32) &&& 31)) S
abbrev r_J2_length_9d52b : Room := { frames := 0, cells := 0, slots := 0, locals := 0 }
def wp_J2_length_9d52b (D : wD) (post : Int32 → wS → Prop) (S : wS) (a0 : Nat) : Prop := wp_J2_length_9d52b_0 D post S a0
set_option maxHeartbeats 4000000 in
set_option maxRecDepth 100000 in
theorem t_J2_length_9d52b_0 {p : Program} {l : Launch} {e : Env} {s : State} {m : MethodId} {args : Array Value} {below : List Frame} {meth : Method} {c : Code} {D : wD} {cy : Nat → ClassId} {X : va_W} {A : Nat → Prop} {S0 : wS} {post : Int32 → wS → Prop} (F : CallFix p m c cJ2_length_9d52b 1 s args wz_J2_length_9d52b RJ2) (hr : meth.sig.returnType = (some .int)) (hlocks : meth.locks = false) (hK : wK D cy A s) : ∀ {S : wS} {H : Heap} {locs : List Loc} {ls : Array Slot} {a0 : Nat}, wp_J2_length_9d52b_0 D post S a0 → wO D cy X A s.heap S H locs → wX D S0 S → lv_has ls 1 [(0, .ref a0)] → wM D S a0 → sK S a0 = 20 → W p l e r_J2_length_9d52b s m args below meth c H locs 0 0 (MQ below (va_Qi (fun r S9 => wX D S0 S9 ∧ post r S9) (wB D cy X A) A) args s 0 0 A) (F0 m 0 ls []) := by
  obtain ⟨hx, hb, hml, hown, hts⟩ := id F
  have hwg : ∀ w ∈ WG, w.before args s = true := fun w h => hts w (List.mem_cons_of_mem _ h)
  intro S H locs ls a0 hp hW hE hl hL_a0 hK_a0
  unfold wp_J2_length_9d52b_0 at hp
  refine lv_aload_n hx hb dJ2_length_9d52b_0 rfl (lv_at hl 0 rfl) ?_
  refine w_len F hK hW hL_a0 hK_a0 (by decide) dJ2_length_9d52b_1 ?_
  refine lv_iconst (v := 1) hx hb dJ2_length_9d52b_2 (by decide) ?_
  refine lv_ishr hx hb dJ2_length_9d52b_3 ?_
  exact w_iret hx hb hr hlocks hW ⟨hE, hp⟩ dJ2_length_9d52b_4
set_option maxHeartbeats 4000000 in
set_option maxRecDepth 100000 in
theorem c_J2_length_9d52b (l : Launch) {D : wD} {cy : Nat → ClassId} {X : va_W} {S0 : wS} {post : Int32 → wS → Prop} {a0 : Nat} (hL_a0 : wM D S0 a0) (hK_a0 : sK S0 a0 = 20) (hp : wp_J2_length_9d52b D post S0 a0) : mI D cy X l yJ2_length_9d52b wz_J2_length_9d52b r_J2_length_9d52b [.ref a0] S0 (fun r S9 => wX D S0 S9 ∧ post r S9) := by
  intro sz
  refine Met.ofW (cc := cJ2_length_9d52b) (maxL := 1) (ret := (some .int)) (by decide) rfl ?_
  intro p e s m args below meth c s₁ B hml hv
  obtain ⟨rfl, hsz, hP, hK, hD0, hRO⟩ := hv
  have hts := atoms_spec (ws := wz_J2_length_9d52b) B.pre
  have hown : s.vm.findClass RJ2 = some m.cls := findClass_of_methodNamed B.named
  subst hsz
  have hD := hD0.self (sz := s.heap.size)
  have F : CallFix p m c cJ2_length_9d52b 1 s _ wz_J2_length_9d52b RJ2 := ⟨B.exec, B.bytes, hml, hown, hts⟩
  have hr := B.returns
  have hlocks := B.notSynchronized
  generalize hAe : va_A (wL cy X S0) s.heap.size = A at hD hK ⊢
  have hA : ∀ q, s.heap.size ≤ q → A q := fun q h => by rw [← hAe]; exact Or.inr h
  have hW : wO D cy X A s.heap S0 s.heap [] := ⟨hP, hD, va_S.rf, hA, hRO⟩
  have hl := lv_entry ([.ref a0]) (n := 1) (Nat.le_of_ble_eq_true rfl)
  rw [lg_entry_eq]
  generalize (lg_sl ([.ref a0]) ++ List.replicate (1 - (lg_sl ([.ref a0])).length) Slot.unset).toArray = ls at hl ⊢
  have hl : lv_has ls 1 [(0, .ref a0)] := hl
  unfold wp_J2_length_9d52b at hp
  exact t_J2_length_9d52b_0 F hr hlocks hK hp hW wX.rf (lv_sub hl [0] rfl) hL_a0 hK_a0
def wp_J2_checkIndex_2214a_0 (D : wD) (post : wS → Prop)  (S : wS) (x0 : Int32) (a1 : Nat) : Prop :=
wp_J2_length_9d52b D (fun r_1 S_2 => 
wp_J0_checkIndex_df160 D (fun S_4 => 
post S_4) S_2 x0 r_1) S a1
abbrev r_J2_checkIndex_2214a : Room := { frames := 2, cells := 0, slots := 0, locals := 43 }
def wp_J2_checkIndex_2214a (D : wD) (post : wS → Prop) (S : wS) (x0 : Int32) (a1 : Nat) : Prop := wp_J2_checkIndex_2214a_0 D post S x0 a1
set_option maxHeartbeats 4000000 in
set_option maxRecDepth 100000 in
theorem t_J2_checkIndex_2214a_0 {p : Program} {l : Launch} {e : Env} {s : State} {m : MethodId} {args : Array Value} {below : List Frame} {meth : Method} {c : Code} {D : wD} {cy : Nat → ClassId} {X : va_W} {A : Nat → Prop} {S0 : wS} {post : wS → Prop} (F : CallFix p m c cJ2_checkIndex_2214a 2 s args wz_J2_checkIndex_2214a RJ2) (hr : meth.sig.returnType = none) (hlocks : meth.locks = false) (hK : wK D cy A s) : ∀ {S : wS} {H : Heap} {locs : List Loc} {ls : Array Slot} {x0 : Int32} {a1 : Nat}, wp_J2_checkIndex_2214a_0 D post S x0 a1 → wO D cy X A s.heap S H locs → wX D S0 S → lv_has ls 2 [(0, .int x0), (1, .ref a1)] → wM D S a1 → sK S a1 = 20 → W p l e r_J2_checkIndex_2214a s m args below meth c H locs 0 0 (MQ below (va_Qv (fun S9 => wX D S0 S9 ∧ post S9) (wB D cy X A) A) args s 0 0 A) (F0 m 0 ls []) := by
  obtain ⟨hx, hb, hml, hown, hts⟩ := id F
  have hwg : ∀ w ∈ WG, w.before args s = true := fun w h => hts w (List.mem_cons_of_mem _ h)
  intro S H locs ls x0 a1 hp hW hE hl hL_a1 hK_a1
  unfold wp_J2_checkIndex_2214a_0 at hp
  refine lv_iload_n hx hb dJ2_checkIndex_2214a_0 rfl (lv_at hl 0 rfl) ?_
  refine lv_aload_n hx hb dJ2_checkIndex_2214a_1 rfl (lv_at hl 1 rfl) ?_
  refine w_callI (va_runS (As := [.ref a1]) (rest := [.int x0]) F (c_J2_length_9d52b l hL_a1 hK_a1 hp H.size) (va_cwS 1 hts (wg_S wm_RJ2_48 wy_J2_length_9d52b) rfl rfl rfl (by decide +kernel) ⟨Nat.le_of_ble_eq_true rfl, Nat.le_of_ble_eq_true rfl⟩) (w_preS hK hW) rfl rfl hl.1 rfl (lv_room (Nat.le_of_ble_eq_true rfl)) dJ2_checkIndex_2214a_2 ⟨Nat.le_of_ble_eq_true rfl, Nat.le_of_ble_eq_true rfl⟩) hW (fun r_1 S_2 H locs hp hW => ?_)
  obtain ⟨hX_S_2, hp⟩ := hp
  refine W.widen (k := 0) (n := 0) (by decide) (by decide) ?_
  have hE := hE.trans hX_S_2
  have hK_a1 : sK S_2 a1 = 20 := (hX_S_2.2 a1 hL_a1).1.trans hK_a1
  have hL_a1 : wM D S_2 a1 := hX_S_2.M hL_a1
  refine w_callV (va_runS (As := [.int x0, .int r_1]) (rest := []) F (c_J0_checkIndex_df160 l hp H.size) (va_cwS 2 hts (wg_S wm_RJ2_414 wy_J0_checkIndex_df160) rfl rfl rfl (by decide +kernel) ⟨Nat.le_of_ble_eq_true rfl, Nat.le_of_ble_eq_true rfl⟩) (w_preS hK hW) rfl rfl hl.1 rfl (lv_room (Nat.le_of_ble_eq_true rfl)) dJ2_checkIndex_2214a_5 ⟨Nat.le_of_ble_eq_true rfl, Nat.le_of_ble_eq_true rfl⟩) hW (fun S_4 H locs hp hW => ?_)
  obtain ⟨hX_S_4, hp⟩ := hp
  refine W.widen (k := 0) (n := 0) (by decide) (by decide) ?_
  have hE := hE.trans hX_S_4
  have hK_a1 : sK S_4 a1 = 20 := (hX_S_4.2 a1 hL_a1).1.trans hK_a1
  have hL_a1 : wM D S_4 a1 := hX_S_4.M hL_a1
  exact w_vret hx hb hr hlocks hW ⟨hE, hp⟩ dJ2_checkIndex_2214a_8
set_option maxHeartbeats 4000000 in
set_option maxRecDepth 100000 in
theorem c_J2_checkIndex_2214a (l : Launch) {D : wD} {cy : Nat → ClassId} {X : va_W} {S0 : wS} {post : wS → Prop} {x0 : Int32} {a1 : Nat} (hL_a1 : wM D S0 a1) (hK_a1 : sK S0 a1 = 20) (hp : wp_J2_checkIndex_2214a D post S0 x0 a1) : mV D cy X l yJ2_checkIndex_2214a wz_J2_checkIndex_2214a r_J2_checkIndex_2214a [.int x0, .ref a1] S0 (fun S9 => wX D S0 S9 ∧ post S9) := by
  intro sz
  refine Met.ofW (cc := cJ2_checkIndex_2214a) (maxL := 2) (ret := none) (by decide) rfl ?_
  intro p e s m args below meth c s₁ B hml hv
  obtain ⟨rfl, hsz, hP, hK, hD0, hRO⟩ := hv
  have hts := atoms_spec (ws := wz_J2_checkIndex_2214a) B.pre
  have hown : s.vm.findClass RJ2 = some m.cls := findClass_of_methodNamed B.named
  subst hsz
  have hD := hD0.self (sz := s.heap.size)
  have F : CallFix p m c cJ2_checkIndex_2214a 2 s _ wz_J2_checkIndex_2214a RJ2 := ⟨B.exec, B.bytes, hml, hown, hts⟩
  have hr := B.returns
  have hlocks := B.notSynchronized
  generalize hAe : va_A (wL cy X S0) s.heap.size = A at hD hK ⊢
  have hA : ∀ q, s.heap.size ≤ q → A q := fun q h => by rw [← hAe]; exact Or.inr h
  have hW : wO D cy X A s.heap S0 s.heap [] := ⟨hP, hD, va_S.rf, hA, hRO⟩
  have hl := lv_entry ([.int x0, .ref a1]) (n := 2) (Nat.le_of_ble_eq_true rfl)
  rw [lg_entry_eq]
  generalize (lg_sl ([.int x0, .ref a1]) ++ List.replicate (2 - (lg_sl ([.int x0, .ref a1])).length) Slot.unset).toArray = ls at hl ⊢
  have hl : lv_has ls 2 [(0, .int x0), (1, .ref a1)] := hl
  unfold wp_J2_checkIndex_2214a at hp
  exact t_J2_checkIndex_2214a_0 F hr hlocks hK hp hW wX.rf (lv_sub hl [0, 1] rfl) hL_a1 hK_a1
def wp_J2_getChar_3b067_28 (D : wD) (post : Int32 → wS → Prop)  (S : wS) (a0 : Nat) (x1 : Int32) : Prop :=
∀ x_1 : Int32, x_1 = (x1 <<< ((1 : Int32) &&& 31)) →
∀ x_2 : Int32, x_2 = x_1 + 1 →
vp_in x_1 (sN S a0) ∧
vp_in x_2 (sN S a0) ∧
narrow .char (.int (ji2c ((((sI S a0 (x_1).toNatClampNeg) &&& (255 : Int32)) <<< ((0 : Int32) &&& 31)) ||| (((sI S a0 (x_2).toNatClampNeg) &&& (255 : Int32)) <<< ((8 : Int32) &&& 31))))) = .int (ji2c ((((sI S a0 (x_1).toNatClampNeg) &&& (255 : Int32)) <<< ((0 : Int32) &&& 31)) ||| (((sI S a0 (x_2).toNatClampNeg) &&& (255 : Int32)) <<< ((8 : Int32) &&& 31)))) ∧ post (ji2c ((((sI S a0 (x_1).toNatClampNeg) &&& (255 : Int32)) <<< ((0 : Int32) &&& 31)) ||| (((sI S a0 (x_2).toNatClampNeg) &&& (255 : Int32)) <<< ((8 : Int32) &&& 31)))) S
def wp_J2_getChar_3b067_18 (D : wD) (post : Int32 → wS → Prop)  (S : wS) : Prop :=
False
def wp_J2_getChar_3b067_0 (D : wD) (post : Int32 → wS → Prop)  (S : wS) (a0 : Nat) (x1 : Int32) : Prop :=
((¬ (1 : Int32) = 0 → wp_J2_getChar_3b067_28 D post S a0 x1) ∧
 ((1 : Int32) = 0 → ((x1 < 0 → wp_J2_getChar_3b067_18 D post S) ∧
 (¬ x1 < 0 → wp_J2_length_9d52b D (fun r_3 S_4 => 
((x1 < r_3 → wp_J2_getChar_3b067_28 D post S_4 a0 x1) ∧
 (¬ x1 < r_3 → wp_J2_getChar_3b067_18 D post S_4))) S a0))))
abbrev r_J2_getChar_3b067 : Room := { frames := 1, cells := 0, slots := 0, locals := 20 }
def wp_J2_getChar_3b067 (D : wD) (post : Int32 → wS → Prop) (S : wS) (a0 : Nat) (x1 : Int32) : Prop := wp_J2_getChar_3b067_0 D post S a0 x1
set_option maxHeartbeats 4000000 in
set_option maxRecDepth 100000 in
theorem t_J2_getChar_3b067_28 {p : Program} {l : Launch} {e : Env} {s : State} {m : MethodId} {args : Array Value} {below : List Frame} {meth : Method} {c : Code} {D : wD} {cy : Nat → ClassId} {X : va_W} {A : Nat → Prop} {S0 : wS} {post : Int32 → wS → Prop} (F : CallFix p m c cJ2_getChar_3b067 2 s args wz_J2_getChar_3b067 RJ2) (hr : meth.sig.returnType = (some .char)) (hlocks : meth.locks = false) (hK : wK D cy A s) : ∀ {S : wS} {H : Heap} {locs : List Loc} {ls : Array Slot} {a0 : Nat} {x1 : Int32}, wp_J2_getChar_3b067_28 D post S a0 x1 → wO D cy X A s.heap S H locs → wX D S0 S → lv_has ls 2 [(0, .ref a0), (1, .int x1)] → wM D S a0 → sK S a0 = 20 → W p l e r_J2_getChar_3b067 s m args below meth c H locs 0 0 (MQ below (va_Qi (fun r S9 => wX D S0 S9 ∧ post r S9) (wB D cy X A) A) args s 0 0 A) (F0 m 28 ls []) := by
  obtain ⟨hx, hb, hml, hown, hts⟩ := id F
  have hwg : ∀ w ∈ WG, w.before args s = true := fun w h => hts w (List.mem_cons_of_mem _ h)
  intro S H locs ls a0 x1 hp hW hE hl hL_a0 hK_a0
  unfold wp_J2_getChar_3b067_28 at hp
  refine lv_iload_n hx hb dJ2_getChar_3b067_28 rfl (lv_at hl 1 rfl) ?_
  refine lv_iconst (v := 1) hx hb dJ2_getChar_3b067_29 (by decide) ?_
  refine lv_ishl hx hb dJ2_getChar_3b067_30 ?_
  refine lv_topi (fun x_1 ex_1 => ?_)
  replace hp := hp x_1 ex_1
  refine lv_istore_n (lv' := [(1, .int x_1), (0, .ref a0)]) hx hb dJ2_getChar_3b067_31 rfl hl (by decide) rfl (fun ls hl => ?_)
  refine lv_aload_n hx hb dJ2_getChar_3b067_32 rfl (lv_at hl 1 rfl) ?_
  refine lv_iload_n hx hb dJ2_getChar_3b067_33 rfl (lv_at hl 0 rfl) ?_
  obtain ⟨x_2, ex_2⟩ : ∃ z : Int32, z = x_1 + 1 := ⟨_, rfl⟩
  replace hp := hp x_2 ex_2
  refine lv_iinc (v := x_2) (lv' := [(1, .int x_2), (0, .ref a0)]) hx hb dJ2_getChar_3b067_34 hl (k := 0) rfl (by rw [ex_2]; rfl) (by decide) rfl (fun ls hl => ?_)
  obtain ⟨h_3, hp⟩ := hp
  refine w_bld F hK hW hL_a0 hK_a0 h_3 dJ2_getChar_3b067_37 ?_
  refine lv_sipush (v := 255) hx hb dJ2_getChar_3b067_38 (by decide) ?_
  refine lv_iand hx hb dJ2_getChar_3b067_41 ?_
  refine w_staI F hK hW (show ("java/lang/StringUTF16", "HI_BYTE_SHIFT", "I", (0 : Int32)) ∈ wSi by decide +kernel) (hwg _ wf_RJ2_59) dJ2_getChar_3b067_42 ?_
  refine lv_ishl hx hb dJ2_getChar_3b067_45 ?_
  refine lv_aload_n hx hb dJ2_getChar_3b067_46 rfl (lv_at hl 1 rfl) ?_
  refine lv_iload_n hx hb dJ2_getChar_3b067_47 rfl (lv_at hl 0 rfl) ?_
  obtain ⟨h_4, hp⟩ := hp
  refine w_bld F hK hW hL_a0 hK_a0 h_4 dJ2_getChar_3b067_48 ?_
  refine lv_sipush (v := 255) hx hb dJ2_getChar_3b067_49 (by decide) ?_
  refine lv_iand hx hb dJ2_getChar_3b067_52 ?_
  refine w_staI F hK hW (show ("java/lang/StringUTF16", "LO_BYTE_SHIFT", "I", (8 : Int32)) ∈ wSi by decide +kernel) (hwg _ wf_RJ2_63) dJ2_getChar_3b067_53 ?_
  refine lv_ishl hx hb dJ2_getChar_3b067_56 ?_
  refine lv_ior hx hb dJ2_getChar_3b067_57 ?_
  refine lv_i2c (v := (ji2c ((((sI S a0 (x_1).toNatClampNeg) &&& (255 : Int32)) <<< ((0 : Int32) &&& 31)) ||| (((sI S a0 (x_2).toNatClampNeg) &&& (255 : Int32)) <<< ((8 : Int32) &&& 31))))) hx hb dJ2_getChar_3b067_58 rfl ?_
  exact w_zret hx hb hr hlocks hW hp.1 ⟨hE, hp.2⟩ dJ2_getChar_3b067_59
set_option maxHeartbeats 4000000 in
set_option maxRecDepth 100000 in
theorem t_J2_getChar_3b067_18 {p : Program} {l : Launch} {e : Env} {s : State} {m : MethodId} {args : Array Value} {below : List Frame} {meth : Method} {c : Code} {D : wD} {cy : Nat → ClassId} {X : va_W} {A : Nat → Prop} {S0 : wS} {post : Int32 → wS → Prop} (F : CallFix p m c cJ2_getChar_3b067 2 s args wz_J2_getChar_3b067 RJ2) (hr : meth.sig.returnType = (some .char)) (hlocks : meth.locks = false) (hK : wK D cy A s) : ∀ {S : wS} {H : Heap} {locs : List Loc} {ls : Array Slot}, wp_J2_getChar_3b067_18 D post S → wO D cy X A s.heap S H locs → wX D S0 S → lv_has ls 2 [] → W p l e r_J2_getChar_3b067 s m args below meth c H locs 0 0 (MQ below (va_Qi (fun r S9 => wX D S0 S9 ∧ post r S9) (wB D cy X A) A) args s 0 0 A) (F0 m 18 ls []) := by
  obtain ⟨hx, hb, hml, hown, hts⟩ := id F
  have hwg : ∀ w ∈ WG, w.before args s = true := fun w h => hts w (List.mem_cons_of_mem _ h)
  intro S H locs ls hp hW hE hl
  unfold wp_J2_getChar_3b067_18 at hp
  exact hp.elim
set_option maxHeartbeats 4000000 in
set_option maxRecDepth 100000 in
theorem t_J2_getChar_3b067_0 {p : Program} {l : Launch} {e : Env} {s : State} {m : MethodId} {args : Array Value} {below : List Frame} {meth : Method} {c : Code} {D : wD} {cy : Nat → ClassId} {X : va_W} {A : Nat → Prop} {S0 : wS} {post : Int32 → wS → Prop} (F : CallFix p m c cJ2_getChar_3b067 2 s args wz_J2_getChar_3b067 RJ2) (hr : meth.sig.returnType = (some .char)) (hlocks : meth.locks = false) (hK : wK D cy A s) : ∀ {S : wS} {H : Heap} {locs : List Loc} {ls : Array Slot} {a0 : Nat} {x1 : Int32}, wp_J2_getChar_3b067_0 D post S a0 x1 → wO D cy X A s.heap S H locs → wX D S0 S → lv_has ls 2 [(0, .ref a0), (1, .int x1)] → wM D S a0 → sK S a0 = 20 → W p l e r_J2_getChar_3b067 s m args below meth c H locs 0 0 (MQ below (va_Qi (fun r S9 => wX D S0 S9 ∧ post r S9) (wB D cy X A) A) args s 0 0 A) (F0 m 0 ls []) := by
  obtain ⟨hx, hb, hml, hown, hts⟩ := id F
  have hwg : ∀ w ∈ WG, w.before args s = true := fun w h => hts w (List.mem_cons_of_mem _ h)
  intro S H locs ls a0 x1 hp hW hE hl hL_a0 hK_a0
  unfold wp_J2_getChar_3b067_0 at hp
  refine w_staI F hK hW (show ("java/lang/StringUTF16", "$assertionsDisabled", "Z", (1 : Int32)) ∈ wSi by decide +kernel) (hwg _ wf_RJ2_44) dJ2_getChar_3b067_0 ?_
  refine lv_if_ne (tgt := 28) hx hb dJ2_getChar_3b067_3 (by decide) (fun c_1 => ?_) (fun c_1 => ?_)
  · replace hp := hp.1 c_1
    exact t_J2_getChar_3b067_28 F hr hlocks hK hp hW hE (lv_sub hl [0, 1] rfl) hL_a0 hK_a0
  · replace hp := hp.2 c_1
    refine lv_iload_n hx hb dJ2_getChar_3b067_6 rfl (lv_at hl 1 rfl) ?_
    refine lv_if_lt (tgt := 18) hx hb dJ2_getChar_3b067_7 (by decide) (fun c_2 => ?_) (fun c_2 => ?_)
    · replace hp := hp.1 c_2
      exact t_J2_getChar_3b067_18 F hr hlocks hK hp hW hE (lv_sub hl [] rfl)
    · replace hp := hp.2 c_2
      refine lv_iload_n hx hb dJ2_getChar_3b067_10 rfl (lv_at hl 1 rfl) ?_
      refine lv_aload_n hx hb dJ2_getChar_3b067_11 rfl (lv_at hl 0 rfl) ?_
      refine w_callI (va_runS (As := [.ref a0]) (rest := [.int x1]) F (c_J2_length_9d52b l hL_a0 hK_a0 hp H.size) (va_cwS 1 hts (wg_S wm_RJ2_48 wy_J2_length_9d52b) rfl rfl rfl (by decide +kernel) ⟨Nat.le_of_ble_eq_true rfl, Nat.le_of_ble_eq_true rfl⟩) (w_preS hK hW) rfl rfl hl.1 rfl (lv_room (Nat.le_of_ble_eq_true rfl)) dJ2_getChar_3b067_12 ⟨Nat.le_of_ble_eq_true rfl, Nat.le_of_ble_eq_true rfl⟩) hW (fun r_3 S_4 H locs hp hW => ?_)
      obtain ⟨hX_S_4, hp⟩ := hp
      refine W.widen (k := 0) (n := 0) (by decide) (by decide) ?_
      have hE := hE.trans hX_S_4
      have hK_a0 : sK S_4 a0 = 20 := (hX_S_4.2 a0 hL_a0).1.trans hK_a0
      have hL_a0 : wM D S_4 a0 := hX_S_4.M hL_a0
      refine lv_icmp_lt (tgt := 28) hx hb dJ2_getChar_3b067_15 (by decide) (fun c_5 => ?_) (fun c_5 => ?_)
      · replace hp := hp.1 c_5
        exact t_J2_getChar_3b067_28 F hr hlocks hK hp hW hE (lv_sub hl [0, 1] rfl) hL_a0 hK_a0
      · replace hp := hp.2 c_5
        exact t_J2_getChar_3b067_18 F hr hlocks hK hp hW hE (lv_sub hl [] rfl)
set_option maxHeartbeats 4000000 in
set_option maxRecDepth 100000 in
theorem c_J2_getChar_3b067 (l : Launch) {D : wD} {cy : Nat → ClassId} {X : va_W} {S0 : wS} {post : Int32 → wS → Prop} {a0 : Nat} {x1 : Int32} (hL_a0 : wM D S0 a0) (hK_a0 : sK S0 a0 = 20) (hp : wp_J2_getChar_3b067 D post S0 a0 x1) : mI D cy X l yJ2_getChar_3b067 wz_J2_getChar_3b067 r_J2_getChar_3b067 [.ref a0, .int x1] S0 (fun r S9 => wX D S0 S9 ∧ post r S9) := by
  intro sz
  refine Met.ofW (cc := cJ2_getChar_3b067) (maxL := 2) (ret := (some .char)) (by decide) rfl ?_
  intro p e s m args below meth c s₁ B hml hv
  obtain ⟨rfl, hsz, hP, hK, hD0, hRO⟩ := hv
  have hts := atoms_spec (ws := wz_J2_getChar_3b067) B.pre
  have hown : s.vm.findClass RJ2 = some m.cls := findClass_of_methodNamed B.named
  subst hsz
  have hD := hD0.self (sz := s.heap.size)
  have F : CallFix p m c cJ2_getChar_3b067 2 s _ wz_J2_getChar_3b067 RJ2 := ⟨B.exec, B.bytes, hml, hown, hts⟩
  have hr := B.returns
  have hlocks := B.notSynchronized
  generalize hAe : va_A (wL cy X S0) s.heap.size = A at hD hK ⊢
  have hA : ∀ q, s.heap.size ≤ q → A q := fun q h => by rw [← hAe]; exact Or.inr h
  have hW : wO D cy X A s.heap S0 s.heap [] := ⟨hP, hD, va_S.rf, hA, hRO⟩
  have hl := lv_entry ([.ref a0, .int x1]) (n := 2) (Nat.le_of_ble_eq_true rfl)
  rw [lg_entry_eq]
  generalize (lg_sl ([.ref a0, .int x1]) ++ List.replicate (2 - (lg_sl ([.ref a0, .int x1])).length) Slot.unset).toArray = ls at hl ⊢
  have hl : lv_has ls 2 [(0, .ref a0), (1, .int x1)] := hl
  unfold wp_J2_getChar_3b067 at hp
  exact t_J2_getChar_3b067_0 F hr hlocks hK hp hW wX.rf (lv_sub hl [0, 1] rfl) hL_a0 hK_a0
def wp_J2_charAt_3b067_0 (D : wD) (post : Int32 → wS → Prop)  (S : wS) (a0 : Nat) (x1 : Int32) : Prop :=
wp_J2_checkIndex_2214a D (fun S_2 => 
wp_J2_getChar_3b067 D (fun r_3 S_4 => 
narrow .char (.int r_3) = .int r_3 ∧ post r_3 S_4) S_2 a0 x1) S x1 a0
abbrev r_J2_charAt_3b067 : Room := { frames := 3, cells := 0, slots := 0, locals := 64 }
def wp_J2_charAt_3b067 (D : wD) (post : Int32 → wS → Prop) (S : wS) (a0 : Nat) (x1 : Int32) : Prop := wp_J2_charAt_3b067_0 D post S a0 x1
set_option maxHeartbeats 4000000 in
set_option maxRecDepth 100000 in
theorem t_J2_charAt_3b067_0 {p : Program} {l : Launch} {e : Env} {s : State} {m : MethodId} {args : Array Value} {below : List Frame} {meth : Method} {c : Code} {D : wD} {cy : Nat → ClassId} {X : va_W} {A : Nat → Prop} {S0 : wS} {post : Int32 → wS → Prop} (F : CallFix p m c cJ2_charAt_3b067 2 s args wz_J2_charAt_3b067 RJ2) (hr : meth.sig.returnType = (some .char)) (hlocks : meth.locks = false) (hK : wK D cy A s) : ∀ {S : wS} {H : Heap} {locs : List Loc} {ls : Array Slot} {a0 : Nat} {x1 : Int32}, wp_J2_charAt_3b067_0 D post S a0 x1 → wO D cy X A s.heap S H locs → wX D S0 S → lv_has ls 2 [(0, .ref a0), (1, .int x1)] → wM D S a0 → sK S a0 = 20 → W p l e r_J2_charAt_3b067 s m args below meth c H locs 0 0 (MQ below (va_Qi (fun r S9 => wX D S0 S9 ∧ post r S9) (wB D cy X A) A) args s 0 0 A) (F0 m 0 ls []) := by
  obtain ⟨hx, hb, hml, hown, hts⟩ := id F
  have hwg : ∀ w ∈ WG, w.before args s = true := fun w h => hts w (List.mem_cons_of_mem _ h)
  intro S H locs ls a0 x1 hp hW hE hl hL_a0 hK_a0
  unfold wp_J2_charAt_3b067_0 at hp
  refine lv_iload_n hx hb dJ2_charAt_3b067_0 rfl (lv_at hl 1 rfl) ?_
  refine lv_aload_n hx hb dJ2_charAt_3b067_1 rfl (lv_at hl 0 rfl) ?_
  refine w_callV (va_runS (As := [.int x1, .ref a0]) (rest := []) F (c_J2_checkIndex_2214a l hL_a0 hK_a0 hp H.size) (va_cwS 2 hts (wg_S wm_RJ2_67 wy_J2_checkIndex_2214a) rfl rfl rfl (by decide +kernel) ⟨Nat.le_of_ble_eq_true rfl, Nat.le_of_ble_eq_true rfl⟩) (w_preS hK hW) rfl rfl hl.1 rfl (lv_room (Nat.le_of_ble_eq_true rfl)) dJ2_charAt_3b067_2 ⟨Nat.le_of_ble_eq_true rfl, Nat.le_of_ble_eq_true rfl⟩) hW (fun S_2 H locs hp hW => ?_)
  obtain ⟨hX_S_2, hp⟩ := hp
  refine W.widen (k := 0) (n := 0) (by decide) (by decide) ?_
  have hE := hE.trans hX_S_2
  have hK_a0 : sK S_2 a0 = 20 := (hX_S_2.2 a0 hL_a0).1.trans hK_a0
  have hL_a0 : wM D S_2 a0 := hX_S_2.M hL_a0
  refine lv_aload_n hx hb dJ2_charAt_3b067_5 rfl (lv_at hl 0 rfl) ?_
  refine lv_iload_n hx hb dJ2_charAt_3b067_6 rfl (lv_at hl 1 rfl) ?_
  refine w_callI (va_runS (As := [.ref a0, .int x1]) (rest := []) F (c_J2_getChar_3b067 l hL_a0 hK_a0 hp H.size) (va_cwS 2 hts (wg_S wm_RJ2_71 wy_J2_getChar_3b067) rfl rfl rfl (by decide +kernel) ⟨Nat.le_of_ble_eq_true rfl, Nat.le_of_ble_eq_true rfl⟩) (w_preS hK hW) rfl rfl hl.1 rfl (lv_room (Nat.le_of_ble_eq_true rfl)) dJ2_charAt_3b067_7 ⟨Nat.le_of_ble_eq_true rfl, Nat.le_of_ble_eq_true rfl⟩) hW (fun r_3 S_4 H locs hp hW => ?_)
  obtain ⟨hX_S_4, hp⟩ := hp
  refine W.widen (k := 0) (n := 0) (by decide) (by decide) ?_
  have hE := hE.trans hX_S_4
  have hK_a0 : sK S_4 a0 = 20 := (hX_S_4.2 a0 hL_a0).1.trans hK_a0
  have hL_a0 : wM D S_4 a0 := hX_S_4.M hL_a0
  exact w_zret hx hb hr hlocks hW hp.1 ⟨hE, hp.2⟩ dJ2_charAt_3b067_10
set_option maxHeartbeats 4000000 in
set_option maxRecDepth 100000 in
theorem c_J2_charAt_3b067 (l : Launch) {D : wD} {cy : Nat → ClassId} {X : va_W} {S0 : wS} {post : Int32 → wS → Prop} {a0 : Nat} {x1 : Int32} (hL_a0 : wM D S0 a0) (hK_a0 : sK S0 a0 = 20) (hp : wp_J2_charAt_3b067 D post S0 a0 x1) : mI D cy X l yJ2_charAt_3b067 wz_J2_charAt_3b067 r_J2_charAt_3b067 [.ref a0, .int x1] S0 (fun r S9 => wX D S0 S9 ∧ post r S9) := by
  intro sz
  refine Met.ofW (cc := cJ2_charAt_3b067) (maxL := 2) (ret := (some .char)) (by decide) rfl ?_
  intro p e s m args below meth c s₁ B hml hv
  obtain ⟨rfl, hsz, hP, hK, hD0, hRO⟩ := hv
  have hts := atoms_spec (ws := wz_J2_charAt_3b067) B.pre
  have hown : s.vm.findClass RJ2 = some m.cls := findClass_of_methodNamed B.named
  subst hsz
  have hD := hD0.self (sz := s.heap.size)
  have F : CallFix p m c cJ2_charAt_3b067 2 s _ wz_J2_charAt_3b067 RJ2 := ⟨B.exec, B.bytes, hml, hown, hts⟩
  have hr := B.returns
  have hlocks := B.notSynchronized
  generalize hAe : va_A (wL cy X S0) s.heap.size = A at hD hK ⊢
  have hA : ∀ q, s.heap.size ≤ q → A q := fun q h => by rw [← hAe]; exact Or.inr h
  have hW : wO D cy X A s.heap S0 s.heap [] := ⟨hP, hD, va_S.rf, hA, hRO⟩
  have hl := lv_entry ([.ref a0, .int x1]) (n := 2) (Nat.le_of_ble_eq_true rfl)
  rw [lg_entry_eq]
  generalize (lg_sl ([.ref a0, .int x1]) ++ List.replicate (2 - (lg_sl ([.ref a0, .int x1])).length) Slot.unset).toArray = ls at hl ⊢
  have hl : lv_has ls 2 [(0, .ref a0), (1, .int x1)] := hl
  unfold wp_J2_charAt_3b067 at hp
  exact t_J2_charAt_3b067_0 F hr hlocks hK hp hW wX.rf (lv_sub hl [0, 1] rfl) hL_a0 hK_a0
def wp_J0_charAt_5068e_0 (D : wD) (post : Int32 → wS → Prop)  (S : wS) (a0 : Nat) (x1 : Int32) : Prop :=
wp_J0_isLatin1_aae02 D (fun r_1 S_2 => 
((r_1 = 0 → ∃ y_4 : Nat, sR S_2 a0 0 = some y_4 ∧ wM D S_2 y_4 ∧ sK S_2 y_4 = 20 ∧
wp_J2_charAt_3b067 D (fun r_5 S_6 => 
narrow .char (.int r_5) = .int r_5 ∧ post r_5 S_6) S_2 y_4 x1) ∧
 (¬ r_1 = 0 → ∃ y_7 : Nat, sR S_2 a0 0 = some y_7 ∧ wM D S_2 y_7 ∧ sK S_2 y_7 = 20 ∧
wp_J1_charAt_3b067 D (fun r_8 S_9 => 
narrow .char (.int r_8) = .int r_8 ∧ post r_8 S_9) S_2 y_7 x1))) S a0
abbrev r_J0_charAt_5068e : Room := { frames := 4, cells := 0, slots := 0, locals := 85 }
def wp_J0_charAt_5068e (D : wD) (post : Int32 → wS → Prop) (S : wS) (a0 : Nat) (x1 : Int32) : Prop := wp_J0_charAt_5068e_0 D post S a0 x1
set_option maxHeartbeats 4000000 in
set_option maxRecDepth 100000 in
theorem t_J0_charAt_5068e_0 {p : Program} {l : Launch} {e : Env} {s : State} {m : MethodId} {args : Array Value} {below : List Frame} {meth : Method} {c : Code} {D : wD} {cy : Nat → ClassId} {X : va_W} {A : Nat → Prop} {S0 : wS} {post : Int32 → wS → Prop} (F : CallFix p m c cJ0_charAt_5068e 2 s args wz_J0_charAt_5068e RJ0) (hr : meth.sig.returnType = (some .char)) (hlocks : meth.locks = false) (hK : wK D cy A s) : ∀ {S : wS} {H : Heap} {locs : List Loc} {ls : Array Slot} {a0 : Nat} {x1 : Int32}, wp_J0_charAt_5068e_0 D post S a0 x1 → wO D cy X A s.heap S H locs → wX D S0 S → lv_has ls 2 [(0, .ref a0), (1, .int x1)] → wM D S a0 → sK S a0 = 0 → W p l e r_J0_charAt_5068e s m args below meth c H locs 0 0 (MQ below (va_Qi (fun r S9 => wX D S0 S9 ∧ post r S9) (wB D cy X A) A) args s 0 0 A) (F0 m 0 ls []) := by
  obtain ⟨hx, hb, hml, hown, hts⟩ := id F
  have hwg : ∀ w ∈ WG, w.before args s = true := fun w h => hts w (List.mem_cons_of_mem _ h)
  have i_0 : ∀ w ∈ u_ws RJ0 TJ0 4, w ∈ wz_J0_charAt_5068e := fun w h => List.mem_cons_of_mem _ (wu_0 w h)
  have k_9 := hwg _ wf_RJ0_9
  intro S H locs ls a0 x1 hp hW hE hl hL_a0 hK_a0
  unfold wp_J0_charAt_5068e_0 at hp
  refine lv_aload_n hx hb dJ0_charAt_5068e_0 rfl (lv_at hl 0 rfl) ?_
  refine w_callI (va_runV (As := []) (rest := []) F (c_J0_isLatin1_aae02 l hL_a0 hK_a0 hp H.size) (cwV (C := RJ0) 0 hts (wg_V wm_RJ0_492 wy_J0_isLatin1_aae02) rfl rfl rfl (by decide +kernel) ⟨Nat.le_of_ble_eq_true rfl, Nat.le_of_ble_eq_true rfl⟩) (w_preV hK hW hL_a0 hK_a0 (by decide) rfl) rfl rfl hl.1 rfl (lv_room (Nat.le_of_ble_eq_true rfl)) dJ0_charAt_5068e_1 ⟨Nat.le_of_ble_eq_true rfl, Nat.le_of_ble_eq_true rfl⟩) hW (fun r_1 S_2 H locs hp hW => ?_)
  obtain ⟨hX_S_2, hp⟩ := hp
  refine W.widen (k := 0) (n := 0) (by decide) (by decide) ?_
  have hE := hE.trans hX_S_2
  have hK_a0 : sK S_2 a0 = 0 := (hX_S_2.2 a0 hL_a0).1.trans hK_a0
  have hL_a0 : wM D S_2 a0 := hX_S_2.M hL_a0
  refine lv_if_eq (tgt := 16) hx hb dJ0_charAt_5068e_4 (by decide) (fun c_3 => ?_) (fun c_3 => ?_)
  · replace hp := hp.1 c_3
    refine lv_aload_n hx hb dJ0_charAt_5068e_16 rfl (lv_at hl 0 rfl) ?_
    obtain ⟨y_4, ey_4, hL_y_4, hK_y_4, hp⟩ := hp
    refine w_get (k := 0) (f := 0) (T := TJ0) (v := .ref y_4) F hK hW hL_a0 hK_a0 (by decide) rfl rfl (by decide) i_0 k_9 (by rw [show wv 0 0 S_2 a0 = va_rf (sR S_2 a0 0) from rfl, ey_4]; rfl) dJ0_charAt_5068e_17 ?_
    refine lv_iload_n hx hb dJ0_charAt_5068e_20 rfl (lv_at hl 1 rfl) ?_
    refine w_callI (va_runS (As := [.ref y_4, .int x1]) (rest := []) F (c_J2_charAt_3b067 l hL_y_4 hK_y_4 hp H.size) (va_cwS 2 hts (wg_S wm_RJ0_498 wy_J2_charAt_3b067) rfl rfl rfl (by decide +kernel) ⟨Nat.le_of_ble_eq_true rfl, Nat.le_of_ble_eq_true rfl⟩) (w_preS hK hW) rfl rfl hl.1 rfl (lv_room (Nat.le_of_ble_eq_true rfl)) dJ0_charAt_5068e_21 ⟨Nat.le_of_ble_eq_true rfl, Nat.le_of_ble_eq_true rfl⟩) hW (fun r_5 S_6 H locs hp hW => ?_)
    obtain ⟨hX_S_6, hp⟩ := hp
    refine W.widen (k := 0) (n := 0) (by decide) (by decide) ?_
    have hE := hE.trans hX_S_6
    have hK_a0 : sK S_6 a0 = 0 := (hX_S_6.2 a0 hL_a0).1.trans hK_a0
    have hL_a0 : wM D S_6 a0 := hX_S_6.M hL_a0
    exact w_zret hx hb hr hlocks hW hp.1 ⟨hE, hp.2⟩ dJ0_charAt_5068e_24
  · replace hp := hp.2 c_3
    refine lv_aload_n hx hb dJ0_charAt_5068e_7 rfl (lv_at hl 0 rfl) ?_
    obtain ⟨y_7, ey_7, hL_y_7, hK_y_7, hp⟩ := hp
    refine w_get (k := 0) (f := 0) (T := TJ0) (v := .ref y_7) F hK hW hL_a0 hK_a0 (by decide) rfl rfl (by decide) i_0 k_9 (by rw [show wv 0 0 S_2 a0 = va_rf (sR S_2 a0 0) from rfl, ey_7]; rfl) dJ0_charAt_5068e_8 ?_
    refine lv_iload_n hx hb dJ0_charAt_5068e_11 rfl (lv_at hl 1 rfl) ?_
    refine w_callI (va_runS (As := [.ref y_7, .int x1]) (rest := []) F (c_J1_charAt_3b067 l hL_y_7 hK_y_7 hp H.size) (va_cwS 2 hts (wg_S wm_RJ0_495 wy_J1_charAt_3b067) rfl rfl rfl (by decide +kernel) ⟨Nat.le_of_ble_eq_true rfl, Nat.le_of_ble_eq_true rfl⟩) (w_preS hK hW) rfl rfl hl.1 rfl (lv_room (Nat.le_of_ble_eq_true rfl)) dJ0_charAt_5068e_12 ⟨Nat.le_of_ble_eq_true rfl, Nat.le_of_ble_eq_true rfl⟩) hW (fun r_8 S_9 H locs hp hW => ?_)
    obtain ⟨hX_S_9, hp⟩ := hp
    refine W.widen (k := 0) (n := 0) (by decide) (by decide) ?_
    have hE := hE.trans hX_S_9
    have hK_a0 : sK S_9 a0 = 0 := (hX_S_9.2 a0 hL_a0).1.trans hK_a0
    have hL_a0 : wM D S_9 a0 := hX_S_9.M hL_a0
    exact w_zret hx hb hr hlocks hW hp.1 ⟨hE, hp.2⟩ dJ0_charAt_5068e_15
set_option maxHeartbeats 4000000 in
set_option maxRecDepth 100000 in
theorem c_J0_charAt_5068e (l : Launch) {D : wD} {cy : Nat → ClassId} {X : va_W} {S0 : wS} {post : Int32 → wS → Prop} {a0 : Nat} {x1 : Int32} (hL_a0 : wM D S0 a0) (hK_a0 : sK S0 a0 = 0) (hp : wp_J0_charAt_5068e D post S0 a0 x1) : mI D cy X l yJ0_charAt_5068e wz_J0_charAt_5068e r_J0_charAt_5068e [.ref a0, .int x1] S0 (fun r S9 => wX D S0 S9 ∧ post r S9) := by
  intro sz
  refine Met.ofW (cc := cJ0_charAt_5068e) (maxL := 2) (ret := (some .char)) (by decide) rfl ?_
  intro p e s m args below meth c s₁ B hml hv
  obtain ⟨rfl, hsz, hP, hK, hD0, hRO⟩ := hv
  have hts := atoms_spec (ws := wz_J0_charAt_5068e) B.pre
  have hown : s.vm.findClass RJ0 = some m.cls := findClass_of_methodNamed B.named
  subst hsz
  have hD := hD0.self (sz := s.heap.size)
  have F : CallFix p m c cJ0_charAt_5068e 2 s _ wz_J0_charAt_5068e RJ0 := ⟨B.exec, B.bytes, hml, hown, hts⟩
  have hr := B.returns
  have hlocks := B.notSynchronized
  generalize hAe : va_A (wL cy X S0) s.heap.size = A at hD hK ⊢
  have hA : ∀ q, s.heap.size ≤ q → A q := fun q h => by rw [← hAe]; exact Or.inr h
  have hW : wO D cy X A s.heap S0 s.heap [] := ⟨hP, hD, va_S.rf, hA, hRO⟩
  have hl := lv_entry ([.ref a0, .int x1]) (n := 2) (Nat.le_of_ble_eq_true rfl)
  rw [lg_entry_eq]
  generalize (lg_sl ([.ref a0, .int x1]) ++ List.replicate (2 - (lg_sl ([.ref a0, .int x1])).length) Slot.unset).toArray = ls at hl ⊢
  have hl : lv_has ls 2 [(0, .ref a0), (1, .int x1)] := hl
  unfold wp_J0_charAt_5068e at hp
  exact t_J0_charAt_5068e_0 F hr hlocks hK hp hW wX.rf (lv_sub hl [0, 1] rfl) hL_a0 hK_a0
def wp_J3_checkFromToIndex_8c36e_14 (D : wD) (post : Int32 → wS → Prop)  (S : wS) (x0 : Int32) (x1 : Int32) (x2 : Int32) (g3 : Option Nat) : Prop :=
False
def wp_J3_checkFromToIndex_8c36e_0 (D : wD) (post : Int32 → wS → Prop)  (S : wS) (x0 : Int32) (x1 : Int32) (x2 : Int32) (g3 : Option Nat) : Prop :=
((x0 < 0 → wp_J3_checkFromToIndex_8c36e_14 D post S x0 x1 x2 g3) ∧
 (¬ x0 < 0 → ((x1 < x0 → wp_J3_checkFromToIndex_8c36e_14 D post S x0 x1 x2 g3) ∧
 (¬ x1 < x0 → ((x1 ≤ x2 → post x0 S) ∧
 (¬ x1 ≤ x2 → wp_J3_checkFromToIndex_8c36e_14 D post S x0 x1 x2 g3))))))
abbrev r_J3_checkFromToIndex_8c36e : Room := { frames := 0, cells := 0, slots := 0, locals := 0 }
def wp_J3_checkFromToIndex_8c36e (D : wD) (post : Int32 → wS → Prop) (S : wS) (x0 : Int32) (x1 : Int32) (x2 : Int32) (g3 : Option Nat) : Prop := wp_J3_checkFromToIndex_8c36e_0 D post S x0 x1 x2 g3
set_option maxHeartbeats 4000000 in
set_option maxRecDepth 100000 in
theorem t_J3_checkFromToIndex_8c36e_14 {p : Program} {l : Launch} {e : Env} {s : State} {m : MethodId} {args : Array Value} {below : List Frame} {meth : Method} {c : Code} {D : wD} {cy : Nat → ClassId} {X : va_W} {A : Nat → Prop} {S0 : wS} {post : Int32 → wS → Prop} (F : CallFix p m c cJ3_checkFromToIndex_8c36e 4 s args wz_J3_checkFromToIndex_8c36e RJ3) (hr : meth.sig.returnType = (some .int)) (hlocks : meth.locks = false) (hK : wK D cy A s) : ∀ {S : wS} {H : Heap} {locs : List Loc} {ls : Array Slot} {x0 : Int32} {x1 : Int32} {x2 : Int32} {g3 : Option Nat}, wp_J3_checkFromToIndex_8c36e_14 D post S x0 x1 x2 g3 → wO D cy X A s.heap S H locs → wX D S0 S → lv_has ls 4 [(0, .int x0), (1, .int x1), (2, .int x2), (3, va_rf g3)] → W p l e r_J3_checkFromToIndex_8c36e s m args below meth c H locs 0 0 (MQ below (va_Qi (fun r S9 => wX D S0 S9 ∧ post r S9) (wB D cy X A) A) args s 0 0 A) (F0 m 14 ls []) := by
  obtain ⟨hx, hb, hml, hown, hts⟩ := id F
  have hwg : ∀ w ∈ WG, w.before args s = true := fun w h => hts w (List.mem_cons_of_mem _ h)
  intro S H locs ls x0 x1 x2 g3 hp hW hE hl
  unfold wp_J3_checkFromToIndex_8c36e_14 at hp
  exact hp.elim
set_option maxHeartbeats 4000000 in
set_option maxRecDepth 100000 in
theorem t_J3_checkFromToIndex_8c36e_0 {p : Program} {l : Launch} {e : Env} {s : State} {m : MethodId} {args : Array Value} {below : List Frame} {meth : Method} {c : Code} {D : wD} {cy : Nat → ClassId} {X : va_W} {A : Nat → Prop} {S0 : wS} {post : Int32 → wS → Prop} (F : CallFix p m c cJ3_checkFromToIndex_8c36e 4 s args wz_J3_checkFromToIndex_8c36e RJ3) (hr : meth.sig.returnType = (some .int)) (hlocks : meth.locks = false) (hK : wK D cy A s) : ∀ {S : wS} {H : Heap} {locs : List Loc} {ls : Array Slot} {x0 : Int32} {x1 : Int32} {x2 : Int32} {g3 : Option Nat}, wp_J3_checkFromToIndex_8c36e_0 D post S x0 x1 x2 g3 → wO D cy X A s.heap S H locs → wX D S0 S → lv_has ls 4 [(0, .int x0), (1, .int x1), (2, .int x2), (3, va_rf g3)] → W p l e r_J3_checkFromToIndex_8c36e s m args below meth c H locs 0 0 (MQ below (va_Qi (fun r S9 => wX D S0 S9 ∧ post r S9) (wB D cy X A) A) args s 0 0 A) (F0 m 0 ls []) := by
  obtain ⟨hx, hb, hml, hown, hts⟩ := id F
  have hwg : ∀ w ∈ WG, w.before args s = true := fun w h => hts w (List.mem_cons_of_mem _ h)
  intro S H locs ls x0 x1 x2 g3 hp hW hE hl
  unfold wp_J3_checkFromToIndex_8c36e_0 at hp
  refine lv_iload_n hx hb dJ3_checkFromToIndex_8c36e_0 rfl (lv_at hl 0 rfl) ?_
  refine lv_if_lt (tgt := 14) hx hb dJ3_checkFromToIndex_8c36e_1 (by decide) (fun c_1 => ?_) (fun c_1 => ?_)
  · replace hp := hp.1 c_1
    exact t_J3_checkFromToIndex_8c36e_14 F hr hlocks hK hp hW hE (lv_sub hl [0, 1, 2, 3] rfl)
  · replace hp := hp.2 c_1
    refine lv_iload_n hx hb dJ3_checkFromToIndex_8c36e_4 rfl (lv_at hl 0 rfl) ?_
    refine lv_iload_n hx hb dJ3_checkFromToIndex_8c36e_5 rfl (lv_at hl 1 rfl) ?_
    refine lv_icmp_gt (tgt := 14) hx hb dJ3_checkFromToIndex_8c36e_6 (by decide) (fun c_2 => ?_) (fun c_2 => ?_)
    · replace hp := hp.1 c_2
      exact t_J3_checkFromToIndex_8c36e_14 F hr hlocks hK hp hW hE (lv_sub hl [0, 1, 2, 3] rfl)
    · replace hp := hp.2 c_2
      refine lv_iload_n hx hb dJ3_checkFromToIndex_8c36e_9 rfl (lv_at hl 1 rfl) ?_
      refine lv_iload_n hx hb dJ3_checkFromToIndex_8c36e_10 rfl (lv_at hl 2 rfl) ?_
      refine lv_icmp_le (tgt := 22) hx hb dJ3_checkFromToIndex_8c36e_11 (by decide) (fun c_3 => ?_) (fun c_3 => ?_)
      · replace hp := hp.1 c_3
        refine lv_iload_n hx hb dJ3_checkFromToIndex_8c36e_22 rfl (lv_at hl 0 rfl) ?_
        exact w_iret hx hb hr hlocks hW ⟨hE, hp⟩ dJ3_checkFromToIndex_8c36e_23
      · replace hp := hp.2 c_3
        exact t_J3_checkFromToIndex_8c36e_14 F hr hlocks hK hp hW hE (lv_sub hl [0, 1, 2, 3] rfl)
set_option maxHeartbeats 4000000 in
set_option maxRecDepth 100000 in
theorem c_J3_checkFromToIndex_8c36e (l : Launch) {D : wD} {cy : Nat → ClassId} {X : va_W} {S0 : wS} {post : Int32 → wS → Prop} {x0 : Int32} {x1 : Int32} {x2 : Int32} {g3 : Option Nat} (hp : wp_J3_checkFromToIndex_8c36e D post S0 x0 x1 x2 g3) : mI D cy X l yJ3_checkFromToIndex_8c36e wz_J3_checkFromToIndex_8c36e r_J3_checkFromToIndex_8c36e [.int x0, .int x1, .int x2, va_rf g3] S0 (fun r S9 => wX D S0 S9 ∧ post r S9) := by
  intro sz
  refine Met.ofW (cc := cJ3_checkFromToIndex_8c36e) (maxL := 4) (ret := (some .int)) (by decide) rfl ?_
  intro p e s m args below meth c s₁ B hml hv
  obtain ⟨rfl, hsz, hP, hK, hD0, hRO⟩ := hv
  have hts := atoms_spec (ws := wz_J3_checkFromToIndex_8c36e) B.pre
  have hown : s.vm.findClass RJ3 = some m.cls := findClass_of_methodNamed B.named
  subst hsz
  have hD := hD0.self (sz := s.heap.size)
  have F : CallFix p m c cJ3_checkFromToIndex_8c36e 4 s _ wz_J3_checkFromToIndex_8c36e RJ3 := ⟨B.exec, B.bytes, hml, hown, hts⟩
  have hr := B.returns
  have hlocks := B.notSynchronized
  generalize hAe : va_A (wL cy X S0) s.heap.size = A at hD hK ⊢
  have hA : ∀ q, s.heap.size ≤ q → A q := fun q h => by rw [← hAe]; exact Or.inr h
  have hW : wO D cy X A s.heap S0 s.heap [] := ⟨hP, hD, va_S.rf, hA, hRO⟩
  have hl : lv_has ((lg_sl ([.int x0, .int x1, .int x2, va_rf g3]) ++ List.replicate (4 - (lg_sl ([.int x0, .int x1, .int x2, va_rf g3])).length) Slot.unset).toArray) 4 [(0, .int x0), (1, .int x1), (2, .int x2), (3, va_rf g3)] := by
    cases g3 <;> exact lv_entry _ (n := 4) (Nat.le_of_ble_eq_true rfl)
  rw [lg_entry_eq]
  generalize (lg_sl ([.int x0, .int x1, .int x2, va_rf g3]) ++ List.replicate (4 - (lg_sl ([.int x0, .int x1, .int x2, va_rf g3])).length) Slot.unset).toArray = ls at hl ⊢
  have hl : lv_has ls 4 [(0, .int x0), (1, .int x1), (2, .int x2), (3, va_rf g3)] := hl
  unfold wp_J3_checkFromToIndex_8c36e at hp
  exact t_J3_checkFromToIndex_8c36e_0 F hr hlocks hK hp hW wX.rf (lv_sub hl [0, 1, 2, 3] rfl)
def wp_J0_checkBoundsBeginEnd_23922_0 (D : wD) (post : wS → Prop)  (S : wS) (x0 : Int32) (x1 : Int32) (x2 : Int32) : Prop :=
∀ g_1 : Option Nat,
wp_J3_checkFromToIndex_8c36e D (fun r_2 S_3 => 
post S_3) S x0 x1 x2 g_1
abbrev r_J0_checkBoundsBeginEnd_23922 : Room := { frames := 1, cells := 0, slots := 0, locals := 23 }
def wp_J0_checkBoundsBeginEnd_23922 (D : wD) (post : wS → Prop) (S : wS) (x0 : Int32) (x1 : Int32) (x2 : Int32) : Prop := wp_J0_checkBoundsBeginEnd_23922_0 D post S x0 x1 x2
set_option maxHeartbeats 4000000 in
set_option maxRecDepth 100000 in
theorem t_J0_checkBoundsBeginEnd_23922_0 {p : Program} {l : Launch} {e : Env} {s : State} {m : MethodId} {args : Array Value} {below : List Frame} {meth : Method} {c : Code} {D : wD} {cy : Nat → ClassId} {X : va_W} {A : Nat → Prop} {S0 : wS} {post : wS → Prop} (F : CallFix p m c cJ0_checkBoundsBeginEnd_23922 3 s args wz_J0_checkBoundsBeginEnd_23922 RJ0) (hr : meth.sig.returnType = none) (hlocks : meth.locks = false) (hK : wK D cy A s) : ∀ {S : wS} {H : Heap} {locs : List Loc} {ls : Array Slot} {x0 : Int32} {x1 : Int32} {x2 : Int32}, wp_J0_checkBoundsBeginEnd_23922_0 D post S x0 x1 x2 → wO D cy X A s.heap S H locs → wX D S0 S → lv_has ls 3 [(0, .int x0), (1, .int x1), (2, .int x2)] → W p l e r_J0_checkBoundsBeginEnd_23922 s m args below meth c H locs 0 0 (MQ below (va_Qv (fun S9 => wX D S0 S9 ∧ post S9) (wB D cy X A) A) args s 0 0 A) (F0 m 0 ls []) := by
  obtain ⟨hx, hb, hml, hown, hts⟩ := id F
  have hwg : ∀ w ∈ WG, w.before args s = true := fun w h => hts w (List.mem_cons_of_mem _ h)
  intro S H locs ls x0 x1 x2 hp hW hE hl
  unfold wp_J0_checkBoundsBeginEnd_23922_0 at hp
  refine lv_iload_n hx hb dJ0_checkBoundsBeginEnd_23922_0 rfl (lv_at hl 0 rfl) ?_
  refine lv_iload_n hx hb dJ0_checkBoundsBeginEnd_23922_1 rfl (lv_at hl 1 rfl) ?_
  refine lv_iload_n hx hb dJ0_checkBoundsBeginEnd_23922_2 rfl (lv_at hl 2 rfl) ?_
  refine w_staQ F hK hW (hwg _ wf_RJ0_1053) dJ0_checkBoundsBeginEnd_23922_3 (fun g_1 => ?_)
  replace hp := hp g_1
  refine w_callI (va_runS (As := [.int x0, .int x1, .int x2, va_rf g_1]) (rest := []) F (c_J3_checkFromToIndex_8c36e l hp H.size) (va_cwS 4 hts (wg_S wm_RJ0_1062 wy_J3_checkFromToIndex_8c36e) rfl rfl rfl (by decide +kernel) ⟨Nat.le_of_ble_eq_true rfl, Nat.le_of_ble_eq_true rfl⟩) (w_preS hK hW) rfl rfl hl.1 rfl (lv_room (Nat.le_of_ble_eq_true rfl)) dJ0_checkBoundsBeginEnd_23922_6 ⟨Nat.le_of_ble_eq_true rfl, Nat.le_of_ble_eq_true rfl⟩) hW (fun r_2 S_3 H locs hp hW => ?_)
  obtain ⟨hX_S_3, hp⟩ := hp
  refine W.widen (k := 0) (n := 0) (by decide) (by decide) ?_
  have hE := hE.trans hX_S_3
  refine lv_pop hx hb dJ0_checkBoundsBeginEnd_23922_9 rfl ?_
  exact w_vret hx hb hr hlocks hW ⟨hE, hp⟩ dJ0_checkBoundsBeginEnd_23922_10
set_option maxHeartbeats 4000000 in
set_option maxRecDepth 100000 in
theorem c_J0_checkBoundsBeginEnd_23922 (l : Launch) {D : wD} {cy : Nat → ClassId} {X : va_W} {S0 : wS} {post : wS → Prop} {x0 : Int32} {x1 : Int32} {x2 : Int32} (hp : wp_J0_checkBoundsBeginEnd_23922 D post S0 x0 x1 x2) : mV D cy X l yJ0_checkBoundsBeginEnd_23922 wz_J0_checkBoundsBeginEnd_23922 r_J0_checkBoundsBeginEnd_23922 [.int x0, .int x1, .int x2] S0 (fun S9 => wX D S0 S9 ∧ post S9) := by
  intro sz
  refine Met.ofW (cc := cJ0_checkBoundsBeginEnd_23922) (maxL := 3) (ret := none) (by decide) rfl ?_
  intro p e s m args below meth c s₁ B hml hv
  obtain ⟨rfl, hsz, hP, hK, hD0, hRO⟩ := hv
  have hts := atoms_spec (ws := wz_J0_checkBoundsBeginEnd_23922) B.pre
  have hown : s.vm.findClass RJ0 = some m.cls := findClass_of_methodNamed B.named
  subst hsz
  have hD := hD0.self (sz := s.heap.size)
  have F : CallFix p m c cJ0_checkBoundsBeginEnd_23922 3 s _ wz_J0_checkBoundsBeginEnd_23922 RJ0 := ⟨B.exec, B.bytes, hml, hown, hts⟩
  have hr := B.returns
  have hlocks := B.notSynchronized
  generalize hAe : va_A (wL cy X S0) s.heap.size = A at hD hK ⊢
  have hA : ∀ q, s.heap.size ≤ q → A q := fun q h => by rw [← hAe]; exact Or.inr h
  have hW : wO D cy X A s.heap S0 s.heap [] := ⟨hP, hD, va_S.rf, hA, hRO⟩
  have hl := lv_entry ([.int x0, .int x1, .int x2]) (n := 3) (Nat.le_of_ble_eq_true rfl)
  rw [lg_entry_eq]
  generalize (lg_sl ([.int x0, .int x1, .int x2]) ++ List.replicate (3 - (lg_sl ([.int x0, .int x1, .int x2])).length) Slot.unset).toArray = ls at hl ⊢
  have hl : lv_has ls 3 [(0, .int x0), (1, .int x1), (2, .int x2)] := hl
  unfold wp_J0_checkBoundsBeginEnd_23922 at hp
  exact t_J0_checkBoundsBeginEnd_23922_0 F hr hlocks hK hp hW wX.rf (lv_sub hl [0, 1, 2] rfl)
def wp_J3_checkFromIndexSize_8c36e_15 (D : wD) (post : Int32 → wS → Prop)  (S : wS) (x0 : Int32) (x1 : Int32) (x2 : Int32) (g3 : Option Nat) : Prop :=
False
def wp_J3_checkFromIndexSize_8c36e_0 (D : wD) (post : Int32 → wS → Prop)  (S : wS) (x0 : Int32) (x1 : Int32) (x2 : Int32) (g3 : Option Nat) : Prop :=
((((x2 ||| x0) ||| x1) < 0 → wp_J3_checkFromIndexSize_8c36e_15 D post S x0 x1 x2 g3) ∧
 (¬ ((x2 ||| x0) ||| x1) < 0 → ((x1 ≤ (x2 - x0) → post x0 S) ∧
 (¬ x1 ≤ (x2 - x0) → wp_J3_checkFromIndexSize_8c36e_15 D post S x0 x1 x2 g3))))
abbrev r_J3_checkFromIndexSize_8c36e : Room := { frames := 0, cells := 0, slots := 0, locals := 0 }
def wp_J3_checkFromIndexSize_8c36e (D : wD) (post : Int32 → wS → Prop) (S : wS) (x0 : Int32) (x1 : Int32) (x2 : Int32) (g3 : Option Nat) : Prop := wp_J3_checkFromIndexSize_8c36e_0 D post S x0 x1 x2 g3
set_option maxHeartbeats 4000000 in
set_option maxRecDepth 100000 in
theorem t_J3_checkFromIndexSize_8c36e_15 {p : Program} {l : Launch} {e : Env} {s : State} {m : MethodId} {args : Array Value} {below : List Frame} {meth : Method} {c : Code} {D : wD} {cy : Nat → ClassId} {X : va_W} {A : Nat → Prop} {S0 : wS} {post : Int32 → wS → Prop} (F : CallFix p m c cJ3_checkFromIndexSize_8c36e 4 s args wz_J3_checkFromIndexSize_8c36e RJ3) (hr : meth.sig.returnType = (some .int)) (hlocks : meth.locks = false) (hK : wK D cy A s) : ∀ {S : wS} {H : Heap} {locs : List Loc} {ls : Array Slot} {x0 : Int32} {x1 : Int32} {x2 : Int32} {g3 : Option Nat}, wp_J3_checkFromIndexSize_8c36e_15 D post S x0 x1 x2 g3 → wO D cy X A s.heap S H locs → wX D S0 S → lv_has ls 4 [(0, .int x0), (1, .int x1), (2, .int x2), (3, va_rf g3)] → W p l e r_J3_checkFromIndexSize_8c36e s m args below meth c H locs 0 0 (MQ below (va_Qi (fun r S9 => wX D S0 S9 ∧ post r S9) (wB D cy X A) A) args s 0 0 A) (F0 m 15 ls []) := by
  obtain ⟨hx, hb, hml, hown, hts⟩ := id F
  have hwg : ∀ w ∈ WG, w.before args s = true := fun w h => hts w (List.mem_cons_of_mem _ h)
  intro S H locs ls x0 x1 x2 g3 hp hW hE hl
  unfold wp_J3_checkFromIndexSize_8c36e_15 at hp
  exact hp.elim
set_option maxHeartbeats 4000000 in
set_option maxRecDepth 100000 in
theorem t_J3_checkFromIndexSize_8c36e_0 {p : Program} {l : Launch} {e : Env} {s : State} {m : MethodId} {args : Array Value} {below : List Frame} {meth : Method} {c : Code} {D : wD} {cy : Nat → ClassId} {X : va_W} {A : Nat → Prop} {S0 : wS} {post : Int32 → wS → Prop} (F : CallFix p m c cJ3_checkFromIndexSize_8c36e 4 s args wz_J3_checkFromIndexSize_8c36e RJ3) (hr : meth.sig.returnType = (some .int)) (hlocks : meth.locks = false) (hK : wK D cy A s) : ∀ {S : wS} {H : Heap} {locs : List Loc} {ls : Array Slot} {x0 : Int32} {x1 : Int32} {x2 : Int32} {g3 : Option Nat}, wp_J3_checkFromIndexSize_8c36e_0 D post S x0 x1 x2 g3 → wO D cy X A s.heap S H locs → wX D S0 S → lv_has ls 4 [(0, .int x0), (1, .int x1), (2, .int x2), (3, va_rf g3)] → W p l e r_J3_checkFromIndexSize_8c36e s m args below meth c H locs 0 0 (MQ below (va_Qi (fun r S9 => wX D S0 S9 ∧ post r S9) (wB D cy X A) A) args s 0 0 A) (F0 m 0 ls []) := by
  obtain ⟨hx, hb, hml, hown, hts⟩ := id F
  have hwg : ∀ w ∈ WG, w.before args s = true := fun w h => hts w (List.mem_cons_of_mem _ h)
  intro S H locs ls x0 x1 x2 g3 hp hW hE hl
  unfold wp_J3_checkFromIndexSize_8c36e_0 at hp
  refine lv_iload_n hx hb dJ3_checkFromIndexSize_8c36e_0 rfl (lv_at hl 2 rfl) ?_
  refine lv_iload_n hx hb dJ3_checkFromIndexSize_8c36e_1 rfl (lv_at hl 0 rfl) ?_
  refine lv_ior hx hb dJ3_checkFromIndexSize_8c36e_2 ?_
  refine lv_iload_n hx hb dJ3_checkFromIndexSize_8c36e_3 rfl (lv_at hl 1 rfl) ?_
  refine lv_ior hx hb dJ3_checkFromIndexSize_8c36e_4 ?_
  refine lv_if_lt (tgt := 15) hx hb dJ3_checkFromIndexSize_8c36e_5 (by decide) (fun c_1 => ?_) (fun c_1 => ?_)
  · replace hp := hp.1 c_1
    exact t_J3_checkFromIndexSize_8c36e_15 F hr hlocks hK hp hW hE (lv_sub hl [0, 1, 2, 3] rfl)
  · replace hp := hp.2 c_1
    refine lv_iload_n hx hb dJ3_checkFromIndexSize_8c36e_8 rfl (lv_at hl 1 rfl) ?_
    refine lv_iload_n hx hb dJ3_checkFromIndexSize_8c36e_9 rfl (lv_at hl 2 rfl) ?_
    refine lv_iload_n hx hb dJ3_checkFromIndexSize_8c36e_10 rfl (lv_at hl 0 rfl) ?_
    refine lv_isub hx hb dJ3_checkFromIndexSize_8c36e_11 ?_
    refine lv_icmp_le (tgt := 23) hx hb dJ3_checkFromIndexSize_8c36e_12 (by decide) (fun c_2 => ?_) (fun c_2 => ?_)
    · replace hp := hp.1 c_2
      refine lv_iload_n hx hb dJ3_checkFromIndexSize_8c36e_23 rfl (lv_at hl 0 rfl) ?_
      exact w_iret hx hb hr hlocks hW ⟨hE, hp⟩ dJ3_checkFromIndexSize_8c36e_24
    · replace hp := hp.2 c_2
      exact t_J3_checkFromIndexSize_8c36e_15 F hr hlocks hK hp hW hE (lv_sub hl [0, 1, 2, 3] rfl)
set_option maxHeartbeats 4000000 in
set_option maxRecDepth 100000 in
theorem c_J3_checkFromIndexSize_8c36e (l : Launch) {D : wD} {cy : Nat → ClassId} {X : va_W} {S0 : wS} {post : Int32 → wS → Prop} {x0 : Int32} {x1 : Int32} {x2 : Int32} {g3 : Option Nat} (hp : wp_J3_checkFromIndexSize_8c36e D post S0 x0 x1 x2 g3) : mI D cy X l yJ3_checkFromIndexSize_8c36e wz_J3_checkFromIndexSize_8c36e r_J3_checkFromIndexSize_8c36e [.int x0, .int x1, .int x2, va_rf g3] S0 (fun r S9 => wX D S0 S9 ∧ post r S9) := by
  intro sz
  refine Met.ofW (cc := cJ3_checkFromIndexSize_8c36e) (maxL := 4) (ret := (some .int)) (by decide) rfl ?_
  intro p e s m args below meth c s₁ B hml hv
  obtain ⟨rfl, hsz, hP, hK, hD0, hRO⟩ := hv
  have hts := atoms_spec (ws := wz_J3_checkFromIndexSize_8c36e) B.pre
  have hown : s.vm.findClass RJ3 = some m.cls := findClass_of_methodNamed B.named
  subst hsz
  have hD := hD0.self (sz := s.heap.size)
  have F : CallFix p m c cJ3_checkFromIndexSize_8c36e 4 s _ wz_J3_checkFromIndexSize_8c36e RJ3 := ⟨B.exec, B.bytes, hml, hown, hts⟩
  have hr := B.returns
  have hlocks := B.notSynchronized
  generalize hAe : va_A (wL cy X S0) s.heap.size = A at hD hK ⊢
  have hA : ∀ q, s.heap.size ≤ q → A q := fun q h => by rw [← hAe]; exact Or.inr h
  have hW : wO D cy X A s.heap S0 s.heap [] := ⟨hP, hD, va_S.rf, hA, hRO⟩
  have hl : lv_has ((lg_sl ([.int x0, .int x1, .int x2, va_rf g3]) ++ List.replicate (4 - (lg_sl ([.int x0, .int x1, .int x2, va_rf g3])).length) Slot.unset).toArray) 4 [(0, .int x0), (1, .int x1), (2, .int x2), (3, va_rf g3)] := by
    cases g3 <;> exact lv_entry _ (n := 4) (Nat.le_of_ble_eq_true rfl)
  rw [lg_entry_eq]
  generalize (lg_sl ([.int x0, .int x1, .int x2, va_rf g3]) ++ List.replicate (4 - (lg_sl ([.int x0, .int x1, .int x2, va_rf g3])).length) Slot.unset).toArray = ls at hl ⊢
  have hl : lv_has ls 4 [(0, .int x0), (1, .int x1), (2, .int x2), (3, va_rf g3)] := hl
  unfold wp_J3_checkFromIndexSize_8c36e at hp
  exact t_J3_checkFromIndexSize_8c36e_0 F hr hlocks hK hp hW wX.rf (lv_sub hl [0, 1, 2, 3] rfl)
def wp_J0_checkBoundsOffCount_cabcc_0 (D : wD) (post : Int32 → wS → Prop)  (S : wS) (x0 : Int32) (x1 : Int32) (x2 : Int32) : Prop :=
∀ g_1 : Option Nat,
wp_J3_checkFromIndexSize_8c36e D (fun r_2 S_3 => 
post r_2 S_3) S x0 x1 x2 g_1
abbrev r_J0_checkBoundsOffCount_cabcc : Room := { frames := 1, cells := 0, slots := 0, locals := 23 }
def wp_J0_checkBoundsOffCount_cabcc (D : wD) (post : Int32 → wS → Prop) (S : wS) (x0 : Int32) (x1 : Int32) (x2 : Int32) : Prop := wp_J0_checkBoundsOffCount_cabcc_0 D post S x0 x1 x2
set_option maxHeartbeats 4000000 in
set_option maxRecDepth 100000 in
theorem t_J0_checkBoundsOffCount_cabcc_0 {p : Program} {l : Launch} {e : Env} {s : State} {m : MethodId} {args : Array Value} {below : List Frame} {meth : Method} {c : Code} {D : wD} {cy : Nat → ClassId} {X : va_W} {A : Nat → Prop} {S0 : wS} {post : Int32 → wS → Prop} (F : CallFix p m c cJ0_checkBoundsOffCount_cabcc 3 s args wz_J0_checkBoundsOffCount_cabcc RJ0) (hr : meth.sig.returnType = (some .int)) (hlocks : meth.locks = false) (hK : wK D cy A s) : ∀ {S : wS} {H : Heap} {locs : List Loc} {ls : Array Slot} {x0 : Int32} {x1 : Int32} {x2 : Int32}, wp_J0_checkBoundsOffCount_cabcc_0 D post S x0 x1 x2 → wO D cy X A s.heap S H locs → wX D S0 S → lv_has ls 3 [(0, .int x0), (1, .int x1), (2, .int x2)] → W p l e r_J0_checkBoundsOffCount_cabcc s m args below meth c H locs 0 0 (MQ below (va_Qi (fun r S9 => wX D S0 S9 ∧ post r S9) (wB D cy X A) A) args s 0 0 A) (F0 m 0 ls []) := by
  obtain ⟨hx, hb, hml, hown, hts⟩ := id F
  have hwg : ∀ w ∈ WG, w.before args s = true := fun w h => hts w (List.mem_cons_of_mem _ h)
  intro S H locs ls x0 x1 x2 hp hW hE hl
  unfold wp_J0_checkBoundsOffCount_cabcc_0 at hp
  refine lv_iload_n hx hb dJ0_checkBoundsOffCount_cabcc_0 rfl (lv_at hl 0 rfl) ?_
  refine lv_iload_n hx hb dJ0_checkBoundsOffCount_cabcc_1 rfl (lv_at hl 1 rfl) ?_
  refine lv_iload_n hx hb dJ0_checkBoundsOffCount_cabcc_2 rfl (lv_at hl 2 rfl) ?_
  refine w_staQ F hK hW (hwg _ wf_RJ0_1053) dJ0_checkBoundsOffCount_cabcc_3 (fun g_1 => ?_)
  replace hp := hp g_1
  refine w_callI (va_runS (As := [.int x0, .int x1, .int x2, va_rf g_1]) (rest := []) F (c_J3_checkFromIndexSize_8c36e l hp H.size) (va_cwS 4 hts (wg_S wm_RJ0_1065 wy_J3_checkFromIndexSize_8c36e) rfl rfl rfl (by decide +kernel) ⟨Nat.le_of_ble_eq_true rfl, Nat.le_of_ble_eq_true rfl⟩) (w_preS hK hW) rfl rfl hl.1 rfl (lv_room (Nat.le_of_ble_eq_true rfl)) dJ0_checkBoundsOffCount_cabcc_6 ⟨Nat.le_of_ble_eq_true rfl, Nat.le_of_ble_eq_true rfl⟩) hW (fun r_2 S_3 H locs hp hW => ?_)
  obtain ⟨hX_S_3, hp⟩ := hp
  refine W.widen (k := 0) (n := 0) (by decide) (by decide) ?_
  have hE := hE.trans hX_S_3
  exact w_iret hx hb hr hlocks hW ⟨hE, hp⟩ dJ0_checkBoundsOffCount_cabcc_9
set_option maxHeartbeats 4000000 in
set_option maxRecDepth 100000 in
theorem c_J0_checkBoundsOffCount_cabcc (l : Launch) {D : wD} {cy : Nat → ClassId} {X : va_W} {S0 : wS} {post : Int32 → wS → Prop} {x0 : Int32} {x1 : Int32} {x2 : Int32} (hp : wp_J0_checkBoundsOffCount_cabcc D post S0 x0 x1 x2) : mI D cy X l yJ0_checkBoundsOffCount_cabcc wz_J0_checkBoundsOffCount_cabcc r_J0_checkBoundsOffCount_cabcc [.int x0, .int x1, .int x2] S0 (fun r S9 => wX D S0 S9 ∧ post r S9) := by
  intro sz
  refine Met.ofW (cc := cJ0_checkBoundsOffCount_cabcc) (maxL := 3) (ret := (some .int)) (by decide) rfl ?_
  intro p e s m args below meth c s₁ B hml hv
  obtain ⟨rfl, hsz, hP, hK, hD0, hRO⟩ := hv
  have hts := atoms_spec (ws := wz_J0_checkBoundsOffCount_cabcc) B.pre
  have hown : s.vm.findClass RJ0 = some m.cls := findClass_of_methodNamed B.named
  subst hsz
  have hD := hD0.self (sz := s.heap.size)
  have F : CallFix p m c cJ0_checkBoundsOffCount_cabcc 3 s _ wz_J0_checkBoundsOffCount_cabcc RJ0 := ⟨B.exec, B.bytes, hml, hown, hts⟩
  have hr := B.returns
  have hlocks := B.notSynchronized
  generalize hAe : va_A (wL cy X S0) s.heap.size = A at hD hK ⊢
  have hA : ∀ q, s.heap.size ≤ q → A q := fun q h => by rw [← hAe]; exact Or.inr h
  have hW : wO D cy X A s.heap S0 s.heap [] := ⟨hP, hD, va_S.rf, hA, hRO⟩
  have hl := lv_entry ([.int x0, .int x1, .int x2]) (n := 3) (Nat.le_of_ble_eq_true rfl)
  rw [lg_entry_eq]
  generalize (lg_sl ([.int x0, .int x1, .int x2]) ++ List.replicate (3 - (lg_sl ([.int x0, .int x1, .int x2])).length) Slot.unset).toArray = ls at hl ⊢
  have hl : lv_has ls 3 [(0, .int x0), (1, .int x1), (2, .int x2)] := hl
  unfold wp_J0_checkBoundsOffCount_cabcc at hp
  exact t_J0_checkBoundsOffCount_cabcc_0 F hr hlocks hK hp hW wX.rf (lv_sub hl [0, 1, 2] rfl)
def wp_J0_coder_7d493_14 (D : wD) (post : Int32 → wS → Prop)  (S : wS) (t0 : Int32) : Prop :=
narrow .byte (.int t0) = .int t0 ∧ post t0 S
def wp_J0_coder_7d493_0 (D : wD) (post : Int32 → wS → Prop)  (S : wS) (a0 : Nat) : Prop :=
(((1 : Int32) = 0 → wp_J0_coder_7d493_14 D post S (1 : Int32)) ∧
 (¬ (1 : Int32) = 0 → wp_J0_coder_7d493_14 D post S (sI S a0 1)))
abbrev r_J0_coder_7d493 : Room := { frames := 0, cells := 0, slots := 0, locals := 0 }
def wp_J0_coder_7d493 (D : wD) (post : Int32 → wS → Prop) (S : wS) (a0 : Nat) : Prop := wp_J0_coder_7d493_0 D post S a0
set_option maxHeartbeats 4000000 in
set_option maxRecDepth 100000 in
theorem t_J0_coder_7d493_14 {p : Program} {l : Launch} {e : Env} {s : State} {m : MethodId} {args : Array Value} {below : List Frame} {meth : Method} {c : Code} {D : wD} {cy : Nat → ClassId} {X : va_W} {A : Nat → Prop} {S0 : wS} {post : Int32 → wS → Prop} (F : CallFix p m c cJ0_coder_7d493 1 s args wz_J0_coder_7d493 RJ0) (hr : meth.sig.returnType = (some .byte)) (hlocks : meth.locks = false) (hK : wK D cy A s) : ∀ {S : wS} {H : Heap} {locs : List Loc} {ls : Array Slot} {t0 : Int32}, wp_J0_coder_7d493_14 D post S t0 → wO D cy X A s.heap S H locs → wX D S0 S → lv_has ls 1 [] → W p l e r_J0_coder_7d493 s m args below meth c H locs 0 0 (MQ below (va_Qi (fun r S9 => wX D S0 S9 ∧ post r S9) (wB D cy X A) A) args s 0 0 A) (F0 m 14 ls [.int t0]) := by
  obtain ⟨hx, hb, hml, hown, hts⟩ := id F
  have hwg : ∀ w ∈ WG, w.before args s = true := fun w h => hts w (List.mem_cons_of_mem _ h)
  intro S H locs ls t0 hp hW hE hl
  unfold wp_J0_coder_7d493_14 at hp
  exact w_zret hx hb hr hlocks hW hp.1 ⟨hE, hp.2⟩ dJ0_coder_7d493_14
set_option maxHeartbeats 4000000 in
set_option maxRecDepth 100000 in
theorem t_J0_coder_7d493_0 {p : Program} {l : Launch} {e : Env} {s : State} {m : MethodId} {args : Array Value} {below : List Frame} {meth : Method} {c : Code} {D : wD} {cy : Nat → ClassId} {X : va_W} {A : Nat → Prop} {S0 : wS} {post : Int32 → wS → Prop} (F : CallFix p m c cJ0_coder_7d493 1 s args wz_J0_coder_7d493 RJ0) (hr : meth.sig.returnType = (some .byte)) (hlocks : meth.locks = false) (hK : wK D cy A s) : ∀ {S : wS} {H : Heap} {locs : List Loc} {ls : Array Slot} {a0 : Nat}, wp_J0_coder_7d493_0 D post S a0 → wO D cy X A s.heap S H locs → wX D S0 S → lv_has ls 1 [(0, .ref a0)] → wM D S a0 → sK S a0 = 0 → W p l e r_J0_coder_7d493 s m args below meth c H locs 0 0 (MQ below (va_Qi (fun r S9 => wX D S0 S9 ∧ post r S9) (wB D cy X A) A) args s 0 0 A) (F0 m 0 ls []) := by
  obtain ⟨hx, hb, hml, hown, hts⟩ := id F
  have hwg : ∀ w ∈ WG, w.before args s = true := fun w h => hts w (List.mem_cons_of_mem _ h)
  have i_0 : ∀ w ∈ u_ws RJ0 TJ0 4, w ∈ wz_J0_coder_7d493 := fun w h => List.mem_cons_of_mem _ (wu_0 w h)
  have k_15 := hwg _ wf_RJ0_15
  intro S H locs ls a0 hp hW hE hl hL_a0 hK_a0
  unfold wp_J0_coder_7d493_0 at hp
  refine w_staI F hK hW (show ("java/lang/String", "COMPACT_STRINGS", "Z", (1 : Int32)) ∈ wSi by decide +kernel) (hwg _ wf_RJ0_38) dJ0_coder_7d493_0 ?_
  refine lv_if_eq (tgt := 13) hx hb dJ0_coder_7d493_3 (by decide) (fun c_1 => ?_) (fun c_1 => ?_)
  · replace hp := hp.1 c_1
    refine lv_iconst (v := 1) hx hb dJ0_coder_7d493_13 (by decide) ?_
    exact t_J0_coder_7d493_14 F hr hlocks hK hp hW hE (lv_sub hl [] rfl)
  · replace hp := hp.2 c_1
    refine lv_aload_n hx hb dJ0_coder_7d493_6 rfl (lv_at hl 0 rfl) ?_
    refine w_get (k := 0) (f := 1) (T := TJ0) (v := .int (sI S a0 1)) F hK hW hL_a0 hK_a0 (by decide) rfl rfl (by decide) i_0 k_15 rfl dJ0_coder_7d493_7 ?_
    refine lv_goto (tgt := 14) hx hb dJ0_coder_7d493_10 (by decide) ?_
    exact t_J0_coder_7d493_14 F hr hlocks hK hp hW hE (lv_sub hl [] rfl)
set_option maxHeartbeats 4000000 in
set_option maxRecDepth 100000 in
theorem c_J0_coder_7d493 (l : Launch) {D : wD} {cy : Nat → ClassId} {X : va_W} {S0 : wS} {post : Int32 → wS → Prop} {a0 : Nat} (hL_a0 : wM D S0 a0) (hK_a0 : sK S0 a0 = 0) (hp : wp_J0_coder_7d493 D post S0 a0) : mI D cy X l yJ0_coder_7d493 wz_J0_coder_7d493 r_J0_coder_7d493 [.ref a0] S0 (fun r S9 => wX D S0 S9 ∧ post r S9) := by
  intro sz
  refine Met.ofW (cc := cJ0_coder_7d493) (maxL := 1) (ret := (some .byte)) (by decide) rfl ?_
  intro p e s m args below meth c s₁ B hml hv
  obtain ⟨rfl, hsz, hP, hK, hD0, hRO⟩ := hv
  have hts := atoms_spec (ws := wz_J0_coder_7d493) B.pre
  have hown : s.vm.findClass RJ0 = some m.cls := findClass_of_methodNamed B.named
  subst hsz
  have hD := hD0.self (sz := s.heap.size)
  have F : CallFix p m c cJ0_coder_7d493 1 s _ wz_J0_coder_7d493 RJ0 := ⟨B.exec, B.bytes, hml, hown, hts⟩
  have hr := B.returns
  have hlocks := B.notSynchronized
  generalize hAe : va_A (wL cy X S0) s.heap.size = A at hD hK ⊢
  have hA : ∀ q, s.heap.size ≤ q → A q := fun q h => by rw [← hAe]; exact Or.inr h
  have hW : wO D cy X A s.heap S0 s.heap [] := ⟨hP, hD, va_S.rf, hA, hRO⟩
  have hl := lv_entry ([.ref a0]) (n := 1) (Nat.le_of_ble_eq_true rfl)
  rw [lg_entry_eq]
  generalize (lg_sl ([.ref a0]) ++ List.replicate (1 - (lg_sl ([.ref a0])).length) Slot.unset).toArray = ls at hl ⊢
  have hl : lv_has ls 1 [(0, .ref a0)] := hl
  unfold wp_J0_coder_7d493 at hp
  exact t_J0_coder_7d493_0 F hr hlocks hK hp hW wX.rf (lv_sub hl [0] rfl) hL_a0 hK_a0
def wp_J2_checkBoundsOffCount_d044e_0 (D : wD) (post : wS → Prop)  (S : wS) (x0 : Int32) (x1 : Int32) (a2 : Nat) : Prop :=
wp_J2_length_9d52b D (fun r_1 S_2 => 
wp_J0_checkBoundsOffCount_cabcc D (fun r_3 S_4 => 
post S_4) S_2 x0 x1 r_1) S a2
abbrev r_J2_checkBoundsOffCount_d044e : Room := { frames := 2, cells := 0, slots := 0, locals := 45 }
def wp_J2_checkBoundsOffCount_d044e (D : wD) (post : wS → Prop) (S : wS) (x0 : Int32) (x1 : Int32) (a2 : Nat) : Prop := wp_J2_checkBoundsOffCount_d044e_0 D post S x0 x1 a2
set_option maxHeartbeats 4000000 in
set_option maxRecDepth 100000 in
theorem t_J2_checkBoundsOffCount_d044e_0 {p : Program} {l : Launch} {e : Env} {s : State} {m : MethodId} {args : Array Value} {below : List Frame} {meth : Method} {c : Code} {D : wD} {cy : Nat → ClassId} {X : va_W} {A : Nat → Prop} {S0 : wS} {post : wS → Prop} (F : CallFix p m c cJ2_checkBoundsOffCount_d044e 3 s args wz_J2_checkBoundsOffCount_d044e RJ2) (hr : meth.sig.returnType = none) (hlocks : meth.locks = false) (hK : wK D cy A s) : ∀ {S : wS} {H : Heap} {locs : List Loc} {ls : Array Slot} {x0 : Int32} {x1 : Int32} {a2 : Nat}, wp_J2_checkBoundsOffCount_d044e_0 D post S x0 x1 a2 → wO D cy X A s.heap S H locs → wX D S0 S → lv_has ls 3 [(0, .int x0), (1, .int x1), (2, .ref a2)] → wM D S a2 → sK S a2 = 20 → W p l e r_J2_checkBoundsOffCount_d044e s m args below meth c H locs 0 0 (MQ below (va_Qv (fun S9 => wX D S0 S9 ∧ post S9) (wB D cy X A) A) args s 0 0 A) (F0 m 0 ls []) := by
  obtain ⟨hx, hb, hml, hown, hts⟩ := id F
  have hwg : ∀ w ∈ WG, w.before args s = true := fun w h => hts w (List.mem_cons_of_mem _ h)
  intro S H locs ls x0 x1 a2 hp hW hE hl hL_a2 hK_a2
  unfold wp_J2_checkBoundsOffCount_d044e_0 at hp
  refine lv_iload_n hx hb dJ2_checkBoundsOffCount_d044e_0 rfl (lv_at hl 0 rfl) ?_
  refine lv_iload_n hx hb dJ2_checkBoundsOffCount_d044e_1 rfl (lv_at hl 1 rfl) ?_
  refine lv_aload_n hx hb dJ2_checkBoundsOffCount_d044e_2 rfl (lv_at hl 2 rfl) ?_
  refine w_callI (va_runS (As := [.ref a2]) (rest := [.int x1, .int x0]) F (c_J2_length_9d52b l hL_a2 hK_a2 hp H.size) (va_cwS 1 hts (wg_S wm_RJ2_48 wy_J2_length_9d52b) rfl rfl rfl (by decide +kernel) ⟨Nat.le_of_ble_eq_true rfl, Nat.le_of_ble_eq_true rfl⟩) (w_preS hK hW) rfl rfl hl.1 rfl (lv_room (Nat.le_of_ble_eq_true rfl)) dJ2_checkBoundsOffCount_d044e_3 ⟨Nat.le_of_ble_eq_true rfl, Nat.le_of_ble_eq_true rfl⟩) hW (fun r_1 S_2 H locs hp hW => ?_)
  obtain ⟨hX_S_2, hp⟩ := hp
  refine W.widen (k := 0) (n := 0) (by decide) (by decide) ?_
  have hE := hE.trans hX_S_2
  have hK_a2 : sK S_2 a2 = 20 := (hX_S_2.2 a2 hL_a2).1.trans hK_a2
  have hL_a2 : wM D S_2 a2 := hX_S_2.M hL_a2
  refine w_callI (va_runS (As := [.int x0, .int x1, .int r_1]) (rest := []) F (c_J0_checkBoundsOffCount_cabcc l hp H.size) (va_cwS 3 hts (wg_S wm_RJ2_419 wy_J0_checkBoundsOffCount_cabcc) rfl rfl rfl (by decide +kernel) ⟨Nat.le_of_ble_eq_true rfl, Nat.le_of_ble_eq_true rfl⟩) (w_preS hK hW) rfl rfl hl.1 rfl (lv_room (Nat.le_of_ble_eq_true rfl)) dJ2_checkBoundsOffCount_d044e_6 ⟨Nat.le_of_ble_eq_true rfl, Nat.le_of_ble_eq_true rfl⟩) hW (fun r_3 S_4 H locs hp hW => ?_)
  obtain ⟨hX_S_4, hp⟩ := hp
  refine W.widen (k := 0) (n := 0) (by decide) (by decide) ?_
  have hE := hE.trans hX_S_4
  have hK_a2 : sK S_4 a2 = 20 := (hX_S_4.2 a2 hL_a2).1.trans hK_a2
  have hL_a2 : wM D S_4 a2 := hX_S_4.M hL_a2
  refine lv_pop hx hb dJ2_checkBoundsOffCount_d044e_9 rfl ?_
  exact w_vret hx hb hr hlocks hW ⟨hE, hp⟩ dJ2_checkBoundsOffCount_d044e_10
set_option maxHeartbeats 4000000 in
set_option maxRecDepth 100000 in
theorem c_J2_checkBoundsOffCount_d044e (l : Launch) {D : wD} {cy : Nat → ClassId} {X : va_W} {S0 : wS} {post : wS → Prop} {x0 : Int32} {x1 : Int32} {a2 : Nat} (hL_a2 : wM D S0 a2) (hK_a2 : sK S0 a2 = 20) (hp : wp_J2_checkBoundsOffCount_d044e D post S0 x0 x1 a2) : mV D cy X l yJ2_checkBoundsOffCount_d044e wz_J2_checkBoundsOffCount_d044e r_J2_checkBoundsOffCount_d044e [.int x0, .int x1, .ref a2] S0 (fun S9 => wX D S0 S9 ∧ post S9) := by
  intro sz
  refine Met.ofW (cc := cJ2_checkBoundsOffCount_d044e) (maxL := 3) (ret := none) (by decide) rfl ?_
  intro p e s m args below meth c s₁ B hml hv
  obtain ⟨rfl, hsz, hP, hK, hD0, hRO⟩ := hv
  have hts := atoms_spec (ws := wz_J2_checkBoundsOffCount_d044e) B.pre
  have hown : s.vm.findClass RJ2 = some m.cls := findClass_of_methodNamed B.named
  subst hsz
  have hD := hD0.self (sz := s.heap.size)
  have F : CallFix p m c cJ2_checkBoundsOffCount_d044e 3 s _ wz_J2_checkBoundsOffCount_d044e RJ2 := ⟨B.exec, B.bytes, hml, hown, hts⟩
  have hr := B.returns
  have hlocks := B.notSynchronized
  generalize hAe : va_A (wL cy X S0) s.heap.size = A at hD hK ⊢
  have hA : ∀ q, s.heap.size ≤ q → A q := fun q h => by rw [← hAe]; exact Or.inr h
  have hW : wO D cy X A s.heap S0 s.heap [] := ⟨hP, hD, va_S.rf, hA, hRO⟩
  have hl := lv_entry ([.int x0, .int x1, .ref a2]) (n := 3) (Nat.le_of_ble_eq_true rfl)
  rw [lg_entry_eq]
  generalize (lg_sl ([.int x0, .int x1, .ref a2]) ++ List.replicate (3 - (lg_sl ([.int x0, .int x1, .ref a2])).length) Slot.unset).toArray = ls at hl ⊢
  have hl : lv_has ls 3 [(0, .int x0), (1, .int x1), (2, .ref a2)] := hl
  unfold wp_J2_checkBoundsOffCount_d044e at hp
  exact t_J2_checkBoundsOffCount_d044e_0 F hr hlocks hK hp hW wX.rf (lv_sub hl [0, 1, 2] rfl) hL_a2 hK_a2
def wp_J2_putChar_b72d1_28 (D : wD) (post : wS → Prop)  (S : wS) (a0 : Nat) (x1 : Int32) (x2 : Int32) : Prop :=
∀ x_1 : Int32, x_1 = (x1 <<< ((1 : Int32) &&& 31)) →
∀ x_2 : Int32, x_2 = x_1 + 1 →
a0 ∈ sL S ∧ vp_in x_1 (sN S a0) ∧
∀ S_4 : wS, S_4 = uI S a0 (x_1).toNatClampNeg (vp_nar .byte ((Int32.toInt8 (x2 >>> ((0 : Int32) &&& 31))).toInt32)) →
a0 ∈ sL S_4 ∧ vp_in x_2 (sN S_4 a0) ∧
∀ S_6 : wS, S_6 = uI S_4 a0 (x_2).toNatClampNeg (vp_nar .byte ((Int32.toInt8 (x2 >>> ((8 : Int32) &&& 31))).toInt32)) →
post S_6
def wp_J2_putChar_b72d1_18 (D : wD) (post : wS → Prop)  (S : wS) : Prop :=
False
def wp_J2_putChar_b72d1_0 (D : wD) (post : wS → Prop)  (S : wS) (a0 : Nat) (x1 : Int32) (x2 : Int32) : Prop :=
((¬ (1 : Int32) = 0 → wp_J2_putChar_b72d1_28 D post S a0 x1 x2) ∧
 ((1 : Int32) = 0 → ((x1 < 0 → wp_J2_putChar_b72d1_18 D post S) ∧
 (¬ x1 < 0 → wp_J2_length_9d52b D (fun r_3 S_4 => 
((x1 < r_3 → wp_J2_putChar_b72d1_28 D post S_4 a0 x1 x2) ∧
 (¬ x1 < r_3 → wp_J2_putChar_b72d1_18 D post S_4))) S a0))))
abbrev r_J2_putChar_b72d1 : Room := { frames := 1, cells := 0, slots := 0, locals := 20 }
def wp_J2_putChar_b72d1 (D : wD) (post : wS → Prop) (S : wS) (a0 : Nat) (x1 : Int32) (x2 : Int32) : Prop := wp_J2_putChar_b72d1_0 D post S a0 x1 x2
set_option maxHeartbeats 4000000 in
set_option maxRecDepth 100000 in
theorem t_J2_putChar_b72d1_28 {p : Program} {l : Launch} {e : Env} {s : State} {m : MethodId} {args : Array Value} {below : List Frame} {meth : Method} {c : Code} {D : wD} {cy : Nat → ClassId} {X : va_W} {A : Nat → Prop} {S0 : wS} {post : wS → Prop} (F : CallFix p m c cJ2_putChar_b72d1 3 s args wz_J2_putChar_b72d1 RJ2) (hr : meth.sig.returnType = none) (hlocks : meth.locks = false) (hK : wK D cy A s) : ∀ {S : wS} {H : Heap} {locs : List Loc} {ls : Array Slot} {a0 : Nat} {x1 : Int32} {x2 : Int32}, wp_J2_putChar_b72d1_28 D post S a0 x1 x2 → wO D cy X A s.heap S H locs → wX D S0 S → lv_has ls 3 [(0, .ref a0), (1, .int x1), (2, .int x2)] → wM D S a0 → sK S a0 = 20 → W p l e r_J2_putChar_b72d1 s m args below meth c H locs 0 0 (MQ below (va_Qv (fun S9 => wX D S0 S9 ∧ post S9) (wB D cy X A) A) args s 0 0 A) (F0 m 28 ls []) := by
  obtain ⟨hx, hb, hml, hown, hts⟩ := id F
  have hwg : ∀ w ∈ WG, w.before args s = true := fun w h => hts w (List.mem_cons_of_mem _ h)
  intro S H locs ls a0 x1 x2 hp hW hE hl hL_a0 hK_a0
  unfold wp_J2_putChar_b72d1_28 at hp
  refine lv_iload_n hx hb dJ2_putChar_b72d1_28 rfl (lv_at hl 1 rfl) ?_
  refine lv_iconst (v := 1) hx hb dJ2_putChar_b72d1_29 (by decide) ?_
  refine lv_ishl hx hb dJ2_putChar_b72d1_30 ?_
  refine lv_topi (fun x_1 ex_1 => ?_)
  replace hp := hp x_1 ex_1
  refine lv_istore_n (lv' := [(1, .int x_1), (0, .ref a0), (2, .int x2)]) hx hb dJ2_putChar_b72d1_31 rfl hl (by decide) rfl (fun ls hl => ?_)
  refine lv_aload_n hx hb dJ2_putChar_b72d1_32 rfl (lv_at hl 1 rfl) ?_
  refine lv_iload_n hx hb dJ2_putChar_b72d1_33 rfl (lv_at hl 0 rfl) ?_
  obtain ⟨x_2, ex_2⟩ : ∃ z : Int32, z = x_1 + 1 := ⟨_, rfl⟩
  replace hp := hp x_2 ex_2
  refine lv_iinc (v := x_2) (lv' := [(1, .int x_2), (0, .ref a0), (2, .int x2)]) hx hb dJ2_putChar_b72d1_34 hl (k := 0) rfl (by rw [ex_2]; rfl) (by decide) rfl (fun ls hl => ?_)
  refine lv_iload_n hx hb dJ2_putChar_b72d1_37 rfl (lv_at hl 2 rfl) ?_
  refine w_staI F hK hW (show ("java/lang/StringUTF16", "HI_BYTE_SHIFT", "I", (0 : Int32)) ∈ wSi by decide +kernel) (hwg _ wf_RJ2_59) dJ2_putChar_b72d1_38 ?_
  refine lv_ishr hx hb dJ2_putChar_b72d1_41 ?_
  refine lv_i2b (v := (Int32.toInt8 (x2 >>> ((0 : Int32) &&& 31))).toInt32) hx hb dJ2_putChar_b72d1_42 rfl ?_
  obtain ⟨h_3m, h_3, hp⟩ := hp
  refine w_bst F hK hW h_3m hK_a0 h_3 dJ2_putChar_b72d1_43 (fun H locs hW => ?_)
  obtain ⟨S_4, eS_4⟩ : ∃ z : wS, z = uI S a0 (x_1).toNatClampNeg (vp_nar .byte ((Int32.toInt8 (x2 >>> ((0 : Int32) &&& 31))).toInt32)) := ⟨_, rfl⟩
  rw [← eS_4] at hW
  replace hp := hp S_4 eS_4
  have hX_S_4 : wX D S S_4 := by rw [eS_4]; exact wX_uI
  have hE := hE.trans hX_S_4
  have hK_a0 : sK S_4 a0 = 20 := (hX_S_4.2 a0 hL_a0).1.trans hK_a0
  have hL_a0 : wM D S_4 a0 := hX_S_4.M hL_a0
  refine lv_aload_n hx hb dJ2_putChar_b72d1_44 rfl (lv_at hl 1 rfl) ?_
  refine lv_iload_n hx hb dJ2_putChar_b72d1_45 rfl (lv_at hl 0 rfl) ?_
  refine lv_iload_n hx hb dJ2_putChar_b72d1_46 rfl (lv_at hl 2 rfl) ?_
  refine w_staI F hK hW (show ("java/lang/StringUTF16", "LO_BYTE_SHIFT", "I", (8 : Int32)) ∈ wSi by decide +kernel) (hwg _ wf_RJ2_63) dJ2_putChar_b72d1_47 ?_
  refine lv_ishr hx hb dJ2_putChar_b72d1_50 ?_
  refine lv_i2b (v := (Int32.toInt8 (x2 >>> ((8 : Int32) &&& 31))).toInt32) hx hb dJ2_putChar_b72d1_51 rfl ?_
  obtain ⟨h_5m, h_5, hp⟩ := hp
  refine w_bst F hK hW h_5m hK_a0 h_5 dJ2_putChar_b72d1_52 (fun H locs hW => ?_)
  obtain ⟨S_6, eS_6⟩ : ∃ z : wS, z = uI S_4 a0 (x_2).toNatClampNeg (vp_nar .byte ((Int32.toInt8 (x2 >>> ((8 : Int32) &&& 31))).toInt32)) := ⟨_, rfl⟩
  rw [← eS_6] at hW
  replace hp := hp S_6 eS_6
  have hX_S_6 : wX D S_4 S_6 := by rw [eS_6]; exact wX_uI
  have hE := hE.trans hX_S_6
  have hK_a0 : sK S_6 a0 = 20 := (hX_S_6.2 a0 hL_a0).1.trans hK_a0
  have hL_a0 : wM D S_6 a0 := hX_S_6.M hL_a0
  exact w_vret hx hb hr hlocks hW ⟨hE, hp⟩ dJ2_putChar_b72d1_53
set_option maxHeartbeats 4000000 in
set_option maxRecDepth 100000 in
theorem t_J2_putChar_b72d1_18 {p : Program} {l : Launch} {e : Env} {s : State} {m : MethodId} {args : Array Value} {below : List Frame} {meth : Method} {c : Code} {D : wD} {cy : Nat → ClassId} {X : va_W} {A : Nat → Prop} {S0 : wS} {post : wS → Prop} (F : CallFix p m c cJ2_putChar_b72d1 3 s args wz_J2_putChar_b72d1 RJ2) (hr : meth.sig.returnType = none) (hlocks : meth.locks = false) (hK : wK D cy A s) : ∀ {S : wS} {H : Heap} {locs : List Loc} {ls : Array Slot}, wp_J2_putChar_b72d1_18 D post S → wO D cy X A s.heap S H locs → wX D S0 S → lv_has ls 3 [] → W p l e r_J2_putChar_b72d1 s m args below meth c H locs 0 0 (MQ below (va_Qv (fun S9 => wX D S0 S9 ∧ post S9) (wB D cy X A) A) args s 0 0 A) (F0 m 18 ls []) := by
  obtain ⟨hx, hb, hml, hown, hts⟩ := id F
  have hwg : ∀ w ∈ WG, w.before args s = true := fun w h => hts w (List.mem_cons_of_mem _ h)
  intro S H locs ls hp hW hE hl
  unfold wp_J2_putChar_b72d1_18 at hp
  exact hp.elim
set_option maxHeartbeats 4000000 in
set_option maxRecDepth 100000 in
theorem t_J2_putChar_b72d1_0 {p : Program} {l : Launch} {e : Env} {s : State} {m : MethodId} {args : Array Value} {below : List Frame} {meth : Method} {c : Code} {D : wD} {cy : Nat → ClassId} {X : va_W} {A : Nat → Prop} {S0 : wS} {post : wS → Prop} (F : CallFix p m c cJ2_putChar_b72d1 3 s args wz_J2_putChar_b72d1 RJ2) (hr : meth.sig.returnType = none) (hlocks : meth.locks = false) (hK : wK D cy A s) : ∀ {S : wS} {H : Heap} {locs : List Loc} {ls : Array Slot} {a0 : Nat} {x1 : Int32} {x2 : Int32}, wp_J2_putChar_b72d1_0 D post S a0 x1 x2 → wO D cy X A s.heap S H locs → wX D S0 S → lv_has ls 3 [(0, .ref a0), (1, .int x1), (2, .int x2)] → wM D S a0 → sK S a0 = 20 → W p l e r_J2_putChar_b72d1 s m args below meth c H locs 0 0 (MQ below (va_Qv (fun S9 => wX D S0 S9 ∧ post S9) (wB D cy X A) A) args s 0 0 A) (F0 m 0 ls []) := by
  obtain ⟨hx, hb, hml, hown, hts⟩ := id F
  have hwg : ∀ w ∈ WG, w.before args s = true := fun w h => hts w (List.mem_cons_of_mem _ h)
  intro S H locs ls a0 x1 x2 hp hW hE hl hL_a0 hK_a0
  unfold wp_J2_putChar_b72d1_0 at hp
  refine w_staI F hK hW (show ("java/lang/StringUTF16", "$assertionsDisabled", "Z", (1 : Int32)) ∈ wSi by decide +kernel) (hwg _ wf_RJ2_44) dJ2_putChar_b72d1_0 ?_
  refine lv_if_ne (tgt := 28) hx hb dJ2_putChar_b72d1_3 (by decide) (fun c_1 => ?_) (fun c_1 => ?_)
  · replace hp := hp.1 c_1
    exact t_J2_putChar_b72d1_28 F hr hlocks hK hp hW hE (lv_sub hl [0, 1, 2] rfl) hL_a0 hK_a0
  · replace hp := hp.2 c_1
    refine lv_iload_n hx hb dJ2_putChar_b72d1_6 rfl (lv_at hl 1 rfl) ?_
    refine lv_if_lt (tgt := 18) hx hb dJ2_putChar_b72d1_7 (by decide) (fun c_2 => ?_) (fun c_2 => ?_)
    · replace hp := hp.1 c_2
      exact t_J2_putChar_b72d1_18 F hr hlocks hK hp hW hE (lv_sub hl [] rfl)
    · replace hp := hp.2 c_2
      refine lv_iload_n hx hb dJ2_putChar_b72d1_10 rfl (lv_at hl 1 rfl) ?_
      refine lv_aload_n hx hb dJ2_putChar_b72d1_11 rfl (lv_at hl 0 rfl) ?_
      refine w_callI (va_runS (As := [.ref a0]) (rest := [.int x1]) F (c_J2_length_9d52b l hL_a0 hK_a0 hp H.size) (va_cwS 1 hts (wg_S wm_RJ2_48 wy_J2_length_9d52b) rfl rfl rfl (by decide +kernel) ⟨Nat.le_of_ble_eq_true rfl, Nat.le_of_ble_eq_true rfl⟩) (w_preS hK hW) rfl rfl hl.1 rfl (lv_room (Nat.le_of_ble_eq_true rfl)) dJ2_putChar_b72d1_12 ⟨Nat.le_of_ble_eq_true rfl, Nat.le_of_ble_eq_true rfl⟩) hW (fun r_3 S_4 H locs hp hW => ?_)
      obtain ⟨hX_S_4, hp⟩ := hp
      refine W.widen (k := 0) (n := 0) (by decide) (by decide) ?_
      have hE := hE.trans hX_S_4
      have hK_a0 : sK S_4 a0 = 20 := (hX_S_4.2 a0 hL_a0).1.trans hK_a0
      have hL_a0 : wM D S_4 a0 := hX_S_4.M hL_a0
      refine lv_icmp_lt (tgt := 28) hx hb dJ2_putChar_b72d1_15 (by decide) (fun c_5 => ?_) (fun c_5 => ?_)
      · replace hp := hp.1 c_5
        exact t_J2_putChar_b72d1_28 F hr hlocks hK hp hW hE (lv_sub hl [0, 1, 2] rfl) hL_a0 hK_a0
      · replace hp := hp.2 c_5
        exact t_J2_putChar_b72d1_18 F hr hlocks hK hp hW hE (lv_sub hl [] rfl)
set_option maxHeartbeats 4000000 in
set_option maxRecDepth 100000 in
theorem c_J2_putChar_b72d1 (l : Launch) {D : wD} {cy : Nat → ClassId} {X : va_W} {S0 : wS} {post : wS → Prop} {a0 : Nat} {x1 : Int32} {x2 : Int32} (hL_a0 : wM D S0 a0) (hK_a0 : sK S0 a0 = 20) (hp : wp_J2_putChar_b72d1 D post S0 a0 x1 x2) : mV D cy X l yJ2_putChar_b72d1 wz_J2_putChar_b72d1 r_J2_putChar_b72d1 [.ref a0, .int x1, .int x2] S0 (fun S9 => wX D S0 S9 ∧ post S9) := by
  intro sz
  refine Met.ofW (cc := cJ2_putChar_b72d1) (maxL := 3) (ret := none) (by decide) rfl ?_
  intro p e s m args below meth c s₁ B hml hv
  obtain ⟨rfl, hsz, hP, hK, hD0, hRO⟩ := hv
  have hts := atoms_spec (ws := wz_J2_putChar_b72d1) B.pre
  have hown : s.vm.findClass RJ2 = some m.cls := findClass_of_methodNamed B.named
  subst hsz
  have hD := hD0.self (sz := s.heap.size)
  have F : CallFix p m c cJ2_putChar_b72d1 3 s _ wz_J2_putChar_b72d1 RJ2 := ⟨B.exec, B.bytes, hml, hown, hts⟩
  have hr := B.returns
  have hlocks := B.notSynchronized
  generalize hAe : va_A (wL cy X S0) s.heap.size = A at hD hK ⊢
  have hA : ∀ q, s.heap.size ≤ q → A q := fun q h => by rw [← hAe]; exact Or.inr h
  have hW : wO D cy X A s.heap S0 s.heap [] := ⟨hP, hD, va_S.rf, hA, hRO⟩
  have hl := lv_entry ([.ref a0, .int x1, .int x2]) (n := 3) (Nat.le_of_ble_eq_true rfl)
  rw [lg_entry_eq]
  generalize (lg_sl ([.ref a0, .int x1, .int x2]) ++ List.replicate (3 - (lg_sl ([.ref a0, .int x1, .int x2])).length) Slot.unset).toArray = ls at hl ⊢
  have hl : lv_has ls 3 [(0, .ref a0), (1, .int x1), (2, .int x2)] := hl
  unfold wp_J2_putChar_b72d1 at hp
  exact t_J2_putChar_b72d1_0 F hr hlocks hK hp hW wX.rf (lv_sub hl [0, 1, 2] rfl) hL_a0 hK_a0
def wp_J2_inflate_0e8fd_10 (D : wD) (post : wS → Prop)  : Nat → wS → Nat → Int32 → Nat → Int32 → Int32 → Int32 → Prop
  | 0, _, _, _, _, _, _, _ => False
  | n + 1, S, a0, x1, a2, x3, x4, x5 =>
    ((x4 ≤ x5 → post S) ∧
     (¬ x4 ≤ x5 → ∀ x_2 : Int32, x_2 = x3 + 1 →
    ∀ x_3 : Int32, x_3 = x1 + 1 →
    vp_in x1 (sN S a0) ∧
    wp_J2_putChar_b72d1 D (fun S_6 => 
    ∀ x_7 : Int32, x_7 = x5 + 1 →
    wp_J2_inflate_0e8fd_10 D post n S_6 a0 x_3 a2 x_2 x4 x_7) S a2 x3 ((sI S a0 (x1).toNatClampNeg) &&& (255 : Int32))))
def wp_J2_inflate_0e8fd_0 (D : wD) (post : wS → Prop)  (S : wS) (a0 : Nat) (x1 : Int32) (a2 : Nat) (x3 : Int32) (x4 : Int32) : Prop :=
wp_J2_checkBoundsOffCount_d044e D (fun S_2 => 
∃ n_3 : Nat, wp_J2_inflate_0e8fd_10 D post n_3 S_2 a0 x1 a2 x3 x4 (0 : Int32)) S x3 x4 a2
abbrev r_J2_inflate_0e8fd : Room := { frames := 3, cells := 0, slots := 0, locals := 67 }
def wp_J2_inflate_0e8fd (D : wD) (post : wS → Prop) (S : wS) (a0 : Nat) (x1 : Int32) (a2 : Nat) (x3 : Int32) (x4 : Int32) : Prop := wp_J2_inflate_0e8fd_0 D post S a0 x1 a2 x3 x4
set_option maxHeartbeats 4000000 in
set_option maxRecDepth 100000 in
theorem t_J2_inflate_0e8fd_10 {p : Program} {l : Launch} {e : Env} {s : State} {m : MethodId} {args : Array Value} {below : List Frame} {meth : Method} {c : Code} {D : wD} {cy : Nat → ClassId} {X : va_W} {A : Nat → Prop} {S0 : wS} {post : wS → Prop} (F : CallFix p m c cJ2_inflate_0e8fd 6 s args wz_J2_inflate_0e8fd RJ2) (hr : meth.sig.returnType = none) (hlocks : meth.locks = false) (hK : wK D cy A s) : ∀ (n : Nat) {S : wS} {H : Heap} {locs : List Loc} {ls : Array Slot} {a0 : Nat} {x1 : Int32} {a2 : Nat} {x3 : Int32} {x4 : Int32} {x5 : Int32}, wp_J2_inflate_0e8fd_10 D post n S a0 x1 a2 x3 x4 x5 → wO D cy X A s.heap S H locs → wX D S0 S → lv_has ls 6 [(0, .ref a0), (1, .int x1), (2, .ref a2), (3, .int x3), (4, .int x4), (5, .int x5)] → wM D S a0 → sK S a0 = 20 → wM D S a2 → sK S a2 = 20 → W p l e r_J2_inflate_0e8fd s m args below meth c H locs 0 0 (MQ below (va_Qv (fun S9 => wX D S0 S9 ∧ post S9) (wB D cy X A) A) args s 0 0 A) (F0 m 10 ls []) := by
  obtain ⟨hx, hb, hml, hown, hts⟩ := id F
  have hwg : ∀ w ∈ WG, w.before args s = true := fun w h => hts w (List.mem_cons_of_mem _ h)
  intro n
  induction n with
  | zero =>
    intro S H locs ls a0 x1 a2 x3 x4 x5 hp
    exact hp.elim
  | succ n ih =>
    intro S H locs ls a0 x1 a2 x3 x4 x5 hp hW hE hl hL_a0 hK_a0 hL_a2 hK_a2
    unfold wp_J2_inflate_0e8fd_10 at hp
    refine lv_iload hx hb dJ2_inflate_0e8fd_10 (lv_at hl 5 rfl) ?_
    refine lv_iload hx hb dJ2_inflate_0e8fd_12 (lv_at hl 4 rfl) ?_
    refine lv_icmp_ge (tgt := 41) hx hb dJ2_inflate_0e8fd_14 (by decide) (fun c_1 => ?_) (fun c_1 => ?_)
    · replace hp := hp.1 c_1
      exact w_vret hx hb hr hlocks hW ⟨hE, hp⟩ dJ2_inflate_0e8fd_41
    · replace hp := hp.2 c_1
      refine lv_aload_n hx hb dJ2_inflate_0e8fd_17 rfl (lv_at hl 2 rfl) ?_
      refine lv_iload_n hx hb dJ2_inflate_0e8fd_18 rfl (lv_at hl 3 rfl) ?_
      obtain ⟨x_2, ex_2⟩ : ∃ z : Int32, z = x3 + 1 := ⟨_, rfl⟩
      replace hp := hp x_2 ex_2
      refine lv_iinc (v := x_2) (lv' := [(3, .int x_2), (0, .ref a0), (1, .int x1), (2, .ref a2), (4, .int x4), (5, .int x5)]) hx hb dJ2_inflate_0e8fd_19 hl (k := 3) rfl (by rw [ex_2]; rfl) (by decide) rfl (fun ls hl => ?_)
      refine lv_aload_n hx hb dJ2_inflate_0e8fd_22 rfl (lv_at hl 1 rfl) ?_
      refine lv_iload_n hx hb dJ2_inflate_0e8fd_23 rfl (lv_at hl 2 rfl) ?_
      obtain ⟨x_3, ex_3⟩ : ∃ z : Int32, z = x1 + 1 := ⟨_, rfl⟩
      replace hp := hp x_3 ex_3
      refine lv_iinc (v := x_3) (lv' := [(1, .int x_3), (3, .int x_2), (0, .ref a0), (2, .ref a2), (4, .int x4), (5, .int x5)]) hx hb dJ2_inflate_0e8fd_24 hl (k := 2) rfl (by rw [ex_3]; rfl) (by decide) rfl (fun ls hl => ?_)
      obtain ⟨h_4, hp⟩ := hp
      refine w_bld F hK hW hL_a0 hK_a0 h_4 dJ2_inflate_0e8fd_27 ?_
      refine lv_sipush (v := 255) hx hb dJ2_inflate_0e8fd_28 (by decide) ?_
      refine lv_iand hx hb dJ2_inflate_0e8fd_31 ?_
      refine w_callV (va_runS (As := [.ref a2, .int x3, .int ((sI S a0 (x1).toNatClampNeg) &&& (255 : Int32))]) (rest := []) F (c_J2_putChar_b72d1 l hL_a2 hK_a2 hp H.size) (va_cwS 3 hts (wg_S wm_RJ2_111 wy_J2_putChar_b72d1) rfl rfl rfl (by decide +kernel) ⟨Nat.le_of_ble_eq_true rfl, Nat.le_of_ble_eq_true rfl⟩) (w_preS hK hW) rfl rfl hl.1 rfl (lv_room (Nat.le_of_ble_eq_true rfl)) dJ2_inflate_0e8fd_32 ⟨Nat.le_of_ble_eq_true rfl, Nat.le_of_ble_eq_true rfl⟩) hW (fun S_6 H locs hp hW => ?_)
      obtain ⟨hX_S_6, hp⟩ := hp
      refine W.widen (k := 0) (n := 0) (by decide) (by decide) ?_
      have hE := hE.trans hX_S_6
      have hK_a0 : sK S_6 a0 = 20 := (hX_S_6.2 a0 hL_a0).1.trans hK_a0
      have hL_a0 : wM D S_6 a0 := hX_S_6.M hL_a0
      have hK_a2 : sK S_6 a2 = 20 := (hX_S_6.2 a2 hL_a2).1.trans hK_a2
      have hL_a2 : wM D S_6 a2 := hX_S_6.M hL_a2
      obtain ⟨x_7, ex_7⟩ : ∃ z : Int32, z = x5 + 1 := ⟨_, rfl⟩
      replace hp := hp x_7 ex_7
      refine lv_iinc (v := x_7) (lv' := [(5, .int x_7), (1, .int x_3), (3, .int x_2), (0, .ref a0), (2, .ref a2), (4, .int x4)]) hx hb dJ2_inflate_0e8fd_35 hl (k := 5) rfl (by rw [ex_7]; rfl) (by decide) rfl (fun ls hl => ?_)
      refine lv_goto (tgt := 10) hx hb dJ2_inflate_0e8fd_38 (by decide) ?_
      exact ih hp hW hE (lv_sub hl [3, 1, 4, 2, 5, 0] rfl) hL_a0 hK_a0 hL_a2 hK_a2
set_option maxHeartbeats 4000000 in
set_option maxRecDepth 100000 in
theorem t_J2_inflate_0e8fd_0 {p : Program} {l : Launch} {e : Env} {s : State} {m : MethodId} {args : Array Value} {below : List Frame} {meth : Method} {c : Code} {D : wD} {cy : Nat → ClassId} {X : va_W} {A : Nat → Prop} {S0 : wS} {post : wS → Prop} (F : CallFix p m c cJ2_inflate_0e8fd 6 s args wz_J2_inflate_0e8fd RJ2) (hr : meth.sig.returnType = none) (hlocks : meth.locks = false) (hK : wK D cy A s) : ∀ {S : wS} {H : Heap} {locs : List Loc} {ls : Array Slot} {a0 : Nat} {x1 : Int32} {a2 : Nat} {x3 : Int32} {x4 : Int32}, wp_J2_inflate_0e8fd_0 D post S a0 x1 a2 x3 x4 → wO D cy X A s.heap S H locs → wX D S0 S → lv_has ls 6 [(0, .ref a0), (1, .int x1), (2, .ref a2), (3, .int x3), (4, .int x4)] → wM D S a0 → sK S a0 = 20 → wM D S a2 → sK S a2 = 20 → W p l e r_J2_inflate_0e8fd s m args below meth c H locs 0 0 (MQ below (va_Qv (fun S9 => wX D S0 S9 ∧ post S9) (wB D cy X A) A) args s 0 0 A) (F0 m 0 ls []) := by
  obtain ⟨hx, hb, hml, hown, hts⟩ := id F
  have hwg : ∀ w ∈ WG, w.before args s = true := fun w h => hts w (List.mem_cons_of_mem _ h)
  intro S H locs ls a0 x1 a2 x3 x4 hp hW hE hl hL_a0 hK_a0 hL_a2 hK_a2
  unfold wp_J2_inflate_0e8fd_0 at hp
  refine lv_iload_n hx hb dJ2_inflate_0e8fd_0 rfl (lv_at hl 3 rfl) ?_
  refine lv_iload hx hb dJ2_inflate_0e8fd_1 (lv_at hl 4 rfl) ?_
  refine lv_aload_n hx hb dJ2_inflate_0e8fd_3 rfl (lv_at hl 2 rfl) ?_
  refine w_callV (va_runS (As := [.int x3, .int x4, .ref a2]) (rest := []) F (c_J2_checkBoundsOffCount_d044e l hL_a2 hK_a2 hp H.size) (va_cwS 3 hts (wg_S wm_RJ2_173 wy_J2_checkBoundsOffCount_d044e) rfl rfl rfl (by decide +kernel) ⟨Nat.le_of_ble_eq_true rfl, Nat.le_of_ble_eq_true rfl⟩) (w_preS hK hW) rfl rfl hl.1 rfl (lv_room (Nat.le_of_ble_eq_true rfl)) dJ2_inflate_0e8fd_4 ⟨Nat.le_of_ble_eq_true rfl, Nat.le_of_ble_eq_true rfl⟩) hW (fun S_2 H locs hp hW => ?_)
  obtain ⟨hX_S_2, hp⟩ := hp
  refine W.widen (k := 0) (n := 0) (by decide) (by decide) ?_
  have hE := hE.trans hX_S_2
  have hK_a0 : sK S_2 a0 = 20 := (hX_S_2.2 a0 hL_a0).1.trans hK_a0
  have hL_a0 : wM D S_2 a0 := hX_S_2.M hL_a0
  have hK_a2 : sK S_2 a2 = 20 := (hX_S_2.2 a2 hL_a2).1.trans hK_a2
  have hL_a2 : wM D S_2 a2 := hX_S_2.M hL_a2
  refine lv_iconst (v := 0) hx hb dJ2_inflate_0e8fd_7 (by decide) ?_
  refine lv_istore (lv' := [(5, .int (0 : Int32)), (0, .ref a0), (1, .int x1), (2, .ref a2), (3, .int x3), (4, .int x4)]) hx hb dJ2_inflate_0e8fd_8 hl (by decide) rfl (fun ls hl => ?_)
  obtain ⟨n_3, hp⟩ := hp
  exact t_J2_inflate_0e8fd_10 F hr hlocks hK n_3 hp hW hE (lv_sub hl [1, 2, 3, 4, 5, 0] rfl) hL_a0 hK_a0 hL_a2 hK_a2
set_option maxHeartbeats 4000000 in
set_option maxRecDepth 100000 in
theorem c_J2_inflate_0e8fd (l : Launch) {D : wD} {cy : Nat → ClassId} {X : va_W} {S0 : wS} {post : wS → Prop} {a0 : Nat} {x1 : Int32} {a2 : Nat} {x3 : Int32} {x4 : Int32} (hL_a0 : wM D S0 a0) (hK_a0 : sK S0 a0 = 20) (hL_a2 : wM D S0 a2) (hK_a2 : sK S0 a2 = 20) (hp : wp_J2_inflate_0e8fd D post S0 a0 x1 a2 x3 x4) : mV D cy X l yJ2_inflate_0e8fd wz_J2_inflate_0e8fd r_J2_inflate_0e8fd [.ref a0, .int x1, .ref a2, .int x3, .int x4] S0 (fun S9 => wX D S0 S9 ∧ post S9) := by
  intro sz
  refine Met.ofW (cc := cJ2_inflate_0e8fd) (maxL := 6) (ret := none) (by decide) rfl ?_
  intro p e s m args below meth c s₁ B hml hv
  obtain ⟨rfl, hsz, hP, hK, hD0, hRO⟩ := hv
  have hts := atoms_spec (ws := wz_J2_inflate_0e8fd) B.pre
  have hown : s.vm.findClass RJ2 = some m.cls := findClass_of_methodNamed B.named
  subst hsz
  have hD := hD0.self (sz := s.heap.size)
  have F : CallFix p m c cJ2_inflate_0e8fd 6 s _ wz_J2_inflate_0e8fd RJ2 := ⟨B.exec, B.bytes, hml, hown, hts⟩
  have hr := B.returns
  have hlocks := B.notSynchronized
  generalize hAe : va_A (wL cy X S0) s.heap.size = A at hD hK ⊢
  have hA : ∀ q, s.heap.size ≤ q → A q := fun q h => by rw [← hAe]; exact Or.inr h
  have hW : wO D cy X A s.heap S0 s.heap [] := ⟨hP, hD, va_S.rf, hA, hRO⟩
  have hl := lv_entry ([.ref a0, .int x1, .ref a2, .int x3, .int x4]) (n := 6) (Nat.le_of_ble_eq_true rfl)
  rw [lg_entry_eq]
  generalize (lg_sl ([.ref a0, .int x1, .ref a2, .int x3, .int x4]) ++ List.replicate (6 - (lg_sl ([.ref a0, .int x1, .ref a2, .int x3, .int x4])).length) Slot.unset).toArray = ls at hl ⊢
  have hl : lv_has ls 6 [(0, .ref a0), (1, .int x1), (2, .ref a2), (3, .int x3), (4, .int x4)] := hl
  unfold wp_J2_inflate_0e8fd at hp
  exact t_J2_inflate_0e8fd_0 F hr hlocks hK hp hW wX.rf (lv_sub hl [0, 1, 2, 3, 4] rfl) hL_a0 hK_a0 hL_a2 hK_a2
def wp_J1_inflate_0e8fd_0 (D : wD) (post : wS → Prop)  (S : wS) (a0 : Nat) (x1 : Int32) (a2 : Nat) (x3 : Int32) (x4 : Int32) : Prop :=
wp_J2_inflate_0e8fd D (fun S_2 => 
post S_2) S a0 x1 a2 x3 x4
abbrev r_J1_inflate_0e8fd : Room := { frames := 4, cells := 0, slots := 0, locals := 92 }
def wp_J1_inflate_0e8fd (D : wD) (post : wS → Prop) (S : wS) (a0 : Nat) (x1 : Int32) (a2 : Nat) (x3 : Int32) (x4 : Int32) : Prop := wp_J1_inflate_0e8fd_0 D post S a0 x1 a2 x3 x4
set_option maxHeartbeats 4000000 in
set_option maxRecDepth 100000 in
theorem t_J1_inflate_0e8fd_0 {p : Program} {l : Launch} {e : Env} {s : State} {m : MethodId} {args : Array Value} {below : List Frame} {meth : Method} {c : Code} {D : wD} {cy : Nat → ClassId} {X : va_W} {A : Nat → Prop} {S0 : wS} {post : wS → Prop} (F : CallFix p m c cJ1_inflate_0e8fd 5 s args wz_J1_inflate_0e8fd RJ1) (hr : meth.sig.returnType = none) (hlocks : meth.locks = false) (hK : wK D cy A s) : ∀ {S : wS} {H : Heap} {locs : List Loc} {ls : Array Slot} {a0 : Nat} {x1 : Int32} {a2 : Nat} {x3 : Int32} {x4 : Int32}, wp_J1_inflate_0e8fd_0 D post S a0 x1 a2 x3 x4 → wO D cy X A s.heap S H locs → wX D S0 S → lv_has ls 5 [(0, .ref a0), (1, .int x1), (2, .ref a2), (3, .int x3), (4, .int x4)] → wM D S a0 → sK S a0 = 20 → wM D S a2 → sK S a2 = 20 → W p l e r_J1_inflate_0e8fd s m args below meth c H locs 0 0 (MQ below (va_Qv (fun S9 => wX D S0 S9 ∧ post S9) (wB D cy X A) A) args s 0 0 A) (F0 m 0 ls []) := by
  obtain ⟨hx, hb, hml, hown, hts⟩ := id F
  have hwg : ∀ w ∈ WG, w.before args s = true := fun w h => hts w (List.mem_cons_of_mem _ h)
  intro S H locs ls a0 x1 a2 x3 x4 hp hW hE hl hL_a0 hK_a0 hL_a2 hK_a2
  unfold wp_J1_inflate_0e8fd_0 at hp
  refine lv_aload_n hx hb dJ1_inflate_0e8fd_0 rfl (lv_at hl 0 rfl) ?_
  refine lv_iload_n hx hb dJ1_inflate_0e8fd_1 rfl (lv_at hl 1 rfl) ?_
  refine lv_aload_n hx hb dJ1_inflate_0e8fd_2 rfl (lv_at hl 2 rfl) ?_
  refine lv_iload_n hx hb dJ1_inflate_0e8fd_3 rfl (lv_at hl 3 rfl) ?_
  refine lv_iload hx hb dJ1_inflate_0e8fd_4 (lv_at hl 4 rfl) ?_
  refine w_callV (va_runS (As := [.ref a0, .int x1, .ref a2, .int x3, .int x4]) (rest := []) F (c_J2_inflate_0e8fd l hL_a0 hK_a0 hL_a2 hK_a2 hp H.size) (va_cwS 5 hts (wg_S wm_RJ1_240 wy_J2_inflate_0e8fd) rfl rfl rfl (by decide +kernel) ⟨Nat.le_of_ble_eq_true rfl, Nat.le_of_ble_eq_true rfl⟩) (w_preS hK hW) rfl rfl hl.1 rfl (lv_room (Nat.le_of_ble_eq_true rfl)) dJ1_inflate_0e8fd_6 ⟨Nat.le_of_ble_eq_true rfl, Nat.le_of_ble_eq_true rfl⟩) hW (fun S_2 H locs hp hW => ?_)
  obtain ⟨hX_S_2, hp⟩ := hp
  refine W.widen (k := 0) (n := 0) (by decide) (by decide) ?_
  have hE := hE.trans hX_S_2
  have hK_a0 : sK S_2 a0 = 20 := (hX_S_2.2 a0 hL_a0).1.trans hK_a0
  have hL_a0 : wM D S_2 a0 := hX_S_2.M hL_a0
  have hK_a2 : sK S_2 a2 = 20 := (hX_S_2.2 a2 hL_a2).1.trans hK_a2
  have hL_a2 : wM D S_2 a2 := hX_S_2.M hL_a2
  exact w_vret hx hb hr hlocks hW ⟨hE, hp⟩ dJ1_inflate_0e8fd_9
set_option maxHeartbeats 4000000 in
set_option maxRecDepth 100000 in
theorem c_J1_inflate_0e8fd (l : Launch) {D : wD} {cy : Nat → ClassId} {X : va_W} {S0 : wS} {post : wS → Prop} {a0 : Nat} {x1 : Int32} {a2 : Nat} {x3 : Int32} {x4 : Int32} (hL_a0 : wM D S0 a0) (hK_a0 : sK S0 a0 = 20) (hL_a2 : wM D S0 a2) (hK_a2 : sK S0 a2 = 20) (hp : wp_J1_inflate_0e8fd D post S0 a0 x1 a2 x3 x4) : mV D cy X l yJ1_inflate_0e8fd wz_J1_inflate_0e8fd r_J1_inflate_0e8fd [.ref a0, .int x1, .ref a2, .int x3, .int x4] S0 (fun S9 => wX D S0 S9 ∧ post S9) := by
  intro sz
  refine Met.ofW (cc := cJ1_inflate_0e8fd) (maxL := 5) (ret := none) (by decide) rfl ?_
  intro p e s m args below meth c s₁ B hml hv
  obtain ⟨rfl, hsz, hP, hK, hD0, hRO⟩ := hv
  have hts := atoms_spec (ws := wz_J1_inflate_0e8fd) B.pre
  have hown : s.vm.findClass RJ1 = some m.cls := findClass_of_methodNamed B.named
  subst hsz
  have hD := hD0.self (sz := s.heap.size)
  have F : CallFix p m c cJ1_inflate_0e8fd 5 s _ wz_J1_inflate_0e8fd RJ1 := ⟨B.exec, B.bytes, hml, hown, hts⟩
  have hr := B.returns
  have hlocks := B.notSynchronized
  generalize hAe : va_A (wL cy X S0) s.heap.size = A at hD hK ⊢
  have hA : ∀ q, s.heap.size ≤ q → A q := fun q h => by rw [← hAe]; exact Or.inr h
  have hW : wO D cy X A s.heap S0 s.heap [] := ⟨hP, hD, va_S.rf, hA, hRO⟩
  have hl := lv_entry ([.ref a0, .int x1, .ref a2, .int x3, .int x4]) (n := 5) (Nat.le_of_ble_eq_true rfl)
  rw [lg_entry_eq]
  generalize (lg_sl ([.ref a0, .int x1, .ref a2, .int x3, .int x4]) ++ List.replicate (5 - (lg_sl ([.ref a0, .int x1, .ref a2, .int x3, .int x4])).length) Slot.unset).toArray = ls at hl ⊢
  have hl : lv_has ls 5 [(0, .ref a0), (1, .int x1), (2, .ref a2), (3, .int x3), (4, .int x4)] := hl
  unfold wp_J1_inflate_0e8fd at hp
  exact t_J1_inflate_0e8fd_0 F hr hlocks hK hp hW wX.rf (lv_sub hl [0, 1, 2, 3, 4] rfl) hL_a0 hK_a0 hL_a2 hK_a2
def wp_J0_getBytes_840e7_43 (D : wD) (post : wS → Prop)  (S : wS) : Prop :=
post S
def wp_J0_getBytes_840e7_0 (D : wD) (post : wS → Prop)  (S : wS) (a0 : Nat) (a1 : Nat) (x2 : Int32) (x3 : Int32) : Prop :=
wp_J0_coder_7d493 D (fun r_1 S_2 => 
((¬ r_1 = x3 → ∃ y_4 : Nat, sR S_2 a0 0 = some y_4 ∧ wM D S_2 y_4 ∧ sK S_2 y_4 = 20 ∧
∃ y_5 : Nat, sR S_2 a0 0 = some y_5 ∧ wM D S_2 y_5 ∧ sK S_2 y_5 = 20 ∧
wp_J1_inflate_0e8fd D (fun S_7 => 
wp_J0_getBytes_840e7_43 D post S_7) S_2 y_4 (0 : Int32) a1 x2 (Int32.ofNat (sN S_2 y_5))) ∧
 (r_1 = x3 → ∃ y_8 : Nat, sR S_2 a0 0 = some y_8 ∧ wM D S_2 y_8 ∧ sK S_2 y_8 = 20 ∧
∃ y_9 : Nat, sR S_2 a0 0 = some y_9 ∧ wM D S_2 y_9 ∧ sK S_2 y_9 = 20 ∧
a1 ∈ sL S_2 ∧ ¬ (0 : Int32) < 0 ∧ ¬ (x2 <<< (x3 &&& 31)) < 0 ∧ ¬ (Int32.ofNat (sN S_2 y_9)) < 0 ∧ Int32.toNatClampNeg (0 : Int32) + Int32.toNatClampNeg (Int32.ofNat (sN S_2 y_9)) ≤ sN S_2 y_8 ∧ Int32.toNatClampNeg (x2 <<< (x3 &&& 31)) + Int32.toNatClampNeg (Int32.ofNat (sN S_2 y_9)) ≤ sN S_2 a1 ∧ (∀ i, i < Int32.toNatClampNeg (Int32.ofNat (sN S_2 y_9)) → fits .byte (.int (sI S_2 y_8 (Int32.toNatClampNeg (0 : Int32) + i))) = true) ∧
∀ S_11 : wS, S_11 = uY S_2 y_8 a1 (Int32.toNatClampNeg (0 : Int32)) (Int32.toNatClampNeg (x2 <<< (x3 &&& 31))) (Int32.toNatClampNeg (Int32.ofNat (sN S_2 y_9))) →
wp_J0_getBytes_840e7_43 D post S_11))) S a0
abbrev r_J0_getBytes_840e7 : Room := { frames := 5, cells := 0, slots := 0, locals := 116 }
def wp_J0_getBytes_840e7 (D : wD) (post : wS → Prop) (S : wS) (a0 : Nat) (a1 : Nat) (x2 : Int32) (x3 : Int32) : Prop := wp_J0_getBytes_840e7_0 D post S a0 a1 x2 x3
set_option maxHeartbeats 4000000 in
set_option maxRecDepth 100000 in
theorem t_J0_getBytes_840e7_43 {p : Program} {l : Launch} {e : Env} {s : State} {m : MethodId} {args : Array Value} {below : List Frame} {meth : Method} {c : Code} {D : wD} {cy : Nat → ClassId} {X : va_W} {A : Nat → Prop} {S0 : wS} {post : wS → Prop} (F : CallFix p m c cJ0_getBytes_840e7 4 s args wz_J0_getBytes_840e7 RJ0) (hr : meth.sig.returnType = none) (hlocks : meth.locks = false) (hK : wK D cy A s) : ∀ {S : wS} {H : Heap} {locs : List Loc} {ls : Array Slot}, wp_J0_getBytes_840e7_43 D post S → wO D cy X A s.heap S H locs → wX D S0 S → lv_has ls 4 [] → W p l e r_J0_getBytes_840e7 s m args below meth c H locs 0 0 (MQ below (va_Qv (fun S9 => wX D S0 S9 ∧ post S9) (wB D cy X A) A) args s 0 0 A) (F0 m 43 ls []) := by
  obtain ⟨hx, hb, hml, hown, hts⟩ := id F
  have hwg : ∀ w ∈ WG, w.before args s = true := fun w h => hts w (List.mem_cons_of_mem _ h)
  intro S H locs ls hp hW hE hl
  unfold wp_J0_getBytes_840e7_43 at hp
  exact w_vret hx hb hr hlocks hW ⟨hE, hp⟩ dJ0_getBytes_840e7_43
set_option maxHeartbeats 4000000 in
set_option maxRecDepth 100000 in
theorem t_J0_getBytes_840e7_0 {p : Program} {l : Launch} {e : Env} {s : State} {m : MethodId} {args : Array Value} {below : List Frame} {meth : Method} {c : Code} {D : wD} {cy : Nat → ClassId} {X : va_W} {A : Nat → Prop} {S0 : wS} {post : wS → Prop} (F : CallFix p m c cJ0_getBytes_840e7 4 s args wz_J0_getBytes_840e7 RJ0) (hr : meth.sig.returnType = none) (hlocks : meth.locks = false) (hK : wK D cy A s) : ∀ {S : wS} {H : Heap} {locs : List Loc} {ls : Array Slot} {a0 : Nat} {a1 : Nat} {x2 : Int32} {x3 : Int32}, wp_J0_getBytes_840e7_0 D post S a0 a1 x2 x3 → wO D cy X A s.heap S H locs → wX D S0 S → lv_has ls 4 [(0, .ref a0), (1, .ref a1), (2, .int x2), (3, .int x3)] → wM D S a0 → sK S a0 = 0 → wM D S a1 → sK S a1 = 20 → W p l e r_J0_getBytes_840e7 s m args below meth c H locs 0 0 (MQ below (va_Qv (fun S9 => wX D S0 S9 ∧ post S9) (wB D cy X A) A) args s 0 0 A) (F0 m 0 ls []) := by
  obtain ⟨hx, hb, hml, hown, hts⟩ := id F
  have hwg : ∀ w ∈ WG, w.before args s = true := fun w h => hts w (List.mem_cons_of_mem _ h)
  have i_0 : ∀ w ∈ u_ws RJ0 TJ0 4, w ∈ wz_J0_getBytes_840e7 := fun w h => List.mem_cons_of_mem _ (wu_0 w h)
  have k_9 := hwg _ wf_RJ0_9
  intro S H locs ls a0 a1 x2 x3 hp hW hE hl hL_a0 hK_a0 hL_a1 hK_a1
  unfold wp_J0_getBytes_840e7_0 at hp
  refine lv_aload_n hx hb dJ0_getBytes_840e7_0 rfl (lv_at hl 0 rfl) ?_
  refine w_callI (va_runV (As := []) (rest := []) F (c_J0_coder_7d493 l hL_a0 hK_a0 hp H.size) (cwV (C := RJ0) 0 hts (wg_V wm_RJ0_335 wy_J0_coder_7d493) rfl rfl rfl (by decide +kernel) ⟨Nat.le_of_ble_eq_true rfl, Nat.le_of_ble_eq_true rfl⟩) (w_preV hK hW hL_a0 hK_a0 (by decide) rfl) rfl rfl hl.1 rfl (lv_room (Nat.le_of_ble_eq_true rfl)) dJ0_getBytes_840e7_1 ⟨Nat.le_of_ble_eq_true rfl, Nat.le_of_ble_eq_true rfl⟩) hW (fun r_1 S_2 H locs hp hW => ?_)
  obtain ⟨hX_S_2, hp⟩ := hp
  refine W.widen (k := 0) (n := 0) (by decide) (by decide) ?_
  have hE := hE.trans hX_S_2
  have hK_a0 : sK S_2 a0 = 0 := (hX_S_2.2 a0 hL_a0).1.trans hK_a0
  have hL_a0 : wM D S_2 a0 := hX_S_2.M hL_a0
  have hK_a1 : sK S_2 a1 = 20 := (hX_S_2.2 a1 hL_a1).1.trans hK_a1
  have hL_a1 : wM D S_2 a1 := hX_S_2.M hL_a1
  refine lv_iload_n hx hb dJ0_getBytes_840e7_4 rfl (lv_at hl 3 rfl) ?_
  refine lv_icmp_ne (tgt := 28) hx hb dJ0_getBytes_840e7_5 (by decide) (fun c_3 => ?_) (fun c_3 => ?_)
  · replace hp := hp.1 c_3
    refine lv_aload_n hx hb dJ0_getBytes_840e7_28 rfl (lv_at hl 0 rfl) ?_
    obtain ⟨y_4, ey_4, hL_y_4, hK_y_4, hp⟩ := hp
    refine w_get (k := 0) (f := 0) (T := TJ0) (v := .ref y_4) F hK hW hL_a0 hK_a0 (by decide) rfl rfl (by decide) i_0 k_9 (by rw [show wv 0 0 S_2 a0 = va_rf (sR S_2 a0 0) from rfl, ey_4]; rfl) dJ0_getBytes_840e7_29 ?_
    refine lv_iconst (v := 0) hx hb dJ0_getBytes_840e7_32 (by decide) ?_
    refine lv_aload_n hx hb dJ0_getBytes_840e7_33 rfl (lv_at hl 1 rfl) ?_
    refine lv_iload_n hx hb dJ0_getBytes_840e7_34 rfl (lv_at hl 2 rfl) ?_
    refine lv_aload_n hx hb dJ0_getBytes_840e7_35 rfl (lv_at hl 0 rfl) ?_
    obtain ⟨y_5, ey_5, hL_y_5, hK_y_5, hp⟩ := hp
    refine w_get (k := 0) (f := 0) (T := TJ0) (v := .ref y_5) F hK hW hL_a0 hK_a0 (by decide) rfl rfl (by decide) i_0 k_9 (by rw [show wv 0 0 S_2 a0 = va_rf (sR S_2 a0 0) from rfl, ey_5]; rfl) dJ0_getBytes_840e7_36 ?_
    refine w_len F hK hW hL_y_5 hK_y_5 (by decide) dJ0_getBytes_840e7_39 ?_
    refine w_callV (va_runS (As := [.ref y_4, .int (0 : Int32), .ref a1, .int x2, .int (Int32.ofNat (sN S_2 y_5))]) (rest := []) F (c_J1_inflate_0e8fd l hL_y_4 hK_y_4 hL_a1 hK_a1 hp H.size) (va_cwS 5 hts (wg_S wm_RJ0_106 wy_J1_inflate_0e8fd) rfl rfl rfl (by decide +kernel) ⟨Nat.le_of_ble_eq_true rfl, Nat.le_of_ble_eq_true rfl⟩) (w_preS hK hW) rfl rfl hl.1 rfl (lv_room (Nat.le_of_ble_eq_true rfl)) dJ0_getBytes_840e7_40 ⟨Nat.le_of_ble_eq_true rfl, Nat.le_of_ble_eq_true rfl⟩) hW (fun S_7 H locs hp hW => ?_)
    obtain ⟨hX_S_7, hp⟩ := hp
    refine W.widen (k := 0) (n := 0) (by decide) (by decide) ?_
    have hE := hE.trans hX_S_7
    have hK_a0 : sK S_7 a0 = 0 := (hX_S_7.2 a0 hL_a0).1.trans hK_a0
    have hL_a0 : wM D S_7 a0 := hX_S_7.M hL_a0
    have hK_a1 : sK S_7 a1 = 20 := (hX_S_7.2 a1 hL_a1).1.trans hK_a1
    have hL_a1 : wM D S_7 a1 := hX_S_7.M hL_a1
    exact t_J0_getBytes_840e7_43 F hr hlocks hK hp hW hE (lv_sub hl [] rfl)
  · replace hp := hp.2 c_3
    refine lv_aload_n hx hb dJ0_getBytes_840e7_8 rfl (lv_at hl 0 rfl) ?_
    obtain ⟨y_8, ey_8, hL_y_8, hK_y_8, hp⟩ := hp
    refine w_get (k := 0) (f := 0) (T := TJ0) (v := .ref y_8) F hK hW hL_a0 hK_a0 (by decide) rfl rfl (by decide) i_0 k_9 (by rw [show wv 0 0 S_2 a0 = va_rf (sR S_2 a0 0) from rfl, ey_8]; rfl) dJ0_getBytes_840e7_9 ?_
    refine lv_iconst (v := 0) hx hb dJ0_getBytes_840e7_12 (by decide) ?_
    refine lv_aload_n hx hb dJ0_getBytes_840e7_13 rfl (lv_at hl 1 rfl) ?_
    refine lv_iload_n hx hb dJ0_getBytes_840e7_14 rfl (lv_at hl 2 rfl) ?_
    refine lv_iload_n hx hb dJ0_getBytes_840e7_15 rfl (lv_at hl 3 rfl) ?_
    refine lv_ishl hx hb dJ0_getBytes_840e7_16 ?_
    refine lv_aload_n hx hb dJ0_getBytes_840e7_17 rfl (lv_at hl 0 rfl) ?_
    obtain ⟨y_9, ey_9, hL_y_9, hK_y_9, hp⟩ := hp
    refine w_get (k := 0) (f := 0) (T := TJ0) (v := .ref y_9) F hK hW hL_a0 hK_a0 (by decide) rfl rfl (by decide) i_0 k_9 (by rw [show wv 0 0 S_2 a0 = va_rf (sR S_2 a0 0) from rfl, ey_9]; rfl) dJ0_getBytes_840e7_18 ?_
    refine w_len F hK hW hL_y_9 hK_y_9 (by decide) dJ0_getBytes_840e7_21 ?_
    obtain ⟨h_10b, h_10c, h_10d, h_10e, h_10f, h_10g, h_10i, hp⟩ := hp
    refine w_copyM F hK hW (hml.trans hl.1.symm) (hwg _ wm_RJ0_212) (hwg _ wacp.1) (hwg _ wacp.2.1) (hwg _ wacp.2.2) hL_y_8 hK_y_8 h_10b hK_a1 h_10c h_10d h_10e h_10f h_10g h_10i (Nat.le_of_ble_eq_true rfl) (Nat.le_of_ble_eq_true rfl) dJ0_getBytes_840e7_22 (fun H locs hW => ?_)
    obtain ⟨S_11, eS_11⟩ : ∃ z : wS, z = uY S_2 y_8 a1 (Int32.toNatClampNeg (0 : Int32)) (Int32.toNatClampNeg (x2 <<< (x3 &&& 31))) (Int32.toNatClampNeg (Int32.ofNat (sN S_2 y_9))) := ⟨_, rfl⟩
    rw [← eS_11] at hW
    replace hp := hp S_11 eS_11
    have hX_S_11 : wX D S_2 S_11 := by rw [eS_11]; exact wX_uY
    have hE := hE.trans hX_S_11
    have hK_a0 : sK S_11 a0 = 0 := (hX_S_11.2 a0 hL_a0).1.trans hK_a0
    have hL_a0 : wM D S_11 a0 := hX_S_11.M hL_a0
    have hK_a1 : sK S_11 a1 = 20 := (hX_S_11.2 a1 hL_a1).1.trans hK_a1
    have hL_a1 : wM D S_11 a1 := hX_S_11.M hL_a1
    refine lv_goto (tgt := 43) hx hb dJ0_getBytes_840e7_25 (by decide) ?_
    exact t_J0_getBytes_840e7_43 F hr hlocks hK hp hW hE (lv_sub hl [] rfl)
set_option maxHeartbeats 4000000 in
set_option maxRecDepth 100000 in
theorem c_J0_getBytes_840e7 (l : Launch) {D : wD} {cy : Nat → ClassId} {X : va_W} {S0 : wS} {post : wS → Prop} {a0 : Nat} {a1 : Nat} {x2 : Int32} {x3 : Int32} (hL_a0 : wM D S0 a0) (hK_a0 : sK S0 a0 = 0) (hL_a1 : wM D S0 a1) (hK_a1 : sK S0 a1 = 20) (hp : wp_J0_getBytes_840e7 D post S0 a0 a1 x2 x3) : mV D cy X l yJ0_getBytes_840e7 wz_J0_getBytes_840e7 r_J0_getBytes_840e7 [.ref a0, .ref a1, .int x2, .int x3] S0 (fun S9 => wX D S0 S9 ∧ post S9) := by
  intro sz
  refine Met.ofW (cc := cJ0_getBytes_840e7) (maxL := 4) (ret := none) (by decide) rfl ?_
  intro p e s m args below meth c s₁ B hml hv
  obtain ⟨rfl, hsz, hP, hK, hD0, hRO⟩ := hv
  have hts := atoms_spec (ws := wz_J0_getBytes_840e7) B.pre
  have hown : s.vm.findClass RJ0 = some m.cls := findClass_of_methodNamed B.named
  subst hsz
  have hD := hD0.self (sz := s.heap.size)
  have F : CallFix p m c cJ0_getBytes_840e7 4 s _ wz_J0_getBytes_840e7 RJ0 := ⟨B.exec, B.bytes, hml, hown, hts⟩
  have hr := B.returns
  have hlocks := B.notSynchronized
  generalize hAe : va_A (wL cy X S0) s.heap.size = A at hD hK ⊢
  have hA : ∀ q, s.heap.size ≤ q → A q := fun q h => by rw [← hAe]; exact Or.inr h
  have hW : wO D cy X A s.heap S0 s.heap [] := ⟨hP, hD, va_S.rf, hA, hRO⟩
  have hl := lv_entry ([.ref a0, .ref a1, .int x2, .int x3]) (n := 4) (Nat.le_of_ble_eq_true rfl)
  rw [lg_entry_eq]
  generalize (lg_sl ([.ref a0, .ref a1, .int x2, .int x3]) ++ List.replicate (4 - (lg_sl ([.ref a0, .ref a1, .int x2, .int x3])).length) Slot.unset).toArray = ls at hl ⊢
  have hl : lv_has ls 4 [(0, .ref a0), (1, .ref a1), (2, .int x2), (3, .int x3)] := hl
  unfold wp_J0_getBytes_840e7 at hp
  exact t_J0_getBytes_840e7_0 F hr hlocks hK hp hW wX.rf (lv_sub hl [0, 1, 2, 3] rfl) hL_a0 hK_a0 hL_a1 hK_a1
def wp_J0_length_8abf5_0 (D : wD) (post : Int32 → wS → Prop)  (S : wS) (a0 : Nat) : Prop :=
∃ y_1 : Nat, sR S a0 0 = some y_1 ∧ wM D S y_1 ∧ sK S y_1 = 20 ∧
wp_J0_coder_7d493 D (fun r_2 S_3 => 
post ((Int32.ofNat (sN S y_1)) >>> (r_2 &&& 31)) S_3) S a0
abbrev r_J0_length_8abf5 : Room := { frames := 1, cells := 0, slots := 0, locals := 20 }
def wp_J0_length_8abf5 (D : wD) (post : Int32 → wS → Prop) (S : wS) (a0 : Nat) : Prop := wp_J0_length_8abf5_0 D post S a0
set_option maxHeartbeats 4000000 in
set_option maxRecDepth 100000 in
theorem t_J0_length_8abf5_0 {p : Program} {l : Launch} {e : Env} {s : State} {m : MethodId} {args : Array Value} {below : List Frame} {meth : Method} {c : Code} {D : wD} {cy : Nat → ClassId} {X : va_W} {A : Nat → Prop} {S0 : wS} {post : Int32 → wS → Prop} (F : CallFix p m c cJ0_length_8abf5 1 s args wz_J0_length_8abf5 RJ0) (hr : meth.sig.returnType = (some .int)) (hlocks : meth.locks = false) (hK : wK D cy A s) : ∀ {S : wS} {H : Heap} {locs : List Loc} {ls : Array Slot} {a0 : Nat}, wp_J0_length_8abf5_0 D post S a0 → wO D cy X A s.heap S H locs → wX D S0 S → lv_has ls 1 [(0, .ref a0)] → wM D S a0 → sK S a0 = 0 → W p l e r_J0_length_8abf5 s m args below meth c H locs 0 0 (MQ below (va_Qi (fun r S9 => wX D S0 S9 ∧ post r S9) (wB D cy X A) A) args s 0 0 A) (F0 m 0 ls []) := by
  obtain ⟨hx, hb, hml, hown, hts⟩ := id F
  have hwg : ∀ w ∈ WG, w.before args s = true := fun w h => hts w (List.mem_cons_of_mem _ h)
  have i_0 : ∀ w ∈ u_ws RJ0 TJ0 4, w ∈ wz_J0_length_8abf5 := fun w h => List.mem_cons_of_mem _ (wu_0 w h)
  have k_9 := hwg _ wf_RJ0_9
  intro S H locs ls a0 hp hW hE hl hL_a0 hK_a0
  unfold wp_J0_length_8abf5_0 at hp
  refine lv_aload_n hx hb dJ0_length_8abf5_0 rfl (lv_at hl 0 rfl) ?_
  obtain ⟨y_1, ey_1, hL_y_1, hK_y_1, hp⟩ := hp
  refine w_get (k := 0) (f := 0) (T := TJ0) (v := .ref y_1) F hK hW hL_a0 hK_a0 (by decide) rfl rfl (by decide) i_0 k_9 (by rw [show wv 0 0 S a0 = va_rf (sR S a0 0) from rfl, ey_1]; rfl) dJ0_length_8abf5_1 ?_
  refine w_len F hK hW hL_y_1 hK_y_1 (by decide) dJ0_length_8abf5_4 ?_
  refine lv_aload_n hx hb dJ0_length_8abf5_5 rfl (lv_at hl 0 rfl) ?_
  refine w_callI (va_runV (As := []) (rest := [.int (Int32.ofNat (sN S y_1))]) F (c_J0_coder_7d493 l hL_a0 hK_a0 hp H.size) (cwV (C := RJ0) 0 hts (wg_V wm_RJ0_335 wy_J0_coder_7d493) rfl rfl rfl (by decide +kernel) ⟨Nat.le_of_ble_eq_true rfl, Nat.le_of_ble_eq_true rfl⟩) (w_preV hK hW hL_a0 hK_a0 (by decide) rfl) rfl rfl hl.1 rfl (lv_room (Nat.le_of_ble_eq_true rfl)) dJ0_length_8abf5_6 ⟨Nat.le_of_ble_eq_true rfl, Nat.le_of_ble_eq_true rfl⟩) hW (fun r_2 S_3 H locs hp hW => ?_)
  obtain ⟨hX_S_3, hp⟩ := hp
  refine W.widen (k := 0) (n := 0) (by decide) (by decide) ?_
  have hE := hE.trans hX_S_3
  have hK_a0 : sK S_3 a0 = 0 := (hX_S_3.2 a0 hL_a0).1.trans hK_a0
  have hL_a0 : wM D S_3 a0 := hX_S_3.M hL_a0
  refine lv_ishr hx hb dJ0_length_8abf5_9 ?_
  exact w_iret hx hb hr hlocks hW ⟨hE, hp⟩ dJ0_length_8abf5_10
set_option maxHeartbeats 4000000 in
set_option maxRecDepth 100000 in
theorem c_J0_length_8abf5 (l : Launch) {D : wD} {cy : Nat → ClassId} {X : va_W} {S0 : wS} {post : Int32 → wS → Prop} {a0 : Nat} (hL_a0 : wM D S0 a0) (hK_a0 : sK S0 a0 = 0) (hp : wp_J0_length_8abf5 D post S0 a0) : mI D cy X l yJ0_length_8abf5 wz_J0_length_8abf5 r_J0_length_8abf5 [.ref a0] S0 (fun r S9 => wX D S0 S9 ∧ post r S9) := by
  intro sz
  refine Met.ofW (cc := cJ0_length_8abf5) (maxL := 1) (ret := (some .int)) (by decide) rfl ?_
  intro p e s m args below meth c s₁ B hml hv
  obtain ⟨rfl, hsz, hP, hK, hD0, hRO⟩ := hv
  have hts := atoms_spec (ws := wz_J0_length_8abf5) B.pre
  have hown : s.vm.findClass RJ0 = some m.cls := findClass_of_methodNamed B.named
  subst hsz
  have hD := hD0.self (sz := s.heap.size)
  have F : CallFix p m c cJ0_length_8abf5 1 s _ wz_J0_length_8abf5 RJ0 := ⟨B.exec, B.bytes, hml, hown, hts⟩
  have hr := B.returns
  have hlocks := B.notSynchronized
  generalize hAe : va_A (wL cy X S0) s.heap.size = A at hD hK ⊢
  have hA : ∀ q, s.heap.size ≤ q → A q := fun q h => by rw [← hAe]; exact Or.inr h
  have hW : wO D cy X A s.heap S0 s.heap [] := ⟨hP, hD, va_S.rf, hA, hRO⟩
  have hl := lv_entry ([.ref a0]) (n := 1) (Nat.le_of_ble_eq_true rfl)
  rw [lg_entry_eq]
  generalize (lg_sl ([.ref a0]) ++ List.replicate (1 - (lg_sl ([.ref a0])).length) Slot.unset).toArray = ls at hl ⊢
  have hl : lv_has ls 1 [(0, .ref a0)] := hl
  unfold wp_J0_length_8abf5 at hp
  exact t_J0_length_8abf5_0 F hr hlocks hK hp hW wX.rf (lv_sub hl [0] rfl) hL_a0 hK_a0
def wp_J1_canEncode_9a6ad_16 (D : wD) (post : Int32 → wS → Prop)  (S : wS) (t0 : Int32) : Prop :=
narrow .boolean (.int t0) = .int t0 ∧ post t0 S
def wp_J1_canEncode_9a6ad_15 (D : wD) (post : Int32 → wS → Prop)  (S : wS) : Prop :=
wp_J1_canEncode_9a6ad_16 D post S (0 : Int32)
def wp_J1_canEncode_9a6ad_0 (D : wD) (post : Int32 → wS → Prop)  (S : wS) (x0 : Int32) : Prop :=
((x0 < 0 → wp_J1_canEncode_9a6ad_15 D post S) ∧
 (¬ x0 < 0 → (((255 : Int32) < x0 → wp_J1_canEncode_9a6ad_15 D post S) ∧
 (¬ (255 : Int32) < x0 → wp_J1_canEncode_9a6ad_16 D post S (1 : Int32)))))
abbrev r_J1_canEncode_9a6ad : Room := { frames := 0, cells := 0, slots := 0, locals := 0 }
def wp_J1_canEncode_9a6ad (D : wD) (post : Int32 → wS → Prop) (S : wS) (x0 : Int32) : Prop := wp_J1_canEncode_9a6ad_0 D post S x0
set_option maxHeartbeats 4000000 in
set_option maxRecDepth 100000 in
theorem t_J1_canEncode_9a6ad_16 {p : Program} {l : Launch} {e : Env} {s : State} {m : MethodId} {args : Array Value} {below : List Frame} {meth : Method} {c : Code} {D : wD} {cy : Nat → ClassId} {X : va_W} {A : Nat → Prop} {S0 : wS} {post : Int32 → wS → Prop} (F : CallFix p m c cJ1_canEncode_9a6ad 1 s args wz_J1_canEncode_9a6ad RJ1) (hr : meth.sig.returnType = (some .boolean)) (hlocks : meth.locks = false) (hK : wK D cy A s) : ∀ {S : wS} {H : Heap} {locs : List Loc} {ls : Array Slot} {t0 : Int32}, wp_J1_canEncode_9a6ad_16 D post S t0 → wO D cy X A s.heap S H locs → wX D S0 S → lv_has ls 1 [] → W p l e r_J1_canEncode_9a6ad s m args below meth c H locs 0 0 (MQ below (va_Qi (fun r S9 => wX D S0 S9 ∧ post r S9) (wB D cy X A) A) args s 0 0 A) (F0 m 16 ls [.int t0]) := by
  obtain ⟨hx, hb, hml, hown, hts⟩ := id F
  have hwg : ∀ w ∈ WG, w.before args s = true := fun w h => hts w (List.mem_cons_of_mem _ h)
  intro S H locs ls t0 hp hW hE hl
  unfold wp_J1_canEncode_9a6ad_16 at hp
  exact w_zret hx hb hr hlocks hW hp.1 ⟨hE, hp.2⟩ dJ1_canEncode_9a6ad_16
set_option maxHeartbeats 4000000 in
set_option maxRecDepth 100000 in
theorem t_J1_canEncode_9a6ad_15 {p : Program} {l : Launch} {e : Env} {s : State} {m : MethodId} {args : Array Value} {below : List Frame} {meth : Method} {c : Code} {D : wD} {cy : Nat → ClassId} {X : va_W} {A : Nat → Prop} {S0 : wS} {post : Int32 → wS → Prop} (F : CallFix p m c cJ1_canEncode_9a6ad 1 s args wz_J1_canEncode_9a6ad RJ1) (hr : meth.sig.returnType = (some .boolean)) (hlocks : meth.locks = false) (hK : wK D cy A s) : ∀ {S : wS} {H : Heap} {locs : List Loc} {ls : Array Slot}, wp_J1_canEncode_9a6ad_15 D post S → wO D cy X A s.heap S H locs → wX D S0 S → lv_has ls 1 [] → W p l e r_J1_canEncode_9a6ad s m args below meth c H locs 0 0 (MQ below (va_Qi (fun r S9 => wX D S0 S9 ∧ post r S9) (wB D cy X A) A) args s 0 0 A) (F0 m 15 ls []) := by
  obtain ⟨hx, hb, hml, hown, hts⟩ := id F
  have hwg : ∀ w ∈ WG, w.before args s = true := fun w h => hts w (List.mem_cons_of_mem _ h)
  intro S H locs ls hp hW hE hl
  unfold wp_J1_canEncode_9a6ad_15 at hp
  refine lv_iconst (v := 0) hx hb dJ1_canEncode_9a6ad_15 (by decide) ?_
  exact t_J1_canEncode_9a6ad_16 F hr hlocks hK hp hW hE (lv_sub hl [] rfl)
set_option maxHeartbeats 4000000 in
set_option maxRecDepth 100000 in
theorem t_J1_canEncode_9a6ad_0 {p : Program} {l : Launch} {e : Env} {s : State} {m : MethodId} {args : Array Value} {below : List Frame} {meth : Method} {c : Code} {D : wD} {cy : Nat → ClassId} {X : va_W} {A : Nat → Prop} {S0 : wS} {post : Int32 → wS → Prop} (F : CallFix p m c cJ1_canEncode_9a6ad 1 s args wz_J1_canEncode_9a6ad RJ1) (hr : meth.sig.returnType = (some .boolean)) (hlocks : meth.locks = false) (hK : wK D cy A s) : ∀ {S : wS} {H : Heap} {locs : List Loc} {ls : Array Slot} {x0 : Int32}, wp_J1_canEncode_9a6ad_0 D post S x0 → wO D cy X A s.heap S H locs → wX D S0 S → lv_has ls 1 [(0, .int x0)] → W p l e r_J1_canEncode_9a6ad s m args below meth c H locs 0 0 (MQ below (va_Qi (fun r S9 => wX D S0 S9 ∧ post r S9) (wB D cy X A) A) args s 0 0 A) (F0 m 0 ls []) := by
  obtain ⟨hx, hb, hml, hown, hts⟩ := id F
  have hwg : ∀ w ∈ WG, w.before args s = true := fun w h => hts w (List.mem_cons_of_mem _ h)
  intro S H locs ls x0 hp hW hE hl
  unfold wp_J1_canEncode_9a6ad_0 at hp
  refine lv_iload_n hx hb dJ1_canEncode_9a6ad_0 rfl (lv_at hl 0 rfl) ?_
  refine lv_if_lt (tgt := 15) hx hb dJ1_canEncode_9a6ad_1 (by decide) (fun c_1 => ?_) (fun c_1 => ?_)
  · replace hp := hp.1 c_1
    exact t_J1_canEncode_9a6ad_15 F hr hlocks hK hp hW hE (lv_sub hl [] rfl)
  · replace hp := hp.2 c_1
    refine lv_iload_n hx hb dJ1_canEncode_9a6ad_4 rfl (lv_at hl 0 rfl) ?_
    refine lv_sipush (v := 255) hx hb dJ1_canEncode_9a6ad_5 (by decide) ?_
    refine lv_icmp_gt (tgt := 15) hx hb dJ1_canEncode_9a6ad_8 (by decide) (fun c_2 => ?_) (fun c_2 => ?_)
    · replace hp := hp.1 c_2
      exact t_J1_canEncode_9a6ad_15 F hr hlocks hK hp hW hE (lv_sub hl [] rfl)
    · replace hp := hp.2 c_2
      refine lv_iconst (v := 1) hx hb dJ1_canEncode_9a6ad_11 (by decide) ?_
      refine lv_goto (tgt := 16) hx hb dJ1_canEncode_9a6ad_12 (by decide) ?_
      exact t_J1_canEncode_9a6ad_16 F hr hlocks hK hp hW hE (lv_sub hl [] rfl)
set_option maxHeartbeats 4000000 in
set_option maxRecDepth 100000 in
theorem c_J1_canEncode_9a6ad (l : Launch) {D : wD} {cy : Nat → ClassId} {X : va_W} {S0 : wS} {post : Int32 → wS → Prop} {x0 : Int32} (hp : wp_J1_canEncode_9a6ad D post S0 x0) : mI D cy X l yJ1_canEncode_9a6ad wz_J1_canEncode_9a6ad r_J1_canEncode_9a6ad [.int x0] S0 (fun r S9 => wX D S0 S9 ∧ post r S9) := by
  intro sz
  refine Met.ofW (cc := cJ1_canEncode_9a6ad) (maxL := 1) (ret := (some .boolean)) (by decide) rfl ?_
  intro p e s m args below meth c s₁ B hml hv
  obtain ⟨rfl, hsz, hP, hK, hD0, hRO⟩ := hv
  have hts := atoms_spec (ws := wz_J1_canEncode_9a6ad) B.pre
  have hown : s.vm.findClass RJ1 = some m.cls := findClass_of_methodNamed B.named
  subst hsz
  have hD := hD0.self (sz := s.heap.size)
  have F : CallFix p m c cJ1_canEncode_9a6ad 1 s _ wz_J1_canEncode_9a6ad RJ1 := ⟨B.exec, B.bytes, hml, hown, hts⟩
  have hr := B.returns
  have hlocks := B.notSynchronized
  generalize hAe : va_A (wL cy X S0) s.heap.size = A at hD hK ⊢
  have hA : ∀ q, s.heap.size ≤ q → A q := fun q h => by rw [← hAe]; exact Or.inr h
  have hW : wO D cy X A s.heap S0 s.heap [] := ⟨hP, hD, va_S.rf, hA, hRO⟩
  have hl := lv_entry ([.int x0]) (n := 1) (Nat.le_of_ble_eq_true rfl)
  rw [lg_entry_eq]
  generalize (lg_sl ([.int x0]) ++ List.replicate (1 - (lg_sl ([.int x0])).length) Slot.unset).toArray = ls at hl ⊢
  have hl : lv_has ls 1 [(0, .int x0)] := hl
  unfold wp_J1_canEncode_9a6ad at hp
  exact t_J1_canEncode_9a6ad_0 F hr hlocks hK hp hW wX.rf (lv_sub hl [0] rfl)
def wp_J1_indexOfChar_4cfef_7 (D : wD) (post : Int32 → wS → Prop)  : Nat → wS → Nat → Int32 → Int32 → Int32 → Prop
  | 0, _, _, _, _, _ => False
  | n + 1, S, a0, x3, x4, x5 =>
    ((x3 ≤ x5 → post (-1 : Int32) S) ∧
     (¬ x3 ≤ x5 → vp_in x5 (sN S a0) ∧
    ((¬ (sI S a0 (x5).toNatClampNeg) = x4 → ∀ x_4 : Int32, x_4 = x5 + 1 →
    wp_J1_indexOfChar_4cfef_7 D post n S a0 x3 x4 x_4) ∧
     ((sI S a0 (x5).toNatClampNeg) = x4 → post x5 S))))
def wp_J1_indexOfChar_4cfef_0 (D : wD) (post : Int32 → wS → Prop)  (S : wS) (a0 : Nat) (x1 : Int32) (x2 : Int32) (x3 : Int32) : Prop :=
∀ x_1 : Int32, x_1 = ((Int32.toInt8 x1).toInt32) →
∃ n_2 : Nat, wp_J1_indexOfChar_4cfef_7 D post n_2 S a0 x3 x_1 x2
abbrev r_J1_indexOfChar_4cfef : Room := { frames := 0, cells := 0, slots := 0, locals := 0 }
def wp_J1_indexOfChar_4cfef (D : wD) (post : Int32 → wS → Prop) (S : wS) (a0 : Nat) (x1 : Int32) (x2 : Int32) (x3 : Int32) : Prop := wp_J1_indexOfChar_4cfef_0 D post S a0 x1 x2 x3
set_option maxHeartbeats 4000000 in
set_option maxRecDepth 100000 in
theorem t_J1_indexOfChar_4cfef_7 {p : Program} {l : Launch} {e : Env} {s : State} {m : MethodId} {args : Array Value} {below : List Frame} {meth : Method} {c : Code} {D : wD} {cy : Nat → ClassId} {X : va_W} {A : Nat → Prop} {S0 : wS} {post : Int32 → wS → Prop} (F : CallFix p m c cJ1_indexOfChar_4cfef 6 s args wz_J1_indexOfChar_4cfef RJ1) (hr : meth.sig.returnType = (some .int)) (hlocks : meth.locks = false) (hK : wK D cy A s) : ∀ (n : Nat) {S : wS} {H : Heap} {locs : List Loc} {ls : Array Slot} {a0 : Nat} {x3 : Int32} {x4 : Int32} {x5 : Int32}, wp_J1_indexOfChar_4cfef_7 D post n S a0 x3 x4 x5 → wO D cy X A s.heap S H locs → wX D S0 S → lv_has ls 6 [(0, .ref a0), (3, .int x3), (4, .int x4), (5, .int x5)] → wM D S a0 → sK S a0 = 20 → W p l e r_J1_indexOfChar_4cfef s m args below meth c H locs 0 0 (MQ below (va_Qi (fun r S9 => wX D S0 S9 ∧ post r S9) (wB D cy X A) A) args s 0 0 A) (F0 m 7 ls []) := by
  obtain ⟨hx, hb, hml, hown, hts⟩ := id F
  have hwg : ∀ w ∈ WG, w.before args s = true := fun w h => hts w (List.mem_cons_of_mem _ h)
  intro n
  induction n with
  | zero =>
    intro S H locs ls a0 x3 x4 x5 hp
    exact hp.elim
  | succ n ih =>
    intro S H locs ls a0 x3 x4 x5 hp hW hE hl hL_a0 hK_a0
    unfold wp_J1_indexOfChar_4cfef_7 at hp
    refine lv_iload hx hb dJ1_indexOfChar_4cfef_7 (lv_at hl 3 rfl) ?_
    refine lv_iload_n hx hb dJ1_indexOfChar_4cfef_9 rfl (lv_at hl 1 rfl) ?_
    refine lv_icmp_ge (tgt := 31) hx hb dJ1_indexOfChar_4cfef_10 (by decide) (fun c_1 => ?_) (fun c_1 => ?_)
    · replace hp := hp.1 c_1
      refine lv_iconst (v := (-1)) hx hb dJ1_indexOfChar_4cfef_31 (by decide) ?_
      exact w_iret hx hb hr hlocks hW ⟨hE, hp⟩ dJ1_indexOfChar_4cfef_32
    · replace hp := hp.2 c_1
      refine lv_aload_n hx hb dJ1_indexOfChar_4cfef_13 rfl (lv_at hl 0 rfl) ?_
      refine lv_iload hx hb dJ1_indexOfChar_4cfef_14 (lv_at hl 3 rfl) ?_
      obtain ⟨h_2, hp⟩ := hp
      refine w_bld F hK hW hL_a0 hK_a0 h_2 dJ1_indexOfChar_4cfef_16 ?_
      refine lv_iload hx hb dJ1_indexOfChar_4cfef_17 (lv_at hl 2 rfl) ?_
      refine lv_icmp_ne (tgt := 25) hx hb dJ1_indexOfChar_4cfef_19 (by decide) (fun c_3 => ?_) (fun c_3 => ?_)
      · replace hp := hp.1 c_3
        obtain ⟨x_4, ex_4⟩ : ∃ z : Int32, z = x5 + 1 := ⟨_, rfl⟩
        replace hp := hp x_4 ex_4
        refine lv_iinc (v := x_4) (lv' := [(5, .int x_4), (0, .ref a0), (3, .int x3), (4, .int x4)]) hx hb dJ1_indexOfChar_4cfef_25 hl (k := 3) rfl (by rw [ex_4]; rfl) (by decide) rfl (fun ls hl => ?_)
        refine lv_goto (tgt := 7) hx hb dJ1_indexOfChar_4cfef_28 (by decide) ?_
        exact ih hp hW hE (lv_sub hl [1, 2, 3, 0] rfl) hL_a0 hK_a0
      · replace hp := hp.2 c_3
        refine lv_iload hx hb dJ1_indexOfChar_4cfef_22 (lv_at hl 3 rfl) ?_
        exact w_iret hx hb hr hlocks hW ⟨hE, hp⟩ dJ1_indexOfChar_4cfef_24
set_option maxHeartbeats 4000000 in
set_option maxRecDepth 100000 in
theorem t_J1_indexOfChar_4cfef_0 {p : Program} {l : Launch} {e : Env} {s : State} {m : MethodId} {args : Array Value} {below : List Frame} {meth : Method} {c : Code} {D : wD} {cy : Nat → ClassId} {X : va_W} {A : Nat → Prop} {S0 : wS} {post : Int32 → wS → Prop} (F : CallFix p m c cJ1_indexOfChar_4cfef 6 s args wz_J1_indexOfChar_4cfef RJ1) (hr : meth.sig.returnType = (some .int)) (hlocks : meth.locks = false) (hK : wK D cy A s) : ∀ {S : wS} {H : Heap} {locs : List Loc} {ls : Array Slot} {a0 : Nat} {x1 : Int32} {x2 : Int32} {x3 : Int32}, wp_J1_indexOfChar_4cfef_0 D post S a0 x1 x2 x3 → wO D cy X A s.heap S H locs → wX D S0 S → lv_has ls 6 [(0, .ref a0), (1, .int x1), (2, .int x2), (3, .int x3)] → wM D S a0 → sK S a0 = 20 → W p l e r_J1_indexOfChar_4cfef s m args below meth c H locs 0 0 (MQ below (va_Qi (fun r S9 => wX D S0 S9 ∧ post r S9) (wB D cy X A) A) args s 0 0 A) (F0 m 0 ls []) := by
  obtain ⟨hx, hb, hml, hown, hts⟩ := id F
  have hwg : ∀ w ∈ WG, w.before args s = true := fun w h => hts w (List.mem_cons_of_mem _ h)
  intro S H locs ls a0 x1 x2 x3 hp hW hE hl hL_a0 hK_a0
  unfold wp_J1_indexOfChar_4cfef_0 at hp
  refine lv_iload_n hx hb dJ1_indexOfChar_4cfef_0 rfl (lv_at hl 1 rfl) ?_
  refine lv_i2b (v := (Int32.toInt8 x1).toInt32) hx hb dJ1_indexOfChar_4cfef_1 rfl ?_
  refine lv_topi (fun x_1 ex_1 => ?_)
  replace hp := hp x_1 ex_1
  refine lv_istore (lv' := [(4, .int x_1), (0, .ref a0), (1, .int x1), (2, .int x2), (3, .int x3)]) hx hb dJ1_indexOfChar_4cfef_2 hl (by decide) rfl (fun ls hl => ?_)
  refine lv_iload_n hx hb dJ1_indexOfChar_4cfef_4 rfl (lv_at hl 3 rfl) ?_
  refine lv_istore (lv' := [(5, .int x2), (4, .int x_1), (0, .ref a0), (1, .int x1), (2, .int x2), (3, .int x3)]) hx hb dJ1_indexOfChar_4cfef_5 hl (by decide) rfl (fun ls hl => ?_)
  obtain ⟨n_2, hp⟩ := hp
  exact t_J1_indexOfChar_4cfef_7 F hr hlocks hK n_2 hp hW hE (lv_sub hl [2, 5, 1, 0] rfl) hL_a0 hK_a0
set_option maxHeartbeats 4000000 in
set_option maxRecDepth 100000 in
theorem c_J1_indexOfChar_4cfef (l : Launch) {D : wD} {cy : Nat → ClassId} {X : va_W} {S0 : wS} {post : Int32 → wS → Prop} {a0 : Nat} {x1 : Int32} {x2 : Int32} {x3 : Int32} (hL_a0 : wM D S0 a0) (hK_a0 : sK S0 a0 = 20) (hp : wp_J1_indexOfChar_4cfef D post S0 a0 x1 x2 x3) : mI D cy X l yJ1_indexOfChar_4cfef wz_J1_indexOfChar_4cfef r_J1_indexOfChar_4cfef [.ref a0, .int x1, .int x2, .int x3] S0 (fun r S9 => wX D S0 S9 ∧ post r S9) := by
  intro sz
  refine Met.ofW (cc := cJ1_indexOfChar_4cfef) (maxL := 6) (ret := (some .int)) (by decide) rfl ?_
  intro p e s m args below meth c s₁ B hml hv
  obtain ⟨rfl, hsz, hP, hK, hD0, hRO⟩ := hv
  have hts := atoms_spec (ws := wz_J1_indexOfChar_4cfef) B.pre
  have hown : s.vm.findClass RJ1 = some m.cls := findClass_of_methodNamed B.named
  subst hsz
  have hD := hD0.self (sz := s.heap.size)
  have F : CallFix p m c cJ1_indexOfChar_4cfef 6 s _ wz_J1_indexOfChar_4cfef RJ1 := ⟨B.exec, B.bytes, hml, hown, hts⟩
  have hr := B.returns
  have hlocks := B.notSynchronized
  generalize hAe : va_A (wL cy X S0) s.heap.size = A at hD hK ⊢
  have hA : ∀ q, s.heap.size ≤ q → A q := fun q h => by rw [← hAe]; exact Or.inr h
  have hW : wO D cy X A s.heap S0 s.heap [] := ⟨hP, hD, va_S.rf, hA, hRO⟩
  have hl := lv_entry ([.ref a0, .int x1, .int x2, .int x3]) (n := 6) (Nat.le_of_ble_eq_true rfl)
  rw [lg_entry_eq]
  generalize (lg_sl ([.ref a0, .int x1, .int x2, .int x3]) ++ List.replicate (6 - (lg_sl ([.ref a0, .int x1, .int x2, .int x3])).length) Slot.unset).toArray = ls at hl ⊢
  have hl : lv_has ls 6 [(0, .ref a0), (1, .int x1), (2, .int x2), (3, .int x3)] := hl
  unfold wp_J1_indexOfChar_4cfef at hp
  exact t_J1_indexOfChar_4cfef_0 F hr hlocks hK hp hW wX.rf (lv_sub hl [0, 1, 2, 3] rfl) hL_a0 hK_a0
def wp_J1_indexOf_4cfef_0 (D : wD) (post : Int32 → wS → Prop)  (S : wS) (a0 : Nat) (x1 : Int32) (x2 : Int32) (x3 : Int32) : Prop :=
wp_J1_canEncode_9a6ad D (fun r_1 S_2 => 
((¬ r_1 = 0 → ∀ x_4 : Int32, x_4 = (if x2 < (0 : Int32) then (0 : Int32) else x2) →
∀ x_5 : Int32, x_5 = (if (Int32.ofNat (sN S_2 a0)) < x3 then (Int32.ofNat (sN S_2 a0)) else x3) →
((x_4 < x_5 → wp_J1_indexOfChar_4cfef D (fun r_7 S_8 => 
post r_7 S_8) S_2 a0 x1 x_4 x_5) ∧
 (¬ x_4 < x_5 → post (-1 : Int32) S_2))) ∧
 (r_1 = 0 → post (-1 : Int32) S_2))) S x1
abbrev r_J1_indexOf_4cfef : Room := { frames := 1, cells := 0, slots := 0, locals := 40 }
def wp_J1_indexOf_4cfef (D : wD) (post : Int32 → wS → Prop) (S : wS) (a0 : Nat) (x1 : Int32) (x2 : Int32) (x3 : Int32) : Prop := wp_J1_indexOf_4cfef_0 D post S a0 x1 x2 x3
set_option maxHeartbeats 4000000 in
set_option maxRecDepth 100000 in
theorem t_J1_indexOf_4cfef_0 {p : Program} {l : Launch} {e : Env} {s : State} {m : MethodId} {args : Array Value} {below : List Frame} {meth : Method} {c : Code} {D : wD} {cy : Nat → ClassId} {X : va_W} {A : Nat → Prop} {S0 : wS} {post : Int32 → wS → Prop} (F : CallFix p m c cJ1_indexOf_4cfef 4 s args wz_J1_indexOf_4cfef RJ1) (hr : meth.sig.returnType = (some .int)) (hlocks : meth.locks = false) (hK : wK D cy A s) : ∀ {S : wS} {H : Heap} {locs : List Loc} {ls : Array Slot} {a0 : Nat} {x1 : Int32} {x2 : Int32} {x3 : Int32}, wp_J1_indexOf_4cfef_0 D post S a0 x1 x2 x3 → wO D cy X A s.heap S H locs → wX D S0 S → lv_has ls 4 [(0, .ref a0), (1, .int x1), (2, .int x2), (3, .int x3)] → wM D S a0 → sK S a0 = 20 → W p l e r_J1_indexOf_4cfef s m args below meth c H locs 0 0 (MQ below (va_Qi (fun r S9 => wX D S0 S9 ∧ post r S9) (wB D cy X A) A) args s 0 0 A) (F0 m 0 ls []) := by
  obtain ⟨hx, hb, hml, hown, hts⟩ := id F
  have hwg : ∀ w ∈ WG, w.before args s = true := fun w h => hts w (List.mem_cons_of_mem _ h)
  intro S H locs ls a0 x1 x2 x3 hp hW hE hl hL_a0 hK_a0
  unfold wp_J1_indexOf_4cfef_0 at hp
  refine lv_iload_n hx hb dJ1_indexOf_4cfef_0 rfl (lv_at hl 1 rfl) ?_
  refine w_callI (va_runS (As := [.int x1]) (rest := []) F (c_J1_canEncode_9a6ad l hp H.size) (va_cwS 1 hts (wg_S wm_RJ1_88 wy_J1_canEncode_9a6ad) rfl rfl rfl (by decide +kernel) ⟨Nat.le_of_ble_eq_true rfl, Nat.le_of_ble_eq_true rfl⟩) (w_preS hK hW) rfl rfl hl.1 rfl (lv_room (Nat.le_of_ble_eq_true rfl)) dJ1_indexOf_4cfef_1 ⟨Nat.le_of_ble_eq_true rfl, Nat.le_of_ble_eq_true rfl⟩) hW (fun r_1 S_2 H locs hp hW => ?_)
  obtain ⟨hX_S_2, hp⟩ := hp
  refine W.widen (k := 0) (n := 0) (by decide) (by decide) ?_
  have hE := hE.trans hX_S_2
  have hK_a0 : sK S_2 a0 = 20 := (hX_S_2.2 a0 hL_a0).1.trans hK_a0
  have hL_a0 : wM D S_2 a0 := hX_S_2.M hL_a0
  refine lv_if_ne (tgt := 9) hx hb dJ1_indexOf_4cfef_4 (by decide) (fun c_3 => ?_) (fun c_3 => ?_)
  · replace hp := hp.1 c_3
    refine lv_iload_n hx hb dJ1_indexOf_4cfef_9 rfl (lv_at hl 2 rfl) ?_
    refine lv_iconst (v := 0) hx hb dJ1_indexOf_4cfef_10 (by decide) ?_
    refine va_mmax hx hb (hml.trans hl.1.symm) hown (hwg _ wm_RJ1_92) (hwg _ wmm_max.1) (hwg _ wmm_max.2.1) (hwg _ wmm_max.2.2) (Nat.le_of_ble_eq_true rfl) (Nat.le_of_ble_eq_true rfl) (Nat.le_of_ble_eq_true rfl) (Nat.le_of_ble_eq_true rfl) dJ1_indexOf_4cfef_11 ?_
    refine lv_topi (fun x_4 ex_4 => ?_)
    replace hp := hp x_4 ex_4
    refine lv_istore_n (lv' := [(2, .int x_4), (0, .ref a0), (1, .int x1), (3, .int x3)]) hx hb dJ1_indexOf_4cfef_14 rfl hl (by decide) rfl (fun ls hl => ?_)
    refine lv_iload_n hx hb dJ1_indexOf_4cfef_15 rfl (lv_at hl 3 rfl) ?_
    refine lv_aload_n hx hb dJ1_indexOf_4cfef_16 rfl (lv_at hl 1 rfl) ?_
    refine w_len F hK hW hL_a0 hK_a0 (by decide) dJ1_indexOf_4cfef_17 ?_
    refine va_mmin hx hb (hml.trans hl.1.symm) hown (hwg _ wm_RJ1_38) (hwg _ wmm_min.1) (hwg _ wmm_min.2.1) (hwg _ wmm_min.2.2) (Nat.le_of_ble_eq_true rfl) (Nat.le_of_ble_eq_true rfl) (Nat.le_of_ble_eq_true rfl) (Nat.le_of_ble_eq_true rfl) dJ1_indexOf_4cfef_18 ?_
    refine lv_topi (fun x_5 ex_5 => ?_)
    replace hp := hp x_5 ex_5
    refine lv_istore_n (lv' := [(3, .int x_5), (2, .int x_4), (0, .ref a0), (1, .int x1)]) hx hb dJ1_indexOf_4cfef_21 rfl hl (by decide) rfl (fun ls hl => ?_)
    refine lv_iload_n hx hb dJ1_indexOf_4cfef_22 rfl (lv_at hl 1 rfl) ?_
    refine lv_iload_n hx hb dJ1_indexOf_4cfef_23 rfl (lv_at hl 0 rfl) ?_
    refine lv_icmp_lt (tgt := 29) hx hb dJ1_indexOf_4cfef_24 (by decide) (fun c_6 => ?_) (fun c_6 => ?_)
    · replace hp := hp.1 c_6
      refine lv_aload_n hx hb dJ1_indexOf_4cfef_29 rfl (lv_at hl 2 rfl) ?_
      refine lv_iload_n hx hb dJ1_indexOf_4cfef_30 rfl (lv_at hl 3 rfl) ?_
      refine lv_iload_n hx hb dJ1_indexOf_4cfef_31 rfl (lv_at hl 1 rfl) ?_
      refine lv_iload_n hx hb dJ1_indexOf_4cfef_32 rfl (lv_at hl 0 rfl) ?_
      refine w_callI (va_runS (As := [.ref a0, .int x1, .int x_4, .int x_5]) (rest := []) F (c_J1_indexOfChar_4cfef l hL_a0 hK_a0 hp H.size) (va_cwS 4 hts (wg_S wm_RJ1_95 wy_J1_indexOfChar_4cfef) rfl rfl rfl (by decide +kernel) ⟨Nat.le_of_ble_eq_true rfl, Nat.le_of_ble_eq_true rfl⟩) (w_preS hK hW) rfl rfl hl.1 rfl (lv_room (Nat.le_of_ble_eq_true rfl)) dJ1_indexOf_4cfef_33 ⟨Nat.le_of_ble_eq_true rfl, Nat.le_of_ble_eq_true rfl⟩) hW (fun r_7 S_8 H locs hp hW => ?_)
      obtain ⟨hX_S_8, hp⟩ := hp
      refine W.widen (k := 0) (n := 0) (by decide) (by decide) ?_
      have hE := hE.trans hX_S_8
      have hK_a0 : sK S_8 a0 = 20 := (hX_S_8.2 a0 hL_a0).1.trans hK_a0
      have hL_a0 : wM D S_8 a0 := hX_S_8.M hL_a0
      exact w_iret hx hb hr hlocks hW ⟨hE, hp⟩ dJ1_indexOf_4cfef_36
    · replace hp := hp.2 c_6
      refine lv_iconst (v := (-1)) hx hb dJ1_indexOf_4cfef_27 (by decide) ?_
      exact w_iret hx hb hr hlocks hW ⟨hE, hp⟩ dJ1_indexOf_4cfef_28
  · replace hp := hp.2 c_3
    refine lv_iconst (v := (-1)) hx hb dJ1_indexOf_4cfef_7 (by decide) ?_
    exact w_iret hx hb hr hlocks hW ⟨hE, hp⟩ dJ1_indexOf_4cfef_8
set_option maxHeartbeats 4000000 in
set_option maxRecDepth 100000 in
theorem c_J1_indexOf_4cfef (l : Launch) {D : wD} {cy : Nat → ClassId} {X : va_W} {S0 : wS} {post : Int32 → wS → Prop} {a0 : Nat} {x1 : Int32} {x2 : Int32} {x3 : Int32} (hL_a0 : wM D S0 a0) (hK_a0 : sK S0 a0 = 20) (hp : wp_J1_indexOf_4cfef D post S0 a0 x1 x2 x3) : mI D cy X l yJ1_indexOf_4cfef wz_J1_indexOf_4cfef r_J1_indexOf_4cfef [.ref a0, .int x1, .int x2, .int x3] S0 (fun r S9 => wX D S0 S9 ∧ post r S9) := by
  intro sz
  refine Met.ofW (cc := cJ1_indexOf_4cfef) (maxL := 4) (ret := (some .int)) (by decide) rfl ?_
  intro p e s m args below meth c s₁ B hml hv
  obtain ⟨rfl, hsz, hP, hK, hD0, hRO⟩ := hv
  have hts := atoms_spec (ws := wz_J1_indexOf_4cfef) B.pre
  have hown : s.vm.findClass RJ1 = some m.cls := findClass_of_methodNamed B.named
  subst hsz
  have hD := hD0.self (sz := s.heap.size)
  have F : CallFix p m c cJ1_indexOf_4cfef 4 s _ wz_J1_indexOf_4cfef RJ1 := ⟨B.exec, B.bytes, hml, hown, hts⟩
  have hr := B.returns
  have hlocks := B.notSynchronized
  generalize hAe : va_A (wL cy X S0) s.heap.size = A at hD hK ⊢
  have hA : ∀ q, s.heap.size ≤ q → A q := fun q h => by rw [← hAe]; exact Or.inr h
  have hW : wO D cy X A s.heap S0 s.heap [] := ⟨hP, hD, va_S.rf, hA, hRO⟩
  have hl := lv_entry ([.ref a0, .int x1, .int x2, .int x3]) (n := 4) (Nat.le_of_ble_eq_true rfl)
  rw [lg_entry_eq]
  generalize (lg_sl ([.ref a0, .int x1, .int x2, .int x3]) ++ List.replicate (4 - (lg_sl ([.ref a0, .int x1, .int x2, .int x3])).length) Slot.unset).toArray = ls at hl ⊢
  have hl : lv_has ls 4 [(0, .ref a0), (1, .int x1), (2, .int x2), (3, .int x3)] := hl
  unfold wp_J1_indexOf_4cfef at hp
  exact t_J1_indexOf_4cfef_0 F hr hlocks hK hp hW wX.rf (lv_sub hl [0, 1, 2, 3] rfl) hL_a0 hK_a0
def wp_J2_checkBoundsBeginEnd_d044e_0 (D : wD) (post : wS → Prop)  (S : wS) (x0 : Int32) (x1 : Int32) (a2 : Nat) : Prop :=
wp_J2_length_9d52b D (fun r_1 S_2 => 
wp_J0_checkBoundsBeginEnd_23922 D (fun S_4 => 
post S_4) S_2 x0 x1 r_1) S a2
abbrev r_J2_checkBoundsBeginEnd_d044e : Room := { frames := 2, cells := 0, slots := 0, locals := 45 }
def wp_J2_checkBoundsBeginEnd_d044e (D : wD) (post : wS → Prop) (S : wS) (x0 : Int32) (x1 : Int32) (a2 : Nat) : Prop := wp_J2_checkBoundsBeginEnd_d044e_0 D post S x0 x1 a2
set_option maxHeartbeats 4000000 in
set_option maxRecDepth 100000 in
theorem t_J2_checkBoundsBeginEnd_d044e_0 {p : Program} {l : Launch} {e : Env} {s : State} {m : MethodId} {args : Array Value} {below : List Frame} {meth : Method} {c : Code} {D : wD} {cy : Nat → ClassId} {X : va_W} {A : Nat → Prop} {S0 : wS} {post : wS → Prop} (F : CallFix p m c cJ2_checkBoundsBeginEnd_d044e 3 s args wz_J2_checkBoundsBeginEnd_d044e RJ2) (hr : meth.sig.returnType = none) (hlocks : meth.locks = false) (hK : wK D cy A s) : ∀ {S : wS} {H : Heap} {locs : List Loc} {ls : Array Slot} {x0 : Int32} {x1 : Int32} {a2 : Nat}, wp_J2_checkBoundsBeginEnd_d044e_0 D post S x0 x1 a2 → wO D cy X A s.heap S H locs → wX D S0 S → lv_has ls 3 [(0, .int x0), (1, .int x1), (2, .ref a2)] → wM D S a2 → sK S a2 = 20 → W p l e r_J2_checkBoundsBeginEnd_d044e s m args below meth c H locs 0 0 (MQ below (va_Qv (fun S9 => wX D S0 S9 ∧ post S9) (wB D cy X A) A) args s 0 0 A) (F0 m 0 ls []) := by
  obtain ⟨hx, hb, hml, hown, hts⟩ := id F
  have hwg : ∀ w ∈ WG, w.before args s = true := fun w h => hts w (List.mem_cons_of_mem _ h)
  intro S H locs ls x0 x1 a2 hp hW hE hl hL_a2 hK_a2
  unfold wp_J2_checkBoundsBeginEnd_d044e_0 at hp
  refine lv_iload_n hx hb dJ2_checkBoundsBeginEnd_d044e_0 rfl (lv_at hl 0 rfl) ?_
  refine lv_iload_n hx hb dJ2_checkBoundsBeginEnd_d044e_1 rfl (lv_at hl 1 rfl) ?_
  refine lv_aload_n hx hb dJ2_checkBoundsBeginEnd_d044e_2 rfl (lv_at hl 2 rfl) ?_
  refine w_callI (va_runS (As := [.ref a2]) (rest := [.int x1, .int x0]) F (c_J2_length_9d52b l hL_a2 hK_a2 hp H.size) (va_cwS 1 hts (wg_S wm_RJ2_48 wy_J2_length_9d52b) rfl rfl rfl (by decide +kernel) ⟨Nat.le_of_ble_eq_true rfl, Nat.le_of_ble_eq_true rfl⟩) (w_preS hK hW) rfl rfl hl.1 rfl (lv_room (Nat.le_of_ble_eq_true rfl)) dJ2_checkBoundsBeginEnd_d044e_3 ⟨Nat.le_of_ble_eq_true rfl, Nat.le_of_ble_eq_true rfl⟩) hW (fun r_1 S_2 H locs hp hW => ?_)
  obtain ⟨hX_S_2, hp⟩ := hp
  refine W.widen (k := 0) (n := 0) (by decide) (by decide) ?_
  have hE := hE.trans hX_S_2
  have hK_a2 : sK S_2 a2 = 20 := (hX_S_2.2 a2 hL_a2).1.trans hK_a2
  have hL_a2 : wM D S_2 a2 := hX_S_2.M hL_a2
  refine w_callV (va_runS (As := [.int x0, .int x1, .int r_1]) (rest := []) F (c_J0_checkBoundsBeginEnd_23922 l hp H.size) (va_cwS 3 hts (wg_S wm_RJ2_241 wy_J0_checkBoundsBeginEnd_23922) rfl rfl rfl (by decide +kernel) ⟨Nat.le_of_ble_eq_true rfl, Nat.le_of_ble_eq_true rfl⟩) (w_preS hK hW) rfl rfl hl.1 rfl (lv_room (Nat.le_of_ble_eq_true rfl)) dJ2_checkBoundsBeginEnd_d044e_6 ⟨Nat.le_of_ble_eq_true rfl, Nat.le_of_ble_eq_true rfl⟩) hW (fun S_4 H locs hp hW => ?_)
  obtain ⟨hX_S_4, hp⟩ := hp
  refine W.widen (k := 0) (n := 0) (by decide) (by decide) ?_
  have hE := hE.trans hX_S_4
  have hK_a2 : sK S_4 a2 = 20 := (hX_S_4.2 a2 hL_a2).1.trans hK_a2
  have hL_a2 : wM D S_4 a2 := hX_S_4.M hL_a2
  exact w_vret hx hb hr hlocks hW ⟨hE, hp⟩ dJ2_checkBoundsBeginEnd_d044e_9
set_option maxHeartbeats 4000000 in
set_option maxRecDepth 100000 in
theorem c_J2_checkBoundsBeginEnd_d044e (l : Launch) {D : wD} {cy : Nat → ClassId} {X : va_W} {S0 : wS} {post : wS → Prop} {x0 : Int32} {x1 : Int32} {a2 : Nat} (hL_a2 : wM D S0 a2) (hK_a2 : sK S0 a2 = 20) (hp : wp_J2_checkBoundsBeginEnd_d044e D post S0 x0 x1 a2) : mV D cy X l yJ2_checkBoundsBeginEnd_d044e wz_J2_checkBoundsBeginEnd_d044e r_J2_checkBoundsBeginEnd_d044e [.int x0, .int x1, .ref a2] S0 (fun S9 => wX D S0 S9 ∧ post S9) := by
  intro sz
  refine Met.ofW (cc := cJ2_checkBoundsBeginEnd_d044e) (maxL := 3) (ret := none) (by decide) rfl ?_
  intro p e s m args below meth c s₁ B hml hv
  obtain ⟨rfl, hsz, hP, hK, hD0, hRO⟩ := hv
  have hts := atoms_spec (ws := wz_J2_checkBoundsBeginEnd_d044e) B.pre
  have hown : s.vm.findClass RJ2 = some m.cls := findClass_of_methodNamed B.named
  subst hsz
  have hD := hD0.self (sz := s.heap.size)
  have F : CallFix p m c cJ2_checkBoundsBeginEnd_d044e 3 s _ wz_J2_checkBoundsBeginEnd_d044e RJ2 := ⟨B.exec, B.bytes, hml, hown, hts⟩
  have hr := B.returns
  have hlocks := B.notSynchronized
  generalize hAe : va_A (wL cy X S0) s.heap.size = A at hD hK ⊢
  have hA : ∀ q, s.heap.size ≤ q → A q := fun q h => by rw [← hAe]; exact Or.inr h
  have hW : wO D cy X A s.heap S0 s.heap [] := ⟨hP, hD, va_S.rf, hA, hRO⟩
  have hl := lv_entry ([.int x0, .int x1, .ref a2]) (n := 3) (Nat.le_of_ble_eq_true rfl)
  rw [lg_entry_eq]
  generalize (lg_sl ([.int x0, .int x1, .ref a2]) ++ List.replicate (3 - (lg_sl ([.int x0, .int x1, .ref a2])).length) Slot.unset).toArray = ls at hl ⊢
  have hl : lv_has ls 3 [(0, .int x0), (1, .int x1), (2, .ref a2)] := hl
  unfold wp_J2_checkBoundsBeginEnd_d044e at hp
  exact t_J2_checkBoundsBeginEnd_d044e_0 F hr hlocks hK hp hW wX.rf (lv_sub hl [0, 1, 2] rfl) hL_a2 hK_a2
def wp_J2_indexOfCharUnsafe_4cfef_3 (D : wD) (post : Int32 → wS → Prop)  : Nat → wS → Nat → Int32 → Int32 → Int32 → Prop
  | 0, _, _, _, _, _ => False
  | n + 1, S, a0, x1, x3, x4 =>
    ((x3 ≤ x4 → post (-1 : Int32) S) ∧
     (¬ x3 ≤ x4 → wp_J2_getChar_3b067 D (fun r_2 S_3 => 
    ((¬ r_2 = x1 → ∀ x_5 : Int32, x_5 = x4 + 1 →
    wp_J2_indexOfCharUnsafe_4cfef_3 D post n S_3 a0 x1 x3 x_5) ∧
     (r_2 = x1 → post x4 S_3))) S a0 x4))
def wp_J2_indexOfCharUnsafe_4cfef_0 (D : wD) (post : Int32 → wS → Prop)  (S : wS) (a0 : Nat) (x1 : Int32) (x2 : Int32) (x3 : Int32) : Prop :=
∃ n_1 : Nat, wp_J2_indexOfCharUnsafe_4cfef_3 D post n_1 S a0 x1 x3 x2
abbrev r_J2_indexOfCharUnsafe_4cfef : Room := { frames := 2, cells := 0, slots := 0, locals := 41 }
def wp_J2_indexOfCharUnsafe_4cfef (D : wD) (post : Int32 → wS → Prop) (S : wS) (a0 : Nat) (x1 : Int32) (x2 : Int32) (x3 : Int32) : Prop := wp_J2_indexOfCharUnsafe_4cfef_0 D post S a0 x1 x2 x3
set_option maxHeartbeats 4000000 in
set_option maxRecDepth 100000 in
theorem t_J2_indexOfCharUnsafe_4cfef_3 {p : Program} {l : Launch} {e : Env} {s : State} {m : MethodId} {args : Array Value} {below : List Frame} {meth : Method} {c : Code} {D : wD} {cy : Nat → ClassId} {X : va_W} {A : Nat → Prop} {S0 : wS} {post : Int32 → wS → Prop} (F : CallFix p m c cJ2_indexOfCharUnsafe_4cfef 5 s args wz_J2_indexOfCharUnsafe_4cfef RJ2) (hr : meth.sig.returnType = (some .int)) (hlocks : meth.locks = false) (hK : wK D cy A s) : ∀ (n : Nat) {S : wS} {H : Heap} {locs : List Loc} {ls : Array Slot} {a0 : Nat} {x1 : Int32} {x3 : Int32} {x4 : Int32}, wp_J2_indexOfCharUnsafe_4cfef_3 D post n S a0 x1 x3 x4 → wO D cy X A s.heap S H locs → wX D S0 S → lv_has ls 5 [(0, .ref a0), (1, .int x1), (3, .int x3), (4, .int x4)] → wM D S a0 → sK S a0 = 20 → W p l e r_J2_indexOfCharUnsafe_4cfef s m args below meth c H locs 0 0 (MQ below (va_Qi (fun r S9 => wX D S0 S9 ∧ post r S9) (wB D cy X A) A) args s 0 0 A) (F0 m 3 ls []) := by
  obtain ⟨hx, hb, hml, hown, hts⟩ := id F
  have hwg : ∀ w ∈ WG, w.before args s = true := fun w h => hts w (List.mem_cons_of_mem _ h)
  intro n
  induction n with
  | zero =>
    intro S H locs ls a0 x1 x3 x4 hp
    exact hp.elim
  | succ n ih =>
    intro S H locs ls a0 x1 x3 x4 hp hW hE hl hL_a0 hK_a0
    unfold wp_J2_indexOfCharUnsafe_4cfef_3 at hp
    refine lv_iload hx hb dJ2_indexOfCharUnsafe_4cfef_3 (lv_at hl 3 rfl) ?_
    refine lv_iload_n hx hb dJ2_indexOfCharUnsafe_4cfef_5 rfl (lv_at hl 2 rfl) ?_
    refine lv_icmp_ge (tgt := 28) hx hb dJ2_indexOfCharUnsafe_4cfef_6 (by decide) (fun c_1 => ?_) (fun c_1 => ?_)
    · replace hp := hp.1 c_1
      refine lv_iconst (v := (-1)) hx hb dJ2_indexOfCharUnsafe_4cfef_28 (by decide) ?_
      exact w_iret hx hb hr hlocks hW ⟨hE, hp⟩ dJ2_indexOfCharUnsafe_4cfef_29
    · replace hp := hp.2 c_1
      refine lv_aload_n hx hb dJ2_indexOfCharUnsafe_4cfef_9 rfl (lv_at hl 0 rfl) ?_
      refine lv_iload hx hb dJ2_indexOfCharUnsafe_4cfef_10 (lv_at hl 3 rfl) ?_
      refine w_callI (va_runS (As := [.ref a0, .int x4]) (rest := []) F (c_J2_getChar_3b067 l hL_a0 hK_a0 hp H.size) (va_cwS 2 hts (wg_S wm_RJ2_71 wy_J2_getChar_3b067) rfl rfl rfl (by decide +kernel) ⟨Nat.le_of_ble_eq_true rfl, Nat.le_of_ble_eq_true rfl⟩) (w_preS hK hW) rfl rfl hl.1 rfl (lv_room (Nat.le_of_ble_eq_true rfl)) dJ2_indexOfCharUnsafe_4cfef_12 ⟨Nat.le_of_ble_eq_true rfl, Nat.le_of_ble_eq_true rfl⟩) hW (fun r_2 S_3 H locs hp hW => ?_)
      obtain ⟨hX_S_3, hp⟩ := hp
      refine W.widen (k := 0) (n := 0) (by decide) (by decide) ?_
      have hE := hE.trans hX_S_3
      have hK_a0 : sK S_3 a0 = 20 := (hX_S_3.2 a0 hL_a0).1.trans hK_a0
      have hL_a0 : wM D S_3 a0 := hX_S_3.M hL_a0
      refine lv_iload_n hx hb dJ2_indexOfCharUnsafe_4cfef_15 rfl (lv_at hl 1 rfl) ?_
      refine lv_icmp_ne (tgt := 22) hx hb dJ2_indexOfCharUnsafe_4cfef_16 (by decide) (fun c_4 => ?_) (fun c_4 => ?_)
      · replace hp := hp.1 c_4
        obtain ⟨x_5, ex_5⟩ : ∃ z : Int32, z = x4 + 1 := ⟨_, rfl⟩
        replace hp := hp x_5 ex_5
        refine lv_iinc (v := x_5) (lv' := [(4, .int x_5), (0, .ref a0), (1, .int x1), (3, .int x3)]) hx hb dJ2_indexOfCharUnsafe_4cfef_22 hl (k := 3) rfl (by rw [ex_5]; rfl) (by decide) rfl (fun ls hl => ?_)
        refine lv_goto (tgt := 3) hx hb dJ2_indexOfCharUnsafe_4cfef_25 (by decide) ?_
        exact ih hp hW hE (lv_sub hl [1, 2, 3, 0] rfl) hL_a0 hK_a0
      · replace hp := hp.2 c_4
        refine lv_iload hx hb dJ2_indexOfCharUnsafe_4cfef_19 (lv_at hl 3 rfl) ?_
        exact w_iret hx hb hr hlocks hW ⟨hE, hp⟩ dJ2_indexOfCharUnsafe_4cfef_21
set_option maxHeartbeats 4000000 in
set_option maxRecDepth 100000 in
theorem t_J2_indexOfCharUnsafe_4cfef_0 {p : Program} {l : Launch} {e : Env} {s : State} {m : MethodId} {args : Array Value} {below : List Frame} {meth : Method} {c : Code} {D : wD} {cy : Nat → ClassId} {X : va_W} {A : Nat → Prop} {S0 : wS} {post : Int32 → wS → Prop} (F : CallFix p m c cJ2_indexOfCharUnsafe_4cfef 5 s args wz_J2_indexOfCharUnsafe_4cfef RJ2) (hr : meth.sig.returnType = (some .int)) (hlocks : meth.locks = false) (hK : wK D cy A s) : ∀ {S : wS} {H : Heap} {locs : List Loc} {ls : Array Slot} {a0 : Nat} {x1 : Int32} {x2 : Int32} {x3 : Int32}, wp_J2_indexOfCharUnsafe_4cfef_0 D post S a0 x1 x2 x3 → wO D cy X A s.heap S H locs → wX D S0 S → lv_has ls 5 [(0, .ref a0), (1, .int x1), (2, .int x2), (3, .int x3)] → wM D S a0 → sK S a0 = 20 → W p l e r_J2_indexOfCharUnsafe_4cfef s m args below meth c H locs 0 0 (MQ below (va_Qi (fun r S9 => wX D S0 S9 ∧ post r S9) (wB D cy X A) A) args s 0 0 A) (F0 m 0 ls []) := by
  obtain ⟨hx, hb, hml, hown, hts⟩ := id F
  have hwg : ∀ w ∈ WG, w.before args s = true := fun w h => hts w (List.mem_cons_of_mem _ h)
  intro S H locs ls a0 x1 x2 x3 hp hW hE hl hL_a0 hK_a0
  unfold wp_J2_indexOfCharUnsafe_4cfef_0 at hp
  refine lv_iload_n hx hb dJ2_indexOfCharUnsafe_4cfef_0 rfl (lv_at hl 2 rfl) ?_
  refine lv_istore (lv' := [(4, .int x2), (0, .ref a0), (1, .int x1), (2, .int x2), (3, .int x3)]) hx hb dJ2_indexOfCharUnsafe_4cfef_1 hl (by decide) rfl (fun ls hl => ?_)
  obtain ⟨n_1, hp⟩ := hp
  exact t_J2_indexOfCharUnsafe_4cfef_3 F hr hlocks hK n_1 hp hW hE (lv_sub hl [1, 2, 4, 0] rfl) hL_a0 hK_a0
set_option maxHeartbeats 4000000 in
set_option maxRecDepth 100000 in
theorem c_J2_indexOfCharUnsafe_4cfef (l : Launch) {D : wD} {cy : Nat → ClassId} {X : va_W} {S0 : wS} {post : Int32 → wS → Prop} {a0 : Nat} {x1 : Int32} {x2 : Int32} {x3 : Int32} (hL_a0 : wM D S0 a0) (hK_a0 : sK S0 a0 = 20) (hp : wp_J2_indexOfCharUnsafe_4cfef D post S0 a0 x1 x2 x3) : mI D cy X l yJ2_indexOfCharUnsafe_4cfef wz_J2_indexOfCharUnsafe_4cfef r_J2_indexOfCharUnsafe_4cfef [.ref a0, .int x1, .int x2, .int x3] S0 (fun r S9 => wX D S0 S9 ∧ post r S9) := by
  intro sz
  refine Met.ofW (cc := cJ2_indexOfCharUnsafe_4cfef) (maxL := 5) (ret := (some .int)) (by decide) rfl ?_
  intro p e s m args below meth c s₁ B hml hv
  obtain ⟨rfl, hsz, hP, hK, hD0, hRO⟩ := hv
  have hts := atoms_spec (ws := wz_J2_indexOfCharUnsafe_4cfef) B.pre
  have hown : s.vm.findClass RJ2 = some m.cls := findClass_of_methodNamed B.named
  subst hsz
  have hD := hD0.self (sz := s.heap.size)
  have F : CallFix p m c cJ2_indexOfCharUnsafe_4cfef 5 s _ wz_J2_indexOfCharUnsafe_4cfef RJ2 := ⟨B.exec, B.bytes, hml, hown, hts⟩
  have hr := B.returns
  have hlocks := B.notSynchronized
  generalize hAe : va_A (wL cy X S0) s.heap.size = A at hD hK ⊢
  have hA : ∀ q, s.heap.size ≤ q → A q := fun q h => by rw [← hAe]; exact Or.inr h
  have hW : wO D cy X A s.heap S0 s.heap [] := ⟨hP, hD, va_S.rf, hA, hRO⟩
  have hl := lv_entry ([.ref a0, .int x1, .int x2, .int x3]) (n := 5) (Nat.le_of_ble_eq_true rfl)
  rw [lg_entry_eq]
  generalize (lg_sl ([.ref a0, .int x1, .int x2, .int x3]) ++ List.replicate (5 - (lg_sl ([.ref a0, .int x1, .int x2, .int x3])).length) Slot.unset).toArray = ls at hl ⊢
  have hl : lv_has ls 5 [(0, .ref a0), (1, .int x1), (2, .int x2), (3, .int x3)] := hl
  unfold wp_J2_indexOfCharUnsafe_4cfef at hp
  exact t_J2_indexOfCharUnsafe_4cfef_0 F hr hlocks hK hp hW wX.rf (lv_sub hl [0, 1, 2, 3] rfl) hL_a0 hK_a0
def wp_J2_indexOfChar_4cfef_0 (D : wD) (post : Int32 → wS → Prop)  (S : wS) (a0 : Nat) (x1 : Int32) (x2 : Int32) (x3 : Int32) : Prop :=
wp_J2_checkBoundsBeginEnd_d044e D (fun S_2 => 
wp_J2_indexOfCharUnsafe_4cfef D (fun r_3 S_4 => 
post r_3 S_4) S_2 a0 x1 x2 x3) S x2 x3 a0
abbrev r_J2_indexOfChar_4cfef : Room := { frames := 3, cells := 0, slots := 0, locals := 67 }
def wp_J2_indexOfChar_4cfef (D : wD) (post : Int32 → wS → Prop) (S : wS) (a0 : Nat) (x1 : Int32) (x2 : Int32) (x3 : Int32) : Prop := wp_J2_indexOfChar_4cfef_0 D post S a0 x1 x2 x3
set_option maxHeartbeats 4000000 in
set_option maxRecDepth 100000 in
theorem t_J2_indexOfChar_4cfef_0 {p : Program} {l : Launch} {e : Env} {s : State} {m : MethodId} {args : Array Value} {below : List Frame} {meth : Method} {c : Code} {D : wD} {cy : Nat → ClassId} {X : va_W} {A : Nat → Prop} {S0 : wS} {post : Int32 → wS → Prop} (F : CallFix p m c cJ2_indexOfChar_4cfef 4 s args wz_J2_indexOfChar_4cfef RJ2) (hr : meth.sig.returnType = (some .int)) (hlocks : meth.locks = false) (hK : wK D cy A s) : ∀ {S : wS} {H : Heap} {locs : List Loc} {ls : Array Slot} {a0 : Nat} {x1 : Int32} {x2 : Int32} {x3 : Int32}, wp_J2_indexOfChar_4cfef_0 D post S a0 x1 x2 x3 → wO D cy X A s.heap S H locs → wX D S0 S → lv_has ls 4 [(0, .ref a0), (1, .int x1), (2, .int x2), (3, .int x3)] → wM D S a0 → sK S a0 = 20 → W p l e r_J2_indexOfChar_4cfef s m args below meth c H locs 0 0 (MQ below (va_Qi (fun r S9 => wX D S0 S9 ∧ post r S9) (wB D cy X A) A) args s 0 0 A) (F0 m 0 ls []) := by
  obtain ⟨hx, hb, hml, hown, hts⟩ := id F
  have hwg : ∀ w ∈ WG, w.before args s = true := fun w h => hts w (List.mem_cons_of_mem _ h)
  intro S H locs ls a0 x1 x2 x3 hp hW hE hl hL_a0 hK_a0
  unfold wp_J2_indexOfChar_4cfef_0 at hp
  refine lv_iload_n hx hb dJ2_indexOfChar_4cfef_0 rfl (lv_at hl 2 rfl) ?_
  refine lv_iload_n hx hb dJ2_indexOfChar_4cfef_1 rfl (lv_at hl 3 rfl) ?_
  refine lv_aload_n hx hb dJ2_indexOfChar_4cfef_2 rfl (lv_at hl 0 rfl) ?_
  refine w_callV (va_runS (As := [.int x2, .int x3, .ref a0]) (rest := []) F (c_J2_checkBoundsBeginEnd_d044e l hL_a0 hK_a0 hp H.size) (va_cwS 3 hts (wg_S wm_RJ2_96 wy_J2_checkBoundsBeginEnd_d044e) rfl rfl rfl (by decide +kernel) ⟨Nat.le_of_ble_eq_true rfl, Nat.le_of_ble_eq_true rfl⟩) (w_preS hK hW) rfl rfl hl.1 rfl (lv_room (Nat.le_of_ble_eq_true rfl)) dJ2_indexOfChar_4cfef_3 ⟨Nat.le_of_ble_eq_true rfl, Nat.le_of_ble_eq_true rfl⟩) hW (fun S_2 H locs hp hW => ?_)
  obtain ⟨hX_S_2, hp⟩ := hp
  refine W.widen (k := 0) (n := 0) (by decide) (by decide) ?_
  have hE := hE.trans hX_S_2
  have hK_a0 : sK S_2 a0 = 20 := (hX_S_2.2 a0 hL_a0).1.trans hK_a0
  have hL_a0 : wM D S_2 a0 := hX_S_2.M hL_a0
  refine lv_aload_n hx hb dJ2_indexOfChar_4cfef_6 rfl (lv_at hl 0 rfl) ?_
  refine lv_iload_n hx hb dJ2_indexOfChar_4cfef_7 rfl (lv_at hl 1 rfl) ?_
  refine lv_iload_n hx hb dJ2_indexOfChar_4cfef_8 rfl (lv_at hl 2 rfl) ?_
  refine lv_iload_n hx hb dJ2_indexOfChar_4cfef_9 rfl (lv_at hl 3 rfl) ?_
  refine w_callI (va_runS (As := [.ref a0, .int x1, .int x2, .int x3]) (rest := []) F (c_J2_indexOfCharUnsafe_4cfef l hL_a0 hK_a0 hp H.size) (va_cwS 4 hts (wg_S wm_RJ2_244 wy_J2_indexOfCharUnsafe_4cfef) rfl rfl rfl (by decide +kernel) ⟨Nat.le_of_ble_eq_true rfl, Nat.le_of_ble_eq_true rfl⟩) (w_preS hK hW) rfl rfl hl.1 rfl (lv_room (Nat.le_of_ble_eq_true rfl)) dJ2_indexOfChar_4cfef_10 ⟨Nat.le_of_ble_eq_true rfl, Nat.le_of_ble_eq_true rfl⟩) hW (fun r_3 S_4 H locs hp hW => ?_)
  obtain ⟨hX_S_4, hp⟩ := hp
  refine W.widen (k := 0) (n := 0) (by decide) (by decide) ?_
  have hE := hE.trans hX_S_4
  have hK_a0 : sK S_4 a0 = 20 := (hX_S_4.2 a0 hL_a0).1.trans hK_a0
  have hL_a0 : wM D S_4 a0 := hX_S_4.M hL_a0
  exact w_iret hx hb hr hlocks hW ⟨hE, hp⟩ dJ2_indexOfChar_4cfef_13
set_option maxHeartbeats 4000000 in
set_option maxRecDepth 100000 in
theorem c_J2_indexOfChar_4cfef (l : Launch) {D : wD} {cy : Nat → ClassId} {X : va_W} {S0 : wS} {post : Int32 → wS → Prop} {a0 : Nat} {x1 : Int32} {x2 : Int32} {x3 : Int32} (hL_a0 : wM D S0 a0) (hK_a0 : sK S0 a0 = 20) (hp : wp_J2_indexOfChar_4cfef D post S0 a0 x1 x2 x3) : mI D cy X l yJ2_indexOfChar_4cfef wz_J2_indexOfChar_4cfef r_J2_indexOfChar_4cfef [.ref a0, .int x1, .int x2, .int x3] S0 (fun r S9 => wX D S0 S9 ∧ post r S9) := by
  intro sz
  refine Met.ofW (cc := cJ2_indexOfChar_4cfef) (maxL := 4) (ret := (some .int)) (by decide) rfl ?_
  intro p e s m args below meth c s₁ B hml hv
  obtain ⟨rfl, hsz, hP, hK, hD0, hRO⟩ := hv
  have hts := atoms_spec (ws := wz_J2_indexOfChar_4cfef) B.pre
  have hown : s.vm.findClass RJ2 = some m.cls := findClass_of_methodNamed B.named
  subst hsz
  have hD := hD0.self (sz := s.heap.size)
  have F : CallFix p m c cJ2_indexOfChar_4cfef 4 s _ wz_J2_indexOfChar_4cfef RJ2 := ⟨B.exec, B.bytes, hml, hown, hts⟩
  have hr := B.returns
  have hlocks := B.notSynchronized
  generalize hAe : va_A (wL cy X S0) s.heap.size = A at hD hK ⊢
  have hA : ∀ q, s.heap.size ≤ q → A q := fun q h => by rw [← hAe]; exact Or.inr h
  have hW : wO D cy X A s.heap S0 s.heap [] := ⟨hP, hD, va_S.rf, hA, hRO⟩
  have hl := lv_entry ([.ref a0, .int x1, .int x2, .int x3]) (n := 4) (Nat.le_of_ble_eq_true rfl)
  rw [lg_entry_eq]
  generalize (lg_sl ([.ref a0, .int x1, .int x2, .int x3]) ++ List.replicate (4 - (lg_sl ([.ref a0, .int x1, .int x2, .int x3])).length) Slot.unset).toArray = ls at hl ⊢
  have hl : lv_has ls 4 [(0, .ref a0), (1, .int x1), (2, .int x2), (3, .int x3)] := hl
  unfold wp_J2_indexOfChar_4cfef at hp
  exact t_J2_indexOfChar_4cfef_0 F hr hlocks hK hp hW wX.rf (lv_sub hl [0, 1, 2, 3] rfl) hL_a0 hK_a0
def wp_J11_highSurrogate_5068e_0 (D : wD) (post : Int32 → wS → Prop)  (S : wS) (x0 : Int32) : Prop :=
narrow .char (.int (ji2c ((jiushr x0 (10 : Int32)) + (55232 : Int32)))) = .int (ji2c ((jiushr x0 (10 : Int32)) + (55232 : Int32))) ∧ post (ji2c ((jiushr x0 (10 : Int32)) + (55232 : Int32))) S
abbrev r_J11_highSurrogate_5068e : Room := { frames := 0, cells := 0, slots := 0, locals := 0 }
def wp_J11_highSurrogate_5068e (D : wD) (post : Int32 → wS → Prop) (S : wS) (x0 : Int32) : Prop := wp_J11_highSurrogate_5068e_0 D post S x0
set_option maxHeartbeats 4000000 in
set_option maxRecDepth 100000 in
theorem t_J11_highSurrogate_5068e_0 {p : Program} {l : Launch} {e : Env} {s : State} {m : MethodId} {args : Array Value} {below : List Frame} {meth : Method} {c : Code} {D : wD} {cy : Nat → ClassId} {X : va_W} {A : Nat → Prop} {S0 : wS} {post : Int32 → wS → Prop} (F : CallFix p m c cJ11_highSurrogate_5068e 1 s args wz_J11_highSurrogate_5068e RJ11) (hr : meth.sig.returnType = (some .char)) (hlocks : meth.locks = false) (hK : wK D cy A s) : ∀ {S : wS} {H : Heap} {locs : List Loc} {ls : Array Slot} {x0 : Int32}, wp_J11_highSurrogate_5068e_0 D post S x0 → wO D cy X A s.heap S H locs → wX D S0 S → lv_has ls 1 [(0, .int x0)] → W p l e r_J11_highSurrogate_5068e s m args below meth c H locs 0 0 (MQ below (va_Qi (fun r S9 => wX D S0 S9 ∧ post r S9) (wB D cy X A) A) args s 0 0 A) (F0 m 0 ls []) := by
  obtain ⟨hx, hb, hml, hown, hts⟩ := id F
  have hwg : ∀ w ∈ WG, w.before args s = true := fun w h => hts w (List.mem_cons_of_mem _ h)
  intro S H locs ls x0 hp hW hE hl
  unfold wp_J11_highSurrogate_5068e_0 at hp
  refine lv_iload_n hx hb dJ11_highSurrogate_5068e_0 rfl (lv_at hl 0 rfl) ?_
  refine lv_bipush (v := 10) hx hb dJ11_highSurrogate_5068e_1 (by decide) ?_
  refine lv_iushr (v := (jiushr x0 (10 : Int32))) hx hb dJ11_highSurrogate_5068e_3 rfl ?_
  refine lv_ldc hx hb hown (v := 55232) (hwg _ wI_RJ11_110) dJ11_highSurrogate_5068e_4 ?_
  refine lv_iadd hx hb dJ11_highSurrogate_5068e_6 ?_
  refine lv_i2c (v := (ji2c ((jiushr x0 (10 : Int32)) + (55232 : Int32)))) hx hb dJ11_highSurrogate_5068e_7 rfl ?_
  exact w_zret hx hb hr hlocks hW hp.1 ⟨hE, hp.2⟩ dJ11_highSurrogate_5068e_8
set_option maxHeartbeats 4000000 in
set_option maxRecDepth 100000 in
theorem c_J11_highSurrogate_5068e (l : Launch) {D : wD} {cy : Nat → ClassId} {X : va_W} {S0 : wS} {post : Int32 → wS → Prop} {x0 : Int32} (hp : wp_J11_highSurrogate_5068e D post S0 x0) : mI D cy X l yJ11_highSurrogate_5068e wz_J11_highSurrogate_5068e r_J11_highSurrogate_5068e [.int x0] S0 (fun r S9 => wX D S0 S9 ∧ post r S9) := by
  intro sz
  refine Met.ofW (cc := cJ11_highSurrogate_5068e) (maxL := 1) (ret := (some .char)) (by decide) rfl ?_
  intro p e s m args below meth c s₁ B hml hv
  obtain ⟨rfl, hsz, hP, hK, hD0, hRO⟩ := hv
  have hts := atoms_spec (ws := wz_J11_highSurrogate_5068e) B.pre
  have hown : s.vm.findClass RJ11 = some m.cls := findClass_of_methodNamed B.named
  subst hsz
  have hD := hD0.self (sz := s.heap.size)
  have F : CallFix p m c cJ11_highSurrogate_5068e 1 s _ wz_J11_highSurrogate_5068e RJ11 := ⟨B.exec, B.bytes, hml, hown, hts⟩
  have hr := B.returns
  have hlocks := B.notSynchronized
  generalize hAe : va_A (wL cy X S0) s.heap.size = A at hD hK ⊢
  have hA : ∀ q, s.heap.size ≤ q → A q := fun q h => by rw [← hAe]; exact Or.inr h
  have hW : wO D cy X A s.heap S0 s.heap [] := ⟨hP, hD, va_S.rf, hA, hRO⟩
  have hl := lv_entry ([.int x0]) (n := 1) (Nat.le_of_ble_eq_true rfl)
  rw [lg_entry_eq]
  generalize (lg_sl ([.int x0]) ++ List.replicate (1 - (lg_sl ([.int x0])).length) Slot.unset).toArray = ls at hl ⊢
  have hl : lv_has ls 1 [(0, .int x0)] := hl
  unfold wp_J11_highSurrogate_5068e at hp
  exact t_J11_highSurrogate_5068e_0 F hr hlocks hK hp hW wX.rf (lv_sub hl [0] rfl)
def wp_J11_isValidCodePoint_9a6ad_16 (D : wD) (post : Int32 → wS → Prop)  (S : wS) (t0 : Int32) : Prop :=
narrow .boolean (.int t0) = .int t0 ∧ post t0 S
def wp_J11_isValidCodePoint_9a6ad_0 (D : wD) (post : Int32 → wS → Prop)  (S : wS) (x0 : Int32) : Prop :=
∀ x_1 : Int32, x_1 = (jiushr x0 (16 : Int32)) →
(((17 : Int32) ≤ x_1 → wp_J11_isValidCodePoint_9a6ad_16 D post S (0 : Int32)) ∧
 (¬ (17 : Int32) ≤ x_1 → wp_J11_isValidCodePoint_9a6ad_16 D post S (1 : Int32)))
abbrev r_J11_isValidCodePoint_9a6ad : Room := { frames := 0, cells := 0, slots := 0, locals := 0 }
def wp_J11_isValidCodePoint_9a6ad (D : wD) (post : Int32 → wS → Prop) (S : wS) (x0 : Int32) : Prop := wp_J11_isValidCodePoint_9a6ad_0 D post S x0
set_option maxHeartbeats 4000000 in
set_option maxRecDepth 100000 in
theorem t_J11_isValidCodePoint_9a6ad_16 {p : Program} {l : Launch} {e : Env} {s : State} {m : MethodId} {args : Array Value} {below : List Frame} {meth : Method} {c : Code} {D : wD} {cy : Nat → ClassId} {X : va_W} {A : Nat → Prop} {S0 : wS} {post : Int32 → wS → Prop} (F : CallFix p m c cJ11_isValidCodePoint_9a6ad 2 s args wz_J11_isValidCodePoint_9a6ad RJ11) (hr : meth.sig.returnType = (some .boolean)) (hlocks : meth.locks = false) (hK : wK D cy A s) : ∀ {S : wS} {H : Heap} {locs : List Loc} {ls : Array Slot} {t0 : Int32}, wp_J11_isValidCodePoint_9a6ad_16 D post S t0 → wO D cy X A s.heap S H locs → wX D S0 S → lv_has ls 2 [] → W p l e r_J11_isValidCodePoint_9a6ad s m args below meth c H locs 0 0 (MQ below (va_Qi (fun r S9 => wX D S0 S9 ∧ post r S9) (wB D cy X A) A) args s 0 0 A) (F0 m 16 ls [.int t0]) := by
  obtain ⟨hx, hb, hml, hown, hts⟩ := id F
  have hwg : ∀ w ∈ WG, w.before args s = true := fun w h => hts w (List.mem_cons_of_mem _ h)
  intro S H locs ls t0 hp hW hE hl
  unfold wp_J11_isValidCodePoint_9a6ad_16 at hp
  exact w_zret hx hb hr hlocks hW hp.1 ⟨hE, hp.2⟩ dJ11_isValidCodePoint_9a6ad_16
set_option maxHeartbeats 4000000 in
set_option maxRecDepth 100000 in
theorem t_J11_isValidCodePoint_9a6ad_0 {p : Program} {l : Launch} {e : Env} {s : State} {m : MethodId} {args : Array Value} {below : List Frame} {meth : Method} {c : Code} {D : wD} {cy : Nat → ClassId} {X : va_W} {A : Nat → Prop} {S0 : wS} {post : Int32 → wS → Prop} (F : CallFix p m c cJ11_isValidCodePoint_9a6ad 2 s args wz_J11_isValidCodePoint_9a6ad RJ11) (hr : meth.sig.returnType = (some .boolean)) (hlocks : meth.locks = false) (hK : wK D cy A s) : ∀ {S : wS} {H : Heap} {locs : List Loc} {ls : Array Slot} {x0 : Int32}, wp_J11_isValidCodePoint_9a6ad_0 D post S x0 → wO D cy X A s.heap S H locs → wX D S0 S → lv_has ls 2 [(0, .int x0)] → W p l e r_J11_isValidCodePoint_9a6ad s m args below meth c H locs 0 0 (MQ below (va_Qi (fun r S9 => wX D S0 S9 ∧ post r S9) (wB D cy X A) A) args s 0 0 A) (F0 m 0 ls []) := by
  obtain ⟨hx, hb, hml, hown, hts⟩ := id F
  have hwg : ∀ w ∈ WG, w.before args s = true := fun w h => hts w (List.mem_cons_of_mem _ h)
  intro S H locs ls x0 hp hW hE hl
  unfold wp_J11_isValidCodePoint_9a6ad_0 at hp
  refine lv_iload_n hx hb dJ11_isValidCodePoint_9a6ad_0 rfl (lv_at hl 0 rfl) ?_
  refine lv_bipush (v := 16) hx hb dJ11_isValidCodePoint_9a6ad_1 (by decide) ?_
  refine lv_iushr (v := (jiushr x0 (16 : Int32))) hx hb dJ11_isValidCodePoint_9a6ad_3 rfl ?_
  refine lv_topi (fun x_1 ex_1 => ?_)
  replace hp := hp x_1 ex_1
  refine lv_istore_n (lv' := [(1, .int x_1), (0, .int x0)]) hx hb dJ11_isValidCodePoint_9a6ad_4 rfl hl (by decide) rfl (fun ls hl => ?_)
  refine lv_iload_n hx hb dJ11_isValidCodePoint_9a6ad_5 rfl (lv_at hl 0 rfl) ?_
  refine lv_bipush (v := 17) hx hb dJ11_isValidCodePoint_9a6ad_6 (by decide) ?_
  refine lv_icmp_ge (tgt := 15) hx hb dJ11_isValidCodePoint_9a6ad_8 (by decide) (fun c_2 => ?_) (fun c_2 => ?_)
  · replace hp := hp.1 c_2
    refine lv_iconst (v := 0) hx hb dJ11_isValidCodePoint_9a6ad_15 (by decide) ?_
    exact t_J11_isValidCodePoint_9a6ad_16 F hr hlocks hK hp hW hE (lv_sub hl [] rfl)
  · replace hp := hp.2 c_2
    refine lv_iconst (v := 1) hx hb dJ11_isValidCodePoint_9a6ad_11 (by decide) ?_
    refine lv_goto (tgt := 16) hx hb dJ11_isValidCodePoint_9a6ad_12 (by decide) ?_
    exact t_J11_isValidCodePoint_9a6ad_16 F hr hlocks hK hp hW hE (lv_sub hl [] rfl)
set_option maxHeartbeats 4000000 in
set_option maxRecDepth 100000 in
theorem c_J11_isValidCodePoint_9a6ad (l : Launch) {D : wD} {cy : Nat → ClassId} {X : va_W} {S0 : wS} {post : Int32 → wS → Prop} {x0 : Int32} (hp : wp_J11_isValidCodePoint_9a6ad D post S0 x0) : mI D cy X l yJ11_isValidCodePoint_9a6ad wz_J11_isValidCodePoint_9a6ad r_J11_isValidCodePoint_9a6ad [.int x0] S0 (fun r S9 => wX D S0 S9 ∧ post r S9) := by
  intro sz
  refine Met.ofW (cc := cJ11_isValidCodePoint_9a6ad) (maxL := 2) (ret := (some .boolean)) (by decide) rfl ?_
  intro p e s m args below meth c s₁ B hml hv
  obtain ⟨rfl, hsz, hP, hK, hD0, hRO⟩ := hv
  have hts := atoms_spec (ws := wz_J11_isValidCodePoint_9a6ad) B.pre
  have hown : s.vm.findClass RJ11 = some m.cls := findClass_of_methodNamed B.named
  subst hsz
  have hD := hD0.self (sz := s.heap.size)
  have F : CallFix p m c cJ11_isValidCodePoint_9a6ad 2 s _ wz_J11_isValidCodePoint_9a6ad RJ11 := ⟨B.exec, B.bytes, hml, hown, hts⟩
  have hr := B.returns
  have hlocks := B.notSynchronized
  generalize hAe : va_A (wL cy X S0) s.heap.size = A at hD hK ⊢
  have hA : ∀ q, s.heap.size ≤ q → A q := fun q h => by rw [← hAe]; exact Or.inr h
  have hW : wO D cy X A s.heap S0 s.heap [] := ⟨hP, hD, va_S.rf, hA, hRO⟩
  have hl := lv_entry ([.int x0]) (n := 2) (Nat.le_of_ble_eq_true rfl)
  rw [lg_entry_eq]
  generalize (lg_sl ([.int x0]) ++ List.replicate (2 - (lg_sl ([.int x0])).length) Slot.unset).toArray = ls at hl ⊢
  have hl : lv_has ls 2 [(0, .int x0)] := hl
  unfold wp_J11_isValidCodePoint_9a6ad at hp
  exact t_J11_isValidCodePoint_9a6ad_0 F hr hlocks hK hp hW wX.rf (lv_sub hl [0] rfl)
def wp_J11_lowSurrogate_5068e_0 (D : wD) (post : Int32 → wS → Prop)  (S : wS) (x0 : Int32) : Prop :=
narrow .char (.int (ji2c ((x0 &&& (1023 : Int32)) + (56320 : Int32)))) = .int (ji2c ((x0 &&& (1023 : Int32)) + (56320 : Int32))) ∧ post (ji2c ((x0 &&& (1023 : Int32)) + (56320 : Int32))) S
abbrev r_J11_lowSurrogate_5068e : Room := { frames := 0, cells := 0, slots := 0, locals := 0 }
def wp_J11_lowSurrogate_5068e (D : wD) (post : Int32 → wS → Prop) (S : wS) (x0 : Int32) : Prop := wp_J11_lowSurrogate_5068e_0 D post S x0
set_option maxHeartbeats 4000000 in
set_option maxRecDepth 100000 in
theorem t_J11_lowSurrogate_5068e_0 {p : Program} {l : Launch} {e : Env} {s : State} {m : MethodId} {args : Array Value} {below : List Frame} {meth : Method} {c : Code} {D : wD} {cy : Nat → ClassId} {X : va_W} {A : Nat → Prop} {S0 : wS} {post : Int32 → wS → Prop} (F : CallFix p m c cJ11_lowSurrogate_5068e 1 s args wz_J11_lowSurrogate_5068e RJ11) (hr : meth.sig.returnType = (some .char)) (hlocks : meth.locks = false) (hK : wK D cy A s) : ∀ {S : wS} {H : Heap} {locs : List Loc} {ls : Array Slot} {x0 : Int32}, wp_J11_lowSurrogate_5068e_0 D post S x0 → wO D cy X A s.heap S H locs → wX D S0 S → lv_has ls 1 [(0, .int x0)] → W p l e r_J11_lowSurrogate_5068e s m args below meth c H locs 0 0 (MQ below (va_Qi (fun r S9 => wX D S0 S9 ∧ post r S9) (wB D cy X A) A) args s 0 0 A) (F0 m 0 ls []) := by
  obtain ⟨hx, hb, hml, hown, hts⟩ := id F
  have hwg : ∀ w ∈ WG, w.before args s = true := fun w h => hts w (List.mem_cons_of_mem _ h)
  intro S H locs ls x0 hp hW hE hl
  unfold wp_J11_lowSurrogate_5068e_0 at hp
  refine lv_iload_n hx hb dJ11_lowSurrogate_5068e_0 rfl (lv_at hl 0 rfl) ?_
  refine lv_sipush (v := 1023) hx hb dJ11_lowSurrogate_5068e_1 (by decide) ?_
  refine lv_iand hx hb dJ11_lowSurrogate_5068e_4 ?_
  refine lv_ldc hx hb hown (v := 56320) (hwg _ wI_RJ11_76) dJ11_lowSurrogate_5068e_5 ?_
  refine lv_iadd hx hb dJ11_lowSurrogate_5068e_7 ?_
  refine lv_i2c (v := (ji2c ((x0 &&& (1023 : Int32)) + (56320 : Int32)))) hx hb dJ11_lowSurrogate_5068e_8 rfl ?_
  exact w_zret hx hb hr hlocks hW hp.1 ⟨hE, hp.2⟩ dJ11_lowSurrogate_5068e_9
set_option maxHeartbeats 4000000 in
set_option maxRecDepth 100000 in
theorem c_J11_lowSurrogate_5068e (l : Launch) {D : wD} {cy : Nat → ClassId} {X : va_W} {S0 : wS} {post : Int32 → wS → Prop} {x0 : Int32} (hp : wp_J11_lowSurrogate_5068e D post S0 x0) : mI D cy X l yJ11_lowSurrogate_5068e wz_J11_lowSurrogate_5068e r_J11_lowSurrogate_5068e [.int x0] S0 (fun r S9 => wX D S0 S9 ∧ post r S9) := by
  intro sz
  refine Met.ofW (cc := cJ11_lowSurrogate_5068e) (maxL := 1) (ret := (some .char)) (by decide) rfl ?_
  intro p e s m args below meth c s₁ B hml hv
  obtain ⟨rfl, hsz, hP, hK, hD0, hRO⟩ := hv
  have hts := atoms_spec (ws := wz_J11_lowSurrogate_5068e) B.pre
  have hown : s.vm.findClass RJ11 = some m.cls := findClass_of_methodNamed B.named
  subst hsz
  have hD := hD0.self (sz := s.heap.size)
  have F : CallFix p m c cJ11_lowSurrogate_5068e 1 s _ wz_J11_lowSurrogate_5068e RJ11 := ⟨B.exec, B.bytes, hml, hown, hts⟩
  have hr := B.returns
  have hlocks := B.notSynchronized
  generalize hAe : va_A (wL cy X S0) s.heap.size = A at hD hK ⊢
  have hA : ∀ q, s.heap.size ≤ q → A q := fun q h => by rw [← hAe]; exact Or.inr h
  have hW : wO D cy X A s.heap S0 s.heap [] := ⟨hP, hD, va_S.rf, hA, hRO⟩
  have hl := lv_entry ([.int x0]) (n := 1) (Nat.le_of_ble_eq_true rfl)
  rw [lg_entry_eq]
  generalize (lg_sl ([.int x0]) ++ List.replicate (1 - (lg_sl ([.int x0])).length) Slot.unset).toArray = ls at hl ⊢
  have hl : lv_has ls 1 [(0, .int x0)] := hl
  unfold wp_J11_lowSurrogate_5068e at hp
  exact t_J11_lowSurrogate_5068e_0 F hr hlocks hK hp hW wX.rf (lv_sub hl [0] rfl)
def wp_J2_indexOfSupplementary_4cfef_69 (D : wD) (post : Int32 → wS → Prop)  (S : wS) : Prop :=
post (-1 : Int32) S
def wp_J2_indexOfSupplementary_4cfef_63 (D : wD) (post : Int32 → wS → Prop) (k_28 : wS → Nat → Int32 → Int32 → Int32 → Int32 → Prop) (S : wS) (a0 : Nat) (x3 : Int32) (x4 : Int32) (x5 : Int32) (x6 : Int32) : Prop :=
∀ x_1 : Int32, x_1 = x6 + 1 →
k_28 S a0 x3 x4 x5 x_1
def wp_J2_indexOfSupplementary_4cfef_28 (D : wD) (post : Int32 → wS → Prop)  : Nat → wS → Nat → Int32 → Int32 → Int32 → Int32 → Prop
  | 0, _, _, _, _, _, _ => False
  | n + 1, S, a0, x3, x4, x5, x6 =>
    (((x3 - (1 : Int32)) ≤ x6 → wp_J2_indexOfSupplementary_4cfef_69 D post S) ∧
     (¬ (x3 - (1 : Int32)) ≤ x6 → wp_J2_getChar_3b067 D (fun r_2 S_3 => 
    ((¬ r_2 = x4 → wp_J2_indexOfSupplementary_4cfef_63 D post (wp_J2_indexOfSupplementary_4cfef_28 D post n) S_3 a0 x3 x4 x5 x6) ∧
     (r_2 = x4 → wp_J2_getChar_3b067 D (fun r_5 S_6 => 
    ((¬ r_5 = x5 → wp_J2_indexOfSupplementary_4cfef_63 D post (wp_J2_indexOfSupplementary_4cfef_28 D post n) S_6 a0 x3 x4 x5 x6) ∧
     (r_5 = x5 → post x6 S_6))) S_3 a0 (x6 + (1 : Int32))))) S a0 x6))
def wp_J2_indexOfSupplementary_4cfef_0 (D : wD) (post : Int32 → wS → Prop)  (S : wS) (a0 : Nat) (x1 : Int32) (x2 : Int32) (x3 : Int32) : Prop :=
wp_J11_isValidCodePoint_9a6ad D (fun r_1 S_2 => 
((r_1 = 0 → wp_J2_indexOfSupplementary_4cfef_69 D post S_2) ∧
 (¬ r_1 = 0 → wp_J11_highSurrogate_5068e D (fun r_4 S_5 => 
wp_J11_lowSurrogate_5068e D (fun r_6 S_7 => 
wp_J2_checkBoundsBeginEnd_d044e D (fun S_9 => 
∃ n_10 : Nat, wp_J2_indexOfSupplementary_4cfef_28 D post n_10 S_9 a0 x3 r_4 r_6 x2) S_7 x2 x3 a0) S_5 x1) S_2 x1))) S x1
abbrev r_J2_indexOfSupplementary_4cfef : Room := { frames := 3, cells := 0, slots := 0, locals := 67 }
def wp_J2_indexOfSupplementary_4cfef (D : wD) (post : Int32 → wS → Prop) (S : wS) (a0 : Nat) (x1 : Int32) (x2 : Int32) (x3 : Int32) : Prop := wp_J2_indexOfSupplementary_4cfef_0 D post S a0 x1 x2 x3
set_option maxHeartbeats 4000000 in
set_option maxRecDepth 100000 in
theorem t_J2_indexOfSupplementary_4cfef_69 {p : Program} {l : Launch} {e : Env} {s : State} {m : MethodId} {args : Array Value} {below : List Frame} {meth : Method} {c : Code} {D : wD} {cy : Nat → ClassId} {X : va_W} {A : Nat → Prop} {S0 : wS} {post : Int32 → wS → Prop} (F : CallFix p m c cJ2_indexOfSupplementary_4cfef 7 s args wz_J2_indexOfSupplementary_4cfef RJ2) (hr : meth.sig.returnType = (some .int)) (hlocks : meth.locks = false) (hK : wK D cy A s) : ∀ {S : wS} {H : Heap} {locs : List Loc} {ls : Array Slot}, wp_J2_indexOfSupplementary_4cfef_69 D post S → wO D cy X A s.heap S H locs → wX D S0 S → lv_has ls 7 [] → W p l e r_J2_indexOfSupplementary_4cfef s m args below meth c H locs 0 0 (MQ below (va_Qi (fun r S9 => wX D S0 S9 ∧ post r S9) (wB D cy X A) A) args s 0 0 A) (F0 m 69 ls []) := by
  obtain ⟨hx, hb, hml, hown, hts⟩ := id F
  have hwg : ∀ w ∈ WG, w.before args s = true := fun w h => hts w (List.mem_cons_of_mem _ h)
  intro S H locs ls hp hW hE hl
  unfold wp_J2_indexOfSupplementary_4cfef_69 at hp
  refine lv_iconst (v := (-1)) hx hb dJ2_indexOfSupplementary_4cfef_69 (by decide) ?_
  exact w_iret hx hb hr hlocks hW ⟨hE, hp⟩ dJ2_indexOfSupplementary_4cfef_70
set_option maxHeartbeats 4000000 in
set_option maxRecDepth 100000 in
theorem t_J2_indexOfSupplementary_4cfef_63 {p : Program} {l : Launch} {e : Env} {s : State} {m : MethodId} {args : Array Value} {below : List Frame} {meth : Method} {c : Code} {D : wD} {cy : Nat → ClassId} {X : va_W} {A : Nat → Prop} {S0 : wS} {post : Int32 → wS → Prop} (F : CallFix p m c cJ2_indexOfSupplementary_4cfef 7 s args wz_J2_indexOfSupplementary_4cfef RJ2) (hr : meth.sig.returnType = (some .int)) (hlocks : meth.locks = false) (hK : wK D cy A s) {k_28 : wS → Nat → Int32 → Int32 → Int32 → Int32 → Prop} (q_28 : ∀ {S : wS} {H : Heap} {locs : List Loc} {ls : Array Slot} {a0 : Nat} {x3 : Int32} {x4 : Int32} {x5 : Int32} {x6 : Int32}, k_28 S a0 x3 x4 x5 x6 → wO D cy X A s.heap S H locs → wX D S0 S → lv_has ls 7 [(0, .ref a0), (3, .int x3), (4, .int x4), (5, .int x5), (6, .int x6)] → wM D S a0 → sK S a0 = 20 → W p l e r_J2_indexOfSupplementary_4cfef s m args below meth c H locs 0 0 (MQ below (va_Qi (fun r S9 => wX D S0 S9 ∧ post r S9) (wB D cy X A) A) args s 0 0 A) (F0 m 28 ls [])) : ∀ {S : wS} {H : Heap} {locs : List Loc} {ls : Array Slot} {a0 : Nat} {x3 : Int32} {x4 : Int32} {x5 : Int32} {x6 : Int32}, wp_J2_indexOfSupplementary_4cfef_63 D post k_28 S a0 x3 x4 x5 x6 → wO D cy X A s.heap S H locs → wX D S0 S → lv_has ls 7 [(0, .ref a0), (3, .int x3), (4, .int x4), (5, .int x5), (6, .int x6)] → wM D S a0 → sK S a0 = 20 → W p l e r_J2_indexOfSupplementary_4cfef s m args below meth c H locs 0 0 (MQ below (va_Qi (fun r S9 => wX D S0 S9 ∧ post r S9) (wB D cy X A) A) args s 0 0 A) (F0 m 63 ls []) := by
  obtain ⟨hx, hb, hml, hown, hts⟩ := id F
  have hwg : ∀ w ∈ WG, w.before args s = true := fun w h => hts w (List.mem_cons_of_mem _ h)
  intro S H locs ls a0 x3 x4 x5 x6 hp hW hE hl hL_a0 hK_a0
  unfold wp_J2_indexOfSupplementary_4cfef_63 at hp
  obtain ⟨x_1, ex_1⟩ : ∃ z : Int32, z = x6 + 1 := ⟨_, rfl⟩
  replace hp := hp x_1 ex_1
  refine lv_iinc (v := x_1) (lv' := [(6, .int x_1), (0, .ref a0), (3, .int x3), (4, .int x4), (5, .int x5)]) hx hb dJ2_indexOfSupplementary_4cfef_63 hl (k := 4) rfl (by rw [ex_1]; rfl) (by decide) rfl (fun ls hl => ?_)
  refine lv_goto (tgt := 28) hx hb dJ2_indexOfSupplementary_4cfef_66 (by decide) ?_
  exact q_28 hp hW hE (lv_sub hl [1, 2, 3, 4, 0] rfl) hL_a0 hK_a0
set_option maxHeartbeats 4000000 in
set_option maxRecDepth 100000 in
theorem t_J2_indexOfSupplementary_4cfef_28 {p : Program} {l : Launch} {e : Env} {s : State} {m : MethodId} {args : Array Value} {below : List Frame} {meth : Method} {c : Code} {D : wD} {cy : Nat → ClassId} {X : va_W} {A : Nat → Prop} {S0 : wS} {post : Int32 → wS → Prop} (F : CallFix p m c cJ2_indexOfSupplementary_4cfef 7 s args wz_J2_indexOfSupplementary_4cfef RJ2) (hr : meth.sig.returnType = (some .int)) (hlocks : meth.locks = false) (hK : wK D cy A s) : ∀ (n : Nat) {S : wS} {H : Heap} {locs : List Loc} {ls : Array Slot} {a0 : Nat} {x3 : Int32} {x4 : Int32} {x5 : Int32} {x6 : Int32}, wp_J2_indexOfSupplementary_4cfef_28 D post n S a0 x3 x4 x5 x6 → wO D cy X A s.heap S H locs → wX D S0 S → lv_has ls 7 [(0, .ref a0), (3, .int x3), (4, .int x4), (5, .int x5), (6, .int x6)] → wM D S a0 → sK S a0 = 20 → W p l e r_J2_indexOfSupplementary_4cfef s m args below meth c H locs 0 0 (MQ below (va_Qi (fun r S9 => wX D S0 S9 ∧ post r S9) (wB D cy X A) A) args s 0 0 A) (F0 m 28 ls []) := by
  obtain ⟨hx, hb, hml, hown, hts⟩ := id F
  have hwg : ∀ w ∈ WG, w.before args s = true := fun w h => hts w (List.mem_cons_of_mem _ h)
  intro n
  induction n with
  | zero =>
    intro S H locs ls a0 x3 x4 x5 x6 hp
    exact hp.elim
  | succ n ih =>
    intro S H locs ls a0 x3 x4 x5 x6 hp hW hE hl hL_a0 hK_a0
    unfold wp_J2_indexOfSupplementary_4cfef_28 at hp
    refine lv_iload hx hb dJ2_indexOfSupplementary_4cfef_28 (lv_at hl 4 rfl) ?_
    refine lv_iload_n hx hb dJ2_indexOfSupplementary_4cfef_30 rfl (lv_at hl 1 rfl) ?_
    refine lv_iconst (v := 1) hx hb dJ2_indexOfSupplementary_4cfef_31 (by decide) ?_
    refine lv_isub hx hb dJ2_indexOfSupplementary_4cfef_32 ?_
    refine lv_icmp_ge (tgt := 69) hx hb dJ2_indexOfSupplementary_4cfef_33 (by decide) (fun c_1 => ?_) (fun c_1 => ?_)
    · replace hp := hp.1 c_1
      exact t_J2_indexOfSupplementary_4cfef_69 F hr hlocks hK hp hW hE (lv_sub hl [] rfl)
    · replace hp := hp.2 c_1
      refine lv_aload_n hx hb dJ2_indexOfSupplementary_4cfef_36 rfl (lv_at hl 0 rfl) ?_
      refine lv_iload hx hb dJ2_indexOfSupplementary_4cfef_37 (lv_at hl 4 rfl) ?_
      refine w_callI (va_runS (As := [.ref a0, .int x6]) (rest := []) F (c_J2_getChar_3b067 l hL_a0 hK_a0 hp H.size) (va_cwS 2 hts (wg_S wm_RJ2_71 wy_J2_getChar_3b067) rfl rfl rfl (by decide +kernel) ⟨Nat.le_of_ble_eq_true rfl, Nat.le_of_ble_eq_true rfl⟩) (w_preS hK hW) rfl rfl hl.1 rfl (lv_room (Nat.le_of_ble_eq_true rfl)) dJ2_indexOfSupplementary_4cfef_39 ⟨Nat.le_of_ble_eq_true rfl, Nat.le_of_ble_eq_true rfl⟩) hW (fun r_2 S_3 H locs hp hW => ?_)
      obtain ⟨hX_S_3, hp⟩ := hp
      refine W.widen (k := 0) (n := 0) (by decide) (by decide) ?_
      have hE := hE.trans hX_S_3
      have hK_a0 : sK S_3 a0 = 20 := (hX_S_3.2 a0 hL_a0).1.trans hK_a0
      have hL_a0 : wM D S_3 a0 := hX_S_3.M hL_a0
      refine lv_iload hx hb dJ2_indexOfSupplementary_4cfef_42 (lv_at hl 2 rfl) ?_
      refine lv_icmp_ne (tgt := 63) hx hb dJ2_indexOfSupplementary_4cfef_44 (by decide) (fun c_4 => ?_) (fun c_4 => ?_)
      · replace hp := hp.1 c_4
        exact t_J2_indexOfSupplementary_4cfef_63 F hr hlocks hK ih hp hW hE (lv_sub hl [0, 1, 2, 3, 4] rfl) hL_a0 hK_a0
      · replace hp := hp.2 c_4
        refine lv_aload_n hx hb dJ2_indexOfSupplementary_4cfef_47 rfl (lv_at hl 0 rfl) ?_
        refine lv_iload hx hb dJ2_indexOfSupplementary_4cfef_48 (lv_at hl 4 rfl) ?_
        refine lv_iconst (v := 1) hx hb dJ2_indexOfSupplementary_4cfef_50 (by decide) ?_
        refine lv_iadd hx hb dJ2_indexOfSupplementary_4cfef_51 ?_
        refine w_callI (va_runS (As := [.ref a0, .int (x6 + (1 : Int32))]) (rest := []) F (c_J2_getChar_3b067 l hL_a0 hK_a0 hp H.size) (va_cwS 2 hts (wg_S wm_RJ2_71 wy_J2_getChar_3b067) rfl rfl rfl (by decide +kernel) ⟨Nat.le_of_ble_eq_true rfl, Nat.le_of_ble_eq_true rfl⟩) (w_preS hK hW) rfl rfl hl.1 rfl (lv_room (Nat.le_of_ble_eq_true rfl)) dJ2_indexOfSupplementary_4cfef_52 ⟨Nat.le_of_ble_eq_true rfl, Nat.le_of_ble_eq_true rfl⟩) hW (fun r_5 S_6 H locs hp hW => ?_)
        obtain ⟨hX_S_6, hp⟩ := hp
        refine W.widen (k := 0) (n := 0) (by decide) (by decide) ?_
        have hE := hE.trans hX_S_6
        have hK_a0 : sK S_6 a0 = 20 := (hX_S_6.2 a0 hL_a0).1.trans hK_a0
        have hL_a0 : wM D S_6 a0 := hX_S_6.M hL_a0
        refine lv_iload hx hb dJ2_indexOfSupplementary_4cfef_55 (lv_at hl 3 rfl) ?_
        refine lv_icmp_ne (tgt := 63) hx hb dJ2_indexOfSupplementary_4cfef_57 (by decide) (fun c_7 => ?_) (fun c_7 => ?_)
        · replace hp := hp.1 c_7
          exact t_J2_indexOfSupplementary_4cfef_63 F hr hlocks hK ih hp hW hE (lv_sub hl [0, 1, 2, 3, 4] rfl) hL_a0 hK_a0
        · replace hp := hp.2 c_7
          refine lv_iload hx hb dJ2_indexOfSupplementary_4cfef_60 (lv_at hl 4 rfl) ?_
          exact w_iret hx hb hr hlocks hW ⟨hE, hp⟩ dJ2_indexOfSupplementary_4cfef_62
set_option maxHeartbeats 4000000 in
set_option maxRecDepth 100000 in
theorem t_J2_indexOfSupplementary_4cfef_0 {p : Program} {l : Launch} {e : Env} {s : State} {m : MethodId} {args : Array Value} {below : List Frame} {meth : Method} {c : Code} {D : wD} {cy : Nat → ClassId} {X : va_W} {A : Nat → Prop} {S0 : wS} {post : Int32 → wS → Prop} (F : CallFix p m c cJ2_indexOfSupplementary_4cfef 7 s args wz_J2_indexOfSupplementary_4cfef RJ2) (hr : meth.sig.returnType = (some .int)) (hlocks : meth.locks = false) (hK : wK D cy A s) : ∀ {S : wS} {H : Heap} {locs : List Loc} {ls : Array Slot} {a0 : Nat} {x1 : Int32} {x2 : Int32} {x3 : Int32}, wp_J2_indexOfSupplementary_4cfef_0 D post S a0 x1 x2 x3 → wO D cy X A s.heap S H locs → wX D S0 S → lv_has ls 7 [(0, .ref a0), (1, .int x1), (2, .int x2), (3, .int x3)] → wM D S a0 → sK S a0 = 20 → W p l e r_J2_indexOfSupplementary_4cfef s m args below meth c H locs 0 0 (MQ below (va_Qi (fun r S9 => wX D S0 S9 ∧ post r S9) (wB D cy X A) A) args s 0 0 A) (F0 m 0 ls []) := by
  obtain ⟨hx, hb, hml, hown, hts⟩ := id F
  have hwg : ∀ w ∈ WG, w.before args s = true := fun w h => hts w (List.mem_cons_of_mem _ h)
  intro S H locs ls a0 x1 x2 x3 hp hW hE hl hL_a0 hK_a0
  unfold wp_J2_indexOfSupplementary_4cfef_0 at hp
  refine lv_iload_n hx hb dJ2_indexOfSupplementary_4cfef_0 rfl (lv_at hl 1 rfl) ?_
  refine w_callI (va_runS (As := [.int x1]) (rest := []) F (c_J11_isValidCodePoint_9a6ad l hp H.size) (va_cwS 1 hts (wg_S wm_RJ2_164 wy_J11_isValidCodePoint_9a6ad) rfl rfl rfl (by decide +kernel) ⟨Nat.le_of_ble_eq_true rfl, Nat.le_of_ble_eq_true rfl⟩) (w_preS hK hW) rfl rfl hl.1 rfl (lv_room (Nat.le_of_ble_eq_true rfl)) dJ2_indexOfSupplementary_4cfef_1 ⟨Nat.le_of_ble_eq_true rfl, Nat.le_of_ble_eq_true rfl⟩) hW (fun r_1 S_2 H locs hp hW => ?_)
  obtain ⟨hX_S_2, hp⟩ := hp
  refine W.widen (k := 0) (n := 0) (by decide) (by decide) ?_
  have hE := hE.trans hX_S_2
  have hK_a0 : sK S_2 a0 = 20 := (hX_S_2.2 a0 hL_a0).1.trans hK_a0
  have hL_a0 : wM D S_2 a0 := hX_S_2.M hL_a0
  refine lv_if_eq (tgt := 69) hx hb dJ2_indexOfSupplementary_4cfef_4 (by decide) (fun c_3 => ?_) (fun c_3 => ?_)
  · replace hp := hp.1 c_3
    exact t_J2_indexOfSupplementary_4cfef_69 F hr hlocks hK hp hW hE (lv_sub hl [] rfl)
  · replace hp := hp.2 c_3
    refine lv_iload_n hx hb dJ2_indexOfSupplementary_4cfef_7 rfl (lv_at hl 1 rfl) ?_
    refine w_callI (va_runS (As := [.int x1]) (rest := []) F (c_J11_highSurrogate_5068e l hp H.size) (va_cwS 1 hts (wg_S wm_RJ2_157 wy_J11_highSurrogate_5068e) rfl rfl rfl (by decide +kernel) ⟨Nat.le_of_ble_eq_true rfl, Nat.le_of_ble_eq_true rfl⟩) (w_preS hK hW) rfl rfl hl.1 rfl (lv_room (Nat.le_of_ble_eq_true rfl)) dJ2_indexOfSupplementary_4cfef_8 ⟨Nat.le_of_ble_eq_true rfl, Nat.le_of_ble_eq_true rfl⟩) hW (fun r_4 S_5 H locs hp hW => ?_)
    obtain ⟨hX_S_5, hp⟩ := hp
    refine W.widen (k := 0) (n := 0) (by decide) (by decide) ?_
    have hE := hE.trans hX_S_5
    have hK_a0 : sK S_5 a0 = 20 := (hX_S_5.2 a0 hL_a0).1.trans hK_a0
    have hL_a0 : wM D S_5 a0 := hX_S_5.M hL_a0
    refine lv_istore (lv' := [(4, .int r_4), (0, .ref a0), (1, .int x1), (2, .int x2), (3, .int x3)]) hx hb dJ2_indexOfSupplementary_4cfef_11 hl (by decide) rfl (fun ls hl => ?_)
    refine lv_iload_n hx hb dJ2_indexOfSupplementary_4cfef_13 rfl (lv_at hl 2 rfl) ?_
    refine w_callI (va_runS (As := [.int x1]) (rest := []) F (c_J11_lowSurrogate_5068e l hp H.size) (va_cwS 1 hts (wg_S wm_RJ2_161 wy_J11_lowSurrogate_5068e) rfl rfl rfl (by decide +kernel) ⟨Nat.le_of_ble_eq_true rfl, Nat.le_of_ble_eq_true rfl⟩) (w_preS hK hW) rfl rfl hl.1 rfl (lv_room (Nat.le_of_ble_eq_true rfl)) dJ2_indexOfSupplementary_4cfef_14 ⟨Nat.le_of_ble_eq_true rfl, Nat.le_of_ble_eq_true rfl⟩) hW (fun r_6 S_7 H locs hp hW => ?_)
    obtain ⟨hX_S_7, hp⟩ := hp
    refine W.widen (k := 0) (n := 0) (by decide) (by decide) ?_
    have hE := hE.trans hX_S_7
    have hK_a0 : sK S_7 a0 = 20 := (hX_S_7.2 a0 hL_a0).1.trans hK_a0
    have hL_a0 : wM D S_7 a0 := hX_S_7.M hL_a0
    refine lv_istore (lv' := [(5, .int r_6), (4, .int r_4), (0, .ref a0), (1, .int x1), (2, .int x2), (3, .int x3)]) hx hb dJ2_indexOfSupplementary_4cfef_17 hl (by decide) rfl (fun ls hl => ?_)
    refine lv_iload_n hx hb dJ2_indexOfSupplementary_4cfef_19 rfl (lv_at hl 4 rfl) ?_
    refine lv_iload_n hx hb dJ2_indexOfSupplementary_4cfef_20 rfl (lv_at hl 5 rfl) ?_
    refine lv_aload_n hx hb dJ2_indexOfSupplementary_4cfef_21 rfl (lv_at hl 2 rfl) ?_
    refine w_callV (va_runS (As := [.int x2, .int x3, .ref a0]) (rest := []) F (c_J2_checkBoundsBeginEnd_d044e l hL_a0 hK_a0 hp H.size) (va_cwS 3 hts (wg_S wm_RJ2_96 wy_J2_checkBoundsBeginEnd_d044e) rfl rfl rfl (by decide +kernel) ⟨Nat.le_of_ble_eq_true rfl, Nat.le_of_ble_eq_true rfl⟩) (w_preS hK hW) rfl rfl hl.1 rfl (lv_room (Nat.le_of_ble_eq_true rfl)) dJ2_indexOfSupplementary_4cfef_22 ⟨Nat.le_of_ble_eq_true rfl, Nat.le_of_ble_eq_true rfl⟩) hW (fun S_9 H locs hp hW => ?_)
    obtain ⟨hX_S_9, hp⟩ := hp
    refine W.widen (k := 0) (n := 0) (by decide) (by decide) ?_
    have hE := hE.trans hX_S_9
    have hK_a0 : sK S_9 a0 = 20 := (hX_S_9.2 a0 hL_a0).1.trans hK_a0
    have hL_a0 : wM D S_9 a0 := hX_S_9.M hL_a0
    refine lv_iload_n hx hb dJ2_indexOfSupplementary_4cfef_25 rfl (lv_at hl 4 rfl) ?_
    refine lv_istore (lv' := [(6, .int x2), (5, .int r_6), (4, .int r_4), (0, .ref a0), (1, .int x1), (2, .int x2), (3, .int x3)]) hx hb dJ2_indexOfSupplementary_4cfef_26 hl (by decide) rfl (fun ls hl => ?_)
    obtain ⟨n_10, hp⟩ := hp
    exact t_J2_indexOfSupplementary_4cfef_28 F hr hlocks hK n_10 hp hW hE (lv_sub hl [3, 6, 2, 1, 0] rfl) hL_a0 hK_a0
set_option maxHeartbeats 4000000 in
set_option maxRecDepth 100000 in
theorem c_J2_indexOfSupplementary_4cfef (l : Launch) {D : wD} {cy : Nat → ClassId} {X : va_W} {S0 : wS} {post : Int32 → wS → Prop} {a0 : Nat} {x1 : Int32} {x2 : Int32} {x3 : Int32} (hL_a0 : wM D S0 a0) (hK_a0 : sK S0 a0 = 20) (hp : wp_J2_indexOfSupplementary_4cfef D post S0 a0 x1 x2 x3) : mI D cy X l yJ2_indexOfSupplementary_4cfef wz_J2_indexOfSupplementary_4cfef r_J2_indexOfSupplementary_4cfef [.ref a0, .int x1, .int x2, .int x3] S0 (fun r S9 => wX D S0 S9 ∧ post r S9) := by
  intro sz
  refine Met.ofW (cc := cJ2_indexOfSupplementary_4cfef) (maxL := 7) (ret := (some .int)) (by decide) rfl ?_
  intro p e s m args below meth c s₁ B hml hv
  obtain ⟨rfl, hsz, hP, hK, hD0, hRO⟩ := hv
  have hts := atoms_spec (ws := wz_J2_indexOfSupplementary_4cfef) B.pre
  have hown : s.vm.findClass RJ2 = some m.cls := findClass_of_methodNamed B.named
  subst hsz
  have hD := hD0.self (sz := s.heap.size)
  have F : CallFix p m c cJ2_indexOfSupplementary_4cfef 7 s _ wz_J2_indexOfSupplementary_4cfef RJ2 := ⟨B.exec, B.bytes, hml, hown, hts⟩
  have hr := B.returns
  have hlocks := B.notSynchronized
  generalize hAe : va_A (wL cy X S0) s.heap.size = A at hD hK ⊢
  have hA : ∀ q, s.heap.size ≤ q → A q := fun q h => by rw [← hAe]; exact Or.inr h
  have hW : wO D cy X A s.heap S0 s.heap [] := ⟨hP, hD, va_S.rf, hA, hRO⟩
  have hl := lv_entry ([.ref a0, .int x1, .int x2, .int x3]) (n := 7) (Nat.le_of_ble_eq_true rfl)
  rw [lg_entry_eq]
  generalize (lg_sl ([.ref a0, .int x1, .int x2, .int x3]) ++ List.replicate (7 - (lg_sl ([.ref a0, .int x1, .int x2, .int x3])).length) Slot.unset).toArray = ls at hl ⊢
  have hl : lv_has ls 7 [(0, .ref a0), (1, .int x1), (2, .int x2), (3, .int x3)] := hl
  unfold wp_J2_indexOfSupplementary_4cfef at hp
  exact t_J2_indexOfSupplementary_4cfef_0 F hr hlocks hK hp hW wX.rf (lv_sub hl [0, 1, 2, 3] rfl) hL_a0 hK_a0
def wp_J2_indexOf_4cfef_0 (D : wD) (post : Int32 → wS → Prop)  (S : wS) (a0 : Nat) (x1 : Int32) (x2 : Int32) (x3 : Int32) : Prop :=
∀ x_1 : Int32, x_1 = (if x2 < (0 : Int32) then (0 : Int32) else x2) →
∀ x_2 : Int32, x_2 = (if ((Int32.ofNat (sN S a0)) >>> ((1 : Int32) &&& 31)) < x3 then ((Int32.ofNat (sN S a0)) >>> ((1 : Int32) &&& 31)) else x3) →
((x_1 < x_2 → (((65536 : Int32) ≤ x1 → wp_J2_indexOfSupplementary_4cfef D (fun r_5 S_6 => 
post r_5 S_6) S a0 x1 x_1 x_2) ∧
 (¬ (65536 : Int32) ≤ x1 → wp_J2_indexOfChar_4cfef D (fun r_7 S_8 => 
post r_7 S_8) S a0 x1 x_1 x_2))) ∧
 (¬ x_1 < x_2 → post (-1 : Int32) S))
abbrev r_J2_indexOf_4cfef : Room := { frames := 4, cells := 0, slots := 0, locals := 93 }
def wp_J2_indexOf_4cfef (D : wD) (post : Int32 → wS → Prop) (S : wS) (a0 : Nat) (x1 : Int32) (x2 : Int32) (x3 : Int32) : Prop := wp_J2_indexOf_4cfef_0 D post S a0 x1 x2 x3
set_option maxHeartbeats 4000000 in
set_option maxRecDepth 100000 in
theorem t_J2_indexOf_4cfef_0 {p : Program} {l : Launch} {e : Env} {s : State} {m : MethodId} {args : Array Value} {below : List Frame} {meth : Method} {c : Code} {D : wD} {cy : Nat → ClassId} {X : va_W} {A : Nat → Prop} {S0 : wS} {post : Int32 → wS → Prop} (F : CallFix p m c cJ2_indexOf_4cfef 4 s args wz_J2_indexOf_4cfef RJ2) (hr : meth.sig.returnType = (some .int)) (hlocks : meth.locks = false) (hK : wK D cy A s) : ∀ {S : wS} {H : Heap} {locs : List Loc} {ls : Array Slot} {a0 : Nat} {x1 : Int32} {x2 : Int32} {x3 : Int32}, wp_J2_indexOf_4cfef_0 D post S a0 x1 x2 x3 → wO D cy X A s.heap S H locs → wX D S0 S → lv_has ls 4 [(0, .ref a0), (1, .int x1), (2, .int x2), (3, .int x3)] → wM D S a0 → sK S a0 = 20 → W p l e r_J2_indexOf_4cfef s m args below meth c H locs 0 0 (MQ below (va_Qi (fun r S9 => wX D S0 S9 ∧ post r S9) (wB D cy X A) A) args s 0 0 A) (F0 m 0 ls []) := by
  obtain ⟨hx, hb, hml, hown, hts⟩ := id F
  have hwg : ∀ w ∈ WG, w.before args s = true := fun w h => hts w (List.mem_cons_of_mem _ h)
  intro S H locs ls a0 x1 x2 x3 hp hW hE hl hL_a0 hK_a0
  unfold wp_J2_indexOf_4cfef_0 at hp
  refine lv_iload_n hx hb dJ2_indexOf_4cfef_0 rfl (lv_at hl 2 rfl) ?_
  refine lv_iconst (v := 0) hx hb dJ2_indexOf_4cfef_1 (by decide) ?_
  refine va_mmax hx hb (hml.trans hl.1.symm) hown (hwg _ wm_RJ2_224) (hwg _ wmm_max.1) (hwg _ wmm_max.2.1) (hwg _ wmm_max.2.2) (Nat.le_of_ble_eq_true rfl) (Nat.le_of_ble_eq_true rfl) (Nat.le_of_ble_eq_true rfl) (Nat.le_of_ble_eq_true rfl) dJ2_indexOf_4cfef_2 ?_
  refine lv_topi (fun x_1 ex_1 => ?_)
  replace hp := hp x_1 ex_1
  refine lv_istore_n (lv' := [(2, .int x_1), (0, .ref a0), (1, .int x1), (3, .int x3)]) hx hb dJ2_indexOf_4cfef_5 rfl hl (by decide) rfl (fun ls hl => ?_)
  refine lv_iload_n hx hb dJ2_indexOf_4cfef_6 rfl (lv_at hl 3 rfl) ?_
  refine lv_aload_n hx hb dJ2_indexOf_4cfef_7 rfl (lv_at hl 1 rfl) ?_
  refine w_len F hK hW hL_a0 hK_a0 (by decide) dJ2_indexOf_4cfef_8 ?_
  refine lv_iconst (v := 1) hx hb dJ2_indexOf_4cfef_9 (by decide) ?_
  refine lv_ishr hx hb dJ2_indexOf_4cfef_10 ?_
  refine va_mmin hx hb (hml.trans hl.1.symm) hown (hwg _ wm_RJ2_183) (hwg _ wmm_min.1) (hwg _ wmm_min.2.1) (hwg _ wmm_min.2.2) (Nat.le_of_ble_eq_true rfl) (Nat.le_of_ble_eq_true rfl) (Nat.le_of_ble_eq_true rfl) (Nat.le_of_ble_eq_true rfl) dJ2_indexOf_4cfef_11 ?_
  refine lv_topi (fun x_2 ex_2 => ?_)
  replace hp := hp x_2 ex_2
  refine lv_istore_n (lv' := [(3, .int x_2), (2, .int x_1), (0, .ref a0), (1, .int x1)]) hx hb dJ2_indexOf_4cfef_14 rfl hl (by decide) rfl (fun ls hl => ?_)
  refine lv_iload_n hx hb dJ2_indexOf_4cfef_15 rfl (lv_at hl 1 rfl) ?_
  refine lv_iload_n hx hb dJ2_indexOf_4cfef_16 rfl (lv_at hl 0 rfl) ?_
  refine lv_icmp_lt (tgt := 22) hx hb dJ2_indexOf_4cfef_17 (by decide) (fun c_3 => ?_) (fun c_3 => ?_)
  · replace hp := hp.1 c_3
    refine lv_iload_n hx hb dJ2_indexOf_4cfef_22 rfl (lv_at hl 3 rfl) ?_
    refine lv_ldc hx hb hown (v := 65536) (hwg _ wI_RJ2_227) dJ2_indexOf_4cfef_23 ?_
    refine lv_icmp_ge (tgt := 36) hx hb dJ2_indexOf_4cfef_25 (by decide) (fun c_4 => ?_) (fun c_4 => ?_)
    · replace hp := hp.1 c_4
      refine lv_aload_n hx hb dJ2_indexOf_4cfef_36 rfl (lv_at hl 2 rfl) ?_
      refine lv_iload_n hx hb dJ2_indexOf_4cfef_37 rfl (lv_at hl 3 rfl) ?_
      refine lv_iload_n hx hb dJ2_indexOf_4cfef_38 rfl (lv_at hl 1 rfl) ?_
      refine lv_iload_n hx hb dJ2_indexOf_4cfef_39 rfl (lv_at hl 0 rfl) ?_
      refine w_callI (va_runS (As := [.ref a0, .int x1, .int x_1, .int x_2]) (rest := []) F (c_J2_indexOfSupplementary_4cfef l hL_a0 hK_a0 hp H.size) (va_cwS 4 hts (wg_S wm_RJ2_232 wy_J2_indexOfSupplementary_4cfef) rfl rfl rfl (by decide +kernel) ⟨Nat.le_of_ble_eq_true rfl, Nat.le_of_ble_eq_true rfl⟩) (w_preS hK hW) rfl rfl hl.1 rfl (lv_room (Nat.le_of_ble_eq_true rfl)) dJ2_indexOf_4cfef_40 ⟨Nat.le_of_ble_eq_true rfl, Nat.le_of_ble_eq_true rfl⟩) hW (fun r_5 S_6 H locs hp hW => ?_)
      obtain ⟨hX_S_6, hp⟩ := hp
      refine W.widen (k := 0) (n := 0) (by decide) (by decide) ?_
      have hE := hE.trans hX_S_6
      have hK_a0 : sK S_6 a0 = 20 := (hX_S_6.2 a0 hL_a0).1.trans hK_a0
      have hL_a0 : wM D S_6 a0 := hX_S_6.M hL_a0
      exact w_iret hx hb hr hlocks hW ⟨hE, hp⟩ dJ2_indexOf_4cfef_43
    · replace hp := hp.2 c_4
      refine lv_aload_n hx hb dJ2_indexOf_4cfef_28 rfl (lv_at hl 2 rfl) ?_
      refine lv_iload_n hx hb dJ2_indexOf_4cfef_29 rfl (lv_at hl 3 rfl) ?_
      refine lv_iload_n hx hb dJ2_indexOf_4cfef_30 rfl (lv_at hl 1 rfl) ?_
      refine lv_iload_n hx hb dJ2_indexOf_4cfef_31 rfl (lv_at hl 0 rfl) ?_
      refine w_callI (va_runS (As := [.ref a0, .int x1, .int x_1, .int x_2]) (rest := []) F (c_J2_indexOfChar_4cfef l hL_a0 hK_a0 hp H.size) (va_cwS 4 hts (wg_S wm_RJ2_228 wy_J2_indexOfChar_4cfef) rfl rfl rfl (by decide +kernel) ⟨Nat.le_of_ble_eq_true rfl, Nat.le_of_ble_eq_true rfl⟩) (w_preS hK hW) rfl rfl hl.1 rfl (lv_room (Nat.le_of_ble_eq_true rfl)) dJ2_indexOf_4cfef_32 ⟨Nat.le_of_ble_eq_true rfl, Nat.le_of_ble_eq_true rfl⟩) hW (fun r_7 S_8 H locs hp hW => ?_)
      obtain ⟨hX_S_8, hp⟩ := hp
      refine W.widen (k := 0) (n := 0) (by decide) (by decide) ?_
      have hE := hE.trans hX_S_8
      have hK_a0 : sK S_8 a0 = 20 := (hX_S_8.2 a0 hL_a0).1.trans hK_a0
      have hL_a0 : wM D S_8 a0 := hX_S_8.M hL_a0
      exact w_iret hx hb hr hlocks hW ⟨hE, hp⟩ dJ2_indexOf_4cfef_35
  · replace hp := hp.2 c_3
    refine lv_iconst (v := (-1)) hx hb dJ2_indexOf_4cfef_20 (by decide) ?_
    exact w_iret hx hb hr hlocks hW ⟨hE, hp⟩ dJ2_indexOf_4cfef_21
set_option maxHeartbeats 4000000 in
set_option maxRecDepth 100000 in
theorem c_J2_indexOf_4cfef (l : Launch) {D : wD} {cy : Nat → ClassId} {X : va_W} {S0 : wS} {post : Int32 → wS → Prop} {a0 : Nat} {x1 : Int32} {x2 : Int32} {x3 : Int32} (hL_a0 : wM D S0 a0) (hK_a0 : sK S0 a0 = 20) (hp : wp_J2_indexOf_4cfef D post S0 a0 x1 x2 x3) : mI D cy X l yJ2_indexOf_4cfef wz_J2_indexOf_4cfef r_J2_indexOf_4cfef [.ref a0, .int x1, .int x2, .int x3] S0 (fun r S9 => wX D S0 S9 ∧ post r S9) := by
  intro sz
  refine Met.ofW (cc := cJ2_indexOf_4cfef) (maxL := 4) (ret := (some .int)) (by decide) rfl ?_
  intro p e s m args below meth c s₁ B hml hv
  obtain ⟨rfl, hsz, hP, hK, hD0, hRO⟩ := hv
  have hts := atoms_spec (ws := wz_J2_indexOf_4cfef) B.pre
  have hown : s.vm.findClass RJ2 = some m.cls := findClass_of_methodNamed B.named
  subst hsz
  have hD := hD0.self (sz := s.heap.size)
  have F : CallFix p m c cJ2_indexOf_4cfef 4 s _ wz_J2_indexOf_4cfef RJ2 := ⟨B.exec, B.bytes, hml, hown, hts⟩
  have hr := B.returns
  have hlocks := B.notSynchronized
  generalize hAe : va_A (wL cy X S0) s.heap.size = A at hD hK ⊢
  have hA : ∀ q, s.heap.size ≤ q → A q := fun q h => by rw [← hAe]; exact Or.inr h
  have hW : wO D cy X A s.heap S0 s.heap [] := ⟨hP, hD, va_S.rf, hA, hRO⟩
  have hl := lv_entry ([.ref a0, .int x1, .int x2, .int x3]) (n := 4) (Nat.le_of_ble_eq_true rfl)
  rw [lg_entry_eq]
  generalize (lg_sl ([.ref a0, .int x1, .int x2, .int x3]) ++ List.replicate (4 - (lg_sl ([.ref a0, .int x1, .int x2, .int x3])).length) Slot.unset).toArray = ls at hl ⊢
  have hl : lv_has ls 4 [(0, .ref a0), (1, .int x1), (2, .int x2), (3, .int x3)] := hl
  unfold wp_J2_indexOf_4cfef at hp
  exact t_J2_indexOf_4cfef_0 F hr hlocks hK hp hW wX.rf (lv_sub hl [0, 1, 2, 3] rfl) hL_a0 hK_a0
def wp_J0_indexOf_7cf53_36 (D : wD) (post : Int32 → wS → Prop)  (S : wS) (t0 : Int32) : Prop :=
post t0 S
def wp_J0_indexOf_7cf53_0 (D : wD) (post : Int32 → wS → Prop)  (S : wS) (a0 : Nat) (x1 : Int32) (x2 : Int32) : Prop :=
wp_J0_isLatin1_aae02 D (fun r_1 S_2 => 
((r_1 = 0 → ∃ y_4 : Nat, sR S_2 a0 0 = some y_4 ∧ wM D S_2 y_4 ∧ sK S_2 y_4 = 20 ∧
wp_J0_length_8abf5 D (fun r_5 S_6 => 
wp_J2_indexOf_4cfef D (fun r_7 S_8 => 
wp_J0_indexOf_7cf53_36 D post S_8 r_7) S_6 y_4 x1 x2 r_5) S_2 a0) ∧
 (¬ r_1 = 0 → ∃ y_9 : Nat, sR S_2 a0 0 = some y_9 ∧ wM D S_2 y_9 ∧ sK S_2 y_9 = 20 ∧
wp_J0_length_8abf5 D (fun r_10 S_11 => 
wp_J1_indexOf_4cfef D (fun r_12 S_13 => 
wp_J0_indexOf_7cf53_36 D post S_13 r_12) S_11 y_9 x1 x2 r_10) S_2 a0))) S a0
abbrev r_J0_indexOf_7cf53 : Room := { frames := 5, cells := 0, slots := 0, locals := 116 }
def wp_J0_indexOf_7cf53 (D : wD) (post : Int32 → wS → Prop) (S : wS) (a0 : Nat) (x1 : Int32) (x2 : Int32) : Prop := wp_J0_indexOf_7cf53_0 D post S a0 x1 x2
set_option maxHeartbeats 4000000 in
set_option maxRecDepth 100000 in
theorem t_J0_indexOf_7cf53_36 {p : Program} {l : Launch} {e : Env} {s : State} {m : MethodId} {args : Array Value} {below : List Frame} {meth : Method} {c : Code} {D : wD} {cy : Nat → ClassId} {X : va_W} {A : Nat → Prop} {S0 : wS} {post : Int32 → wS → Prop} (F : CallFix p m c cJ0_indexOf_7cf53 3 s args wz_J0_indexOf_7cf53 RJ0) (hr : meth.sig.returnType = (some .int)) (hlocks : meth.locks = false) (hK : wK D cy A s) : ∀ {S : wS} {H : Heap} {locs : List Loc} {ls : Array Slot} {t0 : Int32}, wp_J0_indexOf_7cf53_36 D post S t0 → wO D cy X A s.heap S H locs → wX D S0 S → lv_has ls 3 [] → W p l e r_J0_indexOf_7cf53 s m args below meth c H locs 0 0 (MQ below (va_Qi (fun r S9 => wX D S0 S9 ∧ post r S9) (wB D cy X A) A) args s 0 0 A) (F0 m 36 ls [.int t0]) := by
  obtain ⟨hx, hb, hml, hown, hts⟩ := id F
  have hwg : ∀ w ∈ WG, w.before args s = true := fun w h => hts w (List.mem_cons_of_mem _ h)
  intro S H locs ls t0 hp hW hE hl
  unfold wp_J0_indexOf_7cf53_36 at hp
  exact w_iret hx hb hr hlocks hW ⟨hE, hp⟩ dJ0_indexOf_7cf53_36
set_option maxHeartbeats 4000000 in
set_option maxRecDepth 100000 in
theorem t_J0_indexOf_7cf53_0 {p : Program} {l : Launch} {e : Env} {s : State} {m : MethodId} {args : Array Value} {below : List Frame} {meth : Method} {c : Code} {D : wD} {cy : Nat → ClassId} {X : va_W} {A : Nat → Prop} {S0 : wS} {post : Int32 → wS → Prop} (F : CallFix p m c cJ0_indexOf_7cf53 3 s args wz_J0_indexOf_7cf53 RJ0) (hr : meth.sig.returnType = (some .int)) (hlocks : meth.locks = false) (hK : wK D cy A s) : ∀ {S : wS} {H : Heap} {locs : List Loc} {ls : Array Slot} {a0 : Nat} {x1 : Int32} {x2 : Int32}, wp_J0_indexOf_7cf53_0 D post S a0 x1 x2 → wO D cy X A s.heap S H locs → wX D S0 S → lv_has ls 3 [(0, .ref a0), (1, .int x1), (2, .int x2)] → wM D S a0 → sK S a0 = 0 → W p l e r_J0_indexOf_7cf53 s m args below meth c H locs 0 0 (MQ below (va_Qi (fun r S9 => wX D S0 S9 ∧ post r S9) (wB D cy X A) A) args s 0 0 A) (F0 m 0 ls []) := by
  obtain ⟨hx, hb, hml, hown, hts⟩ := id F
  have hwg : ∀ w ∈ WG, w.before args s = true := fun w h => hts w (List.mem_cons_of_mem _ h)
  have i_0 : ∀ w ∈ u_ws RJ0 TJ0 4, w ∈ wz_J0_indexOf_7cf53 := fun w h => List.mem_cons_of_mem _ (wu_0 w h)
  have k_9 := hwg _ wf_RJ0_9
  intro S H locs ls a0 x1 x2 hp hW hE hl hL_a0 hK_a0
  unfold wp_J0_indexOf_7cf53_0 at hp
  refine lv_aload_n hx hb dJ0_indexOf_7cf53_0 rfl (lv_at hl 0 rfl) ?_
  refine w_callI (va_runV (As := []) (rest := []) F (c_J0_isLatin1_aae02 l hL_a0 hK_a0 hp H.size) (cwV (C := RJ0) 0 hts (wg_V wm_RJ0_492 wy_J0_isLatin1_aae02) rfl rfl rfl (by decide +kernel) ⟨Nat.le_of_ble_eq_true rfl, Nat.le_of_ble_eq_true rfl⟩) (w_preV hK hW hL_a0 hK_a0 (by decide) rfl) rfl rfl hl.1 rfl (lv_room (Nat.le_of_ble_eq_true rfl)) dJ0_indexOf_7cf53_1 ⟨Nat.le_of_ble_eq_true rfl, Nat.le_of_ble_eq_true rfl⟩) hW (fun r_1 S_2 H locs hp hW => ?_)
  obtain ⟨hX_S_2, hp⟩ := hp
  refine W.widen (k := 0) (n := 0) (by decide) (by decide) ?_
  have hE := hE.trans hX_S_2
  have hK_a0 : sK S_2 a0 = 0 := (hX_S_2.2 a0 hL_a0).1.trans hK_a0
  have hL_a0 : wM D S_2 a0 := hX_S_2.M hL_a0
  refine lv_if_eq (tgt := 23) hx hb dJ0_indexOf_7cf53_4 (by decide) (fun c_3 => ?_) (fun c_3 => ?_)
  · replace hp := hp.1 c_3
    refine lv_aload_n hx hb dJ0_indexOf_7cf53_23 rfl (lv_at hl 0 rfl) ?_
    obtain ⟨y_4, ey_4, hL_y_4, hK_y_4, hp⟩ := hp
    refine w_get (k := 0) (f := 0) (T := TJ0) (v := .ref y_4) F hK hW hL_a0 hK_a0 (by decide) rfl rfl (by decide) i_0 k_9 (by rw [show wv 0 0 S_2 a0 = va_rf (sR S_2 a0 0) from rfl, ey_4]; rfl) dJ0_indexOf_7cf53_24 ?_
    refine lv_iload_n hx hb dJ0_indexOf_7cf53_27 rfl (lv_at hl 1 rfl) ?_
    refine lv_iload_n hx hb dJ0_indexOf_7cf53_28 rfl (lv_at hl 2 rfl) ?_
    refine lv_aload_n hx hb dJ0_indexOf_7cf53_29 rfl (lv_at hl 0 rfl) ?_
    refine w_callI (va_runV (As := []) (rest := [.int x2, .int x1, .ref y_4]) F (c_J0_length_8abf5 l hL_a0 hK_a0 hp H.size) (cwV (C := RJ0) 0 hts (wg_V wm_RJ0_505 wy_J0_length_8abf5) rfl rfl rfl (by decide +kernel) ⟨Nat.le_of_ble_eq_true rfl, Nat.le_of_ble_eq_true rfl⟩) (w_preV hK hW hL_a0 hK_a0 (by decide) rfl) rfl rfl hl.1 rfl (lv_room (Nat.le_of_ble_eq_true rfl)) dJ0_indexOf_7cf53_30 ⟨Nat.le_of_ble_eq_true rfl, Nat.le_of_ble_eq_true rfl⟩) hW (fun r_5 S_6 H locs hp hW => ?_)
    obtain ⟨hX_S_6, hp⟩ := hp
    refine W.widen (k := 0) (n := 0) (by decide) (by decide) ?_
    have hE := hE.trans hX_S_6
    have hK_a0 : sK S_6 a0 = 0 := (hX_S_6.2 a0 hL_a0).1.trans hK_a0
    have hL_a0 : wM D S_6 a0 := hX_S_6.M hL_a0
    have hK_y_4 : sK S_6 y_4 = 20 := (hX_S_6.2 y_4 hL_y_4).1.trans hK_y_4
    have hL_y_4 : wM D S_6 y_4 := hX_S_6.M hL_y_4
    refine w_callI (va_runS (As := [.ref y_4, .int x1, .int x2, .int r_5]) (rest := []) F (c_J2_indexOf_4cfef l hL_y_4 hK_y_4 hp H.size) (va_cwS 4 hts (wg_S wm_RJ0_640 wy_J2_indexOf_4cfef) rfl rfl rfl (by decide +kernel) ⟨Nat.le_of_ble_eq_true rfl, Nat.le_of_ble_eq_true rfl⟩) (w_preS hK hW) rfl rfl hl.1 rfl (lv_room (Nat.le_of_ble_eq_true rfl)) dJ0_indexOf_7cf53_33 ⟨Nat.le_of_ble_eq_true rfl, Nat.le_of_ble_eq_true rfl⟩) hW (fun r_7 S_8 H locs hp hW => ?_)
    obtain ⟨hX_S_8, hp⟩ := hp
    refine W.widen (k := 0) (n := 0) (by decide) (by decide) ?_
    have hE := hE.trans hX_S_8
    have hK_a0 : sK S_8 a0 = 0 := (hX_S_8.2 a0 hL_a0).1.trans hK_a0
    have hL_a0 : wM D S_8 a0 := hX_S_8.M hL_a0
    exact t_J0_indexOf_7cf53_36 F hr hlocks hK hp hW hE (lv_sub hl [] rfl)
  · replace hp := hp.2 c_3
    refine lv_aload_n hx hb dJ0_indexOf_7cf53_7 rfl (lv_at hl 0 rfl) ?_
    obtain ⟨y_9, ey_9, hL_y_9, hK_y_9, hp⟩ := hp
    refine w_get (k := 0) (f := 0) (T := TJ0) (v := .ref y_9) F hK hW hL_a0 hK_a0 (by decide) rfl rfl (by decide) i_0 k_9 (by rw [show wv 0 0 S_2 a0 = va_rf (sR S_2 a0 0) from rfl, ey_9]; rfl) dJ0_indexOf_7cf53_8 ?_
    refine lv_iload_n hx hb dJ0_indexOf_7cf53_11 rfl (lv_at hl 1 rfl) ?_
    refine lv_iload_n hx hb dJ0_indexOf_7cf53_12 rfl (lv_at hl 2 rfl) ?_
    refine lv_aload_n hx hb dJ0_indexOf_7cf53_13 rfl (lv_at hl 0 rfl) ?_
    refine w_callI (va_runV (As := []) (rest := [.int x2, .int x1, .ref y_9]) F (c_J0_length_8abf5 l hL_a0 hK_a0 hp H.size) (cwV (C := RJ0) 0 hts (wg_V wm_RJ0_505 wy_J0_length_8abf5) rfl rfl rfl (by decide +kernel) ⟨Nat.le_of_ble_eq_true rfl, Nat.le_of_ble_eq_true rfl⟩) (w_preV hK hW hL_a0 hK_a0 (by decide) rfl) rfl rfl hl.1 rfl (lv_room (Nat.le_of_ble_eq_true rfl)) dJ0_indexOf_7cf53_14 ⟨Nat.le_of_ble_eq_true rfl, Nat.le_of_ble_eq_true rfl⟩) hW (fun r_10 S_11 H locs hp hW => ?_)
    obtain ⟨hX_S_11, hp⟩ := hp
    refine W.widen (k := 0) (n := 0) (by decide) (by decide) ?_
    have hE := hE.trans hX_S_11
    have hK_a0 : sK S_11 a0 = 0 := (hX_S_11.2 a0 hL_a0).1.trans hK_a0
    have hL_a0 : wM D S_11 a0 := hX_S_11.M hL_a0
    have hK_y_9 : sK S_11 y_9 = 20 := (hX_S_11.2 y_9 hL_y_9).1.trans hK_y_9
    have hL_y_9 : wM D S_11 y_9 := hX_S_11.M hL_y_9
    refine w_callI (va_runS (As := [.ref y_9, .int x1, .int x2, .int r_10]) (rest := []) F (c_J1_indexOf_4cfef l hL_y_9 hK_y_9 hp H.size) (va_cwS 4 hts (wg_S wm_RJ0_637 wy_J1_indexOf_4cfef) rfl rfl rfl (by decide +kernel) ⟨Nat.le_of_ble_eq_true rfl, Nat.le_of_ble_eq_true rfl⟩) (w_preS hK hW) rfl rfl hl.1 rfl (lv_room (Nat.le_of_ble_eq_true rfl)) dJ0_indexOf_7cf53_17 ⟨Nat.le_of_ble_eq_true rfl, Nat.le_of_ble_eq_true rfl⟩) hW (fun r_12 S_13 H locs hp hW => ?_)
    obtain ⟨hX_S_13, hp⟩ := hp
    refine W.widen (k := 0) (n := 0) (by decide) (by decide) ?_
    have hE := hE.trans hX_S_13
    have hK_a0 : sK S_13 a0 = 0 := (hX_S_13.2 a0 hL_a0).1.trans hK_a0
    have hL_a0 : wM D S_13 a0 := hX_S_13.M hL_a0
    refine lv_goto (tgt := 36) hx hb dJ0_indexOf_7cf53_20 (by decide) ?_
    exact t_J0_indexOf_7cf53_36 F hr hlocks hK hp hW hE (lv_sub hl [] rfl)
set_option maxHeartbeats 4000000 in
set_option maxRecDepth 100000 in
theorem c_J0_indexOf_7cf53 (l : Launch) {D : wD} {cy : Nat → ClassId} {X : va_W} {S0 : wS} {post : Int32 → wS → Prop} {a0 : Nat} {x1 : Int32} {x2 : Int32} (hL_a0 : wM D S0 a0) (hK_a0 : sK S0 a0 = 0) (hp : wp_J0_indexOf_7cf53 D post S0 a0 x1 x2) : mI D cy X l yJ0_indexOf_7cf53 wz_J0_indexOf_7cf53 r_J0_indexOf_7cf53 [.ref a0, .int x1, .int x2] S0 (fun r S9 => wX D S0 S9 ∧ post r S9) := by
  intro sz
  refine Met.ofW (cc := cJ0_indexOf_7cf53) (maxL := 3) (ret := (some .int)) (by decide) rfl ?_
  intro p e s m args below meth c s₁ B hml hv
  obtain ⟨rfl, hsz, hP, hK, hD0, hRO⟩ := hv
  have hts := atoms_spec (ws := wz_J0_indexOf_7cf53) B.pre
  have hown : s.vm.findClass RJ0 = some m.cls := findClass_of_methodNamed B.named
  subst hsz
  have hD := hD0.self (sz := s.heap.size)
  have F : CallFix p m c cJ0_indexOf_7cf53 3 s _ wz_J0_indexOf_7cf53 RJ0 := ⟨B.exec, B.bytes, hml, hown, hts⟩
  have hr := B.returns
  have hlocks := B.notSynchronized
  generalize hAe : va_A (wL cy X S0) s.heap.size = A at hD hK ⊢
  have hA : ∀ q, s.heap.size ≤ q → A q := fun q h => by rw [← hAe]; exact Or.inr h
  have hW : wO D cy X A s.heap S0 s.heap [] := ⟨hP, hD, va_S.rf, hA, hRO⟩
  have hl := lv_entry ([.ref a0, .int x1, .int x2]) (n := 3) (Nat.le_of_ble_eq_true rfl)
  rw [lg_entry_eq]
  generalize (lg_sl ([.ref a0, .int x1, .int x2]) ++ List.replicate (3 - (lg_sl ([.ref a0, .int x1, .int x2])).length) Slot.unset).toArray = ls at hl ⊢
  have hl : lv_has ls 3 [(0, .ref a0), (1, .int x1), (2, .int x2)] := hl
  unfold wp_J0_indexOf_7cf53 at hp
  exact t_J0_indexOf_7cf53_0 F hr hlocks hK hp hW wX.rf (lv_sub hl [0, 1, 2] rfl) hL_a0 hK_a0
def wp_J0_indexOf_0f7a4_0 (D : wD) (post : Int32 → wS → Prop)  (S : wS) (a0 : Nat) (x1 : Int32) : Prop :=
wp_J0_indexOf_7cf53 D (fun r_1 S_2 => 
post r_1 S_2) S a0 x1 (0 : Int32)
abbrev r_J0_indexOf_0f7a4 : Room := { frames := 6, cells := 0, slots := 0, locals := 138 }
def wp_J0_indexOf_0f7a4 (D : wD) (post : Int32 → wS → Prop) (S : wS) (a0 : Nat) (x1 : Int32) : Prop := wp_J0_indexOf_0f7a4_0 D post S a0 x1
set_option maxHeartbeats 4000000 in
set_option maxRecDepth 100000 in
theorem t_J0_indexOf_0f7a4_0 {p : Program} {l : Launch} {e : Env} {s : State} {m : MethodId} {args : Array Value} {below : List Frame} {meth : Method} {c : Code} {D : wD} {cy : Nat → ClassId} {X : va_W} {A : Nat → Prop} {S0 : wS} {post : Int32 → wS → Prop} (F : CallFix p m c cJ0_indexOf_0f7a4 2 s args wz_J0_indexOf_0f7a4 RJ0) (hr : meth.sig.returnType = (some .int)) (hlocks : meth.locks = false) (hK : wK D cy A s) : ∀ {S : wS} {H : Heap} {locs : List Loc} {ls : Array Slot} {a0 : Nat} {x1 : Int32}, wp_J0_indexOf_0f7a4_0 D post S a0 x1 → wO D cy X A s.heap S H locs → wX D S0 S → lv_has ls 2 [(0, .ref a0), (1, .int x1)] → wM D S a0 → sK S a0 = 0 → W p l e r_J0_indexOf_0f7a4 s m args below meth c H locs 0 0 (MQ below (va_Qi (fun r S9 => wX D S0 S9 ∧ post r S9) (wB D cy X A) A) args s 0 0 A) (F0 m 0 ls []) := by
  obtain ⟨hx, hb, hml, hown, hts⟩ := id F
  have hwg : ∀ w ∈ WG, w.before args s = true := fun w h => hts w (List.mem_cons_of_mem _ h)
  intro S H locs ls a0 x1 hp hW hE hl hL_a0 hK_a0
  unfold wp_J0_indexOf_0f7a4_0 at hp
  refine lv_aload_n hx hb dJ0_indexOf_0f7a4_0 rfl (lv_at hl 0 rfl) ?_
  refine lv_iload_n hx hb dJ0_indexOf_0f7a4_1 rfl (lv_at hl 1 rfl) ?_
  refine lv_iconst (v := 0) hx hb dJ0_indexOf_0f7a4_2 (by decide) ?_
  refine w_callI (va_runV (As := [.int x1, .int (0 : Int32)]) (rest := []) F (c_J0_indexOf_7cf53 l hL_a0 hK_a0 hp H.size) (cwV (C := RJ0) 2 hts (wg_V wm_RJ0_633 wy_J0_indexOf_7cf53) rfl rfl rfl (by decide +kernel) ⟨Nat.le_of_ble_eq_true rfl, Nat.le_of_ble_eq_true rfl⟩) (w_preV hK hW hL_a0 hK_a0 (by decide) rfl) rfl rfl hl.1 rfl (lv_room (Nat.le_of_ble_eq_true rfl)) dJ0_indexOf_0f7a4_3 ⟨Nat.le_of_ble_eq_true rfl, Nat.le_of_ble_eq_true rfl⟩) hW (fun r_1 S_2 H locs hp hW => ?_)
  obtain ⟨hX_S_2, hp⟩ := hp
  refine W.widen (k := 0) (n := 0) (by decide) (by decide) ?_
  have hE := hE.trans hX_S_2
  have hK_a0 : sK S_2 a0 = 0 := (hX_S_2.2 a0 hL_a0).1.trans hK_a0
  have hL_a0 : wM D S_2 a0 := hX_S_2.M hL_a0
  exact w_iret hx hb hr hlocks hW ⟨hE, hp⟩ dJ0_indexOf_0f7a4_6
set_option maxHeartbeats 4000000 in
set_option maxRecDepth 100000 in
theorem c_J0_indexOf_0f7a4 (l : Launch) {D : wD} {cy : Nat → ClassId} {X : va_W} {S0 : wS} {post : Int32 → wS → Prop} {a0 : Nat} {x1 : Int32} (hL_a0 : wM D S0 a0) (hK_a0 : sK S0 a0 = 0) (hp : wp_J0_indexOf_0f7a4 D post S0 a0 x1) : mI D cy X l yJ0_indexOf_0f7a4 wz_J0_indexOf_0f7a4 r_J0_indexOf_0f7a4 [.ref a0, .int x1] S0 (fun r S9 => wX D S0 S9 ∧ post r S9) := by
  intro sz
  refine Met.ofW (cc := cJ0_indexOf_0f7a4) (maxL := 2) (ret := (some .int)) (by decide) rfl ?_
  intro p e s m args below meth c s₁ B hml hv
  obtain ⟨rfl, hsz, hP, hK, hD0, hRO⟩ := hv
  have hts := atoms_spec (ws := wz_J0_indexOf_0f7a4) B.pre
  have hown : s.vm.findClass RJ0 = some m.cls := findClass_of_methodNamed B.named
  subst hsz
  have hD := hD0.self (sz := s.heap.size)
  have F : CallFix p m c cJ0_indexOf_0f7a4 2 s _ wz_J0_indexOf_0f7a4 RJ0 := ⟨B.exec, B.bytes, hml, hown, hts⟩
  have hr := B.returns
  have hlocks := B.notSynchronized
  generalize hAe : va_A (wL cy X S0) s.heap.size = A at hD hK ⊢
  have hA : ∀ q, s.heap.size ≤ q → A q := fun q h => by rw [← hAe]; exact Or.inr h
  have hW : wO D cy X A s.heap S0 s.heap [] := ⟨hP, hD, va_S.rf, hA, hRO⟩
  have hl := lv_entry ([.ref a0, .int x1]) (n := 2) (Nat.le_of_ble_eq_true rfl)
  rw [lg_entry_eq]
  generalize (lg_sl ([.ref a0, .int x1]) ++ List.replicate (2 - (lg_sl ([.ref a0, .int x1])).length) Slot.unset).toArray = ls at hl ⊢
  have hl : lv_has ls 2 [(0, .ref a0), (1, .int x1)] := hl
  unfold wp_J0_indexOf_0f7a4 at hp
  exact t_J0_indexOf_0f7a4_0 F hr hlocks hK hp hW wX.rf (lv_sub hl [0, 1] rfl) hL_a0 hK_a0
def wp_J2_coderFromArrayLen_85cad_0 (D : wD) (post : Int32 → wS → Prop)  (S : wS) (a0 : Nat) (x1 : Int32) : Prop :=
narrow .byte (.int ((Int32.toInt8 (jiushr (x1 - (Int32.ofNat (sN S a0))) (31 : Int32))).toInt32)) = .int ((Int32.toInt8 (jiushr (x1 - (Int32.ofNat (sN S a0))) (31 : Int32))).toInt32) ∧ post ((Int32.toInt8 (jiushr (x1 - (Int32.ofNat (sN S a0))) (31 : Int32))).toInt32) S
abbrev r_J2_coderFromArrayLen_85cad : Room := { frames := 0, cells := 0, slots := 0, locals := 0 }
def wp_J2_coderFromArrayLen_85cad (D : wD) (post : Int32 → wS → Prop) (S : wS) (a0 : Nat) (x1 : Int32) : Prop := wp_J2_coderFromArrayLen_85cad_0 D post S a0 x1
set_option maxHeartbeats 4000000 in
set_option maxRecDepth 100000 in
theorem t_J2_coderFromArrayLen_85cad_0 {p : Program} {l : Launch} {e : Env} {s : State} {m : MethodId} {args : Array Value} {below : List Frame} {meth : Method} {c : Code} {D : wD} {cy : Nat → ClassId} {X : va_W} {A : Nat → Prop} {S0 : wS} {post : Int32 → wS → Prop} (F : CallFix p m c cJ2_coderFromArrayLen_85cad 2 s args wz_J2_coderFromArrayLen_85cad RJ2) (hr : meth.sig.returnType = (some .byte)) (hlocks : meth.locks = false) (hK : wK D cy A s) : ∀ {S : wS} {H : Heap} {locs : List Loc} {ls : Array Slot} {a0 : Nat} {x1 : Int32}, wp_J2_coderFromArrayLen_85cad_0 D post S a0 x1 → wO D cy X A s.heap S H locs → wX D S0 S → lv_has ls 2 [(0, .ref a0), (1, .int x1)] → wM D S a0 → sK S a0 = 20 → W p l e r_J2_coderFromArrayLen_85cad s m args below meth c H locs 0 0 (MQ below (va_Qi (fun r S9 => wX D S0 S9 ∧ post r S9) (wB D cy X A) A) args s 0 0 A) (F0 m 0 ls []) := by
  obtain ⟨hx, hb, hml, hown, hts⟩ := id F
  have hwg : ∀ w ∈ WG, w.before args s = true := fun w h => hts w (List.mem_cons_of_mem _ h)
  intro S H locs ls a0 x1 hp hW hE hl hL_a0 hK_a0
  unfold wp_J2_coderFromArrayLen_85cad_0 at hp
  refine lv_iload_n hx hb dJ2_coderFromArrayLen_85cad_0 rfl (lv_at hl 1 rfl) ?_
  refine lv_aload_n hx hb dJ2_coderFromArrayLen_85cad_1 rfl (lv_at hl 0 rfl) ?_
  refine w_len F hK hW hL_a0 hK_a0 (by decide) dJ2_coderFromArrayLen_85cad_2 ?_
  refine lv_isub hx hb dJ2_coderFromArrayLen_85cad_3 ?_
  refine lv_bipush (v := 31) hx hb dJ2_coderFromArrayLen_85cad_4 (by decide) ?_
  refine lv_iushr (v := (jiushr (x1 - (Int32.ofNat (sN S a0))) (31 : Int32))) hx hb dJ2_coderFromArrayLen_85cad_6 rfl ?_
  refine lv_i2b (v := (Int32.toInt8 (jiushr (x1 - (Int32.ofNat (sN S a0))) (31 : Int32))).toInt32) hx hb dJ2_coderFromArrayLen_85cad_7 rfl ?_
  exact w_zret hx hb hr hlocks hW hp.1 ⟨hE, hp.2⟩ dJ2_coderFromArrayLen_85cad_8
set_option maxHeartbeats 4000000 in
set_option maxRecDepth 100000 in
theorem c_J2_coderFromArrayLen_85cad (l : Launch) {D : wD} {cy : Nat → ClassId} {X : va_W} {S0 : wS} {post : Int32 → wS → Prop} {a0 : Nat} {x1 : Int32} (hL_a0 : wM D S0 a0) (hK_a0 : sK S0 a0 = 20) (hp : wp_J2_coderFromArrayLen_85cad D post S0 a0 x1) : mI D cy X l yJ2_coderFromArrayLen_85cad wz_J2_coderFromArrayLen_85cad r_J2_coderFromArrayLen_85cad [.ref a0, .int x1] S0 (fun r S9 => wX D S0 S9 ∧ post r S9) := by
  intro sz
  refine Met.ofW (cc := cJ2_coderFromArrayLen_85cad) (maxL := 2) (ret := (some .byte)) (by decide) rfl ?_
  intro p e s m args below meth c s₁ B hml hv
  obtain ⟨rfl, hsz, hP, hK, hD0, hRO⟩ := hv
  have hts := atoms_spec (ws := wz_J2_coderFromArrayLen_85cad) B.pre
  have hown : s.vm.findClass RJ2 = some m.cls := findClass_of_methodNamed B.named
  subst hsz
  have hD := hD0.self (sz := s.heap.size)
  have F : CallFix p m c cJ2_coderFromArrayLen_85cad 2 s _ wz_J2_coderFromArrayLen_85cad RJ2 := ⟨B.exec, B.bytes, hml, hown, hts⟩
  have hr := B.returns
  have hlocks := B.notSynchronized
  generalize hAe : va_A (wL cy X S0) s.heap.size = A at hD hK ⊢
  have hA : ∀ q, s.heap.size ≤ q → A q := fun q h => by rw [← hAe]; exact Or.inr h
  have hW : wO D cy X A s.heap S0 s.heap [] := ⟨hP, hD, va_S.rf, hA, hRO⟩
  have hl := lv_entry ([.ref a0, .int x1]) (n := 2) (Nat.le_of_ble_eq_true rfl)
  rw [lg_entry_eq]
  generalize (lg_sl ([.ref a0, .int x1]) ++ List.replicate (2 - (lg_sl ([.ref a0, .int x1])).length) Slot.unset).toArray = ls at hl ⊢
  have hl : lv_has ls 2 [(0, .ref a0), (1, .int x1)] := hl
  unfold wp_J2_coderFromArrayLen_85cad at hp
  exact t_J2_coderFromArrayLen_85cad_0 F hr hlocks hK hp hW wX.rf (lv_sub hl [0, 1] rfl) hL_a0 hK_a0
def wp_J2_compress_5af95_10 (D : wD) (post : Int32 → wS → Prop)  : Nat → wS → Nat → Int32 → Nat → Int32 → Int32 → Int32 → Prop
  | 0, _, _, _, _, _, _, _ => False
  | n + 1, S, a0, x1, a2, x3, x4, x5 =>
    ((x4 ≤ x5 → post x4 S) ∧
     (¬ x4 ≤ x5 → wp_J2_getChar_3b067 D (fun r_2 S_3 => 
    ((r_2 ≤ (255 : Int32) → a2 ∈ sL S_3 ∧ vp_in x3 (sN S_3 a2) ∧
    ∀ S_6 : wS, S_6 = uI S_3 a2 (x3).toNatClampNeg (vp_nar .byte ((Int32.toInt8 r_2).toInt32)) →
    ∀ x_7 : Int32, x_7 = x1 + 1 →
    ∀ x_8 : Int32, x_8 = x3 + 1 →
    ∀ x_9 : Int32, x_9 = x5 + 1 →
    wp_J2_compress_5af95_10 D post n S_6 a0 x_7 a2 x_8 x4 x_9) ∧
     (¬ r_2 ≤ (255 : Int32) → post x5 S_3))) S a0 x1))
def wp_J2_compress_5af95_0 (D : wD) (post : Int32 → wS → Prop)  (S : wS) (a0 : Nat) (x1 : Int32) (a2 : Nat) (x3 : Int32) (x4 : Int32) : Prop :=
wp_J2_checkBoundsOffCount_d044e D (fun S_2 => 
∃ n_3 : Nat, wp_J2_compress_5af95_10 D post n_3 S_2 a0 x1 a2 x3 x4 (0 : Int32)) S x1 x4 a0
abbrev r_J2_compress_5af95 : Room := { frames := 3, cells := 0, slots := 0, locals := 67 }
def wp_J2_compress_5af95 (D : wD) (post : Int32 → wS → Prop) (S : wS) (a0 : Nat) (x1 : Int32) (a2 : Nat) (x3 : Int32) (x4 : Int32) : Prop := wp_J2_compress_5af95_0 D post S a0 x1 a2 x3 x4
set_option maxHeartbeats 4000000 in
set_option maxRecDepth 100000 in
theorem t_J2_compress_5af95_10 {p : Program} {l : Launch} {e : Env} {s : State} {m : MethodId} {args : Array Value} {below : List Frame} {meth : Method} {c : Code} {D : wD} {cy : Nat → ClassId} {X : va_W} {A : Nat → Prop} {S0 : wS} {post : Int32 → wS → Prop} (F : CallFix p m c cJ2_compress_5af95 7 s args wz_J2_compress_5af95 RJ2) (hr : meth.sig.returnType = (some .int)) (hlocks : meth.locks = false) (hK : wK D cy A s) : ∀ (n : Nat) {S : wS} {H : Heap} {locs : List Loc} {ls : Array Slot} {a0 : Nat} {x1 : Int32} {a2 : Nat} {x3 : Int32} {x4 : Int32} {x5 : Int32}, wp_J2_compress_5af95_10 D post n S a0 x1 a2 x3 x4 x5 → wO D cy X A s.heap S H locs → wX D S0 S → lv_has ls 7 [(0, .ref a0), (1, .int x1), (2, .ref a2), (3, .int x3), (4, .int x4), (5, .int x5)] → wM D S a0 → sK S a0 = 20 → wM D S a2 → sK S a2 = 20 → W p l e r_J2_compress_5af95 s m args below meth c H locs 0 0 (MQ below (va_Qi (fun r S9 => wX D S0 S9 ∧ post r S9) (wB D cy X A) A) args s 0 0 A) (F0 m 10 ls []) := by
  obtain ⟨hx, hb, hml, hown, hts⟩ := id F
  have hwg : ∀ w ∈ WG, w.before args s = true := fun w h => hts w (List.mem_cons_of_mem _ h)
  intro n
  induction n with
  | zero =>
    intro S H locs ls a0 x1 a2 x3 x4 x5 hp
    exact hp.elim
  | succ n ih =>
    intro S H locs ls a0 x1 a2 x3 x4 x5 hp hW hE hl hL_a0 hK_a0 hL_a2 hK_a2
    unfold wp_J2_compress_5af95_10 at hp
    refine lv_iload hx hb dJ2_compress_5af95_10 (lv_at hl 5 rfl) ?_
    refine lv_iload hx hb dJ2_compress_5af95_12 (lv_at hl 4 rfl) ?_
    refine lv_icmp_ge (tgt := 53) hx hb dJ2_compress_5af95_14 (by decide) (fun c_1 => ?_) (fun c_1 => ?_)
    · replace hp := hp.1 c_1
      refine lv_iload hx hb dJ2_compress_5af95_53 (lv_at hl 4 rfl) ?_
      exact w_iret hx hb hr hlocks hW ⟨hE, hp⟩ dJ2_compress_5af95_55
    · replace hp := hp.2 c_1
      refine lv_aload_n hx hb dJ2_compress_5af95_17 rfl (lv_at hl 0 rfl) ?_
      refine lv_iload_n hx hb dJ2_compress_5af95_18 rfl (lv_at hl 1 rfl) ?_
      refine w_callI (va_runS (As := [.ref a0, .int x1]) (rest := []) F (c_J2_getChar_3b067 l hL_a0 hK_a0 hp H.size) (va_cwS 2 hts (wg_S wm_RJ2_71 wy_J2_getChar_3b067) rfl rfl rfl (by decide +kernel) ⟨Nat.le_of_ble_eq_true rfl, Nat.le_of_ble_eq_true rfl⟩) (w_preS hK hW) rfl rfl hl.1 rfl (lv_room (Nat.le_of_ble_eq_true rfl)) dJ2_compress_5af95_19 ⟨Nat.le_of_ble_eq_true rfl, Nat.le_of_ble_eq_true rfl⟩) hW (fun r_2 S_3 H locs hp hW => ?_)
      obtain ⟨hX_S_3, hp⟩ := hp
      refine W.widen (k := 0) (n := 0) (by decide) (by decide) ?_
      have hE := hE.trans hX_S_3
      have hK_a0 : sK S_3 a0 = 20 := (hX_S_3.2 a0 hL_a0).1.trans hK_a0
      have hL_a0 : wM D S_3 a0 := hX_S_3.M hL_a0
      have hK_a2 : sK S_3 a2 = 20 := (hX_S_3.2 a2 hL_a2).1.trans hK_a2
      have hL_a2 : wM D S_3 a2 := hX_S_3.M hL_a2
      refine lv_istore (lv' := [(6, .int r_2), (0, .ref a0), (1, .int x1), (2, .ref a2), (3, .int x3), (4, .int x4), (5, .int x5)]) hx hb dJ2_compress_5af95_22 hl (by decide) rfl (fun ls hl => ?_)
      refine lv_iload hx hb dJ2_compress_5af95_24 (lv_at hl 0 rfl) ?_
      refine lv_sipush (v := 255) hx hb dJ2_compress_5af95_26 (by decide) ?_
      refine lv_icmp_le (tgt := 35) hx hb dJ2_compress_5af95_29 (by decide) (fun c_4 => ?_) (fun c_4 => ?_)
      · replace hp := hp.1 c_4
        refine lv_aload_n hx hb dJ2_compress_5af95_35 rfl (lv_at hl 3 rfl) ?_
        refine lv_iload_n hx hb dJ2_compress_5af95_36 rfl (lv_at hl 4 rfl) ?_
        refine lv_iload hx hb dJ2_compress_5af95_37 (lv_at hl 0 rfl) ?_
        refine lv_i2b (v := (Int32.toInt8 r_2).toInt32) hx hb dJ2_compress_5af95_39 rfl ?_
        obtain ⟨h_5m, h_5, hp⟩ := hp
        refine w_bst F hK hW h_5m hK_a2 h_5 dJ2_compress_5af95_40 (fun H locs hW => ?_)
        obtain ⟨S_6, eS_6⟩ : ∃ z : wS, z = uI S_3 a2 (x3).toNatClampNeg (vp_nar .byte ((Int32.toInt8 r_2).toInt32)) := ⟨_, rfl⟩
        rw [← eS_6] at hW
        replace hp := hp S_6 eS_6
        have hX_S_6 : wX D S_3 S_6 := by rw [eS_6]; exact wX_uI
        have hE := hE.trans hX_S_6
        have hK_a0 : sK S_6 a0 = 20 := (hX_S_6.2 a0 hL_a0).1.trans hK_a0
        have hL_a0 : wM D S_6 a0 := hX_S_6.M hL_a0
        have hK_a2 : sK S_6 a2 = 20 := (hX_S_6.2 a2 hL_a2).1.trans hK_a2
        have hL_a2 : wM D S_6 a2 := hX_S_6.M hL_a2
        obtain ⟨x_7, ex_7⟩ : ∃ z : Int32, z = x1 + 1 := ⟨_, rfl⟩
        replace hp := hp x_7 ex_7
        refine lv_iinc (v := x_7) (lv' := [(1, .int x_7), (6, .int r_2), (0, .ref a0), (2, .ref a2), (3, .int x3), (4, .int x4), (5, .int x5)]) hx hb dJ2_compress_5af95_41 hl (k := 2) rfl (by rw [ex_7]; rfl) (by decide) rfl (fun ls hl => ?_)
        obtain ⟨x_8, ex_8⟩ : ∃ z : Int32, z = x3 + 1 := ⟨_, rfl⟩
        replace hp := hp x_8 ex_8
        refine lv_iinc (v := x_8) (lv' := [(3, .int x_8), (1, .int x_7), (6, .int r_2), (0, .ref a0), (2, .ref a2), (4, .int x4), (5, .int x5)]) hx hb dJ2_compress_5af95_44 hl (k := 4) rfl (by rw [ex_8]; rfl) (by decide) rfl (fun ls hl => ?_)
        obtain ⟨x_9, ex_9⟩ : ∃ z : Int32, z = x5 + 1 := ⟨_, rfl⟩
        replace hp := hp x_9 ex_9
        refine lv_iinc (v := x_9) (lv' := [(5, .int x_9), (3, .int x_8), (1, .int x_7), (6, .int r_2), (0, .ref a0), (2, .ref a2), (4, .int x4)]) hx hb dJ2_compress_5af95_47 hl (k := 6) rfl (by rw [ex_9]; rfl) (by decide) rfl (fun ls hl => ?_)
        refine lv_goto (tgt := 10) hx hb dJ2_compress_5af95_50 (by decide) ?_
        exact ih hp hW hE (lv_sub hl [4, 2, 5, 1, 6, 0] rfl) hL_a0 hK_a0 hL_a2 hK_a2
      · replace hp := hp.2 c_4
        refine lv_iload hx hb dJ2_compress_5af95_32 (lv_at hl 6 rfl) ?_
        exact w_iret hx hb hr hlocks hW ⟨hE, hp⟩ dJ2_compress_5af95_34
set_option maxHeartbeats 4000000 in
set_option maxRecDepth 100000 in
theorem t_J2_compress_5af95_0 {p : Program} {l : Launch} {e : Env} {s : State} {m : MethodId} {args : Array Value} {below : List Frame} {meth : Method} {c : Code} {D : wD} {cy : Nat → ClassId} {X : va_W} {A : Nat → Prop} {S0 : wS} {post : Int32 → wS → Prop} (F : CallFix p m c cJ2_compress_5af95 7 s args wz_J2_compress_5af95 RJ2) (hr : meth.sig.returnType = (some .int)) (hlocks : meth.locks = false) (hK : wK D cy A s) : ∀ {S : wS} {H : Heap} {locs : List Loc} {ls : Array Slot} {a0 : Nat} {x1 : Int32} {a2 : Nat} {x3 : Int32} {x4 : Int32}, wp_J2_compress_5af95_0 D post S a0 x1 a2 x3 x4 → wO D cy X A s.heap S H locs → wX D S0 S → lv_has ls 7 [(0, .ref a0), (1, .int x1), (2, .ref a2), (3, .int x3), (4, .int x4)] → wM D S a0 → sK S a0 = 20 → wM D S a2 → sK S a2 = 20 → W p l e r_J2_compress_5af95 s m args below meth c H locs 0 0 (MQ below (va_Qi (fun r S9 => wX D S0 S9 ∧ post r S9) (wB D cy X A) A) args s 0 0 A) (F0 m 0 ls []) := by
  obtain ⟨hx, hb, hml, hown, hts⟩ := id F
  have hwg : ∀ w ∈ WG, w.before args s = true := fun w h => hts w (List.mem_cons_of_mem _ h)
  intro S H locs ls a0 x1 a2 x3 x4 hp hW hE hl hL_a0 hK_a0 hL_a2 hK_a2
  unfold wp_J2_compress_5af95_0 at hp
  refine lv_iload_n hx hb dJ2_compress_5af95_0 rfl (lv_at hl 1 rfl) ?_
  refine lv_iload hx hb dJ2_compress_5af95_1 (lv_at hl 4 rfl) ?_
  refine lv_aload_n hx hb dJ2_compress_5af95_3 rfl (lv_at hl 0 rfl) ?_
  refine w_callV (va_runS (As := [.int x1, .int x4, .ref a0]) (rest := []) F (c_J2_checkBoundsOffCount_d044e l hL_a0 hK_a0 hp H.size) (va_cwS 3 hts (wg_S wm_RJ2_173 wy_J2_checkBoundsOffCount_d044e) rfl rfl rfl (by decide +kernel) ⟨Nat.le_of_ble_eq_true rfl, Nat.le_of_ble_eq_true rfl⟩) (w_preS hK hW) rfl rfl hl.1 rfl (lv_room (Nat.le_of_ble_eq_true rfl)) dJ2_compress_5af95_4 ⟨Nat.le_of_ble_eq_true rfl, Nat.le_of_ble_eq_true rfl⟩) hW (fun S_2 H locs hp hW => ?_)
  obtain ⟨hX_S_2, hp⟩ := hp
  refine W.widen (k := 0) (n := 0) (by decide) (by decide) ?_
  have hE := hE.trans hX_S_2
  have hK_a0 : sK S_2 a0 = 20 := (hX_S_2.2 a0 hL_a0).1.trans hK_a0
  have hL_a0 : wM D S_2 a0 := hX_S_2.M hL_a0
  have hK_a2 : sK S_2 a2 = 20 := (hX_S_2.2 a2 hL_a2).1.trans hK_a2
  have hL_a2 : wM D S_2 a2 := hX_S_2.M hL_a2
  refine lv_iconst (v := 0) hx hb dJ2_compress_5af95_7 (by decide) ?_
  refine lv_istore (lv' := [(5, .int (0 : Int32)), (0, .ref a0), (1, .int x1), (2, .ref a2), (3, .int x3), (4, .int x4)]) hx hb dJ2_compress_5af95_8 hl (by decide) rfl (fun ls hl => ?_)
  obtain ⟨n_3, hp⟩ := hp
  exact t_J2_compress_5af95_10 F hr hlocks hK n_3 hp hW hE (lv_sub hl [1, 2, 3, 4, 5, 0] rfl) hL_a0 hK_a0 hL_a2 hK_a2
set_option maxHeartbeats 4000000 in
set_option maxRecDepth 100000 in
theorem c_J2_compress_5af95 (l : Launch) {D : wD} {cy : Nat → ClassId} {X : va_W} {S0 : wS} {post : Int32 → wS → Prop} {a0 : Nat} {x1 : Int32} {a2 : Nat} {x3 : Int32} {x4 : Int32} (hL_a0 : wM D S0 a0) (hK_a0 : sK S0 a0 = 20) (hL_a2 : wM D S0 a2) (hK_a2 : sK S0 a2 = 20) (hp : wp_J2_compress_5af95 D post S0 a0 x1 a2 x3 x4) : mI D cy X l yJ2_compress_5af95 wz_J2_compress_5af95 r_J2_compress_5af95 [.ref a0, .int x1, .ref a2, .int x3, .int x4] S0 (fun r S9 => wX D S0 S9 ∧ post r S9) := by
  intro sz
  refine Met.ofW (cc := cJ2_compress_5af95) (maxL := 7) (ret := (some .int)) (by decide) rfl ?_
  intro p e s m args below meth c s₁ B hml hv
  obtain ⟨rfl, hsz, hP, hK, hD0, hRO⟩ := hv
  have hts := atoms_spec (ws := wz_J2_compress_5af95) B.pre
  have hown : s.vm.findClass RJ2 = some m.cls := findClass_of_methodNamed B.named
  subst hsz
  have hD := hD0.self (sz := s.heap.size)
  have F : CallFix p m c cJ2_compress_5af95 7 s _ wz_J2_compress_5af95 RJ2 := ⟨B.exec, B.bytes, hml, hown, hts⟩
  have hr := B.returns
  have hlocks := B.notSynchronized
  generalize hAe : va_A (wL cy X S0) s.heap.size = A at hD hK ⊢
  have hA : ∀ q, s.heap.size ≤ q → A q := fun q h => by rw [← hAe]; exact Or.inr h
  have hW : wO D cy X A s.heap S0 s.heap [] := ⟨hP, hD, va_S.rf, hA, hRO⟩
  have hl := lv_entry ([.ref a0, .int x1, .ref a2, .int x3, .int x4]) (n := 7) (Nat.le_of_ble_eq_true rfl)
  rw [lg_entry_eq]
  generalize (lg_sl ([.ref a0, .int x1, .ref a2, .int x3, .int x4]) ++ List.replicate (7 - (lg_sl ([.ref a0, .int x1, .ref a2, .int x3, .int x4])).length) Slot.unset).toArray = ls at hl ⊢
  have hl : lv_has ls 7 [(0, .ref a0), (1, .int x1), (2, .ref a2), (3, .int x3), (4, .int x4)] := hl
  unfold wp_J2_compress_5af95 at hp
  exact t_J2_compress_5af95_0 F hr hlocks hK hp hW wX.rf (lv_sub hl [0, 1, 2, 3, 4] rfl) hL_a0 hK_a0 hL_a2 hK_a2
def wp_J2_newBytesLength_0f7a4_0 (D : wD) (post : Int32 → wS → Prop)  (S : wS) (x0 : Int32) : Prop :=
((0 ≤ x0 → ((x0 < (1073741823 : Int32) → post (x0 <<< ((1 : Int32) &&& 31)) S) ∧
 (¬ x0 < (1073741823 : Int32) → False))) ∧
 (¬ 0 ≤ x0 → False))
abbrev r_J2_newBytesLength_0f7a4 : Room := { frames := 0, cells := 0, slots := 0, locals := 0 }
def wp_J2_newBytesLength_0f7a4 (D : wD) (post : Int32 → wS → Prop) (S : wS) (x0 : Int32) : Prop := wp_J2_newBytesLength_0f7a4_0 D post S x0
set_option maxHeartbeats 4000000 in
set_option maxRecDepth 100000 in
theorem t_J2_newBytesLength_0f7a4_0 {p : Program} {l : Launch} {e : Env} {s : State} {m : MethodId} {args : Array Value} {below : List Frame} {meth : Method} {c : Code} {D : wD} {cy : Nat → ClassId} {X : va_W} {A : Nat → Prop} {S0 : wS} {post : Int32 → wS → Prop} (F : CallFix p m c cJ2_newBytesLength_0f7a4 1 s args wz_J2_newBytesLength_0f7a4 RJ2) (hr : meth.sig.returnType = (some .int)) (hlocks : meth.locks = false) (hK : wK D cy A s) : ∀ {S : wS} {H : Heap} {locs : List Loc} {ls : Array Slot} {x0 : Int32}, wp_J2_newBytesLength_0f7a4_0 D post S x0 → wO D cy X A s.heap S H locs → wX D S0 S → lv_has ls 1 [(0, .int x0)] → W p l e r_J2_newBytesLength_0f7a4 s m args below meth c H locs 0 0 (MQ below (va_Qi (fun r S9 => wX D S0 S9 ∧ post r S9) (wB D cy X A) A) args s 0 0 A) (F0 m 0 ls []) := by
  obtain ⟨hx, hb, hml, hown, hts⟩ := id F
  have hwg : ∀ w ∈ WG, w.before args s = true := fun w h => hts w (List.mem_cons_of_mem _ h)
  intro S H locs ls x0 hp hW hE hl
  unfold wp_J2_newBytesLength_0f7a4_0 at hp
  refine lv_iload_n hx hb dJ2_newBytesLength_0f7a4_0 rfl (lv_at hl 0 rfl) ?_
  refine lv_if_ge (tgt := 12) hx hb dJ2_newBytesLength_0f7a4_1 (by decide) (fun c_1 => ?_) (fun c_1 => ?_)
  · replace hp := hp.1 c_1
    refine lv_iload_n hx hb dJ2_newBytesLength_0f7a4_12 rfl (lv_at hl 0 rfl) ?_
    refine lv_ldc hx hb hown (v := 1073741823) (hwg _ wI_RJ2_20) dJ2_newBytesLength_0f7a4_13 ?_
    refine lv_icmp_lt (tgt := 55) hx hb dJ2_newBytesLength_0f7a4_15 (by decide) (fun c_2 => ?_) (fun c_2 => ?_)
    · replace hp := hp.1 c_2
      refine lv_iload_n hx hb dJ2_newBytesLength_0f7a4_55 rfl (lv_at hl 0 rfl) ?_
      refine lv_iconst (v := 1) hx hb dJ2_newBytesLength_0f7a4_56 (by decide) ?_
      refine lv_ishl hx hb dJ2_newBytesLength_0f7a4_57 ?_
      exact w_iret hx hb hr hlocks hW ⟨hE, hp⟩ dJ2_newBytesLength_0f7a4_58
    · replace hp := hp.2 c_2
      exact hp.elim
  · replace hp := hp.2 c_1
    exact hp.elim
set_option maxHeartbeats 4000000 in
set_option maxRecDepth 100000 in
theorem c_J2_newBytesLength_0f7a4 (l : Launch) {D : wD} {cy : Nat → ClassId} {X : va_W} {S0 : wS} {post : Int32 → wS → Prop} {x0 : Int32} (hp : wp_J2_newBytesLength_0f7a4 D post S0 x0) : mI D cy X l yJ2_newBytesLength_0f7a4 wz_J2_newBytesLength_0f7a4 r_J2_newBytesLength_0f7a4 [.int x0] S0 (fun r S9 => wX D S0 S9 ∧ post r S9) := by
  intro sz
  refine Met.ofW (cc := cJ2_newBytesLength_0f7a4) (maxL := 1) (ret := (some .int)) (by decide) rfl ?_
  intro p e s m args below meth c s₁ B hml hv
  obtain ⟨rfl, hsz, hP, hK, hD0, hRO⟩ := hv
  have hts := atoms_spec (ws := wz_J2_newBytesLength_0f7a4) B.pre
  have hown : s.vm.findClass RJ2 = some m.cls := findClass_of_methodNamed B.named
  subst hsz
  have hD := hD0.self (sz := s.heap.size)
  have F : CallFix p m c cJ2_newBytesLength_0f7a4 1 s _ wz_J2_newBytesLength_0f7a4 RJ2 := ⟨B.exec, B.bytes, hml, hown, hts⟩
  have hr := B.returns
  have hlocks := B.notSynchronized
  generalize hAe : va_A (wL cy X S0) s.heap.size = A at hD hK ⊢
  have hA : ∀ q, s.heap.size ≤ q → A q := fun q h => by rw [← hAe]; exact Or.inr h
  have hW : wO D cy X A s.heap S0 s.heap [] := ⟨hP, hD, va_S.rf, hA, hRO⟩
  have hl := lv_entry ([.int x0]) (n := 1) (Nat.le_of_ble_eq_true rfl)
  rw [lg_entry_eq]
  generalize (lg_sl ([.int x0]) ++ List.replicate (1 - (lg_sl ([.int x0])).length) Slot.unset).toArray = ls at hl ⊢
  have hl : lv_has ls 1 [(0, .int x0)] := hl
  unfold wp_J2_newBytesLength_0f7a4 at hp
  exact t_J2_newBytesLength_0f7a4_0 F hr hlocks hK hp hW wX.rf (lv_sub hl [0] rfl)
def wp_J2_putCharsAt_cd4e5_70 (D : wD) (post : Int32 → wS → Prop)  (S : wS) (x6 : Int32) : Prop :=
post x6 S
def wp_J2_putCharsAt_cd4e5_0 (D : wD) (post : Int32 → wS → Prop)  (S : wS) (a0 : Nat) (x1 : Int32) (x2 : Int32) (x3 : Int32) (x4 : Int32) (x5 : Int32) : Prop :=
∀ x_1 : Int32, x_1 = (x1 + (4 : Int32)) →
wp_J2_checkBoundsBeginEnd_d044e D (fun S_3 => 
∀ x_4 : Int32, x_4 = x1 + 1 →
wp_J2_putChar_b72d1 D (fun S_6 => 
∀ x_7 : Int32, x_7 = x_4 + 1 →
wp_J2_putChar_b72d1 D (fun S_9 => 
∀ x_10 : Int32, x_10 = x_7 + 1 →
wp_J2_putChar_b72d1 D (fun S_12 => 
∀ x_13 : Int32, x_13 = x_10 + 1 →
wp_J2_putChar_b72d1 D (fun S_15 => 
((¬ (1 : Int32) = 0 → wp_J2_putCharsAt_cd4e5_70 D post S_15 x_1) ∧
 ((1 : Int32) = 0 → ((x_13 = x_1 → wp_J2_putCharsAt_cd4e5_70 D post S_15 x_1) ∧
 (¬ x_13 = x_1 → False))))) S_12 a0 x_10 x5) S_9 a0 x_7 x4) S_6 a0 x_4 x3) S_3 a0 x1 x2) S x1 x_1 a0
abbrev r_J2_putCharsAt_cd4e5 : Room := { frames := 3, cells := 0, slots := 0, locals := 67 }
def wp_J2_putCharsAt_cd4e5 (D : wD) (post : Int32 → wS → Prop) (S : wS) (a0 : Nat) (x1 : Int32) (x2 : Int32) (x3 : Int32) (x4 : Int32) (x5 : Int32) : Prop := wp_J2_putCharsAt_cd4e5_0 D post S a0 x1 x2 x3 x4 x5
set_option maxHeartbeats 4000000 in
set_option maxRecDepth 100000 in
theorem t_J2_putCharsAt_cd4e5_70 {p : Program} {l : Launch} {e : Env} {s : State} {m : MethodId} {args : Array Value} {below : List Frame} {meth : Method} {c : Code} {D : wD} {cy : Nat → ClassId} {X : va_W} {A : Nat → Prop} {S0 : wS} {post : Int32 → wS → Prop} (F : CallFix p m c cJ2_putCharsAt_cd4e5 7 s args wz_J2_putCharsAt_cd4e5 RJ2) (hr : meth.sig.returnType = (some .int)) (hlocks : meth.locks = false) (hK : wK D cy A s) : ∀ {S : wS} {H : Heap} {locs : List Loc} {ls : Array Slot} {x6 : Int32}, wp_J2_putCharsAt_cd4e5_70 D post S x6 → wO D cy X A s.heap S H locs → wX D S0 S → lv_has ls 7 [(6, .int x6)] → W p l e r_J2_putCharsAt_cd4e5 s m args below meth c H locs 0 0 (MQ below (va_Qi (fun r S9 => wX D S0 S9 ∧ post r S9) (wB D cy X A) A) args s 0 0 A) (F0 m 70 ls []) := by
  obtain ⟨hx, hb, hml, hown, hts⟩ := id F
  have hwg : ∀ w ∈ WG, w.before args s = true := fun w h => hts w (List.mem_cons_of_mem _ h)
  intro S H locs ls x6 hp hW hE hl
  unfold wp_J2_putCharsAt_cd4e5_70 at hp
  refine lv_iload hx hb dJ2_putCharsAt_cd4e5_70 (lv_at hl 0 rfl) ?_
  exact w_iret hx hb hr hlocks hW ⟨hE, hp⟩ dJ2_putCharsAt_cd4e5_72
set_option maxHeartbeats 4000000 in
set_option maxRecDepth 100000 in
theorem t_J2_putCharsAt_cd4e5_0 {p : Program} {l : Launch} {e : Env} {s : State} {m : MethodId} {args : Array Value} {below : List Frame} {meth : Method} {c : Code} {D : wD} {cy : Nat → ClassId} {X : va_W} {A : Nat → Prop} {S0 : wS} {post : Int32 → wS → Prop} (F : CallFix p m c cJ2_putCharsAt_cd4e5 7 s args wz_J2_putCharsAt_cd4e5 RJ2) (hr : meth.sig.returnType = (some .int)) (hlocks : meth.locks = false) (hK : wK D cy A s) : ∀ {S : wS} {H : Heap} {locs : List Loc} {ls : Array Slot} {a0 : Nat} {x1 : Int32} {x2 : Int32} {x3 : Int32} {x4 : Int32} {x5 : Int32}, wp_J2_putCharsAt_cd4e5_0 D post S a0 x1 x2 x3 x4 x5 → wO D cy X A s.heap S H locs → wX D S0 S → lv_has ls 7 [(0, .ref a0), (1, .int x1), (2, .int x2), (3, .int x3), (4, .int x4), (5, .int x5)] → wM D S a0 → sK S a0 = 20 → W p l e r_J2_putCharsAt_cd4e5 s m args below meth c H locs 0 0 (MQ below (va_Qi (fun r S9 => wX D S0 S9 ∧ post r S9) (wB D cy X A) A) args s 0 0 A) (F0 m 0 ls []) := by
  obtain ⟨hx, hb, hml, hown, hts⟩ := id F
  have hwg : ∀ w ∈ WG, w.before args s = true := fun w h => hts w (List.mem_cons_of_mem _ h)
  intro S H locs ls a0 x1 x2 x3 x4 x5 hp hW hE hl hL_a0 hK_a0
  unfold wp_J2_putCharsAt_cd4e5_0 at hp
  refine lv_iload_n hx hb dJ2_putCharsAt_cd4e5_0 rfl (lv_at hl 1 rfl) ?_
  refine lv_iconst (v := 4) hx hb dJ2_putCharsAt_cd4e5_1 (by decide) ?_
  refine lv_iadd hx hb dJ2_putCharsAt_cd4e5_2 ?_
  refine lv_topi (fun x_1 ex_1 => ?_)
  replace hp := hp x_1 ex_1
  refine lv_istore (lv' := [(6, .int x_1), (0, .ref a0), (1, .int x1), (2, .int x2), (3, .int x3), (4, .int x4), (5, .int x5)]) hx hb dJ2_putCharsAt_cd4e5_3 hl (by decide) rfl (fun ls hl => ?_)
  refine lv_iload_n hx hb dJ2_putCharsAt_cd4e5_5 rfl (lv_at hl 2 rfl) ?_
  refine lv_iload hx hb dJ2_putCharsAt_cd4e5_6 (lv_at hl 0 rfl) ?_
  refine lv_aload_n hx hb dJ2_putCharsAt_cd4e5_8 rfl (lv_at hl 1 rfl) ?_
  refine w_callV (va_runS (As := [.int x1, .int x_1, .ref a0]) (rest := []) F (c_J2_checkBoundsBeginEnd_d044e l hL_a0 hK_a0 hp H.size) (va_cwS 3 hts (wg_S wm_RJ2_96 wy_J2_checkBoundsBeginEnd_d044e) rfl rfl rfl (by decide +kernel) ⟨Nat.le_of_ble_eq_true rfl, Nat.le_of_ble_eq_true rfl⟩) (w_preS hK hW) rfl rfl hl.1 rfl (lv_room (Nat.le_of_ble_eq_true rfl)) dJ2_putCharsAt_cd4e5_9 ⟨Nat.le_of_ble_eq_true rfl, Nat.le_of_ble_eq_true rfl⟩) hW (fun S_3 H locs hp hW => ?_)
  obtain ⟨hX_S_3, hp⟩ := hp
  refine W.widen (k := 0) (n := 0) (by decide) (by decide) ?_
  have hE := hE.trans hX_S_3
  have hK_a0 : sK S_3 a0 = 20 := (hX_S_3.2 a0 hL_a0).1.trans hK_a0
  have hL_a0 : wM D S_3 a0 := hX_S_3.M hL_a0
  refine lv_aload_n hx hb dJ2_putCharsAt_cd4e5_12 rfl (lv_at hl 1 rfl) ?_
  refine lv_iload_n hx hb dJ2_putCharsAt_cd4e5_13 rfl (lv_at hl 2 rfl) ?_
  obtain ⟨x_4, ex_4⟩ : ∃ z : Int32, z = x1 + 1 := ⟨_, rfl⟩
  replace hp := hp x_4 ex_4
  refine lv_iinc (v := x_4) (lv' := [(1, .int x_4), (6, .int x_1), (0, .ref a0), (2, .int x2), (3, .int x3), (4, .int x4), (5, .int x5)]) hx hb dJ2_putCharsAt_cd4e5_14 hl (k := 2) rfl (by rw [ex_4]; rfl) (by decide) rfl (fun ls hl => ?_)
  refine lv_iload_n hx hb dJ2_putCharsAt_cd4e5_17 rfl (lv_at hl 3 rfl) ?_
  refine w_callV (va_runS (As := [.ref a0, .int x1, .int x2]) (rest := []) F (c_J2_putChar_b72d1 l hL_a0 hK_a0 hp H.size) (va_cwS 3 hts (wg_S wm_RJ2_111 wy_J2_putChar_b72d1) rfl rfl rfl (by decide +kernel) ⟨Nat.le_of_ble_eq_true rfl, Nat.le_of_ble_eq_true rfl⟩) (w_preS hK hW) rfl rfl hl.1 rfl (lv_room (Nat.le_of_ble_eq_true rfl)) dJ2_putCharsAt_cd4e5_18 ⟨Nat.le_of_ble_eq_true rfl, Nat.le_of_ble_eq_true rfl⟩) hW (fun S_6 H locs hp hW => ?_)
  obtain ⟨hX_S_6, hp⟩ := hp
  refine W.widen (k := 0) (n := 0) (by decide) (by decide) ?_
  have hE := hE.trans hX_S_6
  have hK_a0 : sK S_6 a0 = 20 := (hX_S_6.2 a0 hL_a0).1.trans hK_a0
  have hL_a0 : wM D S_6 a0 := hX_S_6.M hL_a0
  refine lv_aload_n hx hb dJ2_putCharsAt_cd4e5_21 rfl (lv_at hl 2 rfl) ?_
  refine lv_iload_n hx hb dJ2_putCharsAt_cd4e5_22 rfl (lv_at hl 0 rfl) ?_
  obtain ⟨x_7, ex_7⟩ : ∃ z : Int32, z = x_4 + 1 := ⟨_, rfl⟩
  replace hp := hp x_7 ex_7
  refine lv_iinc (v := x_7) (lv' := [(1, .int x_7), (6, .int x_1), (0, .ref a0), (2, .int x2), (3, .int x3), (4, .int x4), (5, .int x5)]) hx hb dJ2_putCharsAt_cd4e5_23 hl (k := 0) rfl (by rw [ex_7]; rfl) (by decide) rfl (fun ls hl => ?_)
  refine lv_iload_n hx hb dJ2_putCharsAt_cd4e5_26 rfl (lv_at hl 4 rfl) ?_
  refine w_callV (va_runS (As := [.ref a0, .int x_4, .int x3]) (rest := []) F (c_J2_putChar_b72d1 l hL_a0 hK_a0 hp H.size) (va_cwS 3 hts (wg_S wm_RJ2_111 wy_J2_putChar_b72d1) rfl rfl rfl (by decide +kernel) ⟨Nat.le_of_ble_eq_true rfl, Nat.le_of_ble_eq_true rfl⟩) (w_preS hK hW) rfl rfl hl.1 rfl (lv_room (Nat.le_of_ble_eq_true rfl)) dJ2_putCharsAt_cd4e5_27 ⟨Nat.le_of_ble_eq_true rfl, Nat.le_of_ble_eq_true rfl⟩) hW (fun S_9 H locs hp hW => ?_)
  obtain ⟨hX_S_9, hp⟩ := hp
  refine W.widen (k := 0) (n := 0) (by decide) (by decide) ?_
  have hE := hE.trans hX_S_9
  have hK_a0 : sK S_9 a0 = 20 := (hX_S_9.2 a0 hL_a0).1.trans hK_a0
  have hL_a0 : wM D S_9 a0 := hX_S_9.M hL_a0
  refine lv_aload_n hx hb dJ2_putCharsAt_cd4e5_30 rfl (lv_at hl 2 rfl) ?_
  refine lv_iload_n hx hb dJ2_putCharsAt_cd4e5_31 rfl (lv_at hl 0 rfl) ?_
  obtain ⟨x_10, ex_10⟩ : ∃ z : Int32, z = x_7 + 1 := ⟨_, rfl⟩
  replace hp := hp x_10 ex_10
  refine lv_iinc (v := x_10) (lv' := [(1, .int x_10), (6, .int x_1), (0, .ref a0), (2, .int x2), (3, .int x3), (4, .int x4), (5, .int x5)]) hx hb dJ2_putCharsAt_cd4e5_32 hl (k := 0) rfl (by rw [ex_10]; rfl) (by decide) rfl (fun ls hl => ?_)
  refine lv_iload hx hb dJ2_putCharsAt_cd4e5_35 (lv_at hl 5 rfl) ?_
  refine w_callV (va_runS (As := [.ref a0, .int x_7, .int x4]) (rest := []) F (c_J2_putChar_b72d1 l hL_a0 hK_a0 hp H.size) (va_cwS 3 hts (wg_S wm_RJ2_111 wy_J2_putChar_b72d1) rfl rfl rfl (by decide +kernel) ⟨Nat.le_of_ble_eq_true rfl, Nat.le_of_ble_eq_true rfl⟩) (w_preS hK hW) rfl rfl hl.1 rfl (lv_room (Nat.le_of_ble_eq_true rfl)) dJ2_putCharsAt_cd4e5_37 ⟨Nat.le_of_ble_eq_true rfl, Nat.le_of_ble_eq_true rfl⟩) hW (fun S_12 H locs hp hW => ?_)
  obtain ⟨hX_S_12, hp⟩ := hp
  refine W.widen (k := 0) (n := 0) (by decide) (by decide) ?_
  have hE := hE.trans hX_S_12
  have hK_a0 : sK S_12 a0 = 20 := (hX_S_12.2 a0 hL_a0).1.trans hK_a0
  have hL_a0 : wM D S_12 a0 := hX_S_12.M hL_a0
  refine lv_aload_n hx hb dJ2_putCharsAt_cd4e5_40 rfl (lv_at hl 2 rfl) ?_
  refine lv_iload_n hx hb dJ2_putCharsAt_cd4e5_41 rfl (lv_at hl 0 rfl) ?_
  obtain ⟨x_13, ex_13⟩ : ∃ z : Int32, z = x_10 + 1 := ⟨_, rfl⟩
  replace hp := hp x_13 ex_13
  refine lv_iinc (v := x_13) (lv' := [(1, .int x_13), (6, .int x_1), (0, .ref a0), (2, .int x2), (3, .int x3), (4, .int x4), (5, .int x5)]) hx hb dJ2_putCharsAt_cd4e5_42 hl (k := 0) rfl (by rw [ex_13]; rfl) (by decide) rfl (fun ls hl => ?_)
  refine lv_iload hx hb dJ2_putCharsAt_cd4e5_45 (lv_at hl 6 rfl) ?_
  refine w_callV (va_runS (As := [.ref a0, .int x_10, .int x5]) (rest := []) F (c_J2_putChar_b72d1 l hL_a0 hK_a0 hp H.size) (va_cwS 3 hts (wg_S wm_RJ2_111 wy_J2_putChar_b72d1) rfl rfl rfl (by decide +kernel) ⟨Nat.le_of_ble_eq_true rfl, Nat.le_of_ble_eq_true rfl⟩) (w_preS hK hW) rfl rfl hl.1 rfl (lv_room (Nat.le_of_ble_eq_true rfl)) dJ2_putCharsAt_cd4e5_47 ⟨Nat.le_of_ble_eq_true rfl, Nat.le_of_ble_eq_true rfl⟩) hW (fun S_15 H locs hp hW => ?_)
  obtain ⟨hX_S_15, hp⟩ := hp
  refine W.widen (k := 0) (n := 0) (by decide) (by decide) ?_
  have hE := hE.trans hX_S_15
  have hK_a0 : sK S_15 a0 = 20 := (hX_S_15.2 a0 hL_a0).1.trans hK_a0
  have hL_a0 : wM D S_15 a0 := hX_S_15.M hL_a0
  refine w_staI F hK hW (show ("java/lang/StringUTF16", "$assertionsDisabled", "Z", (1 : Int32)) ∈ wSi by decide +kernel) (hwg _ wf_RJ2_44) dJ2_putCharsAt_cd4e5_50 ?_
  refine lv_if_ne (tgt := 70) hx hb dJ2_putCharsAt_cd4e5_53 (by decide) (fun c_16 => ?_) (fun c_16 => ?_)
  · replace hp := hp.1 c_16
    exact t_J2_putCharsAt_cd4e5_70 F hr hlocks hK hp hW hE (lv_sub hl [1] rfl)
  · replace hp := hp.2 c_16
    refine lv_iload_n hx hb dJ2_putCharsAt_cd4e5_56 rfl (lv_at hl 0 rfl) ?_
    refine lv_iload hx hb dJ2_putCharsAt_cd4e5_57 (lv_at hl 1 rfl) ?_
    refine lv_icmp_eq (tgt := 70) hx hb dJ2_putCharsAt_cd4e5_59 (by decide) (fun c_17 => ?_) (fun c_17 => ?_)
    · replace hp := hp.1 c_17
      exact t_J2_putCharsAt_cd4e5_70 F hr hlocks hK hp hW hE (lv_sub hl [1] rfl)
    · replace hp := hp.2 c_17
      exact hp.elim
set_option maxHeartbeats 4000000 in
set_option maxRecDepth 100000 in
theorem c_J2_putCharsAt_cd4e5 (l : Launch) {D : wD} {cy : Nat → ClassId} {X : va_W} {S0 : wS} {post : Int32 → wS → Prop} {a0 : Nat} {x1 : Int32} {x2 : Int32} {x3 : Int32} {x4 : Int32} {x5 : Int32} (hL_a0 : wM D S0 a0) (hK_a0 : sK S0 a0 = 20) (hp : wp_J2_putCharsAt_cd4e5 D post S0 a0 x1 x2 x3 x4 x5) : mI D cy X l yJ2_putCharsAt_cd4e5 wz_J2_putCharsAt_cd4e5 r_J2_putCharsAt_cd4e5 [.ref a0, .int x1, .int x2, .int x3, .int x4, .int x5] S0 (fun r S9 => wX D S0 S9 ∧ post r S9) := by
  intro sz
  refine Met.ofW (cc := cJ2_putCharsAt_cd4e5) (maxL := 7) (ret := (some .int)) (by decide) rfl ?_
  intro p e s m args below meth c s₁ B hml hv
  obtain ⟨rfl, hsz, hP, hK, hD0, hRO⟩ := hv
  have hts := atoms_spec (ws := wz_J2_putCharsAt_cd4e5) B.pre
  have hown : s.vm.findClass RJ2 = some m.cls := findClass_of_methodNamed B.named
  subst hsz
  have hD := hD0.self (sz := s.heap.size)
  have F : CallFix p m c cJ2_putCharsAt_cd4e5 7 s _ wz_J2_putCharsAt_cd4e5 RJ2 := ⟨B.exec, B.bytes, hml, hown, hts⟩
  have hr := B.returns
  have hlocks := B.notSynchronized
  generalize hAe : va_A (wL cy X S0) s.heap.size = A at hD hK ⊢
  have hA : ∀ q, s.heap.size ≤ q → A q := fun q h => by rw [← hAe]; exact Or.inr h
  have hW : wO D cy X A s.heap S0 s.heap [] := ⟨hP, hD, va_S.rf, hA, hRO⟩
  have hl := lv_entry ([.ref a0, .int x1, .int x2, .int x3, .int x4, .int x5]) (n := 7) (Nat.le_of_ble_eq_true rfl)
  rw [lg_entry_eq]
  generalize (lg_sl ([.ref a0, .int x1, .int x2, .int x3, .int x4, .int x5]) ++ List.replicate (7 - (lg_sl ([.ref a0, .int x1, .int x2, .int x3, .int x4, .int x5])).length) Slot.unset).toArray = ls at hl ⊢
  have hl : lv_has ls 7 [(0, .ref a0), (1, .int x1), (2, .int x2), (3, .int x3), (4, .int x4), (5, .int x5)] := hl
  unfold wp_J2_putCharsAt_cd4e5 at hp
  exact t_J2_putCharsAt_cd4e5_0 F hr hlocks hK hp hW wX.rf (lv_sub hl [0, 1, 2, 3, 4, 5] rfl) hL_a0 hK_a0
