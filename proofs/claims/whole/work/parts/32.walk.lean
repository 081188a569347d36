theorem dX11_fault_0 : decode cX11_fault 0 = .ok (.aload_n 0, 1) := by decide +kernel
theorem dX11_fault_1 : decode cX11_fault 1 = .ok (.invokevirtual 217, 3) := by decide +kernel
theorem dX11_fault_4 : decode cX11_fault 4 = .ok (.aload_n 0, 1) := by decide +kernel
theorem dX11_fault_5 : decode cX11_fault 5 = .ok (.getfield 58, 3) := by decide +kernel
theorem dX11_fault_8 : decode cX11_fault 8 = .ok (.aload_n 0, 1) := by decide +kernel
theorem dX11_fault_9 : decode cX11_fault 9 = .ok (.getfield 105, 3) := by decide +kernel
theorem dX11_fault_12 : decode cX11_fault 12 = .ok (.aload_n 0, 1) := by decide +kernel
theorem dX11_fault_13 : decode cX11_fault 13 = .ok (.getfield 28, 3) := by decide +kernel
theorem dX11_fault_16 : decode cX11_fault 16 = .ok (.bipush 80, 2) := by decide +kernel
theorem dX11_fault_18 : decode cX11_fault 18 = .ok (.aload_n 0, 1) := by decide +kernel
theorem dX11_fault_19 : decode cX11_fault 19 = .ok (.getfield 40, 3) := by decide +kernel
theorem dX11_fault_22 : decode cX11_fault 22 = .ok (.getfield 157, 3) := by decide +kernel
theorem dX11_fault_25 : decode cX11_fault 25 = .ok (.isub, 1) := by decide +kernel
theorem dX11_fault_26 : decode cX11_fault 26 = .ok (.invokevirtual 319, 3) := by decide +kernel
theorem dX11_fault_29 : decode cX11_fault 29 = .ok (.ireturn, 1) := by decide +kernel
theorem dX11_gameOf_0 : decode cX11_gameOf 0 = .ok (.aload_n 0, 1) := by decide +kernel
theorem dX11_gameOf_1 : decode cX11_gameOf 1 = .ok (.iload_n 1, 1) := by decide +kernel
theorem dX11_gameOf_2 : decode cX11_gameOf 2 = .ok (.invokevirtual 337, 3) := by decide +kernel
theorem dX11_gameOf_5 : decode cX11_gameOf 5 = .ok (.iload_n 2, 1) := by decide +kernel
theorem dX11_gameOf_6 : decode cX11_gameOf 6 = .ok (.invokevirtual 408, 3) := by decide +kernel
theorem dX11_gameOf_9 : decode cX11_gameOf 9 = .ok (.astore_n 3, 1) := by decide +kernel
theorem dX11_gameOf_10 : decode cX11_gameOf 10 = .ok (.aload_n 3, 1) := by decide +kernel
theorem dX11_gameOf_11 : decode cX11_gameOf 11 = .ok (.ifnonnull 14, 3) := by decide +kernel
theorem dX11_gameOf_14 : decode cX11_gameOf 14 = .ok (.new 235, 3) := by decide +kernel
theorem dX11_gameOf_17 : decode cX11_gameOf 17 = .ok (.dup, 1) := by decide +kernel
theorem dX11_gameOf_18 : decode cX11_gameOf 18 = .ok (.ldc_w 503, 3) := by decide +kernel
theorem dX11_gameOf_21 : decode cX11_gameOf 21 = .ok (.invokespecial 239, 3) := by decide +kernel
theorem dX11_gameOf_24 : decode cX11_gameOf 24 = .ok (.athrow, 1) := by decide +kernel
theorem dX11_gameOf_25 : decode cX11_gameOf 25 = .ok (.aload_n 3, 1) := by decide +kernel
theorem dX11_gameOf_26 : decode cX11_gameOf 26 = .ok (.areturn, 1) := by decide +kernel
theorem dX11_firstNew_0 : decode cX11_firstNew 0 = .ok (.aload_n 0, 1) := by decide +kernel
theorem dX11_firstNew_1 : decode cX11_firstNew 1 = .ok (.iload_n 1, 1) := by decide +kernel
theorem dX11_firstNew_2 : decode cX11_firstNew 2 = .ok (.iload_n 2, 1) := by decide +kernel
theorem dX11_firstNew_3 : decode cX11_firstNew 3 = .ok (.invokevirtual 355, 3) := by decide +kernel
theorem dX11_firstNew_6 : decode cX11_firstNew 6 = .ok (.invokevirtual 405, 3) := by decide +kernel
theorem dX11_firstNew_9 : decode cX11_firstNew 9 = .ok (.ireturn, 1) := by decide +kernel
theorem dX11_gameCount_0 : decode cX11_gameCount 0 = .ok (.aload_n 0, 1) := by decide +kernel
theorem dX11_gameCount_1 : decode cX11_gameCount 1 = .ok (.iload_n 1, 1) := by decide +kernel
theorem dX11_gameCount_2 : decode cX11_gameCount 2 = .ok (.invokevirtual 337, 3) := by decide +kernel
theorem dX11_gameCount_5 : decode cX11_gameCount 5 = .ok (.invokevirtual 343, 3) := by decide +kernel
theorem dX11_gameCount_8 : decode cX11_gameCount 8 = .ok (.ireturn, 1) := by decide +kernel
theorem dX11_gameLength_0 : decode cX11_gameLength 0 = .ok (.aload_n 0, 1) := by decide +kernel
theorem dX11_gameLength_1 : decode cX11_gameLength 1 = .ok (.iload_n 1, 1) := by decide +kernel
theorem dX11_gameLength_2 : decode cX11_gameLength 2 = .ok (.iload_n 2, 1) := by decide +kernel
theorem dX11_gameLength_3 : decode cX11_gameLength 3 = .ok (.invokevirtual 355, 3) := by decide +kernel
theorem dX11_gameLength_6 : decode cX11_gameLength 6 = .ok (.getfield 157, 3) := by decide +kernel
theorem dX11_gameLength_9 : decode cX11_gameLength 9 = .ok (.ireturn, 1) := by decide +kernel
theorem dX11_gamesOf_0 : decode cX11_gamesOf 0 = .ok (.aload_n 0, 1) := by decide +kernel
theorem dX11_gamesOf_1 : decode cX11_gamesOf 1 = .ok (.invokevirtual 217, 3) := by decide +kernel
theorem dX11_gamesOf_4 : decode cX11_gamesOf 4 = .ok (.aload_n 0, 1) := by decide +kernel
theorem dX11_gamesOf_5 : decode cX11_gamesOf 5 = .ok (.getfield 84, 3) := by decide +kernel
theorem dX11_gamesOf_8 : decode cX11_gamesOf 8 = .ok (.aload_n 0, 1) := by decide +kernel
theorem dX11_gamesOf_9 : decode cX11_gamesOf 9 = .ok (.iload_n 1, 1) := by decide +kernel
theorem dX11_gamesOf_10 : decode cX11_gamesOf 10 = .ok (.invokevirtual 337, 3) := by decide +kernel
theorem dX11_gamesOf_13 : decode cX11_gamesOf 13 = .ok (.aload_n 0, 1) := by decide +kernel
theorem dX11_gamesOf_14 : decode cX11_gamesOf 14 = .ok (.getfield 28, 3) := by decide +kernel
theorem dX11_gamesOf_17 : decode cX11_gamesOf 17 = .ok (.invokevirtual 384, 3) := by decide +kernel
theorem dX11_gamesOf_20 : decode cX11_gamesOf 20 = .ok (.aload_n 0, 1) := by decide +kernel
theorem dX11_gamesOf_21 : decode cX11_gamesOf 21 = .ok (.getfield 84, 3) := by decide +kernel
theorem dX11_gamesOf_24 : decode cX11_gamesOf 24 = .ok (.aload_n 0, 1) := by decide +kernel
theorem dX11_gamesOf_25 : decode cX11_gamesOf 25 = .ok (.iload_n 2, 1) := by decide +kernel
theorem dX11_gamesOf_26 : decode cX11_gamesOf 26 = .ok (.invokevirtual 391, 3) := by decide +kernel
theorem dX11_gamesOf_29 : decode cX11_gamesOf 29 = .ok (.invokevirtual 394, 3) := by decide +kernel
theorem dX11_gamesOf_32 : decode cX11_gamesOf 32 = .ok (.ireturn, 1) := by decide +kernel
theorem dX1_init_0 : decode cX1_init 0 = .ok (.aload_n 0, 1) := by decide +kernel
theorem dX1_init_1 : decode cX1_init 1 = .ok (.invokespecial 3, 3) := by decide +kernel
theorem dX1_init_4 : decode cX1_init 4 = .ok (.aload_n 0, 1) := by decide +kernel
theorem dX1_init_5 : decode cX1_init 5 = .ok (.sipush 1728, 3) := by decide +kernel
theorem dX1_init_8 : decode cX1_init 8 = .ok (.newarray .int, 2) := by decide +kernel
theorem dX1_init_10 : decode cX1_init 10 = .ok (.putfield 9, 3) := by decide +kernel
theorem dX1_init_13 : decode cX1_init 13 = .ok (.aload_n 0, 1) := by decide +kernel
theorem dX1_init_14 : decode cX1_init 14 = .ok (.sipush 1728, 3) := by decide +kernel
theorem dX1_init_17 : decode cX1_init 17 = .ok (.newarray .int, 2) := by decide +kernel
theorem dX1_init_19 : decode cX1_init 19 = .ok (.putfield 15, 3) := by decide +kernel
theorem dX1_init_22 : decode cX1_init 22 = .ok (.aload_n 0, 1) := by decide +kernel
theorem dX1_init_23 : decode cX1_init 23 = .ok (.sipush 1728, 3) := by decide +kernel
theorem dX1_init_26 : decode cX1_init 26 = .ok (.newarray .long, 2) := by decide +kernel
theorem dX1_init_28 : decode cX1_init 28 = .ok (.putfield 18, 3) := by decide +kernel
theorem dX1_init_31 : decode cX1_init 31 = .ok (.aload_n 0, 1) := by decide +kernel
theorem dX1_init_32 : decode cX1_init 32 = .ok (.aload_n 1, 1) := by decide +kernel
theorem dX1_init_33 : decode cX1_init 33 = .ok (.putfield 22, 3) := by decide +kernel
theorem dX1_init_36 : decode cX1_init 36 = .ok (.return_, 1) := by decide +kernel
theorem dX2_init_0 : decode cX2_init 0 = .ok (.aload_n 0, 1) := by decide +kernel
theorem dX2_init_1 : decode cX2_init 1 = .ok (.invokespecial 5, 3) := by decide +kernel
theorem dX2_init_4 : decode cX2_init 4 = .ok (.aload_n 0, 1) := by decide +kernel
theorem dX2_init_5 : decode cX2_init 5 = .ok (.bipush 6, 2) := by decide +kernel
theorem dX2_init_7 : decode cX2_init 7 = .ok (.newarray .boolean, 2) := by decide +kernel
theorem dX2_init_9 : decode cX2_init 9 = .ok (.putfield 11, 3) := by decide +kernel
theorem dX2_init_12 : decode cX2_init 12 = .ok (.aload_n 0, 1) := by decide +kernel
theorem dX2_init_13 : decode cX2_init 13 = .ok (.bipush 6, 2) := by decide +kernel
theorem dX2_init_15 : decode cX2_init 15 = .ok (.newarray .int, 2) := by decide +kernel
theorem dX2_init_17 : decode cX2_init 17 = .ok (.putfield 15, 3) := by decide +kernel
theorem dX2_init_20 : decode cX2_init 20 = .ok (.aload_n 0, 1) := by decide +kernel
theorem dX2_init_21 : decode cX2_init 21 = .ok (.bipush 6, 2) := by decide +kernel
theorem dX2_init_23 : decode cX2_init 23 = .ok (.newarray .int, 2) := by decide +kernel
theorem dX2_init_25 : decode cX2_init 25 = .ok (.putfield 19, 3) := by decide +kernel
theorem dX2_init_28 : decode cX2_init 28 = .ok (.aload_n 0, 1) := by decide +kernel
theorem dX2_init_29 : decode cX2_init 29 = .ok (.iconst 0, 1) := by decide +kernel
theorem dX2_init_30 : decode cX2_init 30 = .ok (.newarray .int, 2) := by decide +kernel
theorem dX2_init_32 : decode cX2_init 32 = .ok (.putfield 22, 3) := by decide +kernel
theorem dX2_init_35 : decode cX2_init 35 = .ok (.aload_n 0, 1) := by decide +kernel
theorem dX2_init_36 : decode cX2_init 36 = .ok (.iconst 0, 1) := by decide +kernel
theorem dX2_init_37 : decode cX2_init 37 = .ok (.newarray .int, 2) := by decide +kernel
theorem dX2_init_39 : decode cX2_init 39 = .ok (.putfield 25, 3) := by decide +kernel
theorem dX2_init_42 : decode cX2_init 42 = .ok (.aload_n 0, 1) := by decide +kernel
theorem dX2_init_43 : decode cX2_init 43 = .ok (.iconst 0, 1) := by decide +kernel
theorem dX2_init_44 : decode cX2_init 44 = .ok (.newarray .int, 2) := by decide +kernel
theorem dX2_init_46 : decode cX2_init 46 = .ok (.putfield 28, 3) := by decide +kernel
theorem dX2_init_49 : decode cX2_init 49 = .ok (.aload_n 0, 1) := by decide +kernel
theorem dX2_init_50 : decode cX2_init 50 = .ok (.iconst 0, 1) := by decide +kernel
theorem dX2_init_51 : decode cX2_init 51 = .ok (.putfield 31, 3) := by decide +kernel
theorem dX2_init_54 : decode cX2_init 54 = .ok (.aload_n 0, 1) := by decide +kernel
theorem dX2_init_55 : decode cX2_init 55 = .ok (.aload_n 1, 1) := by decide +kernel
theorem dX2_init_56 : decode cX2_init 56 = .ok (.putfield 35, 3) := by decide +kernel
theorem dX2_init_59 : decode cX2_init 59 = .ok (.return_, 1) := by decide +kernel
theorem dX7_init_0 : decode cX7_init 0 = .ok (.aload_n 0, 1) := by decide +kernel
theorem dX7_init_1 : decode cX7_init 1 = .ok (.invokespecial 3, 3) := by decide +kernel
theorem dX7_init_4 : decode cX7_init 4 = .ok (.aload_n 0, 1) := by decide +kernel
theorem dX7_init_5 : decode cX7_init 5 = .ok (.lconst 0, 1) := by decide +kernel
theorem dX7_init_6 : decode cX7_init 6 = .ok (.putfield 9, 3) := by decide +kernel
theorem dX7_init_9 : decode cX7_init 9 = .ok (.aload_n 0, 1) := by decide +kernel
theorem dX7_init_10 : decode cX7_init 10 = .ok (.lconst 0, 1) := by decide +kernel
theorem dX7_init_11 : decode cX7_init 11 = .ok (.putfield 15, 3) := by decide +kernel
theorem dX7_init_14 : decode cX7_init 14 = .ok (.aload_n 0, 1) := by decide +kernel
theorem dX7_init_15 : decode cX7_init 15 = .ok (.lconst 0, 1) := by decide +kernel
theorem dX7_init_16 : decode cX7_init 16 = .ok (.putfield 18, 3) := by decide +kernel
theorem dX7_init_19 : decode cX7_init 19 = .ok (.aload_n 0, 1) := by decide +kernel
theorem dX7_init_20 : decode cX7_init 20 = .ok (.lconst 0, 1) := by decide +kernel
theorem dX7_init_21 : decode cX7_init 21 = .ok (.putfield 21, 3) := by decide +kernel
theorem dX7_init_24 : decode cX7_init 24 = .ok (.aload_n 0, 1) := by decide +kernel
theorem dX7_init_25 : decode cX7_init 25 = .ok (.iconst 1, 1) := by decide +kernel
theorem dX7_init_26 : decode cX7_init 26 = .ok (.putfield 24, 3) := by decide +kernel
theorem dX7_init_29 : decode cX7_init 29 = .ok (.aload_n 0, 1) := by decide +kernel
theorem dX7_init_30 : decode cX7_init 30 = .ok (.iconst 0, 1) := by decide +kernel
theorem dX7_init_31 : decode cX7_init 31 = .ok (.putfield 28, 3) := by decide +kernel
theorem dX7_init_34 : decode cX7_init 34 = .ok (.aload_n 0, 1) := by decide +kernel
theorem dX7_init_35 : decode cX7_init 35 = .ok (.iconst (-1), 1) := by decide +kernel
theorem dX7_init_36 : decode cX7_init 36 = .ok (.putfield 32, 3) := by decide +kernel
theorem dX7_init_39 : decode cX7_init 39 = .ok (.aload_n 0, 1) := by decide +kernel
theorem dX7_init_40 : decode cX7_init 40 = .ok (.aload_n 1, 1) := by decide +kernel
theorem dX7_init_41 : decode cX7_init 41 = .ok (.putfield 35, 3) := by decide +kernel
theorem dX7_init_44 : decode cX7_init 44 = .ok (.return_, 1) := by decide +kernel
theorem dX4_init_0 : decode cX4_init 0 = .ok (.aload_n 0, 1) := by decide +kernel
theorem dX4_init_1 : decode cX4_init 1 = .ok (.invokespecial 5, 3) := by decide +kernel
theorem dX4_init_4 : decode cX4_init 4 = .ok (.aload_n 0, 1) := by decide +kernel
theorem dX4_init_5 : decode cX4_init 5 = .ok (.sipush 1728, 3) := by decide +kernel
theorem dX4_init_8 : decode cX4_init 8 = .ok (.newarray .int, 2) := by decide +kernel
theorem dX4_init_10 : decode cX4_init 10 = .ok (.putfield 11, 3) := by decide +kernel
theorem dX4_init_13 : decode cX4_init 13 = .ok (.aload_n 0, 1) := by decide +kernel
theorem dX4_init_14 : decode cX4_init 14 = .ok (.sipush 1728, 3) := by decide +kernel
theorem dX4_init_17 : decode cX4_init 17 = .ok (.newarray .long, 2) := by decide +kernel
theorem dX4_init_19 : decode cX4_init 19 = .ok (.putfield 15, 3) := by decide +kernel
theorem dX4_init_22 : decode cX4_init 22 = .ok (.aload_n 0, 1) := by decide +kernel
theorem dX4_init_23 : decode cX4_init 23 = .ok (.iconst 0, 1) := by decide +kernel
theorem dX4_init_24 : decode cX4_init 24 = .ok (.putfield 19, 3) := by decide +kernel
theorem dX4_init_27 : decode cX4_init 27 = .ok (.aload_n 0, 1) := by decide +kernel
theorem dX4_init_28 : decode cX4_init 28 = .ok (.iconst 0, 1) := by decide +kernel
theorem dX4_init_29 : decode cX4_init 29 = .ok (.putfield 23, 3) := by decide +kernel
theorem dX4_init_32 : decode cX4_init 32 = .ok (.aload_n 0, 1) := by decide +kernel
theorem dX4_init_33 : decode cX4_init 33 = .ok (.aload_n 1, 1) := by decide +kernel
theorem dX4_init_34 : decode cX4_init 34 = .ok (.putfield 27, 3) := by decide +kernel
theorem dX4_init_37 : decode cX4_init 37 = .ok (.aload_n 0, 1) := by decide +kernel
theorem dX4_init_38 : decode cX4_init 38 = .ok (.aload_n 2, 1) := by decide +kernel
theorem dX4_init_39 : decode cX4_init 39 = .ok (.putfield 31, 3) := by decide +kernel
theorem dX4_init_42 : decode cX4_init 42 = .ok (.aload_n 0, 1) := by decide +kernel
theorem dX4_init_43 : decode cX4_init 43 = .ok (.new 35, 3) := by decide +kernel
theorem dX4_init_46 : decode cX4_init 46 = .ok (.dup, 1) := by decide +kernel
theorem dX4_init_47 : decode cX4_init 47 = .ok (.aload_n 1, 1) := by decide +kernel
theorem dX4_init_48 : decode cX4_init 48 = .ok (.invokespecial 37, 3) := by decide +kernel
theorem dX4_init_51 : decode cX4_init 51 = .ok (.putfield 40, 3) := by decide +kernel
theorem dX4_init_54 : decode cX4_init 54 = .ok (.aload_n 0, 1) := by decide +kernel
theorem dX4_init_55 : decode cX4_init 55 = .ok (.new 35, 3) := by decide +kernel
theorem dX4_init_58 : decode cX4_init 58 = .ok (.dup, 1) := by decide +kernel
theorem dX4_init_59 : decode cX4_init 59 = .ok (.aload_n 1, 1) := by decide +kernel
theorem dX4_init_60 : decode cX4_init 60 = .ok (.invokespecial 37, 3) := by decide +kernel
theorem dX4_init_63 : decode cX4_init 63 = .ok (.putfield 44, 3) := by decide +kernel
theorem dX4_init_66 : decode cX4_init 66 = .ok (.return_, 1) := by decide +kernel
theorem dX5_init_0 : decode cX5_init 0 = .ok (.aload_n 0, 1) := by decide +kernel
theorem dX5_init_1 : decode cX5_init 1 = .ok (.invokespecial 3, 3) := by decide +kernel
theorem dX5_init_4 : decode cX5_init 4 = .ok (.aload_n 0, 1) := by decide +kernel
theorem dX5_init_5 : decode cX5_init 5 = .ok (.bipush 25, 2) := by decide +kernel
theorem dX5_init_7 : decode cX5_init 7 = .ok (.newarray .long, 2) := by decide +kernel
theorem dX5_init_9 : decode cX5_init 9 = .ok (.putfield 11, 3) := by decide +kernel
theorem dX5_init_12 : decode cX5_init 12 = .ok (.aload_n 0, 1) := by decide +kernel
theorem dX5_init_13 : decode cX5_init 13 = .ok (.bipush 25, 2) := by decide +kernel
theorem dX5_init_15 : decode cX5_init 15 = .ok (.newarray .long, 2) := by decide +kernel
theorem dX5_init_17 : decode cX5_init 17 = .ok (.putfield 15, 3) := by decide +kernel
theorem dX5_init_20 : decode cX5_init 20 = .ok (.aload_n 0, 1) := by decide +kernel
theorem dX5_init_21 : decode cX5_init 21 = .ok (.iconst 5, 1) := by decide +kernel
theorem dX5_init_22 : decode cX5_init 22 = .ok (.newarray .int, 2) := by decide +kernel
theorem dX5_init_24 : decode cX5_init 24 = .ok (.putfield 18, 3) := by decide +kernel
theorem dX5_init_27 : decode cX5_init 27 = .ok (.aload_n 0, 1) := by decide +kernel
theorem dX5_init_28 : decode cX5_init 28 = .ok (.bipush 80, 2) := by decide +kernel
theorem dX5_init_30 : decode cX5_init 30 = .ok (.newarray .int, 2) := by decide +kernel
theorem dX5_init_32 : decode cX5_init 32 = .ok (.putfield 22, 3) := by decide +kernel
theorem dX5_init_35 : decode cX5_init 35 = .ok (.aload_n 0, 1) := by decide +kernel
theorem dX5_init_36 : decode cX5_init 36 = .ok (.iconst 0, 1) := by decide +kernel
theorem dX5_init_37 : decode cX5_init 37 = .ok (.putfield 25, 3) := by decide +kernel
theorem dX5_init_40 : decode cX5_init 40 = .ok (.aload_n 0, 1) := by decide +kernel
theorem dX5_init_41 : decode cX5_init 41 = .ok (.iconst 0, 1) := by decide +kernel
theorem dX5_init_42 : decode cX5_init 42 = .ok (.putfield 29, 3) := by decide +kernel
theorem dX5_init_45 : decode cX5_init 45 = .ok (.aload_n 0, 1) := by decide +kernel
theorem dX5_init_46 : decode cX5_init 46 = .ok (.iconst 0, 1) := by decide +kernel
theorem dX5_init_47 : decode cX5_init 47 = .ok (.putfield 32, 3) := by decide +kernel
theorem dX5_init_50 : decode cX5_init 50 = .ok (.aload_n 0, 1) := by decide +kernel
theorem dX5_init_51 : decode cX5_init 51 = .ok (.iconst 0, 1) := by decide +kernel
theorem dX5_init_52 : decode cX5_init 52 = .ok (.putfield 35, 3) := by decide +kernel
theorem dX5_init_55 : decode cX5_init 55 = .ok (.aload_n 0, 1) := by decide +kernel
theorem dX5_init_56 : decode cX5_init 56 = .ok (.iconst 0, 1) := by decide +kernel
theorem dX5_init_57 : decode cX5_init 57 = .ok (.putfield 39, 3) := by decide +kernel
theorem dX5_init_60 : decode cX5_init 60 = .ok (.aload_n 0, 1) := by decide +kernel
theorem dX5_init_61 : decode cX5_init 61 = .ok (.aload_n 2, 1) := by decide +kernel
theorem dX5_init_62 : decode cX5_init 62 = .ok (.putfield 42, 3) := by decide +kernel
theorem dX5_init_65 : decode cX5_init 65 = .ok (.aload_n 0, 1) := by decide +kernel
theorem dX5_init_66 : decode cX5_init 66 = .ok (.new 46, 3) := by decide +kernel
theorem dX5_init_69 : decode cX5_init 69 = .ok (.dup, 1) := by decide +kernel
theorem dX5_init_70 : decode cX5_init 70 = .ok (.aload_n 1, 1) := by decide +kernel
theorem dX5_init_71 : decode cX5_init 71 = .ok (.invokespecial 48, 3) := by decide +kernel
theorem dX5_init_74 : decode cX5_init 74 = .ok (.putfield 51, 3) := by decide +kernel
theorem dX5_init_77 : decode cX5_init 77 = .ok (.return_, 1) := by decide +kernel
theorem dX6_init_0 : decode cX6_init 0 = .ok (.aload_n 0, 1) := by decide +kernel
theorem dX6_init_1 : decode cX6_init 1 = .ok (.invokespecial 3, 3) := by decide +kernel
theorem dX6_init_4 : decode cX6_init 4 = .ok (.aload_n 0, 1) := by decide +kernel
theorem dX6_init_5 : decode cX6_init 5 = .ok (.new 9, 3) := by decide +kernel
theorem dX6_init_8 : decode cX6_init 8 = .ok (.dup, 1) := by decide +kernel
theorem dX6_init_9 : decode cX6_init 9 = .ok (.invokespecial 11, 3) := by decide +kernel
theorem dX6_init_12 : decode cX6_init 12 = .ok (.putfield 12, 3) := by decide +kernel
theorem dX6_init_15 : decode cX6_init 15 = .ok (.aload_n 0, 1) := by decide +kernel
theorem dX6_init_16 : decode cX6_init 16 = .ok (.iconst 0, 1) := by decide +kernel
theorem dX6_init_17 : decode cX6_init 17 = .ok (.putfield 18, 3) := by decide +kernel
theorem dX6_init_20 : decode cX6_init 20 = .ok (.aload_n 0, 1) := by decide +kernel
theorem dX6_init_21 : decode cX6_init 21 = .ok (.aload_n 1, 1) := by decide +kernel
theorem dX6_init_22 : decode cX6_init 22 = .ok (.putfield 22, 3) := by decide +kernel
theorem dX6_init_25 : decode cX6_init 25 = .ok (.return_, 1) := by decide +kernel
theorem dX7_setUpUsual_0 : decode cX7_setUpUsual 0 = .ok (.aload_n 0, 1) := by decide +kernel
theorem dX7_setUpUsual_1 : decode cX7_setUpUsual 1 = .ok (.invokevirtual 39, 3) := by decide +kernel
theorem dX7_setUpUsual_4 : decode cX7_setUpUsual 4 = .ok (.ldc 42, 2) := by decide +kernel
theorem dX7_setUpUsual_6 : decode cX7_setUpUsual 6 = .ok (.astore_n 1, 1) := by decide +kernel
theorem dX7_setUpUsual_7 : decode cX7_setUpUsual 7 = .ok (.iconst 0, 1) := by decide +kernel
theorem dX7_setUpUsual_8 : decode cX7_setUpUsual 8 = .ok (.istore_n 2, 1) := by decide +kernel
theorem dX7_setUpUsual_9 : decode cX7_setUpUsual 9 = .ok (.iload_n 2, 1) := by decide +kernel
theorem dX7_setUpUsual_10 : decode cX7_setUpUsual 10 = .ok (.aload_n 1, 1) := by decide +kernel
theorem dX7_setUpUsual_11 : decode cX7_setUpUsual 11 = .ok (.invokevirtual 44, 3) := by decide +kernel
theorem dX7_setUpUsual_14 : decode cX7_setUpUsual 14 = .ok (.if_icmp .ge 58, 3) := by decide +kernel
theorem dX7_setUpUsual_17 : decode cX7_setUpUsual 17 = .ok (.ldc 50, 2) := by decide +kernel
theorem dX7_setUpUsual_19 : decode cX7_setUpUsual 19 = .ok (.aload_n 1, 1) := by decide +kernel
theorem dX7_setUpUsual_20 : decode cX7_setUpUsual 20 = .ok (.iload_n 2, 1) := by decide +kernel
theorem dX7_setUpUsual_21 : decode cX7_setUpUsual 21 = .ok (.invokevirtual 52, 3) := by decide +kernel
theorem dX7_setUpUsual_24 : decode cX7_setUpUsual 24 = .ok (.invokevirtual 56, 3) := by decide +kernel
theorem dX7_setUpUsual_27 : decode cX7_setUpUsual 27 = .ok (.istore_n 3, 1) := by decide +kernel
theorem dX7_setUpUsual_28 : decode cX7_setUpUsual 28 = .ok (.aload_n 0, 1) := by decide +kernel
theorem dX7_setUpUsual_29 : decode cX7_setUpUsual 29 = .ok (.iload_n 2, 1) := by decide +kernel
theorem dX7_setUpUsual_30 : decode cX7_setUpUsual 30 = .ok (.iload_n 3, 1) := by decide +kernel
theorem dX7_setUpUsual_31 : decode cX7_setUpUsual 31 = .ok (.invokevirtual 60, 3) := by decide +kernel
theorem dX7_setUpUsual_34 : decode cX7_setUpUsual 34 = .ok (.aload_n 0, 1) := by decide +kernel
theorem dX7_setUpUsual_35 : decode cX7_setUpUsual 35 = .ok (.bipush 8, 2) := by decide +kernel
theorem dX7_setUpUsual_37 : decode cX7_setUpUsual 37 = .ok (.iload_n 2, 1) := by decide +kernel
theorem dX7_setUpUsual_38 : decode cX7_setUpUsual 38 = .ok (.iadd, 1) := by decide +kernel
theorem dX7_setUpUsual_39 : decode cX7_setUpUsual 39 = .ok (.bipush 6, 2) := by decide +kernel
theorem dX7_setUpUsual_41 : decode cX7_setUpUsual 41 = .ok (.invokevirtual 60, 3) := by decide +kernel
theorem dX7_setUpUsual_44 : decode cX7_setUpUsual 44 = .ok (.aload_n 0, 1) := by decide +kernel
theorem dX7_setUpUsual_45 : decode cX7_setUpUsual 45 = .ok (.bipush 48, 2) := by decide +kernel
theorem dX7_setUpUsual_47 : decode cX7_setUpUsual 47 = .ok (.iload_n 2, 1) := by decide +kernel
theorem dX7_setUpUsual_48 : decode cX7_setUpUsual 48 = .ok (.iadd, 1) := by decide +kernel
theorem dX7_setUpUsual_49 : decode cX7_setUpUsual 49 = .ok (.bipush 12, 2) := by decide +kernel
theorem dX7_setUpUsual_51 : decode cX7_setUpUsual 51 = .ok (.invokevirtual 60, 3) := by decide +kernel
theorem dX7_setUpUsual_54 : decode cX7_setUpUsual 54 = .ok (.aload_n 0, 1) := by decide +kernel
theorem dX7_setUpUsual_55 : decode cX7_setUpUsual 55 = .ok (.bipush 56, 2) := by decide +kernel
theorem dX7_setUpUsual_57 : decode cX7_setUpUsual 57 = .ok (.iload_n 2, 1) := by decide +kernel
theorem dX7_setUpUsual_58 : decode cX7_setUpUsual 58 = .ok (.iadd, 1) := by decide +kernel
theorem dX7_setUpUsual_59 : decode cX7_setUpUsual 59 = .ok (.iload_n 3, 1) := by decide +kernel
theorem dX7_setUpUsual_60 : decode cX7_setUpUsual 60 = .ok (.bipush 6, 2) := by decide +kernel
theorem dX7_setUpUsual_62 : decode cX7_setUpUsual 62 = .ok (.iadd, 1) := by decide +kernel
theorem dX7_setUpUsual_63 : decode cX7_setUpUsual 63 = .ok (.invokevirtual 60, 3) := by decide +kernel
theorem dX7_setUpUsual_66 : decode cX7_setUpUsual 66 = .ok (.iinc 2 1, 3) := by decide +kernel
theorem dX7_setUpUsual_69 : decode cX7_setUpUsual 69 = .ok (.goto (-60), 3) := by decide +kernel
theorem dX7_setUpUsual_72 : decode cX7_setUpUsual 72 = .ok (.aload_n 0, 1) := by decide +kernel
theorem dX7_setUpUsual_73 : decode cX7_setUpUsual 73 = .ok (.bipush 15, 2) := by decide +kernel
theorem dX7_setUpUsual_75 : decode cX7_setUpUsual 75 = .ok (.putfield 28, 3) := by decide +kernel
theorem dX7_setUpUsual_78 : decode cX7_setUpUsual 78 = .ok (.return_, 1) := by decide +kernel
theorem dX8_init_0 : decode cX8_init 0 = .ok (.aload_n 0, 1) := by decide +kernel
theorem dX8_init_1 : decode cX8_init 1 = .ok (.invokespecial 3, 3) := by decide +kernel
theorem dX8_init_4 : decode cX8_init 4 = .ok (.aload_n 0, 1) := by decide +kernel
theorem dX8_init_5 : decode cX8_init 5 = .ok (.iconst (-1), 1) := by decide +kernel
theorem dX8_init_6 : decode cX8_init 6 = .ok (.putfield 9, 3) := by decide +kernel
theorem dX8_init_9 : decode cX8_init 9 = .ok (.aload_n 0, 1) := by decide +kernel
theorem dX8_init_10 : decode cX8_init 10 = .ok (.lconst 0, 1) := by decide +kernel
theorem dX8_init_11 : decode cX8_init 11 = .ok (.putfield 15, 3) := by decide +kernel
theorem dX8_init_14 : decode cX8_init 14 = .ok (.aload_n 0, 1) := by decide +kernel
theorem dX8_init_15 : decode cX8_init 15 = .ok (.lconst 0, 1) := by decide +kernel
theorem dX8_init_16 : decode cX8_init 16 = .ok (.putfield 19, 3) := by decide +kernel
theorem dX8_init_19 : decode cX8_init 19 = .ok (.aload_n 0, 1) := by decide +kernel
theorem dX8_init_20 : decode cX8_init 20 = .ok (.iconst 0, 1) := by decide +kernel
theorem dX8_init_21 : decode cX8_init 21 = .ok (.putfield 22, 3) := by decide +kernel
theorem dX8_init_24 : decode cX8_init 24 = .ok (.aload_n 0, 1) := by decide +kernel
theorem dX8_init_25 : decode cX8_init 25 = .ok (.lconst 0, 1) := by decide +kernel
theorem dX8_init_26 : decode cX8_init 26 = .ok (.putfield 26, 3) := by decide +kernel
theorem dX8_init_29 : decode cX8_init 29 = .ok (.aload_n 0, 1) := by decide +kernel
theorem dX8_init_30 : decode cX8_init 30 = .ok (.aload_n 1, 1) := by decide +kernel
theorem dX8_init_31 : decode cX8_init 31 = .ok (.putfield 29, 3) := by decide +kernel
theorem dX8_init_34 : decode cX8_init 34 = .ok (.return_, 1) := by decide +kernel
theorem dX9_init_0 : decode cX9_init 0 = .ok (.aload_n 0, 1) := by decide +kernel
theorem dX9_init_1 : decode cX9_init 1 = .ok (.invokespecial 3, 3) := by decide +kernel
theorem dX9_init_4 : decode cX9_init 4 = .ok (.aload_n 0, 1) := by decide +kernel
theorem dX9_init_5 : decode cX9_init 5 = .ok (.sipush 1728, 3) := by decide +kernel
theorem dX9_init_8 : decode cX9_init 8 = .ok (.newarray .int, 2) := by decide +kernel
theorem dX9_init_10 : decode cX9_init 10 = .ok (.putfield 9, 3) := by decide +kernel
theorem dX9_init_13 : decode cX9_init 13 = .ok (.aload_n 0, 1) := by decide +kernel
theorem dX9_init_14 : decode cX9_init 14 = .ok (.sipush 1728, 3) := by decide +kernel
theorem dX9_init_17 : decode cX9_init 17 = .ok (.newarray .int, 2) := by decide +kernel
theorem dX9_init_19 : decode cX9_init 19 = .ok (.putfield 15, 3) := by decide +kernel
theorem dX9_init_22 : decode cX9_init 22 = .ok (.aload_n 0, 1) := by decide +kernel
theorem dX9_init_23 : decode cX9_init 23 = .ok (.sipush 1728, 3) := by decide +kernel
theorem dX9_init_26 : decode cX9_init 26 = .ok (.newarray .int, 2) := by decide +kernel
theorem dX9_init_28 : decode cX9_init 28 = .ok (.putfield 18, 3) := by decide +kernel
theorem dX9_init_31 : decode cX9_init 31 = .ok (.aload_n 0, 1) := by decide +kernel
theorem dX9_init_32 : decode cX9_init 32 = .ok (.iconst (-1), 1) := by decide +kernel
theorem dX9_init_33 : decode cX9_init 33 = .ok (.putfield 21, 3) := by decide +kernel
theorem dX9_init_36 : decode cX9_init 36 = .ok (.aload_n 0, 1) := by decide +kernel
theorem dX9_init_37 : decode cX9_init 37 = .ok (.iconst 0, 1) := by decide +kernel
theorem dX9_init_38 : decode cX9_init 38 = .ok (.putfield 25, 3) := by decide +kernel
theorem dX9_init_41 : decode cX9_init 41 = .ok (.aload_n 0, 1) := by decide +kernel
theorem dX9_init_42 : decode cX9_init 42 = .ok (.iconst (-1), 1) := by decide +kernel
theorem dX9_init_43 : decode cX9_init 43 = .ok (.putfield 28, 3) := by decide +kernel
theorem dX9_init_46 : decode cX9_init 46 = .ok (.aload_n 0, 1) := by decide +kernel
theorem dX9_init_47 : decode cX9_init 47 = .ok (.aload_n 2, 1) := by decide +kernel
theorem dX9_init_48 : decode cX9_init 48 = .ok (.putfield 31, 3) := by decide +kernel
theorem dX9_init_51 : decode cX9_init 51 = .ok (.aload_n 0, 1) := by decide +kernel
theorem dX9_init_52 : decode cX9_init 52 = .ok (.new 35, 3) := by decide +kernel
theorem dX9_init_55 : decode cX9_init 55 = .ok (.dup, 1) := by decide +kernel
theorem dX9_init_56 : decode cX9_init 56 = .ok (.aload_n 1, 1) := by decide +kernel
theorem dX9_init_57 : decode cX9_init 57 = .ok (.invokespecial 37, 3) := by decide +kernel
theorem dX9_init_60 : decode cX9_init 60 = .ok (.putfield 40, 3) := by decide +kernel
theorem dX9_init_63 : decode cX9_init 63 = .ok (.aload_n 0, 1) := by decide +kernel
theorem dX9_init_64 : decode cX9_init 64 = .ok (.new 35, 3) := by decide +kernel
theorem dX9_init_67 : decode cX9_init 67 = .ok (.dup, 1) := by decide +kernel
theorem dX9_init_68 : decode cX9_init 68 = .ok (.aload_n 1, 1) := by decide +kernel
theorem dX9_init_69 : decode cX9_init 69 = .ok (.invokespecial 37, 3) := by decide +kernel
theorem dX9_init_72 : decode cX9_init 72 = .ok (.putfield 44, 3) := by decide +kernel
theorem dX9_init_75 : decode cX9_init 75 = .ok (.aload_n 0, 1) := by decide +kernel
theorem dX9_init_76 : decode cX9_init 76 = .ok (.new 35, 3) := by decide +kernel
theorem dX9_init_79 : decode cX9_init 79 = .ok (.dup, 1) := by decide +kernel
theorem dX9_init_80 : decode cX9_init 80 = .ok (.aload_n 1, 1) := by decide +kernel
theorem dX9_init_81 : decode cX9_init 81 = .ok (.invokespecial 37, 3) := by decide +kernel
theorem dX9_init_84 : decode cX9_init 84 = .ok (.putfield 47, 3) := by decide +kernel
theorem dX9_init_87 : decode cX9_init 87 = .ok (.return_, 1) := by decide +kernel
theorem dX11_init_0 : decode cX11_init 0 = .ok (.aload_n 0, 1) := by decide +kernel
theorem dX11_init_1 : decode cX11_init 1 = .ok (.invokespecial 3, 3) := by decide +kernel
theorem dX11_init_4 : decode cX11_init 4 = .ok (.aload_n 0, 1) := by decide +kernel
theorem dX11_init_5 : decode cX11_init 5 = .ok (.new 9, 3) := by decide +kernel
theorem dX11_init_8 : decode cX11_init 8 = .ok (.dup, 1) := by decide +kernel
theorem dX11_init_9 : decode cX11_init 9 = .ok (.invokespecial 11, 3) := by decide +kernel
theorem dX11_init_12 : decode cX11_init 12 = .ok (.putfield 12, 3) := by decide +kernel
theorem dX11_init_15 : decode cX11_init 15 = .ok (.aload_n 0, 1) := by decide +kernel
theorem dX11_init_16 : decode cX11_init 16 = .ok (.new 16, 3) := by decide +kernel
theorem dX11_init_19 : decode cX11_init 19 = .ok (.dup, 1) := by decide +kernel
theorem dX11_init_20 : decode cX11_init 20 = .ok (.aload_n 0, 1) := by decide +kernel
theorem dX11_init_21 : decode cX11_init 21 = .ok (.getfield 12, 3) := by decide +kernel
theorem dX11_init_24 : decode cX11_init 24 = .ok (.invokespecial 18, 3) := by decide +kernel
theorem dX11_init_27 : decode cX11_init 27 = .ok (.putfield 21, 3) := by decide +kernel
theorem dX11_init_30 : decode cX11_init 30 = .ok (.aload_n 0, 1) := by decide +kernel
theorem dX11_init_31 : decode cX11_init 31 = .ok (.new 25, 3) := by decide +kernel
theorem dX11_init_34 : decode cX11_init 34 = .ok (.dup, 1) := by decide +kernel
theorem dX11_init_35 : decode cX11_init 35 = .ok (.aload_n 0, 1) := by decide +kernel
theorem dX11_init_36 : decode cX11_init 36 = .ok (.getfield 12, 3) := by decide +kernel
theorem dX11_init_39 : decode cX11_init 39 = .ok (.invokespecial 27, 3) := by decide +kernel
theorem dX11_init_42 : decode cX11_init 42 = .ok (.putfield 28, 3) := by decide +kernel
theorem dX11_init_45 : decode cX11_init 45 = .ok (.aload_n 0, 1) := by decide +kernel
theorem dX11_init_46 : decode cX11_init 46 = .ok (.new 25, 3) := by decide +kernel
theorem dX11_init_49 : decode cX11_init 49 = .ok (.dup, 1) := by decide +kernel
theorem dX11_init_50 : decode cX11_init 50 = .ok (.aload_n 0, 1) := by decide +kernel
theorem dX11_init_51 : decode cX11_init 51 = .ok (.getfield 12, 3) := by decide +kernel
theorem dX11_init_54 : decode cX11_init 54 = .ok (.invokespecial 27, 3) := by decide +kernel
theorem dX11_init_57 : decode cX11_init 57 = .ok (.putfield 32, 3) := by decide +kernel
theorem dX11_init_60 : decode cX11_init 60 = .ok (.aload_n 0, 1) := by decide +kernel
theorem dX11_init_61 : decode cX11_init 61 = .ok (.new 35, 3) := by decide +kernel
theorem dX11_init_64 : decode cX11_init 64 = .ok (.dup, 1) := by decide +kernel
theorem dX11_init_65 : decode cX11_init 65 = .ok (.bipush 80, 2) := by decide +kernel
theorem dX11_init_67 : decode cX11_init 67 = .ok (.invokespecial 37, 3) := by decide +kernel
theorem dX11_init_70 : decode cX11_init 70 = .ok (.putfield 40, 3) := by decide +kernel
theorem dX11_init_73 : decode cX11_init 73 = .ok (.aload_n 0, 1) := by decide +kernel
theorem dX11_init_74 : decode cX11_init 74 = .ok (.new 44, 3) := by decide +kernel
theorem dX11_init_77 : decode cX11_init 77 = .ok (.dup, 1) := by decide +kernel
theorem dX11_init_78 : decode cX11_init 78 = .ok (.aload_n 0, 1) := by decide +kernel
theorem dX11_init_79 : decode cX11_init 79 = .ok (.getfield 12, 3) := by decide +kernel
theorem dX11_init_82 : decode cX11_init 82 = .ok (.aload_n 0, 1) := by decide +kernel
theorem dX11_init_83 : decode cX11_init 83 = .ok (.getfield 21, 3) := by decide +kernel
theorem dX11_init_86 : decode cX11_init 86 = .ok (.invokespecial 46, 3) := by decide +kernel
theorem dX11_init_89 : decode cX11_init 89 = .ok (.putfield 49, 3) := by decide +kernel
theorem dX11_init_92 : decode cX11_init 92 = .ok (.aload_n 0, 1) := by decide +kernel
theorem dX11_init_93 : decode cX11_init 93 = .ok (.new 53, 3) := by decide +kernel
theorem dX11_init_96 : decode cX11_init 96 = .ok (.dup, 1) := by decide +kernel
theorem dX11_init_97 : decode cX11_init 97 = .ok (.aload_n 0, 1) := by decide +kernel
theorem dX11_init_98 : decode cX11_init 98 = .ok (.getfield 12, 3) := by decide +kernel
theorem dX11_init_101 : decode cX11_init 101 = .ok (.aload_n 0, 1) := by decide +kernel
theorem dX11_init_102 : decode cX11_init 102 = .ok (.getfield 49, 3) := by decide +kernel
theorem dX11_init_105 : decode cX11_init 105 = .ok (.invokespecial 55, 3) := by decide +kernel
theorem dX11_init_108 : decode cX11_init 108 = .ok (.putfield 58, 3) := by decide +kernel
theorem dX11_init_111 : decode cX11_init 111 = .ok (.aload_n 0, 1) := by decide +kernel
theorem dX11_init_112 : decode cX11_init 112 = .ok (.new 62, 3) := by decide +kernel
theorem dX11_init_115 : decode cX11_init 115 = .ok (.dup, 1) := by decide +kernel
theorem dX11_init_116 : decode cX11_init 116 = .ok (.aload_n 0, 1) := by decide +kernel
theorem dX11_init_117 : decode cX11_init 117 = .ok (.getfield 12, 3) := by decide +kernel
theorem dX11_init_120 : decode cX11_init 120 = .ok (.invokespecial 64, 3) := by decide +kernel
theorem dX11_init_123 : decode cX11_init 123 = .ok (.putfield 65, 3) := by decide +kernel
theorem dX11_init_126 : decode cX11_init 126 = .ok (.aload_n 0, 1) := by decide +kernel
theorem dX11_init_127 : decode cX11_init 127 = .ok (.new 69, 3) := by decide +kernel
theorem dX11_init_130 : decode cX11_init 130 = .ok (.dup, 1) := by decide +kernel
theorem dX11_init_131 : decode cX11_init 131 = .ok (.invokespecial 71, 3) := by decide +kernel
theorem dX11_init_134 : decode cX11_init 134 = .ok (.putfield 72, 3) := by decide +kernel
theorem dX11_init_137 : decode cX11_init 137 = .ok (.aload_n 0, 1) := by decide +kernel
theorem dX11_init_138 : decode cX11_init 138 = .ok (.new 69, 3) := by decide +kernel
theorem dX11_init_141 : decode cX11_init 141 = .ok (.dup, 1) := by decide +kernel
theorem dX11_init_142 : decode cX11_init 142 = .ok (.invokespecial 71, 3) := by decide +kernel
theorem dX11_init_145 : decode cX11_init 145 = .ok (.putfield 76, 3) := by decide +kernel
theorem dX11_init_148 : decode cX11_init 148 = .ok (.aload_n 0, 1) := by decide +kernel
theorem dX11_init_149 : decode cX11_init 149 = .ok (.new 79, 3) := by decide +kernel
theorem dX11_init_152 : decode cX11_init 152 = .ok (.dup, 1) := by decide +kernel
theorem dX11_init_153 : decode cX11_init 153 = .ok (.aload_n 0, 1) := by decide +kernel
theorem dX11_init_154 : decode cX11_init 154 = .ok (.getfield 49, 3) := by decide +kernel
theorem dX11_init_157 : decode cX11_init 157 = .ok (.invokespecial 81, 3) := by decide +kernel
theorem dX11_init_160 : decode cX11_init 160 = .ok (.putfield 84, 3) := by decide +kernel
theorem dX11_init_163 : decode cX11_init 163 = .ok (.aload_n 0, 1) := by decide +kernel
theorem dX11_init_164 : decode cX11_init 164 = .ok (.new 88, 3) := by decide +kernel
theorem dX11_init_167 : decode cX11_init 167 = .ok (.dup, 1) := by decide +kernel
theorem dX11_init_168 : decode cX11_init 168 = .ok (.aload_n 0, 1) := by decide +kernel
theorem dX11_init_169 : decode cX11_init 169 = .ok (.getfield 12, 3) := by decide +kernel
theorem dX11_init_172 : decode cX11_init 172 = .ok (.aload_n 0, 1) := by decide +kernel
theorem dX11_init_173 : decode cX11_init 173 = .ok (.getfield 21, 3) := by decide +kernel
theorem dX11_init_176 : decode cX11_init 176 = .ok (.invokespecial 90, 3) := by decide +kernel
theorem dX11_init_179 : decode cX11_init 179 = .ok (.putfield 91, 3) := by decide +kernel
theorem dX11_init_182 : decode cX11_init 182 = .ok (.aload_n 0, 1) := by decide +kernel
theorem dX11_init_183 : decode cX11_init 183 = .ok (.new 95, 3) := by decide +kernel
theorem dX11_init_186 : decode cX11_init 186 = .ok (.dup, 1) := by decide +kernel
theorem dX11_init_187 : decode cX11_init 187 = .ok (.aload_n 0, 1) := by decide +kernel
theorem dX11_init_188 : decode cX11_init 188 = .ok (.getfield 12, 3) := by decide +kernel
theorem dX11_init_191 : decode cX11_init 191 = .ok (.invokespecial 97, 3) := by decide +kernel
theorem dX11_init_194 : decode cX11_init 194 = .ok (.putfield 98, 3) := by decide +kernel
theorem dX11_init_197 : decode cX11_init 197 = .ok (.aload_n 0, 1) := by decide +kernel
theorem dX11_init_198 : decode cX11_init 198 = .ok (.new 102, 3) := by decide +kernel
theorem dX11_init_201 : decode cX11_init 201 = .ok (.dup, 1) := by decide +kernel
theorem dX11_init_202 : decode cX11_init 202 = .ok (.invokespecial 104, 3) := by decide +kernel
theorem dX11_init_205 : decode cX11_init 205 = .ok (.putfield 105, 3) := by decide +kernel
theorem dX11_init_208 : decode cX11_init 208 = .ok (.aload_n 0, 1) := by decide +kernel
theorem dX11_init_209 : decode cX11_init 209 = .ok (.new 102, 3) := by decide +kernel
theorem dX11_init_212 : decode cX11_init 212 = .ok (.dup, 1) := by decide +kernel
theorem dX11_init_213 : decode cX11_init 213 = .ok (.invokespecial 104, 3) := by decide +kernel
theorem dX11_init_216 : decode cX11_init 216 = .ok (.putfield 109, 3) := by decide +kernel
theorem dX11_init_219 : decode cX11_init 219 = .ok (.aload_n 0, 1) := by decide +kernel
theorem dX11_init_220 : decode cX11_init 220 = .ok (.bipush 64, 2) := by decide +kernel
theorem dX11_init_222 : decode cX11_init 222 = .ok (.newarray .int, 2) := by decide +kernel
theorem dX11_init_224 : decode cX11_init 224 = .ok (.putfield 112, 3) := by decide +kernel
theorem dX11_init_227 : decode cX11_init 227 = .ok (.aload_n 0, 1) := by decide +kernel
theorem dX11_init_228 : decode cX11_init 228 = .ok (.iconst 0, 1) := by decide +kernel
theorem dX11_init_229 : decode cX11_init 229 = .ok (.putfield 116, 3) := by decide +kernel
theorem dX11_init_232 : decode cX11_init 232 = .ok (.aload_n 0, 1) := by decide +kernel
theorem dX11_init_233 : decode cX11_init 233 = .ok (.iconst 0, 1) := by decide +kernel
theorem dX11_init_234 : decode cX11_init 234 = .ok (.putfield 120, 3) := by decide +kernel
theorem dX11_init_237 : decode cX11_init 237 = .ok (.aload_n 0, 1) := by decide +kernel
theorem dX11_init_238 : decode cX11_init 238 = .ok (.getfield 12, 3) := by decide +kernel
theorem dX11_init_241 : decode cX11_init 241 = .ok (.bipush 8, 2) := by decide +kernel
theorem dX11_init_243 : decode cX11_init 243 = .ok (.bipush 8, 2) := by decide +kernel
theorem dX11_init_245 : decode cX11_init 245 = .ok (.invokevirtual 123, 3) := by decide +kernel
theorem dX11_init_248 : decode cX11_init 248 = .ok (.aload_n 0, 1) := by decide +kernel
theorem dX11_init_249 : decode cX11_init 249 = .ok (.getfield 28, 3) := by decide +kernel
theorem dX11_init_252 : decode cX11_init 252 = .ok (.invokevirtual 127, 3) := by decide +kernel
theorem dX11_init_255 : decode cX11_init 255 = .ok (.aload_n 0, 1) := by decide +kernel
theorem dX11_init_256 : decode cX11_init 256 = .ok (.getfield 40, 3) := by decide +kernel
theorem dX11_init_259 : decode cX11_init 259 = .ok (.aload_n 0, 1) := by decide +kernel
theorem dX11_init_260 : decode cX11_init 260 = .ok (.getfield 28, 3) := by decide +kernel
theorem dX11_init_263 : decode cX11_init 263 = .ok (.invokevirtual 130, 3) := by decide +kernel
theorem dX11_init_266 : decode cX11_init 266 = .ok (.aload_n 0, 1) := by decide +kernel
theorem dX11_init_267 : decode cX11_init 267 = .ok (.getfield 112, 3) := by decide +kernel
theorem dX11_init_270 : decode cX11_init 270 = .ok (.bipush 15, 2) := by decide +kernel
theorem dX11_init_272 : decode cX11_init 272 = .ok (.invokestatic 134, 3) := by decide +kernel
theorem dX11_init_275 : decode cX11_init 275 = .ok (.return_, 1) := by decide +kernel
theorem dX11_meanLength_0 : decode cX11_meanLength 0 = .ok (.aload_n 0, 1) := by decide +kernel
theorem dX11_meanLength_1 : decode cX11_meanLength 1 = .ok (.iload_n 1, 1) := by decide +kernel
theorem dX11_meanLength_2 : decode cX11_meanLength 2 = .ok (.invokevirtual 337, 3) := by decide +kernel
theorem dX11_meanLength_5 : decode cX11_meanLength 5 = .ok (.astore_n 2, 1) := by decide +kernel
theorem dX11_meanLength_6 : decode cX11_meanLength 6 = .ok (.aload_n 2, 1) := by decide +kernel
theorem dX11_meanLength_7 : decode cX11_meanLength 7 = .ok (.invokevirtual 343, 3) := by decide +kernel
theorem dX11_meanLength_10 : decode cX11_meanLength 10 = .ok (.i2d, 1) := by decide +kernel
theorem dX11_meanLength_11 : decode cX11_meanLength 11 = .ok (.dstore_n 3, 1) := by decide +kernel
theorem dX11_meanLength_12 : decode cX11_meanLength 12 = .ok (.dload_n 3, 1) := by decide +kernel
theorem dX11_meanLength_13 : decode cX11_meanLength 13 = .ok (.dconst 0, 1) := by decide +kernel
theorem dX11_meanLength_14 : decode cX11_meanLength 14 = .ok (.dcmp .l, 1) := by decide +kernel
theorem dX11_meanLength_15 : decode cX11_meanLength 15 = .ok (.ifCond .le 13, 3) := by decide +kernel
theorem dX11_meanLength_18 : decode cX11_meanLength 18 = .ok (.aload_n 2, 1) := by decide +kernel
theorem dX11_meanLength_19 : decode cX11_meanLength 19 = .ok (.invokevirtual 482, 3) := by decide +kernel
theorem dX11_meanLength_22 : decode cX11_meanLength 22 = .ok (.i2d, 1) := by decide +kernel
theorem dX11_meanLength_23 : decode cX11_meanLength 23 = .ok (.dload_n 3, 1) := by decide +kernel
theorem dX11_meanLength_24 : decode cX11_meanLength 24 = .ok (.ddiv, 1) := by decide +kernel
theorem dX11_meanLength_25 : decode cX11_meanLength 25 = .ok (.goto 4, 3) := by decide +kernel
theorem dX11_meanLength_28 : decode cX11_meanLength 28 = .ok (.dconst 0, 1) := by decide +kernel
theorem dX11_meanLength_29 : decode cX11_meanLength 29 = .ok (.dreturn, 1) := by decide +kernel
theorem dX11_meanStrength_0 : decode cX11_meanStrength 0 = .ok (.aload_n 0, 1) := by decide +kernel
theorem dX11_meanStrength_1 : decode cX11_meanStrength 1 = .ok (.iload_n 1, 1) := by decide +kernel
theorem dX11_meanStrength_2 : decode cX11_meanStrength 2 = .ok (.invokevirtual 337, 3) := by decide +kernel
theorem dX11_meanStrength_5 : decode cX11_meanStrength 5 = .ok (.astore_n 3, 1) := by decide +kernel
theorem dX11_meanStrength_6 : decode cX11_meanStrength 6 = .ok (.aload_n 3, 1) := by decide +kernel
theorem dX11_meanStrength_7 : decode cX11_meanStrength 7 = .ok (.aload_n 0, 1) := by decide +kernel
theorem dX11_meanStrength_8 : decode cX11_meanStrength 8 = .ok (.getfield 28, 3) := by decide +kernel
theorem dX11_meanStrength_11 : decode cX11_meanStrength 11 = .ok (.iconst (-1), 1) := by decide +kernel
theorem dX11_meanStrength_12 : decode cX11_meanStrength 12 = .ok (.invokevirtual 362, 3) := by decide +kernel
theorem dX11_meanStrength_15 : decode cX11_meanStrength 15 = .ok (.istore 4, 2) := by decide +kernel
theorem dX11_meanStrength_17 : decode cX11_meanStrength 17 = .ok (.iload 4, 2) := by decide +kernel
theorem dX11_meanStrength_19 : decode cX11_meanStrength 19 = .ok (.ifCond .ne 14, 3) := by decide +kernel
theorem dX11_meanStrength_22 : decode cX11_meanStrength 22 = .ok (.new 372, 3) := by decide +kernel
theorem dX11_meanStrength_25 : decode cX11_meanStrength 25 = .ok (.dup, 1) := by decide +kernel
theorem dX11_meanStrength_26 : decode cX11_meanStrength 26 = .ok (.ldc_w 374, 3) := by decide +kernel
theorem dX11_meanStrength_29 : decode cX11_meanStrength 29 = .ok (.invokespecial 376, 3) := by decide +kernel
theorem dX11_meanStrength_32 : decode cX11_meanStrength 32 = .ok (.athrow, 1) := by decide +kernel
theorem dX11_meanStrength_33 : decode cX11_meanStrength 33 = .ok (.aload_n 3, 1) := by decide +kernel
theorem dX11_meanStrength_34 : decode cX11_meanStrength 34 = .ok (.aload_n 0, 1) := by decide +kernel
theorem dX11_meanStrength_35 : decode cX11_meanStrength 35 = .ok (.getfield 28, 3) := by decide +kernel
theorem dX11_meanStrength_38 : decode cX11_meanStrength 38 = .ok (.invokevirtual 377, 3) := by decide +kernel
theorem dX11_meanStrength_41 : decode cX11_meanStrength 41 = .ok (.istore 5, 2) := by decide +kernel
theorem dX11_meanStrength_43 : decode cX11_meanStrength 43 = .ok (.iload 5, 2) := by decide +kernel
theorem dX11_meanStrength_45 : decode cX11_meanStrength 45 = .ok (.iload 4, 2) := by decide +kernel
theorem dX11_meanStrength_47 : decode cX11_meanStrength 47 = .ok (.invokestatic 380, 3) := by decide +kernel
theorem dX11_meanStrength_50 : decode cX11_meanStrength 50 = .ok (.istore 6, 2) := by decide +kernel
theorem dX11_meanStrength_52 : decode cX11_meanStrength 52 = .ok (.iload 6, 2) := by decide +kernel
theorem dX11_meanStrength_54 : decode cX11_meanStrength 54 = .ok (.ifCond .ne 5, 3) := by decide +kernel
theorem dX11_meanStrength_57 : decode cX11_meanStrength 57 = .ok (.iconst 0, 1) := by decide +kernel
theorem dX11_meanStrength_58 : decode cX11_meanStrength 58 = .ok (.ireturn, 1) := by decide +kernel
theorem dX11_meanStrength_59 : decode cX11_meanStrength 59 = .ok (.iload_n 2, 1) := by decide +kernel
theorem dX11_meanStrength_60 : decode cX11_meanStrength 60 = .ok (.ifCond .eq 8, 3) := by decide +kernel
theorem dX11_meanStrength_63 : decode cX11_meanStrength 63 = .ok (.iload 4, 2) := by decide +kernel
theorem dX11_meanStrength_65 : decode cX11_meanStrength 65 = .ok (.goto 5, 3) := by decide +kernel
theorem dX11_meanStrength_68 : decode cX11_meanStrength 68 = .ok (.iload 5, 2) := by decide +kernel
theorem dX11_meanStrength_70 : decode cX11_meanStrength 70 = .ok (.iload 6, 2) := by decide +kernel
theorem dX11_meanStrength_72 : decode cX11_meanStrength 72 = .ok (.idiv, 1) := by decide +kernel
theorem dX11_meanStrength_73 : decode cX11_meanStrength 73 = .ok (.ireturn, 1) := by decide +kernel
theorem dX11_merge_0 : decode cX11_merge 0 = .ok (.iconst 0, 1) := by decide +kernel
theorem dX11_merge_1 : decode cX11_merge 1 = .ok (.istore_n 1, 1) := by decide +kernel
theorem dX11_merge_2 : decode cX11_merge 2 = .ok (.iconst 0, 1) := by decide +kernel
theorem dX11_merge_3 : decode cX11_merge 3 = .ok (.istore_n 2, 1) := by decide +kernel
theorem dX11_merge_4 : decode cX11_merge 4 = .ok (.iload_n 2, 1) := by decide +kernel
theorem dX11_merge_5 : decode cX11_merge 5 = .ok (.aload_n 0, 1) := by decide +kernel
theorem dX11_merge_6 : decode cX11_merge 6 = .ok (.getfield 76, 3) := by decide +kernel
theorem dX11_merge_9 : decode cX11_merge 9 = .ok (.invokevirtual 343, 3) := by decide +kernel
theorem dX11_merge_12 : decode cX11_merge 12 = .ok (.if_icmp .ge 66, 3) := by decide +kernel
theorem dX11_merge_15 : decode cX11_merge 15 = .ok (.aload_n 0, 1) := by decide +kernel
theorem dX11_merge_16 : decode cX11_merge 16 = .ok (.getfield 76, 3) := by decide +kernel
theorem dX11_merge_19 : decode cX11_merge 19 = .ok (.iload_n 2, 1) := by decide +kernel
theorem dX11_merge_20 : decode cX11_merge 20 = .ok (.invokevirtual 408, 3) := by decide +kernel
theorem dX11_merge_23 : decode cX11_merge 23 = .ok (.astore_n 3, 1) := by decide +kernel
theorem dX11_merge_24 : decode cX11_merge 24 = .ok (.aload_n 3, 1) := by decide +kernel
theorem dX11_merge_25 : decode cX11_merge 25 = .ok (.ifnull 47, 3) := by decide +kernel
theorem dX11_merge_28 : decode cX11_merge 28 = .ok (.aload_n 0, 1) := by decide +kernel
theorem dX11_merge_29 : decode cX11_merge 29 = .ok (.getfield 72, 3) := by decide +kernel
theorem dX11_merge_32 : decode cX11_merge 32 = .ok (.invokevirtual 343, 3) := by decide +kernel
theorem dX11_merge_35 : decode cX11_merge 35 = .ok (.bipush 40, 2) := by decide +kernel
theorem dX11_merge_37 : decode cX11_merge 37 = .ok (.if_icmp .ge 35, 3) := by decide +kernel
theorem dX11_merge_40 : decode cX11_merge 40 = .ok (.aload_n 0, 1) := by decide +kernel
theorem dX11_merge_41 : decode cX11_merge 41 = .ok (.getfield 72, 3) := by decide +kernel
theorem dX11_merge_44 : decode cX11_merge 44 = .ok (.aload_n 3, 1) := by decide +kernel
theorem dX11_merge_45 : decode cX11_merge 45 = .ok (.invokevirtual 412, 3) := by decide +kernel
theorem dX11_merge_48 : decode cX11_merge 48 = .ok (.ifCond .ne 24, 3) := by decide +kernel
theorem dX11_merge_51 : decode cX11_merge 51 = .ok (.aload_n 3, 1) := by decide +kernel
theorem dX11_merge_52 : decode cX11_merge 52 = .ok (.iconst 0, 1) := by decide +kernel
theorem dX11_merge_53 : decode cX11_merge 53 = .ok (.putfield 416, 3) := by decide +kernel
theorem dX11_merge_56 : decode cX11_merge 56 = .ok (.aload_n 3, 1) := by decide +kernel
theorem dX11_merge_57 : decode cX11_merge 57 = .ok (.iconst 0, 1) := by decide +kernel
theorem dX11_merge_58 : decode cX11_merge 58 = .ok (.putfield 419, 3) := by decide +kernel
theorem dX11_merge_61 : decode cX11_merge 61 = .ok (.aload_n 0, 1) := by decide +kernel
theorem dX11_merge_62 : decode cX11_merge 62 = .ok (.getfield 72, 3) := by decide +kernel
theorem dX11_merge_65 : decode cX11_merge 65 = .ok (.aload_n 3, 1) := by decide +kernel
theorem dX11_merge_66 : decode cX11_merge 66 = .ok (.invokevirtual 351, 3) := by decide +kernel
theorem dX11_merge_69 : decode cX11_merge 69 = .ok (.iinc 1 1, 3) := by decide +kernel
theorem dX11_merge_72 : decode cX11_merge 72 = .ok (.iinc 2 1, 3) := by decide +kernel
theorem dX11_merge_75 : decode cX11_merge 75 = .ok (.goto (-71), 3) := by decide +kernel
theorem dX11_merge_78 : decode cX11_merge 78 = .ok (.aload_n 0, 1) := by decide +kernel
theorem dX11_merge_79 : decode cX11_merge 79 = .ok (.getfield 76, 3) := by decide +kernel
theorem dX11_merge_82 : decode cX11_merge 82 = .ok (.invokevirtual 150, 3) := by decide +kernel
theorem dX11_merge_85 : decode cX11_merge 85 = .ok (.iload_n 1, 1) := by decide +kernel
theorem dX11_merge_86 : decode cX11_merge 86 = .ok (.ireturn, 1) := by decide +kernel
theorem dX2_forget_0 : decode cX2_forget 0 = .ok (.aload_n 0, 1) := by decide +kernel
theorem dX2_forget_1 : decode cX2_forget 1 = .ok (.getfield 15, 3) := by decide +kernel
theorem dX2_forget_4 : decode cX2_forget 4 = .ok (.iconst 0, 1) := by decide +kernel
theorem dX2_forget_5 : decode cX2_forget 5 = .ok (.invokestatic 39, 3) := by decide +kernel
theorem dX2_forget_8 : decode cX2_forget 8 = .ok (.aload_n 0, 1) := by decide +kernel
theorem dX2_forget_9 : decode cX2_forget 9 = .ok (.getfield 19, 3) := by decide +kernel
theorem dX2_forget_12 : decode cX2_forget 12 = .ok (.iconst (-1), 1) := by decide +kernel
theorem dX2_forget_13 : decode cX2_forget 13 = .ok (.invokestatic 39, 3) := by decide +kernel
theorem dX2_forget_16 : decode cX2_forget 16 = .ok (.iconst 0, 1) := by decide +kernel
theorem dX2_forget_17 : decode cX2_forget 17 = .ok (.istore_n 1, 1) := by decide +kernel
theorem dX2_forget_18 : decode cX2_forget 18 = .ok (.iload_n 1, 1) := by decide +kernel
theorem dX2_forget_19 : decode cX2_forget 19 = .ok (.aload_n 0, 1) := by decide +kernel
theorem dX2_forget_20 : decode cX2_forget 20 = .ok (.getfield 11, 3) := by decide +kernel
theorem dX2_forget_23 : decode cX2_forget 23 = .ok (.arraylength, 1) := by decide +kernel
theorem dX2_forget_24 : decode cX2_forget 24 = .ok (.if_icmp .ge 16, 3) := by decide +kernel
theorem dX2_forget_27 : decode cX2_forget 27 = .ok (.aload_n 0, 1) := by decide +kernel
theorem dX2_forget_28 : decode cX2_forget 28 = .ok (.getfield 11, 3) := by decide +kernel
theorem dX2_forget_31 : decode cX2_forget 31 = .ok (.iload_n 1, 1) := by decide +kernel
theorem dX2_forget_32 : decode cX2_forget 32 = .ok (.iconst 0, 1) := by decide +kernel
theorem dX2_forget_33 : decode cX2_forget 33 = .ok (.bastore, 1) := by decide +kernel
theorem dX2_forget_34 : decode cX2_forget 34 = .ok (.iinc 1 1, 3) := by decide +kernel
theorem dX2_forget_37 : decode cX2_forget 37 = .ok (.goto (-19), 3) := by decide +kernel
theorem dX2_forget_40 : decode cX2_forget 40 = .ok (.return_, 1) := by decide +kernel
theorem dX11_newBoard_0 : decode cX11_newBoard 0 = .ok (.iload_n 1, 1) := by decide +kernel
theorem dX11_newBoard_1 : decode cX11_newBoard 1 = .ok (.iconst 4, 1) := by decide +kernel
theorem dX11_newBoard_2 : decode cX11_newBoard 2 = .ok (.if_icmp .lt 20, 3) := by decide +kernel
theorem dX11_newBoard_5 : decode cX11_newBoard 5 = .ok (.iload_n 1, 1) := by decide +kernel
theorem dX11_newBoard_6 : decode cX11_newBoard 6 = .ok (.bipush 8, 2) := by decide +kernel
theorem dX11_newBoard_8 : decode cX11_newBoard 8 = .ok (.if_icmp .gt 14, 3) := by decide +kernel
theorem dX11_newBoard_11 : decode cX11_newBoard 11 = .ok (.iload_n 2, 1) := by decide +kernel
theorem dX11_newBoard_12 : decode cX11_newBoard 12 = .ok (.iconst 4, 1) := by decide +kernel
theorem dX11_newBoard_13 : decode cX11_newBoard 13 = .ok (.if_icmp .lt 9, 3) := by decide +kernel
theorem dX11_newBoard_16 : decode cX11_newBoard 16 = .ok (.iload_n 2, 1) := by decide +kernel
theorem dX11_newBoard_17 : decode cX11_newBoard 17 = .ok (.bipush 8, 2) := by decide +kernel
theorem dX11_newBoard_19 : decode cX11_newBoard 19 = .ok (.if_icmp .le 13, 3) := by decide +kernel
theorem dX11_newBoard_22 : decode cX11_newBoard 22 = .ok (.new 140, 3) := by decide +kernel
theorem dX11_newBoard_25 : decode cX11_newBoard 25 = .ok (.dup, 1) := by decide +kernel
theorem dX11_newBoard_26 : decode cX11_newBoard 26 = .ok (.ldc 142, 2) := by decide +kernel
theorem dX11_newBoard_28 : decode cX11_newBoard 28 = .ok (.invokespecial 144, 3) := by decide +kernel
theorem dX11_newBoard_31 : decode cX11_newBoard 31 = .ok (.athrow, 1) := by decide +kernel
theorem dX11_newBoard_32 : decode cX11_newBoard 32 = .ok (.aload_n 0, 1) := by decide +kernel
theorem dX11_newBoard_33 : decode cX11_newBoard 33 = .ok (.getfield 12, 3) := by decide +kernel
theorem dX11_newBoard_36 : decode cX11_newBoard 36 = .ok (.iload_n 1, 1) := by decide +kernel
theorem dX11_newBoard_37 : decode cX11_newBoard 37 = .ok (.iload_n 2, 1) := by decide +kernel
theorem dX11_newBoard_38 : decode cX11_newBoard 38 = .ok (.invokevirtual 123, 3) := by decide +kernel
theorem dX11_newBoard_41 : decode cX11_newBoard 41 = .ok (.aload_n 0, 1) := by decide +kernel
theorem dX11_newBoard_42 : decode cX11_newBoard 42 = .ok (.getfield 28, 3) := by decide +kernel
theorem dX11_newBoard_45 : decode cX11_newBoard 45 = .ok (.invokevirtual 147, 3) := by decide +kernel
theorem dX11_newBoard_48 : decode cX11_newBoard 48 = .ok (.aload_n 0, 1) := by decide +kernel
theorem dX11_newBoard_49 : decode cX11_newBoard 49 = .ok (.getfield 40, 3) := by decide +kernel
theorem dX11_newBoard_52 : decode cX11_newBoard 52 = .ok (.aload_n 0, 1) := by decide +kernel
theorem dX11_newBoard_53 : decode cX11_newBoard 53 = .ok (.getfield 28, 3) := by decide +kernel
theorem dX11_newBoard_56 : decode cX11_newBoard 56 = .ok (.invokevirtual 130, 3) := by decide +kernel
theorem dX11_newBoard_59 : decode cX11_newBoard 59 = .ok (.aload_n 0, 1) := by decide +kernel
theorem dX11_newBoard_60 : decode cX11_newBoard 60 = .ok (.getfield 72, 3) := by decide +kernel
theorem dX11_newBoard_63 : decode cX11_newBoard 63 = .ok (.invokevirtual 150, 3) := by decide +kernel
theorem dX11_newBoard_66 : decode cX11_newBoard 66 = .ok (.aload_n 0, 1) := by decide +kernel
theorem dX11_newBoard_67 : decode cX11_newBoard 67 = .ok (.getfield 76, 3) := by decide +kernel
theorem dX11_newBoard_70 : decode cX11_newBoard 70 = .ok (.invokevirtual 150, 3) := by decide +kernel
theorem dX11_newBoard_73 : decode cX11_newBoard 73 = .ok (.aload_n 0, 1) := by decide +kernel
theorem dX11_newBoard_74 : decode cX11_newBoard 74 = .ok (.iconst 0, 1) := by decide +kernel
theorem dX11_newBoard_75 : decode cX11_newBoard 75 = .ok (.putfield 120, 3) := by decide +kernel
theorem dX11_newBoard_78 : decode cX11_newBoard 78 = .ok (.aload_n 0, 1) := by decide +kernel
theorem dX11_newBoard_79 : decode cX11_newBoard 79 = .ok (.getfield 98, 3) := by decide +kernel
theorem dX11_newBoard_82 : decode cX11_newBoard 82 = .ok (.invokevirtual 151, 3) := by decide +kernel
theorem dX11_newBoard_85 : decode cX11_newBoard 85 = .ok (.aload_n 0, 1) := by decide +kernel
theorem dX11_newBoard_86 : decode cX11_newBoard 86 = .ok (.getfield 112, 3) := by decide +kernel
theorem dX11_newBoard_89 : decode cX11_newBoard 89 = .ok (.bipush 15, 2) := by decide +kernel
theorem dX11_newBoard_91 : decode cX11_newBoard 91 = .ok (.invokestatic 134, 3) := by decide +kernel
theorem dX11_newBoard_94 : decode cX11_newBoard 94 = .ok (.aload_n 0, 1) := by decide +kernel
theorem dX11_newBoard_95 : decode cX11_newBoard 95 = .ok (.getfield 12, 3) := by decide +kernel
theorem dX11_newBoard_98 : decode cX11_newBoard 98 = .ok (.getfield 154, 3) := by decide +kernel
theorem dX11_newBoard_101 : decode cX11_newBoard 101 = .ok (.ireturn, 1) := by decide +kernel
theorem dX11_outputByte_0 : decode cX11_outputByte 0 = .ok (.iload_n 1, 1) := by decide +kernel
theorem dX11_outputByte_1 : decode cX11_outputByte 1 = .ok (.ifCond .lt 14, 3) := by decide +kernel
theorem dX11_outputByte_4 : decode cX11_outputByte 4 = .ok (.iload_n 1, 1) := by decide +kernel
theorem dX11_outputByte_5 : decode cX11_outputByte 5 = .ok (.aload_n 0, 1) := by decide +kernel
theorem dX11_outputByte_6 : decode cX11_outputByte 6 = .ok (.getfield 109, 3) := by decide +kernel
theorem dX11_outputByte_9 : decode cX11_outputByte 9 = .ok (.invokevirtual 232, 3) := by decide +kernel
theorem dX11_outputByte_12 : decode cX11_outputByte 12 = .ok (.if_icmp .lt 13, 3) := by decide +kernel
theorem dX11_outputByte_15 : decode cX11_outputByte 15 = .ok (.new 235, 3) := by decide +kernel
theorem dX11_outputByte_18 : decode cX11_outputByte 18 = .ok (.dup, 1) := by decide +kernel
theorem dX11_outputByte_19 : decode cX11_outputByte 19 = .ok (.ldc 237, 2) := by decide +kernel
theorem dX11_outputByte_21 : decode cX11_outputByte 21 = .ok (.invokespecial 239, 3) := by decide +kernel
theorem dX11_outputByte_24 : decode cX11_outputByte 24 = .ok (.athrow, 1) := by decide +kernel
theorem dX11_outputByte_25 : decode cX11_outputByte 25 = .ok (.aload_n 0, 1) := by decide +kernel
theorem dX11_outputByte_26 : decode cX11_outputByte 26 = .ok (.getfield 109, 3) := by decide +kernel
theorem dX11_outputByte_29 : decode cX11_outputByte 29 = .ok (.iload_n 1, 1) := by decide +kernel
theorem dX11_outputByte_30 : decode cX11_outputByte 30 = .ok (.invokevirtual 240, 3) := by decide +kernel
theorem dX11_outputByte_33 : decode cX11_outputByte 33 = .ok (.ireturn, 1) := by decide +kernel
theorem dX11_patternCount_0 : decode cX11_patternCount 0 = .ok (.aload_n 0, 1) := by decide +kernel
theorem dX11_patternCount_1 : decode cX11_patternCount 1 = .ok (.iload_n 1, 1) := by decide +kernel
theorem dX11_patternCount_2 : decode cX11_patternCount 2 = .ok (.invokevirtual 337, 3) := by decide +kernel
theorem dX11_patternCount_5 : decode cX11_patternCount 5 = .ok (.aload_n 0, 1) := by decide +kernel
theorem dX11_patternCount_6 : decode cX11_patternCount 6 = .ok (.getfield 112, 3) := by decide +kernel
theorem dX11_patternCount_9 : decode cX11_patternCount 9 = .ok (.aload_n 0, 1) := by decide +kernel
theorem dX11_patternCount_10 : decode cX11_patternCount 10 = .ok (.getfield 32, 3) := by decide +kernel
theorem dX11_patternCount_13 : decode cX11_patternCount 13 = .ok (.invokevirtual 428, 3) := by decide +kernel
theorem dX11_patternCount_16 : decode cX11_patternCount 16 = .ok (.ireturn, 1) := by decide +kernel
theorem dX11_playMain_0 : decode cX11_playMain 0 = .ok (.aload_n 0, 1) := by decide +kernel
theorem dX11_playMain_1 : decode cX11_playMain 1 = .ok (.iload_n 1, 1) := by decide +kernel
theorem dX11_playMain_2 : decode cX11_playMain 2 = .ok (.invokevirtual 337, 3) := by decide +kernel
theorem dX11_playMain_5 : decode cX11_playMain 5 = .ok (.astore_n 3, 1) := by decide +kernel
theorem dX11_playMain_6 : decode cX11_playMain 6 = .ok (.iload_n 2, 1) := by decide +kernel
theorem dX11_playMain_7 : decode cX11_playMain 7 = .ok (.iconst 1, 1) := by decide +kernel
theorem dX11_playMain_8 : decode cX11_playMain 8 = .ok (.if_icmp .lt 9, 3) := by decide +kernel
theorem dX11_playMain_11 : decode cX11_playMain 11 = .ok (.iload_n 2, 1) := by decide +kernel
theorem dX11_playMain_12 : decode cX11_playMain 12 = .ok (.bipush 80, 2) := by decide +kernel
theorem dX11_playMain_14 : decode cX11_playMain 14 = .ok (.if_icmp .le 14, 3) := by decide +kernel
theorem dX11_playMain_17 : decode cX11_playMain 17 = .ok (.new 140, 3) := by decide +kernel
theorem dX11_playMain_20 : decode cX11_playMain 20 = .ok (.dup, 1) := by decide +kernel
theorem dX11_playMain_21 : decode cX11_playMain 21 = .ok (.ldc_w 397, 3) := by decide +kernel
theorem dX11_playMain_24 : decode cX11_playMain 24 = .ok (.invokespecial 144, 3) := by decide +kernel
theorem dX11_playMain_27 : decode cX11_playMain 27 = .ok (.athrow, 1) := by decide +kernel
theorem dX11_playMain_28 : decode cX11_playMain 28 = .ok (.aload_n 0, 1) := by decide +kernel
theorem dX11_playMain_29 : decode cX11_playMain 29 = .ok (.invokevirtual 217, 3) := by decide +kernel
theorem dX11_playMain_32 : decode cX11_playMain 32 = .ok (.iconst 0, 1) := by decide +kernel
theorem dX11_playMain_33 : decode cX11_playMain 33 = .ok (.istore 4, 2) := by decide +kernel
theorem dX11_playMain_35 : decode cX11_playMain 35 = .ok (.iload 4, 2) := by decide +kernel
theorem dX11_playMain_37 : decode cX11_playMain 37 = .ok (.iload_n 2, 1) := by decide +kernel
theorem dX11_playMain_38 : decode cX11_playMain 38 = .ok (.if_icmp .ge 64, 3) := by decide +kernel
theorem dX11_playMain_41 : decode cX11_playMain 41 = .ok (.aload_n 0, 1) := by decide +kernel
theorem dX11_playMain_42 : decode cX11_playMain 42 = .ok (.getfield 40, 3) := by decide +kernel
theorem dX11_playMain_45 : decode cX11_playMain 45 = .ok (.getfield 157, 3) := by decide +kernel
theorem dX11_playMain_48 : decode cX11_playMain 48 = .ok (.bipush 80, 2) := by decide +kernel
theorem dX11_playMain_50 : decode cX11_playMain 50 = .ok (.if_icmp .ge 52, 3) := by decide +kernel
theorem dX11_playMain_53 : decode cX11_playMain 53 = .ok (.aload_n 0, 1) := by decide +kernel
theorem dX11_playMain_54 : decode cX11_playMain 54 = .ok (.getfield 84, 3) := by decide +kernel
theorem dX11_playMain_57 : decode cX11_playMain 57 = .ok (.aload_n 3, 1) := by decide +kernel
theorem dX11_playMain_58 : decode cX11_playMain 58 = .ok (.aload_n 0, 1) := by decide +kernel
theorem dX11_playMain_59 : decode cX11_playMain 59 = .ok (.getfield 28, 3) := by decide +kernel
theorem dX11_playMain_62 : decode cX11_playMain 62 = .ok (.invokevirtual 384, 3) := by decide +kernel
theorem dX11_playMain_65 : decode cX11_playMain 65 = .ok (.aload_n 0, 1) := by decide +kernel
theorem dX11_playMain_66 : decode cX11_playMain 66 = .ok (.getfield 84, 3) := by decide +kernel
theorem dX11_playMain_69 : decode cX11_playMain 69 = .ok (.invokevirtual 399, 3) := by decide +kernel
theorem dX11_playMain_72 : decode cX11_playMain 72 = .ok (.istore 5, 2) := by decide +kernel
theorem dX11_playMain_74 : decode cX11_playMain 74 = .ok (.iload 5, 2) := by decide +kernel
theorem dX11_playMain_76 : decode cX11_playMain 76 = .ok (.iconst (-1), 1) := by decide +kernel
theorem dX11_playMain_77 : decode cX11_playMain 77 = .ok (.if_icmp .ne 6, 3) := by decide +kernel
theorem dX11_playMain_80 : decode cX11_playMain 80 = .ok (.goto 22, 3) := by decide +kernel
theorem dX11_playMain_83 : decode cX11_playMain 83 = .ok (.aload_n 0, 1) := by decide +kernel
theorem dX11_playMain_84 : decode cX11_playMain 84 = .ok (.aload_n 0, 1) := by decide +kernel
theorem dX11_playMain_85 : decode cX11_playMain 85 = .ok (.getfield 49, 3) := by decide +kernel
theorem dX11_playMain_88 : decode cX11_playMain 88 = .ok (.iload 5, 2) := by decide +kernel
theorem dX11_playMain_90 : decode cX11_playMain 90 = .ok (.invokevirtual 402, 3) := by decide +kernel
theorem dX11_playMain_93 : decode cX11_playMain 93 = .ok (.invokevirtual 290, 3) := by decide +kernel
theorem dX11_playMain_96 : decode cX11_playMain 96 = .ok (.iinc 4 1, 3) := by decide +kernel
theorem dX11_playMain_99 : decode cX11_playMain 99 = .ok (.goto (-64), 3) := by decide +kernel
theorem dX11_playMain_102 : decode cX11_playMain 102 = .ok (.iload 4, 2) := by decide +kernel
theorem dX11_playMain_104 : decode cX11_playMain 104 = .ok (.ireturn, 1) := by decide +kernel
theorem dX11_positionCount_0 : decode cX11_positionCount 0 = .ok (.aload_n 0, 1) := by decide +kernel
theorem dX11_positionCount_1 : decode cX11_positionCount 1 = .ok (.iload_n 1, 1) := by decide +kernel
theorem dX11_positionCount_2 : decode cX11_positionCount 2 = .ok (.invokevirtual 337, 3) := by decide +kernel
theorem dX11_positionCount_5 : decode cX11_positionCount 5 = .ok (.invokevirtual 359, 3) := by decide +kernel
theorem dX11_positionCount_8 : decode cX11_positionCount 8 = .ok (.ireturn, 1) := by decide +kernel
theorem dX11_readMoves_0 : decode cX11_readMoves 0 = .ok (.aload_n 0, 1) := by decide +kernel
theorem dX11_readMoves_1 : decode cX11_readMoves 1 = .ok (.invokevirtual 323, 3) := by decide +kernel
theorem dX11_readMoves_4 : decode cX11_readMoves 4 = .ok (.istore_n 1, 1) := by decide +kernel
theorem dX11_readMoves_5 : decode cX11_readMoves 5 = .ok (.iload_n 1, 1) := by decide +kernel
theorem dX11_readMoves_6 : decode cX11_readMoves 6 = .ok (.ifCond .eq 31, 3) := by decide +kernel
theorem dX11_readMoves_9 : decode cX11_readMoves 9 = .ok (.aload_n 0, 1) := by decide +kernel
theorem dX11_readMoves_10 : decode cX11_readMoves 10 = .ok (.getfield 58, 3) := by decide +kernel
theorem dX11_readMoves_13 : decode cX11_readMoves 13 = .ok (.aload_n 0, 1) := by decide +kernel
theorem dX11_readMoves_14 : decode cX11_readMoves 14 = .ok (.getfield 105, 3) := by decide +kernel
theorem dX11_readMoves_17 : decode cX11_readMoves 17 = .ok (.aload_n 0, 1) := by decide +kernel
theorem dX11_readMoves_18 : decode cX11_readMoves 18 = .ok (.getfield 28, 3) := by decide +kernel
theorem dX11_readMoves_21 : decode cX11_readMoves 21 = .ok (.bipush 80, 2) := by decide +kernel
theorem dX11_readMoves_23 : decode cX11_readMoves 23 = .ok (.aload_n 0, 1) := by decide +kernel
theorem dX11_readMoves_24 : decode cX11_readMoves 24 = .ok (.getfield 40, 3) := by decide +kernel
theorem dX11_readMoves_27 : decode cX11_readMoves 27 = .ok (.getfield 157, 3) := by decide +kernel
theorem dX11_readMoves_30 : decode cX11_readMoves 30 = .ok (.isub, 1) := by decide +kernel
theorem dX11_readMoves_31 : decode cX11_readMoves 31 = .ok (.invokevirtual 319, 3) := by decide +kernel
theorem dX11_readMoves_34 : decode cX11_readMoves 34 = .ok (.goto 4, 3) := by decide +kernel
theorem dX11_readMoves_37 : decode cX11_readMoves 37 = .ok (.iconst (-1), 1) := by decide +kernel
theorem dX11_readMoves_38 : decode cX11_readMoves 38 = .ok (.istore_n 2, 1) := by decide +kernel
theorem dX11_readMoves_39 : decode cX11_readMoves 39 = .ok (.aload_n 0, 1) := by decide +kernel
theorem dX11_readMoves_40 : decode cX11_readMoves 40 = .ok (.getfield 105, 3) := by decide +kernel
theorem dX11_readMoves_43 : decode cX11_readMoves 43 = .ok (.iconst 0, 1) := by decide +kernel
theorem dX11_readMoves_44 : decode cX11_readMoves 44 = .ok (.invokevirtual 191, 3) := by decide +kernel
theorem dX11_readMoves_47 : decode cX11_readMoves 47 = .ok (.iload_n 1, 1) := by decide +kernel
theorem dX11_readMoves_48 : decode cX11_readMoves 48 = .ok (.ifCond .ne 14, 3) := by decide +kernel
theorem dX11_readMoves_51 : decode cX11_readMoves 51 = .ok (.new 285, 3) := by decide +kernel
theorem dX11_readMoves_54 : decode cX11_readMoves 54 = .ok (.dup, 1) := by decide +kernel
theorem dX11_readMoves_55 : decode cX11_readMoves 55 = .ok (.ldc_w 326, 3) := by decide +kernel
theorem dX11_readMoves_58 : decode cX11_readMoves 58 = .ok (.invokespecial 289, 3) := by decide +kernel
theorem dX11_readMoves_61 : decode cX11_readMoves 61 = .ok (.athrow, 1) := by decide +kernel
theorem dX11_readMoves_62 : decode cX11_readMoves 62 = .ok (.iload_n 2, 1) := by decide +kernel
theorem dX11_readMoves_63 : decode cX11_readMoves 63 = .ok (.iconst (-1), 1) := by decide +kernel
theorem dX11_readMoves_64 : decode cX11_readMoves 64 = .ok (.if_icmp .eq 14, 3) := by decide +kernel
theorem dX11_readMoves_67 : decode cX11_readMoves 67 = .ok (.new 140, 3) := by decide +kernel
theorem dX11_readMoves_70 : decode cX11_readMoves 70 = .ok (.dup, 1) := by decide +kernel
theorem dX11_readMoves_71 : decode cX11_readMoves 71 = .ok (.ldc_w 328, 3) := by decide +kernel
theorem dX11_readMoves_74 : decode cX11_readMoves 74 = .ok (.invokespecial 144, 3) := by decide +kernel
theorem dX11_readMoves_77 : decode cX11_readMoves 77 = .ok (.athrow, 1) := by decide +kernel
theorem dX11_readMoves_78 : decode cX11_readMoves 78 = .ok (.aload_n 0, 1) := by decide +kernel
theorem dX11_readMoves_79 : decode cX11_readMoves 79 = .ok (.getfield 58, 3) := by decide +kernel
theorem dX11_readMoves_82 : decode cX11_readMoves 82 = .ok (.invokevirtual 330, 3) := by decide +kernel
theorem dX11_readMoves_85 : decode cX11_readMoves 85 = .ok (.istore_n 3, 1) := by decide +kernel
theorem dX11_readMoves_86 : decode cX11_readMoves 86 = .ok (.iconst 0, 1) := by decide +kernel
theorem dX11_readMoves_87 : decode cX11_readMoves 87 = .ok (.istore 4, 2) := by decide +kernel
theorem dX11_readMoves_89 : decode cX11_readMoves 89 = .ok (.iload 4, 2) := by decide +kernel
theorem dX11_readMoves_91 : decode cX11_readMoves 91 = .ok (.iload_n 3, 1) := by decide +kernel
theorem dX11_readMoves_92 : decode cX11_readMoves 92 = .ok (.if_icmp .ge 22, 3) := by decide +kernel
theorem dX11_readMoves_95 : decode cX11_readMoves 95 = .ok (.aload_n 0, 1) := by decide +kernel
theorem dX11_readMoves_96 : decode cX11_readMoves 96 = .ok (.aload_n 0, 1) := by decide +kernel
theorem dX11_readMoves_97 : decode cX11_readMoves 97 = .ok (.getfield 58, 3) := by decide +kernel
theorem dX11_readMoves_100 : decode cX11_readMoves 100 = .ok (.iload 4, 2) := by decide +kernel
theorem dX11_readMoves_102 : decode cX11_readMoves 102 = .ok (.invokevirtual 333, 3) := by decide +kernel
theorem dX11_readMoves_105 : decode cX11_readMoves 105 = .ok (.invokevirtual 290, 3) := by decide +kernel
theorem dX11_readMoves_108 : decode cX11_readMoves 108 = .ok (.iinc 4 1, 3) := by decide +kernel
theorem dX11_readMoves_111 : decode cX11_readMoves 111 = .ok (.goto (-22), 3) := by decide +kernel
theorem dX11_readMoves_114 : decode cX11_readMoves 114 = .ok (.aload_n 0, 1) := by decide +kernel
theorem dX11_readMoves_115 : decode cX11_readMoves 115 = .ok (.aload_n 0, 1) := by decide +kernel
theorem dX11_readMoves_116 : decode cX11_readMoves 116 = .ok (.getfield 58, 3) := by decide +kernel
theorem dX11_readMoves_119 : decode cX11_readMoves 119 = .ok (.getfield 336, 3) := by decide +kernel
theorem dX11_readMoves_122 : decode cX11_readMoves 122 = .ok (.putfield 116, 3) := by decide +kernel
theorem dX11_readMoves_125 : decode cX11_readMoves 125 = .ok (.iload_n 3, 1) := by decide +kernel
theorem dX11_readMoves_126 : decode cX11_readMoves 126 = .ok (.ireturn, 1) := by decide +kernel
def wp_X11_fault_0 (D : wD) (post : Int32 → wS → Prop) (xp : String → wS → Prop)  (S : wS) (a0 : Nat) : Prop :=
wp_X11_mustBeLawful D (fun S_2 => 
∃ y_3 : Nat, sR S_2 a0 6 = some y_3 ∧ wM D S_2 y_3 ∧ sK S_2 y_3 = 10 ∧
∃ y_4 : Nat, sR S_2 a0 13 = some y_4 ∧ wM D S_2 y_4 ∧ sK S_2 y_4 = 1 ∧
∃ y_5 : Nat, sR S_2 a0 2 = some y_5 ∧ wM D S_2 y_5 ∧ sK S_2 y_5 = 12 ∧
∃ y_6 : Nat, sR S_2 a0 4 = some y_6 ∧ wM D S_2 y_6 ∧ sK S_2 y_6 = 8 ∧
wp_X5_read D (fun r_7 S_8 => 
post r_7 S_8) S_2 y_3 y_4 y_5 ((80 : Int32) - (sI S_2 y_6 3))) xp S a0
abbrev r_X11_fault : Room := { frames := 9, cells := 1, slots := 6, locals := 214 }
def wp_X11_fault (D : wD) (post : Int32 → wS → Prop) (xp : String → wS → Prop) (S : wS) (a0 : Nat) : Prop := wp_X11_fault_0 D post xp S a0
set_option maxHeartbeats 4000000 in
set_option maxRecDepth 100000 in
theorem t_X11_fault_0 {p : Program} {l : Launch} {e : Env} {s : State} {m : MethodId} {args : Array Value} {below : List Frame} {meth : Method} {c : Code} {D : wD} {cy : Nat → ClassId} {X : va_W} {A : Nat → Prop} {S0 : wS} {post : Int32 → wS → Prop} {xp : String → wS → Prop} (F : CallFix p m c cX11_fault 1 s args wz_X11_fault RX11) (hr : meth.sig.returnType = (some .int)) (hlocks : meth.locks = false) (hK : wK D cy A s) (hl0 : l.stackTraces = false) (hexc : ∀ x ∈ c.exceptionTable.toList, False) : ∀ {S : wS} {H : Heap} {locs : List Loc} {ls : Array Slot} {a0 : Nat}, wp_X11_fault_0 D post xp S a0 → wO D cy X A s.heap S H locs → wX D S0 S → lv_has ls 1 [(0, .ref a0)] → wM D S a0 → sK S a0 = 16 → W p l e r_X11_fault s m args below meth c H locs 0 0 (vx_MQ below (va_Qi (fun r S9 => wX D S0 S9 ∧ post r S9) (wB D cy X A) A) (wEx D cy X A (fun E S9 => wX D S0 S9 ∧ xp E S9)) args s 1 6 A) (F0 m 0 ls []) := by
  obtain ⟨hx, hb, hml, hown, hts⟩ := id F
  have hwg : ∀ w ∈ WG, w.before args s = true := fun w h => hts w (List.mem_cons_of_mem _ h)
  have i_16 : ∀ w ∈ u_ws RX11 TX11 18, w ∈ wz_X11_fault := fun w h => List.mem_cons_of_mem _ (wu_16 w h)
  have i_8 : ∀ w ∈ u_ws RX3 TX3 9, w ∈ wz_X11_fault := fun w h => List.mem_cons_of_mem _ (wu_8 w h)
  have k_105 := hwg _ wf_RX11_105
  have k_28 := hwg _ wf_RX11_28
  have k_40 := hwg _ wf_RX11_40
  have k_58 := hwg _ wf_RX11_58
  intro S H locs ls a0 hp hW hE hl hL_a0 hK_a0
  unfold wp_X11_fault_0 at hp
  refine lv_aload_n hx hb dX11_fault_0 rfl (lv_at hl 0 rfl) ?_
  refine x_callV (vx_runV (As := []) (rest := []) F (c_X11_mustBeLawful l hl0 hL_a0 hK_a0 hp H.size) (cwV (C := RX11) 0 hts (wg_V wm_RX11_217 wy_X11_mustBeLawful) rfl rfl rfl (by decide +kernel) ⟨Nat.le_of_ble_eq_true rfl, Nat.le_of_ble_eq_true rfl⟩) (w_preV hK hW hL_a0 hK_a0 (by decide) rfl) rfl rfl hl.1 rfl (lv_room (Nat.le_of_ble_eq_true rfl)) dX11_fault_1 ⟨Nat.le_of_ble_eq_true rfl, Nat.le_of_ble_eq_true rfl⟩) hW (fun E ce q9 S9 H locs hp hW h1 h2 h3 => x_out hexc hlocks ⟨hE.trans hp.1, hp.2⟩ hW h1 h2 h3 (by decide) (by decide)) (fun S_2 H locs hp hW => ?_)
  obtain ⟨hX_S_2, hp⟩ := hp
  refine W.widen (k := 1) (n := 6) (by decide) (by decide) ?_
  have hE := hE.trans hX_S_2
  have hK_a0 : sK S_2 a0 = 16 := (hX_S_2.2 a0 hL_a0).1.trans hK_a0
  have hL_a0 : wM D S_2 a0 := hX_S_2.M hL_a0
  refine lv_aload_n hx hb dX11_fault_4 rfl (lv_at hl 0 rfl) ?_
  obtain ⟨y_3, ey_3, hL_y_3, hK_y_3, hp⟩ := hp
  refine w_get (k := 16) (f := 6) (T := TX11) (v := .ref y_3) F hK hW hL_a0 hK_a0 (by decide) rfl rfl (by decide) i_16 k_58 (by rw [show wv 16 6 S_2 a0 = va_rf (sR S_2 a0 6) from rfl, ey_3]; rfl) dX11_fault_5 ?_
  refine lv_aload_n hx hb dX11_fault_8 rfl (lv_at hl 0 rfl) ?_
  obtain ⟨y_4, ey_4, hL_y_4, hK_y_4, hp⟩ := hp
  refine w_get (k := 16) (f := 13) (T := TX11) (v := .ref y_4) F hK hW hL_a0 hK_a0 (by decide) rfl rfl (by decide) i_16 k_105 (by rw [show wv 16 13 S_2 a0 = va_rf (sR S_2 a0 13) from rfl, ey_4]; rfl) dX11_fault_9 ?_
  refine lv_aload_n hx hb dX11_fault_12 rfl (lv_at hl 0 rfl) ?_
  obtain ⟨y_5, ey_5, hL_y_5, hK_y_5, hp⟩ := hp
  refine w_get (k := 16) (f := 2) (T := TX11) (v := .ref y_5) F hK hW hL_a0 hK_a0 (by decide) rfl rfl (by decide) i_16 k_28 (by rw [show wv 16 2 S_2 a0 = va_rf (sR S_2 a0 2) from rfl, ey_5]; rfl) dX11_fault_13 ?_
  refine lv_bipush (v := 80) hx hb dX11_fault_16 (by decide) ?_
  refine lv_aload_n hx hb dX11_fault_18 rfl (lv_at hl 0 rfl) ?_
  obtain ⟨y_6, ey_6, hL_y_6, hK_y_6, hp⟩ := hp
  refine w_get (k := 16) (f := 4) (T := TX11) (v := .ref y_6) F hK hW hL_a0 hK_a0 (by decide) rfl rfl (by decide) i_16 k_40 (by rw [show wv 16 4 S_2 a0 = va_rf (sR S_2 a0 4) from rfl, ey_6]; rfl) dX11_fault_19 ?_
  refine w_getN (k := 8) (f := 3) (T := TX3) (v := .int (sI S_2 y_6 3)) F hK hW hL_y_6 hK_y_6 (by decide) rfl rfl (by decide) i_8 (hK.2.1 (.fieldLinkNest "OpeningsCabinet" 157 "OpeningsCabinet$Game" "length" "I" "OpeningsCabinet") (by decide +kernel)) rfl dX11_fault_22 ?_
  refine lv_isub hx hb dX11_fault_25 ?_
  refine w_callI (va_runV (As := [.ref y_4, .ref y_5, .int ((80 : Int32) - (sI S_2 y_6 3))]) (rest := []) F (c_X5_read l hL_y_3 hK_y_3 hL_y_4 hK_y_4 hL_y_5 hK_y_5 hp H.size) (cwV (C := RX5) 3 hts (wg_V wm_RX11_319 wy_X5_read) rfl rfl rfl (by decide +kernel) ⟨Nat.le_of_ble_eq_true rfl, Nat.le_of_ble_eq_true rfl⟩) (w_preV hK hW hL_y_3 hK_y_3 (by decide) rfl) rfl rfl hl.1 rfl (lv_room (Nat.le_of_ble_eq_true rfl)) dX11_fault_26 ⟨Nat.le_of_ble_eq_true rfl, Nat.le_of_ble_eq_true rfl⟩) hW (fun r_7 S_8 H locs hp hW => ?_)
  obtain ⟨hX_S_8, hp⟩ := hp
  refine W.widen (k := 1) (n := 6) (by decide) (by decide) ?_
  have hE := hE.trans hX_S_8
  have hK_a0 : sK S_8 a0 = 16 := (hX_S_8.2 a0 hL_a0).1.trans hK_a0
  have hL_a0 : wM D S_8 a0 := hX_S_8.M hL_a0
  refine vx_ret ?_
  exact w_iret hx hb hr hlocks hW ⟨hE, hp⟩ dX11_fault_29
set_option maxHeartbeats 4000000 in
set_option maxRecDepth 100000 in
theorem c_X11_fault (l : Launch) {D : wD} {cy : Nat → ClassId} {X : va_W} {S0 : wS} {post : Int32 → wS → Prop} {xp : String → wS → Prop} (hl0 : l.stackTraces = false) {a0 : Nat} (hL_a0 : wM D S0 a0) (hK_a0 : sK S0 a0 = 16) (hp : wp_X11_fault D post xp S0 a0) : xI D cy X l yX11_fault wz_X11_fault r_X11_fault [.ref a0] S0 (fun r S9 => wX D S0 S9 ∧ post r S9) (fun E S9 => wX D S0 S9 ∧ xp E S9) := by
  intro sz
  refine vx_ofW (cc := cX11_fault) (maxL := 1) (ret := (some .int)) (by decide) rfl ?_
  intro p e s m args below meth c s₁ B hml hexc hv
  obtain ⟨rfl, hsz, hP, hK, hD0, hRO⟩ := hv
  have hts := atoms_spec (ws := wz_X11_fault) B.pre
  have hown : s.vm.findClass RX11 = some m.cls := findClass_of_methodNamed B.named
  subst hsz
  have hD := hD0.self (sz := s.heap.size)
  have F : CallFix p m c cX11_fault 1 s _ wz_X11_fault RX11 := ⟨B.exec, B.bytes, hml, hown, hts⟩
  have hr := B.returns
  have hlocks := B.notSynchronized
  generalize hAe : va_A (wL cy X S0) s.heap.size = A at hD hK ⊢
  have hA : ∀ q, s.heap.size ≤ q → A q := fun q h => by rw [← hAe]; exact Or.inr h
  have hW : wO D cy X A s.heap S0 s.heap [] := ⟨hP, hD, va_S.rf, hA, hRO⟩
  have hl := lv_entry ([.ref a0]) (n := 1) (Nat.le_of_ble_eq_true rfl)
  rw [lg_entry_eq]
  generalize (lg_sl ([.ref a0]) ++ List.replicate (1 - (lg_sl ([.ref a0])).length) Slot.unset).toArray = ls at hl ⊢
  have hl : lv_has ls 1 [(0, .ref a0)] := hl
  unfold wp_X11_fault at hp
  exact t_X11_fault_0 F hr hlocks hK hl0 hexc hp hW wX.rf (lv_sub hl [0] rfl) hL_a0 hK_a0
def wp_X11_gameOf_0 (D : wD) (post : Option Nat → wS → Prop) (xp : String → wS → Prop)  (S : wS) (a0 : Nat) (x1 : Int32) (x2 : Int32) : Prop :=
wp_X11_shelfOf D (fun r_1 S_2 => 
∃ y_3 : Nat, r_1 = some y_3 ∧ wM D S_2 y_3 ∧ sK S_2 y_3 = 15 ∧
wp_X10_gameAt D (fun r_5 S_6 => 
((r_5 = none → xp "java/lang/IndexOutOfBoundsException" S_6) ∧
 (∀ y_7 : Nat, r_5 = some y_7 → wM D S_6 y_7 ∧ sK S_6 y_7 = 8 ∧ post (some y_7) S_6))) S_2 y_3 x2) xp S a0 x1
abbrev r_X11_gameOf : Room := { frames := 7, cells := 2, slots := 12, locals := 141 }
def wp_X11_gameOf (D : wD) (post : Option Nat → wS → Prop) (xp : String → wS → Prop) (S : wS) (a0 : Nat) (x1 : Int32) (x2 : Int32) : Prop := wp_X11_gameOf_0 D post xp S a0 x1 x2
set_option maxHeartbeats 4000000 in
set_option maxRecDepth 100000 in
theorem t_X11_gameOf_0 {p : Program} {l : Launch} {e : Env} {s : State} {m : MethodId} {args : Array Value} {below : List Frame} {meth : Method} {c : Code} {D : wD} {cy : Nat → ClassId} {X : va_W} {A : Nat → Prop} {S0 : wS} {post : Option Nat → wS → Prop} {xp : String → wS → Prop} (F : CallFix p m c cX11_gameOf 4 s args wz_X11_gameOf RX11) (hr : meth.sig.returnType = (some (.object "OpeningsCabinet$Game"))) (hlocks : meth.locks = false) (hK : wK D cy A s) (hl0 : l.stackTraces = false) (hexc : ∀ x ∈ c.exceptionTable.toList, False) : ∀ {S : wS} {H : Heap} {locs : List Loc} {ls : Array Slot} {a0 : Nat} {x1 : Int32} {x2 : Int32}, wp_X11_gameOf_0 D post xp S a0 x1 x2 → wO D cy X A s.heap S H locs → wX D S0 S → lv_has ls 4 [(0, .ref a0), (1, .int x1), (2, .int x2)] → wM D S a0 → sK S a0 = 16 → W p l e r_X11_gameOf s m args below meth c H locs 0 0 (vx_MQ below (va_Qq (fun r S9 => wX D S0 S9 ∧ post r S9) (wB D cy X A) A) (wEx D cy X A (fun E S9 => wX D S0 S9 ∧ xp E S9)) args s 2 12 A) (F0 m 0 ls []) := by
  obtain ⟨hx, hb, hml, hown, hts⟩ := id F
  have hwg : ∀ w ∈ WG, w.before args s = true := fun w h => hts w (List.mem_cons_of_mem _ h)
  intro S H locs ls a0 x1 x2 hp hW hE hl hL_a0 hK_a0
  unfold wp_X11_gameOf_0 at hp
  refine lv_aload_n hx hb dX11_gameOf_0 rfl (lv_at hl 0 rfl) ?_
  refine lv_iload_n hx hb dX11_gameOf_1 rfl (lv_at hl 1 rfl) ?_
  refine x_callR (vx_runV (As := [.int x1]) (rest := []) F (c_X11_shelfOf l hl0 hL_a0 hK_a0 hp H.size) (cwV (C := RX11) 1 hts (wg_V wm_RX11_337 wy_X11_shelfOf) rfl rfl rfl (by decide +kernel) ⟨Nat.le_of_ble_eq_true rfl, Nat.le_of_ble_eq_true rfl⟩) (w_preV hK hW hL_a0 hK_a0 (by decide) rfl) rfl rfl hl.1 rfl (lv_room (Nat.le_of_ble_eq_true rfl)) dX11_gameOf_2 ⟨Nat.le_of_ble_eq_true rfl, Nat.le_of_ble_eq_true rfl⟩) hW (fun E ce q9 S9 H locs hp hW h1 h2 h3 => x_out hexc hlocks ⟨hE.trans hp.1, hp.2⟩ hW h1 h2 h3 (by decide) (by decide)) (fun r_1 S_2 H locs hp hW => ?_)
  obtain ⟨hX_S_2, hp⟩ := hp
  refine W.widen (k := 1) (n := 6) (by decide) (by decide) ?_
  have hE := hE.trans hX_S_2
  have hK_a0 : sK S_2 a0 = 16 := (hX_S_2.2 a0 hL_a0).1.trans hK_a0
  have hL_a0 : wM D S_2 a0 := hX_S_2.M hL_a0
  refine lv_iload_n hx hb dX11_gameOf_5 rfl (lv_at hl 2 rfl) ?_
  obtain ⟨y_3, h_4, hL_y_3, hK_y_3, hp⟩ := hp
  revert hp; revert hl; revert hW; revert hE; subst h_4; intro hE hW hl hp
  refine w_callR (va_runV (As := [.int x2]) (rest := []) F (c_X10_gameAt l hL_y_3 hK_y_3 hp H.size) (cwV (C := RX10) 1 hts (wg_V wm_RX11_408 wy_X10_gameAt) rfl rfl rfl (by decide +kernel) ⟨Nat.le_of_ble_eq_true rfl, Nat.le_of_ble_eq_true rfl⟩) (w_preV hK hW hL_y_3 hK_y_3 (by decide) rfl) rfl rfl hl.1 rfl (lv_room (Nat.le_of_ble_eq_true rfl)) dX11_gameOf_6 ⟨Nat.le_of_ble_eq_true rfl, Nat.le_of_ble_eq_true rfl⟩) hW (fun r_5 S_6 H locs hp hW => ?_)
  obtain ⟨hX_S_6, hp⟩ := hp
  refine W.widen (k := 1) (n := 6) (by decide) (by decide) ?_
  have hE := hE.trans hX_S_6
  have hK_a0 : sK S_6 a0 = 16 := (hX_S_6.2 a0 hL_a0).1.trans hK_a0
  have hL_a0 : wM D S_6 a0 := hX_S_6.M hL_a0
  refine w_astore_n (lv' := [(3, va_rf r_5), (0, .ref a0), (1, .int x1), (2, .int x2)]) hx hb dX11_gameOf_9 rfl hl (by decide) rfl (fun ls hl => ?_)
  refine w_aload_n hx hb dX11_gameOf_10 rfl (lv_at hl 0 rfl) ?_
  refine w_ifnonnull (tgt := 25) hx hb dX11_gameOf_11 (by decide) (fun h_8 => ?_) (fun y_7 h_8 => ?_)
  · replace hp := hp.1 h_8
    revert hp; revert hl; revert hW; revert hE; subst h_8; intro hE hW hl hp
    exact x_throwW (ls := ls) F hK hW hl0 (by decide) (hwg _ wc_RX11_235) (hwg _ wi_java_lang_IndexOutOfBoundsException) (show ("OpeningsCabinet", 503, "no such game", 34) ∈ wStr by decide +kernel) (wa_RX11_239 hwg hK.2.1) wa_RX11_239_ok hl.1 hexc hlocks dX11_gameOf_14 dX11_gameOf_17 dX11_gameOf_18 dX11_gameOf_21 dX11_gameOf_24 (Nat.le_of_ble_eq_true rfl) (Nat.le_of_ble_eq_true rfl) (Nat.le_of_ble_eq_true rfl) (Nat.le_of_ble_eq_true rfl) (by decide) (by decide) ⟨hE, hp⟩
  · replace hp := hp.2 y_7 h_8
    revert hp; revert hl; revert hW; revert hE; subst h_8; intro hE hW hl hp
    obtain ⟨hL_y_7, hK_y_7, hp⟩ := hp
    refine lv_aload_n hx hb dX11_gameOf_25 rfl (lv_at hl 0 rfl) ?_
    refine W.widen (k := 2) (n := 12) (by decide) (by decide) ?_
    refine vx_ret ?_
    exact w_aret (g := (some y_7)) hx hb hr hlocks hW ⟨hE, hp⟩ dX11_gameOf_26
set_option maxHeartbeats 4000000 in
set_option maxRecDepth 100000 in
theorem c_X11_gameOf (l : Launch) {D : wD} {cy : Nat → ClassId} {X : va_W} {S0 : wS} {post : Option Nat → wS → Prop} {xp : String → wS → Prop} (hl0 : l.stackTraces = false) {a0 : Nat} {x1 : Int32} {x2 : Int32} (hL_a0 : wM D S0 a0) (hK_a0 : sK S0 a0 = 16) (hp : wp_X11_gameOf D post xp S0 a0 x1 x2) : xR D cy X l yX11_gameOf wz_X11_gameOf r_X11_gameOf [.ref a0, .int x1, .int x2] S0 (fun r S9 => wX D S0 S9 ∧ post r S9) (fun E S9 => wX D S0 S9 ∧ xp E S9) := by
  intro sz
  refine vx_ofW (cc := cX11_gameOf) (maxL := 4) (ret := (some (.object "OpeningsCabinet$Game"))) (by decide) rfl ?_
  intro p e s m args below meth c s₁ B hml hexc hv
  obtain ⟨rfl, hsz, hP, hK, hD0, hRO⟩ := hv
  have hts := atoms_spec (ws := wz_X11_gameOf) B.pre
  have hown : s.vm.findClass RX11 = some m.cls := findClass_of_methodNamed B.named
  subst hsz
  have hD := hD0.self (sz := s.heap.size)
  have F : CallFix p m c cX11_gameOf 4 s _ wz_X11_gameOf RX11 := ⟨B.exec, B.bytes, hml, hown, hts⟩
  have hr := B.returns
  have hlocks := B.notSynchronized
  generalize hAe : va_A (wL cy X S0) s.heap.size = A at hD hK ⊢
  have hA : ∀ q, s.heap.size ≤ q → A q := fun q h => by rw [← hAe]; exact Or.inr h
  have hW : wO D cy X A s.heap S0 s.heap [] := ⟨hP, hD, va_S.rf, hA, hRO⟩
  have hl := lv_entry ([.ref a0, .int x1, .int x2]) (n := 4) (Nat.le_of_ble_eq_true rfl)
  rw [lg_entry_eq]
  generalize (lg_sl ([.ref a0, .int x1, .int x2]) ++ List.replicate (4 - (lg_sl ([.ref a0, .int x1, .int x2])).length) Slot.unset).toArray = ls at hl ⊢
  have hl : lv_has ls 4 [(0, .ref a0), (1, .int x1), (2, .int x2)] := hl
  unfold wp_X11_gameOf at hp
  exact t_X11_gameOf_0 F hr hlocks hK hl0 hexc hp hW wX.rf (lv_sub hl [0, 1, 2] rfl) hL_a0 hK_a0
def wp_X11_firstNew_0 (D : wD) (post : Int32 → wS → Prop) (xp : String → wS → Prop)  (S : wS) (a0 : Nat) (x1 : Int32) (x2 : Int32) : Prop :=
wp_X11_gameOf D (fun r_1 S_2 => 
∃ y_3 : Nat, r_1 = some y_3 ∧ wM D S_2 y_3 ∧ sK S_2 y_3 = 8 ∧
wp_X3_firstFresh D (fun r_5 S_6 => 
post r_5 S_6) S_2 y_3) xp S a0 x1 x2
abbrev r_X11_firstNew : Room := { frames := 8, cells := 2, slots := 12, locals := 164 }
def wp_X11_firstNew (D : wD) (post : Int32 → wS → Prop) (xp : String → wS → Prop) (S : wS) (a0 : Nat) (x1 : Int32) (x2 : Int32) : Prop := wp_X11_firstNew_0 D post xp S a0 x1 x2
set_option maxHeartbeats 4000000 in
set_option maxRecDepth 100000 in
theorem t_X11_firstNew_0 {p : Program} {l : Launch} {e : Env} {s : State} {m : MethodId} {args : Array Value} {below : List Frame} {meth : Method} {c : Code} {D : wD} {cy : Nat → ClassId} {X : va_W} {A : Nat → Prop} {S0 : wS} {post : Int32 → wS → Prop} {xp : String → wS → Prop} (F : CallFix p m c cX11_firstNew 3 s args wz_X11_firstNew RX11) (hr : meth.sig.returnType = (some .int)) (hlocks : meth.locks = false) (hK : wK D cy A s) (hl0 : l.stackTraces = false) (hexc : ∀ x ∈ c.exceptionTable.toList, False) : ∀ {S : wS} {H : Heap} {locs : List Loc} {ls : Array Slot} {a0 : Nat} {x1 : Int32} {x2 : Int32}, wp_X11_firstNew_0 D post xp S a0 x1 x2 → wO D cy X A s.heap S H locs → wX D S0 S → lv_has ls 3 [(0, .ref a0), (1, .int x1), (2, .int x2)] → wM D S a0 → sK S a0 = 16 → W p l e r_X11_firstNew s m args below meth c H locs 0 0 (vx_MQ below (va_Qi (fun r S9 => wX D S0 S9 ∧ post r S9) (wB D cy X A) A) (wEx D cy X A (fun E S9 => wX D S0 S9 ∧ xp E S9)) args s 2 12 A) (F0 m 0 ls []) := by
  obtain ⟨hx, hb, hml, hown, hts⟩ := id F
  have hwg : ∀ w ∈ WG, w.before args s = true := fun w h => hts w (List.mem_cons_of_mem _ h)
  intro S H locs ls a0 x1 x2 hp hW hE hl hL_a0 hK_a0
  unfold wp_X11_firstNew_0 at hp
  refine lv_aload_n hx hb dX11_firstNew_0 rfl (lv_at hl 0 rfl) ?_
  refine lv_iload_n hx hb dX11_firstNew_1 rfl (lv_at hl 1 rfl) ?_
  refine lv_iload_n hx hb dX11_firstNew_2 rfl (lv_at hl 2 rfl) ?_
  refine x_callR (vx_runV (As := [.int x1, .int x2]) (rest := []) F (c_X11_gameOf l hl0 hL_a0 hK_a0 hp H.size) (cwV (C := RX11) 2 hts (wg_V wm_RX11_355 wy_X11_gameOf) rfl rfl rfl (by decide +kernel) ⟨Nat.le_of_ble_eq_true rfl, Nat.le_of_ble_eq_true rfl⟩) (w_preV hK hW hL_a0 hK_a0 (by decide) rfl) rfl rfl hl.1 rfl (lv_room (Nat.le_of_ble_eq_true rfl)) dX11_firstNew_3 ⟨Nat.le_of_ble_eq_true rfl, Nat.le_of_ble_eq_true rfl⟩) hW (fun E ce q9 S9 H locs hp hW h1 h2 h3 => x_out hexc hlocks ⟨hE.trans hp.1, hp.2⟩ hW h1 h2 h3 (by decide) (by decide)) (fun r_1 S_2 H locs hp hW => ?_)
  obtain ⟨hX_S_2, hp⟩ := hp
  refine W.widen (k := 2) (n := 12) (by decide) (by decide) ?_
  have hE := hE.trans hX_S_2
  have hK_a0 : sK S_2 a0 = 16 := (hX_S_2.2 a0 hL_a0).1.trans hK_a0
  have hL_a0 : wM D S_2 a0 := hX_S_2.M hL_a0
  obtain ⟨y_3, h_4, hL_y_3, hK_y_3, hp⟩ := hp
  revert hp; revert hl; revert hW; revert hE; subst h_4; intro hE hW hl hp
  refine w_callI (va_runV (As := []) (rest := []) F (c_X3_firstFresh l hL_y_3 hK_y_3 hp H.size) (cwV (C := RX3) 0 hts (wg_V wm_RX11_405 wy_X3_firstFresh) rfl rfl rfl (by decide +kernel) ⟨Nat.le_of_ble_eq_true rfl, Nat.le_of_ble_eq_true rfl⟩) (w_preV hK hW hL_y_3 hK_y_3 (by decide) rfl) rfl rfl hl.1 rfl (lv_room (Nat.le_of_ble_eq_true rfl)) dX11_firstNew_6 ⟨Nat.le_of_ble_eq_true rfl, Nat.le_of_ble_eq_true rfl⟩) hW (fun r_5 S_6 H locs hp hW => ?_)
  obtain ⟨hX_S_6, hp⟩ := hp
  refine W.widen (k := 2) (n := 12) (by decide) (by decide) ?_
  have hE := hE.trans hX_S_6
  have hK_a0 : sK S_6 a0 = 16 := (hX_S_6.2 a0 hL_a0).1.trans hK_a0
  have hL_a0 : wM D S_6 a0 := hX_S_6.M hL_a0
  refine vx_ret ?_
  exact w_iret hx hb hr hlocks hW ⟨hE, hp⟩ dX11_firstNew_9
set_option maxHeartbeats 4000000 in
set_option maxRecDepth 100000 in
theorem c_X11_firstNew (l : Launch) {D : wD} {cy : Nat → ClassId} {X : va_W} {S0 : wS} {post : Int32 → wS → Prop} {xp : String → wS → Prop} (hl0 : l.stackTraces = false) {a0 : Nat} {x1 : Int32} {x2 : Int32} (hL_a0 : wM D S0 a0) (hK_a0 : sK S0 a0 = 16) (hp : wp_X11_firstNew D post xp S0 a0 x1 x2) : xI D cy X l yX11_firstNew wz_X11_firstNew r_X11_firstNew [.ref a0, .int x1, .int x2] S0 (fun r S9 => wX D S0 S9 ∧ post r S9) (fun E S9 => wX D S0 S9 ∧ xp E S9) := by
  intro sz
  refine vx_ofW (cc := cX11_firstNew) (maxL := 3) (ret := (some .int)) (by decide) rfl ?_
  intro p e s m args below meth c s₁ B hml hexc hv
  obtain ⟨rfl, hsz, hP, hK, hD0, hRO⟩ := hv
  have hts := atoms_spec (ws := wz_X11_firstNew) B.pre
  have hown : s.vm.findClass RX11 = some m.cls := findClass_of_methodNamed B.named
  subst hsz
  have hD := hD0.self (sz := s.heap.size)
  have F : CallFix p m c cX11_firstNew 3 s _ wz_X11_firstNew RX11 := ⟨B.exec, B.bytes, hml, hown, hts⟩
  have hr := B.returns
  have hlocks := B.notSynchronized
  generalize hAe : va_A (wL cy X S0) s.heap.size = A at hD hK ⊢
  have hA : ∀ q, s.heap.size ≤ q → A q := fun q h => by rw [← hAe]; exact Or.inr h
  have hW : wO D cy X A s.heap S0 s.heap [] := ⟨hP, hD, va_S.rf, hA, hRO⟩
  have hl := lv_entry ([.ref a0, .int x1, .int x2]) (n := 3) (Nat.le_of_ble_eq_true rfl)
  rw [lg_entry_eq]
  generalize (lg_sl ([.ref a0, .int x1, .int x2]) ++ List.replicate (3 - (lg_sl ([.ref a0, .int x1, .int x2])).length) Slot.unset).toArray = ls at hl ⊢
  have hl : lv_has ls 3 [(0, .ref a0), (1, .int x1), (2, .int x2)] := hl
  unfold wp_X11_firstNew at hp
  exact t_X11_firstNew_0 F hr hlocks hK hl0 hexc hp hW wX.rf (lv_sub hl [0, 1, 2] rfl) hL_a0 hK_a0
def wp_X11_gameCount_0 (D : wD) (post : Int32 → wS → Prop) (xp : String → wS → Prop)  (S : wS) (a0 : Nat) (x1 : Int32) : Prop :=
wp_X11_shelfOf D (fun r_1 S_2 => 
∃ y_3 : Nat, r_1 = some y_3 ∧ wM D S_2 y_3 ∧ sK S_2 y_3 = 15 ∧
wp_X10_size D (fun r_5 S_6 => 
post r_5 S_6) S_2 y_3) xp S a0 x1
abbrev r_X11_gameCount : Room := { frames := 7, cells := 1, slots := 6, locals := 141 }
def wp_X11_gameCount (D : wD) (post : Int32 → wS → Prop) (xp : String → wS → Prop) (S : wS) (a0 : Nat) (x1 : Int32) : Prop := wp_X11_gameCount_0 D post xp S a0 x1
set_option maxHeartbeats 4000000 in
set_option maxRecDepth 100000 in
theorem t_X11_gameCount_0 {p : Program} {l : Launch} {e : Env} {s : State} {m : MethodId} {args : Array Value} {below : List Frame} {meth : Method} {c : Code} {D : wD} {cy : Nat → ClassId} {X : va_W} {A : Nat → Prop} {S0 : wS} {post : Int32 → wS → Prop} {xp : String → wS → Prop} (F : CallFix p m c cX11_gameCount 2 s args wz_X11_gameCount RX11) (hr : meth.sig.returnType = (some .int)) (hlocks : meth.locks = false) (hK : wK D cy A s) (hl0 : l.stackTraces = false) (hexc : ∀ x ∈ c.exceptionTable.toList, False) : ∀ {S : wS} {H : Heap} {locs : List Loc} {ls : Array Slot} {a0 : Nat} {x1 : Int32}, wp_X11_gameCount_0 D post xp S a0 x1 → wO D cy X A s.heap S H locs → wX D S0 S → lv_has ls 2 [(0, .ref a0), (1, .int x1)] → wM D S a0 → sK S a0 = 16 → W p l e r_X11_gameCount s m args below meth c H locs 0 0 (vx_MQ below (va_Qi (fun r S9 => wX D S0 S9 ∧ post r S9) (wB D cy X A) A) (wEx D cy X A (fun E S9 => wX D S0 S9 ∧ xp E S9)) args s 1 6 A) (F0 m 0 ls []) := by
  obtain ⟨hx, hb, hml, hown, hts⟩ := id F
  have hwg : ∀ w ∈ WG, w.before args s = true := fun w h => hts w (List.mem_cons_of_mem _ h)
  intro S H locs ls a0 x1 hp hW hE hl hL_a0 hK_a0
  unfold wp_X11_gameCount_0 at hp
  refine lv_aload_n hx hb dX11_gameCount_0 rfl (lv_at hl 0 rfl) ?_
  refine lv_iload_n hx hb dX11_gameCount_1 rfl (lv_at hl 1 rfl) ?_
  refine x_callR (vx_runV (As := [.int x1]) (rest := []) F (c_X11_shelfOf l hl0 hL_a0 hK_a0 hp H.size) (cwV (C := RX11) 1 hts (wg_V wm_RX11_337 wy_X11_shelfOf) rfl rfl rfl (by decide +kernel) ⟨Nat.le_of_ble_eq_true rfl, Nat.le_of_ble_eq_true rfl⟩) (w_preV hK hW hL_a0 hK_a0 (by decide) rfl) rfl rfl hl.1 rfl (lv_room (Nat.le_of_ble_eq_true rfl)) dX11_gameCount_2 ⟨Nat.le_of_ble_eq_true rfl, Nat.le_of_ble_eq_true rfl⟩) hW (fun E ce q9 S9 H locs hp hW h1 h2 h3 => x_out hexc hlocks ⟨hE.trans hp.1, hp.2⟩ hW h1 h2 h3 (by decide) (by decide)) (fun r_1 S_2 H locs hp hW => ?_)
  obtain ⟨hX_S_2, hp⟩ := hp
  refine W.widen (k := 1) (n := 6) (by decide) (by decide) ?_
  have hE := hE.trans hX_S_2
  have hK_a0 : sK S_2 a0 = 16 := (hX_S_2.2 a0 hL_a0).1.trans hK_a0
  have hL_a0 : wM D S_2 a0 := hX_S_2.M hL_a0
  obtain ⟨y_3, h_4, hL_y_3, hK_y_3, hp⟩ := hp
  revert hp; revert hl; revert hW; revert hE; subst h_4; intro hE hW hl hp
  refine w_callI (va_runV (As := []) (rest := []) F (c_X10_size l hL_y_3 hK_y_3 hp H.size) (cwV (C := RX10) 0 hts (wg_V wm_RX11_343 wy_X10_size) rfl rfl rfl (by decide +kernel) ⟨Nat.le_of_ble_eq_true rfl, Nat.le_of_ble_eq_true rfl⟩) (w_preV hK hW hL_y_3 hK_y_3 (by decide) rfl) rfl rfl hl.1 rfl (lv_room (Nat.le_of_ble_eq_true rfl)) dX11_gameCount_5 ⟨Nat.le_of_ble_eq_true rfl, Nat.le_of_ble_eq_true rfl⟩) hW (fun r_5 S_6 H locs hp hW => ?_)
  obtain ⟨hX_S_6, hp⟩ := hp
  refine W.widen (k := 1) (n := 6) (by decide) (by decide) ?_
  have hE := hE.trans hX_S_6
  have hK_a0 : sK S_6 a0 = 16 := (hX_S_6.2 a0 hL_a0).1.trans hK_a0
  have hL_a0 : wM D S_6 a0 := hX_S_6.M hL_a0
  refine vx_ret ?_
  exact w_iret hx hb hr hlocks hW ⟨hE, hp⟩ dX11_gameCount_8
set_option maxHeartbeats 4000000 in
set_option maxRecDepth 100000 in
theorem c_X11_gameCount (l : Launch) {D : wD} {cy : Nat → ClassId} {X : va_W} {S0 : wS} {post : Int32 → wS → Prop} {xp : String → wS → Prop} (hl0 : l.stackTraces = false) {a0 : Nat} {x1 : Int32} (hL_a0 : wM D S0 a0) (hK_a0 : sK S0 a0 = 16) (hp : wp_X11_gameCount D post xp S0 a0 x1) : xI D cy X l yX11_gameCount wz_X11_gameCount r_X11_gameCount [.ref a0, .int x1] S0 (fun r S9 => wX D S0 S9 ∧ post r S9) (fun E S9 => wX D S0 S9 ∧ xp E S9) := by
  intro sz
  refine vx_ofW (cc := cX11_gameCount) (maxL := 2) (ret := (some .int)) (by decide) rfl ?_
  intro p e s m args below meth c s₁ B hml hexc hv
  obtain ⟨rfl, hsz, hP, hK, hD0, hRO⟩ := hv
  have hts := atoms_spec (ws := wz_X11_gameCount) B.pre
  have hown : s.vm.findClass RX11 = some m.cls := findClass_of_methodNamed B.named
  subst hsz
  have hD := hD0.self (sz := s.heap.size)
  have F : CallFix p m c cX11_gameCount 2 s _ wz_X11_gameCount RX11 := ⟨B.exec, B.bytes, hml, hown, hts⟩
  have hr := B.returns
  have hlocks := B.notSynchronized
  generalize hAe : va_A (wL cy X S0) s.heap.size = A at hD hK ⊢
  have hA : ∀ q, s.heap.size ≤ q → A q := fun q h => by rw [← hAe]; exact Or.inr h
  have hW : wO D cy X A s.heap S0 s.heap [] := ⟨hP, hD, va_S.rf, hA, hRO⟩
  have hl := lv_entry ([.ref a0, .int x1]) (n := 2) (Nat.le_of_ble_eq_true rfl)
  rw [lg_entry_eq]
  generalize (lg_sl ([.ref a0, .int x1]) ++ List.replicate (2 - (lg_sl ([.ref a0, .int x1])).length) Slot.unset).toArray = ls at hl ⊢
  have hl : lv_has ls 2 [(0, .ref a0), (1, .int x1)] := hl
  unfold wp_X11_gameCount at hp
  exact t_X11_gameCount_0 F hr hlocks hK hl0 hexc hp hW wX.rf (lv_sub hl [0, 1] rfl) hL_a0 hK_a0
def wp_X11_gameLength_0 (D : wD) (post : Int32 → wS → Prop) (xp : String → wS → Prop)  (S : wS) (a0 : Nat) (x1 : Int32) (x2 : Int32) : Prop :=
wp_X11_gameOf D (fun r_1 S_2 => 
∃ y_3 : Nat, r_1 = some y_3 ∧ wM D S_2 y_3 ∧ sK S_2 y_3 = 8 ∧
post (sI S_2 y_3 3) S_2) xp S a0 x1 x2
abbrev r_X11_gameLength : Room := { frames := 8, cells := 2, slots := 12, locals := 164 }
def wp_X11_gameLength (D : wD) (post : Int32 → wS → Prop) (xp : String → wS → Prop) (S : wS) (a0 : Nat) (x1 : Int32) (x2 : Int32) : Prop := wp_X11_gameLength_0 D post xp S a0 x1 x2
set_option maxHeartbeats 4000000 in
set_option maxRecDepth 100000 in
theorem t_X11_gameLength_0 {p : Program} {l : Launch} {e : Env} {s : State} {m : MethodId} {args : Array Value} {below : List Frame} {meth : Method} {c : Code} {D : wD} {cy : Nat → ClassId} {X : va_W} {A : Nat → Prop} {S0 : wS} {post : Int32 → wS → Prop} {xp : String → wS → Prop} (F : CallFix p m c cX11_gameLength 3 s args wz_X11_gameLength RX11) (hr : meth.sig.returnType = (some .int)) (hlocks : meth.locks = false) (hK : wK D cy A s) (hl0 : l.stackTraces = false) (hexc : ∀ x ∈ c.exceptionTable.toList, False) : ∀ {S : wS} {H : Heap} {locs : List Loc} {ls : Array Slot} {a0 : Nat} {x1 : Int32} {x2 : Int32}, wp_X11_gameLength_0 D post xp S a0 x1 x2 → wO D cy X A s.heap S H locs → wX D S0 S → lv_has ls 3 [(0, .ref a0), (1, .int x1), (2, .int x2)] → wM D S a0 → sK S a0 = 16 → W p l e r_X11_gameLength s m args below meth c H locs 0 0 (vx_MQ below (va_Qi (fun r S9 => wX D S0 S9 ∧ post r S9) (wB D cy X A) A) (wEx D cy X A (fun E S9 => wX D S0 S9 ∧ xp E S9)) args s 2 12 A) (F0 m 0 ls []) := by
  obtain ⟨hx, hb, hml, hown, hts⟩ := id F
  have hwg : ∀ w ∈ WG, w.before args s = true := fun w h => hts w (List.mem_cons_of_mem _ h)
  have i_8 : ∀ w ∈ u_ws RX3 TX3 9, w ∈ wz_X11_gameLength := fun w h => List.mem_cons_of_mem _ (wu_8 w h)
  intro S H locs ls a0 x1 x2 hp hW hE hl hL_a0 hK_a0
  unfold wp_X11_gameLength_0 at hp
  refine lv_aload_n hx hb dX11_gameLength_0 rfl (lv_at hl 0 rfl) ?_
  refine lv_iload_n hx hb dX11_gameLength_1 rfl (lv_at hl 1 rfl) ?_
  refine lv_iload_n hx hb dX11_gameLength_2 rfl (lv_at hl 2 rfl) ?_
  refine x_callR (vx_runV (As := [.int x1, .int x2]) (rest := []) F (c_X11_gameOf l hl0 hL_a0 hK_a0 hp H.size) (cwV (C := RX11) 2 hts (wg_V wm_RX11_355 wy_X11_gameOf) rfl rfl rfl (by decide +kernel) ⟨Nat.le_of_ble_eq_true rfl, Nat.le_of_ble_eq_true rfl⟩) (w_preV hK hW hL_a0 hK_a0 (by decide) rfl) rfl rfl hl.1 rfl (lv_room (Nat.le_of_ble_eq_true rfl)) dX11_gameLength_3 ⟨Nat.le_of_ble_eq_true rfl, Nat.le_of_ble_eq_true rfl⟩) hW (fun E ce q9 S9 H locs hp hW h1 h2 h3 => x_out hexc hlocks ⟨hE.trans hp.1, hp.2⟩ hW h1 h2 h3 (by decide) (by decide)) (fun r_1 S_2 H locs hp hW => ?_)
  obtain ⟨hX_S_2, hp⟩ := hp
  refine W.widen (k := 2) (n := 12) (by decide) (by decide) ?_
  have hE := hE.trans hX_S_2
  have hK_a0 : sK S_2 a0 = 16 := (hX_S_2.2 a0 hL_a0).1.trans hK_a0
  have hL_a0 : wM D S_2 a0 := hX_S_2.M hL_a0
  obtain ⟨y_3, h_4, hL_y_3, hK_y_3, hp⟩ := hp
  revert hp; revert hl; revert hW; revert hE; subst h_4; intro hE hW hl hp
  refine w_getN (k := 8) (f := 3) (T := TX3) (v := .int (sI S_2 y_3 3)) F hK hW hL_y_3 hK_y_3 (by decide) rfl rfl (by decide) i_8 (hK.2.1 (.fieldLinkNest "OpeningsCabinet" 157 "OpeningsCabinet$Game" "length" "I" "OpeningsCabinet") (by decide +kernel)) rfl dX11_gameLength_6 ?_
  refine vx_ret ?_
  exact w_iret hx hb hr hlocks hW ⟨hE, hp⟩ dX11_gameLength_9
set_option maxHeartbeats 4000000 in
set_option maxRecDepth 100000 in
theorem c_X11_gameLength (l : Launch) {D : wD} {cy : Nat → ClassId} {X : va_W} {S0 : wS} {post : Int32 → wS → Prop} {xp : String → wS → Prop} (hl0 : l.stackTraces = false) {a0 : Nat} {x1 : Int32} {x2 : Int32} (hL_a0 : wM D S0 a0) (hK_a0 : sK S0 a0 = 16) (hp : wp_X11_gameLength D post xp S0 a0 x1 x2) : xI D cy X l yX11_gameLength wz_X11_gameLength r_X11_gameLength [.ref a0, .int x1, .int x2] S0 (fun r S9 => wX D S0 S9 ∧ post r S9) (fun E S9 => wX D S0 S9 ∧ xp E S9) := by
  intro sz
  refine vx_ofW (cc := cX11_gameLength) (maxL := 3) (ret := (some .int)) (by decide) rfl ?_
  intro p e s m args below meth c s₁ B hml hexc hv
  obtain ⟨rfl, hsz, hP, hK, hD0, hRO⟩ := hv
  have hts := atoms_spec (ws := wz_X11_gameLength) B.pre
  have hown : s.vm.findClass RX11 = some m.cls := findClass_of_methodNamed B.named
  subst hsz
  have hD := hD0.self (sz := s.heap.size)
  have F : CallFix p m c cX11_gameLength 3 s _ wz_X11_gameLength RX11 := ⟨B.exec, B.bytes, hml, hown, hts⟩
  have hr := B.returns
  have hlocks := B.notSynchronized
  generalize hAe : va_A (wL cy X S0) s.heap.size = A at hD hK ⊢
  have hA : ∀ q, s.heap.size ≤ q → A q := fun q h => by rw [← hAe]; exact Or.inr h
  have hW : wO D cy X A s.heap S0 s.heap [] := ⟨hP, hD, va_S.rf, hA, hRO⟩
  have hl := lv_entry ([.ref a0, .int x1, .int x2]) (n := 3) (Nat.le_of_ble_eq_true rfl)
  rw [lg_entry_eq]
  generalize (lg_sl ([.ref a0, .int x1, .int x2]) ++ List.replicate (3 - (lg_sl ([.ref a0, .int x1, .int x2])).length) Slot.unset).toArray = ls at hl ⊢
  have hl : lv_has ls 3 [(0, .ref a0), (1, .int x1), (2, .int x2)] := hl
  unfold wp_X11_gameLength at hp
  exact t_X11_gameLength_0 F hr hlocks hK hl0 hexc hp hW wX.rf (lv_sub hl [0, 1, 2] rfl) hL_a0 hK_a0
def wp_X11_gamesOf_0 (D : wD) (post : Int32 → wS → Prop) (xp : String → wS → Prop)  (S : wS) (a0 : Nat) (x1 : Int32) (x2 : Int32) : Prop :=
wp_X11_mustBeLawful D (fun S_2 => 
∃ y_3 : Nat, sR S_2 a0 10 = some y_3 ∧ wM D S_2 y_3 ∧ sK S_2 y_3 = 6 ∧
wp_X11_shelfOf D (fun r_4 S_5 => 
∃ y_6 : Nat, sR S_5 a0 2 = some y_6 ∧ wM D S_5 y_6 ∧ sK S_5 y_6 = 12 ∧
∃ y_7 : Nat, r_4 = some y_7 ∧ wM D S_5 y_7 ∧ sK S_5 y_7 = 15 ∧
wp_X1_gather D (fun S_10 => 
∃ y_11 : Nat, sR S_10 a0 10 = some y_11 ∧ wM D S_10 y_11 ∧ sK S_10 y_11 = 6 ∧
wp_X11_followerAt D (fun r_12 S_13 => 
wp_X1_gamesWith D (fun r_14 S_15 => 
post r_14 S_15) S_13 y_11 r_12) xp S_10 a0 x2) S_5 y_3 y_7 y_6) xp S_2 a0 x1) xp S a0
abbrev r_X11_gamesOf : Room := { frames := 8, cells := 3, slots := 18, locals := 190 }
def wp_X11_gamesOf (D : wD) (post : Int32 → wS → Prop) (xp : String → wS → Prop) (S : wS) (a0 : Nat) (x1 : Int32) (x2 : Int32) : Prop := wp_X11_gamesOf_0 D post xp S a0 x1 x2
set_option maxHeartbeats 4000000 in
set_option maxRecDepth 100000 in
theorem t_X11_gamesOf_0 {p : Program} {l : Launch} {e : Env} {s : State} {m : MethodId} {args : Array Value} {below : List Frame} {meth : Method} {c : Code} {D : wD} {cy : Nat → ClassId} {X : va_W} {A : Nat → Prop} {S0 : wS} {post : Int32 → wS → Prop} {xp : String → wS → Prop} (F : CallFix p m c cX11_gamesOf 3 s args wz_X11_gamesOf RX11) (hr : meth.sig.returnType = (some .int)) (hlocks : meth.locks = false) (hK : wK D cy A s) (hl0 : l.stackTraces = false) (hexc : ∀ x ∈ c.exceptionTable.toList, False) : ∀ {S : wS} {H : Heap} {locs : List Loc} {ls : Array Slot} {a0 : Nat} {x1 : Int32} {x2 : Int32}, wp_X11_gamesOf_0 D post xp S a0 x1 x2 → wO D cy X A s.heap S H locs → wX D S0 S → lv_has ls 3 [(0, .ref a0), (1, .int x1), (2, .int x2)] → wM D S a0 → sK S a0 = 16 → W p l e r_X11_gamesOf s m args below meth c H locs 0 0 (vx_MQ below (va_Qi (fun r S9 => wX D S0 S9 ∧ post r S9) (wB D cy X A) A) (wEx D cy X A (fun E S9 => wX D S0 S9 ∧ xp E S9)) args s 3 18 A) (F0 m 0 ls []) := by
  obtain ⟨hx, hb, hml, hown, hts⟩ := id F
  have hwg : ∀ w ∈ WG, w.before args s = true := fun w h => hts w (List.mem_cons_of_mem _ h)
  have i_16 : ∀ w ∈ u_ws RX11 TX11 18, w ∈ wz_X11_gamesOf := fun w h => List.mem_cons_of_mem _ (wu_16 w h)
  have k_28 := hwg _ wf_RX11_28
  have k_84 := hwg _ wf_RX11_84
  intro S H locs ls a0 x1 x2 hp hW hE hl hL_a0 hK_a0
  unfold wp_X11_gamesOf_0 at hp
  refine lv_aload_n hx hb dX11_gamesOf_0 rfl (lv_at hl 0 rfl) ?_
  refine x_callV (vx_runV (As := []) (rest := []) F (c_X11_mustBeLawful l hl0 hL_a0 hK_a0 hp H.size) (cwV (C := RX11) 0 hts (wg_V wm_RX11_217 wy_X11_mustBeLawful) rfl rfl rfl (by decide +kernel) ⟨Nat.le_of_ble_eq_true rfl, Nat.le_of_ble_eq_true rfl⟩) (w_preV hK hW hL_a0 hK_a0 (by decide) rfl) rfl rfl hl.1 rfl (lv_room (Nat.le_of_ble_eq_true rfl)) dX11_gamesOf_1 ⟨Nat.le_of_ble_eq_true rfl, Nat.le_of_ble_eq_true rfl⟩) hW (fun E ce q9 S9 H locs hp hW h1 h2 h3 => x_out hexc hlocks ⟨hE.trans hp.1, hp.2⟩ hW h1 h2 h3 (by decide) (by decide)) (fun S_2 H locs hp hW => ?_)
  obtain ⟨hX_S_2, hp⟩ := hp
  refine W.widen (k := 1) (n := 6) (by decide) (by decide) ?_
  have hE := hE.trans hX_S_2
  have hK_a0 : sK S_2 a0 = 16 := (hX_S_2.2 a0 hL_a0).1.trans hK_a0
  have hL_a0 : wM D S_2 a0 := hX_S_2.M hL_a0
  refine lv_aload_n hx hb dX11_gamesOf_4 rfl (lv_at hl 0 rfl) ?_
  obtain ⟨y_3, ey_3, hL_y_3, hK_y_3, hp⟩ := hp
  refine w_get (k := 16) (f := 10) (T := TX11) (v := .ref y_3) F hK hW hL_a0 hK_a0 (by decide) rfl rfl (by decide) i_16 k_84 (by rw [show wv 16 10 S_2 a0 = va_rf (sR S_2 a0 10) from rfl, ey_3]; rfl) dX11_gamesOf_5 ?_
  refine lv_aload_n hx hb dX11_gamesOf_8 rfl (lv_at hl 0 rfl) ?_
  refine lv_iload_n hx hb dX11_gamesOf_9 rfl (lv_at hl 1 rfl) ?_
  refine x_callR (vx_runV (As := [.int x1]) (rest := [.ref y_3]) F (c_X11_shelfOf l hl0 hL_a0 hK_a0 hp H.size) (cwV (C := RX11) 1 hts (wg_V wm_RX11_337 wy_X11_shelfOf) rfl rfl rfl (by decide +kernel) ⟨Nat.le_of_ble_eq_true rfl, Nat.le_of_ble_eq_true rfl⟩) (w_preV hK hW hL_a0 hK_a0 (by decide) rfl) rfl rfl hl.1 rfl (lv_room (Nat.le_of_ble_eq_true rfl)) dX11_gamesOf_10 ⟨Nat.le_of_ble_eq_true rfl, Nat.le_of_ble_eq_true rfl⟩) hW (fun E ce q9 S9 H locs hp hW h1 h2 h3 => x_out hexc hlocks ⟨hE.trans hp.1, hp.2⟩ hW h1 h2 h3 (by decide) (by decide)) (fun r_4 S_5 H locs hp hW => ?_)
  obtain ⟨hX_S_5, hp⟩ := hp
  refine W.widen (k := 2) (n := 12) (by decide) (by decide) ?_
  have hE := hE.trans hX_S_5
  have hK_a0 : sK S_5 a0 = 16 := (hX_S_5.2 a0 hL_a0).1.trans hK_a0
  have hL_a0 : wM D S_5 a0 := hX_S_5.M hL_a0
  have hK_y_3 : sK S_5 y_3 = 6 := (hX_S_5.2 y_3 hL_y_3).1.trans hK_y_3
  have hL_y_3 : wM D S_5 y_3 := hX_S_5.M hL_y_3
  refine lv_aload_n hx hb dX11_gamesOf_13 rfl (lv_at hl 0 rfl) ?_
  obtain ⟨y_6, ey_6, hL_y_6, hK_y_6, hp⟩ := hp
  refine w_get (k := 16) (f := 2) (T := TX11) (v := .ref y_6) F hK hW hL_a0 hK_a0 (by decide) rfl rfl (by decide) i_16 k_28 (by rw [show wv 16 2 S_5 a0 = va_rf (sR S_5 a0 2) from rfl, ey_6]; rfl) dX11_gamesOf_14 ?_
  obtain ⟨y_7, h_8, hL_y_7, hK_y_7, hp⟩ := hp
  revert hp; revert hl; revert hW; revert hE; subst h_8; intro hE hW hl hp
  refine w_callV (va_runV (As := [.ref y_7, .ref y_6]) (rest := []) F (c_X1_gather l hL_y_3 hK_y_3 hL_y_7 hK_y_7 hL_y_6 hK_y_6 hp H.size) (cwV (C := RX1) 2 hts (wg_V wm_RX11_384 wy_X1_gather) rfl rfl rfl (by decide +kernel) ⟨Nat.le_of_ble_eq_true rfl, Nat.le_of_ble_eq_true rfl⟩) (w_preV hK hW hL_y_3 hK_y_3 (by decide) rfl) rfl rfl hl.1 rfl (lv_room (Nat.le_of_ble_eq_true rfl)) dX11_gamesOf_17 ⟨Nat.le_of_ble_eq_true rfl, Nat.le_of_ble_eq_true rfl⟩) hW (fun S_10 H locs hp hW => ?_)
  obtain ⟨hX_S_10, hp⟩ := hp
  refine W.widen (k := 2) (n := 12) (by decide) (by decide) ?_
  have hE := hE.trans hX_S_10
  have hK_a0 : sK S_10 a0 = 16 := (hX_S_10.2 a0 hL_a0).1.trans hK_a0
  have hL_a0 : wM D S_10 a0 := hX_S_10.M hL_a0
  refine lv_aload_n hx hb dX11_gamesOf_20 rfl (lv_at hl 0 rfl) ?_
  obtain ⟨y_11, ey_11, hL_y_11, hK_y_11, hp⟩ := hp
  refine w_get (k := 16) (f := 10) (T := TX11) (v := .ref y_11) F hK hW hL_a0 hK_a0 (by decide) rfl rfl (by decide) i_16 k_84 (by rw [show wv 16 10 S_10 a0 = va_rf (sR S_10 a0 10) from rfl, ey_11]; rfl) dX11_gamesOf_21 ?_
  refine lv_aload_n hx hb dX11_gamesOf_24 rfl (lv_at hl 0 rfl) ?_
  refine lv_iload_n hx hb dX11_gamesOf_25 rfl (lv_at hl 2 rfl) ?_
  refine x_callI (vx_runV (As := [.int x2]) (rest := [.ref y_11]) F (c_X11_followerAt l hl0 hL_a0 hK_a0 hp H.size) (cwV (C := RX11) 1 hts (wg_V wm_RX11_391 wy_X11_followerAt) rfl rfl rfl (by decide +kernel) ⟨Nat.le_of_ble_eq_true rfl, Nat.le_of_ble_eq_true rfl⟩) (w_preV hK hW hL_a0 hK_a0 (by decide) rfl) rfl rfl hl.1 rfl (lv_room (Nat.le_of_ble_eq_true rfl)) dX11_gamesOf_26 ⟨Nat.le_of_ble_eq_true rfl, Nat.le_of_ble_eq_true rfl⟩) hW (fun E ce q9 S9 H locs hp hW h1 h2 h3 => x_out hexc hlocks ⟨hE.trans hp.1, hp.2⟩ hW h1 h2 h3 (by decide) (by decide)) (fun r_12 S_13 H locs hp hW => ?_)
  obtain ⟨hX_S_13, hp⟩ := hp
  refine W.widen (k := 3) (n := 18) (by decide) (by decide) ?_
  have hE := hE.trans hX_S_13
  have hK_a0 : sK S_13 a0 = 16 := (hX_S_13.2 a0 hL_a0).1.trans hK_a0
  have hL_a0 : wM D S_13 a0 := hX_S_13.M hL_a0
  have hK_y_11 : sK S_13 y_11 = 6 := (hX_S_13.2 y_11 hL_y_11).1.trans hK_y_11
  have hL_y_11 : wM D S_13 y_11 := hX_S_13.M hL_y_11
  refine w_callI (va_runV (As := [.int r_12]) (rest := []) F (c_X1_gamesWith l hL_y_11 hK_y_11 hp H.size) (cwV (C := RX1) 1 hts (wg_V wm_RX11_394 wy_X1_gamesWith) rfl rfl rfl (by decide +kernel) ⟨Nat.le_of_ble_eq_true rfl, Nat.le_of_ble_eq_true rfl⟩) (w_preV hK hW hL_y_11 hK_y_11 (by decide) rfl) rfl rfl hl.1 rfl (lv_room (Nat.le_of_ble_eq_true rfl)) dX11_gamesOf_29 ⟨Nat.le_of_ble_eq_true rfl, Nat.le_of_ble_eq_true rfl⟩) hW (fun r_14 S_15 H locs hp hW => ?_)
  obtain ⟨hX_S_15, hp⟩ := hp
  refine W.widen (k := 3) (n := 18) (by decide) (by decide) ?_
  have hE := hE.trans hX_S_15
  have hK_a0 : sK S_15 a0 = 16 := (hX_S_15.2 a0 hL_a0).1.trans hK_a0
  have hL_a0 : wM D S_15 a0 := hX_S_15.M hL_a0
  refine vx_ret ?_
  exact w_iret hx hb hr hlocks hW ⟨hE, hp⟩ dX11_gamesOf_32
set_option maxHeartbeats 4000000 in
set_option maxRecDepth 100000 in
theorem c_X11_gamesOf (l : Launch) {D : wD} {cy : Nat → ClassId} {X : va_W} {S0 : wS} {post : Int32 → wS → Prop} {xp : String → wS → Prop} (hl0 : l.stackTraces = false) {a0 : Nat} {x1 : Int32} {x2 : Int32} (hL_a0 : wM D S0 a0) (hK_a0 : sK S0 a0 = 16) (hp : wp_X11_gamesOf D post xp S0 a0 x1 x2) : xI D cy X l yX11_gamesOf wz_X11_gamesOf r_X11_gamesOf [.ref a0, .int x1, .int x2] S0 (fun r S9 => wX D S0 S9 ∧ post r S9) (fun E S9 => wX D S0 S9 ∧ xp E S9) := by
  intro sz
  refine vx_ofW (cc := cX11_gamesOf) (maxL := 3) (ret := (some .int)) (by decide) rfl ?_
  intro p e s m args below meth c s₁ B hml hexc hv
  obtain ⟨rfl, hsz, hP, hK, hD0, hRO⟩ := hv
  have hts := atoms_spec (ws := wz_X11_gamesOf) B.pre
  have hown : s.vm.findClass RX11 = some m.cls := findClass_of_methodNamed B.named
  subst hsz
  have hD := hD0.self (sz := s.heap.size)
  have F : CallFix p m c cX11_gamesOf 3 s _ wz_X11_gamesOf RX11 := ⟨B.exec, B.bytes, hml, hown, hts⟩
  have hr := B.returns
  have hlocks := B.notSynchronized
  generalize hAe : va_A (wL cy X S0) s.heap.size = A at hD hK ⊢
  have hA : ∀ q, s.heap.size ≤ q → A q := fun q h => by rw [← hAe]; exact Or.inr h
  have hW : wO D cy X A s.heap S0 s.heap [] := ⟨hP, hD, va_S.rf, hA, hRO⟩
  have hl := lv_entry ([.ref a0, .int x1, .int x2]) (n := 3) (Nat.le_of_ble_eq_true rfl)
  rw [lg_entry_eq]
  generalize (lg_sl ([.ref a0, .int x1, .int x2]) ++ List.replicate (3 - (lg_sl ([.ref a0, .int x1, .int x2])).length) Slot.unset).toArray = ls at hl ⊢
  have hl : lv_has ls 3 [(0, .ref a0), (1, .int x1), (2, .int x2)] := hl
  unfold wp_X11_gamesOf at hp
  exact t_X11_gamesOf_0 F hr hlocks hK hl0 hexc hp hW wX.rf (lv_sub hl [0, 1, 2] rfl) hL_a0 hK_a0
def wp_X1_init_0 (D : wD) (post : wS → Prop)  (S : wS) (a0 : Nat) (a1 : Nat) : Prop :=
¬ (1728 : Int32) < 0 ∧ ((1728 : Int32)).toNatClampNeg ≤ 1728 ∧ ∀ y_1 : Nat, ¬ wM D S y_1 → ∀ S_2 : wS, S_2 = nA S y_1 21 ((1728 : Int32)).toNatClampNeg →
∀ S_4 : wS, S_4 = uR S_2 a0 1 (some y_1) →
¬ (1728 : Int32) < 0 ∧ ((1728 : Int32)).toNatClampNeg ≤ 1728 ∧ ∀ y_5 : Nat, ¬ wM D S_4 y_5 → ∀ S_6 : wS, S_6 = nA S_4 y_5 21 ((1728 : Int32)).toNatClampNeg →
∀ S_8 : wS, S_8 = uR S_6 a0 2 (some y_5) →
¬ (1728 : Int32) < 0 ∧ ((1728 : Int32)).toNatClampNeg ≤ 1728 ∧ ∀ y_9 : Nat, ¬ wM D S_8 y_9 → ∀ S_10 : wS, S_10 = nA S_8 y_9 22 ((1728 : Int32)).toNatClampNeg →
∀ S_12 : wS, S_12 = uR S_10 a0 3 (some y_9) →
∀ S_13 : wS, S_13 = uR S_12 a0 0 (some a1) →
post S_13
abbrev r_X1_init : Room := { frames := 1, cells := 3, slots := 5184, locals := 60 }
def wp_X1_init (D : wD) (post : wS → Prop) (S : wS) (a0 : Nat) (a1 : Nat) : Prop := wp_X1_init_0 D post S a0 a1
set_option maxHeartbeats 4000000 in
set_option maxRecDepth 100000 in
theorem t_X1_init_0 {p : Program} {l : Launch} {e : Env} {s : State} {m : MethodId} {args : Array Value} {below : List Frame} {meth : Method} {c : Code} {D : wD} {cy : Nat → ClassId} {X : va_W} {A : Nat → Prop} {S0 : wS} {post : wS → Prop} (F : CallFix p m c cX1_init 2 s args wz_X1_init RX1) (hr : meth.sig.returnType = none) (hlocks : meth.locks = false) (hK : wK D cy A s) (hin : meth.name = "<init>") : ∀ {S : wS} {H : Heap} {locs : List Loc} {ls : Array Slot} {a0 : Nat} {a1 : Nat}, wp_X1_init_0 D post S a0 a1 → wO D cy X A s.heap S H locs → wX D S0 S → lv_has ls 2 [(0, .ref a0), (1, .ref a1)] → wM D S a0 → sK S a0 = 6 → wM D S a1 → sK S a1 = 9 → W p l e r_X1_init s m args below meth c H locs 0 0 (MQ below (va_Qv (fun S9 => wX D S0 S9 ∧ post S9) (wB D cy X A) A) args s 3 5184 A) (F0 m 0 ls []) := by
  obtain ⟨hx, hb, hml, hown, hts⟩ := id F
  have hwg : ∀ w ∈ WG, w.before args s = true := fun w h => hts w (List.mem_cons_of_mem _ h)
  have i_6 : ∀ w ∈ u_ws RX1 TX1 4, w ∈ wz_X1_init := fun w h => List.mem_cons_of_mem _ (wu_6 w h)
  have k_15 := hwg _ wf_RX1_15
  have k_18 := hwg _ wf_RX1_18
  have k_22 := hwg _ wf_RX1_22
  have k_9 := hwg _ wf_RX1_9
  intro S H locs ls a0 a1 hp hW hE hl hL_a0 hK_a0 hL_a1 hK_a1
  unfold wp_X1_init_0 at hp
  refine lv_aload_n hx hb dX1_init_0 rfl (lv_at hl 0 rfl) ?_
  refine W.objInit hx hb hown (hwg _ wm_RX1_3) (hwg _ wobj.1) (hwg _ wobj.2) rfl (by rw [hml]; exact hl.1) rfl dX1_init_1 (Nat.le_of_ble_eq_true rfl) (Nat.le_of_ble_eq_true rfl) ?_
  refine W.eq (g2 := F0 m 4 ls []) rfl ?_
  refine lv_aload_n hx hb dX1_init_4 rfl (lv_at hl 0 rfl) ?_
  refine lv_sipush (v := 1728) hx hb dX1_init_5 (by decide) ?_
  obtain ⟨h_3, h_3b, hp⟩ := hp
  refine w_newaI F hK hW (hwg _ wr_int) h_3 (by omega) (Nat.le_of_ble_eq_true rfl) (Nat.le_trans (Nat.add_le_add_left h_3b _) (Nat.le_of_ble_eq_true rfl)) dX1_init_8 (fun y_1 H hq_y_1 hW => ?_)
  refine W.widen (k := 1) (n := 1728) (by decide) (Nat.add_le_add_left h_3b _) ?_
  obtain ⟨S_2, eS_2⟩ : ∃ z : wS, z = nA S y_1 21 ((1728 : Int32)).toNatClampNeg := ⟨_, rfl⟩
  rw [← eS_2] at hW
  replace hp := hp y_1 hq_y_1 S_2 eS_2
  have hX_S_2 : wX D S S_2 := by rw [eS_2]; exact wX_nA hq_y_1
  have hE := hE.trans hX_S_2
  have hK_a0 : sK S_2 a0 = 6 := (hX_S_2.2 a0 hL_a0).1.trans hK_a0
  have hL_a0 : wM D S_2 a0 := hX_S_2.M hL_a0
  have hK_a1 : sK S_2 a1 = 9 := (hX_S_2.2 a1 hL_a1).1.trans hK_a1
  have hL_a1 : wM D S_2 a1 := hX_S_2.M hL_a1
  have hL_y_1 : wM D S_2 y_1 := by rw [eS_2]; exact Or.inl (List.mem_append_right _ List.mem_cons_self)
  have hK_y_1 : sK S_2 y_1 = 21 := by rw [eS_2]; exact va_up_self _ _ _
  refine w_putRF (k := 6) (f := 1) (T := TX1) (g := (some y_1)) F hK hW hL_a0 hK_a0 (by decide) (by decide) rfl rfl (by decide) i_6 tyX1 tyX1_ok nmX1 k_9 rfl rfl hin rfl (ty := (.array .int)) rfl (v_narrow _ _) (v_fitsA _ _) dX1_init_10 (fun H locs hW => ?_)
  obtain ⟨S_4, eS_4⟩ : ∃ z : wS, z = uR S_2 a0 1 (some y_1) := ⟨_, rfl⟩
  rw [← eS_4] at hW
  replace hp := hp S_4 eS_4
  have hX_S_4 : wX D S_2 S_4 := by rw [eS_4]; exact wX_uR
  have hE := hE.trans hX_S_4
  have hK_a0 : sK S_4 a0 = 6 := (hX_S_4.2 a0 hL_a0).1.trans hK_a0
  have hL_a0 : wM D S_4 a0 := hX_S_4.M hL_a0
  have hK_a1 : sK S_4 a1 = 9 := (hX_S_4.2 a1 hL_a1).1.trans hK_a1
  have hL_a1 : wM D S_4 a1 := hX_S_4.M hL_a1
  refine lv_aload_n hx hb dX1_init_13 rfl (lv_at hl 0 rfl) ?_
  refine lv_sipush (v := 1728) hx hb dX1_init_14 (by decide) ?_
  obtain ⟨h_7, h_7b, hp⟩ := hp
  refine w_newaI F hK hW (hwg _ wr_int) h_7 (by omega) (Nat.le_of_ble_eq_true rfl) (Nat.le_trans (Nat.add_le_add_left h_7b _) (Nat.le_of_ble_eq_true rfl)) dX1_init_17 (fun y_5 H hq_y_5 hW => ?_)
  refine W.widen (k := 2) (n := 3456) (by decide) (Nat.add_le_add_left h_7b _) ?_
  obtain ⟨S_6, eS_6⟩ : ∃ z : wS, z = nA S_4 y_5 21 ((1728 : Int32)).toNatClampNeg := ⟨_, rfl⟩
  rw [← eS_6] at hW
  replace hp := hp y_5 hq_y_5 S_6 eS_6
  have hX_S_6 : wX D S_4 S_6 := by rw [eS_6]; exact wX_nA hq_y_5
  have hE := hE.trans hX_S_6
  have hK_a0 : sK S_6 a0 = 6 := (hX_S_6.2 a0 hL_a0).1.trans hK_a0
  have hL_a0 : wM D S_6 a0 := hX_S_6.M hL_a0
  have hK_a1 : sK S_6 a1 = 9 := (hX_S_6.2 a1 hL_a1).1.trans hK_a1
  have hL_a1 : wM D S_6 a1 := hX_S_6.M hL_a1
  have hL_y_5 : wM D S_6 y_5 := by rw [eS_6]; exact Or.inl (List.mem_append_right _ List.mem_cons_self)
  have hK_y_5 : sK S_6 y_5 = 21 := by rw [eS_6]; exact va_up_self _ _ _
  refine w_putRF (k := 6) (f := 2) (T := TX1) (g := (some y_5)) F hK hW hL_a0 hK_a0 (by decide) (by decide) rfl rfl (by decide) i_6 tyX1 tyX1_ok nmX1 k_15 rfl rfl hin rfl (ty := (.array .int)) rfl (v_narrow _ _) (v_fitsA _ _) dX1_init_19 (fun H locs hW => ?_)
  obtain ⟨S_8, eS_8⟩ : ∃ z : wS, z = uR S_6 a0 2 (some y_5) := ⟨_, rfl⟩
  rw [← eS_8] at hW
  replace hp := hp S_8 eS_8
  have hX_S_8 : wX D S_6 S_8 := by rw [eS_8]; exact wX_uR
  have hE := hE.trans hX_S_8
  have hK_a0 : sK S_8 a0 = 6 := (hX_S_8.2 a0 hL_a0).1.trans hK_a0
  have hL_a0 : wM D S_8 a0 := hX_S_8.M hL_a0
  have hK_a1 : sK S_8 a1 = 9 := (hX_S_8.2 a1 hL_a1).1.trans hK_a1
  have hL_a1 : wM D S_8 a1 := hX_S_8.M hL_a1
  refine lv_aload_n hx hb dX1_init_22 rfl (lv_at hl 0 rfl) ?_
  refine lv_sipush (v := 1728) hx hb dX1_init_23 (by decide) ?_
  obtain ⟨h_11, h_11b, hp⟩ := hp
  refine w_newaJ F hK hW (hwg _ wr_long) h_11 (by omega) (Nat.le_of_ble_eq_true rfl) (Nat.le_trans (Nat.add_le_add_left h_11b _) (Nat.le_of_ble_eq_true rfl)) dX1_init_26 (fun y_9 H hq_y_9 hW => ?_)
  refine W.widen (k := 3) (n := 5184) (by decide) (Nat.add_le_add_left h_11b _) ?_
  obtain ⟨S_10, eS_10⟩ : ∃ z : wS, z = nA S_8 y_9 22 ((1728 : Int32)).toNatClampNeg := ⟨_, rfl⟩
  rw [← eS_10] at hW
  replace hp := hp y_9 hq_y_9 S_10 eS_10
  have hX_S_10 : wX D S_8 S_10 := by rw [eS_10]; exact wX_nA hq_y_9
  have hE := hE.trans hX_S_10
  have hK_a0 : sK S_10 a0 = 6 := (hX_S_10.2 a0 hL_a0).1.trans hK_a0
  have hL_a0 : wM D S_10 a0 := hX_S_10.M hL_a0
  have hK_a1 : sK S_10 a1 = 9 := (hX_S_10.2 a1 hL_a1).1.trans hK_a1
  have hL_a1 : wM D S_10 a1 := hX_S_10.M hL_a1
  have hL_y_9 : wM D S_10 y_9 := by rw [eS_10]; exact Or.inl (List.mem_append_right _ List.mem_cons_self)
  have hK_y_9 : sK S_10 y_9 = 22 := by rw [eS_10]; exact va_up_self _ _ _
  refine w_putRF (k := 6) (f := 3) (T := TX1) (g := (some y_9)) F hK hW hL_a0 hK_a0 (by decide) (by decide) rfl rfl (by decide) i_6 tyX1 tyX1_ok nmX1 k_18 rfl rfl hin rfl (ty := (.array .long)) rfl (v_narrow _ _) (v_fitsA _ _) dX1_init_28 (fun H locs hW => ?_)
  obtain ⟨S_12, eS_12⟩ : ∃ z : wS, z = uR S_10 a0 3 (some y_9) := ⟨_, rfl⟩
  rw [← eS_12] at hW
  replace hp := hp S_12 eS_12
  have hX_S_12 : wX D S_10 S_12 := by rw [eS_12]; exact wX_uR
  have hE := hE.trans hX_S_12
  have hK_a0 : sK S_12 a0 = 6 := (hX_S_12.2 a0 hL_a0).1.trans hK_a0
  have hL_a0 : wM D S_12 a0 := hX_S_12.M hL_a0
  have hK_a1 : sK S_12 a1 = 9 := (hX_S_12.2 a1 hL_a1).1.trans hK_a1
  have hL_a1 : wM D S_12 a1 := hX_S_12.M hL_a1
  refine lv_aload_n hx hb dX1_init_31 rfl (lv_at hl 0 rfl) ?_
  refine lv_aload_n hx hb dX1_init_32 rfl (lv_at hl 1 rfl) ?_
  refine w_putRF (k := 6) (f := 0) (T := TX1) (g := (some a1)) F hK hW hL_a0 hK_a0 (by decide) (by decide) rfl rfl (by decide) i_6 tyX1 tyX1_ok nmX1 k_22 rfl rfl hin rfl (ty := (.object "OpeningsCabinet$MoveList")) rfl (v_narrow _ _) (v_fitsO _ _) dX1_init_33 (fun H locs hW => ?_)
  obtain ⟨S_13, eS_13⟩ : ∃ z : wS, z = uR S_12 a0 0 (some a1) := ⟨_, rfl⟩
  rw [← eS_13] at hW
  replace hp := hp S_13 eS_13
  have hX_S_13 : wX D S_12 S_13 := by rw [eS_13]; exact wX_uR
  have hE := hE.trans hX_S_13
  have hK_a0 : sK S_13 a0 = 6 := (hX_S_13.2 a0 hL_a0).1.trans hK_a0
  have hL_a0 : wM D S_13 a0 := hX_S_13.M hL_a0
  have hK_a1 : sK S_13 a1 = 9 := (hX_S_13.2 a1 hL_a1).1.trans hK_a1
  have hL_a1 : wM D S_13 a1 := hX_S_13.M hL_a1
  exact w_vret hx hb hr hlocks hW ⟨hE, hp⟩ dX1_init_36
set_option maxHeartbeats 4000000 in
set_option maxRecDepth 100000 in
theorem c_X1_init (l : Launch) {D : wD} {cy : Nat → ClassId} {X : va_W} {S0 : wS} {post : wS → Prop} {a0 : Nat} {a1 : Nat} (hL_a0 : wM D S0 a0) (hK_a0 : sK S0 a0 = 6) (hL_a1 : wM D S0 a1) (hK_a1 : sK S0 a1 = 9) (hp : wp_X1_init D post S0 a0 a1) : mV D cy X l yX1_init wz_X1_init r_X1_init [.ref a0, .ref a1] S0 (fun S9 => wX D S0 S9 ∧ post S9) := by
  intro sz
  refine Met.ofW (cc := cX1_init) (maxL := 2) (ret := none) (by decide) rfl ?_
  intro p e s m args below meth c s₁ B hml hv
  obtain ⟨rfl, hsz, hP, hK, hD0, hRO⟩ := hv
  have hts := atoms_spec (ws := wz_X1_init) B.pre
  have hown : s.vm.findClass RX1 = some m.cls := findClass_of_methodNamed B.named
  subst hsz
  have hD := hD0.self (sz := s.heap.size)
  have F : CallFix p m c cX1_init 2 s _ wz_X1_init RX1 := ⟨B.exec, B.bytes, hml, hown, hts⟩
  have hr := B.returns
  have hlocks := B.notSynchronized
  have hin : meth.name = "<init>" := (name_of_methodNamed B.named B.method).1
  generalize hAe : va_A (wL cy X S0) s.heap.size = A at hD hK ⊢
  have hA : ∀ q, s.heap.size ≤ q → A q := fun q h => by rw [← hAe]; exact Or.inr h
  have hW : wO D cy X A s.heap S0 s.heap [] := ⟨hP, hD, va_S.rf, hA, hRO⟩
  have hl := lv_entry ([.ref a0, .ref a1]) (n := 2) (Nat.le_of_ble_eq_true rfl)
  rw [lg_entry_eq]
  generalize (lg_sl ([.ref a0, .ref a1]) ++ List.replicate (2 - (lg_sl ([.ref a0, .ref a1])).length) Slot.unset).toArray = ls at hl ⊢
  have hl : lv_has ls 2 [(0, .ref a0), (1, .ref a1)] := hl
  unfold wp_X1_init at hp
  exact t_X1_init_0 F hr hlocks hK hin hp hW wX.rf (lv_sub hl [0, 1] rfl) hL_a0 hK_a0 hL_a1 hK_a1
def wp_X2_init_0 (D : wD) (post : wS → Prop)  (S : wS) (a0 : Nat) (a1 : Nat) : Prop :=
¬ (6 : Int32) < 0 ∧ ((6 : Int32)).toNatClampNeg ≤ 6 ∧ ∀ y_1 : Nat, ¬ wM D S y_1 → ∀ S_2 : wS, S_2 = nA S y_1 23 ((6 : Int32)).toNatClampNeg →
∀ S_4 : wS, S_4 = uR S_2 a0 1 (some y_1) →
¬ (6 : Int32) < 0 ∧ ((6 : Int32)).toNatClampNeg ≤ 6 ∧ ∀ y_5 : Nat, ¬ wM D S_4 y_5 → ∀ S_6 : wS, S_6 = nA S_4 y_5 21 ((6 : Int32)).toNatClampNeg →
∀ S_8 : wS, S_8 = uR S_6 a0 2 (some y_5) →
¬ (6 : Int32) < 0 ∧ ((6 : Int32)).toNatClampNeg ≤ 6 ∧ ∀ y_9 : Nat, ¬ wM D S_8 y_9 → ∀ S_10 : wS, S_10 = nA S_8 y_9 21 ((6 : Int32)).toNatClampNeg →
∀ S_12 : wS, S_12 = uR S_10 a0 3 (some y_9) →
¬ (0 : Int32) < 0 ∧ ((0 : Int32)).toNatClampNeg ≤ 0 ∧ ∀ y_13 : Nat, ¬ wM D S_12 y_13 → ∀ S_14 : wS, S_14 = nA S_12 y_13 21 ((0 : Int32)).toNatClampNeg →
∀ S_16 : wS, S_16 = uR S_14 a0 4 (some y_13) →
¬ (0 : Int32) < 0 ∧ ((0 : Int32)).toNatClampNeg ≤ 0 ∧ ∀ y_17 : Nat, ¬ wM D S_16 y_17 → ∀ S_18 : wS, S_18 = nA S_16 y_17 21 ((0 : Int32)).toNatClampNeg →
∀ S_20 : wS, S_20 = uR S_18 a0 5 (some y_17) →
¬ (0 : Int32) < 0 ∧ ((0 : Int32)).toNatClampNeg ≤ 0 ∧ ∀ y_21 : Nat, ¬ wM D S_20 y_21 → ∀ S_22 : wS, S_22 = nA S_20 y_21 21 ((0 : Int32)).toNatClampNeg →
∀ S_24 : wS, S_24 = uR S_22 a0 6 (some y_21) →
∀ S_25 : wS, S_25 = uI S_24 a0 7 (0 : Int32) →
∀ S_26 : wS, S_26 = uR S_25 a0 0 (some a1) →
post S_26
abbrev r_X2_init : Room := { frames := 1, cells := 6, slots := 18, locals := 60 }
def wp_X2_init (D : wD) (post : wS → Prop) (S : wS) (a0 : Nat) (a1 : Nat) : Prop := wp_X2_init_0 D post S a0 a1
set_option maxHeartbeats 4000000 in
set_option maxRecDepth 100000 in
theorem t_X2_init_0 {p : Program} {l : Launch} {e : Env} {s : State} {m : MethodId} {args : Array Value} {below : List Frame} {meth : Method} {c : Code} {D : wD} {cy : Nat → ClassId} {X : va_W} {A : Nat → Prop} {S0 : wS} {post : wS → Prop} (F : CallFix p m c cX2_init 2 s args wz_X2_init RX2) (hr : meth.sig.returnType = none) (hlocks : meth.locks = false) (hK : wK D cy A s) (hin : meth.name = "<init>") : ∀ {S : wS} {H : Heap} {locs : List Loc} {ls : Array Slot} {a0 : Nat} {a1 : Nat}, wp_X2_init_0 D post S a0 a1 → wO D cy X A s.heap S H locs → wX D S0 S → lv_has ls 2 [(0, .ref a0), (1, .ref a1)] → wM D S a0 → sK S a0 = 7 → wM D S a1 → sK S a1 = 5 → W p l e r_X2_init s m args below meth c H locs 0 0 (MQ below (va_Qv (fun S9 => wX D S0 S9 ∧ post S9) (wB D cy X A) A) args s 6 18 A) (F0 m 0 ls []) := by
  obtain ⟨hx, hb, hml, hown, hts⟩ := id F
  have hwg : ∀ w ∈ WG, w.before args s = true := fun w h => hts w (List.mem_cons_of_mem _ h)
  have i_7 : ∀ w ∈ u_ws RX2 TX2 8, w ∈ wz_X2_init := fun w h => List.mem_cons_of_mem _ (wu_7 w h)
  have k_11 := hwg _ wf_RX2_11
  have k_15 := hwg _ wf_RX2_15
  have k_19 := hwg _ wf_RX2_19
  have k_22 := hwg _ wf_RX2_22
  have k_25 := hwg _ wf_RX2_25
  have k_28 := hwg _ wf_RX2_28
  have k_31 := hwg _ wf_RX2_31
  have k_35 := hwg _ wf_RX2_35
  intro S H locs ls a0 a1 hp hW hE hl hL_a0 hK_a0 hL_a1 hK_a1
  unfold wp_X2_init_0 at hp
  refine lv_aload_n hx hb dX2_init_0 rfl (lv_at hl 0 rfl) ?_
  refine W.objInit hx hb hown (hwg _ wm_RX2_5) (hwg _ wobj.1) (hwg _ wobj.2) rfl (by rw [hml]; exact hl.1) rfl dX2_init_1 (Nat.le_of_ble_eq_true rfl) (Nat.le_of_ble_eq_true rfl) ?_
  refine W.eq (g2 := F0 m 4 ls []) rfl ?_
  refine lv_aload_n hx hb dX2_init_4 rfl (lv_at hl 0 rfl) ?_
  refine lv_bipush (v := 6) hx hb dX2_init_5 (by decide) ?_
  obtain ⟨h_3, h_3b, hp⟩ := hp
  refine w_newaZ F hK hW (hwg _ wr_boolean) h_3 (by omega) (Nat.le_of_ble_eq_true rfl) (Nat.le_trans (Nat.add_le_add_left h_3b _) (Nat.le_of_ble_eq_true rfl)) dX2_init_7 (fun y_1 H hq_y_1 hW => ?_)
  refine W.widen (k := 1) (n := 6) (by decide) (Nat.add_le_add_left h_3b _) ?_
  obtain ⟨S_2, eS_2⟩ : ∃ z : wS, z = nA S y_1 23 ((6 : Int32)).toNatClampNeg := ⟨_, rfl⟩
  rw [← eS_2] at hW
  replace hp := hp y_1 hq_y_1 S_2 eS_2
  have hX_S_2 : wX D S S_2 := by rw [eS_2]; exact wX_nA hq_y_1
  have hE := hE.trans hX_S_2
  have hK_a0 : sK S_2 a0 = 7 := (hX_S_2.2 a0 hL_a0).1.trans hK_a0
  have hL_a0 : wM D S_2 a0 := hX_S_2.M hL_a0
  have hK_a1 : sK S_2 a1 = 5 := (hX_S_2.2 a1 hL_a1).1.trans hK_a1
  have hL_a1 : wM D S_2 a1 := hX_S_2.M hL_a1
  have hL_y_1 : wM D S_2 y_1 := by rw [eS_2]; exact Or.inl (List.mem_append_right _ List.mem_cons_self)
  have hK_y_1 : sK S_2 y_1 = 23 := by rw [eS_2]; exact va_up_self _ _ _
  refine w_putRF (k := 7) (f := 1) (T := TX2) (g := (some y_1)) F hK hW hL_a0 hK_a0 (by decide) (by decide) rfl rfl (by decide) i_7 tyX2 tyX2_ok nmX2 k_11 rfl rfl hin rfl (ty := (.array .boolean)) rfl (v_narrow _ _) (v_fitsA _ _) dX2_init_9 (fun H locs hW => ?_)
  obtain ⟨S_4, eS_4⟩ : ∃ z : wS, z = uR S_2 a0 1 (some y_1) := ⟨_, rfl⟩
  rw [← eS_4] at hW
  replace hp := hp S_4 eS_4
  have hX_S_4 : wX D S_2 S_4 := by rw [eS_4]; exact wX_uR
  have hE := hE.trans hX_S_4
  have hK_a0 : sK S_4 a0 = 7 := (hX_S_4.2 a0 hL_a0).1.trans hK_a0
  have hL_a0 : wM D S_4 a0 := hX_S_4.M hL_a0
  have hK_a1 : sK S_4 a1 = 5 := (hX_S_4.2 a1 hL_a1).1.trans hK_a1
  have hL_a1 : wM D S_4 a1 := hX_S_4.M hL_a1
  refine lv_aload_n hx hb dX2_init_12 rfl (lv_at hl 0 rfl) ?_
  refine lv_bipush (v := 6) hx hb dX2_init_13 (by decide) ?_
  obtain ⟨h_7, h_7b, hp⟩ := hp
  refine w_newaI F hK hW (hwg _ wr_int) h_7 (by omega) (Nat.le_of_ble_eq_true rfl) (Nat.le_trans (Nat.add_le_add_left h_7b _) (Nat.le_of_ble_eq_true rfl)) dX2_init_15 (fun y_5 H hq_y_5 hW => ?_)
  refine W.widen (k := 2) (n := 12) (by decide) (Nat.add_le_add_left h_7b _) ?_
  obtain ⟨S_6, eS_6⟩ : ∃ z : wS, z = nA S_4 y_5 21 ((6 : Int32)).toNatClampNeg := ⟨_, rfl⟩
  rw [← eS_6] at hW
  replace hp := hp y_5 hq_y_5 S_6 eS_6
  have hX_S_6 : wX D S_4 S_6 := by rw [eS_6]; exact wX_nA hq_y_5
  have hE := hE.trans hX_S_6
  have hK_a0 : sK S_6 a0 = 7 := (hX_S_6.2 a0 hL_a0).1.trans hK_a0
  have hL_a0 : wM D S_6 a0 := hX_S_6.M hL_a0
  have hK_a1 : sK S_6 a1 = 5 := (hX_S_6.2 a1 hL_a1).1.trans hK_a1
  have hL_a1 : wM D S_6 a1 := hX_S_6.M hL_a1
  have hL_y_5 : wM D S_6 y_5 := by rw [eS_6]; exact Or.inl (List.mem_append_right _ List.mem_cons_self)
  have hK_y_5 : sK S_6 y_5 = 21 := by rw [eS_6]; exact va_up_self _ _ _
  refine w_putRF (k := 7) (f := 2) (T := TX2) (g := (some y_5)) F hK hW hL_a0 hK_a0 (by decide) (by decide) rfl rfl (by decide) i_7 tyX2 tyX2_ok nmX2 k_15 rfl rfl hin rfl (ty := (.array .int)) rfl (v_narrow _ _) (v_fitsA _ _) dX2_init_17 (fun H locs hW => ?_)
  obtain ⟨S_8, eS_8⟩ : ∃ z : wS, z = uR S_6 a0 2 (some y_5) := ⟨_, rfl⟩
  rw [← eS_8] at hW
  replace hp := hp S_8 eS_8
  have hX_S_8 : wX D S_6 S_8 := by rw [eS_8]; exact wX_uR
  have hE := hE.trans hX_S_8
  have hK_a0 : sK S_8 a0 = 7 := (hX_S_8.2 a0 hL_a0).1.trans hK_a0
  have hL_a0 : wM D S_8 a0 := hX_S_8.M hL_a0
  have hK_a1 : sK S_8 a1 = 5 := (hX_S_8.2 a1 hL_a1).1.trans hK_a1
  have hL_a1 : wM D S_8 a1 := hX_S_8.M hL_a1
  refine lv_aload_n hx hb dX2_init_20 rfl (lv_at hl 0 rfl) ?_
  refine lv_bipush (v := 6) hx hb dX2_init_21 (by decide) ?_
  obtain ⟨h_11, h_11b, hp⟩ := hp
  refine w_newaI F hK hW (hwg _ wr_int) h_11 (by omega) (Nat.le_of_ble_eq_true rfl) (Nat.le_trans (Nat.add_le_add_left h_11b _) (Nat.le_of_ble_eq_true rfl)) dX2_init_23 (fun y_9 H hq_y_9 hW => ?_)
  refine W.widen (k := 3) (n := 18) (by decide) (Nat.add_le_add_left h_11b _) ?_
  obtain ⟨S_10, eS_10⟩ : ∃ z : wS, z = nA S_8 y_9 21 ((6 : Int32)).toNatClampNeg := ⟨_, rfl⟩
  rw [← eS_10] at hW
  replace hp := hp y_9 hq_y_9 S_10 eS_10
  have hX_S_10 : wX D S_8 S_10 := by rw [eS_10]; exact wX_nA hq_y_9
  have hE := hE.trans hX_S_10
  have hK_a0 : sK S_10 a0 = 7 := (hX_S_10.2 a0 hL_a0).1.trans hK_a0
  have hL_a0 : wM D S_10 a0 := hX_S_10.M hL_a0
  have hK_a1 : sK S_10 a1 = 5 := (hX_S_10.2 a1 hL_a1).1.trans hK_a1
  have hL_a1 : wM D S_10 a1 := hX_S_10.M hL_a1
  have hL_y_9 : wM D S_10 y_9 := by rw [eS_10]; exact Or.inl (List.mem_append_right _ List.mem_cons_self)
  have hK_y_9 : sK S_10 y_9 = 21 := by rw [eS_10]; exact va_up_self _ _ _
  refine w_putRF (k := 7) (f := 3) (T := TX2) (g := (some y_9)) F hK hW hL_a0 hK_a0 (by decide) (by decide) rfl rfl (by decide) i_7 tyX2 tyX2_ok nmX2 k_19 rfl rfl hin rfl (ty := (.array .int)) rfl (v_narrow _ _) (v_fitsA _ _) dX2_init_25 (fun H locs hW => ?_)
  obtain ⟨S_12, eS_12⟩ : ∃ z : wS, z = uR S_10 a0 3 (some y_9) := ⟨_, rfl⟩
  rw [← eS_12] at hW
  replace hp := hp S_12 eS_12
  have hX_S_12 : wX D S_10 S_12 := by rw [eS_12]; exact wX_uR
  have hE := hE.trans hX_S_12
  have hK_a0 : sK S_12 a0 = 7 := (hX_S_12.2 a0 hL_a0).1.trans hK_a0
  have hL_a0 : wM D S_12 a0 := hX_S_12.M hL_a0
  have hK_a1 : sK S_12 a1 = 5 := (hX_S_12.2 a1 hL_a1).1.trans hK_a1
  have hL_a1 : wM D S_12 a1 := hX_S_12.M hL_a1
  refine lv_aload_n hx hb dX2_init_28 rfl (lv_at hl 0 rfl) ?_
  refine lv_iconst (v := 0) hx hb dX2_init_29 (by decide) ?_
  obtain ⟨h_15, h_15b, hp⟩ := hp
  refine w_newaI F hK hW (hwg _ wr_int) h_15 (by omega) (Nat.le_of_ble_eq_true rfl) (Nat.le_trans (Nat.add_le_add_left h_15b _) (Nat.le_of_ble_eq_true rfl)) dX2_init_30 (fun y_13 H hq_y_13 hW => ?_)
  refine W.widen (k := 4) (n := 18) (by decide) (Nat.add_le_add_left h_15b _) ?_
  obtain ⟨S_14, eS_14⟩ : ∃ z : wS, z = nA S_12 y_13 21 ((0 : Int32)).toNatClampNeg := ⟨_, rfl⟩
  rw [← eS_14] at hW
  replace hp := hp y_13 hq_y_13 S_14 eS_14
  have hX_S_14 : wX D S_12 S_14 := by rw [eS_14]; exact wX_nA hq_y_13
  have hE := hE.trans hX_S_14
  have hK_a0 : sK S_14 a0 = 7 := (hX_S_14.2 a0 hL_a0).1.trans hK_a0
  have hL_a0 : wM D S_14 a0 := hX_S_14.M hL_a0
  have hK_a1 : sK S_14 a1 = 5 := (hX_S_14.2 a1 hL_a1).1.trans hK_a1
  have hL_a1 : wM D S_14 a1 := hX_S_14.M hL_a1
  have hL_y_13 : wM D S_14 y_13 := by rw [eS_14]; exact Or.inl (List.mem_append_right _ List.mem_cons_self)
  have hK_y_13 : sK S_14 y_13 = 21 := by rw [eS_14]; exact va_up_self _ _ _
  refine w_putR (k := 7) (f := 4) (T := TX2) (g := (some y_13)) F hK hW hL_a0 hK_a0 (by decide) (by decide) rfl rfl (by decide) i_7 tyX2 tyX2_ok nmX2 k_22 rfl rfl (ty := (.array .int)) rfl (v_narrow _ _) (v_fitsA _ _) dX2_init_32 (fun H locs hW => ?_)
  obtain ⟨S_16, eS_16⟩ : ∃ z : wS, z = uR S_14 a0 4 (some y_13) := ⟨_, rfl⟩
  rw [← eS_16] at hW
  replace hp := hp S_16 eS_16
  have hX_S_16 : wX D S_14 S_16 := by rw [eS_16]; exact wX_uR
  have hE := hE.trans hX_S_16
  have hK_a0 : sK S_16 a0 = 7 := (hX_S_16.2 a0 hL_a0).1.trans hK_a0
  have hL_a0 : wM D S_16 a0 := hX_S_16.M hL_a0
  have hK_a1 : sK S_16 a1 = 5 := (hX_S_16.2 a1 hL_a1).1.trans hK_a1
  have hL_a1 : wM D S_16 a1 := hX_S_16.M hL_a1
  refine lv_aload_n hx hb dX2_init_35 rfl (lv_at hl 0 rfl) ?_
  refine lv_iconst (v := 0) hx hb dX2_init_36 (by decide) ?_
  obtain ⟨h_19, h_19b, hp⟩ := hp
  refine w_newaI F hK hW (hwg _ wr_int) h_19 (by omega) (Nat.le_of_ble_eq_true rfl) (Nat.le_trans (Nat.add_le_add_left h_19b _) (Nat.le_of_ble_eq_true rfl)) dX2_init_37 (fun y_17 H hq_y_17 hW => ?_)
  refine W.widen (k := 5) (n := 18) (by decide) (Nat.add_le_add_left h_19b _) ?_
  obtain ⟨S_18, eS_18⟩ : ∃ z : wS, z = nA S_16 y_17 21 ((0 : Int32)).toNatClampNeg := ⟨_, rfl⟩
  rw [← eS_18] at hW
  replace hp := hp y_17 hq_y_17 S_18 eS_18
  have hX_S_18 : wX D S_16 S_18 := by rw [eS_18]; exact wX_nA hq_y_17
  have hE := hE.trans hX_S_18
  have hK_a0 : sK S_18 a0 = 7 := (hX_S_18.2 a0 hL_a0).1.trans hK_a0
  have hL_a0 : wM D S_18 a0 := hX_S_18.M hL_a0
  have hK_a1 : sK S_18 a1 = 5 := (hX_S_18.2 a1 hL_a1).1.trans hK_a1
  have hL_a1 : wM D S_18 a1 := hX_S_18.M hL_a1
  have hL_y_17 : wM D S_18 y_17 := by rw [eS_18]; exact Or.inl (List.mem_append_right _ List.mem_cons_self)
  have hK_y_17 : sK S_18 y_17 = 21 := by rw [eS_18]; exact va_up_self _ _ _
  refine w_putR (k := 7) (f := 5) (T := TX2) (g := (some y_17)) F hK hW hL_a0 hK_a0 (by decide) (by decide) rfl rfl (by decide) i_7 tyX2 tyX2_ok nmX2 k_25 rfl rfl (ty := (.array .int)) rfl (v_narrow _ _) (v_fitsA _ _) dX2_init_39 (fun H locs hW => ?_)
  obtain ⟨S_20, eS_20⟩ : ∃ z : wS, z = uR S_18 a0 5 (some y_17) := ⟨_, rfl⟩
  rw [← eS_20] at hW
  replace hp := hp S_20 eS_20
  have hX_S_20 : wX D S_18 S_20 := by rw [eS_20]; exact wX_uR
  have hE := hE.trans hX_S_20
  have hK_a0 : sK S_20 a0 = 7 := (hX_S_20.2 a0 hL_a0).1.trans hK_a0
  have hL_a0 : wM D S_20 a0 := hX_S_20.M hL_a0
  have hK_a1 : sK S_20 a1 = 5 := (hX_S_20.2 a1 hL_a1).1.trans hK_a1
  have hL_a1 : wM D S_20 a1 := hX_S_20.M hL_a1
  refine lv_aload_n hx hb dX2_init_42 rfl (lv_at hl 0 rfl) ?_
  refine lv_iconst (v := 0) hx hb dX2_init_43 (by decide) ?_
  obtain ⟨h_23, h_23b, hp⟩ := hp
  refine w_newaI F hK hW (hwg _ wr_int) h_23 (by omega) (Nat.le_of_ble_eq_true rfl) (Nat.le_trans (Nat.add_le_add_left h_23b _) (Nat.le_of_ble_eq_true rfl)) dX2_init_44 (fun y_21 H hq_y_21 hW => ?_)
  refine W.widen (k := 6) (n := 18) (by decide) (Nat.add_le_add_left h_23b _) ?_
  obtain ⟨S_22, eS_22⟩ : ∃ z : wS, z = nA S_20 y_21 21 ((0 : Int32)).toNatClampNeg := ⟨_, rfl⟩
  rw [← eS_22] at hW
  replace hp := hp y_21 hq_y_21 S_22 eS_22
  have hX_S_22 : wX D S_20 S_22 := by rw [eS_22]; exact wX_nA hq_y_21
  have hE := hE.trans hX_S_22
  have hK_a0 : sK S_22 a0 = 7 := (hX_S_22.2 a0 hL_a0).1.trans hK_a0
  have hL_a0 : wM D S_22 a0 := hX_S_22.M hL_a0
  have hK_a1 : sK S_22 a1 = 5 := (hX_S_22.2 a1 hL_a1).1.trans hK_a1
  have hL_a1 : wM D S_22 a1 := hX_S_22.M hL_a1
  have hL_y_21 : wM D S_22 y_21 := by rw [eS_22]; exact Or.inl (List.mem_append_right _ List.mem_cons_self)
  have hK_y_21 : sK S_22 y_21 = 21 := by rw [eS_22]; exact va_up_self _ _ _
  refine w_putR (k := 7) (f := 6) (T := TX2) (g := (some y_21)) F hK hW hL_a0 hK_a0 (by decide) (by decide) rfl rfl (by decide) i_7 tyX2 tyX2_ok nmX2 k_28 rfl rfl (ty := (.array .int)) rfl (v_narrow _ _) (v_fitsA _ _) dX2_init_46 (fun H locs hW => ?_)
  obtain ⟨S_24, eS_24⟩ : ∃ z : wS, z = uR S_22 a0 6 (some y_21) := ⟨_, rfl⟩
  rw [← eS_24] at hW
  replace hp := hp S_24 eS_24
  have hX_S_24 : wX D S_22 S_24 := by rw [eS_24]; exact wX_uR
  have hE := hE.trans hX_S_24
  have hK_a0 : sK S_24 a0 = 7 := (hX_S_24.2 a0 hL_a0).1.trans hK_a0
  have hL_a0 : wM D S_24 a0 := hX_S_24.M hL_a0
  have hK_a1 : sK S_24 a1 = 5 := (hX_S_24.2 a1 hL_a1).1.trans hK_a1
  have hL_a1 : wM D S_24 a1 := hX_S_24.M hL_a1
  refine lv_aload_n hx hb dX2_init_49 rfl (lv_at hl 0 rfl) ?_
  refine lv_iconst (v := 0) hx hb dX2_init_50 (by decide) ?_
  refine w_putI (k := 7) (f := 7) (T := TX2) F hK hW hL_a0 hK_a0 (by decide) (by decide) rfl rfl (by decide) i_7 tyX2 tyX2_ok nmX2 k_31 rfl rfl (ty := .int) rfl rfl rfl dX2_init_51 (fun H locs hW => ?_)
  obtain ⟨S_25, eS_25⟩ : ∃ z : wS, z = uI S_24 a0 7 (0 : Int32) := ⟨_, rfl⟩
  rw [← eS_25] at hW
  replace hp := hp S_25 eS_25
  have hX_S_25 : wX D S_24 S_25 := by rw [eS_25]; exact wX_uI
  have hE := hE.trans hX_S_25
  have hK_a0 : sK S_25 a0 = 7 := (hX_S_25.2 a0 hL_a0).1.trans hK_a0
  have hL_a0 : wM D S_25 a0 := hX_S_25.M hL_a0
  have hK_a1 : sK S_25 a1 = 5 := (hX_S_25.2 a1 hL_a1).1.trans hK_a1
  have hL_a1 : wM D S_25 a1 := hX_S_25.M hL_a1
  refine lv_aload_n hx hb dX2_init_54 rfl (lv_at hl 0 rfl) ?_
  refine lv_aload_n hx hb dX2_init_55 rfl (lv_at hl 1 rfl) ?_
  refine w_putRF (k := 7) (f := 0) (T := TX2) (g := (some a1)) F hK hW hL_a0 hK_a0 (by decide) (by decide) rfl rfl (by decide) i_7 tyX2 tyX2_ok nmX2 k_35 rfl rfl hin rfl (ty := (.object "OpeningsCabinet$Board")) rfl (v_narrow _ _) (v_fitsO _ _) dX2_init_56 (fun H locs hW => ?_)
  obtain ⟨S_26, eS_26⟩ : ∃ z : wS, z = uR S_25 a0 0 (some a1) := ⟨_, rfl⟩
  rw [← eS_26] at hW
  replace hp := hp S_26 eS_26
  have hX_S_26 : wX D S_25 S_26 := by rw [eS_26]; exact wX_uR
  have hE := hE.trans hX_S_26
  have hK_a0 : sK S_26 a0 = 7 := (hX_S_26.2 a0 hL_a0).1.trans hK_a0
  have hL_a0 : wM D S_26 a0 := hX_S_26.M hL_a0
  have hK_a1 : sK S_26 a1 = 5 := (hX_S_26.2 a1 hL_a1).1.trans hK_a1
  have hL_a1 : wM D S_26 a1 := hX_S_26.M hL_a1
  exact w_vret hx hb hr hlocks hW ⟨hE, hp⟩ dX2_init_59
set_option maxHeartbeats 4000000 in
set_option maxRecDepth 100000 in
theorem c_X2_init (l : Launch) {D : wD} {cy : Nat → ClassId} {X : va_W} {S0 : wS} {post : wS → Prop} {a0 : Nat} {a1 : Nat} (hL_a0 : wM D S0 a0) (hK_a0 : sK S0 a0 = 7) (hL_a1 : wM D S0 a1) (hK_a1 : sK S0 a1 = 5) (hp : wp_X2_init D post S0 a0 a1) : mV D cy X l yX2_init wz_X2_init r_X2_init [.ref a0, .ref a1] S0 (fun S9 => wX D S0 S9 ∧ post S9) := by
  intro sz
  refine Met.ofW (cc := cX2_init) (maxL := 2) (ret := none) (by decide) rfl ?_
  intro p e s m args below meth c s₁ B hml hv
  obtain ⟨rfl, hsz, hP, hK, hD0, hRO⟩ := hv
  have hts := atoms_spec (ws := wz_X2_init) B.pre
  have hown : s.vm.findClass RX2 = some m.cls := findClass_of_methodNamed B.named
  subst hsz
  have hD := hD0.self (sz := s.heap.size)
  have F : CallFix p m c cX2_init 2 s _ wz_X2_init RX2 := ⟨B.exec, B.bytes, hml, hown, hts⟩
  have hr := B.returns
  have hlocks := B.notSynchronized
  have hin : meth.name = "<init>" := (name_of_methodNamed B.named B.method).1
  generalize hAe : va_A (wL cy X S0) s.heap.size = A at hD hK ⊢
  have hA : ∀ q, s.heap.size ≤ q → A q := fun q h => by rw [← hAe]; exact Or.inr h
  have hW : wO D cy X A s.heap S0 s.heap [] := ⟨hP, hD, va_S.rf, hA, hRO⟩
  have hl := lv_entry ([.ref a0, .ref a1]) (n := 2) (Nat.le_of_ble_eq_true rfl)
  rw [lg_entry_eq]
  generalize (lg_sl ([.ref a0, .ref a1]) ++ List.replicate (2 - (lg_sl ([.ref a0, .ref a1])).length) Slot.unset).toArray = ls at hl ⊢
  have hl : lv_has ls 2 [(0, .ref a0), (1, .ref a1)] := hl
  unfold wp_X2_init at hp
  exact t_X2_init_0 F hr hlocks hK hin hp hW wX.rf (lv_sub hl [0, 1] rfl) hL_a0 hK_a0 hL_a1 hK_a1
def wp_X7_init_0 (D : wD) (post : wS → Prop)  (S : wS) (a0 : Nat) (a1 : Nat) : Prop :=
∀ S_1 : wS, S_1 = uJ S a0 1 (0 : Int64) →
∀ S_2 : wS, S_2 = uJ S_1 a0 2 (0 : Int64) →
∀ S_3 : wS, S_3 = uJ S_2 a0 3 (0 : Int64) →
∀ S_4 : wS, S_4 = uJ S_3 a0 4 (0 : Int64) →
narrow .boolean (.int (1 : Int32)) = .int (1 : Int32) ∧ fits .boolean (.int (1 : Int32)) = true ∧
∀ S_5 : wS, S_5 = uI S_4 a0 5 (1 : Int32) →
∀ S_7 : wS, S_7 = uI S_5 a0 6 (0 : Int32) →
∀ S_8 : wS, S_8 = uI S_7 a0 7 (-1 : Int32) →
∀ S_9 : wS, S_9 = uR S_8 a0 0 (some a1) →
post S_9
abbrev r_X7_init : Room := { frames := 1, cells := 0, slots := 0, locals := 60 }
def wp_X7_init (D : wD) (post : wS → Prop) (S : wS) (a0 : Nat) (a1 : Nat) : Prop := wp_X7_init_0 D post S a0 a1
set_option maxHeartbeats 4000000 in
set_option maxRecDepth 100000 in
theorem t_X7_init_0 {p : Program} {l : Launch} {e : Env} {s : State} {m : MethodId} {args : Array Value} {below : List Frame} {meth : Method} {c : Code} {D : wD} {cy : Nat → ClassId} {X : va_W} {A : Nat → Prop} {S0 : wS} {post : wS → Prop} (F : CallFix p m c cX7_init 2 s args wz_X7_init RX7) (hr : meth.sig.returnType = none) (hlocks : meth.locks = false) (hK : wK D cy A s) (hin : meth.name = "<init>") : ∀ {S : wS} {H : Heap} {locs : List Loc} {ls : Array Slot} {a0 : Nat} {a1 : Nat}, wp_X7_init_0 D post S a0 a1 → wO D cy X A s.heap S H locs → wX D S0 S → lv_has ls 2 [(0, .ref a0), (1, .ref a1)] → wM D S a0 → sK S a0 = 12 → wM D S a1 → sK S a1 = 5 → W p l e r_X7_init s m args below meth c H locs 0 0 (MQ below (va_Qv (fun S9 => wX D S0 S9 ∧ post S9) (wB D cy X A) A) args s 0 0 A) (F0 m 0 ls []) := by
  obtain ⟨hx, hb, hml, hown, hts⟩ := id F
  have hwg : ∀ w ∈ WG, w.before args s = true := fun w h => hts w (List.mem_cons_of_mem _ h)
  have i_12 : ∀ w ∈ u_ws RX7 TX7 8, w ∈ wz_X7_init := fun w h => List.mem_cons_of_mem _ (wu_12 w h)
  have k_15 := hwg _ wf_RX7_15
  have k_18 := hwg _ wf_RX7_18
  have k_21 := hwg _ wf_RX7_21
  have k_24 := hwg _ wf_RX7_24
  have k_28 := hwg _ wf_RX7_28
  have k_32 := hwg _ wf_RX7_32
  have k_35 := hwg _ wf_RX7_35
  have k_9 := hwg _ wf_RX7_9
  intro S H locs ls a0 a1 hp hW hE hl hL_a0 hK_a0 hL_a1 hK_a1
  unfold wp_X7_init_0 at hp
  refine lv_aload_n hx hb dX7_init_0 rfl (lv_at hl 0 rfl) ?_
  refine W.objInit hx hb hown (hwg _ wm_RX7_3) (hwg _ wobj.1) (hwg _ wobj.2) rfl (by rw [hml]; exact hl.1) rfl dX7_init_1 (Nat.le_of_ble_eq_true rfl) (Nat.le_of_ble_eq_true rfl) ?_
  refine W.eq (g2 := F0 m 4 ls []) rfl ?_
  refine lv_aload_n hx hb dX7_init_4 rfl (lv_at hl 0 rfl) ?_
  refine lv_lconst (v := 0) hx hb dX7_init_5 (by decide) ?_
  refine w_putJ (k := 12) (f := 1) (T := TX7) F hK hW hL_a0 hK_a0 (by decide) (by decide) rfl rfl (by decide) i_12 tyX7 tyX7_ok nmX7 k_9 rfl rfl rfl dX7_init_6 (fun H locs hW => ?_)
  obtain ⟨S_1, eS_1⟩ : ∃ z : wS, z = uJ S a0 1 (0 : Int64) := ⟨_, rfl⟩
  rw [← eS_1] at hW
  replace hp := hp S_1 eS_1
  have hX_S_1 : wX D S S_1 := by rw [eS_1]; exact wX_uJ
  have hE := hE.trans hX_S_1
  have hK_a0 : sK S_1 a0 = 12 := (hX_S_1.2 a0 hL_a0).1.trans hK_a0
  have hL_a0 : wM D S_1 a0 := hX_S_1.M hL_a0
  have hK_a1 : sK S_1 a1 = 5 := (hX_S_1.2 a1 hL_a1).1.trans hK_a1
  have hL_a1 : wM D S_1 a1 := hX_S_1.M hL_a1
  refine lv_aload_n hx hb dX7_init_9 rfl (lv_at hl 0 rfl) ?_
  refine lv_lconst (v := 0) hx hb dX7_init_10 (by decide) ?_
  refine w_putJ (k := 12) (f := 2) (T := TX7) F hK hW hL_a0 hK_a0 (by decide) (by decide) rfl rfl (by decide) i_12 tyX7 tyX7_ok nmX7 k_15 rfl rfl rfl dX7_init_11 (fun H locs hW => ?_)
  obtain ⟨S_2, eS_2⟩ : ∃ z : wS, z = uJ S_1 a0 2 (0 : Int64) := ⟨_, rfl⟩
  rw [← eS_2] at hW
  replace hp := hp S_2 eS_2
  have hX_S_2 : wX D S_1 S_2 := by rw [eS_2]; exact wX_uJ
  have hE := hE.trans hX_S_2
  have hK_a0 : sK S_2 a0 = 12 := (hX_S_2.2 a0 hL_a0).1.trans hK_a0
  have hL_a0 : wM D S_2 a0 := hX_S_2.M hL_a0
  have hK_a1 : sK S_2 a1 = 5 := (hX_S_2.2 a1 hL_a1).1.trans hK_a1
  have hL_a1 : wM D S_2 a1 := hX_S_2.M hL_a1
  refine lv_aload_n hx hb dX7_init_14 rfl (lv_at hl 0 rfl) ?_
  refine lv_lconst (v := 0) hx hb dX7_init_15 (by decide) ?_
  refine w_putJ (k := 12) (f := 3) (T := TX7) F hK hW hL_a0 hK_a0 (by decide) (by decide) rfl rfl (by decide) i_12 tyX7 tyX7_ok nmX7 k_18 rfl rfl rfl dX7_init_16 (fun H locs hW => ?_)
  obtain ⟨S_3, eS_3⟩ : ∃ z : wS, z = uJ S_2 a0 3 (0 : Int64) := ⟨_, rfl⟩
  rw [← eS_3] at hW
  replace hp := hp S_3 eS_3
  have hX_S_3 : wX D S_2 S_3 := by rw [eS_3]; exact wX_uJ
  have hE := hE.trans hX_S_3
  have hK_a0 : sK S_3 a0 = 12 := (hX_S_3.2 a0 hL_a0).1.trans hK_a0
  have hL_a0 : wM D S_3 a0 := hX_S_3.M hL_a0
  have hK_a1 : sK S_3 a1 = 5 := (hX_S_3.2 a1 hL_a1).1.trans hK_a1
  have hL_a1 : wM D S_3 a1 := hX_S_3.M hL_a1
  refine lv_aload_n hx hb dX7_init_19 rfl (lv_at hl 0 rfl) ?_
  refine lv_lconst (v := 0) hx hb dX7_init_20 (by decide) ?_
  refine w_putJ (k := 12) (f := 4) (T := TX7) F hK hW hL_a0 hK_a0 (by decide) (by decide) rfl rfl (by decide) i_12 tyX7 tyX7_ok nmX7 k_21 rfl rfl rfl dX7_init_21 (fun H locs hW => ?_)
  obtain ⟨S_4, eS_4⟩ : ∃ z : wS, z = uJ S_3 a0 4 (0 : Int64) := ⟨_, rfl⟩
  rw [← eS_4] at hW
  replace hp := hp S_4 eS_4
  have hX_S_4 : wX D S_3 S_4 := by rw [eS_4]; exact wX_uJ
  have hE := hE.trans hX_S_4
  have hK_a0 : sK S_4 a0 = 12 := (hX_S_4.2 a0 hL_a0).1.trans hK_a0
  have hL_a0 : wM D S_4 a0 := hX_S_4.M hL_a0
  have hK_a1 : sK S_4 a1 = 5 := (hX_S_4.2 a1 hL_a1).1.trans hK_a1
  have hL_a1 : wM D S_4 a1 := hX_S_4.M hL_a1
  refine lv_aload_n hx hb dX7_init_24 rfl (lv_at hl 0 rfl) ?_
  refine lv_iconst (v := 1) hx hb dX7_init_25 (by decide) ?_
  obtain ⟨h_6, h_6f, hp⟩ := hp
  refine w_putI (k := 12) (f := 5) (T := TX7) F hK hW hL_a0 hK_a0 (by decide) (by decide) rfl rfl (by decide) i_12 tyX7 tyX7_ok nmX7 k_24 rfl rfl (ty := .boolean) rfl h_6 h_6f dX7_init_26 (fun H locs hW => ?_)
  obtain ⟨S_5, eS_5⟩ : ∃ z : wS, z = uI S_4 a0 5 (1 : Int32) := ⟨_, rfl⟩
  rw [← eS_5] at hW
  replace hp := hp S_5 eS_5
  have hX_S_5 : wX D S_4 S_5 := by rw [eS_5]; exact wX_uI
  have hE := hE.trans hX_S_5
  have hK_a0 : sK S_5 a0 = 12 := (hX_S_5.2 a0 hL_a0).1.trans hK_a0
  have hL_a0 : wM D S_5 a0 := hX_S_5.M hL_a0
  have hK_a1 : sK S_5 a1 = 5 := (hX_S_5.2 a1 hL_a1).1.trans hK_a1
  have hL_a1 : wM D S_5 a1 := hX_S_5.M hL_a1
  refine lv_aload_n hx hb dX7_init_29 rfl (lv_at hl 0 rfl) ?_
  refine lv_iconst (v := 0) hx hb dX7_init_30 (by decide) ?_
  refine w_putI (k := 12) (f := 6) (T := TX7) F hK hW hL_a0 hK_a0 (by decide) (by decide) rfl rfl (by decide) i_12 tyX7 tyX7_ok nmX7 k_28 rfl rfl (ty := .int) rfl rfl rfl dX7_init_31 (fun H locs hW => ?_)
  obtain ⟨S_7, eS_7⟩ : ∃ z : wS, z = uI S_5 a0 6 (0 : Int32) := ⟨_, rfl⟩
  rw [← eS_7] at hW
  replace hp := hp S_7 eS_7
  have hX_S_7 : wX D S_5 S_7 := by rw [eS_7]; exact wX_uI
  have hE := hE.trans hX_S_7
  have hK_a0 : sK S_7 a0 = 12 := (hX_S_7.2 a0 hL_a0).1.trans hK_a0
  have hL_a0 : wM D S_7 a0 := hX_S_7.M hL_a0
  have hK_a1 : sK S_7 a1 = 5 := (hX_S_7.2 a1 hL_a1).1.trans hK_a1
  have hL_a1 : wM D S_7 a1 := hX_S_7.M hL_a1
  refine lv_aload_n hx hb dX7_init_34 rfl (lv_at hl 0 rfl) ?_
  refine lv_iconst (v := (-1)) hx hb dX7_init_35 (by decide) ?_
  refine w_putI (k := 12) (f := 7) (T := TX7) F hK hW hL_a0 hK_a0 (by decide) (by decide) rfl rfl (by decide) i_12 tyX7 tyX7_ok nmX7 k_32 rfl rfl (ty := .int) rfl rfl rfl dX7_init_36 (fun H locs hW => ?_)
  obtain ⟨S_8, eS_8⟩ : ∃ z : wS, z = uI S_7 a0 7 (-1 : Int32) := ⟨_, rfl⟩
  rw [← eS_8] at hW
  replace hp := hp S_8 eS_8
  have hX_S_8 : wX D S_7 S_8 := by rw [eS_8]; exact wX_uI
  have hE := hE.trans hX_S_8
  have hK_a0 : sK S_8 a0 = 12 := (hX_S_8.2 a0 hL_a0).1.trans hK_a0
  have hL_a0 : wM D S_8 a0 := hX_S_8.M hL_a0
  have hK_a1 : sK S_8 a1 = 5 := (hX_S_8.2 a1 hL_a1).1.trans hK_a1
  have hL_a1 : wM D S_8 a1 := hX_S_8.M hL_a1
  refine lv_aload_n hx hb dX7_init_39 rfl (lv_at hl 0 rfl) ?_
  refine lv_aload_n hx hb dX7_init_40 rfl (lv_at hl 1 rfl) ?_
  refine w_putRF (k := 12) (f := 0) (T := TX7) (g := (some a1)) F hK hW hL_a0 hK_a0 (by decide) (by decide) rfl rfl (by decide) i_12 tyX7 tyX7_ok nmX7 k_35 rfl rfl hin rfl (ty := (.object "OpeningsCabinet$Board")) rfl (v_narrow _ _) (v_fitsO _ _) dX7_init_41 (fun H locs hW => ?_)
  obtain ⟨S_9, eS_9⟩ : ∃ z : wS, z = uR S_8 a0 0 (some a1) := ⟨_, rfl⟩
  rw [← eS_9] at hW
  replace hp := hp S_9 eS_9
  have hX_S_9 : wX D S_8 S_9 := by rw [eS_9]; exact wX_uR
  have hE := hE.trans hX_S_9
  have hK_a0 : sK S_9 a0 = 12 := (hX_S_9.2 a0 hL_a0).1.trans hK_a0
  have hL_a0 : wM D S_9 a0 := hX_S_9.M hL_a0
  have hK_a1 : sK S_9 a1 = 5 := (hX_S_9.2 a1 hL_a1).1.trans hK_a1
  have hL_a1 : wM D S_9 a1 := hX_S_9.M hL_a1
  exact w_vret hx hb hr hlocks hW ⟨hE, hp⟩ dX7_init_44
set_option maxHeartbeats 4000000 in
set_option maxRecDepth 100000 in
theorem c_X7_init (l : Launch) {D : wD} {cy : Nat → ClassId} {X : va_W} {S0 : wS} {post : wS → Prop} {a0 : Nat} {a1 : Nat} (hL_a0 : wM D S0 a0) (hK_a0 : sK S0 a0 = 12) (hL_a1 : wM D S0 a1) (hK_a1 : sK S0 a1 = 5) (hp : wp_X7_init D post S0 a0 a1) : mV D cy X l yX7_init wz_X7_init r_X7_init [.ref a0, .ref a1] S0 (fun S9 => wX D S0 S9 ∧ post S9) := by
  intro sz
  refine Met.ofW (cc := cX7_init) (maxL := 2) (ret := none) (by decide) rfl ?_
  intro p e s m args below meth c s₁ B hml hv
  obtain ⟨rfl, hsz, hP, hK, hD0, hRO⟩ := hv
  have hts := atoms_spec (ws := wz_X7_init) B.pre
  have hown : s.vm.findClass RX7 = some m.cls := findClass_of_methodNamed B.named
  subst hsz
  have hD := hD0.self (sz := s.heap.size)
  have F : CallFix p m c cX7_init 2 s _ wz_X7_init RX7 := ⟨B.exec, B.bytes, hml, hown, hts⟩
  have hr := B.returns
  have hlocks := B.notSynchronized
  have hin : meth.name = "<init>" := (name_of_methodNamed B.named B.method).1
  generalize hAe : va_A (wL cy X S0) s.heap.size = A at hD hK ⊢
  have hA : ∀ q, s.heap.size ≤ q → A q := fun q h => by rw [← hAe]; exact Or.inr h
  have hW : wO D cy X A s.heap S0 s.heap [] := ⟨hP, hD, va_S.rf, hA, hRO⟩
  have hl := lv_entry ([.ref a0, .ref a1]) (n := 2) (Nat.le_of_ble_eq_true rfl)
  rw [lg_entry_eq]
  generalize (lg_sl ([.ref a0, .ref a1]) ++ List.replicate (2 - (lg_sl ([.ref a0, .ref a1])).length) Slot.unset).toArray = ls at hl ⊢
  have hl : lv_has ls 2 [(0, .ref a0), (1, .ref a1)] := hl
  unfold wp_X7_init at hp
  exact t_X7_init_0 F hr hlocks hK hin hp hW wX.rf (lv_sub hl [0, 1] rfl) hL_a0 hK_a0 hL_a1 hK_a1
def wp_X4_init_0 (D : wD) (post : wS → Prop)  (S : wS) (a0 : Nat) (a1 : Nat) (a2 : Nat) : Prop :=
¬ (1728 : Int32) < 0 ∧ ((1728 : Int32)).toNatClampNeg ≤ 1728 ∧ ∀ y_1 : Nat, ¬ wM D S y_1 → ∀ S_2 : wS, S_2 = nA S y_1 21 ((1728 : Int32)).toNatClampNeg →
∀ S_4 : wS, S_4 = uR S_2 a0 4 (some y_1) →
¬ (1728 : Int32) < 0 ∧ ((1728 : Int32)).toNatClampNeg ≤ 1728 ∧ ∀ y_5 : Nat, ¬ wM D S_4 y_5 → ∀ S_6 : wS, S_6 = nA S_4 y_5 22 ((1728 : Int32)).toNatClampNeg →
∀ S_8 : wS, S_8 = uR S_6 a0 5 (some y_5) →
narrow .boolean (.int (0 : Int32)) = .int (0 : Int32) ∧ fits .boolean (.int (0 : Int32)) = true ∧
∀ S_9 : wS, S_9 = uI S_8 a0 6 (0 : Int32) →
∀ S_11 : wS, S_11 = uI S_9 a0 7 (0 : Int32) →
∀ S_12 : wS, S_12 = uR S_11 a0 0 (some a1) →
∀ S_13 : wS, S_13 = uR S_12 a0 1 (some a2) →
∀ y_14 : Nat, ¬ wM D S_13 y_14 → ∀ S_15 : wS, S_15 = nA S_13 y_14 12 0 →
wp_X7_init D (fun S_17 => 
∀ S_18 : wS, S_18 = uR S_17 a0 2 (some y_14) →
∀ y_19 : Nat, ¬ wM D S_18 y_19 → ∀ S_20 : wS, S_20 = nA S_18 y_19 12 0 →
wp_X7_init D (fun S_22 => 
∀ S_23 : wS, S_23 = uR S_22 a0 3 (some y_19) →
post S_23) S_20 y_19 a1) S_15 y_14 a1
abbrev r_X4_init : Room := { frames := 2, cells := 4, slots := 3472, locals := 81 }
def wp_X4_init (D : wD) (post : wS → Prop) (S : wS) (a0 : Nat) (a1 : Nat) (a2 : Nat) : Prop := wp_X4_init_0 D post S a0 a1 a2
set_option maxHeartbeats 4000000 in
set_option maxRecDepth 100000 in
theorem t_X4_init_0 {p : Program} {l : Launch} {e : Env} {s : State} {m : MethodId} {args : Array Value} {below : List Frame} {meth : Method} {c : Code} {D : wD} {cy : Nat → ClassId} {X : va_W} {A : Nat → Prop} {S0 : wS} {post : wS → Prop} (F : CallFix p m c cX4_init 3 s args wz_X4_init RX4) (hr : meth.sig.returnType = none) (hlocks : meth.locks = false) (hK : wK D cy A s) (hin : meth.name = "<init>") : ∀ {S : wS} {H : Heap} {locs : List Loc} {ls : Array Slot} {a0 : Nat} {a1 : Nat} {a2 : Nat}, wp_X4_init_0 D post S a0 a1 a2 → wO D cy X A s.heap S H locs → wX D S0 S → lv_has ls 3 [(0, .ref a0), (1, .ref a1), (2, .ref a2)] → wM D S a0 → sK S a0 = 9 → wM D S a1 → sK S a1 = 5 → wM D S a2 → sK S a2 = 13 → W p l e r_X4_init s m args below meth c H locs 0 0 (MQ below (va_Qv (fun S9 => wX D S0 S9 ∧ post S9) (wB D cy X A) A) args s 4 3472 A) (F0 m 0 ls []) := by
  obtain ⟨hx, hb, hml, hown, hts⟩ := id F
  have hwg : ∀ w ∈ WG, w.before args s = true := fun w h => hts w (List.mem_cons_of_mem _ h)
  have i_9 : ∀ w ∈ u_ws RX4 TX4 8, w ∈ wz_X4_init := fun w h => List.mem_cons_of_mem _ (wu_9 w h)
  have k_11 := hwg _ wf_RX4_11
  have k_15 := hwg _ wf_RX4_15
  have k_19 := hwg _ wf_RX4_19
  have k_23 := hwg _ wf_RX4_23
  have k_27 := hwg _ wf_RX4_27
  have k_31 := hwg _ wf_RX4_31
  have k_40 := hwg _ wf_RX4_40
  have k_44 := hwg _ wf_RX4_44
  intro S H locs ls a0 a1 a2 hp hW hE hl hL_a0 hK_a0 hL_a1 hK_a1 hL_a2 hK_a2
  unfold wp_X4_init_0 at hp
  refine lv_aload_n hx hb dX4_init_0 rfl (lv_at hl 0 rfl) ?_
  refine W.objInit hx hb hown (hwg _ wm_RX4_5) (hwg _ wobj.1) (hwg _ wobj.2) rfl (by rw [hml]; exact hl.1) rfl dX4_init_1 (Nat.le_of_ble_eq_true rfl) (Nat.le_of_ble_eq_true rfl) ?_
  refine W.eq (g2 := F0 m 4 ls []) rfl ?_
  refine lv_aload_n hx hb dX4_init_4 rfl (lv_at hl 0 rfl) ?_
  refine lv_sipush (v := 1728) hx hb dX4_init_5 (by decide) ?_
  obtain ⟨h_3, h_3b, hp⟩ := hp
  refine w_newaI F hK hW (hwg _ wr_int) h_3 (by omega) (Nat.le_of_ble_eq_true rfl) (Nat.le_trans (Nat.add_le_add_left h_3b _) (Nat.le_of_ble_eq_true rfl)) dX4_init_8 (fun y_1 H hq_y_1 hW => ?_)
  refine W.widen (k := 1) (n := 1728) (by decide) (Nat.add_le_add_left h_3b _) ?_
  obtain ⟨S_2, eS_2⟩ : ∃ z : wS, z = nA S y_1 21 ((1728 : Int32)).toNatClampNeg := ⟨_, rfl⟩
  rw [← eS_2] at hW
  replace hp := hp y_1 hq_y_1 S_2 eS_2
  have hX_S_2 : wX D S S_2 := by rw [eS_2]; exact wX_nA hq_y_1
  have hE := hE.trans hX_S_2
  have hK_a0 : sK S_2 a0 = 9 := (hX_S_2.2 a0 hL_a0).1.trans hK_a0
  have hL_a0 : wM D S_2 a0 := hX_S_2.M hL_a0
  have hK_a1 : sK S_2 a1 = 5 := (hX_S_2.2 a1 hL_a1).1.trans hK_a1
  have hL_a1 : wM D S_2 a1 := hX_S_2.M hL_a1
  have hK_a2 : sK S_2 a2 = 13 := (hX_S_2.2 a2 hL_a2).1.trans hK_a2
  have hL_a2 : wM D S_2 a2 := hX_S_2.M hL_a2
  have hL_y_1 : wM D S_2 y_1 := by rw [eS_2]; exact Or.inl (List.mem_append_right _ List.mem_cons_self)
  have hK_y_1 : sK S_2 y_1 = 21 := by rw [eS_2]; exact va_up_self _ _ _
  refine w_putRF (k := 9) (f := 4) (T := TX4) (g := (some y_1)) F hK hW hL_a0 hK_a0 (by decide) (by decide) rfl rfl (by decide) i_9 tyX4 tyX4_ok nmX4 k_11 rfl rfl hin rfl (ty := (.array .int)) rfl (v_narrow _ _) (v_fitsA _ _) dX4_init_10 (fun H locs hW => ?_)
  obtain ⟨S_4, eS_4⟩ : ∃ z : wS, z = uR S_2 a0 4 (some y_1) := ⟨_, rfl⟩
  rw [← eS_4] at hW
  replace hp := hp S_4 eS_4
  have hX_S_4 : wX D S_2 S_4 := by rw [eS_4]; exact wX_uR
  have hE := hE.trans hX_S_4
  have hK_a0 : sK S_4 a0 = 9 := (hX_S_4.2 a0 hL_a0).1.trans hK_a0
  have hL_a0 : wM D S_4 a0 := hX_S_4.M hL_a0
  have hK_a1 : sK S_4 a1 = 5 := (hX_S_4.2 a1 hL_a1).1.trans hK_a1
  have hL_a1 : wM D S_4 a1 := hX_S_4.M hL_a1
  have hK_a2 : sK S_4 a2 = 13 := (hX_S_4.2 a2 hL_a2).1.trans hK_a2
  have hL_a2 : wM D S_4 a2 := hX_S_4.M hL_a2
  refine lv_aload_n hx hb dX4_init_13 rfl (lv_at hl 0 rfl) ?_
  refine lv_sipush (v := 1728) hx hb dX4_init_14 (by decide) ?_
  obtain ⟨h_7, h_7b, hp⟩ := hp
  refine w_newaJ F hK hW (hwg _ wr_long) h_7 (by omega) (Nat.le_of_ble_eq_true rfl) (Nat.le_trans (Nat.add_le_add_left h_7b _) (Nat.le_of_ble_eq_true rfl)) dX4_init_17 (fun y_5 H hq_y_5 hW => ?_)
  refine W.widen (k := 2) (n := 3456) (by decide) (Nat.add_le_add_left h_7b _) ?_
  obtain ⟨S_6, eS_6⟩ : ∃ z : wS, z = nA S_4 y_5 22 ((1728 : Int32)).toNatClampNeg := ⟨_, rfl⟩
  rw [← eS_6] at hW
  replace hp := hp y_5 hq_y_5 S_6 eS_6
  have hX_S_6 : wX D S_4 S_6 := by rw [eS_6]; exact wX_nA hq_y_5
  have hE := hE.trans hX_S_6
  have hK_a0 : sK S_6 a0 = 9 := (hX_S_6.2 a0 hL_a0).1.trans hK_a0
  have hL_a0 : wM D S_6 a0 := hX_S_6.M hL_a0
  have hK_a1 : sK S_6 a1 = 5 := (hX_S_6.2 a1 hL_a1).1.trans hK_a1
  have hL_a1 : wM D S_6 a1 := hX_S_6.M hL_a1
  have hK_a2 : sK S_6 a2 = 13 := (hX_S_6.2 a2 hL_a2).1.trans hK_a2
  have hL_a2 : wM D S_6 a2 := hX_S_6.M hL_a2
  have hL_y_5 : wM D S_6 y_5 := by rw [eS_6]; exact Or.inl (List.mem_append_right _ List.mem_cons_self)
  have hK_y_5 : sK S_6 y_5 = 22 := by rw [eS_6]; exact va_up_self _ _ _
  refine w_putRF (k := 9) (f := 5) (T := TX4) (g := (some y_5)) F hK hW hL_a0 hK_a0 (by decide) (by decide) rfl rfl (by decide) i_9 tyX4 tyX4_ok nmX4 k_15 rfl rfl hin rfl (ty := (.array .long)) rfl (v_narrow _ _) (v_fitsA _ _) dX4_init_19 (fun H locs hW => ?_)
  obtain ⟨S_8, eS_8⟩ : ∃ z : wS, z = uR S_6 a0 5 (some y_5) := ⟨_, rfl⟩
  rw [← eS_8] at hW
  replace hp := hp S_8 eS_8
  have hX_S_8 : wX D S_6 S_8 := by rw [eS_8]; exact wX_uR
  have hE := hE.trans hX_S_8
  have hK_a0 : sK S_8 a0 = 9 := (hX_S_8.2 a0 hL_a0).1.trans hK_a0
  have hL_a0 : wM D S_8 a0 := hX_S_8.M hL_a0
  have hK_a1 : sK S_8 a1 = 5 := (hX_S_8.2 a1 hL_a1).1.trans hK_a1
  have hL_a1 : wM D S_8 a1 := hX_S_8.M hL_a1
  have hK_a2 : sK S_8 a2 = 13 := (hX_S_8.2 a2 hL_a2).1.trans hK_a2
  have hL_a2 : wM D S_8 a2 := hX_S_8.M hL_a2
  refine lv_aload_n hx hb dX4_init_22 rfl (lv_at hl 0 rfl) ?_
  refine lv_iconst (v := 0) hx hb dX4_init_23 (by decide) ?_
  obtain ⟨h_10, h_10f, hp⟩ := hp
  refine w_putI (k := 9) (f := 6) (T := TX4) F hK hW hL_a0 hK_a0 (by decide) (by decide) rfl rfl (by decide) i_9 tyX4 tyX4_ok nmX4 k_19 rfl rfl (ty := .boolean) rfl h_10 h_10f dX4_init_24 (fun H locs hW => ?_)
  obtain ⟨S_9, eS_9⟩ : ∃ z : wS, z = uI S_8 a0 6 (0 : Int32) := ⟨_, rfl⟩
  rw [← eS_9] at hW
  replace hp := hp S_9 eS_9
  have hX_S_9 : wX D S_8 S_9 := by rw [eS_9]; exact wX_uI
  have hE := hE.trans hX_S_9
  have hK_a0 : sK S_9 a0 = 9 := (hX_S_9.2 a0 hL_a0).1.trans hK_a0
  have hL_a0 : wM D S_9 a0 := hX_S_9.M hL_a0
  have hK_a1 : sK S_9 a1 = 5 := (hX_S_9.2 a1 hL_a1).1.trans hK_a1
  have hL_a1 : wM D S_9 a1 := hX_S_9.M hL_a1
  have hK_a2 : sK S_9 a2 = 13 := (hX_S_9.2 a2 hL_a2).1.trans hK_a2
  have hL_a2 : wM D S_9 a2 := hX_S_9.M hL_a2
  refine lv_aload_n hx hb dX4_init_27 rfl (lv_at hl 0 rfl) ?_
  refine lv_iconst (v := 0) hx hb dX4_init_28 (by decide) ?_
  refine w_putI (k := 9) (f := 7) (T := TX4) F hK hW hL_a0 hK_a0 (by decide) (by decide) rfl rfl (by decide) i_9 tyX4 tyX4_ok nmX4 k_23 rfl rfl (ty := .int) rfl rfl rfl dX4_init_29 (fun H locs hW => ?_)
  obtain ⟨S_11, eS_11⟩ : ∃ z : wS, z = uI S_9 a0 7 (0 : Int32) := ⟨_, rfl⟩
  rw [← eS_11] at hW
  replace hp := hp S_11 eS_11
  have hX_S_11 : wX D S_9 S_11 := by rw [eS_11]; exact wX_uI
  have hE := hE.trans hX_S_11
  have hK_a0 : sK S_11 a0 = 9 := (hX_S_11.2 a0 hL_a0).1.trans hK_a0
  have hL_a0 : wM D S_11 a0 := hX_S_11.M hL_a0
  have hK_a1 : sK S_11 a1 = 5 := (hX_S_11.2 a1 hL_a1).1.trans hK_a1
  have hL_a1 : wM D S_11 a1 := hX_S_11.M hL_a1
  have hK_a2 : sK S_11 a2 = 13 := (hX_S_11.2 a2 hL_a2).1.trans hK_a2
  have hL_a2 : wM D S_11 a2 := hX_S_11.M hL_a2
  refine lv_aload_n hx hb dX4_init_32 rfl (lv_at hl 0 rfl) ?_
  refine lv_aload_n hx hb dX4_init_33 rfl (lv_at hl 1 rfl) ?_
  refine w_putRF (k := 9) (f := 0) (T := TX4) (g := (some a1)) F hK hW hL_a0 hK_a0 (by decide) (by decide) rfl rfl (by decide) i_9 tyX4 tyX4_ok nmX4 k_27 rfl rfl hin rfl (ty := (.object "OpeningsCabinet$Board")) rfl (v_narrow _ _) (v_fitsO _ _) dX4_init_34 (fun H locs hW => ?_)
  obtain ⟨S_12, eS_12⟩ : ∃ z : wS, z = uR S_11 a0 0 (some a1) := ⟨_, rfl⟩
  rw [← eS_12] at hW
  replace hp := hp S_12 eS_12
  have hX_S_12 : wX D S_11 S_12 := by rw [eS_12]; exact wX_uR
  have hE := hE.trans hX_S_12
  have hK_a0 : sK S_12 a0 = 9 := (hX_S_12.2 a0 hL_a0).1.trans hK_a0
  have hL_a0 : wM D S_12 a0 := hX_S_12.M hL_a0
  have hK_a1 : sK S_12 a1 = 5 := (hX_S_12.2 a1 hL_a1).1.trans hK_a1
  have hL_a1 : wM D S_12 a1 := hX_S_12.M hL_a1
  have hK_a2 : sK S_12 a2 = 13 := (hX_S_12.2 a2 hL_a2).1.trans hK_a2
  have hL_a2 : wM D S_12 a2 := hX_S_12.M hL_a2
  refine lv_aload_n hx hb dX4_init_37 rfl (lv_at hl 0 rfl) ?_
  refine lv_aload_n hx hb dX4_init_38 rfl (lv_at hl 2 rfl) ?_
  refine w_putRF (k := 9) (f := 1) (T := TX4) (g := (some a2)) F hK hW hL_a0 hK_a0 (by decide) (by decide) rfl rfl (by decide) i_9 tyX4 tyX4_ok nmX4 k_31 rfl rfl hin rfl (ty := (.object "OpeningsCabinet$Rules")) rfl (v_narrow _ _) (v_fitsO _ _) dX4_init_39 (fun H locs hW => ?_)
  obtain ⟨S_13, eS_13⟩ : ∃ z : wS, z = uR S_12 a0 1 (some a2) := ⟨_, rfl⟩
  rw [← eS_13] at hW
  replace hp := hp S_13 eS_13
  have hX_S_13 : wX D S_12 S_13 := by rw [eS_13]; exact wX_uR
  have hE := hE.trans hX_S_13
  have hK_a0 : sK S_13 a0 = 9 := (hX_S_13.2 a0 hL_a0).1.trans hK_a0
  have hL_a0 : wM D S_13 a0 := hX_S_13.M hL_a0
  have hK_a1 : sK S_13 a1 = 5 := (hX_S_13.2 a1 hL_a1).1.trans hK_a1
  have hL_a1 : wM D S_13 a1 := hX_S_13.M hL_a1
  have hK_a2 : sK S_13 a2 = 13 := (hX_S_13.2 a2 hL_a2).1.trans hK_a2
  have hL_a2 : wM D S_13 a2 := hX_S_13.M hL_a2
  refine lv_aload_n hx hb dX4_init_42 rfl (lv_at hl 0 rfl) ?_
  refine w_new (k := 12) (T := TX7) F hK hW rfl (by decide) (fun w h => List.mem_cons_of_mem _ (wu_12 w h)) tyX7 tyX7_ok (hwg _ wc_RX4_35) (hwg _ wn_12) (hwg _ wi_OpeningsCabinet_Position) wdef_12 (Nat.le_of_ble_eq_true rfl) (Nat.le_of_ble_eq_true rfl) dX4_init_43 (fun y_14 H hq_y_14 hW => ?_)
  refine W.widen (k := 3) (n := 3464) (by decide) (by decide) ?_
  obtain ⟨S_15, eS_15⟩ : ∃ z : wS, z = nA S_13 y_14 12 0 := ⟨_, rfl⟩
  rw [← eS_15] at hW
  replace hp := hp y_14 hq_y_14 S_15 eS_15
  have hX_S_15 : wX D S_13 S_15 := by rw [eS_15]; exact wX_nA hq_y_14
  have hE := hE.trans hX_S_15
  have hK_a0 : sK S_15 a0 = 9 := (hX_S_15.2 a0 hL_a0).1.trans hK_a0
  have hL_a0 : wM D S_15 a0 := hX_S_15.M hL_a0
  have hK_a1 : sK S_15 a1 = 5 := (hX_S_15.2 a1 hL_a1).1.trans hK_a1
  have hL_a1 : wM D S_15 a1 := hX_S_15.M hL_a1
  have hK_a2 : sK S_15 a2 = 13 := (hX_S_15.2 a2 hL_a2).1.trans hK_a2
  have hL_a2 : wM D S_15 a2 := hX_S_15.M hL_a2
  have hL_y_14 : wM D S_15 y_14 := by rw [eS_15]; exact Or.inl (List.mem_append_right _ List.mem_cons_self)
  have hK_y_14 : sK S_15 y_14 = 12 := by rw [eS_15]; exact va_up_self _ _ _
  refine lv_dup hx hb dX4_init_46 rfl ?_
  refine lv_aload_n hx hb dX4_init_47 rfl (lv_at hl 1 rfl) ?_
  refine w_callV (va_runI (As := [.ref a1]) (rest := [.ref y_14, .ref a0]) F (c_X7_init l hL_y_14 hK_y_14 hL_a1 hK_a1 hp H.size) (cwI 1 hts (wg_cons wy_X7_init.2.2) rfl rfl rfl (hwg _ wy_X7_init.2.1) (hwg _ wm_RX4_37) (hwg _ wy_X7_init.1) rfl (by decide +kernel) ⟨Nat.le_of_ble_eq_true rfl, Nat.le_of_ble_eq_true rfl⟩) (w_preS hK hW) rfl rfl hl.1 rfl (lv_room (Nat.le_of_ble_eq_true rfl)) dX4_init_48 ⟨Nat.le_of_ble_eq_true rfl, Nat.le_of_ble_eq_true rfl⟩) hW (fun S_17 H locs hp hW => ?_)
  obtain ⟨hX_S_17, hp⟩ := hp
  refine W.widen (k := 3) (n := 3464) (by decide) (by decide) ?_
  have hE := hE.trans hX_S_17
  have hK_a0 : sK S_17 a0 = 9 := (hX_S_17.2 a0 hL_a0).1.trans hK_a0
  have hL_a0 : wM D S_17 a0 := hX_S_17.M hL_a0
  have hK_a1 : sK S_17 a1 = 5 := (hX_S_17.2 a1 hL_a1).1.trans hK_a1
  have hL_a1 : wM D S_17 a1 := hX_S_17.M hL_a1
  have hK_a2 : sK S_17 a2 = 13 := (hX_S_17.2 a2 hL_a2).1.trans hK_a2
  have hL_a2 : wM D S_17 a2 := hX_S_17.M hL_a2
  have hK_y_14 : sK S_17 y_14 = 12 := (hX_S_17.2 y_14 hL_y_14).1.trans hK_y_14
  have hL_y_14 : wM D S_17 y_14 := hX_S_17.M hL_y_14
  refine w_putRF (k := 9) (f := 2) (T := TX4) (g := (some y_14)) F hK hW hL_a0 hK_a0 (by decide) (by decide) rfl rfl (by decide) i_9 tyX4 tyX4_ok nmX4 k_40 rfl rfl hin rfl (ty := (.object "OpeningsCabinet$Position")) rfl (v_narrow _ _) (v_fitsO _ _) dX4_init_51 (fun H locs hW => ?_)
  obtain ⟨S_18, eS_18⟩ : ∃ z : wS, z = uR S_17 a0 2 (some y_14) := ⟨_, rfl⟩
  rw [← eS_18] at hW
  replace hp := hp S_18 eS_18
  have hX_S_18 : wX D S_17 S_18 := by rw [eS_18]; exact wX_uR
  have hE := hE.trans hX_S_18
  have hK_a0 : sK S_18 a0 = 9 := (hX_S_18.2 a0 hL_a0).1.trans hK_a0
  have hL_a0 : wM D S_18 a0 := hX_S_18.M hL_a0
  have hK_a1 : sK S_18 a1 = 5 := (hX_S_18.2 a1 hL_a1).1.trans hK_a1
  have hL_a1 : wM D S_18 a1 := hX_S_18.M hL_a1
  have hK_a2 : sK S_18 a2 = 13 := (hX_S_18.2 a2 hL_a2).1.trans hK_a2
  have hL_a2 : wM D S_18 a2 := hX_S_18.M hL_a2
  refine lv_aload_n hx hb dX4_init_54 rfl (lv_at hl 0 rfl) ?_
  refine w_new (k := 12) (T := TX7) F hK hW rfl (by decide) (fun w h => List.mem_cons_of_mem _ (wu_12 w h)) tyX7 tyX7_ok (hwg _ wc_RX4_35) (hwg _ wn_12) (hwg _ wi_OpeningsCabinet_Position) wdef_12 (Nat.le_of_ble_eq_true rfl) (Nat.le_of_ble_eq_true rfl) dX4_init_55 (fun y_19 H hq_y_19 hW => ?_)
  refine W.widen (k := 4) (n := 3472) (by decide) (by decide) ?_
  obtain ⟨S_20, eS_20⟩ : ∃ z : wS, z = nA S_18 y_19 12 0 := ⟨_, rfl⟩
  rw [← eS_20] at hW
  replace hp := hp y_19 hq_y_19 S_20 eS_20
  have hX_S_20 : wX D S_18 S_20 := by rw [eS_20]; exact wX_nA hq_y_19
  have hE := hE.trans hX_S_20
  have hK_a0 : sK S_20 a0 = 9 := (hX_S_20.2 a0 hL_a0).1.trans hK_a0
  have hL_a0 : wM D S_20 a0 := hX_S_20.M hL_a0
  have hK_a1 : sK S_20 a1 = 5 := (hX_S_20.2 a1 hL_a1).1.trans hK_a1
  have hL_a1 : wM D S_20 a1 := hX_S_20.M hL_a1
  have hK_a2 : sK S_20 a2 = 13 := (hX_S_20.2 a2 hL_a2).1.trans hK_a2
  have hL_a2 : wM D S_20 a2 := hX_S_20.M hL_a2
  have hL_y_19 : wM D S_20 y_19 := by rw [eS_20]; exact Or.inl (List.mem_append_right _ List.mem_cons_self)
  have hK_y_19 : sK S_20 y_19 = 12 := by rw [eS_20]; exact va_up_self _ _ _
  refine lv_dup hx hb dX4_init_58 rfl ?_
  refine lv_aload_n hx hb dX4_init_59 rfl (lv_at hl 1 rfl) ?_
  refine w_callV (va_runI (As := [.ref a1]) (rest := [.ref y_19, .ref a0]) F (c_X7_init l hL_y_19 hK_y_19 hL_a1 hK_a1 hp H.size) (cwI 1 hts (wg_cons wy_X7_init.2.2) rfl rfl rfl (hwg _ wy_X7_init.2.1) (hwg _ wm_RX4_37) (hwg _ wy_X7_init.1) rfl (by decide +kernel) ⟨Nat.le_of_ble_eq_true rfl, Nat.le_of_ble_eq_true rfl⟩) (w_preS hK hW) rfl rfl hl.1 rfl (lv_room (Nat.le_of_ble_eq_true rfl)) dX4_init_60 ⟨Nat.le_of_ble_eq_true rfl, Nat.le_of_ble_eq_true rfl⟩) hW (fun S_22 H locs hp hW => ?_)
  obtain ⟨hX_S_22, hp⟩ := hp
  refine W.widen (k := 4) (n := 3472) (by decide) (by decide) ?_
  have hE := hE.trans hX_S_22
  have hK_a0 : sK S_22 a0 = 9 := (hX_S_22.2 a0 hL_a0).1.trans hK_a0
  have hL_a0 : wM D S_22 a0 := hX_S_22.M hL_a0
  have hK_a1 : sK S_22 a1 = 5 := (hX_S_22.2 a1 hL_a1).1.trans hK_a1
  have hL_a1 : wM D S_22 a1 := hX_S_22.M hL_a1
  have hK_a2 : sK S_22 a2 = 13 := (hX_S_22.2 a2 hL_a2).1.trans hK_a2
  have hL_a2 : wM D S_22 a2 := hX_S_22.M hL_a2
  have hK_y_19 : sK S_22 y_19 = 12 := (hX_S_22.2 y_19 hL_y_19).1.trans hK_y_19
  have hL_y_19 : wM D S_22 y_19 := hX_S_22.M hL_y_19
  refine w_putRF (k := 9) (f := 3) (T := TX4) (g := (some y_19)) F hK hW hL_a0 hK_a0 (by decide) (by decide) rfl rfl (by decide) i_9 tyX4 tyX4_ok nmX4 k_44 rfl rfl hin rfl (ty := (.object "OpeningsCabinet$Position")) rfl (v_narrow _ _) (v_fitsO _ _) dX4_init_63 (fun H locs hW => ?_)
  obtain ⟨S_23, eS_23⟩ : ∃ z : wS, z = uR S_22 a0 3 (some y_19) := ⟨_, rfl⟩
  rw [← eS_23] at hW
  replace hp := hp S_23 eS_23
  have hX_S_23 : wX D S_22 S_23 := by rw [eS_23]; exact wX_uR
  have hE := hE.trans hX_S_23
  have hK_a0 : sK S_23 a0 = 9 := (hX_S_23.2 a0 hL_a0).1.trans hK_a0
  have hL_a0 : wM D S_23 a0 := hX_S_23.M hL_a0
  have hK_a1 : sK S_23 a1 = 5 := (hX_S_23.2 a1 hL_a1).1.trans hK_a1
  have hL_a1 : wM D S_23 a1 := hX_S_23.M hL_a1
  have hK_a2 : sK S_23 a2 = 13 := (hX_S_23.2 a2 hL_a2).1.trans hK_a2
  have hL_a2 : wM D S_23 a2 := hX_S_23.M hL_a2
  exact w_vret hx hb hr hlocks hW ⟨hE, hp⟩ dX4_init_66
set_option maxHeartbeats 4000000 in
set_option maxRecDepth 100000 in
theorem c_X4_init (l : Launch) {D : wD} {cy : Nat → ClassId} {X : va_W} {S0 : wS} {post : wS → Prop} {a0 : Nat} {a1 : Nat} {a2 : Nat} (hL_a0 : wM D S0 a0) (hK_a0 : sK S0 a0 = 9) (hL_a1 : wM D S0 a1) (hK_a1 : sK S0 a1 = 5) (hL_a2 : wM D S0 a2) (hK_a2 : sK S0 a2 = 13) (hp : wp_X4_init D post S0 a0 a1 a2) : mV D cy X l yX4_init wz_X4_init r_X4_init [.ref a0, .ref a1, .ref a2] S0 (fun S9 => wX D S0 S9 ∧ post S9) := by
  intro sz
  refine Met.ofW (cc := cX4_init) (maxL := 3) (ret := none) (by decide) rfl ?_
  intro p e s m args below meth c s₁ B hml hv
  obtain ⟨rfl, hsz, hP, hK, hD0, hRO⟩ := hv
  have hts := atoms_spec (ws := wz_X4_init) B.pre
  have hown : s.vm.findClass RX4 = some m.cls := findClass_of_methodNamed B.named
  subst hsz
  have hD := hD0.self (sz := s.heap.size)
  have F : CallFix p m c cX4_init 3 s _ wz_X4_init RX4 := ⟨B.exec, B.bytes, hml, hown, hts⟩
  have hr := B.returns
  have hlocks := B.notSynchronized
  have hin : meth.name = "<init>" := (name_of_methodNamed B.named B.method).1
  generalize hAe : va_A (wL cy X S0) s.heap.size = A at hD hK ⊢
  have hA : ∀ q, s.heap.size ≤ q → A q := fun q h => by rw [← hAe]; exact Or.inr h
  have hW : wO D cy X A s.heap S0 s.heap [] := ⟨hP, hD, va_S.rf, hA, hRO⟩
  have hl := lv_entry ([.ref a0, .ref a1, .ref a2]) (n := 3) (Nat.le_of_ble_eq_true rfl)
  rw [lg_entry_eq]
  generalize (lg_sl ([.ref a0, .ref a1, .ref a2]) ++ List.replicate (3 - (lg_sl ([.ref a0, .ref a1, .ref a2])).length) Slot.unset).toArray = ls at hl ⊢
  have hl : lv_has ls 3 [(0, .ref a0), (1, .ref a1), (2, .ref a2)] := hl
  unfold wp_X4_init at hp
  exact t_X4_init_0 F hr hlocks hK hin hp hW wX.rf (lv_sub hl [0, 1, 2] rfl) hL_a0 hK_a0 hL_a1 hK_a1 hL_a2 hK_a2
def wp_X5_init_0 (D : wD) (post : wS → Prop)  (S : wS) (a0 : Nat) (a1 : Nat) (a2 : Nat) : Prop :=
¬ (25 : Int32) < 0 ∧ ((25 : Int32)).toNatClampNeg ≤ 25 ∧ ∀ y_1 : Nat, ¬ wM D S y_1 → ∀ S_2 : wS, S_2 = nA S y_1 22 ((25 : Int32)).toNatClampNeg →
∀ S_4 : wS, S_4 = uR S_2 a0 2 (some y_1) →
¬ (25 : Int32) < 0 ∧ ((25 : Int32)).toNatClampNeg ≤ 25 ∧ ∀ y_5 : Nat, ¬ wM D S_4 y_5 → ∀ S_6 : wS, S_6 = nA S_4 y_5 22 ((25 : Int32)).toNatClampNeg →
∀ S_8 : wS, S_8 = uR S_6 a0 3 (some y_5) →
¬ (5 : Int32) < 0 ∧ ((5 : Int32)).toNatClampNeg ≤ 5 ∧ ∀ y_9 : Nat, ¬ wM D S_8 y_9 → ∀ S_10 : wS, S_10 = nA S_8 y_9 21 ((5 : Int32)).toNatClampNeg →
∀ S_12 : wS, S_12 = uR S_10 a0 4 (some y_9) →
¬ (80 : Int32) < 0 ∧ ((80 : Int32)).toNatClampNeg ≤ 80 ∧ ∀ y_13 : Nat, ¬ wM D S_12 y_13 → ∀ S_14 : wS, S_14 = nA S_12 y_13 21 ((80 : Int32)).toNatClampNeg →
∀ S_16 : wS, S_16 = uR S_14 a0 5 (some y_13) →
∀ S_17 : wS, S_17 = uI S_16 a0 6 (0 : Int32) →
∀ S_18 : wS, S_18 = uI S_17 a0 7 (0 : Int32) →
∀ S_19 : wS, S_19 = uI S_18 a0 8 (0 : Int32) →
narrow .boolean (.int (0 : Int32)) = .int (0 : Int32) ∧ fits .boolean (.int (0 : Int32)) = true ∧
∀ S_20 : wS, S_20 = uI S_19 a0 9 (0 : Int32) →
narrow .boolean (.int (0 : Int32)) = .int (0 : Int32) ∧ fits .boolean (.int (0 : Int32)) = true ∧
∀ S_22 : wS, S_22 = uI S_20 a0 10 (0 : Int32) →
∀ S_24 : wS, S_24 = uR S_22 a0 0 (some a2) →
∀ y_25 : Nat, ¬ wM D S_24 y_25 → ∀ S_26 : wS, S_26 = nA S_24 y_25 12 0 →
wp_X7_init D (fun S_28 => 
∀ S_29 : wS, S_29 = uR S_28 a0 1 (some y_25) →
post S_29) S_26 y_25 a1
abbrev r_X5_init : Room := { frames := 2, cells := 5, slots := 143, locals := 81 }
def wp_X5_init (D : wD) (post : wS → Prop) (S : wS) (a0 : Nat) (a1 : Nat) (a2 : Nat) : Prop := wp_X5_init_0 D post S a0 a1 a2
set_option maxHeartbeats 4000000 in
set_option maxRecDepth 100000 in
theorem t_X5_init_0 {p : Program} {l : Launch} {e : Env} {s : State} {m : MethodId} {args : Array Value} {below : List Frame} {meth : Method} {c : Code} {D : wD} {cy : Nat → ClassId} {X : va_W} {A : Nat → Prop} {S0 : wS} {post : wS → Prop} (F : CallFix p m c cX5_init 3 s args wz_X5_init RX5) (hr : meth.sig.returnType = none) (hlocks : meth.locks = false) (hK : wK D cy A s) (hin : meth.name = "<init>") : ∀ {S : wS} {H : Heap} {locs : List Loc} {ls : Array Slot} {a0 : Nat} {a1 : Nat} {a2 : Nat}, wp_X5_init_0 D post S a0 a1 a2 → wO D cy X A s.heap S H locs → wX D S0 S → lv_has ls 3 [(0, .ref a0), (1, .ref a1), (2, .ref a2)] → wM D S a0 → sK S a0 = 10 → wM D S a1 → sK S a1 = 5 → wM D S a2 → sK S a2 = 9 → W p l e r_X5_init s m args below meth c H locs 0 0 (MQ below (va_Qv (fun S9 => wX D S0 S9 ∧ post S9) (wB D cy X A) A) args s 5 143 A) (F0 m 0 ls []) := by
  obtain ⟨hx, hb, hml, hown, hts⟩ := id F
  have hwg : ∀ w ∈ WG, w.before args s = true := fun w h => hts w (List.mem_cons_of_mem _ h)
  have i_10 : ∀ w ∈ u_ws RX5 TX5 11, w ∈ wz_X5_init := fun w h => List.mem_cons_of_mem _ (wu_10 w h)
  have k_11 := hwg _ wf_RX5_11
  have k_15 := hwg _ wf_RX5_15
  have k_18 := hwg _ wf_RX5_18
  have k_22 := hwg _ wf_RX5_22
  have k_25 := hwg _ wf_RX5_25
  have k_29 := hwg _ wf_RX5_29
  have k_32 := hwg _ wf_RX5_32
  have k_35 := hwg _ wf_RX5_35
  have k_39 := hwg _ wf_RX5_39
  have k_42 := hwg _ wf_RX5_42
  have k_51 := hwg _ wf_RX5_51
  intro S H locs ls a0 a1 a2 hp hW hE hl hL_a0 hK_a0 hL_a1 hK_a1 hL_a2 hK_a2
  unfold wp_X5_init_0 at hp
  refine lv_aload_n hx hb dX5_init_0 rfl (lv_at hl 0 rfl) ?_
  refine W.objInit hx hb hown (hwg _ wm_RX5_3) (hwg _ wobj.1) (hwg _ wobj.2) rfl (by rw [hml]; exact hl.1) rfl dX5_init_1 (Nat.le_of_ble_eq_true rfl) (Nat.le_of_ble_eq_true rfl) ?_
  refine W.eq (g2 := F0 m 4 ls []) rfl ?_
  refine lv_aload_n hx hb dX5_init_4 rfl (lv_at hl 0 rfl) ?_
  refine lv_bipush (v := 25) hx hb dX5_init_5 (by decide) ?_
  obtain ⟨h_3, h_3b, hp⟩ := hp
  refine w_newaJ F hK hW (hwg _ wr_long) h_3 (by omega) (Nat.le_of_ble_eq_true rfl) (Nat.le_trans (Nat.add_le_add_left h_3b _) (Nat.le_of_ble_eq_true rfl)) dX5_init_7 (fun y_1 H hq_y_1 hW => ?_)
  refine W.widen (k := 1) (n := 25) (by decide) (Nat.add_le_add_left h_3b _) ?_
  obtain ⟨S_2, eS_2⟩ : ∃ z : wS, z = nA S y_1 22 ((25 : Int32)).toNatClampNeg := ⟨_, rfl⟩
  rw [← eS_2] at hW
  replace hp := hp y_1 hq_y_1 S_2 eS_2
  have hX_S_2 : wX D S S_2 := by rw [eS_2]; exact wX_nA hq_y_1
  have hE := hE.trans hX_S_2
  have hK_a0 : sK S_2 a0 = 10 := (hX_S_2.2 a0 hL_a0).1.trans hK_a0
  have hL_a0 : wM D S_2 a0 := hX_S_2.M hL_a0
  have hK_a1 : sK S_2 a1 = 5 := (hX_S_2.2 a1 hL_a1).1.trans hK_a1
  have hL_a1 : wM D S_2 a1 := hX_S_2.M hL_a1
  have hK_a2 : sK S_2 a2 = 9 := (hX_S_2.2 a2 hL_a2).1.trans hK_a2
  have hL_a2 : wM D S_2 a2 := hX_S_2.M hL_a2
  have hL_y_1 : wM D S_2 y_1 := by rw [eS_2]; exact Or.inl (List.mem_append_right _ List.mem_cons_self)
  have hK_y_1 : sK S_2 y_1 = 22 := by rw [eS_2]; exact va_up_self _ _ _
  refine w_putRF (k := 10) (f := 2) (T := TX5) (g := (some y_1)) F hK hW hL_a0 hK_a0 (by decide) (by decide) rfl rfl (by decide) i_10 tyX5 tyX5_ok nmX5 k_11 rfl rfl hin rfl (ty := (.array .long)) rfl (v_narrow _ _) (v_fitsA _ _) dX5_init_9 (fun H locs hW => ?_)
  obtain ⟨S_4, eS_4⟩ : ∃ z : wS, z = uR S_2 a0 2 (some y_1) := ⟨_, rfl⟩
  rw [← eS_4] at hW
  replace hp := hp S_4 eS_4
  have hX_S_4 : wX D S_2 S_4 := by rw [eS_4]; exact wX_uR
  have hE := hE.trans hX_S_4
  have hK_a0 : sK S_4 a0 = 10 := (hX_S_4.2 a0 hL_a0).1.trans hK_a0
  have hL_a0 : wM D S_4 a0 := hX_S_4.M hL_a0
  have hK_a1 : sK S_4 a1 = 5 := (hX_S_4.2 a1 hL_a1).1.trans hK_a1
  have hL_a1 : wM D S_4 a1 := hX_S_4.M hL_a1
  have hK_a2 : sK S_4 a2 = 9 := (hX_S_4.2 a2 hL_a2).1.trans hK_a2
  have hL_a2 : wM D S_4 a2 := hX_S_4.M hL_a2
  refine lv_aload_n hx hb dX5_init_12 rfl (lv_at hl 0 rfl) ?_
  refine lv_bipush (v := 25) hx hb dX5_init_13 (by decide) ?_
  obtain ⟨h_7, h_7b, hp⟩ := hp
  refine w_newaJ F hK hW (hwg _ wr_long) h_7 (by omega) (Nat.le_of_ble_eq_true rfl) (Nat.le_trans (Nat.add_le_add_left h_7b _) (Nat.le_of_ble_eq_true rfl)) dX5_init_15 (fun y_5 H hq_y_5 hW => ?_)
  refine W.widen (k := 2) (n := 50) (by decide) (Nat.add_le_add_left h_7b _) ?_
  obtain ⟨S_6, eS_6⟩ : ∃ z : wS, z = nA S_4 y_5 22 ((25 : Int32)).toNatClampNeg := ⟨_, rfl⟩
  rw [← eS_6] at hW
  replace hp := hp y_5 hq_y_5 S_6 eS_6
  have hX_S_6 : wX D S_4 S_6 := by rw [eS_6]; exact wX_nA hq_y_5
  have hE := hE.trans hX_S_6
  have hK_a0 : sK S_6 a0 = 10 := (hX_S_6.2 a0 hL_a0).1.trans hK_a0
  have hL_a0 : wM D S_6 a0 := hX_S_6.M hL_a0
  have hK_a1 : sK S_6 a1 = 5 := (hX_S_6.2 a1 hL_a1).1.trans hK_a1
  have hL_a1 : wM D S_6 a1 := hX_S_6.M hL_a1
  have hK_a2 : sK S_6 a2 = 9 := (hX_S_6.2 a2 hL_a2).1.trans hK_a2
  have hL_a2 : wM D S_6 a2 := hX_S_6.M hL_a2
  have hL_y_5 : wM D S_6 y_5 := by rw [eS_6]; exact Or.inl (List.mem_append_right _ List.mem_cons_self)
  have hK_y_5 : sK S_6 y_5 = 22 := by rw [eS_6]; exact va_up_self _ _ _
  refine w_putRF (k := 10) (f := 3) (T := TX5) (g := (some y_5)) F hK hW hL_a0 hK_a0 (by decide) (by decide) rfl rfl (by decide) i_10 tyX5 tyX5_ok nmX5 k_15 rfl rfl hin rfl (ty := (.array .long)) rfl (v_narrow _ _) (v_fitsA _ _) dX5_init_17 (fun H locs hW => ?_)
  obtain ⟨S_8, eS_8⟩ : ∃ z : wS, z = uR S_6 a0 3 (some y_5) := ⟨_, rfl⟩
  rw [← eS_8] at hW
  replace hp := hp S_8 eS_8
  have hX_S_8 : wX D S_6 S_8 := by rw [eS_8]; exact wX_uR
  have hE := hE.trans hX_S_8
  have hK_a0 : sK S_8 a0 = 10 := (hX_S_8.2 a0 hL_a0).1.trans hK_a0
  have hL_a0 : wM D S_8 a0 := hX_S_8.M hL_a0
  have hK_a1 : sK S_8 a1 = 5 := (hX_S_8.2 a1 hL_a1).1.trans hK_a1
  have hL_a1 : wM D S_8 a1 := hX_S_8.M hL_a1
  have hK_a2 : sK S_8 a2 = 9 := (hX_S_8.2 a2 hL_a2).1.trans hK_a2
  have hL_a2 : wM D S_8 a2 := hX_S_8.M hL_a2
  refine lv_aload_n hx hb dX5_init_20 rfl (lv_at hl 0 rfl) ?_
  refine lv_iconst (v := 5) hx hb dX5_init_21 (by decide) ?_
  obtain ⟨h_11, h_11b, hp⟩ := hp
  refine w_newaI F hK hW (hwg _ wr_int) h_11 (by omega) (Nat.le_of_ble_eq_true rfl) (Nat.le_trans (Nat.add_le_add_left h_11b _) (Nat.le_of_ble_eq_true rfl)) dX5_init_22 (fun y_9 H hq_y_9 hW => ?_)
  refine W.widen (k := 3) (n := 55) (by decide) (Nat.add_le_add_left h_11b _) ?_
  obtain ⟨S_10, eS_10⟩ : ∃ z : wS, z = nA S_8 y_9 21 ((5 : Int32)).toNatClampNeg := ⟨_, rfl⟩
  rw [← eS_10] at hW
  replace hp := hp y_9 hq_y_9 S_10 eS_10
  have hX_S_10 : wX D S_8 S_10 := by rw [eS_10]; exact wX_nA hq_y_9
  have hE := hE.trans hX_S_10
  have hK_a0 : sK S_10 a0 = 10 := (hX_S_10.2 a0 hL_a0).1.trans hK_a0
  have hL_a0 : wM D S_10 a0 := hX_S_10.M hL_a0
  have hK_a1 : sK S_10 a1 = 5 := (hX_S_10.2 a1 hL_a1).1.trans hK_a1
  have hL_a1 : wM D S_10 a1 := hX_S_10.M hL_a1
  have hK_a2 : sK S_10 a2 = 9 := (hX_S_10.2 a2 hL_a2).1.trans hK_a2
  have hL_a2 : wM D S_10 a2 := hX_S_10.M hL_a2
  have hL_y_9 : wM D S_10 y_9 := by rw [eS_10]; exact Or.inl (List.mem_append_right _ List.mem_cons_self)
  have hK_y_9 : sK S_10 y_9 = 21 := by rw [eS_10]; exact va_up_self _ _ _
  refine w_putRF (k := 10) (f := 4) (T := TX5) (g := (some y_9)) F hK hW hL_a0 hK_a0 (by decide) (by decide) rfl rfl (by decide) i_10 tyX5 tyX5_ok nmX5 k_18 rfl rfl hin rfl (ty := (.array .int)) rfl (v_narrow _ _) (v_fitsA _ _) dX5_init_24 (fun H locs hW => ?_)
  obtain ⟨S_12, eS_12⟩ : ∃ z : wS, z = uR S_10 a0 4 (some y_9) := ⟨_, rfl⟩
  rw [← eS_12] at hW
  replace hp := hp S_12 eS_12
  have hX_S_12 : wX D S_10 S_12 := by rw [eS_12]; exact wX_uR
  have hE := hE.trans hX_S_12
  have hK_a0 : sK S_12 a0 = 10 := (hX_S_12.2 a0 hL_a0).1.trans hK_a0
  have hL_a0 : wM D S_12 a0 := hX_S_12.M hL_a0
  have hK_a1 : sK S_12 a1 = 5 := (hX_S_12.2 a1 hL_a1).1.trans hK_a1
  have hL_a1 : wM D S_12 a1 := hX_S_12.M hL_a1
  have hK_a2 : sK S_12 a2 = 9 := (hX_S_12.2 a2 hL_a2).1.trans hK_a2
  have hL_a2 : wM D S_12 a2 := hX_S_12.M hL_a2
  refine lv_aload_n hx hb dX5_init_27 rfl (lv_at hl 0 rfl) ?_
  refine lv_bipush (v := 80) hx hb dX5_init_28 (by decide) ?_
  obtain ⟨h_15, h_15b, hp⟩ := hp
  refine w_newaI F hK hW (hwg _ wr_int) h_15 (by omega) (Nat.le_of_ble_eq_true rfl) (Nat.le_trans (Nat.add_le_add_left h_15b _) (Nat.le_of_ble_eq_true rfl)) dX5_init_30 (fun y_13 H hq_y_13 hW => ?_)
  refine W.widen (k := 4) (n := 135) (by decide) (Nat.add_le_add_left h_15b _) ?_
  obtain ⟨S_14, eS_14⟩ : ∃ z : wS, z = nA S_12 y_13 21 ((80 : Int32)).toNatClampNeg := ⟨_, rfl⟩
  rw [← eS_14] at hW
  replace hp := hp y_13 hq_y_13 S_14 eS_14
  have hX_S_14 : wX D S_12 S_14 := by rw [eS_14]; exact wX_nA hq_y_13
  have hE := hE.trans hX_S_14
  have hK_a0 : sK S_14 a0 = 10 := (hX_S_14.2 a0 hL_a0).1.trans hK_a0
  have hL_a0 : wM D S_14 a0 := hX_S_14.M hL_a0
  have hK_a1 : sK S_14 a1 = 5 := (hX_S_14.2 a1 hL_a1).1.trans hK_a1
  have hL_a1 : wM D S_14 a1 := hX_S_14.M hL_a1
  have hK_a2 : sK S_14 a2 = 9 := (hX_S_14.2 a2 hL_a2).1.trans hK_a2
  have hL_a2 : wM D S_14 a2 := hX_S_14.M hL_a2
  have hL_y_13 : wM D S_14 y_13 := by rw [eS_14]; exact Or.inl (List.mem_append_right _ List.mem_cons_self)
  have hK_y_13 : sK S_14 y_13 = 21 := by rw [eS_14]; exact va_up_self _ _ _
  refine w_putRF (k := 10) (f := 5) (T := TX5) (g := (some y_13)) F hK hW hL_a0 hK_a0 (by decide) (by decide) rfl rfl (by decide) i_10 tyX5 tyX5_ok nmX5 k_22 rfl rfl hin rfl (ty := (.array .int)) rfl (v_narrow _ _) (v_fitsA _ _) dX5_init_32 (fun H locs hW => ?_)
  obtain ⟨S_16, eS_16⟩ : ∃ z : wS, z = uR S_14 a0 5 (some y_13) := ⟨_, rfl⟩
  rw [← eS_16] at hW
  replace hp := hp S_16 eS_16
  have hX_S_16 : wX D S_14 S_16 := by rw [eS_16]; exact wX_uR
  have hE := hE.trans hX_S_16
  have hK_a0 : sK S_16 a0 = 10 := (hX_S_16.2 a0 hL_a0).1.trans hK_a0
  have hL_a0 : wM D S_16 a0 := hX_S_16.M hL_a0
  have hK_a1 : sK S_16 a1 = 5 := (hX_S_16.2 a1 hL_a1).1.trans hK_a1
  have hL_a1 : wM D S_16 a1 := hX_S_16.M hL_a1
  have hK_a2 : sK S_16 a2 = 9 := (hX_S_16.2 a2 hL_a2).1.trans hK_a2
  have hL_a2 : wM D S_16 a2 := hX_S_16.M hL_a2
  refine lv_aload_n hx hb dX5_init_35 rfl (lv_at hl 0 rfl) ?_
  refine lv_iconst (v := 0) hx hb dX5_init_36 (by decide) ?_
  refine w_putI (k := 10) (f := 6) (T := TX5) F hK hW hL_a0 hK_a0 (by decide) (by decide) rfl rfl (by decide) i_10 tyX5 tyX5_ok nmX5 k_25 rfl rfl (ty := .int) rfl rfl rfl dX5_init_37 (fun H locs hW => ?_)
  obtain ⟨S_17, eS_17⟩ : ∃ z : wS, z = uI S_16 a0 6 (0 : Int32) := ⟨_, rfl⟩
  rw [← eS_17] at hW
  replace hp := hp S_17 eS_17
  have hX_S_17 : wX D S_16 S_17 := by rw [eS_17]; exact wX_uI
  have hE := hE.trans hX_S_17
  have hK_a0 : sK S_17 a0 = 10 := (hX_S_17.2 a0 hL_a0).1.trans hK_a0
  have hL_a0 : wM D S_17 a0 := hX_S_17.M hL_a0
  have hK_a1 : sK S_17 a1 = 5 := (hX_S_17.2 a1 hL_a1).1.trans hK_a1
  have hL_a1 : wM D S_17 a1 := hX_S_17.M hL_a1
  have hK_a2 : sK S_17 a2 = 9 := (hX_S_17.2 a2 hL_a2).1.trans hK_a2
  have hL_a2 : wM D S_17 a2 := hX_S_17.M hL_a2
  refine lv_aload_n hx hb dX5_init_40 rfl (lv_at hl 0 rfl) ?_
  refine lv_iconst (v := 0) hx hb dX5_init_41 (by decide) ?_
  refine w_putI (k := 10) (f := 7) (T := TX5) F hK hW hL_a0 hK_a0 (by decide) (by decide) rfl rfl (by decide) i_10 tyX5 tyX5_ok nmX5 k_29 rfl rfl (ty := .int) rfl rfl rfl dX5_init_42 (fun H locs hW => ?_)
  obtain ⟨S_18, eS_18⟩ : ∃ z : wS, z = uI S_17 a0 7 (0 : Int32) := ⟨_, rfl⟩
  rw [← eS_18] at hW
  replace hp := hp S_18 eS_18
  have hX_S_18 : wX D S_17 S_18 := by rw [eS_18]; exact wX_uI
  have hE := hE.trans hX_S_18
  have hK_a0 : sK S_18 a0 = 10 := (hX_S_18.2 a0 hL_a0).1.trans hK_a0
  have hL_a0 : wM D S_18 a0 := hX_S_18.M hL_a0
  have hK_a1 : sK S_18 a1 = 5 := (hX_S_18.2 a1 hL_a1).1.trans hK_a1
  have hL_a1 : wM D S_18 a1 := hX_S_18.M hL_a1
  have hK_a2 : sK S_18 a2 = 9 := (hX_S_18.2 a2 hL_a2).1.trans hK_a2
  have hL_a2 : wM D S_18 a2 := hX_S_18.M hL_a2
  refine lv_aload_n hx hb dX5_init_45 rfl (lv_at hl 0 rfl) ?_
  refine lv_iconst (v := 0) hx hb dX5_init_46 (by decide) ?_
  refine w_putI (k := 10) (f := 8) (T := TX5) F hK hW hL_a0 hK_a0 (by decide) (by decide) rfl rfl (by decide) i_10 tyX5 tyX5_ok nmX5 k_32 rfl rfl (ty := .int) rfl rfl rfl dX5_init_47 (fun H locs hW => ?_)
  obtain ⟨S_19, eS_19⟩ : ∃ z : wS, z = uI S_18 a0 8 (0 : Int32) := ⟨_, rfl⟩
  rw [← eS_19] at hW
  replace hp := hp S_19 eS_19
  have hX_S_19 : wX D S_18 S_19 := by rw [eS_19]; exact wX_uI
  have hE := hE.trans hX_S_19
  have hK_a0 : sK S_19 a0 = 10 := (hX_S_19.2 a0 hL_a0).1.trans hK_a0
  have hL_a0 : wM D S_19 a0 := hX_S_19.M hL_a0
  have hK_a1 : sK S_19 a1 = 5 := (hX_S_19.2 a1 hL_a1).1.trans hK_a1
  have hL_a1 : wM D S_19 a1 := hX_S_19.M hL_a1
  have hK_a2 : sK S_19 a2 = 9 := (hX_S_19.2 a2 hL_a2).1.trans hK_a2
  have hL_a2 : wM D S_19 a2 := hX_S_19.M hL_a2
  refine lv_aload_n hx hb dX5_init_50 rfl (lv_at hl 0 rfl) ?_
  refine lv_iconst (v := 0) hx hb dX5_init_51 (by decide) ?_
  obtain ⟨h_21, h_21f, hp⟩ := hp
  refine w_putI (k := 10) (f := 9) (T := TX5) F hK hW hL_a0 hK_a0 (by decide) (by decide) rfl rfl (by decide) i_10 tyX5 tyX5_ok nmX5 k_35 rfl rfl (ty := .boolean) rfl h_21 h_21f dX5_init_52 (fun H locs hW => ?_)
  obtain ⟨S_20, eS_20⟩ : ∃ z : wS, z = uI S_19 a0 9 (0 : Int32) := ⟨_, rfl⟩
  rw [← eS_20] at hW
  replace hp := hp S_20 eS_20
  have hX_S_20 : wX D S_19 S_20 := by rw [eS_20]; exact wX_uI
  have hE := hE.trans hX_S_20
  have hK_a0 : sK S_20 a0 = 10 := (hX_S_20.2 a0 hL_a0).1.trans hK_a0
  have hL_a0 : wM D S_20 a0 := hX_S_20.M hL_a0
  have hK_a1 : sK S_20 a1 = 5 := (hX_S_20.2 a1 hL_a1).1.trans hK_a1
  have hL_a1 : wM D S_20 a1 := hX_S_20.M hL_a1
  have hK_a2 : sK S_20 a2 = 9 := (hX_S_20.2 a2 hL_a2).1.trans hK_a2
  have hL_a2 : wM D S_20 a2 := hX_S_20.M hL_a2
  refine lv_aload_n hx hb dX5_init_55 rfl (lv_at hl 0 rfl) ?_
  refine lv_iconst (v := 0) hx hb dX5_init_56 (by decide) ?_
  obtain ⟨h_23, h_23f, hp⟩ := hp
  refine w_putI (k := 10) (f := 10) (T := TX5) F hK hW hL_a0 hK_a0 (by decide) (by decide) rfl rfl (by decide) i_10 tyX5 tyX5_ok nmX5 k_39 rfl rfl (ty := .boolean) rfl h_23 h_23f dX5_init_57 (fun H locs hW => ?_)
  obtain ⟨S_22, eS_22⟩ : ∃ z : wS, z = uI S_20 a0 10 (0 : Int32) := ⟨_, rfl⟩
  rw [← eS_22] at hW
  replace hp := hp S_22 eS_22
  have hX_S_22 : wX D S_20 S_22 := by rw [eS_22]; exact wX_uI
  have hE := hE.trans hX_S_22
  have hK_a0 : sK S_22 a0 = 10 := (hX_S_22.2 a0 hL_a0).1.trans hK_a0
  have hL_a0 : wM D S_22 a0 := hX_S_22.M hL_a0
  have hK_a1 : sK S_22 a1 = 5 := (hX_S_22.2 a1 hL_a1).1.trans hK_a1
  have hL_a1 : wM D S_22 a1 := hX_S_22.M hL_a1
  have hK_a2 : sK S_22 a2 = 9 := (hX_S_22.2 a2 hL_a2).1.trans hK_a2
  have hL_a2 : wM D S_22 a2 := hX_S_22.M hL_a2
  refine lv_aload_n hx hb dX5_init_60 rfl (lv_at hl 0 rfl) ?_
  refine lv_aload_n hx hb dX5_init_61 rfl (lv_at hl 2 rfl) ?_
  refine w_putRF (k := 10) (f := 0) (T := TX5) (g := (some a2)) F hK hW hL_a0 hK_a0 (by decide) (by decide) rfl rfl (by decide) i_10 tyX5 tyX5_ok nmX5 k_42 rfl rfl hin rfl (ty := (.object "OpeningsCabinet$MoveList")) rfl (v_narrow _ _) (v_fitsO _ _) dX5_init_62 (fun H locs hW => ?_)
  obtain ⟨S_24, eS_24⟩ : ∃ z : wS, z = uR S_22 a0 0 (some a2) := ⟨_, rfl⟩
  rw [← eS_24] at hW
  replace hp := hp S_24 eS_24
  have hX_S_24 : wX D S_22 S_24 := by rw [eS_24]; exact wX_uR
  have hE := hE.trans hX_S_24
  have hK_a0 : sK S_24 a0 = 10 := (hX_S_24.2 a0 hL_a0).1.trans hK_a0
  have hL_a0 : wM D S_24 a0 := hX_S_24.M hL_a0
  have hK_a1 : sK S_24 a1 = 5 := (hX_S_24.2 a1 hL_a1).1.trans hK_a1
  have hL_a1 : wM D S_24 a1 := hX_S_24.M hL_a1
  have hK_a2 : sK S_24 a2 = 9 := (hX_S_24.2 a2 hL_a2).1.trans hK_a2
  have hL_a2 : wM D S_24 a2 := hX_S_24.M hL_a2
  refine lv_aload_n hx hb dX5_init_65 rfl (lv_at hl 0 rfl) ?_
  refine w_new (k := 12) (T := TX7) F hK hW rfl (by decide) (fun w h => List.mem_cons_of_mem _ (wu_12 w h)) tyX7 tyX7_ok (hwg _ wc_RX5_46) (hwg _ wn_12) (hwg _ wi_OpeningsCabinet_Position) wdef_12 (Nat.le_of_ble_eq_true rfl) (Nat.le_of_ble_eq_true rfl) dX5_init_66 (fun y_25 H hq_y_25 hW => ?_)
  refine W.widen (k := 5) (n := 143) (by decide) (by decide) ?_
  obtain ⟨S_26, eS_26⟩ : ∃ z : wS, z = nA S_24 y_25 12 0 := ⟨_, rfl⟩
  rw [← eS_26] at hW
  replace hp := hp y_25 hq_y_25 S_26 eS_26
  have hX_S_26 : wX D S_24 S_26 := by rw [eS_26]; exact wX_nA hq_y_25
  have hE := hE.trans hX_S_26
  have hK_a0 : sK S_26 a0 = 10 := (hX_S_26.2 a0 hL_a0).1.trans hK_a0
  have hL_a0 : wM D S_26 a0 := hX_S_26.M hL_a0
  have hK_a1 : sK S_26 a1 = 5 := (hX_S_26.2 a1 hL_a1).1.trans hK_a1
  have hL_a1 : wM D S_26 a1 := hX_S_26.M hL_a1
  have hK_a2 : sK S_26 a2 = 9 := (hX_S_26.2 a2 hL_a2).1.trans hK_a2
  have hL_a2 : wM D S_26 a2 := hX_S_26.M hL_a2
  have hL_y_25 : wM D S_26 y_25 := by rw [eS_26]; exact Or.inl (List.mem_append_right _ List.mem_cons_self)
  have hK_y_25 : sK S_26 y_25 = 12 := by rw [eS_26]; exact va_up_self _ _ _
  refine lv_dup hx hb dX5_init_69 rfl ?_
  refine lv_aload_n hx hb dX5_init_70 rfl (lv_at hl 1 rfl) ?_
  refine w_callV (va_runI (As := [.ref a1]) (rest := [.ref y_25, .ref a0]) F (c_X7_init l hL_y_25 hK_y_25 hL_a1 hK_a1 hp H.size) (cwI 1 hts (wg_cons wy_X7_init.2.2) rfl rfl rfl (hwg _ wy_X7_init.2.1) (hwg _ wm_RX5_48) (hwg _ wy_X7_init.1) rfl (by decide +kernel) ⟨Nat.le_of_ble_eq_true rfl, Nat.le_of_ble_eq_true rfl⟩) (w_preS hK hW) rfl rfl hl.1 rfl (lv_room (Nat.le_of_ble_eq_true rfl)) dX5_init_71 ⟨Nat.le_of_ble_eq_true rfl, Nat.le_of_ble_eq_true rfl⟩) hW (fun S_28 H locs hp hW => ?_)
  obtain ⟨hX_S_28, hp⟩ := hp
  refine W.widen (k := 5) (n := 143) (by decide) (by decide) ?_
  have hE := hE.trans hX_S_28
  have hK_a0 : sK S_28 a0 = 10 := (hX_S_28.2 a0 hL_a0).1.trans hK_a0
  have hL_a0 : wM D S_28 a0 := hX_S_28.M hL_a0
  have hK_a1 : sK S_28 a1 = 5 := (hX_S_28.2 a1 hL_a1).1.trans hK_a1
  have hL_a1 : wM D S_28 a1 := hX_S_28.M hL_a1
  have hK_a2 : sK S_28 a2 = 9 := (hX_S_28.2 a2 hL_a2).1.trans hK_a2
  have hL_a2 : wM D S_28 a2 := hX_S_28.M hL_a2
  have hK_y_25 : sK S_28 y_25 = 12 := (hX_S_28.2 y_25 hL_y_25).1.trans hK_y_25
  have hL_y_25 : wM D S_28 y_25 := hX_S_28.M hL_y_25
  refine w_putRF (k := 10) (f := 1) (T := TX5) (g := (some y_25)) F hK hW hL_a0 hK_a0 (by decide) (by decide) rfl rfl (by decide) i_10 tyX5 tyX5_ok nmX5 k_51 rfl rfl hin rfl (ty := (.object "OpeningsCabinet$Position")) rfl (v_narrow _ _) (v_fitsO _ _) dX5_init_74 (fun H locs hW => ?_)
  obtain ⟨S_29, eS_29⟩ : ∃ z : wS, z = uR S_28 a0 1 (some y_25) := ⟨_, rfl⟩
  rw [← eS_29] at hW
  replace hp := hp S_29 eS_29
  have hX_S_29 : wX D S_28 S_29 := by rw [eS_29]; exact wX_uR
  have hE := hE.trans hX_S_29
  have hK_a0 : sK S_29 a0 = 10 := (hX_S_29.2 a0 hL_a0).1.trans hK_a0
  have hL_a0 : wM D S_29 a0 := hX_S_29.M hL_a0
  have hK_a1 : sK S_29 a1 = 5 := (hX_S_29.2 a1 hL_a1).1.trans hK_a1
  have hL_a1 : wM D S_29 a1 := hX_S_29.M hL_a1
  have hK_a2 : sK S_29 a2 = 9 := (hX_S_29.2 a2 hL_a2).1.trans hK_a2
  have hL_a2 : wM D S_29 a2 := hX_S_29.M hL_a2
  exact w_vret hx hb hr hlocks hW ⟨hE, hp⟩ dX5_init_77
set_option maxHeartbeats 4000000 in
set_option maxRecDepth 100000 in
theorem c_X5_init (l : Launch) {D : wD} {cy : Nat → ClassId} {X : va_W} {S0 : wS} {post : wS → Prop} {a0 : Nat} {a1 : Nat} {a2 : Nat} (hL_a0 : wM D S0 a0) (hK_a0 : sK S0 a0 = 10) (hL_a1 : wM D S0 a1) (hK_a1 : sK S0 a1 = 5) (hL_a2 : wM D S0 a2) (hK_a2 : sK S0 a2 = 9) (hp : wp_X5_init D post S0 a0 a1 a2) : mV D cy X l yX5_init wz_X5_init r_X5_init [.ref a0, .ref a1, .ref a2] S0 (fun S9 => wX D S0 S9 ∧ post S9) := by
  intro sz
  refine Met.ofW (cc := cX5_init) (maxL := 3) (ret := none) (by decide) rfl ?_
  intro p e s m args below meth c s₁ B hml hv
  obtain ⟨rfl, hsz, hP, hK, hD0, hRO⟩ := hv
  have hts := atoms_spec (ws := wz_X5_init) B.pre
  have hown : s.vm.findClass RX5 = some m.cls := findClass_of_methodNamed B.named
  subst hsz
  have hD := hD0.self (sz := s.heap.size)
  have F : CallFix p m c cX5_init 3 s _ wz_X5_init RX5 := ⟨B.exec, B.bytes, hml, hown, hts⟩
  have hr := B.returns
  have hlocks := B.notSynchronized
  have hin : meth.name = "<init>" := (name_of_methodNamed B.named B.method).1
  generalize hAe : va_A (wL cy X S0) s.heap.size = A at hD hK ⊢
  have hA : ∀ q, s.heap.size ≤ q → A q := fun q h => by rw [← hAe]; exact Or.inr h
  have hW : wO D cy X A s.heap S0 s.heap [] := ⟨hP, hD, va_S.rf, hA, hRO⟩
  have hl := lv_entry ([.ref a0, .ref a1, .ref a2]) (n := 3) (Nat.le_of_ble_eq_true rfl)
  rw [lg_entry_eq]
  generalize (lg_sl ([.ref a0, .ref a1, .ref a2]) ++ List.replicate (3 - (lg_sl ([.ref a0, .ref a1, .ref a2])).length) Slot.unset).toArray = ls at hl ⊢
  have hl : lv_has ls 3 [(0, .ref a0), (1, .ref a1), (2, .ref a2)] := hl
  unfold wp_X5_init at hp
  exact t_X5_init_0 F hr hlocks hK hin hp hW wX.rf (lv_sub hl [0, 1, 2] rfl) hL_a0 hK_a0 hL_a1 hK_a1 hL_a2 hK_a2
def wp_X6_init_0 (D : wD) (post : wS → Prop)  (bc bs : Nat) (S : wS) (a0 : Nat) (a1 : Nat) : Prop :=
1 ≤ bc ∧ 4 ≤ bs ∧
∀ y_1 : Nat, ¬ wM D S y_1 → ∀ S_2 : wS, S_2 = nA S y_1 1 0 →
∃ m_6 z_7 : Nat, m_6 ≤ (bc - 1) ∧ z_7 ≤ (bs - 4) ∧
wp_J4_init_da8c8 D (fun S_5 => 
∀ S_8 : wS, S_8 = uR S_5 a0 1 (some y_1) →
∀ S_9 : wS, S_9 = uI S_8 a0 2 (0 : Int32) →
∀ S_10 : wS, S_10 = uR S_9 a0 0 (some a1) →
post S_10) m_6 z_7 S_2 y_1
abbrev r_X6_init (rC rS : Nat) : Room := { frames := 4, cells := rC, slots := rS, locals := 101 }
def wp_X6_init (D : wD) (post : wS → Prop) (bc bs : Nat) (S : wS) (a0 : Nat) (a1 : Nat) : Prop := wp_X6_init_0 D post bc bs S a0 a1
set_option maxHeartbeats 4000000 in
set_option maxRecDepth 100000 in
theorem t_X6_init_0 {p : Program} {l : Launch} {e : Env} {s : State} {m : MethodId} {args : Array Value} {below : List Frame} {meth : Method} {c : Code} {D : wD} {cy : Nat → ClassId} {X : va_W} {A : Nat → Prop} {S0 : wS} {rC rS : Nat} {post : wS → Prop} (F : CallFix p m c cX6_init 2 s args wz_X6_init RX6) (hr : meth.sig.returnType = none) (hlocks : meth.locks = false) (hK : wK D cy A s) (hin : meth.name = "<init>") : ∀ {bc bs cells slots : Nat} (hbc : cells + bc ≤ rC) (hbs : slots + bs ≤ rS) {S : wS} {H : Heap} {locs : List Loc} {ls : Array Slot} {a0 : Nat} {a1 : Nat}, wp_X6_init_0 D post bc bs S a0 a1 → wO D cy X A s.heap S H locs → wX D S0 S → lv_has ls 2 [(0, .ref a0), (1, .ref a1)] → wM D S a0 → sK S a0 = 11 → wM D S a1 → sK S a1 = 5 → W p l e (r_X6_init rC rS) s m args below meth c H locs cells slots (MQ below (va_Qv (fun S9 => wX D S0 S9 ∧ post S9) (wB D cy X A) A) args s rC rS A) (F0 m 0 ls []) := by
  obtain ⟨hx, hb, hml, hown, hts⟩ := id F
  have hwg : ∀ w ∈ WG, w.before args s = true := fun w h => hts w (List.mem_cons_of_mem _ h)
  have i_11 : ∀ w ∈ u_ws RX6 TX6 3, w ∈ wz_X6_init := fun w h => List.mem_cons_of_mem _ (wu_11 w h)
  have k_12 := hwg _ wf_RX6_12
  have k_18 := hwg _ wf_RX6_18
  have k_22 := hwg _ wf_RX6_22
  intro bc bs cells slots hbc hbs S H locs ls a0 a1 hp hW hE hl hL_a0 hK_a0 hL_a1 hK_a1
  unfold wp_X6_init_0 at hp
  refine lv_aload_n hx hb dX6_init_0 rfl (lv_at hl 0 rfl) ?_
  refine W.objInit hx hb hown (hwg _ wm_RX6_3) (hwg _ wobj.1) (hwg _ wobj.2) rfl (by rw [hml]; exact hl.1) rfl dX6_init_1 (Nat.le_of_ble_eq_true rfl) (Nat.le_of_ble_eq_true rfl) ?_
  refine W.eq (g2 := F0 m 4 ls []) rfl ?_
  refine lv_aload_n hx hb dX6_init_4 rfl (lv_at hl 0 rfl) ?_
  obtain ⟨h_3, h_3b, hp⟩ := hp
  refine w_new (k := 1) (T := TJ4) F hK hW rfl (by decide) (fun w h => List.mem_cons_of_mem _ (wu_1 w h)) tyJ4 tyJ4_ok (hwg _ wc_RX6_9) (hwg _ wn_1) (hwg _ wi_java_lang_StringBuilder) wdef_1 (by show _ ≤ rC; omega) (by show _ ≤ rS; omega) dX6_init_5 (fun y_1 H hq_y_1 hW => ?_)
  replace hbc := w_spend hbc (show 1 ≤ bc by omega)
  replace hbs := w_spend hbs (show 4 ≤ bs by omega)
  obtain ⟨S_2, eS_2⟩ : ∃ z : wS, z = nA S y_1 1 0 := ⟨_, rfl⟩
  rw [← eS_2] at hW
  replace hp := hp y_1 hq_y_1 S_2 eS_2
  have hX_S_2 : wX D S S_2 := by rw [eS_2]; exact wX_nA hq_y_1
  have hE := hE.trans hX_S_2
  have hK_a0 : sK S_2 a0 = 11 := (hX_S_2.2 a0 hL_a0).1.trans hK_a0
  have hL_a0 : wM D S_2 a0 := hX_S_2.M hL_a0
  have hK_a1 : sK S_2 a1 = 5 := (hX_S_2.2 a1 hL_a1).1.trans hK_a1
  have hL_a1 : wM D S_2 a1 := hX_S_2.M hL_a1
  have hL_y_1 : wM D S_2 y_1 := by rw [eS_2]; exact Or.inl (List.mem_append_right _ List.mem_cons_self)
  have hK_y_1 : sK S_2 y_1 = 1 := by rw [eS_2]; exact va_up_self _ _ _
  refine lv_dup hx hb dX6_init_8 rfl ?_
  obtain ⟨m_6, z_7, hm_6, hz_7, hp⟩ := hp
  refine w_callV (va_runI (As := []) (rest := [.ref y_1, .ref a0]) F (c_J4_init_da8c8 l hL_y_1 hK_y_1 hp H.size) (cwI 0 hts (wg_cons wy_J4_init_da8c8.2.2) rfl rfl rfl (hwg _ wy_J4_init_da8c8.2.1) (hwg _ wm_RX6_11) (hwg _ wy_J4_init_da8c8.1) rfl (by decide +kernel) ⟨Nat.le_of_ble_eq_true rfl, Nat.le_of_ble_eq_true rfl⟩) (w_preS hK hW) rfl rfl hl.1 rfl (lv_room (Nat.le_of_ble_eq_true rfl)) dX6_init_9 ⟨by show _ + m_6 ≤ rC; omega, by show _ + z_7 ≤ rS; omega⟩) hW (fun S_5 H locs hp hW => ?_)
  obtain ⟨hX_S_5, hp⟩ := hp
  refine W.widen (k := _ + m_6) (n := _ + z_7) (Nat.le_refl _) (Nat.le_refl _) ?_
  replace hbc := w_spend hbc (show m_6 ≤ (bc - 1) by omega)
  replace hbs := w_spend hbs (show z_7 ≤ (bs - 4) by omega)
  have hE := hE.trans hX_S_5
  have hK_a0 : sK S_5 a0 = 11 := (hX_S_5.2 a0 hL_a0).1.trans hK_a0
  have hL_a0 : wM D S_5 a0 := hX_S_5.M hL_a0
  have hK_a1 : sK S_5 a1 = 5 := (hX_S_5.2 a1 hL_a1).1.trans hK_a1
  have hL_a1 : wM D S_5 a1 := hX_S_5.M hL_a1
  have hK_y_1 : sK S_5 y_1 = 1 := (hX_S_5.2 y_1 hL_y_1).1.trans hK_y_1
  have hL_y_1 : wM D S_5 y_1 := hX_S_5.M hL_y_1
  refine w_putRF (k := 11) (f := 1) (T := TX6) (g := (some y_1)) F hK hW hL_a0 hK_a0 (by decide) (by decide) rfl rfl (by decide) i_11 tyX6 tyX6_ok nmX6 k_12 rfl rfl hin rfl (ty := (.object "java/lang/StringBuilder")) rfl (v_narrow _ _) (v_fitsO _ _) dX6_init_12 (fun H locs hW => ?_)
  obtain ⟨S_8, eS_8⟩ : ∃ z : wS, z = uR S_5 a0 1 (some y_1) := ⟨_, rfl⟩
  rw [← eS_8] at hW
  replace hp := hp S_8 eS_8
  have hX_S_8 : wX D S_5 S_8 := by rw [eS_8]; exact wX_uR
  have hE := hE.trans hX_S_8
  have hK_a0 : sK S_8 a0 = 11 := (hX_S_8.2 a0 hL_a0).1.trans hK_a0
  have hL_a0 : wM D S_8 a0 := hX_S_8.M hL_a0
  have hK_a1 : sK S_8 a1 = 5 := (hX_S_8.2 a1 hL_a1).1.trans hK_a1
  have hL_a1 : wM D S_8 a1 := hX_S_8.M hL_a1
  refine lv_aload_n hx hb dX6_init_15 rfl (lv_at hl 0 rfl) ?_
  refine lv_iconst (v := 0) hx hb dX6_init_16 (by decide) ?_
  refine w_putI (k := 11) (f := 2) (T := TX6) F hK hW hL_a0 hK_a0 (by decide) (by decide) rfl rfl (by decide) i_11 tyX6 tyX6_ok nmX6 k_18 rfl rfl (ty := .int) rfl rfl rfl dX6_init_17 (fun H locs hW => ?_)
  obtain ⟨S_9, eS_9⟩ : ∃ z : wS, z = uI S_8 a0 2 (0 : Int32) := ⟨_, rfl⟩
  rw [← eS_9] at hW
  replace hp := hp S_9 eS_9
  have hX_S_9 : wX D S_8 S_9 := by rw [eS_9]; exact wX_uI
  have hE := hE.trans hX_S_9
  have hK_a0 : sK S_9 a0 = 11 := (hX_S_9.2 a0 hL_a0).1.trans hK_a0
  have hL_a0 : wM D S_9 a0 := hX_S_9.M hL_a0
  have hK_a1 : sK S_9 a1 = 5 := (hX_S_9.2 a1 hL_a1).1.trans hK_a1
  have hL_a1 : wM D S_9 a1 := hX_S_9.M hL_a1
  refine lv_aload_n hx hb dX6_init_20 rfl (lv_at hl 0 rfl) ?_
  refine lv_aload_n hx hb dX6_init_21 rfl (lv_at hl 1 rfl) ?_
  refine w_putRF (k := 11) (f := 0) (T := TX6) (g := (some a1)) F hK hW hL_a0 hK_a0 (by decide) (by decide) rfl rfl (by decide) i_11 tyX6 tyX6_ok nmX6 k_22 rfl rfl hin rfl (ty := (.object "OpeningsCabinet$Board")) rfl (v_narrow _ _) (v_fitsO _ _) dX6_init_22 (fun H locs hW => ?_)
  obtain ⟨S_10, eS_10⟩ : ∃ z : wS, z = uR S_9 a0 0 (some a1) := ⟨_, rfl⟩
  rw [← eS_10] at hW
  replace hp := hp S_10 eS_10
  have hX_S_10 : wX D S_9 S_10 := by rw [eS_10]; exact wX_uR
  have hE := hE.trans hX_S_10
  have hK_a0 : sK S_10 a0 = 11 := (hX_S_10.2 a0 hL_a0).1.trans hK_a0
  have hL_a0 : wM D S_10 a0 := hX_S_10.M hL_a0
  have hK_a1 : sK S_10 a1 = 5 := (hX_S_10.2 a1 hL_a1).1.trans hK_a1
  have hL_a1 : wM D S_10 a1 := hX_S_10.M hL_a1
  refine W.widen (k := rC) (n := rS) (Nat.le_trans (Nat.le_add_right _ _) hbc) (Nat.le_trans (Nat.le_add_right _ _) hbs) ?_
  exact w_vret hx hb hr hlocks hW ⟨hE, hp⟩ dX6_init_25
set_option maxHeartbeats 4000000 in
set_option maxRecDepth 100000 in
theorem c_X6_init (l : Launch) {rC rS : Nat} {D : wD} {cy : Nat → ClassId} {X : va_W} {S0 : wS} {post : wS → Prop} {a0 : Nat} {a1 : Nat} (hL_a0 : wM D S0 a0) (hK_a0 : sK S0 a0 = 11) (hL_a1 : wM D S0 a1) (hK_a1 : sK S0 a1 = 5) (hp : wp_X6_init D post rC rS S0 a0 a1) : mV D cy X l yX6_init wz_X6_init (r_X6_init rC rS) [.ref a0, .ref a1] S0 (fun S9 => wX D S0 S9 ∧ post S9) := by
  intro sz
  refine Met.ofW (cc := cX6_init) (maxL := 2) (ret := none) (by decide) rfl ?_
  intro p e s m args below meth c s₁ B hml hv
  obtain ⟨rfl, hsz, hP, hK, hD0, hRO⟩ := hv
  have hts := atoms_spec (ws := wz_X6_init) B.pre
  have hown : s.vm.findClass RX6 = some m.cls := findClass_of_methodNamed B.named
  subst hsz
  have hD := hD0.self (sz := s.heap.size)
  have F : CallFix p m c cX6_init 2 s _ wz_X6_init RX6 := ⟨B.exec, B.bytes, hml, hown, hts⟩
  have hr := B.returns
  have hlocks := B.notSynchronized
  have hin : meth.name = "<init>" := (name_of_methodNamed B.named B.method).1
  generalize hAe : va_A (wL cy X S0) s.heap.size = A at hD hK ⊢
  have hA : ∀ q, s.heap.size ≤ q → A q := fun q h => by rw [← hAe]; exact Or.inr h
  have hW : wO D cy X A s.heap S0 s.heap [] := ⟨hP, hD, va_S.rf, hA, hRO⟩
  have hl := lv_entry ([.ref a0, .ref a1]) (n := 2) (Nat.le_of_ble_eq_true rfl)
  rw [lg_entry_eq]
  generalize (lg_sl ([.ref a0, .ref a1]) ++ List.replicate (2 - (lg_sl ([.ref a0, .ref a1])).length) Slot.unset).toArray = ls at hl ⊢
  have hl : lv_has ls 2 [(0, .ref a0), (1, .ref a1)] := hl
  unfold wp_X6_init at hp
  exact t_X6_init_0 F hr hlocks hK hin (Nat.le_of_eq (Nat.zero_add _)) (Nat.le_of_eq (Nat.zero_add _)) hp hW wX.rf (lv_sub hl [0, 1] rfl) hL_a0 hK_a0 hL_a1 hK_a1
def wp_X7_setUpUsual_9 (D : wD) (post : wS → Prop)  : Nat → wS → Nat → Nat → Int32 → Prop
  | 0, _, _, _, _ => False
  | n + 1, S, a0, a1, x2 =>
    wp_J0_length_8abf5 D (fun r_1 S_2 => 
    ((r_1 ≤ x2 → ∀ S_4 : wS, S_4 = uI S_2 a0 6 (15 : Int32) →
    post S_4) ∧
     (¬ r_1 ≤ x2 → ∀ y_5 : Nat, y_5 = D.2.2.1 1 →
    wp_J0_charAt_5068e D (fun r_6 S_7 => 
    wp_J0_indexOf_0f7a4 D (fun r_8 S_9 => 
    wp_X7_place D (fun S_11 => 
    wp_X7_place D (fun S_13 => 
    wp_X7_place D (fun S_15 => 
    wp_X7_place D (fun S_17 => 
    ∀ x_18 : Int32, x_18 = x2 + 1 →
    wp_X7_setUpUsual_9 D post n S_17 a0 a1 x_18) S_15 a0 ((56 : Int32) + x2) (r_8 + (6 : Int32))) S_13 a0 ((48 : Int32) + x2) (12 : Int32)) S_11 a0 ((8 : Int32) + x2) (6 : Int32)) S_9 a0 x2 r_8) S_7 y_5 r_6) S_2 a1 x2))) S a1
def wp_X7_setUpUsual_0 (D : wD) (post : wS → Prop)  (S : wS) (a0 : Nat) : Prop :=
wp_X7_clear D (fun S_2 => 
∀ y_3 : Nat, y_3 = D.2.2.1 0 →
∃ n_4 : Nat, wp_X7_setUpUsual_9 D post n_4 S_2 a0 y_3 (0 : Int32)) S a0
abbrev r_X7_setUpUsual : Room := { frames := 7, cells := 0, slots := 0, locals := 159 }
def wp_X7_setUpUsual (D : wD) (post : wS → Prop) (S : wS) (a0 : Nat) : Prop := wp_X7_setUpUsual_0 D post S a0
set_option maxHeartbeats 4000000 in
set_option maxRecDepth 100000 in
theorem t_X7_setUpUsual_9 {p : Program} {l : Launch} {e : Env} {s : State} {m : MethodId} {args : Array Value} {below : List Frame} {meth : Method} {c : Code} {D : wD} {cy : Nat → ClassId} {X : va_W} {A : Nat → Prop} {S0 : wS} {post : wS → Prop} (F : CallFix p m c cX7_setUpUsual 4 s args wz_X7_setUpUsual RX7) (hr : meth.sig.returnType = none) (hlocks : meth.locks = false) (hK : wK D cy A s) : ∀ (n : Nat) {S : wS} {H : Heap} {locs : List Loc} {ls : Array Slot} {a0 : Nat} {a1 : Nat} {x2 : Int32}, wp_X7_setUpUsual_9 D post n S a0 a1 x2 → wO D cy X A s.heap S H locs → wX D S0 S → lv_has ls 4 [(0, .ref a0), (1, .ref a1), (2, .int x2)] → wM D S a0 → sK S a0 = 12 → wM D S a1 → sK S a1 = 0 → W p l e r_X7_setUpUsual s m args below meth c H locs 0 0 (MQ below (va_Qv (fun S9 => wX D S0 S9 ∧ post S9) (wB D cy X A) A) args s 0 0 A) (F0 m 9 ls []) := by
  obtain ⟨hx, hb, hml, hown, hts⟩ := id F
  have hwg : ∀ w ∈ WG, w.before args s = true := fun w h => hts w (List.mem_cons_of_mem _ h)
  have i_12 : ∀ w ∈ u_ws RX7 TX7 8, w ∈ wz_X7_setUpUsual := fun w h => List.mem_cons_of_mem _ (wu_12 w h)
  have k_28 := hwg _ wf_RX7_28
  intro n
  induction n with
  | zero =>
    intro S H locs ls a0 a1 x2 hp
    exact hp.elim
  | succ n ih =>
    intro S H locs ls a0 a1 x2 hp hW hE hl hL_a0 hK_a0 hL_a1 hK_a1
    unfold wp_X7_setUpUsual_9 at hp
    refine lv_iload_n hx hb dX7_setUpUsual_9 rfl (lv_at hl 2 rfl) ?_
    refine lv_aload_n hx hb dX7_setUpUsual_10 rfl (lv_at hl 1 rfl) ?_
    refine w_callI (va_runV (As := []) (rest := [.int x2]) F (c_J0_length_8abf5 l hL_a1 hK_a1 hp H.size) (cwV (C := RJ0) 0 hts (wg_V wm_RX7_44 wy_J0_length_8abf5) rfl rfl rfl (by decide +kernel) ⟨Nat.le_of_ble_eq_true rfl, Nat.le_of_ble_eq_true rfl⟩) (w_preV hK hW hL_a1 hK_a1 (by decide) rfl) rfl rfl hl.1 rfl (lv_room (Nat.le_of_ble_eq_true rfl)) dX7_setUpUsual_11 ⟨Nat.le_of_ble_eq_true rfl, Nat.le_of_ble_eq_true rfl⟩) hW (fun r_1 S_2 H locs hp hW => ?_)
    obtain ⟨hX_S_2, hp⟩ := hp
    refine W.widen (k := 0) (n := 0) (by decide) (by decide) ?_
    have hE := hE.trans hX_S_2
    have hK_a0 : sK S_2 a0 = 12 := (hX_S_2.2 a0 hL_a0).1.trans hK_a0
    have hL_a0 : wM D S_2 a0 := hX_S_2.M hL_a0
    have hK_a1 : sK S_2 a1 = 0 := (hX_S_2.2 a1 hL_a1).1.trans hK_a1
    have hL_a1 : wM D S_2 a1 := hX_S_2.M hL_a1
    refine lv_icmp_ge (tgt := 72) hx hb dX7_setUpUsual_14 (by decide) (fun c_3 => ?_) (fun c_3 => ?_)
    · replace hp := hp.1 c_3
      refine lv_aload_n hx hb dX7_setUpUsual_72 rfl (lv_at hl 0 rfl) ?_
      refine lv_bipush (v := 15) hx hb dX7_setUpUsual_73 (by decide) ?_
      refine w_putI (k := 12) (f := 6) (T := TX7) F hK hW hL_a0 hK_a0 (by decide) (by decide) rfl rfl (by decide) i_12 tyX7 tyX7_ok nmX7 k_28 rfl rfl (ty := .int) rfl rfl rfl dX7_setUpUsual_75 (fun H locs hW => ?_)
      obtain ⟨S_4, eS_4⟩ : ∃ z : wS, z = uI S_2 a0 6 (15 : Int32) := ⟨_, rfl⟩
      rw [← eS_4] at hW
      replace hp := hp S_4 eS_4
      have hX_S_4 : wX D S_2 S_4 := by rw [eS_4]; exact wX_uI
      have hE := hE.trans hX_S_4
      have hK_a0 : sK S_4 a0 = 12 := (hX_S_4.2 a0 hL_a0).1.trans hK_a0
      have hL_a0 : wM D S_4 a0 := hX_S_4.M hL_a0
      have hK_a1 : sK S_4 a1 = 0 := (hX_S_4.2 a1 hL_a1).1.trans hK_a1
      have hL_a1 : wM D S_4 a1 := hX_S_4.M hL_a1
      exact w_vret hx hb hr hlocks hW ⟨hE, hp⟩ dX7_setUpUsual_78
    · replace hp := hp.2 c_3
      refine w_str F hK (show ("OpeningsCabinet$Position", 50, " KQRBNPkqrbnp", 1) ∈ wStr by decide +kernel) dX7_setUpUsual_17 ?_
      obtain ⟨y_5, ey_5⟩ : ∃ z : Nat, z = D.2.2.1 1 := ⟨_, rfl⟩
      rw [← ey_5]
      replace hp := hp y_5 ey_5
      obtain ⟨hL_y_5, hK_y_5⟩ : wM D S_2 y_5 ∧ sK S_2 y_5 = 0 := by rw [ey_5]; exact w_strM hK hW (show ("OpeningsCabinet$Position", 50, " KQRBNPkqrbnp", 1) ∈ wStr by decide +kernel)
      refine lv_aload_n hx hb dX7_setUpUsual_19 rfl (lv_at hl 1 rfl) ?_
      refine lv_iload_n hx hb dX7_setUpUsual_20 rfl (lv_at hl 2 rfl) ?_
      refine w_callI (va_runV (As := [.int x2]) (rest := [.ref y_5]) F (c_J0_charAt_5068e l hL_a1 hK_a1 hp H.size) (cwV (C := RJ0) 1 hts (wg_V wm_RX7_52 wy_J0_charAt_5068e) rfl rfl rfl (by decide +kernel) ⟨Nat.le_of_ble_eq_true rfl, Nat.le_of_ble_eq_true rfl⟩) (w_preV hK hW hL_a1 hK_a1 (by decide) rfl) rfl rfl hl.1 rfl (lv_room (Nat.le_of_ble_eq_true rfl)) dX7_setUpUsual_21 ⟨Nat.le_of_ble_eq_true rfl, Nat.le_of_ble_eq_true rfl⟩) hW (fun r_6 S_7 H locs hp hW => ?_)
      obtain ⟨hX_S_7, hp⟩ := hp
      refine W.widen (k := 0) (n := 0) (by decide) (by decide) ?_
      have hE := hE.trans hX_S_7
      have hK_a0 : sK S_7 a0 = 12 := (hX_S_7.2 a0 hL_a0).1.trans hK_a0
      have hL_a0 : wM D S_7 a0 := hX_S_7.M hL_a0
      have hK_a1 : sK S_7 a1 = 0 := (hX_S_7.2 a1 hL_a1).1.trans hK_a1
      have hL_a1 : wM D S_7 a1 := hX_S_7.M hL_a1
      have hK_y_5 : sK S_7 y_5 = 0 := (hX_S_7.2 y_5 hL_y_5).1.trans hK_y_5
      have hL_y_5 : wM D S_7 y_5 := hX_S_7.M hL_y_5
      refine w_callI (va_runV (As := [.int r_6]) (rest := []) F (c_J0_indexOf_0f7a4 l hL_y_5 hK_y_5 hp H.size) (cwV (C := RJ0) 1 hts (wg_V wm_RX7_56 wy_J0_indexOf_0f7a4) rfl rfl rfl (by decide +kernel) ⟨Nat.le_of_ble_eq_true rfl, Nat.le_of_ble_eq_true rfl⟩) (w_preV hK hW hL_y_5 hK_y_5 (by decide) rfl) rfl rfl hl.1 rfl (lv_room (Nat.le_of_ble_eq_true rfl)) dX7_setUpUsual_24 ⟨Nat.le_of_ble_eq_true rfl, Nat.le_of_ble_eq_true rfl⟩) hW (fun r_8 S_9 H locs hp hW => ?_)
      obtain ⟨hX_S_9, hp⟩ := hp
      refine W.widen (k := 0) (n := 0) (by decide) (by decide) ?_
      have hE := hE.trans hX_S_9
      have hK_a0 : sK S_9 a0 = 12 := (hX_S_9.2 a0 hL_a0).1.trans hK_a0
      have hL_a0 : wM D S_9 a0 := hX_S_9.M hL_a0
      have hK_a1 : sK S_9 a1 = 0 := (hX_S_9.2 a1 hL_a1).1.trans hK_a1
      have hL_a1 : wM D S_9 a1 := hX_S_9.M hL_a1
      refine lv_istore_n (lv' := [(3, .int r_8), (0, .ref a0), (1, .ref a1), (2, .int x2)]) hx hb dX7_setUpUsual_27 rfl hl (by decide) rfl (fun ls hl => ?_)
      refine lv_aload_n hx hb dX7_setUpUsual_28 rfl (lv_at hl 1 rfl) ?_
      refine lv_iload_n hx hb dX7_setUpUsual_29 rfl (lv_at hl 3 rfl) ?_
      refine lv_iload_n hx hb dX7_setUpUsual_30 rfl (lv_at hl 0 rfl) ?_
      refine w_callV (va_runV (As := [.int x2, .int r_8]) (rest := []) F (c_X7_place l hL_a0 hK_a0 hp H.size) (cwV (C := RX7) 2 hts (wg_V wm_RX7_60 wy_X7_place) rfl rfl rfl (by decide +kernel) ⟨Nat.le_of_ble_eq_true rfl, Nat.le_of_ble_eq_true rfl⟩) (w_preV hK hW hL_a0 hK_a0 (by decide) rfl) rfl rfl hl.1 rfl (lv_room (Nat.le_of_ble_eq_true rfl)) dX7_setUpUsual_31 ⟨Nat.le_of_ble_eq_true rfl, Nat.le_of_ble_eq_true rfl⟩) hW (fun S_11 H locs hp hW => ?_)
      obtain ⟨hX_S_11, hp⟩ := hp
      refine W.widen (k := 0) (n := 0) (by decide) (by decide) ?_
      have hE := hE.trans hX_S_11
      have hK_a0 : sK S_11 a0 = 12 := (hX_S_11.2 a0 hL_a0).1.trans hK_a0
      have hL_a0 : wM D S_11 a0 := hX_S_11.M hL_a0
      have hK_a1 : sK S_11 a1 = 0 := (hX_S_11.2 a1 hL_a1).1.trans hK_a1
      have hL_a1 : wM D S_11 a1 := hX_S_11.M hL_a1
      refine lv_aload_n hx hb dX7_setUpUsual_34 rfl (lv_at hl 1 rfl) ?_
      refine lv_bipush (v := 8) hx hb dX7_setUpUsual_35 (by decide) ?_
      refine lv_iload_n hx hb dX7_setUpUsual_37 rfl (lv_at hl 3 rfl) ?_
      refine lv_iadd hx hb dX7_setUpUsual_38 ?_
      refine lv_bipush (v := 6) hx hb dX7_setUpUsual_39 (by decide) ?_
      refine w_callV (va_runV (As := [.int ((8 : Int32) + x2), .int (6 : Int32)]) (rest := []) F (c_X7_place l hL_a0 hK_a0 hp H.size) (cwV (C := RX7) 2 hts (wg_V wm_RX7_60 wy_X7_place) rfl rfl rfl (by decide +kernel) ⟨Nat.le_of_ble_eq_true rfl, Nat.le_of_ble_eq_true rfl⟩) (w_preV hK hW hL_a0 hK_a0 (by decide) rfl) rfl rfl hl.1 rfl (lv_room (Nat.le_of_ble_eq_true rfl)) dX7_setUpUsual_41 ⟨Nat.le_of_ble_eq_true rfl, Nat.le_of_ble_eq_true rfl⟩) hW (fun S_13 H locs hp hW => ?_)
      obtain ⟨hX_S_13, hp⟩ := hp
      refine W.widen (k := 0) (n := 0) (by decide) (by decide) ?_
      have hE := hE.trans hX_S_13
      have hK_a0 : sK S_13 a0 = 12 := (hX_S_13.2 a0 hL_a0).1.trans hK_a0
      have hL_a0 : wM D S_13 a0 := hX_S_13.M hL_a0
      have hK_a1 : sK S_13 a1 = 0 := (hX_S_13.2 a1 hL_a1).1.trans hK_a1
      have hL_a1 : wM D S_13 a1 := hX_S_13.M hL_a1
      refine lv_aload_n hx hb dX7_setUpUsual_44 rfl (lv_at hl 1 rfl) ?_
      refine lv_bipush (v := 48) hx hb dX7_setUpUsual_45 (by decide) ?_
      refine lv_iload_n hx hb dX7_setUpUsual_47 rfl (lv_at hl 3 rfl) ?_
      refine lv_iadd hx hb dX7_setUpUsual_48 ?_
      refine lv_bipush (v := 12) hx hb dX7_setUpUsual_49 (by decide) ?_
      refine w_callV (va_runV (As := [.int ((48 : Int32) + x2), .int (12 : Int32)]) (rest := []) F (c_X7_place l hL_a0 hK_a0 hp H.size) (cwV (C := RX7) 2 hts (wg_V wm_RX7_60 wy_X7_place) rfl rfl rfl (by decide +kernel) ⟨Nat.le_of_ble_eq_true rfl, Nat.le_of_ble_eq_true rfl⟩) (w_preV hK hW hL_a0 hK_a0 (by decide) rfl) rfl rfl hl.1 rfl (lv_room (Nat.le_of_ble_eq_true rfl)) dX7_setUpUsual_51 ⟨Nat.le_of_ble_eq_true rfl, Nat.le_of_ble_eq_true rfl⟩) hW (fun S_15 H locs hp hW => ?_)
      obtain ⟨hX_S_15, hp⟩ := hp
      refine W.widen (k := 0) (n := 0) (by decide) (by decide) ?_
      have hE := hE.trans hX_S_15
      have hK_a0 : sK S_15 a0 = 12 := (hX_S_15.2 a0 hL_a0).1.trans hK_a0
      have hL_a0 : wM D S_15 a0 := hX_S_15.M hL_a0
      have hK_a1 : sK S_15 a1 = 0 := (hX_S_15.2 a1 hL_a1).1.trans hK_a1
      have hL_a1 : wM D S_15 a1 := hX_S_15.M hL_a1
      refine lv_aload_n hx hb dX7_setUpUsual_54 rfl (lv_at hl 1 rfl) ?_
      refine lv_bipush (v := 56) hx hb dX7_setUpUsual_55 (by decide) ?_
      refine lv_iload_n hx hb dX7_setUpUsual_57 rfl (lv_at hl 3 rfl) ?_
      refine lv_iadd hx hb dX7_setUpUsual_58 ?_
      refine lv_iload_n hx hb dX7_setUpUsual_59 rfl (lv_at hl 0 rfl) ?_
      refine lv_bipush (v := 6) hx hb dX7_setUpUsual_60 (by decide) ?_
      refine lv_iadd hx hb dX7_setUpUsual_62 ?_
      refine w_callV (va_runV (As := [.int ((56 : Int32) + x2), .int (r_8 + (6 : Int32))]) (rest := []) F (c_X7_place l hL_a0 hK_a0 hp H.size) (cwV (C := RX7) 2 hts (wg_V wm_RX7_60 wy_X7_place) rfl rfl rfl (by decide +kernel) ⟨Nat.le_of_ble_eq_true rfl, Nat.le_of_ble_eq_true rfl⟩) (w_preV hK hW hL_a0 hK_a0 (by decide) rfl) rfl rfl hl.1 rfl (lv_room (Nat.le_of_ble_eq_true rfl)) dX7_setUpUsual_63 ⟨Nat.le_of_ble_eq_true rfl, Nat.le_of_ble_eq_true rfl⟩) hW (fun S_17 H locs hp hW => ?_)
      obtain ⟨hX_S_17, hp⟩ := hp
      refine W.widen (k := 0) (n := 0) (by decide) (by decide) ?_
      have hE := hE.trans hX_S_17
      have hK_a0 : sK S_17 a0 = 12 := (hX_S_17.2 a0 hL_a0).1.trans hK_a0
      have hL_a0 : wM D S_17 a0 := hX_S_17.M hL_a0
      have hK_a1 : sK S_17 a1 = 0 := (hX_S_17.2 a1 hL_a1).1.trans hK_a1
      have hL_a1 : wM D S_17 a1 := hX_S_17.M hL_a1
      obtain ⟨x_18, ex_18⟩ : ∃ z : Int32, z = x2 + 1 := ⟨_, rfl⟩
      replace hp := hp x_18 ex_18
      refine lv_iinc (v := x_18) (lv' := [(2, .int x_18), (3, .int r_8), (0, .ref a0), (1, .ref a1)]) hx hb dX7_setUpUsual_66 hl (k := 3) rfl (by rw [ex_18]; rfl) (by decide) rfl (fun ls hl => ?_)
      refine lv_goto (tgt := 9) hx hb dX7_setUpUsual_69 (by decide) ?_
      exact ih hp hW hE (lv_sub hl [2, 3, 0] rfl) hL_a0 hK_a0 hL_a1 hK_a1
set_option maxHeartbeats 4000000 in
set_option maxRecDepth 100000 in
theorem t_X7_setUpUsual_0 {p : Program} {l : Launch} {e : Env} {s : State} {m : MethodId} {args : Array Value} {below : List Frame} {meth : Method} {c : Code} {D : wD} {cy : Nat → ClassId} {X : va_W} {A : Nat → Prop} {S0 : wS} {post : wS → Prop} (F : CallFix p m c cX7_setUpUsual 4 s args wz_X7_setUpUsual RX7) (hr : meth.sig.returnType = none) (hlocks : meth.locks = false) (hK : wK D cy A s) : ∀ {S : wS} {H : Heap} {locs : List Loc} {ls : Array Slot} {a0 : Nat}, wp_X7_setUpUsual_0 D post S a0 → wO D cy X A s.heap S H locs → wX D S0 S → lv_has ls 4 [(0, .ref a0)] → wM D S a0 → sK S a0 = 12 → W p l e r_X7_setUpUsual s m args below meth c H locs 0 0 (MQ below (va_Qv (fun S9 => wX D S0 S9 ∧ post S9) (wB D cy X A) A) args s 0 0 A) (F0 m 0 ls []) := by
  obtain ⟨hx, hb, hml, hown, hts⟩ := id F
  have hwg : ∀ w ∈ WG, w.before args s = true := fun w h => hts w (List.mem_cons_of_mem _ h)
  intro S H locs ls a0 hp hW hE hl hL_a0 hK_a0
  unfold wp_X7_setUpUsual_0 at hp
  refine lv_aload_n hx hb dX7_setUpUsual_0 rfl (lv_at hl 0 rfl) ?_
  refine w_callV (va_runV (As := []) (rest := []) F (c_X7_clear l hL_a0 hK_a0 hp H.size) (cwV (C := RX7) 0 hts (wg_V wm_RX7_39 wy_X7_clear) rfl rfl rfl (by decide +kernel) ⟨Nat.le_of_ble_eq_true rfl, Nat.le_of_ble_eq_true rfl⟩) (w_preV hK hW hL_a0 hK_a0 (by decide) rfl) rfl rfl hl.1 rfl (lv_room (Nat.le_of_ble_eq_true rfl)) dX7_setUpUsual_1 ⟨Nat.le_of_ble_eq_true rfl, Nat.le_of_ble_eq_true rfl⟩) hW (fun S_2 H locs hp hW => ?_)
  obtain ⟨hX_S_2, hp⟩ := hp
  refine W.widen (k := 0) (n := 0) (by decide) (by decide) ?_
  have hE := hE.trans hX_S_2
  have hK_a0 : sK S_2 a0 = 12 := (hX_S_2.2 a0 hL_a0).1.trans hK_a0
  have hL_a0 : wM D S_2 a0 := hX_S_2.M hL_a0
  refine w_str F hK (show ("OpeningsCabinet$Position", 42, "RNBQKBNR", 0) ∈ wStr by decide +kernel) dX7_setUpUsual_4 ?_
  obtain ⟨y_3, ey_3⟩ : ∃ z : Nat, z = D.2.2.1 0 := ⟨_, rfl⟩
  rw [← ey_3]
  replace hp := hp y_3 ey_3
  obtain ⟨hL_y_3, hK_y_3⟩ : wM D S_2 y_3 ∧ sK S_2 y_3 = 0 := by rw [ey_3]; exact w_strM hK hW (show ("OpeningsCabinet$Position", 42, "RNBQKBNR", 0) ∈ wStr by decide +kernel)
  refine lv_astore_n (lv' := [(1, .ref y_3), (0, .ref a0)]) hx hb dX7_setUpUsual_6 rfl hl (by decide) rfl (fun ls hl => ?_)
  refine lv_iconst (v := 0) hx hb dX7_setUpUsual_7 (by decide) ?_
  refine lv_istore_n (lv' := [(2, .int (0 : Int32)), (1, .ref y_3), (0, .ref a0)]) hx hb dX7_setUpUsual_8 rfl hl (by decide) rfl (fun ls hl => ?_)
  obtain ⟨n_4, hp⟩ := hp
  exact t_X7_setUpUsual_9 F hr hlocks hK n_4 hp hW hE (lv_sub hl [2, 1, 0] rfl) hL_a0 hK_a0 hL_y_3 hK_y_3
set_option maxHeartbeats 4000000 in
set_option maxRecDepth 100000 in
theorem c_X7_setUpUsual (l : Launch) {D : wD} {cy : Nat → ClassId} {X : va_W} {S0 : wS} {post : wS → Prop} {a0 : Nat} (hL_a0 : wM D S0 a0) (hK_a0 : sK S0 a0 = 12) (hp : wp_X7_setUpUsual D post S0 a0) : mV D cy X l yX7_setUpUsual wz_X7_setUpUsual r_X7_setUpUsual [.ref a0] S0 (fun S9 => wX D S0 S9 ∧ post S9) := by
  intro sz
  refine Met.ofW (cc := cX7_setUpUsual) (maxL := 4) (ret := none) (by decide) rfl ?_
  intro p e s m args below meth c s₁ B hml hv
  obtain ⟨rfl, hsz, hP, hK, hD0, hRO⟩ := hv
  have hts := atoms_spec (ws := wz_X7_setUpUsual) B.pre
  have hown : s.vm.findClass RX7 = some m.cls := findClass_of_methodNamed B.named
  subst hsz
  have hD := hD0.self (sz := s.heap.size)
  have F : CallFix p m c cX7_setUpUsual 4 s _ wz_X7_setUpUsual RX7 := ⟨B.exec, B.bytes, hml, hown, hts⟩
  have hr := B.returns
  have hlocks := B.notSynchronized
  generalize hAe : va_A (wL cy X S0) s.heap.size = A at hD hK ⊢
  have hA : ∀ q, s.heap.size ≤ q → A q := fun q h => by rw [← hAe]; exact Or.inr h
  have hW : wO D cy X A s.heap S0 s.heap [] := ⟨hP, hD, va_S.rf, hA, hRO⟩
  have hl := lv_entry ([.ref a0]) (n := 4) (Nat.le_of_ble_eq_true rfl)
  rw [lg_entry_eq]
  generalize (lg_sl ([.ref a0]) ++ List.replicate (4 - (lg_sl ([.ref a0])).length) Slot.unset).toArray = ls at hl ⊢
  have hl : lv_has ls 4 [(0, .ref a0)] := hl
  unfold wp_X7_setUpUsual at hp
  exact t_X7_setUpUsual_0 F hr hlocks hK hp hW wX.rf (lv_sub hl [0] rfl) hL_a0 hK_a0
def wp_X8_init_0 (D : wD) (post : wS → Prop)  (S : wS) (a0 : Nat) (a1 : Nat) : Prop :=
∀ S_1 : wS, S_1 = uI S a0 1 (-1 : Int32) →
∀ S_2 : wS, S_2 = uJ S_1 a0 2 (0 : Int64) →
∀ S_3 : wS, S_3 = uJ S_2 a0 3 (0 : Int64) →
narrow .boolean (.int (0 : Int32)) = .int (0 : Int32) ∧ fits .boolean (.int (0 : Int32)) = true ∧
∀ S_4 : wS, S_4 = uI S_3 a0 4 (0 : Int32) →
∀ S_6 : wS, S_6 = uJ S_4 a0 5 (0 : Int64) →
∀ S_7 : wS, S_7 = uR S_6 a0 0 (some a1) →
post S_7
abbrev r_X8_init : Room := { frames := 1, cells := 0, slots := 0, locals := 60 }
def wp_X8_init (D : wD) (post : wS → Prop) (S : wS) (a0 : Nat) (a1 : Nat) : Prop := wp_X8_init_0 D post S a0 a1
set_option maxHeartbeats 4000000 in
set_option maxRecDepth 100000 in
theorem t_X8_init_0 {p : Program} {l : Launch} {e : Env} {s : State} {m : MethodId} {args : Array Value} {below : List Frame} {meth : Method} {c : Code} {D : wD} {cy : Nat → ClassId} {X : va_W} {A : Nat → Prop} {S0 : wS} {post : wS → Prop} (F : CallFix p m c cX8_init 2 s args wz_X8_init RX8) (hr : meth.sig.returnType = none) (hlocks : meth.locks = false) (hK : wK D cy A s) (hin : meth.name = "<init>") : ∀ {S : wS} {H : Heap} {locs : List Loc} {ls : Array Slot} {a0 : Nat} {a1 : Nat}, wp_X8_init_0 D post S a0 a1 → wO D cy X A s.heap S H locs → wX D S0 S → lv_has ls 2 [(0, .ref a0), (1, .ref a1)] → wM D S a0 → sK S a0 = 13 → wM D S a1 → sK S a1 = 5 → W p l e r_X8_init s m args below meth c H locs 0 0 (MQ below (va_Qv (fun S9 => wX D S0 S9 ∧ post S9) (wB D cy X A) A) args s 0 0 A) (F0 m 0 ls []) := by
  obtain ⟨hx, hb, hml, hown, hts⟩ := id F
  have hwg : ∀ w ∈ WG, w.before args s = true := fun w h => hts w (List.mem_cons_of_mem _ h)
  have i_13 : ∀ w ∈ u_ws RX8 TX8 6, w ∈ wz_X8_init := fun w h => List.mem_cons_of_mem _ (wu_13 w h)
  have k_15 := hwg _ wf_RX8_15
  have k_19 := hwg _ wf_RX8_19
  have k_22 := hwg _ wf_RX8_22
  have k_26 := hwg _ wf_RX8_26
  have k_29 := hwg _ wf_RX8_29
  have k_9 := hwg _ wf_RX8_9
  intro S H locs ls a0 a1 hp hW hE hl hL_a0 hK_a0 hL_a1 hK_a1
  unfold wp_X8_init_0 at hp
  refine lv_aload_n hx hb dX8_init_0 rfl (lv_at hl 0 rfl) ?_
  refine W.objInit hx hb hown (hwg _ wm_RX8_3) (hwg _ wobj.1) (hwg _ wobj.2) rfl (by rw [hml]; exact hl.1) rfl dX8_init_1 (Nat.le_of_ble_eq_true rfl) (Nat.le_of_ble_eq_true rfl) ?_
  refine W.eq (g2 := F0 m 4 ls []) rfl ?_
  refine lv_aload_n hx hb dX8_init_4 rfl (lv_at hl 0 rfl) ?_
  refine lv_iconst (v := (-1)) hx hb dX8_init_5 (by decide) ?_
  refine w_putI (k := 13) (f := 1) (T := TX8) F hK hW hL_a0 hK_a0 (by decide) (by decide) rfl rfl (by decide) i_13 tyX8 tyX8_ok nmX8 k_9 rfl rfl (ty := .int) rfl rfl rfl dX8_init_6 (fun H locs hW => ?_)
  obtain ⟨S_1, eS_1⟩ : ∃ z : wS, z = uI S a0 1 (-1 : Int32) := ⟨_, rfl⟩
  rw [← eS_1] at hW
  replace hp := hp S_1 eS_1
  have hX_S_1 : wX D S S_1 := by rw [eS_1]; exact wX_uI
  have hE := hE.trans hX_S_1
  have hK_a0 : sK S_1 a0 = 13 := (hX_S_1.2 a0 hL_a0).1.trans hK_a0
  have hL_a0 : wM D S_1 a0 := hX_S_1.M hL_a0
  have hK_a1 : sK S_1 a1 = 5 := (hX_S_1.2 a1 hL_a1).1.trans hK_a1
  have hL_a1 : wM D S_1 a1 := hX_S_1.M hL_a1
  refine lv_aload_n hx hb dX8_init_9 rfl (lv_at hl 0 rfl) ?_
  refine lv_lconst (v := 0) hx hb dX8_init_10 (by decide) ?_
  refine w_putJ (k := 13) (f := 2) (T := TX8) F hK hW hL_a0 hK_a0 (by decide) (by decide) rfl rfl (by decide) i_13 tyX8 tyX8_ok nmX8 k_15 rfl rfl rfl dX8_init_11 (fun H locs hW => ?_)
  obtain ⟨S_2, eS_2⟩ : ∃ z : wS, z = uJ S_1 a0 2 (0 : Int64) := ⟨_, rfl⟩
  rw [← eS_2] at hW
  replace hp := hp S_2 eS_2
  have hX_S_2 : wX D S_1 S_2 := by rw [eS_2]; exact wX_uJ
  have hE := hE.trans hX_S_2
  have hK_a0 : sK S_2 a0 = 13 := (hX_S_2.2 a0 hL_a0).1.trans hK_a0
  have hL_a0 : wM D S_2 a0 := hX_S_2.M hL_a0
  have hK_a1 : sK S_2 a1 = 5 := (hX_S_2.2 a1 hL_a1).1.trans hK_a1
  have hL_a1 : wM D S_2 a1 := hX_S_2.M hL_a1
  refine lv_aload_n hx hb dX8_init_14 rfl (lv_at hl 0 rfl) ?_
  refine lv_lconst (v := 0) hx hb dX8_init_15 (by decide) ?_
  refine w_putJ (k := 13) (f := 3) (T := TX8) F hK hW hL_a0 hK_a0 (by decide) (by decide) rfl rfl (by decide) i_13 tyX8 tyX8_ok nmX8 k_19 rfl rfl rfl dX8_init_16 (fun H locs hW => ?_)
  obtain ⟨S_3, eS_3⟩ : ∃ z : wS, z = uJ S_2 a0 3 (0 : Int64) := ⟨_, rfl⟩
  rw [← eS_3] at hW
  replace hp := hp S_3 eS_3
  have hX_S_3 : wX D S_2 S_3 := by rw [eS_3]; exact wX_uJ
  have hE := hE.trans hX_S_3
  have hK_a0 : sK S_3 a0 = 13 := (hX_S_3.2 a0 hL_a0).1.trans hK_a0
  have hL_a0 : wM D S_3 a0 := hX_S_3.M hL_a0
  have hK_a1 : sK S_3 a1 = 5 := (hX_S_3.2 a1 hL_a1).1.trans hK_a1
  have hL_a1 : wM D S_3 a1 := hX_S_3.M hL_a1
  refine lv_aload_n hx hb dX8_init_19 rfl (lv_at hl 0 rfl) ?_
  refine lv_iconst (v := 0) hx hb dX8_init_20 (by decide) ?_
  obtain ⟨h_5, h_5f, hp⟩ := hp
  refine w_putI (k := 13) (f := 4) (T := TX8) F hK hW hL_a0 hK_a0 (by decide) (by decide) rfl rfl (by decide) i_13 tyX8 tyX8_ok nmX8 k_22 rfl rfl (ty := .boolean) rfl h_5 h_5f dX8_init_21 (fun H locs hW => ?_)
  obtain ⟨S_4, eS_4⟩ : ∃ z : wS, z = uI S_3 a0 4 (0 : Int32) := ⟨_, rfl⟩
  rw [← eS_4] at hW
  replace hp := hp S_4 eS_4
  have hX_S_4 : wX D S_3 S_4 := by rw [eS_4]; exact wX_uI
  have hE := hE.trans hX_S_4
  have hK_a0 : sK S_4 a0 = 13 := (hX_S_4.2 a0 hL_a0).1.trans hK_a0
  have hL_a0 : wM D S_4 a0 := hX_S_4.M hL_a0
  have hK_a1 : sK S_4 a1 = 5 := (hX_S_4.2 a1 hL_a1).1.trans hK_a1
  have hL_a1 : wM D S_4 a1 := hX_S_4.M hL_a1
  refine lv_aload_n hx hb dX8_init_24 rfl (lv_at hl 0 rfl) ?_
  refine lv_lconst (v := 0) hx hb dX8_init_25 (by decide) ?_
  refine w_putJ (k := 13) (f := 5) (T := TX8) F hK hW hL_a0 hK_a0 (by decide) (by decide) rfl rfl (by decide) i_13 tyX8 tyX8_ok nmX8 k_26 rfl rfl rfl dX8_init_26 (fun H locs hW => ?_)
  obtain ⟨S_6, eS_6⟩ : ∃ z : wS, z = uJ S_4 a0 5 (0 : Int64) := ⟨_, rfl⟩
  rw [← eS_6] at hW
  replace hp := hp S_6 eS_6
  have hX_S_6 : wX D S_4 S_6 := by rw [eS_6]; exact wX_uJ
  have hE := hE.trans hX_S_6
  have hK_a0 : sK S_6 a0 = 13 := (hX_S_6.2 a0 hL_a0).1.trans hK_a0
  have hL_a0 : wM D S_6 a0 := hX_S_6.M hL_a0
  have hK_a1 : sK S_6 a1 = 5 := (hX_S_6.2 a1 hL_a1).1.trans hK_a1
  have hL_a1 : wM D S_6 a1 := hX_S_6.M hL_a1
  refine lv_aload_n hx hb dX8_init_29 rfl (lv_at hl 0 rfl) ?_
  refine lv_aload_n hx hb dX8_init_30 rfl (lv_at hl 1 rfl) ?_
  refine w_putRF (k := 13) (f := 0) (T := TX8) (g := (some a1)) F hK hW hL_a0 hK_a0 (by decide) (by decide) rfl rfl (by decide) i_13 tyX8 tyX8_ok nmX8 k_29 rfl rfl hin rfl (ty := (.object "OpeningsCabinet$Board")) rfl (v_narrow _ _) (v_fitsO _ _) dX8_init_31 (fun H locs hW => ?_)
  obtain ⟨S_7, eS_7⟩ : ∃ z : wS, z = uR S_6 a0 0 (some a1) := ⟨_, rfl⟩
  rw [← eS_7] at hW
  replace hp := hp S_7 eS_7
  have hX_S_7 : wX D S_6 S_7 := by rw [eS_7]; exact wX_uR
  have hE := hE.trans hX_S_7
  have hK_a0 : sK S_7 a0 = 13 := (hX_S_7.2 a0 hL_a0).1.trans hK_a0
  have hL_a0 : wM D S_7 a0 := hX_S_7.M hL_a0
  have hK_a1 : sK S_7 a1 = 5 := (hX_S_7.2 a1 hL_a1).1.trans hK_a1
  have hL_a1 : wM D S_7 a1 := hX_S_7.M hL_a1
  exact w_vret hx hb hr hlocks hW ⟨hE, hp⟩ dX8_init_34
set_option maxHeartbeats 4000000 in
set_option maxRecDepth 100000 in
theorem c_X8_init (l : Launch) {D : wD} {cy : Nat → ClassId} {X : va_W} {S0 : wS} {post : wS → Prop} {a0 : Nat} {a1 : Nat} (hL_a0 : wM D S0 a0) (hK_a0 : sK S0 a0 = 13) (hL_a1 : wM D S0 a1) (hK_a1 : sK S0 a1 = 5) (hp : wp_X8_init D post S0 a0 a1) : mV D cy X l yX8_init wz_X8_init r_X8_init [.ref a0, .ref a1] S0 (fun S9 => wX D S0 S9 ∧ post S9) := by
  intro sz
  refine Met.ofW (cc := cX8_init) (maxL := 2) (ret := none) (by decide) rfl ?_
  intro p e s m args below meth c s₁ B hml hv
  obtain ⟨rfl, hsz, hP, hK, hD0, hRO⟩ := hv
  have hts := atoms_spec (ws := wz_X8_init) B.pre
  have hown : s.vm.findClass RX8 = some m.cls := findClass_of_methodNamed B.named
  subst hsz
  have hD := hD0.self (sz := s.heap.size)
  have F : CallFix p m c cX8_init 2 s _ wz_X8_init RX8 := ⟨B.exec, B.bytes, hml, hown, hts⟩
  have hr := B.returns
  have hlocks := B.notSynchronized
  have hin : meth.name = "<init>" := (name_of_methodNamed B.named B.method).1
  generalize hAe : va_A (wL cy X S0) s.heap.size = A at hD hK ⊢
  have hA : ∀ q, s.heap.size ≤ q → A q := fun q h => by rw [← hAe]; exact Or.inr h
  have hW : wO D cy X A s.heap S0 s.heap [] := ⟨hP, hD, va_S.rf, hA, hRO⟩
  have hl := lv_entry ([.ref a0, .ref a1]) (n := 2) (Nat.le_of_ble_eq_true rfl)
  rw [lg_entry_eq]
  generalize (lg_sl ([.ref a0, .ref a1]) ++ List.replicate (2 - (lg_sl ([.ref a0, .ref a1])).length) Slot.unset).toArray = ls at hl ⊢
  have hl : lv_has ls 2 [(0, .ref a0), (1, .ref a1)] := hl
  unfold wp_X8_init at hp
  exact t_X8_init_0 F hr hlocks hK hin hp hW wX.rf (lv_sub hl [0, 1] rfl) hL_a0 hK_a0 hL_a1 hK_a1
def wp_X9_init_0 (D : wD) (post : wS → Prop)  (S : wS) (a0 : Nat) (a1 : Nat) (a2 : Nat) : Prop :=
¬ (1728 : Int32) < 0 ∧ ((1728 : Int32)).toNatClampNeg ≤ 1728 ∧ ∀ y_1 : Nat, ¬ wM D S y_1 → ∀ S_2 : wS, S_2 = nA S y_1 21 ((1728 : Int32)).toNatClampNeg →
∀ S_4 : wS, S_4 = uR S_2 a0 1 (some y_1) →
¬ (1728 : Int32) < 0 ∧ ((1728 : Int32)).toNatClampNeg ≤ 1728 ∧ ∀ y_5 : Nat, ¬ wM D S_4 y_5 → ∀ S_6 : wS, S_6 = nA S_4 y_5 21 ((1728 : Int32)).toNatClampNeg →
∀ S_8 : wS, S_8 = uR S_6 a0 2 (some y_5) →
¬ (1728 : Int32) < 0 ∧ ((1728 : Int32)).toNatClampNeg ≤ 1728 ∧ ∀ y_9 : Nat, ¬ wM D S_8 y_9 → ∀ S_10 : wS, S_10 = nA S_8 y_9 21 ((1728 : Int32)).toNatClampNeg →
∀ S_12 : wS, S_12 = uR S_10 a0 3 (some y_9) →
∀ S_13 : wS, S_13 = uI S_12 a0 7 (-1 : Int32) →
∀ S_14 : wS, S_14 = uI S_13 a0 8 (0 : Int32) →
∀ S_15 : wS, S_15 = uI S_14 a0 9 (-1 : Int32) →
∀ S_16 : wS, S_16 = uR S_15 a0 0 (some a2) →
∀ y_17 : Nat, ¬ wM D S_16 y_17 → ∀ S_18 : wS, S_18 = nA S_16 y_17 12 0 →
wp_X7_init D (fun S_20 => 
∀ S_21 : wS, S_21 = uR S_20 a0 4 (some y_17) →
∀ y_22 : Nat, ¬ wM D S_21 y_22 → ∀ S_23 : wS, S_23 = nA S_21 y_22 12 0 →
wp_X7_init D (fun S_25 => 
∀ S_26 : wS, S_26 = uR S_25 a0 5 (some y_22) →
∀ y_27 : Nat, ¬ wM D S_26 y_27 → ∀ S_28 : wS, S_28 = nA S_26 y_27 12 0 →
wp_X7_init D (fun S_30 => 
∀ S_31 : wS, S_31 = uR S_30 a0 6 (some y_27) →
post S_31) S_28 y_27 a1) S_23 y_22 a1) S_18 y_17 a1
abbrev r_X9_init : Room := { frames := 2, cells := 6, slots := 5208, locals := 81 }
def wp_X9_init (D : wD) (post : wS → Prop) (S : wS) (a0 : Nat) (a1 : Nat) (a2 : Nat) : Prop := wp_X9_init_0 D post S a0 a1 a2
set_option maxHeartbeats 4000000 in
set_option maxRecDepth 100000 in
theorem t_X9_init_0 {p : Program} {l : Launch} {e : Env} {s : State} {m : MethodId} {args : Array Value} {below : List Frame} {meth : Method} {c : Code} {D : wD} {cy : Nat → ClassId} {X : va_W} {A : Nat → Prop} {S0 : wS} {post : wS → Prop} (F : CallFix p m c cX9_init 3 s args wz_X9_init RX9) (hr : meth.sig.returnType = none) (hlocks : meth.locks = false) (hK : wK D cy A s) (hin : meth.name = "<init>") : ∀ {S : wS} {H : Heap} {locs : List Loc} {ls : Array Slot} {a0 : Nat} {a1 : Nat} {a2 : Nat}, wp_X9_init_0 D post S a0 a1 a2 → wO D cy X A s.heap S H locs → wX D S0 S → lv_has ls 3 [(0, .ref a0), (1, .ref a1), (2, .ref a2)] → wM D S a0 → sK S a0 = 14 → wM D S a1 → sK S a1 = 5 → wM D S a2 → sK S a2 = 13 → W p l e r_X9_init s m args below meth c H locs 0 0 (MQ below (va_Qv (fun S9 => wX D S0 S9 ∧ post S9) (wB D cy X A) A) args s 6 5208 A) (F0 m 0 ls []) := by
  obtain ⟨hx, hb, hml, hown, hts⟩ := id F
  have hwg : ∀ w ∈ WG, w.before args s = true := fun w h => hts w (List.mem_cons_of_mem _ h)
  have i_14 : ∀ w ∈ u_ws RX9 TX9 10, w ∈ wz_X9_init := fun w h => List.mem_cons_of_mem _ (wu_14 w h)
  have k_15 := hwg _ wf_RX9_15
  have k_18 := hwg _ wf_RX9_18
  have k_21 := hwg _ wf_RX9_21
  have k_25 := hwg _ wf_RX9_25
  have k_28 := hwg _ wf_RX9_28
  have k_31 := hwg _ wf_RX9_31
  have k_40 := hwg _ wf_RX9_40
  have k_44 := hwg _ wf_RX9_44
  have k_47 := hwg _ wf_RX9_47
  have k_9 := hwg _ wf_RX9_9
  intro S H locs ls a0 a1 a2 hp hW hE hl hL_a0 hK_a0 hL_a1 hK_a1 hL_a2 hK_a2
  unfold wp_X9_init_0 at hp
  refine lv_aload_n hx hb dX9_init_0 rfl (lv_at hl 0 rfl) ?_
  refine W.objInit hx hb hown (hwg _ wm_RX9_3) (hwg _ wobj.1) (hwg _ wobj.2) rfl (by rw [hml]; exact hl.1) rfl dX9_init_1 (Nat.le_of_ble_eq_true rfl) (Nat.le_of_ble_eq_true rfl) ?_
  refine W.eq (g2 := F0 m 4 ls []) rfl ?_
  refine lv_aload_n hx hb dX9_init_4 rfl (lv_at hl 0 rfl) ?_
  refine lv_sipush (v := 1728) hx hb dX9_init_5 (by decide) ?_
  obtain ⟨h_3, h_3b, hp⟩ := hp
  refine w_newaI F hK hW (hwg _ wr_int) h_3 (by omega) (Nat.le_of_ble_eq_true rfl) (Nat.le_trans (Nat.add_le_add_left h_3b _) (Nat.le_of_ble_eq_true rfl)) dX9_init_8 (fun y_1 H hq_y_1 hW => ?_)
  refine W.widen (k := 1) (n := 1728) (by decide) (Nat.add_le_add_left h_3b _) ?_
  obtain ⟨S_2, eS_2⟩ : ∃ z : wS, z = nA S y_1 21 ((1728 : Int32)).toNatClampNeg := ⟨_, rfl⟩
  rw [← eS_2] at hW
  replace hp := hp y_1 hq_y_1 S_2 eS_2
  have hX_S_2 : wX D S S_2 := by rw [eS_2]; exact wX_nA hq_y_1
  have hE := hE.trans hX_S_2
  have hK_a0 : sK S_2 a0 = 14 := (hX_S_2.2 a0 hL_a0).1.trans hK_a0
  have hL_a0 : wM D S_2 a0 := hX_S_2.M hL_a0
  have hK_a1 : sK S_2 a1 = 5 := (hX_S_2.2 a1 hL_a1).1.trans hK_a1
  have hL_a1 : wM D S_2 a1 := hX_S_2.M hL_a1
  have hK_a2 : sK S_2 a2 = 13 := (hX_S_2.2 a2 hL_a2).1.trans hK_a2
  have hL_a2 : wM D S_2 a2 := hX_S_2.M hL_a2
  have hL_y_1 : wM D S_2 y_1 := by rw [eS_2]; exact Or.inl (List.mem_append_right _ List.mem_cons_self)
  have hK_y_1 : sK S_2 y_1 = 21 := by rw [eS_2]; exact va_up_self _ _ _
  refine w_putRF (k := 14) (f := 1) (T := TX9) (g := (some y_1)) F hK hW hL_a0 hK_a0 (by decide) (by decide) rfl rfl (by decide) i_14 tyX9 tyX9_ok nmX9 k_9 rfl rfl hin rfl (ty := (.array .int)) rfl (v_narrow _ _) (v_fitsA _ _) dX9_init_10 (fun H locs hW => ?_)
  obtain ⟨S_4, eS_4⟩ : ∃ z : wS, z = uR S_2 a0 1 (some y_1) := ⟨_, rfl⟩
  rw [← eS_4] at hW
  replace hp := hp S_4 eS_4
  have hX_S_4 : wX D S_2 S_4 := by rw [eS_4]; exact wX_uR
  have hE := hE.trans hX_S_4
  have hK_a0 : sK S_4 a0 = 14 := (hX_S_4.2 a0 hL_a0).1.trans hK_a0
  have hL_a0 : wM D S_4 a0 := hX_S_4.M hL_a0
  have hK_a1 : sK S_4 a1 = 5 := (hX_S_4.2 a1 hL_a1).1.trans hK_a1
  have hL_a1 : wM D S_4 a1 := hX_S_4.M hL_a1
  have hK_a2 : sK S_4 a2 = 13 := (hX_S_4.2 a2 hL_a2).1.trans hK_a2
  have hL_a2 : wM D S_4 a2 := hX_S_4.M hL_a2
  refine lv_aload_n hx hb dX9_init_13 rfl (lv_at hl 0 rfl) ?_
  refine lv_sipush (v := 1728) hx hb dX9_init_14 (by decide) ?_
  obtain ⟨h_7, h_7b, hp⟩ := hp
  refine w_newaI F hK hW (hwg _ wr_int) h_7 (by omega) (Nat.le_of_ble_eq_true rfl) (Nat.le_trans (Nat.add_le_add_left h_7b _) (Nat.le_of_ble_eq_true rfl)) dX9_init_17 (fun y_5 H hq_y_5 hW => ?_)
  refine W.widen (k := 2) (n := 3456) (by decide) (Nat.add_le_add_left h_7b _) ?_
  obtain ⟨S_6, eS_6⟩ : ∃ z : wS, z = nA S_4 y_5 21 ((1728 : Int32)).toNatClampNeg := ⟨_, rfl⟩
  rw [← eS_6] at hW
  replace hp := hp y_5 hq_y_5 S_6 eS_6
  have hX_S_6 : wX D S_4 S_6 := by rw [eS_6]; exact wX_nA hq_y_5
  have hE := hE.trans hX_S_6
  have hK_a0 : sK S_6 a0 = 14 := (hX_S_6.2 a0 hL_a0).1.trans hK_a0
  have hL_a0 : wM D S_6 a0 := hX_S_6.M hL_a0
  have hK_a1 : sK S_6 a1 = 5 := (hX_S_6.2 a1 hL_a1).1.trans hK_a1
  have hL_a1 : wM D S_6 a1 := hX_S_6.M hL_a1
  have hK_a2 : sK S_6 a2 = 13 := (hX_S_6.2 a2 hL_a2).1.trans hK_a2
  have hL_a2 : wM D S_6 a2 := hX_S_6.M hL_a2
  have hL_y_5 : wM D S_6 y_5 := by rw [eS_6]; exact Or.inl (List.mem_append_right _ List.mem_cons_self)
  have hK_y_5 : sK S_6 y_5 = 21 := by rw [eS_6]; exact va_up_self _ _ _
  refine w_putRF (k := 14) (f := 2) (T := TX9) (g := (some y_5)) F hK hW hL_a0 hK_a0 (by decide) (by decide) rfl rfl (by decide) i_14 tyX9 tyX9_ok nmX9 k_15 rfl rfl hin rfl (ty := (.array .int)) rfl (v_narrow _ _) (v_fitsA _ _) dX9_init_19 (fun H locs hW => ?_)
  obtain ⟨S_8, eS_8⟩ : ∃ z : wS, z = uR S_6 a0 2 (some y_5) := ⟨_, rfl⟩
  rw [← eS_8] at hW
  replace hp := hp S_8 eS_8
  have hX_S_8 : wX D S_6 S_8 := by rw [eS_8]; exact wX_uR
  have hE := hE.trans hX_S_8
  have hK_a0 : sK S_8 a0 = 14 := (hX_S_8.2 a0 hL_a0).1.trans hK_a0
  have hL_a0 : wM D S_8 a0 := hX_S_8.M hL_a0
  have hK_a1 : sK S_8 a1 = 5 := (hX_S_8.2 a1 hL_a1).1.trans hK_a1
  have hL_a1 : wM D S_8 a1 := hX_S_8.M hL_a1
  have hK_a2 : sK S_8 a2 = 13 := (hX_S_8.2 a2 hL_a2).1.trans hK_a2
  have hL_a2 : wM D S_8 a2 := hX_S_8.M hL_a2
  refine lv_aload_n hx hb dX9_init_22 rfl (lv_at hl 0 rfl) ?_
  refine lv_sipush (v := 1728) hx hb dX9_init_23 (by decide) ?_
  obtain ⟨h_11, h_11b, hp⟩ := hp
  refine w_newaI F hK hW (hwg _ wr_int) h_11 (by omega) (Nat.le_of_ble_eq_true rfl) (Nat.le_trans (Nat.add_le_add_left h_11b _) (Nat.le_of_ble_eq_true rfl)) dX9_init_26 (fun y_9 H hq_y_9 hW => ?_)
  refine W.widen (k := 3) (n := 5184) (by decide) (Nat.add_le_add_left h_11b _) ?_
  obtain ⟨S_10, eS_10⟩ : ∃ z : wS, z = nA S_8 y_9 21 ((1728 : Int32)).toNatClampNeg := ⟨_, rfl⟩
  rw [← eS_10] at hW
  replace hp := hp y_9 hq_y_9 S_10 eS_10
  have hX_S_10 : wX D S_8 S_10 := by rw [eS_10]; exact wX_nA hq_y_9
  have hE := hE.trans hX_S_10
  have hK_a0 : sK S_10 a0 = 14 := (hX_S_10.2 a0 hL_a0).1.trans hK_a0
  have hL_a0 : wM D S_10 a0 := hX_S_10.M hL_a0
  have hK_a1 : sK S_10 a1 = 5 := (hX_S_10.2 a1 hL_a1).1.trans hK_a1
  have hL_a1 : wM D S_10 a1 := hX_S_10.M hL_a1
  have hK_a2 : sK S_10 a2 = 13 := (hX_S_10.2 a2 hL_a2).1.trans hK_a2
  have hL_a2 : wM D S_10 a2 := hX_S_10.M hL_a2
  have hL_y_9 : wM D S_10 y_9 := by rw [eS_10]; exact Or.inl (List.mem_append_right _ List.mem_cons_self)
  have hK_y_9 : sK S_10 y_9 = 21 := by rw [eS_10]; exact va_up_self _ _ _
  refine w_putRF (k := 14) (f := 3) (T := TX9) (g := (some y_9)) F hK hW hL_a0 hK_a0 (by decide) (by decide) rfl rfl (by decide) i_14 tyX9 tyX9_ok nmX9 k_18 rfl rfl hin rfl (ty := (.array .int)) rfl (v_narrow _ _) (v_fitsA _ _) dX9_init_28 (fun H locs hW => ?_)
  obtain ⟨S_12, eS_12⟩ : ∃ z : wS, z = uR S_10 a0 3 (some y_9) := ⟨_, rfl⟩
  rw [← eS_12] at hW
  replace hp := hp S_12 eS_12
  have hX_S_12 : wX D S_10 S_12 := by rw [eS_12]; exact wX_uR
  have hE := hE.trans hX_S_12
  have hK_a0 : sK S_12 a0 = 14 := (hX_S_12.2 a0 hL_a0).1.trans hK_a0
  have hL_a0 : wM D S_12 a0 := hX_S_12.M hL_a0
  have hK_a1 : sK S_12 a1 = 5 := (hX_S_12.2 a1 hL_a1).1.trans hK_a1
  have hL_a1 : wM D S_12 a1 := hX_S_12.M hL_a1
  have hK_a2 : sK S_12 a2 = 13 := (hX_S_12.2 a2 hL_a2).1.trans hK_a2
  have hL_a2 : wM D S_12 a2 := hX_S_12.M hL_a2
  refine lv_aload_n hx hb dX9_init_31 rfl (lv_at hl 0 rfl) ?_
  refine lv_iconst (v := (-1)) hx hb dX9_init_32 (by decide) ?_
  refine w_putI (k := 14) (f := 7) (T := TX9) F hK hW hL_a0 hK_a0 (by decide) (by decide) rfl rfl (by decide) i_14 tyX9 tyX9_ok nmX9 k_21 rfl rfl (ty := .int) rfl rfl rfl dX9_init_33 (fun H locs hW => ?_)
  obtain ⟨S_13, eS_13⟩ : ∃ z : wS, z = uI S_12 a0 7 (-1 : Int32) := ⟨_, rfl⟩
  rw [← eS_13] at hW
  replace hp := hp S_13 eS_13
  have hX_S_13 : wX D S_12 S_13 := by rw [eS_13]; exact wX_uI
  have hE := hE.trans hX_S_13
  have hK_a0 : sK S_13 a0 = 14 := (hX_S_13.2 a0 hL_a0).1.trans hK_a0
  have hL_a0 : wM D S_13 a0 := hX_S_13.M hL_a0
  have hK_a1 : sK S_13 a1 = 5 := (hX_S_13.2 a1 hL_a1).1.trans hK_a1
  have hL_a1 : wM D S_13 a1 := hX_S_13.M hL_a1
  have hK_a2 : sK S_13 a2 = 13 := (hX_S_13.2 a2 hL_a2).1.trans hK_a2
  have hL_a2 : wM D S_13 a2 := hX_S_13.M hL_a2
  refine lv_aload_n hx hb dX9_init_36 rfl (lv_at hl 0 rfl) ?_
  refine lv_iconst (v := 0) hx hb dX9_init_37 (by decide) ?_
  refine w_putI (k := 14) (f := 8) (T := TX9) F hK hW hL_a0 hK_a0 (by decide) (by decide) rfl rfl (by decide) i_14 tyX9 tyX9_ok nmX9 k_25 rfl rfl (ty := .int) rfl rfl rfl dX9_init_38 (fun H locs hW => ?_)
  obtain ⟨S_14, eS_14⟩ : ∃ z : wS, z = uI S_13 a0 8 (0 : Int32) := ⟨_, rfl⟩
  rw [← eS_14] at hW
  replace hp := hp S_14 eS_14
  have hX_S_14 : wX D S_13 S_14 := by rw [eS_14]; exact wX_uI
  have hE := hE.trans hX_S_14
  have hK_a0 : sK S_14 a0 = 14 := (hX_S_14.2 a0 hL_a0).1.trans hK_a0
  have hL_a0 : wM D S_14 a0 := hX_S_14.M hL_a0
  have hK_a1 : sK S_14 a1 = 5 := (hX_S_14.2 a1 hL_a1).1.trans hK_a1
  have hL_a1 : wM D S_14 a1 := hX_S_14.M hL_a1
  have hK_a2 : sK S_14 a2 = 13 := (hX_S_14.2 a2 hL_a2).1.trans hK_a2
  have hL_a2 : wM D S_14 a2 := hX_S_14.M hL_a2
  refine lv_aload_n hx hb dX9_init_41 rfl (lv_at hl 0 rfl) ?_
  refine lv_iconst (v := (-1)) hx hb dX9_init_42 (by decide) ?_
  refine w_putI (k := 14) (f := 9) (T := TX9) F hK hW hL_a0 hK_a0 (by decide) (by decide) rfl rfl (by decide) i_14 tyX9 tyX9_ok nmX9 k_28 rfl rfl (ty := .int) rfl rfl rfl dX9_init_43 (fun H locs hW => ?_)
  obtain ⟨S_15, eS_15⟩ : ∃ z : wS, z = uI S_14 a0 9 (-1 : Int32) := ⟨_, rfl⟩
  rw [← eS_15] at hW
  replace hp := hp S_15 eS_15
  have hX_S_15 : wX D S_14 S_15 := by rw [eS_15]; exact wX_uI
  have hE := hE.trans hX_S_15
  have hK_a0 : sK S_15 a0 = 14 := (hX_S_15.2 a0 hL_a0).1.trans hK_a0
  have hL_a0 : wM D S_15 a0 := hX_S_15.M hL_a0
  have hK_a1 : sK S_15 a1 = 5 := (hX_S_15.2 a1 hL_a1).1.trans hK_a1
  have hL_a1 : wM D S_15 a1 := hX_S_15.M hL_a1
  have hK_a2 : sK S_15 a2 = 13 := (hX_S_15.2 a2 hL_a2).1.trans hK_a2
  have hL_a2 : wM D S_15 a2 := hX_S_15.M hL_a2
  refine lv_aload_n hx hb dX9_init_46 rfl (lv_at hl 0 rfl) ?_
  refine lv_aload_n hx hb dX9_init_47 rfl (lv_at hl 2 rfl) ?_
  refine w_putRF (k := 14) (f := 0) (T := TX9) (g := (some a2)) F hK hW hL_a0 hK_a0 (by decide) (by decide) rfl rfl (by decide) i_14 tyX9 tyX9_ok nmX9 k_31 rfl rfl hin rfl (ty := (.object "OpeningsCabinet$Rules")) rfl (v_narrow _ _) (v_fitsO _ _) dX9_init_48 (fun H locs hW => ?_)
  obtain ⟨S_16, eS_16⟩ : ∃ z : wS, z = uR S_15 a0 0 (some a2) := ⟨_, rfl⟩
  rw [← eS_16] at hW
  replace hp := hp S_16 eS_16
  have hX_S_16 : wX D S_15 S_16 := by rw [eS_16]; exact wX_uR
  have hE := hE.trans hX_S_16
  have hK_a0 : sK S_16 a0 = 14 := (hX_S_16.2 a0 hL_a0).1.trans hK_a0
  have hL_a0 : wM D S_16 a0 := hX_S_16.M hL_a0
  have hK_a1 : sK S_16 a1 = 5 := (hX_S_16.2 a1 hL_a1).1.trans hK_a1
  have hL_a1 : wM D S_16 a1 := hX_S_16.M hL_a1
  have hK_a2 : sK S_16 a2 = 13 := (hX_S_16.2 a2 hL_a2).1.trans hK_a2
  have hL_a2 : wM D S_16 a2 := hX_S_16.M hL_a2
  refine lv_aload_n hx hb dX9_init_51 rfl (lv_at hl 0 rfl) ?_
  refine w_new (k := 12) (T := TX7) F hK hW rfl (by decide) (fun w h => List.mem_cons_of_mem _ (wu_12 w h)) tyX7 tyX7_ok (hwg _ wc_RX9_35) (hwg _ wn_12) (hwg _ wi_OpeningsCabinet_Position) wdef_12 (Nat.le_of_ble_eq_true rfl) (Nat.le_of_ble_eq_true rfl) dX9_init_52 (fun y_17 H hq_y_17 hW => ?_)
  refine W.widen (k := 4) (n := 5192) (by decide) (by decide) ?_
  obtain ⟨S_18, eS_18⟩ : ∃ z : wS, z = nA S_16 y_17 12 0 := ⟨_, rfl⟩
  rw [← eS_18] at hW
  replace hp := hp y_17 hq_y_17 S_18 eS_18
  have hX_S_18 : wX D S_16 S_18 := by rw [eS_18]; exact wX_nA hq_y_17
  have hE := hE.trans hX_S_18
  have hK_a0 : sK S_18 a0 = 14 := (hX_S_18.2 a0 hL_a0).1.trans hK_a0
  have hL_a0 : wM D S_18 a0 := hX_S_18.M hL_a0
  have hK_a1 : sK S_18 a1 = 5 := (hX_S_18.2 a1 hL_a1).1.trans hK_a1
  have hL_a1 : wM D S_18 a1 := hX_S_18.M hL_a1
  have hK_a2 : sK S_18 a2 = 13 := (hX_S_18.2 a2 hL_a2).1.trans hK_a2
  have hL_a2 : wM D S_18 a2 := hX_S_18.M hL_a2
  have hL_y_17 : wM D S_18 y_17 := by rw [eS_18]; exact Or.inl (List.mem_append_right _ List.mem_cons_self)
  have hK_y_17 : sK S_18 y_17 = 12 := by rw [eS_18]; exact va_up_self _ _ _
  refine lv_dup hx hb dX9_init_55 rfl ?_
  refine lv_aload_n hx hb dX9_init_56 rfl (lv_at hl 1 rfl) ?_
  refine w_callV (va_runI (As := [.ref a1]) (rest := [.ref y_17, .ref a0]) F (c_X7_init l hL_y_17 hK_y_17 hL_a1 hK_a1 hp H.size) (cwI 1 hts (wg_cons wy_X7_init.2.2) rfl rfl rfl (hwg _ wy_X7_init.2.1) (hwg _ wm_RX9_37) (hwg _ wy_X7_init.1) rfl (by decide +kernel) ⟨Nat.le_of_ble_eq_true rfl, Nat.le_of_ble_eq_true rfl⟩) (w_preS hK hW) rfl rfl hl.1 rfl (lv_room (Nat.le_of_ble_eq_true rfl)) dX9_init_57 ⟨Nat.le_of_ble_eq_true rfl, Nat.le_of_ble_eq_true rfl⟩) hW (fun S_20 H locs hp hW => ?_)
  obtain ⟨hX_S_20, hp⟩ := hp
  refine W.widen (k := 4) (n := 5192) (by decide) (by decide) ?_
  have hE := hE.trans hX_S_20
  have hK_a0 : sK S_20 a0 = 14 := (hX_S_20.2 a0 hL_a0).1.trans hK_a0
  have hL_a0 : wM D S_20 a0 := hX_S_20.M hL_a0
  have hK_a1 : sK S_20 a1 = 5 := (hX_S_20.2 a1 hL_a1).1.trans hK_a1
  have hL_a1 : wM D S_20 a1 := hX_S_20.M hL_a1
  have hK_a2 : sK S_20 a2 = 13 := (hX_S_20.2 a2 hL_a2).1.trans hK_a2
  have hL_a2 : wM D S_20 a2 := hX_S_20.M hL_a2
  have hK_y_17 : sK S_20 y_17 = 12 := (hX_S_20.2 y_17 hL_y_17).1.trans hK_y_17
  have hL_y_17 : wM D S_20 y_17 := hX_S_20.M hL_y_17
  refine w_putRF (k := 14) (f := 4) (T := TX9) (g := (some y_17)) F hK hW hL_a0 hK_a0 (by decide) (by decide) rfl rfl (by decide) i_14 tyX9 tyX9_ok nmX9 k_40 rfl rfl hin rfl (ty := (.object "OpeningsCabinet$Position")) rfl (v_narrow _ _) (v_fitsO _ _) dX9_init_60 (fun H locs hW => ?_)
  obtain ⟨S_21, eS_21⟩ : ∃ z : wS, z = uR S_20 a0 4 (some y_17) := ⟨_, rfl⟩
  rw [← eS_21] at hW
  replace hp := hp S_21 eS_21
  have hX_S_21 : wX D S_20 S_21 := by rw [eS_21]; exact wX_uR
  have hE := hE.trans hX_S_21
  have hK_a0 : sK S_21 a0 = 14 := (hX_S_21.2 a0 hL_a0).1.trans hK_a0
  have hL_a0 : wM D S_21 a0 := hX_S_21.M hL_a0
  have hK_a1 : sK S_21 a1 = 5 := (hX_S_21.2 a1 hL_a1).1.trans hK_a1
  have hL_a1 : wM D S_21 a1 := hX_S_21.M hL_a1
  have hK_a2 : sK S_21 a2 = 13 := (hX_S_21.2 a2 hL_a2).1.trans hK_a2
  have hL_a2 : wM D S_21 a2 := hX_S_21.M hL_a2
  refine lv_aload_n hx hb dX9_init_63 rfl (lv_at hl 0 rfl) ?_
  refine w_new (k := 12) (T := TX7) F hK hW rfl (by decide) (fun w h => List.mem_cons_of_mem _ (wu_12 w h)) tyX7 tyX7_ok (hwg _ wc_RX9_35) (hwg _ wn_12) (hwg _ wi_OpeningsCabinet_Position) wdef_12 (Nat.le_of_ble_eq_true rfl) (Nat.le_of_ble_eq_true rfl) dX9_init_64 (fun y_22 H hq_y_22 hW => ?_)
  refine W.widen (k := 5) (n := 5200) (by decide) (by decide) ?_
  obtain ⟨S_23, eS_23⟩ : ∃ z : wS, z = nA S_21 y_22 12 0 := ⟨_, rfl⟩
  rw [← eS_23] at hW
  replace hp := hp y_22 hq_y_22 S_23 eS_23
  have hX_S_23 : wX D S_21 S_23 := by rw [eS_23]; exact wX_nA hq_y_22
  have hE := hE.trans hX_S_23
  have hK_a0 : sK S_23 a0 = 14 := (hX_S_23.2 a0 hL_a0).1.trans hK_a0
  have hL_a0 : wM D S_23 a0 := hX_S_23.M hL_a0
  have hK_a1 : sK S_23 a1 = 5 := (hX_S_23.2 a1 hL_a1).1.trans hK_a1
  have hL_a1 : wM D S_23 a1 := hX_S_23.M hL_a1
  have hK_a2 : sK S_23 a2 = 13 := (hX_S_23.2 a2 hL_a2).1.trans hK_a2
  have hL_a2 : wM D S_23 a2 := hX_S_23.M hL_a2
  have hL_y_22 : wM D S_23 y_22 := by rw [eS_23]; exact Or.inl (List.mem_append_right _ List.mem_cons_self)
  have hK_y_22 : sK S_23 y_22 = 12 := by rw [eS_23]; exact va_up_self _ _ _
  refine lv_dup hx hb dX9_init_67 rfl ?_
  refine lv_aload_n hx hb dX9_init_68 rfl (lv_at hl 1 rfl) ?_
  refine w_callV (va_runI (As := [.ref a1]) (rest := [.ref y_22, .ref a0]) F (c_X7_init l hL_y_22 hK_y_22 hL_a1 hK_a1 hp H.size) (cwI 1 hts (wg_cons wy_X7_init.2.2) rfl rfl rfl (hwg _ wy_X7_init.2.1) (hwg _ wm_RX9_37) (hwg _ wy_X7_init.1) rfl (by decide +kernel) ⟨Nat.le_of_ble_eq_true rfl, Nat.le_of_ble_eq_true rfl⟩) (w_preS hK hW) rfl rfl hl.1 rfl (lv_room (Nat.le_of_ble_eq_true rfl)) dX9_init_69 ⟨Nat.le_of_ble_eq_true rfl, Nat.le_of_ble_eq_true rfl⟩) hW (fun S_25 H locs hp hW => ?_)
  obtain ⟨hX_S_25, hp⟩ := hp
  refine W.widen (k := 5) (n := 5200) (by decide) (by decide) ?_
  have hE := hE.trans hX_S_25
  have hK_a0 : sK S_25 a0 = 14 := (hX_S_25.2 a0 hL_a0).1.trans hK_a0
  have hL_a0 : wM D S_25 a0 := hX_S_25.M hL_a0
  have hK_a1 : sK S_25 a1 = 5 := (hX_S_25.2 a1 hL_a1).1.trans hK_a1
  have hL_a1 : wM D S_25 a1 := hX_S_25.M hL_a1
  have hK_a2 : sK S_25 a2 = 13 := (hX_S_25.2 a2 hL_a2).1.trans hK_a2
  have hL_a2 : wM D S_25 a2 := hX_S_25.M hL_a2
  have hK_y_22 : sK S_25 y_22 = 12 := (hX_S_25.2 y_22 hL_y_22).1.trans hK_y_22
  have hL_y_22 : wM D S_25 y_22 := hX_S_25.M hL_y_22
  refine w_putRF (k := 14) (f := 5) (T := TX9) (g := (some y_22)) F hK hW hL_a0 hK_a0 (by decide) (by decide) rfl rfl (by decide) i_14 tyX9 tyX9_ok nmX9 k_44 rfl rfl hin rfl (ty := (.object "OpeningsCabinet$Position")) rfl (v_narrow _ _) (v_fitsO _ _) dX9_init_72 (fun H locs hW => ?_)
  obtain ⟨S_26, eS_26⟩ : ∃ z : wS, z = uR S_25 a0 5 (some y_22) := ⟨_, rfl⟩
  rw [← eS_26] at hW
  replace hp := hp S_26 eS_26
  have hX_S_26 : wX D S_25 S_26 := by rw [eS_26]; exact wX_uR
  have hE := hE.trans hX_S_26
  have hK_a0 : sK S_26 a0 = 14 := (hX_S_26.2 a0 hL_a0).1.trans hK_a0
  have hL_a0 : wM D S_26 a0 := hX_S_26.M hL_a0
  have hK_a1 : sK S_26 a1 = 5 := (hX_S_26.2 a1 hL_a1).1.trans hK_a1
  have hL_a1 : wM D S_26 a1 := hX_S_26.M hL_a1
  have hK_a2 : sK S_26 a2 = 13 := (hX_S_26.2 a2 hL_a2).1.trans hK_a2
  have hL_a2 : wM D S_26 a2 := hX_S_26.M hL_a2
  refine lv_aload_n hx hb dX9_init_75 rfl (lv_at hl 0 rfl) ?_
  refine w_new (k := 12) (T := TX7) F hK hW rfl (by decide) (fun w h => List.mem_cons_of_mem _ (wu_12 w h)) tyX7 tyX7_ok (hwg _ wc_RX9_35) (hwg _ wn_12) (hwg _ wi_OpeningsCabinet_Position) wdef_12 (Nat.le_of_ble_eq_true rfl) (Nat.le_of_ble_eq_true rfl) dX9_init_76 (fun y_27 H hq_y_27 hW => ?_)
  refine W.widen (k := 6) (n := 5208) (by decide) (by decide) ?_
  obtain ⟨S_28, eS_28⟩ : ∃ z : wS, z = nA S_26 y_27 12 0 := ⟨_, rfl⟩
  rw [← eS_28] at hW
  replace hp := hp y_27 hq_y_27 S_28 eS_28
  have hX_S_28 : wX D S_26 S_28 := by rw [eS_28]; exact wX_nA hq_y_27
  have hE := hE.trans hX_S_28
  have hK_a0 : sK S_28 a0 = 14 := (hX_S_28.2 a0 hL_a0).1.trans hK_a0
  have hL_a0 : wM D S_28 a0 := hX_S_28.M hL_a0
  have hK_a1 : sK S_28 a1 = 5 := (hX_S_28.2 a1 hL_a1).1.trans hK_a1
  have hL_a1 : wM D S_28 a1 := hX_S_28.M hL_a1
  have hK_a2 : sK S_28 a2 = 13 := (hX_S_28.2 a2 hL_a2).1.trans hK_a2
  have hL_a2 : wM D S_28 a2 := hX_S_28.M hL_a2
  have hL_y_27 : wM D S_28 y_27 := by rw [eS_28]; exact Or.inl (List.mem_append_right _ List.mem_cons_self)
  have hK_y_27 : sK S_28 y_27 = 12 := by rw [eS_28]; exact va_up_self _ _ _
  refine lv_dup hx hb dX9_init_79 rfl ?_
  refine lv_aload_n hx hb dX9_init_80 rfl (lv_at hl 1 rfl) ?_
  refine w_callV (va_runI (As := [.ref a1]) (rest := [.ref y_27, .ref a0]) F (c_X7_init l hL_y_27 hK_y_27 hL_a1 hK_a1 hp H.size) (cwI 1 hts (wg_cons wy_X7_init.2.2) rfl rfl rfl (hwg _ wy_X7_init.2.1) (hwg _ wm_RX9_37) (hwg _ wy_X7_init.1) rfl (by decide +kernel) ⟨Nat.le_of_ble_eq_true rfl, Nat.le_of_ble_eq_true rfl⟩) (w_preS hK hW) rfl rfl hl.1 rfl (lv_room (Nat.le_of_ble_eq_true rfl)) dX9_init_81 ⟨Nat.le_of_ble_eq_true rfl, Nat.le_of_ble_eq_true rfl⟩) hW (fun S_30 H locs hp hW => ?_)
  obtain ⟨hX_S_30, hp⟩ := hp
  refine W.widen (k := 6) (n := 5208) (by decide) (by decide) ?_
  have hE := hE.trans hX_S_30
  have hK_a0 : sK S_30 a0 = 14 := (hX_S_30.2 a0 hL_a0).1.trans hK_a0
  have hL_a0 : wM D S_30 a0 := hX_S_30.M hL_a0
  have hK_a1 : sK S_30 a1 = 5 := (hX_S_30.2 a1 hL_a1).1.trans hK_a1
  have hL_a1 : wM D S_30 a1 := hX_S_30.M hL_a1
  have hK_a2 : sK S_30 a2 = 13 := (hX_S_30.2 a2 hL_a2).1.trans hK_a2
  have hL_a2 : wM D S_30 a2 := hX_S_30.M hL_a2
  have hK_y_27 : sK S_30 y_27 = 12 := (hX_S_30.2 y_27 hL_y_27).1.trans hK_y_27
  have hL_y_27 : wM D S_30 y_27 := hX_S_30.M hL_y_27
  refine w_putRF (k := 14) (f := 6) (T := TX9) (g := (some y_27)) F hK hW hL_a0 hK_a0 (by decide) (by decide) rfl rfl (by decide) i_14 tyX9 tyX9_ok nmX9 k_47 rfl rfl hin rfl (ty := (.object "OpeningsCabinet$Position")) rfl (v_narrow _ _) (v_fitsO _ _) dX9_init_84 (fun H locs hW => ?_)
  obtain ⟨S_31, eS_31⟩ : ∃ z : wS, z = uR S_30 a0 6 (some y_27) := ⟨_, rfl⟩
  rw [← eS_31] at hW
  replace hp := hp S_31 eS_31
  have hX_S_31 : wX D S_30 S_31 := by rw [eS_31]; exact wX_uR
  have hE := hE.trans hX_S_31
  have hK_a0 : sK S_31 a0 = 14 := (hX_S_31.2 a0 hL_a0).1.trans hK_a0
  have hL_a0 : wM D S_31 a0 := hX_S_31.M hL_a0
  have hK_a1 : sK S_31 a1 = 5 := (hX_S_31.2 a1 hL_a1).1.trans hK_a1
  have hL_a1 : wM D S_31 a1 := hX_S_31.M hL_a1
  have hK_a2 : sK S_31 a2 = 13 := (hX_S_31.2 a2 hL_a2).1.trans hK_a2
  have hL_a2 : wM D S_31 a2 := hX_S_31.M hL_a2
  exact w_vret hx hb hr hlocks hW ⟨hE, hp⟩ dX9_init_87
set_option maxHeartbeats 4000000 in
set_option maxRecDepth 100000 in
theorem c_X9_init (l : Launch) {D : wD} {cy : Nat → ClassId} {X : va_W} {S0 : wS} {post : wS → Prop} {a0 : Nat} {a1 : Nat} {a2 : Nat} (hL_a0 : wM D S0 a0) (hK_a0 : sK S0 a0 = 14) (hL_a1 : wM D S0 a1) (hK_a1 : sK S0 a1 = 5) (hL_a2 : wM D S0 a2) (hK_a2 : sK S0 a2 = 13) (hp : wp_X9_init D post S0 a0 a1 a2) : mV D cy X l yX9_init wz_X9_init r_X9_init [.ref a0, .ref a1, .ref a2] S0 (fun S9 => wX D S0 S9 ∧ post S9) := by
  intro sz
  refine Met.ofW (cc := cX9_init) (maxL := 3) (ret := none) (by decide) rfl ?_
  intro p e s m args below meth c s₁ B hml hv
  obtain ⟨rfl, hsz, hP, hK, hD0, hRO⟩ := hv
  have hts := atoms_spec (ws := wz_X9_init) B.pre
  have hown : s.vm.findClass RX9 = some m.cls := findClass_of_methodNamed B.named
  subst hsz
  have hD := hD0.self (sz := s.heap.size)
  have F : CallFix p m c cX9_init 3 s _ wz_X9_init RX9 := ⟨B.exec, B.bytes, hml, hown, hts⟩
  have hr := B.returns
  have hlocks := B.notSynchronized
  have hin : meth.name = "<init>" := (name_of_methodNamed B.named B.method).1
  generalize hAe : va_A (wL cy X S0) s.heap.size = A at hD hK ⊢
  have hA : ∀ q, s.heap.size ≤ q → A q := fun q h => by rw [← hAe]; exact Or.inr h
  have hW : wO D cy X A s.heap S0 s.heap [] := ⟨hP, hD, va_S.rf, hA, hRO⟩
  have hl := lv_entry ([.ref a0, .ref a1, .ref a2]) (n := 3) (Nat.le_of_ble_eq_true rfl)
  rw [lg_entry_eq]
  generalize (lg_sl ([.ref a0, .ref a1, .ref a2]) ++ List.replicate (3 - (lg_sl ([.ref a0, .ref a1, .ref a2])).length) Slot.unset).toArray = ls at hl ⊢
  have hl : lv_has ls 3 [(0, .ref a0), (1, .ref a1), (2, .ref a2)] := hl
  unfold wp_X9_init at hp
  exact t_X9_init_0 F hr hlocks hK hin hp hW wX.rf (lv_sub hl [0, 1, 2] rfl) hL_a0 hK_a0 hL_a1 hK_a1 hL_a2 hK_a2
set_option maxRecDepth 100000 in
def wp_X11_init_0 (D : wD) (post : wS → Prop)  (bc bs : Nat) (S : wS) (a0 : Nat) : Prop :=
1 ≤ bc ∧ 12 ≤ bs ∧
∀ y_1 : Nat, ¬ wM D S y_1 → ∀ S_2 : wS, S_2 = nA S y_1 5 0 →
8 ≤ (bc - 1) ∧ 960 ≤ (bs - 12) ∧
wp_X0_init D (fun S_5 => 
∀ S_7 : wS, S_7 = uR S_5 a0 0 (some y_1) →
1 ≤ ((bc - 1) - 8) ∧ 6 ≤ ((bs - 12) - 960) ∧
∀ y_8 : Nat, ¬ wM D S_7 y_8 → ∀ S_9 : wS, S_9 = nA S_7 y_8 13 0 →
∃ y_11 : Nat, sR S_9 a0 0 = some y_11 ∧ wM D S_9 y_11 ∧ sK S_9 y_11 = 5 ∧
wp_X8_init D (fun S_13 => 
∀ S_14 : wS, S_14 = uR S_13 a0 1 (some y_8) →
1 ≤ (((bc - 1) - 8) - 1) ∧ 8 ≤ (((bs - 12) - 960) - 6) ∧
∀ y_15 : Nat, ¬ wM D S_14 y_15 → ∀ S_16 : wS, S_16 = nA S_14 y_15 12 0 →
∃ y_18 : Nat, sR S_16 a0 0 = some y_18 ∧ wM D S_16 y_18 ∧ sK S_16 y_18 = 5 ∧
wp_X7_init D (fun S_20 => 
∀ S_21 : wS, S_21 = uR S_20 a0 2 (some y_15) →
1 ≤ ((((bc - 1) - 8) - 1) - 1) ∧ 8 ≤ ((((bs - 12) - 960) - 6) - 8) ∧
∀ y_22 : Nat, ¬ wM D S_21 y_22 → ∀ S_23 : wS, S_23 = nA S_21 y_22 12 0 →
∃ y_25 : Nat, sR S_23 a0 0 = some y_25 ∧ wM D S_23 y_25 ∧ sK S_23 y_25 = 5 ∧
wp_X7_init D (fun S_27 => 
∀ S_28 : wS, S_28 = uR S_27 a0 3 (some y_22) →
1 ≤ (((((bc - 1) - 8) - 1) - 1) - 1) ∧ 9 ≤ (((((bs - 12) - 960) - 6) - 8) - 8) ∧
∀ y_29 : Nat, ¬ wM D S_28 y_29 → ∀ S_30 : wS, S_30 = nA S_28 y_29 8 0 →
∃ m_34 z_35 : Nat, m_34 ≤ ((((((bc - 1) - 8) - 1) - 1) - 1) - 1) ∧ z_35 ≤ ((((((bs - 12) - 960) - 6) - 8) - 8) - 9) ∧
wp_X3_init D (fun S_33 => 
∀ S_36 : wS, S_36 = uR S_33 a0 4 (some y_29) →
1 ≤ (((((((bc - 1) - 8) - 1) - 1) - 1) - 1) - m_34) ∧ 8 ≤ (((((((bs - 12) - 960) - 6) - 8) - 8) - 9) - z_35) ∧
∀ y_37 : Nat, ¬ wM D S_36 y_37 → ∀ S_38 : wS, S_38 = nA S_36 y_37 9 0 →
∃ y_40 : Nat, sR S_38 a0 0 = some y_40 ∧ wM D S_38 y_40 ∧ sK S_38 y_40 = 5 ∧
∃ y_41 : Nat, sR S_38 a0 1 = some y_41 ∧ wM D S_38 y_41 ∧ sK S_38 y_41 = 13 ∧
4 ≤ ((((((((bc - 1) - 8) - 1) - 1) - 1) - 1) - m_34) - 1) ∧ 3472 ≤ ((((((((bs - 12) - 960) - 6) - 8) - 8) - 9) - z_35) - 8) ∧
wp_X4_init D (fun S_43 => 
∀ S_45 : wS, S_45 = uR S_43 a0 5 (some y_37) →
1 ≤ (((((((((bc - 1) - 8) - 1) - 1) - 1) - 1) - m_34) - 1) - 4) ∧ 11 ≤ (((((((((bs - 12) - 960) - 6) - 8) - 8) - 9) - z_35) - 8) - 3472) ∧
∀ y_46 : Nat, ¬ wM D S_45 y_46 → ∀ S_47 : wS, S_47 = nA S_45 y_46 10 0 →
∃ y_49 : Nat, sR S_47 a0 0 = some y_49 ∧ wM D S_47 y_49 ∧ sK S_47 y_49 = 5 ∧
∃ y_50 : Nat, sR S_47 a0 5 = some y_50 ∧ wM D S_47 y_50 ∧ sK S_47 y_50 = 9 ∧
5 ≤ ((((((((((bc - 1) - 8) - 1) - 1) - 1) - 1) - m_34) - 1) - 4) - 1) ∧ 143 ≤ ((((((((((bs - 12) - 960) - 6) - 8) - 8) - 9) - z_35) - 8) - 3472) - 11) ∧
wp_X5_init D (fun S_52 => 
∀ S_54 : wS, S_54 = uR S_52 a0 6 (some y_46) →
1 ≤ (((((((((((bc - 1) - 8) - 1) - 1) - 1) - 1) - m_34) - 1) - 4) - 1) - 5) ∧ 3 ≤ (((((((((((bs - 12) - 960) - 6) - 8) - 8) - 9) - z_35) - 8) - 3472) - 11) - 143) ∧
∀ y_55 : Nat, ¬ wM D S_54 y_55 → ∀ S_56 : wS, S_56 = nA S_54 y_55 11 0 →
∃ y_58 : Nat, sR S_56 a0 0 = some y_58 ∧ wM D S_56 y_58 ∧ sK S_56 y_58 = 5 ∧
∃ m_61 z_62 : Nat, m_61 ≤ ((((((((((((bc - 1) - 8) - 1) - 1) - 1) - 1) - m_34) - 1) - 4) - 1) - 5) - 1) ∧ z_62 ≤ ((((((((((((bs - 12) - 960) - 6) - 8) - 8) - 9) - z_35) - 8) - 3472) - 11) - 143) - 3) ∧
wp_X6_init D (fun S_60 => 
∀ S_63 : wS, S_63 = uR S_60 a0 7 (some y_55) →
1 ≤ (((((((((((((bc - 1) - 8) - 1) - 1) - 1) - 1) - m_34) - 1) - 4) - 1) - 5) - 1) - m_61) ∧ 1 ≤ (((((((((((((bs - 12) - 960) - 6) - 8) - 8) - 9) - z_35) - 8) - 3472) - 11) - 143) - 3) - z_62) ∧
∀ y_64 : Nat, ¬ wM D S_63 y_64 → ∀ S_65 : wS, S_65 = nA S_63 y_64 15 0 →
1 ≤ ((((((((((((((bc - 1) - 8) - 1) - 1) - 1) - 1) - m_34) - 1) - 4) - 1) - 5) - 1) - m_61) - 1) ∧ 3 ≤ ((((((((((((((bs - 12) - 960) - 6) - 8) - 8) - 9) - z_35) - 8) - 3472) - 11) - 143) - 3) - z_62) - 1) ∧
wp_X10_init D (fun S_68 => 
∀ S_70 : wS, S_70 = uR S_68 a0 8 (some y_64) →
1 ≤ (((((((((((((((bc - 1) - 8) - 1) - 1) - 1) - 1) - m_34) - 1) - 4) - 1) - 5) - 1) - m_61) - 1) - 1) ∧ 1 ≤ (((((((((((((((bs - 12) - 960) - 6) - 8) - 8) - 9) - z_35) - 8) - 3472) - 11) - 143) - 3) - z_62) - 1) - 3) ∧
∀ y_71 : Nat, ¬ wM D S_70 y_71 → ∀ S_72 : wS, S_72 = nA S_70 y_71 15 0 →
1 ≤ ((((((((((((((((bc - 1) - 8) - 1) - 1) - 1) - 1) - m_34) - 1) - 4) - 1) - 5) - 1) - m_61) - 1) - 1) - 1) ∧ 3 ≤ ((((((((((((((((bs - 12) - 960) - 6) - 8) - 8) - 9) - z_35) - 8) - 3472) - 11) - 143) - 3) - z_62) - 1) - 3) - 1) ∧
wp_X10_init D (fun S_75 => 
∀ S_77 : wS, S_77 = uR S_75 a0 9 (some y_71) →
1 ≤ (((((((((((((((((bc - 1) - 8) - 1) - 1) - 1) - 1) - m_34) - 1) - 4) - 1) - 5) - 1) - m_61) - 1) - 1) - 1) - 1) ∧ 4 ≤ (((((((((((((((((bs - 12) - 960) - 6) - 8) - 8) - 9) - z_35) - 8) - 3472) - 11) - 143) - 3) - z_62) - 1) - 3) - 1) - 3) ∧
∀ y_78 : Nat, ¬ wM D S_77 y_78 → ∀ S_79 : wS, S_79 = nA S_77 y_78 6 0 →
∃ y_81 : Nat, sR S_79 a0 5 = some y_81 ∧ wM D S_79 y_81 ∧ sK S_79 y_81 = 9 ∧
3 ≤ ((((((((((((((((((bc - 1) - 8) - 1) - 1) - 1) - 1) - m_34) - 1) - 4) - 1) - 5) - 1) - m_61) - 1) - 1) - 1) - 1) - 1) ∧ 5184 ≤ ((((((((((((((((((bs - 12) - 960) - 6) - 8) - 8) - 9) - z_35) - 8) - 3472) - 11) - 143) - 3) - z_62) - 1) - 3) - 1) - 3) - 4) ∧
wp_X1_init D (fun S_83 => 
∀ S_85 : wS, S_85 = uR S_83 a0 10 (some y_78) →
1 ≤ (((((((((((((((((((bc - 1) - 8) - 1) - 1) - 1) - 1) - m_34) - 1) - 4) - 1) - 5) - 1) - m_61) - 1) - 1) - 1) - 1) - 1) - 3) ∧ 10 ≤ (((((((((((((((((((bs - 12) - 960) - 6) - 8) - 8) - 9) - z_35) - 8) - 3472) - 11) - 143) - 3) - z_62) - 1) - 3) - 1) - 3) - 4) - 5184) ∧
∀ y_86 : Nat, ¬ wM D S_85 y_86 → ∀ S_87 : wS, S_87 = nA S_85 y_86 14 0 →
∃ y_89 : Nat, sR S_87 a0 0 = some y_89 ∧ wM D S_87 y_89 ∧ sK S_87 y_89 = 5 ∧
∃ y_90 : Nat, sR S_87 a0 1 = some y_90 ∧ wM D S_87 y_90 ∧ sK S_87 y_90 = 13 ∧
6 ≤ ((((((((((((((((((((bc - 1) - 8) - 1) - 1) - 1) - 1) - m_34) - 1) - 4) - 1) - 5) - 1) - m_61) - 1) - 1) - 1) - 1) - 1) - 3) - 1) ∧ 5208 ≤ ((((((((((((((((((((bs - 12) - 960) - 6) - 8) - 8) - 9) - z_35) - 8) - 3472) - 11) - 143) - 3) - z_62) - 1) - 3) - 1) - 3) - 4) - 5184) - 10) ∧
wp_X9_init D (fun S_92 => 
∀ S_94 : wS, S_94 = uR S_92 a0 11 (some y_86) →
1 ≤ (((((((((((((((((((((bc - 1) - 8) - 1) - 1) - 1) - 1) - m_34) - 1) - 4) - 1) - 5) - 1) - m_61) - 1) - 1) - 1) - 1) - 1) - 3) - 1) - 6) ∧ 8 ≤ (((((((((((((((((((((bs - 12) - 960) - 6) - 8) - 8) - 9) - z_35) - 8) - 3472) - 11) - 143) - 3) - z_62) - 1) - 3) - 1) - 3) - 4) - 5184) - 10) - 5208) ∧
∀ y_95 : Nat, ¬ wM D S_94 y_95 → ∀ S_96 : wS, S_96 = nA S_94 y_95 7 0 →
∃ y_98 : Nat, sR S_96 a0 0 = some y_98 ∧ wM D S_96 y_98 ∧ sK S_96 y_98 = 5 ∧
6 ≤ ((((((((((((((((((((((bc - 1) - 8) - 1) - 1) - 1) - 1) - m_34) - 1) - 4) - 1) - 5) - 1) - m_61) - 1) - 1) - 1) - 1) - 1) - 3) - 1) - 6) - 1) ∧ 18 ≤ ((((((((((((((((((((((bs - 12) - 960) - 6) - 8) - 8) - 9) - z_35) - 8) - 3472) - 11) - 143) - 3) - z_62) - 1) - 3) - 1) - 3) - 4) - 5184) - 10) - 5208) - 8) ∧
wp_X2_init D (fun S_100 => 
∀ S_102 : wS, S_102 = uR S_100 a0 12 (some y_95) →
1 ≤ (((((((((((((((((((((((bc - 1) - 8) - 1) - 1) - 1) - 1) - m_34) - 1) - 4) - 1) - 5) - 1) - m_61) - 1) - 1) - 1) - 1) - 1) - 3) - 1) - 6) - 1) - 6) ∧ 4 ≤ (((((((((((((((((((((((bs - 12) - 960) - 6) - 8) - 8) - 9) - z_35) - 8) - 3472) - 11) - 143) - 3) - z_62) - 1) - 3) - 1) - 3) - 4) - 5184) - 10) - 5208) - 8) - 18) ∧
∀ y_103 : Nat, ¬ wM D S_102 y_103 → ∀ S_104 : wS, S_104 = nA S_102 y_103 1 0 →
∃ m_108 z_109 : Nat, m_108 ≤ ((((((((((((((((((((((((bc - 1) - 8) - 1) - 1) - 1) - 1) - m_34) - 1) - 4) - 1) - 5) - 1) - m_61) - 1) - 1) - 1) - 1) - 1) - 3) - 1) - 6) - 1) - 6) - 1) ∧ z_109 ≤ ((((((((((((((((((((((((bs - 12) - 960) - 6) - 8) - 8) - 9) - z_35) - 8) - 3472) - 11) - 143) - 3) - z_62) - 1) - 3) - 1) - 3) - 4) - 5184) - 10) - 5208) - 8) - 18) - 4) ∧
wp_J4_init_da8c8 D (fun S_107 => 
∀ S_110 : wS, S_110 = uR S_107 a0 13 (some y_103) →
1 ≤ (((((((((((((((((((((((((bc - 1) - 8) - 1) - 1) - 1) - 1) - m_34) - 1) - 4) - 1) - 5) - 1) - m_61) - 1) - 1) - 1) - 1) - 1) - 3) - 1) - 6) - 1) - 6) - 1) - m_108) ∧ 4 ≤ (((((((((((((((((((((((((bs - 12) - 960) - 6) - 8) - 8) - 9) - z_35) - 8) - 3472) - 11) - 143) - 3) - z_62) - 1) - 3) - 1) - 3) - 4) - 5184) - 10) - 5208) - 8) - 18) - 4) - z_109) ∧
∀ y_111 : Nat, ¬ wM D S_110 y_111 → ∀ S_112 : wS, S_112 = nA S_110 y_111 1 0 →
∃ m_116 z_117 : Nat, m_116 ≤ ((((((((((((((((((((((((((bc - 1) - 8) - 1) - 1) - 1) - 1) - m_34) - 1) - 4) - 1) - 5) - 1) - m_61) - 1) - 1) - 1) - 1) - 1) - 3) - 1) - 6) - 1) - 6) - 1) - m_108) - 1) ∧ z_117 ≤ ((((((((((((((((((((((((((bs - 12) - 960) - 6) - 8) - 8) - 9) - z_35) - 8) - 3472) - 11) - 143) - 3) - z_62) - 1) - 3) - 1) - 3) - 4) - 5184) - 10) - 5208) - 8) - 18) - 4) - z_109) - 4) ∧
wp_J4_init_da8c8 D (fun S_115 => 
∀ S_118 : wS, S_118 = uR S_115 a0 14 (some y_111) →
¬ (64 : Int32) < 0 ∧ ((64 : Int32)).toNatClampNeg ≤ 1000000 ∧ 1 ≤ (((((((((((((((((((((((((((bc - 1) - 8) - 1) - 1) - 1) - 1) - m_34) - 1) - 4) - 1) - 5) - 1) - m_61) - 1) - 1) - 1) - 1) - 1) - 3) - 1) - 6) - 1) - 6) - 1) - m_108) - 1) - m_116) ∧ ((64 : Int32)).toNatClampNeg ≤ (((((((((((((((((((((((((((bs - 12) - 960) - 6) - 8) - 8) - 9) - z_35) - 8) - 3472) - 11) - 143) - 3) - z_62) - 1) - 3) - 1) - 3) - 4) - 5184) - 10) - 5208) - 8) - 18) - 4) - z_109) - 4) - z_117) ∧ ∀ y_119 : Nat, ¬ wM D S_118 y_119 → ∀ S_120 : wS, S_120 = nA S_118 y_119 21 ((64 : Int32)).toNatClampNeg →
∀ S_122 : wS, S_122 = uR S_120 a0 15 (some y_119) →
∀ S_123 : wS, S_123 = uI S_122 a0 16 (0 : Int32) →
∀ S_124 : wS, S_124 = uI S_123 a0 17 (0 : Int32) →
∃ y_125 : Nat, sR S_124 a0 0 = some y_125 ∧ wM D S_124 y_125 ∧ sK S_124 y_125 = 5 ∧
wp_X0_lay D (fun S_127 => 
∃ y_128 : Nat, sR S_127 a0 2 = some y_128 ∧ wM D S_127 y_128 ∧ sK S_127 y_128 = 12 ∧
wp_X7_setUpUsual D (fun S_130 => 
∃ y_131 : Nat, sR S_130 a0 4 = some y_131 ∧ wM D S_130 y_131 ∧ sK S_130 y_131 = 8 ∧
∃ y_132 : Nat, sR S_130 a0 2 = some y_132 ∧ wM D S_130 y_132 ∧ sK S_130 y_132 = 12 ∧
wp_X3_begin D (fun S_134 => 
∃ y_135 : Nat, sR S_134 a0 15 = some y_135 ∧ wM D S_134 y_135 ∧ sK S_134 y_135 = 21 ∧
wp_J7_fill_53178 D (fun S_137 => 
post S_137) S_134 y_135 (15 : Int32)) S_130 y_131 y_132) S_127 y_128) S_124 y_125 (8 : Int32) (8 : Int32)) m_116 z_117 S_112 y_111) m_108 z_109 S_104 y_103) S_96 y_95 y_98) S_87 y_86 y_89 y_90) S_79 y_78 y_81) S_72 y_71) S_65 y_64) m_61 z_62 S_56 y_55 y_58) S_47 y_46 y_49 y_50) S_38 y_37 y_40 y_41) m_34 z_35 S_30 y_29 (80 : Int32)) S_23 y_22 y_25) S_16 y_15 y_18) S_9 y_8 y_11) S_2 y_1
abbrev r_X11_init (rC rS : Nat) : Room := { frames := 8, cells := rC, slots := rS, locals := 182 }
def wp_X11_init (D : wD) (post : wS → Prop) (bc bs : Nat) (S : wS) (a0 : Nat) : Prop := wp_X11_init_0 D post bc bs S a0
set_option maxHeartbeats 4000000 in
set_option maxRecDepth 100000 in
theorem t_X11_init_0 {p : Program} {l : Launch} {e : Env} {s : State} {m : MethodId} {args : Array Value} {below : List Frame} {meth : Method} {c : Code} {D : wD} {cy : Nat → ClassId} {X : va_W} {A : Nat → Prop} {S0 : wS} {rC rS : Nat} {post : wS → Prop} (F : CallFix p m c cX11_init 1 s args wz_X11_init RX11) (hr : meth.sig.returnType = none) (hlocks : meth.locks = false) (hK : wK D cy A s) (hin : meth.name = "<init>") : ∀ {bc bs cells slots : Nat} (hbc : cells + bc ≤ rC) (hbs : slots + bs ≤ rS) {S : wS} {H : Heap} {locs : List Loc} {ls : Array Slot} {a0 : Nat}, wp_X11_init_0 D post bc bs S a0 → wO D cy X A s.heap S H locs → wX D S0 S → lv_has ls 1 [(0, .ref a0)] → wM D S a0 → sK S a0 = 16 → W p l e (r_X11_init rC rS) s m args below meth c H locs cells slots (MQ below (va_Qv (fun S9 => wX D S0 S9 ∧ post S9) (wB D cy X A) A) args s rC rS A) (F0 m 0 ls []) := by
  obtain ⟨hx, hb, hml, hown, hts⟩ := id F
  have hwg : ∀ w ∈ WG, w.before args s = true := fun w h => hts w (List.mem_cons_of_mem _ h)
  have i_16 : ∀ w ∈ u_ws RX11 TX11 18, w ∈ wz_X11_init := fun w h => List.mem_cons_of_mem _ (wu_16 w h)
  have k_105 := hwg _ wf_RX11_105
  have k_109 := hwg _ wf_RX11_109
  have k_112 := hwg _ wf_RX11_112
  have k_116 := hwg _ wf_RX11_116
  have k_12 := hwg _ wf_RX11_12
  have k_120 := hwg _ wf_RX11_120
  have k_21 := hwg _ wf_RX11_21
  have k_28 := hwg _ wf_RX11_28
  have k_32 := hwg _ wf_RX11_32
  have k_40 := hwg _ wf_RX11_40
  have k_49 := hwg _ wf_RX11_49
  have k_58 := hwg _ wf_RX11_58
  have k_65 := hwg _ wf_RX11_65
  have k_72 := hwg _ wf_RX11_72
  have k_76 := hwg _ wf_RX11_76
  have k_84 := hwg _ wf_RX11_84
  have k_91 := hwg _ wf_RX11_91
  have k_98 := hwg _ wf_RX11_98
  intro bc bs cells slots hbc hbs S H locs ls a0 hp hW hE hl hL_a0 hK_a0
  unfold wp_X11_init_0 at hp
  refine lv_aload_n hx hb dX11_init_0 rfl (lv_at hl 0 rfl) ?_
  refine W.objInit hx hb hown (hwg _ wm_RX11_3) (hwg _ wobj.1) (hwg _ wobj.2) rfl (by rw [hml]; exact hl.1) rfl dX11_init_1 (Nat.le_of_ble_eq_true rfl) (Nat.le_of_ble_eq_true rfl) ?_
  refine W.eq (g2 := F0 m 4 ls []) rfl ?_
  refine lv_aload_n hx hb dX11_init_4 rfl (lv_at hl 0 rfl) ?_
  obtain ⟨h_3, h_3b, hp⟩ := hp
  refine w_new (k := 5) (T := TX0) F hK hW rfl (by decide) (fun w h => List.mem_cons_of_mem _ (wu_5 w h)) tyX0 tyX0_ok (hwg _ wc_RX11_9) (hwg _ wn_5) (hwg _ wi_OpeningsCabinet_Board) wdef_5 (by show _ ≤ rC; omega) (by show _ ≤ rS; omega) dX11_init_5 (fun y_1 H hq_y_1 hW => ?_)
  replace hbc := w_spend hbc (show 1 ≤ bc by omega)
  replace hbs := w_spend hbs (show 12 ≤ bs by omega)
  obtain ⟨S_2, eS_2⟩ : ∃ z : wS, z = nA S y_1 5 0 := ⟨_, rfl⟩
  rw [← eS_2] at hW
  replace hp := hp y_1 hq_y_1 S_2 eS_2
  have hX_S_2 : wX D S S_2 := by rw [eS_2]; exact wX_nA hq_y_1
  have hE := hE.trans hX_S_2
  have hK_a0 : sK S_2 a0 = 16 := (hX_S_2.2 a0 hL_a0).1.trans hK_a0
  have hL_a0 : wM D S_2 a0 := hX_S_2.M hL_a0
  have hL_y_1 : wM D S_2 y_1 := by rw [eS_2]; exact Or.inl (List.mem_append_right _ List.mem_cons_self)
  have hK_y_1 : sK S_2 y_1 = 5 := by rw [eS_2]; exact va_up_self _ _ _
  refine lv_dup hx hb dX11_init_8 rfl ?_
  obtain ⟨h_6, h_6z, hp⟩ := hp
  refine w_callV (va_runIN (As := []) (rest := [.ref y_1, .ref a0]) F (c_X0_init l hL_y_1 hK_y_1 hp H.size) ⟨va_cnB (host := "OpeningsCabinet") 0 hts (wg_cons wy_X0_init.2.2) rfl rfl rfl (hK.2.1 (.methodLinkNest "OpeningsCabinet" 11 ⟨"OpeningsCabinet$Board", "<init>", "()V"⟩ "OpeningsCabinet") (by decide +kernel)) (hwg _ wy_X0_init.2.1) ⟨by decide, by decide, by decide +kernel⟩ ⟨Nat.le_of_ble_eq_true rfl, Nat.le_of_ble_eq_true rfl⟩, rfl, hwg _ wy_X0_init.1⟩ (w_preS hK hW) rfl rfl hl.1 rfl (lv_room (Nat.le_of_ble_eq_true rfl)) dX11_init_9 ⟨by show _ + 8 ≤ rC; omega, by show _ + 960 ≤ rS; omega⟩) hW (fun S_5 H locs hp hW => ?_)
  obtain ⟨hX_S_5, hp⟩ := hp
  refine W.widen (k := _ + 8) (n := _ + 960) (Nat.le_refl _) (Nat.le_refl _) ?_
  replace hbc := w_spend hbc (show 8 ≤ (bc - 1) by omega)
  replace hbs := w_spend hbs (show 960 ≤ (bs - 12) by omega)
  have hE := hE.trans hX_S_5
  have hK_a0 : sK S_5 a0 = 16 := (hX_S_5.2 a0 hL_a0).1.trans hK_a0
  have hL_a0 : wM D S_5 a0 := hX_S_5.M hL_a0
  have hK_y_1 : sK S_5 y_1 = 5 := (hX_S_5.2 y_1 hL_y_1).1.trans hK_y_1
  have hL_y_1 : wM D S_5 y_1 := hX_S_5.M hL_y_1
  refine w_putRF (k := 16) (f := 0) (T := TX11) (g := (some y_1)) F hK hW hL_a0 hK_a0 (by decide) (by decide) rfl rfl (by decide) i_16 tyX11 tyX11_ok nmX11 k_12 rfl rfl hin rfl (ty := (.object "OpeningsCabinet$Board")) rfl (v_narrow _ _) (v_fitsO _ _) dX11_init_12 (fun H locs hW => ?_)
  obtain ⟨S_7, eS_7⟩ : ∃ z : wS, z = uR S_5 a0 0 (some y_1) := ⟨_, rfl⟩
  rw [← eS_7] at hW
  replace hp := hp S_7 eS_7
  have hX_S_7 : wX D S_5 S_7 := by rw [eS_7]; exact wX_uR
  have hE := hE.trans hX_S_7
  have hK_a0 : sK S_7 a0 = 16 := (hX_S_7.2 a0 hL_a0).1.trans hK_a0
  have hL_a0 : wM D S_7 a0 := hX_S_7.M hL_a0
  refine lv_aload_n hx hb dX11_init_15 rfl (lv_at hl 0 rfl) ?_
  obtain ⟨h_10, h_10b, hp⟩ := hp
  refine w_new (k := 13) (T := TX8) F hK hW rfl (by decide) (fun w h => List.mem_cons_of_mem _ (wu_13 w h)) tyX8 tyX8_ok (hwg _ wc_RX11_16) (hwg _ wn_13) (hwg _ wi_OpeningsCabinet_Rules) wdef_13 (by show _ ≤ rC; omega) (by show _ ≤ rS; omega) dX11_init_16 (fun y_8 H hq_y_8 hW => ?_)
  replace hbc := w_spend hbc (show 1 ≤ ((bc - 1) - 8) by omega)
  replace hbs := w_spend hbs (show 6 ≤ ((bs - 12) - 960) by omega)
  obtain ⟨S_9, eS_9⟩ : ∃ z : wS, z = nA S_7 y_8 13 0 := ⟨_, rfl⟩
  rw [← eS_9] at hW
  replace hp := hp y_8 hq_y_8 S_9 eS_9
  have hX_S_9 : wX D S_7 S_9 := by rw [eS_9]; exact wX_nA hq_y_8
  have hE := hE.trans hX_S_9
  have hK_a0 : sK S_9 a0 = 16 := (hX_S_9.2 a0 hL_a0).1.trans hK_a0
  have hL_a0 : wM D S_9 a0 := hX_S_9.M hL_a0
  have hL_y_8 : wM D S_9 y_8 := by rw [eS_9]; exact Or.inl (List.mem_append_right _ List.mem_cons_self)
  have hK_y_8 : sK S_9 y_8 = 13 := by rw [eS_9]; exact va_up_self _ _ _
  refine lv_dup hx hb dX11_init_19 rfl ?_
  refine lv_aload_n hx hb dX11_init_20 rfl (lv_at hl 0 rfl) ?_
  obtain ⟨y_11, ey_11, hL_y_11, hK_y_11, hp⟩ := hp
  refine w_get (k := 16) (f := 0) (T := TX11) (v := .ref y_11) F hK hW hL_a0 hK_a0 (by decide) rfl rfl (by decide) i_16 k_12 (by rw [show wv 16 0 S_9 a0 = va_rf (sR S_9 a0 0) from rfl, ey_11]; rfl) dX11_init_21 ?_
  refine w_callV (va_runI (As := [.ref y_11]) (rest := [.ref y_8, .ref a0]) F (c_X8_init l hL_y_8 hK_y_8 hL_y_11 hK_y_11 hp H.size) (cwI 1 hts (wg_cons wy_X8_init.2.2) rfl rfl rfl (hwg _ wy_X8_init.2.1) (hwg _ wm_RX11_18) (hwg _ wy_X8_init.1) rfl (by decide +kernel) ⟨Nat.le_of_ble_eq_true rfl, Nat.le_of_ble_eq_true rfl⟩) (w_preS hK hW) rfl rfl hl.1 rfl (lv_room (Nat.le_of_ble_eq_true rfl)) dX11_init_24 ⟨by show _ ≤ rC; exact Nat.le_trans (Nat.le_add_right _ _) hbc, by show _ ≤ rS; exact Nat.le_trans (Nat.le_add_right _ _) hbs⟩) hW (fun S_13 H locs hp hW => ?_)
  obtain ⟨hX_S_13, hp⟩ := hp
  refine w_same ?_
  have hE := hE.trans hX_S_13
  have hK_a0 : sK S_13 a0 = 16 := (hX_S_13.2 a0 hL_a0).1.trans hK_a0
  have hL_a0 : wM D S_13 a0 := hX_S_13.M hL_a0
  have hK_y_8 : sK S_13 y_8 = 13 := (hX_S_13.2 y_8 hL_y_8).1.trans hK_y_8
  have hL_y_8 : wM D S_13 y_8 := hX_S_13.M hL_y_8
  refine w_putRF (k := 16) (f := 1) (T := TX11) (g := (some y_8)) F hK hW hL_a0 hK_a0 (by decide) (by decide) rfl rfl (by decide) i_16 tyX11 tyX11_ok nmX11 k_21 rfl rfl hin rfl (ty := (.object "OpeningsCabinet$Rules")) rfl (v_narrow _ _) (v_fitsO _ _) dX11_init_27 (fun H locs hW => ?_)
  obtain ⟨S_14, eS_14⟩ : ∃ z : wS, z = uR S_13 a0 1 (some y_8) := ⟨_, rfl⟩
  rw [← eS_14] at hW
  replace hp := hp S_14 eS_14
  have hX_S_14 : wX D S_13 S_14 := by rw [eS_14]; exact wX_uR
  have hE := hE.trans hX_S_14
  have hK_a0 : sK S_14 a0 = 16 := (hX_S_14.2 a0 hL_a0).1.trans hK_a0
  have hL_a0 : wM D S_14 a0 := hX_S_14.M hL_a0
  refine lv_aload_n hx hb dX11_init_30 rfl (lv_at hl 0 rfl) ?_
  obtain ⟨h_17, h_17b, hp⟩ := hp
  refine w_new (k := 12) (T := TX7) F hK hW rfl (by decide) (fun w h => List.mem_cons_of_mem _ (wu_12 w h)) tyX7 tyX7_ok (hwg _ wc_RX11_25) (hwg _ wn_12) (hwg _ wi_OpeningsCabinet_Position) wdef_12 (by show _ ≤ rC; omega) (by show _ ≤ rS; omega) dX11_init_31 (fun y_15 H hq_y_15 hW => ?_)
  replace hbc := w_spend hbc (show 1 ≤ (((bc - 1) - 8) - 1) by omega)
  replace hbs := w_spend hbs (show 8 ≤ (((bs - 12) - 960) - 6) by omega)
  obtain ⟨S_16, eS_16⟩ : ∃ z : wS, z = nA S_14 y_15 12 0 := ⟨_, rfl⟩
  rw [← eS_16] at hW
  replace hp := hp y_15 hq_y_15 S_16 eS_16
  have hX_S_16 : wX D S_14 S_16 := by rw [eS_16]; exact wX_nA hq_y_15
  have hE := hE.trans hX_S_16
  have hK_a0 : sK S_16 a0 = 16 := (hX_S_16.2 a0 hL_a0).1.trans hK_a0
  have hL_a0 : wM D S_16 a0 := hX_S_16.M hL_a0
  have hL_y_15 : wM D S_16 y_15 := by rw [eS_16]; exact Or.inl (List.mem_append_right _ List.mem_cons_self)
  have hK_y_15 : sK S_16 y_15 = 12 := by rw [eS_16]; exact va_up_self _ _ _
  refine lv_dup hx hb dX11_init_34 rfl ?_
  refine lv_aload_n hx hb dX11_init_35 rfl (lv_at hl 0 rfl) ?_
  obtain ⟨y_18, ey_18, hL_y_18, hK_y_18, hp⟩ := hp
  refine w_get (k := 16) (f := 0) (T := TX11) (v := .ref y_18) F hK hW hL_a0 hK_a0 (by decide) rfl rfl (by decide) i_16 k_12 (by rw [show wv 16 0 S_16 a0 = va_rf (sR S_16 a0 0) from rfl, ey_18]; rfl) dX11_init_36 ?_
  refine w_callV (va_runI (As := [.ref y_18]) (rest := [.ref y_15, .ref a0]) F (c_X7_init l hL_y_15 hK_y_15 hL_y_18 hK_y_18 hp H.size) (cwI 1 hts (wg_cons wy_X7_init.2.2) rfl rfl rfl (hwg _ wy_X7_init.2.1) (hwg _ wm_RX11_27) (hwg _ wy_X7_init.1) rfl (by decide +kernel) ⟨Nat.le_of_ble_eq_true rfl, Nat.le_of_ble_eq_true rfl⟩) (w_preS hK hW) rfl rfl hl.1 rfl (lv_room (Nat.le_of_ble_eq_true rfl)) dX11_init_39 ⟨by show _ ≤ rC; exact Nat.le_trans (Nat.le_add_right _ _) hbc, by show _ ≤ rS; exact Nat.le_trans (Nat.le_add_right _ _) hbs⟩) hW (fun S_20 H locs hp hW => ?_)
  obtain ⟨hX_S_20, hp⟩ := hp
  refine w_same ?_
  have hE := hE.trans hX_S_20
  have hK_a0 : sK S_20 a0 = 16 := (hX_S_20.2 a0 hL_a0).1.trans hK_a0
  have hL_a0 : wM D S_20 a0 := hX_S_20.M hL_a0
  have hK_y_15 : sK S_20 y_15 = 12 := (hX_S_20.2 y_15 hL_y_15).1.trans hK_y_15
  have hL_y_15 : wM D S_20 y_15 := hX_S_20.M hL_y_15
  refine w_putRF (k := 16) (f := 2) (T := TX11) (g := (some y_15)) F hK hW hL_a0 hK_a0 (by decide) (by decide) rfl rfl (by decide) i_16 tyX11 tyX11_ok nmX11 k_28 rfl rfl hin rfl (ty := (.object "OpeningsCabinet$Position")) rfl (v_narrow _ _) (v_fitsO _ _) dX11_init_42 (fun H locs hW => ?_)
  obtain ⟨S_21, eS_21⟩ : ∃ z : wS, z = uR S_20 a0 2 (some y_15) := ⟨_, rfl⟩
  rw [← eS_21] at hW
  replace hp := hp S_21 eS_21
  have hX_S_21 : wX D S_20 S_21 := by rw [eS_21]; exact wX_uR
  have hE := hE.trans hX_S_21
  have hK_a0 : sK S_21 a0 = 16 := (hX_S_21.2 a0 hL_a0).1.trans hK_a0
  have hL_a0 : wM D S_21 a0 := hX_S_21.M hL_a0
  refine lv_aload_n hx hb dX11_init_45 rfl (lv_at hl 0 rfl) ?_
  obtain ⟨h_24, h_24b, hp⟩ := hp
  refine w_new (k := 12) (T := TX7) F hK hW rfl (by decide) (fun w h => List.mem_cons_of_mem _ (wu_12 w h)) tyX7 tyX7_ok (hwg _ wc_RX11_25) (hwg _ wn_12) (hwg _ wi_OpeningsCabinet_Position) wdef_12 (by show _ ≤ rC; omega) (by show _ ≤ rS; omega) dX11_init_46 (fun y_22 H hq_y_22 hW => ?_)
  replace hbc := w_spend hbc (show 1 ≤ ((((bc - 1) - 8) - 1) - 1) by omega)
  replace hbs := w_spend hbs (show 8 ≤ ((((bs - 12) - 960) - 6) - 8) by omega)
  obtain ⟨S_23, eS_23⟩ : ∃ z : wS, z = nA S_21 y_22 12 0 := ⟨_, rfl⟩
  rw [← eS_23] at hW
  replace hp := hp y_22 hq_y_22 S_23 eS_23
  have hX_S_23 : wX D S_21 S_23 := by rw [eS_23]; exact wX_nA hq_y_22
  have hE := hE.trans hX_S_23
  have hK_a0 : sK S_23 a0 = 16 := (hX_S_23.2 a0 hL_a0).1.trans hK_a0
  have hL_a0 : wM D S_23 a0 := hX_S_23.M hL_a0
  have hL_y_22 : wM D S_23 y_22 := by rw [eS_23]; exact Or.inl (List.mem_append_right _ List.mem_cons_self)
  have hK_y_22 : sK S_23 y_22 = 12 := by rw [eS_23]; exact va_up_self _ _ _
  refine lv_dup hx hb dX11_init_49 rfl ?_
  refine lv_aload_n hx hb dX11_init_50 rfl (lv_at hl 0 rfl) ?_
  obtain ⟨y_25, ey_25, hL_y_25, hK_y_25, hp⟩ := hp
  refine w_get (k := 16) (f := 0) (T := TX11) (v := .ref y_25) F hK hW hL_a0 hK_a0 (by decide) rfl rfl (by decide) i_16 k_12 (by rw [show wv 16 0 S_23 a0 = va_rf (sR S_23 a0 0) from rfl, ey_25]; rfl) dX11_init_51 ?_
  refine w_callV (va_runI (As := [.ref y_25]) (rest := [.ref y_22, .ref a0]) F (c_X7_init l hL_y_22 hK_y_22 hL_y_25 hK_y_25 hp H.size) (cwI 1 hts (wg_cons wy_X7_init.2.2) rfl rfl rfl (hwg _ wy_X7_init.2.1) (hwg _ wm_RX11_27) (hwg _ wy_X7_init.1) rfl (by decide +kernel) ⟨Nat.le_of_ble_eq_true rfl, Nat.le_of_ble_eq_true rfl⟩) (w_preS hK hW) rfl rfl hl.1 rfl (lv_room (Nat.le_of_ble_eq_true rfl)) dX11_init_54 ⟨by show _ ≤ rC; exact Nat.le_trans (Nat.le_add_right _ _) hbc, by show _ ≤ rS; exact Nat.le_trans (Nat.le_add_right _ _) hbs⟩) hW (fun S_27 H locs hp hW => ?_)
  obtain ⟨hX_S_27, hp⟩ := hp
  refine w_same ?_
  have hE := hE.trans hX_S_27
  have hK_a0 : sK S_27 a0 = 16 := (hX_S_27.2 a0 hL_a0).1.trans hK_a0
  have hL_a0 : wM D S_27 a0 := hX_S_27.M hL_a0
  have hK_y_22 : sK S_27 y_22 = 12 := (hX_S_27.2 y_22 hL_y_22).1.trans hK_y_22
  have hL_y_22 : wM D S_27 y_22 := hX_S_27.M hL_y_22
  refine w_putRF (k := 16) (f := 3) (T := TX11) (g := (some y_22)) F hK hW hL_a0 hK_a0 (by decide) (by decide) rfl rfl (by decide) i_16 tyX11 tyX11_ok nmX11 k_32 rfl rfl hin rfl (ty := (.object "OpeningsCabinet$Position")) rfl (v_narrow _ _) (v_fitsO _ _) dX11_init_57 (fun H locs hW => ?_)
  obtain ⟨S_28, eS_28⟩ : ∃ z : wS, z = uR S_27 a0 3 (some y_22) := ⟨_, rfl⟩
  rw [← eS_28] at hW
  replace hp := hp S_28 eS_28
  have hX_S_28 : wX D S_27 S_28 := by rw [eS_28]; exact wX_uR
  have hE := hE.trans hX_S_28
  have hK_a0 : sK S_28 a0 = 16 := (hX_S_28.2 a0 hL_a0).1.trans hK_a0
  have hL_a0 : wM D S_28 a0 := hX_S_28.M hL_a0
  refine lv_aload_n hx hb dX11_init_60 rfl (lv_at hl 0 rfl) ?_
  obtain ⟨h_31, h_31b, hp⟩ := hp
  refine w_new (k := 8) (T := TX3) F hK hW rfl (by decide) (fun w h => List.mem_cons_of_mem _ (wu_8 w h)) tyX3 tyX3_ok (hwg _ wc_RX11_35) (hwg _ wn_8) (hwg _ wi_OpeningsCabinet_Game) wdef_8 (by show _ ≤ rC; omega) (by show _ ≤ rS; omega) dX11_init_61 (fun y_29 H hq_y_29 hW => ?_)
  replace hbc := w_spend hbc (show 1 ≤ (((((bc - 1) - 8) - 1) - 1) - 1) by omega)
  replace hbs := w_spend hbs (show 9 ≤ (((((bs - 12) - 960) - 6) - 8) - 8) by omega)
  obtain ⟨S_30, eS_30⟩ : ∃ z : wS, z = nA S_28 y_29 8 0 := ⟨_, rfl⟩
  rw [← eS_30] at hW
  replace hp := hp y_29 hq_y_29 S_30 eS_30
  have hX_S_30 : wX D S_28 S_30 := by rw [eS_30]; exact wX_nA hq_y_29
  have hE := hE.trans hX_S_30
  have hK_a0 : sK S_30 a0 = 16 := (hX_S_30.2 a0 hL_a0).1.trans hK_a0
  have hL_a0 : wM D S_30 a0 := hX_S_30.M hL_a0
  have hL_y_29 : wM D S_30 y_29 := by rw [eS_30]; exact Or.inl (List.mem_append_right _ List.mem_cons_self)
  have hK_y_29 : sK S_30 y_29 = 8 := by rw [eS_30]; exact va_up_self _ _ _
  refine lv_dup hx hb dX11_init_64 rfl ?_
  refine lv_bipush (v := 80) hx hb dX11_init_65 (by decide) ?_
  obtain ⟨m_34, z_35, hm_34, hz_35, hp⟩ := hp
  refine w_callV (va_runI (As := [.int (80 : Int32)]) (rest := [.ref y_29, .ref a0]) F (c_X3_init l hL_y_29 hK_y_29 hp H.size) (cwI 1 hts (wg_cons wy_X3_init.2.2) rfl rfl rfl (hwg _ wy_X3_init.2.1) (hwg _ wm_RX11_37) (hwg _ wy_X3_init.1) rfl (by decide +kernel) ⟨Nat.le_of_ble_eq_true rfl, Nat.le_of_ble_eq_true rfl⟩) (w_preS hK hW) rfl rfl hl.1 rfl (lv_room (Nat.le_of_ble_eq_true rfl)) dX11_init_67 ⟨by show _ + m_34 ≤ rC; omega, by show _ + z_35 ≤ rS; omega⟩) hW (fun S_33 H locs hp hW => ?_)
  obtain ⟨hX_S_33, hp⟩ := hp
  refine W.widen (k := _ + m_34) (n := _ + z_35) (Nat.le_refl _) (Nat.le_refl _) ?_
  replace hbc := w_spend hbc (show m_34 ≤ ((((((bc - 1) - 8) - 1) - 1) - 1) - 1) by omega)
  replace hbs := w_spend hbs (show z_35 ≤ ((((((bs - 12) - 960) - 6) - 8) - 8) - 9) by omega)
  have hE := hE.trans hX_S_33
  have hK_a0 : sK S_33 a0 = 16 := (hX_S_33.2 a0 hL_a0).1.trans hK_a0
  have hL_a0 : wM D S_33 a0 := hX_S_33.M hL_a0
  have hK_y_29 : sK S_33 y_29 = 8 := (hX_S_33.2 y_29 hL_y_29).1.trans hK_y_29
  have hL_y_29 : wM D S_33 y_29 := hX_S_33.M hL_y_29
  refine w_putRF (k := 16) (f := 4) (T := TX11) (g := (some y_29)) F hK hW hL_a0 hK_a0 (by decide) (by decide) rfl rfl (by decide) i_16 tyX11 tyX11_ok nmX11 k_40 rfl rfl hin rfl (ty := (.object "OpeningsCabinet$Game")) rfl (v_narrow _ _) (v_fitsO _ _) dX11_init_70 (fun H locs hW => ?_)
  obtain ⟨S_36, eS_36⟩ : ∃ z : wS, z = uR S_33 a0 4 (some y_29) := ⟨_, rfl⟩
  rw [← eS_36] at hW
  replace hp := hp S_36 eS_36
  have hX_S_36 : wX D S_33 S_36 := by rw [eS_36]; exact wX_uR
  have hE := hE.trans hX_S_36
  have hK_a0 : sK S_36 a0 = 16 := (hX_S_36.2 a0 hL_a0).1.trans hK_a0
  have hL_a0 : wM D S_36 a0 := hX_S_36.M hL_a0
  refine lv_aload_n hx hb dX11_init_73 rfl (lv_at hl 0 rfl) ?_
  obtain ⟨h_39, h_39b, hp⟩ := hp
  refine w_new (k := 9) (T := TX4) F hK hW rfl (by decide) (fun w h => List.mem_cons_of_mem _ (wu_9 w h)) tyX4 tyX4_ok (hwg _ wc_RX11_44) (hwg _ wn_9) (hwg _ wi_OpeningsCabinet_MoveList) wdef_9 (by show _ ≤ rC; omega) (by show _ ≤ rS; omega) dX11_init_74 (fun y_37 H hq_y_37 hW => ?_)
  replace hbc := w_spend hbc (show 1 ≤ (((((((bc - 1) - 8) - 1) - 1) - 1) - 1) - m_34) by omega)
  replace hbs := w_spend hbs (show 8 ≤ (((((((bs - 12) - 960) - 6) - 8) - 8) - 9) - z_35) by omega)
  obtain ⟨S_38, eS_38⟩ : ∃ z : wS, z = nA S_36 y_37 9 0 := ⟨_, rfl⟩
  rw [← eS_38] at hW
  replace hp := hp y_37 hq_y_37 S_38 eS_38
  have hX_S_38 : wX D S_36 S_38 := by rw [eS_38]; exact wX_nA hq_y_37
  have hE := hE.trans hX_S_38
  have hK_a0 : sK S_38 a0 = 16 := (hX_S_38.2 a0 hL_a0).1.trans hK_a0
  have hL_a0 : wM D S_38 a0 := hX_S_38.M hL_a0
  have hL_y_37 : wM D S_38 y_37 := by rw [eS_38]; exact Or.inl (List.mem_append_right _ List.mem_cons_self)
  have hK_y_37 : sK S_38 y_37 = 9 := by rw [eS_38]; exact va_up_self _ _ _
  refine lv_dup hx hb dX11_init_77 rfl ?_
  refine lv_aload_n hx hb dX11_init_78 rfl (lv_at hl 0 rfl) ?_
  obtain ⟨y_40, ey_40, hL_y_40, hK_y_40, hp⟩ := hp
  refine w_get (k := 16) (f := 0) (T := TX11) (v := .ref y_40) F hK hW hL_a0 hK_a0 (by decide) rfl rfl (by decide) i_16 k_12 (by rw [show wv 16 0 S_38 a0 = va_rf (sR S_38 a0 0) from rfl, ey_40]; rfl) dX11_init_79 ?_
  refine lv_aload_n hx hb dX11_init_82 rfl (lv_at hl 0 rfl) ?_
  obtain ⟨y_41, ey_41, hL_y_41, hK_y_41, hp⟩ := hp
  refine w_get (k := 16) (f := 1) (T := TX11) (v := .ref y_41) F hK hW hL_a0 hK_a0 (by decide) rfl rfl (by decide) i_16 k_21 (by rw [show wv 16 1 S_38 a0 = va_rf (sR S_38 a0 1) from rfl, ey_41]; rfl) dX11_init_83 ?_
  obtain ⟨h_44, h_44z, hp⟩ := hp
  refine w_callV (va_runI (As := [.ref y_40, .ref y_41]) (rest := [.ref y_37, .ref a0]) F (c_X4_init l hL_y_37 hK_y_37 hL_y_40 hK_y_40 hL_y_41 hK_y_41 hp H.size) (cwI 2 hts (wg_cons wy_X4_init.2.2) rfl rfl rfl (hwg _ wy_X4_init.2.1) (hwg _ wm_RX11_46) (hwg _ wy_X4_init.1) rfl (by decide +kernel) ⟨Nat.le_of_ble_eq_true rfl, Nat.le_of_ble_eq_true rfl⟩) (w_preS hK hW) rfl rfl hl.1 rfl (lv_room (Nat.le_of_ble_eq_true rfl)) dX11_init_86 ⟨by show _ + 4 ≤ rC; omega, by show _ + 3472 ≤ rS; omega⟩) hW (fun S_43 H locs hp hW => ?_)
  obtain ⟨hX_S_43, hp⟩ := hp
  refine W.widen (k := _ + 4) (n := _ + 3472) (Nat.le_refl _) (Nat.le_refl _) ?_
  replace hbc := w_spend hbc (show 4 ≤ ((((((((bc - 1) - 8) - 1) - 1) - 1) - 1) - m_34) - 1) by omega)
  replace hbs := w_spend hbs (show 3472 ≤ ((((((((bs - 12) - 960) - 6) - 8) - 8) - 9) - z_35) - 8) by omega)
  have hE := hE.trans hX_S_43
  have hK_a0 : sK S_43 a0 = 16 := (hX_S_43.2 a0 hL_a0).1.trans hK_a0
  have hL_a0 : wM D S_43 a0 := hX_S_43.M hL_a0
  have hK_y_37 : sK S_43 y_37 = 9 := (hX_S_43.2 y_37 hL_y_37).1.trans hK_y_37
  have hL_y_37 : wM D S_43 y_37 := hX_S_43.M hL_y_37
  refine w_putRF (k := 16) (f := 5) (T := TX11) (g := (some y_37)) F hK hW hL_a0 hK_a0 (by decide) (by decide) rfl rfl (by decide) i_16 tyX11 tyX11_ok nmX11 k_49 rfl rfl hin rfl (ty := (.object "OpeningsCabinet$MoveList")) rfl (v_narrow _ _) (v_fitsO _ _) dX11_init_89 (fun H locs hW => ?_)
  obtain ⟨S_45, eS_45⟩ : ∃ z : wS, z = uR S_43 a0 5 (some y_37) := ⟨_, rfl⟩
  rw [← eS_45] at hW
  replace hp := hp S_45 eS_45
  have hX_S_45 : wX D S_43 S_45 := by rw [eS_45]; exact wX_uR
  have hE := hE.trans hX_S_45
  have hK_a0 : sK S_45 a0 = 16 := (hX_S_45.2 a0 hL_a0).1.trans hK_a0
  have hL_a0 : wM D S_45 a0 := hX_S_45.M hL_a0
  refine lv_aload_n hx hb dX11_init_92 rfl (lv_at hl 0 rfl) ?_
  obtain ⟨h_48, h_48b, hp⟩ := hp
  refine w_new (k := 10) (T := TX5) F hK hW rfl (by decide) (fun w h => List.mem_cons_of_mem _ (wu_10 w h)) tyX5 tyX5_ok (hwg _ wc_RX11_53) (hwg _ wn_10) (hwg _ wi_OpeningsCabinet_MovesReader) wdef_10 (by show _ ≤ rC; omega) (by show _ ≤ rS; omega) dX11_init_93 (fun y_46 H hq_y_46 hW => ?_)
  replace hbc := w_spend hbc (show 1 ≤ (((((((((bc - 1) - 8) - 1) - 1) - 1) - 1) - m_34) - 1) - 4) by omega)
  replace hbs := w_spend hbs (show 11 ≤ (((((((((bs - 12) - 960) - 6) - 8) - 8) - 9) - z_35) - 8) - 3472) by omega)
  obtain ⟨S_47, eS_47⟩ : ∃ z : wS, z = nA S_45 y_46 10 0 := ⟨_, rfl⟩
  rw [← eS_47] at hW
  replace hp := hp y_46 hq_y_46 S_47 eS_47
  have hX_S_47 : wX D S_45 S_47 := by rw [eS_47]; exact wX_nA hq_y_46
  have hE := hE.trans hX_S_47
  have hK_a0 : sK S_47 a0 = 16 := (hX_S_47.2 a0 hL_a0).1.trans hK_a0
  have hL_a0 : wM D S_47 a0 := hX_S_47.M hL_a0
  have hL_y_46 : wM D S_47 y_46 := by rw [eS_47]; exact Or.inl (List.mem_append_right _ List.mem_cons_self)
  have hK_y_46 : sK S_47 y_46 = 10 := by rw [eS_47]; exact va_up_self _ _ _
  refine lv_dup hx hb dX11_init_96 rfl ?_
  refine lv_aload_n hx hb dX11_init_97 rfl (lv_at hl 0 rfl) ?_
  obtain ⟨y_49, ey_49, hL_y_49, hK_y_49, hp⟩ := hp
  refine w_get (k := 16) (f := 0) (T := TX11) (v := .ref y_49) F hK hW hL_a0 hK_a0 (by decide) rfl rfl (by decide) i_16 k_12 (by rw [show wv 16 0 S_47 a0 = va_rf (sR S_47 a0 0) from rfl, ey_49]; rfl) dX11_init_98 ?_
  refine lv_aload_n hx hb dX11_init_101 rfl (lv_at hl 0 rfl) ?_
  obtain ⟨y_50, ey_50, hL_y_50, hK_y_50, hp⟩ := hp
  refine w_get (k := 16) (f := 5) (T := TX11) (v := .ref y_50) F hK hW hL_a0 hK_a0 (by decide) rfl rfl (by decide) i_16 k_49 (by rw [show wv 16 5 S_47 a0 = va_rf (sR S_47 a0 5) from rfl, ey_50]; rfl) dX11_init_102 ?_
  obtain ⟨h_53, h_53z, hp⟩ := hp
  refine w_callV (va_runI (As := [.ref y_49, .ref y_50]) (rest := [.ref y_46, .ref a0]) F (c_X5_init l hL_y_46 hK_y_46 hL_y_49 hK_y_49 hL_y_50 hK_y_50 hp H.size) (cwI 2 hts (wg_cons wy_X5_init.2.2) rfl rfl rfl (hwg _ wy_X5_init.2.1) (hwg _ wm_RX11_55) (hwg _ wy_X5_init.1) rfl (by decide +kernel) ⟨Nat.le_of_ble_eq_true rfl, Nat.le_of_ble_eq_true rfl⟩) (w_preS hK hW) rfl rfl hl.1 rfl (lv_room (Nat.le_of_ble_eq_true rfl)) dX11_init_105 ⟨by show _ + 5 ≤ rC; omega, by show _ + 143 ≤ rS; omega⟩) hW (fun S_52 H locs hp hW => ?_)
  obtain ⟨hX_S_52, hp⟩ := hp
  refine W.widen (k := _ + 5) (n := _ + 143) (Nat.le_refl _) (Nat.le_refl _) ?_
  replace hbc := w_spend hbc (show 5 ≤ ((((((((((bc - 1) - 8) - 1) - 1) - 1) - 1) - m_34) - 1) - 4) - 1) by omega)
  replace hbs := w_spend hbs (show 143 ≤ ((((((((((bs - 12) - 960) - 6) - 8) - 8) - 9) - z_35) - 8) - 3472) - 11) by omega)
  have hE := hE.trans hX_S_52
  have hK_a0 : sK S_52 a0 = 16 := (hX_S_52.2 a0 hL_a0).1.trans hK_a0
  have hL_a0 : wM D S_52 a0 := hX_S_52.M hL_a0
  have hK_y_46 : sK S_52 y_46 = 10 := (hX_S_52.2 y_46 hL_y_46).1.trans hK_y_46
  have hL_y_46 : wM D S_52 y_46 := hX_S_52.M hL_y_46
  refine w_putRF (k := 16) (f := 6) (T := TX11) (g := (some y_46)) F hK hW hL_a0 hK_a0 (by decide) (by decide) rfl rfl (by decide) i_16 tyX11 tyX11_ok nmX11 k_58 rfl rfl hin rfl (ty := (.object "OpeningsCabinet$MovesReader")) rfl (v_narrow _ _) (v_fitsO _ _) dX11_init_108 (fun H locs hW => ?_)
  obtain ⟨S_54, eS_54⟩ : ∃ z : wS, z = uR S_52 a0 6 (some y_46) := ⟨_, rfl⟩
  rw [← eS_54] at hW
  replace hp := hp S_54 eS_54
  have hX_S_54 : wX D S_52 S_54 := by rw [eS_54]; exact wX_uR
  have hE := hE.trans hX_S_54
  have hK_a0 : sK S_54 a0 = 16 := (hX_S_54.2 a0 hL_a0).1.trans hK_a0
  have hL_a0 : wM D S_54 a0 := hX_S_54.M hL_a0
  refine lv_aload_n hx hb dX11_init_111 rfl (lv_at hl 0 rfl) ?_
  obtain ⟨h_57, h_57b, hp⟩ := hp
  refine w_new (k := 11) (T := TX6) F hK hW rfl (by decide) (fun w h => List.mem_cons_of_mem _ (wu_11 w h)) tyX6 tyX6_ok (hwg _ wc_RX11_62) (hwg _ wn_11) (hwg _ wi_OpeningsCabinet_Papers) wdef_11 (by show _ ≤ rC; omega) (by show _ ≤ rS; omega) dX11_init_112 (fun y_55 H hq_y_55 hW => ?_)
  replace hbc := w_spend hbc (show 1 ≤ (((((((((((bc - 1) - 8) - 1) - 1) - 1) - 1) - m_34) - 1) - 4) - 1) - 5) by omega)
  replace hbs := w_spend hbs (show 3 ≤ (((((((((((bs - 12) - 960) - 6) - 8) - 8) - 9) - z_35) - 8) - 3472) - 11) - 143) by omega)
  obtain ⟨S_56, eS_56⟩ : ∃ z : wS, z = nA S_54 y_55 11 0 := ⟨_, rfl⟩
  rw [← eS_56] at hW
  replace hp := hp y_55 hq_y_55 S_56 eS_56
  have hX_S_56 : wX D S_54 S_56 := by rw [eS_56]; exact wX_nA hq_y_55
  have hE := hE.trans hX_S_56
  have hK_a0 : sK S_56 a0 = 16 := (hX_S_56.2 a0 hL_a0).1.trans hK_a0
  have hL_a0 : wM D S_56 a0 := hX_S_56.M hL_a0
  have hL_y_55 : wM D S_56 y_55 := by rw [eS_56]; exact Or.inl (List.mem_append_right _ List.mem_cons_self)
  have hK_y_55 : sK S_56 y_55 = 11 := by rw [eS_56]; exact va_up_self _ _ _
  refine lv_dup hx hb dX11_init_115 rfl ?_
  refine lv_aload_n hx hb dX11_init_116 rfl (lv_at hl 0 rfl) ?_
  obtain ⟨y_58, ey_58, hL_y_58, hK_y_58, hp⟩ := hp
  refine w_get (k := 16) (f := 0) (T := TX11) (v := .ref y_58) F hK hW hL_a0 hK_a0 (by decide) rfl rfl (by decide) i_16 k_12 (by rw [show wv 16 0 S_56 a0 = va_rf (sR S_56 a0 0) from rfl, ey_58]; rfl) dX11_init_117 ?_
  obtain ⟨m_61, z_62, hm_61, hz_62, hp⟩ := hp
  refine w_callV (va_runI (As := [.ref y_58]) (rest := [.ref y_55, .ref a0]) F (c_X6_init l hL_y_55 hK_y_55 hL_y_58 hK_y_58 hp H.size) (cwI 1 hts (wg_cons wy_X6_init.2.2) rfl rfl rfl (hwg _ wy_X6_init.2.1) (hwg _ wm_RX11_64) (hwg _ wy_X6_init.1) rfl (by decide +kernel) ⟨Nat.le_of_ble_eq_true rfl, Nat.le_of_ble_eq_true rfl⟩) (w_preS hK hW) rfl rfl hl.1 rfl (lv_room (Nat.le_of_ble_eq_true rfl)) dX11_init_120 ⟨by show _ + m_61 ≤ rC; omega, by show _ + z_62 ≤ rS; omega⟩) hW (fun S_60 H locs hp hW => ?_)
  obtain ⟨hX_S_60, hp⟩ := hp
  refine W.widen (k := _ + m_61) (n := _ + z_62) (Nat.le_refl _) (Nat.le_refl _) ?_
  replace hbc := w_spend hbc (show m_61 ≤ ((((((((((((bc - 1) - 8) - 1) - 1) - 1) - 1) - m_34) - 1) - 4) - 1) - 5) - 1) by omega)
  replace hbs := w_spend hbs (show z_62 ≤ ((((((((((((bs - 12) - 960) - 6) - 8) - 8) - 9) - z_35) - 8) - 3472) - 11) - 143) - 3) by omega)
  have hE := hE.trans hX_S_60
  have hK_a0 : sK S_60 a0 = 16 := (hX_S_60.2 a0 hL_a0).1.trans hK_a0
  have hL_a0 : wM D S_60 a0 := hX_S_60.M hL_a0
  have hK_y_55 : sK S_60 y_55 = 11 := (hX_S_60.2 y_55 hL_y_55).1.trans hK_y_55
  have hL_y_55 : wM D S_60 y_55 := hX_S_60.M hL_y_55
  refine w_putRF (k := 16) (f := 7) (T := TX11) (g := (some y_55)) F hK hW hL_a0 hK_a0 (by decide) (by decide) rfl rfl (by decide) i_16 tyX11 tyX11_ok nmX11 k_65 rfl rfl hin rfl (ty := (.object "OpeningsCabinet$Papers")) rfl (v_narrow _ _) (v_fitsO _ _) dX11_init_123 (fun H locs hW => ?_)
  obtain ⟨S_63, eS_63⟩ : ∃ z : wS, z = uR S_60 a0 7 (some y_55) := ⟨_, rfl⟩
  rw [← eS_63] at hW
  replace hp := hp S_63 eS_63
  have hX_S_63 : wX D S_60 S_63 := by rw [eS_63]; exact wX_uR
  have hE := hE.trans hX_S_63
  have hK_a0 : sK S_63 a0 = 16 := (hX_S_63.2 a0 hL_a0).1.trans hK_a0
  have hL_a0 : wM D S_63 a0 := hX_S_63.M hL_a0
  refine lv_aload_n hx hb dX11_init_126 rfl (lv_at hl 0 rfl) ?_
  obtain ⟨h_66, h_66b, hp⟩ := hp
  refine w_new (k := 15) (T := TX10) F hK hW rfl (by decide) (fun w h => List.mem_cons_of_mem _ (wu_15 w h)) tyX10 tyX10_ok (hwg _ wc_RX11_69) (hwg _ wn_15) (hwg _ wi_OpeningsCabinet_Shelf) wdef_15 (by show _ ≤ rC; omega) (by show _ ≤ rS; omega) dX11_init_127 (fun y_64 H hq_y_64 hW => ?_)
  replace hbc := w_spend hbc (show 1 ≤ (((((((((((((bc - 1) - 8) - 1) - 1) - 1) - 1) - m_34) - 1) - 4) - 1) - 5) - 1) - m_61) by omega)
  replace hbs := w_spend hbs (show 1 ≤ (((((((((((((bs - 12) - 960) - 6) - 8) - 8) - 9) - z_35) - 8) - 3472) - 11) - 143) - 3) - z_62) by omega)
  obtain ⟨S_65, eS_65⟩ : ∃ z : wS, z = nA S_63 y_64 15 0 := ⟨_, rfl⟩
  rw [← eS_65] at hW
  replace hp := hp y_64 hq_y_64 S_65 eS_65
  have hX_S_65 : wX D S_63 S_65 := by rw [eS_65]; exact wX_nA hq_y_64
  have hE := hE.trans hX_S_65
  have hK_a0 : sK S_65 a0 = 16 := (hX_S_65.2 a0 hL_a0).1.trans hK_a0
  have hL_a0 : wM D S_65 a0 := hX_S_65.M hL_a0
  have hL_y_64 : wM D S_65 y_64 := by rw [eS_65]; exact Or.inl (List.mem_append_right _ List.mem_cons_self)
  have hK_y_64 : sK S_65 y_64 = 15 := by rw [eS_65]; exact va_up_self _ _ _
  refine lv_dup hx hb dX11_init_130 rfl ?_
  obtain ⟨h_69, h_69z, hp⟩ := hp
  refine w_callV (va_runIN (As := []) (rest := [.ref y_64, .ref a0]) F (c_X10_init l hL_y_64 hK_y_64 hp H.size) ⟨va_cnB (host := "OpeningsCabinet") 0 hts (wg_cons wy_X10_init.2.2) rfl rfl rfl (hK.2.1 (.methodLinkNest "OpeningsCabinet" 71 ⟨"OpeningsCabinet$Shelf", "<init>", "()V"⟩ "OpeningsCabinet") (by decide +kernel)) (hwg _ wy_X10_init.2.1) ⟨by decide, by decide, by decide +kernel⟩ ⟨Nat.le_of_ble_eq_true rfl, Nat.le_of_ble_eq_true rfl⟩, rfl, hwg _ wy_X10_init.1⟩ (w_preS hK hW) rfl rfl hl.1 rfl (lv_room (Nat.le_of_ble_eq_true rfl)) dX11_init_131 ⟨by show _ + 1 ≤ rC; omega, by show _ + 3 ≤ rS; omega⟩) hW (fun S_68 H locs hp hW => ?_)
  obtain ⟨hX_S_68, hp⟩ := hp
  refine W.widen (k := _ + 1) (n := _ + 3) (Nat.le_refl _) (Nat.le_refl _) ?_
  replace hbc := w_spend hbc (show 1 ≤ ((((((((((((((bc - 1) - 8) - 1) - 1) - 1) - 1) - m_34) - 1) - 4) - 1) - 5) - 1) - m_61) - 1) by omega)
  replace hbs := w_spend hbs (show 3 ≤ ((((((((((((((bs - 12) - 960) - 6) - 8) - 8) - 9) - z_35) - 8) - 3472) - 11) - 143) - 3) - z_62) - 1) by omega)
  have hE := hE.trans hX_S_68
  have hK_a0 : sK S_68 a0 = 16 := (hX_S_68.2 a0 hL_a0).1.trans hK_a0
  have hL_a0 : wM D S_68 a0 := hX_S_68.M hL_a0
  have hK_y_64 : sK S_68 y_64 = 15 := (hX_S_68.2 y_64 hL_y_64).1.trans hK_y_64
  have hL_y_64 : wM D S_68 y_64 := hX_S_68.M hL_y_64
  refine w_putRF (k := 16) (f := 8) (T := TX11) (g := (some y_64)) F hK hW hL_a0 hK_a0 (by decide) (by decide) rfl rfl (by decide) i_16 tyX11 tyX11_ok nmX11 k_72 rfl rfl hin rfl (ty := (.object "OpeningsCabinet$Shelf")) rfl (v_narrow _ _) (v_fitsO _ _) dX11_init_134 (fun H locs hW => ?_)
  obtain ⟨S_70, eS_70⟩ : ∃ z : wS, z = uR S_68 a0 8 (some y_64) := ⟨_, rfl⟩
  rw [← eS_70] at hW
  replace hp := hp S_70 eS_70
  have hX_S_70 : wX D S_68 S_70 := by rw [eS_70]; exact wX_uR
  have hE := hE.trans hX_S_70
  have hK_a0 : sK S_70 a0 = 16 := (hX_S_70.2 a0 hL_a0).1.trans hK_a0
  have hL_a0 : wM D S_70 a0 := hX_S_70.M hL_a0
  refine lv_aload_n hx hb dX11_init_137 rfl (lv_at hl 0 rfl) ?_
  obtain ⟨h_73, h_73b, hp⟩ := hp
  refine w_new (k := 15) (T := TX10) F hK hW rfl (by decide) (fun w h => List.mem_cons_of_mem _ (wu_15 w h)) tyX10 tyX10_ok (hwg _ wc_RX11_69) (hwg _ wn_15) (hwg _ wi_OpeningsCabinet_Shelf) wdef_15 (by show _ ≤ rC; omega) (by show _ ≤ rS; omega) dX11_init_138 (fun y_71 H hq_y_71 hW => ?_)
  replace hbc := w_spend hbc (show 1 ≤ (((((((((((((((bc - 1) - 8) - 1) - 1) - 1) - 1) - m_34) - 1) - 4) - 1) - 5) - 1) - m_61) - 1) - 1) by omega)
  replace hbs := w_spend hbs (show 1 ≤ (((((((((((((((bs - 12) - 960) - 6) - 8) - 8) - 9) - z_35) - 8) - 3472) - 11) - 143) - 3) - z_62) - 1) - 3) by omega)
  obtain ⟨S_72, eS_72⟩ : ∃ z : wS, z = nA S_70 y_71 15 0 := ⟨_, rfl⟩
  rw [← eS_72] at hW
  replace hp := hp y_71 hq_y_71 S_72 eS_72
  have hX_S_72 : wX D S_70 S_72 := by rw [eS_72]; exact wX_nA hq_y_71
  have hE := hE.trans hX_S_72
  have hK_a0 : sK S_72 a0 = 16 := (hX_S_72.2 a0 hL_a0).1.trans hK_a0
  have hL_a0 : wM D S_72 a0 := hX_S_72.M hL_a0
  have hL_y_71 : wM D S_72 y_71 := by rw [eS_72]; exact Or.inl (List.mem_append_right _ List.mem_cons_self)
  have hK_y_71 : sK S_72 y_71 = 15 := by rw [eS_72]; exact va_up_self _ _ _
  refine lv_dup hx hb dX11_init_141 rfl ?_
  obtain ⟨h_76, h_76z, hp⟩ := hp
  refine w_callV (va_runIN (As := []) (rest := [.ref y_71, .ref a0]) F (c_X10_init l hL_y_71 hK_y_71 hp H.size) ⟨va_cnB (host := "OpeningsCabinet") 0 hts (wg_cons wy_X10_init.2.2) rfl rfl rfl (hK.2.1 (.methodLinkNest "OpeningsCabinet" 71 ⟨"OpeningsCabinet$Shelf", "<init>", "()V"⟩ "OpeningsCabinet") (by decide +kernel)) (hwg _ wy_X10_init.2.1) ⟨by decide, by decide, by decide +kernel⟩ ⟨Nat.le_of_ble_eq_true rfl, Nat.le_of_ble_eq_true rfl⟩, rfl, hwg _ wy_X10_init.1⟩ (w_preS hK hW) rfl rfl hl.1 rfl (lv_room (Nat.le_of_ble_eq_true rfl)) dX11_init_142 ⟨by show _ + 1 ≤ rC; omega, by show _ + 3 ≤ rS; omega⟩) hW (fun S_75 H locs hp hW => ?_)
  obtain ⟨hX_S_75, hp⟩ := hp
  refine W.widen (k := _ + 1) (n := _ + 3) (Nat.le_refl _) (Nat.le_refl _) ?_
  replace hbc := w_spend hbc (show 1 ≤ ((((((((((((((((bc - 1) - 8) - 1) - 1) - 1) - 1) - m_34) - 1) - 4) - 1) - 5) - 1) - m_61) - 1) - 1) - 1) by omega)
  replace hbs := w_spend hbs (show 3 ≤ ((((((((((((((((bs - 12) - 960) - 6) - 8) - 8) - 9) - z_35) - 8) - 3472) - 11) - 143) - 3) - z_62) - 1) - 3) - 1) by omega)
  have hE := hE.trans hX_S_75
  have hK_a0 : sK S_75 a0 = 16 := (hX_S_75.2 a0 hL_a0).1.trans hK_a0
  have hL_a0 : wM D S_75 a0 := hX_S_75.M hL_a0
  have hK_y_71 : sK S_75 y_71 = 15 := (hX_S_75.2 y_71 hL_y_71).1.trans hK_y_71
  have hL_y_71 : wM D S_75 y_71 := hX_S_75.M hL_y_71
  refine w_putRF (k := 16) (f := 9) (T := TX11) (g := (some y_71)) F hK hW hL_a0 hK_a0 (by decide) (by decide) rfl rfl (by decide) i_16 tyX11 tyX11_ok nmX11 k_76 rfl rfl hin rfl (ty := (.object "OpeningsCabinet$Shelf")) rfl (v_narrow _ _) (v_fitsO _ _) dX11_init_145 (fun H locs hW => ?_)
  obtain ⟨S_77, eS_77⟩ : ∃ z : wS, z = uR S_75 a0 9 (some y_71) := ⟨_, rfl⟩
  rw [← eS_77] at hW
  replace hp := hp S_77 eS_77
  have hX_S_77 : wX D S_75 S_77 := by rw [eS_77]; exact wX_uR
  have hE := hE.trans hX_S_77
  have hK_a0 : sK S_77 a0 = 16 := (hX_S_77.2 a0 hL_a0).1.trans hK_a0
  have hL_a0 : wM D S_77 a0 := hX_S_77.M hL_a0
  refine lv_aload_n hx hb dX11_init_148 rfl (lv_at hl 0 rfl) ?_
  obtain ⟨h_80, h_80b, hp⟩ := hp
  refine w_new (k := 6) (T := TX1) F hK hW rfl (by decide) (fun w h => List.mem_cons_of_mem _ (wu_6 w h)) tyX1 tyX1_ok (hwg _ wc_RX11_79) (hwg _ wn_6) (hwg _ wi_OpeningsCabinet_Continuations) wdef_6 (by show _ ≤ rC; omega) (by show _ ≤ rS; omega) dX11_init_149 (fun y_78 H hq_y_78 hW => ?_)
  replace hbc := w_spend hbc (show 1 ≤ (((((((((((((((((bc - 1) - 8) - 1) - 1) - 1) - 1) - m_34) - 1) - 4) - 1) - 5) - 1) - m_61) - 1) - 1) - 1) - 1) by omega)
  replace hbs := w_spend hbs (show 4 ≤ (((((((((((((((((bs - 12) - 960) - 6) - 8) - 8) - 9) - z_35) - 8) - 3472) - 11) - 143) - 3) - z_62) - 1) - 3) - 1) - 3) by omega)
  obtain ⟨S_79, eS_79⟩ : ∃ z : wS, z = nA S_77 y_78 6 0 := ⟨_, rfl⟩
  rw [← eS_79] at hW
  replace hp := hp y_78 hq_y_78 S_79 eS_79
  have hX_S_79 : wX D S_77 S_79 := by rw [eS_79]; exact wX_nA hq_y_78
  have hE := hE.trans hX_S_79
  have hK_a0 : sK S_79 a0 = 16 := (hX_S_79.2 a0 hL_a0).1.trans hK_a0
  have hL_a0 : wM D S_79 a0 := hX_S_79.M hL_a0
  have hL_y_78 : wM D S_79 y_78 := by rw [eS_79]; exact Or.inl (List.mem_append_right _ List.mem_cons_self)
  have hK_y_78 : sK S_79 y_78 = 6 := by rw [eS_79]; exact va_up_self _ _ _
  refine lv_dup hx hb dX11_init_152 rfl ?_
  refine lv_aload_n hx hb dX11_init_153 rfl (lv_at hl 0 rfl) ?_
  obtain ⟨y_81, ey_81, hL_y_81, hK_y_81, hp⟩ := hp
  refine w_get (k := 16) (f := 5) (T := TX11) (v := .ref y_81) F hK hW hL_a0 hK_a0 (by decide) rfl rfl (by decide) i_16 k_49 (by rw [show wv 16 5 S_79 a0 = va_rf (sR S_79 a0 5) from rfl, ey_81]; rfl) dX11_init_154 ?_
  obtain ⟨h_84, h_84z, hp⟩ := hp
  refine w_callV (va_runI (As := [.ref y_81]) (rest := [.ref y_78, .ref a0]) F (c_X1_init l hL_y_78 hK_y_78 hL_y_81 hK_y_81 hp H.size) (cwI 1 hts (wg_cons wy_X1_init.2.2) rfl rfl rfl (hwg _ wy_X1_init.2.1) (hwg _ wm_RX11_81) (hwg _ wy_X1_init.1) rfl (by decide +kernel) ⟨Nat.le_of_ble_eq_true rfl, Nat.le_of_ble_eq_true rfl⟩) (w_preS hK hW) rfl rfl hl.1 rfl (lv_room (Nat.le_of_ble_eq_true rfl)) dX11_init_157 ⟨by show _ + 3 ≤ rC; omega, by show _ + 5184 ≤ rS; omega⟩) hW (fun S_83 H locs hp hW => ?_)
  obtain ⟨hX_S_83, hp⟩ := hp
  refine W.widen (k := _ + 3) (n := _ + 5184) (Nat.le_refl _) (Nat.le_refl _) ?_
  replace hbc := w_spend hbc (show 3 ≤ ((((((((((((((((((bc - 1) - 8) - 1) - 1) - 1) - 1) - m_34) - 1) - 4) - 1) - 5) - 1) - m_61) - 1) - 1) - 1) - 1) - 1) by omega)
  replace hbs := w_spend hbs (show 5184 ≤ ((((((((((((((((((bs - 12) - 960) - 6) - 8) - 8) - 9) - z_35) - 8) - 3472) - 11) - 143) - 3) - z_62) - 1) - 3) - 1) - 3) - 4) by omega)
  have hE := hE.trans hX_S_83
  have hK_a0 : sK S_83 a0 = 16 := (hX_S_83.2 a0 hL_a0).1.trans hK_a0
  have hL_a0 : wM D S_83 a0 := hX_S_83.M hL_a0
  have hK_y_78 : sK S_83 y_78 = 6 := (hX_S_83.2 y_78 hL_y_78).1.trans hK_y_78
  have hL_y_78 : wM D S_83 y_78 := hX_S_83.M hL_y_78
  refine w_putRF (k := 16) (f := 10) (T := TX11) (g := (some y_78)) F hK hW hL_a0 hK_a0 (by decide) (by decide) rfl rfl (by decide) i_16 tyX11 tyX11_ok nmX11 k_84 rfl rfl hin rfl (ty := (.object "OpeningsCabinet$Continuations")) rfl (v_narrow _ _) (v_fitsO _ _) dX11_init_160 (fun H locs hW => ?_)
  obtain ⟨S_85, eS_85⟩ : ∃ z : wS, z = uR S_83 a0 10 (some y_78) := ⟨_, rfl⟩
  rw [← eS_85] at hW
  replace hp := hp S_85 eS_85
  have hX_S_85 : wX D S_83 S_85 := by rw [eS_85]; exact wX_uR
  have hE := hE.trans hX_S_85
  have hK_a0 : sK S_85 a0 = 16 := (hX_S_85.2 a0 hL_a0).1.trans hK_a0
  have hL_a0 : wM D S_85 a0 := hX_S_85.M hL_a0
  refine lv_aload_n hx hb dX11_init_163 rfl (lv_at hl 0 rfl) ?_
  obtain ⟨h_88, h_88b, hp⟩ := hp
  refine w_new (k := 14) (T := TX9) F hK hW rfl (by decide) (fun w h => List.mem_cons_of_mem _ (wu_14 w h)) tyX9 tyX9_ok (hwg _ wc_RX11_88) (hwg _ wn_14) (hwg _ wi_OpeningsCabinet_Search) wdef_14 (by show _ ≤ rC; omega) (by show _ ≤ rS; omega) dX11_init_164 (fun y_86 H hq_y_86 hW => ?_)
  replace hbc := w_spend hbc (show 1 ≤ (((((((((((((((((((bc - 1) - 8) - 1) - 1) - 1) - 1) - m_34) - 1) - 4) - 1) - 5) - 1) - m_61) - 1) - 1) - 1) - 1) - 1) - 3) by omega)
  replace hbs := w_spend hbs (show 10 ≤ (((((((((((((((((((bs - 12) - 960) - 6) - 8) - 8) - 9) - z_35) - 8) - 3472) - 11) - 143) - 3) - z_62) - 1) - 3) - 1) - 3) - 4) - 5184) by omega)
  obtain ⟨S_87, eS_87⟩ : ∃ z : wS, z = nA S_85 y_86 14 0 := ⟨_, rfl⟩
  rw [← eS_87] at hW
  replace hp := hp y_86 hq_y_86 S_87 eS_87
  have hX_S_87 : wX D S_85 S_87 := by rw [eS_87]; exact wX_nA hq_y_86
  have hE := hE.trans hX_S_87
  have hK_a0 : sK S_87 a0 = 16 := (hX_S_87.2 a0 hL_a0).1.trans hK_a0
  have hL_a0 : wM D S_87 a0 := hX_S_87.M hL_a0
  have hL_y_86 : wM D S_87 y_86 := by rw [eS_87]; exact Or.inl (List.mem_append_right _ List.mem_cons_self)
  have hK_y_86 : sK S_87 y_86 = 14 := by rw [eS_87]; exact va_up_self _ _ _
  refine lv_dup hx hb dX11_init_167 rfl ?_
  refine lv_aload_n hx hb dX11_init_168 rfl (lv_at hl 0 rfl) ?_
  obtain ⟨y_89, ey_89, hL_y_89, hK_y_89, hp⟩ := hp
  refine w_get (k := 16) (f := 0) (T := TX11) (v := .ref y_89) F hK hW hL_a0 hK_a0 (by decide) rfl rfl (by decide) i_16 k_12 (by rw [show wv 16 0 S_87 a0 = va_rf (sR S_87 a0 0) from rfl, ey_89]; rfl) dX11_init_169 ?_
  refine lv_aload_n hx hb dX11_init_172 rfl (lv_at hl 0 rfl) ?_
  obtain ⟨y_90, ey_90, hL_y_90, hK_y_90, hp⟩ := hp
  refine w_get (k := 16) (f := 1) (T := TX11) (v := .ref y_90) F hK hW hL_a0 hK_a0 (by decide) rfl rfl (by decide) i_16 k_21 (by rw [show wv 16 1 S_87 a0 = va_rf (sR S_87 a0 1) from rfl, ey_90]; rfl) dX11_init_173 ?_
  obtain ⟨h_93, h_93z, hp⟩ := hp
  refine w_callV (va_runI (As := [.ref y_89, .ref y_90]) (rest := [.ref y_86, .ref a0]) F (c_X9_init l hL_y_86 hK_y_86 hL_y_89 hK_y_89 hL_y_90 hK_y_90 hp H.size) (cwI 2 hts (wg_cons wy_X9_init.2.2) rfl rfl rfl (hwg _ wy_X9_init.2.1) (hwg _ wm_RX11_90) (hwg _ wy_X9_init.1) rfl (by decide +kernel) ⟨Nat.le_of_ble_eq_true rfl, Nat.le_of_ble_eq_true rfl⟩) (w_preS hK hW) rfl rfl hl.1 rfl (lv_room (Nat.le_of_ble_eq_true rfl)) dX11_init_176 ⟨by show _ + 6 ≤ rC; omega, by show _ + 5208 ≤ rS; omega⟩) hW (fun S_92 H locs hp hW => ?_)
  obtain ⟨hX_S_92, hp⟩ := hp
  refine W.widen (k := _ + 6) (n := _ + 5208) (Nat.le_refl _) (Nat.le_refl _) ?_
  replace hbc := w_spend hbc (show 6 ≤ ((((((((((((((((((((bc - 1) - 8) - 1) - 1) - 1) - 1) - m_34) - 1) - 4) - 1) - 5) - 1) - m_61) - 1) - 1) - 1) - 1) - 1) - 3) - 1) by omega)
  replace hbs := w_spend hbs (show 5208 ≤ ((((((((((((((((((((bs - 12) - 960) - 6) - 8) - 8) - 9) - z_35) - 8) - 3472) - 11) - 143) - 3) - z_62) - 1) - 3) - 1) - 3) - 4) - 5184) - 10) by omega)
  have hE := hE.trans hX_S_92
  have hK_a0 : sK S_92 a0 = 16 := (hX_S_92.2 a0 hL_a0).1.trans hK_a0
  have hL_a0 : wM D S_92 a0 := hX_S_92.M hL_a0
  have hK_y_86 : sK S_92 y_86 = 14 := (hX_S_92.2 y_86 hL_y_86).1.trans hK_y_86
  have hL_y_86 : wM D S_92 y_86 := hX_S_92.M hL_y_86
  refine w_putRF (k := 16) (f := 11) (T := TX11) (g := (some y_86)) F hK hW hL_a0 hK_a0 (by decide) (by decide) rfl rfl (by decide) i_16 tyX11 tyX11_ok nmX11 k_91 rfl rfl hin rfl (ty := (.object "OpeningsCabinet$Search")) rfl (v_narrow _ _) (v_fitsO _ _) dX11_init_179 (fun H locs hW => ?_)
  obtain ⟨S_94, eS_94⟩ : ∃ z : wS, z = uR S_92 a0 11 (some y_86) := ⟨_, rfl⟩
  rw [← eS_94] at hW
  replace hp := hp S_94 eS_94
  have hX_S_94 : wX D S_92 S_94 := by rw [eS_94]; exact wX_uR
  have hE := hE.trans hX_S_94
  have hK_a0 : sK S_94 a0 = 16 := (hX_S_94.2 a0 hL_a0).1.trans hK_a0
  have hL_a0 : wM D S_94 a0 := hX_S_94.M hL_a0
  refine lv_aload_n hx hb dX11_init_182 rfl (lv_at hl 0 rfl) ?_
  obtain ⟨h_97, h_97b, hp⟩ := hp
  refine w_new (k := 7) (T := TX2) F hK hW rfl (by decide) (fun w h => List.mem_cons_of_mem _ (wu_7 w h)) tyX2 tyX2_ok (hwg _ wc_RX11_95) (hwg _ wn_7) (hwg _ wi_OpeningsCabinet_Endings) wdef_7 (by show _ ≤ rC; omega) (by show _ ≤ rS; omega) dX11_init_183 (fun y_95 H hq_y_95 hW => ?_)
  replace hbc := w_spend hbc (show 1 ≤ (((((((((((((((((((((bc - 1) - 8) - 1) - 1) - 1) - 1) - m_34) - 1) - 4) - 1) - 5) - 1) - m_61) - 1) - 1) - 1) - 1) - 1) - 3) - 1) - 6) by omega)
  replace hbs := w_spend hbs (show 8 ≤ (((((((((((((((((((((bs - 12) - 960) - 6) - 8) - 8) - 9) - z_35) - 8) - 3472) - 11) - 143) - 3) - z_62) - 1) - 3) - 1) - 3) - 4) - 5184) - 10) - 5208) by omega)
  obtain ⟨S_96, eS_96⟩ : ∃ z : wS, z = nA S_94 y_95 7 0 := ⟨_, rfl⟩
  rw [← eS_96] at hW
  replace hp := hp y_95 hq_y_95 S_96 eS_96
  have hX_S_96 : wX D S_94 S_96 := by rw [eS_96]; exact wX_nA hq_y_95
  have hE := hE.trans hX_S_96
  have hK_a0 : sK S_96 a0 = 16 := (hX_S_96.2 a0 hL_a0).1.trans hK_a0
  have hL_a0 : wM D S_96 a0 := hX_S_96.M hL_a0
  have hL_y_95 : wM D S_96 y_95 := by rw [eS_96]; exact Or.inl (List.mem_append_right _ List.mem_cons_self)
  have hK_y_95 : sK S_96 y_95 = 7 := by rw [eS_96]; exact va_up_self _ _ _
  refine lv_dup hx hb dX11_init_186 rfl ?_
  refine lv_aload_n hx hb dX11_init_187 rfl (lv_at hl 0 rfl) ?_
  obtain ⟨y_98, ey_98, hL_y_98, hK_y_98, hp⟩ := hp
  refine w_get (k := 16) (f := 0) (T := TX11) (v := .ref y_98) F hK hW hL_a0 hK_a0 (by decide) rfl rfl (by decide) i_16 k_12 (by rw [show wv 16 0 S_96 a0 = va_rf (sR S_96 a0 0) from rfl, ey_98]; rfl) dX11_init_188 ?_
  obtain ⟨h_101, h_101z, hp⟩ := hp
  refine w_callV (va_runI (As := [.ref y_98]) (rest := [.ref y_95, .ref a0]) F (c_X2_init l hL_y_95 hK_y_95 hL_y_98 hK_y_98 hp H.size) (cwI 1 hts (wg_cons wy_X2_init.2.2) rfl rfl rfl (hwg _ wy_X2_init.2.1) (hwg _ wm_RX11_97) (hwg _ wy_X2_init.1) rfl (by decide +kernel) ⟨Nat.le_of_ble_eq_true rfl, Nat.le_of_ble_eq_true rfl⟩) (w_preS hK hW) rfl rfl hl.1 rfl (lv_room (Nat.le_of_ble_eq_true rfl)) dX11_init_191 ⟨by show _ + 6 ≤ rC; omega, by show _ + 18 ≤ rS; omega⟩) hW (fun S_100 H locs hp hW => ?_)
  obtain ⟨hX_S_100, hp⟩ := hp
  refine W.widen (k := _ + 6) (n := _ + 18) (Nat.le_refl _) (Nat.le_refl _) ?_
  replace hbc := w_spend hbc (show 6 ≤ ((((((((((((((((((((((bc - 1) - 8) - 1) - 1) - 1) - 1) - m_34) - 1) - 4) - 1) - 5) - 1) - m_61) - 1) - 1) - 1) - 1) - 1) - 3) - 1) - 6) - 1) by omega)
  replace hbs := w_spend hbs (show 18 ≤ ((((((((((((((((((((((bs - 12) - 960) - 6) - 8) - 8) - 9) - z_35) - 8) - 3472) - 11) - 143) - 3) - z_62) - 1) - 3) - 1) - 3) - 4) - 5184) - 10) - 5208) - 8) by omega)
  have hE := hE.trans hX_S_100
  have hK_a0 : sK S_100 a0 = 16 := (hX_S_100.2 a0 hL_a0).1.trans hK_a0
  have hL_a0 : wM D S_100 a0 := hX_S_100.M hL_a0
  have hK_y_95 : sK S_100 y_95 = 7 := (hX_S_100.2 y_95 hL_y_95).1.trans hK_y_95
  have hL_y_95 : wM D S_100 y_95 := hX_S_100.M hL_y_95
  refine w_putRF (k := 16) (f := 12) (T := TX11) (g := (some y_95)) F hK hW hL_a0 hK_a0 (by decide) (by decide) rfl rfl (by decide) i_16 tyX11 tyX11_ok nmX11 k_98 rfl rfl hin rfl (ty := (.object "OpeningsCabinet$Endings")) rfl (v_narrow _ _) (v_fitsO _ _) dX11_init_194 (fun H locs hW => ?_)
  obtain ⟨S_102, eS_102⟩ : ∃ z : wS, z = uR S_100 a0 12 (some y_95) := ⟨_, rfl⟩
  rw [← eS_102] at hW
  replace hp := hp S_102 eS_102
  have hX_S_102 : wX D S_100 S_102 := by rw [eS_102]; exact wX_uR
  have hE := hE.trans hX_S_102
  have hK_a0 : sK S_102 a0 = 16 := (hX_S_102.2 a0 hL_a0).1.trans hK_a0
  have hL_a0 : wM D S_102 a0 := hX_S_102.M hL_a0
  refine lv_aload_n hx hb dX11_init_197 rfl (lv_at hl 0 rfl) ?_
  obtain ⟨h_105, h_105b, hp⟩ := hp
  refine w_new (k := 1) (T := TJ4) F hK hW rfl (by decide) (fun w h => List.mem_cons_of_mem _ (wu_1 w h)) tyJ4 tyJ4_ok (hwg _ wc_RX11_102) (hwg _ wn_1) (hwg _ wi_java_lang_StringBuilder) wdef_1 (by show _ ≤ rC; omega) (by show _ ≤ rS; omega) dX11_init_198 (fun y_103 H hq_y_103 hW => ?_)
  replace hbc := w_spend hbc (show 1 ≤ (((((((((((((((((((((((bc - 1) - 8) - 1) - 1) - 1) - 1) - m_34) - 1) - 4) - 1) - 5) - 1) - m_61) - 1) - 1) - 1) - 1) - 1) - 3) - 1) - 6) - 1) - 6) by omega)
  replace hbs := w_spend hbs (show 4 ≤ (((((((((((((((((((((((bs - 12) - 960) - 6) - 8) - 8) - 9) - z_35) - 8) - 3472) - 11) - 143) - 3) - z_62) - 1) - 3) - 1) - 3) - 4) - 5184) - 10) - 5208) - 8) - 18) by omega)
  obtain ⟨S_104, eS_104⟩ : ∃ z : wS, z = nA S_102 y_103 1 0 := ⟨_, rfl⟩
  rw [← eS_104] at hW
  replace hp := hp y_103 hq_y_103 S_104 eS_104
  have hX_S_104 : wX D S_102 S_104 := by rw [eS_104]; exact wX_nA hq_y_103
  have hE := hE.trans hX_S_104
  have hK_a0 : sK S_104 a0 = 16 := (hX_S_104.2 a0 hL_a0).1.trans hK_a0
  have hL_a0 : wM D S_104 a0 := hX_S_104.M hL_a0
  have hL_y_103 : wM D S_104 y_103 := by rw [eS_104]; exact Or.inl (List.mem_append_right _ List.mem_cons_self)
  have hK_y_103 : sK S_104 y_103 = 1 := by rw [eS_104]; exact va_up_self _ _ _
  refine lv_dup hx hb dX11_init_201 rfl ?_
  obtain ⟨m_108, z_109, hm_108, hz_109, hp⟩ := hp
  refine w_callV (va_runI (As := []) (rest := [.ref y_103, .ref a0]) F (c_J4_init_da8c8 l hL_y_103 hK_y_103 hp H.size) (cwI 0 hts (wg_cons wy_J4_init_da8c8.2.2) rfl rfl rfl (hwg _ wy_J4_init_da8c8.2.1) (hwg _ wm_RX11_104) (hwg _ wy_J4_init_da8c8.1) rfl (by decide +kernel) ⟨Nat.le_of_ble_eq_true rfl, Nat.le_of_ble_eq_true rfl⟩) (w_preS hK hW) rfl rfl hl.1 rfl (lv_room (Nat.le_of_ble_eq_true rfl)) dX11_init_202 ⟨by show _ + m_108 ≤ rC; omega, by show _ + z_109 ≤ rS; omega⟩) hW (fun S_107 H locs hp hW => ?_)
  obtain ⟨hX_S_107, hp⟩ := hp
  refine W.widen (k := _ + m_108) (n := _ + z_109) (Nat.le_refl _) (Nat.le_refl _) ?_
  replace hbc := w_spend hbc (show m_108 ≤ ((((((((((((((((((((((((bc - 1) - 8) - 1) - 1) - 1) - 1) - m_34) - 1) - 4) - 1) - 5) - 1) - m_61) - 1) - 1) - 1) - 1) - 1) - 3) - 1) - 6) - 1) - 6) - 1) by omega)
  replace hbs := w_spend hbs (show z_109 ≤ ((((((((((((((((((((((((bs - 12) - 960) - 6) - 8) - 8) - 9) - z_35) - 8) - 3472) - 11) - 143) - 3) - z_62) - 1) - 3) - 1) - 3) - 4) - 5184) - 10) - 5208) - 8) - 18) - 4) by omega)
  have hE := hE.trans hX_S_107
  have hK_a0 : sK S_107 a0 = 16 := (hX_S_107.2 a0 hL_a0).1.trans hK_a0
  have hL_a0 : wM D S_107 a0 := hX_S_107.M hL_a0
  have hK_y_103 : sK S_107 y_103 = 1 := (hX_S_107.2 y_103 hL_y_103).1.trans hK_y_103
  have hL_y_103 : wM D S_107 y_103 := hX_S_107.M hL_y_103
  refine w_putRF (k := 16) (f := 13) (T := TX11) (g := (some y_103)) F hK hW hL_a0 hK_a0 (by decide) (by decide) rfl rfl (by decide) i_16 tyX11 tyX11_ok nmX11 k_105 rfl rfl hin rfl (ty := (.object "java/lang/StringBuilder")) rfl (v_narrow _ _) (v_fitsO _ _) dX11_init_205 (fun H locs hW => ?_)
  obtain ⟨S_110, eS_110⟩ : ∃ z : wS, z = uR S_107 a0 13 (some y_103) := ⟨_, rfl⟩
  rw [← eS_110] at hW
  replace hp := hp S_110 eS_110
  have hX_S_110 : wX D S_107 S_110 := by rw [eS_110]; exact wX_uR
  have hE := hE.trans hX_S_110
  have hK_a0 : sK S_110 a0 = 16 := (hX_S_110.2 a0 hL_a0).1.trans hK_a0
  have hL_a0 : wM D S_110 a0 := hX_S_110.M hL_a0
  refine lv_aload_n hx hb dX11_init_208 rfl (lv_at hl 0 rfl) ?_
  obtain ⟨h_113, h_113b, hp⟩ := hp
  refine w_new (k := 1) (T := TJ4) F hK hW rfl (by decide) (fun w h => List.mem_cons_of_mem _ (wu_1 w h)) tyJ4 tyJ4_ok (hwg _ wc_RX11_102) (hwg _ wn_1) (hwg _ wi_java_lang_StringBuilder) wdef_1 (by show _ ≤ rC; omega) (by show _ ≤ rS; omega) dX11_init_209 (fun y_111 H hq_y_111 hW => ?_)
  replace hbc := w_spend hbc (show 1 ≤ (((((((((((((((((((((((((bc - 1) - 8) - 1) - 1) - 1) - 1) - m_34) - 1) - 4) - 1) - 5) - 1) - m_61) - 1) - 1) - 1) - 1) - 1) - 3) - 1) - 6) - 1) - 6) - 1) - m_108) by omega)
  replace hbs := w_spend hbs (show 4 ≤ (((((((((((((((((((((((((bs - 12) - 960) - 6) - 8) - 8) - 9) - z_35) - 8) - 3472) - 11) - 143) - 3) - z_62) - 1) - 3) - 1) - 3) - 4) - 5184) - 10) - 5208) - 8) - 18) - 4) - z_109) by omega)
  obtain ⟨S_112, eS_112⟩ : ∃ z : wS, z = nA S_110 y_111 1 0 := ⟨_, rfl⟩
  rw [← eS_112] at hW
  replace hp := hp y_111 hq_y_111 S_112 eS_112
  have hX_S_112 : wX D S_110 S_112 := by rw [eS_112]; exact wX_nA hq_y_111
  have hE := hE.trans hX_S_112
  have hK_a0 : sK S_112 a0 = 16 := (hX_S_112.2 a0 hL_a0).1.trans hK_a0
  have hL_a0 : wM D S_112 a0 := hX_S_112.M hL_a0
  have hL_y_111 : wM D S_112 y_111 := by rw [eS_112]; exact Or.inl (List.mem_append_right _ List.mem_cons_self)
  have hK_y_111 : sK S_112 y_111 = 1 := by rw [eS_112]; exact va_up_self _ _ _
  refine lv_dup hx hb dX11_init_212 rfl ?_
  obtain ⟨m_116, z_117, hm_116, hz_117, hp⟩ := hp
  refine w_callV (va_runI (As := []) (rest := [.ref y_111, .ref a0]) F (c_J4_init_da8c8 l hL_y_111 hK_y_111 hp H.size) (cwI 0 hts (wg_cons wy_J4_init_da8c8.2.2) rfl rfl rfl (hwg _ wy_J4_init_da8c8.2.1) (hwg _ wm_RX11_104) (hwg _ wy_J4_init_da8c8.1) rfl (by decide +kernel) ⟨Nat.le_of_ble_eq_true rfl, Nat.le_of_ble_eq_true rfl⟩) (w_preS hK hW) rfl rfl hl.1 rfl (lv_room (Nat.le_of_ble_eq_true rfl)) dX11_init_213 ⟨by show _ + m_116 ≤ rC; omega, by show _ + z_117 ≤ rS; omega⟩) hW (fun S_115 H locs hp hW => ?_)
  obtain ⟨hX_S_115, hp⟩ := hp
  refine W.widen (k := _ + m_116) (n := _ + z_117) (Nat.le_refl _) (Nat.le_refl _) ?_
  replace hbc := w_spend hbc (show m_116 ≤ ((((((((((((((((((((((((((bc - 1) - 8) - 1) - 1) - 1) - 1) - m_34) - 1) - 4) - 1) - 5) - 1) - m_61) - 1) - 1) - 1) - 1) - 1) - 3) - 1) - 6) - 1) - 6) - 1) - m_108) - 1) by omega)
  replace hbs := w_spend hbs (show z_117 ≤ ((((((((((((((((((((((((((bs - 12) - 960) - 6) - 8) - 8) - 9) - z_35) - 8) - 3472) - 11) - 143) - 3) - z_62) - 1) - 3) - 1) - 3) - 4) - 5184) - 10) - 5208) - 8) - 18) - 4) - z_109) - 4) by omega)
  have hE := hE.trans hX_S_115
  have hK_a0 : sK S_115 a0 = 16 := (hX_S_115.2 a0 hL_a0).1.trans hK_a0
  have hL_a0 : wM D S_115 a0 := hX_S_115.M hL_a0
  have hK_y_111 : sK S_115 y_111 = 1 := (hX_S_115.2 y_111 hL_y_111).1.trans hK_y_111
  have hL_y_111 : wM D S_115 y_111 := hX_S_115.M hL_y_111
  refine w_putRF (k := 16) (f := 14) (T := TX11) (g := (some y_111)) F hK hW hL_a0 hK_a0 (by decide) (by decide) rfl rfl (by decide) i_16 tyX11 tyX11_ok nmX11 k_109 rfl rfl hin rfl (ty := (.object "java/lang/StringBuilder")) rfl (v_narrow _ _) (v_fitsO _ _) dX11_init_216 (fun H locs hW => ?_)
  obtain ⟨S_118, eS_118⟩ : ∃ z : wS, z = uR S_115 a0 14 (some y_111) := ⟨_, rfl⟩
  rw [← eS_118] at hW
  replace hp := hp S_118 eS_118
  have hX_S_118 : wX D S_115 S_118 := by rw [eS_118]; exact wX_uR
  have hE := hE.trans hX_S_118
  have hK_a0 : sK S_118 a0 = 16 := (hX_S_118.2 a0 hL_a0).1.trans hK_a0
  have hL_a0 : wM D S_118 a0 := hX_S_118.M hL_a0
  refine lv_aload_n hx hb dX11_init_219 rfl (lv_at hl 0 rfl) ?_
  refine lv_bipush (v := 64) hx hb dX11_init_220 (by decide) ?_
  obtain ⟨h_121, h_121b, h_121c, h_121d, hp⟩ := hp
  refine w_newaI F hK hW (hwg _ wr_int) h_121 h_121b (by show _ ≤ rC; omega) (by show _ ≤ rS; omega) dX11_init_222 (fun y_119 H hq_y_119 hW => ?_)
  replace hbc := w_spend hbc (show 1 ≤ (((((((((((((((((((((((((((bc - 1) - 8) - 1) - 1) - 1) - 1) - m_34) - 1) - 4) - 1) - 5) - 1) - m_61) - 1) - 1) - 1) - 1) - 1) - 3) - 1) - 6) - 1) - 6) - 1) - m_108) - 1) - m_116) by omega)
  replace hbs := w_spend hbs (show ((64 : Int32)).toNatClampNeg ≤ (((((((((((((((((((((((((((bs - 12) - 960) - 6) - 8) - 8) - 9) - z_35) - 8) - 3472) - 11) - 143) - 3) - z_62) - 1) - 3) - 1) - 3) - 4) - 5184) - 10) - 5208) - 8) - 18) - 4) - z_109) - 4) - z_117) by omega)
  obtain ⟨S_120, eS_120⟩ : ∃ z : wS, z = nA S_118 y_119 21 ((64 : Int32)).toNatClampNeg := ⟨_, rfl⟩
  rw [← eS_120] at hW
  replace hp := hp y_119 hq_y_119 S_120 eS_120
  have hX_S_120 : wX D S_118 S_120 := by rw [eS_120]; exact wX_nA hq_y_119
  have hE := hE.trans hX_S_120
  have hK_a0 : sK S_120 a0 = 16 := (hX_S_120.2 a0 hL_a0).1.trans hK_a0
  have hL_a0 : wM D S_120 a0 := hX_S_120.M hL_a0
  have hL_y_119 : wM D S_120 y_119 := by rw [eS_120]; exact Or.inl (List.mem_append_right _ List.mem_cons_self)
  have hK_y_119 : sK S_120 y_119 = 21 := by rw [eS_120]; exact va_up_self _ _ _
  refine w_putRF (k := 16) (f := 15) (T := TX11) (g := (some y_119)) F hK hW hL_a0 hK_a0 (by decide) (by decide) rfl rfl (by decide) i_16 tyX11 tyX11_ok nmX11 k_112 rfl rfl hin rfl (ty := (.array .int)) rfl (v_narrow _ _) (v_fitsA _ _) dX11_init_224 (fun H locs hW => ?_)
  obtain ⟨S_122, eS_122⟩ : ∃ z : wS, z = uR S_120 a0 15 (some y_119) := ⟨_, rfl⟩
  rw [← eS_122] at hW
  replace hp := hp S_122 eS_122
  have hX_S_122 : wX D S_120 S_122 := by rw [eS_122]; exact wX_uR
  have hE := hE.trans hX_S_122
  have hK_a0 : sK S_122 a0 = 16 := (hX_S_122.2 a0 hL_a0).1.trans hK_a0
  have hL_a0 : wM D S_122 a0 := hX_S_122.M hL_a0
  refine lv_aload_n hx hb dX11_init_227 rfl (lv_at hl 0 rfl) ?_
  refine lv_iconst (v := 0) hx hb dX11_init_228 (by decide) ?_
  refine w_putI (k := 16) (f := 16) (T := TX11) F hK hW hL_a0 hK_a0 (by decide) (by decide) rfl rfl (by decide) i_16 tyX11 tyX11_ok nmX11 k_116 rfl rfl (ty := .int) rfl rfl rfl dX11_init_229 (fun H locs hW => ?_)
  obtain ⟨S_123, eS_123⟩ : ∃ z : wS, z = uI S_122 a0 16 (0 : Int32) := ⟨_, rfl⟩
  rw [← eS_123] at hW
  replace hp := hp S_123 eS_123
  have hX_S_123 : wX D S_122 S_123 := by rw [eS_123]; exact wX_uI
  have hE := hE.trans hX_S_123
  have hK_a0 : sK S_123 a0 = 16 := (hX_S_123.2 a0 hL_a0).1.trans hK_a0
  have hL_a0 : wM D S_123 a0 := hX_S_123.M hL_a0
  refine lv_aload_n hx hb dX11_init_232 rfl (lv_at hl 0 rfl) ?_
  refine lv_iconst (v := 0) hx hb dX11_init_233 (by decide) ?_
  refine w_putI (k := 16) (f := 17) (T := TX11) F hK hW hL_a0 hK_a0 (by decide) (by decide) rfl rfl (by decide) i_16 tyX11 tyX11_ok nmX11 k_120 rfl rfl (ty := .int) rfl rfl rfl dX11_init_234 (fun H locs hW => ?_)
  obtain ⟨S_124, eS_124⟩ : ∃ z : wS, z = uI S_123 a0 17 (0 : Int32) := ⟨_, rfl⟩
  rw [← eS_124] at hW
  replace hp := hp S_124 eS_124
  have hX_S_124 : wX D S_123 S_124 := by rw [eS_124]; exact wX_uI
  have hE := hE.trans hX_S_124
  have hK_a0 : sK S_124 a0 = 16 := (hX_S_124.2 a0 hL_a0).1.trans hK_a0
  have hL_a0 : wM D S_124 a0 := hX_S_124.M hL_a0
  refine lv_aload_n hx hb dX11_init_237 rfl (lv_at hl 0 rfl) ?_
  obtain ⟨y_125, ey_125, hL_y_125, hK_y_125, hp⟩ := hp
  refine w_get (k := 16) (f := 0) (T := TX11) (v := .ref y_125) F hK hW hL_a0 hK_a0 (by decide) rfl rfl (by decide) i_16 k_12 (by rw [show wv 16 0 S_124 a0 = va_rf (sR S_124 a0 0) from rfl, ey_125]; rfl) dX11_init_238 ?_
  refine lv_bipush (v := 8) hx hb dX11_init_241 (by decide) ?_
  refine lv_bipush (v := 8) hx hb dX11_init_243 (by decide) ?_
  refine w_callV (va_runV (As := [.int (8 : Int32), .int (8 : Int32)]) (rest := []) F (c_X0_lay l hL_y_125 hK_y_125 hp H.size) (cwV (C := RX0) 2 hts (wg_V wm_RX11_123 wy_X0_lay) rfl rfl rfl (by decide +kernel) ⟨Nat.le_of_ble_eq_true rfl, Nat.le_of_ble_eq_true rfl⟩) (w_preV hK hW hL_y_125 hK_y_125 (by decide) rfl) rfl rfl hl.1 rfl (lv_room (Nat.le_of_ble_eq_true rfl)) dX11_init_245 ⟨by show _ ≤ rC; exact Nat.le_trans (Nat.le_add_right _ _) hbc, by show _ ≤ rS; exact Nat.le_trans (Nat.le_add_right _ _) hbs⟩) hW (fun S_127 H locs hp hW => ?_)
  obtain ⟨hX_S_127, hp⟩ := hp
  refine w_same ?_
  have hE := hE.trans hX_S_127
  have hK_a0 : sK S_127 a0 = 16 := (hX_S_127.2 a0 hL_a0).1.trans hK_a0
  have hL_a0 : wM D S_127 a0 := hX_S_127.M hL_a0
  refine lv_aload_n hx hb dX11_init_248 rfl (lv_at hl 0 rfl) ?_
  obtain ⟨y_128, ey_128, hL_y_128, hK_y_128, hp⟩ := hp
  refine w_get (k := 16) (f := 2) (T := TX11) (v := .ref y_128) F hK hW hL_a0 hK_a0 (by decide) rfl rfl (by decide) i_16 k_28 (by rw [show wv 16 2 S_127 a0 = va_rf (sR S_127 a0 2) from rfl, ey_128]; rfl) dX11_init_249 ?_
  refine w_callV (va_runV (As := []) (rest := []) F (c_X7_setUpUsual l hL_y_128 hK_y_128 hp H.size) (cwV (C := RX7) 0 hts (wg_V wm_RX11_127 wy_X7_setUpUsual) rfl rfl rfl (by decide +kernel) ⟨Nat.le_of_ble_eq_true rfl, Nat.le_of_ble_eq_true rfl⟩) (w_preV hK hW hL_y_128 hK_y_128 (by decide) rfl) rfl rfl hl.1 rfl (lv_room (Nat.le_of_ble_eq_true rfl)) dX11_init_252 ⟨by show _ ≤ rC; exact Nat.le_trans (Nat.le_add_right _ _) hbc, by show _ ≤ rS; exact Nat.le_trans (Nat.le_add_right _ _) hbs⟩) hW (fun S_130 H locs hp hW => ?_)
  obtain ⟨hX_S_130, hp⟩ := hp
  refine w_same ?_
  have hE := hE.trans hX_S_130
  have hK_a0 : sK S_130 a0 = 16 := (hX_S_130.2 a0 hL_a0).1.trans hK_a0
  have hL_a0 : wM D S_130 a0 := hX_S_130.M hL_a0
  refine lv_aload_n hx hb dX11_init_255 rfl (lv_at hl 0 rfl) ?_
  obtain ⟨y_131, ey_131, hL_y_131, hK_y_131, hp⟩ := hp
  refine w_get (k := 16) (f := 4) (T := TX11) (v := .ref y_131) F hK hW hL_a0 hK_a0 (by decide) rfl rfl (by decide) i_16 k_40 (by rw [show wv 16 4 S_130 a0 = va_rf (sR S_130 a0 4) from rfl, ey_131]; rfl) dX11_init_256 ?_
  refine lv_aload_n hx hb dX11_init_259 rfl (lv_at hl 0 rfl) ?_
  obtain ⟨y_132, ey_132, hL_y_132, hK_y_132, hp⟩ := hp
  refine w_get (k := 16) (f := 2) (T := TX11) (v := .ref y_132) F hK hW hL_a0 hK_a0 (by decide) rfl rfl (by decide) i_16 k_28 (by rw [show wv 16 2 S_130 a0 = va_rf (sR S_130 a0 2) from rfl, ey_132]; rfl) dX11_init_260 ?_
  refine w_callV (va_runV (As := [.ref y_132]) (rest := []) F (c_X3_begin l hL_y_131 hK_y_131 hL_y_132 hK_y_132 hp H.size) (cwV (C := RX3) 1 hts (wg_V wm_RX11_130 wy_X3_begin) rfl rfl rfl (by decide +kernel) ⟨Nat.le_of_ble_eq_true rfl, Nat.le_of_ble_eq_true rfl⟩) (w_preV hK hW hL_y_131 hK_y_131 (by decide) rfl) rfl rfl hl.1 rfl (lv_room (Nat.le_of_ble_eq_true rfl)) dX11_init_263 ⟨by show _ ≤ rC; exact Nat.le_trans (Nat.le_add_right _ _) hbc, by show _ ≤ rS; exact Nat.le_trans (Nat.le_add_right _ _) hbs⟩) hW (fun S_134 H locs hp hW => ?_)
  obtain ⟨hX_S_134, hp⟩ := hp
  refine w_same ?_
  have hE := hE.trans hX_S_134
  have hK_a0 : sK S_134 a0 = 16 := (hX_S_134.2 a0 hL_a0).1.trans hK_a0
  have hL_a0 : wM D S_134 a0 := hX_S_134.M hL_a0
  refine lv_aload_n hx hb dX11_init_266 rfl (lv_at hl 0 rfl) ?_
  obtain ⟨y_135, ey_135, hL_y_135, hK_y_135, hp⟩ := hp
  refine w_get (k := 16) (f := 15) (T := TX11) (v := .ref y_135) F hK hW hL_a0 hK_a0 (by decide) rfl rfl (by decide) i_16 k_112 (by rw [show wv 16 15 S_134 a0 = va_rf (sR S_134 a0 15) from rfl, ey_135]; rfl) dX11_init_267 ?_
  refine lv_bipush (v := 15) hx hb dX11_init_270 (by decide) ?_
  refine w_callV (va_runS (As := [.ref y_135, .int (15 : Int32)]) (rest := []) F (c_J7_fill_53178 l hL_y_135 hK_y_135 hp H.size) (va_cwS 2 hts (wg_S wm_RX11_134 wy_J7_fill_53178) rfl rfl rfl (by decide +kernel) ⟨Nat.le_of_ble_eq_true rfl, Nat.le_of_ble_eq_true rfl⟩) (w_preS hK hW) rfl rfl hl.1 rfl (lv_room (Nat.le_of_ble_eq_true rfl)) dX11_init_272 ⟨by show _ ≤ rC; exact Nat.le_trans (Nat.le_add_right _ _) hbc, by show _ ≤ rS; exact Nat.le_trans (Nat.le_add_right _ _) hbs⟩) hW (fun S_137 H locs hp hW => ?_)
  obtain ⟨hX_S_137, hp⟩ := hp
  refine w_same ?_
  have hE := hE.trans hX_S_137
  have hK_a0 : sK S_137 a0 = 16 := (hX_S_137.2 a0 hL_a0).1.trans hK_a0
  have hL_a0 : wM D S_137 a0 := hX_S_137.M hL_a0
  refine W.widen (k := rC) (n := rS) (Nat.le_trans (Nat.le_add_right _ _) hbc) (Nat.le_trans (Nat.le_add_right _ _) hbs) ?_
  exact w_vret hx hb hr hlocks hW ⟨hE, hp⟩ dX11_init_275
set_option maxHeartbeats 4000000 in
set_option maxRecDepth 100000 in
theorem c_X11_init (l : Launch) {rC rS : Nat} {D : wD} {cy : Nat → ClassId} {X : va_W} {S0 : wS} {post : wS → Prop} {a0 : Nat} (hL_a0 : wM D S0 a0) (hK_a0 : sK S0 a0 = 16) (hp : wp_X11_init D post rC rS S0 a0) : mV D cy X l yX11_init wz_X11_init (r_X11_init rC rS) [.ref a0] S0 (fun S9 => wX D S0 S9 ∧ post S9) := by
  intro sz
  refine Met.ofW (cc := cX11_init) (maxL := 1) (ret := none) (by decide) rfl ?_
  intro p e s m args below meth c s₁ B hml hv
  obtain ⟨rfl, hsz, hP, hK, hD0, hRO⟩ := hv
  have hts := atoms_spec (ws := wz_X11_init) B.pre
  have hown : s.vm.findClass RX11 = some m.cls := findClass_of_methodNamed B.named
  subst hsz
  have hD := hD0.self (sz := s.heap.size)
  have F : CallFix p m c cX11_init 1 s _ wz_X11_init RX11 := ⟨B.exec, B.bytes, hml, hown, hts⟩
  have hr := B.returns
  have hlocks := B.notSynchronized
  have hin : meth.name = "<init>" := (name_of_methodNamed B.named B.method).1
  generalize hAe : va_A (wL cy X S0) s.heap.size = A at hD hK ⊢
  have hA : ∀ q, s.heap.size ≤ q → A q := fun q h => by rw [← hAe]; exact Or.inr h
  have hW : wO D cy X A s.heap S0 s.heap [] := ⟨hP, hD, va_S.rf, hA, hRO⟩
  have hl := lv_entry ([.ref a0]) (n := 1) (Nat.le_of_ble_eq_true rfl)
  rw [lg_entry_eq]
  generalize (lg_sl ([.ref a0]) ++ List.replicate (1 - (lg_sl ([.ref a0])).length) Slot.unset).toArray = ls at hl ⊢
  have hl : lv_has ls 1 [(0, .ref a0)] := hl
  unfold wp_X11_init at hp
  exact t_X11_init_0 F hr hlocks hK hin (Nat.le_of_eq (Nat.zero_add _)) (Nat.le_of_eq (Nat.zero_add _)) hp hW wX.rf (lv_sub hl [0] rfl) hL_a0 hK_a0
def wp_X11_meanLength_29 (D : wD) (post : UInt64 → wS → Prop) (xp : String → wS → Prop)  (S : wS) (t0 : UInt64) : Prop :=
post t0 S
def wp_X11_meanLength_0 (D : wD) (post : UInt64 → wS → Prop) (xp : String → wS → Prop)  (S : wS) (a0 : Nat) (x1 : Int32) : Prop :=
wp_X11_shelfOf D (fun r_1 S_2 => 
∃ y_3 : Nat, r_1 = some y_3 ∧ wM D S_2 y_3 ∧ sK S_2 y_3 = 15 ∧
wp_X10_size D (fun r_5 S_6 => 
(((Op.cmpValue (FP.dcmp (FP.i2d r_5) FP.dconst0) .l) ≤ 0 → wp_X11_meanLength_29 D post xp S_6 FP.dconst0) ∧
 (¬ (Op.cmpValue (FP.dcmp (FP.i2d r_5) FP.dconst0) .l) ≤ 0 → wp_X10_movesOfAll D (fun r_8 S_9 => 
vf_n64 (FP.ddiv (FP.i2d r_8) (FP.i2d r_5)) ∧
wp_X11_meanLength_29 D post xp S_9 (FP.ddiv (FP.i2d r_8) (FP.i2d r_5))) S_6 y_3))) S_2 y_3) xp S a0 x1
abbrev r_X11_meanLength : Room := { frames := 7, cells := 1, slots := 6, locals := 141 }
def wp_X11_meanLength (D : wD) (post : UInt64 → wS → Prop) (xp : String → wS → Prop) (S : wS) (a0 : Nat) (x1 : Int32) : Prop := wp_X11_meanLength_0 D post xp S a0 x1
set_option maxHeartbeats 4000000 in
set_option maxRecDepth 100000 in
theorem t_X11_meanLength_29 {p : Program} {l : Launch} {e : Env} {s : State} {m : MethodId} {args : Array Value} {below : List Frame} {meth : Method} {c : Code} {D : wD} {cy : Nat → ClassId} {X : va_W} {A : Nat → Prop} {S0 : wS} {post : UInt64 → wS → Prop} {xp : String → wS → Prop} (F : CallFix p m c cX11_meanLength 5 s args wz_X11_meanLength RX11) (hr : meth.sig.returnType = (some .double)) (hlocks : meth.locks = false) (hK : wK D cy A s) (hl0 : l.stackTraces = false) (hexc : ∀ x ∈ c.exceptionTable.toList, False) : ∀ {S : wS} {H : Heap} {locs : List Loc} {ls : Array Slot} {t0 : UInt64}, wp_X11_meanLength_29 D post xp S t0 → wO D cy X A s.heap S H locs → wX D S0 S → lv_has ls 5 [] → W p l e r_X11_meanLength s m args below meth c H locs 1 6 (vx_MQ below (va_Qd (fun r S9 => wX D S0 S9 ∧ post r S9) (wB D cy X A) A) (wEx D cy X A (fun E S9 => wX D S0 S9 ∧ xp E S9)) args s 1 6 A) (F0 m 29 ls [.double t0]) := by
  obtain ⟨hx, hb, hml, hown, hts⟩ := id F
  have hwg : ∀ w ∈ WG, w.before args s = true := fun w h => hts w (List.mem_cons_of_mem _ h)
  intro S H locs ls t0 hp hW hE hl
  unfold wp_X11_meanLength_29 at hp
  refine vx_ret ?_
  exact w_dret hx hb hr hlocks hW ⟨hE, hp⟩ dX11_meanLength_29
set_option maxHeartbeats 4000000 in
set_option maxRecDepth 100000 in
theorem t_X11_meanLength_0 {p : Program} {l : Launch} {e : Env} {s : State} {m : MethodId} {args : Array Value} {below : List Frame} {meth : Method} {c : Code} {D : wD} {cy : Nat → ClassId} {X : va_W} {A : Nat → Prop} {S0 : wS} {post : UInt64 → wS → Prop} {xp : String → wS → Prop} (F : CallFix p m c cX11_meanLength 5 s args wz_X11_meanLength RX11) (hr : meth.sig.returnType = (some .double)) (hlocks : meth.locks = false) (hK : wK D cy A s) (hl0 : l.stackTraces = false) (hexc : ∀ x ∈ c.exceptionTable.toList, False) : ∀ {S : wS} {H : Heap} {locs : List Loc} {ls : Array Slot} {a0 : Nat} {x1 : Int32}, wp_X11_meanLength_0 D post xp S a0 x1 → wO D cy X A s.heap S H locs → wX D S0 S → lv_has ls 5 [(0, .ref a0), (1, .int x1)] → wM D S a0 → sK S a0 = 16 → W p l e r_X11_meanLength s m args below meth c H locs 0 0 (vx_MQ below (va_Qd (fun r S9 => wX D S0 S9 ∧ post r S9) (wB D cy X A) A) (wEx D cy X A (fun E S9 => wX D S0 S9 ∧ xp E S9)) args s 1 6 A) (F0 m 0 ls []) := by
  obtain ⟨hx, hb, hml, hown, hts⟩ := id F
  have hwg : ∀ w ∈ WG, w.before args s = true := fun w h => hts w (List.mem_cons_of_mem _ h)
  intro S H locs ls a0 x1 hp hW hE hl hL_a0 hK_a0
  unfold wp_X11_meanLength_0 at hp
  refine lv_aload_n hx hb dX11_meanLength_0 rfl (lv_at hl 0 rfl) ?_
  refine lv_iload_n hx hb dX11_meanLength_1 rfl (lv_at hl 1 rfl) ?_
  refine x_callR (vx_runV (As := [.int x1]) (rest := []) F (c_X11_shelfOf l hl0 hL_a0 hK_a0 hp H.size) (cwV (C := RX11) 1 hts (wg_V wm_RX11_337 wy_X11_shelfOf) rfl rfl rfl (by decide +kernel) ⟨Nat.le_of_ble_eq_true rfl, Nat.le_of_ble_eq_true rfl⟩) (w_preV hK hW hL_a0 hK_a0 (by decide) rfl) rfl rfl hl.1 rfl (lv_room (Nat.le_of_ble_eq_true rfl)) dX11_meanLength_2 ⟨Nat.le_of_ble_eq_true rfl, Nat.le_of_ble_eq_true rfl⟩) hW (fun E ce q9 S9 H locs hp hW h1 h2 h3 => x_out hexc hlocks ⟨hE.trans hp.1, hp.2⟩ hW h1 h2 h3 (by decide) (by decide)) (fun r_1 S_2 H locs hp hW => ?_)
  obtain ⟨hX_S_2, hp⟩ := hp
  refine W.widen (k := 1) (n := 6) (by decide) (by decide) ?_
  have hE := hE.trans hX_S_2
  have hK_a0 : sK S_2 a0 = 16 := (hX_S_2.2 a0 hL_a0).1.trans hK_a0
  have hL_a0 : wM D S_2 a0 := hX_S_2.M hL_a0
  refine w_astore_n (lv' := [(2, va_rf r_1), (0, .ref a0), (1, .int x1)]) hx hb dX11_meanLength_5 rfl hl (by decide) rfl (fun ls hl => ?_)
  refine w_aload_n hx hb dX11_meanLength_6 rfl (lv_at hl 0 rfl) ?_
  obtain ⟨y_3, h_4, hL_y_3, hK_y_3, hp⟩ := hp
  revert hp; revert hl; revert hW; revert hE; subst h_4; intro hE hW hl hp
  refine w_callI (va_runV (As := []) (rest := []) F (c_X10_size l hL_y_3 hK_y_3 hp H.size) (cwV (C := RX10) 0 hts (wg_V wm_RX11_343 wy_X10_size) rfl rfl rfl (by decide +kernel) ⟨Nat.le_of_ble_eq_true rfl, Nat.le_of_ble_eq_true rfl⟩) (w_preV hK hW hL_y_3 hK_y_3 (by decide) rfl) rfl rfl hl.1 rfl (lv_room (Nat.le_of_ble_eq_true rfl)) dX11_meanLength_7 ⟨Nat.le_of_ble_eq_true rfl, Nat.le_of_ble_eq_true rfl⟩) hW (fun r_5 S_6 H locs hp hW => ?_)
  obtain ⟨hX_S_6, hp⟩ := hp
  refine W.widen (k := 1) (n := 6) (by decide) (by decide) ?_
  have hE := hE.trans hX_S_6
  have hK_a0 : sK S_6 a0 = 16 := (hX_S_6.2 a0 hL_a0).1.trans hK_a0
  have hL_a0 : wM D S_6 a0 := hX_S_6.M hL_a0
  have hK_y_3 : sK S_6 y_3 = 15 := (hX_S_6.2 y_3 hL_y_3).1.trans hK_y_3
  have hL_y_3 : wM D S_6 y_3 := hX_S_6.M hL_y_3
  refine lv_i2d hx hb dX11_meanLength_10 ?_
  refine lv_dstore_n (lv' := [(3, .double (FP.i2d r_5)), (2, .ref y_3), (0, .ref a0), (1, .int x1)]) hx hb dX11_meanLength_11 rfl hl (by decide) rfl (fun ls hl => ?_)
  refine lv_dload_n hx hb dX11_meanLength_12 rfl (lv_at hl 0 rfl) ?_
  refine lv_dconst0 hx hb dX11_meanLength_13 ?_
  refine lv_dcmp hx hb dX11_meanLength_14 ?_
  refine lv_if_le (tgt := 28) hx hb dX11_meanLength_15 (by decide) (fun c_7 => ?_) (fun c_7 => ?_)
  · replace hp := hp.1 c_7
    refine lv_dconst0 hx hb dX11_meanLength_28 ?_
    exact t_X11_meanLength_29 F hr hlocks hK hl0 hexc hp hW hE (lv_sub hl [] rfl)
  · replace hp := hp.2 c_7
    refine lv_aload_n hx hb dX11_meanLength_18 rfl (lv_at hl 1 rfl) ?_
    refine w_callI (va_runV (As := []) (rest := []) F (c_X10_movesOfAll l hL_y_3 hK_y_3 hp H.size) (cwV (C := RX10) 0 hts (wg_V wm_RX11_482 wy_X10_movesOfAll) rfl rfl rfl (by decide +kernel) ⟨Nat.le_of_ble_eq_true rfl, Nat.le_of_ble_eq_true rfl⟩) (w_preV hK hW hL_y_3 hK_y_3 (by decide) rfl) rfl rfl hl.1 rfl (lv_room (Nat.le_of_ble_eq_true rfl)) dX11_meanLength_19 ⟨Nat.le_of_ble_eq_true rfl, Nat.le_of_ble_eq_true rfl⟩) hW (fun r_8 S_9 H locs hp hW => ?_)
    obtain ⟨hX_S_9, hp⟩ := hp
    refine W.widen (k := 1) (n := 6) (by decide) (by decide) ?_
    have hE := hE.trans hX_S_9
    have hK_a0 : sK S_9 a0 = 16 := (hX_S_9.2 a0 hL_a0).1.trans hK_a0
    have hL_a0 : wM D S_9 a0 := hX_S_9.M hL_a0
    have hK_y_3 : sK S_9 y_3 = 15 := (hX_S_9.2 y_3 hL_y_3).1.trans hK_y_3
    have hL_y_3 : wM D S_9 y_3 := hX_S_9.M hL_y_3
    refine lv_i2d hx hb dX11_meanLength_22 ?_
    refine lv_dload_n hx hb dX11_meanLength_23 rfl (lv_at hl 0 rfl) ?_
    obtain ⟨h_10, hp⟩ := hp
    refine lv_ddiv hx hb dX11_meanLength_24 h_10 ?_
    refine lv_goto (tgt := 29) hx hb dX11_meanLength_25 (by decide) ?_
    exact t_X11_meanLength_29 F hr hlocks hK hl0 hexc hp hW hE (lv_sub hl [] rfl)
set_option maxHeartbeats 4000000 in
set_option maxRecDepth 100000 in
theorem c_X11_meanLength (l : Launch) {D : wD} {cy : Nat → ClassId} {X : va_W} {S0 : wS} {post : UInt64 → wS → Prop} {xp : String → wS → Prop} (hl0 : l.stackTraces = false) {a0 : Nat} {x1 : Int32} (hL_a0 : wM D S0 a0) (hK_a0 : sK S0 a0 = 16) (hp : wp_X11_meanLength D post xp S0 a0 x1) : xD D cy X l yX11_meanLength wz_X11_meanLength r_X11_meanLength [.ref a0, .int x1] S0 (fun r S9 => wX D S0 S9 ∧ post r S9) (fun E S9 => wX D S0 S9 ∧ xp E S9) := by
  intro sz
  refine vx_ofW (cc := cX11_meanLength) (maxL := 5) (ret := (some .double)) (by decide) rfl ?_
  intro p e s m args below meth c s₁ B hml hexc hv
  obtain ⟨rfl, hsz, hP, hK, hD0, hRO⟩ := hv
  have hts := atoms_spec (ws := wz_X11_meanLength) B.pre
  have hown : s.vm.findClass RX11 = some m.cls := findClass_of_methodNamed B.named
  subst hsz
  have hD := hD0.self (sz := s.heap.size)
  have F : CallFix p m c cX11_meanLength 5 s _ wz_X11_meanLength RX11 := ⟨B.exec, B.bytes, hml, hown, hts⟩
  have hr := B.returns
  have hlocks := B.notSynchronized
  generalize hAe : va_A (wL cy X S0) s.heap.size = A at hD hK ⊢
  have hA : ∀ q, s.heap.size ≤ q → A q := fun q h => by rw [← hAe]; exact Or.inr h
  have hW : wO D cy X A s.heap S0 s.heap [] := ⟨hP, hD, va_S.rf, hA, hRO⟩
  have hl := lv_entry ([.ref a0, .int x1]) (n := 5) (Nat.le_of_ble_eq_true rfl)
  rw [lg_entry_eq]
  generalize (lg_sl ([.ref a0, .int x1]) ++ List.replicate (5 - (lg_sl ([.ref a0, .int x1])).length) Slot.unset).toArray = ls at hl ⊢
  have hl : lv_has ls 5 [(0, .ref a0), (1, .int x1)] := hl
  unfold wp_X11_meanLength at hp
  exact t_X11_meanLength_0 F hr hlocks hK hl0 hexc hp hW wX.rf (lv_sub hl [0, 1] rfl) hL_a0 hK_a0
def wp_X11_meanStrength_70 (D : wD) (post : Int32 → wS → Prop) (xp : String → wS → Prop)  (S : wS) (x6 : Int32) (t0 : Int32) : Prop :=
¬ x6 = 0 ∧
post (t0 / x6) S
def wp_X11_meanStrength_0 (D : wD) (post : Int32 → wS → Prop) (xp : String → wS → Prop)  (S : wS) (a0 : Nat) (x1 : Int32) (x2 : Int32) : Prop :=
wp_X11_shelfOf D (fun r_1 S_2 => 
∃ y_3 : Nat, sR S_2 a0 2 = some y_3 ∧ wM D S_2 y_3 ∧ sK S_2 y_3 = 12 ∧
∃ y_4 : Nat, r_1 = some y_4 ∧ wM D S_2 y_4 ∧ sK S_2 y_4 = 15 ∧
wp_X10_passing D (fun r_6 S_7 => 
((¬ r_6 = 0 → ∃ y_9 : Nat, sR S_7 a0 2 = some y_9 ∧ wM D S_7 y_9 ∧ sK S_7 y_9 = 12 ∧
wp_X10_strengthsPassing D (fun r_10 S_11 => 
wp_X11_greatestDivisor D (fun r_12 S_13 => 
((¬ r_12 = 0 → ((x2 = 0 → wp_X11_meanStrength_70 D post xp S_13 r_12 r_10) ∧
 (¬ x2 = 0 → wp_X11_meanStrength_70 D post xp S_13 r_12 r_6))) ∧
 (r_12 = 0 → post (0 : Int32) S_13))) S_11 r_10 r_6) S_7 y_4 y_9) ∧
 (r_6 = 0 → xp "java/util/NoSuchElementException" S_7))) S_2 y_4 y_3 (-1 : Int32)) xp S a0 x1
abbrev r_X11_meanStrength : Room := { frames := 7, cells := 2, slots := 12, locals := 141 }
def wp_X11_meanStrength (D : wD) (post : Int32 → wS → Prop) (xp : String → wS → Prop) (S : wS) (a0 : Nat) (x1 : Int32) (x2 : Int32) : Prop := wp_X11_meanStrength_0 D post xp S a0 x1 x2
set_option maxHeartbeats 4000000 in
set_option maxRecDepth 100000 in
theorem t_X11_meanStrength_70 {p : Program} {l : Launch} {e : Env} {s : State} {m : MethodId} {args : Array Value} {below : List Frame} {meth : Method} {c : Code} {D : wD} {cy : Nat → ClassId} {X : va_W} {A : Nat → Prop} {S0 : wS} {post : Int32 → wS → Prop} {xp : String → wS → Prop} (F : CallFix p m c cX11_meanStrength 7 s args wz_X11_meanStrength RX11) (hr : meth.sig.returnType = (some .int)) (hlocks : meth.locks = false) (hK : wK D cy A s) (hl0 : l.stackTraces = false) (hexc : ∀ x ∈ c.exceptionTable.toList, False) : ∀ {S : wS} {H : Heap} {locs : List Loc} {ls : Array Slot} {x6 : Int32} {t0 : Int32}, wp_X11_meanStrength_70 D post xp S x6 t0 → wO D cy X A s.heap S H locs → wX D S0 S → lv_has ls 7 [(6, .int x6)] → W p l e r_X11_meanStrength s m args below meth c H locs 1 6 (vx_MQ below (va_Qi (fun r S9 => wX D S0 S9 ∧ post r S9) (wB D cy X A) A) (wEx D cy X A (fun E S9 => wX D S0 S9 ∧ xp E S9)) args s 2 12 A) (F0 m 70 ls [.int t0]) := by
  obtain ⟨hx, hb, hml, hown, hts⟩ := id F
  have hwg : ∀ w ∈ WG, w.before args s = true := fun w h => hts w (List.mem_cons_of_mem _ h)
  intro S H locs ls x6 t0 hp hW hE hl
  unfold wp_X11_meanStrength_70 at hp
  refine lv_iload hx hb dX11_meanStrength_70 (lv_at hl 0 rfl) ?_
  obtain ⟨h_1, hp⟩ := hp
  refine lv_idiv hx hb dX11_meanStrength_72 h_1 ?_
  refine W.widen (k := 2) (n := 12) (by decide) (by decide) ?_
  refine vx_ret ?_
  exact w_iret hx hb hr hlocks hW ⟨hE, hp⟩ dX11_meanStrength_73
set_option maxHeartbeats 4000000 in
set_option maxRecDepth 100000 in
theorem t_X11_meanStrength_0 {p : Program} {l : Launch} {e : Env} {s : State} {m : MethodId} {args : Array Value} {below : List Frame} {meth : Method} {c : Code} {D : wD} {cy : Nat → ClassId} {X : va_W} {A : Nat → Prop} {S0 : wS} {post : Int32 → wS → Prop} {xp : String → wS → Prop} (F : CallFix p m c cX11_meanStrength 7 s args wz_X11_meanStrength RX11) (hr : meth.sig.returnType = (some .int)) (hlocks : meth.locks = false) (hK : wK D cy A s) (hl0 : l.stackTraces = false) (hexc : ∀ x ∈ c.exceptionTable.toList, False) : ∀ {S : wS} {H : Heap} {locs : List Loc} {ls : Array Slot} {a0 : Nat} {x1 : Int32} {x2 : Int32}, wp_X11_meanStrength_0 D post xp S a0 x1 x2 → wO D cy X A s.heap S H locs → wX D S0 S → lv_has ls 7 [(0, .ref a0), (1, .int x1), (2, .int x2)] → wM D S a0 → sK S a0 = 16 → W p l e r_X11_meanStrength s m args below meth c H locs 0 0 (vx_MQ below (va_Qi (fun r S9 => wX D S0 S9 ∧ post r S9) (wB D cy X A) A) (wEx D cy X A (fun E S9 => wX D S0 S9 ∧ xp E S9)) args s 2 12 A) (F0 m 0 ls []) := by
  obtain ⟨hx, hb, hml, hown, hts⟩ := id F
  have hwg : ∀ w ∈ WG, w.before args s = true := fun w h => hts w (List.mem_cons_of_mem _ h)
  have i_16 : ∀ w ∈ u_ws RX11 TX11 18, w ∈ wz_X11_meanStrength := fun w h => List.mem_cons_of_mem _ (wu_16 w h)
  have k_28 := hwg _ wf_RX11_28
  intro S H locs ls a0 x1 x2 hp hW hE hl hL_a0 hK_a0
  unfold wp_X11_meanStrength_0 at hp
  refine lv_aload_n hx hb dX11_meanStrength_0 rfl (lv_at hl 0 rfl) ?_
  refine lv_iload_n hx hb dX11_meanStrength_1 rfl (lv_at hl 1 rfl) ?_
  refine x_callR (vx_runV (As := [.int x1]) (rest := []) F (c_X11_shelfOf l hl0 hL_a0 hK_a0 hp H.size) (cwV (C := RX11) 1 hts (wg_V wm_RX11_337 wy_X11_shelfOf) rfl rfl rfl (by decide +kernel) ⟨Nat.le_of_ble_eq_true rfl, Nat.le_of_ble_eq_true rfl⟩) (w_preV hK hW hL_a0 hK_a0 (by decide) rfl) rfl rfl hl.1 rfl (lv_room (Nat.le_of_ble_eq_true rfl)) dX11_meanStrength_2 ⟨Nat.le_of_ble_eq_true rfl, Nat.le_of_ble_eq_true rfl⟩) hW (fun E ce q9 S9 H locs hp hW h1 h2 h3 => x_out hexc hlocks ⟨hE.trans hp.1, hp.2⟩ hW h1 h2 h3 (by decide) (by decide)) (fun r_1 S_2 H locs hp hW => ?_)
  obtain ⟨hX_S_2, hp⟩ := hp
  refine W.widen (k := 1) (n := 6) (by decide) (by decide) ?_
  have hE := hE.trans hX_S_2
  have hK_a0 : sK S_2 a0 = 16 := (hX_S_2.2 a0 hL_a0).1.trans hK_a0
  have hL_a0 : wM D S_2 a0 := hX_S_2.M hL_a0
  refine w_astore_n (lv' := [(3, va_rf r_1), (0, .ref a0), (1, .int x1), (2, .int x2)]) hx hb dX11_meanStrength_5 rfl hl (by decide) rfl (fun ls hl => ?_)
  refine w_aload_n hx hb dX11_meanStrength_6 rfl (lv_at hl 0 rfl) ?_
  refine lv_aload_n hx hb dX11_meanStrength_7 rfl (lv_at hl 1 rfl) ?_
  obtain ⟨y_3, ey_3, hL_y_3, hK_y_3, hp⟩ := hp
  refine w_get (k := 16) (f := 2) (T := TX11) (v := .ref y_3) F hK hW hL_a0 hK_a0 (by decide) rfl rfl (by decide) i_16 k_28 (by rw [show wv 16 2 S_2 a0 = va_rf (sR S_2 a0 2) from rfl, ey_3]; rfl) dX11_meanStrength_8 ?_
  refine lv_iconst (v := (-1)) hx hb dX11_meanStrength_11 (by decide) ?_
  obtain ⟨y_4, h_5, hL_y_4, hK_y_4, hp⟩ := hp
  revert hp; revert hl; revert hW; revert hE; subst h_5; intro hE hW hl hp
  refine w_callI (va_runV (As := [.ref y_3, .int (-1 : Int32)]) (rest := []) F (c_X10_passing l hL_y_4 hK_y_4 hL_y_3 hK_y_3 hp H.size) (cwV (C := RX10) 2 hts (wg_V wm_RX11_362 wy_X10_passing) rfl rfl rfl (by decide +kernel) ⟨Nat.le_of_ble_eq_true rfl, Nat.le_of_ble_eq_true rfl⟩) (w_preV hK hW hL_y_4 hK_y_4 (by decide) rfl) rfl rfl hl.1 rfl (lv_room (Nat.le_of_ble_eq_true rfl)) dX11_meanStrength_12 ⟨Nat.le_of_ble_eq_true rfl, Nat.le_of_ble_eq_true rfl⟩) hW (fun r_6 S_7 H locs hp hW => ?_)
  obtain ⟨hX_S_7, hp⟩ := hp
  refine W.widen (k := 1) (n := 6) (by decide) (by decide) ?_
  have hE := hE.trans hX_S_7
  have hK_a0 : sK S_7 a0 = 16 := (hX_S_7.2 a0 hL_a0).1.trans hK_a0
  have hL_a0 : wM D S_7 a0 := hX_S_7.M hL_a0
  have hK_y_4 : sK S_7 y_4 = 15 := (hX_S_7.2 y_4 hL_y_4).1.trans hK_y_4
  have hL_y_4 : wM D S_7 y_4 := hX_S_7.M hL_y_4
  refine lv_istore (lv' := [(4, .int r_6), (3, .ref y_4), (0, .ref a0), (1, .int x1), (2, .int x2)]) hx hb dX11_meanStrength_15 hl (by decide) rfl (fun ls hl => ?_)
  refine lv_iload hx hb dX11_meanStrength_17 (lv_at hl 0 rfl) ?_
  refine lv_if_ne (tgt := 33) hx hb dX11_meanStrength_19 (by decide) (fun c_8 => ?_) (fun c_8 => ?_)
  · replace hp := hp.1 c_8
    refine lv_aload_n hx hb dX11_meanStrength_33 rfl (lv_at hl 1 rfl) ?_
    refine lv_aload_n hx hb dX11_meanStrength_34 rfl (lv_at hl 2 rfl) ?_
    obtain ⟨y_9, ey_9, hL_y_9, hK_y_9, hp⟩ := hp
    refine w_get (k := 16) (f := 2) (T := TX11) (v := .ref y_9) F hK hW hL_a0 hK_a0 (by decide) rfl rfl (by decide) i_16 k_28 (by rw [show wv 16 2 S_7 a0 = va_rf (sR S_7 a0 2) from rfl, ey_9]; rfl) dX11_meanStrength_35 ?_
    refine w_callI (va_runV (As := [.ref y_9]) (rest := []) F (c_X10_strengthsPassing l hL_y_4 hK_y_4 hL_y_9 hK_y_9 hp H.size) (cwV (C := RX10) 1 hts (wg_V wm_RX11_377 wy_X10_strengthsPassing) rfl rfl rfl (by decide +kernel) ⟨Nat.le_of_ble_eq_true rfl, Nat.le_of_ble_eq_true rfl⟩) (w_preV hK hW hL_y_4 hK_y_4 (by decide) rfl) rfl rfl hl.1 rfl (lv_room (Nat.le_of_ble_eq_true rfl)) dX11_meanStrength_38 ⟨Nat.le_of_ble_eq_true rfl, Nat.le_of_ble_eq_true rfl⟩) hW (fun r_10 S_11 H locs hp hW => ?_)
    obtain ⟨hX_S_11, hp⟩ := hp
    refine W.widen (k := 1) (n := 6) (by decide) (by decide) ?_
    have hE := hE.trans hX_S_11
    have hK_a0 : sK S_11 a0 = 16 := (hX_S_11.2 a0 hL_a0).1.trans hK_a0
    have hL_a0 : wM D S_11 a0 := hX_S_11.M hL_a0
    have hK_y_4 : sK S_11 y_4 = 15 := (hX_S_11.2 y_4 hL_y_4).1.trans hK_y_4
    have hL_y_4 : wM D S_11 y_4 := hX_S_11.M hL_y_4
    refine lv_istore (lv' := [(5, .int r_10), (4, .int r_6), (3, .ref y_4), (0, .ref a0), (1, .int x1), (2, .int x2)]) hx hb dX11_meanStrength_41 hl (by decide) rfl (fun ls hl => ?_)
    refine lv_iload hx hb dX11_meanStrength_43 (lv_at hl 0 rfl) ?_
    refine lv_iload hx hb dX11_meanStrength_45 (lv_at hl 1 rfl) ?_
    refine w_callI (va_runS (As := [.int r_10, .int r_6]) (rest := []) F (c_X11_greatestDivisor l hp H.size) (va_cwS 2 hts (wg_S wm_RX11_380 wy_X11_greatestDivisor) rfl rfl rfl (by decide +kernel) ⟨Nat.le_of_ble_eq_true rfl, Nat.le_of_ble_eq_true rfl⟩) (w_preS hK hW) rfl rfl hl.1 rfl (lv_room (Nat.le_of_ble_eq_true rfl)) dX11_meanStrength_47 ⟨Nat.le_of_ble_eq_true rfl, Nat.le_of_ble_eq_true rfl⟩) hW (fun r_12 S_13 H locs hp hW => ?_)
    obtain ⟨hX_S_13, hp⟩ := hp
    refine W.widen (k := 1) (n := 6) (by decide) (by decide) ?_
    have hE := hE.trans hX_S_13
    have hK_a0 : sK S_13 a0 = 16 := (hX_S_13.2 a0 hL_a0).1.trans hK_a0
    have hL_a0 : wM D S_13 a0 := hX_S_13.M hL_a0
    have hK_y_4 : sK S_13 y_4 = 15 := (hX_S_13.2 y_4 hL_y_4).1.trans hK_y_4
    have hL_y_4 : wM D S_13 y_4 := hX_S_13.M hL_y_4
    refine lv_istore (lv' := [(6, .int r_12), (5, .int r_10), (4, .int r_6), (3, .ref y_4), (0, .ref a0), (1, .int x1), (2, .int x2)]) hx hb dX11_meanStrength_50 hl (by decide) rfl (fun ls hl => ?_)
    refine lv_iload hx hb dX11_meanStrength_52 (lv_at hl 0 rfl) ?_
    refine lv_if_ne (tgt := 59) hx hb dX11_meanStrength_54 (by decide) (fun c_14 => ?_) (fun c_14 => ?_)
    · replace hp := hp.1 c_14
      refine lv_iload_n hx hb dX11_meanStrength_59 rfl (lv_at hl 6 rfl) ?_
      refine lv_if_eq (tgt := 68) hx hb dX11_meanStrength_60 (by decide) (fun c_15 => ?_) (fun c_15 => ?_)
      · replace hp := hp.1 c_15
        refine lv_iload hx hb dX11_meanStrength_68 (lv_at hl 1 rfl) ?_
        exact t_X11_meanStrength_70 F hr hlocks hK hl0 hexc hp hW hE (lv_sub hl [0] rfl)
      · replace hp := hp.2 c_15
        refine lv_iload hx hb dX11_meanStrength_63 (lv_at hl 2 rfl) ?_
        refine lv_goto (tgt := 70) hx hb dX11_meanStrength_65 (by decide) ?_
        exact t_X11_meanStrength_70 F hr hlocks hK hl0 hexc hp hW hE (lv_sub hl [0] rfl)
    · replace hp := hp.2 c_14
      refine lv_iconst (v := 0) hx hb dX11_meanStrength_57 (by decide) ?_
      refine W.widen (k := 2) (n := 12) (by decide) (by decide) ?_
      refine vx_ret ?_
      exact w_iret hx hb hr hlocks hW ⟨hE, hp⟩ dX11_meanStrength_58
  · replace hp := hp.2 c_8
    exact x_throwNW (ls := ls) F hK hW hl0 (hwg _ wc_RX11_372) (hwg _ wi_java_util_NoSuchElementException) (show ("OpeningsCabinet", 374, "no game passes through the present position", 37) ∈ wStr by decide +kernel) (wan_RX11_376 hwg hK.2.1) wan_RX11_376_ok hl.1 hexc hlocks dX11_meanStrength_22 dX11_meanStrength_25 dX11_meanStrength_26 dX11_meanStrength_29 dX11_meanStrength_32 (Nat.le_of_ble_eq_true rfl) (Nat.le_of_ble_eq_true rfl) (Nat.le_of_ble_eq_true rfl) (Nat.le_of_ble_eq_true rfl) (by decide) (by decide) ⟨hE, hp⟩
set_option maxHeartbeats 4000000 in
set_option maxRecDepth 100000 in
theorem c_X11_meanStrength (l : Launch) {D : wD} {cy : Nat → ClassId} {X : va_W} {S0 : wS} {post : Int32 → wS → Prop} {xp : String → wS → Prop} (hl0 : l.stackTraces = false) {a0 : Nat} {x1 : Int32} {x2 : Int32} (hL_a0 : wM D S0 a0) (hK_a0 : sK S0 a0 = 16) (hp : wp_X11_meanStrength D post xp S0 a0 x1 x2) : xI D cy X l yX11_meanStrength wz_X11_meanStrength r_X11_meanStrength [.ref a0, .int x1, .int x2] S0 (fun r S9 => wX D S0 S9 ∧ post r S9) (fun E S9 => wX D S0 S9 ∧ xp E S9) := by
  intro sz
  refine vx_ofW (cc := cX11_meanStrength) (maxL := 7) (ret := (some .int)) (by decide) rfl ?_
  intro p e s m args below meth c s₁ B hml hexc hv
  obtain ⟨rfl, hsz, hP, hK, hD0, hRO⟩ := hv
  have hts := atoms_spec (ws := wz_X11_meanStrength) B.pre
  have hown : s.vm.findClass RX11 = some m.cls := findClass_of_methodNamed B.named
  subst hsz
  have hD := hD0.self (sz := s.heap.size)
  have F : CallFix p m c cX11_meanStrength 7 s _ wz_X11_meanStrength RX11 := ⟨B.exec, B.bytes, hml, hown, hts⟩
  have hr := B.returns
  have hlocks := B.notSynchronized
  generalize hAe : va_A (wL cy X S0) s.heap.size = A at hD hK ⊢
  have hA : ∀ q, s.heap.size ≤ q → A q := fun q h => by rw [← hAe]; exact Or.inr h
  have hW : wO D cy X A s.heap S0 s.heap [] := ⟨hP, hD, va_S.rf, hA, hRO⟩
  have hl := lv_entry ([.ref a0, .int x1, .int x2]) (n := 7) (Nat.le_of_ble_eq_true rfl)
  rw [lg_entry_eq]
  generalize (lg_sl ([.ref a0, .int x1, .int x2]) ++ List.replicate (7 - (lg_sl ([.ref a0, .int x1, .int x2])).length) Slot.unset).toArray = ls at hl ⊢
  have hl : lv_has ls 7 [(0, .ref a0), (1, .int x1), (2, .int x2)] := hl
  unfold wp_X11_meanStrength at hp
  exact t_X11_meanStrength_0 F hr hlocks hK hl0 hexc hp hW wX.rf (lv_sub hl [0, 1, 2] rfl) hL_a0 hK_a0
def wp_X11_merge_72 (D : wD) (post : Int32 → wS → Prop) (k_4 : Nat → Nat → wS → Nat → Int32 → Int32 → Prop) (bc bs : Nat) (S : wS) (a0 : Nat) (x1 : Int32) (x2 : Int32) : Prop :=
∀ x_1 : Int32, x_1 = x2 + 1 →
k_4 bc bs S a0 x1 x_1
def wp_X11_merge_4 (D : wD) (post : Int32 → wS → Prop)  : Nat → Nat → Nat → wS → Nat → Int32 → Int32 → Prop
  | 0, _, _, _, _, _, _ => False
  | n + 1, bc, bs, S, a0, x1, x2 =>
    ∃ y_1 : Nat, sR S a0 9 = some y_1 ∧ wM D S y_1 ∧ sK S y_1 = 15 ∧
    wp_X10_size D (fun r_2 S_3 => 
    ((r_2 ≤ x2 → ∃ y_5 : Nat, sR S_3 a0 9 = some y_5 ∧ wM D S_3 y_5 ∧ sK S_3 y_5 = 15 ∧
    wp_X10_clear D (fun S_7 => 
    post x1 S_7) S_3 y_5) ∧
     (¬ r_2 ≤ x2 → ∃ y_8 : Nat, sR S_3 a0 9 = some y_8 ∧ wM D S_3 y_8 ∧ sK S_3 y_8 = 15 ∧
    wp_X10_gameAt D (fun r_9 S_10 => 
    ((r_9 = none → wp_X11_merge_72 D post (wp_X11_merge_4 D post n) bc bs S_10 a0 x1 x2) ∧
     (∀ y_11 : Nat, r_9 = some y_11 → wM D S_10 y_11 ∧ sK S_10 y_11 = 8 ∧ ∃ y_13 : Nat, sR S_10 a0 8 = some y_13 ∧ wM D S_10 y_13 ∧ sK S_10 y_13 = 15 ∧
    wp_X10_size D (fun r_14 S_15 => 
    (((40 : Int32) ≤ r_14 → wp_X11_merge_72 D post (wp_X11_merge_4 D post n) bc bs S_15 a0 x1 x2) ∧
     (¬ (40 : Int32) ≤ r_14 → ∃ y_17 : Nat, sR S_15 a0 8 = some y_17 ∧ wM D S_15 y_17 ∧ sK S_15 y_17 = 15 ∧
    wp_X10_hasLike D (fun r_18 S_19 => 
    ((¬ r_18 = 0 → wp_X11_merge_72 D post (wp_X11_merge_4 D post n) bc bs S_19 a0 x1 x2) ∧
     (r_18 = 0 → ∀ S_21 : wS, S_21 = uI S_19 y_11 7 (0 : Int32) →
    ∀ S_22 : wS, S_22 = uI S_21 y_11 8 (0 : Int32) →
    ∃ y_23 : Nat, sR S_22 a0 8 = some y_23 ∧ wM D S_22 y_23 ∧ sK S_22 y_23 = 15 ∧
    ∃ m_26 z_27 : Nat, m_26 ≤ bc ∧ z_27 ≤ bs ∧
    wp_X10_add D (fun S_25 => 
    ∀ x_28 : Int32, x_28 = x1 + 1 →
    wp_X11_merge_72 D post (wp_X11_merge_4 D post n) (bc - m_26) (bs - z_27) S_25 a0 x_28 x2) m_26 z_27 S_22 y_23 y_11))) S_15 y_17 y_11))) S_10 y_13))) S_3 y_8 x2))) S y_1
def wp_X11_merge_0 (D : wD) (post : Int32 → wS → Prop)  (bc bs : Nat) (S : wS) (a0 : Nat) : Prop :=
∃ n_1 : Nat, wp_X11_merge_4 D post n_1 bc bs S a0 (0 : Int32) (0 : Int32)
abbrev r_X11_merge (rC rS : Nat) : Room := { frames := 8, cells := rC, slots := rS, locals := 213 }
def wp_X11_merge (D : wD) (post : Int32 → wS → Prop) (bc bs : Nat) (S : wS) (a0 : Nat) : Prop := wp_X11_merge_0 D post bc bs S a0
set_option maxHeartbeats 4000000 in
set_option maxRecDepth 100000 in
theorem t_X11_merge_72 {p : Program} {l : Launch} {e : Env} {s : State} {m : MethodId} {args : Array Value} {below : List Frame} {meth : Method} {c : Code} {D : wD} {cy : Nat → ClassId} {X : va_W} {A : Nat → Prop} {S0 : wS} {rC rS : Nat} {post : Int32 → wS → Prop} (F : CallFix p m c cX11_merge 4 s args wz_X11_merge RX11) (hr : meth.sig.returnType = (some .int)) (hlocks : meth.locks = false) (hK : wK D cy A s) {k_4 : Nat → Nat → wS → Nat → Int32 → Int32 → Prop} (q_4 : ∀ {bc bs cells slots : Nat} (hbc : cells + bc ≤ rC) (hbs : slots + bs ≤ rS) {S : wS} {H : Heap} {locs : List Loc} {ls : Array Slot} {a0 : Nat} {x1 : Int32} {x2 : Int32}, k_4 bc bs S a0 x1 x2 → wO D cy X A s.heap S H locs → wX D S0 S → lv_has ls 4 [(0, .ref a0), (1, .int x1), (2, .int x2)] → wM D S a0 → sK S a0 = 16 → W p l e (r_X11_merge rC rS) s m args below meth c H locs cells slots (MQ below (va_Qi (fun r S9 => wX D S0 S9 ∧ post r S9) (wB D cy X A) A) args s rC rS A) (F0 m 4 ls [])) : ∀ {bc bs cells slots : Nat} (hbc : cells + bc ≤ rC) (hbs : slots + bs ≤ rS) {S : wS} {H : Heap} {locs : List Loc} {ls : Array Slot} {a0 : Nat} {x1 : Int32} {x2 : Int32}, wp_X11_merge_72 D post k_4 bc bs S a0 x1 x2 → wO D cy X A s.heap S H locs → wX D S0 S → lv_has ls 4 [(0, .ref a0), (1, .int x1), (2, .int x2)] → wM D S a0 → sK S a0 = 16 → W p l e (r_X11_merge rC rS) s m args below meth c H locs cells slots (MQ below (va_Qi (fun r S9 => wX D S0 S9 ∧ post r S9) (wB D cy X A) A) args s rC rS A) (F0 m 72 ls []) := by
  obtain ⟨hx, hb, hml, hown, hts⟩ := id F
  have hwg : ∀ w ∈ WG, w.before args s = true := fun w h => hts w (List.mem_cons_of_mem _ h)
  intro bc bs cells slots hbc hbs S H locs ls a0 x1 x2 hp hW hE hl hL_a0 hK_a0
  unfold wp_X11_merge_72 at hp
  obtain ⟨x_1, ex_1⟩ : ∃ z : Int32, z = x2 + 1 := ⟨_, rfl⟩
  replace hp := hp x_1 ex_1
  refine lv_iinc (v := x_1) (lv' := [(2, .int x_1), (0, .ref a0), (1, .int x1)]) hx hb dX11_merge_72 hl (k := 2) rfl (by rw [ex_1]; rfl) (by decide) rfl (fun ls hl => ?_)
  refine lv_goto (tgt := 4) hx hb dX11_merge_75 (by decide) ?_
  exact q_4 hbc hbs hp hW hE (lv_sub hl [1, 2, 0] rfl) hL_a0 hK_a0
set_option maxHeartbeats 4000000 in
set_option maxRecDepth 100000 in
theorem t_X11_merge_4 {p : Program} {l : Launch} {e : Env} {s : State} {m : MethodId} {args : Array Value} {below : List Frame} {meth : Method} {c : Code} {D : wD} {cy : Nat → ClassId} {X : va_W} {A : Nat → Prop} {S0 : wS} {rC rS : Nat} {post : Int32 → wS → Prop} (F : CallFix p m c cX11_merge 4 s args wz_X11_merge RX11) (hr : meth.sig.returnType = (some .int)) (hlocks : meth.locks = false) (hK : wK D cy A s) : ∀ (n : Nat) {bc bs cells slots : Nat} (hbc : cells + bc ≤ rC) (hbs : slots + bs ≤ rS) {S : wS} {H : Heap} {locs : List Loc} {ls : Array Slot} {a0 : Nat} {x1 : Int32} {x2 : Int32}, wp_X11_merge_4 D post n bc bs S a0 x1 x2 → wO D cy X A s.heap S H locs → wX D S0 S → lv_has ls 4 [(0, .ref a0), (1, .int x1), (2, .int x2)] → wM D S a0 → sK S a0 = 16 → W p l e (r_X11_merge rC rS) s m args below meth c H locs cells slots (MQ below (va_Qi (fun r S9 => wX D S0 S9 ∧ post r S9) (wB D cy X A) A) args s rC rS A) (F0 m 4 ls []) := by
  obtain ⟨hx, hb, hml, hown, hts⟩ := id F
  have hwg : ∀ w ∈ WG, w.before args s = true := fun w h => hts w (List.mem_cons_of_mem _ h)
  have i_16 : ∀ w ∈ u_ws RX11 TX11 18, w ∈ wz_X11_merge := fun w h => List.mem_cons_of_mem _ (wu_16 w h)
  have i_8 : ∀ w ∈ u_ws RX3 TX3 9, w ∈ wz_X11_merge := fun w h => List.mem_cons_of_mem _ (wu_8 w h)
  have k_72 := hwg _ wf_RX11_72
  have k_76 := hwg _ wf_RX11_76
  intro n
  induction n with
  | zero =>
    intro bc bs cells slots hbc hbs S H locs ls a0 x1 x2 hp
    exact hp.elim
  | succ n ih =>
    intro bc bs cells slots hbc hbs S H locs ls a0 x1 x2 hp hW hE hl hL_a0 hK_a0
    unfold wp_X11_merge_4 at hp
    refine lv_iload_n hx hb dX11_merge_4 rfl (lv_at hl 2 rfl) ?_
    refine lv_aload_n hx hb dX11_merge_5 rfl (lv_at hl 0 rfl) ?_
    obtain ⟨y_1, ey_1, hL_y_1, hK_y_1, hp⟩ := hp
    refine w_get (k := 16) (f := 9) (T := TX11) (v := .ref y_1) F hK hW hL_a0 hK_a0 (by decide) rfl rfl (by decide) i_16 k_76 (by rw [show wv 16 9 S a0 = va_rf (sR S a0 9) from rfl, ey_1]; rfl) dX11_merge_6 ?_
    refine w_callI (va_runV (As := []) (rest := [.int x2]) F (c_X10_size l hL_y_1 hK_y_1 hp H.size) (cwV (C := RX10) 0 hts (wg_V wm_RX11_343 wy_X10_size) rfl rfl rfl (by decide +kernel) ⟨Nat.le_of_ble_eq_true rfl, Nat.le_of_ble_eq_true rfl⟩) (w_preV hK hW hL_y_1 hK_y_1 (by decide) rfl) rfl rfl hl.1 rfl (lv_room (Nat.le_of_ble_eq_true rfl)) dX11_merge_9 ⟨by show _ ≤ rC; exact Nat.le_trans (Nat.le_add_right _ _) hbc, by show _ ≤ rS; exact Nat.le_trans (Nat.le_add_right _ _) hbs⟩) hW (fun r_2 S_3 H locs hp hW => ?_)
    obtain ⟨hX_S_3, hp⟩ := hp
    refine w_same ?_
    have hE := hE.trans hX_S_3
    have hK_a0 : sK S_3 a0 = 16 := (hX_S_3.2 a0 hL_a0).1.trans hK_a0
    have hL_a0 : wM D S_3 a0 := hX_S_3.M hL_a0
    refine lv_icmp_ge (tgt := 78) hx hb dX11_merge_12 (by decide) (fun c_4 => ?_) (fun c_4 => ?_)
    · replace hp := hp.1 c_4
      refine lv_aload_n hx hb dX11_merge_78 rfl (lv_at hl 0 rfl) ?_
      obtain ⟨y_5, ey_5, hL_y_5, hK_y_5, hp⟩ := hp
      refine w_get (k := 16) (f := 9) (T := TX11) (v := .ref y_5) F hK hW hL_a0 hK_a0 (by decide) rfl rfl (by decide) i_16 k_76 (by rw [show wv 16 9 S_3 a0 = va_rf (sR S_3 a0 9) from rfl, ey_5]; rfl) dX11_merge_79 ?_
      refine w_callV (va_runV (As := []) (rest := []) F (c_X10_clear l hL_y_5 hK_y_5 hp H.size) (cwV (C := RX10) 0 hts (wg_V wm_RX11_150 wy_X10_clear) rfl rfl rfl (by decide +kernel) ⟨Nat.le_of_ble_eq_true rfl, Nat.le_of_ble_eq_true rfl⟩) (w_preV hK hW hL_y_5 hK_y_5 (by decide) rfl) rfl rfl hl.1 rfl (lv_room (Nat.le_of_ble_eq_true rfl)) dX11_merge_82 ⟨by show _ ≤ rC; exact Nat.le_trans (Nat.le_add_right _ _) hbc, by show _ ≤ rS; exact Nat.le_trans (Nat.le_add_right _ _) hbs⟩) hW (fun S_7 H locs hp hW => ?_)
      obtain ⟨hX_S_7, hp⟩ := hp
      refine w_same ?_
      have hE := hE.trans hX_S_7
      have hK_a0 : sK S_7 a0 = 16 := (hX_S_7.2 a0 hL_a0).1.trans hK_a0
      have hL_a0 : wM D S_7 a0 := hX_S_7.M hL_a0
      refine lv_iload_n hx hb dX11_merge_85 rfl (lv_at hl 1 rfl) ?_
      refine W.widen (k := rC) (n := rS) (Nat.le_trans (Nat.le_add_right _ _) hbc) (Nat.le_trans (Nat.le_add_right _ _) hbs) ?_
      exact w_iret hx hb hr hlocks hW ⟨hE, hp⟩ dX11_merge_86
    · replace hp := hp.2 c_4
      refine lv_aload_n hx hb dX11_merge_15 rfl (lv_at hl 0 rfl) ?_
      obtain ⟨y_8, ey_8, hL_y_8, hK_y_8, hp⟩ := hp
      refine w_get (k := 16) (f := 9) (T := TX11) (v := .ref y_8) F hK hW hL_a0 hK_a0 (by decide) rfl rfl (by decide) i_16 k_76 (by rw [show wv 16 9 S_3 a0 = va_rf (sR S_3 a0 9) from rfl, ey_8]; rfl) dX11_merge_16 ?_
      refine lv_iload_n hx hb dX11_merge_19 rfl (lv_at hl 2 rfl) ?_
      refine w_callR (va_runV (As := [.int x2]) (rest := []) F (c_X10_gameAt l hL_y_8 hK_y_8 hp H.size) (cwV (C := RX10) 1 hts (wg_V wm_RX11_408 wy_X10_gameAt) rfl rfl rfl (by decide +kernel) ⟨Nat.le_of_ble_eq_true rfl, Nat.le_of_ble_eq_true rfl⟩) (w_preV hK hW hL_y_8 hK_y_8 (by decide) rfl) rfl rfl hl.1 rfl (lv_room (Nat.le_of_ble_eq_true rfl)) dX11_merge_20 ⟨by show _ ≤ rC; exact Nat.le_trans (Nat.le_add_right _ _) hbc, by show _ ≤ rS; exact Nat.le_trans (Nat.le_add_right _ _) hbs⟩) hW (fun r_9 S_10 H locs hp hW => ?_)
      obtain ⟨hX_S_10, hp⟩ := hp
      refine w_same ?_
      have hE := hE.trans hX_S_10
      have hK_a0 : sK S_10 a0 = 16 := (hX_S_10.2 a0 hL_a0).1.trans hK_a0
      have hL_a0 : wM D S_10 a0 := hX_S_10.M hL_a0
      refine w_astore_n (lv' := [(3, va_rf r_9), (0, .ref a0), (1, .int x1), (2, .int x2)]) hx hb dX11_merge_23 rfl hl (by decide) rfl (fun ls hl => ?_)
      refine w_aload_n hx hb dX11_merge_24 rfl (lv_at hl 0 rfl) ?_
      refine w_ifnull (tgt := 72) hx hb dX11_merge_25 (by decide) (fun h_12 => ?_) (fun y_11 h_12 => ?_)
      · replace hp := hp.1 h_12
        revert hp; revert hl; revert hW; revert hE; subst h_12; intro hE hW hl hp
        exact t_X11_merge_72 F hr hlocks hK ih hbc hbs hp hW hE (lv_sub hl [1, 2, 3] rfl) hL_a0 hK_a0
      · replace hp := hp.2 y_11 h_12
        revert hp; revert hl; revert hW; revert hE; subst h_12; intro hE hW hl hp
        obtain ⟨hL_y_11, hK_y_11, hp⟩ := hp
        refine lv_aload_n hx hb dX11_merge_28 rfl (lv_at hl 1 rfl) ?_
        obtain ⟨y_13, ey_13, hL_y_13, hK_y_13, hp⟩ := hp
        refine w_get (k := 16) (f := 8) (T := TX11) (v := .ref y_13) F hK hW hL_a0 hK_a0 (by decide) rfl rfl (by decide) i_16 k_72 (by rw [show wv 16 8 S_10 a0 = va_rf (sR S_10 a0 8) from rfl, ey_13]; rfl) dX11_merge_29 ?_
        refine w_callI (va_runV (As := []) (rest := []) F (c_X10_size l hL_y_13 hK_y_13 hp H.size) (cwV (C := RX10) 0 hts (wg_V wm_RX11_343 wy_X10_size) rfl rfl rfl (by decide +kernel) ⟨Nat.le_of_ble_eq_true rfl, Nat.le_of_ble_eq_true rfl⟩) (w_preV hK hW hL_y_13 hK_y_13 (by decide) rfl) rfl rfl hl.1 rfl (lv_room (Nat.le_of_ble_eq_true rfl)) dX11_merge_32 ⟨by show _ ≤ rC; exact Nat.le_trans (Nat.le_add_right _ _) hbc, by show _ ≤ rS; exact Nat.le_trans (Nat.le_add_right _ _) hbs⟩) hW (fun r_14 S_15 H locs hp hW => ?_)
        obtain ⟨hX_S_15, hp⟩ := hp
        refine w_same ?_
        have hE := hE.trans hX_S_15
        have hK_a0 : sK S_15 a0 = 16 := (hX_S_15.2 a0 hL_a0).1.trans hK_a0
        have hL_a0 : wM D S_15 a0 := hX_S_15.M hL_a0
        have hK_y_11 : sK S_15 y_11 = 8 := (hX_S_15.2 y_11 hL_y_11).1.trans hK_y_11
        have hL_y_11 : wM D S_15 y_11 := hX_S_15.M hL_y_11
        refine lv_bipush (v := 40) hx hb dX11_merge_35 (by decide) ?_
        refine lv_icmp_ge (tgt := 72) hx hb dX11_merge_37 (by decide) (fun c_16 => ?_) (fun c_16 => ?_)
        · replace hp := hp.1 c_16
          exact t_X11_merge_72 F hr hlocks hK ih hbc hbs hp hW hE (lv_sub hl [1, 2, 3] rfl) hL_a0 hK_a0
        · replace hp := hp.2 c_16
          refine lv_aload_n hx hb dX11_merge_40 rfl (lv_at hl 1 rfl) ?_
          obtain ⟨y_17, ey_17, hL_y_17, hK_y_17, hp⟩ := hp
          refine w_get (k := 16) (f := 8) (T := TX11) (v := .ref y_17) F hK hW hL_a0 hK_a0 (by decide) rfl rfl (by decide) i_16 k_72 (by rw [show wv 16 8 S_15 a0 = va_rf (sR S_15 a0 8) from rfl, ey_17]; rfl) dX11_merge_41 ?_
          refine lv_aload_n hx hb dX11_merge_44 rfl (lv_at hl 0 rfl) ?_
          refine w_callI (va_runV (As := [.ref y_11]) (rest := []) F (c_X10_hasLike l hL_y_17 hK_y_17 hL_y_11 hK_y_11 hp H.size) (cwV (C := RX10) 1 hts (wg_V wm_RX11_412 wy_X10_hasLike) rfl rfl rfl (by decide +kernel) ⟨Nat.le_of_ble_eq_true rfl, Nat.le_of_ble_eq_true rfl⟩) (w_preV hK hW hL_y_17 hK_y_17 (by decide) rfl) rfl rfl hl.1 rfl (lv_room (Nat.le_of_ble_eq_true rfl)) dX11_merge_45 ⟨by show _ ≤ rC; exact Nat.le_trans (Nat.le_add_right _ _) hbc, by show _ ≤ rS; exact Nat.le_trans (Nat.le_add_right _ _) hbs⟩) hW (fun r_18 S_19 H locs hp hW => ?_)
          obtain ⟨hX_S_19, hp⟩ := hp
          refine w_same ?_
          have hE := hE.trans hX_S_19
          have hK_a0 : sK S_19 a0 = 16 := (hX_S_19.2 a0 hL_a0).1.trans hK_a0
          have hL_a0 : wM D S_19 a0 := hX_S_19.M hL_a0
          have hK_y_11 : sK S_19 y_11 = 8 := (hX_S_19.2 y_11 hL_y_11).1.trans hK_y_11
          have hL_y_11 : wM D S_19 y_11 := hX_S_19.M hL_y_11
          refine lv_if_ne (tgt := 72) hx hb dX11_merge_48 (by decide) (fun c_20 => ?_) (fun c_20 => ?_)
          · replace hp := hp.1 c_20
            exact t_X11_merge_72 F hr hlocks hK ih hbc hbs hp hW hE (lv_sub hl [1, 2, 3] rfl) hL_a0 hK_a0
          · replace hp := hp.2 c_20
            refine lv_aload_n hx hb dX11_merge_51 rfl (lv_at hl 0 rfl) ?_
            refine lv_iconst (v := 0) hx hb dX11_merge_52 (by decide) ?_
            refine w_putIN (k := 8) (f := 7) (T := TX3) F hK hW hL_y_11 hK_y_11 (by decide) (by decide) rfl rfl (by decide) i_8 tyX3 tyX3_ok nmX3 (hK.2.1 (.fieldLinkNest "OpeningsCabinet" 416 "OpeningsCabinet$Game" "box" "I" "OpeningsCabinet") (by decide +kernel)) rfl rfl (ty := .int) rfl rfl rfl dX11_merge_53 (fun H locs hW => ?_)
            obtain ⟨S_21, eS_21⟩ : ∃ z : wS, z = uI S_19 y_11 7 (0 : Int32) := ⟨_, rfl⟩
            rw [← eS_21] at hW
            replace hp := hp S_21 eS_21
            have hX_S_21 : wX D S_19 S_21 := by rw [eS_21]; exact wX_uI
            have hE := hE.trans hX_S_21
            have hK_a0 : sK S_21 a0 = 16 := (hX_S_21.2 a0 hL_a0).1.trans hK_a0
            have hL_a0 : wM D S_21 a0 := hX_S_21.M hL_a0
            have hK_y_11 : sK S_21 y_11 = 8 := (hX_S_21.2 y_11 hL_y_11).1.trans hK_y_11
            have hL_y_11 : wM D S_21 y_11 := hX_S_21.M hL_y_11
            refine lv_aload_n hx hb dX11_merge_56 rfl (lv_at hl 0 rfl) ?_
            refine lv_iconst (v := 0) hx hb dX11_merge_57 (by decide) ?_
            refine w_putIN (k := 8) (f := 8) (T := TX3) F hK hW hL_y_11 hK_y_11 (by decide) (by decide) rfl rfl (by decide) i_8 tyX3 tyX3_ok nmX3 (hK.2.1 (.fieldLinkNest "OpeningsCabinet" 419 "OpeningsCabinet$Game" "due" "I" "OpeningsCabinet") (by decide +kernel)) rfl rfl (ty := .int) rfl rfl rfl dX11_merge_58 (fun H locs hW => ?_)
            obtain ⟨S_22, eS_22⟩ : ∃ z : wS, z = uI S_21 y_11 8 (0 : Int32) := ⟨_, rfl⟩
            rw [← eS_22] at hW
            replace hp := hp S_22 eS_22
            have hX_S_22 : wX D S_21 S_22 := by rw [eS_22]; exact wX_uI
            have hE := hE.trans hX_S_22
            have hK_a0 : sK S_22 a0 = 16 := (hX_S_22.2 a0 hL_a0).1.trans hK_a0
            have hL_a0 : wM D S_22 a0 := hX_S_22.M hL_a0
            have hK_y_11 : sK S_22 y_11 = 8 := (hX_S_22.2 y_11 hL_y_11).1.trans hK_y_11
            have hL_y_11 : wM D S_22 y_11 := hX_S_22.M hL_y_11
            refine lv_aload_n hx hb dX11_merge_61 rfl (lv_at hl 1 rfl) ?_
            obtain ⟨y_23, ey_23, hL_y_23, hK_y_23, hp⟩ := hp
            refine w_get (k := 16) (f := 8) (T := TX11) (v := .ref y_23) F hK hW hL_a0 hK_a0 (by decide) rfl rfl (by decide) i_16 k_72 (by rw [show wv 16 8 S_22 a0 = va_rf (sR S_22 a0 8) from rfl, ey_23]; rfl) dX11_merge_62 ?_
            refine lv_aload_n hx hb dX11_merge_65 rfl (lv_at hl 0 rfl) ?_
            obtain ⟨m_26, z_27, hm_26, hz_27, hp⟩ := hp
            refine w_callV (va_runV (As := [.ref y_11]) (rest := []) F (c_X10_add l hL_y_23 hK_y_23 hL_y_11 hK_y_11 hp H.size) (cwV (C := RX10) 1 hts (wg_V wm_RX11_351 wy_X10_add) rfl rfl rfl (by decide +kernel) ⟨Nat.le_of_ble_eq_true rfl, Nat.le_of_ble_eq_true rfl⟩) (w_preV hK hW hL_y_23 hK_y_23 (by decide) rfl) rfl rfl hl.1 rfl (lv_room (Nat.le_of_ble_eq_true rfl)) dX11_merge_66 ⟨by show _ + m_26 ≤ rC; omega, by show _ + z_27 ≤ rS; omega⟩) hW (fun S_25 H locs hp hW => ?_)
            obtain ⟨hX_S_25, hp⟩ := hp
            refine W.widen (k := _ + m_26) (n := _ + z_27) (Nat.le_refl _) (Nat.le_refl _) ?_
            replace hbc := w_spend hbc (show m_26 ≤ bc by omega)
            replace hbs := w_spend hbs (show z_27 ≤ bs by omega)
            have hE := hE.trans hX_S_25
            have hK_a0 : sK S_25 a0 = 16 := (hX_S_25.2 a0 hL_a0).1.trans hK_a0
            have hL_a0 : wM D S_25 a0 := hX_S_25.M hL_a0
            have hK_y_11 : sK S_25 y_11 = 8 := (hX_S_25.2 y_11 hL_y_11).1.trans hK_y_11
            have hL_y_11 : wM D S_25 y_11 := hX_S_25.M hL_y_11
            obtain ⟨x_28, ex_28⟩ : ∃ z : Int32, z = x1 + 1 := ⟨_, rfl⟩
            replace hp := hp x_28 ex_28
            refine lv_iinc (v := x_28) (lv' := [(1, .int x_28), (3, .ref y_11), (0, .ref a0), (2, .int x2)]) hx hb dX11_merge_69 hl (k := 2) rfl (by rw [ex_28]; rfl) (by decide) rfl (fun ls hl => ?_)
            exact t_X11_merge_72 F hr hlocks hK ih hbc hbs hp hW hE (lv_sub hl [2, 0, 3] rfl) hL_a0 hK_a0
set_option maxHeartbeats 4000000 in
set_option maxRecDepth 100000 in
theorem t_X11_merge_0 {p : Program} {l : Launch} {e : Env} {s : State} {m : MethodId} {args : Array Value} {below : List Frame} {meth : Method} {c : Code} {D : wD} {cy : Nat → ClassId} {X : va_W} {A : Nat → Prop} {S0 : wS} {rC rS : Nat} {post : Int32 → wS → Prop} (F : CallFix p m c cX11_merge 4 s args wz_X11_merge RX11) (hr : meth.sig.returnType = (some .int)) (hlocks : meth.locks = false) (hK : wK D cy A s) : ∀ {bc bs cells slots : Nat} (hbc : cells + bc ≤ rC) (hbs : slots + bs ≤ rS) {S : wS} {H : Heap} {locs : List Loc} {ls : Array Slot} {a0 : Nat}, wp_X11_merge_0 D post bc bs S a0 → wO D cy X A s.heap S H locs → wX D S0 S → lv_has ls 4 [(0, .ref a0)] → wM D S a0 → sK S a0 = 16 → W p l e (r_X11_merge rC rS) s m args below meth c H locs cells slots (MQ below (va_Qi (fun r S9 => wX D S0 S9 ∧ post r S9) (wB D cy X A) A) args s rC rS A) (F0 m 0 ls []) := by
  obtain ⟨hx, hb, hml, hown, hts⟩ := id F
  have hwg : ∀ w ∈ WG, w.before args s = true := fun w h => hts w (List.mem_cons_of_mem _ h)
  intro bc bs cells slots hbc hbs S H locs ls a0 hp hW hE hl hL_a0 hK_a0
  unfold wp_X11_merge_0 at hp
  refine lv_iconst (v := 0) hx hb dX11_merge_0 (by decide) ?_
  refine lv_istore_n (lv' := [(1, .int (0 : Int32)), (0, .ref a0)]) hx hb dX11_merge_1 rfl hl (by decide) rfl (fun ls hl => ?_)
  refine lv_iconst (v := 0) hx hb dX11_merge_2 (by decide) ?_
  refine lv_istore_n (lv' := [(2, .int (0 : Int32)), (1, .int (0 : Int32)), (0, .ref a0)]) hx hb dX11_merge_3 rfl hl (by decide) rfl (fun ls hl => ?_)
  obtain ⟨n_1, hp⟩ := hp
  exact t_X11_merge_4 F hr hlocks hK n_1 hbc hbs hp hW hE (lv_sub hl [2, 1, 0] rfl) hL_a0 hK_a0
set_option maxHeartbeats 4000000 in
set_option maxRecDepth 100000 in
theorem c_X11_merge (l : Launch) {rC rS : Nat} {D : wD} {cy : Nat → ClassId} {X : va_W} {S0 : wS} {post : Int32 → wS → Prop} {a0 : Nat} (hL_a0 : wM D S0 a0) (hK_a0 : sK S0 a0 = 16) (hp : wp_X11_merge D post rC rS S0 a0) : mI D cy X l yX11_merge wz_X11_merge (r_X11_merge rC rS) [.ref a0] S0 (fun r S9 => wX D S0 S9 ∧ post r S9) := by
  intro sz
  refine Met.ofW (cc := cX11_merge) (maxL := 4) (ret := (some .int)) (by decide) rfl ?_
  intro p e s m args below meth c s₁ B hml hv
  obtain ⟨rfl, hsz, hP, hK, hD0, hRO⟩ := hv
  have hts := atoms_spec (ws := wz_X11_merge) B.pre
  have hown : s.vm.findClass RX11 = some m.cls := findClass_of_methodNamed B.named
  subst hsz
  have hD := hD0.self (sz := s.heap.size)
  have F : CallFix p m c cX11_merge 4 s _ wz_X11_merge RX11 := ⟨B.exec, B.bytes, hml, hown, hts⟩
  have hr := B.returns
  have hlocks := B.notSynchronized
  generalize hAe : va_A (wL cy X S0) s.heap.size = A at hD hK ⊢
  have hA : ∀ q, s.heap.size ≤ q → A q := fun q h => by rw [← hAe]; exact Or.inr h
  have hW : wO D cy X A s.heap S0 s.heap [] := ⟨hP, hD, va_S.rf, hA, hRO⟩
  have hl := lv_entry ([.ref a0]) (n := 4) (Nat.le_of_ble_eq_true rfl)
  rw [lg_entry_eq]
  generalize (lg_sl ([.ref a0]) ++ List.replicate (4 - (lg_sl ([.ref a0])).length) Slot.unset).toArray = ls at hl ⊢
  have hl : lv_has ls 4 [(0, .ref a0)] := hl
  unfold wp_X11_merge at hp
  exact t_X11_merge_0 F hr hlocks hK (Nat.le_of_eq (Nat.zero_add _)) (Nat.le_of_eq (Nat.zero_add _)) hp hW wX.rf (lv_sub hl [0] rfl) hL_a0 hK_a0
def wp_X2_forget_18 (D : wD) (post : wS → Prop)  : Nat → wS → Nat → Int32 → Prop
  | 0, _, _, _ => False
  | n + 1, S, a0, x1 =>
    ∃ y_1 : Nat, sR S a0 1 = some y_1 ∧ wM D S y_1 ∧ sK S y_1 = 23 ∧
    (((Int32.ofNat (sN S y_1)) ≤ x1 → post S) ∧
     (¬ (Int32.ofNat (sN S y_1)) ≤ x1 → ∃ y_3 : Nat, sR S a0 1 = some y_3 ∧ wM D S y_3 ∧ sK S y_3 = 23 ∧
    y_3 ∈ sL S ∧ vp_in x1 (sN S y_3) ∧
    ∀ S_5 : wS, S_5 = uI S y_3 (x1).toNatClampNeg (vp_nar .boolean (0 : Int32)) →
    ∀ x_6 : Int32, x_6 = x1 + 1 →
    wp_X2_forget_18 D post n S_5 a0 x_6))
def wp_X2_forget_0 (D : wD) (post : wS → Prop)  (S : wS) (a0 : Nat) : Prop :=
∃ y_1 : Nat, sR S a0 2 = some y_1 ∧ wM D S y_1 ∧ sK S y_1 = 21 ∧
wp_J7_fill_53178 D (fun S_3 => 
∃ y_4 : Nat, sR S_3 a0 3 = some y_4 ∧ wM D S_3 y_4 ∧ sK S_3 y_4 = 21 ∧
wp_J7_fill_53178 D (fun S_6 => 
∃ n_7 : Nat, wp_X2_forget_18 D post n_7 S_6 a0 (0 : Int32)) S_3 y_4 (-1 : Int32)) S y_1 (0 : Int32)
abbrev r_X2_forget : Room := { frames := 1, cells := 0, slots := 0, locals := 23 }
def wp_X2_forget (D : wD) (post : wS → Prop) (S : wS) (a0 : Nat) : Prop := wp_X2_forget_0 D post S a0
set_option maxHeartbeats 4000000 in
set_option maxRecDepth 100000 in
theorem t_X2_forget_18 {p : Program} {l : Launch} {e : Env} {s : State} {m : MethodId} {args : Array Value} {below : List Frame} {meth : Method} {c : Code} {D : wD} {cy : Nat → ClassId} {X : va_W} {A : Nat → Prop} {S0 : wS} {post : wS → Prop} (F : CallFix p m c cX2_forget 2 s args wz_X2_forget RX2) (hr : meth.sig.returnType = none) (hlocks : meth.locks = false) (hK : wK D cy A s) : ∀ (n : Nat) {S : wS} {H : Heap} {locs : List Loc} {ls : Array Slot} {a0 : Nat} {x1 : Int32}, wp_X2_forget_18 D post n S a0 x1 → wO D cy X A s.heap S H locs → wX D S0 S → lv_has ls 2 [(0, .ref a0), (1, .int x1)] → wM D S a0 → sK S a0 = 7 → W p l e r_X2_forget s m args below meth c H locs 0 0 (MQ below (va_Qv (fun S9 => wX D S0 S9 ∧ post S9) (wB D cy X A) A) args s 0 0 A) (F0 m 18 ls []) := by
  obtain ⟨hx, hb, hml, hown, hts⟩ := id F
  have hwg : ∀ w ∈ WG, w.before args s = true := fun w h => hts w (List.mem_cons_of_mem _ h)
  have i_7 : ∀ w ∈ u_ws RX2 TX2 8, w ∈ wz_X2_forget := fun w h => List.mem_cons_of_mem _ (wu_7 w h)
  have k_11 := hwg _ wf_RX2_11
  intro n
  induction n with
  | zero =>
    intro S H locs ls a0 x1 hp
    exact hp.elim
  | succ n ih =>
    intro S H locs ls a0 x1 hp hW hE hl hL_a0 hK_a0
    unfold wp_X2_forget_18 at hp
    refine lv_iload_n hx hb dX2_forget_18 rfl (lv_at hl 1 rfl) ?_
    refine lv_aload_n hx hb dX2_forget_19 rfl (lv_at hl 0 rfl) ?_
    obtain ⟨y_1, ey_1, hL_y_1, hK_y_1, hp⟩ := hp
    refine w_get (k := 7) (f := 1) (T := TX2) (v := .ref y_1) F hK hW hL_a0 hK_a0 (by decide) rfl rfl (by decide) i_7 k_11 (by rw [show wv 7 1 S a0 = va_rf (sR S a0 1) from rfl, ey_1]; rfl) dX2_forget_20 ?_
    refine w_len F hK hW hL_y_1 hK_y_1 (by decide) dX2_forget_23 ?_
    refine lv_icmp_ge (tgt := 40) hx hb dX2_forget_24 (by decide) (fun c_2 => ?_) (fun c_2 => ?_)
    · replace hp := hp.1 c_2
      exact w_vret hx hb hr hlocks hW ⟨hE, hp⟩ dX2_forget_40
    · replace hp := hp.2 c_2
      refine lv_aload_n hx hb dX2_forget_27 rfl (lv_at hl 0 rfl) ?_
      obtain ⟨y_3, ey_3, hL_y_3, hK_y_3, hp⟩ := hp
      refine w_get (k := 7) (f := 1) (T := TX2) (v := .ref y_3) F hK hW hL_a0 hK_a0 (by decide) rfl rfl (by decide) i_7 k_11 (by rw [show wv 7 1 S a0 = va_rf (sR S a0 1) from rfl, ey_3]; rfl) dX2_forget_28 ?_
      refine lv_iload_n hx hb dX2_forget_31 rfl (lv_at hl 1 rfl) ?_
      refine lv_iconst (v := 0) hx hb dX2_forget_32 (by decide) ?_
      obtain ⟨h_4m, h_4, hp⟩ := hp
      refine w_zst F hK hW h_4m hK_y_3 h_4 dX2_forget_33 (fun H locs hW => ?_)
      obtain ⟨S_5, eS_5⟩ : ∃ z : wS, z = uI S y_3 (x1).toNatClampNeg (vp_nar .boolean (0 : Int32)) := ⟨_, rfl⟩
      rw [← eS_5] at hW
      replace hp := hp S_5 eS_5
      have hX_S_5 : wX D S S_5 := by rw [eS_5]; exact wX_uI
      have hE := hE.trans hX_S_5
      have hK_a0 : sK S_5 a0 = 7 := (hX_S_5.2 a0 hL_a0).1.trans hK_a0
      have hL_a0 : wM D S_5 a0 := hX_S_5.M hL_a0
      obtain ⟨x_6, ex_6⟩ : ∃ z : Int32, z = x1 + 1 := ⟨_, rfl⟩
      replace hp := hp x_6 ex_6
      refine lv_iinc (v := x_6) (lv' := [(1, .int x_6), (0, .ref a0)]) hx hb dX2_forget_34 hl (k := 1) rfl (by rw [ex_6]; rfl) (by decide) rfl (fun ls hl => ?_)
      refine lv_goto (tgt := 18) hx hb dX2_forget_37 (by decide) ?_
      exact ih hp hW hE (lv_sub hl [1, 0] rfl) hL_a0 hK_a0
set_option maxHeartbeats 4000000 in
set_option maxRecDepth 100000 in
theorem t_X2_forget_0 {p : Program} {l : Launch} {e : Env} {s : State} {m : MethodId} {args : Array Value} {below : List Frame} {meth : Method} {c : Code} {D : wD} {cy : Nat → ClassId} {X : va_W} {A : Nat → Prop} {S0 : wS} {post : wS → Prop} (F : CallFix p m c cX2_forget 2 s args wz_X2_forget RX2) (hr : meth.sig.returnType = none) (hlocks : meth.locks = false) (hK : wK D cy A s) : ∀ {S : wS} {H : Heap} {locs : List Loc} {ls : Array Slot} {a0 : Nat}, wp_X2_forget_0 D post S a0 → wO D cy X A s.heap S H locs → wX D S0 S → lv_has ls 2 [(0, .ref a0)] → wM D S a0 → sK S a0 = 7 → W p l e r_X2_forget s m args below meth c H locs 0 0 (MQ below (va_Qv (fun S9 => wX D S0 S9 ∧ post S9) (wB D cy X A) A) args s 0 0 A) (F0 m 0 ls []) := by
  obtain ⟨hx, hb, hml, hown, hts⟩ := id F
  have hwg : ∀ w ∈ WG, w.before args s = true := fun w h => hts w (List.mem_cons_of_mem _ h)
  have i_7 : ∀ w ∈ u_ws RX2 TX2 8, w ∈ wz_X2_forget := fun w h => List.mem_cons_of_mem _ (wu_7 w h)
  have k_15 := hwg _ wf_RX2_15
  have k_19 := hwg _ wf_RX2_19
  intro S H locs ls a0 hp hW hE hl hL_a0 hK_a0
  unfold wp_X2_forget_0 at hp
  refine lv_aload_n hx hb dX2_forget_0 rfl (lv_at hl 0 rfl) ?_
  obtain ⟨y_1, ey_1, hL_y_1, hK_y_1, hp⟩ := hp
  refine w_get (k := 7) (f := 2) (T := TX2) (v := .ref y_1) F hK hW hL_a0 hK_a0 (by decide) rfl rfl (by decide) i_7 k_15 (by rw [show wv 7 2 S a0 = va_rf (sR S a0 2) from rfl, ey_1]; rfl) dX2_forget_1 ?_
  refine lv_iconst (v := 0) hx hb dX2_forget_4 (by decide) ?_
  refine w_callV (va_runS (As := [.ref y_1, .int (0 : Int32)]) (rest := []) F (c_J7_fill_53178 l hL_y_1 hK_y_1 hp H.size) (va_cwS 2 hts (wg_S wm_RX2_39 wy_J7_fill_53178) rfl rfl rfl (by decide +kernel) ⟨Nat.le_of_ble_eq_true rfl, Nat.le_of_ble_eq_true rfl⟩) (w_preS hK hW) rfl rfl hl.1 rfl (lv_room (Nat.le_of_ble_eq_true rfl)) dX2_forget_5 ⟨Nat.le_of_ble_eq_true rfl, Nat.le_of_ble_eq_true rfl⟩) hW (fun S_3 H locs hp hW => ?_)
  obtain ⟨hX_S_3, hp⟩ := hp
  refine W.widen (k := 0) (n := 0) (by decide) (by decide) ?_
  have hE := hE.trans hX_S_3
  have hK_a0 : sK S_3 a0 = 7 := (hX_S_3.2 a0 hL_a0).1.trans hK_a0
  have hL_a0 : wM D S_3 a0 := hX_S_3.M hL_a0
  refine lv_aload_n hx hb dX2_forget_8 rfl (lv_at hl 0 rfl) ?_
  obtain ⟨y_4, ey_4, hL_y_4, hK_y_4, hp⟩ := hp
  refine w_get (k := 7) (f := 3) (T := TX2) (v := .ref y_4) F hK hW hL_a0 hK_a0 (by decide) rfl rfl (by decide) i_7 k_19 (by rw [show wv 7 3 S_3 a0 = va_rf (sR S_3 a0 3) from rfl, ey_4]; rfl) dX2_forget_9 ?_
  refine lv_iconst (v := (-1)) hx hb dX2_forget_12 (by decide) ?_
  refine w_callV (va_runS (As := [.ref y_4, .int (-1 : Int32)]) (rest := []) F (c_J7_fill_53178 l hL_y_4 hK_y_4 hp H.size) (va_cwS 2 hts (wg_S wm_RX2_39 wy_J7_fill_53178) rfl rfl rfl (by decide +kernel) ⟨Nat.le_of_ble_eq_true rfl, Nat.le_of_ble_eq_true rfl⟩) (w_preS hK hW) rfl rfl hl.1 rfl (lv_room (Nat.le_of_ble_eq_true rfl)) dX2_forget_13 ⟨Nat.le_of_ble_eq_true rfl, Nat.le_of_ble_eq_true rfl⟩) hW (fun S_6 H locs hp hW => ?_)
  obtain ⟨hX_S_6, hp⟩ := hp
  refine W.widen (k := 0) (n := 0) (by decide) (by decide) ?_
  have hE := hE.trans hX_S_6
  have hK_a0 : sK S_6 a0 = 7 := (hX_S_6.2 a0 hL_a0).1.trans hK_a0
  have hL_a0 : wM D S_6 a0 := hX_S_6.M hL_a0
  refine lv_iconst (v := 0) hx hb dX2_forget_16 (by decide) ?_
  refine lv_istore_n (lv' := [(1, .int (0 : Int32)), (0, .ref a0)]) hx hb dX2_forget_17 rfl hl (by decide) rfl (fun ls hl => ?_)
  obtain ⟨n_7, hp⟩ := hp
  exact t_X2_forget_18 F hr hlocks hK n_7 hp hW hE (lv_sub hl [1, 0] rfl) hL_a0 hK_a0
set_option maxHeartbeats 4000000 in
set_option maxRecDepth 100000 in
theorem c_X2_forget (l : Launch) {D : wD} {cy : Nat → ClassId} {X : va_W} {S0 : wS} {post : wS → Prop} {a0 : Nat} (hL_a0 : wM D S0 a0) (hK_a0 : sK S0 a0 = 7) (hp : wp_X2_forget D post S0 a0) : mV D cy X l yX2_forget wz_X2_forget r_X2_forget [.ref a0] S0 (fun S9 => wX D S0 S9 ∧ post S9) := by
  intro sz
  refine Met.ofW (cc := cX2_forget) (maxL := 2) (ret := none) (by decide) rfl ?_
  intro p e s m args below meth c s₁ B hml hv
  obtain ⟨rfl, hsz, hP, hK, hD0, hRO⟩ := hv
  have hts := atoms_spec (ws := wz_X2_forget) B.pre
  have hown : s.vm.findClass RX2 = some m.cls := findClass_of_methodNamed B.named
  subst hsz
  have hD := hD0.self (sz := s.heap.size)
  have F : CallFix p m c cX2_forget 2 s _ wz_X2_forget RX2 := ⟨B.exec, B.bytes, hml, hown, hts⟩
  have hr := B.returns
  have hlocks := B.notSynchronized
  generalize hAe : va_A (wL cy X S0) s.heap.size = A at hD hK ⊢
  have hA : ∀ q, s.heap.size ≤ q → A q := fun q h => by rw [← hAe]; exact Or.inr h
  have hW : wO D cy X A s.heap S0 s.heap [] := ⟨hP, hD, va_S.rf, hA, hRO⟩
  have hl := lv_entry ([.ref a0]) (n := 2) (Nat.le_of_ble_eq_true rfl)
  rw [lg_entry_eq]
  generalize (lg_sl ([.ref a0]) ++ List.replicate (2 - (lg_sl ([.ref a0])).length) Slot.unset).toArray = ls at hl ⊢
  have hl : lv_has ls 2 [(0, .ref a0)] := hl
  unfold wp_X2_forget at hp
  exact t_X2_forget_0 F hr hlocks hK hp hW wX.rf (lv_sub hl [0] rfl) hL_a0 hK_a0
def wp_X11_newBoard_22 (D : wD) (post : Int32 → wS → Prop) (xp : String → wS → Prop)  (S : wS) : Prop :=
xp "java/lang/IllegalArgumentException" S
def wp_X11_newBoard_0 (D : wD) (post : Int32 → wS → Prop) (xp : String → wS → Prop)  (S : wS) (a0 : Nat) (x1 : Int32) (x2 : Int32) : Prop :=
((x1 < (4 : Int32) → wp_X11_newBoard_22 D post xp S) ∧
 (¬ x1 < (4 : Int32) → (((8 : Int32) < x1 → wp_X11_newBoard_22 D post xp S) ∧
 (¬ (8 : Int32) < x1 → ((x2 < (4 : Int32) → wp_X11_newBoard_22 D post xp S) ∧
 (¬ x2 < (4 : Int32) → ((x2 ≤ (8 : Int32) → ∃ y_5 : Nat, sR S a0 0 = some y_5 ∧ wM D S y_5 ∧ sK S y_5 = 5 ∧
wp_X0_lay D (fun S_7 => 
∃ y_8 : Nat, sR S_7 a0 2 = some y_8 ∧ wM D S_7 y_8 ∧ sK S_7 y_8 = 12 ∧
wp_X7_clear D (fun S_10 => 
∃ y_11 : Nat, sR S_10 a0 4 = some y_11 ∧ wM D S_10 y_11 ∧ sK S_10 y_11 = 8 ∧
∃ y_12 : Nat, sR S_10 a0 2 = some y_12 ∧ wM D S_10 y_12 ∧ sK S_10 y_12 = 12 ∧
wp_X3_begin D (fun S_14 => 
∃ y_15 : Nat, sR S_14 a0 8 = some y_15 ∧ wM D S_14 y_15 ∧ sK S_14 y_15 = 15 ∧
wp_X10_clear D (fun S_17 => 
∃ y_18 : Nat, sR S_17 a0 9 = some y_18 ∧ wM D S_17 y_18 ∧ sK S_17 y_18 = 15 ∧
wp_X10_clear D (fun S_20 => 
∀ S_21 : wS, S_21 = uI S_20 a0 17 (0 : Int32) →
∃ y_22 : Nat, sR S_21 a0 12 = some y_22 ∧ wM D S_21 y_22 ∧ sK S_21 y_22 = 7 ∧
wp_X2_forget D (fun S_24 => 
∃ y_25 : Nat, sR S_24 a0 15 = some y_25 ∧ wM D S_24 y_25 ∧ sK S_24 y_25 = 21 ∧
wp_J7_fill_53178 D (fun S_27 => 
∃ y_28 : Nat, sR S_27 a0 0 = some y_28 ∧ wM D S_27 y_28 ∧ sK S_27 y_28 = 5 ∧
post (sI S_27 y_28 2) S_27) S_24 y_25 (15 : Int32)) S_21 y_22) S_17 y_18) S_14 y_15) S_10 y_11 y_12) S_7 y_8) S y_5 x1 x2) ∧
 (¬ x2 ≤ (8 : Int32) → wp_X11_newBoard_22 D post xp S))))))))
abbrev r_X11_newBoard : Room := { frames := 6, cells := 1, slots := 6, locals := 120 }
def wp_X11_newBoard (D : wD) (post : Int32 → wS → Prop) (xp : String → wS → Prop) (S : wS) (a0 : Nat) (x1 : Int32) (x2 : Int32) : Prop := wp_X11_newBoard_0 D post xp S a0 x1 x2
set_option maxHeartbeats 4000000 in
set_option maxRecDepth 100000 in
theorem t_X11_newBoard_22 {p : Program} {l : Launch} {e : Env} {s : State} {m : MethodId} {args : Array Value} {below : List Frame} {meth : Method} {c : Code} {D : wD} {cy : Nat → ClassId} {X : va_W} {A : Nat → Prop} {S0 : wS} {post : Int32 → wS → Prop} {xp : String → wS → Prop} (F : CallFix p m c cX11_newBoard 3 s args wz_X11_newBoard RX11) (hr : meth.sig.returnType = (some .int)) (hlocks : meth.locks = false) (hK : wK D cy A s) (hl0 : l.stackTraces = false) (hexc : ∀ x ∈ c.exceptionTable.toList, False) : ∀ {S : wS} {H : Heap} {locs : List Loc} {ls : Array Slot}, wp_X11_newBoard_22 D post xp S → wO D cy X A s.heap S H locs → wX D S0 S → lv_has ls 3 [] → W p l e r_X11_newBoard s m args below meth c H locs 0 0 (vx_MQ below (va_Qi (fun r S9 => wX D S0 S9 ∧ post r S9) (wB D cy X A) A) (wEx D cy X A (fun E S9 => wX D S0 S9 ∧ xp E S9)) args s 1 6 A) (F0 m 22 ls []) := by
  obtain ⟨hx, hb, hml, hown, hts⟩ := id F
  have hwg : ∀ w ∈ WG, w.before args s = true := fun w h => hts w (List.mem_cons_of_mem _ h)
  intro S H locs ls hp hW hE hl
  unfold wp_X11_newBoard_22 at hp
  exact x_throw (ls := ls) F hK hW hl0 (by decide) (hwg _ wc_RX11_140) (hwg _ wi_java_lang_IllegalArgumentException) (show ("OpeningsCabinet", 142, "a board has 4 to 8 files and ranks", 11) ∈ wStr by decide +kernel) (wa_RX11_144 hwg hK.2.1) wa_RX11_144_ok hl.1 hexc hlocks dX11_newBoard_22 dX11_newBoard_25 dX11_newBoard_26 dX11_newBoard_28 dX11_newBoard_31 (Nat.le_of_ble_eq_true rfl) (Nat.le_of_ble_eq_true rfl) (Nat.le_of_ble_eq_true rfl) (Nat.le_of_ble_eq_true rfl) (by decide) (by decide) ⟨hE, hp⟩
set_option maxHeartbeats 4000000 in
set_option maxRecDepth 100000 in
theorem t_X11_newBoard_0 {p : Program} {l : Launch} {e : Env} {s : State} {m : MethodId} {args : Array Value} {below : List Frame} {meth : Method} {c : Code} {D : wD} {cy : Nat → ClassId} {X : va_W} {A : Nat → Prop} {S0 : wS} {post : Int32 → wS → Prop} {xp : String → wS → Prop} (F : CallFix p m c cX11_newBoard 3 s args wz_X11_newBoard RX11) (hr : meth.sig.returnType = (some .int)) (hlocks : meth.locks = false) (hK : wK D cy A s) (hl0 : l.stackTraces = false) (hexc : ∀ x ∈ c.exceptionTable.toList, False) : ∀ {S : wS} {H : Heap} {locs : List Loc} {ls : Array Slot} {a0 : Nat} {x1 : Int32} {x2 : Int32}, wp_X11_newBoard_0 D post xp S a0 x1 x2 → wO D cy X A s.heap S H locs → wX D S0 S → lv_has ls 3 [(0, .ref a0), (1, .int x1), (2, .int x2)] → wM D S a0 → sK S a0 = 16 → W p l e r_X11_newBoard s m args below meth c H locs 0 0 (vx_MQ below (va_Qi (fun r S9 => wX D S0 S9 ∧ post r S9) (wB D cy X A) A) (wEx D cy X A (fun E S9 => wX D S0 S9 ∧ xp E S9)) args s 1 6 A) (F0 m 0 ls []) := by
  obtain ⟨hx, hb, hml, hown, hts⟩ := id F
  have hwg : ∀ w ∈ WG, w.before args s = true := fun w h => hts w (List.mem_cons_of_mem _ h)
  have i_16 : ∀ w ∈ u_ws RX11 TX11 18, w ∈ wz_X11_newBoard := fun w h => List.mem_cons_of_mem _ (wu_16 w h)
  have i_5 : ∀ w ∈ u_ws RX0 TX0 12, w ∈ wz_X11_newBoard := fun w h => List.mem_cons_of_mem _ (wu_5 w h)
  have k_112 := hwg _ wf_RX11_112
  have k_12 := hwg _ wf_RX11_12
  have k_120 := hwg _ wf_RX11_120
  have k_28 := hwg _ wf_RX11_28
  have k_40 := hwg _ wf_RX11_40
  have k_72 := hwg _ wf_RX11_72
  have k_76 := hwg _ wf_RX11_76
  have k_98 := hwg _ wf_RX11_98
  intro S H locs ls a0 x1 x2 hp hW hE hl hL_a0 hK_a0
  unfold wp_X11_newBoard_0 at hp
  refine lv_iload_n hx hb dX11_newBoard_0 rfl (lv_at hl 1 rfl) ?_
  refine lv_iconst (v := 4) hx hb dX11_newBoard_1 (by decide) ?_
  refine lv_icmp_lt (tgt := 22) hx hb dX11_newBoard_2 (by decide) (fun c_1 => ?_) (fun c_1 => ?_)
  · replace hp := hp.1 c_1
    exact t_X11_newBoard_22 F hr hlocks hK hl0 hexc hp hW hE (lv_sub hl [] rfl)
  · replace hp := hp.2 c_1
    refine lv_iload_n hx hb dX11_newBoard_5 rfl (lv_at hl 1 rfl) ?_
    refine lv_bipush (v := 8) hx hb dX11_newBoard_6 (by decide) ?_
    refine lv_icmp_gt (tgt := 22) hx hb dX11_newBoard_8 (by decide) (fun c_2 => ?_) (fun c_2 => ?_)
    · replace hp := hp.1 c_2
      exact t_X11_newBoard_22 F hr hlocks hK hl0 hexc hp hW hE (lv_sub hl [] rfl)
    · replace hp := hp.2 c_2
      refine lv_iload_n hx hb dX11_newBoard_11 rfl (lv_at hl 2 rfl) ?_
      refine lv_iconst (v := 4) hx hb dX11_newBoard_12 (by decide) ?_
      refine lv_icmp_lt (tgt := 22) hx hb dX11_newBoard_13 (by decide) (fun c_3 => ?_) (fun c_3 => ?_)
      · replace hp := hp.1 c_3
        exact t_X11_newBoard_22 F hr hlocks hK hl0 hexc hp hW hE (lv_sub hl [] rfl)
      · replace hp := hp.2 c_3
        refine lv_iload_n hx hb dX11_newBoard_16 rfl (lv_at hl 2 rfl) ?_
        refine lv_bipush (v := 8) hx hb dX11_newBoard_17 (by decide) ?_
        refine lv_icmp_le (tgt := 32) hx hb dX11_newBoard_19 (by decide) (fun c_4 => ?_) (fun c_4 => ?_)
        · replace hp := hp.1 c_4
          refine lv_aload_n hx hb dX11_newBoard_32 rfl (lv_at hl 0 rfl) ?_
          obtain ⟨y_5, ey_5, hL_y_5, hK_y_5, hp⟩ := hp
          refine w_get (k := 16) (f := 0) (T := TX11) (v := .ref y_5) F hK hW hL_a0 hK_a0 (by decide) rfl rfl (by decide) i_16 k_12 (by rw [show wv 16 0 S a0 = va_rf (sR S a0 0) from rfl, ey_5]; rfl) dX11_newBoard_33 ?_
          refine lv_iload_n hx hb dX11_newBoard_36 rfl (lv_at hl 1 rfl) ?_
          refine lv_iload_n hx hb dX11_newBoard_37 rfl (lv_at hl 2 rfl) ?_
          refine w_callV (va_runV (As := [.int x1, .int x2]) (rest := []) F (c_X0_lay l hL_y_5 hK_y_5 hp H.size) (cwV (C := RX0) 2 hts (wg_V wm_RX11_123 wy_X0_lay) rfl rfl rfl (by decide +kernel) ⟨Nat.le_of_ble_eq_true rfl, Nat.le_of_ble_eq_true rfl⟩) (w_preV hK hW hL_y_5 hK_y_5 (by decide) rfl) rfl rfl hl.1 rfl (lv_room (Nat.le_of_ble_eq_true rfl)) dX11_newBoard_38 ⟨Nat.le_of_ble_eq_true rfl, Nat.le_of_ble_eq_true rfl⟩) hW (fun S_7 H locs hp hW => ?_)
          obtain ⟨hX_S_7, hp⟩ := hp
          refine W.widen (k := 0) (n := 0) (by decide) (by decide) ?_
          have hE := hE.trans hX_S_7
          have hK_a0 : sK S_7 a0 = 16 := (hX_S_7.2 a0 hL_a0).1.trans hK_a0
          have hL_a0 : wM D S_7 a0 := hX_S_7.M hL_a0
          refine lv_aload_n hx hb dX11_newBoard_41 rfl (lv_at hl 0 rfl) ?_
          obtain ⟨y_8, ey_8, hL_y_8, hK_y_8, hp⟩ := hp
          refine w_get (k := 16) (f := 2) (T := TX11) (v := .ref y_8) F hK hW hL_a0 hK_a0 (by decide) rfl rfl (by decide) i_16 k_28 (by rw [show wv 16 2 S_7 a0 = va_rf (sR S_7 a0 2) from rfl, ey_8]; rfl) dX11_newBoard_42 ?_
          refine w_callV (va_runV (As := []) (rest := []) F (c_X7_clear l hL_y_8 hK_y_8 hp H.size) (cwV (C := RX7) 0 hts (wg_V wm_RX11_147 wy_X7_clear) rfl rfl rfl (by decide +kernel) ⟨Nat.le_of_ble_eq_true rfl, Nat.le_of_ble_eq_true rfl⟩) (w_preV hK hW hL_y_8 hK_y_8 (by decide) rfl) rfl rfl hl.1 rfl (lv_room (Nat.le_of_ble_eq_true rfl)) dX11_newBoard_45 ⟨Nat.le_of_ble_eq_true rfl, Nat.le_of_ble_eq_true rfl⟩) hW (fun S_10 H locs hp hW => ?_)
          obtain ⟨hX_S_10, hp⟩ := hp
          refine W.widen (k := 0) (n := 0) (by decide) (by decide) ?_
          have hE := hE.trans hX_S_10
          have hK_a0 : sK S_10 a0 = 16 := (hX_S_10.2 a0 hL_a0).1.trans hK_a0
          have hL_a0 : wM D S_10 a0 := hX_S_10.M hL_a0
          refine lv_aload_n hx hb dX11_newBoard_48 rfl (lv_at hl 0 rfl) ?_
          obtain ⟨y_11, ey_11, hL_y_11, hK_y_11, hp⟩ := hp
          refine w_get (k := 16) (f := 4) (T := TX11) (v := .ref y_11) F hK hW hL_a0 hK_a0 (by decide) rfl rfl (by decide) i_16 k_40 (by rw [show wv 16 4 S_10 a0 = va_rf (sR S_10 a0 4) from rfl, ey_11]; rfl) dX11_newBoard_49 ?_
          refine lv_aload_n hx hb dX11_newBoard_52 rfl (lv_at hl 0 rfl) ?_
          obtain ⟨y_12, ey_12, hL_y_12, hK_y_12, hp⟩ := hp
          refine w_get (k := 16) (f := 2) (T := TX11) (v := .ref y_12) F hK hW hL_a0 hK_a0 (by decide) rfl rfl (by decide) i_16 k_28 (by rw [show wv 16 2 S_10 a0 = va_rf (sR S_10 a0 2) from rfl, ey_12]; rfl) dX11_newBoard_53 ?_
          refine w_callV (va_runV (As := [.ref y_12]) (rest := []) F (c_X3_begin l hL_y_11 hK_y_11 hL_y_12 hK_y_12 hp H.size) (cwV (C := RX3) 1 hts (wg_V wm_RX11_130 wy_X3_begin) rfl rfl rfl (by decide +kernel) ⟨Nat.le_of_ble_eq_true rfl, Nat.le_of_ble_eq_true rfl⟩) (w_preV hK hW hL_y_11 hK_y_11 (by decide) rfl) rfl rfl hl.1 rfl (lv_room (Nat.le_of_ble_eq_true rfl)) dX11_newBoard_56 ⟨Nat.le_of_ble_eq_true rfl, Nat.le_of_ble_eq_true rfl⟩) hW (fun S_14 H locs hp hW => ?_)
          obtain ⟨hX_S_14, hp⟩ := hp
          refine W.widen (k := 0) (n := 0) (by decide) (by decide) ?_
          have hE := hE.trans hX_S_14
          have hK_a0 : sK S_14 a0 = 16 := (hX_S_14.2 a0 hL_a0).1.trans hK_a0
          have hL_a0 : wM D S_14 a0 := hX_S_14.M hL_a0
          refine lv_aload_n hx hb dX11_newBoard_59 rfl (lv_at hl 0 rfl) ?_
          obtain ⟨y_15, ey_15, hL_y_15, hK_y_15, hp⟩ := hp
          refine w_get (k := 16) (f := 8) (T := TX11) (v := .ref y_15) F hK hW hL_a0 hK_a0 (by decide) rfl rfl (by decide) i_16 k_72 (by rw [show wv 16 8 S_14 a0 = va_rf (sR S_14 a0 8) from rfl, ey_15]; rfl) dX11_newBoard_60 ?_
          refine w_callV (va_runV (As := []) (rest := []) F (c_X10_clear l hL_y_15 hK_y_15 hp H.size) (cwV (C := RX10) 0 hts (wg_V wm_RX11_150 wy_X10_clear) rfl rfl rfl (by decide +kernel) ⟨Nat.le_of_ble_eq_true rfl, Nat.le_of_ble_eq_true rfl⟩) (w_preV hK hW hL_y_15 hK_y_15 (by decide) rfl) rfl rfl hl.1 rfl (lv_room (Nat.le_of_ble_eq_true rfl)) dX11_newBoard_63 ⟨Nat.le_of_ble_eq_true rfl, Nat.le_of_ble_eq_true rfl⟩) hW (fun S_17 H locs hp hW => ?_)
          obtain ⟨hX_S_17, hp⟩ := hp
          refine W.widen (k := 0) (n := 0) (by decide) (by decide) ?_
          have hE := hE.trans hX_S_17
          have hK_a0 : sK S_17 a0 = 16 := (hX_S_17.2 a0 hL_a0).1.trans hK_a0
          have hL_a0 : wM D S_17 a0 := hX_S_17.M hL_a0
          refine lv_aload_n hx hb dX11_newBoard_66 rfl (lv_at hl 0 rfl) ?_
          obtain ⟨y_18, ey_18, hL_y_18, hK_y_18, hp⟩ := hp
          refine w_get (k := 16) (f := 9) (T := TX11) (v := .ref y_18) F hK hW hL_a0 hK_a0 (by decide) rfl rfl (by decide) i_16 k_76 (by rw [show wv 16 9 S_17 a0 = va_rf (sR S_17 a0 9) from rfl, ey_18]; rfl) dX11_newBoard_67 ?_
          refine w_callV (va_runV (As := []) (rest := []) F (c_X10_clear l hL_y_18 hK_y_18 hp H.size) (cwV (C := RX10) 0 hts (wg_V wm_RX11_150 wy_X10_clear) rfl rfl rfl (by decide +kernel) ⟨Nat.le_of_ble_eq_true rfl, Nat.le_of_ble_eq_true rfl⟩) (w_preV hK hW hL_y_18 hK_y_18 (by decide) rfl) rfl rfl hl.1 rfl (lv_room (Nat.le_of_ble_eq_true rfl)) dX11_newBoard_70 ⟨Nat.le_of_ble_eq_true rfl, Nat.le_of_ble_eq_true rfl⟩) hW (fun S_20 H locs hp hW => ?_)
          obtain ⟨hX_S_20, hp⟩ := hp
          refine W.widen (k := 0) (n := 0) (by decide) (by decide) ?_
          have hE := hE.trans hX_S_20
          have hK_a0 : sK S_20 a0 = 16 := (hX_S_20.2 a0 hL_a0).1.trans hK_a0
          have hL_a0 : wM D S_20 a0 := hX_S_20.M hL_a0
          refine lv_aload_n hx hb dX11_newBoard_73 rfl (lv_at hl 0 rfl) ?_
          refine lv_iconst (v := 0) hx hb dX11_newBoard_74 (by decide) ?_
          refine w_putI (k := 16) (f := 17) (T := TX11) F hK hW hL_a0 hK_a0 (by decide) (by decide) rfl rfl (by decide) i_16 tyX11 tyX11_ok nmX11 k_120 rfl rfl (ty := .int) rfl rfl rfl dX11_newBoard_75 (fun H locs hW => ?_)
          obtain ⟨S_21, eS_21⟩ : ∃ z : wS, z = uI S_20 a0 17 (0 : Int32) := ⟨_, rfl⟩
          rw [← eS_21] at hW
          replace hp := hp S_21 eS_21
          have hX_S_21 : wX D S_20 S_21 := by rw [eS_21]; exact wX_uI
          have hE := hE.trans hX_S_21
          have hK_a0 : sK S_21 a0 = 16 := (hX_S_21.2 a0 hL_a0).1.trans hK_a0
          have hL_a0 : wM D S_21 a0 := hX_S_21.M hL_a0
          refine lv_aload_n hx hb dX11_newBoard_78 rfl (lv_at hl 0 rfl) ?_
          obtain ⟨y_22, ey_22, hL_y_22, hK_y_22, hp⟩ := hp
          refine w_get (k := 16) (f := 12) (T := TX11) (v := .ref y_22) F hK hW hL_a0 hK_a0 (by decide) rfl rfl (by decide) i_16 k_98 (by rw [show wv 16 12 S_21 a0 = va_rf (sR S_21 a0 12) from rfl, ey_22]; rfl) dX11_newBoard_79 ?_
          refine w_callV (va_runV (As := []) (rest := []) F (c_X2_forget l hL_y_22 hK_y_22 hp H.size) (cwV (C := RX2) 0 hts (wg_V wm_RX11_151 wy_X2_forget) rfl rfl rfl (by decide +kernel) ⟨Nat.le_of_ble_eq_true rfl, Nat.le_of_ble_eq_true rfl⟩) (w_preV hK hW hL_y_22 hK_y_22 (by decide) rfl) rfl rfl hl.1 rfl (lv_room (Nat.le_of_ble_eq_true rfl)) dX11_newBoard_82 ⟨Nat.le_of_ble_eq_true rfl, Nat.le_of_ble_eq_true rfl⟩) hW (fun S_24 H locs hp hW => ?_)
          obtain ⟨hX_S_24, hp⟩ := hp
          refine W.widen (k := 0) (n := 0) (by decide) (by decide) ?_
          have hE := hE.trans hX_S_24
          have hK_a0 : sK S_24 a0 = 16 := (hX_S_24.2 a0 hL_a0).1.trans hK_a0
          have hL_a0 : wM D S_24 a0 := hX_S_24.M hL_a0
          refine lv_aload_n hx hb dX11_newBoard_85 rfl (lv_at hl 0 rfl) ?_
          obtain ⟨y_25, ey_25, hL_y_25, hK_y_25, hp⟩ := hp
          refine w_get (k := 16) (f := 15) (T := TX11) (v := .ref y_25) F hK hW hL_a0 hK_a0 (by decide) rfl rfl (by decide) i_16 k_112 (by rw [show wv 16 15 S_24 a0 = va_rf (sR S_24 a0 15) from rfl, ey_25]; rfl) dX11_newBoard_86 ?_
          refine lv_bipush (v := 15) hx hb dX11_newBoard_89 (by decide) ?_
          refine w_callV (va_runS (As := [.ref y_25, .int (15 : Int32)]) (rest := []) F (c_J7_fill_53178 l hL_y_25 hK_y_25 hp H.size) (va_cwS 2 hts (wg_S wm_RX11_134 wy_J7_fill_53178) rfl rfl rfl (by decide +kernel) ⟨Nat.le_of_ble_eq_true rfl, Nat.le_of_ble_eq_true rfl⟩) (w_preS hK hW) rfl rfl hl.1 rfl (lv_room (Nat.le_of_ble_eq_true rfl)) dX11_newBoard_91 ⟨Nat.le_of_ble_eq_true rfl, Nat.le_of_ble_eq_true rfl⟩) hW (fun S_27 H locs hp hW => ?_)
          obtain ⟨hX_S_27, hp⟩ := hp
          refine W.widen (k := 0) (n := 0) (by decide) (by decide) ?_
          have hE := hE.trans hX_S_27
          have hK_a0 : sK S_27 a0 = 16 := (hX_S_27.2 a0 hL_a0).1.trans hK_a0
          have hL_a0 : wM D S_27 a0 := hX_S_27.M hL_a0
          refine lv_aload_n hx hb dX11_newBoard_94 rfl (lv_at hl 0 rfl) ?_
          obtain ⟨y_28, ey_28, hL_y_28, hK_y_28, hp⟩ := hp
          refine w_get (k := 16) (f := 0) (T := TX11) (v := .ref y_28) F hK hW hL_a0 hK_a0 (by decide) rfl rfl (by decide) i_16 k_12 (by rw [show wv 16 0 S_27 a0 = va_rf (sR S_27 a0 0) from rfl, ey_28]; rfl) dX11_newBoard_95 ?_
          refine w_getN (k := 5) (f := 2) (T := TX0) (v := .int (sI S_27 y_28 2)) F hK hW hL_y_28 hK_y_28 (by decide) rfl rfl (by decide) i_5 (hK.2.1 (.fieldLinkNest "OpeningsCabinet" 154 "OpeningsCabinet$Board" "size" "I" "OpeningsCabinet") (by decide +kernel)) rfl dX11_newBoard_98 ?_
          refine W.widen (k := 1) (n := 6) (by decide) (by decide) ?_
          refine vx_ret ?_
          exact w_iret hx hb hr hlocks hW ⟨hE, hp⟩ dX11_newBoard_101
        · replace hp := hp.2 c_4
          exact t_X11_newBoard_22 F hr hlocks hK hl0 hexc hp hW hE (lv_sub hl [] rfl)
set_option maxHeartbeats 4000000 in
set_option maxRecDepth 100000 in
theorem c_X11_newBoard (l : Launch) {D : wD} {cy : Nat → ClassId} {X : va_W} {S0 : wS} {post : Int32 → wS → Prop} {xp : String → wS → Prop} (hl0 : l.stackTraces = false) {a0 : Nat} {x1 : Int32} {x2 : Int32} (hL_a0 : wM D S0 a0) (hK_a0 : sK S0 a0 = 16) (hp : wp_X11_newBoard D post xp S0 a0 x1 x2) : xI D cy X l yX11_newBoard wz_X11_newBoard r_X11_newBoard [.ref a0, .int x1, .int x2] S0 (fun r S9 => wX D S0 S9 ∧ post r S9) (fun E S9 => wX D S0 S9 ∧ xp E S9) := by
  intro sz
  refine vx_ofW (cc := cX11_newBoard) (maxL := 3) (ret := (some .int)) (by decide) rfl ?_
  intro p e s m args below meth c s₁ B hml hexc hv
  obtain ⟨rfl, hsz, hP, hK, hD0, hRO⟩ := hv
  have hts := atoms_spec (ws := wz_X11_newBoard) B.pre
  have hown : s.vm.findClass RX11 = some m.cls := findClass_of_methodNamed B.named
  subst hsz
  have hD := hD0.self (sz := s.heap.size)
  have F : CallFix p m c cX11_newBoard 3 s _ wz_X11_newBoard RX11 := ⟨B.exec, B.bytes, hml, hown, hts⟩
  have hr := B.returns
  have hlocks := B.notSynchronized
  generalize hAe : va_A (wL cy X S0) s.heap.size = A at hD hK ⊢
  have hA : ∀ q, s.heap.size ≤ q → A q := fun q h => by rw [← hAe]; exact Or.inr h
  have hW : wO D cy X A s.heap S0 s.heap [] := ⟨hP, hD, va_S.rf, hA, hRO⟩
  have hl := lv_entry ([.ref a0, .int x1, .int x2]) (n := 3) (Nat.le_of_ble_eq_true rfl)
  rw [lg_entry_eq]
  generalize (lg_sl ([.ref a0, .int x1, .int x2]) ++ List.replicate (3 - (lg_sl ([.ref a0, .int x1, .int x2])).length) Slot.unset).toArray = ls at hl ⊢
  have hl : lv_has ls 3 [(0, .ref a0), (1, .int x1), (2, .int x2)] := hl
  unfold wp_X11_newBoard at hp
  exact t_X11_newBoard_0 F hr hlocks hK hl0 hexc hp hW wX.rf (lv_sub hl [0, 1, 2] rfl) hL_a0 hK_a0
def wp_X11_outputByte_15 (D : wD) (post : Int32 → wS → Prop) (xp : String → wS → Prop)  (S : wS) : Prop :=
xp "java/lang/IndexOutOfBoundsException" S
def wp_X11_outputByte_0 (D : wD) (post : Int32 → wS → Prop) (xp : String → wS → Prop)  (S : wS) (a0 : Nat) (x1 : Int32) : Prop :=
((x1 < 0 → wp_X11_outputByte_15 D post xp S) ∧
 (¬ x1 < 0 → ∃ y_2 : Nat, sR S a0 14 = some y_2 ∧ wM D S y_2 ∧ sK S y_2 = 1 ∧
wp_J4_length_8abf5 D (fun r_3 S_4 => 
((x1 < r_3 → ∃ y_6 : Nat, sR S_4 a0 14 = some y_6 ∧ wM D S_4 y_6 ∧ sK S_4 y_6 = 1 ∧
wp_J4_charAt_5068e D (fun r_7 S_8 => 
post r_7 S_8) S_4 y_6 x1) ∧
 (¬ x1 < r_3 → wp_X11_outputByte_15 D post xp S_4))) S y_2))
abbrev r_X11_outputByte : Room := { frames := 6, cells := 1, slots := 6, locals := 120 }
def wp_X11_outputByte (D : wD) (post : Int32 → wS → Prop) (xp : String → wS → Prop) (S : wS) (a0 : Nat) (x1 : Int32) : Prop := wp_X11_outputByte_0 D post xp S a0 x1
set_option maxHeartbeats 4000000 in
set_option maxRecDepth 100000 in
theorem t_X11_outputByte_15 {p : Program} {l : Launch} {e : Env} {s : State} {m : MethodId} {args : Array Value} {below : List Frame} {meth : Method} {c : Code} {D : wD} {cy : Nat → ClassId} {X : va_W} {A : Nat → Prop} {S0 : wS} {post : Int32 → wS → Prop} {xp : String → wS → Prop} (F : CallFix p m c cX11_outputByte 2 s args wz_X11_outputByte RX11) (hr : meth.sig.returnType = (some .int)) (hlocks : meth.locks = false) (hK : wK D cy A s) (hl0 : l.stackTraces = false) (hexc : ∀ x ∈ c.exceptionTable.toList, False) : ∀ {S : wS} {H : Heap} {locs : List Loc} {ls : Array Slot}, wp_X11_outputByte_15 D post xp S → wO D cy X A s.heap S H locs → wX D S0 S → lv_has ls 2 [] → W p l e r_X11_outputByte s m args below meth c H locs 0 0 (vx_MQ below (va_Qi (fun r S9 => wX D S0 S9 ∧ post r S9) (wB D cy X A) A) (wEx D cy X A (fun E S9 => wX D S0 S9 ∧ xp E S9)) args s 1 6 A) (F0 m 15 ls []) := by
  obtain ⟨hx, hb, hml, hown, hts⟩ := id F
  have hwg : ∀ w ∈ WG, w.before args s = true := fun w h => hts w (List.mem_cons_of_mem _ h)
  intro S H locs ls hp hW hE hl
  unfold wp_X11_outputByte_15 at hp
  exact x_throw (ls := ls) F hK hW hl0 (by decide) (hwg _ wc_RX11_235) (hwg _ wi_java_lang_IndexOutOfBoundsException) (show ("OpeningsCabinet", 237, "no such byte", 18) ∈ wStr by decide +kernel) (wa_RX11_239 hwg hK.2.1) wa_RX11_239_ok hl.1 hexc hlocks dX11_outputByte_15 dX11_outputByte_18 dX11_outputByte_19 dX11_outputByte_21 dX11_outputByte_24 (Nat.le_of_ble_eq_true rfl) (Nat.le_of_ble_eq_true rfl) (Nat.le_of_ble_eq_true rfl) (Nat.le_of_ble_eq_true rfl) (by decide) (by decide) ⟨hE, hp⟩
set_option maxHeartbeats 4000000 in
set_option maxRecDepth 100000 in
theorem t_X11_outputByte_0 {p : Program} {l : Launch} {e : Env} {s : State} {m : MethodId} {args : Array Value} {below : List Frame} {meth : Method} {c : Code} {D : wD} {cy : Nat → ClassId} {X : va_W} {A : Nat → Prop} {S0 : wS} {post : Int32 → wS → Prop} {xp : String → wS → Prop} (F : CallFix p m c cX11_outputByte 2 s args wz_X11_outputByte RX11) (hr : meth.sig.returnType = (some .int)) (hlocks : meth.locks = false) (hK : wK D cy A s) (hl0 : l.stackTraces = false) (hexc : ∀ x ∈ c.exceptionTable.toList, False) : ∀ {S : wS} {H : Heap} {locs : List Loc} {ls : Array Slot} {a0 : Nat} {x1 : Int32}, wp_X11_outputByte_0 D post xp S a0 x1 → wO D cy X A s.heap S H locs → wX D S0 S → lv_has ls 2 [(0, .ref a0), (1, .int x1)] → wM D S a0 → sK S a0 = 16 → W p l e r_X11_outputByte s m args below meth c H locs 0 0 (vx_MQ below (va_Qi (fun r S9 => wX D S0 S9 ∧ post r S9) (wB D cy X A) A) (wEx D cy X A (fun E S9 => wX D S0 S9 ∧ xp E S9)) args s 1 6 A) (F0 m 0 ls []) := by
  obtain ⟨hx, hb, hml, hown, hts⟩ := id F
  have hwg : ∀ w ∈ WG, w.before args s = true := fun w h => hts w (List.mem_cons_of_mem _ h)
  have i_16 : ∀ w ∈ u_ws RX11 TX11 18, w ∈ wz_X11_outputByte := fun w h => List.mem_cons_of_mem _ (wu_16 w h)
  have k_109 := hwg _ wf_RX11_109
  intro S H locs ls a0 x1 hp hW hE hl hL_a0 hK_a0
  unfold wp_X11_outputByte_0 at hp
  refine lv_iload_n hx hb dX11_outputByte_0 rfl (lv_at hl 1 rfl) ?_
  refine lv_if_lt (tgt := 15) hx hb dX11_outputByte_1 (by decide) (fun c_1 => ?_) (fun c_1 => ?_)
  · replace hp := hp.1 c_1
    exact t_X11_outputByte_15 F hr hlocks hK hl0 hexc hp hW hE (lv_sub hl [] rfl)
  · replace hp := hp.2 c_1
    refine lv_iload_n hx hb dX11_outputByte_4 rfl (lv_at hl 1 rfl) ?_
    refine lv_aload_n hx hb dX11_outputByte_5 rfl (lv_at hl 0 rfl) ?_
    obtain ⟨y_2, ey_2, hL_y_2, hK_y_2, hp⟩ := hp
    refine w_get (k := 16) (f := 14) (T := TX11) (v := .ref y_2) F hK hW hL_a0 hK_a0 (by decide) rfl rfl (by decide) i_16 k_109 (by rw [show wv 16 14 S a0 = va_rf (sR S a0 14) from rfl, ey_2]; rfl) dX11_outputByte_6 ?_
    refine w_callI (va_runV (As := []) (rest := [.int x1]) F (c_J4_length_8abf5 l hL_y_2 hK_y_2 hp H.size) (cwV (C := RJ4) 0 hts (wg_V wm_RX11_232 wy_J4_length_8abf5) rfl rfl rfl (by decide +kernel) ⟨Nat.le_of_ble_eq_true rfl, Nat.le_of_ble_eq_true rfl⟩) (w_preV hK hW hL_y_2 hK_y_2 (by decide) rfl) rfl rfl hl.1 rfl (lv_room (Nat.le_of_ble_eq_true rfl)) dX11_outputByte_9 ⟨Nat.le_of_ble_eq_true rfl, Nat.le_of_ble_eq_true rfl⟩) hW (fun r_3 S_4 H locs hp hW => ?_)
    obtain ⟨hX_S_4, hp⟩ := hp
    refine W.widen (k := 0) (n := 0) (by decide) (by decide) ?_
    have hE := hE.trans hX_S_4
    have hK_a0 : sK S_4 a0 = 16 := (hX_S_4.2 a0 hL_a0).1.trans hK_a0
    have hL_a0 : wM D S_4 a0 := hX_S_4.M hL_a0
    refine lv_icmp_lt (tgt := 25) hx hb dX11_outputByte_12 (by decide) (fun c_5 => ?_) (fun c_5 => ?_)
    · replace hp := hp.1 c_5
      refine lv_aload_n hx hb dX11_outputByte_25 rfl (lv_at hl 0 rfl) ?_
      obtain ⟨y_6, ey_6, hL_y_6, hK_y_6, hp⟩ := hp
      refine w_get (k := 16) (f := 14) (T := TX11) (v := .ref y_6) F hK hW hL_a0 hK_a0 (by decide) rfl rfl (by decide) i_16 k_109 (by rw [show wv 16 14 S_4 a0 = va_rf (sR S_4 a0 14) from rfl, ey_6]; rfl) dX11_outputByte_26 ?_
      refine lv_iload_n hx hb dX11_outputByte_29 rfl (lv_at hl 1 rfl) ?_
      refine w_callI (va_runV (As := [.int x1]) (rest := []) F (c_J4_charAt_5068e l hL_y_6 hK_y_6 hp H.size) (cwV (C := RJ4) 1 hts (wg_V wm_RX11_240 wy_J4_charAt_5068e) rfl rfl rfl (by decide +kernel) ⟨Nat.le_of_ble_eq_true rfl, Nat.le_of_ble_eq_true rfl⟩) (w_preV hK hW hL_y_6 hK_y_6 (by decide) rfl) rfl rfl hl.1 rfl (lv_room (Nat.le_of_ble_eq_true rfl)) dX11_outputByte_30 ⟨Nat.le_of_ble_eq_true rfl, Nat.le_of_ble_eq_true rfl⟩) hW (fun r_7 S_8 H locs hp hW => ?_)
      obtain ⟨hX_S_8, hp⟩ := hp
      refine W.widen (k := 0) (n := 0) (by decide) (by decide) ?_
      have hE := hE.trans hX_S_8
      have hK_a0 : sK S_8 a0 = 16 := (hX_S_8.2 a0 hL_a0).1.trans hK_a0
      have hL_a0 : wM D S_8 a0 := hX_S_8.M hL_a0
      refine W.widen (k := 1) (n := 6) (by decide) (by decide) ?_
      refine vx_ret ?_
      exact w_iret hx hb hr hlocks hW ⟨hE, hp⟩ dX11_outputByte_33
    · replace hp := hp.2 c_5
      exact t_X11_outputByte_15 F hr hlocks hK hl0 hexc hp hW hE (lv_sub hl [] rfl)
set_option maxHeartbeats 4000000 in
set_option maxRecDepth 100000 in
theorem c_X11_outputByte (l : Launch) {D : wD} {cy : Nat → ClassId} {X : va_W} {S0 : wS} {post : Int32 → wS → Prop} {xp : String → wS → Prop} (hl0 : l.stackTraces = false) {a0 : Nat} {x1 : Int32} (hL_a0 : wM D S0 a0) (hK_a0 : sK S0 a0 = 16) (hp : wp_X11_outputByte D post xp S0 a0 x1) : xI D cy X l yX11_outputByte wz_X11_outputByte r_X11_outputByte [.ref a0, .int x1] S0 (fun r S9 => wX D S0 S9 ∧ post r S9) (fun E S9 => wX D S0 S9 ∧ xp E S9) := by
  intro sz
  refine vx_ofW (cc := cX11_outputByte) (maxL := 2) (ret := (some .int)) (by decide) rfl ?_
  intro p e s m args below meth c s₁ B hml hexc hv
  obtain ⟨rfl, hsz, hP, hK, hD0, hRO⟩ := hv
  have hts := atoms_spec (ws := wz_X11_outputByte) B.pre
  have hown : s.vm.findClass RX11 = some m.cls := findClass_of_methodNamed B.named
  subst hsz
  have hD := hD0.self (sz := s.heap.size)
  have F : CallFix p m c cX11_outputByte 2 s _ wz_X11_outputByte RX11 := ⟨B.exec, B.bytes, hml, hown, hts⟩
  have hr := B.returns
  have hlocks := B.notSynchronized
  generalize hAe : va_A (wL cy X S0) s.heap.size = A at hD hK ⊢
  have hA : ∀ q, s.heap.size ≤ q → A q := fun q h => by rw [← hAe]; exact Or.inr h
  have hW : wO D cy X A s.heap S0 s.heap [] := ⟨hP, hD, va_S.rf, hA, hRO⟩
  have hl := lv_entry ([.ref a0, .int x1]) (n := 2) (Nat.le_of_ble_eq_true rfl)
  rw [lg_entry_eq]
  generalize (lg_sl ([.ref a0, .int x1]) ++ List.replicate (2 - (lg_sl ([.ref a0, .int x1])).length) Slot.unset).toArray = ls at hl ⊢
  have hl : lv_has ls 2 [(0, .ref a0), (1, .int x1)] := hl
  unfold wp_X11_outputByte at hp
  exact t_X11_outputByte_0 F hr hlocks hK hl0 hexc hp hW wX.rf (lv_sub hl [0, 1] rfl) hL_a0 hK_a0
def wp_X11_patternCount_0 (D : wD) (post : Int32 → wS → Prop) (xp : String → wS → Prop)  (S : wS) (a0 : Nat) (x1 : Int32) : Prop :=
wp_X11_shelfOf D (fun r_1 S_2 => 
∃ y_3 : Nat, sR S_2 a0 15 = some y_3 ∧ wM D S_2 y_3 ∧ sK S_2 y_3 = 21 ∧
∃ y_4 : Nat, sR S_2 a0 3 = some y_4 ∧ wM D S_2 y_4 ∧ sK S_2 y_4 = 12 ∧
∃ y_5 : Nat, r_1 = some y_5 ∧ wM D S_2 y_5 ∧ sK S_2 y_5 = 15 ∧
wp_X10_positionsFitting D (fun r_7 S_8 => 
post r_7 S_8) S_2 y_5 y_3 y_4) xp S a0 x1
abbrev r_X11_patternCount : Room := { frames := 7, cells := 1, slots := 6, locals := 141 }
def wp_X11_patternCount (D : wD) (post : Int32 → wS → Prop) (xp : String → wS → Prop) (S : wS) (a0 : Nat) (x1 : Int32) : Prop := wp_X11_patternCount_0 D post xp S a0 x1
set_option maxHeartbeats 4000000 in
set_option maxRecDepth 100000 in
theorem t_X11_patternCount_0 {p : Program} {l : Launch} {e : Env} {s : State} {m : MethodId} {args : Array Value} {below : List Frame} {meth : Method} {c : Code} {D : wD} {cy : Nat → ClassId} {X : va_W} {A : Nat → Prop} {S0 : wS} {post : Int32 → wS → Prop} {xp : String → wS → Prop} (F : CallFix p m c cX11_patternCount 2 s args wz_X11_patternCount RX11) (hr : meth.sig.returnType = (some .int)) (hlocks : meth.locks = false) (hK : wK D cy A s) (hl0 : l.stackTraces = false) (hexc : ∀ x ∈ c.exceptionTable.toList, False) : ∀ {S : wS} {H : Heap} {locs : List Loc} {ls : Array Slot} {a0 : Nat} {x1 : Int32}, wp_X11_patternCount_0 D post xp S a0 x1 → wO D cy X A s.heap S H locs → wX D S0 S → lv_has ls 2 [(0, .ref a0), (1, .int x1)] → wM D S a0 → sK S a0 = 16 → W p l e r_X11_patternCount s m args below meth c H locs 0 0 (vx_MQ below (va_Qi (fun r S9 => wX D S0 S9 ∧ post r S9) (wB D cy X A) A) (wEx D cy X A (fun E S9 => wX D S0 S9 ∧ xp E S9)) args s 1 6 A) (F0 m 0 ls []) := by
  obtain ⟨hx, hb, hml, hown, hts⟩ := id F
  have hwg : ∀ w ∈ WG, w.before args s = true := fun w h => hts w (List.mem_cons_of_mem _ h)
  have i_16 : ∀ w ∈ u_ws RX11 TX11 18, w ∈ wz_X11_patternCount := fun w h => List.mem_cons_of_mem _ (wu_16 w h)
  have k_112 := hwg _ wf_RX11_112
  have k_32 := hwg _ wf_RX11_32
  intro S H locs ls a0 x1 hp hW hE hl hL_a0 hK_a0
  unfold wp_X11_patternCount_0 at hp
  refine lv_aload_n hx hb dX11_patternCount_0 rfl (lv_at hl 0 rfl) ?_
  refine lv_iload_n hx hb dX11_patternCount_1 rfl (lv_at hl 1 rfl) ?_
  refine x_callR (vx_runV (As := [.int x1]) (rest := []) F (c_X11_shelfOf l hl0 hL_a0 hK_a0 hp H.size) (cwV (C := RX11) 1 hts (wg_V wm_RX11_337 wy_X11_shelfOf) rfl rfl rfl (by decide +kernel) ⟨Nat.le_of_ble_eq_true rfl, Nat.le_of_ble_eq_true rfl⟩) (w_preV hK hW hL_a0 hK_a0 (by decide) rfl) rfl rfl hl.1 rfl (lv_room (Nat.le_of_ble_eq_true rfl)) dX11_patternCount_2 ⟨Nat.le_of_ble_eq_true rfl, Nat.le_of_ble_eq_true rfl⟩) hW (fun E ce q9 S9 H locs hp hW h1 h2 h3 => x_out hexc hlocks ⟨hE.trans hp.1, hp.2⟩ hW h1 h2 h3 (by decide) (by decide)) (fun r_1 S_2 H locs hp hW => ?_)
  obtain ⟨hX_S_2, hp⟩ := hp
  refine W.widen (k := 1) (n := 6) (by decide) (by decide) ?_
  have hE := hE.trans hX_S_2
  have hK_a0 : sK S_2 a0 = 16 := (hX_S_2.2 a0 hL_a0).1.trans hK_a0
  have hL_a0 : wM D S_2 a0 := hX_S_2.M hL_a0
  refine lv_aload_n hx hb dX11_patternCount_5 rfl (lv_at hl 0 rfl) ?_
  obtain ⟨y_3, ey_3, hL_y_3, hK_y_3, hp⟩ := hp
  refine w_get (k := 16) (f := 15) (T := TX11) (v := .ref y_3) F hK hW hL_a0 hK_a0 (by decide) rfl rfl (by decide) i_16 k_112 (by rw [show wv 16 15 S_2 a0 = va_rf (sR S_2 a0 15) from rfl, ey_3]; rfl) dX11_patternCount_6 ?_
  refine lv_aload_n hx hb dX11_patternCount_9 rfl (lv_at hl 0 rfl) ?_
  obtain ⟨y_4, ey_4, hL_y_4, hK_y_4, hp⟩ := hp
  refine w_get (k := 16) (f := 3) (T := TX11) (v := .ref y_4) F hK hW hL_a0 hK_a0 (by decide) rfl rfl (by decide) i_16 k_32 (by rw [show wv 16 3 S_2 a0 = va_rf (sR S_2 a0 3) from rfl, ey_4]; rfl) dX11_patternCount_10 ?_
  obtain ⟨y_5, h_6, hL_y_5, hK_y_5, hp⟩ := hp
  revert hp; revert hl; revert hW; revert hE; subst h_6; intro hE hW hl hp
  refine w_callI (va_runV (As := [.ref y_3, .ref y_4]) (rest := []) F (c_X10_positionsFitting l hL_y_5 hK_y_5 hL_y_3 hK_y_3 hL_y_4 hK_y_4 hp H.size) (cwV (C := RX10) 2 hts (wg_V wm_RX11_428 wy_X10_positionsFitting) rfl rfl rfl (by decide +kernel) ⟨Nat.le_of_ble_eq_true rfl, Nat.le_of_ble_eq_true rfl⟩) (w_preV hK hW hL_y_5 hK_y_5 (by decide) rfl) rfl rfl hl.1 rfl (lv_room (Nat.le_of_ble_eq_true rfl)) dX11_patternCount_13 ⟨Nat.le_of_ble_eq_true rfl, Nat.le_of_ble_eq_true rfl⟩) hW (fun r_7 S_8 H locs hp hW => ?_)
  obtain ⟨hX_S_8, hp⟩ := hp
  refine W.widen (k := 1) (n := 6) (by decide) (by decide) ?_
  have hE := hE.trans hX_S_8
  have hK_a0 : sK S_8 a0 = 16 := (hX_S_8.2 a0 hL_a0).1.trans hK_a0
  have hL_a0 : wM D S_8 a0 := hX_S_8.M hL_a0
  refine vx_ret ?_
  exact w_iret hx hb hr hlocks hW ⟨hE, hp⟩ dX11_patternCount_16
set_option maxHeartbeats 4000000 in
set_option maxRecDepth 100000 in
theorem c_X11_patternCount (l : Launch) {D : wD} {cy : Nat → ClassId} {X : va_W} {S0 : wS} {post : Int32 → wS → Prop} {xp : String → wS → Prop} (hl0 : l.stackTraces = false) {a0 : Nat} {x1 : Int32} (hL_a0 : wM D S0 a0) (hK_a0 : sK S0 a0 = 16) (hp : wp_X11_patternCount D post xp S0 a0 x1) : xI D cy X l yX11_patternCount wz_X11_patternCount r_X11_patternCount [.ref a0, .int x1] S0 (fun r S9 => wX D S0 S9 ∧ post r S9) (fun E S9 => wX D S0 S9 ∧ xp E S9) := by
  intro sz
  refine vx_ofW (cc := cX11_patternCount) (maxL := 2) (ret := (some .int)) (by decide) rfl ?_
  intro p e s m args below meth c s₁ B hml hexc hv
  obtain ⟨rfl, hsz, hP, hK, hD0, hRO⟩ := hv
  have hts := atoms_spec (ws := wz_X11_patternCount) B.pre
  have hown : s.vm.findClass RX11 = some m.cls := findClass_of_methodNamed B.named
  subst hsz
  have hD := hD0.self (sz := s.heap.size)
  have F : CallFix p m c cX11_patternCount 2 s _ wz_X11_patternCount RX11 := ⟨B.exec, B.bytes, hml, hown, hts⟩
  have hr := B.returns
  have hlocks := B.notSynchronized
  generalize hAe : va_A (wL cy X S0) s.heap.size = A at hD hK ⊢
  have hA : ∀ q, s.heap.size ≤ q → A q := fun q h => by rw [← hAe]; exact Or.inr h
  have hW : wO D cy X A s.heap S0 s.heap [] := ⟨hP, hD, va_S.rf, hA, hRO⟩
  have hl := lv_entry ([.ref a0, .int x1]) (n := 2) (Nat.le_of_ble_eq_true rfl)
  rw [lg_entry_eq]
  generalize (lg_sl ([.ref a0, .int x1]) ++ List.replicate (2 - (lg_sl ([.ref a0, .int x1])).length) Slot.unset).toArray = ls at hl ⊢
  have hl : lv_has ls 2 [(0, .ref a0), (1, .int x1)] := hl
  unfold wp_X11_patternCount at hp
  exact t_X11_patternCount_0 F hr hlocks hK hl0 hexc hp hW wX.rf (lv_sub hl [0, 1] rfl) hL_a0 hK_a0
def wp_X11_playMain_102 (D : wD) (post : Int32 → wS → Prop) (xp : String → wS → Prop)  (S : wS) (x4 : Int32) : Prop :=
post x4 S
def wp_X11_playMain_35 (D : wD) (post : Int32 → wS → Prop) (xp : String → wS → Prop)  : Nat → wS → Nat → Int32 → Option Nat → Int32 → Prop
  | 0, _, _, _, _, _ => False
  | n + 1, S, a0, x2, g3, x4 =>
    ((x2 ≤ x4 → wp_X11_playMain_102 D post xp S x4) ∧
     (¬ x2 ≤ x4 → ∃ y_2 : Nat, sR S a0 4 = some y_2 ∧ wM D S y_2 ∧ sK S y_2 = 8 ∧
    (((80 : Int32) ≤ (sI S y_2 3) → wp_X11_playMain_102 D post xp S x4) ∧
     (¬ (80 : Int32) ≤ (sI S y_2 3) → ∃ y_4 : Nat, sR S a0 10 = some y_4 ∧ wM D S y_4 ∧ sK S y_4 = 6 ∧
    ∃ y_5 : Nat, sR S a0 2 = some y_5 ∧ wM D S y_5 ∧ sK S y_5 = 12 ∧
    ∃ y_6 : Nat, g3 = some y_6 ∧ wM D S y_6 ∧ sK S y_6 = 15 ∧
    wp_X1_gather D (fun S_9 => 
    ∃ y_10 : Nat, sR S_9 a0 10 = some y_10 ∧ wM D S_9 y_10 ∧ sK S_9 y_10 = 6 ∧
    wp_X1_mainMove D (fun r_11 S_12 => 
    ((¬ r_11 = (-1 : Int32) → ∃ y_14 : Nat, sR S_12 a0 5 = some y_14 ∧ wM D S_12 y_14 ∧ sK S_12 y_14 = 9 ∧
    wp_X4_codeAt D (fun r_15 S_16 => 
    wp_X11_make D (fun S_18 => 
    ∀ x_19 : Int32, x_19 = x4 + 1 →
    wp_X11_playMain_35 D post xp n S_18 a0 x2 (some y_6) x_19) S_16 a0 r_15) S_12 y_14 r_11) ∧
     (r_11 = (-1 : Int32) → wp_X11_playMain_102 D post xp S_12 x4))) S_9 y_10) S y_4 y_6 y_5))))
def wp_X11_playMain_17 (D : wD) (post : Int32 → wS → Prop) (xp : String → wS → Prop)  (S : wS) : Prop :=
xp "java/lang/IllegalArgumentException" S
def wp_X11_playMain_0 (D : wD) (post : Int32 → wS → Prop) (xp : String → wS → Prop)  (S : wS) (a0 : Nat) (x1 : Int32) (x2 : Int32) : Prop :=
wp_X11_shelfOf D (fun r_1 S_2 => 
((x2 < (1 : Int32) → wp_X11_playMain_17 D post xp S_2) ∧
 (¬ x2 < (1 : Int32) → ((x2 ≤ (80 : Int32) → wp_X11_mustBeLawful D (fun S_6 => 
∃ n_7 : Nat, wp_X11_playMain_35 D post xp n_7 S_6 a0 x2 r_1 (0 : Int32)) xp S_2 a0) ∧
 (¬ x2 ≤ (80 : Int32) → wp_X11_playMain_17 D post xp S_2))))) xp S a0 x1
abbrev r_X11_playMain : Room := { frames := 8, cells := 2, slots := 12, locals := 190 }
def wp_X11_playMain (D : wD) (post : Int32 → wS → Prop) (xp : String → wS → Prop) (S : wS) (a0 : Nat) (x1 : Int32) (x2 : Int32) : Prop := wp_X11_playMain_0 D post xp S a0 x1 x2
set_option maxHeartbeats 4000000 in
set_option maxRecDepth 100000 in
theorem t_X11_playMain_102 {p : Program} {l : Launch} {e : Env} {s : State} {m : MethodId} {args : Array Value} {below : List Frame} {meth : Method} {c : Code} {D : wD} {cy : Nat → ClassId} {X : va_W} {A : Nat → Prop} {S0 : wS} {post : Int32 → wS → Prop} {xp : String → wS → Prop} (F : CallFix p m c cX11_playMain 6 s args wz_X11_playMain RX11) (hr : meth.sig.returnType = (some .int)) (hlocks : meth.locks = false) (hK : wK D cy A s) (hl0 : l.stackTraces = false) (hexc : ∀ x ∈ c.exceptionTable.toList, False) : ∀ {S : wS} {H : Heap} {locs : List Loc} {ls : Array Slot} {x4 : Int32}, wp_X11_playMain_102 D post xp S x4 → wO D cy X A s.heap S H locs → wX D S0 S → lv_has ls 6 [(4, .int x4)] → W p l e r_X11_playMain s m args below meth c H locs 2 12 (vx_MQ below (va_Qi (fun r S9 => wX D S0 S9 ∧ post r S9) (wB D cy X A) A) (wEx D cy X A (fun E S9 => wX D S0 S9 ∧ xp E S9)) args s 2 12 A) (F0 m 102 ls []) := by
  obtain ⟨hx, hb, hml, hown, hts⟩ := id F
  have hwg : ∀ w ∈ WG, w.before args s = true := fun w h => hts w (List.mem_cons_of_mem _ h)
  intro S H locs ls x4 hp hW hE hl
  unfold wp_X11_playMain_102 at hp
  refine lv_iload hx hb dX11_playMain_102 (lv_at hl 0 rfl) ?_
  refine vx_ret ?_
  exact w_iret hx hb hr hlocks hW ⟨hE, hp⟩ dX11_playMain_104
set_option maxHeartbeats 4000000 in
set_option maxRecDepth 100000 in
theorem t_X11_playMain_35 {p : Program} {l : Launch} {e : Env} {s : State} {m : MethodId} {args : Array Value} {below : List Frame} {meth : Method} {c : Code} {D : wD} {cy : Nat → ClassId} {X : va_W} {A : Nat → Prop} {S0 : wS} {post : Int32 → wS → Prop} {xp : String → wS → Prop} (F : CallFix p m c cX11_playMain 6 s args wz_X11_playMain RX11) (hr : meth.sig.returnType = (some .int)) (hlocks : meth.locks = false) (hK : wK D cy A s) (hl0 : l.stackTraces = false) (hexc : ∀ x ∈ c.exceptionTable.toList, False) : ∀ (n : Nat) {S : wS} {H : Heap} {locs : List Loc} {ls : Array Slot} {a0 : Nat} {x2 : Int32} {g3 : Option Nat} {x4 : Int32}, wp_X11_playMain_35 D post xp n S a0 x2 g3 x4 → wO D cy X A s.heap S H locs → wX D S0 S → lv_has ls 6 [(0, .ref a0), (2, .int x2), (3, va_rf g3), (4, .int x4)] → wM D S a0 → sK S a0 = 16 → W p l e r_X11_playMain s m args below meth c H locs 2 12 (vx_MQ below (va_Qi (fun r S9 => wX D S0 S9 ∧ post r S9) (wB D cy X A) A) (wEx D cy X A (fun E S9 => wX D S0 S9 ∧ xp E S9)) args s 2 12 A) (F0 m 35 ls []) := by
  obtain ⟨hx, hb, hml, hown, hts⟩ := id F
  have hwg : ∀ w ∈ WG, w.before args s = true := fun w h => hts w (List.mem_cons_of_mem _ h)
  have i_16 : ∀ w ∈ u_ws RX11 TX11 18, w ∈ wz_X11_playMain := fun w h => List.mem_cons_of_mem _ (wu_16 w h)
  have i_8 : ∀ w ∈ u_ws RX3 TX3 9, w ∈ wz_X11_playMain := fun w h => List.mem_cons_of_mem _ (wu_8 w h)
  have k_28 := hwg _ wf_RX11_28
  have k_40 := hwg _ wf_RX11_40
  have k_49 := hwg _ wf_RX11_49
  have k_84 := hwg _ wf_RX11_84
  intro n
  induction n with
  | zero =>
    intro S H locs ls a0 x2 g3 x4 hp
    exact hp.elim
  | succ n ih =>
    intro S H locs ls a0 x2 g3 x4 hp hW hE hl hL_a0 hK_a0
    unfold wp_X11_playMain_35 at hp
    refine lv_iload hx hb dX11_playMain_35 (lv_at hl 3 rfl) ?_
    refine lv_iload_n hx hb dX11_playMain_37 rfl (lv_at hl 1 rfl) ?_
    refine lv_icmp_ge (tgt := 102) hx hb dX11_playMain_38 (by decide) (fun c_1 => ?_) (fun c_1 => ?_)
    · replace hp := hp.1 c_1
      exact t_X11_playMain_102 F hr hlocks hK hl0 hexc hp hW hE (lv_sub hl [3] rfl)
    · replace hp := hp.2 c_1
      refine lv_aload_n hx hb dX11_playMain_41 rfl (lv_at hl 0 rfl) ?_
      obtain ⟨y_2, ey_2, hL_y_2, hK_y_2, hp⟩ := hp
      refine w_get (k := 16) (f := 4) (T := TX11) (v := .ref y_2) F hK hW hL_a0 hK_a0 (by decide) rfl rfl (by decide) i_16 k_40 (by rw [show wv 16 4 S a0 = va_rf (sR S a0 4) from rfl, ey_2]; rfl) dX11_playMain_42 ?_
      refine w_getN (k := 8) (f := 3) (T := TX3) (v := .int (sI S y_2 3)) F hK hW hL_y_2 hK_y_2 (by decide) rfl rfl (by decide) i_8 (hK.2.1 (.fieldLinkNest "OpeningsCabinet" 157 "OpeningsCabinet$Game" "length" "I" "OpeningsCabinet") (by decide +kernel)) rfl dX11_playMain_45 ?_
      refine lv_bipush (v := 80) hx hb dX11_playMain_48 (by decide) ?_
      refine lv_icmp_ge (tgt := 102) hx hb dX11_playMain_50 (by decide) (fun c_3 => ?_) (fun c_3 => ?_)
      · replace hp := hp.1 c_3
        exact t_X11_playMain_102 F hr hlocks hK hl0 hexc hp hW hE (lv_sub hl [3] rfl)
      · replace hp := hp.2 c_3
        refine lv_aload_n hx hb dX11_playMain_53 rfl (lv_at hl 0 rfl) ?_
        obtain ⟨y_4, ey_4, hL_y_4, hK_y_4, hp⟩ := hp
        refine w_get (k := 16) (f := 10) (T := TX11) (v := .ref y_4) F hK hW hL_a0 hK_a0 (by decide) rfl rfl (by decide) i_16 k_84 (by rw [show wv 16 10 S a0 = va_rf (sR S a0 10) from rfl, ey_4]; rfl) dX11_playMain_54 ?_
        refine w_aload_n hx hb dX11_playMain_57 rfl (lv_at hl 2 rfl) ?_
        refine lv_aload_n hx hb dX11_playMain_58 rfl (lv_at hl 0 rfl) ?_
        obtain ⟨y_5, ey_5, hL_y_5, hK_y_5, hp⟩ := hp
        refine w_get (k := 16) (f := 2) (T := TX11) (v := .ref y_5) F hK hW hL_a0 hK_a0 (by decide) rfl rfl (by decide) i_16 k_28 (by rw [show wv 16 2 S a0 = va_rf (sR S a0 2) from rfl, ey_5]; rfl) dX11_playMain_59 ?_
        obtain ⟨y_6, h_7, hL_y_6, hK_y_6, hp⟩ := hp
        revert hp; revert hl; revert hW; revert hE; subst h_7; intro hE hW hl hp
        refine w_callV (va_runV (As := [.ref y_6, .ref y_5]) (rest := []) F (c_X1_gather l hL_y_4 hK_y_4 hL_y_6 hK_y_6 hL_y_5 hK_y_5 hp H.size) (cwV (C := RX1) 2 hts (wg_V wm_RX11_384 wy_X1_gather) rfl rfl rfl (by decide +kernel) ⟨Nat.le_of_ble_eq_true rfl, Nat.le_of_ble_eq_true rfl⟩) (w_preV hK hW hL_y_4 hK_y_4 (by decide) rfl) rfl rfl hl.1 rfl (lv_room (Nat.le_of_ble_eq_true rfl)) dX11_playMain_62 ⟨Nat.le_of_ble_eq_true rfl, Nat.le_of_ble_eq_true rfl⟩) hW (fun S_9 H locs hp hW => ?_)
        obtain ⟨hX_S_9, hp⟩ := hp
        refine W.widen (k := 2) (n := 12) (by decide) (by decide) ?_
        have hE := hE.trans hX_S_9
        have hK_a0 : sK S_9 a0 = 16 := (hX_S_9.2 a0 hL_a0).1.trans hK_a0
        have hL_a0 : wM D S_9 a0 := hX_S_9.M hL_a0
        have hK_y_6 : sK S_9 y_6 = 15 := (hX_S_9.2 y_6 hL_y_6).1.trans hK_y_6
        have hL_y_6 : wM D S_9 y_6 := hX_S_9.M hL_y_6
        refine lv_aload_n hx hb dX11_playMain_65 rfl (lv_at hl 0 rfl) ?_
        obtain ⟨y_10, ey_10, hL_y_10, hK_y_10, hp⟩ := hp
        refine w_get (k := 16) (f := 10) (T := TX11) (v := .ref y_10) F hK hW hL_a0 hK_a0 (by decide) rfl rfl (by decide) i_16 k_84 (by rw [show wv 16 10 S_9 a0 = va_rf (sR S_9 a0 10) from rfl, ey_10]; rfl) dX11_playMain_66 ?_
        refine w_callI (va_runV (As := []) (rest := []) F (c_X1_mainMove l hL_y_10 hK_y_10 hp H.size) (cwV (C := RX1) 0 hts (wg_V wm_RX11_399 wy_X1_mainMove) rfl rfl rfl (by decide +kernel) ⟨Nat.le_of_ble_eq_true rfl, Nat.le_of_ble_eq_true rfl⟩) (w_preV hK hW hL_y_10 hK_y_10 (by decide) rfl) rfl rfl hl.1 rfl (lv_room (Nat.le_of_ble_eq_true rfl)) dX11_playMain_69 ⟨Nat.le_of_ble_eq_true rfl, Nat.le_of_ble_eq_true rfl⟩) hW (fun r_11 S_12 H locs hp hW => ?_)
        obtain ⟨hX_S_12, hp⟩ := hp
        refine W.widen (k := 2) (n := 12) (by decide) (by decide) ?_
        have hE := hE.trans hX_S_12
        have hK_a0 : sK S_12 a0 = 16 := (hX_S_12.2 a0 hL_a0).1.trans hK_a0
        have hL_a0 : wM D S_12 a0 := hX_S_12.M hL_a0
        have hK_y_6 : sK S_12 y_6 = 15 := (hX_S_12.2 y_6 hL_y_6).1.trans hK_y_6
        have hL_y_6 : wM D S_12 y_6 := hX_S_12.M hL_y_6
        refine lv_istore (lv' := [(5, .int r_11), (0, .ref a0), (2, .int x2), (3, .ref y_6), (4, .int x4)]) hx hb dX11_playMain_72 hl (by decide) rfl (fun ls hl => ?_)
        refine lv_iload hx hb dX11_playMain_74 (lv_at hl 0 rfl) ?_
        refine lv_iconst (v := (-1)) hx hb dX11_playMain_76 (by decide) ?_
        refine lv_icmp_ne (tgt := 83) hx hb dX11_playMain_77 (by decide) (fun c_13 => ?_) (fun c_13 => ?_)
        · replace hp := hp.1 c_13
          refine lv_aload_n hx hb dX11_playMain_83 rfl (lv_at hl 1 rfl) ?_
          refine lv_aload_n hx hb dX11_playMain_84 rfl (lv_at hl 1 rfl) ?_
          obtain ⟨y_14, ey_14, hL_y_14, hK_y_14, hp⟩ := hp
          refine w_get (k := 16) (f := 5) (T := TX11) (v := .ref y_14) F hK hW hL_a0 hK_a0 (by decide) rfl rfl (by decide) i_16 k_49 (by rw [show wv 16 5 S_12 a0 = va_rf (sR S_12 a0 5) from rfl, ey_14]; rfl) dX11_playMain_85 ?_
          refine lv_iload hx hb dX11_playMain_88 (lv_at hl 0 rfl) ?_
          refine w_callI (va_runV (As := [.int r_11]) (rest := [.ref a0]) F (c_X4_codeAt l hL_y_14 hK_y_14 hp H.size) (cwV (C := RX4) 1 hts (wg_V wm_RX11_402 wy_X4_codeAt) rfl rfl rfl (by decide +kernel) ⟨Nat.le_of_ble_eq_true rfl, Nat.le_of_ble_eq_true rfl⟩) (w_preV hK hW hL_y_14 hK_y_14 (by decide) rfl) rfl rfl hl.1 rfl (lv_room (Nat.le_of_ble_eq_true rfl)) dX11_playMain_90 ⟨Nat.le_of_ble_eq_true rfl, Nat.le_of_ble_eq_true rfl⟩) hW (fun r_15 S_16 H locs hp hW => ?_)
          obtain ⟨hX_S_16, hp⟩ := hp
          refine W.widen (k := 2) (n := 12) (by decide) (by decide) ?_
          have hE := hE.trans hX_S_16
          have hK_a0 : sK S_16 a0 = 16 := (hX_S_16.2 a0 hL_a0).1.trans hK_a0
          have hL_a0 : wM D S_16 a0 := hX_S_16.M hL_a0
          have hK_y_6 : sK S_16 y_6 = 15 := (hX_S_16.2 y_6 hL_y_6).1.trans hK_y_6
          have hL_y_6 : wM D S_16 y_6 := hX_S_16.M hL_y_6
          refine w_callV (va_runV (As := [.int r_15]) (rest := []) F (c_X11_make l hL_a0 hK_a0 hp H.size) (cwV (C := RX11) 1 hts (wg_V wm_RX11_290 wy_X11_make) rfl rfl rfl (by decide +kernel) ⟨Nat.le_of_ble_eq_true rfl, Nat.le_of_ble_eq_true rfl⟩) (w_preV hK hW hL_a0 hK_a0 (by decide) rfl) rfl rfl hl.1 rfl (lv_room (Nat.le_of_ble_eq_true rfl)) dX11_playMain_93 ⟨Nat.le_of_ble_eq_true rfl, Nat.le_of_ble_eq_true rfl⟩) hW (fun S_18 H locs hp hW => ?_)
          obtain ⟨hX_S_18, hp⟩ := hp
          refine W.widen (k := 2) (n := 12) (by decide) (by decide) ?_
          have hE := hE.trans hX_S_18
          have hK_a0 : sK S_18 a0 = 16 := (hX_S_18.2 a0 hL_a0).1.trans hK_a0
          have hL_a0 : wM D S_18 a0 := hX_S_18.M hL_a0
          have hK_y_6 : sK S_18 y_6 = 15 := (hX_S_18.2 y_6 hL_y_6).1.trans hK_y_6
          have hL_y_6 : wM D S_18 y_6 := hX_S_18.M hL_y_6
          obtain ⟨x_19, ex_19⟩ : ∃ z : Int32, z = x4 + 1 := ⟨_, rfl⟩
          replace hp := hp x_19 ex_19
          refine lv_iinc (v := x_19) (lv' := [(4, .int x_19), (5, .int r_11), (0, .ref a0), (2, .int x2), (3, .ref y_6)]) hx hb dX11_playMain_96 hl (k := 4) rfl (by rw [ex_19]; rfl) (by decide) rfl (fun ls hl => ?_)
          refine lv_goto (tgt := 35) hx hb dX11_playMain_99 (by decide) ?_
          exact ih hp hW hE (lv_sub hl [2, 3, 4, 0] rfl) hL_a0 hK_a0
        · replace hp := hp.2 c_13
          refine lv_goto (tgt := 102) hx hb dX11_playMain_80 (by decide) ?_
          exact t_X11_playMain_102 F hr hlocks hK hl0 hexc hp hW hE (lv_sub hl [4] rfl)
set_option maxHeartbeats 4000000 in
set_option maxRecDepth 100000 in
theorem t_X11_playMain_17 {p : Program} {l : Launch} {e : Env} {s : State} {m : MethodId} {args : Array Value} {below : List Frame} {meth : Method} {c : Code} {D : wD} {cy : Nat → ClassId} {X : va_W} {A : Nat → Prop} {S0 : wS} {post : Int32 → wS → Prop} {xp : String → wS → Prop} (F : CallFix p m c cX11_playMain 6 s args wz_X11_playMain RX11) (hr : meth.sig.returnType = (some .int)) (hlocks : meth.locks = false) (hK : wK D cy A s) (hl0 : l.stackTraces = false) (hexc : ∀ x ∈ c.exceptionTable.toList, False) : ∀ {S : wS} {H : Heap} {locs : List Loc} {ls : Array Slot}, wp_X11_playMain_17 D post xp S → wO D cy X A s.heap S H locs → wX D S0 S → lv_has ls 6 [] → W p l e r_X11_playMain s m args below meth c H locs 1 6 (vx_MQ below (va_Qi (fun r S9 => wX D S0 S9 ∧ post r S9) (wB D cy X A) A) (wEx D cy X A (fun E S9 => wX D S0 S9 ∧ xp E S9)) args s 2 12 A) (F0 m 17 ls []) := by
  obtain ⟨hx, hb, hml, hown, hts⟩ := id F
  have hwg : ∀ w ∈ WG, w.before args s = true := fun w h => hts w (List.mem_cons_of_mem _ h)
  intro S H locs ls hp hW hE hl
  unfold wp_X11_playMain_17 at hp
  exact x_throwW (ls := ls) F hK hW hl0 (by decide) (hwg _ wc_RX11_140) (hwg _ wi_java_lang_IllegalArgumentException) (show ("OpeningsCabinet", 397, "1 to 80 moves can be asked", 39) ∈ wStr by decide +kernel) (wa_RX11_144 hwg hK.2.1) wa_RX11_144_ok hl.1 hexc hlocks dX11_playMain_17 dX11_playMain_20 dX11_playMain_21 dX11_playMain_24 dX11_playMain_27 (Nat.le_of_ble_eq_true rfl) (Nat.le_of_ble_eq_true rfl) (Nat.le_of_ble_eq_true rfl) (Nat.le_of_ble_eq_true rfl) (by decide) (by decide) ⟨hE, hp⟩
set_option maxHeartbeats 4000000 in
set_option maxRecDepth 100000 in
theorem t_X11_playMain_0 {p : Program} {l : Launch} {e : Env} {s : State} {m : MethodId} {args : Array Value} {below : List Frame} {meth : Method} {c : Code} {D : wD} {cy : Nat → ClassId} {X : va_W} {A : Nat → Prop} {S0 : wS} {post : Int32 → wS → Prop} {xp : String → wS → Prop} (F : CallFix p m c cX11_playMain 6 s args wz_X11_playMain RX11) (hr : meth.sig.returnType = (some .int)) (hlocks : meth.locks = false) (hK : wK D cy A s) (hl0 : l.stackTraces = false) (hexc : ∀ x ∈ c.exceptionTable.toList, False) : ∀ {S : wS} {H : Heap} {locs : List Loc} {ls : Array Slot} {a0 : Nat} {x1 : Int32} {x2 : Int32}, wp_X11_playMain_0 D post xp S a0 x1 x2 → wO D cy X A s.heap S H locs → wX D S0 S → lv_has ls 6 [(0, .ref a0), (1, .int x1), (2, .int x2)] → wM D S a0 → sK S a0 = 16 → W p l e r_X11_playMain s m args below meth c H locs 0 0 (vx_MQ below (va_Qi (fun r S9 => wX D S0 S9 ∧ post r S9) (wB D cy X A) A) (wEx D cy X A (fun E S9 => wX D S0 S9 ∧ xp E S9)) args s 2 12 A) (F0 m 0 ls []) := by
  obtain ⟨hx, hb, hml, hown, hts⟩ := id F
  have hwg : ∀ w ∈ WG, w.before args s = true := fun w h => hts w (List.mem_cons_of_mem _ h)
  intro S H locs ls a0 x1 x2 hp hW hE hl hL_a0 hK_a0
  unfold wp_X11_playMain_0 at hp
  refine lv_aload_n hx hb dX11_playMain_0 rfl (lv_at hl 0 rfl) ?_
  refine lv_iload_n hx hb dX11_playMain_1 rfl (lv_at hl 1 rfl) ?_
  refine x_callR (vx_runV (As := [.int x1]) (rest := []) F (c_X11_shelfOf l hl0 hL_a0 hK_a0 hp H.size) (cwV (C := RX11) 1 hts (wg_V wm_RX11_337 wy_X11_shelfOf) rfl rfl rfl (by decide +kernel) ⟨Nat.le_of_ble_eq_true rfl, Nat.le_of_ble_eq_true rfl⟩) (w_preV hK hW hL_a0 hK_a0 (by decide) rfl) rfl rfl hl.1 rfl (lv_room (Nat.le_of_ble_eq_true rfl)) dX11_playMain_2 ⟨Nat.le_of_ble_eq_true rfl, Nat.le_of_ble_eq_true rfl⟩) hW (fun E ce q9 S9 H locs hp hW h1 h2 h3 => x_out hexc hlocks ⟨hE.trans hp.1, hp.2⟩ hW h1 h2 h3 (by decide) (by decide)) (fun r_1 S_2 H locs hp hW => ?_)
  obtain ⟨hX_S_2, hp⟩ := hp
  refine W.widen (k := 1) (n := 6) (by decide) (by decide) ?_
  have hE := hE.trans hX_S_2
  have hK_a0 : sK S_2 a0 = 16 := (hX_S_2.2 a0 hL_a0).1.trans hK_a0
  have hL_a0 : wM D S_2 a0 := hX_S_2.M hL_a0
  refine w_astore_n (lv' := [(3, va_rf r_1), (0, .ref a0), (1, .int x1), (2, .int x2)]) hx hb dX11_playMain_5 rfl hl (by decide) rfl (fun ls hl => ?_)
  refine lv_iload_n hx hb dX11_playMain_6 rfl (lv_at hl 3 rfl) ?_
  refine lv_iconst (v := 1) hx hb dX11_playMain_7 (by decide) ?_
  refine lv_icmp_lt (tgt := 17) hx hb dX11_playMain_8 (by decide) (fun c_3 => ?_) (fun c_3 => ?_)
  · replace hp := hp.1 c_3
    exact t_X11_playMain_17 F hr hlocks hK hl0 hexc hp hW hE (lv_sub hl [] rfl)
  · replace hp := hp.2 c_3
    refine lv_iload_n hx hb dX11_playMain_11 rfl (lv_at hl 3 rfl) ?_
    refine lv_bipush (v := 80) hx hb dX11_playMain_12 (by decide) ?_
    refine lv_icmp_le (tgt := 28) hx hb dX11_playMain_14 (by decide) (fun c_4 => ?_) (fun c_4 => ?_)
    · replace hp := hp.1 c_4
      refine lv_aload_n hx hb dX11_playMain_28 rfl (lv_at hl 1 rfl) ?_
      refine x_callV (vx_runV (As := []) (rest := []) F (c_X11_mustBeLawful l hl0 hL_a0 hK_a0 hp H.size) (cwV (C := RX11) 0 hts (wg_V wm_RX11_217 wy_X11_mustBeLawful) rfl rfl rfl (by decide +kernel) ⟨Nat.le_of_ble_eq_true rfl, Nat.le_of_ble_eq_true rfl⟩) (w_preV hK hW hL_a0 hK_a0 (by decide) rfl) rfl rfl hl.1 rfl (lv_room (Nat.le_of_ble_eq_true rfl)) dX11_playMain_29 ⟨Nat.le_of_ble_eq_true rfl, Nat.le_of_ble_eq_true rfl⟩) hW (fun E ce q9 S9 H locs hp hW h1 h2 h3 => x_out hexc hlocks ⟨hE.trans hp.1, hp.2⟩ hW h1 h2 h3 (by decide) (by decide)) (fun S_6 H locs hp hW => ?_)
      obtain ⟨hX_S_6, hp⟩ := hp
      refine W.widen (k := 2) (n := 12) (by decide) (by decide) ?_
      have hE := hE.trans hX_S_6
      have hK_a0 : sK S_6 a0 = 16 := (hX_S_6.2 a0 hL_a0).1.trans hK_a0
      have hL_a0 : wM D S_6 a0 := hX_S_6.M hL_a0
      refine lv_iconst (v := 0) hx hb dX11_playMain_32 (by decide) ?_
      refine lv_istore (lv' := [(4, .int (0 : Int32)), (3, va_rf r_1), (0, .ref a0), (1, .int x1), (2, .int x2)]) hx hb dX11_playMain_33 hl (by decide) (by cases r_1 <;> rfl) (fun ls hl => ?_)
      obtain ⟨n_7, hp⟩ := hp
      exact t_X11_playMain_35 F hr hlocks hK hl0 hexc n_7 hp hW hE (lv_sub hl [2, 4, 1, 0] rfl) hL_a0 hK_a0
    · replace hp := hp.2 c_4
      exact t_X11_playMain_17 F hr hlocks hK hl0 hexc hp hW hE (lv_sub hl [] rfl)
set_option maxHeartbeats 4000000 in
set_option maxRecDepth 100000 in
theorem c_X11_playMain (l : Launch) {D : wD} {cy : Nat → ClassId} {X : va_W} {S0 : wS} {post : Int32 → wS → Prop} {xp : String → wS → Prop} (hl0 : l.stackTraces = false) {a0 : Nat} {x1 : Int32} {x2 : Int32} (hL_a0 : wM D S0 a0) (hK_a0 : sK S0 a0 = 16) (hp : wp_X11_playMain D post xp S0 a0 x1 x2) : xI D cy X l yX11_playMain wz_X11_playMain r_X11_playMain [.ref a0, .int x1, .int x2] S0 (fun r S9 => wX D S0 S9 ∧ post r S9) (fun E S9 => wX D S0 S9 ∧ xp E S9) := by
  intro sz
  refine vx_ofW (cc := cX11_playMain) (maxL := 6) (ret := (some .int)) (by decide) rfl ?_
  intro p e s m args below meth c s₁ B hml hexc hv
  obtain ⟨rfl, hsz, hP, hK, hD0, hRO⟩ := hv
  have hts := atoms_spec (ws := wz_X11_playMain) B.pre
  have hown : s.vm.findClass RX11 = some m.cls := findClass_of_methodNamed B.named
  subst hsz
  have hD := hD0.self (sz := s.heap.size)
  have F : CallFix p m c cX11_playMain 6 s _ wz_X11_playMain RX11 := ⟨B.exec, B.bytes, hml, hown, hts⟩
  have hr := B.returns
  have hlocks := B.notSynchronized
  generalize hAe : va_A (wL cy X S0) s.heap.size = A at hD hK ⊢
  have hA : ∀ q, s.heap.size ≤ q → A q := fun q h => by rw [← hAe]; exact Or.inr h
  have hW : wO D cy X A s.heap S0 s.heap [] := ⟨hP, hD, va_S.rf, hA, hRO⟩
  have hl := lv_entry ([.ref a0, .int x1, .int x2]) (n := 6) (Nat.le_of_ble_eq_true rfl)
  rw [lg_entry_eq]
  generalize (lg_sl ([.ref a0, .int x1, .int x2]) ++ List.replicate (6 - (lg_sl ([.ref a0, .int x1, .int x2])).length) Slot.unset).toArray = ls at hl ⊢
  have hl : lv_has ls 6 [(0, .ref a0), (1, .int x1), (2, .int x2)] := hl
  unfold wp_X11_playMain at hp
  exact t_X11_playMain_0 F hr hlocks hK hl0 hexc hp hW wX.rf (lv_sub hl [0, 1, 2] rfl) hL_a0 hK_a0
def wp_X11_positionCount_0 (D : wD) (post : Int32 → wS → Prop) (xp : String → wS → Prop)  (S : wS) (a0 : Nat) (x1 : Int32) : Prop :=
wp_X11_shelfOf D (fun r_1 S_2 => 
∃ y_3 : Nat, r_1 = some y_3 ∧ wM D S_2 y_3 ∧ sK S_2 y_3 = 15 ∧
wp_X10_differentPositions D (fun r_5 S_6 => 
post r_5 S_6) S_2 y_3) xp S a0 x1
abbrev r_X11_positionCount : Room := { frames := 7, cells := 1, slots := 6, locals := 141 }
def wp_X11_positionCount (D : wD) (post : Int32 → wS → Prop) (xp : String → wS → Prop) (S : wS) (a0 : Nat) (x1 : Int32) : Prop := wp_X11_positionCount_0 D post xp S a0 x1
set_option maxHeartbeats 4000000 in
set_option maxRecDepth 100000 in
theorem t_X11_positionCount_0 {p : Program} {l : Launch} {e : Env} {s : State} {m : MethodId} {args : Array Value} {below : List Frame} {meth : Method} {c : Code} {D : wD} {cy : Nat → ClassId} {X : va_W} {A : Nat → Prop} {S0 : wS} {post : Int32 → wS → Prop} {xp : String → wS → Prop} (F : CallFix p m c cX11_positionCount 2 s args wz_X11_positionCount RX11) (hr : meth.sig.returnType = (some .int)) (hlocks : meth.locks = false) (hK : wK D cy A s) (hl0 : l.stackTraces = false) (hexc : ∀ x ∈ c.exceptionTable.toList, False) : ∀ {S : wS} {H : Heap} {locs : List Loc} {ls : Array Slot} {a0 : Nat} {x1 : Int32}, wp_X11_positionCount_0 D post xp S a0 x1 → wO D cy X A s.heap S H locs → wX D S0 S → lv_has ls 2 [(0, .ref a0), (1, .int x1)] → wM D S a0 → sK S a0 = 16 → W p l e r_X11_positionCount s m args below meth c H locs 0 0 (vx_MQ below (va_Qi (fun r S9 => wX D S0 S9 ∧ post r S9) (wB D cy X A) A) (wEx D cy X A (fun E S9 => wX D S0 S9 ∧ xp E S9)) args s 1 6 A) (F0 m 0 ls []) := by
  obtain ⟨hx, hb, hml, hown, hts⟩ := id F
  have hwg : ∀ w ∈ WG, w.before args s = true := fun w h => hts w (List.mem_cons_of_mem _ h)
  intro S H locs ls a0 x1 hp hW hE hl hL_a0 hK_a0
  unfold wp_X11_positionCount_0 at hp
  refine lv_aload_n hx hb dX11_positionCount_0 rfl (lv_at hl 0 rfl) ?_
  refine lv_iload_n hx hb dX11_positionCount_1 rfl (lv_at hl 1 rfl) ?_
  refine x_callR (vx_runV (As := [.int x1]) (rest := []) F (c_X11_shelfOf l hl0 hL_a0 hK_a0 hp H.size) (cwV (C := RX11) 1 hts (wg_V wm_RX11_337 wy_X11_shelfOf) rfl rfl rfl (by decide +kernel) ⟨Nat.le_of_ble_eq_true rfl, Nat.le_of_ble_eq_true rfl⟩) (w_preV hK hW hL_a0 hK_a0 (by decide) rfl) rfl rfl hl.1 rfl (lv_room (Nat.le_of_ble_eq_true rfl)) dX11_positionCount_2 ⟨Nat.le_of_ble_eq_true rfl, Nat.le_of_ble_eq_true rfl⟩) hW (fun E ce q9 S9 H locs hp hW h1 h2 h3 => x_out hexc hlocks ⟨hE.trans hp.1, hp.2⟩ hW h1 h2 h3 (by decide) (by decide)) (fun r_1 S_2 H locs hp hW => ?_)
  obtain ⟨hX_S_2, hp⟩ := hp
  refine W.widen (k := 1) (n := 6) (by decide) (by decide) ?_
  have hE := hE.trans hX_S_2
  have hK_a0 : sK S_2 a0 = 16 := (hX_S_2.2 a0 hL_a0).1.trans hK_a0
  have hL_a0 : wM D S_2 a0 := hX_S_2.M hL_a0
  obtain ⟨y_3, h_4, hL_y_3, hK_y_3, hp⟩ := hp
  revert hp; revert hl; revert hW; revert hE; subst h_4; intro hE hW hl hp
  refine w_callI (va_runV (As := []) (rest := []) F (c_X10_differentPositions l hL_y_3 hK_y_3 hp H.size) (cwV (C := RX10) 0 hts (wg_V wm_RX11_359 wy_X10_differentPositions) rfl rfl rfl (by decide +kernel) ⟨Nat.le_of_ble_eq_true rfl, Nat.le_of_ble_eq_true rfl⟩) (w_preV hK hW hL_y_3 hK_y_3 (by decide) rfl) rfl rfl hl.1 rfl (lv_room (Nat.le_of_ble_eq_true rfl)) dX11_positionCount_5 ⟨Nat.le_of_ble_eq_true rfl, Nat.le_of_ble_eq_true rfl⟩) hW (fun r_5 S_6 H locs hp hW => ?_)
  obtain ⟨hX_S_6, hp⟩ := hp
  refine W.widen (k := 1) (n := 6) (by decide) (by decide) ?_
  have hE := hE.trans hX_S_6
  have hK_a0 : sK S_6 a0 = 16 := (hX_S_6.2 a0 hL_a0).1.trans hK_a0
  have hL_a0 : wM D S_6 a0 := hX_S_6.M hL_a0
  refine vx_ret ?_
  exact w_iret hx hb hr hlocks hW ⟨hE, hp⟩ dX11_positionCount_8
set_option maxHeartbeats 4000000 in
set_option maxRecDepth 100000 in
theorem c_X11_positionCount (l : Launch) {D : wD} {cy : Nat → ClassId} {X : va_W} {S0 : wS} {post : Int32 → wS → Prop} {xp : String → wS → Prop} (hl0 : l.stackTraces = false) {a0 : Nat} {x1 : Int32} (hL_a0 : wM D S0 a0) (hK_a0 : sK S0 a0 = 16) (hp : wp_X11_positionCount D post xp S0 a0 x1) : xI D cy X l yX11_positionCount wz_X11_positionCount r_X11_positionCount [.ref a0, .int x1] S0 (fun r S9 => wX D S0 S9 ∧ post r S9) (fun E S9 => wX D S0 S9 ∧ xp E S9) := by
  intro sz
  refine vx_ofW (cc := cX11_positionCount) (maxL := 2) (ret := (some .int)) (by decide) rfl ?_
  intro p e s m args below meth c s₁ B hml hexc hv
  obtain ⟨rfl, hsz, hP, hK, hD0, hRO⟩ := hv
  have hts := atoms_spec (ws := wz_X11_positionCount) B.pre
  have hown : s.vm.findClass RX11 = some m.cls := findClass_of_methodNamed B.named
  subst hsz
  have hD := hD0.self (sz := s.heap.size)
  have F : CallFix p m c cX11_positionCount 2 s _ wz_X11_positionCount RX11 := ⟨B.exec, B.bytes, hml, hown, hts⟩
  have hr := B.returns
  have hlocks := B.notSynchronized
  generalize hAe : va_A (wL cy X S0) s.heap.size = A at hD hK ⊢
  have hA : ∀ q, s.heap.size ≤ q → A q := fun q h => by rw [← hAe]; exact Or.inr h
  have hW : wO D cy X A s.heap S0 s.heap [] := ⟨hP, hD, va_S.rf, hA, hRO⟩
  have hl := lv_entry ([.ref a0, .int x1]) (n := 2) (Nat.le_of_ble_eq_true rfl)
  rw [lg_entry_eq]
  generalize (lg_sl ([.ref a0, .int x1]) ++ List.replicate (2 - (lg_sl ([.ref a0, .int x1])).length) Slot.unset).toArray = ls at hl ⊢
  have hl : lv_has ls 2 [(0, .ref a0), (1, .int x1)] := hl
  unfold wp_X11_positionCount at hp
  exact t_X11_positionCount_0 F hr hlocks hK hl0 hexc hp hW wX.rf (lv_sub hl [0, 1] rfl) hL_a0 hK_a0
def wp_X11_readMoves_89 (D : wD) (post : Int32 → wS → Prop) (xp : String → wS → Prop)  : Nat → Nat → Nat → wS → Nat → Int32 → Int32 → Prop
  | 0, _, _, _, _, _, _ => False
  | n + 1, bc, bs, S, a0, x3, x4 =>
    ((x3 ≤ x4 → ∃ y_2 : Nat, sR S a0 6 = some y_2 ∧ wM D S y_2 ∧ sK S y_2 = 10 ∧
    ∀ S_3 : wS, S_3 = uI S a0 16 (sI S y_2 8) →
    post x3 S_3) ∧
     (¬ x3 ≤ x4 → ∃ y_4 : Nat, sR S a0 6 = some y_4 ∧ wM D S y_4 ∧ sK S y_4 = 10 ∧
    wp_X5_lineMove D (fun r_5 S_6 => 
    wp_X11_make D (fun S_8 => 
    ∀ x_9 : Int32, x_9 = x4 + 1 →
    wp_X11_readMoves_89 D post xp n bc bs S_8 a0 x3 x_9) S_6 a0 r_5) S y_4 x4))
def wp_X11_readMoves_38 (D : wD) (post : Int32 → wS → Prop) (xp : String → wS → Prop)  (bc bs : Nat) (S : wS) (a0 : Nat) (x1 : Int32) (t0 : Int32) : Prop :=
∃ y_1 : Nat, sR S a0 13 = some y_1 ∧ wM D S y_1 ∧ sK S y_1 = 1 ∧
∃ m_4 z_5 : Nat, m_4 ≤ bc ∧ z_5 ≤ bs ∧
wp_J4_setLength_d00df D (fun S_3 => 
((¬ x1 = 0 → ((t0 = (-1 : Int32) → ∃ y_8 : Nat, sR S_3 a0 6 = some y_8 ∧ wM D S_3 y_8 ∧ sK S_3 y_8 = 10 ∧
wp_X5_lineLength D (fun r_9 S_10 => 
∃ n_11 : Nat, wp_X11_readMoves_89 D post xp n_11 (bc - m_4) (bs - z_5) S_10 a0 r_9 (0 : Int32)) S_3 y_8) ∧
 (¬ t0 = (-1 : Int32) → 1 ≤ (bc - m_4) ∧ 6 ≤ (bs - z_5) ∧
xp "java/lang/IllegalArgumentException" S_3))) ∧
 (x1 = 0 → 1 ≤ (bc - m_4) ∧ 6 ≤ (bs - z_5) ∧
xp "java/lang/IllegalStateException" S_3))) m_4 z_5 S y_1 (0 : Int32)
def wp_X11_readMoves_0 (D : wD) (post : Int32 → wS → Prop) (xp : String → wS → Prop)  (bc bs : Nat) (S : wS) (a0 : Nat) : Prop :=
wp_X11_isFirstLawful D (fun r_1 S_2 => 
((r_1 = 0 → wp_X11_readMoves_38 D post xp bc bs S_2 a0 r_1 (-1 : Int32)) ∧
 (¬ r_1 = 0 → ∃ y_4 : Nat, sR S_2 a0 6 = some y_4 ∧ wM D S_2 y_4 ∧ sK S_2 y_4 = 10 ∧
∃ y_5 : Nat, sR S_2 a0 13 = some y_5 ∧ wM D S_2 y_5 ∧ sK S_2 y_5 = 1 ∧
∃ y_6 : Nat, sR S_2 a0 2 = some y_6 ∧ wM D S_2 y_6 ∧ sK S_2 y_6 = 12 ∧
∃ y_7 : Nat, sR S_2 a0 4 = some y_7 ∧ wM D S_2 y_7 ∧ sK S_2 y_7 = 8 ∧
wp_X5_read D (fun r_8 S_9 => 
wp_X11_readMoves_38 D post xp bc bs S_9 a0 r_1 r_8) S_2 y_4 y_5 y_6 ((80 : Int32) - (sI S_2 y_7 3))))) S a0
abbrev r_X11_readMoves (rC rS : Nat) : Room := { frames := 16, cells := rC, slots := rS, locals := 354 }
def wp_X11_readMoves (D : wD) (post : Int32 → wS → Prop) (xp : String → wS → Prop) (bc bs : Nat) (S : wS) (a0 : Nat) : Prop := wp_X11_readMoves_0 D post xp bc bs S a0
set_option maxHeartbeats 4000000 in
set_option maxRecDepth 100000 in
theorem t_X11_readMoves_89 {p : Program} {l : Launch} {e : Env} {s : State} {m : MethodId} {args : Array Value} {below : List Frame} {meth : Method} {c : Code} {D : wD} {cy : Nat → ClassId} {X : va_W} {A : Nat → Prop} {S0 : wS} {rC rS : Nat} {post : Int32 → wS → Prop} {xp : String → wS → Prop} (F : CallFix p m c cX11_readMoves 5 s args wz_X11_readMoves RX11) (hr : meth.sig.returnType = (some .int)) (hlocks : meth.locks = false) (hK : wK D cy A s) (hl0 : l.stackTraces = false) (hexc : ∀ x ∈ c.exceptionTable.toList, False) : ∀ (n : Nat) {bc bs cells slots : Nat} (hbc : cells + bc ≤ rC) (hbs : slots + bs ≤ rS) {S : wS} {H : Heap} {locs : List Loc} {ls : Array Slot} {a0 : Nat} {x3 : Int32} {x4 : Int32}, wp_X11_readMoves_89 D post xp n bc bs S a0 x3 x4 → wO D cy X A s.heap S H locs → wX D S0 S → lv_has ls 5 [(0, .ref a0), (3, .int x3), (4, .int x4)] → wM D S a0 → sK S a0 = 16 → W p l e (r_X11_readMoves rC rS) s m args below meth c H locs cells slots (vx_MQ below (va_Qi (fun r S9 => wX D S0 S9 ∧ post r S9) (wB D cy X A) A) (wEx D cy X A (fun E S9 => wX D S0 S9 ∧ xp E S9)) args s rC rS A) (F0 m 89 ls []) := by
  obtain ⟨hx, hb, hml, hown, hts⟩ := id F
  have hwg : ∀ w ∈ WG, w.before args s = true := fun w h => hts w (List.mem_cons_of_mem _ h)
  have i_10 : ∀ w ∈ u_ws RX5 TX5 11, w ∈ wz_X11_readMoves := fun w h => List.mem_cons_of_mem _ (wu_10 w h)
  have i_16 : ∀ w ∈ u_ws RX11 TX11 18, w ∈ wz_X11_readMoves := fun w h => List.mem_cons_of_mem _ (wu_16 w h)
  have k_116 := hwg _ wf_RX11_116
  have k_58 := hwg _ wf_RX11_58
  intro n
  induction n with
  | zero =>
    intro bc bs cells slots hbc hbs S H locs ls a0 x3 x4 hp
    exact hp.elim
  | succ n ih =>
    intro bc bs cells slots hbc hbs S H locs ls a0 x3 x4 hp hW hE hl hL_a0 hK_a0
    unfold wp_X11_readMoves_89 at hp
    refine lv_iload hx hb dX11_readMoves_89 (lv_at hl 2 rfl) ?_
    refine lv_iload_n hx hb dX11_readMoves_91 rfl (lv_at hl 1 rfl) ?_
    refine lv_icmp_ge (tgt := 114) hx hb dX11_readMoves_92 (by decide) (fun c_1 => ?_) (fun c_1 => ?_)
    · replace hp := hp.1 c_1
      refine lv_aload_n hx hb dX11_readMoves_114 rfl (lv_at hl 0 rfl) ?_
      refine lv_aload_n hx hb dX11_readMoves_115 rfl (lv_at hl 0 rfl) ?_
      obtain ⟨y_2, ey_2, hL_y_2, hK_y_2, hp⟩ := hp
      refine w_get (k := 16) (f := 6) (T := TX11) (v := .ref y_2) F hK hW hL_a0 hK_a0 (by decide) rfl rfl (by decide) i_16 k_58 (by rw [show wv 16 6 S a0 = va_rf (sR S a0 6) from rfl, ey_2]; rfl) dX11_readMoves_116 ?_
      refine w_getN (k := 10) (f := 8) (T := TX5) (v := .int (sI S y_2 8)) F hK hW hL_y_2 hK_y_2 (by decide) rfl rfl (by decide) i_10 (hK.2.1 (.fieldLinkNest "OpeningsCabinet" 336 "OpeningsCabinet$MovesReader" "movesAside" "I" "OpeningsCabinet") (by decide +kernel)) rfl dX11_readMoves_119 ?_
      refine w_putI (k := 16) (f := 16) (T := TX11) F hK hW hL_a0 hK_a0 (by decide) (by decide) rfl rfl (by decide) i_16 tyX11 tyX11_ok nmX11 k_116 rfl rfl (ty := .int) rfl rfl rfl dX11_readMoves_122 (fun H locs hW => ?_)
      obtain ⟨S_3, eS_3⟩ : ∃ z : wS, z = uI S a0 16 (sI S y_2 8) := ⟨_, rfl⟩
      rw [← eS_3] at hW
      replace hp := hp S_3 eS_3
      have hX_S_3 : wX D S S_3 := by rw [eS_3]; exact wX_uI
      have hE := hE.trans hX_S_3
      have hK_a0 : sK S_3 a0 = 16 := (hX_S_3.2 a0 hL_a0).1.trans hK_a0
      have hL_a0 : wM D S_3 a0 := hX_S_3.M hL_a0
      refine lv_iload_n hx hb dX11_readMoves_125 rfl (lv_at hl 1 rfl) ?_
      refine W.widen (k := rC) (n := rS) (Nat.le_trans (Nat.le_add_right _ _) hbc) (Nat.le_trans (Nat.le_add_right _ _) hbs) ?_
      refine vx_ret ?_
      exact w_iret hx hb hr hlocks hW ⟨hE, hp⟩ dX11_readMoves_126
    · replace hp := hp.2 c_1
      refine lv_aload_n hx hb dX11_readMoves_95 rfl (lv_at hl 0 rfl) ?_
      refine lv_aload_n hx hb dX11_readMoves_96 rfl (lv_at hl 0 rfl) ?_
      obtain ⟨y_4, ey_4, hL_y_4, hK_y_4, hp⟩ := hp
      refine w_get (k := 16) (f := 6) (T := TX11) (v := .ref y_4) F hK hW hL_a0 hK_a0 (by decide) rfl rfl (by decide) i_16 k_58 (by rw [show wv 16 6 S a0 = va_rf (sR S a0 6) from rfl, ey_4]; rfl) dX11_readMoves_97 ?_
      refine lv_iload hx hb dX11_readMoves_100 (lv_at hl 2 rfl) ?_
      refine w_callI (va_runV (As := [.int x4]) (rest := [.ref a0]) F (c_X5_lineMove l hL_y_4 hK_y_4 hp H.size) (cwV (C := RX5) 1 hts (wg_V wm_RX11_333 wy_X5_lineMove) rfl rfl rfl (by decide +kernel) ⟨Nat.le_of_ble_eq_true rfl, Nat.le_of_ble_eq_true rfl⟩) (w_preV hK hW hL_y_4 hK_y_4 (by decide) rfl) rfl rfl hl.1 rfl (lv_room (Nat.le_of_ble_eq_true rfl)) dX11_readMoves_102 ⟨by show _ ≤ rC; exact Nat.le_trans (Nat.le_add_right _ _) hbc, by show _ ≤ rS; exact Nat.le_trans (Nat.le_add_right _ _) hbs⟩) hW (fun r_5 S_6 H locs hp hW => ?_)
      obtain ⟨hX_S_6, hp⟩ := hp
      refine w_same ?_
      have hE := hE.trans hX_S_6
      have hK_a0 : sK S_6 a0 = 16 := (hX_S_6.2 a0 hL_a0).1.trans hK_a0
      have hL_a0 : wM D S_6 a0 := hX_S_6.M hL_a0
      refine w_callV (va_runV (As := [.int r_5]) (rest := []) F (c_X11_make l hL_a0 hK_a0 hp H.size) (cwV (C := RX11) 1 hts (wg_V wm_RX11_290 wy_X11_make) rfl rfl rfl (by decide +kernel) ⟨Nat.le_of_ble_eq_true rfl, Nat.le_of_ble_eq_true rfl⟩) (w_preV hK hW hL_a0 hK_a0 (by decide) rfl) rfl rfl hl.1 rfl (lv_room (Nat.le_of_ble_eq_true rfl)) dX11_readMoves_105 ⟨by show _ ≤ rC; exact Nat.le_trans (Nat.le_add_right _ _) hbc, by show _ ≤ rS; exact Nat.le_trans (Nat.le_add_right _ _) hbs⟩) hW (fun S_8 H locs hp hW => ?_)
      obtain ⟨hX_S_8, hp⟩ := hp
      refine w_same ?_
      have hE := hE.trans hX_S_8
      have hK_a0 : sK S_8 a0 = 16 := (hX_S_8.2 a0 hL_a0).1.trans hK_a0
      have hL_a0 : wM D S_8 a0 := hX_S_8.M hL_a0
      obtain ⟨x_9, ex_9⟩ : ∃ z : Int32, z = x4 + 1 := ⟨_, rfl⟩
      replace hp := hp x_9 ex_9
      refine lv_iinc (v := x_9) (lv' := [(4, .int x_9), (0, .ref a0), (3, .int x3)]) hx hb dX11_readMoves_108 hl (k := 2) rfl (by rw [ex_9]; rfl) (by decide) rfl (fun ls hl => ?_)
      refine lv_goto (tgt := 89) hx hb dX11_readMoves_111 (by decide) ?_
      exact ih hbc hbs hp hW hE (lv_sub hl [1, 2, 0] rfl) hL_a0 hK_a0
set_option maxHeartbeats 4000000 in
set_option maxRecDepth 100000 in
theorem t_X11_readMoves_38 {p : Program} {l : Launch} {e : Env} {s : State} {m : MethodId} {args : Array Value} {below : List Frame} {meth : Method} {c : Code} {D : wD} {cy : Nat → ClassId} {X : va_W} {A : Nat → Prop} {S0 : wS} {rC rS : Nat} {post : Int32 → wS → Prop} {xp : String → wS → Prop} (F : CallFix p m c cX11_readMoves 5 s args wz_X11_readMoves RX11) (hr : meth.sig.returnType = (some .int)) (hlocks : meth.locks = false) (hK : wK D cy A s) (hl0 : l.stackTraces = false) (hexc : ∀ x ∈ c.exceptionTable.toList, False) : ∀ {bc bs cells slots : Nat} (hbc : cells + bc ≤ rC) (hbs : slots + bs ≤ rS) {S : wS} {H : Heap} {locs : List Loc} {ls : Array Slot} {a0 : Nat} {x1 : Int32} {t0 : Int32}, wp_X11_readMoves_38 D post xp bc bs S a0 x1 t0 → wO D cy X A s.heap S H locs → wX D S0 S → lv_has ls 5 [(0, .ref a0), (1, .int x1)] → wM D S a0 → sK S a0 = 16 → W p l e (r_X11_readMoves rC rS) s m args below meth c H locs cells slots (vx_MQ below (va_Qi (fun r S9 => wX D S0 S9 ∧ post r S9) (wB D cy X A) A) (wEx D cy X A (fun E S9 => wX D S0 S9 ∧ xp E S9)) args s rC rS A) (F0 m 38 ls [.int t0]) := by
  obtain ⟨hx, hb, hml, hown, hts⟩ := id F
  have hwg : ∀ w ∈ WG, w.before args s = true := fun w h => hts w (List.mem_cons_of_mem _ h)
  have i_16 : ∀ w ∈ u_ws RX11 TX11 18, w ∈ wz_X11_readMoves := fun w h => List.mem_cons_of_mem _ (wu_16 w h)
  have k_105 := hwg _ wf_RX11_105
  have k_58 := hwg _ wf_RX11_58
  intro bc bs cells slots hbc hbs S H locs ls a0 x1 t0 hp hW hE hl hL_a0 hK_a0
  unfold wp_X11_readMoves_38 at hp
  refine lv_istore_n (lv' := [(2, .int t0), (0, .ref a0), (1, .int x1)]) hx hb dX11_readMoves_38 rfl hl (by decide) rfl (fun ls hl => ?_)
  refine lv_aload_n hx hb dX11_readMoves_39 rfl (lv_at hl 1 rfl) ?_
  obtain ⟨y_1, ey_1, hL_y_1, hK_y_1, hp⟩ := hp
  refine w_get (k := 16) (f := 13) (T := TX11) (v := .ref y_1) F hK hW hL_a0 hK_a0 (by decide) rfl rfl (by decide) i_16 k_105 (by rw [show wv 16 13 S a0 = va_rf (sR S a0 13) from rfl, ey_1]; rfl) dX11_readMoves_40 ?_
  refine lv_iconst (v := 0) hx hb dX11_readMoves_43 (by decide) ?_
  obtain ⟨m_4, z_5, hm_4, hz_5, hp⟩ := hp
  refine w_callV (va_runV (As := [.int (0 : Int32)]) (rest := []) F (c_J4_setLength_d00df l hL_y_1 hK_y_1 hp H.size) (cwV (C := RJ4) 1 hts (wg_V wm_RX11_191 wy_J4_setLength_d00df) rfl rfl rfl (by decide +kernel) ⟨Nat.le_of_ble_eq_true rfl, Nat.le_of_ble_eq_true rfl⟩) (w_preV hK hW hL_y_1 hK_y_1 (by decide) rfl) rfl rfl hl.1 rfl (lv_room (Nat.le_of_ble_eq_true rfl)) dX11_readMoves_44 ⟨by show _ + m_4 ≤ rC; omega, by show _ + z_5 ≤ rS; omega⟩) hW (fun S_3 H locs hp hW => ?_)
  obtain ⟨hX_S_3, hp⟩ := hp
  refine W.widen (k := _ + m_4) (n := _ + z_5) (Nat.le_refl _) (Nat.le_refl _) ?_
  replace hbc := w_spend hbc (show m_4 ≤ bc by omega)
  replace hbs := w_spend hbs (show z_5 ≤ bs by omega)
  have hE := hE.trans hX_S_3
  have hK_a0 : sK S_3 a0 = 16 := (hX_S_3.2 a0 hL_a0).1.trans hK_a0
  have hL_a0 : wM D S_3 a0 := hX_S_3.M hL_a0
  refine lv_iload_n hx hb dX11_readMoves_47 rfl (lv_at hl 2 rfl) ?_
  refine lv_if_ne (tgt := 62) hx hb dX11_readMoves_48 (by decide) (fun c_6 => ?_) (fun c_6 => ?_)
  · replace hp := hp.1 c_6
    refine lv_iload_n hx hb dX11_readMoves_62 rfl (lv_at hl 0 rfl) ?_
    refine lv_iconst (v := (-1)) hx hb dX11_readMoves_63 (by decide) ?_
    refine lv_icmp_eq (tgt := 78) hx hb dX11_readMoves_64 (by decide) (fun c_7 => ?_) (fun c_7 => ?_)
    · replace hp := hp.1 c_7
      refine lv_aload_n hx hb dX11_readMoves_78 rfl (lv_at hl 1 rfl) ?_
      obtain ⟨y_8, ey_8, hL_y_8, hK_y_8, hp⟩ := hp
      refine w_get (k := 16) (f := 6) (T := TX11) (v := .ref y_8) F hK hW hL_a0 hK_a0 (by decide) rfl rfl (by decide) i_16 k_58 (by rw [show wv 16 6 S_3 a0 = va_rf (sR S_3 a0 6) from rfl, ey_8]; rfl) dX11_readMoves_79 ?_
      refine w_callI (va_runV (As := []) (rest := []) F (c_X5_lineLength l hL_y_8 hK_y_8 hp H.size) (cwV (C := RX5) 0 hts (wg_V wm_RX11_330 wy_X5_lineLength) rfl rfl rfl (by decide +kernel) ⟨Nat.le_of_ble_eq_true rfl, Nat.le_of_ble_eq_true rfl⟩) (w_preV hK hW hL_y_8 hK_y_8 (by decide) rfl) rfl rfl hl.1 rfl (lv_room (Nat.le_of_ble_eq_true rfl)) dX11_readMoves_82 ⟨by show _ ≤ rC; exact Nat.le_trans (Nat.le_add_right _ _) hbc, by show _ ≤ rS; exact Nat.le_trans (Nat.le_add_right _ _) hbs⟩) hW (fun r_9 S_10 H locs hp hW => ?_)
      obtain ⟨hX_S_10, hp⟩ := hp
      refine w_same ?_
      have hE := hE.trans hX_S_10
      have hK_a0 : sK S_10 a0 = 16 := (hX_S_10.2 a0 hL_a0).1.trans hK_a0
      have hL_a0 : wM D S_10 a0 := hX_S_10.M hL_a0
      refine lv_istore_n (lv' := [(3, .int r_9), (2, .int t0), (0, .ref a0), (1, .int x1)]) hx hb dX11_readMoves_85 rfl hl (by decide) rfl (fun ls hl => ?_)
      refine lv_iconst (v := 0) hx hb dX11_readMoves_86 (by decide) ?_
      refine lv_istore (lv' := [(4, .int (0 : Int32)), (3, .int r_9), (2, .int t0), (0, .ref a0), (1, .int x1)]) hx hb dX11_readMoves_87 hl (by decide) rfl (fun ls hl => ?_)
      obtain ⟨n_11, hp⟩ := hp
      exact t_X11_readMoves_89 F hr hlocks hK hl0 hexc n_11 hbc hbs hp hW hE (lv_sub hl [3, 1, 0] rfl) hL_a0 hK_a0
    · replace hp := hp.2 c_7
      obtain ⟨hm1, hm2, hp⟩ := hp
      exact x_throwW (ls := ls) F hK hW hl0 (by decide) (hwg _ wc_RX11_140) (hwg _ wi_java_lang_IllegalArgumentException) (show ("OpeningsCabinet", 328, "the text has a fault", 30) ∈ wStr by decide +kernel) (wa_RX11_144 hwg hK.2.1) wa_RX11_144_ok hl.1 hexc hlocks dX11_readMoves_67 dX11_readMoves_70 dX11_readMoves_71 dX11_readMoves_74 dX11_readMoves_77 (Nat.le_of_ble_eq_true rfl) (Nat.le_of_ble_eq_true rfl) (by show _ ≤ rC; omega) (by show _ ≤ rS; omega) (by omega) (by omega) ⟨hE, hp⟩
  · replace hp := hp.2 c_6
    obtain ⟨hm1, hm2, hp⟩ := hp
    exact x_throwW (ls := ls) F hK hW hl0 (by decide) (hwg _ wc_RX11_285) (hwg _ wi_java_lang_IllegalStateException) (show ("OpeningsCabinet", 326, "the first position is not proper", 17) ∈ wStr by decide +kernel) (wa_RX11_289 hwg hK.2.1) wa_RX11_289_ok hl.1 hexc hlocks dX11_readMoves_51 dX11_readMoves_54 dX11_readMoves_55 dX11_readMoves_58 dX11_readMoves_61 (Nat.le_of_ble_eq_true rfl) (Nat.le_of_ble_eq_true rfl) (by show _ ≤ rC; omega) (by show _ ≤ rS; omega) (by omega) (by omega) ⟨hE, hp⟩
set_option maxHeartbeats 4000000 in
set_option maxRecDepth 100000 in
theorem t_X11_readMoves_0 {p : Program} {l : Launch} {e : Env} {s : State} {m : MethodId} {args : Array Value} {below : List Frame} {meth : Method} {c : Code} {D : wD} {cy : Nat → ClassId} {X : va_W} {A : Nat → Prop} {S0 : wS} {rC rS : Nat} {post : Int32 → wS → Prop} {xp : String → wS → Prop} (F : CallFix p m c cX11_readMoves 5 s args wz_X11_readMoves RX11) (hr : meth.sig.returnType = (some .int)) (hlocks : meth.locks = false) (hK : wK D cy A s) (hl0 : l.stackTraces = false) (hexc : ∀ x ∈ c.exceptionTable.toList, False) : ∀ {bc bs cells slots : Nat} (hbc : cells + bc ≤ rC) (hbs : slots + bs ≤ rS) {S : wS} {H : Heap} {locs : List Loc} {ls : Array Slot} {a0 : Nat}, wp_X11_readMoves_0 D post xp bc bs S a0 → wO D cy X A s.heap S H locs → wX D S0 S → lv_has ls 5 [(0, .ref a0)] → wM D S a0 → sK S a0 = 16 → W p l e (r_X11_readMoves rC rS) s m args below meth c H locs cells slots (vx_MQ below (va_Qi (fun r S9 => wX D S0 S9 ∧ post r S9) (wB D cy X A) A) (wEx D cy X A (fun E S9 => wX D S0 S9 ∧ xp E S9)) args s rC rS A) (F0 m 0 ls []) := by
  obtain ⟨hx, hb, hml, hown, hts⟩ := id F
  have hwg : ∀ w ∈ WG, w.before args s = true := fun w h => hts w (List.mem_cons_of_mem _ h)
  have i_16 : ∀ w ∈ u_ws RX11 TX11 18, w ∈ wz_X11_readMoves := fun w h => List.mem_cons_of_mem _ (wu_16 w h)
  have i_8 : ∀ w ∈ u_ws RX3 TX3 9, w ∈ wz_X11_readMoves := fun w h => List.mem_cons_of_mem _ (wu_8 w h)
  have k_105 := hwg _ wf_RX11_105
  have k_28 := hwg _ wf_RX11_28
  have k_40 := hwg _ wf_RX11_40
  have k_58 := hwg _ wf_RX11_58
  intro bc bs cells slots hbc hbs S H locs ls a0 hp hW hE hl hL_a0 hK_a0
  unfold wp_X11_readMoves_0 at hp
  refine lv_aload_n hx hb dX11_readMoves_0 rfl (lv_at hl 0 rfl) ?_
  refine w_callI (va_runV (As := []) (rest := []) F (c_X11_isFirstLawful l hL_a0 hK_a0 hp H.size) (cwV (C := RX11) 0 hts (wg_V wm_RX11_323 wy_X11_isFirstLawful) rfl rfl rfl (by decide +kernel) ⟨Nat.le_of_ble_eq_true rfl, Nat.le_of_ble_eq_true rfl⟩) (w_preV hK hW hL_a0 hK_a0 (by decide) rfl) rfl rfl hl.1 rfl (lv_room (Nat.le_of_ble_eq_true rfl)) dX11_readMoves_1 ⟨by show _ ≤ rC; exact Nat.le_trans (Nat.le_add_right _ _) hbc, by show _ ≤ rS; exact Nat.le_trans (Nat.le_add_right _ _) hbs⟩) hW (fun r_1 S_2 H locs hp hW => ?_)
  obtain ⟨hX_S_2, hp⟩ := hp
  refine w_same ?_
  have hE := hE.trans hX_S_2
  have hK_a0 : sK S_2 a0 = 16 := (hX_S_2.2 a0 hL_a0).1.trans hK_a0
  have hL_a0 : wM D S_2 a0 := hX_S_2.M hL_a0
  refine lv_istore_n (lv' := [(1, .int r_1), (0, .ref a0)]) hx hb dX11_readMoves_4 rfl hl (by decide) rfl (fun ls hl => ?_)
  refine lv_iload_n hx hb dX11_readMoves_5 rfl (lv_at hl 0 rfl) ?_
  refine lv_if_eq (tgt := 37) hx hb dX11_readMoves_6 (by decide) (fun c_3 => ?_) (fun c_3 => ?_)
  · replace hp := hp.1 c_3
    refine lv_iconst (v := (-1)) hx hb dX11_readMoves_37 (by decide) ?_
    exact t_X11_readMoves_38 F hr hlocks hK hl0 hexc hbc hbs hp hW hE (lv_sub hl [1, 0] rfl) hL_a0 hK_a0
  · replace hp := hp.2 c_3
    refine lv_aload_n hx hb dX11_readMoves_9 rfl (lv_at hl 1 rfl) ?_
    obtain ⟨y_4, ey_4, hL_y_4, hK_y_4, hp⟩ := hp
    refine w_get (k := 16) (f := 6) (T := TX11) (v := .ref y_4) F hK hW hL_a0 hK_a0 (by decide) rfl rfl (by decide) i_16 k_58 (by rw [show wv 16 6 S_2 a0 = va_rf (sR S_2 a0 6) from rfl, ey_4]; rfl) dX11_readMoves_10 ?_
    refine lv_aload_n hx hb dX11_readMoves_13 rfl (lv_at hl 1 rfl) ?_
    obtain ⟨y_5, ey_5, hL_y_5, hK_y_5, hp⟩ := hp
    refine w_get (k := 16) (f := 13) (T := TX11) (v := .ref y_5) F hK hW hL_a0 hK_a0 (by decide) rfl rfl (by decide) i_16 k_105 (by rw [show wv 16 13 S_2 a0 = va_rf (sR S_2 a0 13) from rfl, ey_5]; rfl) dX11_readMoves_14 ?_
    refine lv_aload_n hx hb dX11_readMoves_17 rfl (lv_at hl 1 rfl) ?_
    obtain ⟨y_6, ey_6, hL_y_6, hK_y_6, hp⟩ := hp
    refine w_get (k := 16) (f := 2) (T := TX11) (v := .ref y_6) F hK hW hL_a0 hK_a0 (by decide) rfl rfl (by decide) i_16 k_28 (by rw [show wv 16 2 S_2 a0 = va_rf (sR S_2 a0 2) from rfl, ey_6]; rfl) dX11_readMoves_18 ?_
    refine lv_bipush (v := 80) hx hb dX11_readMoves_21 (by decide) ?_
    refine lv_aload_n hx hb dX11_readMoves_23 rfl (lv_at hl 1 rfl) ?_
    obtain ⟨y_7, ey_7, hL_y_7, hK_y_7, hp⟩ := hp
    refine w_get (k := 16) (f := 4) (T := TX11) (v := .ref y_7) F hK hW hL_a0 hK_a0 (by decide) rfl rfl (by decide) i_16 k_40 (by rw [show wv 16 4 S_2 a0 = va_rf (sR S_2 a0 4) from rfl, ey_7]; rfl) dX11_readMoves_24 ?_
    refine w_getN (k := 8) (f := 3) (T := TX3) (v := .int (sI S_2 y_7 3)) F hK hW hL_y_7 hK_y_7 (by decide) rfl rfl (by decide) i_8 (hK.2.1 (.fieldLinkNest "OpeningsCabinet" 157 "OpeningsCabinet$Game" "length" "I" "OpeningsCabinet") (by decide +kernel)) rfl dX11_readMoves_27 ?_
    refine lv_isub hx hb dX11_readMoves_30 ?_
    refine w_callI (va_runV (As := [.ref y_5, .ref y_6, .int ((80 : Int32) - (sI S_2 y_7 3))]) (rest := []) F (c_X5_read l hL_y_4 hK_y_4 hL_y_5 hK_y_5 hL_y_6 hK_y_6 hp H.size) (cwV (C := RX5) 3 hts (wg_V wm_RX11_319 wy_X5_read) rfl rfl rfl (by decide +kernel) ⟨Nat.le_of_ble_eq_true rfl, Nat.le_of_ble_eq_true rfl⟩) (w_preV hK hW hL_y_4 hK_y_4 (by decide) rfl) rfl rfl hl.1 rfl (lv_room (Nat.le_of_ble_eq_true rfl)) dX11_readMoves_31 ⟨by show _ ≤ rC; exact Nat.le_trans (Nat.le_add_right _ _) hbc, by show _ ≤ rS; exact Nat.le_trans (Nat.le_add_right _ _) hbs⟩) hW (fun r_8 S_9 H locs hp hW => ?_)
    obtain ⟨hX_S_9, hp⟩ := hp
    refine w_same ?_
    have hE := hE.trans hX_S_9
    have hK_a0 : sK S_9 a0 = 16 := (hX_S_9.2 a0 hL_a0).1.trans hK_a0
    have hL_a0 : wM D S_9 a0 := hX_S_9.M hL_a0
    refine lv_goto (tgt := 38) hx hb dX11_readMoves_34 (by decide) ?_
    exact t_X11_readMoves_38 F hr hlocks hK hl0 hexc hbc hbs hp hW hE (lv_sub hl [1, 0] rfl) hL_a0 hK_a0
set_option maxHeartbeats 4000000 in
set_option maxRecDepth 100000 in
theorem c_X11_readMoves (l : Launch) {rC rS : Nat} {D : wD} {cy : Nat → ClassId} {X : va_W} {S0 : wS} {post : Int32 → wS → Prop} {xp : String → wS → Prop} (hl0 : l.stackTraces = false) {a0 : Nat} (hL_a0 : wM D S0 a0) (hK_a0 : sK S0 a0 = 16) (hp : wp_X11_readMoves D post xp rC rS S0 a0) : xI D cy X l yX11_readMoves wz_X11_readMoves (r_X11_readMoves rC rS) [.ref a0] S0 (fun r S9 => wX D S0 S9 ∧ post r S9) (fun E S9 => wX D S0 S9 ∧ xp E S9) := by
  intro sz
  refine vx_ofW (cc := cX11_readMoves) (maxL := 5) (ret := (some .int)) (by decide) rfl ?_
  intro p e s m args below meth c s₁ B hml hexc hv
  obtain ⟨rfl, hsz, hP, hK, hD0, hRO⟩ := hv
  have hts := atoms_spec (ws := wz_X11_readMoves) B.pre
  have hown : s.vm.findClass RX11 = some m.cls := findClass_of_methodNamed B.named
  subst hsz
  have hD := hD0.self (sz := s.heap.size)
  have F : CallFix p m c cX11_readMoves 5 s _ wz_X11_readMoves RX11 := ⟨B.exec, B.bytes, hml, hown, hts⟩
  have hr := B.returns
  have hlocks := B.notSynchronized
  generalize hAe : va_A (wL cy X S0) s.heap.size = A at hD hK ⊢
  have hA : ∀ q, s.heap.size ≤ q → A q := fun q h => by rw [← hAe]; exact Or.inr h
  have hW : wO D cy X A s.heap S0 s.heap [] := ⟨hP, hD, va_S.rf, hA, hRO⟩
  have hl := lv_entry ([.ref a0]) (n := 5) (Nat.le_of_ble_eq_true rfl)
  rw [lg_entry_eq]
  generalize (lg_sl ([.ref a0]) ++ List.replicate (5 - (lg_sl ([.ref a0])).length) Slot.unset).toArray = ls at hl ⊢
  have hl : lv_has ls 5 [(0, .ref a0)] := hl
  unfold wp_X11_readMoves at hp
  exact t_X11_readMoves_0 F hr hlocks hK hl0 hexc (Nat.le_of_eq (Nat.zero_add _)) (Nat.le_of_eq (Nat.zero_add _)) hp hW wX.rf (lv_sub hl [0] rfl) hL_a0 hK_a0
