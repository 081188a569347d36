theorem dX12_material_0 : decode cX12_material 0 = .ok (.aload_n 0, 1) := by decide +kernel
theorem dX12_material_1 : decode cX12_material 1 = .ok (.iconst 0, 1) := by decide +kernel
theorem dX12_material_2 : decode cX12_material 2 = .ok (.putfield 110, 3) := by decide +kernel
theorem dX12_material_5 : decode cX12_material 5 = .ok (.iconst 0, 1) := by decide +kernel
theorem dX12_material_6 : decode cX12_material 6 = .ok (.istore_n 2, 1) := by decide +kernel
theorem dX12_material_7 : decode cX12_material 7 = .ok (.iconst 0, 1) := by decide +kernel
theorem dX12_material_8 : decode cX12_material 8 = .ok (.istore_n 3, 1) := by decide +kernel
theorem dX12_material_9 : decode cX12_material 9 = .ok (.iload_n 3, 1) := by decide +kernel
theorem dX12_material_10 : decode cX12_material 10 = .ok (.aload_n 0, 1) := by decide +kernel
theorem dX12_material_11 : decode cX12_material 11 = .ok (.invokevirtual 113, 3) := by decide +kernel
theorem dX12_material_14 : decode cX12_material 14 = .ok (.if_icmp .ge 54, 3) := by decide +kernel
theorem dX12_material_17 : decode cX12_material 17 = .ok (.aload_n 0, 1) := by decide +kernel
theorem dX12_material_18 : decode cX12_material 18 = .ok (.getfield 32, 3) := by decide +kernel
theorem dX12_material_21 : decode cX12_material 21 = .ok (.aload_n 0, 1) := by decide +kernel
theorem dX12_material_22 : decode cX12_material 22 = .ok (.invokevirtual 127, 3) := by decide +kernel
theorem dX12_material_25 : decode cX12_material 25 = .ok (.iload_n 3, 1) := by decide +kernel
theorem dX12_material_26 : decode cX12_material 26 = .ok (.iadd, 1) := by decide +kernel
theorem dX12_material_27 : decode cX12_material 27 = .ok (.iaload, 1) := by decide +kernel
theorem dX12_material_28 : decode cX12_material 28 = .ok (.istore 4, 2) := by decide +kernel
theorem dX12_material_30 : decode cX12_material 30 = .ok (.iload_n 2, 1) := by decide +kernel
theorem dX12_material_31 : decode cX12_material 31 = .ok (.iload 4, 2) := by decide +kernel
theorem dX12_material_33 : decode cX12_material 33 = .ok (.iload_n 1, 1) := by decide +kernel
theorem dX12_material_34 : decode cX12_material 34 = .ok (.ifCond .eq 7, 3) := by decide +kernel
theorem dX12_material_37 : decode cX12_material 37 = .ok (.iconst 1, 1) := by decide +kernel
theorem dX12_material_38 : decode cX12_material 38 = .ok (.goto 4, 3) := by decide +kernel
theorem dX12_material_41 : decode cX12_material 41 = .ok (.iconst 0, 1) := by decide +kernel
theorem dX12_material_42 : decode cX12_material 42 = .ok (.invokestatic 154, 3) := by decide +kernel
theorem dX12_material_45 : decode cX12_material 45 = .ok (.ifCond .eq 14, 3) := by decide +kernel
theorem dX12_material_48 : decode cX12_material 48 = .ok (.iload 4, 2) := by decide +kernel
theorem dX12_material_50 : decode cX12_material 50 = .ok (.invokestatic 148, 3) := by decide +kernel
theorem dX12_material_53 : decode cX12_material 53 = .ok (.invokestatic 287, 3) := by decide +kernel
theorem dX12_material_56 : decode cX12_material 56 = .ok (.goto 4, 3) := by decide +kernel
theorem dX12_material_59 : decode cX12_material 59 = .ok (.iconst 0, 1) := by decide +kernel
theorem dX12_material_60 : decode cX12_material 60 = .ok (.iadd, 1) := by decide +kernel
theorem dX12_material_61 : decode cX12_material 61 = .ok (.istore_n 2, 1) := by decide +kernel
theorem dX12_material_62 : decode cX12_material 62 = .ok (.iinc 3 1, 3) := by decide +kernel
theorem dX12_material_65 : decode cX12_material 65 = .ok (.goto (-56), 3) := by decide +kernel
theorem dX12_material_68 : decode cX12_material 68 = .ok (.iload_n 2, 1) := by decide +kernel
theorem dX12_material_69 : decode cX12_material 69 = .ok (.ireturn, 1) := by decide +kernel
theorem dX12_meanLength_0 : decode cX12_meanLength 0 = .ok (.aload_n 0, 1) := by decide +kernel
theorem dX12_meanLength_1 : decode cX12_meanLength 1 = .ok (.iload_n 1, 1) := by decide +kernel
theorem dX12_meanLength_2 : decode cX12_meanLength 2 = .ok (.invokestatic 397, 3) := by decide +kernel
theorem dX12_meanLength_5 : decode cX12_meanLength 5 = .ok (.iconst 1, 1) := by decide +kernel
theorem dX12_meanLength_6 : decode cX12_meanLength 6 = .ok (.invokevirtual 237, 3) := by decide +kernel
theorem dX12_meanLength_9 : decode cX12_meanLength 9 = .ok (.ifCond .eq 12, 3) := by decide +kernel
theorem dX12_meanLength_12 : decode cX12_meanLength 12 = .ok (.aload_n 0, 1) := by decide +kernel
theorem dX12_meanLength_13 : decode cX12_meanLength 13 = .ok (.getfield 69, 3) := by decide +kernel
theorem dX12_meanLength_16 : decode cX12_meanLength 16 = .ok (.iload_n 1, 1) := by decide +kernel
theorem dX12_meanLength_17 : decode cX12_meanLength 17 = .ok (.iaload, 1) := by decide +kernel
theorem dX12_meanLength_18 : decode cX12_meanLength 18 = .ok (.goto 4, 3) := by decide +kernel
theorem dX12_meanLength_21 : decode cX12_meanLength 21 = .ok (.iconst 0, 1) := by decide +kernel
theorem dX12_meanLength_22 : decode cX12_meanLength 22 = .ok (.istore_n 2, 1) := by decide +kernel
theorem dX12_meanLength_23 : decode cX12_meanLength 23 = .ok (.iconst 0, 1) := by decide +kernel
theorem dX12_meanLength_24 : decode cX12_meanLength 24 = .ok (.istore_n 3, 1) := by decide +kernel
theorem dX12_meanLength_25 : decode cX12_meanLength 25 = .ok (.iconst 0, 1) := by decide +kernel
theorem dX12_meanLength_26 : decode cX12_meanLength 26 = .ok (.istore 4, 2) := by decide +kernel
theorem dX12_meanLength_28 : decode cX12_meanLength 28 = .ok (.iload 4, 2) := by decide +kernel
theorem dX12_meanLength_30 : decode cX12_meanLength 30 = .ok (.iload_n 2, 1) := by decide +kernel
theorem dX12_meanLength_31 : decode cX12_meanLength 31 = .ok (.if_icmp .ge 23, 3) := by decide +kernel
theorem dX12_meanLength_34 : decode cX12_meanLength 34 = .ok (.iload_n 3, 1) := by decide +kernel
theorem dX12_meanLength_35 : decode cX12_meanLength 35 = .ok (.aload_n 0, 1) := by decide +kernel
theorem dX12_meanLength_36 : decode cX12_meanLength 36 = .ok (.getfield 79, 3) := by decide +kernel
theorem dX12_meanLength_39 : decode cX12_meanLength 39 = .ok (.iload_n 1, 1) := by decide +kernel
theorem dX12_meanLength_40 : decode cX12_meanLength 40 = .ok (.iload 4, 2) := by decide +kernel
theorem dX12_meanLength_42 : decode cX12_meanLength 42 = .ok (.invokestatic 400, 3) := by decide +kernel
theorem dX12_meanLength_45 : decode cX12_meanLength 45 = .ok (.iaload, 1) := by decide +kernel
theorem dX12_meanLength_46 : decode cX12_meanLength 46 = .ok (.iadd, 1) := by decide +kernel
theorem dX12_meanLength_47 : decode cX12_meanLength 47 = .ok (.istore_n 3, 1) := by decide +kernel
theorem dX12_meanLength_48 : decode cX12_meanLength 48 = .ok (.iinc 4 1, 3) := by decide +kernel
theorem dX12_meanLength_51 : decode cX12_meanLength 51 = .ok (.goto (-23), 3) := by decide +kernel
theorem dX12_meanLength_54 : decode cX12_meanLength 54 = .ok (.iload_n 2, 1) := by decide +kernel
theorem dX12_meanLength_55 : decode cX12_meanLength 55 = .ok (.ifCond .ne 7, 3) := by decide +kernel
theorem dX12_meanLength_58 : decode cX12_meanLength 58 = .ok (.iconst 1, 1) := by decide +kernel
theorem dX12_meanLength_59 : decode cX12_meanLength 59 = .ok (.goto 4, 3) := by decide +kernel
theorem dX12_meanLength_62 : decode cX12_meanLength 62 = .ok (.iload_n 2, 1) := by decide +kernel
theorem dX12_meanLength_63 : decode cX12_meanLength 63 = .ok (.istore 4, 2) := by decide +kernel
theorem dX12_meanLength_65 : decode cX12_meanLength 65 = .ok (.iload_n 3, 1) := by decide +kernel
theorem dX12_meanLength_66 : decode cX12_meanLength 66 = .ok (.i2d, 1) := by decide +kernel
theorem dX12_meanLength_67 : decode cX12_meanLength 67 = .ok (.iload 4, 2) := by decide +kernel
theorem dX12_meanLength_69 : decode cX12_meanLength 69 = .ok (.i2d, 1) := by decide +kernel
theorem dX12_meanLength_70 : decode cX12_meanLength 70 = .ok (.ddiv, 1) := by decide +kernel
theorem dX12_meanLength_71 : decode cX12_meanLength 71 = .ok (.dreturn, 1) := by decide +kernel
theorem dX12_meanStrength_0 : decode cX12_meanStrength 0 = .ok (.aload_n 0, 1) := by decide +kernel
theorem dX12_meanStrength_1 : decode cX12_meanStrength 1 = .ok (.iload_n 1, 1) := by decide +kernel
theorem dX12_meanStrength_2 : decode cX12_meanStrength 2 = .ok (.invokestatic 397, 3) := by decide +kernel
theorem dX12_meanStrength_5 : decode cX12_meanStrength 5 = .ok (.iconst 1, 1) := by decide +kernel
theorem dX12_meanStrength_6 : decode cX12_meanStrength 6 = .ok (.invokevirtual 237, 3) := by decide +kernel
theorem dX12_meanStrength_9 : decode cX12_meanStrength 9 = .ok (.ifCond .ne 5, 3) := by decide +kernel
theorem dX12_meanStrength_12 : decode cX12_meanStrength 12 = .ok (.iconst 0, 1) := by decide +kernel
theorem dX12_meanStrength_13 : decode cX12_meanStrength 13 = .ok (.ireturn, 1) := by decide +kernel
theorem dX12_meanStrength_14 : decode cX12_meanStrength 14 = .ok (.aload_n 0, 1) := by decide +kernel
theorem dX12_meanStrength_15 : decode cX12_meanStrength 15 = .ok (.iload_n 1, 1) := by decide +kernel
theorem dX12_meanStrength_16 : decode cX12_meanStrength 16 = .ok (.iconst (-1), 1) := by decide +kernel
theorem dX12_meanStrength_17 : decode cX12_meanStrength 17 = .ok (.iconst 0, 1) := by decide +kernel
theorem dX12_meanStrength_18 : decode cX12_meanStrength 18 = .ok (.sipush 9999, 3) := by decide +kernel
theorem dX12_meanStrength_21 : decode cX12_meanStrength 21 = .ok (.invokevirtual 427, 3) := by decide +kernel
theorem dX12_meanStrength_24 : decode cX12_meanStrength 24 = .ok (.istore_n 3, 1) := by decide +kernel
theorem dX12_meanStrength_25 : decode cX12_meanStrength 25 = .ok (.aload_n 0, 1) := by decide +kernel
theorem dX12_meanStrength_26 : decode cX12_meanStrength 26 = .ok (.iload_n 3, 1) := by decide +kernel
theorem dX12_meanStrength_27 : decode cX12_meanStrength 27 = .ok (.ifCond .le 7, 3) := by decide +kernel
theorem dX12_meanStrength_30 : decode cX12_meanStrength 30 = .ok (.iconst 1, 1) := by decide +kernel
theorem dX12_meanStrength_31 : decode cX12_meanStrength 31 = .ok (.goto 4, 3) := by decide +kernel
theorem dX12_meanStrength_34 : decode cX12_meanStrength 34 = .ok (.iconst 0, 1) := by decide +kernel
theorem dX12_meanStrength_35 : decode cX12_meanStrength 35 = .ok (.iconst 2, 1) := by decide +kernel
theorem dX12_meanStrength_36 : decode cX12_meanStrength 36 = .ok (.invokevirtual 237, 3) := by decide +kernel
theorem dX12_meanStrength_39 : decode cX12_meanStrength 39 = .ok (.ifCond .ne 5, 3) := by decide +kernel
theorem dX12_meanStrength_42 : decode cX12_meanStrength 42 = .ok (.iconst 0, 1) := by decide +kernel
theorem dX12_meanStrength_43 : decode cX12_meanStrength 43 = .ok (.ireturn, 1) := by decide +kernel
theorem dX12_meanStrength_44 : decode cX12_meanStrength 44 = .ok (.iconst 0, 1) := by decide +kernel
theorem dX12_meanStrength_45 : decode cX12_meanStrength 45 = .ok (.istore 4, 2) := by decide +kernel
theorem dX12_meanStrength_47 : decode cX12_meanStrength 47 = .ok (.iconst 0, 1) := by decide +kernel
theorem dX12_meanStrength_48 : decode cX12_meanStrength 48 = .ok (.istore 5, 2) := by decide +kernel
theorem dX12_meanStrength_50 : decode cX12_meanStrength 50 = .ok (.iload 5, 2) := by decide +kernel
theorem dX12_meanStrength_52 : decode cX12_meanStrength 52 = .ok (.aload_n 0, 1) := by decide +kernel
theorem dX12_meanStrength_53 : decode cX12_meanStrength 53 = .ok (.getfield 69, 3) := by decide +kernel
theorem dX12_meanStrength_56 : decode cX12_meanStrength 56 = .ok (.iload_n 1, 1) := by decide +kernel
theorem dX12_meanStrength_57 : decode cX12_meanStrength 57 = .ok (.iaload, 1) := by decide +kernel
theorem dX12_meanStrength_58 : decode cX12_meanStrength 58 = .ok (.if_icmp .ge 39, 3) := by decide +kernel
theorem dX12_meanStrength_61 : decode cX12_meanStrength 61 = .ok (.iload 4, 2) := by decide +kernel
theorem dX12_meanStrength_63 : decode cX12_meanStrength 63 = .ok (.aload_n 0, 1) := by decide +kernel
theorem dX12_meanStrength_64 : decode cX12_meanStrength 64 = .ok (.iload_n 1, 1) := by decide +kernel
theorem dX12_meanStrength_65 : decode cX12_meanStrength 65 = .ok (.iload 5, 2) := by decide +kernel
theorem dX12_meanStrength_67 : decode cX12_meanStrength 67 = .ok (.invokevirtual 424, 3) := by decide +kernel
theorem dX12_meanStrength_70 : decode cX12_meanStrength 70 = .ok (.ifCond .eq 17, 3) := by decide +kernel
theorem dX12_meanStrength_73 : decode cX12_meanStrength 73 = .ok (.aload_n 0, 1) := by decide +kernel
theorem dX12_meanStrength_74 : decode cX12_meanStrength 74 = .ok (.getfield 88, 3) := by decide +kernel
theorem dX12_meanStrength_77 : decode cX12_meanStrength 77 = .ok (.iload_n 1, 1) := by decide +kernel
theorem dX12_meanStrength_78 : decode cX12_meanStrength 78 = .ok (.iload 5, 2) := by decide +kernel
theorem dX12_meanStrength_80 : decode cX12_meanStrength 80 = .ok (.invokestatic 400, 3) := by decide +kernel
theorem dX12_meanStrength_83 : decode cX12_meanStrength 83 = .ok (.iaload, 1) := by decide +kernel
theorem dX12_meanStrength_84 : decode cX12_meanStrength 84 = .ok (.goto 4, 3) := by decide +kernel
theorem dX12_meanStrength_87 : decode cX12_meanStrength 87 = .ok (.iconst 0, 1) := by decide +kernel
theorem dX12_meanStrength_88 : decode cX12_meanStrength 88 = .ok (.iadd, 1) := by decide +kernel
theorem dX12_meanStrength_89 : decode cX12_meanStrength 89 = .ok (.istore 4, 2) := by decide +kernel
theorem dX12_meanStrength_91 : decode cX12_meanStrength 91 = .ok (.iinc 5 1, 3) := by decide +kernel
theorem dX12_meanStrength_94 : decode cX12_meanStrength 94 = .ok (.goto (-44), 3) := by decide +kernel
theorem dX12_meanStrength_97 : decode cX12_meanStrength 97 = .ok (.iload 4, 2) := by decide +kernel
theorem dX12_meanStrength_99 : decode cX12_meanStrength 99 = .ok (.iload_n 3, 1) := by decide +kernel
theorem dX12_meanStrength_100 : decode cX12_meanStrength 100 = .ok (.invokestatic 431, 3) := by decide +kernel
theorem dX12_meanStrength_103 : decode cX12_meanStrength 103 = .ok (.istore 5, 2) := by decide +kernel
theorem dX12_meanStrength_105 : decode cX12_meanStrength 105 = .ok (.iload_n 2, 1) := by decide +kernel
theorem dX12_meanStrength_106 : decode cX12_meanStrength 106 = .ok (.ifCond .eq 10, 3) := by decide +kernel
theorem dX12_meanStrength_109 : decode cX12_meanStrength 109 = .ok (.iload_n 3, 1) := by decide +kernel
theorem dX12_meanStrength_110 : decode cX12_meanStrength 110 = .ok (.iload 5, 2) := by decide +kernel
theorem dX12_meanStrength_112 : decode cX12_meanStrength 112 = .ok (.idiv, 1) := by decide +kernel
theorem dX12_meanStrength_113 : decode cX12_meanStrength 113 = .ok (.goto 8, 3) := by decide +kernel
theorem dX12_meanStrength_116 : decode cX12_meanStrength 116 = .ok (.iload 4, 2) := by decide +kernel
theorem dX12_meanStrength_118 : decode cX12_meanStrength 118 = .ok (.iload 5, 2) := by decide +kernel
theorem dX12_meanStrength_120 : decode cX12_meanStrength 120 = .ok (.idiv, 1) := by decide +kernel
theorem dX12_meanStrength_121 : decode cX12_meanStrength 121 = .ok (.ireturn, 1) := by decide +kernel
theorem dX12_merge_0 : decode cX12_merge 0 = .ok (.aload_n 0, 1) := by decide +kernel
theorem dX12_merge_1 : decode cX12_merge 1 = .ok (.iconst 0, 1) := by decide +kernel
theorem dX12_merge_2 : decode cX12_merge 2 = .ok (.putfield 110, 3) := by decide +kernel
theorem dX12_merge_5 : decode cX12_merge 5 = .ok (.iconst 0, 1) := by decide +kernel
theorem dX12_merge_6 : decode cX12_merge 6 = .ok (.istore_n 1, 1) := by decide +kernel
theorem dX12_merge_7 : decode cX12_merge 7 = .ok (.iconst 0, 1) := by decide +kernel
theorem dX12_merge_8 : decode cX12_merge 8 = .ok (.istore_n 2, 1) := by decide +kernel
theorem dX12_merge_9 : decode cX12_merge 9 = .ok (.iload_n 2, 1) := by decide +kernel
theorem dX12_merge_10 : decode cX12_merge 10 = .ok (.aload_n 0, 1) := by decide +kernel
theorem dX12_merge_11 : decode cX12_merge 11 = .ok (.getfield 69, 3) := by decide +kernel
theorem dX12_merge_14 : decode cX12_merge 14 = .ok (.iconst 1, 1) := by decide +kernel
theorem dX12_merge_15 : decode cX12_merge 15 = .ok (.iaload, 1) := by decide +kernel
theorem dX12_merge_16 : decode cX12_merge 16 = .ok (.if_icmp .ge 166, 3) := by decide +kernel
theorem dX12_merge_19 : decode cX12_merge 19 = .ok (.iconst 1, 1) := by decide +kernel
theorem dX12_merge_20 : decode cX12_merge 20 = .ok (.iload_n 2, 1) := by decide +kernel
theorem dX12_merge_21 : decode cX12_merge 21 = .ok (.invokestatic 400, 3) := by decide +kernel
theorem dX12_merge_24 : decode cX12_merge 24 = .ok (.istore_n 3, 1) := by decide +kernel
theorem dX12_merge_25 : decode cX12_merge 25 = .ok (.aload_n 0, 1) := by decide +kernel
theorem dX12_merge_26 : decode cX12_merge 26 = .ok (.getfield 69, 3) := by decide +kernel
theorem dX12_merge_29 : decode cX12_merge 29 = .ok (.iconst 0, 1) := by decide +kernel
theorem dX12_merge_30 : decode cX12_merge 30 = .ok (.iaload, 1) := by decide +kernel
theorem dX12_merge_31 : decode cX12_merge 31 = .ok (.istore 4, 2) := by decide +kernel
theorem dX12_merge_33 : decode cX12_merge 33 = .ok (.iload 4, 2) := by decide +kernel
theorem dX12_merge_35 : decode cX12_merge 35 = .ok (.bipush 40, 2) := by decide +kernel
theorem dX12_merge_37 : decode cX12_merge 37 = .ok (.if_icmp .ge 139, 3) := by decide +kernel
theorem dX12_merge_40 : decode cX12_merge 40 = .ok (.aload_n 0, 1) := by decide +kernel
theorem dX12_merge_41 : decode cX12_merge 41 = .ok (.iload_n 3, 1) := by decide +kernel
theorem dX12_merge_42 : decode cX12_merge 42 = .ok (.invokevirtual 461, 3) := by decide +kernel
theorem dX12_merge_45 : decode cX12_merge 45 = .ok (.ifCond .ne 131, 3) := by decide +kernel
theorem dX12_merge_48 : decode cX12_merge 48 = .ok (.sipush 5427, 3) := by decide +kernel
theorem dX12_merge_51 : decode cX12_merge 51 = .ok (.aload_n 0, 1) := by decide +kernel
theorem dX12_merge_52 : decode cX12_merge 52 = .ok (.getfield 73, 3) := by decide +kernel
theorem dX12_merge_55 : decode cX12_merge 55 = .ok (.sipush 5427, 3) := by decide +kernel
theorem dX12_merge_58 : decode cX12_merge 58 = .ok (.iload_n 3, 1) := by decide +kernel
theorem dX12_merge_59 : decode cX12_merge 59 = .ok (.imul, 1) := by decide +kernel
theorem dX12_merge_60 : decode cX12_merge 60 = .ok (.aload_n 0, 1) := by decide +kernel
theorem dX12_merge_61 : decode cX12_merge 61 = .ok (.getfield 73, 3) := by decide +kernel
theorem dX12_merge_64 : decode cX12_merge 64 = .ok (.sipush 5427, 3) := by decide +kernel
theorem dX12_merge_67 : decode cX12_merge 67 = .ok (.iload 4, 2) := by decide +kernel
theorem dX12_merge_69 : decode cX12_merge 69 = .ok (.imul, 1) := by decide +kernel
theorem dX12_merge_70 : decode cX12_merge 70 = .ok (.invokestatic 130, 3) := by decide +kernel
theorem dX12_merge_73 : decode cX12_merge 73 = .ok (.bipush 80, 2) := by decide +kernel
theorem dX12_merge_75 : decode cX12_merge 75 = .ok (.aload_n 0, 1) := by decide +kernel
theorem dX12_merge_76 : decode cX12_merge 76 = .ok (.getfield 76, 3) := by decide +kernel
theorem dX12_merge_79 : decode cX12_merge 79 = .ok (.bipush 80, 2) := by decide +kernel
theorem dX12_merge_81 : decode cX12_merge 81 = .ok (.iload_n 3, 1) := by decide +kernel
theorem dX12_merge_82 : decode cX12_merge 82 = .ok (.imul, 1) := by decide +kernel
theorem dX12_merge_83 : decode cX12_merge 83 = .ok (.aload_n 0, 1) := by decide +kernel
theorem dX12_merge_84 : decode cX12_merge 84 = .ok (.getfield 76, 3) := by decide +kernel
theorem dX12_merge_87 : decode cX12_merge 87 = .ok (.bipush 80, 2) := by decide +kernel
theorem dX12_merge_89 : decode cX12_merge 89 = .ok (.iload 4, 2) := by decide +kernel
theorem dX12_merge_91 : decode cX12_merge 91 = .ok (.imul, 1) := by decide +kernel
theorem dX12_merge_92 : decode cX12_merge 92 = .ok (.invokestatic 130, 3) := by decide +kernel
theorem dX12_merge_95 : decode cX12_merge 95 = .ok (.aload_n 0, 1) := by decide +kernel
theorem dX12_merge_96 : decode cX12_merge 96 = .ok (.getfield 79, 3) := by decide +kernel
theorem dX12_merge_99 : decode cX12_merge 99 = .ok (.iload 4, 2) := by decide +kernel
theorem dX12_merge_101 : decode cX12_merge 101 = .ok (.aload_n 0, 1) := by decide +kernel
theorem dX12_merge_102 : decode cX12_merge 102 = .ok (.getfield 79, 3) := by decide +kernel
theorem dX12_merge_105 : decode cX12_merge 105 = .ok (.iload_n 3, 1) := by decide +kernel
theorem dX12_merge_106 : decode cX12_merge 106 = .ok (.iaload, 1) := by decide +kernel
theorem dX12_merge_107 : decode cX12_merge 107 = .ok (.iastore, 1) := by decide +kernel
theorem dX12_merge_108 : decode cX12_merge 108 = .ok (.aload_n 0, 1) := by decide +kernel
theorem dX12_merge_109 : decode cX12_merge 109 = .ok (.getfield 82, 3) := by decide +kernel
theorem dX12_merge_112 : decode cX12_merge 112 = .ok (.iload 4, 2) := by decide +kernel
theorem dX12_merge_114 : decode cX12_merge 114 = .ok (.aload_n 0, 1) := by decide +kernel
theorem dX12_merge_115 : decode cX12_merge 115 = .ok (.getfield 82, 3) := by decide +kernel
theorem dX12_merge_118 : decode cX12_merge 118 = .ok (.iload_n 3, 1) := by decide +kernel
theorem dX12_merge_119 : decode cX12_merge 119 = .ok (.iaload, 1) := by decide +kernel
theorem dX12_merge_120 : decode cX12_merge 120 = .ok (.iastore, 1) := by decide +kernel
theorem dX12_merge_121 : decode cX12_merge 121 = .ok (.aload_n 0, 1) := by decide +kernel
theorem dX12_merge_122 : decode cX12_merge 122 = .ok (.getfield 85, 3) := by decide +kernel
theorem dX12_merge_125 : decode cX12_merge 125 = .ok (.iload 4, 2) := by decide +kernel
theorem dX12_merge_127 : decode cX12_merge 127 = .ok (.aload_n 0, 1) := by decide +kernel
theorem dX12_merge_128 : decode cX12_merge 128 = .ok (.getfield 85, 3) := by decide +kernel
theorem dX12_merge_131 : decode cX12_merge 131 = .ok (.iload_n 3, 1) := by decide +kernel
theorem dX12_merge_132 : decode cX12_merge 132 = .ok (.iaload, 1) := by decide +kernel
theorem dX12_merge_133 : decode cX12_merge 133 = .ok (.iastore, 1) := by decide +kernel
theorem dX12_merge_134 : decode cX12_merge 134 = .ok (.aload_n 0, 1) := by decide +kernel
theorem dX12_merge_135 : decode cX12_merge 135 = .ok (.getfield 88, 3) := by decide +kernel
theorem dX12_merge_138 : decode cX12_merge 138 = .ok (.iload 4, 2) := by decide +kernel
theorem dX12_merge_140 : decode cX12_merge 140 = .ok (.aload_n 0, 1) := by decide +kernel
theorem dX12_merge_141 : decode cX12_merge 141 = .ok (.getfield 88, 3) := by decide +kernel
theorem dX12_merge_144 : decode cX12_merge 144 = .ok (.iload_n 3, 1) := by decide +kernel
theorem dX12_merge_145 : decode cX12_merge 145 = .ok (.iaload, 1) := by decide +kernel
theorem dX12_merge_146 : decode cX12_merge 146 = .ok (.iastore, 1) := by decide +kernel
theorem dX12_merge_147 : decode cX12_merge 147 = .ok (.aload_n 0, 1) := by decide +kernel
theorem dX12_merge_148 : decode cX12_merge 148 = .ok (.getfield 91, 3) := by decide +kernel
theorem dX12_merge_151 : decode cX12_merge 151 = .ok (.iload 4, 2) := by decide +kernel
theorem dX12_merge_153 : decode cX12_merge 153 = .ok (.iconst 0, 1) := by decide +kernel
theorem dX12_merge_154 : decode cX12_merge 154 = .ok (.iastore, 1) := by decide +kernel
theorem dX12_merge_155 : decode cX12_merge 155 = .ok (.aload_n 0, 1) := by decide +kernel
theorem dX12_merge_156 : decode cX12_merge 156 = .ok (.getfield 94, 3) := by decide +kernel
theorem dX12_merge_159 : decode cX12_merge 159 = .ok (.iload 4, 2) := by decide +kernel
theorem dX12_merge_161 : decode cX12_merge 161 = .ok (.iconst 0, 1) := by decide +kernel
theorem dX12_merge_162 : decode cX12_merge 162 = .ok (.iastore, 1) := by decide +kernel
theorem dX12_merge_163 : decode cX12_merge 163 = .ok (.aload_n 0, 1) := by decide +kernel
theorem dX12_merge_164 : decode cX12_merge 164 = .ok (.getfield 69, 3) := by decide +kernel
theorem dX12_merge_167 : decode cX12_merge 167 = .ok (.iconst 0, 1) := by decide +kernel
theorem dX12_merge_168 : decode cX12_merge 168 = .ok (.dup2, 1) := by decide +kernel
theorem dX12_merge_169 : decode cX12_merge 169 = .ok (.iaload, 1) := by decide +kernel
theorem dX12_merge_170 : decode cX12_merge 170 = .ok (.iconst 1, 1) := by decide +kernel
theorem dX12_merge_171 : decode cX12_merge 171 = .ok (.iadd, 1) := by decide +kernel
theorem dX12_merge_172 : decode cX12_merge 172 = .ok (.iastore, 1) := by decide +kernel
theorem dX12_merge_173 : decode cX12_merge 173 = .ok (.iinc 1 1, 3) := by decide +kernel
theorem dX12_merge_176 : decode cX12_merge 176 = .ok (.iinc 2 1, 3) := by decide +kernel
theorem dX12_merge_179 : decode cX12_merge 179 = .ok (.goto (-170), 3) := by decide +kernel
theorem dX12_merge_182 : decode cX12_merge 182 = .ok (.aload_n 0, 1) := by decide +kernel
theorem dX12_merge_183 : decode cX12_merge 183 = .ok (.getfield 69, 3) := by decide +kernel
theorem dX12_merge_186 : decode cX12_merge 186 = .ok (.iconst 1, 1) := by decide +kernel
theorem dX12_merge_187 : decode cX12_merge 187 = .ok (.iconst 0, 1) := by decide +kernel
theorem dX12_merge_188 : decode cX12_merge 188 = .ok (.iastore, 1) := by decide +kernel
theorem dX12_merge_189 : decode cX12_merge 189 = .ok (.iload_n 1, 1) := by decide +kernel
theorem dX12_merge_190 : decode cX12_merge 190 = .ok (.ireturn, 1) := by decide +kernel
theorem dX12_moveBecomes_0 : decode cX12_moveBecomes 0 = .ok (.aload_n 0, 1) := by decide +kernel
theorem dX12_moveBecomes_1 : decode cX12_moveBecomes 1 = .ok (.iload_n 1, 1) := by decide +kernel
theorem dX12_moveBecomes_2 : decode cX12_moveBecomes 2 = .ok (.invokevirtual 293, 3) := by decide +kernel
theorem dX12_moveBecomes_5 : decode cX12_moveBecomes 5 = .ok (.ifCond .eq 12, 3) := by decide +kernel
theorem dX12_moveBecomes_8 : decode cX12_moveBecomes 8 = .ok (.aload_n 0, 1) := by decide +kernel
theorem dX12_moveBecomes_9 : decode cX12_moveBecomes 9 = .ok (.getfield 26, 3) := by decide +kernel
theorem dX12_moveBecomes_12 : decode cX12_moveBecomes 12 = .ok (.iload_n 1, 1) := by decide +kernel
theorem dX12_moveBecomes_13 : decode cX12_moveBecomes 13 = .ok (.iaload, 1) := by decide +kernel
theorem dX12_moveBecomes_14 : decode cX12_moveBecomes 14 = .ok (.goto 4, 3) := by decide +kernel
theorem dX12_moveBecomes_17 : decode cX12_moveBecomes 17 = .ok (.iconst 0, 1) := by decide +kernel
theorem dX12_moveBecomes_18 : decode cX12_moveBecomes 18 = .ok (.ireturn, 1) := by decide +kernel
theorem dX12_moveCount_0 : decode cX12_moveCount 0 = .ok (.aload_n 0, 1) := by decide +kernel
theorem dX12_moveCount_1 : decode cX12_moveCount 1 = .ok (.aload_n 0, 1) := by decide +kernel
theorem dX12_moveCount_2 : decode cX12_moveCount 2 = .ok (.invokevirtual 284, 3) := by decide +kernel
theorem dX12_moveCount_5 : decode cX12_moveCount 5 = .ok (.iconst 1, 1) := by decide +kernel
theorem dX12_moveCount_6 : decode cX12_moveCount 6 = .ok (.invokevirtual 237, 3) := by decide +kernel
theorem dX12_moveCount_9 : decode cX12_moveCount 9 = .ok (.ifCond .ne 5, 3) := by decide +kernel
theorem dX12_moveCount_12 : decode cX12_moveCount 12 = .ok (.iconst 0, 1) := by decide +kernel
theorem dX12_moveCount_13 : decode cX12_moveCount 13 = .ok (.ireturn, 1) := by decide +kernel
theorem dX12_moveCount_14 : decode cX12_moveCount 14 = .ok (.aload_n 0, 1) := by decide +kernel
theorem dX12_moveCount_15 : decode cX12_moveCount 15 = .ok (.iconst 0, 1) := by decide +kernel
theorem dX12_moveCount_16 : decode cX12_moveCount 16 = .ok (.invokevirtual 233, 3) := by decide +kernel
theorem dX12_moveCount_19 : decode cX12_moveCount 19 = .ok (.aload_n 0, 1) := by decide +kernel
theorem dX12_moveCount_20 : decode cX12_moveCount 20 = .ok (.getfield 29, 3) := by decide +kernel
theorem dX12_moveCount_23 : decode cX12_moveCount 23 = .ok (.iconst 0, 1) := by decide +kernel
theorem dX12_moveCount_24 : decode cX12_moveCount 24 = .ok (.iaload, 1) := by decide +kernel
theorem dX12_moveCount_25 : decode cX12_moveCount 25 = .ok (.ireturn, 1) := by decide +kernel
theorem dX12_moveFrom_0 : decode cX12_moveFrom 0 = .ok (.aload_n 0, 1) := by decide +kernel
theorem dX12_moveFrom_1 : decode cX12_moveFrom 1 = .ok (.iload_n 1, 1) := by decide +kernel
theorem dX12_moveFrom_2 : decode cX12_moveFrom 2 = .ok (.invokevirtual 293, 3) := by decide +kernel
theorem dX12_moveFrom_5 : decode cX12_moveFrom 5 = .ok (.ifCond .eq 12, 3) := by decide +kernel
theorem dX12_moveFrom_8 : decode cX12_moveFrom 8 = .ok (.aload_n 0, 1) := by decide +kernel
theorem dX12_moveFrom_9 : decode cX12_moveFrom 9 = .ok (.getfield 20, 3) := by decide +kernel
theorem dX12_moveFrom_12 : decode cX12_moveFrom 12 = .ok (.iload_n 1, 1) := by decide +kernel
theorem dX12_moveFrom_13 : decode cX12_moveFrom 13 = .ok (.iaload, 1) := by decide +kernel
theorem dX12_moveFrom_14 : decode cX12_moveFrom 14 = .ok (.goto 4, 3) := by decide +kernel
theorem dX12_moveFrom_17 : decode cX12_moveFrom 17 = .ok (.iconst 0, 1) := by decide +kernel
theorem dX12_moveFrom_18 : decode cX12_moveFrom 18 = .ok (.ireturn, 1) := by decide +kernel
theorem dX12_moveTo_0 : decode cX12_moveTo 0 = .ok (.aload_n 0, 1) := by decide +kernel
theorem dX12_moveTo_1 : decode cX12_moveTo 1 = .ok (.iload_n 1, 1) := by decide +kernel
theorem dX12_moveTo_2 : decode cX12_moveTo 2 = .ok (.invokevirtual 293, 3) := by decide +kernel
theorem dX12_moveTo_5 : decode cX12_moveTo 5 = .ok (.ifCond .eq 12, 3) := by decide +kernel
theorem dX12_moveTo_8 : decode cX12_moveTo 8 = .ok (.aload_n 0, 1) := by decide +kernel
theorem dX12_moveTo_9 : decode cX12_moveTo 9 = .ok (.getfield 23, 3) := by decide +kernel
theorem dX12_moveTo_12 : decode cX12_moveTo 12 = .ok (.iload_n 1, 1) := by decide +kernel
theorem dX12_moveTo_13 : decode cX12_moveTo 13 = .ok (.iaload, 1) := by decide +kernel
theorem dX12_moveTo_14 : decode cX12_moveTo 14 = .ok (.goto 4, 3) := by decide +kernel
theorem dX12_moveTo_17 : decode cX12_moveTo 17 = .ok (.iconst 0, 1) := by decide +kernel
theorem dX12_moveTo_18 : decode cX12_moveTo 18 = .ok (.ireturn, 1) := by decide +kernel
theorem dX12_newBoard_0 : decode cX12_newBoard 0 = .ok (.aload_n 0, 1) := by decide +kernel
theorem dX12_newBoard_1 : decode cX12_newBoard 1 = .ok (.iload_n 1, 1) := by decide +kernel
theorem dX12_newBoard_2 : decode cX12_newBoard 2 = .ok (.iconst 4, 1) := by decide +kernel
theorem dX12_newBoard_3 : decode cX12_newBoard 3 = .ok (.bipush 8, 2) := by decide +kernel
theorem dX12_newBoard_5 : decode cX12_newBoard 5 = .ok (.invokestatic 117, 3) := by decide +kernel
theorem dX12_newBoard_8 : decode cX12_newBoard 8 = .ok (.ifCond .eq 17, 3) := by decide +kernel
theorem dX12_newBoard_11 : decode cX12_newBoard 11 = .ok (.iload_n 2, 1) := by decide +kernel
theorem dX12_newBoard_12 : decode cX12_newBoard 12 = .ok (.iconst 4, 1) := by decide +kernel
theorem dX12_newBoard_13 : decode cX12_newBoard 13 = .ok (.bipush 8, 2) := by decide +kernel
theorem dX12_newBoard_15 : decode cX12_newBoard 15 = .ok (.invokestatic 117, 3) := by decide +kernel
theorem dX12_newBoard_18 : decode cX12_newBoard 18 = .ok (.ifCond .eq 7, 3) := by decide +kernel
theorem dX12_newBoard_21 : decode cX12_newBoard 21 = .ok (.iconst 1, 1) := by decide +kernel
theorem dX12_newBoard_22 : decode cX12_newBoard 22 = .ok (.goto 4, 3) := by decide +kernel
theorem dX12_newBoard_25 : decode cX12_newBoard 25 = .ok (.iconst 0, 1) := by decide +kernel
theorem dX12_newBoard_26 : decode cX12_newBoard 26 = .ok (.iconst 1, 1) := by decide +kernel
theorem dX12_newBoard_27 : decode cX12_newBoard 27 = .ok (.invokevirtual 237, 3) := by decide +kernel
theorem dX12_newBoard_30 : decode cX12_newBoard 30 = .ok (.ifCond .ne 5, 3) := by decide +kernel
theorem dX12_newBoard_33 : decode cX12_newBoard 33 = .ok (.iconst 0, 1) := by decide +kernel
theorem dX12_newBoard_34 : decode cX12_newBoard 34 = .ok (.ireturn, 1) := by decide +kernel
theorem dX12_newBoard_35 : decode cX12_newBoard 35 = .ok (.aload_n 0, 1) := by decide +kernel
theorem dX12_newBoard_36 : decode cX12_newBoard 36 = .ok (.iload_n 1, 1) := by decide +kernel
theorem dX12_newBoard_37 : decode cX12_newBoard 37 = .ok (.putfield 9, 3) := by decide +kernel
theorem dX12_newBoard_40 : decode cX12_newBoard 40 = .ok (.aload_n 0, 1) := by decide +kernel
theorem dX12_newBoard_41 : decode cX12_newBoard 41 = .ok (.iload_n 2, 1) := by decide +kernel
theorem dX12_newBoard_42 : decode cX12_newBoard 42 = .ok (.putfield 13, 3) := by decide +kernel
theorem dX12_newBoard_45 : decode cX12_newBoard 45 = .ok (.aload_n 0, 1) := by decide +kernel
theorem dX12_newBoard_46 : decode cX12_newBoard 46 = .ok (.invokevirtual 107, 3) := by decide +kernel
theorem dX12_newBoard_49 : decode cX12_newBoard 49 = .ok (.aload_n 0, 1) := by decide +kernel
theorem dX12_newBoard_50 : decode cX12_newBoard 50 = .ok (.invokevirtual 113, 3) := by decide +kernel
theorem dX12_newBoard_53 : decode cX12_newBoard 53 = .ok (.ireturn, 1) := by decide +kernel
theorem dX12_outputByte_0 : decode cX12_outputByte 0 = .ok (.aload_n 0, 1) := by decide +kernel
theorem dX12_outputByte_1 : decode cX12_outputByte 1 = .ok (.iload_n 1, 1) := by decide +kernel
theorem dX12_outputByte_2 : decode cX12_outputByte 2 = .ok (.iconst 0, 1) := by decide +kernel
theorem dX12_outputByte_3 : decode cX12_outputByte 3 = .ok (.aload_n 0, 1) := by decide +kernel
theorem dX12_outputByte_4 : decode cX12_outputByte 4 = .ok (.getfield 244, 3) := by decide +kernel
theorem dX12_outputByte_7 : decode cX12_outputByte 7 = .ok (.iconst 1, 1) := by decide +kernel
theorem dX12_outputByte_8 : decode cX12_outputByte 8 = .ok (.isub, 1) := by decide +kernel
theorem dX12_outputByte_9 : decode cX12_outputByte 9 = .ok (.invokestatic 117, 3) := by decide +kernel
theorem dX12_outputByte_12 : decode cX12_outputByte 12 = .ok (.iconst 1, 1) := by decide +kernel
theorem dX12_outputByte_13 : decode cX12_outputByte 13 = .ok (.invokevirtual 237, 3) := by decide +kernel
theorem dX12_outputByte_16 : decode cX12_outputByte 16 = .ok (.ifCond .eq 12, 3) := by decide +kernel
theorem dX12_outputByte_19 : decode cX12_outputByte 19 = .ok (.aload_n 0, 1) := by decide +kernel
theorem dX12_outputByte_20 : decode cX12_outputByte 20 = .ok (.getfield 45, 3) := by decide +kernel
theorem dX12_outputByte_23 : decode cX12_outputByte 23 = .ok (.iload_n 1, 1) := by decide +kernel
theorem dX12_outputByte_24 : decode cX12_outputByte 24 = .ok (.iaload, 1) := by decide +kernel
theorem dX12_outputByte_25 : decode cX12_outputByte 25 = .ok (.goto 4, 3) := by decide +kernel
theorem dX12_outputByte_28 : decode cX12_outputByte 28 = .ok (.iconst 0, 1) := by decide +kernel
theorem dX12_outputByte_29 : decode cX12_outputByte 29 = .ok (.ireturn, 1) := by decide +kernel
theorem dX12_passingSquare_0 : decode cX12_passingSquare 0 = .ok (.aload_n 0, 1) := by decide +kernel
theorem dX12_passingSquare_1 : decode cX12_passingSquare 1 = .ok (.iconst 0, 1) := by decide +kernel
theorem dX12_passingSquare_2 : decode cX12_passingSquare 2 = .ok (.putfield 110, 3) := by decide +kernel
theorem dX12_passingSquare_5 : decode cX12_passingSquare 5 = .ok (.aload_n 0, 1) := by decide +kernel
theorem dX12_passingSquare_6 : decode cX12_passingSquare 6 = .ok (.getfield 32, 3) := by decide +kernel
theorem dX12_passingSquare_9 : decode cX12_passingSquare 9 = .ok (.aload_n 0, 1) := by decide +kernel
theorem dX12_passingSquare_10 : decode cX12_passingSquare 10 = .ok (.invokevirtual 127, 3) := by decide +kernel
theorem dX12_passingSquare_13 : decode cX12_passingSquare 13 = .ok (.bipush 66, 2) := by decide +kernel
theorem dX12_passingSquare_15 : decode cX12_passingSquare 15 = .ok (.iadd, 1) := by decide +kernel
theorem dX12_passingSquare_16 : decode cX12_passingSquare 16 = .ok (.iaload, 1) := by decide +kernel
theorem dX12_passingSquare_17 : decode cX12_passingSquare 17 = .ok (.ireturn, 1) := by decide +kernel
theorem dX12_positions_0 : decode cX12_positions 0 = .ok (.iconst 0, 1) := by decide +kernel
theorem dX12_positions_1 : decode cX12_positions 1 = .ok (.istore_n 3, 1) := by decide +kernel
theorem dX12_positions_2 : decode cX12_positions 2 = .ok (.iconst 0, 1) := by decide +kernel
theorem dX12_positions_3 : decode cX12_positions 3 = .ok (.istore 4, 2) := by decide +kernel
theorem dX12_positions_5 : decode cX12_positions 5 = .ok (.iload 4, 2) := by decide +kernel
theorem dX12_positions_7 : decode cX12_positions 7 = .ok (.aload_n 0, 1) := by decide +kernel
theorem dX12_positions_8 : decode cX12_positions 8 = .ok (.getfield 69, 3) := by decide +kernel
theorem dX12_positions_11 : decode cX12_positions 11 = .ok (.iload_n 1, 1) := by decide +kernel
theorem dX12_positions_12 : decode cX12_positions 12 = .ok (.iaload, 1) := by decide +kernel
theorem dX12_positions_13 : decode cX12_positions 13 = .ok (.if_icmp .ge 73, 3) := by decide +kernel
theorem dX12_positions_16 : decode cX12_positions 16 = .ok (.iconst 0, 1) := by decide +kernel
theorem dX12_positions_17 : decode cX12_positions 17 = .ok (.istore 5, 2) := by decide +kernel
theorem dX12_positions_19 : decode cX12_positions 19 = .ok (.iload 5, 2) := by decide +kernel
theorem dX12_positions_21 : decode cX12_positions 21 = .ok (.aload_n 0, 1) := by decide +kernel
theorem dX12_positions_22 : decode cX12_positions 22 = .ok (.getfield 79, 3) := by decide +kernel
theorem dX12_positions_25 : decode cX12_positions 25 = .ok (.iload_n 1, 1) := by decide +kernel
theorem dX12_positions_26 : decode cX12_positions 26 = .ok (.iload 4, 2) := by decide +kernel
theorem dX12_positions_28 : decode cX12_positions 28 = .ok (.invokestatic 400, 3) := by decide +kernel
theorem dX12_positions_31 : decode cX12_positions 31 = .ok (.iaload, 1) := by decide +kernel
theorem dX12_positions_32 : decode cX12_positions 32 = .ok (.if_icmp .gt 48, 3) := by decide +kernel
theorem dX12_positions_35 : decode cX12_positions 35 = .ok (.iload_n 3, 1) := by decide +kernel
theorem dX12_positions_36 : decode cX12_positions 36 = .ok (.iload_n 2, 1) := by decide +kernel
theorem dX12_positions_37 : decode cX12_positions 37 = .ok (.ifCond .eq 18, 3) := by decide +kernel
theorem dX12_positions_40 : decode cX12_positions 40 = .ok (.aload_n 0, 1) := by decide +kernel
theorem dX12_positions_41 : decode cX12_positions 41 = .ok (.iload_n 1, 1) := by decide +kernel
theorem dX12_positions_42 : decode cX12_positions 42 = .ok (.iload 4, 2) := by decide +kernel
theorem dX12_positions_44 : decode cX12_positions 44 = .ok (.iload 5, 2) := by decide +kernel
theorem dX12_positions_46 : decode cX12_positions 46 = .ok (.invokestatic 403, 3) := by decide +kernel
theorem dX12_positions_49 : decode cX12_positions 49 = .ok (.invokevirtual 414, 3) := by decide +kernel
theorem dX12_positions_52 : decode cX12_positions 52 = .ok (.ifCond .eq 19, 3) := by decide +kernel
theorem dX12_positions_55 : decode cX12_positions 55 = .ok (.aload_n 0, 1) := by decide +kernel
theorem dX12_positions_56 : decode cX12_positions 56 = .ok (.iload_n 1, 1) := by decide +kernel
theorem dX12_positions_57 : decode cX12_positions 57 = .ok (.iload 4, 2) := by decide +kernel
theorem dX12_positions_59 : decode cX12_positions 59 = .ok (.iload 5, 2) := by decide +kernel
theorem dX12_positions_61 : decode cX12_positions 61 = .ok (.invokevirtual 417, 3) := by decide +kernel
theorem dX12_positions_64 : decode cX12_positions 64 = .ok (.ifCond .ne 7, 3) := by decide +kernel
theorem dX12_positions_67 : decode cX12_positions 67 = .ok (.iconst 1, 1) := by decide +kernel
theorem dX12_positions_68 : decode cX12_positions 68 = .ok (.goto 4, 3) := by decide +kernel
theorem dX12_positions_71 : decode cX12_positions 71 = .ok (.iconst 0, 1) := by decide +kernel
theorem dX12_positions_72 : decode cX12_positions 72 = .ok (.iadd, 1) := by decide +kernel
theorem dX12_positions_73 : decode cX12_positions 73 = .ok (.istore_n 3, 1) := by decide +kernel
theorem dX12_positions_74 : decode cX12_positions 74 = .ok (.iinc 5 1, 3) := by decide +kernel
theorem dX12_positions_77 : decode cX12_positions 77 = .ok (.goto (-58), 3) := by decide +kernel
theorem dX12_positions_80 : decode cX12_positions 80 = .ok (.iinc 4 1, 3) := by decide +kernel
theorem dX12_positions_83 : decode cX12_positions 83 = .ok (.goto (-78), 3) := by decide +kernel
theorem dX12_positions_86 : decode cX12_positions 86 = .ok (.iload_n 3, 1) := by decide +kernel
theorem dX12_positions_87 : decode cX12_positions 87 = .ok (.ireturn, 1) := by decide +kernel
theorem dX12_patternCount_0 : decode cX12_patternCount 0 = .ok (.aload_n 0, 1) := by decide +kernel
theorem dX12_patternCount_1 : decode cX12_patternCount 1 = .ok (.iload_n 1, 1) := by decide +kernel
theorem dX12_patternCount_2 : decode cX12_patternCount 2 = .ok (.invokestatic 397, 3) := by decide +kernel
theorem dX12_patternCount_5 : decode cX12_patternCount 5 = .ok (.iconst 1, 1) := by decide +kernel
theorem dX12_patternCount_6 : decode cX12_patternCount 6 = .ok (.invokevirtual 237, 3) := by decide +kernel
theorem dX12_patternCount_9 : decode cX12_patternCount 9 = .ok (.ifCond .eq 12, 3) := by decide +kernel
theorem dX12_patternCount_12 : decode cX12_patternCount 12 = .ok (.aload_n 0, 1) := by decide +kernel
theorem dX12_patternCount_13 : decode cX12_patternCount 13 = .ok (.iload_n 1, 1) := by decide +kernel
theorem dX12_patternCount_14 : decode cX12_patternCount 14 = .ok (.iconst 1, 1) := by decide +kernel
theorem dX12_patternCount_15 : decode cX12_patternCount 15 = .ok (.invokevirtual 420, 3) := by decide +kernel
theorem dX12_patternCount_18 : decode cX12_patternCount 18 = .ok (.goto 4, 3) := by decide +kernel
theorem dX12_patternCount_21 : decode cX12_patternCount 21 = .ok (.iconst 0, 1) := by decide +kernel
theorem dX12_patternCount_22 : decode cX12_patternCount 22 = .ok (.ireturn, 1) := by decide +kernel
theorem dX12_pieceAt_0 : decode cX12_pieceAt 0 = .ok (.aload_n 0, 1) := by decide +kernel
theorem dX12_pieceAt_1 : decode cX12_pieceAt 1 = .ok (.aload_n 0, 1) := by decide +kernel
theorem dX12_pieceAt_2 : decode cX12_pieceAt 2 = .ok (.iload_n 1, 1) := by decide +kernel
theorem dX12_pieceAt_3 : decode cX12_pieceAt 3 = .ok (.invokevirtual 241, 3) := by decide +kernel
theorem dX12_pieceAt_6 : decode cX12_pieceAt 6 = .ok (.iconst 1, 1) := by decide +kernel
theorem dX12_pieceAt_7 : decode cX12_pieceAt 7 = .ok (.invokevirtual 237, 3) := by decide +kernel
theorem dX12_pieceAt_10 : decode cX12_pieceAt 10 = .ok (.ifCond .eq 17, 3) := by decide +kernel
theorem dX12_pieceAt_13 : decode cX12_pieceAt 13 = .ok (.aload_n 0, 1) := by decide +kernel
theorem dX12_pieceAt_14 : decode cX12_pieceAt 14 = .ok (.getfield 32, 3) := by decide +kernel
theorem dX12_pieceAt_17 : decode cX12_pieceAt 17 = .ok (.aload_n 0, 1) := by decide +kernel
theorem dX12_pieceAt_18 : decode cX12_pieceAt 18 = .ok (.invokevirtual 127, 3) := by decide +kernel
theorem dX12_pieceAt_21 : decode cX12_pieceAt 21 = .ok (.iload_n 1, 1) := by decide +kernel
theorem dX12_pieceAt_22 : decode cX12_pieceAt 22 = .ok (.iadd, 1) := by decide +kernel
theorem dX12_pieceAt_23 : decode cX12_pieceAt 23 = .ok (.iaload, 1) := by decide +kernel
theorem dX12_pieceAt_24 : decode cX12_pieceAt 24 = .ok (.goto 4, 3) := by decide +kernel
theorem dX12_pieceAt_27 : decode cX12_pieceAt 27 = .ok (.iconst 0, 1) := by decide +kernel
theorem dX12_pieceAt_28 : decode cX12_pieceAt 28 = .ok (.ireturn, 1) := by decide +kernel
theorem dX12_pieceBy_0 : decode cX12_pieceBy 0 = .ok (.iconst 1, 1) := by decide +kernel
theorem dX12_pieceBy_1 : decode cX12_pieceBy 1 = .ok (.istore_n 1, 1) := by decide +kernel
theorem dX12_pieceBy_2 : decode cX12_pieceBy 2 = .ok (.iload_n 1, 1) := by decide +kernel
theorem dX12_pieceBy_3 : decode cX12_pieceBy 3 = .ok (.bipush 6, 2) := by decide +kernel
theorem dX12_pieceBy_5 : decode cX12_pieceBy 5 = .ok (.if_icmp .gt 35, 3) := by decide +kernel
theorem dX12_pieceBy_8 : decode cX12_pieceBy 8 = .ok (.iload_n 0, 1) := by decide +kernel
theorem dX12_pieceBy_9 : decode cX12_pieceBy 9 = .ok (.iload_n 1, 1) := by decide +kernel
theorem dX12_pieceBy_10 : decode cX12_pieceBy 10 = .ok (.invokestatic 250, 3) := by decide +kernel
theorem dX12_pieceBy_13 : decode cX12_pieceBy 13 = .ok (.if_icmp .ne 5, 3) := by decide +kernel
theorem dX12_pieceBy_16 : decode cX12_pieceBy 16 = .ok (.iload_n 1, 1) := by decide +kernel
theorem dX12_pieceBy_17 : decode cX12_pieceBy 17 = .ok (.ireturn, 1) := by decide +kernel
theorem dX12_pieceBy_18 : decode cX12_pieceBy 18 = .ok (.iload_n 0, 1) := by decide +kernel
theorem dX12_pieceBy_19 : decode cX12_pieceBy 19 = .ok (.iload_n 1, 1) := by decide +kernel
theorem dX12_pieceBy_20 : decode cX12_pieceBy 20 = .ok (.invokestatic 250, 3) := by decide +kernel
theorem dX12_pieceBy_23 : decode cX12_pieceBy 23 = .ok (.bipush 32, 2) := by decide +kernel
theorem dX12_pieceBy_25 : decode cX12_pieceBy 25 = .ok (.iadd, 1) := by decide +kernel
theorem dX12_pieceBy_26 : decode cX12_pieceBy 26 = .ok (.if_icmp .ne 8, 3) := by decide +kernel
theorem dX12_pieceBy_29 : decode cX12_pieceBy 29 = .ok (.iload_n 1, 1) := by decide +kernel
theorem dX12_pieceBy_30 : decode cX12_pieceBy 30 = .ok (.bipush 6, 2) := by decide +kernel
theorem dX12_pieceBy_32 : decode cX12_pieceBy 32 = .ok (.iadd, 1) := by decide +kernel
theorem dX12_pieceBy_33 : decode cX12_pieceBy 33 = .ok (.ireturn, 1) := by decide +kernel
theorem dX12_pieceBy_34 : decode cX12_pieceBy 34 = .ok (.iinc 1 1, 3) := by decide +kernel
theorem dX12_pieceBy_37 : decode cX12_pieceBy 37 = .ok (.goto (-35), 3) := by decide +kernel
theorem dX12_pieceBy_40 : decode cX12_pieceBy 40 = .ok (.iconst 0, 1) := by decide +kernel
theorem dX12_pieceBy_41 : decode cX12_pieceBy 41 = .ok (.ireturn, 1) := by decide +kernel
theorem dX12_plays_0 : decode cX12_plays 0 = .ok (.aload_n 0, 1) := by decide +kernel
theorem dX12_plays_1 : decode cX12_plays 1 = .ok (.getfield 35, 3) := by decide +kernel
theorem dX12_plays_4 : decode cX12_plays 4 = .ok (.aload_n 0, 1) := by decide +kernel
theorem dX12_plays_5 : decode cX12_plays 5 = .ok (.getfield 121, 3) := by decide +kernel
theorem dX12_plays_8 : decode cX12_plays 8 = .ok (.aload_n 0, 1) := by decide +kernel
theorem dX12_plays_9 : decode cX12_plays 9 = .ok (.iload_n 1, 1) := by decide +kernel
theorem dX12_plays_10 : decode cX12_plays 10 = .ok (.invokevirtual 321, 3) := by decide +kernel
theorem dX12_plays_13 : decode cX12_plays 13 = .ok (.iastore, 1) := by decide +kernel
theorem dX12_plays_14 : decode cX12_plays 14 = .ok (.aload_n 0, 1) := by decide +kernel
theorem dX12_plays_15 : decode cX12_plays 15 = .ok (.getfield 38, 3) := by decide +kernel
theorem dX12_plays_18 : decode cX12_plays 18 = .ok (.aload_n 0, 1) := by decide +kernel
theorem dX12_plays_19 : decode cX12_plays 19 = .ok (.getfield 121, 3) := by decide +kernel
theorem dX12_plays_22 : decode cX12_plays 22 = .ok (.aload_n 0, 1) := by decide +kernel
theorem dX12_plays_23 : decode cX12_plays 23 = .ok (.iconst 0, 1) := by decide +kernel
theorem dX12_plays_24 : decode cX12_plays 24 = .ok (.aload_n 0, 1) := by decide +kernel
theorem dX12_plays_25 : decode cX12_plays 25 = .ok (.getfield 20, 3) := by decide +kernel
theorem dX12_plays_28 : decode cX12_plays 28 = .ok (.iload_n 1, 1) := by decide +kernel
theorem dX12_plays_29 : decode cX12_plays 29 = .ok (.iaload, 1) := by decide +kernel
theorem dX12_plays_30 : decode cX12_plays 30 = .ok (.invokevirtual 141, 3) := by decide +kernel
theorem dX12_plays_33 : decode cX12_plays 33 = .ok (.invokestatic 148, 3) := by decide +kernel
theorem dX12_plays_36 : decode cX12_plays 36 = .ok (.bipush 6, 2) := by decide +kernel
theorem dX12_plays_38 : decode cX12_plays 38 = .ok (.if_icmp .eq 23, 3) := by decide +kernel
theorem dX12_plays_41 : decode cX12_plays 41 = .ok (.aload_n 0, 1) := by decide +kernel
theorem dX12_plays_42 : decode cX12_plays 42 = .ok (.iconst 0, 1) := by decide +kernel
theorem dX12_plays_43 : decode cX12_plays 43 = .ok (.aload_n 0, 1) := by decide +kernel
theorem dX12_plays_44 : decode cX12_plays 44 = .ok (.getfield 20, 3) := by decide +kernel
theorem dX12_plays_47 : decode cX12_plays 47 = .ok (.iload_n 1, 1) := by decide +kernel
theorem dX12_plays_48 : decode cX12_plays 48 = .ok (.iaload, 1) := by decide +kernel
theorem dX12_plays_49 : decode cX12_plays 49 = .ok (.aload_n 0, 1) := by decide +kernel
theorem dX12_plays_50 : decode cX12_plays 50 = .ok (.getfield 23, 3) := by decide +kernel
theorem dX12_plays_53 : decode cX12_plays 53 = .ok (.iload_n 1, 1) := by decide +kernel
theorem dX12_plays_54 : decode cX12_plays 54 = .ok (.iaload, 1) := by decide +kernel
theorem dX12_plays_55 : decode cX12_plays 55 = .ok (.invokevirtual 204, 3) := by decide +kernel
theorem dX12_plays_58 : decode cX12_plays 58 = .ok (.ifCond .eq 7, 3) := by decide +kernel
theorem dX12_plays_61 : decode cX12_plays 61 = .ok (.iconst 1, 1) := by decide +kernel
theorem dX12_plays_62 : decode cX12_plays 62 = .ok (.goto 4, 3) := by decide +kernel
theorem dX12_plays_65 : decode cX12_plays 65 = .ok (.iconst 0, 1) := by decide +kernel
theorem dX12_plays_66 : decode cX12_plays 66 = .ok (.bastore, 1) := by decide +kernel
theorem dX12_plays_67 : decode cX12_plays 67 = .ok (.aload_n 0, 1) := by decide +kernel
theorem dX12_plays_68 : decode cX12_plays 68 = .ok (.iconst 0, 1) := by decide +kernel
theorem dX12_plays_69 : decode cX12_plays 69 = .ok (.iload_n 1, 1) := by decide +kernel
theorem dX12_plays_70 : decode cX12_plays 70 = .ok (.invokevirtual 306, 3) := by decide +kernel
theorem dX12_plays_73 : decode cX12_plays 73 = .ok (.aload_n 0, 1) := by decide +kernel
theorem dX12_plays_74 : decode cX12_plays 74 = .ok (.dup, 1) := by decide +kernel
theorem dX12_plays_75 : decode cX12_plays 75 = .ok (.getfield 121, 3) := by decide +kernel
theorem dX12_plays_78 : decode cX12_plays 78 = .ok (.iconst 1, 1) := by decide +kernel
theorem dX12_plays_79 : decode cX12_plays 79 = .ok (.iadd, 1) := by decide +kernel
theorem dX12_plays_80 : decode cX12_plays 80 = .ok (.putfield 121, 3) := by decide +kernel
theorem dX12_plays_83 : decode cX12_plays 83 = .ok (.bipush 67, 2) := by decide +kernel
theorem dX12_plays_85 : decode cX12_plays 85 = .ok (.aload_n 0, 1) := by decide +kernel
theorem dX12_plays_86 : decode cX12_plays 86 = .ok (.getfield 16, 3) := by decide +kernel
theorem dX12_plays_89 : decode cX12_plays 89 = .ok (.bipush 67, 2) := by decide +kernel
theorem dX12_plays_91 : decode cX12_plays 91 = .ok (.aload_n 0, 1) := by decide +kernel
theorem dX12_plays_92 : decode cX12_plays 92 = .ok (.getfield 32, 3) := by decide +kernel
theorem dX12_plays_95 : decode cX12_plays 95 = .ok (.aload_n 0, 1) := by decide +kernel
theorem dX12_plays_96 : decode cX12_plays 96 = .ok (.invokevirtual 127, 3) := by decide +kernel
theorem dX12_plays_99 : decode cX12_plays 99 = .ok (.invokestatic 130, 3) := by decide +kernel
theorem dX12_plays_102 : decode cX12_plays 102 = .ok (.aload_n 0, 1) := by decide +kernel
theorem dX12_plays_103 : decode cX12_plays 103 = .ok (.invokevirtual 192, 3) := by decide +kernel
theorem dX12_plays_106 : decode cX12_plays 106 = .ok (.return_, 1) := by decide +kernel
theorem dX12_stood_0 : decode cX12_stood 0 = .ok (.iconst 0, 1) := by decide +kernel
theorem dX12_stood_1 : decode cX12_stood 1 = .ok (.istore_n 1, 1) := by decide +kernel
theorem dX12_stood_2 : decode cX12_stood 2 = .ok (.iconst 0, 1) := by decide +kernel
theorem dX12_stood_3 : decode cX12_stood 3 = .ok (.istore_n 2, 1) := by decide +kernel
theorem dX12_stood_4 : decode cX12_stood 4 = .ok (.iload_n 2, 1) := by decide +kernel
theorem dX12_stood_5 : decode cX12_stood 5 = .ok (.aload_n 0, 1) := by decide +kernel
theorem dX12_stood_6 : decode cX12_stood 6 = .ok (.getfield 121, 3) := by decide +kernel
theorem dX12_stood_9 : decode cX12_stood 9 = .ok (.if_icmp .gt 39, 3) := by decide +kernel
theorem dX12_stood_12 : decode cX12_stood 12 = .ok (.iload_n 1, 1) := by decide +kernel
theorem dX12_stood_13 : decode cX12_stood 13 = .ok (.aload_n 0, 1) := by decide +kernel
theorem dX12_stood_14 : decode cX12_stood 14 = .ok (.getfield 32, 3) := by decide +kernel
theorem dX12_stood_17 : decode cX12_stood 17 = .ok (.bipush 67, 2) := by decide +kernel
theorem dX12_stood_19 : decode cX12_stood 19 = .ok (.iload_n 2, 1) := by decide +kernel
theorem dX12_stood_20 : decode cX12_stood 20 = .ok (.imul, 1) := by decide +kernel
theorem dX12_stood_21 : decode cX12_stood 21 = .ok (.aload_n 0, 1) := by decide +kernel
theorem dX12_stood_22 : decode cX12_stood 22 = .ok (.getfield 32, 3) := by decide +kernel
theorem dX12_stood_25 : decode cX12_stood 25 = .ok (.aload_n 0, 1) := by decide +kernel
theorem dX12_stood_26 : decode cX12_stood 26 = .ok (.invokevirtual 127, 3) := by decide +kernel
theorem dX12_stood_29 : decode cX12_stood 29 = .ok (.invokestatic 330, 3) := by decide +kernel
theorem dX12_stood_32 : decode cX12_stood 32 = .ok (.ifCond .eq 7, 3) := by decide +kernel
theorem dX12_stood_35 : decode cX12_stood 35 = .ok (.iconst 1, 1) := by decide +kernel
theorem dX12_stood_36 : decode cX12_stood 36 = .ok (.goto 4, 3) := by decide +kernel
theorem dX12_stood_39 : decode cX12_stood 39 = .ok (.iconst 0, 1) := by decide +kernel
theorem dX12_stood_40 : decode cX12_stood 40 = .ok (.iadd, 1) := by decide +kernel
theorem dX12_stood_41 : decode cX12_stood 41 = .ok (.istore_n 1, 1) := by decide +kernel
theorem dX12_stood_42 : decode cX12_stood 42 = .ok (.iinc 2 1, 3) := by decide +kernel
theorem dX12_stood_45 : decode cX12_stood 45 = .ok (.goto (-41), 3) := by decide +kernel
theorem dX12_stood_48 : decode cX12_stood 48 = .ok (.iload_n 1, 1) := by decide +kernel
theorem dX12_stood_49 : decode cX12_stood 49 = .ok (.ireturn, 1) := by decide +kernel
theorem dX12_stateNow_0 : decode cX12_stateNow 0 = .ok (.aload_n 0, 1) := by decide +kernel
theorem dX12_stateNow_1 : decode cX12_stateNow 1 = .ok (.iconst 0, 1) := by decide +kernel
theorem dX12_stateNow_2 : decode cX12_stateNow 2 = .ok (.invokevirtual 233, 3) := by decide +kernel
theorem dX12_stateNow_5 : decode cX12_stateNow 5 = .ok (.aload_n 0, 1) := by decide +kernel
theorem dX12_stateNow_6 : decode cX12_stateNow 6 = .ok (.getfield 29, 3) := by decide +kernel
theorem dX12_stateNow_9 : decode cX12_stateNow 9 = .ok (.iconst 0, 1) := by decide +kernel
theorem dX12_stateNow_10 : decode cX12_stateNow 10 = .ok (.iaload, 1) := by decide +kernel
theorem dX12_stateNow_11 : decode cX12_stateNow 11 = .ok (.ifCond .ne 22, 3) := by decide +kernel
theorem dX12_stateNow_14 : decode cX12_stateNow 14 = .ok (.aload_n 0, 1) := by decide +kernel
theorem dX12_stateNow_15 : decode cX12_stateNow 15 = .ok (.iconst 0, 1) := by decide +kernel
theorem dX12_stateNow_16 : decode cX12_stateNow 16 = .ok (.aload_n 0, 1) := by decide +kernel
theorem dX12_stateNow_17 : decode cX12_stateNow 17 = .ok (.iconst 0, 1) := by decide +kernel
theorem dX12_stateNow_18 : decode cX12_stateNow 18 = .ok (.invokevirtual 183, 3) := by decide +kernel
theorem dX12_stateNow_21 : decode cX12_stateNow 21 = .ok (.invokevirtual 186, 3) := by decide +kernel
theorem dX12_stateNow_24 : decode cX12_stateNow 24 = .ok (.ifCond .eq 7, 3) := by decide +kernel
theorem dX12_stateNow_27 : decode cX12_stateNow 27 = .ok (.iconst 1, 1) := by decide +kernel
theorem dX12_stateNow_28 : decode cX12_stateNow 28 = .ok (.goto 4, 3) := by decide +kernel
theorem dX12_stateNow_31 : decode cX12_stateNow 31 = .ok (.iconst 2, 1) := by decide +kernel
theorem dX12_stateNow_32 : decode cX12_stateNow 32 = .ok (.ireturn, 1) := by decide +kernel
theorem dX12_stateNow_33 : decode cX12_stateNow 33 = .ok (.aload_n 0, 1) := by decide +kernel
theorem dX12_stateNow_34 : decode cX12_stateNow 34 = .ok (.invokevirtual 334, 3) := by decide +kernel
theorem dX12_stateNow_37 : decode cX12_stateNow 37 = .ok (.ifCond .eq 5, 3) := by decide +kernel
theorem dX12_stateNow_40 : decode cX12_stateNow 40 = .ok (.iconst 3, 1) := by decide +kernel
theorem dX12_stateNow_41 : decode cX12_stateNow 41 = .ok (.ireturn, 1) := by decide +kernel
theorem dX12_stateNow_42 : decode cX12_stateNow 42 = .ok (.aload_n 0, 1) := by decide +kernel
theorem dX12_stateNow_43 : decode cX12_stateNow 43 = .ok (.invokevirtual 337, 3) := by decide +kernel
theorem dX12_stateNow_46 : decode cX12_stateNow 46 = .ok (.iconst 3, 1) := by decide +kernel
theorem dX12_stateNow_47 : decode cX12_stateNow 47 = .ok (.if_icmp .lt 5, 3) := by decide +kernel
theorem dX12_stateNow_50 : decode cX12_stateNow 50 = .ok (.iconst 4, 1) := by decide +kernel
theorem dX12_stateNow_51 : decode cX12_stateNow 51 = .ok (.ireturn, 1) := by decide +kernel
theorem dX12_stateNow_52 : decode cX12_stateNow 52 = .ok (.iconst 0, 1) := by decide +kernel
theorem dX12_stateNow_53 : decode cX12_stateNow 53 = .ok (.istore_n 1, 1) := by decide +kernel
theorem dX12_stateNow_54 : decode cX12_stateNow 54 = .ok (.iload_n 1, 1) := by decide +kernel
theorem dX12_stateNow_55 : decode cX12_stateNow 55 = .ok (.aload_n 0, 1) := by decide +kernel
theorem dX12_stateNow_56 : decode cX12_stateNow 56 = .ok (.getfield 121, 3) := by decide +kernel
theorem dX12_stateNow_59 : decode cX12_stateNow 59 = .ok (.if_icmp .ge 25, 3) := by decide +kernel
theorem dX12_stateNow_62 : decode cX12_stateNow 62 = .ok (.aload_n 0, 1) := by decide +kernel
theorem dX12_stateNow_63 : decode cX12_stateNow 63 = .ok (.getfield 38, 3) := by decide +kernel
theorem dX12_stateNow_66 : decode cX12_stateNow 66 = .ok (.aload_n 0, 1) := by decide +kernel
theorem dX12_stateNow_67 : decode cX12_stateNow 67 = .ok (.getfield 121, 3) := by decide +kernel
theorem dX12_stateNow_70 : decode cX12_stateNow 70 = .ok (.iconst 1, 1) := by decide +kernel
theorem dX12_stateNow_71 : decode cX12_stateNow 71 = .ok (.isub, 1) := by decide +kernel
theorem dX12_stateNow_72 : decode cX12_stateNow 72 = .ok (.iload_n 1, 1) := by decide +kernel
theorem dX12_stateNow_73 : decode cX12_stateNow 73 = .ok (.isub, 1) := by decide +kernel
theorem dX12_stateNow_74 : decode cX12_stateNow 74 = .ok (.baload, 1) := by decide +kernel
theorem dX12_stateNow_75 : decode cX12_stateNow 75 = .ok (.ifCond .ne 9, 3) := by decide +kernel
theorem dX12_stateNow_78 : decode cX12_stateNow 78 = .ok (.iinc 1 1, 3) := by decide +kernel
theorem dX12_stateNow_81 : decode cX12_stateNow 81 = .ok (.goto (-27), 3) := by decide +kernel
theorem dX12_stateNow_84 : decode cX12_stateNow 84 = .ok (.iload_n 1, 1) := by decide +kernel
theorem dX12_stateNow_85 : decode cX12_stateNow 85 = .ok (.bipush 40, 2) := by decide +kernel
theorem dX12_stateNow_87 : decode cX12_stateNow 87 = .ok (.if_icmp .lt 7, 3) := by decide +kernel
theorem dX12_stateNow_90 : decode cX12_stateNow 90 = .ok (.iconst 5, 1) := by decide +kernel
theorem dX12_stateNow_91 : decode cX12_stateNow 91 = .ok (.goto 4, 3) := by decide +kernel
theorem dX12_stateNow_94 : decode cX12_stateNow 94 = .ok (.iconst 0, 1) := by decide +kernel
theorem dX12_stateNow_95 : decode cX12_stateNow 95 = .ok (.ireturn, 1) := by decide +kernel
theorem dX12_play_0 : decode cX12_play 0 = .ok (.aload_n 0, 1) := by decide +kernel
theorem dX12_play_1 : decode cX12_play 1 = .ok (.aload_n 0, 1) := by decide +kernel
theorem dX12_play_2 : decode cX12_play 2 = .ok (.invokevirtual 284, 3) := by decide +kernel
theorem dX12_play_5 : decode cX12_play 5 = .ok (.ifCond .eq 16, 3) := by decide +kernel
theorem dX12_play_8 : decode cX12_play 8 = .ok (.aload_n 0, 1) := by decide +kernel
theorem dX12_play_9 : decode cX12_play 9 = .ok (.getfield 121, 3) := by decide +kernel
theorem dX12_play_12 : decode cX12_play 12 = .ok (.bipush 80, 2) := by decide +kernel
theorem dX12_play_14 : decode cX12_play 14 = .ok (.if_icmp .ge 7, 3) := by decide +kernel
theorem dX12_play_17 : decode cX12_play 17 = .ok (.iconst 1, 1) := by decide +kernel
theorem dX12_play_18 : decode cX12_play 18 = .ok (.goto 4, 3) := by decide +kernel
theorem dX12_play_21 : decode cX12_play 21 = .ok (.iconst 0, 1) := by decide +kernel
theorem dX12_play_22 : decode cX12_play 22 = .ok (.iconst 1, 1) := by decide +kernel
theorem dX12_play_23 : decode cX12_play 23 = .ok (.invokevirtual 237, 3) := by decide +kernel
theorem dX12_play_26 : decode cX12_play 26 = .ok (.ifCond .eq 16, 3) := by decide +kernel
theorem dX12_play_29 : decode cX12_play 29 = .ok (.aload_n 0, 1) := by decide +kernel
theorem dX12_play_30 : decode cX12_play 30 = .ok (.aload_n 0, 1) := by decide +kernel
theorem dX12_play_31 : decode cX12_play 31 = .ok (.iload_n 1, 1) := by decide +kernel
theorem dX12_play_32 : decode cX12_play 32 = .ok (.invokevirtual 290, 3) := by decide +kernel
theorem dX12_play_35 : decode cX12_play 35 = .ok (.iconst 2, 1) := by decide +kernel
theorem dX12_play_36 : decode cX12_play 36 = .ok (.invokevirtual 237, 3) := by decide +kernel
theorem dX12_play_39 : decode cX12_play 39 = .ok (.ifCond .ne 5, 3) := by decide +kernel
theorem dX12_play_42 : decode cX12_play 42 = .ok (.iconst 0, 1) := by decide +kernel
theorem dX12_play_43 : decode cX12_play 43 = .ok (.ireturn, 1) := by decide +kernel
theorem dX12_play_44 : decode cX12_play 44 = .ok (.aload_n 0, 1) := by decide +kernel
theorem dX12_play_45 : decode cX12_play 45 = .ok (.iload_n 1, 1) := by decide +kernel
theorem dX12_play_46 : decode cX12_play 46 = .ok (.invokevirtual 324, 3) := by decide +kernel
theorem dX12_play_49 : decode cX12_play 49 = .ok (.aload_n 0, 1) := by decide +kernel
theorem dX12_play_50 : decode cX12_play 50 = .ok (.invokevirtual 327, 3) := by decide +kernel
theorem dX12_play_53 : decode cX12_play 53 = .ok (.ireturn, 1) := by decide +kernel
theorem dX12_playMain_0 : decode cX12_playMain 0 = .ok (.aload_n 0, 1) := by decide +kernel
theorem dX12_playMain_1 : decode cX12_playMain 1 = .ok (.iload_n 1, 1) := by decide +kernel
theorem dX12_playMain_2 : decode cX12_playMain 2 = .ok (.invokestatic 397, 3) := by decide +kernel
theorem dX12_playMain_5 : decode cX12_playMain 5 = .ok (.iconst 1, 1) := by decide +kernel
theorem dX12_playMain_6 : decode cX12_playMain 6 = .ok (.invokevirtual 237, 3) := by decide +kernel
theorem dX12_playMain_9 : decode cX12_playMain 9 = .ok (.ifCond .eq 30, 3) := by decide +kernel
theorem dX12_playMain_12 : decode cX12_playMain 12 = .ok (.aload_n 0, 1) := by decide +kernel
theorem dX12_playMain_13 : decode cX12_playMain 13 = .ok (.iload_n 2, 1) := by decide +kernel
theorem dX12_playMain_14 : decode cX12_playMain 14 = .ok (.iconst 1, 1) := by decide +kernel
theorem dX12_playMain_15 : decode cX12_playMain 15 = .ok (.bipush 80, 2) := by decide +kernel
theorem dX12_playMain_17 : decode cX12_playMain 17 = .ok (.invokestatic 117, 3) := by decide +kernel
theorem dX12_playMain_20 : decode cX12_playMain 20 = .ok (.iconst 2, 1) := by decide +kernel
theorem dX12_playMain_21 : decode cX12_playMain 21 = .ok (.invokevirtual 237, 3) := by decide +kernel
theorem dX12_playMain_24 : decode cX12_playMain 24 = .ok (.ifCond .eq 15, 3) := by decide +kernel
theorem dX12_playMain_27 : decode cX12_playMain 27 = .ok (.aload_n 0, 1) := by decide +kernel
theorem dX12_playMain_28 : decode cX12_playMain 28 = .ok (.aload_n 0, 1) := by decide +kernel
theorem dX12_playMain_29 : decode cX12_playMain 29 = .ok (.invokevirtual 284, 3) := by decide +kernel
theorem dX12_playMain_32 : decode cX12_playMain 32 = .ok (.iconst 3, 1) := by decide +kernel
theorem dX12_playMain_33 : decode cX12_playMain 33 = .ok (.invokevirtual 237, 3) := by decide +kernel
theorem dX12_playMain_36 : decode cX12_playMain 36 = .ok (.ifCond .ne 5, 3) := by decide +kernel
theorem dX12_playMain_39 : decode cX12_playMain 39 = .ok (.iconst 0, 1) := by decide +kernel
theorem dX12_playMain_40 : decode cX12_playMain 40 = .ok (.ireturn, 1) := by decide +kernel
theorem dX12_playMain_41 : decode cX12_playMain 41 = .ok (.iconst 0, 1) := by decide +kernel
theorem dX12_playMain_42 : decode cX12_playMain 42 = .ok (.istore_n 3, 1) := by decide +kernel
theorem dX12_playMain_43 : decode cX12_playMain 43 = .ok (.aload_n 0, 1) := by decide +kernel
theorem dX12_playMain_44 : decode cX12_playMain 44 = .ok (.iload_n 1, 1) := by decide +kernel
theorem dX12_playMain_45 : decode cX12_playMain 45 = .ok (.invokevirtual 455, 3) := by decide +kernel
theorem dX12_playMain_48 : decode cX12_playMain 48 = .ok (.istore 4, 2) := by decide +kernel
theorem dX12_playMain_50 : decode cX12_playMain 50 = .ok (.iload 4, 2) := by decide +kernel
theorem dX12_playMain_52 : decode cX12_playMain 52 = .ok (.iconst (-1), 1) := by decide +kernel
theorem dX12_playMain_53 : decode cX12_playMain 53 = .ok (.if_icmp .eq 36, 3) := by decide +kernel
theorem dX12_playMain_56 : decode cX12_playMain 56 = .ok (.iload_n 3, 1) := by decide +kernel
theorem dX12_playMain_57 : decode cX12_playMain 57 = .ok (.iload_n 2, 1) := by decide +kernel
theorem dX12_playMain_58 : decode cX12_playMain 58 = .ok (.if_icmp .ge 31, 3) := by decide +kernel
theorem dX12_playMain_61 : decode cX12_playMain 61 = .ok (.aload_n 0, 1) := by decide +kernel
theorem dX12_playMain_62 : decode cX12_playMain 62 = .ok (.getfield 121, 3) := by decide +kernel
theorem dX12_playMain_65 : decode cX12_playMain 65 = .ok (.bipush 80, 2) := by decide +kernel
theorem dX12_playMain_67 : decode cX12_playMain 67 = .ok (.if_icmp .ge 22, 3) := by decide +kernel
theorem dX12_playMain_70 : decode cX12_playMain 70 = .ok (.aload_n 0, 1) := by decide +kernel
theorem dX12_playMain_71 : decode cX12_playMain 71 = .ok (.iload 4, 2) := by decide +kernel
theorem dX12_playMain_73 : decode cX12_playMain 73 = .ok (.invokevirtual 324, 3) := by decide +kernel
theorem dX12_playMain_76 : decode cX12_playMain 76 = .ok (.iinc 3 1, 3) := by decide +kernel
theorem dX12_playMain_79 : decode cX12_playMain 79 = .ok (.aload_n 0, 1) := by decide +kernel
theorem dX12_playMain_80 : decode cX12_playMain 80 = .ok (.iload_n 1, 1) := by decide +kernel
theorem dX12_playMain_81 : decode cX12_playMain 81 = .ok (.invokevirtual 455, 3) := by decide +kernel
theorem dX12_playMain_84 : decode cX12_playMain 84 = .ok (.istore 4, 2) := by decide +kernel
theorem dX12_playMain_86 : decode cX12_playMain 86 = .ok (.goto (-36), 3) := by decide +kernel
theorem dX12_playMain_89 : decode cX12_playMain 89 = .ok (.iload_n 3, 1) := by decide +kernel
theorem dX12_playMain_90 : decode cX12_playMain 90 = .ok (.ireturn, 1) := by decide +kernel
theorem dX12_positionCount_0 : decode cX12_positionCount 0 = .ok (.aload_n 0, 1) := by decide +kernel
theorem dX12_positionCount_1 : decode cX12_positionCount 1 = .ok (.iload_n 1, 1) := by decide +kernel
theorem dX12_positionCount_2 : decode cX12_positionCount 2 = .ok (.invokestatic 397, 3) := by decide +kernel
theorem dX12_positionCount_5 : decode cX12_positionCount 5 = .ok (.iconst 1, 1) := by decide +kernel
theorem dX12_positionCount_6 : decode cX12_positionCount 6 = .ok (.invokevirtual 237, 3) := by decide +kernel
theorem dX12_positionCount_9 : decode cX12_positionCount 9 = .ok (.ifCond .eq 12, 3) := by decide +kernel
theorem dX12_positionCount_12 : decode cX12_positionCount 12 = .ok (.aload_n 0, 1) := by decide +kernel
theorem dX12_positionCount_13 : decode cX12_positionCount 13 = .ok (.iload_n 1, 1) := by decide +kernel
theorem dX12_positionCount_14 : decode cX12_positionCount 14 = .ok (.iconst 0, 1) := by decide +kernel
theorem dX12_positionCount_15 : decode cX12_positionCount 15 = .ok (.invokevirtual 420, 3) := by decide +kernel
theorem dX12_positionCount_18 : decode cX12_positionCount 18 = .ok (.goto 4, 3) := by decide +kernel
theorem dX12_positionCount_21 : decode cX12_positionCount 21 = .ok (.iconst 0, 1) := by decide +kernel
theorem dX12_positionCount_22 : decode cX12_positionCount 22 = .ok (.ireturn, 1) := by decide +kernel
theorem dX12_put_0 : decode cX12_put 0 = .ok (.aload_n 0, 1) := by decide +kernel
theorem dX12_put_1 : decode cX12_put 1 = .ok (.aload_n 0, 1) := by decide +kernel
theorem dX12_put_2 : decode cX12_put 2 = .ok (.iload_n 1, 1) := by decide +kernel
theorem dX12_put_3 : decode cX12_put 3 = .ok (.invokevirtual 241, 3) := by decide +kernel
theorem dX12_put_6 : decode cX12_put 6 = .ok (.iconst 1, 1) := by decide +kernel
theorem dX12_put_7 : decode cX12_put 7 = .ok (.invokevirtual 237, 3) := by decide +kernel
theorem dX12_put_10 : decode cX12_put 10 = .ok (.ifCond .eq 38, 3) := by decide +kernel
theorem dX12_put_13 : decode cX12_put 13 = .ok (.aload_n 0, 1) := by decide +kernel
theorem dX12_put_14 : decode cX12_put 14 = .ok (.iload_n 2, 1) := by decide +kernel
theorem dX12_put_15 : decode cX12_put 15 = .ok (.iconst 0, 1) := by decide +kernel
theorem dX12_put_16 : decode cX12_put 16 = .ok (.bipush 12, 2) := by decide +kernel
theorem dX12_put_18 : decode cX12_put 18 = .ok (.invokestatic 117, 3) := by decide +kernel
theorem dX12_put_21 : decode cX12_put 21 = .ok (.iconst 2, 1) := by decide +kernel
theorem dX12_put_22 : decode cX12_put 22 = .ok (.invokevirtual 237, 3) := by decide +kernel
theorem dX12_put_25 : decode cX12_put 25 = .ok (.ifCond .eq 23, 3) := by decide +kernel
theorem dX12_put_28 : decode cX12_put 28 = .ok (.aload_n 0, 1) := by decide +kernel
theorem dX12_put_29 : decode cX12_put 29 = .ok (.aload_n 0, 1) := by decide +kernel
theorem dX12_put_30 : decode cX12_put 30 = .ok (.getfield 121, 3) := by decide +kernel
theorem dX12_put_33 : decode cX12_put 33 = .ok (.ifCond .ne 7, 3) := by decide +kernel
theorem dX12_put_36 : decode cX12_put 36 = .ok (.iconst 1, 1) := by decide +kernel
theorem dX12_put_37 : decode cX12_put 37 = .ok (.goto 4, 3) := by decide +kernel
theorem dX12_put_40 : decode cX12_put 40 = .ok (.iconst 0, 1) := by decide +kernel
theorem dX12_put_41 : decode cX12_put 41 = .ok (.iconst 3, 1) := by decide +kernel
theorem dX12_put_42 : decode cX12_put 42 = .ok (.invokevirtual 237, 3) := by decide +kernel
theorem dX12_put_45 : decode cX12_put 45 = .ok (.ifCond .ne 5, 3) := by decide +kernel
theorem dX12_put_48 : decode cX12_put 48 = .ok (.iconst 0, 1) := by decide +kernel
theorem dX12_put_49 : decode cX12_put 49 = .ok (.ireturn, 1) := by decide +kernel
theorem dX12_put_50 : decode cX12_put 50 = .ok (.aload_n 0, 1) := by decide +kernel
theorem dX12_put_51 : decode cX12_put 51 = .ok (.getfield 32, 3) := by decide +kernel
theorem dX12_put_54 : decode cX12_put 54 = .ok (.iload_n 1, 1) := by decide +kernel
theorem dX12_put_55 : decode cX12_put 55 = .ok (.iaload, 1) := by decide +kernel
theorem dX12_put_56 : decode cX12_put 56 = .ok (.istore_n 3, 1) := by decide +kernel
theorem dX12_put_57 : decode cX12_put 57 = .ok (.aload_n 0, 1) := by decide +kernel
theorem dX12_put_58 : decode cX12_put 58 = .ok (.getfield 32, 3) := by decide +kernel
theorem dX12_put_61 : decode cX12_put 61 = .ok (.iload_n 1, 1) := by decide +kernel
theorem dX12_put_62 : decode cX12_put 62 = .ok (.iload_n 2, 1) := by decide +kernel
theorem dX12_put_63 : decode cX12_put 63 = .ok (.iastore, 1) := by decide +kernel
theorem dX12_put_64 : decode cX12_put 64 = .ok (.aload_n 0, 1) := by decide +kernel
theorem dX12_put_65 : decode cX12_put 65 = .ok (.getfield 32, 3) := by decide +kernel
theorem dX12_put_68 : decode cX12_put 68 = .ok (.bipush 65, 2) := by decide +kernel
theorem dX12_put_70 : decode cX12_put 70 = .ok (.iconst 0, 1) := by decide +kernel
theorem dX12_put_71 : decode cX12_put 71 = .ok (.iastore, 1) := by decide +kernel
theorem dX12_put_72 : decode cX12_put 72 = .ok (.aload_n 0, 1) := by decide +kernel
theorem dX12_put_73 : decode cX12_put 73 = .ok (.getfield 32, 3) := by decide +kernel
theorem dX12_put_76 : decode cX12_put 76 = .ok (.bipush 66, 2) := by decide +kernel
theorem dX12_put_78 : decode cX12_put 78 = .ok (.iconst (-1), 1) := by decide +kernel
theorem dX12_put_79 : decode cX12_put 79 = .ok (.iastore, 1) := by decide +kernel
theorem dX12_put_80 : decode cX12_put 80 = .ok (.iload_n 3, 1) := by decide +kernel
theorem dX12_put_81 : decode cX12_put 81 = .ok (.ireturn, 1) := by decide +kernel
theorem dX12_readMoves_0 : decode cX12_readMoves 0 = .ok (.aload_n 0, 1) := by decide +kernel
theorem dX12_readMoves_1 : decode cX12_readMoves 1 = .ok (.invokevirtual 284, 3) := by decide +kernel
theorem dX12_readMoves_4 : decode cX12_readMoves 4 = .ok (.istore_n 1, 1) := by decide +kernel
theorem dX12_readMoves_5 : decode cX12_readMoves 5 = .ok (.iload_n 1, 1) := by decide +kernel
theorem dX12_readMoves_6 : decode cX12_readMoves 6 = .ok (.ifCond .eq 7, 3) := by decide +kernel
theorem dX12_readMoves_9 : decode cX12_readMoves 9 = .ok (.aload_n 0, 1) := by decide +kernel
theorem dX12_readMoves_10 : decode cX12_readMoves 10 = .ok (.invokevirtual 391, 3) := by decide +kernel
theorem dX12_readMoves_13 : decode cX12_readMoves 13 = .ok (.aload_n 0, 1) := by decide +kernel
theorem dX12_readMoves_14 : decode cX12_readMoves 14 = .ok (.iconst 0, 1) := by decide +kernel
theorem dX12_readMoves_15 : decode cX12_readMoves 15 = .ok (.putfield 259, 3) := by decide +kernel
theorem dX12_readMoves_18 : decode cX12_readMoves 18 = .ok (.aload_n 0, 1) := by decide +kernel
theorem dX12_readMoves_19 : decode cX12_readMoves 19 = .ok (.iload_n 1, 1) := by decide +kernel
theorem dX12_readMoves_20 : decode cX12_readMoves 20 = .ok (.iconst 1, 1) := by decide +kernel
theorem dX12_readMoves_21 : decode cX12_readMoves 21 = .ok (.invokevirtual 237, 3) := by decide +kernel
theorem dX12_readMoves_24 : decode cX12_readMoves 24 = .ok (.ifCond .eq 24, 3) := by decide +kernel
theorem dX12_readMoves_27 : decode cX12_readMoves 27 = .ok (.aload_n 0, 1) := by decide +kernel
theorem dX12_readMoves_28 : decode cX12_readMoves 28 = .ok (.aload_n 0, 1) := by decide +kernel
theorem dX12_readMoves_29 : decode cX12_readMoves 29 = .ok (.getfield 376, 3) := by decide +kernel
theorem dX12_readMoves_32 : decode cX12_readMoves 32 = .ok (.iconst (-1), 1) := by decide +kernel
theorem dX12_readMoves_33 : decode cX12_readMoves 33 = .ok (.if_icmp .ne 7, 3) := by decide +kernel
theorem dX12_readMoves_36 : decode cX12_readMoves 36 = .ok (.iconst 1, 1) := by decide +kernel
theorem dX12_readMoves_37 : decode cX12_readMoves 37 = .ok (.goto 4, 3) := by decide +kernel
theorem dX12_readMoves_40 : decode cX12_readMoves 40 = .ok (.iconst 0, 1) := by decide +kernel
theorem dX12_readMoves_41 : decode cX12_readMoves 41 = .ok (.iconst 2, 1) := by decide +kernel
theorem dX12_readMoves_42 : decode cX12_readMoves 42 = .ok (.invokevirtual 237, 3) := by decide +kernel
theorem dX12_readMoves_45 : decode cX12_readMoves 45 = .ok (.ifCond .ne 5, 3) := by decide +kernel
theorem dX12_readMoves_48 : decode cX12_readMoves 48 = .ok (.iconst 0, 1) := by decide +kernel
theorem dX12_readMoves_49 : decode cX12_readMoves 49 = .ok (.ireturn, 1) := by decide +kernel
theorem dX12_readMoves_50 : decode cX12_readMoves 50 = .ok (.aload_n 0, 1) := by decide +kernel
theorem dX12_readMoves_51 : decode cX12_readMoves 51 = .ok (.aload_n 0, 1) := by decide +kernel
theorem dX12_readMoves_52 : decode cX12_readMoves 52 = .ok (.getfield 373, 3) := by decide +kernel
theorem dX12_readMoves_55 : decode cX12_readMoves 55 = .ok (.putfield 394, 3) := by decide +kernel
theorem dX12_readMoves_58 : decode cX12_readMoves 58 = .ok (.aload_n 0, 1) := by decide +kernel
theorem dX12_readMoves_59 : decode cX12_readMoves 59 = .ok (.getfield 63, 3) := by decide +kernel
theorem dX12_readMoves_62 : decode cX12_readMoves 62 = .ok (.iconst 0, 1) := by decide +kernel
theorem dX12_readMoves_63 : decode cX12_readMoves 63 = .ok (.iaload, 1) := by decide +kernel
theorem dX12_readMoves_64 : decode cX12_readMoves 64 = .ok (.istore_n 2, 1) := by decide +kernel
theorem dX12_readMoves_65 : decode cX12_readMoves 65 = .ok (.aload_n 0, 1) := by decide +kernel
theorem dX12_readMoves_66 : decode cX12_readMoves 66 = .ok (.invokevirtual 192, 3) := by decide +kernel
theorem dX12_readMoves_69 : decode cX12_readMoves 69 = .ok (.iconst 0, 1) := by decide +kernel
theorem dX12_readMoves_70 : decode cX12_readMoves 70 = .ok (.istore_n 3, 1) := by decide +kernel
theorem dX12_readMoves_71 : decode cX12_readMoves 71 = .ok (.iload_n 3, 1) := by decide +kernel
theorem dX12_readMoves_72 : decode cX12_readMoves 72 = .ok (.iload_n 2, 1) := by decide +kernel
theorem dX12_readMoves_73 : decode cX12_readMoves 73 = .ok (.if_icmp .ge 24, 3) := by decide +kernel
theorem dX12_readMoves_76 : decode cX12_readMoves 76 = .ok (.aload_n 0, 1) := by decide +kernel
theorem dX12_readMoves_77 : decode cX12_readMoves 77 = .ok (.iconst 0, 1) := by decide +kernel
theorem dX12_readMoves_78 : decode cX12_readMoves 78 = .ok (.invokevirtual 233, 3) := by decide +kernel
theorem dX12_readMoves_81 : decode cX12_readMoves 81 = .ok (.aload_n 0, 1) := by decide +kernel
theorem dX12_readMoves_82 : decode cX12_readMoves 82 = .ok (.aload_n 0, 1) := by decide +kernel
theorem dX12_readMoves_83 : decode cX12_readMoves 83 = .ok (.getfield 66, 3) := by decide +kernel
theorem dX12_readMoves_86 : decode cX12_readMoves 86 = .ok (.iload_n 3, 1) := by decide +kernel
theorem dX12_readMoves_87 : decode cX12_readMoves 87 = .ok (.iaload, 1) := by decide +kernel
theorem dX12_readMoves_88 : decode cX12_readMoves 88 = .ok (.invokevirtual 324, 3) := by decide +kernel
theorem dX12_readMoves_91 : decode cX12_readMoves 91 = .ok (.iinc 3 1, 3) := by decide +kernel
theorem dX12_readMoves_94 : decode cX12_readMoves 94 = .ok (.goto (-23), 3) := by decide +kernel
theorem dX12_readMoves_97 : decode cX12_readMoves 97 = .ok (.iload_n 2, 1) := by decide +kernel
theorem dX12_readMoves_98 : decode cX12_readMoves 98 = .ok (.ireturn, 1) := by decide +kernel
theorem dX12_readsRest_0 : decode cX12_readsRest 0 = .ok (.aload_n 0, 1) := by decide +kernel
theorem dX12_readsRest_1 : decode cX12_readsRest 1 = .ok (.iconst 0, 1) := by decide +kernel
theorem dX12_readsRest_2 : decode cX12_readsRest 2 = .ok (.bipush 64, 2) := by decide +kernel
theorem dX12_readsRest_4 : decode cX12_readsRest 4 = .ok (.aload_n 0, 1) := by decide +kernel
theorem dX12_readsRest_5 : decode cX12_readsRest 5 = .ok (.aload_n 0, 1) := by decide +kernel
theorem dX12_readsRest_6 : decode cX12_readsRest 6 = .ok (.getfield 262, 3) := by decide +kernel
theorem dX12_readsRest_9 : decode cX12_readsRest 9 = .ok (.invokevirtual 265, 3) := by decide +kernel
theorem dX12_readsRest_12 : decode cX12_readsRest 12 = .ok (.bipush 119, 2) := by decide +kernel
theorem dX12_readsRest_14 : decode cX12_readsRest 14 = .ok (.if_icmp .ne 7, 3) := by decide +kernel
theorem dX12_readsRest_17 : decode cX12_readsRest 17 = .ok (.iconst 1, 1) := by decide +kernel
theorem dX12_readsRest_18 : decode cX12_readsRest 18 = .ok (.goto 4, 3) := by decide +kernel
theorem dX12_readsRest_21 : decode cX12_readsRest 21 = .ok (.iconst 0, 1) := by decide +kernel
theorem dX12_readsRest_22 : decode cX12_readsRest 22 = .ok (.invokevirtual 207, 3) := by decide +kernel
theorem dX12_readsRest_25 : decode cX12_readsRest 25 = .ok (.aload_n 0, 1) := by decide +kernel
theorem dX12_readsRest_26 : decode cX12_readsRest 26 = .ok (.dup, 1) := by decide +kernel
theorem dX12_readsRest_27 : decode cX12_readsRest 27 = .ok (.getfield 262, 3) := by decide +kernel
theorem dX12_readsRest_30 : decode cX12_readsRest 30 = .ok (.iconst 2, 1) := by decide +kernel
theorem dX12_readsRest_31 : decode cX12_readsRest 31 = .ok (.iadd, 1) := by decide +kernel
theorem dX12_readsRest_32 : decode cX12_readsRest 32 = .ok (.putfield 262, 3) := by decide +kernel
theorem dX12_readsRest_35 : decode cX12_readsRest 35 = .ok (.iconst 0, 1) := by decide +kernel
theorem dX12_readsRest_36 : decode cX12_readsRest 36 = .ok (.istore_n 1, 1) := by decide +kernel
theorem dX12_readsRest_37 : decode cX12_readsRest 37 = .ok (.aload_n 0, 1) := by decide +kernel
theorem dX12_readsRest_38 : decode cX12_readsRest 38 = .ok (.getfield 262, 3) := by decide +kernel
theorem dX12_readsRest_41 : decode cX12_readsRest 41 = .ok (.aload_n 0, 1) := by decide +kernel
theorem dX12_readsRest_42 : decode cX12_readsRest 42 = .ok (.getfield 259, 3) := by decide +kernel
theorem dX12_readsRest_45 : decode cX12_readsRest 45 = .ok (.if_icmp .ge 83, 3) := by decide +kernel
theorem dX12_readsRest_48 : decode cX12_readsRest 48 = .ok (.aload_n 0, 1) := by decide +kernel
theorem dX12_readsRest_49 : decode cX12_readsRest 49 = .ok (.aload_n 0, 1) := by decide +kernel
theorem dX12_readsRest_50 : decode cX12_readsRest 50 = .ok (.getfield 262, 3) := by decide +kernel
theorem dX12_readsRest_53 : decode cX12_readsRest 53 = .ok (.invokevirtual 265, 3) := by decide +kernel
theorem dX12_readsRest_56 : decode cX12_readsRest 56 = .ok (.bipush 32, 2) := by decide +kernel
theorem dX12_readsRest_58 : decode cX12_readsRest 58 = .ok (.if_icmp .eq 70, 3) := by decide +kernel
theorem dX12_readsRest_61 : decode cX12_readsRest 61 = .ok (.aload_n 0, 1) := by decide +kernel
theorem dX12_readsRest_62 : decode cX12_readsRest 62 = .ok (.aload_n 0, 1) := by decide +kernel
theorem dX12_readsRest_63 : decode cX12_readsRest 63 = .ok (.getfield 262, 3) := by decide +kernel
theorem dX12_readsRest_66 : decode cX12_readsRest 66 = .ok (.invokevirtual 265, 3) := by decide +kernel
theorem dX12_readsRest_69 : decode cX12_readsRest 69 = .ok (.istore_n 2, 1) := by decide +kernel
theorem dX12_readsRest_70 : decode cX12_readsRest 70 = .ok (.iload_n 1, 1) := by decide +kernel
theorem dX12_readsRest_71 : decode cX12_readsRest 71 = .ok (.iload_n 2, 1) := by decide +kernel
theorem dX12_readsRest_72 : decode cX12_readsRest 72 = .ok (.bipush 75, 2) := by decide +kernel
theorem dX12_readsRest_74 : decode cX12_readsRest 74 = .ok (.if_icmp .ne 7, 3) := by decide +kernel
theorem dX12_readsRest_77 : decode cX12_readsRest 77 = .ok (.iconst 1, 1) := by decide +kernel
theorem dX12_readsRest_78 : decode cX12_readsRest 78 = .ok (.goto 35, 3) := by decide +kernel
theorem dX12_readsRest_81 : decode cX12_readsRest 81 = .ok (.iload_n 2, 1) := by decide +kernel
theorem dX12_readsRest_82 : decode cX12_readsRest 82 = .ok (.bipush 81, 2) := by decide +kernel
theorem dX12_readsRest_84 : decode cX12_readsRest 84 = .ok (.if_icmp .ne 7, 3) := by decide +kernel
theorem dX12_readsRest_87 : decode cX12_readsRest 87 = .ok (.iconst 2, 1) := by decide +kernel
theorem dX12_readsRest_88 : decode cX12_readsRest 88 = .ok (.goto 25, 3) := by decide +kernel
theorem dX12_readsRest_91 : decode cX12_readsRest 91 = .ok (.iload_n 2, 1) := by decide +kernel
theorem dX12_readsRest_92 : decode cX12_readsRest 92 = .ok (.bipush 107, 2) := by decide +kernel
theorem dX12_readsRest_94 : decode cX12_readsRest 94 = .ok (.if_icmp .ne 7, 3) := by decide +kernel
theorem dX12_readsRest_97 : decode cX12_readsRest 97 = .ok (.iconst 4, 1) := by decide +kernel
theorem dX12_readsRest_98 : decode cX12_readsRest 98 = .ok (.goto 15, 3) := by decide +kernel
theorem dX12_readsRest_101 : decode cX12_readsRest 101 = .ok (.iload_n 2, 1) := by decide +kernel
theorem dX12_readsRest_102 : decode cX12_readsRest 102 = .ok (.bipush 113, 2) := by decide +kernel
theorem dX12_readsRest_104 : decode cX12_readsRest 104 = .ok (.if_icmp .ne 8, 3) := by decide +kernel
theorem dX12_readsRest_107 : decode cX12_readsRest 107 = .ok (.bipush 8, 2) := by decide +kernel
theorem dX12_readsRest_109 : decode cX12_readsRest 109 = .ok (.goto 4, 3) := by decide +kernel
theorem dX12_readsRest_112 : decode cX12_readsRest 112 = .ok (.iconst 0, 1) := by decide +kernel
theorem dX12_readsRest_113 : decode cX12_readsRest 113 = .ok (.ior, 1) := by decide +kernel
theorem dX12_readsRest_114 : decode cX12_readsRest 114 = .ok (.istore_n 1, 1) := by decide +kernel
theorem dX12_readsRest_115 : decode cX12_readsRest 115 = .ok (.aload_n 0, 1) := by decide +kernel
theorem dX12_readsRest_116 : decode cX12_readsRest 116 = .ok (.dup, 1) := by decide +kernel
theorem dX12_readsRest_117 : decode cX12_readsRest 117 = .ok (.getfield 262, 3) := by decide +kernel
theorem dX12_readsRest_120 : decode cX12_readsRest 120 = .ok (.iconst 1, 1) := by decide +kernel
theorem dX12_readsRest_121 : decode cX12_readsRest 121 = .ok (.iadd, 1) := by decide +kernel
theorem dX12_readsRest_122 : decode cX12_readsRest 122 = .ok (.putfield 262, 3) := by decide +kernel
theorem dX12_readsRest_125 : decode cX12_readsRest 125 = .ok (.goto (-88), 3) := by decide +kernel
theorem dX12_readsRest_128 : decode cX12_readsRest 128 = .ok (.aload_n 0, 1) := by decide +kernel
theorem dX12_readsRest_129 : decode cX12_readsRest 129 = .ok (.iconst 0, 1) := by decide +kernel
theorem dX12_readsRest_130 : decode cX12_readsRest 130 = .ok (.bipush 65, 2) := by decide +kernel
theorem dX12_readsRest_132 : decode cX12_readsRest 132 = .ok (.iload_n 1, 1) := by decide +kernel
theorem dX12_readsRest_133 : decode cX12_readsRest 133 = .ok (.invokevirtual 207, 3) := by decide +kernel
theorem dX12_readsRest_136 : decode cX12_readsRest 136 = .ok (.aload_n 0, 1) := by decide +kernel
theorem dX12_readsRest_137 : decode cX12_readsRest 137 = .ok (.dup, 1) := by decide +kernel
theorem dX12_readsRest_138 : decode cX12_readsRest 138 = .ok (.getfield 262, 3) := by decide +kernel
theorem dX12_readsRest_141 : decode cX12_readsRest 141 = .ok (.iconst 1, 1) := by decide +kernel
theorem dX12_readsRest_142 : decode cX12_readsRest 142 = .ok (.iadd, 1) := by decide +kernel
theorem dX12_readsRest_143 : decode cX12_readsRest 143 = .ok (.putfield 262, 3) := by decide +kernel
theorem dX12_readsRest_146 : decode cX12_readsRest 146 = .ok (.aload_n 0, 1) := by decide +kernel
theorem dX12_readsRest_147 : decode cX12_readsRest 147 = .ok (.aload_n 0, 1) := by decide +kernel
theorem dX12_readsRest_148 : decode cX12_readsRest 148 = .ok (.getfield 262, 3) := by decide +kernel
theorem dX12_readsRest_151 : decode cX12_readsRest 151 = .ok (.invokevirtual 265, 3) := by decide +kernel
theorem dX12_readsRest_154 : decode cX12_readsRest 154 = .ok (.bipush 97, 2) := by decide +kernel
theorem dX12_readsRest_156 : decode cX12_readsRest 156 = .ok (.isub, 1) := by decide +kernel
theorem dX12_readsRest_157 : decode cX12_readsRest 157 = .ok (.istore_n 2, 1) := by decide +kernel
theorem dX12_readsRest_158 : decode cX12_readsRest 158 = .ok (.aload_n 0, 1) := by decide +kernel
theorem dX12_readsRest_159 : decode cX12_readsRest 159 = .ok (.aload_n 0, 1) := by decide +kernel
theorem dX12_readsRest_160 : decode cX12_readsRest 160 = .ok (.getfield 262, 3) := by decide +kernel
theorem dX12_readsRest_163 : decode cX12_readsRest 163 = .ok (.iconst 1, 1) := by decide +kernel
theorem dX12_readsRest_164 : decode cX12_readsRest 164 = .ok (.iadd, 1) := by decide +kernel
theorem dX12_readsRest_165 : decode cX12_readsRest 165 = .ok (.invokevirtual 265, 3) := by decide +kernel
theorem dX12_readsRest_168 : decode cX12_readsRest 168 = .ok (.bipush 49, 2) := by decide +kernel
theorem dX12_readsRest_170 : decode cX12_readsRest 170 = .ok (.isub, 1) := by decide +kernel
theorem dX12_readsRest_171 : decode cX12_readsRest 171 = .ok (.istore_n 3, 1) := by decide +kernel
theorem dX12_readsRest_172 : decode cX12_readsRest 172 = .ok (.aload_n 0, 1) := by decide +kernel
theorem dX12_readsRest_173 : decode cX12_readsRest 173 = .ok (.iconst 0, 1) := by decide +kernel
theorem dX12_readsRest_174 : decode cX12_readsRest 174 = .ok (.bipush 66, 2) := by decide +kernel
theorem dX12_readsRest_176 : decode cX12_readsRest 176 = .ok (.aload_n 0, 1) := by decide +kernel
theorem dX12_readsRest_177 : decode cX12_readsRest 177 = .ok (.aload_n 0, 1) := by decide +kernel
theorem dX12_readsRest_178 : decode cX12_readsRest 178 = .ok (.getfield 262, 3) := by decide +kernel
theorem dX12_readsRest_181 : decode cX12_readsRest 181 = .ok (.invokevirtual 265, 3) := by decide +kernel
theorem dX12_readsRest_184 : decode cX12_readsRest 184 = .ok (.bipush 45, 2) := by decide +kernel
theorem dX12_readsRest_186 : decode cX12_readsRest 186 = .ok (.if_icmp .eq 42, 3) := by decide +kernel
theorem dX12_readsRest_189 : decode cX12_readsRest 189 = .ok (.iload_n 2, 1) := by decide +kernel
theorem dX12_readsRest_190 : decode cX12_readsRest 190 = .ok (.iconst 0, 1) := by decide +kernel
theorem dX12_readsRest_191 : decode cX12_readsRest 191 = .ok (.aload_n 0, 1) := by decide +kernel
theorem dX12_readsRest_192 : decode cX12_readsRest 192 = .ok (.getfield 9, 3) := by decide +kernel
theorem dX12_readsRest_195 : decode cX12_readsRest 195 = .ok (.iconst 1, 1) := by decide +kernel
theorem dX12_readsRest_196 : decode cX12_readsRest 196 = .ok (.isub, 1) := by decide +kernel
theorem dX12_readsRest_197 : decode cX12_readsRest 197 = .ok (.invokestatic 117, 3) := by decide +kernel
theorem dX12_readsRest_200 : decode cX12_readsRest 200 = .ok (.ifCond .eq 28, 3) := by decide +kernel
theorem dX12_readsRest_203 : decode cX12_readsRest 203 = .ok (.iload_n 3, 1) := by decide +kernel
theorem dX12_readsRest_204 : decode cX12_readsRest 204 = .ok (.iconst 0, 1) := by decide +kernel
theorem dX12_readsRest_205 : decode cX12_readsRest 205 = .ok (.aload_n 0, 1) := by decide +kernel
theorem dX12_readsRest_206 : decode cX12_readsRest 206 = .ok (.getfield 13, 3) := by decide +kernel
theorem dX12_readsRest_209 : decode cX12_readsRest 209 = .ok (.iconst 1, 1) := by decide +kernel
theorem dX12_readsRest_210 : decode cX12_readsRest 210 = .ok (.isub, 1) := by decide +kernel
theorem dX12_readsRest_211 : decode cX12_readsRest 211 = .ok (.invokestatic 117, 3) := by decide +kernel
theorem dX12_readsRest_214 : decode cX12_readsRest 214 = .ok (.ifCond .eq 14, 3) := by decide +kernel
theorem dX12_readsRest_217 : decode cX12_readsRest 217 = .ok (.aload_n 0, 1) := by decide +kernel
theorem dX12_readsRest_218 : decode cX12_readsRest 218 = .ok (.getfield 9, 3) := by decide +kernel
theorem dX12_readsRest_221 : decode cX12_readsRest 221 = .ok (.iload_n 3, 1) := by decide +kernel
theorem dX12_readsRest_222 : decode cX12_readsRest 222 = .ok (.imul, 1) := by decide +kernel
theorem dX12_readsRest_223 : decode cX12_readsRest 223 = .ok (.iload_n 2, 1) := by decide +kernel
theorem dX12_readsRest_224 : decode cX12_readsRest 224 = .ok (.iadd, 1) := by decide +kernel
theorem dX12_readsRest_225 : decode cX12_readsRest 225 = .ok (.goto 4, 3) := by decide +kernel
theorem dX12_readsRest_228 : decode cX12_readsRest 228 = .ok (.iconst (-1), 1) := by decide +kernel
theorem dX12_readsRest_229 : decode cX12_readsRest 229 = .ok (.invokevirtual 207, 3) := by decide +kernel
theorem dX12_readsRest_232 : decode cX12_readsRest 232 = .ok (.return_, 1) := by decide +kernel
def wp_X12_material_60 (D : wD) (post : Int32 → wS → Prop) (k_9 : wS → Nat → Int32 → Int32 → Int32 → Prop) (S : wS) (a0 : Nat) (x1 : Int32) (x3 : Int32) (t0 : Int32) (t1 : Int32) : Prop :=
∀ x_1 : Int32, x_1 = (t0 + t1) →
∀ x_2 : Int32, x_2 = x3 + 1 →
k_9 S a0 x1 x_1 x_2
def wp_X12_material_42 (D : wD) (post : Int32 → wS → Prop) (k_9 : wS → Nat → Int32 → Int32 → Int32 → Prop) (S : wS) (a0 : Nat) (x1 : Int32) (x3 : Int32) (x4 : Int32) (t0 : Int32) (t1 : Int32) (t2 : Int32) : Prop :=
wp_X12_isOf D (fun r_1 S_2 => 
((r_1 = 0 → wp_X12_material_60 D post k_9 S_2 a0 x1 x3 t0 (0 : Int32)) ∧
 (¬ r_1 = 0 → wp_X12_kindOf D (fun r_4 S_5 => 
wp_X12_worth D (fun r_6 S_7 => 
wp_X12_material_60 D post k_9 S_7 a0 x1 x3 t0 r_6) S_5 r_4) S_2 x4))) S t1 t2
def wp_X12_material_9 (D : wD) (post : Int32 → wS → Prop)  : Nat → wS → Nat → Int32 → Int32 → Int32 → Prop
  | 0, _, _, _, _, _ => False
  | n + 1, S, a0, x1, x2, x3 =>
    wp_X12_squares D (fun r_1 S_2 => 
    ((r_1 ≤ x3 → post x2 S_2) ∧
     (¬ r_1 ≤ x3 → ∃ y_4 : Nat, sR S_2 a0 8 = some y_4 ∧ wM D S_2 y_4 ∧ sK S_2 y_4 = 21 ∧
    wp_X12_presentAt D (fun r_5 S_6 => 
    vp_in (r_5 + x3) (sN S_6 y_4) ∧
    ∀ x_8 : Int32, x_8 = (sI S_6 y_4 ((r_5 + x3)).toNatClampNeg) →
    ((x1 = 0 → wp_X12_material_42 D post (wp_X12_material_9 D post n) S_6 a0 x1 x3 x_8 x2 x_8 (0 : Int32)) ∧
     (¬ x1 = 0 → wp_X12_material_42 D post (wp_X12_material_9 D post n) S_6 a0 x1 x3 x_8 x2 x_8 (1 : Int32)))) S_2 a0))) S a0
def wp_X12_material_0 (D : wD) (post : Int32 → wS → Prop)  (S : wS) (a0 : Nat) (x1 : Int32) : Prop :=
∀ S_1 : wS, S_1 = uI S a0 0 (0 : Int32) →
∃ n_2 : Nat, wp_X12_material_9 D post n_2 S_1 a0 x1 (0 : Int32) (0 : Int32)
abbrev r_X12_material : Room := { frames := 1, cells := 0, slots := 0, locals := 21 }
def wp_X12_material (D : wD) (post : Int32 → wS → Prop) (S : wS) (a0 : Nat) (x1 : Int32) : Prop := wp_X12_material_0 D post S a0 x1
set_option maxHeartbeats 4000000 in
set_option maxRecDepth 100000 in
theorem t_X12_material_60 {p : Program} {l : Launch} {e : Env} {s : State} {m : MethodId} {args : Array Value} {below : List Frame} {meth : Method} {c : Code} {D : wD} {cy : Nat → ClassId} {X : va_W} {A : Nat → Prop} {S0 : wS} {post : Int32 → wS → Prop} (F : CallFix p m c cX12_material 5 s args wz_X12_material RX12) (hr : meth.sig.returnType = (some .int)) (hlocks : meth.locks = false) (hK : wK D cy A s) {k_9 : wS → Nat → Int32 → Int32 → Int32 → Prop} (q_9 : ∀ {S : wS} {H : Heap} {locs : List Loc} {ls : Array Slot} {a0 : Nat} {x1 : Int32} {x2 : Int32} {x3 : Int32}, k_9 S a0 x1 x2 x3 → wO D cy X A s.heap S H locs → wX D S0 S → lv_has ls 5 [(0, .ref a0), (1, .int x1), (2, .int x2), (3, .int x3)] → wM D S a0 → sK S a0 = 17 → W p l e r_X12_material s m args below meth c H locs 0 0 (MQ below (va_Qi (fun r S9 => wX D S0 S9 ∧ post r S9) (wB D cy X A) A) args s 0 0 A) (F0 m 9 ls [])) : ∀ {S : wS} {H : Heap} {locs : List Loc} {ls : Array Slot} {a0 : Nat} {x1 : Int32} {x3 : Int32} {t0 : Int32} {t1 : Int32}, wp_X12_material_60 D post k_9 S a0 x1 x3 t0 t1 → wO D cy X A s.heap S H locs → wX D S0 S → lv_has ls 5 [(0, .ref a0), (1, .int x1), (3, .int x3)] → wM D S a0 → sK S a0 = 17 → W p l e r_X12_material s m args below meth c H locs 0 0 (MQ below (va_Qi (fun r S9 => wX D S0 S9 ∧ post r S9) (wB D cy X A) A) args s 0 0 A) (F0 m 60 ls [.int t1, .int t0]) := by
  obtain ⟨hx, hb, hml, hown, hts⟩ := id F
  have hwg : ∀ w ∈ WG, w.before args s = true := fun w h => hts w (List.mem_cons_of_mem _ h)
  intro S H locs ls a0 x1 x3 t0 t1 hp hW hE hl hL_a0 hK_a0
  unfold wp_X12_material_60 at hp
  refine lv_iadd hx hb dX12_material_60 ?_
  refine lv_topi (fun x_1 ex_1 => ?_)
  replace hp := hp x_1 ex_1
  refine lv_istore_n (lv' := [(2, .int x_1), (0, .ref a0), (1, .int x1), (3, .int x3)]) hx hb dX12_material_61 rfl hl (by decide) rfl (fun ls hl => ?_)
  obtain ⟨x_2, ex_2⟩ : ∃ z : Int32, z = x3 + 1 := ⟨_, rfl⟩
  replace hp := hp x_2 ex_2
  refine lv_iinc (v := x_2) (lv' := [(3, .int x_2), (2, .int x_1), (0, .ref a0), (1, .int x1)]) hx hb dX12_material_62 hl (k := 3) rfl (by rw [ex_2]; rfl) (by decide) rfl (fun ls hl => ?_)
  refine lv_goto (tgt := 9) hx hb dX12_material_65 (by decide) ?_
  exact q_9 hp hW hE (lv_sub hl [2, 3, 1, 0] rfl) hL_a0 hK_a0
set_option maxHeartbeats 4000000 in
set_option maxRecDepth 100000 in
theorem t_X12_material_42 {p : Program} {l : Launch} {e : Env} {s : State} {m : MethodId} {args : Array Value} {below : List Frame} {meth : Method} {c : Code} {D : wD} {cy : Nat → ClassId} {X : va_W} {A : Nat → Prop} {S0 : wS} {post : Int32 → wS → Prop} (F : CallFix p m c cX12_material 5 s args wz_X12_material RX12) (hr : meth.sig.returnType = (some .int)) (hlocks : meth.locks = false) (hK : wK D cy A s) {k_9 : wS → Nat → Int32 → Int32 → Int32 → Prop} (q_9 : ∀ {S : wS} {H : Heap} {locs : List Loc} {ls : Array Slot} {a0 : Nat} {x1 : Int32} {x2 : Int32} {x3 : Int32}, k_9 S a0 x1 x2 x3 → wO D cy X A s.heap S H locs → wX D S0 S → lv_has ls 5 [(0, .ref a0), (1, .int x1), (2, .int x2), (3, .int x3)] → wM D S a0 → sK S a0 = 17 → W p l e r_X12_material s m args below meth c H locs 0 0 (MQ below (va_Qi (fun r S9 => wX D S0 S9 ∧ post r S9) (wB D cy X A) A) args s 0 0 A) (F0 m 9 ls [])) : ∀ {S : wS} {H : Heap} {locs : List Loc} {ls : Array Slot} {a0 : Nat} {x1 : Int32} {x3 : Int32} {x4 : Int32} {t0 : Int32} {t1 : Int32} {t2 : Int32}, wp_X12_material_42 D post k_9 S a0 x1 x3 x4 t0 t1 t2 → wO D cy X A s.heap S H locs → wX D S0 S → lv_has ls 5 [(0, .ref a0), (1, .int x1), (3, .int x3), (4, .int x4)] → wM D S a0 → sK S a0 = 17 → W p l e r_X12_material s m args below meth c H locs 0 0 (MQ below (va_Qi (fun r S9 => wX D S0 S9 ∧ post r S9) (wB D cy X A) A) args s 0 0 A) (F0 m 42 ls [.int t2, .int t1, .int t0]) := by
  obtain ⟨hx, hb, hml, hown, hts⟩ := id F
  have hwg : ∀ w ∈ WG, w.before args s = true := fun w h => hts w (List.mem_cons_of_mem _ h)
  intro S H locs ls a0 x1 x3 x4 t0 t1 t2 hp hW hE hl hL_a0 hK_a0
  unfold wp_X12_material_42 at hp
  refine w_callI (va_runS (As := [.int t1, .int t2]) (rest := [.int t0]) F (c_X12_isOf l hp H.size) (va_cwS 2 hts (wg_S wm_RX12_154 wy_X12_isOf) rfl rfl rfl (by decide +kernel) ⟨Nat.le_of_ble_eq_true rfl, Nat.le_of_ble_eq_true rfl⟩) (w_preS hK hW) rfl rfl hl.1 rfl (lv_room (Nat.le_of_ble_eq_true rfl)) dX12_material_42 ⟨Nat.le_of_ble_eq_true rfl, Nat.le_of_ble_eq_true rfl⟩) hW (fun r_1 S_2 H locs hp hW => ?_)
  obtain ⟨hX_S_2, hp⟩ := hp
  refine W.widen (k := 0) (n := 0) (by decide) (by decide) ?_
  have hE := hE.trans hX_S_2
  have hK_a0 : sK S_2 a0 = 17 := (hX_S_2.2 a0 hL_a0).1.trans hK_a0
  have hL_a0 : wM D S_2 a0 := hX_S_2.M hL_a0
  refine lv_if_eq (tgt := 59) hx hb dX12_material_45 (by decide) (fun c_3 => ?_) (fun c_3 => ?_)
  · replace hp := hp.1 c_3
    refine lv_iconst (v := 0) hx hb dX12_material_59 (by decide) ?_
    exact t_X12_material_60 F hr hlocks hK q_9 hp hW hE (lv_sub hl [0, 1, 2] rfl) hL_a0 hK_a0
  · replace hp := hp.2 c_3
    refine lv_iload hx hb dX12_material_48 (lv_at hl 3 rfl) ?_
    refine w_callI (va_runS (As := [.int x4]) (rest := [.int t0]) F (c_X12_kindOf l hp H.size) (va_cwS 1 hts (wg_S wm_RX12_148 wy_X12_kindOf) rfl rfl rfl (by decide +kernel) ⟨Nat.le_of_ble_eq_true rfl, Nat.le_of_ble_eq_true rfl⟩) (w_preS hK hW) rfl rfl hl.1 rfl (lv_room (Nat.le_of_ble_eq_true rfl)) dX12_material_50 ⟨Nat.le_of_ble_eq_true rfl, Nat.le_of_ble_eq_true rfl⟩) hW (fun r_4 S_5 H locs hp hW => ?_)
    obtain ⟨hX_S_5, hp⟩ := hp
    refine W.widen (k := 0) (n := 0) (by decide) (by decide) ?_
    have hE := hE.trans hX_S_5
    have hK_a0 : sK S_5 a0 = 17 := (hX_S_5.2 a0 hL_a0).1.trans hK_a0
    have hL_a0 : wM D S_5 a0 := hX_S_5.M hL_a0
    refine w_callI (va_runS (As := [.int r_4]) (rest := [.int t0]) F (c_X12_worth l hp H.size) (va_cwS 1 hts (wg_S wm_RX12_287 wy_X12_worth) rfl rfl rfl (by decide +kernel) ⟨Nat.le_of_ble_eq_true rfl, Nat.le_of_ble_eq_true rfl⟩) (w_preS hK hW) rfl rfl hl.1 rfl (lv_room (Nat.le_of_ble_eq_true rfl)) dX12_material_53 ⟨Nat.le_of_ble_eq_true rfl, Nat.le_of_ble_eq_true rfl⟩) hW (fun r_6 S_7 H locs hp hW => ?_)
    obtain ⟨hX_S_7, hp⟩ := hp
    refine W.widen (k := 0) (n := 0) (by decide) (by decide) ?_
    have hE := hE.trans hX_S_7
    have hK_a0 : sK S_7 a0 = 17 := (hX_S_7.2 a0 hL_a0).1.trans hK_a0
    have hL_a0 : wM D S_7 a0 := hX_S_7.M hL_a0
    refine lv_goto (tgt := 60) hx hb dX12_material_56 (by decide) ?_
    exact t_X12_material_60 F hr hlocks hK q_9 hp hW hE (lv_sub hl [0, 1, 2] rfl) hL_a0 hK_a0
set_option maxHeartbeats 4000000 in
set_option maxRecDepth 100000 in
theorem t_X12_material_9 {p : Program} {l : Launch} {e : Env} {s : State} {m : MethodId} {args : Array Value} {below : List Frame} {meth : Method} {c : Code} {D : wD} {cy : Nat → ClassId} {X : va_W} {A : Nat → Prop} {S0 : wS} {post : Int32 → wS → Prop} (F : CallFix p m c cX12_material 5 s args wz_X12_material RX12) (hr : meth.sig.returnType = (some .int)) (hlocks : meth.locks = false) (hK : wK D cy A s) : ∀ (n : Nat) {S : wS} {H : Heap} {locs : List Loc} {ls : Array Slot} {a0 : Nat} {x1 : Int32} {x2 : Int32} {x3 : Int32}, wp_X12_material_9 D post n S a0 x1 x2 x3 → wO D cy X A s.heap S H locs → wX D S0 S → lv_has ls 5 [(0, .ref a0), (1, .int x1), (2, .int x2), (3, .int x3)] → wM D S a0 → sK S a0 = 17 → W p l e r_X12_material s m args below meth c H locs 0 0 (MQ below (va_Qi (fun r S9 => wX D S0 S9 ∧ post r S9) (wB D cy X A) A) args s 0 0 A) (F0 m 9 ls []) := by
  obtain ⟨hx, hb, hml, hown, hts⟩ := id F
  have hwg : ∀ w ∈ WG, w.before args s = true := fun w h => hts w (List.mem_cons_of_mem _ h)
  have i_17 : ∀ w ∈ u_ws RX12 TX12 43, w ∈ wz_X12_material := fun w h => List.mem_cons_of_mem _ (wu_17 w h)
  have k_32 := hwg _ wf_RX12_32
  intro n
  induction n with
  | zero =>
    intro S H locs ls a0 x1 x2 x3 hp
    exact hp.elim
  | succ n ih =>
    intro S H locs ls a0 x1 x2 x3 hp hW hE hl hL_a0 hK_a0
    unfold wp_X12_material_9 at hp
    refine lv_iload_n hx hb dX12_material_9 rfl (lv_at hl 3 rfl) ?_
    refine lv_aload_n hx hb dX12_material_10 rfl (lv_at hl 0 rfl) ?_
    refine w_callI (va_runV (As := []) (rest := [.int x3]) F (c_X12_squares l hL_a0 hK_a0 hp H.size) (cwV (C := RX12) 0 hts (wg_V wm_RX12_113 wy_X12_squares) rfl rfl rfl (by decide +kernel) ⟨Nat.le_of_ble_eq_true rfl, Nat.le_of_ble_eq_true rfl⟩) (w_preV hK hW hL_a0 hK_a0 (by decide) rfl) rfl rfl hl.1 rfl (lv_room (Nat.le_of_ble_eq_true rfl)) dX12_material_11 ⟨Nat.le_of_ble_eq_true rfl, Nat.le_of_ble_eq_true rfl⟩) hW (fun r_1 S_2 H locs hp hW => ?_)
    obtain ⟨hX_S_2, hp⟩ := hp
    refine W.widen (k := 0) (n := 0) (by decide) (by decide) ?_
    have hE := hE.trans hX_S_2
    have hK_a0 : sK S_2 a0 = 17 := (hX_S_2.2 a0 hL_a0).1.trans hK_a0
    have hL_a0 : wM D S_2 a0 := hX_S_2.M hL_a0
    refine lv_icmp_ge (tgt := 68) hx hb dX12_material_14 (by decide) (fun c_3 => ?_) (fun c_3 => ?_)
    · replace hp := hp.1 c_3
      refine lv_iload_n hx hb dX12_material_68 rfl (lv_at hl 2 rfl) ?_
      exact w_iret hx hb hr hlocks hW ⟨hE, hp⟩ dX12_material_69
    · replace hp := hp.2 c_3
      refine lv_aload_n hx hb dX12_material_17 rfl (lv_at hl 0 rfl) ?_
      obtain ⟨y_4, ey_4, hL_y_4, hK_y_4, hp⟩ := hp
      refine w_get (k := 17) (f := 8) (T := TX12) (v := .ref y_4) F hK hW hL_a0 hK_a0 (by decide) rfl rfl (by decide) i_17 k_32 (by rw [show wv 17 8 S_2 a0 = va_rf (sR S_2 a0 8) from rfl, ey_4]; rfl) dX12_material_18 ?_
      refine lv_aload_n hx hb dX12_material_21 rfl (lv_at hl 0 rfl) ?_
      refine w_callI (va_runV (As := []) (rest := [.ref y_4]) F (c_X12_presentAt l hL_a0 hK_a0 hp H.size) (cwV (C := RX12) 0 hts (wg_V wm_RX12_127 wy_X12_presentAt) rfl rfl rfl (by decide +kernel) ⟨Nat.le_of_ble_eq_true rfl, Nat.le_of_ble_eq_true rfl⟩) (w_preV hK hW hL_a0 hK_a0 (by decide) rfl) rfl rfl hl.1 rfl (lv_room (Nat.le_of_ble_eq_true rfl)) dX12_material_22 ⟨Nat.le_of_ble_eq_true rfl, Nat.le_of_ble_eq_true rfl⟩) hW (fun r_5 S_6 H locs hp hW => ?_)
      obtain ⟨hX_S_6, hp⟩ := hp
      refine W.widen (k := 0) (n := 0) (by decide) (by decide) ?_
      have hE := hE.trans hX_S_6
      have hK_a0 : sK S_6 a0 = 17 := (hX_S_6.2 a0 hL_a0).1.trans hK_a0
      have hL_a0 : wM D S_6 a0 := hX_S_6.M hL_a0
      have hK_y_4 : sK S_6 y_4 = 21 := (hX_S_6.2 y_4 hL_y_4).1.trans hK_y_4
      have hL_y_4 : wM D S_6 y_4 := hX_S_6.M hL_y_4
      refine lv_iload_n hx hb dX12_material_25 rfl (lv_at hl 3 rfl) ?_
      refine lv_iadd hx hb dX12_material_26 ?_
      obtain ⟨h_7, hp⟩ := hp
      refine w_ild F hK hW hL_y_4 hK_y_4 h_7 dX12_material_27 ?_
      refine lv_topi (fun x_8 ex_8 => ?_)
      replace hp := hp x_8 ex_8
      refine lv_istore (lv' := [(4, .int x_8), (0, .ref a0), (1, .int x1), (2, .int x2), (3, .int x3)]) hx hb dX12_material_28 hl (by decide) rfl (fun ls hl => ?_)
      refine lv_iload_n hx hb dX12_material_30 rfl (lv_at hl 3 rfl) ?_
      refine lv_iload hx hb dX12_material_31 (lv_at hl 0 rfl) ?_
      refine lv_iload_n hx hb dX12_material_33 rfl (lv_at hl 2 rfl) ?_
      refine lv_if_eq (tgt := 41) hx hb dX12_material_34 (by decide) (fun c_9 => ?_) (fun c_9 => ?_)
      · replace hp := hp.1 c_9
        refine lv_iconst (v := 0) hx hb dX12_material_41 (by decide) ?_
        exact t_X12_material_42 F hr hlocks hK ih hp hW hE (lv_sub hl [1, 2, 4, 0] rfl) hL_a0 hK_a0
      · replace hp := hp.2 c_9
        refine lv_iconst (v := 1) hx hb dX12_material_37 (by decide) ?_
        refine lv_goto (tgt := 42) hx hb dX12_material_38 (by decide) ?_
        exact t_X12_material_42 F hr hlocks hK ih hp hW hE (lv_sub hl [1, 2, 4, 0] rfl) hL_a0 hK_a0
set_option maxHeartbeats 4000000 in
set_option maxRecDepth 100000 in
theorem t_X12_material_0 {p : Program} {l : Launch} {e : Env} {s : State} {m : MethodId} {args : Array Value} {below : List Frame} {meth : Method} {c : Code} {D : wD} {cy : Nat → ClassId} {X : va_W} {A : Nat → Prop} {S0 : wS} {post : Int32 → wS → Prop} (F : CallFix p m c cX12_material 5 s args wz_X12_material RX12) (hr : meth.sig.returnType = (some .int)) (hlocks : meth.locks = false) (hK : wK D cy A s) : ∀ {S : wS} {H : Heap} {locs : List Loc} {ls : Array Slot} {a0 : Nat} {x1 : Int32}, wp_X12_material_0 D post S a0 x1 → wO D cy X A s.heap S H locs → wX D S0 S → lv_has ls 5 [(0, .ref a0), (1, .int x1)] → wM D S a0 → sK S a0 = 17 → W p l e r_X12_material s m args below meth c H locs 0 0 (MQ below (va_Qi (fun r S9 => wX D S0 S9 ∧ post r S9) (wB D cy X A) A) args s 0 0 A) (F0 m 0 ls []) := by
  obtain ⟨hx, hb, hml, hown, hts⟩ := id F
  have hwg : ∀ w ∈ WG, w.before args s = true := fun w h => hts w (List.mem_cons_of_mem _ h)
  have i_17 : ∀ w ∈ u_ws RX12 TX12 43, w ∈ wz_X12_material := fun w h => List.mem_cons_of_mem _ (wu_17 w h)
  have k_110 := hwg _ wf_RX12_110
  intro S H locs ls a0 x1 hp hW hE hl hL_a0 hK_a0
  unfold wp_X12_material_0 at hp
  refine lv_aload_n hx hb dX12_material_0 rfl (lv_at hl 0 rfl) ?_
  refine lv_iconst (v := 0) hx hb dX12_material_1 (by decide) ?_
  refine w_putI (k := 17) (f := 0) (T := TX12) F hK hW hL_a0 hK_a0 (by decide) (by decide) rfl rfl (by decide) i_17 tyX12 tyX12_ok nmX12 k_110 rfl rfl (ty := .int) rfl rfl rfl dX12_material_2 (fun H locs hW => ?_)
  obtain ⟨S_1, eS_1⟩ : ∃ z : wS, z = uI S a0 0 (0 : Int32) := ⟨_, rfl⟩
  rw [← eS_1] at hW
  replace hp := hp S_1 eS_1
  have hX_S_1 : wX D S S_1 := by rw [eS_1]; exact wX_uI
  have hE := hE.trans hX_S_1
  have hK_a0 : sK S_1 a0 = 17 := (hX_S_1.2 a0 hL_a0).1.trans hK_a0
  have hL_a0 : wM D S_1 a0 := hX_S_1.M hL_a0
  refine lv_iconst (v := 0) hx hb dX12_material_5 (by decide) ?_
  refine lv_istore_n (lv' := [(2, .int (0 : Int32)), (0, .ref a0), (1, .int x1)]) hx hb dX12_material_6 rfl hl (by decide) rfl (fun ls hl => ?_)
  refine lv_iconst (v := 0) hx hb dX12_material_7 (by decide) ?_
  refine lv_istore_n (lv' := [(3, .int (0 : Int32)), (2, .int (0 : Int32)), (0, .ref a0), (1, .int x1)]) hx hb dX12_material_8 rfl hl (by decide) rfl (fun ls hl => ?_)
  obtain ⟨n_2, hp⟩ := hp
  exact t_X12_material_9 F hr hlocks hK n_2 hp hW hE (lv_sub hl [2, 3, 1, 0] rfl) hL_a0 hK_a0
set_option maxHeartbeats 4000000 in
set_option maxRecDepth 100000 in
theorem c_X12_material (l : Launch) {D : wD} {cy : Nat → ClassId} {X : va_W} {S0 : wS} {post : Int32 → wS → Prop} {a0 : Nat} {x1 : Int32} (hL_a0 : wM D S0 a0) (hK_a0 : sK S0 a0 = 17) (hp : wp_X12_material D post S0 a0 x1) : mI D cy X l yX12_material wz_X12_material r_X12_material [.ref a0, .int x1] S0 (fun r S9 => wX D S0 S9 ∧ post r S9) := by
  intro sz
  refine Met.ofW (cc := cX12_material) (maxL := 5) (ret := (some .int)) (by decide) rfl ?_
  intro p e s m args below meth c s₁ B hml hv
  obtain ⟨rfl, hsz, hP, hK, hD0, hRO⟩ := hv
  have hts := atoms_spec (ws := wz_X12_material) B.pre
  have hown : s.vm.findClass RX12 = some m.cls := findClass_of_methodNamed B.named
  subst hsz
  have hD := hD0.self (sz := s.heap.size)
  have F : CallFix p m c cX12_material 5 s _ wz_X12_material RX12 := ⟨B.exec, B.bytes, hml, hown, hts⟩
  have hr := B.returns
  have hlocks := B.notSynchronized
  generalize hAe : va_A (wL cy X S0) s.heap.size = A at hD hK ⊢
  have hA : ∀ q, s.heap.size ≤ q → A q := fun q h => by rw [← hAe]; exact Or.inr h
  have hW : wO D cy X A s.heap S0 s.heap [] := ⟨hP, hD, va_S.rf, hA, hRO⟩
  have hl := lv_entry ([.ref a0, .int x1]) (n := 5) (Nat.le_of_ble_eq_true rfl)
  rw [lg_entry_eq]
  generalize (lg_sl ([.ref a0, .int x1]) ++ List.replicate (5 - (lg_sl ([.ref a0, .int x1])).length) Slot.unset).toArray = ls at hl ⊢
  have hl : lv_has ls 5 [(0, .ref a0), (1, .int x1)] := hl
  unfold wp_X12_material at hp
  exact t_X12_material_0 F hr hlocks hK hp hW wX.rf (lv_sub hl [0, 1] rfl) hL_a0 hK_a0
def wp_X12_meanLength_63 (D : wD) (post : UInt64 → wS → Prop)  (S : wS) (x3 : Int32) (t0 : Int32) : Prop :=
vf_n64 (FP.ddiv (FP.i2d x3) (FP.i2d t0)) ∧
post (FP.ddiv (FP.i2d x3) (FP.i2d t0)) S
def wp_X12_meanLength_28 (D : wD) (post : UInt64 → wS → Prop)  : Nat → wS → Nat → Int32 → Int32 → Int32 → Int32 → Prop
  | 0, _, _, _, _, _, _ => False
  | n + 1, S, a0, x1, x2, x3, x4 =>
    ((x2 ≤ x4 → ((¬ x2 = 0 → wp_X12_meanLength_63 D post S x3 x2) ∧
     (x2 = 0 → wp_X12_meanLength_63 D post S x3 (1 : Int32)))) ∧
     (¬ x2 ≤ x4 → ∃ y_3 : Nat, sR S a0 33 = some y_3 ∧ wM D S y_3 ∧ sK S y_3 = 21 ∧
    wp_X12_slot D (fun r_4 S_5 => 
    vp_in r_4 (sN S_5 y_3) ∧
    ∀ x_7 : Int32, x_7 = (x3 + (sI S_5 y_3 (r_4).toNatClampNeg)) →
    ∀ x_8 : Int32, x_8 = x4 + 1 →
    wp_X12_meanLength_28 D post n S_5 a0 x1 x2 x_7 x_8) S x1 x4))
def wp_X12_meanLength_22 (D : wD) (post : UInt64 → wS → Prop)  (S : wS) (a0 : Nat) (x1 : Int32) (t0 : Int32) : Prop :=
∃ n_1 : Nat, wp_X12_meanLength_28 D post n_1 S a0 x1 t0 (0 : Int32) (0 : Int32)
def wp_X12_meanLength_0 (D : wD) (post : UInt64 → wS → Prop)  (S : wS) (a0 : Nat) (x1 : Int32) : Prop :=
wp_X12_isShelf D (fun r_1 S_2 => 
wp_X12_can D (fun r_3 S_4 => 
((r_3 = 0 → wp_X12_meanLength_22 D post S_4 a0 x1 (0 : Int32)) ∧
 (¬ r_3 = 0 → ∃ y_6 : Nat, sR S_4 a0 30 = some y_6 ∧ wM D S_4 y_6 ∧ sK S_4 y_6 = 21 ∧
vp_in x1 (sN S_4 y_6) ∧
wp_X12_meanLength_22 D post S_4 a0 x1 (sI S_4 y_6 (x1).toNatClampNeg)))) S_2 a0 r_1 (1 : Int32)) S x1
abbrev r_X12_meanLength : Room := { frames := 2, cells := 0, slots := 0, locals := 42 }
def wp_X12_meanLength (D : wD) (post : UInt64 → wS → Prop) (S : wS) (a0 : Nat) (x1 : Int32) : Prop := wp_X12_meanLength_0 D post S a0 x1
set_option maxHeartbeats 4000000 in
set_option maxRecDepth 100000 in
theorem t_X12_meanLength_63 {p : Program} {l : Launch} {e : Env} {s : State} {m : MethodId} {args : Array Value} {below : List Frame} {meth : Method} {c : Code} {D : wD} {cy : Nat → ClassId} {X : va_W} {A : Nat → Prop} {S0 : wS} {post : UInt64 → wS → Prop} (F : CallFix p m c cX12_meanLength 5 s args wz_X12_meanLength RX12) (hr : meth.sig.returnType = (some .double)) (hlocks : meth.locks = false) (hK : wK D cy A s) : ∀ {S : wS} {H : Heap} {locs : List Loc} {ls : Array Slot} {x3 : Int32} {t0 : Int32}, wp_X12_meanLength_63 D post S x3 t0 → wO D cy X A s.heap S H locs → wX D S0 S → lv_has ls 5 [(3, .int x3)] → W p l e r_X12_meanLength s m args below meth c H locs 0 0 (MQ below (va_Qd (fun r S9 => wX D S0 S9 ∧ post r S9) (wB D cy X A) A) args s 0 0 A) (F0 m 63 ls [.int t0]) := by
  obtain ⟨hx, hb, hml, hown, hts⟩ := id F
  have hwg : ∀ w ∈ WG, w.before args s = true := fun w h => hts w (List.mem_cons_of_mem _ h)
  intro S H locs ls x3 t0 hp hW hE hl
  unfold wp_X12_meanLength_63 at hp
  refine lv_istore (lv' := [(4, .int t0), (3, .int x3)]) hx hb dX12_meanLength_63 hl (by decide) rfl (fun ls hl => ?_)
  refine lv_iload_n hx hb dX12_meanLength_65 rfl (lv_at hl 1 rfl) ?_
  refine lv_i2d hx hb dX12_meanLength_66 ?_
  refine lv_iload hx hb dX12_meanLength_67 (lv_at hl 0 rfl) ?_
  refine lv_i2d hx hb dX12_meanLength_69 ?_
  obtain ⟨h_1, hp⟩ := hp
  refine lv_ddiv hx hb dX12_meanLength_70 h_1 ?_
  exact w_dret hx hb hr hlocks hW ⟨hE, hp⟩ dX12_meanLength_71
set_option maxHeartbeats 4000000 in
set_option maxRecDepth 100000 in
theorem t_X12_meanLength_28 {p : Program} {l : Launch} {e : Env} {s : State} {m : MethodId} {args : Array Value} {below : List Frame} {meth : Method} {c : Code} {D : wD} {cy : Nat → ClassId} {X : va_W} {A : Nat → Prop} {S0 : wS} {post : UInt64 → wS → Prop} (F : CallFix p m c cX12_meanLength 5 s args wz_X12_meanLength RX12) (hr : meth.sig.returnType = (some .double)) (hlocks : meth.locks = false) (hK : wK D cy A s) : ∀ (n : Nat) {S : wS} {H : Heap} {locs : List Loc} {ls : Array Slot} {a0 : Nat} {x1 : Int32} {x2 : Int32} {x3 : Int32} {x4 : Int32}, wp_X12_meanLength_28 D post n S a0 x1 x2 x3 x4 → wO D cy X A s.heap S H locs → wX D S0 S → lv_has ls 5 [(0, .ref a0), (1, .int x1), (2, .int x2), (3, .int x3), (4, .int x4)] → wM D S a0 → sK S a0 = 17 → W p l e r_X12_meanLength s m args below meth c H locs 0 0 (MQ below (va_Qd (fun r S9 => wX D S0 S9 ∧ post r S9) (wB D cy X A) A) args s 0 0 A) (F0 m 28 ls []) := by
  obtain ⟨hx, hb, hml, hown, hts⟩ := id F
  have hwg : ∀ w ∈ WG, w.before args s = true := fun w h => hts w (List.mem_cons_of_mem _ h)
  have i_17 : ∀ w ∈ u_ws RX12 TX12 43, w ∈ wz_X12_meanLength := fun w h => List.mem_cons_of_mem _ (wu_17 w h)
  have k_79 := hwg _ wf_RX12_79
  intro n
  induction n with
  | zero =>
    intro S H locs ls a0 x1 x2 x3 x4 hp
    exact hp.elim
  | succ n ih =>
    intro S H locs ls a0 x1 x2 x3 x4 hp hW hE hl hL_a0 hK_a0
    unfold wp_X12_meanLength_28 at hp
    refine lv_iload hx hb dX12_meanLength_28 (lv_at hl 4 rfl) ?_
    refine lv_iload_n hx hb dX12_meanLength_30 rfl (lv_at hl 2 rfl) ?_
    refine lv_icmp_ge (tgt := 54) hx hb dX12_meanLength_31 (by decide) (fun c_1 => ?_) (fun c_1 => ?_)
    · replace hp := hp.1 c_1
      refine lv_iload_n hx hb dX12_meanLength_54 rfl (lv_at hl 2 rfl) ?_
      refine lv_if_ne (tgt := 62) hx hb dX12_meanLength_55 (by decide) (fun c_2 => ?_) (fun c_2 => ?_)
      · replace hp := hp.1 c_2
        refine lv_iload_n hx hb dX12_meanLength_62 rfl (lv_at hl 2 rfl) ?_
        exact t_X12_meanLength_63 F hr hlocks hK hp hW hE (lv_sub hl [3] rfl)
      · replace hp := hp.2 c_2
        refine lv_iconst (v := 1) hx hb dX12_meanLength_58 (by decide) ?_
        refine lv_goto (tgt := 63) hx hb dX12_meanLength_59 (by decide) ?_
        exact t_X12_meanLength_63 F hr hlocks hK hp hW hE (lv_sub hl [3] rfl)
    · replace hp := hp.2 c_1
      refine lv_iload_n hx hb dX12_meanLength_34 rfl (lv_at hl 3 rfl) ?_
      refine lv_aload_n hx hb dX12_meanLength_35 rfl (lv_at hl 0 rfl) ?_
      obtain ⟨y_3, ey_3, hL_y_3, hK_y_3, hp⟩ := hp
      refine w_get (k := 17) (f := 33) (T := TX12) (v := .ref y_3) F hK hW hL_a0 hK_a0 (by decide) rfl rfl (by decide) i_17 k_79 (by rw [show wv 17 33 S a0 = va_rf (sR S a0 33) from rfl, ey_3]; rfl) dX12_meanLength_36 ?_
      refine lv_iload_n hx hb dX12_meanLength_39 rfl (lv_at hl 1 rfl) ?_
      refine lv_iload hx hb dX12_meanLength_40 (lv_at hl 4 rfl) ?_
      refine w_callI (va_runS (As := [.int x1, .int x4]) (rest := [.ref y_3, .int x3]) F (c_X12_slot l hp H.size) (va_cwS 2 hts (wg_S wm_RX12_400 wy_X12_slot) rfl rfl rfl (by decide +kernel) ⟨Nat.le_of_ble_eq_true rfl, Nat.le_of_ble_eq_true rfl⟩) (w_preS hK hW) rfl rfl hl.1 rfl (lv_room (Nat.le_of_ble_eq_true rfl)) dX12_meanLength_42 ⟨Nat.le_of_ble_eq_true rfl, Nat.le_of_ble_eq_true rfl⟩) hW (fun r_4 S_5 H locs hp hW => ?_)
      obtain ⟨hX_S_5, hp⟩ := hp
      refine W.widen (k := 0) (n := 0) (by decide) (by decide) ?_
      have hE := hE.trans hX_S_5
      have hK_a0 : sK S_5 a0 = 17 := (hX_S_5.2 a0 hL_a0).1.trans hK_a0
      have hL_a0 : wM D S_5 a0 := hX_S_5.M hL_a0
      have hK_y_3 : sK S_5 y_3 = 21 := (hX_S_5.2 y_3 hL_y_3).1.trans hK_y_3
      have hL_y_3 : wM D S_5 y_3 := hX_S_5.M hL_y_3
      obtain ⟨h_6, hp⟩ := hp
      refine w_ild F hK hW hL_y_3 hK_y_3 h_6 dX12_meanLength_45 ?_
      refine lv_iadd hx hb dX12_meanLength_46 ?_
      refine lv_topi (fun x_7 ex_7 => ?_)
      replace hp := hp x_7 ex_7
      refine lv_istore_n (lv' := [(3, .int x_7), (0, .ref a0), (1, .int x1), (2, .int x2), (4, .int x4)]) hx hb dX12_meanLength_47 rfl hl (by decide) rfl (fun ls hl => ?_)
      obtain ⟨x_8, ex_8⟩ : ∃ z : Int32, z = x4 + 1 := ⟨_, rfl⟩
      replace hp := hp x_8 ex_8
      refine lv_iinc (v := x_8) (lv' := [(4, .int x_8), (3, .int x_7), (0, .ref a0), (1, .int x1), (2, .int x2)]) hx hb dX12_meanLength_48 hl (k := 4) rfl (by rw [ex_8]; rfl) (by decide) rfl (fun ls hl => ?_)
      refine lv_goto (tgt := 28) hx hb dX12_meanLength_51 (by decide) ?_
      exact ih hp hW hE (lv_sub hl [2, 3, 4, 1, 0] rfl) hL_a0 hK_a0
set_option maxHeartbeats 4000000 in
set_option maxRecDepth 100000 in
theorem t_X12_meanLength_22 {p : Program} {l : Launch} {e : Env} {s : State} {m : MethodId} {args : Array Value} {below : List Frame} {meth : Method} {c : Code} {D : wD} {cy : Nat → ClassId} {X : va_W} {A : Nat → Prop} {S0 : wS} {post : UInt64 → wS → Prop} (F : CallFix p m c cX12_meanLength 5 s args wz_X12_meanLength RX12) (hr : meth.sig.returnType = (some .double)) (hlocks : meth.locks = false) (hK : wK D cy A s) : ∀ {S : wS} {H : Heap} {locs : List Loc} {ls : Array Slot} {a0 : Nat} {x1 : Int32} {t0 : Int32}, wp_X12_meanLength_22 D post S a0 x1 t0 → wO D cy X A s.heap S H locs → wX D S0 S → lv_has ls 5 [(0, .ref a0), (1, .int x1)] → wM D S a0 → sK S a0 = 17 → W p l e r_X12_meanLength s m args below meth c H locs 0 0 (MQ below (va_Qd (fun r S9 => wX D S0 S9 ∧ post r S9) (wB D cy X A) A) args s 0 0 A) (F0 m 22 ls [.int t0]) := by
  obtain ⟨hx, hb, hml, hown, hts⟩ := id F
  have hwg : ∀ w ∈ WG, w.before args s = true := fun w h => hts w (List.mem_cons_of_mem _ h)
  intro S H locs ls a0 x1 t0 hp hW hE hl hL_a0 hK_a0
  unfold wp_X12_meanLength_22 at hp
  refine lv_istore_n (lv' := [(2, .int t0), (0, .ref a0), (1, .int x1)]) hx hb dX12_meanLength_22 rfl hl (by decide) rfl (fun ls hl => ?_)
  refine lv_iconst (v := 0) hx hb dX12_meanLength_23 (by decide) ?_
  refine lv_istore_n (lv' := [(3, .int (0 : Int32)), (2, .int t0), (0, .ref a0), (1, .int x1)]) hx hb dX12_meanLength_24 rfl hl (by decide) rfl (fun ls hl => ?_)
  refine lv_iconst (v := 0) hx hb dX12_meanLength_25 (by decide) ?_
  refine lv_istore (lv' := [(4, .int (0 : Int32)), (3, .int (0 : Int32)), (2, .int t0), (0, .ref a0), (1, .int x1)]) hx hb dX12_meanLength_26 hl (by decide) rfl (fun ls hl => ?_)
  obtain ⟨n_1, hp⟩ := hp
  exact t_X12_meanLength_28 F hr hlocks hK n_1 hp hW hE (lv_sub hl [3, 4, 2, 1, 0] rfl) hL_a0 hK_a0
set_option maxHeartbeats 4000000 in
set_option maxRecDepth 100000 in
theorem t_X12_meanLength_0 {p : Program} {l : Launch} {e : Env} {s : State} {m : MethodId} {args : Array Value} {below : List Frame} {meth : Method} {c : Code} {D : wD} {cy : Nat → ClassId} {X : va_W} {A : Nat → Prop} {S0 : wS} {post : UInt64 → wS → Prop} (F : CallFix p m c cX12_meanLength 5 s args wz_X12_meanLength RX12) (hr : meth.sig.returnType = (some .double)) (hlocks : meth.locks = false) (hK : wK D cy A s) : ∀ {S : wS} {H : Heap} {locs : List Loc} {ls : Array Slot} {a0 : Nat} {x1 : Int32}, wp_X12_meanLength_0 D post S a0 x1 → wO D cy X A s.heap S H locs → wX D S0 S → lv_has ls 5 [(0, .ref a0), (1, .int x1)] → wM D S a0 → sK S a0 = 17 → W p l e r_X12_meanLength s m args below meth c H locs 0 0 (MQ below (va_Qd (fun r S9 => wX D S0 S9 ∧ post r S9) (wB D cy X A) A) args s 0 0 A) (F0 m 0 ls []) := by
  obtain ⟨hx, hb, hml, hown, hts⟩ := id F
  have hwg : ∀ w ∈ WG, w.before args s = true := fun w h => hts w (List.mem_cons_of_mem _ h)
  have i_17 : ∀ w ∈ u_ws RX12 TX12 43, w ∈ wz_X12_meanLength := fun w h => List.mem_cons_of_mem _ (wu_17 w h)
  have k_69 := hwg _ wf_RX12_69
  intro S H locs ls a0 x1 hp hW hE hl hL_a0 hK_a0
  unfold wp_X12_meanLength_0 at hp
  refine lv_aload_n hx hb dX12_meanLength_0 rfl (lv_at hl 0 rfl) ?_
  refine lv_iload_n hx hb dX12_meanLength_1 rfl (lv_at hl 1 rfl) ?_
  refine w_callI (va_runS (As := [.int x1]) (rest := [.ref a0]) F (c_X12_isShelf l hp H.size) (va_cwS 1 hts (wg_S wm_RX12_397 wy_X12_isShelf) rfl rfl rfl (by decide +kernel) ⟨Nat.le_of_ble_eq_true rfl, Nat.le_of_ble_eq_true rfl⟩) (w_preS hK hW) rfl rfl hl.1 rfl (lv_room (Nat.le_of_ble_eq_true rfl)) dX12_meanLength_2 ⟨Nat.le_of_ble_eq_true rfl, Nat.le_of_ble_eq_true rfl⟩) hW (fun r_1 S_2 H locs hp hW => ?_)
  obtain ⟨hX_S_2, hp⟩ := hp
  refine W.widen (k := 0) (n := 0) (by decide) (by decide) ?_
  have hE := hE.trans hX_S_2
  have hK_a0 : sK S_2 a0 = 17 := (hX_S_2.2 a0 hL_a0).1.trans hK_a0
  have hL_a0 : wM D S_2 a0 := hX_S_2.M hL_a0
  refine lv_iconst (v := 1) hx hb dX12_meanLength_5 (by decide) ?_
  refine w_callI (va_runV (As := [.int r_1, .int (1 : Int32)]) (rest := []) F (c_X12_can l hL_a0 hK_a0 hp H.size) (cwV (C := RX12) 2 hts (wg_V wm_RX12_237 wy_X12_can) rfl rfl rfl (by decide +kernel) ⟨Nat.le_of_ble_eq_true rfl, Nat.le_of_ble_eq_true rfl⟩) (w_preV hK hW hL_a0 hK_a0 (by decide) rfl) rfl rfl hl.1 rfl (lv_room (Nat.le_of_ble_eq_true rfl)) dX12_meanLength_6 ⟨Nat.le_of_ble_eq_true rfl, Nat.le_of_ble_eq_true rfl⟩) hW (fun r_3 S_4 H locs hp hW => ?_)
  obtain ⟨hX_S_4, hp⟩ := hp
  refine W.widen (k := 0) (n := 0) (by decide) (by decide) ?_
  have hE := hE.trans hX_S_4
  have hK_a0 : sK S_4 a0 = 17 := (hX_S_4.2 a0 hL_a0).1.trans hK_a0
  have hL_a0 : wM D S_4 a0 := hX_S_4.M hL_a0
  refine lv_if_eq (tgt := 21) hx hb dX12_meanLength_9 (by decide) (fun c_5 => ?_) (fun c_5 => ?_)
  · replace hp := hp.1 c_5
    refine lv_iconst (v := 0) hx hb dX12_meanLength_21 (by decide) ?_
    exact t_X12_meanLength_22 F hr hlocks hK hp hW hE (lv_sub hl [0, 1] rfl) hL_a0 hK_a0
  · replace hp := hp.2 c_5
    refine lv_aload_n hx hb dX12_meanLength_12 rfl (lv_at hl 0 rfl) ?_
    obtain ⟨y_6, ey_6, hL_y_6, hK_y_6, hp⟩ := hp
    refine w_get (k := 17) (f := 30) (T := TX12) (v := .ref y_6) F hK hW hL_a0 hK_a0 (by decide) rfl rfl (by decide) i_17 k_69 (by rw [show wv 17 30 S_4 a0 = va_rf (sR S_4 a0 30) from rfl, ey_6]; rfl) dX12_meanLength_13 ?_
    refine lv_iload_n hx hb dX12_meanLength_16 rfl (lv_at hl 1 rfl) ?_
    obtain ⟨h_7, hp⟩ := hp
    refine w_ild F hK hW hL_y_6 hK_y_6 h_7 dX12_meanLength_17 ?_
    refine lv_goto (tgt := 22) hx hb dX12_meanLength_18 (by decide) ?_
    exact t_X12_meanLength_22 F hr hlocks hK hp hW hE (lv_sub hl [0, 1] rfl) hL_a0 hK_a0
set_option maxHeartbeats 4000000 in
set_option maxRecDepth 100000 in
theorem c_X12_meanLength (l : Launch) {D : wD} {cy : Nat → ClassId} {X : va_W} {S0 : wS} {post : UInt64 → wS → Prop} {a0 : Nat} {x1 : Int32} (hL_a0 : wM D S0 a0) (hK_a0 : sK S0 a0 = 17) (hp : wp_X12_meanLength D post S0 a0 x1) : mD D cy X l yX12_meanLength wz_X12_meanLength r_X12_meanLength [.ref a0, .int x1] S0 (fun r S9 => wX D S0 S9 ∧ post r S9) := by
  intro sz
  refine Met.ofW (cc := cX12_meanLength) (maxL := 5) (ret := (some .double)) (by decide) rfl ?_
  intro p e s m args below meth c s₁ B hml hv
  obtain ⟨rfl, hsz, hP, hK, hD0, hRO⟩ := hv
  have hts := atoms_spec (ws := wz_X12_meanLength) B.pre
  have hown : s.vm.findClass RX12 = some m.cls := findClass_of_methodNamed B.named
  subst hsz
  have hD := hD0.self (sz := s.heap.size)
  have F : CallFix p m c cX12_meanLength 5 s _ wz_X12_meanLength RX12 := ⟨B.exec, B.bytes, hml, hown, hts⟩
  have hr := B.returns
  have hlocks := B.notSynchronized
  generalize hAe : va_A (wL cy X S0) s.heap.size = A at hD hK ⊢
  have hA : ∀ q, s.heap.size ≤ q → A q := fun q h => by rw [← hAe]; exact Or.inr h
  have hW : wO D cy X A s.heap S0 s.heap [] := ⟨hP, hD, va_S.rf, hA, hRO⟩
  have hl := lv_entry ([.ref a0, .int x1]) (n := 5) (Nat.le_of_ble_eq_true rfl)
  rw [lg_entry_eq]
  generalize (lg_sl ([.ref a0, .int x1]) ++ List.replicate (5 - (lg_sl ([.ref a0, .int x1])).length) Slot.unset).toArray = ls at hl ⊢
  have hl : lv_has ls 5 [(0, .ref a0), (1, .int x1)] := hl
  unfold wp_X12_meanLength at hp
  exact t_X12_meanLength_0 F hr hlocks hK hp hW wX.rf (lv_sub hl [0, 1] rfl) hL_a0 hK_a0
def wp_X12_meanStrength_121 (D : wD) (post : Int32 → wS → Prop)  (S : wS) (t0 : Int32) : Prop :=
post t0 S
def wp_X12_meanStrength_88 (D : wD) (post : Int32 → wS → Prop) (k_50 : wS → Nat → Int32 → Int32 → Int32 → Int32 → Int32 → Prop) (S : wS) (a0 : Nat) (x1 : Int32) (x2 : Int32) (x3 : Int32) (x5 : Int32) (t0 : Int32) (t1 : Int32) : Prop :=
∀ x_1 : Int32, x_1 = (t0 + t1) →
∀ x_2 : Int32, x_2 = x5 + 1 →
k_50 S a0 x1 x2 x3 x_1 x_2
def wp_X12_meanStrength_50 (D : wD) (post : Int32 → wS → Prop)  : Nat → wS → Nat → Int32 → Int32 → Int32 → Int32 → Int32 → Prop
  | 0, _, _, _, _, _, _, _ => False
  | n + 1, S, a0, x1, x2, x3, x4, x5 =>
    ∃ y_1 : Nat, sR S a0 30 = some y_1 ∧ wM D S y_1 ∧ sK S y_1 = 21 ∧
    vp_in x1 (sN S y_1) ∧
    (((sI S y_1 (x1).toNatClampNeg) ≤ x5 → wp_X12_common D (fun r_4 S_5 => 
    ((x2 = 0 → ¬ r_4 = 0 ∧
    wp_X12_meanStrength_121 D post S_5 (x4 / r_4)) ∧
     (¬ x2 = 0 → ¬ r_4 = 0 ∧
    wp_X12_meanStrength_121 D post S_5 (x3 / r_4)))) S x4 x3) ∧
     (¬ (sI S y_1 (x1).toNatClampNeg) ≤ x5 → wp_X12_passesHere D (fun r_9 S_10 => 
    ((r_9 = 0 → wp_X12_meanStrength_88 D post (wp_X12_meanStrength_50 D post n) S_10 a0 x1 x2 x3 x5 x4 (0 : Int32)) ∧
     (¬ r_9 = 0 → ∃ y_12 : Nat, sR S_10 a0 36 = some y_12 ∧ wM D S_10 y_12 ∧ sK S_10 y_12 = 21 ∧
    wp_X12_slot D (fun r_13 S_14 => 
    vp_in r_13 (sN S_14 y_12) ∧
    wp_X12_meanStrength_88 D post (wp_X12_meanStrength_50 D post n) S_14 a0 x1 x2 x3 x5 x4 (sI S_14 y_12 (r_13).toNatClampNeg)) S_10 x1 x5))) S a0 x1 x5))
def wp_X12_meanStrength_35 (D : wD) (post : Int32 → wS → Prop)  (S : wS) (a0 : Nat) (x1 : Int32) (x2 : Int32) (x3 : Int32) (b0 : Nat) (t1 : Int32) : Prop :=
wp_X12_can D (fun r_1 S_2 => 
((¬ r_1 = 0 → ∃ n_4 : Nat, wp_X12_meanStrength_50 D post n_4 S_2 a0 x1 x2 x3 (0 : Int32) (0 : Int32)) ∧
 (r_1 = 0 → post (0 : Int32) S_2))) S b0 t1 (2 : Int32)
def wp_X12_meanStrength_0 (D : wD) (post : Int32 → wS → Prop)  (S : wS) (a0 : Nat) (x1 : Int32) (x2 : Int32) : Prop :=
wp_X12_isShelf D (fun r_1 S_2 => 
wp_X12_can D (fun r_3 S_4 => 
((¬ r_3 = 0 → wp_X12_gamesHere D (fun r_6 S_7 => 
((r_6 ≤ 0 → wp_X12_meanStrength_35 D post S_7 a0 x1 x2 r_6 a0 (0 : Int32)) ∧
 (¬ r_6 ≤ 0 → wp_X12_meanStrength_35 D post S_7 a0 x1 x2 r_6 a0 (1 : Int32)))) S_4 a0 x1 (-1 : Int32) (0 : Int32) (9999 : Int32)) ∧
 (r_3 = 0 → post (0 : Int32) S_4))) S_2 a0 r_1 (1 : Int32)) S x1
abbrev r_X12_meanStrength : Room := { frames := 4, cells := 0, slots := 0, locals := 98 }
def wp_X12_meanStrength (D : wD) (post : Int32 → wS → Prop) (S : wS) (a0 : Nat) (x1 : Int32) (x2 : Int32) : Prop := wp_X12_meanStrength_0 D post S a0 x1 x2
set_option maxHeartbeats 4000000 in
set_option maxRecDepth 100000 in
theorem t_X12_meanStrength_121 {p : Program} {l : Launch} {e : Env} {s : State} {m : MethodId} {args : Array Value} {below : List Frame} {meth : Method} {c : Code} {D : wD} {cy : Nat → ClassId} {X : va_W} {A : Nat → Prop} {S0 : wS} {post : Int32 → wS → Prop} (F : CallFix p m c cX12_meanStrength 6 s args wz_X12_meanStrength RX12) (hr : meth.sig.returnType = (some .int)) (hlocks : meth.locks = false) (hK : wK D cy A s) : ∀ {S : wS} {H : Heap} {locs : List Loc} {ls : Array Slot} {t0 : Int32}, wp_X12_meanStrength_121 D post S t0 → wO D cy X A s.heap S H locs → wX D S0 S → lv_has ls 6 [] → W p l e r_X12_meanStrength s m args below meth c H locs 0 0 (MQ below (va_Qi (fun r S9 => wX D S0 S9 ∧ post r S9) (wB D cy X A) A) args s 0 0 A) (F0 m 121 ls [.int t0]) := by
  obtain ⟨hx, hb, hml, hown, hts⟩ := id F
  have hwg : ∀ w ∈ WG, w.before args s = true := fun w h => hts w (List.mem_cons_of_mem _ h)
  intro S H locs ls t0 hp hW hE hl
  unfold wp_X12_meanStrength_121 at hp
  exact w_iret hx hb hr hlocks hW ⟨hE, hp⟩ dX12_meanStrength_121
set_option maxHeartbeats 4000000 in
set_option maxRecDepth 100000 in
theorem t_X12_meanStrength_88 {p : Program} {l : Launch} {e : Env} {s : State} {m : MethodId} {args : Array Value} {below : List Frame} {meth : Method} {c : Code} {D : wD} {cy : Nat → ClassId} {X : va_W} {A : Nat → Prop} {S0 : wS} {post : Int32 → wS → Prop} (F : CallFix p m c cX12_meanStrength 6 s args wz_X12_meanStrength RX12) (hr : meth.sig.returnType = (some .int)) (hlocks : meth.locks = false) (hK : wK D cy A s) {k_50 : wS → Nat → Int32 → Int32 → Int32 → Int32 → Int32 → Prop} (q_50 : ∀ {S : wS} {H : Heap} {locs : List Loc} {ls : Array Slot} {a0 : Nat} {x1 : Int32} {x2 : Int32} {x3 : Int32} {x4 : Int32} {x5 : Int32}, k_50 S a0 x1 x2 x3 x4 x5 → wO D cy X A s.heap S H locs → wX D S0 S → lv_has ls 6 [(0, .ref a0), (1, .int x1), (2, .int x2), (3, .int x3), (4, .int x4), (5, .int x5)] → wM D S a0 → sK S a0 = 17 → W p l e r_X12_meanStrength s m args below meth c H locs 0 0 (MQ below (va_Qi (fun r S9 => wX D S0 S9 ∧ post r S9) (wB D cy X A) A) args s 0 0 A) (F0 m 50 ls [])) : ∀ {S : wS} {H : Heap} {locs : List Loc} {ls : Array Slot} {a0 : Nat} {x1 : Int32} {x2 : Int32} {x3 : Int32} {x5 : Int32} {t0 : Int32} {t1 : Int32}, wp_X12_meanStrength_88 D post k_50 S a0 x1 x2 x3 x5 t0 t1 → wO D cy X A s.heap S H locs → wX D S0 S → lv_has ls 6 [(0, .ref a0), (1, .int x1), (2, .int x2), (3, .int x3), (5, .int x5)] → wM D S a0 → sK S a0 = 17 → W p l e r_X12_meanStrength s m args below meth c H locs 0 0 (MQ below (va_Qi (fun r S9 => wX D S0 S9 ∧ post r S9) (wB D cy X A) A) args s 0 0 A) (F0 m 88 ls [.int t1, .int t0]) := by
  obtain ⟨hx, hb, hml, hown, hts⟩ := id F
  have hwg : ∀ w ∈ WG, w.before args s = true := fun w h => hts w (List.mem_cons_of_mem _ h)
  intro S H locs ls a0 x1 x2 x3 x5 t0 t1 hp hW hE hl hL_a0 hK_a0
  unfold wp_X12_meanStrength_88 at hp
  refine lv_iadd hx hb dX12_meanStrength_88 ?_
  refine lv_topi (fun x_1 ex_1 => ?_)
  replace hp := hp x_1 ex_1
  refine lv_istore (lv' := [(4, .int x_1), (0, .ref a0), (1, .int x1), (2, .int x2), (3, .int x3), (5, .int x5)]) hx hb dX12_meanStrength_89 hl (by decide) rfl (fun ls hl => ?_)
  obtain ⟨x_2, ex_2⟩ : ∃ z : Int32, z = x5 + 1 := ⟨_, rfl⟩
  replace hp := hp x_2 ex_2
  refine lv_iinc (v := x_2) (lv' := [(5, .int x_2), (4, .int x_1), (0, .ref a0), (1, .int x1), (2, .int x2), (3, .int x3)]) hx hb dX12_meanStrength_91 hl (k := 5) rfl (by rw [ex_2]; rfl) (by decide) rfl (fun ls hl => ?_)
  refine lv_goto (tgt := 50) hx hb dX12_meanStrength_94 (by decide) ?_
  exact q_50 hp hW hE (lv_sub hl [2, 3, 4, 5, 1, 0] rfl) hL_a0 hK_a0
set_option maxHeartbeats 4000000 in
set_option maxRecDepth 100000 in
theorem t_X12_meanStrength_50 {p : Program} {l : Launch} {e : Env} {s : State} {m : MethodId} {args : Array Value} {below : List Frame} {meth : Method} {c : Code} {D : wD} {cy : Nat → ClassId} {X : va_W} {A : Nat → Prop} {S0 : wS} {post : Int32 → wS → Prop} (F : CallFix p m c cX12_meanStrength 6 s args wz_X12_meanStrength RX12) (hr : meth.sig.returnType = (some .int)) (hlocks : meth.locks = false) (hK : wK D cy A s) : ∀ (n : Nat) {S : wS} {H : Heap} {locs : List Loc} {ls : Array Slot} {a0 : Nat} {x1 : Int32} {x2 : Int32} {x3 : Int32} {x4 : Int32} {x5 : Int32}, wp_X12_meanStrength_50 D post n S a0 x1 x2 x3 x4 x5 → wO D cy X A s.heap S H locs → wX D S0 S → lv_has ls 6 [(0, .ref a0), (1, .int x1), (2, .int x2), (3, .int x3), (4, .int x4), (5, .int x5)] → wM D S a0 → sK S a0 = 17 → W p l e r_X12_meanStrength s m args below meth c H locs 0 0 (MQ below (va_Qi (fun r S9 => wX D S0 S9 ∧ post r S9) (wB D cy X A) A) args s 0 0 A) (F0 m 50 ls []) := by
  obtain ⟨hx, hb, hml, hown, hts⟩ := id F
  have hwg : ∀ w ∈ WG, w.before args s = true := fun w h => hts w (List.mem_cons_of_mem _ h)
  have i_17 : ∀ w ∈ u_ws RX12 TX12 43, w ∈ wz_X12_meanStrength := fun w h => List.mem_cons_of_mem _ (wu_17 w h)
  have k_69 := hwg _ wf_RX12_69
  have k_88 := hwg _ wf_RX12_88
  intro n
  induction n with
  | zero =>
    intro S H locs ls a0 x1 x2 x3 x4 x5 hp
    exact hp.elim
  | succ n ih =>
    intro S H locs ls a0 x1 x2 x3 x4 x5 hp hW hE hl hL_a0 hK_a0
    unfold wp_X12_meanStrength_50 at hp
    refine lv_iload hx hb dX12_meanStrength_50 (lv_at hl 5 rfl) ?_
    refine lv_aload_n hx hb dX12_meanStrength_52 rfl (lv_at hl 0 rfl) ?_
    obtain ⟨y_1, ey_1, hL_y_1, hK_y_1, hp⟩ := hp
    refine w_get (k := 17) (f := 30) (T := TX12) (v := .ref y_1) F hK hW hL_a0 hK_a0 (by decide) rfl rfl (by decide) i_17 k_69 (by rw [show wv 17 30 S a0 = va_rf (sR S a0 30) from rfl, ey_1]; rfl) dX12_meanStrength_53 ?_
    refine lv_iload_n hx hb dX12_meanStrength_56 rfl (lv_at hl 1 rfl) ?_
    obtain ⟨h_2, hp⟩ := hp
    refine w_ild F hK hW hL_y_1 hK_y_1 h_2 dX12_meanStrength_57 ?_
    refine lv_icmp_ge (tgt := 97) hx hb dX12_meanStrength_58 (by decide) (fun c_3 => ?_) (fun c_3 => ?_)
    · replace hp := hp.1 c_3
      refine lv_iload hx hb dX12_meanStrength_97 (lv_at hl 4 rfl) ?_
      refine lv_iload_n hx hb dX12_meanStrength_99 rfl (lv_at hl 3 rfl) ?_
      refine w_callI (va_runS (As := [.int x4, .int x3]) (rest := []) F (c_X12_common l hp H.size) (va_cwS 2 hts (wg_S wm_RX12_431 wy_X12_common) rfl rfl rfl (by decide +kernel) ⟨Nat.le_of_ble_eq_true rfl, Nat.le_of_ble_eq_true rfl⟩) (w_preS hK hW) rfl rfl hl.1 rfl (lv_room (Nat.le_of_ble_eq_true rfl)) dX12_meanStrength_100 ⟨Nat.le_of_ble_eq_true rfl, Nat.le_of_ble_eq_true rfl⟩) hW (fun r_4 S_5 H locs hp hW => ?_)
      obtain ⟨hX_S_5, hp⟩ := hp
      refine W.widen (k := 0) (n := 0) (by decide) (by decide) ?_
      have hE := hE.trans hX_S_5
      have hK_a0 : sK S_5 a0 = 17 := (hX_S_5.2 a0 hL_a0).1.trans hK_a0
      have hL_a0 : wM D S_5 a0 := hX_S_5.M hL_a0
      refine lv_istore (lv' := [(5, .int r_4), (0, .ref a0), (1, .int x1), (2, .int x2), (3, .int x3), (4, .int x4)]) hx hb dX12_meanStrength_103 hl (by decide) rfl (fun ls hl => ?_)
      refine lv_iload_n hx hb dX12_meanStrength_105 rfl (lv_at hl 3 rfl) ?_
      refine lv_if_eq (tgt := 116) hx hb dX12_meanStrength_106 (by decide) (fun c_6 => ?_) (fun c_6 => ?_)
      · replace hp := hp.1 c_6
        refine lv_iload hx hb dX12_meanStrength_116 (lv_at hl 5 rfl) ?_
        refine lv_iload hx hb dX12_meanStrength_118 (lv_at hl 0 rfl) ?_
        obtain ⟨h_7, hp⟩ := hp
        refine lv_idiv hx hb dX12_meanStrength_120 h_7 ?_
        exact t_X12_meanStrength_121 F hr hlocks hK hp hW hE (lv_sub hl [] rfl)
      · replace hp := hp.2 c_6
        refine lv_iload_n hx hb dX12_meanStrength_109 rfl (lv_at hl 4 rfl) ?_
        refine lv_iload hx hb dX12_meanStrength_110 (lv_at hl 0 rfl) ?_
        obtain ⟨h_8, hp⟩ := hp
        refine lv_idiv hx hb dX12_meanStrength_112 h_8 ?_
        refine lv_goto (tgt := 121) hx hb dX12_meanStrength_113 (by decide) ?_
        exact t_X12_meanStrength_121 F hr hlocks hK hp hW hE (lv_sub hl [] rfl)
    · replace hp := hp.2 c_3
      refine lv_iload hx hb dX12_meanStrength_61 (lv_at hl 4 rfl) ?_
      refine lv_aload_n hx hb dX12_meanStrength_63 rfl (lv_at hl 0 rfl) ?_
      refine lv_iload_n hx hb dX12_meanStrength_64 rfl (lv_at hl 1 rfl) ?_
      refine lv_iload hx hb dX12_meanStrength_65 (lv_at hl 5 rfl) ?_
      refine w_callI (va_runV (As := [.int x1, .int x5]) (rest := [.int x4]) F (c_X12_passesHere l hL_a0 hK_a0 hp H.size) (cwV (C := RX12) 2 hts (wg_V wm_RX12_424 wy_X12_passesHere) rfl rfl rfl (by decide +kernel) ⟨Nat.le_of_ble_eq_true rfl, Nat.le_of_ble_eq_true rfl⟩) (w_preV hK hW hL_a0 hK_a0 (by decide) rfl) rfl rfl hl.1 rfl (lv_room (Nat.le_of_ble_eq_true rfl)) dX12_meanStrength_67 ⟨Nat.le_of_ble_eq_true rfl, Nat.le_of_ble_eq_true rfl⟩) hW (fun r_9 S_10 H locs hp hW => ?_)
      obtain ⟨hX_S_10, hp⟩ := hp
      refine W.widen (k := 0) (n := 0) (by decide) (by decide) ?_
      have hE := hE.trans hX_S_10
      have hK_a0 : sK S_10 a0 = 17 := (hX_S_10.2 a0 hL_a0).1.trans hK_a0
      have hL_a0 : wM D S_10 a0 := hX_S_10.M hL_a0
      refine lv_if_eq (tgt := 87) hx hb dX12_meanStrength_70 (by decide) (fun c_11 => ?_) (fun c_11 => ?_)
      · replace hp := hp.1 c_11
        refine lv_iconst (v := 0) hx hb dX12_meanStrength_87 (by decide) ?_
        exact t_X12_meanStrength_88 F hr hlocks hK ih hp hW hE (lv_sub hl [0, 1, 2, 3, 5] rfl) hL_a0 hK_a0
      · replace hp := hp.2 c_11
        refine lv_aload_n hx hb dX12_meanStrength_73 rfl (lv_at hl 0 rfl) ?_
        obtain ⟨y_12, ey_12, hL_y_12, hK_y_12, hp⟩ := hp
        refine w_get (k := 17) (f := 36) (T := TX12) (v := .ref y_12) F hK hW hL_a0 hK_a0 (by decide) rfl rfl (by decide) i_17 k_88 (by rw [show wv 17 36 S_10 a0 = va_rf (sR S_10 a0 36) from rfl, ey_12]; rfl) dX12_meanStrength_74 ?_
        refine lv_iload_n hx hb dX12_meanStrength_77 rfl (lv_at hl 1 rfl) ?_
        refine lv_iload hx hb dX12_meanStrength_78 (lv_at hl 5 rfl) ?_
        refine w_callI (va_runS (As := [.int x1, .int x5]) (rest := [.ref y_12, .int x4]) F (c_X12_slot l hp H.size) (va_cwS 2 hts (wg_S wm_RX12_400 wy_X12_slot) rfl rfl rfl (by decide +kernel) ⟨Nat.le_of_ble_eq_true rfl, Nat.le_of_ble_eq_true rfl⟩) (w_preS hK hW) rfl rfl hl.1 rfl (lv_room (Nat.le_of_ble_eq_true rfl)) dX12_meanStrength_80 ⟨Nat.le_of_ble_eq_true rfl, Nat.le_of_ble_eq_true rfl⟩) hW (fun r_13 S_14 H locs hp hW => ?_)
        obtain ⟨hX_S_14, hp⟩ := hp
        refine W.widen (k := 0) (n := 0) (by decide) (by decide) ?_
        have hE := hE.trans hX_S_14
        have hK_a0 : sK S_14 a0 = 17 := (hX_S_14.2 a0 hL_a0).1.trans hK_a0
        have hL_a0 : wM D S_14 a0 := hX_S_14.M hL_a0
        have hK_y_12 : sK S_14 y_12 = 21 := (hX_S_14.2 y_12 hL_y_12).1.trans hK_y_12
        have hL_y_12 : wM D S_14 y_12 := hX_S_14.M hL_y_12
        obtain ⟨h_15, hp⟩ := hp
        refine w_ild F hK hW hL_y_12 hK_y_12 h_15 dX12_meanStrength_83 ?_
        refine lv_goto (tgt := 88) hx hb dX12_meanStrength_84 (by decide) ?_
        exact t_X12_meanStrength_88 F hr hlocks hK ih hp hW hE (lv_sub hl [0, 1, 2, 3, 5] rfl) hL_a0 hK_a0
set_option maxHeartbeats 4000000 in
set_option maxRecDepth 100000 in
theorem t_X12_meanStrength_35 {p : Program} {l : Launch} {e : Env} {s : State} {m : MethodId} {args : Array Value} {below : List Frame} {meth : Method} {c : Code} {D : wD} {cy : Nat → ClassId} {X : va_W} {A : Nat → Prop} {S0 : wS} {post : Int32 → wS → Prop} (F : CallFix p m c cX12_meanStrength 6 s args wz_X12_meanStrength RX12) (hr : meth.sig.returnType = (some .int)) (hlocks : meth.locks = false) (hK : wK D cy A s) : ∀ {S : wS} {H : Heap} {locs : List Loc} {ls : Array Slot} {a0 : Nat} {x1 : Int32} {x2 : Int32} {x3 : Int32} {b0 : Nat} {t1 : Int32}, wp_X12_meanStrength_35 D post S a0 x1 x2 x3 b0 t1 → wO D cy X A s.heap S H locs → wX D S0 S → lv_has ls 6 [(0, .ref a0), (1, .int x1), (2, .int x2), (3, .int x3)] → wM D S a0 → sK S a0 = 17 → wM D S b0 → sK S b0 = 17 → W p l e r_X12_meanStrength s m args below meth c H locs 0 0 (MQ below (va_Qi (fun r S9 => wX D S0 S9 ∧ post r S9) (wB D cy X A) A) args s 0 0 A) (F0 m 35 ls [.int t1, .ref b0]) := by
  obtain ⟨hx, hb, hml, hown, hts⟩ := id F
  have hwg : ∀ w ∈ WG, w.before args s = true := fun w h => hts w (List.mem_cons_of_mem _ h)
  intro S H locs ls a0 x1 x2 x3 b0 t1 hp hW hE hl hL_a0 hK_a0 hL_b0 hK_b0
  unfold wp_X12_meanStrength_35 at hp
  refine lv_iconst (v := 2) hx hb dX12_meanStrength_35 (by decide) ?_
  refine w_callI (va_runV (As := [.int t1, .int (2 : Int32)]) (rest := []) F (c_X12_can l hL_b0 hK_b0 hp H.size) (cwV (C := RX12) 2 hts (wg_V wm_RX12_237 wy_X12_can) rfl rfl rfl (by decide +kernel) ⟨Nat.le_of_ble_eq_true rfl, Nat.le_of_ble_eq_true rfl⟩) (w_preV hK hW hL_b0 hK_b0 (by decide) rfl) rfl rfl hl.1 rfl (lv_room (Nat.le_of_ble_eq_true rfl)) dX12_meanStrength_36 ⟨Nat.le_of_ble_eq_true rfl, Nat.le_of_ble_eq_true rfl⟩) hW (fun r_1 S_2 H locs hp hW => ?_)
  obtain ⟨hX_S_2, hp⟩ := hp
  refine W.widen (k := 0) (n := 0) (by decide) (by decide) ?_
  have hE := hE.trans hX_S_2
  have hK_a0 : sK S_2 a0 = 17 := (hX_S_2.2 a0 hL_a0).1.trans hK_a0
  have hL_a0 : wM D S_2 a0 := hX_S_2.M hL_a0
  refine lv_if_ne (tgt := 44) hx hb dX12_meanStrength_39 (by decide) (fun c_3 => ?_) (fun c_3 => ?_)
  · replace hp := hp.1 c_3
    refine lv_iconst (v := 0) hx hb dX12_meanStrength_44 (by decide) ?_
    refine lv_istore (lv' := [(4, .int (0 : Int32)), (0, .ref a0), (1, .int x1), (2, .int x2), (3, .int x3)]) hx hb dX12_meanStrength_45 hl (by decide) rfl (fun ls hl => ?_)
    refine lv_iconst (v := 0) hx hb dX12_meanStrength_47 (by decide) ?_
    refine lv_istore (lv' := [(5, .int (0 : Int32)), (4, .int (0 : Int32)), (0, .ref a0), (1, .int x1), (2, .int x2), (3, .int x3)]) hx hb dX12_meanStrength_48 hl (by decide) rfl (fun ls hl => ?_)
    obtain ⟨n_4, hp⟩ := hp
    exact t_X12_meanStrength_50 F hr hlocks hK n_4 hp hW hE (lv_sub hl [2, 3, 4, 5, 1, 0] rfl) hL_a0 hK_a0
  · replace hp := hp.2 c_3
    refine lv_iconst (v := 0) hx hb dX12_meanStrength_42 (by decide) ?_
    exact w_iret hx hb hr hlocks hW ⟨hE, hp⟩ dX12_meanStrength_43
set_option maxHeartbeats 4000000 in
set_option maxRecDepth 100000 in
theorem t_X12_meanStrength_0 {p : Program} {l : Launch} {e : Env} {s : State} {m : MethodId} {args : Array Value} {below : List Frame} {meth : Method} {c : Code} {D : wD} {cy : Nat → ClassId} {X : va_W} {A : Nat → Prop} {S0 : wS} {post : Int32 → wS → Prop} (F : CallFix p m c cX12_meanStrength 6 s args wz_X12_meanStrength RX12) (hr : meth.sig.returnType = (some .int)) (hlocks : meth.locks = false) (hK : wK D cy A s) : ∀ {S : wS} {H : Heap} {locs : List Loc} {ls : Array Slot} {a0 : Nat} {x1 : Int32} {x2 : Int32}, wp_X12_meanStrength_0 D post S a0 x1 x2 → wO D cy X A s.heap S H locs → wX D S0 S → lv_has ls 6 [(0, .ref a0), (1, .int x1), (2, .int x2)] → wM D S a0 → sK S a0 = 17 → W p l e r_X12_meanStrength s m args below meth c H locs 0 0 (MQ below (va_Qi (fun r S9 => wX D S0 S9 ∧ post r S9) (wB D cy X A) A) args s 0 0 A) (F0 m 0 ls []) := by
  obtain ⟨hx, hb, hml, hown, hts⟩ := id F
  have hwg : ∀ w ∈ WG, w.before args s = true := fun w h => hts w (List.mem_cons_of_mem _ h)
  intro S H locs ls a0 x1 x2 hp hW hE hl hL_a0 hK_a0
  unfold wp_X12_meanStrength_0 at hp
  refine lv_aload_n hx hb dX12_meanStrength_0 rfl (lv_at hl 0 rfl) ?_
  refine lv_iload_n hx hb dX12_meanStrength_1 rfl (lv_at hl 1 rfl) ?_
  refine w_callI (va_runS (As := [.int x1]) (rest := [.ref a0]) F (c_X12_isShelf l hp H.size) (va_cwS 1 hts (wg_S wm_RX12_397 wy_X12_isShelf) rfl rfl rfl (by decide +kernel) ⟨Nat.le_of_ble_eq_true rfl, Nat.le_of_ble_eq_true rfl⟩) (w_preS hK hW) rfl rfl hl.1 rfl (lv_room (Nat.le_of_ble_eq_true rfl)) dX12_meanStrength_2 ⟨Nat.le_of_ble_eq_true rfl, Nat.le_of_ble_eq_true rfl⟩) hW (fun r_1 S_2 H locs hp hW => ?_)
  obtain ⟨hX_S_2, hp⟩ := hp
  refine W.widen (k := 0) (n := 0) (by decide) (by decide) ?_
  have hE := hE.trans hX_S_2
  have hK_a0 : sK S_2 a0 = 17 := (hX_S_2.2 a0 hL_a0).1.trans hK_a0
  have hL_a0 : wM D S_2 a0 := hX_S_2.M hL_a0
  refine lv_iconst (v := 1) hx hb dX12_meanStrength_5 (by decide) ?_
  refine w_callI (va_runV (As := [.int r_1, .int (1 : Int32)]) (rest := []) F (c_X12_can l hL_a0 hK_a0 hp H.size) (cwV (C := RX12) 2 hts (wg_V wm_RX12_237 wy_X12_can) rfl rfl rfl (by decide +kernel) ⟨Nat.le_of_ble_eq_true rfl, Nat.le_of_ble_eq_true rfl⟩) (w_preV hK hW hL_a0 hK_a0 (by decide) rfl) rfl rfl hl.1 rfl (lv_room (Nat.le_of_ble_eq_true rfl)) dX12_meanStrength_6 ⟨Nat.le_of_ble_eq_true rfl, Nat.le_of_ble_eq_true rfl⟩) hW (fun r_3 S_4 H locs hp hW => ?_)
  obtain ⟨hX_S_4, hp⟩ := hp
  refine W.widen (k := 0) (n := 0) (by decide) (by decide) ?_
  have hE := hE.trans hX_S_4
  have hK_a0 : sK S_4 a0 = 17 := (hX_S_4.2 a0 hL_a0).1.trans hK_a0
  have hL_a0 : wM D S_4 a0 := hX_S_4.M hL_a0
  refine lv_if_ne (tgt := 14) hx hb dX12_meanStrength_9 (by decide) (fun c_5 => ?_) (fun c_5 => ?_)
  · replace hp := hp.1 c_5
    refine lv_aload_n hx hb dX12_meanStrength_14 rfl (lv_at hl 0 rfl) ?_
    refine lv_iload_n hx hb dX12_meanStrength_15 rfl (lv_at hl 1 rfl) ?_
    refine lv_iconst (v := (-1)) hx hb dX12_meanStrength_16 (by decide) ?_
    refine lv_iconst (v := 0) hx hb dX12_meanStrength_17 (by decide) ?_
    refine lv_sipush (v := 9999) hx hb dX12_meanStrength_18 (by decide) ?_
    refine w_callI (va_runV (As := [.int x1, .int (-1 : Int32), .int (0 : Int32), .int (9999 : Int32)]) (rest := []) F (c_X12_gamesHere l hL_a0 hK_a0 hp H.size) (cwV (C := RX12) 4 hts (wg_V wm_RX12_427 wy_X12_gamesHere) rfl rfl rfl (by decide +kernel) ⟨Nat.le_of_ble_eq_true rfl, Nat.le_of_ble_eq_true rfl⟩) (w_preV hK hW hL_a0 hK_a0 (by decide) rfl) rfl rfl hl.1 rfl (lv_room (Nat.le_of_ble_eq_true rfl)) dX12_meanStrength_21 ⟨Nat.le_of_ble_eq_true rfl, Nat.le_of_ble_eq_true rfl⟩) hW (fun r_6 S_7 H locs hp hW => ?_)
    obtain ⟨hX_S_7, hp⟩ := hp
    refine W.widen (k := 0) (n := 0) (by decide) (by decide) ?_
    have hE := hE.trans hX_S_7
    have hK_a0 : sK S_7 a0 = 17 := (hX_S_7.2 a0 hL_a0).1.trans hK_a0
    have hL_a0 : wM D S_7 a0 := hX_S_7.M hL_a0
    refine lv_istore_n (lv' := [(3, .int r_6), (0, .ref a0), (1, .int x1), (2, .int x2)]) hx hb dX12_meanStrength_24 rfl hl (by decide) rfl (fun ls hl => ?_)
    refine lv_aload_n hx hb dX12_meanStrength_25 rfl (lv_at hl 1 rfl) ?_
    refine lv_iload_n hx hb dX12_meanStrength_26 rfl (lv_at hl 0 rfl) ?_
    refine lv_if_le (tgt := 34) hx hb dX12_meanStrength_27 (by decide) (fun c_8 => ?_) (fun c_8 => ?_)
    · replace hp := hp.1 c_8
      refine lv_iconst (v := 0) hx hb dX12_meanStrength_34 (by decide) ?_
      exact t_X12_meanStrength_35 F hr hlocks hK hp hW hE (lv_sub hl [1, 2, 3, 0] rfl) hL_a0 hK_a0 hL_a0 hK_a0
    · replace hp := hp.2 c_8
      refine lv_iconst (v := 1) hx hb dX12_meanStrength_30 (by decide) ?_
      refine lv_goto (tgt := 35) hx hb dX12_meanStrength_31 (by decide) ?_
      exact t_X12_meanStrength_35 F hr hlocks hK hp hW hE (lv_sub hl [1, 2, 3, 0] rfl) hL_a0 hK_a0 hL_a0 hK_a0
  · replace hp := hp.2 c_5
    refine lv_iconst (v := 0) hx hb dX12_meanStrength_12 (by decide) ?_
    exact w_iret hx hb hr hlocks hW ⟨hE, hp⟩ dX12_meanStrength_13
set_option maxHeartbeats 4000000 in
set_option maxRecDepth 100000 in
theorem c_X12_meanStrength (l : Launch) {D : wD} {cy : Nat → ClassId} {X : va_W} {S0 : wS} {post : Int32 → wS → Prop} {a0 : Nat} {x1 : Int32} {x2 : Int32} (hL_a0 : wM D S0 a0) (hK_a0 : sK S0 a0 = 17) (hp : wp_X12_meanStrength D post S0 a0 x1 x2) : mI D cy X l yX12_meanStrength wz_X12_meanStrength r_X12_meanStrength [.ref a0, .int x1, .int x2] S0 (fun r S9 => wX D S0 S9 ∧ post r S9) := by
  intro sz
  refine Met.ofW (cc := cX12_meanStrength) (maxL := 6) (ret := (some .int)) (by decide) rfl ?_
  intro p e s m args below meth c s₁ B hml hv
  obtain ⟨rfl, hsz, hP, hK, hD0, hRO⟩ := hv
  have hts := atoms_spec (ws := wz_X12_meanStrength) B.pre
  have hown : s.vm.findClass RX12 = some m.cls := findClass_of_methodNamed B.named
  subst hsz
  have hD := hD0.self (sz := s.heap.size)
  have F : CallFix p m c cX12_meanStrength 6 s _ wz_X12_meanStrength RX12 := ⟨B.exec, B.bytes, hml, hown, hts⟩
  have hr := B.returns
  have hlocks := B.notSynchronized
  generalize hAe : va_A (wL cy X S0) s.heap.size = A at hD hK ⊢
  have hA : ∀ q, s.heap.size ≤ q → A q := fun q h => by rw [← hAe]; exact Or.inr h
  have hW : wO D cy X A s.heap S0 s.heap [] := ⟨hP, hD, va_S.rf, hA, hRO⟩
  have hl := lv_entry ([.ref a0, .int x1, .int x2]) (n := 6) (Nat.le_of_ble_eq_true rfl)
  rw [lg_entry_eq]
  generalize (lg_sl ([.ref a0, .int x1, .int x2]) ++ List.replicate (6 - (lg_sl ([.ref a0, .int x1, .int x2])).length) Slot.unset).toArray = ls at hl ⊢
  have hl : lv_has ls 6 [(0, .ref a0), (1, .int x1), (2, .int x2)] := hl
  unfold wp_X12_meanStrength at hp
  exact t_X12_meanStrength_0 F hr hlocks hK hp hW wX.rf (lv_sub hl [0, 1, 2] rfl) hL_a0 hK_a0
def wp_X12_merge_176 (D : wD) (post : Int32 → wS → Prop) (k_9 : wS → Nat → Int32 → Int32 → Prop) (S : wS) (a0 : Nat) (x1 : Int32) (x2 : Int32) : Prop :=
∀ x_1 : Int32, x_1 = x2 + 1 →
k_9 S a0 x1 x_1
def wp_X12_merge_9 (D : wD) (post : Int32 → wS → Prop)  : Nat → wS → Nat → Int32 → Int32 → Prop
  | 0, _, _, _, _ => False
  | n + 1, S, a0, x1, x2 =>
    ∃ y_1 : Nat, sR S a0 30 = some y_1 ∧ wM D S y_1 ∧ sK S y_1 = 21 ∧
    vp_in (1 : Int32) (sN S y_1) ∧
    (((sI S y_1 ((1 : Int32)).toNatClampNeg) ≤ x2 → ∃ y_4 : Nat, sR S a0 30 = some y_4 ∧ wM D S y_4 ∧ sK S y_4 = 21 ∧
    y_4 ∈ sL S ∧ vp_in (1 : Int32) (sN S y_4) ∧
    ∀ S_6 : wS, S_6 = uI S y_4 ((1 : Int32)).toNatClampNeg (0 : Int32) →
    post x1 S_6) ∧
     (¬ (sI S y_1 ((1 : Int32)).toNatClampNeg) ≤ x2 → wp_X12_slot D (fun r_7 S_8 => 
    ∃ y_9 : Nat, sR S_8 a0 30 = some y_9 ∧ wM D S_8 y_9 ∧ sK S_8 y_9 = 21 ∧
    vp_in (0 : Int32) (sN S_8 y_9) ∧
    ∀ x_11 : Int32, x_11 = (sI S_8 y_9 ((0 : Int32)).toNatClampNeg) →
    (((40 : Int32) ≤ x_11 → wp_X12_merge_176 D post (wp_X12_merge_9 D post n) S_8 a0 x1 x2) ∧
     (¬ (40 : Int32) ≤ x_11 → wp_X12_isThere D (fun r_13 S_14 => 
    ((¬ r_13 = 0 → wp_X12_merge_176 D post (wp_X12_merge_9 D post n) S_14 a0 x1 x2) ∧
     (r_13 = 0 → ∃ y_16 : Nat, sR S_14 a0 31 = some y_16 ∧ wM D S_14 y_16 ∧ sK S_14 y_16 = 21 ∧
    ∃ y_17 : Nat, sR S_14 a0 31 = some y_17 ∧ wM D S_14 y_17 ∧ sK S_14 y_17 = 21 ∧
    wp_X12_copies D (fun S_19 => 
    ∃ y_20 : Nat, sR S_19 a0 32 = some y_20 ∧ wM D S_19 y_20 ∧ sK S_19 y_20 = 21 ∧
    ∃ y_21 : Nat, sR S_19 a0 32 = some y_21 ∧ wM D S_19 y_21 ∧ sK S_19 y_21 = 21 ∧
    wp_X12_copies D (fun S_23 => 
    ∃ y_24 : Nat, sR S_23 a0 33 = some y_24 ∧ wM D S_23 y_24 ∧ sK S_23 y_24 = 21 ∧
    ∃ y_25 : Nat, sR S_23 a0 33 = some y_25 ∧ wM D S_23 y_25 ∧ sK S_23 y_25 = 21 ∧
    vp_in r_7 (sN S_23 y_25) ∧
    y_24 ∈ sL S_23 ∧ vp_in x_11 (sN S_23 y_24) ∧
    ∀ S_28 : wS, S_28 = uI S_23 y_24 (x_11).toNatClampNeg (sI S_23 y_25 (r_7).toNatClampNeg) →
    ∃ y_29 : Nat, sR S_28 a0 34 = some y_29 ∧ wM D S_28 y_29 ∧ sK S_28 y_29 = 21 ∧
    ∃ y_30 : Nat, sR S_28 a0 34 = some y_30 ∧ wM D S_28 y_30 ∧ sK S_28 y_30 = 21 ∧
    vp_in r_7 (sN S_28 y_30) ∧
    y_29 ∈ sL S_28 ∧ vp_in x_11 (sN S_28 y_29) ∧
    ∀ S_33 : wS, S_33 = uI S_28 y_29 (x_11).toNatClampNeg (sI S_28 y_30 (r_7).toNatClampNeg) →
    ∃ y_34 : Nat, sR S_33 a0 35 = some y_34 ∧ wM D S_33 y_34 ∧ sK S_33 y_34 = 21 ∧
    ∃ y_35 : Nat, sR S_33 a0 35 = some y_35 ∧ wM D S_33 y_35 ∧ sK S_33 y_35 = 21 ∧
    vp_in r_7 (sN S_33 y_35) ∧
    y_34 ∈ sL S_33 ∧ vp_in x_11 (sN S_33 y_34) ∧
    ∀ S_38 : wS, S_38 = uI S_33 y_34 (x_11).toNatClampNeg (sI S_33 y_35 (r_7).toNatClampNeg) →
    ∃ y_39 : Nat, sR S_38 a0 36 = some y_39 ∧ wM D S_38 y_39 ∧ sK S_38 y_39 = 21 ∧
    ∃ y_40 : Nat, sR S_38 a0 36 = some y_40 ∧ wM D S_38 y_40 ∧ sK S_38 y_40 = 21 ∧
    vp_in r_7 (sN S_38 y_40) ∧
    y_39 ∈ sL S_38 ∧ vp_in x_11 (sN S_38 y_39) ∧
    ∀ S_43 : wS, S_43 = uI S_38 y_39 (x_11).toNatClampNeg (sI S_38 y_40 (r_7).toNatClampNeg) →
    ∃ y_44 : Nat, sR S_43 a0 37 = some y_44 ∧ wM D S_43 y_44 ∧ sK S_43 y_44 = 21 ∧
    y_44 ∈ sL S_43 ∧ vp_in x_11 (sN S_43 y_44) ∧
    ∀ S_46 : wS, S_46 = uI S_43 y_44 (x_11).toNatClampNeg (0 : Int32) →
    ∃ y_47 : Nat, sR S_46 a0 38 = some y_47 ∧ wM D S_46 y_47 ∧ sK S_46 y_47 = 21 ∧
    y_47 ∈ sL S_46 ∧ vp_in x_11 (sN S_46 y_47) ∧
    ∀ S_49 : wS, S_49 = uI S_46 y_47 (x_11).toNatClampNeg (0 : Int32) →
    ∃ y_50 : Nat, sR S_49 a0 30 = some y_50 ∧ wM D S_49 y_50 ∧ sK S_49 y_50 = 21 ∧
    vp_in (0 : Int32) (sN S_49 y_50) ∧
    y_50 ∈ sL S_49 ∧ vp_in (0 : Int32) (sN S_49 y_50) ∧
    ∀ S_53 : wS, S_53 = uI S_49 y_50 ((0 : Int32)).toNatClampNeg ((sI S_49 y_50 ((0 : Int32)).toNatClampNeg) + (1 : Int32)) →
    ∀ x_54 : Int32, x_54 = x1 + 1 →
    wp_X12_merge_176 D post (wp_X12_merge_9 D post n) S_53 a0 x_54 x2) S_19 (80 : Int32) y_20 ((80 : Int32) * r_7) y_21 ((80 : Int32) * x_11)) S_14 (5427 : Int32) y_16 ((5427 : Int32) * r_7) y_17 ((5427 : Int32) * x_11)))) S_8 a0 r_7))) S (1 : Int32) x2))
def wp_X12_merge_0 (D : wD) (post : Int32 → wS → Prop)  (S : wS) (a0 : Nat) : Prop :=
∀ S_1 : wS, S_1 = uI S a0 0 (0 : Int32) →
∃ n_2 : Nat, wp_X12_merge_9 D post n_2 S_1 a0 (0 : Int32) (0 : Int32)
abbrev r_X12_merge : Room := { frames := 3, cells := 0, slots := 0, locals := 69 }
def wp_X12_merge (D : wD) (post : Int32 → wS → Prop) (S : wS) (a0 : Nat) : Prop := wp_X12_merge_0 D post S a0
set_option maxHeartbeats 4000000 in
set_option maxRecDepth 100000 in
theorem t_X12_merge_176 {p : Program} {l : Launch} {e : Env} {s : State} {m : MethodId} {args : Array Value} {below : List Frame} {meth : Method} {c : Code} {D : wD} {cy : Nat → ClassId} {X : va_W} {A : Nat → Prop} {S0 : wS} {post : Int32 → wS → Prop} (F : CallFix p m c cX12_merge 5 s args wz_X12_merge RX12) (hr : meth.sig.returnType = (some .int)) (hlocks : meth.locks = false) (hK : wK D cy A s) {k_9 : wS → Nat → Int32 → Int32 → Prop} (q_9 : ∀ {S : wS} {H : Heap} {locs : List Loc} {ls : Array Slot} {a0 : Nat} {x1 : Int32} {x2 : Int32}, k_9 S a0 x1 x2 → wO D cy X A s.heap S H locs → wX D S0 S → lv_has ls 5 [(0, .ref a0), (1, .int x1), (2, .int x2)] → wM D S a0 → sK S a0 = 17 → W p l e r_X12_merge s m args below meth c H locs 0 0 (MQ below (va_Qi (fun r S9 => wX D S0 S9 ∧ post r S9) (wB D cy X A) A) args s 0 0 A) (F0 m 9 ls [])) : ∀ {S : wS} {H : Heap} {locs : List Loc} {ls : Array Slot} {a0 : Nat} {x1 : Int32} {x2 : Int32}, wp_X12_merge_176 D post k_9 S a0 x1 x2 → wO D cy X A s.heap S H locs → wX D S0 S → lv_has ls 5 [(0, .ref a0), (1, .int x1), (2, .int x2)] → wM D S a0 → sK S a0 = 17 → W p l e r_X12_merge s m args below meth c H locs 0 0 (MQ below (va_Qi (fun r S9 => wX D S0 S9 ∧ post r S9) (wB D cy X A) A) args s 0 0 A) (F0 m 176 ls []) := by
  obtain ⟨hx, hb, hml, hown, hts⟩ := id F
  have hwg : ∀ w ∈ WG, w.before args s = true := fun w h => hts w (List.mem_cons_of_mem _ h)
  intro S H locs ls a0 x1 x2 hp hW hE hl hL_a0 hK_a0
  unfold wp_X12_merge_176 at hp
  obtain ⟨x_1, ex_1⟩ : ∃ z : Int32, z = x2 + 1 := ⟨_, rfl⟩
  replace hp := hp x_1 ex_1
  refine lv_iinc (v := x_1) (lv' := [(2, .int x_1), (0, .ref a0), (1, .int x1)]) hx hb dX12_merge_176 hl (k := 2) rfl (by rw [ex_1]; rfl) (by decide) rfl (fun ls hl => ?_)
  refine lv_goto (tgt := 9) hx hb dX12_merge_179 (by decide) ?_
  exact q_9 hp hW hE (lv_sub hl [1, 2, 0] rfl) hL_a0 hK_a0
set_option maxHeartbeats 4000000 in
set_option maxRecDepth 100000 in
theorem t_X12_merge_9 {p : Program} {l : Launch} {e : Env} {s : State} {m : MethodId} {args : Array Value} {below : List Frame} {meth : Method} {c : Code} {D : wD} {cy : Nat → ClassId} {X : va_W} {A : Nat → Prop} {S0 : wS} {post : Int32 → wS → Prop} (F : CallFix p m c cX12_merge 5 s args wz_X12_merge RX12) (hr : meth.sig.returnType = (some .int)) (hlocks : meth.locks = false) (hK : wK D cy A s) : ∀ (n : Nat) {S : wS} {H : Heap} {locs : List Loc} {ls : Array Slot} {a0 : Nat} {x1 : Int32} {x2 : Int32}, wp_X12_merge_9 D post n S a0 x1 x2 → wO D cy X A s.heap S H locs → wX D S0 S → lv_has ls 5 [(0, .ref a0), (1, .int x1), (2, .int x2)] → wM D S a0 → sK S a0 = 17 → W p l e r_X12_merge s m args below meth c H locs 0 0 (MQ below (va_Qi (fun r S9 => wX D S0 S9 ∧ post r S9) (wB D cy X A) A) args s 0 0 A) (F0 m 9 ls []) := by
  obtain ⟨hx, hb, hml, hown, hts⟩ := id F
  have hwg : ∀ w ∈ WG, w.before args s = true := fun w h => hts w (List.mem_cons_of_mem _ h)
  have i_17 : ∀ w ∈ u_ws RX12 TX12 43, w ∈ wz_X12_merge := fun w h => List.mem_cons_of_mem _ (wu_17 w h)
  have k_69 := hwg _ wf_RX12_69
  have k_73 := hwg _ wf_RX12_73
  have k_76 := hwg _ wf_RX12_76
  have k_79 := hwg _ wf_RX12_79
  have k_82 := hwg _ wf_RX12_82
  have k_85 := hwg _ wf_RX12_85
  have k_88 := hwg _ wf_RX12_88
  have k_91 := hwg _ wf_RX12_91
  have k_94 := hwg _ wf_RX12_94
  intro n
  induction n with
  | zero =>
    intro S H locs ls a0 x1 x2 hp
    exact hp.elim
  | succ n ih =>
    intro S H locs ls a0 x1 x2 hp hW hE hl hL_a0 hK_a0
    unfold wp_X12_merge_9 at hp
    refine lv_iload_n hx hb dX12_merge_9 rfl (lv_at hl 2 rfl) ?_
    refine lv_aload_n hx hb dX12_merge_10 rfl (lv_at hl 0 rfl) ?_
    obtain ⟨y_1, ey_1, hL_y_1, hK_y_1, hp⟩ := hp
    refine w_get (k := 17) (f := 30) (T := TX12) (v := .ref y_1) F hK hW hL_a0 hK_a0 (by decide) rfl rfl (by decide) i_17 k_69 (by rw [show wv 17 30 S a0 = va_rf (sR S a0 30) from rfl, ey_1]; rfl) dX12_merge_11 ?_
    refine lv_iconst (v := 1) hx hb dX12_merge_14 (by decide) ?_
    obtain ⟨h_2, hp⟩ := hp
    refine w_ild F hK hW hL_y_1 hK_y_1 h_2 dX12_merge_15 ?_
    refine lv_icmp_ge (tgt := 182) hx hb dX12_merge_16 (by decide) (fun c_3 => ?_) (fun c_3 => ?_)
    · replace hp := hp.1 c_3
      refine lv_aload_n hx hb dX12_merge_182 rfl (lv_at hl 0 rfl) ?_
      obtain ⟨y_4, ey_4, hL_y_4, hK_y_4, hp⟩ := hp
      refine w_get (k := 17) (f := 30) (T := TX12) (v := .ref y_4) F hK hW hL_a0 hK_a0 (by decide) rfl rfl (by decide) i_17 k_69 (by rw [show wv 17 30 S a0 = va_rf (sR S a0 30) from rfl, ey_4]; rfl) dX12_merge_183 ?_
      refine lv_iconst (v := 1) hx hb dX12_merge_186 (by decide) ?_
      refine lv_iconst (v := 0) hx hb dX12_merge_187 (by decide) ?_
      obtain ⟨h_5m, h_5, hp⟩ := hp
      refine w_ist F hK hW h_5m hK_y_4 h_5 dX12_merge_188 (fun H locs hW => ?_)
      obtain ⟨S_6, eS_6⟩ : ∃ z : wS, z = uI S y_4 ((1 : Int32)).toNatClampNeg (0 : Int32) := ⟨_, rfl⟩
      rw [← eS_6] at hW
      replace hp := hp S_6 eS_6
      have hX_S_6 : wX D S S_6 := by rw [eS_6]; exact wX_uI
      have hE := hE.trans hX_S_6
      have hK_a0 : sK S_6 a0 = 17 := (hX_S_6.2 a0 hL_a0).1.trans hK_a0
      have hL_a0 : wM D S_6 a0 := hX_S_6.M hL_a0
      refine lv_iload_n hx hb dX12_merge_189 rfl (lv_at hl 1 rfl) ?_
      exact w_iret hx hb hr hlocks hW ⟨hE, hp⟩ dX12_merge_190
    · replace hp := hp.2 c_3
      refine lv_iconst (v := 1) hx hb dX12_merge_19 (by decide) ?_
      refine lv_iload_n hx hb dX12_merge_20 rfl (lv_at hl 2 rfl) ?_
      refine w_callI (va_runS (As := [.int (1 : Int32), .int x2]) (rest := []) F (c_X12_slot l hp H.size) (va_cwS 2 hts (wg_S wm_RX12_400 wy_X12_slot) rfl rfl rfl (by decide +kernel) ⟨Nat.le_of_ble_eq_true rfl, Nat.le_of_ble_eq_true rfl⟩) (w_preS hK hW) rfl rfl hl.1 rfl (lv_room (Nat.le_of_ble_eq_true rfl)) dX12_merge_21 ⟨Nat.le_of_ble_eq_true rfl, Nat.le_of_ble_eq_true rfl⟩) hW (fun r_7 S_8 H locs hp hW => ?_)
      obtain ⟨hX_S_8, hp⟩ := hp
      refine W.widen (k := 0) (n := 0) (by decide) (by decide) ?_
      have hE := hE.trans hX_S_8
      have hK_a0 : sK S_8 a0 = 17 := (hX_S_8.2 a0 hL_a0).1.trans hK_a0
      have hL_a0 : wM D S_8 a0 := hX_S_8.M hL_a0
      refine lv_istore_n (lv' := [(3, .int r_7), (0, .ref a0), (1, .int x1), (2, .int x2)]) hx hb dX12_merge_24 rfl hl (by decide) rfl (fun ls hl => ?_)
      refine lv_aload_n hx hb dX12_merge_25 rfl (lv_at hl 1 rfl) ?_
      obtain ⟨y_9, ey_9, hL_y_9, hK_y_9, hp⟩ := hp
      refine w_get (k := 17) (f := 30) (T := TX12) (v := .ref y_9) F hK hW hL_a0 hK_a0 (by decide) rfl rfl (by decide) i_17 k_69 (by rw [show wv 17 30 S_8 a0 = va_rf (sR S_8 a0 30) from rfl, ey_9]; rfl) dX12_merge_26 ?_
      refine lv_iconst (v := 0) hx hb dX12_merge_29 (by decide) ?_
      obtain ⟨h_10, hp⟩ := hp
      refine w_ild F hK hW hL_y_9 hK_y_9 h_10 dX12_merge_30 ?_
      refine lv_topi (fun x_11 ex_11 => ?_)
      replace hp := hp x_11 ex_11
      refine lv_istore (lv' := [(4, .int x_11), (3, .int r_7), (0, .ref a0), (1, .int x1), (2, .int x2)]) hx hb dX12_merge_31 hl (by decide) rfl (fun ls hl => ?_)
      refine lv_iload hx hb dX12_merge_33 (lv_at hl 0 rfl) ?_
      refine lv_bipush (v := 40) hx hb dX12_merge_35 (by decide) ?_
      refine lv_icmp_ge (tgt := 176) hx hb dX12_merge_37 (by decide) (fun c_12 => ?_) (fun c_12 => ?_)
      · replace hp := hp.1 c_12
        exact t_X12_merge_176 F hr hlocks hK ih hp hW hE (lv_sub hl [2, 3, 4] rfl) hL_a0 hK_a0
      · replace hp := hp.2 c_12
        refine lv_aload_n hx hb dX12_merge_40 rfl (lv_at hl 2 rfl) ?_
        refine lv_iload_n hx hb dX12_merge_41 rfl (lv_at hl 1 rfl) ?_
        refine w_callI (va_runV (As := [.int r_7]) (rest := []) F (c_X12_isThere l hL_a0 hK_a0 hp H.size) (cwV (C := RX12) 1 hts (wg_V wm_RX12_461 wy_X12_isThere) rfl rfl rfl (by decide +kernel) ⟨Nat.le_of_ble_eq_true rfl, Nat.le_of_ble_eq_true rfl⟩) (w_preV hK hW hL_a0 hK_a0 (by decide) rfl) rfl rfl hl.1 rfl (lv_room (Nat.le_of_ble_eq_true rfl)) dX12_merge_42 ⟨Nat.le_of_ble_eq_true rfl, Nat.le_of_ble_eq_true rfl⟩) hW (fun r_13 S_14 H locs hp hW => ?_)
        obtain ⟨hX_S_14, hp⟩ := hp
        refine W.widen (k := 0) (n := 0) (by decide) (by decide) ?_
        have hE := hE.trans hX_S_14
        have hK_a0 : sK S_14 a0 = 17 := (hX_S_14.2 a0 hL_a0).1.trans hK_a0
        have hL_a0 : wM D S_14 a0 := hX_S_14.M hL_a0
        refine lv_if_ne (tgt := 176) hx hb dX12_merge_45 (by decide) (fun c_15 => ?_) (fun c_15 => ?_)
        · replace hp := hp.1 c_15
          exact t_X12_merge_176 F hr hlocks hK ih hp hW hE (lv_sub hl [2, 3, 4] rfl) hL_a0 hK_a0
        · replace hp := hp.2 c_15
          refine lv_sipush (v := 5427) hx hb dX12_merge_48 (by decide) ?_
          refine lv_aload_n hx hb dX12_merge_51 rfl (lv_at hl 2 rfl) ?_
          obtain ⟨y_16, ey_16, hL_y_16, hK_y_16, hp⟩ := hp
          refine w_get (k := 17) (f := 31) (T := TX12) (v := .ref y_16) F hK hW hL_a0 hK_a0 (by decide) rfl rfl (by decide) i_17 k_73 (by rw [show wv 17 31 S_14 a0 = va_rf (sR S_14 a0 31) from rfl, ey_16]; rfl) dX12_merge_52 ?_
          refine lv_sipush (v := 5427) hx hb dX12_merge_55 (by decide) ?_
          refine lv_iload_n hx hb dX12_merge_58 rfl (lv_at hl 1 rfl) ?_
          refine lv_imul hx hb dX12_merge_59 ?_
          refine lv_aload_n hx hb dX12_merge_60 rfl (lv_at hl 2 rfl) ?_
          obtain ⟨y_17, ey_17, hL_y_17, hK_y_17, hp⟩ := hp
          refine w_get (k := 17) (f := 31) (T := TX12) (v := .ref y_17) F hK hW hL_a0 hK_a0 (by decide) rfl rfl (by decide) i_17 k_73 (by rw [show wv 17 31 S_14 a0 = va_rf (sR S_14 a0 31) from rfl, ey_17]; rfl) dX12_merge_61 ?_
          refine lv_sipush (v := 5427) hx hb dX12_merge_64 (by decide) ?_
          refine lv_iload hx hb dX12_merge_67 (lv_at hl 0 rfl) ?_
          refine lv_imul hx hb dX12_merge_69 ?_
          refine w_callV (va_runS (As := [.int (5427 : Int32), .ref y_16, .int ((5427 : Int32) * r_7), .ref y_17, .int ((5427 : Int32) * x_11)]) (rest := []) F (c_X12_copies l hL_y_16 hK_y_16 hL_y_17 hK_y_17 hp H.size) (va_cwS 5 hts (wg_S wm_RX12_130 wy_X12_copies) rfl rfl rfl (by decide +kernel) ⟨Nat.le_of_ble_eq_true rfl, Nat.le_of_ble_eq_true rfl⟩) (w_preS hK hW) rfl rfl hl.1 rfl (lv_room (Nat.le_of_ble_eq_true rfl)) dX12_merge_70 ⟨Nat.le_of_ble_eq_true rfl, Nat.le_of_ble_eq_true rfl⟩) hW (fun S_19 H locs hp hW => ?_)
          obtain ⟨hX_S_19, hp⟩ := hp
          refine W.widen (k := 0) (n := 0) (by decide) (by decide) ?_
          have hE := hE.trans hX_S_19
          have hK_a0 : sK S_19 a0 = 17 := (hX_S_19.2 a0 hL_a0).1.trans hK_a0
          have hL_a0 : wM D S_19 a0 := hX_S_19.M hL_a0
          refine lv_bipush (v := 80) hx hb dX12_merge_73 (by decide) ?_
          refine lv_aload_n hx hb dX12_merge_75 rfl (lv_at hl 2 rfl) ?_
          obtain ⟨y_20, ey_20, hL_y_20, hK_y_20, hp⟩ := hp
          refine w_get (k := 17) (f := 32) (T := TX12) (v := .ref y_20) F hK hW hL_a0 hK_a0 (by decide) rfl rfl (by decide) i_17 k_76 (by rw [show wv 17 32 S_19 a0 = va_rf (sR S_19 a0 32) from rfl, ey_20]; rfl) dX12_merge_76 ?_
          refine lv_bipush (v := 80) hx hb dX12_merge_79 (by decide) ?_
          refine lv_iload_n hx hb dX12_merge_81 rfl (lv_at hl 1 rfl) ?_
          refine lv_imul hx hb dX12_merge_82 ?_
          refine lv_aload_n hx hb dX12_merge_83 rfl (lv_at hl 2 rfl) ?_
          obtain ⟨y_21, ey_21, hL_y_21, hK_y_21, hp⟩ := hp
          refine w_get (k := 17) (f := 32) (T := TX12) (v := .ref y_21) F hK hW hL_a0 hK_a0 (by decide) rfl rfl (by decide) i_17 k_76 (by rw [show wv 17 32 S_19 a0 = va_rf (sR S_19 a0 32) from rfl, ey_21]; rfl) dX12_merge_84 ?_
          refine lv_bipush (v := 80) hx hb dX12_merge_87 (by decide) ?_
          refine lv_iload hx hb dX12_merge_89 (lv_at hl 0 rfl) ?_
          refine lv_imul hx hb dX12_merge_91 ?_
          refine w_callV (va_runS (As := [.int (80 : Int32), .ref y_20, .int ((80 : Int32) * r_7), .ref y_21, .int ((80 : Int32) * x_11)]) (rest := []) F (c_X12_copies l hL_y_20 hK_y_20 hL_y_21 hK_y_21 hp H.size) (va_cwS 5 hts (wg_S wm_RX12_130 wy_X12_copies) rfl rfl rfl (by decide +kernel) ⟨Nat.le_of_ble_eq_true rfl, Nat.le_of_ble_eq_true rfl⟩) (w_preS hK hW) rfl rfl hl.1 rfl (lv_room (Nat.le_of_ble_eq_true rfl)) dX12_merge_92 ⟨Nat.le_of_ble_eq_true rfl, Nat.le_of_ble_eq_true rfl⟩) hW (fun S_23 H locs hp hW => ?_)
          obtain ⟨hX_S_23, hp⟩ := hp
          refine W.widen (k := 0) (n := 0) (by decide) (by decide) ?_
          have hE := hE.trans hX_S_23
          have hK_a0 : sK S_23 a0 = 17 := (hX_S_23.2 a0 hL_a0).1.trans hK_a0
          have hL_a0 : wM D S_23 a0 := hX_S_23.M hL_a0
          refine lv_aload_n hx hb dX12_merge_95 rfl (lv_at hl 2 rfl) ?_
          obtain ⟨y_24, ey_24, hL_y_24, hK_y_24, hp⟩ := hp
          refine w_get (k := 17) (f := 33) (T := TX12) (v := .ref y_24) F hK hW hL_a0 hK_a0 (by decide) rfl rfl (by decide) i_17 k_79 (by rw [show wv 17 33 S_23 a0 = va_rf (sR S_23 a0 33) from rfl, ey_24]; rfl) dX12_merge_96 ?_
          refine lv_iload hx hb dX12_merge_99 (lv_at hl 0 rfl) ?_
          refine lv_aload_n hx hb dX12_merge_101 rfl (lv_at hl 2 rfl) ?_
          obtain ⟨y_25, ey_25, hL_y_25, hK_y_25, hp⟩ := hp
          refine w_get (k := 17) (f := 33) (T := TX12) (v := .ref y_25) F hK hW hL_a0 hK_a0 (by decide) rfl rfl (by decide) i_17 k_79 (by rw [show wv 17 33 S_23 a0 = va_rf (sR S_23 a0 33) from rfl, ey_25]; rfl) dX12_merge_102 ?_
          refine lv_iload_n hx hb dX12_merge_105 rfl (lv_at hl 1 rfl) ?_
          obtain ⟨h_26, hp⟩ := hp
          refine w_ild F hK hW hL_y_25 hK_y_25 h_26 dX12_merge_106 ?_
          obtain ⟨h_27m, h_27, hp⟩ := hp
          refine w_ist F hK hW h_27m hK_y_24 h_27 dX12_merge_107 (fun H locs hW => ?_)
          obtain ⟨S_28, eS_28⟩ : ∃ z : wS, z = uI S_23 y_24 (x_11).toNatClampNeg (sI S_23 y_25 (r_7).toNatClampNeg) := ⟨_, rfl⟩
          rw [← eS_28] at hW
          replace hp := hp S_28 eS_28
          have hX_S_28 : wX D S_23 S_28 := by rw [eS_28]; exact wX_uI
          have hE := hE.trans hX_S_28
          have hK_a0 : sK S_28 a0 = 17 := (hX_S_28.2 a0 hL_a0).1.trans hK_a0
          have hL_a0 : wM D S_28 a0 := hX_S_28.M hL_a0
          refine lv_aload_n hx hb dX12_merge_108 rfl (lv_at hl 2 rfl) ?_
          obtain ⟨y_29, ey_29, hL_y_29, hK_y_29, hp⟩ := hp
          refine w_get (k := 17) (f := 34) (T := TX12) (v := .ref y_29) F hK hW hL_a0 hK_a0 (by decide) rfl rfl (by decide) i_17 k_82 (by rw [show wv 17 34 S_28 a0 = va_rf (sR S_28 a0 34) from rfl, ey_29]; rfl) dX12_merge_109 ?_
          refine lv_iload hx hb dX12_merge_112 (lv_at hl 0 rfl) ?_
          refine lv_aload_n hx hb dX12_merge_114 rfl (lv_at hl 2 rfl) ?_
          obtain ⟨y_30, ey_30, hL_y_30, hK_y_30, hp⟩ := hp
          refine w_get (k := 17) (f := 34) (T := TX12) (v := .ref y_30) F hK hW hL_a0 hK_a0 (by decide) rfl rfl (by decide) i_17 k_82 (by rw [show wv 17 34 S_28 a0 = va_rf (sR S_28 a0 34) from rfl, ey_30]; rfl) dX12_merge_115 ?_
          refine lv_iload_n hx hb dX12_merge_118 rfl (lv_at hl 1 rfl) ?_
          obtain ⟨h_31, hp⟩ := hp
          refine w_ild F hK hW hL_y_30 hK_y_30 h_31 dX12_merge_119 ?_
          obtain ⟨h_32m, h_32, hp⟩ := hp
          refine w_ist F hK hW h_32m hK_y_29 h_32 dX12_merge_120 (fun H locs hW => ?_)
          obtain ⟨S_33, eS_33⟩ : ∃ z : wS, z = uI S_28 y_29 (x_11).toNatClampNeg (sI S_28 y_30 (r_7).toNatClampNeg) := ⟨_, rfl⟩
          rw [← eS_33] at hW
          replace hp := hp S_33 eS_33
          have hX_S_33 : wX D S_28 S_33 := by rw [eS_33]; exact wX_uI
          have hE := hE.trans hX_S_33
          have hK_a0 : sK S_33 a0 = 17 := (hX_S_33.2 a0 hL_a0).1.trans hK_a0
          have hL_a0 : wM D S_33 a0 := hX_S_33.M hL_a0
          refine lv_aload_n hx hb dX12_merge_121 rfl (lv_at hl 2 rfl) ?_
          obtain ⟨y_34, ey_34, hL_y_34, hK_y_34, hp⟩ := hp
          refine w_get (k := 17) (f := 35) (T := TX12) (v := .ref y_34) F hK hW hL_a0 hK_a0 (by decide) rfl rfl (by decide) i_17 k_85 (by rw [show wv 17 35 S_33 a0 = va_rf (sR S_33 a0 35) from rfl, ey_34]; rfl) dX12_merge_122 ?_
          refine lv_iload hx hb dX12_merge_125 (lv_at hl 0 rfl) ?_
          refine lv_aload_n hx hb dX12_merge_127 rfl (lv_at hl 2 rfl) ?_
          obtain ⟨y_35, ey_35, hL_y_35, hK_y_35, hp⟩ := hp
          refine w_get (k := 17) (f := 35) (T := TX12) (v := .ref y_35) F hK hW hL_a0 hK_a0 (by decide) rfl rfl (by decide) i_17 k_85 (by rw [show wv 17 35 S_33 a0 = va_rf (sR S_33 a0 35) from rfl, ey_35]; rfl) dX12_merge_128 ?_
          refine lv_iload_n hx hb dX12_merge_131 rfl (lv_at hl 1 rfl) ?_
          obtain ⟨h_36, hp⟩ := hp
          refine w_ild F hK hW hL_y_35 hK_y_35 h_36 dX12_merge_132 ?_
          obtain ⟨h_37m, h_37, hp⟩ := hp
          refine w_ist F hK hW h_37m hK_y_34 h_37 dX12_merge_133 (fun H locs hW => ?_)
          obtain ⟨S_38, eS_38⟩ : ∃ z : wS, z = uI S_33 y_34 (x_11).toNatClampNeg (sI S_33 y_35 (r_7).toNatClampNeg) := ⟨_, rfl⟩
          rw [← eS_38] at hW
          replace hp := hp S_38 eS_38
          have hX_S_38 : wX D S_33 S_38 := by rw [eS_38]; exact wX_uI
          have hE := hE.trans hX_S_38
          have hK_a0 : sK S_38 a0 = 17 := (hX_S_38.2 a0 hL_a0).1.trans hK_a0
          have hL_a0 : wM D S_38 a0 := hX_S_38.M hL_a0
          refine lv_aload_n hx hb dX12_merge_134 rfl (lv_at hl 2 rfl) ?_
          obtain ⟨y_39, ey_39, hL_y_39, hK_y_39, hp⟩ := hp
          refine w_get (k := 17) (f := 36) (T := TX12) (v := .ref y_39) F hK hW hL_a0 hK_a0 (by decide) rfl rfl (by decide) i_17 k_88 (by rw [show wv 17 36 S_38 a0 = va_rf (sR S_38 a0 36) from rfl, ey_39]; rfl) dX12_merge_135 ?_
          refine lv_iload hx hb dX12_merge_138 (lv_at hl 0 rfl) ?_
          refine lv_aload_n hx hb dX12_merge_140 rfl (lv_at hl 2 rfl) ?_
          obtain ⟨y_40, ey_40, hL_y_40, hK_y_40, hp⟩ := hp
          refine w_get (k := 17) (f := 36) (T := TX12) (v := .ref y_40) F hK hW hL_a0 hK_a0 (by decide) rfl rfl (by decide) i_17 k_88 (by rw [show wv 17 36 S_38 a0 = va_rf (sR S_38 a0 36) from rfl, ey_40]; rfl) dX12_merge_141 ?_
          refine lv_iload_n hx hb dX12_merge_144 rfl (lv_at hl 1 rfl) ?_
          obtain ⟨h_41, hp⟩ := hp
          refine w_ild F hK hW hL_y_40 hK_y_40 h_41 dX12_merge_145 ?_
          obtain ⟨h_42m, h_42, hp⟩ := hp
          refine w_ist F hK hW h_42m hK_y_39 h_42 dX12_merge_146 (fun H locs hW => ?_)
          obtain ⟨S_43, eS_43⟩ : ∃ z : wS, z = uI S_38 y_39 (x_11).toNatClampNeg (sI S_38 y_40 (r_7).toNatClampNeg) := ⟨_, rfl⟩
          rw [← eS_43] at hW
          replace hp := hp S_43 eS_43
          have hX_S_43 : wX D S_38 S_43 := by rw [eS_43]; exact wX_uI
          have hE := hE.trans hX_S_43
          have hK_a0 : sK S_43 a0 = 17 := (hX_S_43.2 a0 hL_a0).1.trans hK_a0
          have hL_a0 : wM D S_43 a0 := hX_S_43.M hL_a0
          refine lv_aload_n hx hb dX12_merge_147 rfl (lv_at hl 2 rfl) ?_
          obtain ⟨y_44, ey_44, hL_y_44, hK_y_44, hp⟩ := hp
          refine w_get (k := 17) (f := 37) (T := TX12) (v := .ref y_44) F hK hW hL_a0 hK_a0 (by decide) rfl rfl (by decide) i_17 k_91 (by rw [show wv 17 37 S_43 a0 = va_rf (sR S_43 a0 37) from rfl, ey_44]; rfl) dX12_merge_148 ?_
          refine lv_iload hx hb dX12_merge_151 (lv_at hl 0 rfl) ?_
          refine lv_iconst (v := 0) hx hb dX12_merge_153 (by decide) ?_
          obtain ⟨h_45m, h_45, hp⟩ := hp
          refine w_ist F hK hW h_45m hK_y_44 h_45 dX12_merge_154 (fun H locs hW => ?_)
          obtain ⟨S_46, eS_46⟩ : ∃ z : wS, z = uI S_43 y_44 (x_11).toNatClampNeg (0 : Int32) := ⟨_, rfl⟩
          rw [← eS_46] at hW
          replace hp := hp S_46 eS_46
          have hX_S_46 : wX D S_43 S_46 := by rw [eS_46]; exact wX_uI
          have hE := hE.trans hX_S_46
          have hK_a0 : sK S_46 a0 = 17 := (hX_S_46.2 a0 hL_a0).1.trans hK_a0
          have hL_a0 : wM D S_46 a0 := hX_S_46.M hL_a0
          refine lv_aload_n hx hb dX12_merge_155 rfl (lv_at hl 2 rfl) ?_
          obtain ⟨y_47, ey_47, hL_y_47, hK_y_47, hp⟩ := hp
          refine w_get (k := 17) (f := 38) (T := TX12) (v := .ref y_47) F hK hW hL_a0 hK_a0 (by decide) rfl rfl (by decide) i_17 k_94 (by rw [show wv 17 38 S_46 a0 = va_rf (sR S_46 a0 38) from rfl, ey_47]; rfl) dX12_merge_156 ?_
          refine lv_iload hx hb dX12_merge_159 (lv_at hl 0 rfl) ?_
          refine lv_iconst (v := 0) hx hb dX12_merge_161 (by decide) ?_
          obtain ⟨h_48m, h_48, hp⟩ := hp
          refine w_ist F hK hW h_48m hK_y_47 h_48 dX12_merge_162 (fun H locs hW => ?_)
          obtain ⟨S_49, eS_49⟩ : ∃ z : wS, z = uI S_46 y_47 (x_11).toNatClampNeg (0 : Int32) := ⟨_, rfl⟩
          rw [← eS_49] at hW
          replace hp := hp S_49 eS_49
          have hX_S_49 : wX D S_46 S_49 := by rw [eS_49]; exact wX_uI
          have hE := hE.trans hX_S_49
          have hK_a0 : sK S_49 a0 = 17 := (hX_S_49.2 a0 hL_a0).1.trans hK_a0
          have hL_a0 : wM D S_49 a0 := hX_S_49.M hL_a0
          refine lv_aload_n hx hb dX12_merge_163 rfl (lv_at hl 2 rfl) ?_
          obtain ⟨y_50, ey_50, hL_y_50, hK_y_50, hp⟩ := hp
          refine w_get (k := 17) (f := 30) (T := TX12) (v := .ref y_50) F hK hW hL_a0 hK_a0 (by decide) rfl rfl (by decide) i_17 k_69 (by rw [show wv 17 30 S_49 a0 = va_rf (sR S_49 a0 30) from rfl, ey_50]; rfl) dX12_merge_164 ?_
          refine lv_iconst (v := 0) hx hb dX12_merge_167 (by decide) ?_
          refine lv_dup2_11 hx hb dX12_merge_168 rfl rfl ?_
          obtain ⟨h_51, hp⟩ := hp
          refine w_ild F hK hW hL_y_50 hK_y_50 h_51 dX12_merge_169 ?_
          refine lv_iconst (v := 1) hx hb dX12_merge_170 (by decide) ?_
          refine lv_iadd hx hb dX12_merge_171 ?_
          obtain ⟨h_52m, h_52, hp⟩ := hp
          refine w_ist F hK hW h_52m hK_y_50 h_52 dX12_merge_172 (fun H locs hW => ?_)
          obtain ⟨S_53, eS_53⟩ : ∃ z : wS, z = uI S_49 y_50 ((0 : Int32)).toNatClampNeg ((sI S_49 y_50 ((0 : Int32)).toNatClampNeg) + (1 : Int32)) := ⟨_, rfl⟩
          rw [← eS_53] at hW
          replace hp := hp S_53 eS_53
          have hX_S_53 : wX D S_49 S_53 := by rw [eS_53]; exact wX_uI
          have hE := hE.trans hX_S_53
          have hK_a0 : sK S_53 a0 = 17 := (hX_S_53.2 a0 hL_a0).1.trans hK_a0
          have hL_a0 : wM D S_53 a0 := hX_S_53.M hL_a0
          obtain ⟨x_54, ex_54⟩ : ∃ z : Int32, z = x1 + 1 := ⟨_, rfl⟩
          replace hp := hp x_54 ex_54
          refine lv_iinc (v := x_54) (lv' := [(1, .int x_54), (4, .int x_11), (3, .int r_7), (0, .ref a0), (2, .int x2)]) hx hb dX12_merge_173 hl (k := 3) rfl (by rw [ex_54]; rfl) (by decide) rfl (fun ls hl => ?_)
          exact t_X12_merge_176 F hr hlocks hK ih hp hW hE (lv_sub hl [3, 0, 4] rfl) hL_a0 hK_a0
set_option maxHeartbeats 4000000 in
set_option maxRecDepth 100000 in
theorem t_X12_merge_0 {p : Program} {l : Launch} {e : Env} {s : State} {m : MethodId} {args : Array Value} {below : List Frame} {meth : Method} {c : Code} {D : wD} {cy : Nat → ClassId} {X : va_W} {A : Nat → Prop} {S0 : wS} {post : Int32 → wS → Prop} (F : CallFix p m c cX12_merge 5 s args wz_X12_merge RX12) (hr : meth.sig.returnType = (some .int)) (hlocks : meth.locks = false) (hK : wK D cy A s) : ∀ {S : wS} {H : Heap} {locs : List Loc} {ls : Array Slot} {a0 : Nat}, wp_X12_merge_0 D post S a0 → wO D cy X A s.heap S H locs → wX D S0 S → lv_has ls 5 [(0, .ref a0)] → wM D S a0 → sK S a0 = 17 → W p l e r_X12_merge s m args below meth c H locs 0 0 (MQ below (va_Qi (fun r S9 => wX D S0 S9 ∧ post r S9) (wB D cy X A) A) args s 0 0 A) (F0 m 0 ls []) := by
  obtain ⟨hx, hb, hml, hown, hts⟩ := id F
  have hwg : ∀ w ∈ WG, w.before args s = true := fun w h => hts w (List.mem_cons_of_mem _ h)
  have i_17 : ∀ w ∈ u_ws RX12 TX12 43, w ∈ wz_X12_merge := fun w h => List.mem_cons_of_mem _ (wu_17 w h)
  have k_110 := hwg _ wf_RX12_110
  intro S H locs ls a0 hp hW hE hl hL_a0 hK_a0
  unfold wp_X12_merge_0 at hp
  refine lv_aload_n hx hb dX12_merge_0 rfl (lv_at hl 0 rfl) ?_
  refine lv_iconst (v := 0) hx hb dX12_merge_1 (by decide) ?_
  refine w_putI (k := 17) (f := 0) (T := TX12) F hK hW hL_a0 hK_a0 (by decide) (by decide) rfl rfl (by decide) i_17 tyX12 tyX12_ok nmX12 k_110 rfl rfl (ty := .int) rfl rfl rfl dX12_merge_2 (fun H locs hW => ?_)
  obtain ⟨S_1, eS_1⟩ : ∃ z : wS, z = uI S a0 0 (0 : Int32) := ⟨_, rfl⟩
  rw [← eS_1] at hW
  replace hp := hp S_1 eS_1
  have hX_S_1 : wX D S S_1 := by rw [eS_1]; exact wX_uI
  have hE := hE.trans hX_S_1
  have hK_a0 : sK S_1 a0 = 17 := (hX_S_1.2 a0 hL_a0).1.trans hK_a0
  have hL_a0 : wM D S_1 a0 := hX_S_1.M hL_a0
  refine lv_iconst (v := 0) hx hb dX12_merge_5 (by decide) ?_
  refine lv_istore_n (lv' := [(1, .int (0 : Int32)), (0, .ref a0)]) hx hb dX12_merge_6 rfl hl (by decide) rfl (fun ls hl => ?_)
  refine lv_iconst (v := 0) hx hb dX12_merge_7 (by decide) ?_
  refine lv_istore_n (lv' := [(2, .int (0 : Int32)), (1, .int (0 : Int32)), (0, .ref a0)]) hx hb dX12_merge_8 rfl hl (by decide) rfl (fun ls hl => ?_)
  obtain ⟨n_2, hp⟩ := hp
  exact t_X12_merge_9 F hr hlocks hK n_2 hp hW hE (lv_sub hl [2, 1, 0] rfl) hL_a0 hK_a0
set_option maxHeartbeats 4000000 in
set_option maxRecDepth 100000 in
theorem c_X12_merge (l : Launch) {D : wD} {cy : Nat → ClassId} {X : va_W} {S0 : wS} {post : Int32 → wS → Prop} {a0 : Nat} (hL_a0 : wM D S0 a0) (hK_a0 : sK S0 a0 = 17) (hp : wp_X12_merge D post S0 a0) : mI D cy X l yX12_merge wz_X12_merge r_X12_merge [.ref a0] S0 (fun r S9 => wX D S0 S9 ∧ post r S9) := by
  intro sz
  refine Met.ofW (cc := cX12_merge) (maxL := 5) (ret := (some .int)) (by decide) rfl ?_
  intro p e s m args below meth c s₁ B hml hv
  obtain ⟨rfl, hsz, hP, hK, hD0, hRO⟩ := hv
  have hts := atoms_spec (ws := wz_X12_merge) B.pre
  have hown : s.vm.findClass RX12 = some m.cls := findClass_of_methodNamed B.named
  subst hsz
  have hD := hD0.self (sz := s.heap.size)
  have F : CallFix p m c cX12_merge 5 s _ wz_X12_merge RX12 := ⟨B.exec, B.bytes, hml, hown, hts⟩
  have hr := B.returns
  have hlocks := B.notSynchronized
  generalize hAe : va_A (wL cy X S0) s.heap.size = A at hD hK ⊢
  have hA : ∀ q, s.heap.size ≤ q → A q := fun q h => by rw [← hAe]; exact Or.inr h
  have hW : wO D cy X A s.heap S0 s.heap [] := ⟨hP, hD, va_S.rf, hA, hRO⟩
  have hl := lv_entry ([.ref a0]) (n := 5) (Nat.le_of_ble_eq_true rfl)
  rw [lg_entry_eq]
  generalize (lg_sl ([.ref a0]) ++ List.replicate (5 - (lg_sl ([.ref a0])).length) Slot.unset).toArray = ls at hl ⊢
  have hl : lv_has ls 5 [(0, .ref a0)] := hl
  unfold wp_X12_merge at hp
  exact t_X12_merge_0 F hr hlocks hK hp hW wX.rf (lv_sub hl [0] rfl) hL_a0 hK_a0
def wp_X12_moveBecomes_18 (D : wD) (post : Int32 → wS → Prop)  (S : wS) (t0 : Int32) : Prop :=
post t0 S
def wp_X12_moveBecomes_0 (D : wD) (post : Int32 → wS → Prop)  (S : wS) (a0 : Nat) (x1 : Int32) : Prop :=
wp_X12_isAskedMove D (fun r_1 S_2 => 
((r_1 = 0 → wp_X12_moveBecomes_18 D post S_2 (0 : Int32)) ∧
 (¬ r_1 = 0 → ∃ y_4 : Nat, sR S_2 a0 6 = some y_4 ∧ wM D S_2 y_4 ∧ sK S_2 y_4 = 21 ∧
vp_in x1 (sN S_2 y_4) ∧
wp_X12_moveBecomes_18 D post S_2 (sI S_2 y_4 (x1).toNatClampNeg)))) S a0 x1
abbrev r_X12_moveBecomes : Room := { frames := 9, cells := 0, slots := 0, locals := 219 }
def wp_X12_moveBecomes (D : wD) (post : Int32 → wS → Prop) (S : wS) (a0 : Nat) (x1 : Int32) : Prop := wp_X12_moveBecomes_0 D post S a0 x1
set_option maxHeartbeats 4000000 in
set_option maxRecDepth 100000 in
theorem t_X12_moveBecomes_18 {p : Program} {l : Launch} {e : Env} {s : State} {m : MethodId} {args : Array Value} {below : List Frame} {meth : Method} {c : Code} {D : wD} {cy : Nat → ClassId} {X : va_W} {A : Nat → Prop} {S0 : wS} {post : Int32 → wS → Prop} (F : CallFix p m c cX12_moveBecomes 2 s args wz_X12_moveBecomes RX12) (hr : meth.sig.returnType = (some .int)) (hlocks : meth.locks = false) (hK : wK D cy A s) : ∀ {S : wS} {H : Heap} {locs : List Loc} {ls : Array Slot} {t0 : Int32}, wp_X12_moveBecomes_18 D post S t0 → wO D cy X A s.heap S H locs → wX D S0 S → lv_has ls 2 [] → W p l e r_X12_moveBecomes s m args below meth c H locs 0 0 (MQ below (va_Qi (fun r S9 => wX D S0 S9 ∧ post r S9) (wB D cy X A) A) args s 0 0 A) (F0 m 18 ls [.int t0]) := by
  obtain ⟨hx, hb, hml, hown, hts⟩ := id F
  have hwg : ∀ w ∈ WG, w.before args s = true := fun w h => hts w (List.mem_cons_of_mem _ h)
  intro S H locs ls t0 hp hW hE hl
  unfold wp_X12_moveBecomes_18 at hp
  exact w_iret hx hb hr hlocks hW ⟨hE, hp⟩ dX12_moveBecomes_18
set_option maxHeartbeats 4000000 in
set_option maxRecDepth 100000 in
theorem t_X12_moveBecomes_0 {p : Program} {l : Launch} {e : Env} {s : State} {m : MethodId} {args : Array Value} {below : List Frame} {meth : Method} {c : Code} {D : wD} {cy : Nat → ClassId} {X : va_W} {A : Nat → Prop} {S0 : wS} {post : Int32 → wS → Prop} (F : CallFix p m c cX12_moveBecomes 2 s args wz_X12_moveBecomes RX12) (hr : meth.sig.returnType = (some .int)) (hlocks : meth.locks = false) (hK : wK D cy A s) : ∀ {S : wS} {H : Heap} {locs : List Loc} {ls : Array Slot} {a0 : Nat} {x1 : Int32}, wp_X12_moveBecomes_0 D post S a0 x1 → wO D cy X A s.heap S H locs → wX D S0 S → lv_has ls 2 [(0, .ref a0), (1, .int x1)] → wM D S a0 → sK S a0 = 17 → W p l e r_X12_moveBecomes s m args below meth c H locs 0 0 (MQ below (va_Qi (fun r S9 => wX D S0 S9 ∧ post r S9) (wB D cy X A) A) args s 0 0 A) (F0 m 0 ls []) := by
  obtain ⟨hx, hb, hml, hown, hts⟩ := id F
  have hwg : ∀ w ∈ WG, w.before args s = true := fun w h => hts w (List.mem_cons_of_mem _ h)
  have i_17 : ∀ w ∈ u_ws RX12 TX12 43, w ∈ wz_X12_moveBecomes := fun w h => List.mem_cons_of_mem _ (wu_17 w h)
  have k_26 := hwg _ wf_RX12_26
  intro S H locs ls a0 x1 hp hW hE hl hL_a0 hK_a0
  unfold wp_X12_moveBecomes_0 at hp
  refine lv_aload_n hx hb dX12_moveBecomes_0 rfl (lv_at hl 0 rfl) ?_
  refine lv_iload_n hx hb dX12_moveBecomes_1 rfl (lv_at hl 1 rfl) ?_
  refine w_callI (va_runV (As := [.int x1]) (rest := []) F (c_X12_isAskedMove l hL_a0 hK_a0 hp H.size) (cwV (C := RX12) 1 hts (wg_V wm_RX12_293 wy_X12_isAskedMove) rfl rfl rfl (by decide +kernel) ⟨Nat.le_of_ble_eq_true rfl, Nat.le_of_ble_eq_true rfl⟩) (w_preV hK hW hL_a0 hK_a0 (by decide) rfl) rfl rfl hl.1 rfl (lv_room (Nat.le_of_ble_eq_true rfl)) dX12_moveBecomes_2 ⟨Nat.le_of_ble_eq_true rfl, Nat.le_of_ble_eq_true rfl⟩) hW (fun r_1 S_2 H locs hp hW => ?_)
  obtain ⟨hX_S_2, hp⟩ := hp
  refine W.widen (k := 0) (n := 0) (by decide) (by decide) ?_
  have hE := hE.trans hX_S_2
  have hK_a0 : sK S_2 a0 = 17 := (hX_S_2.2 a0 hL_a0).1.trans hK_a0
  have hL_a0 : wM D S_2 a0 := hX_S_2.M hL_a0
  refine lv_if_eq (tgt := 17) hx hb dX12_moveBecomes_5 (by decide) (fun c_3 => ?_) (fun c_3 => ?_)
  · replace hp := hp.1 c_3
    refine lv_iconst (v := 0) hx hb dX12_moveBecomes_17 (by decide) ?_
    exact t_X12_moveBecomes_18 F hr hlocks hK hp hW hE (lv_sub hl [] rfl)
  · replace hp := hp.2 c_3
    refine lv_aload_n hx hb dX12_moveBecomes_8 rfl (lv_at hl 0 rfl) ?_
    obtain ⟨y_4, ey_4, hL_y_4, hK_y_4, hp⟩ := hp
    refine w_get (k := 17) (f := 6) (T := TX12) (v := .ref y_4) F hK hW hL_a0 hK_a0 (by decide) rfl rfl (by decide) i_17 k_26 (by rw [show wv 17 6 S_2 a0 = va_rf (sR S_2 a0 6) from rfl, ey_4]; rfl) dX12_moveBecomes_9 ?_
    refine lv_iload_n hx hb dX12_moveBecomes_12 rfl (lv_at hl 1 rfl) ?_
    obtain ⟨h_5, hp⟩ := hp
    refine w_ild F hK hW hL_y_4 hK_y_4 h_5 dX12_moveBecomes_13 ?_
    refine lv_goto (tgt := 18) hx hb dX12_moveBecomes_14 (by decide) ?_
    exact t_X12_moveBecomes_18 F hr hlocks hK hp hW hE (lv_sub hl [] rfl)
set_option maxHeartbeats 4000000 in
set_option maxRecDepth 100000 in
theorem c_X12_moveBecomes (l : Launch) {D : wD} {cy : Nat → ClassId} {X : va_W} {S0 : wS} {post : Int32 → wS → Prop} {a0 : Nat} {x1 : Int32} (hL_a0 : wM D S0 a0) (hK_a0 : sK S0 a0 = 17) (hp : wp_X12_moveBecomes D post S0 a0 x1) : mI D cy X l yX12_moveBecomes wz_X12_moveBecomes r_X12_moveBecomes [.ref a0, .int x1] S0 (fun r S9 => wX D S0 S9 ∧ post r S9) := by
  intro sz
  refine Met.ofW (cc := cX12_moveBecomes) (maxL := 2) (ret := (some .int)) (by decide) rfl ?_
  intro p e s m args below meth c s₁ B hml hv
  obtain ⟨rfl, hsz, hP, hK, hD0, hRO⟩ := hv
  have hts := atoms_spec (ws := wz_X12_moveBecomes) B.pre
  have hown : s.vm.findClass RX12 = some m.cls := findClass_of_methodNamed B.named
  subst hsz
  have hD := hD0.self (sz := s.heap.size)
  have F : CallFix p m c cX12_moveBecomes 2 s _ wz_X12_moveBecomes RX12 := ⟨B.exec, B.bytes, hml, hown, hts⟩
  have hr := B.returns
  have hlocks := B.notSynchronized
  generalize hAe : va_A (wL cy X S0) s.heap.size = A at hD hK ⊢
  have hA : ∀ q, s.heap.size ≤ q → A q := fun q h => by rw [← hAe]; exact Or.inr h
  have hW : wO D cy X A s.heap S0 s.heap [] := ⟨hP, hD, va_S.rf, hA, hRO⟩
  have hl := lv_entry ([.ref a0, .int x1]) (n := 2) (Nat.le_of_ble_eq_true rfl)
  rw [lg_entry_eq]
  generalize (lg_sl ([.ref a0, .int x1]) ++ List.replicate (2 - (lg_sl ([.ref a0, .int x1])).length) Slot.unset).toArray = ls at hl ⊢
  have hl : lv_has ls 2 [(0, .ref a0), (1, .int x1)] := hl
  unfold wp_X12_moveBecomes at hp
  exact t_X12_moveBecomes_0 F hr hlocks hK hp hW wX.rf (lv_sub hl [0, 1] rfl) hL_a0 hK_a0
def wp_X12_moveCount_0 (D : wD) (post : Int32 → wS → Prop)  (S : wS) (a0 : Nat) : Prop :=
wp_X12_isAskable D (fun r_1 S_2 => 
wp_X12_can D (fun r_3 S_4 => 
((¬ r_3 = 0 → wp_X12_moves D (fun S_7 => 
∃ y_8 : Nat, sR S_7 a0 7 = some y_8 ∧ wM D S_7 y_8 ∧ sK S_7 y_8 = 21 ∧
vp_in (0 : Int32) (sN S_7 y_8) ∧
post (sI S_7 y_8 ((0 : Int32)).toNatClampNeg) S_7) S_4 a0 (0 : Int32)) ∧
 (r_3 = 0 → post (0 : Int32) S_4))) S_2 a0 r_1 (1 : Int32)) S a0
abbrev r_X12_moveCount : Room := { frames := 7, cells := 0, slots := 0, locals := 177 }
def wp_X12_moveCount (D : wD) (post : Int32 → wS → Prop) (S : wS) (a0 : Nat) : Prop := wp_X12_moveCount_0 D post S a0
set_option maxHeartbeats 4000000 in
set_option maxRecDepth 100000 in
theorem t_X12_moveCount_0 {p : Program} {l : Launch} {e : Env} {s : State} {m : MethodId} {args : Array Value} {below : List Frame} {meth : Method} {c : Code} {D : wD} {cy : Nat → ClassId} {X : va_W} {A : Nat → Prop} {S0 : wS} {post : Int32 → wS → Prop} (F : CallFix p m c cX12_moveCount 1 s args wz_X12_moveCount RX12) (hr : meth.sig.returnType = (some .int)) (hlocks : meth.locks = false) (hK : wK D cy A s) : ∀ {S : wS} {H : Heap} {locs : List Loc} {ls : Array Slot} {a0 : Nat}, wp_X12_moveCount_0 D post S a0 → wO D cy X A s.heap S H locs → wX D S0 S → lv_has ls 1 [(0, .ref a0)] → wM D S a0 → sK S a0 = 17 → W p l e r_X12_moveCount s m args below meth c H locs 0 0 (MQ below (va_Qi (fun r S9 => wX D S0 S9 ∧ post r S9) (wB D cy X A) A) args s 0 0 A) (F0 m 0 ls []) := by
  obtain ⟨hx, hb, hml, hown, hts⟩ := id F
  have hwg : ∀ w ∈ WG, w.before args s = true := fun w h => hts w (List.mem_cons_of_mem _ h)
  have i_17 : ∀ w ∈ u_ws RX12 TX12 43, w ∈ wz_X12_moveCount := fun w h => List.mem_cons_of_mem _ (wu_17 w h)
  have k_29 := hwg _ wf_RX12_29
  intro S H locs ls a0 hp hW hE hl hL_a0 hK_a0
  unfold wp_X12_moveCount_0 at hp
  refine lv_aload_n hx hb dX12_moveCount_0 rfl (lv_at hl 0 rfl) ?_
  refine lv_aload_n hx hb dX12_moveCount_1 rfl (lv_at hl 0 rfl) ?_
  refine w_callI (va_runV (As := []) (rest := [.ref a0]) F (c_X12_isAskable l hL_a0 hK_a0 hp H.size) (cwV (C := RX12) 0 hts (wg_V wm_RX12_284 wy_X12_isAskable) rfl rfl rfl (by decide +kernel) ⟨Nat.le_of_ble_eq_true rfl, Nat.le_of_ble_eq_true rfl⟩) (w_preV hK hW hL_a0 hK_a0 (by decide) rfl) rfl rfl hl.1 rfl (lv_room (Nat.le_of_ble_eq_true rfl)) dX12_moveCount_2 ⟨Nat.le_of_ble_eq_true rfl, Nat.le_of_ble_eq_true rfl⟩) hW (fun r_1 S_2 H locs hp hW => ?_)
  obtain ⟨hX_S_2, hp⟩ := hp
  refine W.widen (k := 0) (n := 0) (by decide) (by decide) ?_
  have hE := hE.trans hX_S_2
  have hK_a0 : sK S_2 a0 = 17 := (hX_S_2.2 a0 hL_a0).1.trans hK_a0
  have hL_a0 : wM D S_2 a0 := hX_S_2.M hL_a0
  refine lv_iconst (v := 1) hx hb dX12_moveCount_5 (by decide) ?_
  refine w_callI (va_runV (As := [.int r_1, .int (1 : Int32)]) (rest := []) F (c_X12_can l hL_a0 hK_a0 hp H.size) (cwV (C := RX12) 2 hts (wg_V wm_RX12_237 wy_X12_can) rfl rfl rfl (by decide +kernel) ⟨Nat.le_of_ble_eq_true rfl, Nat.le_of_ble_eq_true rfl⟩) (w_preV hK hW hL_a0 hK_a0 (by decide) rfl) rfl rfl hl.1 rfl (lv_room (Nat.le_of_ble_eq_true rfl)) dX12_moveCount_6 ⟨Nat.le_of_ble_eq_true rfl, Nat.le_of_ble_eq_true rfl⟩) hW (fun r_3 S_4 H locs hp hW => ?_)
  obtain ⟨hX_S_4, hp⟩ := hp
  refine W.widen (k := 0) (n := 0) (by decide) (by decide) ?_
  have hE := hE.trans hX_S_4
  have hK_a0 : sK S_4 a0 = 17 := (hX_S_4.2 a0 hL_a0).1.trans hK_a0
  have hL_a0 : wM D S_4 a0 := hX_S_4.M hL_a0
  refine lv_if_ne (tgt := 14) hx hb dX12_moveCount_9 (by decide) (fun c_5 => ?_) (fun c_5 => ?_)
  · replace hp := hp.1 c_5
    refine lv_aload_n hx hb dX12_moveCount_14 rfl (lv_at hl 0 rfl) ?_
    refine lv_iconst (v := 0) hx hb dX12_moveCount_15 (by decide) ?_
    refine w_callV (va_runV (As := [.int (0 : Int32)]) (rest := []) F (c_X12_moves l hL_a0 hK_a0 hp H.size) (cwV (C := RX12) 1 hts (wg_V wm_RX12_233 wy_X12_moves) rfl rfl rfl (by decide +kernel) ⟨Nat.le_of_ble_eq_true rfl, Nat.le_of_ble_eq_true rfl⟩) (w_preV hK hW hL_a0 hK_a0 (by decide) rfl) rfl rfl hl.1 rfl (lv_room (Nat.le_of_ble_eq_true rfl)) dX12_moveCount_16 ⟨Nat.le_of_ble_eq_true rfl, Nat.le_of_ble_eq_true rfl⟩) hW (fun S_7 H locs hp hW => ?_)
    obtain ⟨hX_S_7, hp⟩ := hp
    refine W.widen (k := 0) (n := 0) (by decide) (by decide) ?_
    have hE := hE.trans hX_S_7
    have hK_a0 : sK S_7 a0 = 17 := (hX_S_7.2 a0 hL_a0).1.trans hK_a0
    have hL_a0 : wM D S_7 a0 := hX_S_7.M hL_a0
    refine lv_aload_n hx hb dX12_moveCount_19 rfl (lv_at hl 0 rfl) ?_
    obtain ⟨y_8, ey_8, hL_y_8, hK_y_8, hp⟩ := hp
    refine w_get (k := 17) (f := 7) (T := TX12) (v := .ref y_8) F hK hW hL_a0 hK_a0 (by decide) rfl rfl (by decide) i_17 k_29 (by rw [show wv 17 7 S_7 a0 = va_rf (sR S_7 a0 7) from rfl, ey_8]; rfl) dX12_moveCount_20 ?_
    refine lv_iconst (v := 0) hx hb dX12_moveCount_23 (by decide) ?_
    obtain ⟨h_9, hp⟩ := hp
    refine w_ild F hK hW hL_y_8 hK_y_8 h_9 dX12_moveCount_24 ?_
    exact w_iret hx hb hr hlocks hW ⟨hE, hp⟩ dX12_moveCount_25
  · replace hp := hp.2 c_5
    refine lv_iconst (v := 0) hx hb dX12_moveCount_12 (by decide) ?_
    exact w_iret hx hb hr hlocks hW ⟨hE, hp⟩ dX12_moveCount_13
set_option maxHeartbeats 4000000 in
set_option maxRecDepth 100000 in
theorem c_X12_moveCount (l : Launch) {D : wD} {cy : Nat → ClassId} {X : va_W} {S0 : wS} {post : Int32 → wS → Prop} {a0 : Nat} (hL_a0 : wM D S0 a0) (hK_a0 : sK S0 a0 = 17) (hp : wp_X12_moveCount D post S0 a0) : mI D cy X l yX12_moveCount wz_X12_moveCount r_X12_moveCount [.ref a0] S0 (fun r S9 => wX D S0 S9 ∧ post r S9) := by
  intro sz
  refine Met.ofW (cc := cX12_moveCount) (maxL := 1) (ret := (some .int)) (by decide) rfl ?_
  intro p e s m args below meth c s₁ B hml hv
  obtain ⟨rfl, hsz, hP, hK, hD0, hRO⟩ := hv
  have hts := atoms_spec (ws := wz_X12_moveCount) B.pre
  have hown : s.vm.findClass RX12 = some m.cls := findClass_of_methodNamed B.named
  subst hsz
  have hD := hD0.self (sz := s.heap.size)
  have F : CallFix p m c cX12_moveCount 1 s _ wz_X12_moveCount RX12 := ⟨B.exec, B.bytes, hml, hown, hts⟩
  have hr := B.returns
  have hlocks := B.notSynchronized
  generalize hAe : va_A (wL cy X S0) s.heap.size = A at hD hK ⊢
  have hA : ∀ q, s.heap.size ≤ q → A q := fun q h => by rw [← hAe]; exact Or.inr h
  have hW : wO D cy X A s.heap S0 s.heap [] := ⟨hP, hD, va_S.rf, hA, hRO⟩
  have hl := lv_entry ([.ref a0]) (n := 1) (Nat.le_of_ble_eq_true rfl)
  rw [lg_entry_eq]
  generalize (lg_sl ([.ref a0]) ++ List.replicate (1 - (lg_sl ([.ref a0])).length) Slot.unset).toArray = ls at hl ⊢
  have hl : lv_has ls 1 [(0, .ref a0)] := hl
  unfold wp_X12_moveCount at hp
  exact t_X12_moveCount_0 F hr hlocks hK hp hW wX.rf (lv_sub hl [0] rfl) hL_a0 hK_a0
def wp_X12_moveFrom_18 (D : wD) (post : Int32 → wS → Prop)  (S : wS) (t0 : Int32) : Prop :=
post t0 S
def wp_X12_moveFrom_0 (D : wD) (post : Int32 → wS → Prop)  (S : wS) (a0 : Nat) (x1 : Int32) : Prop :=
wp_X12_isAskedMove D (fun r_1 S_2 => 
((r_1 = 0 → wp_X12_moveFrom_18 D post S_2 (0 : Int32)) ∧
 (¬ r_1 = 0 → ∃ y_4 : Nat, sR S_2 a0 4 = some y_4 ∧ wM D S_2 y_4 ∧ sK S_2 y_4 = 21 ∧
vp_in x1 (sN S_2 y_4) ∧
wp_X12_moveFrom_18 D post S_2 (sI S_2 y_4 (x1).toNatClampNeg)))) S a0 x1
abbrev r_X12_moveFrom : Room := { frames := 9, cells := 0, slots := 0, locals := 219 }
def wp_X12_moveFrom (D : wD) (post : Int32 → wS → Prop) (S : wS) (a0 : Nat) (x1 : Int32) : Prop := wp_X12_moveFrom_0 D post S a0 x1
set_option maxHeartbeats 4000000 in
set_option maxRecDepth 100000 in
theorem t_X12_moveFrom_18 {p : Program} {l : Launch} {e : Env} {s : State} {m : MethodId} {args : Array Value} {below : List Frame} {meth : Method} {c : Code} {D : wD} {cy : Nat → ClassId} {X : va_W} {A : Nat → Prop} {S0 : wS} {post : Int32 → wS → Prop} (F : CallFix p m c cX12_moveFrom 2 s args wz_X12_moveFrom RX12) (hr : meth.sig.returnType = (some .int)) (hlocks : meth.locks = false) (hK : wK D cy A s) : ∀ {S : wS} {H : Heap} {locs : List Loc} {ls : Array Slot} {t0 : Int32}, wp_X12_moveFrom_18 D post S t0 → wO D cy X A s.heap S H locs → wX D S0 S → lv_has ls 2 [] → W p l e r_X12_moveFrom s m args below meth c H locs 0 0 (MQ below (va_Qi (fun r S9 => wX D S0 S9 ∧ post r S9) (wB D cy X A) A) args s 0 0 A) (F0 m 18 ls [.int t0]) := by
  obtain ⟨hx, hb, hml, hown, hts⟩ := id F
  have hwg : ∀ w ∈ WG, w.before args s = true := fun w h => hts w (List.mem_cons_of_mem _ h)
  intro S H locs ls t0 hp hW hE hl
  unfold wp_X12_moveFrom_18 at hp
  exact w_iret hx hb hr hlocks hW ⟨hE, hp⟩ dX12_moveFrom_18
set_option maxHeartbeats 4000000 in
set_option maxRecDepth 100000 in
theorem t_X12_moveFrom_0 {p : Program} {l : Launch} {e : Env} {s : State} {m : MethodId} {args : Array Value} {below : List Frame} {meth : Method} {c : Code} {D : wD} {cy : Nat → ClassId} {X : va_W} {A : Nat → Prop} {S0 : wS} {post : Int32 → wS → Prop} (F : CallFix p m c cX12_moveFrom 2 s args wz_X12_moveFrom RX12) (hr : meth.sig.returnType = (some .int)) (hlocks : meth.locks = false) (hK : wK D cy A s) : ∀ {S : wS} {H : Heap} {locs : List Loc} {ls : Array Slot} {a0 : Nat} {x1 : Int32}, wp_X12_moveFrom_0 D post S a0 x1 → wO D cy X A s.heap S H locs → wX D S0 S → lv_has ls 2 [(0, .ref a0), (1, .int x1)] → wM D S a0 → sK S a0 = 17 → W p l e r_X12_moveFrom s m args below meth c H locs 0 0 (MQ below (va_Qi (fun r S9 => wX D S0 S9 ∧ post r S9) (wB D cy X A) A) args s 0 0 A) (F0 m 0 ls []) := by
  obtain ⟨hx, hb, hml, hown, hts⟩ := id F
  have hwg : ∀ w ∈ WG, w.before args s = true := fun w h => hts w (List.mem_cons_of_mem _ h)
  have i_17 : ∀ w ∈ u_ws RX12 TX12 43, w ∈ wz_X12_moveFrom := fun w h => List.mem_cons_of_mem _ (wu_17 w h)
  have k_20 := hwg _ wf_RX12_20
  intro S H locs ls a0 x1 hp hW hE hl hL_a0 hK_a0
  unfold wp_X12_moveFrom_0 at hp
  refine lv_aload_n hx hb dX12_moveFrom_0 rfl (lv_at hl 0 rfl) ?_
  refine lv_iload_n hx hb dX12_moveFrom_1 rfl (lv_at hl 1 rfl) ?_
  refine w_callI (va_runV (As := [.int x1]) (rest := []) F (c_X12_isAskedMove l hL_a0 hK_a0 hp H.size) (cwV (C := RX12) 1 hts (wg_V wm_RX12_293 wy_X12_isAskedMove) rfl rfl rfl (by decide +kernel) ⟨Nat.le_of_ble_eq_true rfl, Nat.le_of_ble_eq_true rfl⟩) (w_preV hK hW hL_a0 hK_a0 (by decide) rfl) rfl rfl hl.1 rfl (lv_room (Nat.le_of_ble_eq_true rfl)) dX12_moveFrom_2 ⟨Nat.le_of_ble_eq_true rfl, Nat.le_of_ble_eq_true rfl⟩) hW (fun r_1 S_2 H locs hp hW => ?_)
  obtain ⟨hX_S_2, hp⟩ := hp
  refine W.widen (k := 0) (n := 0) (by decide) (by decide) ?_
  have hE := hE.trans hX_S_2
  have hK_a0 : sK S_2 a0 = 17 := (hX_S_2.2 a0 hL_a0).1.trans hK_a0
  have hL_a0 : wM D S_2 a0 := hX_S_2.M hL_a0
  refine lv_if_eq (tgt := 17) hx hb dX12_moveFrom_5 (by decide) (fun c_3 => ?_) (fun c_3 => ?_)
  · replace hp := hp.1 c_3
    refine lv_iconst (v := 0) hx hb dX12_moveFrom_17 (by decide) ?_
    exact t_X12_moveFrom_18 F hr hlocks hK hp hW hE (lv_sub hl [] rfl)
  · replace hp := hp.2 c_3
    refine lv_aload_n hx hb dX12_moveFrom_8 rfl (lv_at hl 0 rfl) ?_
    obtain ⟨y_4, ey_4, hL_y_4, hK_y_4, hp⟩ := hp
    refine w_get (k := 17) (f := 4) (T := TX12) (v := .ref y_4) F hK hW hL_a0 hK_a0 (by decide) rfl rfl (by decide) i_17 k_20 (by rw [show wv 17 4 S_2 a0 = va_rf (sR S_2 a0 4) from rfl, ey_4]; rfl) dX12_moveFrom_9 ?_
    refine lv_iload_n hx hb dX12_moveFrom_12 rfl (lv_at hl 1 rfl) ?_
    obtain ⟨h_5, hp⟩ := hp
    refine w_ild F hK hW hL_y_4 hK_y_4 h_5 dX12_moveFrom_13 ?_
    refine lv_goto (tgt := 18) hx hb dX12_moveFrom_14 (by decide) ?_
    exact t_X12_moveFrom_18 F hr hlocks hK hp hW hE (lv_sub hl [] rfl)
set_option maxHeartbeats 4000000 in
set_option maxRecDepth 100000 in
theorem c_X12_moveFrom (l : Launch) {D : wD} {cy : Nat → ClassId} {X : va_W} {S0 : wS} {post : Int32 → wS → Prop} {a0 : Nat} {x1 : Int32} (hL_a0 : wM D S0 a0) (hK_a0 : sK S0 a0 = 17) (hp : wp_X12_moveFrom D post S0 a0 x1) : mI D cy X l yX12_moveFrom wz_X12_moveFrom r_X12_moveFrom [.ref a0, .int x1] S0 (fun r S9 => wX D S0 S9 ∧ post r S9) := by
  intro sz
  refine Met.ofW (cc := cX12_moveFrom) (maxL := 2) (ret := (some .int)) (by decide) rfl ?_
  intro p e s m args below meth c s₁ B hml hv
  obtain ⟨rfl, hsz, hP, hK, hD0, hRO⟩ := hv
  have hts := atoms_spec (ws := wz_X12_moveFrom) B.pre
  have hown : s.vm.findClass RX12 = some m.cls := findClass_of_methodNamed B.named
  subst hsz
  have hD := hD0.self (sz := s.heap.size)
  have F : CallFix p m c cX12_moveFrom 2 s _ wz_X12_moveFrom RX12 := ⟨B.exec, B.bytes, hml, hown, hts⟩
  have hr := B.returns
  have hlocks := B.notSynchronized
  generalize hAe : va_A (wL cy X S0) s.heap.size = A at hD hK ⊢
  have hA : ∀ q, s.heap.size ≤ q → A q := fun q h => by rw [← hAe]; exact Or.inr h
  have hW : wO D cy X A s.heap S0 s.heap [] := ⟨hP, hD, va_S.rf, hA, hRO⟩
  have hl := lv_entry ([.ref a0, .int x1]) (n := 2) (Nat.le_of_ble_eq_true rfl)
  rw [lg_entry_eq]
  generalize (lg_sl ([.ref a0, .int x1]) ++ List.replicate (2 - (lg_sl ([.ref a0, .int x1])).length) Slot.unset).toArray = ls at hl ⊢
  have hl : lv_has ls 2 [(0, .ref a0), (1, .int x1)] := hl
  unfold wp_X12_moveFrom at hp
  exact t_X12_moveFrom_0 F hr hlocks hK hp hW wX.rf (lv_sub hl [0, 1] rfl) hL_a0 hK_a0
def wp_X12_moveTo_18 (D : wD) (post : Int32 → wS → Prop)  (S : wS) (t0 : Int32) : Prop :=
post t0 S
def wp_X12_moveTo_0 (D : wD) (post : Int32 → wS → Prop)  (S : wS) (a0 : Nat) (x1 : Int32) : Prop :=
wp_X12_isAskedMove D (fun r_1 S_2 => 
((r_1 = 0 → wp_X12_moveTo_18 D post S_2 (0 : Int32)) ∧
 (¬ r_1 = 0 → ∃ y_4 : Nat, sR S_2 a0 5 = some y_4 ∧ wM D S_2 y_4 ∧ sK S_2 y_4 = 21 ∧
vp_in x1 (sN S_2 y_4) ∧
wp_X12_moveTo_18 D post S_2 (sI S_2 y_4 (x1).toNatClampNeg)))) S a0 x1
abbrev r_X12_moveTo : Room := { frames := 9, cells := 0, slots := 0, locals := 219 }
def wp_X12_moveTo (D : wD) (post : Int32 → wS → Prop) (S : wS) (a0 : Nat) (x1 : Int32) : Prop := wp_X12_moveTo_0 D post S a0 x1
set_option maxHeartbeats 4000000 in
set_option maxRecDepth 100000 in
theorem t_X12_moveTo_18 {p : Program} {l : Launch} {e : Env} {s : State} {m : MethodId} {args : Array Value} {below : List Frame} {meth : Method} {c : Code} {D : wD} {cy : Nat → ClassId} {X : va_W} {A : Nat → Prop} {S0 : wS} {post : Int32 → wS → Prop} (F : CallFix p m c cX12_moveTo 2 s args wz_X12_moveTo RX12) (hr : meth.sig.returnType = (some .int)) (hlocks : meth.locks = false) (hK : wK D cy A s) : ∀ {S : wS} {H : Heap} {locs : List Loc} {ls : Array Slot} {t0 : Int32}, wp_X12_moveTo_18 D post S t0 → wO D cy X A s.heap S H locs → wX D S0 S → lv_has ls 2 [] → W p l e r_X12_moveTo s m args below meth c H locs 0 0 (MQ below (va_Qi (fun r S9 => wX D S0 S9 ∧ post r S9) (wB D cy X A) A) args s 0 0 A) (F0 m 18 ls [.int t0]) := by
  obtain ⟨hx, hb, hml, hown, hts⟩ := id F
  have hwg : ∀ w ∈ WG, w.before args s = true := fun w h => hts w (List.mem_cons_of_mem _ h)
  intro S H locs ls t0 hp hW hE hl
  unfold wp_X12_moveTo_18 at hp
  exact w_iret hx hb hr hlocks hW ⟨hE, hp⟩ dX12_moveTo_18
set_option maxHeartbeats 4000000 in
set_option maxRecDepth 100000 in
theorem t_X12_moveTo_0 {p : Program} {l : Launch} {e : Env} {s : State} {m : MethodId} {args : Array Value} {below : List Frame} {meth : Method} {c : Code} {D : wD} {cy : Nat → ClassId} {X : va_W} {A : Nat → Prop} {S0 : wS} {post : Int32 → wS → Prop} (F : CallFix p m c cX12_moveTo 2 s args wz_X12_moveTo RX12) (hr : meth.sig.returnType = (some .int)) (hlocks : meth.locks = false) (hK : wK D cy A s) : ∀ {S : wS} {H : Heap} {locs : List Loc} {ls : Array Slot} {a0 : Nat} {x1 : Int32}, wp_X12_moveTo_0 D post S a0 x1 → wO D cy X A s.heap S H locs → wX D S0 S → lv_has ls 2 [(0, .ref a0), (1, .int x1)] → wM D S a0 → sK S a0 = 17 → W p l e r_X12_moveTo s m args below meth c H locs 0 0 (MQ below (va_Qi (fun r S9 => wX D S0 S9 ∧ post r S9) (wB D cy X A) A) args s 0 0 A) (F0 m 0 ls []) := by
  obtain ⟨hx, hb, hml, hown, hts⟩ := id F
  have hwg : ∀ w ∈ WG, w.before args s = true := fun w h => hts w (List.mem_cons_of_mem _ h)
  have i_17 : ∀ w ∈ u_ws RX12 TX12 43, w ∈ wz_X12_moveTo := fun w h => List.mem_cons_of_mem _ (wu_17 w h)
  have k_23 := hwg _ wf_RX12_23
  intro S H locs ls a0 x1 hp hW hE hl hL_a0 hK_a0
  unfold wp_X12_moveTo_0 at hp
  refine lv_aload_n hx hb dX12_moveTo_0 rfl (lv_at hl 0 rfl) ?_
  refine lv_iload_n hx hb dX12_moveTo_1 rfl (lv_at hl 1 rfl) ?_
  refine w_callI (va_runV (As := [.int x1]) (rest := []) F (c_X12_isAskedMove l hL_a0 hK_a0 hp H.size) (cwV (C := RX12) 1 hts (wg_V wm_RX12_293 wy_X12_isAskedMove) rfl rfl rfl (by decide +kernel) ⟨Nat.le_of_ble_eq_true rfl, Nat.le_of_ble_eq_true rfl⟩) (w_preV hK hW hL_a0 hK_a0 (by decide) rfl) rfl rfl hl.1 rfl (lv_room (Nat.le_of_ble_eq_true rfl)) dX12_moveTo_2 ⟨Nat.le_of_ble_eq_true rfl, Nat.le_of_ble_eq_true rfl⟩) hW (fun r_1 S_2 H locs hp hW => ?_)
  obtain ⟨hX_S_2, hp⟩ := hp
  refine W.widen (k := 0) (n := 0) (by decide) (by decide) ?_
  have hE := hE.trans hX_S_2
  have hK_a0 : sK S_2 a0 = 17 := (hX_S_2.2 a0 hL_a0).1.trans hK_a0
  have hL_a0 : wM D S_2 a0 := hX_S_2.M hL_a0
  refine lv_if_eq (tgt := 17) hx hb dX12_moveTo_5 (by decide) (fun c_3 => ?_) (fun c_3 => ?_)
  · replace hp := hp.1 c_3
    refine lv_iconst (v := 0) hx hb dX12_moveTo_17 (by decide) ?_
    exact t_X12_moveTo_18 F hr hlocks hK hp hW hE (lv_sub hl [] rfl)
  · replace hp := hp.2 c_3
    refine lv_aload_n hx hb dX12_moveTo_8 rfl (lv_at hl 0 rfl) ?_
    obtain ⟨y_4, ey_4, hL_y_4, hK_y_4, hp⟩ := hp
    refine w_get (k := 17) (f := 5) (T := TX12) (v := .ref y_4) F hK hW hL_a0 hK_a0 (by decide) rfl rfl (by decide) i_17 k_23 (by rw [show wv 17 5 S_2 a0 = va_rf (sR S_2 a0 5) from rfl, ey_4]; rfl) dX12_moveTo_9 ?_
    refine lv_iload_n hx hb dX12_moveTo_12 rfl (lv_at hl 1 rfl) ?_
    obtain ⟨h_5, hp⟩ := hp
    refine w_ild F hK hW hL_y_4 hK_y_4 h_5 dX12_moveTo_13 ?_
    refine lv_goto (tgt := 18) hx hb dX12_moveTo_14 (by decide) ?_
    exact t_X12_moveTo_18 F hr hlocks hK hp hW hE (lv_sub hl [] rfl)
set_option maxHeartbeats 4000000 in
set_option maxRecDepth 100000 in
theorem c_X12_moveTo (l : Launch) {D : wD} {cy : Nat → ClassId} {X : va_W} {S0 : wS} {post : Int32 → wS → Prop} {a0 : Nat} {x1 : Int32} (hL_a0 : wM D S0 a0) (hK_a0 : sK S0 a0 = 17) (hp : wp_X12_moveTo D post S0 a0 x1) : mI D cy X l yX12_moveTo wz_X12_moveTo r_X12_moveTo [.ref a0, .int x1] S0 (fun r S9 => wX D S0 S9 ∧ post r S9) := by
  intro sz
  refine Met.ofW (cc := cX12_moveTo) (maxL := 2) (ret := (some .int)) (by decide) rfl ?_
  intro p e s m args below meth c s₁ B hml hv
  obtain ⟨rfl, hsz, hP, hK, hD0, hRO⟩ := hv
  have hts := atoms_spec (ws := wz_X12_moveTo) B.pre
  have hown : s.vm.findClass RX12 = some m.cls := findClass_of_methodNamed B.named
  subst hsz
  have hD := hD0.self (sz := s.heap.size)
  have F : CallFix p m c cX12_moveTo 2 s _ wz_X12_moveTo RX12 := ⟨B.exec, B.bytes, hml, hown, hts⟩
  have hr := B.returns
  have hlocks := B.notSynchronized
  generalize hAe : va_A (wL cy X S0) s.heap.size = A at hD hK ⊢
  have hA : ∀ q, s.heap.size ≤ q → A q := fun q h => by rw [← hAe]; exact Or.inr h
  have hW : wO D cy X A s.heap S0 s.heap [] := ⟨hP, hD, va_S.rf, hA, hRO⟩
  have hl := lv_entry ([.ref a0, .int x1]) (n := 2) (Nat.le_of_ble_eq_true rfl)
  rw [lg_entry_eq]
  generalize (lg_sl ([.ref a0, .int x1]) ++ List.replicate (2 - (lg_sl ([.ref a0, .int x1])).length) Slot.unset).toArray = ls at hl ⊢
  have hl : lv_has ls 2 [(0, .ref a0), (1, .int x1)] := hl
  unfold wp_X12_moveTo at hp
  exact t_X12_moveTo_0 F hr hlocks hK hp hW wX.rf (lv_sub hl [0, 1] rfl) hL_a0 hK_a0
def wp_X12_newBoard_26 (D : wD) (post : Int32 → wS → Prop)  (S : wS) (a0 : Nat) (x1 : Int32) (x2 : Int32) (b0 : Nat) (t1 : Int32) : Prop :=
wp_X12_can D (fun r_1 S_2 => 
((¬ r_1 = 0 → ∀ S_4 : wS, S_4 = uI S_2 a0 1 x1 →
∀ S_5 : wS, S_5 = uI S_4 a0 2 x2 →
wp_X12_resets D (fun S_7 => 
wp_X12_squares D (fun r_8 S_9 => 
post r_8 S_9) S_7 a0) S_5 a0) ∧
 (r_1 = 0 → post (0 : Int32) S_2))) S b0 t1 (1 : Int32)
def wp_X12_newBoard_25 (D : wD) (post : Int32 → wS → Prop)  (S : wS) (a0 : Nat) (x1 : Int32) (x2 : Int32) (b0 : Nat) : Prop :=
wp_X12_newBoard_26 D post S a0 x1 x2 b0 (0 : Int32)
def wp_X12_newBoard_0 (D : wD) (post : Int32 → wS → Prop)  (S : wS) (a0 : Nat) (x1 : Int32) (x2 : Int32) : Prop :=
wp_X12_in D (fun r_1 S_2 => 
((r_1 = 0 → wp_X12_newBoard_25 D post S_2 a0 x1 x2 a0) ∧
 (¬ r_1 = 0 → wp_X12_in D (fun r_4 S_5 => 
((r_4 = 0 → wp_X12_newBoard_25 D post S_5 a0 x1 x2 a0) ∧
 (¬ r_4 = 0 → wp_X12_newBoard_26 D post S_5 a0 x1 x2 a0 (1 : Int32)))) S_2 x2 (4 : Int32) (8 : Int32)))) S x1 (4 : Int32) (8 : Int32)
abbrev r_X12_newBoard : Room := { frames := 1, cells := 0, slots := 0, locals := 22 }
def wp_X12_newBoard (D : wD) (post : Int32 → wS → Prop) (S : wS) (a0 : Nat) (x1 : Int32) (x2 : Int32) : Prop := wp_X12_newBoard_0 D post S a0 x1 x2
set_option maxHeartbeats 4000000 in
set_option maxRecDepth 100000 in
theorem t_X12_newBoard_26 {p : Program} {l : Launch} {e : Env} {s : State} {m : MethodId} {args : Array Value} {below : List Frame} {meth : Method} {c : Code} {D : wD} {cy : Nat → ClassId} {X : va_W} {A : Nat → Prop} {S0 : wS} {post : Int32 → wS → Prop} (F : CallFix p m c cX12_newBoard 3 s args wz_X12_newBoard RX12) (hr : meth.sig.returnType = (some .int)) (hlocks : meth.locks = false) (hK : wK D cy A s) : ∀ {S : wS} {H : Heap} {locs : List Loc} {ls : Array Slot} {a0 : Nat} {x1 : Int32} {x2 : Int32} {b0 : Nat} {t1 : Int32}, wp_X12_newBoard_26 D post S a0 x1 x2 b0 t1 → wO D cy X A s.heap S H locs → wX D S0 S → lv_has ls 3 [(0, .ref a0), (1, .int x1), (2, .int x2)] → wM D S a0 → sK S a0 = 17 → wM D S b0 → sK S b0 = 17 → W p l e r_X12_newBoard s m args below meth c H locs 0 0 (MQ below (va_Qi (fun r S9 => wX D S0 S9 ∧ post r S9) (wB D cy X A) A) args s 0 0 A) (F0 m 26 ls [.int t1, .ref b0]) := by
  obtain ⟨hx, hb, hml, hown, hts⟩ := id F
  have hwg : ∀ w ∈ WG, w.before args s = true := fun w h => hts w (List.mem_cons_of_mem _ h)
  have i_17 : ∀ w ∈ u_ws RX12 TX12 43, w ∈ wz_X12_newBoard := fun w h => List.mem_cons_of_mem _ (wu_17 w h)
  have k_13 := hwg _ wf_RX12_13
  have k_9 := hwg _ wf_RX12_9
  intro S H locs ls a0 x1 x2 b0 t1 hp hW hE hl hL_a0 hK_a0 hL_b0 hK_b0
  unfold wp_X12_newBoard_26 at hp
  refine lv_iconst (v := 1) hx hb dX12_newBoard_26 (by decide) ?_
  refine w_callI (va_runV (As := [.int t1, .int (1 : Int32)]) (rest := []) F (c_X12_can l hL_b0 hK_b0 hp H.size) (cwV (C := RX12) 2 hts (wg_V wm_RX12_237 wy_X12_can) rfl rfl rfl (by decide +kernel) ⟨Nat.le_of_ble_eq_true rfl, Nat.le_of_ble_eq_true rfl⟩) (w_preV hK hW hL_b0 hK_b0 (by decide) rfl) rfl rfl hl.1 rfl (lv_room (Nat.le_of_ble_eq_true rfl)) dX12_newBoard_27 ⟨Nat.le_of_ble_eq_true rfl, Nat.le_of_ble_eq_true rfl⟩) hW (fun r_1 S_2 H locs hp hW => ?_)
  obtain ⟨hX_S_2, hp⟩ := hp
  refine W.widen (k := 0) (n := 0) (by decide) (by decide) ?_
  have hE := hE.trans hX_S_2
  have hK_a0 : sK S_2 a0 = 17 := (hX_S_2.2 a0 hL_a0).1.trans hK_a0
  have hL_a0 : wM D S_2 a0 := hX_S_2.M hL_a0
  refine lv_if_ne (tgt := 35) hx hb dX12_newBoard_30 (by decide) (fun c_3 => ?_) (fun c_3 => ?_)
  · replace hp := hp.1 c_3
    refine lv_aload_n hx hb dX12_newBoard_35 rfl (lv_at hl 0 rfl) ?_
    refine lv_iload_n hx hb dX12_newBoard_36 rfl (lv_at hl 1 rfl) ?_
    refine w_putI (k := 17) (f := 1) (T := TX12) F hK hW hL_a0 hK_a0 (by decide) (by decide) rfl rfl (by decide) i_17 tyX12 tyX12_ok nmX12 k_9 rfl rfl (ty := .int) rfl rfl rfl dX12_newBoard_37 (fun H locs hW => ?_)
    obtain ⟨S_4, eS_4⟩ : ∃ z : wS, z = uI S_2 a0 1 x1 := ⟨_, rfl⟩
    rw [← eS_4] at hW
    replace hp := hp S_4 eS_4
    have hX_S_4 : wX D S_2 S_4 := by rw [eS_4]; exact wX_uI
    have hE := hE.trans hX_S_4
    have hK_a0 : sK S_4 a0 = 17 := (hX_S_4.2 a0 hL_a0).1.trans hK_a0
    have hL_a0 : wM D S_4 a0 := hX_S_4.M hL_a0
    refine lv_aload_n hx hb dX12_newBoard_40 rfl (lv_at hl 0 rfl) ?_
    refine lv_iload_n hx hb dX12_newBoard_41 rfl (lv_at hl 2 rfl) ?_
    refine w_putI (k := 17) (f := 2) (T := TX12) F hK hW hL_a0 hK_a0 (by decide) (by decide) rfl rfl (by decide) i_17 tyX12 tyX12_ok nmX12 k_13 rfl rfl (ty := .int) rfl rfl rfl dX12_newBoard_42 (fun H locs hW => ?_)
    obtain ⟨S_5, eS_5⟩ : ∃ z : wS, z = uI S_4 a0 2 x2 := ⟨_, rfl⟩
    rw [← eS_5] at hW
    replace hp := hp S_5 eS_5
    have hX_S_5 : wX D S_4 S_5 := by rw [eS_5]; exact wX_uI
    have hE := hE.trans hX_S_5
    have hK_a0 : sK S_5 a0 = 17 := (hX_S_5.2 a0 hL_a0).1.trans hK_a0
    have hL_a0 : wM D S_5 a0 := hX_S_5.M hL_a0
    refine lv_aload_n hx hb dX12_newBoard_45 rfl (lv_at hl 0 rfl) ?_
    refine w_callV (va_runV (As := []) (rest := []) F (c_X12_resets l hL_a0 hK_a0 hp H.size) (cwV (C := RX12) 0 hts (wg_V wm_RX12_107 wy_X12_resets) rfl rfl rfl (by decide +kernel) ⟨Nat.le_of_ble_eq_true rfl, Nat.le_of_ble_eq_true rfl⟩) (w_preV hK hW hL_a0 hK_a0 (by decide) rfl) rfl rfl hl.1 rfl (lv_room (Nat.le_of_ble_eq_true rfl)) dX12_newBoard_46 ⟨Nat.le_of_ble_eq_true rfl, Nat.le_of_ble_eq_true rfl⟩) hW (fun S_7 H locs hp hW => ?_)
    obtain ⟨hX_S_7, hp⟩ := hp
    refine W.widen (k := 0) (n := 0) (by decide) (by decide) ?_
    have hE := hE.trans hX_S_7
    have hK_a0 : sK S_7 a0 = 17 := (hX_S_7.2 a0 hL_a0).1.trans hK_a0
    have hL_a0 : wM D S_7 a0 := hX_S_7.M hL_a0
    refine lv_aload_n hx hb dX12_newBoard_49 rfl (lv_at hl 0 rfl) ?_
    refine w_callI (va_runV (As := []) (rest := []) F (c_X12_squares l hL_a0 hK_a0 hp H.size) (cwV (C := RX12) 0 hts (wg_V wm_RX12_113 wy_X12_squares) rfl rfl rfl (by decide +kernel) ⟨Nat.le_of_ble_eq_true rfl, Nat.le_of_ble_eq_true rfl⟩) (w_preV hK hW hL_a0 hK_a0 (by decide) rfl) rfl rfl hl.1 rfl (lv_room (Nat.le_of_ble_eq_true rfl)) dX12_newBoard_50 ⟨Nat.le_of_ble_eq_true rfl, Nat.le_of_ble_eq_true rfl⟩) hW (fun r_8 S_9 H locs hp hW => ?_)
    obtain ⟨hX_S_9, hp⟩ := hp
    refine W.widen (k := 0) (n := 0) (by decide) (by decide) ?_
    have hE := hE.trans hX_S_9
    have hK_a0 : sK S_9 a0 = 17 := (hX_S_9.2 a0 hL_a0).1.trans hK_a0
    have hL_a0 : wM D S_9 a0 := hX_S_9.M hL_a0
    exact w_iret hx hb hr hlocks hW ⟨hE, hp⟩ dX12_newBoard_53
  · replace hp := hp.2 c_3
    refine lv_iconst (v := 0) hx hb dX12_newBoard_33 (by decide) ?_
    exact w_iret hx hb hr hlocks hW ⟨hE, hp⟩ dX12_newBoard_34
set_option maxHeartbeats 4000000 in
set_option maxRecDepth 100000 in
theorem t_X12_newBoard_25 {p : Program} {l : Launch} {e : Env} {s : State} {m : MethodId} {args : Array Value} {below : List Frame} {meth : Method} {c : Code} {D : wD} {cy : Nat → ClassId} {X : va_W} {A : Nat → Prop} {S0 : wS} {post : Int32 → wS → Prop} (F : CallFix p m c cX12_newBoard 3 s args wz_X12_newBoard RX12) (hr : meth.sig.returnType = (some .int)) (hlocks : meth.locks = false) (hK : wK D cy A s) : ∀ {S : wS} {H : Heap} {locs : List Loc} {ls : Array Slot} {a0 : Nat} {x1 : Int32} {x2 : Int32} {b0 : Nat}, wp_X12_newBoard_25 D post S a0 x1 x2 b0 → wO D cy X A s.heap S H locs → wX D S0 S → lv_has ls 3 [(0, .ref a0), (1, .int x1), (2, .int x2)] → wM D S a0 → sK S a0 = 17 → wM D S b0 → sK S b0 = 17 → W p l e r_X12_newBoard s m args below meth c H locs 0 0 (MQ below (va_Qi (fun r S9 => wX D S0 S9 ∧ post r S9) (wB D cy X A) A) args s 0 0 A) (F0 m 25 ls [.ref b0]) := by
  obtain ⟨hx, hb, hml, hown, hts⟩ := id F
  have hwg : ∀ w ∈ WG, w.before args s = true := fun w h => hts w (List.mem_cons_of_mem _ h)
  intro S H locs ls a0 x1 x2 b0 hp hW hE hl hL_a0 hK_a0 hL_b0 hK_b0
  unfold wp_X12_newBoard_25 at hp
  refine lv_iconst (v := 0) hx hb dX12_newBoard_25 (by decide) ?_
  exact t_X12_newBoard_26 F hr hlocks hK hp hW hE (lv_sub hl [0, 1, 2] rfl) hL_a0 hK_a0 hL_b0 hK_b0
set_option maxHeartbeats 4000000 in
set_option maxRecDepth 100000 in
theorem t_X12_newBoard_0 {p : Program} {l : Launch} {e : Env} {s : State} {m : MethodId} {args : Array Value} {below : List Frame} {meth : Method} {c : Code} {D : wD} {cy : Nat → ClassId} {X : va_W} {A : Nat → Prop} {S0 : wS} {post : Int32 → wS → Prop} (F : CallFix p m c cX12_newBoard 3 s args wz_X12_newBoard RX12) (hr : meth.sig.returnType = (some .int)) (hlocks : meth.locks = false) (hK : wK D cy A s) : ∀ {S : wS} {H : Heap} {locs : List Loc} {ls : Array Slot} {a0 : Nat} {x1 : Int32} {x2 : Int32}, wp_X12_newBoard_0 D post S a0 x1 x2 → wO D cy X A s.heap S H locs → wX D S0 S → lv_has ls 3 [(0, .ref a0), (1, .int x1), (2, .int x2)] → wM D S a0 → sK S a0 = 17 → W p l e r_X12_newBoard s m args below meth c H locs 0 0 (MQ below (va_Qi (fun r S9 => wX D S0 S9 ∧ post r S9) (wB D cy X A) A) args s 0 0 A) (F0 m 0 ls []) := by
  obtain ⟨hx, hb, hml, hown, hts⟩ := id F
  have hwg : ∀ w ∈ WG, w.before args s = true := fun w h => hts w (List.mem_cons_of_mem _ h)
  intro S H locs ls a0 x1 x2 hp hW hE hl hL_a0 hK_a0
  unfold wp_X12_newBoard_0 at hp
  refine lv_aload_n hx hb dX12_newBoard_0 rfl (lv_at hl 0 rfl) ?_
  refine lv_iload_n hx hb dX12_newBoard_1 rfl (lv_at hl 1 rfl) ?_
  refine lv_iconst (v := 4) hx hb dX12_newBoard_2 (by decide) ?_
  refine lv_bipush (v := 8) hx hb dX12_newBoard_3 (by decide) ?_
  refine w_callI (va_runS (As := [.int x1, .int (4 : Int32), .int (8 : Int32)]) (rest := [.ref a0]) F (c_X12_in l hp H.size) (va_cwS 3 hts (wg_S wm_RX12_117 wy_X12_in) rfl rfl rfl (by decide +kernel) ⟨Nat.le_of_ble_eq_true rfl, Nat.le_of_ble_eq_true rfl⟩) (w_preS hK hW) rfl rfl hl.1 rfl (lv_room (Nat.le_of_ble_eq_true rfl)) dX12_newBoard_5 ⟨Nat.le_of_ble_eq_true rfl, Nat.le_of_ble_eq_true rfl⟩) hW (fun r_1 S_2 H locs hp hW => ?_)
  obtain ⟨hX_S_2, hp⟩ := hp
  refine W.widen (k := 0) (n := 0) (by decide) (by decide) ?_
  have hE := hE.trans hX_S_2
  have hK_a0 : sK S_2 a0 = 17 := (hX_S_2.2 a0 hL_a0).1.trans hK_a0
  have hL_a0 : wM D S_2 a0 := hX_S_2.M hL_a0
  refine lv_if_eq (tgt := 25) hx hb dX12_newBoard_8 (by decide) (fun c_3 => ?_) (fun c_3 => ?_)
  · replace hp := hp.1 c_3
    exact t_X12_newBoard_25 F hr hlocks hK hp hW hE (lv_sub hl [0, 1, 2] rfl) hL_a0 hK_a0 hL_a0 hK_a0
  · replace hp := hp.2 c_3
    refine lv_iload_n hx hb dX12_newBoard_11 rfl (lv_at hl 2 rfl) ?_
    refine lv_iconst (v := 4) hx hb dX12_newBoard_12 (by decide) ?_
    refine lv_bipush (v := 8) hx hb dX12_newBoard_13 (by decide) ?_
    refine w_callI (va_runS (As := [.int x2, .int (4 : Int32), .int (8 : Int32)]) (rest := [.ref a0]) F (c_X12_in l hp H.size) (va_cwS 3 hts (wg_S wm_RX12_117 wy_X12_in) rfl rfl rfl (by decide +kernel) ⟨Nat.le_of_ble_eq_true rfl, Nat.le_of_ble_eq_true rfl⟩) (w_preS hK hW) rfl rfl hl.1 rfl (lv_room (Nat.le_of_ble_eq_true rfl)) dX12_newBoard_15 ⟨Nat.le_of_ble_eq_true rfl, Nat.le_of_ble_eq_true rfl⟩) hW (fun r_4 S_5 H locs hp hW => ?_)
    obtain ⟨hX_S_5, hp⟩ := hp
    refine W.widen (k := 0) (n := 0) (by decide) (by decide) ?_
    have hE := hE.trans hX_S_5
    have hK_a0 : sK S_5 a0 = 17 := (hX_S_5.2 a0 hL_a0).1.trans hK_a0
    have hL_a0 : wM D S_5 a0 := hX_S_5.M hL_a0
    refine lv_if_eq (tgt := 25) hx hb dX12_newBoard_18 (by decide) (fun c_6 => ?_) (fun c_6 => ?_)
    · replace hp := hp.1 c_6
      exact t_X12_newBoard_25 F hr hlocks hK hp hW hE (lv_sub hl [0, 1, 2] rfl) hL_a0 hK_a0 hL_a0 hK_a0
    · replace hp := hp.2 c_6
      refine lv_iconst (v := 1) hx hb dX12_newBoard_21 (by decide) ?_
      refine lv_goto (tgt := 26) hx hb dX12_newBoard_22 (by decide) ?_
      exact t_X12_newBoard_26 F hr hlocks hK hp hW hE (lv_sub hl [0, 1, 2] rfl) hL_a0 hK_a0 hL_a0 hK_a0
set_option maxHeartbeats 4000000 in
set_option maxRecDepth 100000 in
theorem c_X12_newBoard (l : Launch) {D : wD} {cy : Nat → ClassId} {X : va_W} {S0 : wS} {post : Int32 → wS → Prop} {a0 : Nat} {x1 : Int32} {x2 : Int32} (hL_a0 : wM D S0 a0) (hK_a0 : sK S0 a0 = 17) (hp : wp_X12_newBoard D post S0 a0 x1 x2) : mI D cy X l yX12_newBoard wz_X12_newBoard r_X12_newBoard [.ref a0, .int x1, .int x2] S0 (fun r S9 => wX D S0 S9 ∧ post r S9) := by
  intro sz
  refine Met.ofW (cc := cX12_newBoard) (maxL := 3) (ret := (some .int)) (by decide) rfl ?_
  intro p e s m args below meth c s₁ B hml hv
  obtain ⟨rfl, hsz, hP, hK, hD0, hRO⟩ := hv
  have hts := atoms_spec (ws := wz_X12_newBoard) B.pre
  have hown : s.vm.findClass RX12 = some m.cls := findClass_of_methodNamed B.named
  subst hsz
  have hD := hD0.self (sz := s.heap.size)
  have F : CallFix p m c cX12_newBoard 3 s _ wz_X12_newBoard RX12 := ⟨B.exec, B.bytes, hml, hown, hts⟩
  have hr := B.returns
  have hlocks := B.notSynchronized
  generalize hAe : va_A (wL cy X S0) s.heap.size = A at hD hK ⊢
  have hA : ∀ q, s.heap.size ≤ q → A q := fun q h => by rw [← hAe]; exact Or.inr h
  have hW : wO D cy X A s.heap S0 s.heap [] := ⟨hP, hD, va_S.rf, hA, hRO⟩
  have hl := lv_entry ([.ref a0, .int x1, .int x2]) (n := 3) (Nat.le_of_ble_eq_true rfl)
  rw [lg_entry_eq]
  generalize (lg_sl ([.ref a0, .int x1, .int x2]) ++ List.replicate (3 - (lg_sl ([.ref a0, .int x1, .int x2])).length) Slot.unset).toArray = ls at hl ⊢
  have hl : lv_has ls 3 [(0, .ref a0), (1, .int x1), (2, .int x2)] := hl
  unfold wp_X12_newBoard at hp
  exact t_X12_newBoard_0 F hr hlocks hK hp hW wX.rf (lv_sub hl [0, 1, 2] rfl) hL_a0 hK_a0
def wp_X12_outputByte_29 (D : wD) (post : Int32 → wS → Prop)  (S : wS) (t0 : Int32) : Prop :=
post t0 S
def wp_X12_outputByte_0 (D : wD) (post : Int32 → wS → Prop)  (S : wS) (a0 : Nat) (x1 : Int32) : Prop :=
wp_X12_in D (fun r_1 S_2 => 
wp_X12_can D (fun r_3 S_4 => 
((r_3 = 0 → wp_X12_outputByte_29 D post S_4 (0 : Int32)) ∧
 (¬ r_3 = 0 → ∃ y_6 : Nat, sR S_4 a0 14 = some y_6 ∧ wM D S_4 y_6 ∧ sK S_4 y_6 = 21 ∧
vp_in x1 (sN S_4 y_6) ∧
wp_X12_outputByte_29 D post S_4 (sI S_4 y_6 (x1).toNatClampNeg)))) S_2 a0 r_1 (1 : Int32)) S x1 (0 : Int32) ((sI S a0 15) - (1 : Int32))
abbrev r_X12_outputByte : Room := { frames := 1, cells := 0, slots := 0, locals := 22 }
def wp_X12_outputByte (D : wD) (post : Int32 → wS → Prop) (S : wS) (a0 : Nat) (x1 : Int32) : Prop := wp_X12_outputByte_0 D post S a0 x1
set_option maxHeartbeats 4000000 in
set_option maxRecDepth 100000 in
theorem t_X12_outputByte_29 {p : Program} {l : Launch} {e : Env} {s : State} {m : MethodId} {args : Array Value} {below : List Frame} {meth : Method} {c : Code} {D : wD} {cy : Nat → ClassId} {X : va_W} {A : Nat → Prop} {S0 : wS} {post : Int32 → wS → Prop} (F : CallFix p m c cX12_outputByte 2 s args wz_X12_outputByte RX12) (hr : meth.sig.returnType = (some .int)) (hlocks : meth.locks = false) (hK : wK D cy A s) : ∀ {S : wS} {H : Heap} {locs : List Loc} {ls : Array Slot} {t0 : Int32}, wp_X12_outputByte_29 D post S t0 → wO D cy X A s.heap S H locs → wX D S0 S → lv_has ls 2 [] → W p l e r_X12_outputByte s m args below meth c H locs 0 0 (MQ below (va_Qi (fun r S9 => wX D S0 S9 ∧ post r S9) (wB D cy X A) A) args s 0 0 A) (F0 m 29 ls [.int t0]) := by
  obtain ⟨hx, hb, hml, hown, hts⟩ := id F
  have hwg : ∀ w ∈ WG, w.before args s = true := fun w h => hts w (List.mem_cons_of_mem _ h)
  intro S H locs ls t0 hp hW hE hl
  unfold wp_X12_outputByte_29 at hp
  exact w_iret hx hb hr hlocks hW ⟨hE, hp⟩ dX12_outputByte_29
set_option maxHeartbeats 4000000 in
set_option maxRecDepth 100000 in
theorem t_X12_outputByte_0 {p : Program} {l : Launch} {e : Env} {s : State} {m : MethodId} {args : Array Value} {below : List Frame} {meth : Method} {c : Code} {D : wD} {cy : Nat → ClassId} {X : va_W} {A : Nat → Prop} {S0 : wS} {post : Int32 → wS → Prop} (F : CallFix p m c cX12_outputByte 2 s args wz_X12_outputByte RX12) (hr : meth.sig.returnType = (some .int)) (hlocks : meth.locks = false) (hK : wK D cy A s) : ∀ {S : wS} {H : Heap} {locs : List Loc} {ls : Array Slot} {a0 : Nat} {x1 : Int32}, wp_X12_outputByte_0 D post S a0 x1 → wO D cy X A s.heap S H locs → wX D S0 S → lv_has ls 2 [(0, .ref a0), (1, .int x1)] → wM D S a0 → sK S a0 = 17 → W p l e r_X12_outputByte s m args below meth c H locs 0 0 (MQ below (va_Qi (fun r S9 => wX D S0 S9 ∧ post r S9) (wB D cy X A) A) args s 0 0 A) (F0 m 0 ls []) := by
  obtain ⟨hx, hb, hml, hown, hts⟩ := id F
  have hwg : ∀ w ∈ WG, w.before args s = true := fun w h => hts w (List.mem_cons_of_mem _ h)
  have i_17 : ∀ w ∈ u_ws RX12 TX12 43, w ∈ wz_X12_outputByte := fun w h => List.mem_cons_of_mem _ (wu_17 w h)
  have k_244 := hwg _ wf_RX12_244
  have k_45 := hwg _ wf_RX12_45
  intro S H locs ls a0 x1 hp hW hE hl hL_a0 hK_a0
  unfold wp_X12_outputByte_0 at hp
  refine lv_aload_n hx hb dX12_outputByte_0 rfl (lv_at hl 0 rfl) ?_
  refine lv_iload_n hx hb dX12_outputByte_1 rfl (lv_at hl 1 rfl) ?_
  refine lv_iconst (v := 0) hx hb dX12_outputByte_2 (by decide) ?_
  refine lv_aload_n hx hb dX12_outputByte_3 rfl (lv_at hl 0 rfl) ?_
  refine w_get (k := 17) (f := 15) (T := TX12) (v := .int (sI S a0 15)) F hK hW hL_a0 hK_a0 (by decide) rfl rfl (by decide) i_17 k_244 rfl dX12_outputByte_4 ?_
  refine lv_iconst (v := 1) hx hb dX12_outputByte_7 (by decide) ?_
  refine lv_isub hx hb dX12_outputByte_8 ?_
  refine w_callI (va_runS (As := [.int x1, .int (0 : Int32), .int ((sI S a0 15) - (1 : Int32))]) (rest := [.ref a0]) F (c_X12_in l hp H.size) (va_cwS 3 hts (wg_S wm_RX12_117 wy_X12_in) rfl rfl rfl (by decide +kernel) ⟨Nat.le_of_ble_eq_true rfl, Nat.le_of_ble_eq_true rfl⟩) (w_preS hK hW) rfl rfl hl.1 rfl (lv_room (Nat.le_of_ble_eq_true rfl)) dX12_outputByte_9 ⟨Nat.le_of_ble_eq_true rfl, Nat.le_of_ble_eq_true rfl⟩) hW (fun r_1 S_2 H locs hp hW => ?_)
  obtain ⟨hX_S_2, hp⟩ := hp
  refine W.widen (k := 0) (n := 0) (by decide) (by decide) ?_
  have hE := hE.trans hX_S_2
  have hK_a0 : sK S_2 a0 = 17 := (hX_S_2.2 a0 hL_a0).1.trans hK_a0
  have hL_a0 : wM D S_2 a0 := hX_S_2.M hL_a0
  refine lv_iconst (v := 1) hx hb dX12_outputByte_12 (by decide) ?_
  refine w_callI (va_runV (As := [.int r_1, .int (1 : Int32)]) (rest := []) F (c_X12_can l hL_a0 hK_a0 hp H.size) (cwV (C := RX12) 2 hts (wg_V wm_RX12_237 wy_X12_can) rfl rfl rfl (by decide +kernel) ⟨Nat.le_of_ble_eq_true rfl, Nat.le_of_ble_eq_true rfl⟩) (w_preV hK hW hL_a0 hK_a0 (by decide) rfl) rfl rfl hl.1 rfl (lv_room (Nat.le_of_ble_eq_true rfl)) dX12_outputByte_13 ⟨Nat.le_of_ble_eq_true rfl, Nat.le_of_ble_eq_true rfl⟩) hW (fun r_3 S_4 H locs hp hW => ?_)
  obtain ⟨hX_S_4, hp⟩ := hp
  refine W.widen (k := 0) (n := 0) (by decide) (by decide) ?_
  have hE := hE.trans hX_S_4
  have hK_a0 : sK S_4 a0 = 17 := (hX_S_4.2 a0 hL_a0).1.trans hK_a0
  have hL_a0 : wM D S_4 a0 := hX_S_4.M hL_a0
  refine lv_if_eq (tgt := 28) hx hb dX12_outputByte_16 (by decide) (fun c_5 => ?_) (fun c_5 => ?_)
  · replace hp := hp.1 c_5
    refine lv_iconst (v := 0) hx hb dX12_outputByte_28 (by decide) ?_
    exact t_X12_outputByte_29 F hr hlocks hK hp hW hE (lv_sub hl [] rfl)
  · replace hp := hp.2 c_5
    refine lv_aload_n hx hb dX12_outputByte_19 rfl (lv_at hl 0 rfl) ?_
    obtain ⟨y_6, ey_6, hL_y_6, hK_y_6, hp⟩ := hp
    refine w_get (k := 17) (f := 14) (T := TX12) (v := .ref y_6) F hK hW hL_a0 hK_a0 (by decide) rfl rfl (by decide) i_17 k_45 (by rw [show wv 17 14 S_4 a0 = va_rf (sR S_4 a0 14) from rfl, ey_6]; rfl) dX12_outputByte_20 ?_
    refine lv_iload_n hx hb dX12_outputByte_23 rfl (lv_at hl 1 rfl) ?_
    obtain ⟨h_7, hp⟩ := hp
    refine w_ild F hK hW hL_y_6 hK_y_6 h_7 dX12_outputByte_24 ?_
    refine lv_goto (tgt := 29) hx hb dX12_outputByte_25 (by decide) ?_
    exact t_X12_outputByte_29 F hr hlocks hK hp hW hE (lv_sub hl [] rfl)
set_option maxHeartbeats 4000000 in
set_option maxRecDepth 100000 in
theorem c_X12_outputByte (l : Launch) {D : wD} {cy : Nat → ClassId} {X : va_W} {S0 : wS} {post : Int32 → wS → Prop} {a0 : Nat} {x1 : Int32} (hL_a0 : wM D S0 a0) (hK_a0 : sK S0 a0 = 17) (hp : wp_X12_outputByte D post S0 a0 x1) : mI D cy X l yX12_outputByte wz_X12_outputByte r_X12_outputByte [.ref a0, .int x1] S0 (fun r S9 => wX D S0 S9 ∧ post r S9) := by
  intro sz
  refine Met.ofW (cc := cX12_outputByte) (maxL := 2) (ret := (some .int)) (by decide) rfl ?_
  intro p e s m args below meth c s₁ B hml hv
  obtain ⟨rfl, hsz, hP, hK, hD0, hRO⟩ := hv
  have hts := atoms_spec (ws := wz_X12_outputByte) B.pre
  have hown : s.vm.findClass RX12 = some m.cls := findClass_of_methodNamed B.named
  subst hsz
  have hD := hD0.self (sz := s.heap.size)
  have F : CallFix p m c cX12_outputByte 2 s _ wz_X12_outputByte RX12 := ⟨B.exec, B.bytes, hml, hown, hts⟩
  have hr := B.returns
  have hlocks := B.notSynchronized
  generalize hAe : va_A (wL cy X S0) s.heap.size = A at hD hK ⊢
  have hA : ∀ q, s.heap.size ≤ q → A q := fun q h => by rw [← hAe]; exact Or.inr h
  have hW : wO D cy X A s.heap S0 s.heap [] := ⟨hP, hD, va_S.rf, hA, hRO⟩
  have hl := lv_entry ([.ref a0, .int x1]) (n := 2) (Nat.le_of_ble_eq_true rfl)
  rw [lg_entry_eq]
  generalize (lg_sl ([.ref a0, .int x1]) ++ List.replicate (2 - (lg_sl ([.ref a0, .int x1])).length) Slot.unset).toArray = ls at hl ⊢
  have hl : lv_has ls 2 [(0, .ref a0), (1, .int x1)] := hl
  unfold wp_X12_outputByte at hp
  exact t_X12_outputByte_0 F hr hlocks hK hp hW wX.rf (lv_sub hl [0, 1] rfl) hL_a0 hK_a0
def wp_X12_passingSquare_0 (D : wD) (post : Int32 → wS → Prop)  (S : wS) (a0 : Nat) : Prop :=
∀ S_1 : wS, S_1 = uI S a0 0 (0 : Int32) →
∃ y_2 : Nat, sR S_1 a0 8 = some y_2 ∧ wM D S_1 y_2 ∧ sK S_1 y_2 = 21 ∧
wp_X12_presentAt D (fun r_3 S_4 => 
vp_in (r_3 + (66 : Int32)) (sN S_4 y_2) ∧
post (sI S_4 y_2 ((r_3 + (66 : Int32))).toNatClampNeg) S_4) S_1 a0
abbrev r_X12_passingSquare : Room := { frames := 1, cells := 0, slots := 0, locals := 20 }
def wp_X12_passingSquare (D : wD) (post : Int32 → wS → Prop) (S : wS) (a0 : Nat) : Prop := wp_X12_passingSquare_0 D post S a0
set_option maxHeartbeats 4000000 in
set_option maxRecDepth 100000 in
theorem t_X12_passingSquare_0 {p : Program} {l : Launch} {e : Env} {s : State} {m : MethodId} {args : Array Value} {below : List Frame} {meth : Method} {c : Code} {D : wD} {cy : Nat → ClassId} {X : va_W} {A : Nat → Prop} {S0 : wS} {post : Int32 → wS → Prop} (F : CallFix p m c cX12_passingSquare 1 s args wz_X12_passingSquare RX12) (hr : meth.sig.returnType = (some .int)) (hlocks : meth.locks = false) (hK : wK D cy A s) : ∀ {S : wS} {H : Heap} {locs : List Loc} {ls : Array Slot} {a0 : Nat}, wp_X12_passingSquare_0 D post S a0 → wO D cy X A s.heap S H locs → wX D S0 S → lv_has ls 1 [(0, .ref a0)] → wM D S a0 → sK S a0 = 17 → W p l e r_X12_passingSquare s m args below meth c H locs 0 0 (MQ below (va_Qi (fun r S9 => wX D S0 S9 ∧ post r S9) (wB D cy X A) A) args s 0 0 A) (F0 m 0 ls []) := by
  obtain ⟨hx, hb, hml, hown, hts⟩ := id F
  have hwg : ∀ w ∈ WG, w.before args s = true := fun w h => hts w (List.mem_cons_of_mem _ h)
  have i_17 : ∀ w ∈ u_ws RX12 TX12 43, w ∈ wz_X12_passingSquare := fun w h => List.mem_cons_of_mem _ (wu_17 w h)
  have k_110 := hwg _ wf_RX12_110
  have k_32 := hwg _ wf_RX12_32
  intro S H locs ls a0 hp hW hE hl hL_a0 hK_a0
  unfold wp_X12_passingSquare_0 at hp
  refine lv_aload_n hx hb dX12_passingSquare_0 rfl (lv_at hl 0 rfl) ?_
  refine lv_iconst (v := 0) hx hb dX12_passingSquare_1 (by decide) ?_
  refine w_putI (k := 17) (f := 0) (T := TX12) F hK hW hL_a0 hK_a0 (by decide) (by decide) rfl rfl (by decide) i_17 tyX12 tyX12_ok nmX12 k_110 rfl rfl (ty := .int) rfl rfl rfl dX12_passingSquare_2 (fun H locs hW => ?_)
  obtain ⟨S_1, eS_1⟩ : ∃ z : wS, z = uI S a0 0 (0 : Int32) := ⟨_, rfl⟩
  rw [← eS_1] at hW
  replace hp := hp S_1 eS_1
  have hX_S_1 : wX D S S_1 := by rw [eS_1]; exact wX_uI
  have hE := hE.trans hX_S_1
  have hK_a0 : sK S_1 a0 = 17 := (hX_S_1.2 a0 hL_a0).1.trans hK_a0
  have hL_a0 : wM D S_1 a0 := hX_S_1.M hL_a0
  refine lv_aload_n hx hb dX12_passingSquare_5 rfl (lv_at hl 0 rfl) ?_
  obtain ⟨y_2, ey_2, hL_y_2, hK_y_2, hp⟩ := hp
  refine w_get (k := 17) (f := 8) (T := TX12) (v := .ref y_2) F hK hW hL_a0 hK_a0 (by decide) rfl rfl (by decide) i_17 k_32 (by rw [show wv 17 8 S_1 a0 = va_rf (sR S_1 a0 8) from rfl, ey_2]; rfl) dX12_passingSquare_6 ?_
  refine lv_aload_n hx hb dX12_passingSquare_9 rfl (lv_at hl 0 rfl) ?_
  refine w_callI (va_runV (As := []) (rest := [.ref y_2]) F (c_X12_presentAt l hL_a0 hK_a0 hp H.size) (cwV (C := RX12) 0 hts (wg_V wm_RX12_127 wy_X12_presentAt) rfl rfl rfl (by decide +kernel) ⟨Nat.le_of_ble_eq_true rfl, Nat.le_of_ble_eq_true rfl⟩) (w_preV hK hW hL_a0 hK_a0 (by decide) rfl) rfl rfl hl.1 rfl (lv_room (Nat.le_of_ble_eq_true rfl)) dX12_passingSquare_10 ⟨Nat.le_of_ble_eq_true rfl, Nat.le_of_ble_eq_true rfl⟩) hW (fun r_3 S_4 H locs hp hW => ?_)
  obtain ⟨hX_S_4, hp⟩ := hp
  refine W.widen (k := 0) (n := 0) (by decide) (by decide) ?_
  have hE := hE.trans hX_S_4
  have hK_a0 : sK S_4 a0 = 17 := (hX_S_4.2 a0 hL_a0).1.trans hK_a0
  have hL_a0 : wM D S_4 a0 := hX_S_4.M hL_a0
  have hK_y_2 : sK S_4 y_2 = 21 := (hX_S_4.2 y_2 hL_y_2).1.trans hK_y_2
  have hL_y_2 : wM D S_4 y_2 := hX_S_4.M hL_y_2
  refine lv_bipush (v := 66) hx hb dX12_passingSquare_13 (by decide) ?_
  refine lv_iadd hx hb dX12_passingSquare_15 ?_
  obtain ⟨h_5, hp⟩ := hp
  refine w_ild F hK hW hL_y_2 hK_y_2 h_5 dX12_passingSquare_16 ?_
  exact w_iret hx hb hr hlocks hW ⟨hE, hp⟩ dX12_passingSquare_17
set_option maxHeartbeats 4000000 in
set_option maxRecDepth 100000 in
theorem c_X12_passingSquare (l : Launch) {D : wD} {cy : Nat → ClassId} {X : va_W} {S0 : wS} {post : Int32 → wS → Prop} {a0 : Nat} (hL_a0 : wM D S0 a0) (hK_a0 : sK S0 a0 = 17) (hp : wp_X12_passingSquare D post S0 a0) : mI D cy X l yX12_passingSquare wz_X12_passingSquare r_X12_passingSquare [.ref a0] S0 (fun r S9 => wX D S0 S9 ∧ post r S9) := by
  intro sz
  refine Met.ofW (cc := cX12_passingSquare) (maxL := 1) (ret := (some .int)) (by decide) rfl ?_
  intro p e s m args below meth c s₁ B hml hv
  obtain ⟨rfl, hsz, hP, hK, hD0, hRO⟩ := hv
  have hts := atoms_spec (ws := wz_X12_passingSquare) B.pre
  have hown : s.vm.findClass RX12 = some m.cls := findClass_of_methodNamed B.named
  subst hsz
  have hD := hD0.self (sz := s.heap.size)
  have F : CallFix p m c cX12_passingSquare 1 s _ wz_X12_passingSquare RX12 := ⟨B.exec, B.bytes, hml, hown, hts⟩
  have hr := B.returns
  have hlocks := B.notSynchronized
  generalize hAe : va_A (wL cy X S0) s.heap.size = A at hD hK ⊢
  have hA : ∀ q, s.heap.size ≤ q → A q := fun q h => by rw [← hAe]; exact Or.inr h
  have hW : wO D cy X A s.heap S0 s.heap [] := ⟨hP, hD, va_S.rf, hA, hRO⟩
  have hl := lv_entry ([.ref a0]) (n := 1) (Nat.le_of_ble_eq_true rfl)
  rw [lg_entry_eq]
  generalize (lg_sl ([.ref a0]) ++ List.replicate (1 - (lg_sl ([.ref a0])).length) Slot.unset).toArray = ls at hl ⊢
  have hl : lv_has ls 1 [(0, .ref a0)] := hl
  unfold wp_X12_passingSquare at hp
  exact t_X12_passingSquare_0 F hr hlocks hK hp hW wX.rf (lv_sub hl [0] rfl) hL_a0 hK_a0
def wp_X12_positions_72 (D : wD) (post : Int32 → wS → Prop) (k_5 : wS → Nat → Int32 → Int32 → Int32 → Int32 → Prop) (k_19 : wS → Nat → Int32 → Int32 → Int32 → Int32 → Int32 → Prop) (S : wS) (a0 : Nat) (x1 : Int32) (x2 : Int32) (x4 : Int32) (x5 : Int32) (t0 : Int32) (t1 : Int32) : Prop :=
∀ x_1 : Int32, x_1 = (t0 + t1) →
∀ x_2 : Int32, x_2 = x5 + 1 →
k_19 S a0 x1 x2 x_1 x4 x_2
def wp_X12_positions_71 (D : wD) (post : Int32 → wS → Prop) (k_5 : wS → Nat → Int32 → Int32 → Int32 → Int32 → Prop) (k_19 : wS → Nat → Int32 → Int32 → Int32 → Int32 → Int32 → Prop) (S : wS) (a0 : Nat) (x1 : Int32) (x2 : Int32) (x4 : Int32) (x5 : Int32) (t0 : Int32) : Prop :=
wp_X12_positions_72 D post k_5 k_19 S a0 x1 x2 x4 x5 t0 (0 : Int32)
def wp_X12_positions_55 (D : wD) (post : Int32 → wS → Prop) (k_5 : wS → Nat → Int32 → Int32 → Int32 → Int32 → Prop) (k_19 : wS → Nat → Int32 → Int32 → Int32 → Int32 → Int32 → Prop) (S : wS) (a0 : Nat) (x1 : Int32) (x2 : Int32) (x4 : Int32) (x5 : Int32) (t0 : Int32) : Prop :=
wp_X12_isOld D (fun r_1 S_2 => 
((¬ r_1 = 0 → wp_X12_positions_71 D post k_5 k_19 S_2 a0 x1 x2 x4 x5 t0) ∧
 (r_1 = 0 → wp_X12_positions_72 D post k_5 k_19 S_2 a0 x1 x2 x4 x5 t0 (1 : Int32)))) S a0 x1 x4 x5
def wp_X12_positions_19 (D : wD) (post : Int32 → wS → Prop) (k_5 : wS → Nat → Int32 → Int32 → Int32 → Int32 → Prop) : Nat → wS → Nat → Int32 → Int32 → Int32 → Int32 → Int32 → Prop
  | 0, _, _, _, _, _, _, _ => False
  | n + 1, S, a0, x1, x2, x3, x4, x5 =>
    ∃ y_1 : Nat, sR S a0 33 = some y_1 ∧ wM D S y_1 ∧ sK S y_1 = 21 ∧
    wp_X12_slot D (fun r_2 S_3 => 
    vp_in r_2 (sN S_3 y_1) ∧
    (((sI S_3 y_1 (r_2).toNatClampNeg) < x5 → ∀ x_6 : Int32, x_6 = x4 + 1 →
    k_5 S_3 a0 x1 x2 x3 x_6) ∧
     (¬ (sI S_3 y_1 (r_2).toNatClampNeg) < x5 → ((x2 = 0 → wp_X12_positions_55 D post k_5 (wp_X12_positions_19 D post k_5 n) S_3 a0 x1 x2 x4 x5 x3) ∧
     (¬ x2 = 0 → wp_X12_placeOf D (fun r_8 S_9 => 
    wp_X12_fits D (fun r_10 S_11 => 
    ((r_10 = 0 → wp_X12_positions_71 D post k_5 (wp_X12_positions_19 D post k_5 n) S_11 a0 x1 x2 x4 x5 x3) ∧
     (¬ r_10 = 0 → wp_X12_positions_55 D post k_5 (wp_X12_positions_19 D post k_5 n) S_11 a0 x1 x2 x4 x5 x3))) S_9 a0 r_8) S_3 x1 x4 x5))))) S x1 x4
def wp_X12_positions_5 (D : wD) (post : Int32 → wS → Prop)  : Nat → wS → Nat → Int32 → Int32 → Int32 → Int32 → Prop
  | 0, _, _, _, _, _, _ => False
  | n + 1, S, a0, x1, x2, x3, x4 =>
    ∃ y_1 : Nat, sR S a0 30 = some y_1 ∧ wM D S y_1 ∧ sK S y_1 = 21 ∧
    vp_in x1 (sN S y_1) ∧
    (((sI S y_1 (x1).toNatClampNeg) ≤ x4 → post x3 S) ∧
     (¬ (sI S y_1 (x1).toNatClampNeg) ≤ x4 → ∃ n_4 : Nat, wp_X12_positions_19 D post (wp_X12_positions_5 D post n) n_4 S a0 x1 x2 x3 x4 (0 : Int32)))
def wp_X12_positions_0 (D : wD) (post : Int32 → wS → Prop)  (S : wS) (a0 : Nat) (x1 : Int32) (x2 : Int32) : Prop :=
∃ n_1 : Nat, wp_X12_positions_5 D post n_1 S a0 x1 x2 (0 : Int32) (0 : Int32)
abbrev r_X12_positions : Room := { frames := 3, cells := 0, slots := 0, locals := 74 }
def wp_X12_positions (D : wD) (post : Int32 → wS → Prop) (S : wS) (a0 : Nat) (x1 : Int32) (x2 : Int32) : Prop := wp_X12_positions_0 D post S a0 x1 x2
set_option maxHeartbeats 4000000 in
set_option maxRecDepth 100000 in
theorem t_X12_positions_72 {p : Program} {l : Launch} {e : Env} {s : State} {m : MethodId} {args : Array Value} {below : List Frame} {meth : Method} {c : Code} {D : wD} {cy : Nat → ClassId} {X : va_W} {A : Nat → Prop} {S0 : wS} {post : Int32 → wS → Prop} (F : CallFix p m c cX12_positions 6 s args wz_X12_positions RX12) (hr : meth.sig.returnType = (some .int)) (hlocks : meth.locks = false) (hK : wK D cy A s) {k_5 : wS → Nat → Int32 → Int32 → Int32 → Int32 → Prop} (q_5 : ∀ {S : wS} {H : Heap} {locs : List Loc} {ls : Array Slot} {a0 : Nat} {x1 : Int32} {x2 : Int32} {x3 : Int32} {x4 : Int32}, k_5 S a0 x1 x2 x3 x4 → wO D cy X A s.heap S H locs → wX D S0 S → lv_has ls 6 [(0, .ref a0), (1, .int x1), (2, .int x2), (3, .int x3), (4, .int x4)] → wM D S a0 → sK S a0 = 17 → W p l e r_X12_positions s m args below meth c H locs 0 0 (MQ below (va_Qi (fun r S9 => wX D S0 S9 ∧ post r S9) (wB D cy X A) A) args s 0 0 A) (F0 m 5 ls [])) {k_19 : wS → Nat → Int32 → Int32 → Int32 → Int32 → Int32 → Prop} (q_19 : ∀ {S : wS} {H : Heap} {locs : List Loc} {ls : Array Slot} {a0 : Nat} {x1 : Int32} {x2 : Int32} {x3 : Int32} {x4 : Int32} {x5 : Int32}, k_19 S a0 x1 x2 x3 x4 x5 → wO D cy X A s.heap S H locs → wX D S0 S → lv_has ls 6 [(0, .ref a0), (1, .int x1), (2, .int x2), (3, .int x3), (4, .int x4), (5, .int x5)] → wM D S a0 → sK S a0 = 17 → W p l e r_X12_positions s m args below meth c H locs 0 0 (MQ below (va_Qi (fun r S9 => wX D S0 S9 ∧ post r S9) (wB D cy X A) A) args s 0 0 A) (F0 m 19 ls [])) : ∀ {S : wS} {H : Heap} {locs : List Loc} {ls : Array Slot} {a0 : Nat} {x1 : Int32} {x2 : Int32} {x4 : Int32} {x5 : Int32} {t0 : Int32} {t1 : Int32}, wp_X12_positions_72 D post k_5 k_19 S a0 x1 x2 x4 x5 t0 t1 → wO D cy X A s.heap S H locs → wX D S0 S → lv_has ls 6 [(0, .ref a0), (1, .int x1), (2, .int x2), (4, .int x4), (5, .int x5)] → wM D S a0 → sK S a0 = 17 → W p l e r_X12_positions s m args below meth c H locs 0 0 (MQ below (va_Qi (fun r S9 => wX D S0 S9 ∧ post r S9) (wB D cy X A) A) args s 0 0 A) (F0 m 72 ls [.int t1, .int t0]) := by
  obtain ⟨hx, hb, hml, hown, hts⟩ := id F
  have hwg : ∀ w ∈ WG, w.before args s = true := fun w h => hts w (List.mem_cons_of_mem _ h)
  intro S H locs ls a0 x1 x2 x4 x5 t0 t1 hp hW hE hl hL_a0 hK_a0
  unfold wp_X12_positions_72 at hp
  refine lv_iadd hx hb dX12_positions_72 ?_
  refine lv_topi (fun x_1 ex_1 => ?_)
  replace hp := hp x_1 ex_1
  refine lv_istore_n (lv' := [(3, .int x_1), (0, .ref a0), (1, .int x1), (2, .int x2), (4, .int x4), (5, .int x5)]) hx hb dX12_positions_73 rfl hl (by decide) rfl (fun ls hl => ?_)
  obtain ⟨x_2, ex_2⟩ : ∃ z : Int32, z = x5 + 1 := ⟨_, rfl⟩
  replace hp := hp x_2 ex_2
  refine lv_iinc (v := x_2) (lv' := [(5, .int x_2), (3, .int x_1), (0, .ref a0), (1, .int x1), (2, .int x2), (4, .int x4)]) hx hb dX12_positions_74 hl (k := 5) rfl (by rw [ex_2]; rfl) (by decide) rfl (fun ls hl => ?_)
  refine lv_goto (tgt := 19) hx hb dX12_positions_77 (by decide) ?_
  exact q_19 hp hW hE (lv_sub hl [2, 3, 4, 1, 5, 0] rfl) hL_a0 hK_a0
set_option maxHeartbeats 4000000 in
set_option maxRecDepth 100000 in
theorem t_X12_positions_71 {p : Program} {l : Launch} {e : Env} {s : State} {m : MethodId} {args : Array Value} {below : List Frame} {meth : Method} {c : Code} {D : wD} {cy : Nat → ClassId} {X : va_W} {A : Nat → Prop} {S0 : wS} {post : Int32 → wS → Prop} (F : CallFix p m c cX12_positions 6 s args wz_X12_positions RX12) (hr : meth.sig.returnType = (some .int)) (hlocks : meth.locks = false) (hK : wK D cy A s) {k_5 : wS → Nat → Int32 → Int32 → Int32 → Int32 → Prop} (q_5 : ∀ {S : wS} {H : Heap} {locs : List Loc} {ls : Array Slot} {a0 : Nat} {x1 : Int32} {x2 : Int32} {x3 : Int32} {x4 : Int32}, k_5 S a0 x1 x2 x3 x4 → wO D cy X A s.heap S H locs → wX D S0 S → lv_has ls 6 [(0, .ref a0), (1, .int x1), (2, .int x2), (3, .int x3), (4, .int x4)] → wM D S a0 → sK S a0 = 17 → W p l e r_X12_positions s m args below meth c H locs 0 0 (MQ below (va_Qi (fun r S9 => wX D S0 S9 ∧ post r S9) (wB D cy X A) A) args s 0 0 A) (F0 m 5 ls [])) {k_19 : wS → Nat → Int32 → Int32 → Int32 → Int32 → Int32 → Prop} (q_19 : ∀ {S : wS} {H : Heap} {locs : List Loc} {ls : Array Slot} {a0 : Nat} {x1 : Int32} {x2 : Int32} {x3 : Int32} {x4 : Int32} {x5 : Int32}, k_19 S a0 x1 x2 x3 x4 x5 → wO D cy X A s.heap S H locs → wX D S0 S → lv_has ls 6 [(0, .ref a0), (1, .int x1), (2, .int x2), (3, .int x3), (4, .int x4), (5, .int x5)] → wM D S a0 → sK S a0 = 17 → W p l e r_X12_positions s m args below meth c H locs 0 0 (MQ below (va_Qi (fun r S9 => wX D S0 S9 ∧ post r S9) (wB D cy X A) A) args s 0 0 A) (F0 m 19 ls [])) : ∀ {S : wS} {H : Heap} {locs : List Loc} {ls : Array Slot} {a0 : Nat} {x1 : Int32} {x2 : Int32} {x4 : Int32} {x5 : Int32} {t0 : Int32}, wp_X12_positions_71 D post k_5 k_19 S a0 x1 x2 x4 x5 t0 → wO D cy X A s.heap S H locs → wX D S0 S → lv_has ls 6 [(0, .ref a0), (1, .int x1), (2, .int x2), (4, .int x4), (5, .int x5)] → wM D S a0 → sK S a0 = 17 → W p l e r_X12_positions s m args below meth c H locs 0 0 (MQ below (va_Qi (fun r S9 => wX D S0 S9 ∧ post r S9) (wB D cy X A) A) args s 0 0 A) (F0 m 71 ls [.int t0]) := by
  obtain ⟨hx, hb, hml, hown, hts⟩ := id F
  have hwg : ∀ w ∈ WG, w.before args s = true := fun w h => hts w (List.mem_cons_of_mem _ h)
  intro S H locs ls a0 x1 x2 x4 x5 t0 hp hW hE hl hL_a0 hK_a0
  unfold wp_X12_positions_71 at hp
  refine lv_iconst (v := 0) hx hb dX12_positions_71 (by decide) ?_
  exact t_X12_positions_72 F hr hlocks hK q_5 q_19 hp hW hE (lv_sub hl [0, 1, 2, 3, 4] rfl) hL_a0 hK_a0
set_option maxHeartbeats 4000000 in
set_option maxRecDepth 100000 in
theorem t_X12_positions_55 {p : Program} {l : Launch} {e : Env} {s : State} {m : MethodId} {args : Array Value} {below : List Frame} {meth : Method} {c : Code} {D : wD} {cy : Nat → ClassId} {X : va_W} {A : Nat → Prop} {S0 : wS} {post : Int32 → wS → Prop} (F : CallFix p m c cX12_positions 6 s args wz_X12_positions RX12) (hr : meth.sig.returnType = (some .int)) (hlocks : meth.locks = false) (hK : wK D cy A s) {k_5 : wS → Nat → Int32 → Int32 → Int32 → Int32 → Prop} (q_5 : ∀ {S : wS} {H : Heap} {locs : List Loc} {ls : Array Slot} {a0 : Nat} {x1 : Int32} {x2 : Int32} {x3 : Int32} {x4 : Int32}, k_5 S a0 x1 x2 x3 x4 → wO D cy X A s.heap S H locs → wX D S0 S → lv_has ls 6 [(0, .ref a0), (1, .int x1), (2, .int x2), (3, .int x3), (4, .int x4)] → wM D S a0 → sK S a0 = 17 → W p l e r_X12_positions s m args below meth c H locs 0 0 (MQ below (va_Qi (fun r S9 => wX D S0 S9 ∧ post r S9) (wB D cy X A) A) args s 0 0 A) (F0 m 5 ls [])) {k_19 : wS → Nat → Int32 → Int32 → Int32 → Int32 → Int32 → Prop} (q_19 : ∀ {S : wS} {H : Heap} {locs : List Loc} {ls : Array Slot} {a0 : Nat} {x1 : Int32} {x2 : Int32} {x3 : Int32} {x4 : Int32} {x5 : Int32}, k_19 S a0 x1 x2 x3 x4 x5 → wO D cy X A s.heap S H locs → wX D S0 S → lv_has ls 6 [(0, .ref a0), (1, .int x1), (2, .int x2), (3, .int x3), (4, .int x4), (5, .int x5)] → wM D S a0 → sK S a0 = 17 → W p l e r_X12_positions s m args below meth c H locs 0 0 (MQ below (va_Qi (fun r S9 => wX D S0 S9 ∧ post r S9) (wB D cy X A) A) args s 0 0 A) (F0 m 19 ls [])) : ∀ {S : wS} {H : Heap} {locs : List Loc} {ls : Array Slot} {a0 : Nat} {x1 : Int32} {x2 : Int32} {x4 : Int32} {x5 : Int32} {t0 : Int32}, wp_X12_positions_55 D post k_5 k_19 S a0 x1 x2 x4 x5 t0 → wO D cy X A s.heap S H locs → wX D S0 S → lv_has ls 6 [(0, .ref a0), (1, .int x1), (2, .int x2), (4, .int x4), (5, .int x5)] → wM D S a0 → sK S a0 = 17 → W p l e r_X12_positions s m args below meth c H locs 0 0 (MQ below (va_Qi (fun r S9 => wX D S0 S9 ∧ post r S9) (wB D cy X A) A) args s 0 0 A) (F0 m 55 ls [.int t0]) := by
  obtain ⟨hx, hb, hml, hown, hts⟩ := id F
  have hwg : ∀ w ∈ WG, w.before args s = true := fun w h => hts w (List.mem_cons_of_mem _ h)
  intro S H locs ls a0 x1 x2 x4 x5 t0 hp hW hE hl hL_a0 hK_a0
  unfold wp_X12_positions_55 at hp
  refine lv_aload_n hx hb dX12_positions_55 rfl (lv_at hl 0 rfl) ?_
  refine lv_iload_n hx hb dX12_positions_56 rfl (lv_at hl 1 rfl) ?_
  refine lv_iload hx hb dX12_positions_57 (lv_at hl 3 rfl) ?_
  refine lv_iload hx hb dX12_positions_59 (lv_at hl 4 rfl) ?_
  refine w_callI (va_runV (As := [.int x1, .int x4, .int x5]) (rest := [.int t0]) F (c_X12_isOld l hL_a0 hK_a0 hp H.size) (cwV (C := RX12) 3 hts (wg_V wm_RX12_417 wy_X12_isOld) rfl rfl rfl (by decide +kernel) ⟨Nat.le_of_ble_eq_true rfl, Nat.le_of_ble_eq_true rfl⟩) (w_preV hK hW hL_a0 hK_a0 (by decide) rfl) rfl rfl hl.1 rfl (lv_room (Nat.le_of_ble_eq_true rfl)) dX12_positions_61 ⟨Nat.le_of_ble_eq_true rfl, Nat.le_of_ble_eq_true rfl⟩) hW (fun r_1 S_2 H locs hp hW => ?_)
  obtain ⟨hX_S_2, hp⟩ := hp
  refine W.widen (k := 0) (n := 0) (by decide) (by decide) ?_
  have hE := hE.trans hX_S_2
  have hK_a0 : sK S_2 a0 = 17 := (hX_S_2.2 a0 hL_a0).1.trans hK_a0
  have hL_a0 : wM D S_2 a0 := hX_S_2.M hL_a0
  refine lv_if_ne (tgt := 71) hx hb dX12_positions_64 (by decide) (fun c_3 => ?_) (fun c_3 => ?_)
  · replace hp := hp.1 c_3
    exact t_X12_positions_71 F hr hlocks hK q_5 q_19 hp hW hE (lv_sub hl [0, 1, 2, 3, 4] rfl) hL_a0 hK_a0
  · replace hp := hp.2 c_3
    refine lv_iconst (v := 1) hx hb dX12_positions_67 (by decide) ?_
    refine lv_goto (tgt := 72) hx hb dX12_positions_68 (by decide) ?_
    exact t_X12_positions_72 F hr hlocks hK q_5 q_19 hp hW hE (lv_sub hl [0, 1, 2, 3, 4] rfl) hL_a0 hK_a0
set_option maxHeartbeats 4000000 in
set_option maxRecDepth 100000 in
theorem t_X12_positions_19 {p : Program} {l : Launch} {e : Env} {s : State} {m : MethodId} {args : Array Value} {below : List Frame} {meth : Method} {c : Code} {D : wD} {cy : Nat → ClassId} {X : va_W} {A : Nat → Prop} {S0 : wS} {post : Int32 → wS → Prop} (F : CallFix p m c cX12_positions 6 s args wz_X12_positions RX12) (hr : meth.sig.returnType = (some .int)) (hlocks : meth.locks = false) (hK : wK D cy A s) {k_5 : wS → Nat → Int32 → Int32 → Int32 → Int32 → Prop} (q_5 : ∀ {S : wS} {H : Heap} {locs : List Loc} {ls : Array Slot} {a0 : Nat} {x1 : Int32} {x2 : Int32} {x3 : Int32} {x4 : Int32}, k_5 S a0 x1 x2 x3 x4 → wO D cy X A s.heap S H locs → wX D S0 S → lv_has ls 6 [(0, .ref a0), (1, .int x1), (2, .int x2), (3, .int x3), (4, .int x4)] → wM D S a0 → sK S a0 = 17 → W p l e r_X12_positions s m args below meth c H locs 0 0 (MQ below (va_Qi (fun r S9 => wX D S0 S9 ∧ post r S9) (wB D cy X A) A) args s 0 0 A) (F0 m 5 ls [])) : ∀ (n : Nat) {S : wS} {H : Heap} {locs : List Loc} {ls : Array Slot} {a0 : Nat} {x1 : Int32} {x2 : Int32} {x3 : Int32} {x4 : Int32} {x5 : Int32}, wp_X12_positions_19 D post k_5 n S a0 x1 x2 x3 x4 x5 → wO D cy X A s.heap S H locs → wX D S0 S → lv_has ls 6 [(0, .ref a0), (1, .int x1), (2, .int x2), (3, .int x3), (4, .int x4), (5, .int x5)] → wM D S a0 → sK S a0 = 17 → W p l e r_X12_positions s m args below meth c H locs 0 0 (MQ below (va_Qi (fun r S9 => wX D S0 S9 ∧ post r S9) (wB D cy X A) A) args s 0 0 A) (F0 m 19 ls []) := by
  obtain ⟨hx, hb, hml, hown, hts⟩ := id F
  have hwg : ∀ w ∈ WG, w.before args s = true := fun w h => hts w (List.mem_cons_of_mem _ h)
  have i_17 : ∀ w ∈ u_ws RX12 TX12 43, w ∈ wz_X12_positions := fun w h => List.mem_cons_of_mem _ (wu_17 w h)
  have k_79 := hwg _ wf_RX12_79
  intro n
  induction n with
  | zero =>
    intro S H locs ls a0 x1 x2 x3 x4 x5 hp
    exact hp.elim
  | succ n ih =>
    intro S H locs ls a0 x1 x2 x3 x4 x5 hp hW hE hl hL_a0 hK_a0
    unfold wp_X12_positions_19 at hp
    refine lv_iload hx hb dX12_positions_19 (lv_at hl 5 rfl) ?_
    refine lv_aload_n hx hb dX12_positions_21 rfl (lv_at hl 0 rfl) ?_
    obtain ⟨y_1, ey_1, hL_y_1, hK_y_1, hp⟩ := hp
    refine w_get (k := 17) (f := 33) (T := TX12) (v := .ref y_1) F hK hW hL_a0 hK_a0 (by decide) rfl rfl (by decide) i_17 k_79 (by rw [show wv 17 33 S a0 = va_rf (sR S a0 33) from rfl, ey_1]; rfl) dX12_positions_22 ?_
    refine lv_iload_n hx hb dX12_positions_25 rfl (lv_at hl 1 rfl) ?_
    refine lv_iload hx hb dX12_positions_26 (lv_at hl 4 rfl) ?_
    refine w_callI (va_runS (As := [.int x1, .int x4]) (rest := [.ref y_1, .int x5]) F (c_X12_slot l hp H.size) (va_cwS 2 hts (wg_S wm_RX12_400 wy_X12_slot) rfl rfl rfl (by decide +kernel) ⟨Nat.le_of_ble_eq_true rfl, Nat.le_of_ble_eq_true rfl⟩) (w_preS hK hW) rfl rfl hl.1 rfl (lv_room (Nat.le_of_ble_eq_true rfl)) dX12_positions_28 ⟨Nat.le_of_ble_eq_true rfl, Nat.le_of_ble_eq_true rfl⟩) hW (fun r_2 S_3 H locs hp hW => ?_)
    obtain ⟨hX_S_3, hp⟩ := hp
    refine W.widen (k := 0) (n := 0) (by decide) (by decide) ?_
    have hE := hE.trans hX_S_3
    have hK_a0 : sK S_3 a0 = 17 := (hX_S_3.2 a0 hL_a0).1.trans hK_a0
    have hL_a0 : wM D S_3 a0 := hX_S_3.M hL_a0
    have hK_y_1 : sK S_3 y_1 = 21 := (hX_S_3.2 y_1 hL_y_1).1.trans hK_y_1
    have hL_y_1 : wM D S_3 y_1 := hX_S_3.M hL_y_1
    obtain ⟨h_4, hp⟩ := hp
    refine w_ild F hK hW hL_y_1 hK_y_1 h_4 dX12_positions_31 ?_
    refine lv_icmp_gt (tgt := 80) hx hb dX12_positions_32 (by decide) (fun c_5 => ?_) (fun c_5 => ?_)
    · replace hp := hp.1 c_5
      obtain ⟨x_6, ex_6⟩ : ∃ z : Int32, z = x4 + 1 := ⟨_, rfl⟩
      replace hp := hp x_6 ex_6
      refine lv_iinc (v := x_6) (lv' := [(4, .int x_6), (0, .ref a0), (1, .int x1), (2, .int x2), (3, .int x3), (5, .int x5)]) hx hb dX12_positions_80 hl (k := 4) rfl (by rw [ex_6]; rfl) (by decide) rfl (fun ls hl => ?_)
      refine lv_goto (tgt := 5) hx hb dX12_positions_83 (by decide) ?_
      exact q_5 hp hW hE (lv_sub hl [1, 2, 3, 4, 0] rfl) hL_a0 hK_a0
    · replace hp := hp.2 c_5
      refine lv_iload_n hx hb dX12_positions_35 rfl (lv_at hl 3 rfl) ?_
      refine lv_iload_n hx hb dX12_positions_36 rfl (lv_at hl 2 rfl) ?_
      refine lv_if_eq (tgt := 55) hx hb dX12_positions_37 (by decide) (fun c_7 => ?_) (fun c_7 => ?_)
      · replace hp := hp.1 c_7
        exact t_X12_positions_55 F hr hlocks hK q_5 ih hp hW hE (lv_sub hl [0, 1, 2, 4, 5] rfl) hL_a0 hK_a0
      · replace hp := hp.2 c_7
        refine lv_aload_n hx hb dX12_positions_40 rfl (lv_at hl 0 rfl) ?_
        refine lv_iload_n hx hb dX12_positions_41 rfl (lv_at hl 1 rfl) ?_
        refine lv_iload hx hb dX12_positions_42 (lv_at hl 4 rfl) ?_
        refine lv_iload hx hb dX12_positions_44 (lv_at hl 5 rfl) ?_
        refine w_callI (va_runS (As := [.int x1, .int x4, .int x5]) (rest := [.ref a0, .int x3]) F (c_X12_placeOf l hp H.size) (va_cwS 3 hts (wg_S wm_RX12_403 wy_X12_placeOf) rfl rfl rfl (by decide +kernel) ⟨Nat.le_of_ble_eq_true rfl, Nat.le_of_ble_eq_true rfl⟩) (w_preS hK hW) rfl rfl hl.1 rfl (lv_room (Nat.le_of_ble_eq_true rfl)) dX12_positions_46 ⟨Nat.le_of_ble_eq_true rfl, Nat.le_of_ble_eq_true rfl⟩) hW (fun r_8 S_9 H locs hp hW => ?_)
        obtain ⟨hX_S_9, hp⟩ := hp
        refine W.widen (k := 0) (n := 0) (by decide) (by decide) ?_
        have hE := hE.trans hX_S_9
        have hK_a0 : sK S_9 a0 = 17 := (hX_S_9.2 a0 hL_a0).1.trans hK_a0
        have hL_a0 : wM D S_9 a0 := hX_S_9.M hL_a0
        refine w_callI (va_runV (As := [.int r_8]) (rest := [.int x3]) F (c_X12_fits l hL_a0 hK_a0 hp H.size) (cwV (C := RX12) 1 hts (wg_V wm_RX12_414 wy_X12_fits) rfl rfl rfl (by decide +kernel) ⟨Nat.le_of_ble_eq_true rfl, Nat.le_of_ble_eq_true rfl⟩) (w_preV hK hW hL_a0 hK_a0 (by decide) rfl) rfl rfl hl.1 rfl (lv_room (Nat.le_of_ble_eq_true rfl)) dX12_positions_49 ⟨Nat.le_of_ble_eq_true rfl, Nat.le_of_ble_eq_true rfl⟩) hW (fun r_10 S_11 H locs hp hW => ?_)
        obtain ⟨hX_S_11, hp⟩ := hp
        refine W.widen (k := 0) (n := 0) (by decide) (by decide) ?_
        have hE := hE.trans hX_S_11
        have hK_a0 : sK S_11 a0 = 17 := (hX_S_11.2 a0 hL_a0).1.trans hK_a0
        have hL_a0 : wM D S_11 a0 := hX_S_11.M hL_a0
        refine lv_if_eq (tgt := 71) hx hb dX12_positions_52 (by decide) (fun c_12 => ?_) (fun c_12 => ?_)
        · replace hp := hp.1 c_12
          exact t_X12_positions_71 F hr hlocks hK q_5 ih hp hW hE (lv_sub hl [0, 1, 2, 4, 5] rfl) hL_a0 hK_a0
        · replace hp := hp.2 c_12
          exact t_X12_positions_55 F hr hlocks hK q_5 ih hp hW hE (lv_sub hl [0, 1, 2, 4, 5] rfl) hL_a0 hK_a0
set_option maxHeartbeats 4000000 in
set_option maxRecDepth 100000 in
theorem t_X12_positions_5 {p : Program} {l : Launch} {e : Env} {s : State} {m : MethodId} {args : Array Value} {below : List Frame} {meth : Method} {c : Code} {D : wD} {cy : Nat → ClassId} {X : va_W} {A : Nat → Prop} {S0 : wS} {post : Int32 → wS → Prop} (F : CallFix p m c cX12_positions 6 s args wz_X12_positions RX12) (hr : meth.sig.returnType = (some .int)) (hlocks : meth.locks = false) (hK : wK D cy A s) : ∀ (n : Nat) {S : wS} {H : Heap} {locs : List Loc} {ls : Array Slot} {a0 : Nat} {x1 : Int32} {x2 : Int32} {x3 : Int32} {x4 : Int32}, wp_X12_positions_5 D post n S a0 x1 x2 x3 x4 → wO D cy X A s.heap S H locs → wX D S0 S → lv_has ls 6 [(0, .ref a0), (1, .int x1), (2, .int x2), (3, .int x3), (4, .int x4)] → wM D S a0 → sK S a0 = 17 → W p l e r_X12_positions s m args below meth c H locs 0 0 (MQ below (va_Qi (fun r S9 => wX D S0 S9 ∧ post r S9) (wB D cy X A) A) args s 0 0 A) (F0 m 5 ls []) := by
  obtain ⟨hx, hb, hml, hown, hts⟩ := id F
  have hwg : ∀ w ∈ WG, w.before args s = true := fun w h => hts w (List.mem_cons_of_mem _ h)
  have i_17 : ∀ w ∈ u_ws RX12 TX12 43, w ∈ wz_X12_positions := fun w h => List.mem_cons_of_mem _ (wu_17 w h)
  have k_69 := hwg _ wf_RX12_69
  intro n
  induction n with
  | zero =>
    intro S H locs ls a0 x1 x2 x3 x4 hp
    exact hp.elim
  | succ n ih =>
    intro S H locs ls a0 x1 x2 x3 x4 hp hW hE hl hL_a0 hK_a0
    unfold wp_X12_positions_5 at hp
    refine lv_iload hx hb dX12_positions_5 (lv_at hl 4 rfl) ?_
    refine lv_aload_n hx hb dX12_positions_7 rfl (lv_at hl 0 rfl) ?_
    obtain ⟨y_1, ey_1, hL_y_1, hK_y_1, hp⟩ := hp
    refine w_get (k := 17) (f := 30) (T := TX12) (v := .ref y_1) F hK hW hL_a0 hK_a0 (by decide) rfl rfl (by decide) i_17 k_69 (by rw [show wv 17 30 S a0 = va_rf (sR S a0 30) from rfl, ey_1]; rfl) dX12_positions_8 ?_
    refine lv_iload_n hx hb dX12_positions_11 rfl (lv_at hl 1 rfl) ?_
    obtain ⟨h_2, hp⟩ := hp
    refine w_ild F hK hW hL_y_1 hK_y_1 h_2 dX12_positions_12 ?_
    refine lv_icmp_ge (tgt := 86) hx hb dX12_positions_13 (by decide) (fun c_3 => ?_) (fun c_3 => ?_)
    · replace hp := hp.1 c_3
      refine lv_iload_n hx hb dX12_positions_86 rfl (lv_at hl 3 rfl) ?_
      exact w_iret hx hb hr hlocks hW ⟨hE, hp⟩ dX12_positions_87
    · replace hp := hp.2 c_3
      refine lv_iconst (v := 0) hx hb dX12_positions_16 (by decide) ?_
      refine lv_istore (lv' := [(5, .int (0 : Int32)), (0, .ref a0), (1, .int x1), (2, .int x2), (3, .int x3), (4, .int x4)]) hx hb dX12_positions_17 hl (by decide) rfl (fun ls hl => ?_)
      obtain ⟨n_4, hp⟩ := hp
      exact t_X12_positions_19 F hr hlocks hK ih n_4 hp hW hE (lv_sub hl [1, 2, 3, 4, 5, 0] rfl) hL_a0 hK_a0
set_option maxHeartbeats 4000000 in
set_option maxRecDepth 100000 in
theorem t_X12_positions_0 {p : Program} {l : Launch} {e : Env} {s : State} {m : MethodId} {args : Array Value} {below : List Frame} {meth : Method} {c : Code} {D : wD} {cy : Nat → ClassId} {X : va_W} {A : Nat → Prop} {S0 : wS} {post : Int32 → wS → Prop} (F : CallFix p m c cX12_positions 6 s args wz_X12_positions RX12) (hr : meth.sig.returnType = (some .int)) (hlocks : meth.locks = false) (hK : wK D cy A s) : ∀ {S : wS} {H : Heap} {locs : List Loc} {ls : Array Slot} {a0 : Nat} {x1 : Int32} {x2 : Int32}, wp_X12_positions_0 D post S a0 x1 x2 → wO D cy X A s.heap S H locs → wX D S0 S → lv_has ls 6 [(0, .ref a0), (1, .int x1), (2, .int x2)] → wM D S a0 → sK S a0 = 17 → W p l e r_X12_positions s m args below meth c H locs 0 0 (MQ below (va_Qi (fun r S9 => wX D S0 S9 ∧ post r S9) (wB D cy X A) A) args s 0 0 A) (F0 m 0 ls []) := by
  obtain ⟨hx, hb, hml, hown, hts⟩ := id F
  have hwg : ∀ w ∈ WG, w.before args s = true := fun w h => hts w (List.mem_cons_of_mem _ h)
  intro S H locs ls a0 x1 x2 hp hW hE hl hL_a0 hK_a0
  unfold wp_X12_positions_0 at hp
  refine lv_iconst (v := 0) hx hb dX12_positions_0 (by decide) ?_
  refine lv_istore_n (lv' := [(3, .int (0 : Int32)), (0, .ref a0), (1, .int x1), (2, .int x2)]) hx hb dX12_positions_1 rfl hl (by decide) rfl (fun ls hl => ?_)
  refine lv_iconst (v := 0) hx hb dX12_positions_2 (by decide) ?_
  refine lv_istore (lv' := [(4, .int (0 : Int32)), (3, .int (0 : Int32)), (0, .ref a0), (1, .int x1), (2, .int x2)]) hx hb dX12_positions_3 hl (by decide) rfl (fun ls hl => ?_)
  obtain ⟨n_1, hp⟩ := hp
  exact t_X12_positions_5 F hr hlocks hK n_1 hp hW hE (lv_sub hl [2, 3, 4, 1, 0] rfl) hL_a0 hK_a0
set_option maxHeartbeats 4000000 in
set_option maxRecDepth 100000 in
theorem c_X12_positions (l : Launch) {D : wD} {cy : Nat → ClassId} {X : va_W} {S0 : wS} {post : Int32 → wS → Prop} {a0 : Nat} {x1 : Int32} {x2 : Int32} (hL_a0 : wM D S0 a0) (hK_a0 : sK S0 a0 = 17) (hp : wp_X12_positions D post S0 a0 x1 x2) : mI D cy X l yX12_positions wz_X12_positions r_X12_positions [.ref a0, .int x1, .int x2] S0 (fun r S9 => wX D S0 S9 ∧ post r S9) := by
  intro sz
  refine Met.ofW (cc := cX12_positions) (maxL := 6) (ret := (some .int)) (by decide) rfl ?_
  intro p e s m args below meth c s₁ B hml hv
  obtain ⟨rfl, hsz, hP, hK, hD0, hRO⟩ := hv
  have hts := atoms_spec (ws := wz_X12_positions) B.pre
  have hown : s.vm.findClass RX12 = some m.cls := findClass_of_methodNamed B.named
  subst hsz
  have hD := hD0.self (sz := s.heap.size)
  have F : CallFix p m c cX12_positions 6 s _ wz_X12_positions RX12 := ⟨B.exec, B.bytes, hml, hown, hts⟩
  have hr := B.returns
  have hlocks := B.notSynchronized
  generalize hAe : va_A (wL cy X S0) s.heap.size = A at hD hK ⊢
  have hA : ∀ q, s.heap.size ≤ q → A q := fun q h => by rw [← hAe]; exact Or.inr h
  have hW : wO D cy X A s.heap S0 s.heap [] := ⟨hP, hD, va_S.rf, hA, hRO⟩
  have hl := lv_entry ([.ref a0, .int x1, .int x2]) (n := 6) (Nat.le_of_ble_eq_true rfl)
  rw [lg_entry_eq]
  generalize (lg_sl ([.ref a0, .int x1, .int x2]) ++ List.replicate (6 - (lg_sl ([.ref a0, .int x1, .int x2])).length) Slot.unset).toArray = ls at hl ⊢
  have hl : lv_has ls 6 [(0, .ref a0), (1, .int x1), (2, .int x2)] := hl
  unfold wp_X12_positions at hp
  exact t_X12_positions_0 F hr hlocks hK hp hW wX.rf (lv_sub hl [0, 1, 2] rfl) hL_a0 hK_a0
def wp_X12_patternCount_22 (D : wD) (post : Int32 → wS → Prop)  (S : wS) (t0 : Int32) : Prop :=
post t0 S
def wp_X12_patternCount_0 (D : wD) (post : Int32 → wS → Prop)  (S : wS) (a0 : Nat) (x1 : Int32) : Prop :=
wp_X12_isShelf D (fun r_1 S_2 => 
wp_X12_can D (fun r_3 S_4 => 
((r_3 = 0 → wp_X12_patternCount_22 D post S_4 (0 : Int32)) ∧
 (¬ r_3 = 0 → wp_X12_positions D (fun r_6 S_7 => 
wp_X12_patternCount_22 D post S_7 r_6) S_4 a0 x1 (1 : Int32)))) S_2 a0 r_1 (1 : Int32)) S x1
abbrev r_X12_patternCount : Room := { frames := 4, cells := 0, slots := 0, locals := 99 }
def wp_X12_patternCount (D : wD) (post : Int32 → wS → Prop) (S : wS) (a0 : Nat) (x1 : Int32) : Prop := wp_X12_patternCount_0 D post S a0 x1
set_option maxHeartbeats 4000000 in
set_option maxRecDepth 100000 in
theorem t_X12_patternCount_22 {p : Program} {l : Launch} {e : Env} {s : State} {m : MethodId} {args : Array Value} {below : List Frame} {meth : Method} {c : Code} {D : wD} {cy : Nat → ClassId} {X : va_W} {A : Nat → Prop} {S0 : wS} {post : Int32 → wS → Prop} (F : CallFix p m c cX12_patternCount 2 s args wz_X12_patternCount RX12) (hr : meth.sig.returnType = (some .int)) (hlocks : meth.locks = false) (hK : wK D cy A s) : ∀ {S : wS} {H : Heap} {locs : List Loc} {ls : Array Slot} {t0 : Int32}, wp_X12_patternCount_22 D post S t0 → wO D cy X A s.heap S H locs → wX D S0 S → lv_has ls 2 [] → W p l e r_X12_patternCount s m args below meth c H locs 0 0 (MQ below (va_Qi (fun r S9 => wX D S0 S9 ∧ post r S9) (wB D cy X A) A) args s 0 0 A) (F0 m 22 ls [.int t0]) := by
  obtain ⟨hx, hb, hml, hown, hts⟩ := id F
  have hwg : ∀ w ∈ WG, w.before args s = true := fun w h => hts w (List.mem_cons_of_mem _ h)
  intro S H locs ls t0 hp hW hE hl
  unfold wp_X12_patternCount_22 at hp
  exact w_iret hx hb hr hlocks hW ⟨hE, hp⟩ dX12_patternCount_22
set_option maxHeartbeats 4000000 in
set_option maxRecDepth 100000 in
theorem t_X12_patternCount_0 {p : Program} {l : Launch} {e : Env} {s : State} {m : MethodId} {args : Array Value} {below : List Frame} {meth : Method} {c : Code} {D : wD} {cy : Nat → ClassId} {X : va_W} {A : Nat → Prop} {S0 : wS} {post : Int32 → wS → Prop} (F : CallFix p m c cX12_patternCount 2 s args wz_X12_patternCount RX12) (hr : meth.sig.returnType = (some .int)) (hlocks : meth.locks = false) (hK : wK D cy A s) : ∀ {S : wS} {H : Heap} {locs : List Loc} {ls : Array Slot} {a0 : Nat} {x1 : Int32}, wp_X12_patternCount_0 D post S a0 x1 → wO D cy X A s.heap S H locs → wX D S0 S → lv_has ls 2 [(0, .ref a0), (1, .int x1)] → wM D S a0 → sK S a0 = 17 → W p l e r_X12_patternCount s m args below meth c H locs 0 0 (MQ below (va_Qi (fun r S9 => wX D S0 S9 ∧ post r S9) (wB D cy X A) A) args s 0 0 A) (F0 m 0 ls []) := by
  obtain ⟨hx, hb, hml, hown, hts⟩ := id F
  have hwg : ∀ w ∈ WG, w.before args s = true := fun w h => hts w (List.mem_cons_of_mem _ h)
  intro S H locs ls a0 x1 hp hW hE hl hL_a0 hK_a0
  unfold wp_X12_patternCount_0 at hp
  refine lv_aload_n hx hb dX12_patternCount_0 rfl (lv_at hl 0 rfl) ?_
  refine lv_iload_n hx hb dX12_patternCount_1 rfl (lv_at hl 1 rfl) ?_
  refine w_callI (va_runS (As := [.int x1]) (rest := [.ref a0]) F (c_X12_isShelf l hp H.size) (va_cwS 1 hts (wg_S wm_RX12_397 wy_X12_isShelf) rfl rfl rfl (by decide +kernel) ⟨Nat.le_of_ble_eq_true rfl, Nat.le_of_ble_eq_true rfl⟩) (w_preS hK hW) rfl rfl hl.1 rfl (lv_room (Nat.le_of_ble_eq_true rfl)) dX12_patternCount_2 ⟨Nat.le_of_ble_eq_true rfl, Nat.le_of_ble_eq_true rfl⟩) hW (fun r_1 S_2 H locs hp hW => ?_)
  obtain ⟨hX_S_2, hp⟩ := hp
  refine W.widen (k := 0) (n := 0) (by decide) (by decide) ?_
  have hE := hE.trans hX_S_2
  have hK_a0 : sK S_2 a0 = 17 := (hX_S_2.2 a0 hL_a0).1.trans hK_a0
  have hL_a0 : wM D S_2 a0 := hX_S_2.M hL_a0
  refine lv_iconst (v := 1) hx hb dX12_patternCount_5 (by decide) ?_
  refine w_callI (va_runV (As := [.int r_1, .int (1 : Int32)]) (rest := []) F (c_X12_can l hL_a0 hK_a0 hp H.size) (cwV (C := RX12) 2 hts (wg_V wm_RX12_237 wy_X12_can) rfl rfl rfl (by decide +kernel) ⟨Nat.le_of_ble_eq_true rfl, Nat.le_of_ble_eq_true rfl⟩) (w_preV hK hW hL_a0 hK_a0 (by decide) rfl) rfl rfl hl.1 rfl (lv_room (Nat.le_of_ble_eq_true rfl)) dX12_patternCount_6 ⟨Nat.le_of_ble_eq_true rfl, Nat.le_of_ble_eq_true rfl⟩) hW (fun r_3 S_4 H locs hp hW => ?_)
  obtain ⟨hX_S_4, hp⟩ := hp
  refine W.widen (k := 0) (n := 0) (by decide) (by decide) ?_
  have hE := hE.trans hX_S_4
  have hK_a0 : sK S_4 a0 = 17 := (hX_S_4.2 a0 hL_a0).1.trans hK_a0
  have hL_a0 : wM D S_4 a0 := hX_S_4.M hL_a0
  refine lv_if_eq (tgt := 21) hx hb dX12_patternCount_9 (by decide) (fun c_5 => ?_) (fun c_5 => ?_)
  · replace hp := hp.1 c_5
    refine lv_iconst (v := 0) hx hb dX12_patternCount_21 (by decide) ?_
    exact t_X12_patternCount_22 F hr hlocks hK hp hW hE (lv_sub hl [] rfl)
  · replace hp := hp.2 c_5
    refine lv_aload_n hx hb dX12_patternCount_12 rfl (lv_at hl 0 rfl) ?_
    refine lv_iload_n hx hb dX12_patternCount_13 rfl (lv_at hl 1 rfl) ?_
    refine lv_iconst (v := 1) hx hb dX12_patternCount_14 (by decide) ?_
    refine w_callI (va_runV (As := [.int x1, .int (1 : Int32)]) (rest := []) F (c_X12_positions l hL_a0 hK_a0 hp H.size) (cwV (C := RX12) 2 hts (wg_V wm_RX12_420 wy_X12_positions) rfl rfl rfl (by decide +kernel) ⟨Nat.le_of_ble_eq_true rfl, Nat.le_of_ble_eq_true rfl⟩) (w_preV hK hW hL_a0 hK_a0 (by decide) rfl) rfl rfl hl.1 rfl (lv_room (Nat.le_of_ble_eq_true rfl)) dX12_patternCount_15 ⟨Nat.le_of_ble_eq_true rfl, Nat.le_of_ble_eq_true rfl⟩) hW (fun r_6 S_7 H locs hp hW => ?_)
    obtain ⟨hX_S_7, hp⟩ := hp
    refine W.widen (k := 0) (n := 0) (by decide) (by decide) ?_
    have hE := hE.trans hX_S_7
    have hK_a0 : sK S_7 a0 = 17 := (hX_S_7.2 a0 hL_a0).1.trans hK_a0
    have hL_a0 : wM D S_7 a0 := hX_S_7.M hL_a0
    refine lv_goto (tgt := 22) hx hb dX12_patternCount_18 (by decide) ?_
    exact t_X12_patternCount_22 F hr hlocks hK hp hW hE (lv_sub hl [] rfl)
set_option maxHeartbeats 4000000 in
set_option maxRecDepth 100000 in
theorem c_X12_patternCount (l : Launch) {D : wD} {cy : Nat → ClassId} {X : va_W} {S0 : wS} {post : Int32 → wS → Prop} {a0 : Nat} {x1 : Int32} (hL_a0 : wM D S0 a0) (hK_a0 : sK S0 a0 = 17) (hp : wp_X12_patternCount D post S0 a0 x1) : mI D cy X l yX12_patternCount wz_X12_patternCount r_X12_patternCount [.ref a0, .int x1] S0 (fun r S9 => wX D S0 S9 ∧ post r S9) := by
  intro sz
  refine Met.ofW (cc := cX12_patternCount) (maxL := 2) (ret := (some .int)) (by decide) rfl ?_
  intro p e s m args below meth c s₁ B hml hv
  obtain ⟨rfl, hsz, hP, hK, hD0, hRO⟩ := hv
  have hts := atoms_spec (ws := wz_X12_patternCount) B.pre
  have hown : s.vm.findClass RX12 = some m.cls := findClass_of_methodNamed B.named
  subst hsz
  have hD := hD0.self (sz := s.heap.size)
  have F : CallFix p m c cX12_patternCount 2 s _ wz_X12_patternCount RX12 := ⟨B.exec, B.bytes, hml, hown, hts⟩
  have hr := B.returns
  have hlocks := B.notSynchronized
  generalize hAe : va_A (wL cy X S0) s.heap.size = A at hD hK ⊢
  have hA : ∀ q, s.heap.size ≤ q → A q := fun q h => by rw [← hAe]; exact Or.inr h
  have hW : wO D cy X A s.heap S0 s.heap [] := ⟨hP, hD, va_S.rf, hA, hRO⟩
  have hl := lv_entry ([.ref a0, .int x1]) (n := 2) (Nat.le_of_ble_eq_true rfl)
  rw [lg_entry_eq]
  generalize (lg_sl ([.ref a0, .int x1]) ++ List.replicate (2 - (lg_sl ([.ref a0, .int x1])).length) Slot.unset).toArray = ls at hl ⊢
  have hl : lv_has ls 2 [(0, .ref a0), (1, .int x1)] := hl
  unfold wp_X12_patternCount at hp
  exact t_X12_patternCount_0 F hr hlocks hK hp hW wX.rf (lv_sub hl [0, 1] rfl) hL_a0 hK_a0
def wp_X12_pieceAt_28 (D : wD) (post : Int32 → wS → Prop)  (S : wS) (t0 : Int32) : Prop :=
post t0 S
def wp_X12_pieceAt_0 (D : wD) (post : Int32 → wS → Prop)  (S : wS) (a0 : Nat) (x1 : Int32) : Prop :=
wp_X12_isSquare D (fun r_1 S_2 => 
wp_X12_can D (fun r_3 S_4 => 
((r_3 = 0 → wp_X12_pieceAt_28 D post S_4 (0 : Int32)) ∧
 (¬ r_3 = 0 → ∃ y_6 : Nat, sR S_4 a0 8 = some y_6 ∧ wM D S_4 y_6 ∧ sK S_4 y_6 = 21 ∧
wp_X12_presentAt D (fun r_7 S_8 => 
vp_in (r_7 + x1) (sN S_8 y_6) ∧
wp_X12_pieceAt_28 D post S_8 (sI S_8 y_6 ((r_7 + x1)).toNatClampNeg)) S_4 a0))) S_2 a0 r_1 (1 : Int32)) S a0 x1
abbrev r_X12_pieceAt : Room := { frames := 2, cells := 0, slots := 0, locals := 43 }
def wp_X12_pieceAt (D : wD) (post : Int32 → wS → Prop) (S : wS) (a0 : Nat) (x1 : Int32) : Prop := wp_X12_pieceAt_0 D post S a0 x1
set_option maxHeartbeats 4000000 in
set_option maxRecDepth 100000 in
theorem t_X12_pieceAt_28 {p : Program} {l : Launch} {e : Env} {s : State} {m : MethodId} {args : Array Value} {below : List Frame} {meth : Method} {c : Code} {D : wD} {cy : Nat → ClassId} {X : va_W} {A : Nat → Prop} {S0 : wS} {post : Int32 → wS → Prop} (F : CallFix p m c cX12_pieceAt 2 s args wz_X12_pieceAt RX12) (hr : meth.sig.returnType = (some .int)) (hlocks : meth.locks = false) (hK : wK D cy A s) : ∀ {S : wS} {H : Heap} {locs : List Loc} {ls : Array Slot} {t0 : Int32}, wp_X12_pieceAt_28 D post S t0 → wO D cy X A s.heap S H locs → wX D S0 S → lv_has ls 2 [] → W p l e r_X12_pieceAt s m args below meth c H locs 0 0 (MQ below (va_Qi (fun r S9 => wX D S0 S9 ∧ post r S9) (wB D cy X A) A) args s 0 0 A) (F0 m 28 ls [.int t0]) := by
  obtain ⟨hx, hb, hml, hown, hts⟩ := id F
  have hwg : ∀ w ∈ WG, w.before args s = true := fun w h => hts w (List.mem_cons_of_mem _ h)
  intro S H locs ls t0 hp hW hE hl
  unfold wp_X12_pieceAt_28 at hp
  exact w_iret hx hb hr hlocks hW ⟨hE, hp⟩ dX12_pieceAt_28
set_option maxHeartbeats 4000000 in
set_option maxRecDepth 100000 in
theorem t_X12_pieceAt_0 {p : Program} {l : Launch} {e : Env} {s : State} {m : MethodId} {args : Array Value} {below : List Frame} {meth : Method} {c : Code} {D : wD} {cy : Nat → ClassId} {X : va_W} {A : Nat → Prop} {S0 : wS} {post : Int32 → wS → Prop} (F : CallFix p m c cX12_pieceAt 2 s args wz_X12_pieceAt RX12) (hr : meth.sig.returnType = (some .int)) (hlocks : meth.locks = false) (hK : wK D cy A s) : ∀ {S : wS} {H : Heap} {locs : List Loc} {ls : Array Slot} {a0 : Nat} {x1 : Int32}, wp_X12_pieceAt_0 D post S a0 x1 → wO D cy X A s.heap S H locs → wX D S0 S → lv_has ls 2 [(0, .ref a0), (1, .int x1)] → wM D S a0 → sK S a0 = 17 → W p l e r_X12_pieceAt s m args below meth c H locs 0 0 (MQ below (va_Qi (fun r S9 => wX D S0 S9 ∧ post r S9) (wB D cy X A) A) args s 0 0 A) (F0 m 0 ls []) := by
  obtain ⟨hx, hb, hml, hown, hts⟩ := id F
  have hwg : ∀ w ∈ WG, w.before args s = true := fun w h => hts w (List.mem_cons_of_mem _ h)
  have i_17 : ∀ w ∈ u_ws RX12 TX12 43, w ∈ wz_X12_pieceAt := fun w h => List.mem_cons_of_mem _ (wu_17 w h)
  have k_32 := hwg _ wf_RX12_32
  intro S H locs ls a0 x1 hp hW hE hl hL_a0 hK_a0
  unfold wp_X12_pieceAt_0 at hp
  refine lv_aload_n hx hb dX12_pieceAt_0 rfl (lv_at hl 0 rfl) ?_
  refine lv_aload_n hx hb dX12_pieceAt_1 rfl (lv_at hl 0 rfl) ?_
  refine lv_iload_n hx hb dX12_pieceAt_2 rfl (lv_at hl 1 rfl) ?_
  refine w_callI (va_runV (As := [.int x1]) (rest := [.ref a0]) F (c_X12_isSquare l hL_a0 hK_a0 hp H.size) (cwV (C := RX12) 1 hts (wg_V wm_RX12_241 wy_X12_isSquare) rfl rfl rfl (by decide +kernel) ⟨Nat.le_of_ble_eq_true rfl, Nat.le_of_ble_eq_true rfl⟩) (w_preV hK hW hL_a0 hK_a0 (by decide) rfl) rfl rfl hl.1 rfl (lv_room (Nat.le_of_ble_eq_true rfl)) dX12_pieceAt_3 ⟨Nat.le_of_ble_eq_true rfl, Nat.le_of_ble_eq_true rfl⟩) hW (fun r_1 S_2 H locs hp hW => ?_)
  obtain ⟨hX_S_2, hp⟩ := hp
  refine W.widen (k := 0) (n := 0) (by decide) (by decide) ?_
  have hE := hE.trans hX_S_2
  have hK_a0 : sK S_2 a0 = 17 := (hX_S_2.2 a0 hL_a0).1.trans hK_a0
  have hL_a0 : wM D S_2 a0 := hX_S_2.M hL_a0
  refine lv_iconst (v := 1) hx hb dX12_pieceAt_6 (by decide) ?_
  refine w_callI (va_runV (As := [.int r_1, .int (1 : Int32)]) (rest := []) F (c_X12_can l hL_a0 hK_a0 hp H.size) (cwV (C := RX12) 2 hts (wg_V wm_RX12_237 wy_X12_can) rfl rfl rfl (by decide +kernel) ⟨Nat.le_of_ble_eq_true rfl, Nat.le_of_ble_eq_true rfl⟩) (w_preV hK hW hL_a0 hK_a0 (by decide) rfl) rfl rfl hl.1 rfl (lv_room (Nat.le_of_ble_eq_true rfl)) dX12_pieceAt_7 ⟨Nat.le_of_ble_eq_true rfl, Nat.le_of_ble_eq_true rfl⟩) hW (fun r_3 S_4 H locs hp hW => ?_)
  obtain ⟨hX_S_4, hp⟩ := hp
  refine W.widen (k := 0) (n := 0) (by decide) (by decide) ?_
  have hE := hE.trans hX_S_4
  have hK_a0 : sK S_4 a0 = 17 := (hX_S_4.2 a0 hL_a0).1.trans hK_a0
  have hL_a0 : wM D S_4 a0 := hX_S_4.M hL_a0
  refine lv_if_eq (tgt := 27) hx hb dX12_pieceAt_10 (by decide) (fun c_5 => ?_) (fun c_5 => ?_)
  · replace hp := hp.1 c_5
    refine lv_iconst (v := 0) hx hb dX12_pieceAt_27 (by decide) ?_
    exact t_X12_pieceAt_28 F hr hlocks hK hp hW hE (lv_sub hl [] rfl)
  · replace hp := hp.2 c_5
    refine lv_aload_n hx hb dX12_pieceAt_13 rfl (lv_at hl 0 rfl) ?_
    obtain ⟨y_6, ey_6, hL_y_6, hK_y_6, hp⟩ := hp
    refine w_get (k := 17) (f := 8) (T := TX12) (v := .ref y_6) F hK hW hL_a0 hK_a0 (by decide) rfl rfl (by decide) i_17 k_32 (by rw [show wv 17 8 S_4 a0 = va_rf (sR S_4 a0 8) from rfl, ey_6]; rfl) dX12_pieceAt_14 ?_
    refine lv_aload_n hx hb dX12_pieceAt_17 rfl (lv_at hl 0 rfl) ?_
    refine w_callI (va_runV (As := []) (rest := [.ref y_6]) F (c_X12_presentAt l hL_a0 hK_a0 hp H.size) (cwV (C := RX12) 0 hts (wg_V wm_RX12_127 wy_X12_presentAt) rfl rfl rfl (by decide +kernel) ⟨Nat.le_of_ble_eq_true rfl, Nat.le_of_ble_eq_true rfl⟩) (w_preV hK hW hL_a0 hK_a0 (by decide) rfl) rfl rfl hl.1 rfl (lv_room (Nat.le_of_ble_eq_true rfl)) dX12_pieceAt_18 ⟨Nat.le_of_ble_eq_true rfl, Nat.le_of_ble_eq_true rfl⟩) hW (fun r_7 S_8 H locs hp hW => ?_)
    obtain ⟨hX_S_8, hp⟩ := hp
    refine W.widen (k := 0) (n := 0) (by decide) (by decide) ?_
    have hE := hE.trans hX_S_8
    have hK_a0 : sK S_8 a0 = 17 := (hX_S_8.2 a0 hL_a0).1.trans hK_a0
    have hL_a0 : wM D S_8 a0 := hX_S_8.M hL_a0
    have hK_y_6 : sK S_8 y_6 = 21 := (hX_S_8.2 y_6 hL_y_6).1.trans hK_y_6
    have hL_y_6 : wM D S_8 y_6 := hX_S_8.M hL_y_6
    refine lv_iload_n hx hb dX12_pieceAt_21 rfl (lv_at hl 1 rfl) ?_
    refine lv_iadd hx hb dX12_pieceAt_22 ?_
    obtain ⟨h_9, hp⟩ := hp
    refine w_ild F hK hW hL_y_6 hK_y_6 h_9 dX12_pieceAt_23 ?_
    refine lv_goto (tgt := 28) hx hb dX12_pieceAt_24 (by decide) ?_
    exact t_X12_pieceAt_28 F hr hlocks hK hp hW hE (lv_sub hl [] rfl)
set_option maxHeartbeats 4000000 in
set_option maxRecDepth 100000 in
theorem c_X12_pieceAt (l : Launch) {D : wD} {cy : Nat → ClassId} {X : va_W} {S0 : wS} {post : Int32 → wS → Prop} {a0 : Nat} {x1 : Int32} (hL_a0 : wM D S0 a0) (hK_a0 : sK S0 a0 = 17) (hp : wp_X12_pieceAt D post S0 a0 x1) : mI D cy X l yX12_pieceAt wz_X12_pieceAt r_X12_pieceAt [.ref a0, .int x1] S0 (fun r S9 => wX D S0 S9 ∧ post r S9) := by
  intro sz
  refine Met.ofW (cc := cX12_pieceAt) (maxL := 2) (ret := (some .int)) (by decide) rfl ?_
  intro p e s m args below meth c s₁ B hml hv
  obtain ⟨rfl, hsz, hP, hK, hD0, hRO⟩ := hv
  have hts := atoms_spec (ws := wz_X12_pieceAt) B.pre
  have hown : s.vm.findClass RX12 = some m.cls := findClass_of_methodNamed B.named
  subst hsz
  have hD := hD0.self (sz := s.heap.size)
  have F : CallFix p m c cX12_pieceAt 2 s _ wz_X12_pieceAt RX12 := ⟨B.exec, B.bytes, hml, hown, hts⟩
  have hr := B.returns
  have hlocks := B.notSynchronized
  generalize hAe : va_A (wL cy X S0) s.heap.size = A at hD hK ⊢
  have hA : ∀ q, s.heap.size ≤ q → A q := fun q h => by rw [← hAe]; exact Or.inr h
  have hW : wO D cy X A s.heap S0 s.heap [] := ⟨hP, hD, va_S.rf, hA, hRO⟩
  have hl := lv_entry ([.ref a0, .int x1]) (n := 2) (Nat.le_of_ble_eq_true rfl)
  rw [lg_entry_eq]
  generalize (lg_sl ([.ref a0, .int x1]) ++ List.replicate (2 - (lg_sl ([.ref a0, .int x1])).length) Slot.unset).toArray = ls at hl ⊢
  have hl : lv_has ls 2 [(0, .ref a0), (1, .int x1)] := hl
  unfold wp_X12_pieceAt at hp
  exact t_X12_pieceAt_0 F hr hlocks hK hp hW wX.rf (lv_sub hl [0, 1] rfl) hL_a0 hK_a0
def wp_X12_pieceBy_2 (D : wD) (post : Int32 → wS → Prop)  : Nat → wS → Int32 → Int32 → Prop
  | 0, _, _, _ => False
  | n + 1, S, x0, x1 =>
    (((6 : Int32) < x1 → post (0 : Int32) S) ∧
     (¬ (6 : Int32) < x1 → wp_X12_letterOf D (fun r_2 S_3 => 
    ((¬ x0 = r_2 → wp_X12_letterOf D (fun r_5 S_6 => 
    ((¬ x0 = (r_5 + (32 : Int32)) → ∀ x_8 : Int32, x_8 = x1 + 1 →
    wp_X12_pieceBy_2 D post n S_6 x0 x_8) ∧
     (x0 = (r_5 + (32 : Int32)) → post (x1 + (6 : Int32)) S_6))) S_3 x1) ∧
     (x0 = r_2 → post x1 S_3))) S x1))
def wp_X12_pieceBy_0 (D : wD) (post : Int32 → wS → Prop)  (S : wS) (x0 : Int32) : Prop :=
∃ n_1 : Nat, wp_X12_pieceBy_2 D post n_1 S x0 (1 : Int32)
abbrev r_X12_pieceBy : Room := { frames := 1, cells := 0, slots := 0, locals := 20 }
def wp_X12_pieceBy (D : wD) (post : Int32 → wS → Prop) (S : wS) (x0 : Int32) : Prop := wp_X12_pieceBy_0 D post S x0
set_option maxHeartbeats 4000000 in
set_option maxRecDepth 100000 in
theorem t_X12_pieceBy_2 {p : Program} {l : Launch} {e : Env} {s : State} {m : MethodId} {args : Array Value} {below : List Frame} {meth : Method} {c : Code} {D : wD} {cy : Nat → ClassId} {X : va_W} {A : Nat → Prop} {S0 : wS} {post : Int32 → wS → Prop} (F : CallFix p m c cX12_pieceBy 2 s args wz_X12_pieceBy RX12) (hr : meth.sig.returnType = (some .int)) (hlocks : meth.locks = false) (hK : wK D cy A s) : ∀ (n : Nat) {S : wS} {H : Heap} {locs : List Loc} {ls : Array Slot} {x0 : Int32} {x1 : Int32}, wp_X12_pieceBy_2 D post n S x0 x1 → wO D cy X A s.heap S H locs → wX D S0 S → lv_has ls 2 [(0, .int x0), (1, .int x1)] → W p l e r_X12_pieceBy s m args below meth c H locs 0 0 (MQ below (va_Qi (fun r S9 => wX D S0 S9 ∧ post r S9) (wB D cy X A) A) args s 0 0 A) (F0 m 2 ls []) := by
  obtain ⟨hx, hb, hml, hown, hts⟩ := id F
  have hwg : ∀ w ∈ WG, w.before args s = true := fun w h => hts w (List.mem_cons_of_mem _ h)
  intro n
  induction n with
  | zero =>
    intro S H locs ls x0 x1 hp
    exact hp.elim
  | succ n ih =>
    intro S H locs ls x0 x1 hp hW hE hl
    unfold wp_X12_pieceBy_2 at hp
    refine lv_iload_n hx hb dX12_pieceBy_2 rfl (lv_at hl 1 rfl) ?_
    refine lv_bipush (v := 6) hx hb dX12_pieceBy_3 (by decide) ?_
    refine lv_icmp_gt (tgt := 40) hx hb dX12_pieceBy_5 (by decide) (fun c_1 => ?_) (fun c_1 => ?_)
    · replace hp := hp.1 c_1
      refine lv_iconst (v := 0) hx hb dX12_pieceBy_40 (by decide) ?_
      exact w_iret hx hb hr hlocks hW ⟨hE, hp⟩ dX12_pieceBy_41
    · replace hp := hp.2 c_1
      refine lv_iload_n hx hb dX12_pieceBy_8 rfl (lv_at hl 0 rfl) ?_
      refine lv_iload_n hx hb dX12_pieceBy_9 rfl (lv_at hl 1 rfl) ?_
      refine w_callI (va_runS (As := [.int x1]) (rest := [.int x0]) F (c_X12_letterOf l hp H.size) (va_cwS 1 hts (wg_S wm_RX12_250 wy_X12_letterOf) rfl rfl rfl (by decide +kernel) ⟨Nat.le_of_ble_eq_true rfl, Nat.le_of_ble_eq_true rfl⟩) (w_preS hK hW) rfl rfl hl.1 rfl (lv_room (Nat.le_of_ble_eq_true rfl)) dX12_pieceBy_10 ⟨Nat.le_of_ble_eq_true rfl, Nat.le_of_ble_eq_true rfl⟩) hW (fun r_2 S_3 H locs hp hW => ?_)
      obtain ⟨hX_S_3, hp⟩ := hp
      refine W.widen (k := 0) (n := 0) (by decide) (by decide) ?_
      have hE := hE.trans hX_S_3
      refine lv_icmp_ne (tgt := 18) hx hb dX12_pieceBy_13 (by decide) (fun c_4 => ?_) (fun c_4 => ?_)
      · replace hp := hp.1 c_4
        refine lv_iload_n hx hb dX12_pieceBy_18 rfl (lv_at hl 0 rfl) ?_
        refine lv_iload_n hx hb dX12_pieceBy_19 rfl (lv_at hl 1 rfl) ?_
        refine w_callI (va_runS (As := [.int x1]) (rest := [.int x0]) F (c_X12_letterOf l hp H.size) (va_cwS 1 hts (wg_S wm_RX12_250 wy_X12_letterOf) rfl rfl rfl (by decide +kernel) ⟨Nat.le_of_ble_eq_true rfl, Nat.le_of_ble_eq_true rfl⟩) (w_preS hK hW) rfl rfl hl.1 rfl (lv_room (Nat.le_of_ble_eq_true rfl)) dX12_pieceBy_20 ⟨Nat.le_of_ble_eq_true rfl, Nat.le_of_ble_eq_true rfl⟩) hW (fun r_5 S_6 H locs hp hW => ?_)
        obtain ⟨hX_S_6, hp⟩ := hp
        refine W.widen (k := 0) (n := 0) (by decide) (by decide) ?_
        have hE := hE.trans hX_S_6
        refine lv_bipush (v := 32) hx hb dX12_pieceBy_23 (by decide) ?_
        refine lv_iadd hx hb dX12_pieceBy_25 ?_
        refine lv_icmp_ne (tgt := 34) hx hb dX12_pieceBy_26 (by decide) (fun c_7 => ?_) (fun c_7 => ?_)
        · replace hp := hp.1 c_7
          obtain ⟨x_8, ex_8⟩ : ∃ z : Int32, z = x1 + 1 := ⟨_, rfl⟩
          replace hp := hp x_8 ex_8
          refine lv_iinc (v := x_8) (lv' := [(1, .int x_8), (0, .int x0)]) hx hb dX12_pieceBy_34 hl (k := 1) rfl (by rw [ex_8]; rfl) (by decide) rfl (fun ls hl => ?_)
          refine lv_goto (tgt := 2) hx hb dX12_pieceBy_37 (by decide) ?_
          exact ih hp hW hE (lv_sub hl [1, 0] rfl)
        · replace hp := hp.2 c_7
          refine lv_iload_n hx hb dX12_pieceBy_29 rfl (lv_at hl 1 rfl) ?_
          refine lv_bipush (v := 6) hx hb dX12_pieceBy_30 (by decide) ?_
          refine lv_iadd hx hb dX12_pieceBy_32 ?_
          exact w_iret hx hb hr hlocks hW ⟨hE, hp⟩ dX12_pieceBy_33
      · replace hp := hp.2 c_4
        refine lv_iload_n hx hb dX12_pieceBy_16 rfl (lv_at hl 1 rfl) ?_
        exact w_iret hx hb hr hlocks hW ⟨hE, hp⟩ dX12_pieceBy_17
set_option maxHeartbeats 4000000 in
set_option maxRecDepth 100000 in
theorem t_X12_pieceBy_0 {p : Program} {l : Launch} {e : Env} {s : State} {m : MethodId} {args : Array Value} {below : List Frame} {meth : Method} {c : Code} {D : wD} {cy : Nat → ClassId} {X : va_W} {A : Nat → Prop} {S0 : wS} {post : Int32 → wS → Prop} (F : CallFix p m c cX12_pieceBy 2 s args wz_X12_pieceBy RX12) (hr : meth.sig.returnType = (some .int)) (hlocks : meth.locks = false) (hK : wK D cy A s) : ∀ {S : wS} {H : Heap} {locs : List Loc} {ls : Array Slot} {x0 : Int32}, wp_X12_pieceBy_0 D post S x0 → wO D cy X A s.heap S H locs → wX D S0 S → lv_has ls 2 [(0, .int x0)] → W p l e r_X12_pieceBy s m args below meth c H locs 0 0 (MQ below (va_Qi (fun r S9 => wX D S0 S9 ∧ post r S9) (wB D cy X A) A) args s 0 0 A) (F0 m 0 ls []) := by
  obtain ⟨hx, hb, hml, hown, hts⟩ := id F
  have hwg : ∀ w ∈ WG, w.before args s = true := fun w h => hts w (List.mem_cons_of_mem _ h)
  intro S H locs ls x0 hp hW hE hl
  unfold wp_X12_pieceBy_0 at hp
  refine lv_iconst (v := 1) hx hb dX12_pieceBy_0 (by decide) ?_
  refine lv_istore_n (lv' := [(1, .int (1 : Int32)), (0, .int x0)]) hx hb dX12_pieceBy_1 rfl hl (by decide) rfl (fun ls hl => ?_)
  obtain ⟨n_1, hp⟩ := hp
  exact t_X12_pieceBy_2 F hr hlocks hK n_1 hp hW hE (lv_sub hl [1, 0] rfl)
set_option maxHeartbeats 4000000 in
set_option maxRecDepth 100000 in
theorem c_X12_pieceBy (l : Launch) {D : wD} {cy : Nat → ClassId} {X : va_W} {S0 : wS} {post : Int32 → wS → Prop} {x0 : Int32} (hp : wp_X12_pieceBy D post S0 x0) : mI D cy X l yX12_pieceBy wz_X12_pieceBy r_X12_pieceBy [.int x0] S0 (fun r S9 => wX D S0 S9 ∧ post r S9) := by
  intro sz
  refine Met.ofW (cc := cX12_pieceBy) (maxL := 2) (ret := (some .int)) (by decide) rfl ?_
  intro p e s m args below meth c s₁ B hml hv
  obtain ⟨rfl, hsz, hP, hK, hD0, hRO⟩ := hv
  have hts := atoms_spec (ws := wz_X12_pieceBy) B.pre
  have hown : s.vm.findClass RX12 = some m.cls := findClass_of_methodNamed B.named
  subst hsz
  have hD := hD0.self (sz := s.heap.size)
  have F : CallFix p m c cX12_pieceBy 2 s _ wz_X12_pieceBy RX12 := ⟨B.exec, B.bytes, hml, hown, hts⟩
  have hr := B.returns
  have hlocks := B.notSynchronized
  generalize hAe : va_A (wL cy X S0) s.heap.size = A at hD hK ⊢
  have hA : ∀ q, s.heap.size ≤ q → A q := fun q h => by rw [← hAe]; exact Or.inr h
  have hW : wO D cy X A s.heap S0 s.heap [] := ⟨hP, hD, va_S.rf, hA, hRO⟩
  have hl := lv_entry ([.int x0]) (n := 2) (Nat.le_of_ble_eq_true rfl)
  rw [lg_entry_eq]
  generalize (lg_sl ([.int x0]) ++ List.replicate (2 - (lg_sl ([.int x0])).length) Slot.unset).toArray = ls at hl ⊢
  have hl : lv_has ls 2 [(0, .int x0)] := hl
  unfold wp_X12_pieceBy at hp
  exact t_X12_pieceBy_0 F hr hlocks hK hp hW wX.rf (lv_sub hl [0] rfl)
def wp_X12_plays_66 (D : wD) (post : wS → Prop)  (S : wS) (a0 : Nat) (x1 : Int32) (b0 : Nat) (t1 : Int32) (t2 : Int32) : Prop :=
b0 ∈ sL S ∧ vp_in t1 (sN S b0) ∧
∀ S_2 : wS, S_2 = uI S b0 (t1).toNatClampNeg (vp_nar .boolean t2) →
wp_X12_makesListed D (fun S_4 => 
∀ S_5 : wS, S_5 = uI S_4 a0 11 ((sI S_4 a0 11) + (1 : Int32)) →
∃ y_6 : Nat, sR S_5 a0 3 = some y_6 ∧ wM D S_5 y_6 ∧ sK S_5 y_6 = 21 ∧
∃ y_7 : Nat, sR S_5 a0 8 = some y_7 ∧ wM D S_5 y_7 ∧ sK S_5 y_7 = 21 ∧
wp_X12_presentAt D (fun r_8 S_9 => 
wp_X12_copies D (fun S_11 => 
wp_X12_loads D (fun S_13 => 
post S_13) S_11 a0) S_9 (67 : Int32) y_6 (67 : Int32) y_7 r_8) S_5 a0) S_2 a0 (0 : Int32) x1
def wp_X12_plays_61 (D : wD) (post : wS → Prop)  (S : wS) (a0 : Nat) (x1 : Int32) (b0 : Nat) (t1 : Int32) : Prop :=
wp_X12_plays_66 D post S a0 x1 b0 t1 (1 : Int32)
def wp_X12_plays_0 (D : wD) (post : wS → Prop)  (S : wS) (a0 : Nat) (x1 : Int32) : Prop :=
∃ y_1 : Nat, sR S a0 9 = some y_1 ∧ wM D S y_1 ∧ sK S y_1 = 21 ∧
wp_X12_codeOf D (fun r_2 S_3 => 
y_1 ∈ sL S_3 ∧ vp_in (sI S a0 11) (sN S_3 y_1) ∧
∀ S_5 : wS, S_5 = uI S_3 y_1 ((sI S a0 11)).toNatClampNeg r_2 →
∃ y_6 : Nat, sR S_5 a0 10 = some y_6 ∧ wM D S_5 y_6 ∧ sK S_5 y_6 = 23 ∧
∃ y_7 : Nat, sR S_5 a0 4 = some y_7 ∧ wM D S_5 y_7 ∧ sK S_5 y_7 = 21 ∧
vp_in x1 (sN S_5 y_7) ∧
wp_X12_on D (fun r_9 S_10 => 
wp_X12_kindOf D (fun r_11 S_12 => 
((r_11 = (6 : Int32) → wp_X12_plays_61 D post S_12 a0 x1 y_6 (sI S_5 a0 11)) ∧
 (¬ r_11 = (6 : Int32) → ∃ y_14 : Nat, sR S_12 a0 4 = some y_14 ∧ wM D S_12 y_14 ∧ sK S_12 y_14 = 21 ∧
vp_in x1 (sN S_12 y_14) ∧
∃ y_16 : Nat, sR S_12 a0 5 = some y_16 ∧ wM D S_12 y_16 ∧ sK S_12 y_16 = 21 ∧
vp_in x1 (sN S_12 y_16) ∧
wp_X12_takes D (fun r_18 S_19 => 
((r_18 = 0 → wp_X12_plays_66 D post S_19 a0 x1 y_6 (sI S_5 a0 11) (0 : Int32)) ∧
 (¬ r_18 = 0 → wp_X12_plays_61 D post S_19 a0 x1 y_6 (sI S_5 a0 11)))) S_12 a0 (0 : Int32) (sI S_12 y_14 (x1).toNatClampNeg) (sI S_12 y_16 (x1).toNatClampNeg)))) S_10 r_9) S_5 a0 (0 : Int32) (sI S_5 y_7 (x1).toNatClampNeg)) S a0 x1
abbrev r_X12_plays : Room := { frames := 5, cells := 0, slots := 0, locals := 116 }
def wp_X12_plays (D : wD) (post : wS → Prop) (S : wS) (a0 : Nat) (x1 : Int32) : Prop := wp_X12_plays_0 D post S a0 x1
set_option maxHeartbeats 4000000 in
set_option maxRecDepth 100000 in
theorem t_X12_plays_66 {p : Program} {l : Launch} {e : Env} {s : State} {m : MethodId} {args : Array Value} {below : List Frame} {meth : Method} {c : Code} {D : wD} {cy : Nat → ClassId} {X : va_W} {A : Nat → Prop} {S0 : wS} {post : wS → Prop} (F : CallFix p m c cX12_plays 2 s args wz_X12_plays RX12) (hr : meth.sig.returnType = none) (hlocks : meth.locks = false) (hK : wK D cy A s) : ∀ {S : wS} {H : Heap} {locs : List Loc} {ls : Array Slot} {a0 : Nat} {x1 : Int32} {b0 : Nat} {t1 : Int32} {t2 : Int32}, wp_X12_plays_66 D post S a0 x1 b0 t1 t2 → wO D cy X A s.heap S H locs → wX D S0 S → lv_has ls 2 [(0, .ref a0), (1, .int x1)] → wM D S a0 → sK S a0 = 17 → wM D S b0 → sK S b0 = 23 → W p l e r_X12_plays s m args below meth c H locs 0 0 (MQ below (va_Qv (fun S9 => wX D S0 S9 ∧ post S9) (wB D cy X A) A) args s 0 0 A) (F0 m 66 ls [.int t2, .int t1, .ref b0]) := by
  obtain ⟨hx, hb, hml, hown, hts⟩ := id F
  have hwg : ∀ w ∈ WG, w.before args s = true := fun w h => hts w (List.mem_cons_of_mem _ h)
  have i_17 : ∀ w ∈ u_ws RX12 TX12 43, w ∈ wz_X12_plays := fun w h => List.mem_cons_of_mem _ (wu_17 w h)
  have k_121 := hwg _ wf_RX12_121
  have k_16 := hwg _ wf_RX12_16
  have k_32 := hwg _ wf_RX12_32
  intro S H locs ls a0 x1 b0 t1 t2 hp hW hE hl hL_a0 hK_a0 hL_b0 hK_b0
  unfold wp_X12_plays_66 at hp
  obtain ⟨h_1m, h_1, hp⟩ := hp
  refine w_zst F hK hW h_1m hK_b0 h_1 dX12_plays_66 (fun H locs hW => ?_)
  obtain ⟨S_2, eS_2⟩ : ∃ z : wS, z = uI S b0 (t1).toNatClampNeg (vp_nar .boolean t2) := ⟨_, rfl⟩
  rw [← eS_2] at hW
  replace hp := hp S_2 eS_2
  have hX_S_2 : wX D S S_2 := by rw [eS_2]; exact wX_uI
  have hE := hE.trans hX_S_2
  have hK_a0 : sK S_2 a0 = 17 := (hX_S_2.2 a0 hL_a0).1.trans hK_a0
  have hL_a0 : wM D S_2 a0 := hX_S_2.M hL_a0
  refine lv_aload_n hx hb dX12_plays_67 rfl (lv_at hl 0 rfl) ?_
  refine lv_iconst (v := 0) hx hb dX12_plays_68 (by decide) ?_
  refine lv_iload_n hx hb dX12_plays_69 rfl (lv_at hl 1 rfl) ?_
  refine w_callV (va_runV (As := [.int (0 : Int32), .int x1]) (rest := []) F (c_X12_makesListed l hL_a0 hK_a0 hp H.size) (cwV (C := RX12) 2 hts (wg_V wm_RX12_306 wy_X12_makesListed) rfl rfl rfl (by decide +kernel) ⟨Nat.le_of_ble_eq_true rfl, Nat.le_of_ble_eq_true rfl⟩) (w_preV hK hW hL_a0 hK_a0 (by decide) rfl) rfl rfl hl.1 rfl (lv_room (Nat.le_of_ble_eq_true rfl)) dX12_plays_70 ⟨Nat.le_of_ble_eq_true rfl, Nat.le_of_ble_eq_true rfl⟩) hW (fun S_4 H locs hp hW => ?_)
  obtain ⟨hX_S_4, hp⟩ := hp
  refine W.widen (k := 0) (n := 0) (by decide) (by decide) ?_
  have hE := hE.trans hX_S_4
  have hK_a0 : sK S_4 a0 = 17 := (hX_S_4.2 a0 hL_a0).1.trans hK_a0
  have hL_a0 : wM D S_4 a0 := hX_S_4.M hL_a0
  refine lv_aload_n hx hb dX12_plays_73 rfl (lv_at hl 0 rfl) ?_
  refine lv_dup hx hb dX12_plays_74 rfl ?_
  refine w_get (k := 17) (f := 11) (T := TX12) (v := .int (sI S_4 a0 11)) F hK hW hL_a0 hK_a0 (by decide) rfl rfl (by decide) i_17 k_121 rfl dX12_plays_75 ?_
  refine lv_iconst (v := 1) hx hb dX12_plays_78 (by decide) ?_
  refine lv_iadd hx hb dX12_plays_79 ?_
  refine w_putI (k := 17) (f := 11) (T := TX12) F hK hW hL_a0 hK_a0 (by decide) (by decide) rfl rfl (by decide) i_17 tyX12 tyX12_ok nmX12 k_121 rfl rfl (ty := .int) rfl rfl rfl dX12_plays_80 (fun H locs hW => ?_)
  obtain ⟨S_5, eS_5⟩ : ∃ z : wS, z = uI S_4 a0 11 ((sI S_4 a0 11) + (1 : Int32)) := ⟨_, rfl⟩
  rw [← eS_5] at hW
  replace hp := hp S_5 eS_5
  have hX_S_5 : wX D S_4 S_5 := by rw [eS_5]; exact wX_uI
  have hE := hE.trans hX_S_5
  have hK_a0 : sK S_5 a0 = 17 := (hX_S_5.2 a0 hL_a0).1.trans hK_a0
  have hL_a0 : wM D S_5 a0 := hX_S_5.M hL_a0
  refine lv_bipush (v := 67) hx hb dX12_plays_83 (by decide) ?_
  refine lv_aload_n hx hb dX12_plays_85 rfl (lv_at hl 0 rfl) ?_
  obtain ⟨y_6, ey_6, hL_y_6, hK_y_6, hp⟩ := hp
  refine w_get (k := 17) (f := 3) (T := TX12) (v := .ref y_6) F hK hW hL_a0 hK_a0 (by decide) rfl rfl (by decide) i_17 k_16 (by rw [show wv 17 3 S_5 a0 = va_rf (sR S_5 a0 3) from rfl, ey_6]; rfl) dX12_plays_86 ?_
  refine lv_bipush (v := 67) hx hb dX12_plays_89 (by decide) ?_
  refine lv_aload_n hx hb dX12_plays_91 rfl (lv_at hl 0 rfl) ?_
  obtain ⟨y_7, ey_7, hL_y_7, hK_y_7, hp⟩ := hp
  refine w_get (k := 17) (f := 8) (T := TX12) (v := .ref y_7) F hK hW hL_a0 hK_a0 (by decide) rfl rfl (by decide) i_17 k_32 (by rw [show wv 17 8 S_5 a0 = va_rf (sR S_5 a0 8) from rfl, ey_7]; rfl) dX12_plays_92 ?_
  refine lv_aload_n hx hb dX12_plays_95 rfl (lv_at hl 0 rfl) ?_
  refine w_callI (va_runV (As := []) (rest := [.ref y_7, .int (67 : Int32), .ref y_6, .int (67 : Int32)]) F (c_X12_presentAt l hL_a0 hK_a0 hp H.size) (cwV (C := RX12) 0 hts (wg_V wm_RX12_127 wy_X12_presentAt) rfl rfl rfl (by decide +kernel) ⟨Nat.le_of_ble_eq_true rfl, Nat.le_of_ble_eq_true rfl⟩) (w_preV hK hW hL_a0 hK_a0 (by decide) rfl) rfl rfl hl.1 rfl (lv_room (Nat.le_of_ble_eq_true rfl)) dX12_plays_96 ⟨Nat.le_of_ble_eq_true rfl, Nat.le_of_ble_eq_true rfl⟩) hW (fun r_8 S_9 H locs hp hW => ?_)
  obtain ⟨hX_S_9, hp⟩ := hp
  refine W.widen (k := 0) (n := 0) (by decide) (by decide) ?_
  have hE := hE.trans hX_S_9
  have hK_a0 : sK S_9 a0 = 17 := (hX_S_9.2 a0 hL_a0).1.trans hK_a0
  have hL_a0 : wM D S_9 a0 := hX_S_9.M hL_a0
  have hK_y_6 : sK S_9 y_6 = 21 := (hX_S_9.2 y_6 hL_y_6).1.trans hK_y_6
  have hL_y_6 : wM D S_9 y_6 := hX_S_9.M hL_y_6
  have hK_y_7 : sK S_9 y_7 = 21 := (hX_S_9.2 y_7 hL_y_7).1.trans hK_y_7
  have hL_y_7 : wM D S_9 y_7 := hX_S_9.M hL_y_7
  refine w_callV (va_runS (As := [.int (67 : Int32), .ref y_6, .int (67 : Int32), .ref y_7, .int r_8]) (rest := []) F (c_X12_copies l hL_y_6 hK_y_6 hL_y_7 hK_y_7 hp H.size) (va_cwS 5 hts (wg_S wm_RX12_130 wy_X12_copies) rfl rfl rfl (by decide +kernel) ⟨Nat.le_of_ble_eq_true rfl, Nat.le_of_ble_eq_true rfl⟩) (w_preS hK hW) rfl rfl hl.1 rfl (lv_room (Nat.le_of_ble_eq_true rfl)) dX12_plays_99 ⟨Nat.le_of_ble_eq_true rfl, Nat.le_of_ble_eq_true rfl⟩) hW (fun S_11 H locs hp hW => ?_)
  obtain ⟨hX_S_11, hp⟩ := hp
  refine W.widen (k := 0) (n := 0) (by decide) (by decide) ?_
  have hE := hE.trans hX_S_11
  have hK_a0 : sK S_11 a0 = 17 := (hX_S_11.2 a0 hL_a0).1.trans hK_a0
  have hL_a0 : wM D S_11 a0 := hX_S_11.M hL_a0
  refine lv_aload_n hx hb dX12_plays_102 rfl (lv_at hl 0 rfl) ?_
  refine w_callV (va_runV (As := []) (rest := []) F (c_X12_loads l hL_a0 hK_a0 hp H.size) (cwV (C := RX12) 0 hts (wg_V wm_RX12_192 wy_X12_loads) rfl rfl rfl (by decide +kernel) ⟨Nat.le_of_ble_eq_true rfl, Nat.le_of_ble_eq_true rfl⟩) (w_preV hK hW hL_a0 hK_a0 (by decide) rfl) rfl rfl hl.1 rfl (lv_room (Nat.le_of_ble_eq_true rfl)) dX12_plays_103 ⟨Nat.le_of_ble_eq_true rfl, Nat.le_of_ble_eq_true rfl⟩) hW (fun S_13 H locs hp hW => ?_)
  obtain ⟨hX_S_13, hp⟩ := hp
  refine W.widen (k := 0) (n := 0) (by decide) (by decide) ?_
  have hE := hE.trans hX_S_13
  have hK_a0 : sK S_13 a0 = 17 := (hX_S_13.2 a0 hL_a0).1.trans hK_a0
  have hL_a0 : wM D S_13 a0 := hX_S_13.M hL_a0
  exact w_vret hx hb hr hlocks hW ⟨hE, hp⟩ dX12_plays_106
set_option maxHeartbeats 4000000 in
set_option maxRecDepth 100000 in
theorem t_X12_plays_61 {p : Program} {l : Launch} {e : Env} {s : State} {m : MethodId} {args : Array Value} {below : List Frame} {meth : Method} {c : Code} {D : wD} {cy : Nat → ClassId} {X : va_W} {A : Nat → Prop} {S0 : wS} {post : wS → Prop} (F : CallFix p m c cX12_plays 2 s args wz_X12_plays RX12) (hr : meth.sig.returnType = none) (hlocks : meth.locks = false) (hK : wK D cy A s) : ∀ {S : wS} {H : Heap} {locs : List Loc} {ls : Array Slot} {a0 : Nat} {x1 : Int32} {b0 : Nat} {t1 : Int32}, wp_X12_plays_61 D post S a0 x1 b0 t1 → wO D cy X A s.heap S H locs → wX D S0 S → lv_has ls 2 [(0, .ref a0), (1, .int x1)] → wM D S a0 → sK S a0 = 17 → wM D S b0 → sK S b0 = 23 → W p l e r_X12_plays s m args below meth c H locs 0 0 (MQ below (va_Qv (fun S9 => wX D S0 S9 ∧ post S9) (wB D cy X A) A) args s 0 0 A) (F0 m 61 ls [.int t1, .ref b0]) := by
  obtain ⟨hx, hb, hml, hown, hts⟩ := id F
  have hwg : ∀ w ∈ WG, w.before args s = true := fun w h => hts w (List.mem_cons_of_mem _ h)
  intro S H locs ls a0 x1 b0 t1 hp hW hE hl hL_a0 hK_a0 hL_b0 hK_b0
  unfold wp_X12_plays_61 at hp
  refine lv_iconst (v := 1) hx hb dX12_plays_61 (by decide) ?_
  refine lv_goto (tgt := 66) hx hb dX12_plays_62 (by decide) ?_
  exact t_X12_plays_66 F hr hlocks hK hp hW hE (lv_sub hl [0, 1] rfl) hL_a0 hK_a0 hL_b0 hK_b0
set_option maxHeartbeats 4000000 in
set_option maxRecDepth 100000 in
theorem t_X12_plays_0 {p : Program} {l : Launch} {e : Env} {s : State} {m : MethodId} {args : Array Value} {below : List Frame} {meth : Method} {c : Code} {D : wD} {cy : Nat → ClassId} {X : va_W} {A : Nat → Prop} {S0 : wS} {post : wS → Prop} (F : CallFix p m c cX12_plays 2 s args wz_X12_plays RX12) (hr : meth.sig.returnType = none) (hlocks : meth.locks = false) (hK : wK D cy A s) : ∀ {S : wS} {H : Heap} {locs : List Loc} {ls : Array Slot} {a0 : Nat} {x1 : Int32}, wp_X12_plays_0 D post S a0 x1 → wO D cy X A s.heap S H locs → wX D S0 S → lv_has ls 2 [(0, .ref a0), (1, .int x1)] → wM D S a0 → sK S a0 = 17 → W p l e r_X12_plays s m args below meth c H locs 0 0 (MQ below (va_Qv (fun S9 => wX D S0 S9 ∧ post S9) (wB D cy X A) A) args s 0 0 A) (F0 m 0 ls []) := by
  obtain ⟨hx, hb, hml, hown, hts⟩ := id F
  have hwg : ∀ w ∈ WG, w.before args s = true := fun w h => hts w (List.mem_cons_of_mem _ h)
  have i_17 : ∀ w ∈ u_ws RX12 TX12 43, w ∈ wz_X12_plays := fun w h => List.mem_cons_of_mem _ (wu_17 w h)
  have k_121 := hwg _ wf_RX12_121
  have k_20 := hwg _ wf_RX12_20
  have k_23 := hwg _ wf_RX12_23
  have k_35 := hwg _ wf_RX12_35
  have k_38 := hwg _ wf_RX12_38
  intro S H locs ls a0 x1 hp hW hE hl hL_a0 hK_a0
  unfold wp_X12_plays_0 at hp
  refine lv_aload_n hx hb dX12_plays_0 rfl (lv_at hl 0 rfl) ?_
  obtain ⟨y_1, ey_1, hL_y_1, hK_y_1, hp⟩ := hp
  refine w_get (k := 17) (f := 9) (T := TX12) (v := .ref y_1) F hK hW hL_a0 hK_a0 (by decide) rfl rfl (by decide) i_17 k_35 (by rw [show wv 17 9 S a0 = va_rf (sR S a0 9) from rfl, ey_1]; rfl) dX12_plays_1 ?_
  refine lv_aload_n hx hb dX12_plays_4 rfl (lv_at hl 0 rfl) ?_
  refine w_get (k := 17) (f := 11) (T := TX12) (v := .int (sI S a0 11)) F hK hW hL_a0 hK_a0 (by decide) rfl rfl (by decide) i_17 k_121 rfl dX12_plays_5 ?_
  refine lv_aload_n hx hb dX12_plays_8 rfl (lv_at hl 0 rfl) ?_
  refine lv_iload_n hx hb dX12_plays_9 rfl (lv_at hl 1 rfl) ?_
  refine w_callI (va_runV (As := [.int x1]) (rest := [.int (sI S a0 11), .ref y_1]) F (c_X12_codeOf l hL_a0 hK_a0 hp H.size) (cwV (C := RX12) 1 hts (wg_V wm_RX12_321 wy_X12_codeOf) rfl rfl rfl (by decide +kernel) ⟨Nat.le_of_ble_eq_true rfl, Nat.le_of_ble_eq_true rfl⟩) (w_preV hK hW hL_a0 hK_a0 (by decide) rfl) rfl rfl hl.1 rfl (lv_room (Nat.le_of_ble_eq_true rfl)) dX12_plays_10 ⟨Nat.le_of_ble_eq_true rfl, Nat.le_of_ble_eq_true rfl⟩) hW (fun r_2 S_3 H locs hp hW => ?_)
  obtain ⟨hX_S_3, hp⟩ := hp
  refine W.widen (k := 0) (n := 0) (by decide) (by decide) ?_
  have hE := hE.trans hX_S_3
  have hK_a0 : sK S_3 a0 = 17 := (hX_S_3.2 a0 hL_a0).1.trans hK_a0
  have hL_a0 : wM D S_3 a0 := hX_S_3.M hL_a0
  have hK_y_1 : sK S_3 y_1 = 21 := (hX_S_3.2 y_1 hL_y_1).1.trans hK_y_1
  have hL_y_1 : wM D S_3 y_1 := hX_S_3.M hL_y_1
  obtain ⟨h_4m, h_4, hp⟩ := hp
  refine w_ist F hK hW h_4m hK_y_1 h_4 dX12_plays_13 (fun H locs hW => ?_)
  obtain ⟨S_5, eS_5⟩ : ∃ z : wS, z = uI S_3 y_1 ((sI S a0 11)).toNatClampNeg r_2 := ⟨_, rfl⟩
  rw [← eS_5] at hW
  replace hp := hp S_5 eS_5
  have hX_S_5 : wX D S_3 S_5 := by rw [eS_5]; exact wX_uI
  have hE := hE.trans hX_S_5
  have hK_a0 : sK S_5 a0 = 17 := (hX_S_5.2 a0 hL_a0).1.trans hK_a0
  have hL_a0 : wM D S_5 a0 := hX_S_5.M hL_a0
  refine lv_aload_n hx hb dX12_plays_14 rfl (lv_at hl 0 rfl) ?_
  obtain ⟨y_6, ey_6, hL_y_6, hK_y_6, hp⟩ := hp
  refine w_get (k := 17) (f := 10) (T := TX12) (v := .ref y_6) F hK hW hL_a0 hK_a0 (by decide) rfl rfl (by decide) i_17 k_38 (by rw [show wv 17 10 S_5 a0 = va_rf (sR S_5 a0 10) from rfl, ey_6]; rfl) dX12_plays_15 ?_
  refine lv_aload_n hx hb dX12_plays_18 rfl (lv_at hl 0 rfl) ?_
  refine w_get (k := 17) (f := 11) (T := TX12) (v := .int (sI S_5 a0 11)) F hK hW hL_a0 hK_a0 (by decide) rfl rfl (by decide) i_17 k_121 rfl dX12_plays_19 ?_
  refine lv_aload_n hx hb dX12_plays_22 rfl (lv_at hl 0 rfl) ?_
  refine lv_iconst (v := 0) hx hb dX12_plays_23 (by decide) ?_
  refine lv_aload_n hx hb dX12_plays_24 rfl (lv_at hl 0 rfl) ?_
  obtain ⟨y_7, ey_7, hL_y_7, hK_y_7, hp⟩ := hp
  refine w_get (k := 17) (f := 4) (T := TX12) (v := .ref y_7) F hK hW hL_a0 hK_a0 (by decide) rfl rfl (by decide) i_17 k_20 (by rw [show wv 17 4 S_5 a0 = va_rf (sR S_5 a0 4) from rfl, ey_7]; rfl) dX12_plays_25 ?_
  refine lv_iload_n hx hb dX12_plays_28 rfl (lv_at hl 1 rfl) ?_
  obtain ⟨h_8, hp⟩ := hp
  refine w_ild F hK hW hL_y_7 hK_y_7 h_8 dX12_plays_29 ?_
  refine w_callI (va_runV (As := [.int (0 : Int32), .int (sI S_5 y_7 (x1).toNatClampNeg)]) (rest := [.int (sI S_5 a0 11), .ref y_6]) F (c_X12_on l hL_a0 hK_a0 hp H.size) (cwV (C := RX12) 2 hts (wg_V wm_RX12_141 wy_X12_on) rfl rfl rfl (by decide +kernel) ⟨Nat.le_of_ble_eq_true rfl, Nat.le_of_ble_eq_true rfl⟩) (w_preV hK hW hL_a0 hK_a0 (by decide) rfl) rfl rfl hl.1 rfl (lv_room (Nat.le_of_ble_eq_true rfl)) dX12_plays_30 ⟨Nat.le_of_ble_eq_true rfl, Nat.le_of_ble_eq_true rfl⟩) hW (fun r_9 S_10 H locs hp hW => ?_)
  obtain ⟨hX_S_10, hp⟩ := hp
  refine W.widen (k := 0) (n := 0) (by decide) (by decide) ?_
  have hE := hE.trans hX_S_10
  have hK_a0 : sK S_10 a0 = 17 := (hX_S_10.2 a0 hL_a0).1.trans hK_a0
  have hL_a0 : wM D S_10 a0 := hX_S_10.M hL_a0
  have hK_y_6 : sK S_10 y_6 = 23 := (hX_S_10.2 y_6 hL_y_6).1.trans hK_y_6
  have hL_y_6 : wM D S_10 y_6 := hX_S_10.M hL_y_6
  refine w_callI (va_runS (As := [.int r_9]) (rest := [.int (sI S_5 a0 11), .ref y_6]) F (c_X12_kindOf l hp H.size) (va_cwS 1 hts (wg_S wm_RX12_148 wy_X12_kindOf) rfl rfl rfl (by decide +kernel) ⟨Nat.le_of_ble_eq_true rfl, Nat.le_of_ble_eq_true rfl⟩) (w_preS hK hW) rfl rfl hl.1 rfl (lv_room (Nat.le_of_ble_eq_true rfl)) dX12_plays_33 ⟨Nat.le_of_ble_eq_true rfl, Nat.le_of_ble_eq_true rfl⟩) hW (fun r_11 S_12 H locs hp hW => ?_)
  obtain ⟨hX_S_12, hp⟩ := hp
  refine W.widen (k := 0) (n := 0) (by decide) (by decide) ?_
  have hE := hE.trans hX_S_12
  have hK_a0 : sK S_12 a0 = 17 := (hX_S_12.2 a0 hL_a0).1.trans hK_a0
  have hL_a0 : wM D S_12 a0 := hX_S_12.M hL_a0
  have hK_y_6 : sK S_12 y_6 = 23 := (hX_S_12.2 y_6 hL_y_6).1.trans hK_y_6
  have hL_y_6 : wM D S_12 y_6 := hX_S_12.M hL_y_6
  refine lv_bipush (v := 6) hx hb dX12_plays_36 (by decide) ?_
  refine lv_icmp_eq (tgt := 61) hx hb dX12_plays_38 (by decide) (fun c_13 => ?_) (fun c_13 => ?_)
  · replace hp := hp.1 c_13
    exact t_X12_plays_61 F hr hlocks hK hp hW hE (lv_sub hl [0, 1] rfl) hL_a0 hK_a0 hL_y_6 hK_y_6
  · replace hp := hp.2 c_13
    refine lv_aload_n hx hb dX12_plays_41 rfl (lv_at hl 0 rfl) ?_
    refine lv_iconst (v := 0) hx hb dX12_plays_42 (by decide) ?_
    refine lv_aload_n hx hb dX12_plays_43 rfl (lv_at hl 0 rfl) ?_
    obtain ⟨y_14, ey_14, hL_y_14, hK_y_14, hp⟩ := hp
    refine w_get (k := 17) (f := 4) (T := TX12) (v := .ref y_14) F hK hW hL_a0 hK_a0 (by decide) rfl rfl (by decide) i_17 k_20 (by rw [show wv 17 4 S_12 a0 = va_rf (sR S_12 a0 4) from rfl, ey_14]; rfl) dX12_plays_44 ?_
    refine lv_iload_n hx hb dX12_plays_47 rfl (lv_at hl 1 rfl) ?_
    obtain ⟨h_15, hp⟩ := hp
    refine w_ild F hK hW hL_y_14 hK_y_14 h_15 dX12_plays_48 ?_
    refine lv_aload_n hx hb dX12_plays_49 rfl (lv_at hl 0 rfl) ?_
    obtain ⟨y_16, ey_16, hL_y_16, hK_y_16, hp⟩ := hp
    refine w_get (k := 17) (f := 5) (T := TX12) (v := .ref y_16) F hK hW hL_a0 hK_a0 (by decide) rfl rfl (by decide) i_17 k_23 (by rw [show wv 17 5 S_12 a0 = va_rf (sR S_12 a0 5) from rfl, ey_16]; rfl) dX12_plays_50 ?_
    refine lv_iload_n hx hb dX12_plays_53 rfl (lv_at hl 1 rfl) ?_
    obtain ⟨h_17, hp⟩ := hp
    refine w_ild F hK hW hL_y_16 hK_y_16 h_17 dX12_plays_54 ?_
    refine w_callI (va_runV (As := [.int (0 : Int32), .int (sI S_12 y_14 (x1).toNatClampNeg), .int (sI S_12 y_16 (x1).toNatClampNeg)]) (rest := [.int (sI S_5 a0 11), .ref y_6]) F (c_X12_takes l hL_a0 hK_a0 hp H.size) (cwV (C := RX12) 3 hts (wg_V wm_RX12_204 wy_X12_takes) rfl rfl rfl (by decide +kernel) ⟨Nat.le_of_ble_eq_true rfl, Nat.le_of_ble_eq_true rfl⟩) (w_preV hK hW hL_a0 hK_a0 (by decide) rfl) rfl rfl hl.1 rfl (lv_room (Nat.le_of_ble_eq_true rfl)) dX12_plays_55 ⟨Nat.le_of_ble_eq_true rfl, Nat.le_of_ble_eq_true rfl⟩) hW (fun r_18 S_19 H locs hp hW => ?_)
    obtain ⟨hX_S_19, hp⟩ := hp
    refine W.widen (k := 0) (n := 0) (by decide) (by decide) ?_
    have hE := hE.trans hX_S_19
    have hK_a0 : sK S_19 a0 = 17 := (hX_S_19.2 a0 hL_a0).1.trans hK_a0
    have hL_a0 : wM D S_19 a0 := hX_S_19.M hL_a0
    have hK_y_6 : sK S_19 y_6 = 23 := (hX_S_19.2 y_6 hL_y_6).1.trans hK_y_6
    have hL_y_6 : wM D S_19 y_6 := hX_S_19.M hL_y_6
    refine lv_if_eq (tgt := 65) hx hb dX12_plays_58 (by decide) (fun c_20 => ?_) (fun c_20 => ?_)
    · replace hp := hp.1 c_20
      refine lv_iconst (v := 0) hx hb dX12_plays_65 (by decide) ?_
      exact t_X12_plays_66 F hr hlocks hK hp hW hE (lv_sub hl [0, 1] rfl) hL_a0 hK_a0 hL_y_6 hK_y_6
    · replace hp := hp.2 c_20
      exact t_X12_plays_61 F hr hlocks hK hp hW hE (lv_sub hl [0, 1] rfl) hL_a0 hK_a0 hL_y_6 hK_y_6
set_option maxHeartbeats 4000000 in
set_option maxRecDepth 100000 in
theorem c_X12_plays (l : Launch) {D : wD} {cy : Nat → ClassId} {X : va_W} {S0 : wS} {post : wS → Prop} {a0 : Nat} {x1 : Int32} (hL_a0 : wM D S0 a0) (hK_a0 : sK S0 a0 = 17) (hp : wp_X12_plays D post S0 a0 x1) : mV D cy X l yX12_plays wz_X12_plays r_X12_plays [.ref a0, .int x1] S0 (fun S9 => wX D S0 S9 ∧ post S9) := by
  intro sz
  refine Met.ofW (cc := cX12_plays) (maxL := 2) (ret := none) (by decide) rfl ?_
  intro p e s m args below meth c s₁ B hml hv
  obtain ⟨rfl, hsz, hP, hK, hD0, hRO⟩ := hv
  have hts := atoms_spec (ws := wz_X12_plays) B.pre
  have hown : s.vm.findClass RX12 = some m.cls := findClass_of_methodNamed B.named
  subst hsz
  have hD := hD0.self (sz := s.heap.size)
  have F : CallFix p m c cX12_plays 2 s _ wz_X12_plays RX12 := ⟨B.exec, B.bytes, hml, hown, hts⟩
  have hr := B.returns
  have hlocks := B.notSynchronized
  generalize hAe : va_A (wL cy X S0) s.heap.size = A at hD hK ⊢
  have hA : ∀ q, s.heap.size ≤ q → A q := fun q h => by rw [← hAe]; exact Or.inr h
  have hW : wO D cy X A s.heap S0 s.heap [] := ⟨hP, hD, va_S.rf, hA, hRO⟩
  have hl := lv_entry ([.ref a0, .int x1]) (n := 2) (Nat.le_of_ble_eq_true rfl)
  rw [lg_entry_eq]
  generalize (lg_sl ([.ref a0, .int x1]) ++ List.replicate (2 - (lg_sl ([.ref a0, .int x1])).length) Slot.unset).toArray = ls at hl ⊢
  have hl : lv_has ls 2 [(0, .ref a0), (1, .int x1)] := hl
  unfold wp_X12_plays at hp
  exact t_X12_plays_0 F hr hlocks hK hp hW wX.rf (lv_sub hl [0, 1] rfl) hL_a0 hK_a0
def wp_X12_stood_40 (D : wD) (post : Int32 → wS → Prop) (k_4 : wS → Nat → Int32 → Int32 → Prop) (S : wS) (a0 : Nat) (x2 : Int32) (t0 : Int32) (t1 : Int32) : Prop :=
∀ x_1 : Int32, x_1 = (t0 + t1) →
∀ x_2 : Int32, x_2 = x2 + 1 →
k_4 S a0 x_1 x_2
def wp_X12_stood_4 (D : wD) (post : Int32 → wS → Prop)  : Nat → wS → Nat → Int32 → Int32 → Prop
  | 0, _, _, _, _ => False
  | n + 1, S, a0, x1, x2 =>
    (((sI S a0 11) < x2 → post x1 S) ∧
     (¬ (sI S a0 11) < x2 → ∃ y_2 : Nat, sR S a0 8 = some y_2 ∧ wM D S y_2 ∧ sK S y_2 = 21 ∧
    ∃ y_3 : Nat, sR S a0 8 = some y_3 ∧ wM D S y_3 ∧ sK S y_3 = 21 ∧
    wp_X12_presentAt D (fun r_4 S_5 => 
    wp_X12_isSame D (fun r_6 S_7 => 
    ((r_6 = 0 → wp_X12_stood_40 D post (wp_X12_stood_4 D post n) S_7 a0 x2 x1 (0 : Int32)) ∧
     (¬ r_6 = 0 → wp_X12_stood_40 D post (wp_X12_stood_4 D post n) S_7 a0 x2 x1 (1 : Int32)))) S_5 y_2 ((67 : Int32) * x2) y_3 r_4) S a0))
def wp_X12_stood_0 (D : wD) (post : Int32 → wS → Prop)  (S : wS) (a0 : Nat) : Prop :=
∃ n_1 : Nat, wp_X12_stood_4 D post n_1 S a0 (0 : Int32) (0 : Int32)
abbrev r_X12_stood : Room := { frames := 1, cells := 0, slots := 0, locals := 24 }
def wp_X12_stood (D : wD) (post : Int32 → wS → Prop) (S : wS) (a0 : Nat) : Prop := wp_X12_stood_0 D post S a0
set_option maxHeartbeats 4000000 in
set_option maxRecDepth 100000 in
theorem t_X12_stood_40 {p : Program} {l : Launch} {e : Env} {s : State} {m : MethodId} {args : Array Value} {below : List Frame} {meth : Method} {c : Code} {D : wD} {cy : Nat → ClassId} {X : va_W} {A : Nat → Prop} {S0 : wS} {post : Int32 → wS → Prop} (F : CallFix p m c cX12_stood 3 s args wz_X12_stood RX12) (hr : meth.sig.returnType = (some .int)) (hlocks : meth.locks = false) (hK : wK D cy A s) {k_4 : wS → Nat → Int32 → Int32 → Prop} (q_4 : ∀ {S : wS} {H : Heap} {locs : List Loc} {ls : Array Slot} {a0 : Nat} {x1 : Int32} {x2 : Int32}, k_4 S a0 x1 x2 → wO D cy X A s.heap S H locs → wX D S0 S → lv_has ls 3 [(0, .ref a0), (1, .int x1), (2, .int x2)] → wM D S a0 → sK S a0 = 17 → W p l e r_X12_stood s m args below meth c H locs 0 0 (MQ below (va_Qi (fun r S9 => wX D S0 S9 ∧ post r S9) (wB D cy X A) A) args s 0 0 A) (F0 m 4 ls [])) : ∀ {S : wS} {H : Heap} {locs : List Loc} {ls : Array Slot} {a0 : Nat} {x2 : Int32} {t0 : Int32} {t1 : Int32}, wp_X12_stood_40 D post k_4 S a0 x2 t0 t1 → wO D cy X A s.heap S H locs → wX D S0 S → lv_has ls 3 [(0, .ref a0), (2, .int x2)] → wM D S a0 → sK S a0 = 17 → W p l e r_X12_stood s m args below meth c H locs 0 0 (MQ below (va_Qi (fun r S9 => wX D S0 S9 ∧ post r S9) (wB D cy X A) A) args s 0 0 A) (F0 m 40 ls [.int t1, .int t0]) := by
  obtain ⟨hx, hb, hml, hown, hts⟩ := id F
  have hwg : ∀ w ∈ WG, w.before args s = true := fun w h => hts w (List.mem_cons_of_mem _ h)
  intro S H locs ls a0 x2 t0 t1 hp hW hE hl hL_a0 hK_a0
  unfold wp_X12_stood_40 at hp
  refine lv_iadd hx hb dX12_stood_40 ?_
  refine lv_topi (fun x_1 ex_1 => ?_)
  replace hp := hp x_1 ex_1
  refine lv_istore_n (lv' := [(1, .int x_1), (0, .ref a0), (2, .int x2)]) hx hb dX12_stood_41 rfl hl (by decide) rfl (fun ls hl => ?_)
  obtain ⟨x_2, ex_2⟩ : ∃ z : Int32, z = x2 + 1 := ⟨_, rfl⟩
  replace hp := hp x_2 ex_2
  refine lv_iinc (v := x_2) (lv' := [(2, .int x_2), (1, .int x_1), (0, .ref a0)]) hx hb dX12_stood_42 hl (k := 2) rfl (by rw [ex_2]; rfl) (by decide) rfl (fun ls hl => ?_)
  refine lv_goto (tgt := 4) hx hb dX12_stood_45 (by decide) ?_
  exact q_4 hp hW hE (lv_sub hl [2, 1, 0] rfl) hL_a0 hK_a0
set_option maxHeartbeats 4000000 in
set_option maxRecDepth 100000 in
theorem t_X12_stood_4 {p : Program} {l : Launch} {e : Env} {s : State} {m : MethodId} {args : Array Value} {below : List Frame} {meth : Method} {c : Code} {D : wD} {cy : Nat → ClassId} {X : va_W} {A : Nat → Prop} {S0 : wS} {post : Int32 → wS → Prop} (F : CallFix p m c cX12_stood 3 s args wz_X12_stood RX12) (hr : meth.sig.returnType = (some .int)) (hlocks : meth.locks = false) (hK : wK D cy A s) : ∀ (n : Nat) {S : wS} {H : Heap} {locs : List Loc} {ls : Array Slot} {a0 : Nat} {x1 : Int32} {x2 : Int32}, wp_X12_stood_4 D post n S a0 x1 x2 → wO D cy X A s.heap S H locs → wX D S0 S → lv_has ls 3 [(0, .ref a0), (1, .int x1), (2, .int x2)] → wM D S a0 → sK S a0 = 17 → W p l e r_X12_stood s m args below meth c H locs 0 0 (MQ below (va_Qi (fun r S9 => wX D S0 S9 ∧ post r S9) (wB D cy X A) A) args s 0 0 A) (F0 m 4 ls []) := by
  obtain ⟨hx, hb, hml, hown, hts⟩ := id F
  have hwg : ∀ w ∈ WG, w.before args s = true := fun w h => hts w (List.mem_cons_of_mem _ h)
  have i_17 : ∀ w ∈ u_ws RX12 TX12 43, w ∈ wz_X12_stood := fun w h => List.mem_cons_of_mem _ (wu_17 w h)
  have k_121 := hwg _ wf_RX12_121
  have k_32 := hwg _ wf_RX12_32
  intro n
  induction n with
  | zero =>
    intro S H locs ls a0 x1 x2 hp
    exact hp.elim
  | succ n ih =>
    intro S H locs ls a0 x1 x2 hp hW hE hl hL_a0 hK_a0
    unfold wp_X12_stood_4 at hp
    refine lv_iload_n hx hb dX12_stood_4 rfl (lv_at hl 2 rfl) ?_
    refine lv_aload_n hx hb dX12_stood_5 rfl (lv_at hl 0 rfl) ?_
    refine w_get (k := 17) (f := 11) (T := TX12) (v := .int (sI S a0 11)) F hK hW hL_a0 hK_a0 (by decide) rfl rfl (by decide) i_17 k_121 rfl dX12_stood_6 ?_
    refine lv_icmp_gt (tgt := 48) hx hb dX12_stood_9 (by decide) (fun c_1 => ?_) (fun c_1 => ?_)
    · replace hp := hp.1 c_1
      refine lv_iload_n hx hb dX12_stood_48 rfl (lv_at hl 1 rfl) ?_
      exact w_iret hx hb hr hlocks hW ⟨hE, hp⟩ dX12_stood_49
    · replace hp := hp.2 c_1
      refine lv_iload_n hx hb dX12_stood_12 rfl (lv_at hl 1 rfl) ?_
      refine lv_aload_n hx hb dX12_stood_13 rfl (lv_at hl 0 rfl) ?_
      obtain ⟨y_2, ey_2, hL_y_2, hK_y_2, hp⟩ := hp
      refine w_get (k := 17) (f := 8) (T := TX12) (v := .ref y_2) F hK hW hL_a0 hK_a0 (by decide) rfl rfl (by decide) i_17 k_32 (by rw [show wv 17 8 S a0 = va_rf (sR S a0 8) from rfl, ey_2]; rfl) dX12_stood_14 ?_
      refine lv_bipush (v := 67) hx hb dX12_stood_17 (by decide) ?_
      refine lv_iload_n hx hb dX12_stood_19 rfl (lv_at hl 2 rfl) ?_
      refine lv_imul hx hb dX12_stood_20 ?_
      refine lv_aload_n hx hb dX12_stood_21 rfl (lv_at hl 0 rfl) ?_
      obtain ⟨y_3, ey_3, hL_y_3, hK_y_3, hp⟩ := hp
      refine w_get (k := 17) (f := 8) (T := TX12) (v := .ref y_3) F hK hW hL_a0 hK_a0 (by decide) rfl rfl (by decide) i_17 k_32 (by rw [show wv 17 8 S a0 = va_rf (sR S a0 8) from rfl, ey_3]; rfl) dX12_stood_22 ?_
      refine lv_aload_n hx hb dX12_stood_25 rfl (lv_at hl 0 rfl) ?_
      refine w_callI (va_runV (As := []) (rest := [.ref y_3, .int ((67 : Int32) * x2), .ref y_2, .int x1]) F (c_X12_presentAt l hL_a0 hK_a0 hp H.size) (cwV (C := RX12) 0 hts (wg_V wm_RX12_127 wy_X12_presentAt) rfl rfl rfl (by decide +kernel) ⟨Nat.le_of_ble_eq_true rfl, Nat.le_of_ble_eq_true rfl⟩) (w_preV hK hW hL_a0 hK_a0 (by decide) rfl) rfl rfl hl.1 rfl (lv_room (Nat.le_of_ble_eq_true rfl)) dX12_stood_26 ⟨Nat.le_of_ble_eq_true rfl, Nat.le_of_ble_eq_true rfl⟩) hW (fun r_4 S_5 H locs hp hW => ?_)
      obtain ⟨hX_S_5, hp⟩ := hp
      refine W.widen (k := 0) (n := 0) (by decide) (by decide) ?_
      have hE := hE.trans hX_S_5
      have hK_a0 : sK S_5 a0 = 17 := (hX_S_5.2 a0 hL_a0).1.trans hK_a0
      have hL_a0 : wM D S_5 a0 := hX_S_5.M hL_a0
      have hK_y_2 : sK S_5 y_2 = 21 := (hX_S_5.2 y_2 hL_y_2).1.trans hK_y_2
      have hL_y_2 : wM D S_5 y_2 := hX_S_5.M hL_y_2
      have hK_y_3 : sK S_5 y_3 = 21 := (hX_S_5.2 y_3 hL_y_3).1.trans hK_y_3
      have hL_y_3 : wM D S_5 y_3 := hX_S_5.M hL_y_3
      refine w_callI (va_runS (As := [.ref y_2, .int ((67 : Int32) * x2), .ref y_3, .int r_4]) (rest := [.int x1]) F (c_X12_isSame l hL_y_2 hK_y_2 hL_y_3 hK_y_3 hp H.size) (va_cwS 4 hts (wg_S wm_RX12_330 wy_X12_isSame) rfl rfl rfl (by decide +kernel) ⟨Nat.le_of_ble_eq_true rfl, Nat.le_of_ble_eq_true rfl⟩) (w_preS hK hW) rfl rfl hl.1 rfl (lv_room (Nat.le_of_ble_eq_true rfl)) dX12_stood_29 ⟨Nat.le_of_ble_eq_true rfl, Nat.le_of_ble_eq_true rfl⟩) hW (fun r_6 S_7 H locs hp hW => ?_)
      obtain ⟨hX_S_7, hp⟩ := hp
      refine W.widen (k := 0) (n := 0) (by decide) (by decide) ?_
      have hE := hE.trans hX_S_7
      have hK_a0 : sK S_7 a0 = 17 := (hX_S_7.2 a0 hL_a0).1.trans hK_a0
      have hL_a0 : wM D S_7 a0 := hX_S_7.M hL_a0
      refine lv_if_eq (tgt := 39) hx hb dX12_stood_32 (by decide) (fun c_8 => ?_) (fun c_8 => ?_)
      · replace hp := hp.1 c_8
        refine lv_iconst (v := 0) hx hb dX12_stood_39 (by decide) ?_
        exact t_X12_stood_40 F hr hlocks hK ih hp hW hE (lv_sub hl [0, 2] rfl) hL_a0 hK_a0
      · replace hp := hp.2 c_8
        refine lv_iconst (v := 1) hx hb dX12_stood_35 (by decide) ?_
        refine lv_goto (tgt := 40) hx hb dX12_stood_36 (by decide) ?_
        exact t_X12_stood_40 F hr hlocks hK ih hp hW hE (lv_sub hl [0, 2] rfl) hL_a0 hK_a0
set_option maxHeartbeats 4000000 in
set_option maxRecDepth 100000 in
theorem t_X12_stood_0 {p : Program} {l : Launch} {e : Env} {s : State} {m : MethodId} {args : Array Value} {below : List Frame} {meth : Method} {c : Code} {D : wD} {cy : Nat → ClassId} {X : va_W} {A : Nat → Prop} {S0 : wS} {post : Int32 → wS → Prop} (F : CallFix p m c cX12_stood 3 s args wz_X12_stood RX12) (hr : meth.sig.returnType = (some .int)) (hlocks : meth.locks = false) (hK : wK D cy A s) : ∀ {S : wS} {H : Heap} {locs : List Loc} {ls : Array Slot} {a0 : Nat}, wp_X12_stood_0 D post S a0 → wO D cy X A s.heap S H locs → wX D S0 S → lv_has ls 3 [(0, .ref a0)] → wM D S a0 → sK S a0 = 17 → W p l e r_X12_stood s m args below meth c H locs 0 0 (MQ below (va_Qi (fun r S9 => wX D S0 S9 ∧ post r S9) (wB D cy X A) A) args s 0 0 A) (F0 m 0 ls []) := by
  obtain ⟨hx, hb, hml, hown, hts⟩ := id F
  have hwg : ∀ w ∈ WG, w.before args s = true := fun w h => hts w (List.mem_cons_of_mem _ h)
  intro S H locs ls a0 hp hW hE hl hL_a0 hK_a0
  unfold wp_X12_stood_0 at hp
  refine lv_iconst (v := 0) hx hb dX12_stood_0 (by decide) ?_
  refine lv_istore_n (lv' := [(1, .int (0 : Int32)), (0, .ref a0)]) hx hb dX12_stood_1 rfl hl (by decide) rfl (fun ls hl => ?_)
  refine lv_iconst (v := 0) hx hb dX12_stood_2 (by decide) ?_
  refine lv_istore_n (lv' := [(2, .int (0 : Int32)), (1, .int (0 : Int32)), (0, .ref a0)]) hx hb dX12_stood_3 rfl hl (by decide) rfl (fun ls hl => ?_)
  obtain ⟨n_1, hp⟩ := hp
  exact t_X12_stood_4 F hr hlocks hK n_1 hp hW hE (lv_sub hl [2, 1, 0] rfl) hL_a0 hK_a0
set_option maxHeartbeats 4000000 in
set_option maxRecDepth 100000 in
theorem c_X12_stood (l : Launch) {D : wD} {cy : Nat → ClassId} {X : va_W} {S0 : wS} {post : Int32 → wS → Prop} {a0 : Nat} (hL_a0 : wM D S0 a0) (hK_a0 : sK S0 a0 = 17) (hp : wp_X12_stood D post S0 a0) : mI D cy X l yX12_stood wz_X12_stood r_X12_stood [.ref a0] S0 (fun r S9 => wX D S0 S9 ∧ post r S9) := by
  intro sz
  refine Met.ofW (cc := cX12_stood) (maxL := 3) (ret := (some .int)) (by decide) rfl ?_
  intro p e s m args below meth c s₁ B hml hv
  obtain ⟨rfl, hsz, hP, hK, hD0, hRO⟩ := hv
  have hts := atoms_spec (ws := wz_X12_stood) B.pre
  have hown : s.vm.findClass RX12 = some m.cls := findClass_of_methodNamed B.named
  subst hsz
  have hD := hD0.self (sz := s.heap.size)
  have F : CallFix p m c cX12_stood 3 s _ wz_X12_stood RX12 := ⟨B.exec, B.bytes, hml, hown, hts⟩
  have hr := B.returns
  have hlocks := B.notSynchronized
  generalize hAe : va_A (wL cy X S0) s.heap.size = A at hD hK ⊢
  have hA : ∀ q, s.heap.size ≤ q → A q := fun q h => by rw [← hAe]; exact Or.inr h
  have hW : wO D cy X A s.heap S0 s.heap [] := ⟨hP, hD, va_S.rf, hA, hRO⟩
  have hl := lv_entry ([.ref a0]) (n := 3) (Nat.le_of_ble_eq_true rfl)
  rw [lg_entry_eq]
  generalize (lg_sl ([.ref a0]) ++ List.replicate (3 - (lg_sl ([.ref a0])).length) Slot.unset).toArray = ls at hl ⊢
  have hl : lv_has ls 3 [(0, .ref a0)] := hl
  unfold wp_X12_stood at hp
  exact t_X12_stood_0 F hr hlocks hK hp hW wX.rf (lv_sub hl [0] rfl) hL_a0 hK_a0
def wp_X12_stateNow_95 (D : wD) (post : Int32 → wS → Prop)  (S : wS) (t0 : Int32) : Prop :=
post t0 S
def wp_X12_stateNow_84 (D : wD) (post : Int32 → wS → Prop)  (S : wS) (x1 : Int32) : Prop :=
((x1 < (40 : Int32) → wp_X12_stateNow_95 D post S (0 : Int32)) ∧
 (¬ x1 < (40 : Int32) → wp_X12_stateNow_95 D post S (5 : Int32)))
def wp_X12_stateNow_54 (D : wD) (post : Int32 → wS → Prop)  : Nat → wS → Nat → Int32 → Prop
  | 0, _, _, _ => False
  | n + 1, S, a0, x1 =>
    (((sI S a0 11) ≤ x1 → wp_X12_stateNow_84 D post S x1) ∧
     (¬ (sI S a0 11) ≤ x1 → ∃ y_2 : Nat, sR S a0 10 = some y_2 ∧ wM D S y_2 ∧ sK S y_2 = 23 ∧
    vp_in (((sI S a0 11) - (1 : Int32)) - x1) (sN S y_2) ∧
    ((¬ (sI S y_2 ((((sI S a0 11) - (1 : Int32)) - x1)).toNatClampNeg) = 0 → wp_X12_stateNow_84 D post S x1) ∧
     ((sI S y_2 ((((sI S a0 11) - (1 : Int32)) - x1)).toNatClampNeg) = 0 → ∀ x_5 : Int32, x_5 = x1 + 1 →
    wp_X12_stateNow_54 D post n S a0 x_5))))
def wp_X12_stateNow_32 (D : wD) (post : Int32 → wS → Prop)  (S : wS) (t0 : Int32) : Prop :=
post t0 S
def wp_X12_stateNow_0 (D : wD) (post : Int32 → wS → Prop)  (S : wS) (a0 : Nat) : Prop :=
wp_X12_moves D (fun S_2 => 
∃ y_3 : Nat, sR S_2 a0 7 = some y_3 ∧ wM D S_2 y_3 ∧ sK S_2 y_3 = 21 ∧
vp_in (0 : Int32) (sN S_2 y_3) ∧
((¬ (sI S_2 y_3 ((0 : Int32)).toNatClampNeg) = 0 → wp_X12_isDead D (fun r_6 S_7 => 
((r_6 = 0 → wp_X12_stood D (fun r_9 S_10 => 
((r_9 < (3 : Int32) → ∃ n_12 : Nat, wp_X12_stateNow_54 D post n_12 S_10 a0 (0 : Int32)) ∧
 (¬ r_9 < (3 : Int32) → post (4 : Int32) S_10))) S_7 a0) ∧
 (¬ r_6 = 0 → post (3 : Int32) S_7))) S_2 a0) ∧
 ((sI S_2 y_3 ((0 : Int32)).toNatClampNeg) = 0 → wp_X12_side D (fun r_13 S_14 => 
wp_X12_isInCheck D (fun r_15 S_16 => 
((r_15 = 0 → wp_X12_stateNow_32 D post S_16 (2 : Int32)) ∧
 (¬ r_15 = 0 → wp_X12_stateNow_32 D post S_16 (1 : Int32)))) S_14 a0 (0 : Int32) r_13) S_2 a0 (0 : Int32)))) S a0 (0 : Int32)
abbrev r_X12_stateNow : Room := { frames := 7, cells := 0, slots := 0, locals := 177 }
def wp_X12_stateNow (D : wD) (post : Int32 → wS → Prop) (S : wS) (a0 : Nat) : Prop := wp_X12_stateNow_0 D post S a0
set_option maxHeartbeats 4000000 in
set_option maxRecDepth 100000 in
theorem t_X12_stateNow_95 {p : Program} {l : Launch} {e : Env} {s : State} {m : MethodId} {args : Array Value} {below : List Frame} {meth : Method} {c : Code} {D : wD} {cy : Nat → ClassId} {X : va_W} {A : Nat → Prop} {S0 : wS} {post : Int32 → wS → Prop} (F : CallFix p m c cX12_stateNow 2 s args wz_X12_stateNow RX12) (hr : meth.sig.returnType = (some .int)) (hlocks : meth.locks = false) (hK : wK D cy A s) : ∀ {S : wS} {H : Heap} {locs : List Loc} {ls : Array Slot} {t0 : Int32}, wp_X12_stateNow_95 D post S t0 → wO D cy X A s.heap S H locs → wX D S0 S → lv_has ls 2 [] → W p l e r_X12_stateNow s m args below meth c H locs 0 0 (MQ below (va_Qi (fun r S9 => wX D S0 S9 ∧ post r S9) (wB D cy X A) A) args s 0 0 A) (F0 m 95 ls [.int t0]) := by
  obtain ⟨hx, hb, hml, hown, hts⟩ := id F
  have hwg : ∀ w ∈ WG, w.before args s = true := fun w h => hts w (List.mem_cons_of_mem _ h)
  intro S H locs ls t0 hp hW hE hl
  unfold wp_X12_stateNow_95 at hp
  exact w_iret hx hb hr hlocks hW ⟨hE, hp⟩ dX12_stateNow_95
set_option maxHeartbeats 4000000 in
set_option maxRecDepth 100000 in
theorem t_X12_stateNow_84 {p : Program} {l : Launch} {e : Env} {s : State} {m : MethodId} {args : Array Value} {below : List Frame} {meth : Method} {c : Code} {D : wD} {cy : Nat → ClassId} {X : va_W} {A : Nat → Prop} {S0 : wS} {post : Int32 → wS → Prop} (F : CallFix p m c cX12_stateNow 2 s args wz_X12_stateNow RX12) (hr : meth.sig.returnType = (some .int)) (hlocks : meth.locks = false) (hK : wK D cy A s) : ∀ {S : wS} {H : Heap} {locs : List Loc} {ls : Array Slot} {x1 : Int32}, wp_X12_stateNow_84 D post S x1 → wO D cy X A s.heap S H locs → wX D S0 S → lv_has ls 2 [(1, .int x1)] → W p l e r_X12_stateNow s m args below meth c H locs 0 0 (MQ below (va_Qi (fun r S9 => wX D S0 S9 ∧ post r S9) (wB D cy X A) A) args s 0 0 A) (F0 m 84 ls []) := by
  obtain ⟨hx, hb, hml, hown, hts⟩ := id F
  have hwg : ∀ w ∈ WG, w.before args s = true := fun w h => hts w (List.mem_cons_of_mem _ h)
  intro S H locs ls x1 hp hW hE hl
  unfold wp_X12_stateNow_84 at hp
  refine lv_iload_n hx hb dX12_stateNow_84 rfl (lv_at hl 0 rfl) ?_
  refine lv_bipush (v := 40) hx hb dX12_stateNow_85 (by decide) ?_
  refine lv_icmp_lt (tgt := 94) hx hb dX12_stateNow_87 (by decide) (fun c_1 => ?_) (fun c_1 => ?_)
  · replace hp := hp.1 c_1
    refine lv_iconst (v := 0) hx hb dX12_stateNow_94 (by decide) ?_
    exact t_X12_stateNow_95 F hr hlocks hK hp hW hE (lv_sub hl [] rfl)
  · replace hp := hp.2 c_1
    refine lv_iconst (v := 5) hx hb dX12_stateNow_90 (by decide) ?_
    refine lv_goto (tgt := 95) hx hb dX12_stateNow_91 (by decide) ?_
    exact t_X12_stateNow_95 F hr hlocks hK hp hW hE (lv_sub hl [] rfl)
set_option maxHeartbeats 4000000 in
set_option maxRecDepth 100000 in
theorem t_X12_stateNow_54 {p : Program} {l : Launch} {e : Env} {s : State} {m : MethodId} {args : Array Value} {below : List Frame} {meth : Method} {c : Code} {D : wD} {cy : Nat → ClassId} {X : va_W} {A : Nat → Prop} {S0 : wS} {post : Int32 → wS → Prop} (F : CallFix p m c cX12_stateNow 2 s args wz_X12_stateNow RX12) (hr : meth.sig.returnType = (some .int)) (hlocks : meth.locks = false) (hK : wK D cy A s) : ∀ (n : Nat) {S : wS} {H : Heap} {locs : List Loc} {ls : Array Slot} {a0 : Nat} {x1 : Int32}, wp_X12_stateNow_54 D post n S a0 x1 → wO D cy X A s.heap S H locs → wX D S0 S → lv_has ls 2 [(0, .ref a0), (1, .int x1)] → wM D S a0 → sK S a0 = 17 → W p l e r_X12_stateNow s m args below meth c H locs 0 0 (MQ below (va_Qi (fun r S9 => wX D S0 S9 ∧ post r S9) (wB D cy X A) A) args s 0 0 A) (F0 m 54 ls []) := by
  obtain ⟨hx, hb, hml, hown, hts⟩ := id F
  have hwg : ∀ w ∈ WG, w.before args s = true := fun w h => hts w (List.mem_cons_of_mem _ h)
  have i_17 : ∀ w ∈ u_ws RX12 TX12 43, w ∈ wz_X12_stateNow := fun w h => List.mem_cons_of_mem _ (wu_17 w h)
  have k_121 := hwg _ wf_RX12_121
  have k_38 := hwg _ wf_RX12_38
  intro n
  induction n with
  | zero =>
    intro S H locs ls a0 x1 hp
    exact hp.elim
  | succ n ih =>
    intro S H locs ls a0 x1 hp hW hE hl hL_a0 hK_a0
    unfold wp_X12_stateNow_54 at hp
    refine lv_iload_n hx hb dX12_stateNow_54 rfl (lv_at hl 1 rfl) ?_
    refine lv_aload_n hx hb dX12_stateNow_55 rfl (lv_at hl 0 rfl) ?_
    refine w_get (k := 17) (f := 11) (T := TX12) (v := .int (sI S a0 11)) F hK hW hL_a0 hK_a0 (by decide) rfl rfl (by decide) i_17 k_121 rfl dX12_stateNow_56 ?_
    refine lv_icmp_ge (tgt := 84) hx hb dX12_stateNow_59 (by decide) (fun c_1 => ?_) (fun c_1 => ?_)
    · replace hp := hp.1 c_1
      exact t_X12_stateNow_84 F hr hlocks hK hp hW hE (lv_sub hl [1] rfl)
    · replace hp := hp.2 c_1
      refine lv_aload_n hx hb dX12_stateNow_62 rfl (lv_at hl 0 rfl) ?_
      obtain ⟨y_2, ey_2, hL_y_2, hK_y_2, hp⟩ := hp
      refine w_get (k := 17) (f := 10) (T := TX12) (v := .ref y_2) F hK hW hL_a0 hK_a0 (by decide) rfl rfl (by decide) i_17 k_38 (by rw [show wv 17 10 S a0 = va_rf (sR S a0 10) from rfl, ey_2]; rfl) dX12_stateNow_63 ?_
      refine lv_aload_n hx hb dX12_stateNow_66 rfl (lv_at hl 0 rfl) ?_
      refine w_get (k := 17) (f := 11) (T := TX12) (v := .int (sI S a0 11)) F hK hW hL_a0 hK_a0 (by decide) rfl rfl (by decide) i_17 k_121 rfl dX12_stateNow_67 ?_
      refine lv_iconst (v := 1) hx hb dX12_stateNow_70 (by decide) ?_
      refine lv_isub hx hb dX12_stateNow_71 ?_
      refine lv_iload_n hx hb dX12_stateNow_72 rfl (lv_at hl 1 rfl) ?_
      refine lv_isub hx hb dX12_stateNow_73 ?_
      obtain ⟨h_3, hp⟩ := hp
      refine w_zld F hK hW hL_y_2 hK_y_2 h_3 dX12_stateNow_74 ?_
      refine lv_if_ne (tgt := 84) hx hb dX12_stateNow_75 (by decide) (fun c_4 => ?_) (fun c_4 => ?_)
      · replace hp := hp.1 c_4
        exact t_X12_stateNow_84 F hr hlocks hK hp hW hE (lv_sub hl [1] rfl)
      · replace hp := hp.2 c_4
        obtain ⟨x_5, ex_5⟩ : ∃ z : Int32, z = x1 + 1 := ⟨_, rfl⟩
        replace hp := hp x_5 ex_5
        refine lv_iinc (v := x_5) (lv' := [(1, .int x_5), (0, .ref a0)]) hx hb dX12_stateNow_78 hl (k := 1) rfl (by rw [ex_5]; rfl) (by decide) rfl (fun ls hl => ?_)
        refine lv_goto (tgt := 54) hx hb dX12_stateNow_81 (by decide) ?_
        exact ih hp hW hE (lv_sub hl [1, 0] rfl) hL_a0 hK_a0
set_option maxHeartbeats 4000000 in
set_option maxRecDepth 100000 in
theorem t_X12_stateNow_32 {p : Program} {l : Launch} {e : Env} {s : State} {m : MethodId} {args : Array Value} {below : List Frame} {meth : Method} {c : Code} {D : wD} {cy : Nat → ClassId} {X : va_W} {A : Nat → Prop} {S0 : wS} {post : Int32 → wS → Prop} (F : CallFix p m c cX12_stateNow 2 s args wz_X12_stateNow RX12) (hr : meth.sig.returnType = (some .int)) (hlocks : meth.locks = false) (hK : wK D cy A s) : ∀ {S : wS} {H : Heap} {locs : List Loc} {ls : Array Slot} {t0 : Int32}, wp_X12_stateNow_32 D post S t0 → wO D cy X A s.heap S H locs → wX D S0 S → lv_has ls 2 [] → W p l e r_X12_stateNow s m args below meth c H locs 0 0 (MQ below (va_Qi (fun r S9 => wX D S0 S9 ∧ post r S9) (wB D cy X A) A) args s 0 0 A) (F0 m 32 ls [.int t0]) := by
  obtain ⟨hx, hb, hml, hown, hts⟩ := id F
  have hwg : ∀ w ∈ WG, w.before args s = true := fun w h => hts w (List.mem_cons_of_mem _ h)
  intro S H locs ls t0 hp hW hE hl
  unfold wp_X12_stateNow_32 at hp
  exact w_iret hx hb hr hlocks hW ⟨hE, hp⟩ dX12_stateNow_32
set_option maxHeartbeats 4000000 in
set_option maxRecDepth 100000 in
theorem t_X12_stateNow_0 {p : Program} {l : Launch} {e : Env} {s : State} {m : MethodId} {args : Array Value} {below : List Frame} {meth : Method} {c : Code} {D : wD} {cy : Nat → ClassId} {X : va_W} {A : Nat → Prop} {S0 : wS} {post : Int32 → wS → Prop} (F : CallFix p m c cX12_stateNow 2 s args wz_X12_stateNow RX12) (hr : meth.sig.returnType = (some .int)) (hlocks : meth.locks = false) (hK : wK D cy A s) : ∀ {S : wS} {H : Heap} {locs : List Loc} {ls : Array Slot} {a0 : Nat}, wp_X12_stateNow_0 D post S a0 → wO D cy X A s.heap S H locs → wX D S0 S → lv_has ls 2 [(0, .ref a0)] → wM D S a0 → sK S a0 = 17 → W p l e r_X12_stateNow s m args below meth c H locs 0 0 (MQ below (va_Qi (fun r S9 => wX D S0 S9 ∧ post r S9) (wB D cy X A) A) args s 0 0 A) (F0 m 0 ls []) := by
  obtain ⟨hx, hb, hml, hown, hts⟩ := id F
  have hwg : ∀ w ∈ WG, w.before args s = true := fun w h => hts w (List.mem_cons_of_mem _ h)
  have i_17 : ∀ w ∈ u_ws RX12 TX12 43, w ∈ wz_X12_stateNow := fun w h => List.mem_cons_of_mem _ (wu_17 w h)
  have k_29 := hwg _ wf_RX12_29
  intro S H locs ls a0 hp hW hE hl hL_a0 hK_a0
  unfold wp_X12_stateNow_0 at hp
  refine lv_aload_n hx hb dX12_stateNow_0 rfl (lv_at hl 0 rfl) ?_
  refine lv_iconst (v := 0) hx hb dX12_stateNow_1 (by decide) ?_
  refine w_callV (va_runV (As := [.int (0 : Int32)]) (rest := []) F (c_X12_moves l hL_a0 hK_a0 hp H.size) (cwV (C := RX12) 1 hts (wg_V wm_RX12_233 wy_X12_moves) rfl rfl rfl (by decide +kernel) ⟨Nat.le_of_ble_eq_true rfl, Nat.le_of_ble_eq_true rfl⟩) (w_preV hK hW hL_a0 hK_a0 (by decide) rfl) rfl rfl hl.1 rfl (lv_room (Nat.le_of_ble_eq_true rfl)) dX12_stateNow_2 ⟨Nat.le_of_ble_eq_true rfl, Nat.le_of_ble_eq_true rfl⟩) hW (fun S_2 H locs hp hW => ?_)
  obtain ⟨hX_S_2, hp⟩ := hp
  refine W.widen (k := 0) (n := 0) (by decide) (by decide) ?_
  have hE := hE.trans hX_S_2
  have hK_a0 : sK S_2 a0 = 17 := (hX_S_2.2 a0 hL_a0).1.trans hK_a0
  have hL_a0 : wM D S_2 a0 := hX_S_2.M hL_a0
  refine lv_aload_n hx hb dX12_stateNow_5 rfl (lv_at hl 0 rfl) ?_
  obtain ⟨y_3, ey_3, hL_y_3, hK_y_3, hp⟩ := hp
  refine w_get (k := 17) (f := 7) (T := TX12) (v := .ref y_3) F hK hW hL_a0 hK_a0 (by decide) rfl rfl (by decide) i_17 k_29 (by rw [show wv 17 7 S_2 a0 = va_rf (sR S_2 a0 7) from rfl, ey_3]; rfl) dX12_stateNow_6 ?_
  refine lv_iconst (v := 0) hx hb dX12_stateNow_9 (by decide) ?_
  obtain ⟨h_4, hp⟩ := hp
  refine w_ild F hK hW hL_y_3 hK_y_3 h_4 dX12_stateNow_10 ?_
  refine lv_if_ne (tgt := 33) hx hb dX12_stateNow_11 (by decide) (fun c_5 => ?_) (fun c_5 => ?_)
  · replace hp := hp.1 c_5
    refine lv_aload_n hx hb dX12_stateNow_33 rfl (lv_at hl 0 rfl) ?_
    refine w_callI (va_runV (As := []) (rest := []) F (c_X12_isDead l hL_a0 hK_a0 hp H.size) (cwV (C := RX12) 0 hts (wg_V wm_RX12_334 wy_X12_isDead) rfl rfl rfl (by decide +kernel) ⟨Nat.le_of_ble_eq_true rfl, Nat.le_of_ble_eq_true rfl⟩) (w_preV hK hW hL_a0 hK_a0 (by decide) rfl) rfl rfl hl.1 rfl (lv_room (Nat.le_of_ble_eq_true rfl)) dX12_stateNow_34 ⟨Nat.le_of_ble_eq_true rfl, Nat.le_of_ble_eq_true rfl⟩) hW (fun r_6 S_7 H locs hp hW => ?_)
    obtain ⟨hX_S_7, hp⟩ := hp
    refine W.widen (k := 0) (n := 0) (by decide) (by decide) ?_
    have hE := hE.trans hX_S_7
    have hK_a0 : sK S_7 a0 = 17 := (hX_S_7.2 a0 hL_a0).1.trans hK_a0
    have hL_a0 : wM D S_7 a0 := hX_S_7.M hL_a0
    refine lv_if_eq (tgt := 42) hx hb dX12_stateNow_37 (by decide) (fun c_8 => ?_) (fun c_8 => ?_)
    · replace hp := hp.1 c_8
      refine lv_aload_n hx hb dX12_stateNow_42 rfl (lv_at hl 0 rfl) ?_
      refine w_callI (va_runV (As := []) (rest := []) F (c_X12_stood l hL_a0 hK_a0 hp H.size) (cwV (C := RX12) 0 hts (wg_V wm_RX12_337 wy_X12_stood) rfl rfl rfl (by decide +kernel) ⟨Nat.le_of_ble_eq_true rfl, Nat.le_of_ble_eq_true rfl⟩) (w_preV hK hW hL_a0 hK_a0 (by decide) rfl) rfl rfl hl.1 rfl (lv_room (Nat.le_of_ble_eq_true rfl)) dX12_stateNow_43 ⟨Nat.le_of_ble_eq_true rfl, Nat.le_of_ble_eq_true rfl⟩) hW (fun r_9 S_10 H locs hp hW => ?_)
      obtain ⟨hX_S_10, hp⟩ := hp
      refine W.widen (k := 0) (n := 0) (by decide) (by decide) ?_
      have hE := hE.trans hX_S_10
      have hK_a0 : sK S_10 a0 = 17 := (hX_S_10.2 a0 hL_a0).1.trans hK_a0
      have hL_a0 : wM D S_10 a0 := hX_S_10.M hL_a0
      refine lv_iconst (v := 3) hx hb dX12_stateNow_46 (by decide) ?_
      refine lv_icmp_lt (tgt := 52) hx hb dX12_stateNow_47 (by decide) (fun c_11 => ?_) (fun c_11 => ?_)
      · replace hp := hp.1 c_11
        refine lv_iconst (v := 0) hx hb dX12_stateNow_52 (by decide) ?_
        refine lv_istore_n (lv' := [(1, .int (0 : Int32)), (0, .ref a0)]) hx hb dX12_stateNow_53 rfl hl (by decide) rfl (fun ls hl => ?_)
        obtain ⟨n_12, hp⟩ := hp
        exact t_X12_stateNow_54 F hr hlocks hK n_12 hp hW hE (lv_sub hl [1, 0] rfl) hL_a0 hK_a0
      · replace hp := hp.2 c_11
        refine lv_iconst (v := 4) hx hb dX12_stateNow_50 (by decide) ?_
        exact w_iret hx hb hr hlocks hW ⟨hE, hp⟩ dX12_stateNow_51
    · replace hp := hp.2 c_8
      refine lv_iconst (v := 3) hx hb dX12_stateNow_40 (by decide) ?_
      exact w_iret hx hb hr hlocks hW ⟨hE, hp⟩ dX12_stateNow_41
  · replace hp := hp.2 c_5
    refine lv_aload_n hx hb dX12_stateNow_14 rfl (lv_at hl 0 rfl) ?_
    refine lv_iconst (v := 0) hx hb dX12_stateNow_15 (by decide) ?_
    refine lv_aload_n hx hb dX12_stateNow_16 rfl (lv_at hl 0 rfl) ?_
    refine lv_iconst (v := 0) hx hb dX12_stateNow_17 (by decide) ?_
    refine w_callI (va_runV (As := [.int (0 : Int32)]) (rest := [.int (0 : Int32), .ref a0]) F (c_X12_side l hL_a0 hK_a0 hp H.size) (cwV (C := RX12) 1 hts (wg_V wm_RX12_183 wy_X12_side) rfl rfl rfl (by decide +kernel) ⟨Nat.le_of_ble_eq_true rfl, Nat.le_of_ble_eq_true rfl⟩) (w_preV hK hW hL_a0 hK_a0 (by decide) rfl) rfl rfl hl.1 rfl (lv_room (Nat.le_of_ble_eq_true rfl)) dX12_stateNow_18 ⟨Nat.le_of_ble_eq_true rfl, Nat.le_of_ble_eq_true rfl⟩) hW (fun r_13 S_14 H locs hp hW => ?_)
    obtain ⟨hX_S_14, hp⟩ := hp
    refine W.widen (k := 0) (n := 0) (by decide) (by decide) ?_
    have hE := hE.trans hX_S_14
    have hK_a0 : sK S_14 a0 = 17 := (hX_S_14.2 a0 hL_a0).1.trans hK_a0
    have hL_a0 : wM D S_14 a0 := hX_S_14.M hL_a0
    refine w_callI (va_runV (As := [.int (0 : Int32), .int r_13]) (rest := []) F (c_X12_isInCheck l hL_a0 hK_a0 hp H.size) (cwV (C := RX12) 2 hts (wg_V wm_RX12_186 wy_X12_isInCheck) rfl rfl rfl (by decide +kernel) ⟨Nat.le_of_ble_eq_true rfl, Nat.le_of_ble_eq_true rfl⟩) (w_preV hK hW hL_a0 hK_a0 (by decide) rfl) rfl rfl hl.1 rfl (lv_room (Nat.le_of_ble_eq_true rfl)) dX12_stateNow_21 ⟨Nat.le_of_ble_eq_true rfl, Nat.le_of_ble_eq_true rfl⟩) hW (fun r_15 S_16 H locs hp hW => ?_)
    obtain ⟨hX_S_16, hp⟩ := hp
    refine W.widen (k := 0) (n := 0) (by decide) (by decide) ?_
    have hE := hE.trans hX_S_16
    have hK_a0 : sK S_16 a0 = 17 := (hX_S_16.2 a0 hL_a0).1.trans hK_a0
    have hL_a0 : wM D S_16 a0 := hX_S_16.M hL_a0
    refine lv_if_eq (tgt := 31) hx hb dX12_stateNow_24 (by decide) (fun c_17 => ?_) (fun c_17 => ?_)
    · replace hp := hp.1 c_17
      refine lv_iconst (v := 2) hx hb dX12_stateNow_31 (by decide) ?_
      exact t_X12_stateNow_32 F hr hlocks hK hp hW hE (lv_sub hl [] rfl)
    · replace hp := hp.2 c_17
      refine lv_iconst (v := 1) hx hb dX12_stateNow_27 (by decide) ?_
      refine lv_goto (tgt := 32) hx hb dX12_stateNow_28 (by decide) ?_
      exact t_X12_stateNow_32 F hr hlocks hK hp hW hE (lv_sub hl [] rfl)
set_option maxHeartbeats 4000000 in
set_option maxRecDepth 100000 in
theorem c_X12_stateNow (l : Launch) {D : wD} {cy : Nat → ClassId} {X : va_W} {S0 : wS} {post : Int32 → wS → Prop} {a0 : Nat} (hL_a0 : wM D S0 a0) (hK_a0 : sK S0 a0 = 17) (hp : wp_X12_stateNow D post S0 a0) : mI D cy X l yX12_stateNow wz_X12_stateNow r_X12_stateNow [.ref a0] S0 (fun r S9 => wX D S0 S9 ∧ post r S9) := by
  intro sz
  refine Met.ofW (cc := cX12_stateNow) (maxL := 2) (ret := (some .int)) (by decide) rfl ?_
  intro p e s m args below meth c s₁ B hml hv
  obtain ⟨rfl, hsz, hP, hK, hD0, hRO⟩ := hv
  have hts := atoms_spec (ws := wz_X12_stateNow) B.pre
  have hown : s.vm.findClass RX12 = some m.cls := findClass_of_methodNamed B.named
  subst hsz
  have hD := hD0.self (sz := s.heap.size)
  have F : CallFix p m c cX12_stateNow 2 s _ wz_X12_stateNow RX12 := ⟨B.exec, B.bytes, hml, hown, hts⟩
  have hr := B.returns
  have hlocks := B.notSynchronized
  generalize hAe : va_A (wL cy X S0) s.heap.size = A at hD hK ⊢
  have hA : ∀ q, s.heap.size ≤ q → A q := fun q h => by rw [← hAe]; exact Or.inr h
  have hW : wO D cy X A s.heap S0 s.heap [] := ⟨hP, hD, va_S.rf, hA, hRO⟩
  have hl := lv_entry ([.ref a0]) (n := 2) (Nat.le_of_ble_eq_true rfl)
  rw [lg_entry_eq]
  generalize (lg_sl ([.ref a0]) ++ List.replicate (2 - (lg_sl ([.ref a0])).length) Slot.unset).toArray = ls at hl ⊢
  have hl : lv_has ls 2 [(0, .ref a0)] := hl
  unfold wp_X12_stateNow at hp
  exact t_X12_stateNow_0 F hr hlocks hK hp hW wX.rf (lv_sub hl [0] rfl) hL_a0 hK_a0
def wp_X12_play_42 (D : wD) (post : Int32 → wS → Prop)  (S : wS) : Prop :=
post (0 : Int32) S
def wp_X12_play_22 (D : wD) (post : Int32 → wS → Prop)  (S : wS) (a0 : Nat) (x1 : Int32) (b0 : Nat) (t1 : Int32) : Prop :=
wp_X12_can D (fun r_1 S_2 => 
((r_1 = 0 → wp_X12_play_42 D post S_2) ∧
 (¬ r_1 = 0 → wp_X12_isMove D (fun r_4 S_5 => 
wp_X12_can D (fun r_6 S_7 => 
((¬ r_6 = 0 → wp_X12_plays D (fun S_10 => 
wp_X12_stateNow D (fun r_11 S_12 => 
post r_11 S_12) S_10 a0) S_7 a0 x1) ∧
 (r_6 = 0 → wp_X12_play_42 D post S_7))) S_5 a0 r_4 (2 : Int32)) S_2 a0 x1))) S b0 t1 (1 : Int32)
def wp_X12_play_21 (D : wD) (post : Int32 → wS → Prop)  (S : wS) (a0 : Nat) (x1 : Int32) (b0 : Nat) : Prop :=
wp_X12_play_22 D post S a0 x1 b0 (0 : Int32)
def wp_X12_play_0 (D : wD) (post : Int32 → wS → Prop)  (S : wS) (a0 : Nat) (x1 : Int32) : Prop :=
wp_X12_isAskable D (fun r_1 S_2 => 
((r_1 = 0 → wp_X12_play_21 D post S_2 a0 x1 a0) ∧
 (¬ r_1 = 0 → (((80 : Int32) ≤ (sI S_2 a0 11) → wp_X12_play_21 D post S_2 a0 x1 a0) ∧
 (¬ (80 : Int32) ≤ (sI S_2 a0 11) → wp_X12_play_22 D post S_2 a0 x1 a0 (1 : Int32)))))) S a0
abbrev r_X12_play : Room := { frames := 8, cells := 0, slots := 0, locals := 198 }
def wp_X12_play (D : wD) (post : Int32 → wS → Prop) (S : wS) (a0 : Nat) (x1 : Int32) : Prop := wp_X12_play_0 D post S a0 x1
set_option maxHeartbeats 4000000 in
set_option maxRecDepth 100000 in
theorem t_X12_play_42 {p : Program} {l : Launch} {e : Env} {s : State} {m : MethodId} {args : Array Value} {below : List Frame} {meth : Method} {c : Code} {D : wD} {cy : Nat → ClassId} {X : va_W} {A : Nat → Prop} {S0 : wS} {post : Int32 → wS → Prop} (F : CallFix p m c cX12_play 2 s args wz_X12_play RX12) (hr : meth.sig.returnType = (some .int)) (hlocks : meth.locks = false) (hK : wK D cy A s) : ∀ {S : wS} {H : Heap} {locs : List Loc} {ls : Array Slot}, wp_X12_play_42 D post S → wO D cy X A s.heap S H locs → wX D S0 S → lv_has ls 2 [] → W p l e r_X12_play s m args below meth c H locs 0 0 (MQ below (va_Qi (fun r S9 => wX D S0 S9 ∧ post r S9) (wB D cy X A) A) args s 0 0 A) (F0 m 42 ls []) := by
  obtain ⟨hx, hb, hml, hown, hts⟩ := id F
  have hwg : ∀ w ∈ WG, w.before args s = true := fun w h => hts w (List.mem_cons_of_mem _ h)
  intro S H locs ls hp hW hE hl
  unfold wp_X12_play_42 at hp
  refine lv_iconst (v := 0) hx hb dX12_play_42 (by decide) ?_
  exact w_iret hx hb hr hlocks hW ⟨hE, hp⟩ dX12_play_43
set_option maxHeartbeats 4000000 in
set_option maxRecDepth 100000 in
theorem t_X12_play_22 {p : Program} {l : Launch} {e : Env} {s : State} {m : MethodId} {args : Array Value} {below : List Frame} {meth : Method} {c : Code} {D : wD} {cy : Nat → ClassId} {X : va_W} {A : Nat → Prop} {S0 : wS} {post : Int32 → wS → Prop} (F : CallFix p m c cX12_play 2 s args wz_X12_play RX12) (hr : meth.sig.returnType = (some .int)) (hlocks : meth.locks = false) (hK : wK D cy A s) : ∀ {S : wS} {H : Heap} {locs : List Loc} {ls : Array Slot} {a0 : Nat} {x1 : Int32} {b0 : Nat} {t1 : Int32}, wp_X12_play_22 D post S a0 x1 b0 t1 → wO D cy X A s.heap S H locs → wX D S0 S → lv_has ls 2 [(0, .ref a0), (1, .int x1)] → wM D S a0 → sK S a0 = 17 → wM D S b0 → sK S b0 = 17 → W p l e r_X12_play s m args below meth c H locs 0 0 (MQ below (va_Qi (fun r S9 => wX D S0 S9 ∧ post r S9) (wB D cy X A) A) args s 0 0 A) (F0 m 22 ls [.int t1, .ref b0]) := by
  obtain ⟨hx, hb, hml, hown, hts⟩ := id F
  have hwg : ∀ w ∈ WG, w.before args s = true := fun w h => hts w (List.mem_cons_of_mem _ h)
  intro S H locs ls a0 x1 b0 t1 hp hW hE hl hL_a0 hK_a0 hL_b0 hK_b0
  unfold wp_X12_play_22 at hp
  refine lv_iconst (v := 1) hx hb dX12_play_22 (by decide) ?_
  refine w_callI (va_runV (As := [.int t1, .int (1 : Int32)]) (rest := []) F (c_X12_can l hL_b0 hK_b0 hp H.size) (cwV (C := RX12) 2 hts (wg_V wm_RX12_237 wy_X12_can) rfl rfl rfl (by decide +kernel) ⟨Nat.le_of_ble_eq_true rfl, Nat.le_of_ble_eq_true rfl⟩) (w_preV hK hW hL_b0 hK_b0 (by decide) rfl) rfl rfl hl.1 rfl (lv_room (Nat.le_of_ble_eq_true rfl)) dX12_play_23 ⟨Nat.le_of_ble_eq_true rfl, Nat.le_of_ble_eq_true rfl⟩) hW (fun r_1 S_2 H locs hp hW => ?_)
  obtain ⟨hX_S_2, hp⟩ := hp
  refine W.widen (k := 0) (n := 0) (by decide) (by decide) ?_
  have hE := hE.trans hX_S_2
  have hK_a0 : sK S_2 a0 = 17 := (hX_S_2.2 a0 hL_a0).1.trans hK_a0
  have hL_a0 : wM D S_2 a0 := hX_S_2.M hL_a0
  refine lv_if_eq (tgt := 42) hx hb dX12_play_26 (by decide) (fun c_3 => ?_) (fun c_3 => ?_)
  · replace hp := hp.1 c_3
    exact t_X12_play_42 F hr hlocks hK hp hW hE (lv_sub hl [] rfl)
  · replace hp := hp.2 c_3
    refine lv_aload_n hx hb dX12_play_29 rfl (lv_at hl 0 rfl) ?_
    refine lv_aload_n hx hb dX12_play_30 rfl (lv_at hl 0 rfl) ?_
    refine lv_iload_n hx hb dX12_play_31 rfl (lv_at hl 1 rfl) ?_
    refine w_callI (va_runV (As := [.int x1]) (rest := [.ref a0]) F (c_X12_isMove l hL_a0 hK_a0 hp H.size) (cwV (C := RX12) 1 hts (wg_V wm_RX12_290 wy_X12_isMove) rfl rfl rfl (by decide +kernel) ⟨Nat.le_of_ble_eq_true rfl, Nat.le_of_ble_eq_true rfl⟩) (w_preV hK hW hL_a0 hK_a0 (by decide) rfl) rfl rfl hl.1 rfl (lv_room (Nat.le_of_ble_eq_true rfl)) dX12_play_32 ⟨Nat.le_of_ble_eq_true rfl, Nat.le_of_ble_eq_true rfl⟩) hW (fun r_4 S_5 H locs hp hW => ?_)
    obtain ⟨hX_S_5, hp⟩ := hp
    refine W.widen (k := 0) (n := 0) (by decide) (by decide) ?_
    have hE := hE.trans hX_S_5
    have hK_a0 : sK S_5 a0 = 17 := (hX_S_5.2 a0 hL_a0).1.trans hK_a0
    have hL_a0 : wM D S_5 a0 := hX_S_5.M hL_a0
    refine lv_iconst (v := 2) hx hb dX12_play_35 (by decide) ?_
    refine w_callI (va_runV (As := [.int r_4, .int (2 : Int32)]) (rest := []) F (c_X12_can l hL_a0 hK_a0 hp H.size) (cwV (C := RX12) 2 hts (wg_V wm_RX12_237 wy_X12_can) rfl rfl rfl (by decide +kernel) ⟨Nat.le_of_ble_eq_true rfl, Nat.le_of_ble_eq_true rfl⟩) (w_preV hK hW hL_a0 hK_a0 (by decide) rfl) rfl rfl hl.1 rfl (lv_room (Nat.le_of_ble_eq_true rfl)) dX12_play_36 ⟨Nat.le_of_ble_eq_true rfl, Nat.le_of_ble_eq_true rfl⟩) hW (fun r_6 S_7 H locs hp hW => ?_)
    obtain ⟨hX_S_7, hp⟩ := hp
    refine W.widen (k := 0) (n := 0) (by decide) (by decide) ?_
    have hE := hE.trans hX_S_7
    have hK_a0 : sK S_7 a0 = 17 := (hX_S_7.2 a0 hL_a0).1.trans hK_a0
    have hL_a0 : wM D S_7 a0 := hX_S_7.M hL_a0
    refine lv_if_ne (tgt := 44) hx hb dX12_play_39 (by decide) (fun c_8 => ?_) (fun c_8 => ?_)
    · replace hp := hp.1 c_8
      refine lv_aload_n hx hb dX12_play_44 rfl (lv_at hl 0 rfl) ?_
      refine lv_iload_n hx hb dX12_play_45 rfl (lv_at hl 1 rfl) ?_
      refine w_callV (va_runV (As := [.int x1]) (rest := []) F (c_X12_plays l hL_a0 hK_a0 hp H.size) (cwV (C := RX12) 1 hts (wg_V wm_RX12_324 wy_X12_plays) rfl rfl rfl (by decide +kernel) ⟨Nat.le_of_ble_eq_true rfl, Nat.le_of_ble_eq_true rfl⟩) (w_preV hK hW hL_a0 hK_a0 (by decide) rfl) rfl rfl hl.1 rfl (lv_room (Nat.le_of_ble_eq_true rfl)) dX12_play_46 ⟨Nat.le_of_ble_eq_true rfl, Nat.le_of_ble_eq_true rfl⟩) hW (fun S_10 H locs hp hW => ?_)
      obtain ⟨hX_S_10, hp⟩ := hp
      refine W.widen (k := 0) (n := 0) (by decide) (by decide) ?_
      have hE := hE.trans hX_S_10
      have hK_a0 : sK S_10 a0 = 17 := (hX_S_10.2 a0 hL_a0).1.trans hK_a0
      have hL_a0 : wM D S_10 a0 := hX_S_10.M hL_a0
      refine lv_aload_n hx hb dX12_play_49 rfl (lv_at hl 0 rfl) ?_
      refine w_callI (va_runV (As := []) (rest := []) F (c_X12_stateNow l hL_a0 hK_a0 hp H.size) (cwV (C := RX12) 0 hts (wg_V wm_RX12_327 wy_X12_stateNow) rfl rfl rfl (by decide +kernel) ⟨Nat.le_of_ble_eq_true rfl, Nat.le_of_ble_eq_true rfl⟩) (w_preV hK hW hL_a0 hK_a0 (by decide) rfl) rfl rfl hl.1 rfl (lv_room (Nat.le_of_ble_eq_true rfl)) dX12_play_50 ⟨Nat.le_of_ble_eq_true rfl, Nat.le_of_ble_eq_true rfl⟩) hW (fun r_11 S_12 H locs hp hW => ?_)
      obtain ⟨hX_S_12, hp⟩ := hp
      refine W.widen (k := 0) (n := 0) (by decide) (by decide) ?_
      have hE := hE.trans hX_S_12
      have hK_a0 : sK S_12 a0 = 17 := (hX_S_12.2 a0 hL_a0).1.trans hK_a0
      have hL_a0 : wM D S_12 a0 := hX_S_12.M hL_a0
      exact w_iret hx hb hr hlocks hW ⟨hE, hp⟩ dX12_play_53
    · replace hp := hp.2 c_8
      exact t_X12_play_42 F hr hlocks hK hp hW hE (lv_sub hl [] rfl)
set_option maxHeartbeats 4000000 in
set_option maxRecDepth 100000 in
theorem t_X12_play_21 {p : Program} {l : Launch} {e : Env} {s : State} {m : MethodId} {args : Array Value} {below : List Frame} {meth : Method} {c : Code} {D : wD} {cy : Nat → ClassId} {X : va_W} {A : Nat → Prop} {S0 : wS} {post : Int32 → wS → Prop} (F : CallFix p m c cX12_play 2 s args wz_X12_play RX12) (hr : meth.sig.returnType = (some .int)) (hlocks : meth.locks = false) (hK : wK D cy A s) : ∀ {S : wS} {H : Heap} {locs : List Loc} {ls : Array Slot} {a0 : Nat} {x1 : Int32} {b0 : Nat}, wp_X12_play_21 D post S a0 x1 b0 → wO D cy X A s.heap S H locs → wX D S0 S → lv_has ls 2 [(0, .ref a0), (1, .int x1)] → wM D S a0 → sK S a0 = 17 → wM D S b0 → sK S b0 = 17 → W p l e r_X12_play s m args below meth c H locs 0 0 (MQ below (va_Qi (fun r S9 => wX D S0 S9 ∧ post r S9) (wB D cy X A) A) args s 0 0 A) (F0 m 21 ls [.ref b0]) := by
  obtain ⟨hx, hb, hml, hown, hts⟩ := id F
  have hwg : ∀ w ∈ WG, w.before args s = true := fun w h => hts w (List.mem_cons_of_mem _ h)
  intro S H locs ls a0 x1 b0 hp hW hE hl hL_a0 hK_a0 hL_b0 hK_b0
  unfold wp_X12_play_21 at hp
  refine lv_iconst (v := 0) hx hb dX12_play_21 (by decide) ?_
  exact t_X12_play_22 F hr hlocks hK hp hW hE (lv_sub hl [0, 1] rfl) hL_a0 hK_a0 hL_b0 hK_b0
set_option maxHeartbeats 4000000 in
set_option maxRecDepth 100000 in
theorem t_X12_play_0 {p : Program} {l : Launch} {e : Env} {s : State} {m : MethodId} {args : Array Value} {below : List Frame} {meth : Method} {c : Code} {D : wD} {cy : Nat → ClassId} {X : va_W} {A : Nat → Prop} {S0 : wS} {post : Int32 → wS → Prop} (F : CallFix p m c cX12_play 2 s args wz_X12_play RX12) (hr : meth.sig.returnType = (some .int)) (hlocks : meth.locks = false) (hK : wK D cy A s) : ∀ {S : wS} {H : Heap} {locs : List Loc} {ls : Array Slot} {a0 : Nat} {x1 : Int32}, wp_X12_play_0 D post S a0 x1 → wO D cy X A s.heap S H locs → wX D S0 S → lv_has ls 2 [(0, .ref a0), (1, .int x1)] → wM D S a0 → sK S a0 = 17 → W p l e r_X12_play s m args below meth c H locs 0 0 (MQ below (va_Qi (fun r S9 => wX D S0 S9 ∧ post r S9) (wB D cy X A) A) args s 0 0 A) (F0 m 0 ls []) := by
  obtain ⟨hx, hb, hml, hown, hts⟩ := id F
  have hwg : ∀ w ∈ WG, w.before args s = true := fun w h => hts w (List.mem_cons_of_mem _ h)
  have i_17 : ∀ w ∈ u_ws RX12 TX12 43, w ∈ wz_X12_play := fun w h => List.mem_cons_of_mem _ (wu_17 w h)
  have k_121 := hwg _ wf_RX12_121
  intro S H locs ls a0 x1 hp hW hE hl hL_a0 hK_a0
  unfold wp_X12_play_0 at hp
  refine lv_aload_n hx hb dX12_play_0 rfl (lv_at hl 0 rfl) ?_
  refine lv_aload_n hx hb dX12_play_1 rfl (lv_at hl 0 rfl) ?_
  refine w_callI (va_runV (As := []) (rest := [.ref a0]) F (c_X12_isAskable l hL_a0 hK_a0 hp H.size) (cwV (C := RX12) 0 hts (wg_V wm_RX12_284 wy_X12_isAskable) rfl rfl rfl (by decide +kernel) ⟨Nat.le_of_ble_eq_true rfl, Nat.le_of_ble_eq_true rfl⟩) (w_preV hK hW hL_a0 hK_a0 (by decide) rfl) rfl rfl hl.1 rfl (lv_room (Nat.le_of_ble_eq_true rfl)) dX12_play_2 ⟨Nat.le_of_ble_eq_true rfl, Nat.le_of_ble_eq_true rfl⟩) hW (fun r_1 S_2 H locs hp hW => ?_)
  obtain ⟨hX_S_2, hp⟩ := hp
  refine W.widen (k := 0) (n := 0) (by decide) (by decide) ?_
  have hE := hE.trans hX_S_2
  have hK_a0 : sK S_2 a0 = 17 := (hX_S_2.2 a0 hL_a0).1.trans hK_a0
  have hL_a0 : wM D S_2 a0 := hX_S_2.M hL_a0
  refine lv_if_eq (tgt := 21) hx hb dX12_play_5 (by decide) (fun c_3 => ?_) (fun c_3 => ?_)
  · replace hp := hp.1 c_3
    exact t_X12_play_21 F hr hlocks hK hp hW hE (lv_sub hl [0, 1] rfl) hL_a0 hK_a0 hL_a0 hK_a0
  · replace hp := hp.2 c_3
    refine lv_aload_n hx hb dX12_play_8 rfl (lv_at hl 0 rfl) ?_
    refine w_get (k := 17) (f := 11) (T := TX12) (v := .int (sI S_2 a0 11)) F hK hW hL_a0 hK_a0 (by decide) rfl rfl (by decide) i_17 k_121 rfl dX12_play_9 ?_
    refine lv_bipush (v := 80) hx hb dX12_play_12 (by decide) ?_
    refine lv_icmp_ge (tgt := 21) hx hb dX12_play_14 (by decide) (fun c_4 => ?_) (fun c_4 => ?_)
    · replace hp := hp.1 c_4
      exact t_X12_play_21 F hr hlocks hK hp hW hE (lv_sub hl [0, 1] rfl) hL_a0 hK_a0 hL_a0 hK_a0
    · replace hp := hp.2 c_4
      refine lv_iconst (v := 1) hx hb dX12_play_17 (by decide) ?_
      refine lv_goto (tgt := 22) hx hb dX12_play_18 (by decide) ?_
      exact t_X12_play_22 F hr hlocks hK hp hW hE (lv_sub hl [0, 1] rfl) hL_a0 hK_a0 hL_a0 hK_a0
set_option maxHeartbeats 4000000 in
set_option maxRecDepth 100000 in
theorem c_X12_play (l : Launch) {D : wD} {cy : Nat → ClassId} {X : va_W} {S0 : wS} {post : Int32 → wS → Prop} {a0 : Nat} {x1 : Int32} (hL_a0 : wM D S0 a0) (hK_a0 : sK S0 a0 = 17) (hp : wp_X12_play D post S0 a0 x1) : mI D cy X l yX12_play wz_X12_play r_X12_play [.ref a0, .int x1] S0 (fun r S9 => wX D S0 S9 ∧ post r S9) := by
  intro sz
  refine Met.ofW (cc := cX12_play) (maxL := 2) (ret := (some .int)) (by decide) rfl ?_
  intro p e s m args below meth c s₁ B hml hv
  obtain ⟨rfl, hsz, hP, hK, hD0, hRO⟩ := hv
  have hts := atoms_spec (ws := wz_X12_play) B.pre
  have hown : s.vm.findClass RX12 = some m.cls := findClass_of_methodNamed B.named
  subst hsz
  have hD := hD0.self (sz := s.heap.size)
  have F : CallFix p m c cX12_play 2 s _ wz_X12_play RX12 := ⟨B.exec, B.bytes, hml, hown, hts⟩
  have hr := B.returns
  have hlocks := B.notSynchronized
  generalize hAe : va_A (wL cy X S0) s.heap.size = A at hD hK ⊢
  have hA : ∀ q, s.heap.size ≤ q → A q := fun q h => by rw [← hAe]; exact Or.inr h
  have hW : wO D cy X A s.heap S0 s.heap [] := ⟨hP, hD, va_S.rf, hA, hRO⟩
  have hl := lv_entry ([.ref a0, .int x1]) (n := 2) (Nat.le_of_ble_eq_true rfl)
  rw [lg_entry_eq]
  generalize (lg_sl ([.ref a0, .int x1]) ++ List.replicate (2 - (lg_sl ([.ref a0, .int x1])).length) Slot.unset).toArray = ls at hl ⊢
  have hl : lv_has ls 2 [(0, .ref a0), (1, .int x1)] := hl
  unfold wp_X12_play at hp
  exact t_X12_play_0 F hr hlocks hK hp hW wX.rf (lv_sub hl [0, 1] rfl) hL_a0 hK_a0
def wp_X12_playMain_89 (D : wD) (post : Int32 → wS → Prop)  (S : wS) (x3 : Int32) : Prop :=
post x3 S
def wp_X12_playMain_50 (D : wD) (post : Int32 → wS → Prop)  : Nat → wS → Nat → Int32 → Int32 → Int32 → Int32 → Prop
  | 0, _, _, _, _, _, _ => False
  | n + 1, S, a0, x1, x2, x3, x4 =>
    ((x4 = (-1 : Int32) → wp_X12_playMain_89 D post S x3) ∧
     (¬ x4 = (-1 : Int32) → ((x2 ≤ x3 → wp_X12_playMain_89 D post S x3) ∧
     (¬ x2 ≤ x3 → (((80 : Int32) ≤ (sI S a0 11) → wp_X12_playMain_89 D post S x3) ∧
     (¬ (80 : Int32) ≤ (sI S a0 11) → wp_X12_plays D (fun S_5 => 
    ∀ x_6 : Int32, x_6 = x3 + 1 →
    wp_X12_mainMove D (fun r_7 S_8 => 
    wp_X12_playMain_50 D post n S_8 a0 x1 x2 x_6 r_7) S_5 a0 x1) S a0 x4))))))
def wp_X12_playMain_39 (D : wD) (post : Int32 → wS → Prop)  (S : wS) : Prop :=
post (0 : Int32) S
def wp_X12_playMain_0 (D : wD) (post : Int32 → wS → Prop)  (S : wS) (a0 : Nat) (x1 : Int32) (x2 : Int32) : Prop :=
wp_X12_isShelf D (fun r_1 S_2 => 
wp_X12_can D (fun r_3 S_4 => 
((r_3 = 0 → wp_X12_playMain_39 D post S_4) ∧
 (¬ r_3 = 0 → wp_X12_in D (fun r_6 S_7 => 
wp_X12_can D (fun r_8 S_9 => 
((r_8 = 0 → wp_X12_playMain_39 D post S_9) ∧
 (¬ r_8 = 0 → wp_X12_isAskable D (fun r_11 S_12 => 
wp_X12_can D (fun r_13 S_14 => 
((¬ r_13 = 0 → wp_X12_mainMove D (fun r_16 S_17 => 
∃ n_18 : Nat, wp_X12_playMain_50 D post n_18 S_17 a0 x1 x2 (0 : Int32) r_16) S_14 a0 x1) ∧
 (r_13 = 0 → wp_X12_playMain_39 D post S_14))) S_12 a0 r_11 (3 : Int32)) S_9 a0))) S_7 a0 r_6 (2 : Int32)) S_4 x2 (1 : Int32) (80 : Int32)))) S_2 a0 r_1 (1 : Int32)) S x1
abbrev r_X12_playMain : Room := { frames := 12, cells := 0, slots := 0, locals := 287 }
def wp_X12_playMain (D : wD) (post : Int32 → wS → Prop) (S : wS) (a0 : Nat) (x1 : Int32) (x2 : Int32) : Prop := wp_X12_playMain_0 D post S a0 x1 x2
set_option maxHeartbeats 4000000 in
set_option maxRecDepth 100000 in
theorem t_X12_playMain_89 {p : Program} {l : Launch} {e : Env} {s : State} {m : MethodId} {args : Array Value} {below : List Frame} {meth : Method} {c : Code} {D : wD} {cy : Nat → ClassId} {X : va_W} {A : Nat → Prop} {S0 : wS} {post : Int32 → wS → Prop} (F : CallFix p m c cX12_playMain 5 s args wz_X12_playMain RX12) (hr : meth.sig.returnType = (some .int)) (hlocks : meth.locks = false) (hK : wK D cy A s) : ∀ {S : wS} {H : Heap} {locs : List Loc} {ls : Array Slot} {x3 : Int32}, wp_X12_playMain_89 D post S x3 → wO D cy X A s.heap S H locs → wX D S0 S → lv_has ls 5 [(3, .int x3)] → W p l e r_X12_playMain s m args below meth c H locs 0 0 (MQ below (va_Qi (fun r S9 => wX D S0 S9 ∧ post r S9) (wB D cy X A) A) args s 0 0 A) (F0 m 89 ls []) := by
  obtain ⟨hx, hb, hml, hown, hts⟩ := id F
  have hwg : ∀ w ∈ WG, w.before args s = true := fun w h => hts w (List.mem_cons_of_mem _ h)
  intro S H locs ls x3 hp hW hE hl
  unfold wp_X12_playMain_89 at hp
  refine lv_iload_n hx hb dX12_playMain_89 rfl (lv_at hl 0 rfl) ?_
  exact w_iret hx hb hr hlocks hW ⟨hE, hp⟩ dX12_playMain_90
set_option maxHeartbeats 4000000 in
set_option maxRecDepth 100000 in
theorem t_X12_playMain_50 {p : Program} {l : Launch} {e : Env} {s : State} {m : MethodId} {args : Array Value} {below : List Frame} {meth : Method} {c : Code} {D : wD} {cy : Nat → ClassId} {X : va_W} {A : Nat → Prop} {S0 : wS} {post : Int32 → wS → Prop} (F : CallFix p m c cX12_playMain 5 s args wz_X12_playMain RX12) (hr : meth.sig.returnType = (some .int)) (hlocks : meth.locks = false) (hK : wK D cy A s) : ∀ (n : Nat) {S : wS} {H : Heap} {locs : List Loc} {ls : Array Slot} {a0 : Nat} {x1 : Int32} {x2 : Int32} {x3 : Int32} {x4 : Int32}, wp_X12_playMain_50 D post n S a0 x1 x2 x3 x4 → wO D cy X A s.heap S H locs → wX D S0 S → lv_has ls 5 [(0, .ref a0), (1, .int x1), (2, .int x2), (3, .int x3), (4, .int x4)] → wM D S a0 → sK S a0 = 17 → W p l e r_X12_playMain s m args below meth c H locs 0 0 (MQ below (va_Qi (fun r S9 => wX D S0 S9 ∧ post r S9) (wB D cy X A) A) args s 0 0 A) (F0 m 50 ls []) := by
  obtain ⟨hx, hb, hml, hown, hts⟩ := id F
  have hwg : ∀ w ∈ WG, w.before args s = true := fun w h => hts w (List.mem_cons_of_mem _ h)
  have i_17 : ∀ w ∈ u_ws RX12 TX12 43, w ∈ wz_X12_playMain := fun w h => List.mem_cons_of_mem _ (wu_17 w h)
  have k_121 := hwg _ wf_RX12_121
  intro n
  induction n with
  | zero =>
    intro S H locs ls a0 x1 x2 x3 x4 hp
    exact hp.elim
  | succ n ih =>
    intro S H locs ls a0 x1 x2 x3 x4 hp hW hE hl hL_a0 hK_a0
    unfold wp_X12_playMain_50 at hp
    refine lv_iload hx hb dX12_playMain_50 (lv_at hl 4 rfl) ?_
    refine lv_iconst (v := (-1)) hx hb dX12_playMain_52 (by decide) ?_
    refine lv_icmp_eq (tgt := 89) hx hb dX12_playMain_53 (by decide) (fun c_1 => ?_) (fun c_1 => ?_)
    · replace hp := hp.1 c_1
      exact t_X12_playMain_89 F hr hlocks hK hp hW hE (lv_sub hl [3] rfl)
    · replace hp := hp.2 c_1
      refine lv_iload_n hx hb dX12_playMain_56 rfl (lv_at hl 3 rfl) ?_
      refine lv_iload_n hx hb dX12_playMain_57 rfl (lv_at hl 2 rfl) ?_
      refine lv_icmp_ge (tgt := 89) hx hb dX12_playMain_58 (by decide) (fun c_2 => ?_) (fun c_2 => ?_)
      · replace hp := hp.1 c_2
        exact t_X12_playMain_89 F hr hlocks hK hp hW hE (lv_sub hl [3] rfl)
      · replace hp := hp.2 c_2
        refine lv_aload_n hx hb dX12_playMain_61 rfl (lv_at hl 0 rfl) ?_
        refine w_get (k := 17) (f := 11) (T := TX12) (v := .int (sI S a0 11)) F hK hW hL_a0 hK_a0 (by decide) rfl rfl (by decide) i_17 k_121 rfl dX12_playMain_62 ?_
        refine lv_bipush (v := 80) hx hb dX12_playMain_65 (by decide) ?_
        refine lv_icmp_ge (tgt := 89) hx hb dX12_playMain_67 (by decide) (fun c_3 => ?_) (fun c_3 => ?_)
        · replace hp := hp.1 c_3
          exact t_X12_playMain_89 F hr hlocks hK hp hW hE (lv_sub hl [3] rfl)
        · replace hp := hp.2 c_3
          refine lv_aload_n hx hb dX12_playMain_70 rfl (lv_at hl 0 rfl) ?_
          refine lv_iload hx hb dX12_playMain_71 (lv_at hl 4 rfl) ?_
          refine w_callV (va_runV (As := [.int x4]) (rest := []) F (c_X12_plays l hL_a0 hK_a0 hp H.size) (cwV (C := RX12) 1 hts (wg_V wm_RX12_324 wy_X12_plays) rfl rfl rfl (by decide +kernel) ⟨Nat.le_of_ble_eq_true rfl, Nat.le_of_ble_eq_true rfl⟩) (w_preV hK hW hL_a0 hK_a0 (by decide) rfl) rfl rfl hl.1 rfl (lv_room (Nat.le_of_ble_eq_true rfl)) dX12_playMain_73 ⟨Nat.le_of_ble_eq_true rfl, Nat.le_of_ble_eq_true rfl⟩) hW (fun S_5 H locs hp hW => ?_)
          obtain ⟨hX_S_5, hp⟩ := hp
          refine W.widen (k := 0) (n := 0) (by decide) (by decide) ?_
          have hE := hE.trans hX_S_5
          have hK_a0 : sK S_5 a0 = 17 := (hX_S_5.2 a0 hL_a0).1.trans hK_a0
          have hL_a0 : wM D S_5 a0 := hX_S_5.M hL_a0
          obtain ⟨x_6, ex_6⟩ : ∃ z : Int32, z = x3 + 1 := ⟨_, rfl⟩
          replace hp := hp x_6 ex_6
          refine lv_iinc (v := x_6) (lv' := [(3, .int x_6), (0, .ref a0), (1, .int x1), (2, .int x2), (4, .int x4)]) hx hb dX12_playMain_76 hl (k := 3) rfl (by rw [ex_6]; rfl) (by decide) rfl (fun ls hl => ?_)
          refine lv_aload_n hx hb dX12_playMain_79 rfl (lv_at hl 1 rfl) ?_
          refine lv_iload_n hx hb dX12_playMain_80 rfl (lv_at hl 2 rfl) ?_
          refine w_callI (va_runV (As := [.int x1]) (rest := []) F (c_X12_mainMove l hL_a0 hK_a0 hp H.size) (cwV (C := RX12) 1 hts (wg_V wm_RX12_455 wy_X12_mainMove) rfl rfl rfl (by decide +kernel) ⟨Nat.le_of_ble_eq_true rfl, Nat.le_of_ble_eq_true rfl⟩) (w_preV hK hW hL_a0 hK_a0 (by decide) rfl) rfl rfl hl.1 rfl (lv_room (Nat.le_of_ble_eq_true rfl)) dX12_playMain_81 ⟨Nat.le_of_ble_eq_true rfl, Nat.le_of_ble_eq_true rfl⟩) hW (fun r_7 S_8 H locs hp hW => ?_)
          obtain ⟨hX_S_8, hp⟩ := hp
          refine W.widen (k := 0) (n := 0) (by decide) (by decide) ?_
          have hE := hE.trans hX_S_8
          have hK_a0 : sK S_8 a0 = 17 := (hX_S_8.2 a0 hL_a0).1.trans hK_a0
          have hL_a0 : wM D S_8 a0 := hX_S_8.M hL_a0
          refine lv_istore (lv' := [(4, .int r_7), (3, .int x_6), (0, .ref a0), (1, .int x1), (2, .int x2)]) hx hb dX12_playMain_84 hl (by decide) rfl (fun ls hl => ?_)
          refine lv_goto (tgt := 50) hx hb dX12_playMain_86 (by decide) ?_
          exact ih hp hW hE (lv_sub hl [2, 3, 4, 1, 0] rfl) hL_a0 hK_a0
set_option maxHeartbeats 4000000 in
set_option maxRecDepth 100000 in
theorem t_X12_playMain_39 {p : Program} {l : Launch} {e : Env} {s : State} {m : MethodId} {args : Array Value} {below : List Frame} {meth : Method} {c : Code} {D : wD} {cy : Nat → ClassId} {X : va_W} {A : Nat → Prop} {S0 : wS} {post : Int32 → wS → Prop} (F : CallFix p m c cX12_playMain 5 s args wz_X12_playMain RX12) (hr : meth.sig.returnType = (some .int)) (hlocks : meth.locks = false) (hK : wK D cy A s) : ∀ {S : wS} {H : Heap} {locs : List Loc} {ls : Array Slot}, wp_X12_playMain_39 D post S → wO D cy X A s.heap S H locs → wX D S0 S → lv_has ls 5 [] → W p l e r_X12_playMain s m args below meth c H locs 0 0 (MQ below (va_Qi (fun r S9 => wX D S0 S9 ∧ post r S9) (wB D cy X A) A) args s 0 0 A) (F0 m 39 ls []) := by
  obtain ⟨hx, hb, hml, hown, hts⟩ := id F
  have hwg : ∀ w ∈ WG, w.before args s = true := fun w h => hts w (List.mem_cons_of_mem _ h)
  intro S H locs ls hp hW hE hl
  unfold wp_X12_playMain_39 at hp
  refine lv_iconst (v := 0) hx hb dX12_playMain_39 (by decide) ?_
  exact w_iret hx hb hr hlocks hW ⟨hE, hp⟩ dX12_playMain_40
set_option maxHeartbeats 4000000 in
set_option maxRecDepth 100000 in
theorem t_X12_playMain_0 {p : Program} {l : Launch} {e : Env} {s : State} {m : MethodId} {args : Array Value} {below : List Frame} {meth : Method} {c : Code} {D : wD} {cy : Nat → ClassId} {X : va_W} {A : Nat → Prop} {S0 : wS} {post : Int32 → wS → Prop} (F : CallFix p m c cX12_playMain 5 s args wz_X12_playMain RX12) (hr : meth.sig.returnType = (some .int)) (hlocks : meth.locks = false) (hK : wK D cy A s) : ∀ {S : wS} {H : Heap} {locs : List Loc} {ls : Array Slot} {a0 : Nat} {x1 : Int32} {x2 : Int32}, wp_X12_playMain_0 D post S a0 x1 x2 → wO D cy X A s.heap S H locs → wX D S0 S → lv_has ls 5 [(0, .ref a0), (1, .int x1), (2, .int x2)] → wM D S a0 → sK S a0 = 17 → W p l e r_X12_playMain s m args below meth c H locs 0 0 (MQ below (va_Qi (fun r S9 => wX D S0 S9 ∧ post r S9) (wB D cy X A) A) args s 0 0 A) (F0 m 0 ls []) := by
  obtain ⟨hx, hb, hml, hown, hts⟩ := id F
  have hwg : ∀ w ∈ WG, w.before args s = true := fun w h => hts w (List.mem_cons_of_mem _ h)
  intro S H locs ls a0 x1 x2 hp hW hE hl hL_a0 hK_a0
  unfold wp_X12_playMain_0 at hp
  refine lv_aload_n hx hb dX12_playMain_0 rfl (lv_at hl 0 rfl) ?_
  refine lv_iload_n hx hb dX12_playMain_1 rfl (lv_at hl 1 rfl) ?_
  refine w_callI (va_runS (As := [.int x1]) (rest := [.ref a0]) F (c_X12_isShelf l hp H.size) (va_cwS 1 hts (wg_S wm_RX12_397 wy_X12_isShelf) rfl rfl rfl (by decide +kernel) ⟨Nat.le_of_ble_eq_true rfl, Nat.le_of_ble_eq_true rfl⟩) (w_preS hK hW) rfl rfl hl.1 rfl (lv_room (Nat.le_of_ble_eq_true rfl)) dX12_playMain_2 ⟨Nat.le_of_ble_eq_true rfl, Nat.le_of_ble_eq_true rfl⟩) hW (fun r_1 S_2 H locs hp hW => ?_)
  obtain ⟨hX_S_2, hp⟩ := hp
  refine W.widen (k := 0) (n := 0) (by decide) (by decide) ?_
  have hE := hE.trans hX_S_2
  have hK_a0 : sK S_2 a0 = 17 := (hX_S_2.2 a0 hL_a0).1.trans hK_a0
  have hL_a0 : wM D S_2 a0 := hX_S_2.M hL_a0
  refine lv_iconst (v := 1) hx hb dX12_playMain_5 (by decide) ?_
  refine w_callI (va_runV (As := [.int r_1, .int (1 : Int32)]) (rest := []) F (c_X12_can l hL_a0 hK_a0 hp H.size) (cwV (C := RX12) 2 hts (wg_V wm_RX12_237 wy_X12_can) rfl rfl rfl (by decide +kernel) ⟨Nat.le_of_ble_eq_true rfl, Nat.le_of_ble_eq_true rfl⟩) (w_preV hK hW hL_a0 hK_a0 (by decide) rfl) rfl rfl hl.1 rfl (lv_room (Nat.le_of_ble_eq_true rfl)) dX12_playMain_6 ⟨Nat.le_of_ble_eq_true rfl, Nat.le_of_ble_eq_true rfl⟩) hW (fun r_3 S_4 H locs hp hW => ?_)
  obtain ⟨hX_S_4, hp⟩ := hp
  refine W.widen (k := 0) (n := 0) (by decide) (by decide) ?_
  have hE := hE.trans hX_S_4
  have hK_a0 : sK S_4 a0 = 17 := (hX_S_4.2 a0 hL_a0).1.trans hK_a0
  have hL_a0 : wM D S_4 a0 := hX_S_4.M hL_a0
  refine lv_if_eq (tgt := 39) hx hb dX12_playMain_9 (by decide) (fun c_5 => ?_) (fun c_5 => ?_)
  · replace hp := hp.1 c_5
    exact t_X12_playMain_39 F hr hlocks hK hp hW hE (lv_sub hl [] rfl)
  · replace hp := hp.2 c_5
    refine lv_aload_n hx hb dX12_playMain_12 rfl (lv_at hl 0 rfl) ?_
    refine lv_iload_n hx hb dX12_playMain_13 rfl (lv_at hl 2 rfl) ?_
    refine lv_iconst (v := 1) hx hb dX12_playMain_14 (by decide) ?_
    refine lv_bipush (v := 80) hx hb dX12_playMain_15 (by decide) ?_
    refine w_callI (va_runS (As := [.int x2, .int (1 : Int32), .int (80 : Int32)]) (rest := [.ref a0]) F (c_X12_in l hp H.size) (va_cwS 3 hts (wg_S wm_RX12_117 wy_X12_in) rfl rfl rfl (by decide +kernel) ⟨Nat.le_of_ble_eq_true rfl, Nat.le_of_ble_eq_true rfl⟩) (w_preS hK hW) rfl rfl hl.1 rfl (lv_room (Nat.le_of_ble_eq_true rfl)) dX12_playMain_17 ⟨Nat.le_of_ble_eq_true rfl, Nat.le_of_ble_eq_true rfl⟩) hW (fun r_6 S_7 H locs hp hW => ?_)
    obtain ⟨hX_S_7, hp⟩ := hp
    refine W.widen (k := 0) (n := 0) (by decide) (by decide) ?_
    have hE := hE.trans hX_S_7
    have hK_a0 : sK S_7 a0 = 17 := (hX_S_7.2 a0 hL_a0).1.trans hK_a0
    have hL_a0 : wM D S_7 a0 := hX_S_7.M hL_a0
    refine lv_iconst (v := 2) hx hb dX12_playMain_20 (by decide) ?_
    refine w_callI (va_runV (As := [.int r_6, .int (2 : Int32)]) (rest := []) F (c_X12_can l hL_a0 hK_a0 hp H.size) (cwV (C := RX12) 2 hts (wg_V wm_RX12_237 wy_X12_can) rfl rfl rfl (by decide +kernel) ⟨Nat.le_of_ble_eq_true rfl, Nat.le_of_ble_eq_true rfl⟩) (w_preV hK hW hL_a0 hK_a0 (by decide) rfl) rfl rfl hl.1 rfl (lv_room (Nat.le_of_ble_eq_true rfl)) dX12_playMain_21 ⟨Nat.le_of_ble_eq_true rfl, Nat.le_of_ble_eq_true rfl⟩) hW (fun r_8 S_9 H locs hp hW => ?_)
    obtain ⟨hX_S_9, hp⟩ := hp
    refine W.widen (k := 0) (n := 0) (by decide) (by decide) ?_
    have hE := hE.trans hX_S_9
    have hK_a0 : sK S_9 a0 = 17 := (hX_S_9.2 a0 hL_a0).1.trans hK_a0
    have hL_a0 : wM D S_9 a0 := hX_S_9.M hL_a0
    refine lv_if_eq (tgt := 39) hx hb dX12_playMain_24 (by decide) (fun c_10 => ?_) (fun c_10 => ?_)
    · replace hp := hp.1 c_10
      exact t_X12_playMain_39 F hr hlocks hK hp hW hE (lv_sub hl [] rfl)
    · replace hp := hp.2 c_10
      refine lv_aload_n hx hb dX12_playMain_27 rfl (lv_at hl 0 rfl) ?_
      refine lv_aload_n hx hb dX12_playMain_28 rfl (lv_at hl 0 rfl) ?_
      refine w_callI (va_runV (As := []) (rest := [.ref a0]) F (c_X12_isAskable l hL_a0 hK_a0 hp H.size) (cwV (C := RX12) 0 hts (wg_V wm_RX12_284 wy_X12_isAskable) rfl rfl rfl (by decide +kernel) ⟨Nat.le_of_ble_eq_true rfl, Nat.le_of_ble_eq_true rfl⟩) (w_preV hK hW hL_a0 hK_a0 (by decide) rfl) rfl rfl hl.1 rfl (lv_room (Nat.le_of_ble_eq_true rfl)) dX12_playMain_29 ⟨Nat.le_of_ble_eq_true rfl, Nat.le_of_ble_eq_true rfl⟩) hW (fun r_11 S_12 H locs hp hW => ?_)
      obtain ⟨hX_S_12, hp⟩ := hp
      refine W.widen (k := 0) (n := 0) (by decide) (by decide) ?_
      have hE := hE.trans hX_S_12
      have hK_a0 : sK S_12 a0 = 17 := (hX_S_12.2 a0 hL_a0).1.trans hK_a0
      have hL_a0 : wM D S_12 a0 := hX_S_12.M hL_a0
      refine lv_iconst (v := 3) hx hb dX12_playMain_32 (by decide) ?_
      refine w_callI (va_runV (As := [.int r_11, .int (3 : Int32)]) (rest := []) F (c_X12_can l hL_a0 hK_a0 hp H.size) (cwV (C := RX12) 2 hts (wg_V wm_RX12_237 wy_X12_can) rfl rfl rfl (by decide +kernel) ⟨Nat.le_of_ble_eq_true rfl, Nat.le_of_ble_eq_true rfl⟩) (w_preV hK hW hL_a0 hK_a0 (by decide) rfl) rfl rfl hl.1 rfl (lv_room (Nat.le_of_ble_eq_true rfl)) dX12_playMain_33 ⟨Nat.le_of_ble_eq_true rfl, Nat.le_of_ble_eq_true rfl⟩) hW (fun r_13 S_14 H locs hp hW => ?_)
      obtain ⟨hX_S_14, hp⟩ := hp
      refine W.widen (k := 0) (n := 0) (by decide) (by decide) ?_
      have hE := hE.trans hX_S_14
      have hK_a0 : sK S_14 a0 = 17 := (hX_S_14.2 a0 hL_a0).1.trans hK_a0
      have hL_a0 : wM D S_14 a0 := hX_S_14.M hL_a0
      refine lv_if_ne (tgt := 41) hx hb dX12_playMain_36 (by decide) (fun c_15 => ?_) (fun c_15 => ?_)
      · replace hp := hp.1 c_15
        refine lv_iconst (v := 0) hx hb dX12_playMain_41 (by decide) ?_
        refine lv_istore_n (lv' := [(3, .int (0 : Int32)), (0, .ref a0), (1, .int x1), (2, .int x2)]) hx hb dX12_playMain_42 rfl hl (by decide) rfl (fun ls hl => ?_)
        refine lv_aload_n hx hb dX12_playMain_43 rfl (lv_at hl 1 rfl) ?_
        refine lv_iload_n hx hb dX12_playMain_44 rfl (lv_at hl 2 rfl) ?_
        refine w_callI (va_runV (As := [.int x1]) (rest := []) F (c_X12_mainMove l hL_a0 hK_a0 hp H.size) (cwV (C := RX12) 1 hts (wg_V wm_RX12_455 wy_X12_mainMove) rfl rfl rfl (by decide +kernel) ⟨Nat.le_of_ble_eq_true rfl, Nat.le_of_ble_eq_true rfl⟩) (w_preV hK hW hL_a0 hK_a0 (by decide) rfl) rfl rfl hl.1 rfl (lv_room (Nat.le_of_ble_eq_true rfl)) dX12_playMain_45 ⟨Nat.le_of_ble_eq_true rfl, Nat.le_of_ble_eq_true rfl⟩) hW (fun r_16 S_17 H locs hp hW => ?_)
        obtain ⟨hX_S_17, hp⟩ := hp
        refine W.widen (k := 0) (n := 0) (by decide) (by decide) ?_
        have hE := hE.trans hX_S_17
        have hK_a0 : sK S_17 a0 = 17 := (hX_S_17.2 a0 hL_a0).1.trans hK_a0
        have hL_a0 : wM D S_17 a0 := hX_S_17.M hL_a0
        refine lv_istore (lv' := [(4, .int r_16), (3, .int (0 : Int32)), (0, .ref a0), (1, .int x1), (2, .int x2)]) hx hb dX12_playMain_48 hl (by decide) rfl (fun ls hl => ?_)
        obtain ⟨n_18, hp⟩ := hp
        exact t_X12_playMain_50 F hr hlocks hK n_18 hp hW hE (lv_sub hl [2, 3, 4, 1, 0] rfl) hL_a0 hK_a0
      · replace hp := hp.2 c_15
        exact t_X12_playMain_39 F hr hlocks hK hp hW hE (lv_sub hl [] rfl)
set_option maxHeartbeats 4000000 in
set_option maxRecDepth 100000 in
theorem c_X12_playMain (l : Launch) {D : wD} {cy : Nat → ClassId} {X : va_W} {S0 : wS} {post : Int32 → wS → Prop} {a0 : Nat} {x1 : Int32} {x2 : Int32} (hL_a0 : wM D S0 a0) (hK_a0 : sK S0 a0 = 17) (hp : wp_X12_playMain D post S0 a0 x1 x2) : mI D cy X l yX12_playMain wz_X12_playMain r_X12_playMain [.ref a0, .int x1, .int x2] S0 (fun r S9 => wX D S0 S9 ∧ post r S9) := by
  intro sz
  refine Met.ofW (cc := cX12_playMain) (maxL := 5) (ret := (some .int)) (by decide) rfl ?_
  intro p e s m args below meth c s₁ B hml hv
  obtain ⟨rfl, hsz, hP, hK, hD0, hRO⟩ := hv
  have hts := atoms_spec (ws := wz_X12_playMain) B.pre
  have hown : s.vm.findClass RX12 = some m.cls := findClass_of_methodNamed B.named
  subst hsz
  have hD := hD0.self (sz := s.heap.size)
  have F : CallFix p m c cX12_playMain 5 s _ wz_X12_playMain RX12 := ⟨B.exec, B.bytes, hml, hown, hts⟩
  have hr := B.returns
  have hlocks := B.notSynchronized
  generalize hAe : va_A (wL cy X S0) s.heap.size = A at hD hK ⊢
  have hA : ∀ q, s.heap.size ≤ q → A q := fun q h => by rw [← hAe]; exact Or.inr h
  have hW : wO D cy X A s.heap S0 s.heap [] := ⟨hP, hD, va_S.rf, hA, hRO⟩
  have hl := lv_entry ([.ref a0, .int x1, .int x2]) (n := 5) (Nat.le_of_ble_eq_true rfl)
  rw [lg_entry_eq]
  generalize (lg_sl ([.ref a0, .int x1, .int x2]) ++ List.replicate (5 - (lg_sl ([.ref a0, .int x1, .int x2])).length) Slot.unset).toArray = ls at hl ⊢
  have hl : lv_has ls 5 [(0, .ref a0), (1, .int x1), (2, .int x2)] := hl
  unfold wp_X12_playMain at hp
  exact t_X12_playMain_0 F hr hlocks hK hp hW wX.rf (lv_sub hl [0, 1, 2] rfl) hL_a0 hK_a0
def wp_X12_positionCount_22 (D : wD) (post : Int32 → wS → Prop)  (S : wS) (t0 : Int32) : Prop :=
post t0 S
def wp_X12_positionCount_0 (D : wD) (post : Int32 → wS → Prop)  (S : wS) (a0 : Nat) (x1 : Int32) : Prop :=
wp_X12_isShelf D (fun r_1 S_2 => 
wp_X12_can D (fun r_3 S_4 => 
((r_3 = 0 → wp_X12_positionCount_22 D post S_4 (0 : Int32)) ∧
 (¬ r_3 = 0 → wp_X12_positions D (fun r_6 S_7 => 
wp_X12_positionCount_22 D post S_7 r_6) S_4 a0 x1 (0 : Int32)))) S_2 a0 r_1 (1 : Int32)) S x1
abbrev r_X12_positionCount : Room := { frames := 4, cells := 0, slots := 0, locals := 99 }
def wp_X12_positionCount (D : wD) (post : Int32 → wS → Prop) (S : wS) (a0 : Nat) (x1 : Int32) : Prop := wp_X12_positionCount_0 D post S a0 x1
set_option maxHeartbeats 4000000 in
set_option maxRecDepth 100000 in
theorem t_X12_positionCount_22 {p : Program} {l : Launch} {e : Env} {s : State} {m : MethodId} {args : Array Value} {below : List Frame} {meth : Method} {c : Code} {D : wD} {cy : Nat → ClassId} {X : va_W} {A : Nat → Prop} {S0 : wS} {post : Int32 → wS → Prop} (F : CallFix p m c cX12_positionCount 2 s args wz_X12_positionCount RX12) (hr : meth.sig.returnType = (some .int)) (hlocks : meth.locks = false) (hK : wK D cy A s) : ∀ {S : wS} {H : Heap} {locs : List Loc} {ls : Array Slot} {t0 : Int32}, wp_X12_positionCount_22 D post S t0 → wO D cy X A s.heap S H locs → wX D S0 S → lv_has ls 2 [] → W p l e r_X12_positionCount s m args below meth c H locs 0 0 (MQ below (va_Qi (fun r S9 => wX D S0 S9 ∧ post r S9) (wB D cy X A) A) args s 0 0 A) (F0 m 22 ls [.int t0]) := by
  obtain ⟨hx, hb, hml, hown, hts⟩ := id F
  have hwg : ∀ w ∈ WG, w.before args s = true := fun w h => hts w (List.mem_cons_of_mem _ h)
  intro S H locs ls t0 hp hW hE hl
  unfold wp_X12_positionCount_22 at hp
  exact w_iret hx hb hr hlocks hW ⟨hE, hp⟩ dX12_positionCount_22
set_option maxHeartbeats 4000000 in
set_option maxRecDepth 100000 in
theorem t_X12_positionCount_0 {p : Program} {l : Launch} {e : Env} {s : State} {m : MethodId} {args : Array Value} {below : List Frame} {meth : Method} {c : Code} {D : wD} {cy : Nat → ClassId} {X : va_W} {A : Nat → Prop} {S0 : wS} {post : Int32 → wS → Prop} (F : CallFix p m c cX12_positionCount 2 s args wz_X12_positionCount RX12) (hr : meth.sig.returnType = (some .int)) (hlocks : meth.locks = false) (hK : wK D cy A s) : ∀ {S : wS} {H : Heap} {locs : List Loc} {ls : Array Slot} {a0 : Nat} {x1 : Int32}, wp_X12_positionCount_0 D post S a0 x1 → wO D cy X A s.heap S H locs → wX D S0 S → lv_has ls 2 [(0, .ref a0), (1, .int x1)] → wM D S a0 → sK S a0 = 17 → W p l e r_X12_positionCount s m args below meth c H locs 0 0 (MQ below (va_Qi (fun r S9 => wX D S0 S9 ∧ post r S9) (wB D cy X A) A) args s 0 0 A) (F0 m 0 ls []) := by
  obtain ⟨hx, hb, hml, hown, hts⟩ := id F
  have hwg : ∀ w ∈ WG, w.before args s = true := fun w h => hts w (List.mem_cons_of_mem _ h)
  intro S H locs ls a0 x1 hp hW hE hl hL_a0 hK_a0
  unfold wp_X12_positionCount_0 at hp
  refine lv_aload_n hx hb dX12_positionCount_0 rfl (lv_at hl 0 rfl) ?_
  refine lv_iload_n hx hb dX12_positionCount_1 rfl (lv_at hl 1 rfl) ?_
  refine w_callI (va_runS (As := [.int x1]) (rest := [.ref a0]) F (c_X12_isShelf l hp H.size) (va_cwS 1 hts (wg_S wm_RX12_397 wy_X12_isShelf) rfl rfl rfl (by decide +kernel) ⟨Nat.le_of_ble_eq_true rfl, Nat.le_of_ble_eq_true rfl⟩) (w_preS hK hW) rfl rfl hl.1 rfl (lv_room (Nat.le_of_ble_eq_true rfl)) dX12_positionCount_2 ⟨Nat.le_of_ble_eq_true rfl, Nat.le_of_ble_eq_true rfl⟩) hW (fun r_1 S_2 H locs hp hW => ?_)
  obtain ⟨hX_S_2, hp⟩ := hp
  refine W.widen (k := 0) (n := 0) (by decide) (by decide) ?_
  have hE := hE.trans hX_S_2
  have hK_a0 : sK S_2 a0 = 17 := (hX_S_2.2 a0 hL_a0).1.trans hK_a0
  have hL_a0 : wM D S_2 a0 := hX_S_2.M hL_a0
  refine lv_iconst (v := 1) hx hb dX12_positionCount_5 (by decide) ?_
  refine w_callI (va_runV (As := [.int r_1, .int (1 : Int32)]) (rest := []) F (c_X12_can l hL_a0 hK_a0 hp H.size) (cwV (C := RX12) 2 hts (wg_V wm_RX12_237 wy_X12_can) rfl rfl rfl (by decide +kernel) ⟨Nat.le_of_ble_eq_true rfl, Nat.le_of_ble_eq_true rfl⟩) (w_preV hK hW hL_a0 hK_a0 (by decide) rfl) rfl rfl hl.1 rfl (lv_room (Nat.le_of_ble_eq_true rfl)) dX12_positionCount_6 ⟨Nat.le_of_ble_eq_true rfl, Nat.le_of_ble_eq_true rfl⟩) hW (fun r_3 S_4 H locs hp hW => ?_)
  obtain ⟨hX_S_4, hp⟩ := hp
  refine W.widen (k := 0) (n := 0) (by decide) (by decide) ?_
  have hE := hE.trans hX_S_4
  have hK_a0 : sK S_4 a0 = 17 := (hX_S_4.2 a0 hL_a0).1.trans hK_a0
  have hL_a0 : wM D S_4 a0 := hX_S_4.M hL_a0
  refine lv_if_eq (tgt := 21) hx hb dX12_positionCount_9 (by decide) (fun c_5 => ?_) (fun c_5 => ?_)
  · replace hp := hp.1 c_5
    refine lv_iconst (v := 0) hx hb dX12_positionCount_21 (by decide) ?_
    exact t_X12_positionCount_22 F hr hlocks hK hp hW hE (lv_sub hl [] rfl)
  · replace hp := hp.2 c_5
    refine lv_aload_n hx hb dX12_positionCount_12 rfl (lv_at hl 0 rfl) ?_
    refine lv_iload_n hx hb dX12_positionCount_13 rfl (lv_at hl 1 rfl) ?_
    refine lv_iconst (v := 0) hx hb dX12_positionCount_14 (by decide) ?_
    refine w_callI (va_runV (As := [.int x1, .int (0 : Int32)]) (rest := []) F (c_X12_positions l hL_a0 hK_a0 hp H.size) (cwV (C := RX12) 2 hts (wg_V wm_RX12_420 wy_X12_positions) rfl rfl rfl (by decide +kernel) ⟨Nat.le_of_ble_eq_true rfl, Nat.le_of_ble_eq_true rfl⟩) (w_preV hK hW hL_a0 hK_a0 (by decide) rfl) rfl rfl hl.1 rfl (lv_room (Nat.le_of_ble_eq_true rfl)) dX12_positionCount_15 ⟨Nat.le_of_ble_eq_true rfl, Nat.le_of_ble_eq_true rfl⟩) hW (fun r_6 S_7 H locs hp hW => ?_)
    obtain ⟨hX_S_7, hp⟩ := hp
    refine W.widen (k := 0) (n := 0) (by decide) (by decide) ?_
    have hE := hE.trans hX_S_7
    have hK_a0 : sK S_7 a0 = 17 := (hX_S_7.2 a0 hL_a0).1.trans hK_a0
    have hL_a0 : wM D S_7 a0 := hX_S_7.M hL_a0
    refine lv_goto (tgt := 22) hx hb dX12_positionCount_18 (by decide) ?_
    exact t_X12_positionCount_22 F hr hlocks hK hp hW hE (lv_sub hl [] rfl)
set_option maxHeartbeats 4000000 in
set_option maxRecDepth 100000 in
theorem c_X12_positionCount (l : Launch) {D : wD} {cy : Nat → ClassId} {X : va_W} {S0 : wS} {post : Int32 → wS → Prop} {a0 : Nat} {x1 : Int32} (hL_a0 : wM D S0 a0) (hK_a0 : sK S0 a0 = 17) (hp : wp_X12_positionCount D post S0 a0 x1) : mI D cy X l yX12_positionCount wz_X12_positionCount r_X12_positionCount [.ref a0, .int x1] S0 (fun r S9 => wX D S0 S9 ∧ post r S9) := by
  intro sz
  refine Met.ofW (cc := cX12_positionCount) (maxL := 2) (ret := (some .int)) (by decide) rfl ?_
  intro p e s m args below meth c s₁ B hml hv
  obtain ⟨rfl, hsz, hP, hK, hD0, hRO⟩ := hv
  have hts := atoms_spec (ws := wz_X12_positionCount) B.pre
  have hown : s.vm.findClass RX12 = some m.cls := findClass_of_methodNamed B.named
  subst hsz
  have hD := hD0.self (sz := s.heap.size)
  have F : CallFix p m c cX12_positionCount 2 s _ wz_X12_positionCount RX12 := ⟨B.exec, B.bytes, hml, hown, hts⟩
  have hr := B.returns
  have hlocks := B.notSynchronized
  generalize hAe : va_A (wL cy X S0) s.heap.size = A at hD hK ⊢
  have hA : ∀ q, s.heap.size ≤ q → A q := fun q h => by rw [← hAe]; exact Or.inr h
  have hW : wO D cy X A s.heap S0 s.heap [] := ⟨hP, hD, va_S.rf, hA, hRO⟩
  have hl := lv_entry ([.ref a0, .int x1]) (n := 2) (Nat.le_of_ble_eq_true rfl)
  rw [lg_entry_eq]
  generalize (lg_sl ([.ref a0, .int x1]) ++ List.replicate (2 - (lg_sl ([.ref a0, .int x1])).length) Slot.unset).toArray = ls at hl ⊢
  have hl : lv_has ls 2 [(0, .ref a0), (1, .int x1)] := hl
  unfold wp_X12_positionCount at hp
  exact t_X12_positionCount_0 F hr hlocks hK hp hW wX.rf (lv_sub hl [0, 1] rfl) hL_a0 hK_a0
def wp_X12_put_48 (D : wD) (post : Int32 → wS → Prop)  (S : wS) : Prop :=
post (0 : Int32) S
def wp_X12_put_41 (D : wD) (post : Int32 → wS → Prop)  (S : wS) (a0 : Nat) (x1 : Int32) (x2 : Int32) (b0 : Nat) (t1 : Int32) : Prop :=
wp_X12_can D (fun r_1 S_2 => 
((¬ r_1 = 0 → ∃ y_4 : Nat, sR S_2 a0 8 = some y_4 ∧ wM D S_2 y_4 ∧ sK S_2 y_4 = 21 ∧
vp_in x1 (sN S_2 y_4) ∧
∀ x_6 : Int32, x_6 = (sI S_2 y_4 (x1).toNatClampNeg) →
∃ y_7 : Nat, sR S_2 a0 8 = some y_7 ∧ wM D S_2 y_7 ∧ sK S_2 y_7 = 21 ∧
y_7 ∈ sL S_2 ∧ vp_in x1 (sN S_2 y_7) ∧
∀ S_9 : wS, S_9 = uI S_2 y_7 (x1).toNatClampNeg x2 →
∃ y_10 : Nat, sR S_9 a0 8 = some y_10 ∧ wM D S_9 y_10 ∧ sK S_9 y_10 = 21 ∧
y_10 ∈ sL S_9 ∧ vp_in (65 : Int32) (sN S_9 y_10) ∧
∀ S_12 : wS, S_12 = uI S_9 y_10 ((65 : Int32)).toNatClampNeg (0 : Int32) →
∃ y_13 : Nat, sR S_12 a0 8 = some y_13 ∧ wM D S_12 y_13 ∧ sK S_12 y_13 = 21 ∧
y_13 ∈ sL S_12 ∧ vp_in (66 : Int32) (sN S_12 y_13) ∧
∀ S_15 : wS, S_15 = uI S_12 y_13 ((66 : Int32)).toNatClampNeg (-1 : Int32) →
post x_6 S_15) ∧
 (r_1 = 0 → wp_X12_put_48 D post S_2))) S b0 t1 (3 : Int32)
def wp_X12_put_0 (D : wD) (post : Int32 → wS → Prop)  (S : wS) (a0 : Nat) (x1 : Int32) (x2 : Int32) : Prop :=
wp_X12_isSquare D (fun r_1 S_2 => 
wp_X12_can D (fun r_3 S_4 => 
((r_3 = 0 → wp_X12_put_48 D post S_4) ∧
 (¬ r_3 = 0 → wp_X12_in D (fun r_6 S_7 => 
wp_X12_can D (fun r_8 S_9 => 
((r_8 = 0 → wp_X12_put_48 D post S_9) ∧
 (¬ r_8 = 0 → ((¬ (sI S_9 a0 11) = 0 → wp_X12_put_41 D post S_9 a0 x1 x2 a0 (0 : Int32)) ∧
 ((sI S_9 a0 11) = 0 → wp_X12_put_41 D post S_9 a0 x1 x2 a0 (1 : Int32)))))) S_7 a0 r_6 (2 : Int32)) S_4 x2 (0 : Int32) (12 : Int32)))) S_2 a0 r_1 (1 : Int32)) S a0 x1
abbrev r_X12_put : Room := { frames := 2, cells := 0, slots := 0, locals := 43 }
def wp_X12_put (D : wD) (post : Int32 → wS → Prop) (S : wS) (a0 : Nat) (x1 : Int32) (x2 : Int32) : Prop := wp_X12_put_0 D post S a0 x1 x2
set_option maxHeartbeats 4000000 in
set_option maxRecDepth 100000 in
theorem t_X12_put_48 {p : Program} {l : Launch} {e : Env} {s : State} {m : MethodId} {args : Array Value} {below : List Frame} {meth : Method} {c : Code} {D : wD} {cy : Nat → ClassId} {X : va_W} {A : Nat → Prop} {S0 : wS} {post : Int32 → wS → Prop} (F : CallFix p m c cX12_put 4 s args wz_X12_put RX12) (hr : meth.sig.returnType = (some .int)) (hlocks : meth.locks = false) (hK : wK D cy A s) : ∀ {S : wS} {H : Heap} {locs : List Loc} {ls : Array Slot}, wp_X12_put_48 D post S → wO D cy X A s.heap S H locs → wX D S0 S → lv_has ls 4 [] → W p l e r_X12_put s m args below meth c H locs 0 0 (MQ below (va_Qi (fun r S9 => wX D S0 S9 ∧ post r S9) (wB D cy X A) A) args s 0 0 A) (F0 m 48 ls []) := by
  obtain ⟨hx, hb, hml, hown, hts⟩ := id F
  have hwg : ∀ w ∈ WG, w.before args s = true := fun w h => hts w (List.mem_cons_of_mem _ h)
  intro S H locs ls hp hW hE hl
  unfold wp_X12_put_48 at hp
  refine lv_iconst (v := 0) hx hb dX12_put_48 (by decide) ?_
  exact w_iret hx hb hr hlocks hW ⟨hE, hp⟩ dX12_put_49
set_option maxHeartbeats 4000000 in
set_option maxRecDepth 100000 in
theorem t_X12_put_41 {p : Program} {l : Launch} {e : Env} {s : State} {m : MethodId} {args : Array Value} {below : List Frame} {meth : Method} {c : Code} {D : wD} {cy : Nat → ClassId} {X : va_W} {A : Nat → Prop} {S0 : wS} {post : Int32 → wS → Prop} (F : CallFix p m c cX12_put 4 s args wz_X12_put RX12) (hr : meth.sig.returnType = (some .int)) (hlocks : meth.locks = false) (hK : wK D cy A s) : ∀ {S : wS} {H : Heap} {locs : List Loc} {ls : Array Slot} {a0 : Nat} {x1 : Int32} {x2 : Int32} {b0 : Nat} {t1 : Int32}, wp_X12_put_41 D post S a0 x1 x2 b0 t1 → wO D cy X A s.heap S H locs → wX D S0 S → lv_has ls 4 [(0, .ref a0), (1, .int x1), (2, .int x2)] → wM D S a0 → sK S a0 = 17 → wM D S b0 → sK S b0 = 17 → W p l e r_X12_put s m args below meth c H locs 0 0 (MQ below (va_Qi (fun r S9 => wX D S0 S9 ∧ post r S9) (wB D cy X A) A) args s 0 0 A) (F0 m 41 ls [.int t1, .ref b0]) := by
  obtain ⟨hx, hb, hml, hown, hts⟩ := id F
  have hwg : ∀ w ∈ WG, w.before args s = true := fun w h => hts w (List.mem_cons_of_mem _ h)
  have i_17 : ∀ w ∈ u_ws RX12 TX12 43, w ∈ wz_X12_put := fun w h => List.mem_cons_of_mem _ (wu_17 w h)
  have k_32 := hwg _ wf_RX12_32
  intro S H locs ls a0 x1 x2 b0 t1 hp hW hE hl hL_a0 hK_a0 hL_b0 hK_b0
  unfold wp_X12_put_41 at hp
  refine lv_iconst (v := 3) hx hb dX12_put_41 (by decide) ?_
  refine w_callI (va_runV (As := [.int t1, .int (3 : Int32)]) (rest := []) F (c_X12_can l hL_b0 hK_b0 hp H.size) (cwV (C := RX12) 2 hts (wg_V wm_RX12_237 wy_X12_can) rfl rfl rfl (by decide +kernel) ⟨Nat.le_of_ble_eq_true rfl, Nat.le_of_ble_eq_true rfl⟩) (w_preV hK hW hL_b0 hK_b0 (by decide) rfl) rfl rfl hl.1 rfl (lv_room (Nat.le_of_ble_eq_true rfl)) dX12_put_42 ⟨Nat.le_of_ble_eq_true rfl, Nat.le_of_ble_eq_true rfl⟩) hW (fun r_1 S_2 H locs hp hW => ?_)
  obtain ⟨hX_S_2, hp⟩ := hp
  refine W.widen (k := 0) (n := 0) (by decide) (by decide) ?_
  have hE := hE.trans hX_S_2
  have hK_a0 : sK S_2 a0 = 17 := (hX_S_2.2 a0 hL_a0).1.trans hK_a0
  have hL_a0 : wM D S_2 a0 := hX_S_2.M hL_a0
  refine lv_if_ne (tgt := 50) hx hb dX12_put_45 (by decide) (fun c_3 => ?_) (fun c_3 => ?_)
  · replace hp := hp.1 c_3
    refine lv_aload_n hx hb dX12_put_50 rfl (lv_at hl 0 rfl) ?_
    obtain ⟨y_4, ey_4, hL_y_4, hK_y_4, hp⟩ := hp
    refine w_get (k := 17) (f := 8) (T := TX12) (v := .ref y_4) F hK hW hL_a0 hK_a0 (by decide) rfl rfl (by decide) i_17 k_32 (by rw [show wv 17 8 S_2 a0 = va_rf (sR S_2 a0 8) from rfl, ey_4]; rfl) dX12_put_51 ?_
    refine lv_iload_n hx hb dX12_put_54 rfl (lv_at hl 1 rfl) ?_
    obtain ⟨h_5, hp⟩ := hp
    refine w_ild F hK hW hL_y_4 hK_y_4 h_5 dX12_put_55 ?_
    refine lv_topi (fun x_6 ex_6 => ?_)
    replace hp := hp x_6 ex_6
    refine lv_istore_n (lv' := [(3, .int x_6), (0, .ref a0), (1, .int x1), (2, .int x2)]) hx hb dX12_put_56 rfl hl (by decide) rfl (fun ls hl => ?_)
    refine lv_aload_n hx hb dX12_put_57 rfl (lv_at hl 1 rfl) ?_
    obtain ⟨y_7, ey_7, hL_y_7, hK_y_7, hp⟩ := hp
    refine w_get (k := 17) (f := 8) (T := TX12) (v := .ref y_7) F hK hW hL_a0 hK_a0 (by decide) rfl rfl (by decide) i_17 k_32 (by rw [show wv 17 8 S_2 a0 = va_rf (sR S_2 a0 8) from rfl, ey_7]; rfl) dX12_put_58 ?_
    refine lv_iload_n hx hb dX12_put_61 rfl (lv_at hl 2 rfl) ?_
    refine lv_iload_n hx hb dX12_put_62 rfl (lv_at hl 3 rfl) ?_
    obtain ⟨h_8m, h_8, hp⟩ := hp
    refine w_ist F hK hW h_8m hK_y_7 h_8 dX12_put_63 (fun H locs hW => ?_)
    obtain ⟨S_9, eS_9⟩ : ∃ z : wS, z = uI S_2 y_7 (x1).toNatClampNeg x2 := ⟨_, rfl⟩
    rw [← eS_9] at hW
    replace hp := hp S_9 eS_9
    have hX_S_9 : wX D S_2 S_9 := by rw [eS_9]; exact wX_uI
    have hE := hE.trans hX_S_9
    have hK_a0 : sK S_9 a0 = 17 := (hX_S_9.2 a0 hL_a0).1.trans hK_a0
    have hL_a0 : wM D S_9 a0 := hX_S_9.M hL_a0
    refine lv_aload_n hx hb dX12_put_64 rfl (lv_at hl 1 rfl) ?_
    obtain ⟨y_10, ey_10, hL_y_10, hK_y_10, hp⟩ := hp
    refine w_get (k := 17) (f := 8) (T := TX12) (v := .ref y_10) F hK hW hL_a0 hK_a0 (by decide) rfl rfl (by decide) i_17 k_32 (by rw [show wv 17 8 S_9 a0 = va_rf (sR S_9 a0 8) from rfl, ey_10]; rfl) dX12_put_65 ?_
    refine lv_bipush (v := 65) hx hb dX12_put_68 (by decide) ?_
    refine lv_iconst (v := 0) hx hb dX12_put_70 (by decide) ?_
    obtain ⟨h_11m, h_11, hp⟩ := hp
    refine w_ist F hK hW h_11m hK_y_10 h_11 dX12_put_71 (fun H locs hW => ?_)
    obtain ⟨S_12, eS_12⟩ : ∃ z : wS, z = uI S_9 y_10 ((65 : Int32)).toNatClampNeg (0 : Int32) := ⟨_, rfl⟩
    rw [← eS_12] at hW
    replace hp := hp S_12 eS_12
    have hX_S_12 : wX D S_9 S_12 := by rw [eS_12]; exact wX_uI
    have hE := hE.trans hX_S_12
    have hK_a0 : sK S_12 a0 = 17 := (hX_S_12.2 a0 hL_a0).1.trans hK_a0
    have hL_a0 : wM D S_12 a0 := hX_S_12.M hL_a0
    refine lv_aload_n hx hb dX12_put_72 rfl (lv_at hl 1 rfl) ?_
    obtain ⟨y_13, ey_13, hL_y_13, hK_y_13, hp⟩ := hp
    refine w_get (k := 17) (f := 8) (T := TX12) (v := .ref y_13) F hK hW hL_a0 hK_a0 (by decide) rfl rfl (by decide) i_17 k_32 (by rw [show wv 17 8 S_12 a0 = va_rf (sR S_12 a0 8) from rfl, ey_13]; rfl) dX12_put_73 ?_
    refine lv_bipush (v := 66) hx hb dX12_put_76 (by decide) ?_
    refine lv_iconst (v := (-1)) hx hb dX12_put_78 (by decide) ?_
    obtain ⟨h_14m, h_14, hp⟩ := hp
    refine w_ist F hK hW h_14m hK_y_13 h_14 dX12_put_79 (fun H locs hW => ?_)
    obtain ⟨S_15, eS_15⟩ : ∃ z : wS, z = uI S_12 y_13 ((66 : Int32)).toNatClampNeg (-1 : Int32) := ⟨_, rfl⟩
    rw [← eS_15] at hW
    replace hp := hp S_15 eS_15
    have hX_S_15 : wX D S_12 S_15 := by rw [eS_15]; exact wX_uI
    have hE := hE.trans hX_S_15
    have hK_a0 : sK S_15 a0 = 17 := (hX_S_15.2 a0 hL_a0).1.trans hK_a0
    have hL_a0 : wM D S_15 a0 := hX_S_15.M hL_a0
    refine lv_iload_n hx hb dX12_put_80 rfl (lv_at hl 0 rfl) ?_
    exact w_iret hx hb hr hlocks hW ⟨hE, hp⟩ dX12_put_81
  · replace hp := hp.2 c_3
    exact t_X12_put_48 F hr hlocks hK hp hW hE (lv_sub hl [] rfl)
set_option maxHeartbeats 4000000 in
set_option maxRecDepth 100000 in
theorem t_X12_put_0 {p : Program} {l : Launch} {e : Env} {s : State} {m : MethodId} {args : Array Value} {below : List Frame} {meth : Method} {c : Code} {D : wD} {cy : Nat → ClassId} {X : va_W} {A : Nat → Prop} {S0 : wS} {post : Int32 → wS → Prop} (F : CallFix p m c cX12_put 4 s args wz_X12_put RX12) (hr : meth.sig.returnType = (some .int)) (hlocks : meth.locks = false) (hK : wK D cy A s) : ∀ {S : wS} {H : Heap} {locs : List Loc} {ls : Array Slot} {a0 : Nat} {x1 : Int32} {x2 : Int32}, wp_X12_put_0 D post S a0 x1 x2 → wO D cy X A s.heap S H locs → wX D S0 S → lv_has ls 4 [(0, .ref a0), (1, .int x1), (2, .int x2)] → wM D S a0 → sK S a0 = 17 → W p l e r_X12_put s m args below meth c H locs 0 0 (MQ below (va_Qi (fun r S9 => wX D S0 S9 ∧ post r S9) (wB D cy X A) A) args s 0 0 A) (F0 m 0 ls []) := by
  obtain ⟨hx, hb, hml, hown, hts⟩ := id F
  have hwg : ∀ w ∈ WG, w.before args s = true := fun w h => hts w (List.mem_cons_of_mem _ h)
  have i_17 : ∀ w ∈ u_ws RX12 TX12 43, w ∈ wz_X12_put := fun w h => List.mem_cons_of_mem _ (wu_17 w h)
  have k_121 := hwg _ wf_RX12_121
  intro S H locs ls a0 x1 x2 hp hW hE hl hL_a0 hK_a0
  unfold wp_X12_put_0 at hp
  refine lv_aload_n hx hb dX12_put_0 rfl (lv_at hl 0 rfl) ?_
  refine lv_aload_n hx hb dX12_put_1 rfl (lv_at hl 0 rfl) ?_
  refine lv_iload_n hx hb dX12_put_2 rfl (lv_at hl 1 rfl) ?_
  refine w_callI (va_runV (As := [.int x1]) (rest := [.ref a0]) F (c_X12_isSquare l hL_a0 hK_a0 hp H.size) (cwV (C := RX12) 1 hts (wg_V wm_RX12_241 wy_X12_isSquare) rfl rfl rfl (by decide +kernel) ⟨Nat.le_of_ble_eq_true rfl, Nat.le_of_ble_eq_true rfl⟩) (w_preV hK hW hL_a0 hK_a0 (by decide) rfl) rfl rfl hl.1 rfl (lv_room (Nat.le_of_ble_eq_true rfl)) dX12_put_3 ⟨Nat.le_of_ble_eq_true rfl, Nat.le_of_ble_eq_true rfl⟩) hW (fun r_1 S_2 H locs hp hW => ?_)
  obtain ⟨hX_S_2, hp⟩ := hp
  refine W.widen (k := 0) (n := 0) (by decide) (by decide) ?_
  have hE := hE.trans hX_S_2
  have hK_a0 : sK S_2 a0 = 17 := (hX_S_2.2 a0 hL_a0).1.trans hK_a0
  have hL_a0 : wM D S_2 a0 := hX_S_2.M hL_a0
  refine lv_iconst (v := 1) hx hb dX12_put_6 (by decide) ?_
  refine w_callI (va_runV (As := [.int r_1, .int (1 : Int32)]) (rest := []) F (c_X12_can l hL_a0 hK_a0 hp H.size) (cwV (C := RX12) 2 hts (wg_V wm_RX12_237 wy_X12_can) rfl rfl rfl (by decide +kernel) ⟨Nat.le_of_ble_eq_true rfl, Nat.le_of_ble_eq_true rfl⟩) (w_preV hK hW hL_a0 hK_a0 (by decide) rfl) rfl rfl hl.1 rfl (lv_room (Nat.le_of_ble_eq_true rfl)) dX12_put_7 ⟨Nat.le_of_ble_eq_true rfl, Nat.le_of_ble_eq_true rfl⟩) hW (fun r_3 S_4 H locs hp hW => ?_)
  obtain ⟨hX_S_4, hp⟩ := hp
  refine W.widen (k := 0) (n := 0) (by decide) (by decide) ?_
  have hE := hE.trans hX_S_4
  have hK_a0 : sK S_4 a0 = 17 := (hX_S_4.2 a0 hL_a0).1.trans hK_a0
  have hL_a0 : wM D S_4 a0 := hX_S_4.M hL_a0
  refine lv_if_eq (tgt := 48) hx hb dX12_put_10 (by decide) (fun c_5 => ?_) (fun c_5 => ?_)
  · replace hp := hp.1 c_5
    exact t_X12_put_48 F hr hlocks hK hp hW hE (lv_sub hl [] rfl)
  · replace hp := hp.2 c_5
    refine lv_aload_n hx hb dX12_put_13 rfl (lv_at hl 0 rfl) ?_
    refine lv_iload_n hx hb dX12_put_14 rfl (lv_at hl 2 rfl) ?_
    refine lv_iconst (v := 0) hx hb dX12_put_15 (by decide) ?_
    refine lv_bipush (v := 12) hx hb dX12_put_16 (by decide) ?_
    refine w_callI (va_runS (As := [.int x2, .int (0 : Int32), .int (12 : Int32)]) (rest := [.ref a0]) F (c_X12_in l hp H.size) (va_cwS 3 hts (wg_S wm_RX12_117 wy_X12_in) rfl rfl rfl (by decide +kernel) ⟨Nat.le_of_ble_eq_true rfl, Nat.le_of_ble_eq_true rfl⟩) (w_preS hK hW) rfl rfl hl.1 rfl (lv_room (Nat.le_of_ble_eq_true rfl)) dX12_put_18 ⟨Nat.le_of_ble_eq_true rfl, Nat.le_of_ble_eq_true rfl⟩) hW (fun r_6 S_7 H locs hp hW => ?_)
    obtain ⟨hX_S_7, hp⟩ := hp
    refine W.widen (k := 0) (n := 0) (by decide) (by decide) ?_
    have hE := hE.trans hX_S_7
    have hK_a0 : sK S_7 a0 = 17 := (hX_S_7.2 a0 hL_a0).1.trans hK_a0
    have hL_a0 : wM D S_7 a0 := hX_S_7.M hL_a0
    refine lv_iconst (v := 2) hx hb dX12_put_21 (by decide) ?_
    refine w_callI (va_runV (As := [.int r_6, .int (2 : Int32)]) (rest := []) F (c_X12_can l hL_a0 hK_a0 hp H.size) (cwV (C := RX12) 2 hts (wg_V wm_RX12_237 wy_X12_can) rfl rfl rfl (by decide +kernel) ⟨Nat.le_of_ble_eq_true rfl, Nat.le_of_ble_eq_true rfl⟩) (w_preV hK hW hL_a0 hK_a0 (by decide) rfl) rfl rfl hl.1 rfl (lv_room (Nat.le_of_ble_eq_true rfl)) dX12_put_22 ⟨Nat.le_of_ble_eq_true rfl, Nat.le_of_ble_eq_true rfl⟩) hW (fun r_8 S_9 H locs hp hW => ?_)
    obtain ⟨hX_S_9, hp⟩ := hp
    refine W.widen (k := 0) (n := 0) (by decide) (by decide) ?_
    have hE := hE.trans hX_S_9
    have hK_a0 : sK S_9 a0 = 17 := (hX_S_9.2 a0 hL_a0).1.trans hK_a0
    have hL_a0 : wM D S_9 a0 := hX_S_9.M hL_a0
    refine lv_if_eq (tgt := 48) hx hb dX12_put_25 (by decide) (fun c_10 => ?_) (fun c_10 => ?_)
    · replace hp := hp.1 c_10
      exact t_X12_put_48 F hr hlocks hK hp hW hE (lv_sub hl [] rfl)
    · replace hp := hp.2 c_10
      refine lv_aload_n hx hb dX12_put_28 rfl (lv_at hl 0 rfl) ?_
      refine lv_aload_n hx hb dX12_put_29 rfl (lv_at hl 0 rfl) ?_
      refine w_get (k := 17) (f := 11) (T := TX12) (v := .int (sI S_9 a0 11)) F hK hW hL_a0 hK_a0 (by decide) rfl rfl (by decide) i_17 k_121 rfl dX12_put_30 ?_
      refine lv_if_ne (tgt := 40) hx hb dX12_put_33 (by decide) (fun c_11 => ?_) (fun c_11 => ?_)
      · replace hp := hp.1 c_11
        refine lv_iconst (v := 0) hx hb dX12_put_40 (by decide) ?_
        exact t_X12_put_41 F hr hlocks hK hp hW hE (lv_sub hl [0, 1, 2] rfl) hL_a0 hK_a0 hL_a0 hK_a0
      · replace hp := hp.2 c_11
        refine lv_iconst (v := 1) hx hb dX12_put_36 (by decide) ?_
        refine lv_goto (tgt := 41) hx hb dX12_put_37 (by decide) ?_
        exact t_X12_put_41 F hr hlocks hK hp hW hE (lv_sub hl [0, 1, 2] rfl) hL_a0 hK_a0 hL_a0 hK_a0
set_option maxHeartbeats 4000000 in
set_option maxRecDepth 100000 in
theorem c_X12_put (l : Launch) {D : wD} {cy : Nat → ClassId} {X : va_W} {S0 : wS} {post : Int32 → wS → Prop} {a0 : Nat} {x1 : Int32} {x2 : Int32} (hL_a0 : wM D S0 a0) (hK_a0 : sK S0 a0 = 17) (hp : wp_X12_put D post S0 a0 x1 x2) : mI D cy X l yX12_put wz_X12_put r_X12_put [.ref a0, .int x1, .int x2] S0 (fun r S9 => wX D S0 S9 ∧ post r S9) := by
  intro sz
  refine Met.ofW (cc := cX12_put) (maxL := 4) (ret := (some .int)) (by decide) rfl ?_
  intro p e s m args below meth c s₁ B hml hv
  obtain ⟨rfl, hsz, hP, hK, hD0, hRO⟩ := hv
  have hts := atoms_spec (ws := wz_X12_put) B.pre
  have hown : s.vm.findClass RX12 = some m.cls := findClass_of_methodNamed B.named
  subst hsz
  have hD := hD0.self (sz := s.heap.size)
  have F : CallFix p m c cX12_put 4 s _ wz_X12_put RX12 := ⟨B.exec, B.bytes, hml, hown, hts⟩
  have hr := B.returns
  have hlocks := B.notSynchronized
  generalize hAe : va_A (wL cy X S0) s.heap.size = A at hD hK ⊢
  have hA : ∀ q, s.heap.size ≤ q → A q := fun q h => by rw [← hAe]; exact Or.inr h
  have hW : wO D cy X A s.heap S0 s.heap [] := ⟨hP, hD, va_S.rf, hA, hRO⟩
  have hl := lv_entry ([.ref a0, .int x1, .int x2]) (n := 4) (Nat.le_of_ble_eq_true rfl)
  rw [lg_entry_eq]
  generalize (lg_sl ([.ref a0, .int x1, .int x2]) ++ List.replicate (4 - (lg_sl ([.ref a0, .int x1, .int x2])).length) Slot.unset).toArray = ls at hl ⊢
  have hl : lv_has ls 4 [(0, .ref a0), (1, .int x1), (2, .int x2)] := hl
  unfold wp_X12_put at hp
  exact t_X12_put_0 F hr hlocks hK hp hW wX.rf (lv_sub hl [0, 1, 2] rfl) hL_a0 hK_a0
def wp_X12_readMoves_71 (D : wD) (post : Int32 → wS → Prop)  : Nat → wS → Nat → Int32 → Int32 → Prop
  | 0, _, _, _, _ => False
  | n + 1, S, a0, x2, x3 =>
    ((x2 ≤ x3 → post x2 S) ∧
     (¬ x2 ≤ x3 → wp_X12_moves D (fun S_3 => 
    ∃ y_4 : Nat, sR S_3 a0 23 = some y_4 ∧ wM D S_3 y_4 ∧ sK S_3 y_4 = 21 ∧
    vp_in x3 (sN S_3 y_4) ∧
    wp_X12_plays D (fun S_7 => 
    ∀ x_8 : Int32, x_8 = x3 + 1 →
    wp_X12_readMoves_71 D post n S_7 a0 x2 x_8) S_3 a0 (sI S_3 y_4 (x3).toNatClampNeg)) S a0 (0 : Int32)))
def wp_X12_readMoves_48 (D : wD) (post : Int32 → wS → Prop)  (S : wS) : Prop :=
post (0 : Int32) S
def wp_X12_readMoves_41 (D : wD) (post : Int32 → wS → Prop)  (S : wS) (a0 : Nat) (b0 : Nat) (t1 : Int32) : Prop :=
wp_X12_can D (fun r_1 S_2 => 
((¬ r_1 = 0 → ∀ S_4 : wS, S_4 = uI S_2 a0 16 (sI S_2 a0 26) →
∃ y_5 : Nat, sR S_4 a0 22 = some y_5 ∧ wM D S_4 y_5 ∧ sK S_4 y_5 = 21 ∧
vp_in (0 : Int32) (sN S_4 y_5) ∧
∀ x_7 : Int32, x_7 = (sI S_4 y_5 ((0 : Int32)).toNatClampNeg) →
wp_X12_loads D (fun S_9 => 
∃ n_10 : Nat, wp_X12_readMoves_71 D post n_10 S_9 a0 x_7 (0 : Int32)) S_4 a0) ∧
 (r_1 = 0 → wp_X12_readMoves_48 D post S_2))) S b0 t1 (2 : Int32)
def wp_X12_readMoves_13 (D : wD) (post : Int32 → wS → Prop)  (S : wS) (a0 : Nat) (x1 : Int32) : Prop :=
∀ S_1 : wS, S_1 = uI S a0 13 (0 : Int32) →
wp_X12_can D (fun r_2 S_3 => 
((r_2 = 0 → wp_X12_readMoves_48 D post S_3) ∧
 (¬ r_2 = 0 → ((¬ (sI S_3 a0 25) = (-1 : Int32) → wp_X12_readMoves_41 D post S_3 a0 a0 (0 : Int32)) ∧
 ((sI S_3 a0 25) = (-1 : Int32) → wp_X12_readMoves_41 D post S_3 a0 a0 (1 : Int32)))))) S_1 a0 x1 (1 : Int32)
def wp_X12_readMoves_0 (D : wD) (post : Int32 → wS → Prop)  (S : wS) (a0 : Nat) : Prop :=
wp_X12_isAskable D (fun r_1 S_2 => 
((r_1 = 0 → wp_X12_readMoves_13 D post S_2 a0 r_1) ∧
 (¬ r_1 = 0 → wp_X12_reads D (fun S_5 => 
wp_X12_readMoves_13 D post S_5 a0 r_1) S_2 a0))) S a0
abbrev r_X12_readMoves : Room := { frames := 14, cells := 0, slots := 0, locals := 333 }
def wp_X12_readMoves (D : wD) (post : Int32 → wS → Prop) (S : wS) (a0 : Nat) : Prop := wp_X12_readMoves_0 D post S a0
set_option maxHeartbeats 4000000 in
set_option maxRecDepth 100000 in
theorem t_X12_readMoves_71 {p : Program} {l : Launch} {e : Env} {s : State} {m : MethodId} {args : Array Value} {below : List Frame} {meth : Method} {c : Code} {D : wD} {cy : Nat → ClassId} {X : va_W} {A : Nat → Prop} {S0 : wS} {post : Int32 → wS → Prop} (F : CallFix p m c cX12_readMoves 4 s args wz_X12_readMoves RX12) (hr : meth.sig.returnType = (some .int)) (hlocks : meth.locks = false) (hK : wK D cy A s) : ∀ (n : Nat) {S : wS} {H : Heap} {locs : List Loc} {ls : Array Slot} {a0 : Nat} {x2 : Int32} {x3 : Int32}, wp_X12_readMoves_71 D post n S a0 x2 x3 → wO D cy X A s.heap S H locs → wX D S0 S → lv_has ls 4 [(0, .ref a0), (2, .int x2), (3, .int x3)] → wM D S a0 → sK S a0 = 17 → W p l e r_X12_readMoves s m args below meth c H locs 0 0 (MQ below (va_Qi (fun r S9 => wX D S0 S9 ∧ post r S9) (wB D cy X A) A) args s 0 0 A) (F0 m 71 ls []) := by
  obtain ⟨hx, hb, hml, hown, hts⟩ := id F
  have hwg : ∀ w ∈ WG, w.before args s = true := fun w h => hts w (List.mem_cons_of_mem _ h)
  have i_17 : ∀ w ∈ u_ws RX12 TX12 43, w ∈ wz_X12_readMoves := fun w h => List.mem_cons_of_mem _ (wu_17 w h)
  have k_66 := hwg _ wf_RX12_66
  intro n
  induction n with
  | zero =>
    intro S H locs ls a0 x2 x3 hp
    exact hp.elim
  | succ n ih =>
    intro S H locs ls a0 x2 x3 hp hW hE hl hL_a0 hK_a0
    unfold wp_X12_readMoves_71 at hp
    refine lv_iload_n hx hb dX12_readMoves_71 rfl (lv_at hl 2 rfl) ?_
    refine lv_iload_n hx hb dX12_readMoves_72 rfl (lv_at hl 1 rfl) ?_
    refine lv_icmp_ge (tgt := 97) hx hb dX12_readMoves_73 (by decide) (fun c_1 => ?_) (fun c_1 => ?_)
    · replace hp := hp.1 c_1
      refine lv_iload_n hx hb dX12_readMoves_97 rfl (lv_at hl 1 rfl) ?_
      exact w_iret hx hb hr hlocks hW ⟨hE, hp⟩ dX12_readMoves_98
    · replace hp := hp.2 c_1
      refine lv_aload_n hx hb dX12_readMoves_76 rfl (lv_at hl 0 rfl) ?_
      refine lv_iconst (v := 0) hx hb dX12_readMoves_77 (by decide) ?_
      refine w_callV (va_runV (As := [.int (0 : Int32)]) (rest := []) F (c_X12_moves l hL_a0 hK_a0 hp H.size) (cwV (C := RX12) 1 hts (wg_V wm_RX12_233 wy_X12_moves) rfl rfl rfl (by decide +kernel) ⟨Nat.le_of_ble_eq_true rfl, Nat.le_of_ble_eq_true rfl⟩) (w_preV hK hW hL_a0 hK_a0 (by decide) rfl) rfl rfl hl.1 rfl (lv_room (Nat.le_of_ble_eq_true rfl)) dX12_readMoves_78 ⟨Nat.le_of_ble_eq_true rfl, Nat.le_of_ble_eq_true rfl⟩) hW (fun S_3 H locs hp hW => ?_)
      obtain ⟨hX_S_3, hp⟩ := hp
      refine W.widen (k := 0) (n := 0) (by decide) (by decide) ?_
      have hE := hE.trans hX_S_3
      have hK_a0 : sK S_3 a0 = 17 := (hX_S_3.2 a0 hL_a0).1.trans hK_a0
      have hL_a0 : wM D S_3 a0 := hX_S_3.M hL_a0
      refine lv_aload_n hx hb dX12_readMoves_81 rfl (lv_at hl 0 rfl) ?_
      refine lv_aload_n hx hb dX12_readMoves_82 rfl (lv_at hl 0 rfl) ?_
      obtain ⟨y_4, ey_4, hL_y_4, hK_y_4, hp⟩ := hp
      refine w_get (k := 17) (f := 23) (T := TX12) (v := .ref y_4) F hK hW hL_a0 hK_a0 (by decide) rfl rfl (by decide) i_17 k_66 (by rw [show wv 17 23 S_3 a0 = va_rf (sR S_3 a0 23) from rfl, ey_4]; rfl) dX12_readMoves_83 ?_
      refine lv_iload_n hx hb dX12_readMoves_86 rfl (lv_at hl 2 rfl) ?_
      obtain ⟨h_5, hp⟩ := hp
      refine w_ild F hK hW hL_y_4 hK_y_4 h_5 dX12_readMoves_87 ?_
      refine w_callV (va_runV (As := [.int (sI S_3 y_4 (x3).toNatClampNeg)]) (rest := []) F (c_X12_plays l hL_a0 hK_a0 hp H.size) (cwV (C := RX12) 1 hts (wg_V wm_RX12_324 wy_X12_plays) rfl rfl rfl (by decide +kernel) ⟨Nat.le_of_ble_eq_true rfl, Nat.le_of_ble_eq_true rfl⟩) (w_preV hK hW hL_a0 hK_a0 (by decide) rfl) rfl rfl hl.1 rfl (lv_room (Nat.le_of_ble_eq_true rfl)) dX12_readMoves_88 ⟨Nat.le_of_ble_eq_true rfl, Nat.le_of_ble_eq_true rfl⟩) hW (fun S_7 H locs hp hW => ?_)
      obtain ⟨hX_S_7, hp⟩ := hp
      refine W.widen (k := 0) (n := 0) (by decide) (by decide) ?_
      have hE := hE.trans hX_S_7
      have hK_a0 : sK S_7 a0 = 17 := (hX_S_7.2 a0 hL_a0).1.trans hK_a0
      have hL_a0 : wM D S_7 a0 := hX_S_7.M hL_a0
      obtain ⟨x_8, ex_8⟩ : ∃ z : Int32, z = x3 + 1 := ⟨_, rfl⟩
      replace hp := hp x_8 ex_8
      refine lv_iinc (v := x_8) (lv' := [(3, .int x_8), (0, .ref a0), (2, .int x2)]) hx hb dX12_readMoves_91 hl (k := 2) rfl (by rw [ex_8]; rfl) (by decide) rfl (fun ls hl => ?_)
      refine lv_goto (tgt := 71) hx hb dX12_readMoves_94 (by decide) ?_
      exact ih hp hW hE (lv_sub hl [1, 2, 0] rfl) hL_a0 hK_a0
set_option maxHeartbeats 4000000 in
set_option maxRecDepth 100000 in
theorem t_X12_readMoves_48 {p : Program} {l : Launch} {e : Env} {s : State} {m : MethodId} {args : Array Value} {below : List Frame} {meth : Method} {c : Code} {D : wD} {cy : Nat → ClassId} {X : va_W} {A : Nat → Prop} {S0 : wS} {post : Int32 → wS → Prop} (F : CallFix p m c cX12_readMoves 4 s args wz_X12_readMoves RX12) (hr : meth.sig.returnType = (some .int)) (hlocks : meth.locks = false) (hK : wK D cy A s) : ∀ {S : wS} {H : Heap} {locs : List Loc} {ls : Array Slot}, wp_X12_readMoves_48 D post S → wO D cy X A s.heap S H locs → wX D S0 S → lv_has ls 4 [] → W p l e r_X12_readMoves s m args below meth c H locs 0 0 (MQ below (va_Qi (fun r S9 => wX D S0 S9 ∧ post r S9) (wB D cy X A) A) args s 0 0 A) (F0 m 48 ls []) := by
  obtain ⟨hx, hb, hml, hown, hts⟩ := id F
  have hwg : ∀ w ∈ WG, w.before args s = true := fun w h => hts w (List.mem_cons_of_mem _ h)
  intro S H locs ls hp hW hE hl
  unfold wp_X12_readMoves_48 at hp
  refine lv_iconst (v := 0) hx hb dX12_readMoves_48 (by decide) ?_
  exact w_iret hx hb hr hlocks hW ⟨hE, hp⟩ dX12_readMoves_49
set_option maxHeartbeats 4000000 in
set_option maxRecDepth 100000 in
theorem t_X12_readMoves_41 {p : Program} {l : Launch} {e : Env} {s : State} {m : MethodId} {args : Array Value} {below : List Frame} {meth : Method} {c : Code} {D : wD} {cy : Nat → ClassId} {X : va_W} {A : Nat → Prop} {S0 : wS} {post : Int32 → wS → Prop} (F : CallFix p m c cX12_readMoves 4 s args wz_X12_readMoves RX12) (hr : meth.sig.returnType = (some .int)) (hlocks : meth.locks = false) (hK : wK D cy A s) : ∀ {S : wS} {H : Heap} {locs : List Loc} {ls : Array Slot} {a0 : Nat} {b0 : Nat} {t1 : Int32}, wp_X12_readMoves_41 D post S a0 b0 t1 → wO D cy X A s.heap S H locs → wX D S0 S → lv_has ls 4 [(0, .ref a0)] → wM D S a0 → sK S a0 = 17 → wM D S b0 → sK S b0 = 17 → W p l e r_X12_readMoves s m args below meth c H locs 0 0 (MQ below (va_Qi (fun r S9 => wX D S0 S9 ∧ post r S9) (wB D cy X A) A) args s 0 0 A) (F0 m 41 ls [.int t1, .ref b0]) := by
  obtain ⟨hx, hb, hml, hown, hts⟩ := id F
  have hwg : ∀ w ∈ WG, w.before args s = true := fun w h => hts w (List.mem_cons_of_mem _ h)
  have i_17 : ∀ w ∈ u_ws RX12 TX12 43, w ∈ wz_X12_readMoves := fun w h => List.mem_cons_of_mem _ (wu_17 w h)
  have k_373 := hwg _ wf_RX12_373
  have k_394 := hwg _ wf_RX12_394
  have k_63 := hwg _ wf_RX12_63
  intro S H locs ls a0 b0 t1 hp hW hE hl hL_a0 hK_a0 hL_b0 hK_b0
  unfold wp_X12_readMoves_41 at hp
  refine lv_iconst (v := 2) hx hb dX12_readMoves_41 (by decide) ?_
  refine w_callI (va_runV (As := [.int t1, .int (2 : Int32)]) (rest := []) F (c_X12_can l hL_b0 hK_b0 hp H.size) (cwV (C := RX12) 2 hts (wg_V wm_RX12_237 wy_X12_can) rfl rfl rfl (by decide +kernel) ⟨Nat.le_of_ble_eq_true rfl, Nat.le_of_ble_eq_true rfl⟩) (w_preV hK hW hL_b0 hK_b0 (by decide) rfl) rfl rfl hl.1 rfl (lv_room (Nat.le_of_ble_eq_true rfl)) dX12_readMoves_42 ⟨Nat.le_of_ble_eq_true rfl, Nat.le_of_ble_eq_true rfl⟩) hW (fun r_1 S_2 H locs hp hW => ?_)
  obtain ⟨hX_S_2, hp⟩ := hp
  refine W.widen (k := 0) (n := 0) (by decide) (by decide) ?_
  have hE := hE.trans hX_S_2
  have hK_a0 : sK S_2 a0 = 17 := (hX_S_2.2 a0 hL_a0).1.trans hK_a0
  have hL_a0 : wM D S_2 a0 := hX_S_2.M hL_a0
  refine lv_if_ne (tgt := 50) hx hb dX12_readMoves_45 (by decide) (fun c_3 => ?_) (fun c_3 => ?_)
  · replace hp := hp.1 c_3
    refine lv_aload_n hx hb dX12_readMoves_50 rfl (lv_at hl 0 rfl) ?_
    refine lv_aload_n hx hb dX12_readMoves_51 rfl (lv_at hl 0 rfl) ?_
    refine w_get (k := 17) (f := 26) (T := TX12) (v := .int (sI S_2 a0 26)) F hK hW hL_a0 hK_a0 (by decide) rfl rfl (by decide) i_17 k_373 rfl dX12_readMoves_52 ?_
    refine w_putI (k := 17) (f := 16) (T := TX12) F hK hW hL_a0 hK_a0 (by decide) (by decide) rfl rfl (by decide) i_17 tyX12 tyX12_ok nmX12 k_394 rfl rfl (ty := .int) rfl rfl rfl dX12_readMoves_55 (fun H locs hW => ?_)
    obtain ⟨S_4, eS_4⟩ : ∃ z : wS, z = uI S_2 a0 16 (sI S_2 a0 26) := ⟨_, rfl⟩
    rw [← eS_4] at hW
    replace hp := hp S_4 eS_4
    have hX_S_4 : wX D S_2 S_4 := by rw [eS_4]; exact wX_uI
    have hE := hE.trans hX_S_4
    have hK_a0 : sK S_4 a0 = 17 := (hX_S_4.2 a0 hL_a0).1.trans hK_a0
    have hL_a0 : wM D S_4 a0 := hX_S_4.M hL_a0
    refine lv_aload_n hx hb dX12_readMoves_58 rfl (lv_at hl 0 rfl) ?_
    obtain ⟨y_5, ey_5, hL_y_5, hK_y_5, hp⟩ := hp
    refine w_get (k := 17) (f := 22) (T := TX12) (v := .ref y_5) F hK hW hL_a0 hK_a0 (by decide) rfl rfl (by decide) i_17 k_63 (by rw [show wv 17 22 S_4 a0 = va_rf (sR S_4 a0 22) from rfl, ey_5]; rfl) dX12_readMoves_59 ?_
    refine lv_iconst (v := 0) hx hb dX12_readMoves_62 (by decide) ?_
    obtain ⟨h_6, hp⟩ := hp
    refine w_ild F hK hW hL_y_5 hK_y_5 h_6 dX12_readMoves_63 ?_
    refine lv_topi (fun x_7 ex_7 => ?_)
    replace hp := hp x_7 ex_7
    refine lv_istore_n (lv' := [(2, .int x_7), (0, .ref a0)]) hx hb dX12_readMoves_64 rfl hl (by decide) rfl (fun ls hl => ?_)
    refine lv_aload_n hx hb dX12_readMoves_65 rfl (lv_at hl 1 rfl) ?_
    refine w_callV (va_runV (As := []) (rest := []) F (c_X12_loads l hL_a0 hK_a0 hp H.size) (cwV (C := RX12) 0 hts (wg_V wm_RX12_192 wy_X12_loads) rfl rfl rfl (by decide +kernel) ⟨Nat.le_of_ble_eq_true rfl, Nat.le_of_ble_eq_true rfl⟩) (w_preV hK hW hL_a0 hK_a0 (by decide) rfl) rfl rfl hl.1 rfl (lv_room (Nat.le_of_ble_eq_true rfl)) dX12_readMoves_66 ⟨Nat.le_of_ble_eq_true rfl, Nat.le_of_ble_eq_true rfl⟩) hW (fun S_9 H locs hp hW => ?_)
    obtain ⟨hX_S_9, hp⟩ := hp
    refine W.widen (k := 0) (n := 0) (by decide) (by decide) ?_
    have hE := hE.trans hX_S_9
    have hK_a0 : sK S_9 a0 = 17 := (hX_S_9.2 a0 hL_a0).1.trans hK_a0
    have hL_a0 : wM D S_9 a0 := hX_S_9.M hL_a0
    refine lv_iconst (v := 0) hx hb dX12_readMoves_69 (by decide) ?_
    refine lv_istore_n (lv' := [(3, .int (0 : Int32)), (2, .int x_7), (0, .ref a0)]) hx hb dX12_readMoves_70 rfl hl (by decide) rfl (fun ls hl => ?_)
    obtain ⟨n_10, hp⟩ := hp
    exact t_X12_readMoves_71 F hr hlocks hK n_10 hp hW hE (lv_sub hl [2, 1, 0] rfl) hL_a0 hK_a0
  · replace hp := hp.2 c_3
    exact t_X12_readMoves_48 F hr hlocks hK hp hW hE (lv_sub hl [] rfl)
set_option maxHeartbeats 4000000 in
set_option maxRecDepth 100000 in
theorem t_X12_readMoves_13 {p : Program} {l : Launch} {e : Env} {s : State} {m : MethodId} {args : Array Value} {below : List Frame} {meth : Method} {c : Code} {D : wD} {cy : Nat → ClassId} {X : va_W} {A : Nat → Prop} {S0 : wS} {post : Int32 → wS → Prop} (F : CallFix p m c cX12_readMoves 4 s args wz_X12_readMoves RX12) (hr : meth.sig.returnType = (some .int)) (hlocks : meth.locks = false) (hK : wK D cy A s) : ∀ {S : wS} {H : Heap} {locs : List Loc} {ls : Array Slot} {a0 : Nat} {x1 : Int32}, wp_X12_readMoves_13 D post S a0 x1 → wO D cy X A s.heap S H locs → wX D S0 S → lv_has ls 4 [(0, .ref a0), (1, .int x1)] → wM D S a0 → sK S a0 = 17 → W p l e r_X12_readMoves s m args below meth c H locs 0 0 (MQ below (va_Qi (fun r S9 => wX D S0 S9 ∧ post r S9) (wB D cy X A) A) args s 0 0 A) (F0 m 13 ls []) := by
  obtain ⟨hx, hb, hml, hown, hts⟩ := id F
  have hwg : ∀ w ∈ WG, w.before args s = true := fun w h => hts w (List.mem_cons_of_mem _ h)
  have i_17 : ∀ w ∈ u_ws RX12 TX12 43, w ∈ wz_X12_readMoves := fun w h => List.mem_cons_of_mem _ (wu_17 w h)
  have k_259 := hwg _ wf_RX12_259
  have k_376 := hwg _ wf_RX12_376
  intro S H locs ls a0 x1 hp hW hE hl hL_a0 hK_a0
  unfold wp_X12_readMoves_13 at hp
  refine lv_aload_n hx hb dX12_readMoves_13 rfl (lv_at hl 0 rfl) ?_
  refine lv_iconst (v := 0) hx hb dX12_readMoves_14 (by decide) ?_
  refine w_putI (k := 17) (f := 13) (T := TX12) F hK hW hL_a0 hK_a0 (by decide) (by decide) rfl rfl (by decide) i_17 tyX12 tyX12_ok nmX12 k_259 rfl rfl (ty := .int) rfl rfl rfl dX12_readMoves_15 (fun H locs hW => ?_)
  obtain ⟨S_1, eS_1⟩ : ∃ z : wS, z = uI S a0 13 (0 : Int32) := ⟨_, rfl⟩
  rw [← eS_1] at hW
  replace hp := hp S_1 eS_1
  have hX_S_1 : wX D S S_1 := by rw [eS_1]; exact wX_uI
  have hE := hE.trans hX_S_1
  have hK_a0 : sK S_1 a0 = 17 := (hX_S_1.2 a0 hL_a0).1.trans hK_a0
  have hL_a0 : wM D S_1 a0 := hX_S_1.M hL_a0
  refine lv_aload_n hx hb dX12_readMoves_18 rfl (lv_at hl 0 rfl) ?_
  refine lv_iload_n hx hb dX12_readMoves_19 rfl (lv_at hl 1 rfl) ?_
  refine lv_iconst (v := 1) hx hb dX12_readMoves_20 (by decide) ?_
  refine w_callI (va_runV (As := [.int x1, .int (1 : Int32)]) (rest := []) F (c_X12_can l hL_a0 hK_a0 hp H.size) (cwV (C := RX12) 2 hts (wg_V wm_RX12_237 wy_X12_can) rfl rfl rfl (by decide +kernel) ⟨Nat.le_of_ble_eq_true rfl, Nat.le_of_ble_eq_true rfl⟩) (w_preV hK hW hL_a0 hK_a0 (by decide) rfl) rfl rfl hl.1 rfl (lv_room (Nat.le_of_ble_eq_true rfl)) dX12_readMoves_21 ⟨Nat.le_of_ble_eq_true rfl, Nat.le_of_ble_eq_true rfl⟩) hW (fun r_2 S_3 H locs hp hW => ?_)
  obtain ⟨hX_S_3, hp⟩ := hp
  refine W.widen (k := 0) (n := 0) (by decide) (by decide) ?_
  have hE := hE.trans hX_S_3
  have hK_a0 : sK S_3 a0 = 17 := (hX_S_3.2 a0 hL_a0).1.trans hK_a0
  have hL_a0 : wM D S_3 a0 := hX_S_3.M hL_a0
  refine lv_if_eq (tgt := 48) hx hb dX12_readMoves_24 (by decide) (fun c_4 => ?_) (fun c_4 => ?_)
  · replace hp := hp.1 c_4
    exact t_X12_readMoves_48 F hr hlocks hK hp hW hE (lv_sub hl [] rfl)
  · replace hp := hp.2 c_4
    refine lv_aload_n hx hb dX12_readMoves_27 rfl (lv_at hl 0 rfl) ?_
    refine lv_aload_n hx hb dX12_readMoves_28 rfl (lv_at hl 0 rfl) ?_
    refine w_get (k := 17) (f := 25) (T := TX12) (v := .int (sI S_3 a0 25)) F hK hW hL_a0 hK_a0 (by decide) rfl rfl (by decide) i_17 k_376 rfl dX12_readMoves_29 ?_
    refine lv_iconst (v := (-1)) hx hb dX12_readMoves_32 (by decide) ?_
    refine lv_icmp_ne (tgt := 40) hx hb dX12_readMoves_33 (by decide) (fun c_5 => ?_) (fun c_5 => ?_)
    · replace hp := hp.1 c_5
      refine lv_iconst (v := 0) hx hb dX12_readMoves_40 (by decide) ?_
      exact t_X12_readMoves_41 F hr hlocks hK hp hW hE (lv_sub hl [0] rfl) hL_a0 hK_a0 hL_a0 hK_a0
    · replace hp := hp.2 c_5
      refine lv_iconst (v := 1) hx hb dX12_readMoves_36 (by decide) ?_
      refine lv_goto (tgt := 41) hx hb dX12_readMoves_37 (by decide) ?_
      exact t_X12_readMoves_41 F hr hlocks hK hp hW hE (lv_sub hl [0] rfl) hL_a0 hK_a0 hL_a0 hK_a0
set_option maxHeartbeats 4000000 in
set_option maxRecDepth 100000 in
theorem t_X12_readMoves_0 {p : Program} {l : Launch} {e : Env} {s : State} {m : MethodId} {args : Array Value} {below : List Frame} {meth : Method} {c : Code} {D : wD} {cy : Nat → ClassId} {X : va_W} {A : Nat → Prop} {S0 : wS} {post : Int32 → wS → Prop} (F : CallFix p m c cX12_readMoves 4 s args wz_X12_readMoves RX12) (hr : meth.sig.returnType = (some .int)) (hlocks : meth.locks = false) (hK : wK D cy A s) : ∀ {S : wS} {H : Heap} {locs : List Loc} {ls : Array Slot} {a0 : Nat}, wp_X12_readMoves_0 D post S a0 → wO D cy X A s.heap S H locs → wX D S0 S → lv_has ls 4 [(0, .ref a0)] → wM D S a0 → sK S a0 = 17 → W p l e r_X12_readMoves s m args below meth c H locs 0 0 (MQ below (va_Qi (fun r S9 => wX D S0 S9 ∧ post r S9) (wB D cy X A) A) args s 0 0 A) (F0 m 0 ls []) := by
  obtain ⟨hx, hb, hml, hown, hts⟩ := id F
  have hwg : ∀ w ∈ WG, w.before args s = true := fun w h => hts w (List.mem_cons_of_mem _ h)
  intro S H locs ls a0 hp hW hE hl hL_a0 hK_a0
  unfold wp_X12_readMoves_0 at hp
  refine lv_aload_n hx hb dX12_readMoves_0 rfl (lv_at hl 0 rfl) ?_
  refine w_callI (va_runV (As := []) (rest := []) F (c_X12_isAskable l hL_a0 hK_a0 hp H.size) (cwV (C := RX12) 0 hts (wg_V wm_RX12_284 wy_X12_isAskable) rfl rfl rfl (by decide +kernel) ⟨Nat.le_of_ble_eq_true rfl, Nat.le_of_ble_eq_true rfl⟩) (w_preV hK hW hL_a0 hK_a0 (by decide) rfl) rfl rfl hl.1 rfl (lv_room (Nat.le_of_ble_eq_true rfl)) dX12_readMoves_1 ⟨Nat.le_of_ble_eq_true rfl, Nat.le_of_ble_eq_true rfl⟩) hW (fun r_1 S_2 H locs hp hW => ?_)
  obtain ⟨hX_S_2, hp⟩ := hp
  refine W.widen (k := 0) (n := 0) (by decide) (by decide) ?_
  have hE := hE.trans hX_S_2
  have hK_a0 : sK S_2 a0 = 17 := (hX_S_2.2 a0 hL_a0).1.trans hK_a0
  have hL_a0 : wM D S_2 a0 := hX_S_2.M hL_a0
  refine lv_istore_n (lv' := [(1, .int r_1), (0, .ref a0)]) hx hb dX12_readMoves_4 rfl hl (by decide) rfl (fun ls hl => ?_)
  refine lv_iload_n hx hb dX12_readMoves_5 rfl (lv_at hl 0 rfl) ?_
  refine lv_if_eq (tgt := 13) hx hb dX12_readMoves_6 (by decide) (fun c_3 => ?_) (fun c_3 => ?_)
  · replace hp := hp.1 c_3
    exact t_X12_readMoves_13 F hr hlocks hK hp hW hE (lv_sub hl [1, 0] rfl) hL_a0 hK_a0
  · replace hp := hp.2 c_3
    refine lv_aload_n hx hb dX12_readMoves_9 rfl (lv_at hl 1 rfl) ?_
    refine w_callV (va_runV (As := []) (rest := []) F (c_X12_reads l hL_a0 hK_a0 hp H.size) (cwV (C := RX12) 0 hts (wg_V wm_RX12_391 wy_X12_reads) rfl rfl rfl (by decide +kernel) ⟨Nat.le_of_ble_eq_true rfl, Nat.le_of_ble_eq_true rfl⟩) (w_preV hK hW hL_a0 hK_a0 (by decide) rfl) rfl rfl hl.1 rfl (lv_room (Nat.le_of_ble_eq_true rfl)) dX12_readMoves_10 ⟨Nat.le_of_ble_eq_true rfl, Nat.le_of_ble_eq_true rfl⟩) hW (fun S_5 H locs hp hW => ?_)
    obtain ⟨hX_S_5, hp⟩ := hp
    refine W.widen (k := 0) (n := 0) (by decide) (by decide) ?_
    have hE := hE.trans hX_S_5
    have hK_a0 : sK S_5 a0 = 17 := (hX_S_5.2 a0 hL_a0).1.trans hK_a0
    have hL_a0 : wM D S_5 a0 := hX_S_5.M hL_a0
    exact t_X12_readMoves_13 F hr hlocks hK hp hW hE (lv_sub hl [1, 0] rfl) hL_a0 hK_a0
set_option maxHeartbeats 4000000 in
set_option maxRecDepth 100000 in
theorem c_X12_readMoves (l : Launch) {D : wD} {cy : Nat → ClassId} {X : va_W} {S0 : wS} {post : Int32 → wS → Prop} {a0 : Nat} (hL_a0 : wM D S0 a0) (hK_a0 : sK S0 a0 = 17) (hp : wp_X12_readMoves D post S0 a0) : mI D cy X l yX12_readMoves wz_X12_readMoves r_X12_readMoves [.ref a0] S0 (fun r S9 => wX D S0 S9 ∧ post r S9) := by
  intro sz
  refine Met.ofW (cc := cX12_readMoves) (maxL := 4) (ret := (some .int)) (by decide) rfl ?_
  intro p e s m args below meth c s₁ B hml hv
  obtain ⟨rfl, hsz, hP, hK, hD0, hRO⟩ := hv
  have hts := atoms_spec (ws := wz_X12_readMoves) B.pre
  have hown : s.vm.findClass RX12 = some m.cls := findClass_of_methodNamed B.named
  subst hsz
  have hD := hD0.self (sz := s.heap.size)
  have F : CallFix p m c cX12_readMoves 4 s _ wz_X12_readMoves RX12 := ⟨B.exec, B.bytes, hml, hown, hts⟩
  have hr := B.returns
  have hlocks := B.notSynchronized
  generalize hAe : va_A (wL cy X S0) s.heap.size = A at hD hK ⊢
  have hA : ∀ q, s.heap.size ≤ q → A q := fun q h => by rw [← hAe]; exact Or.inr h
  have hW : wO D cy X A s.heap S0 s.heap [] := ⟨hP, hD, va_S.rf, hA, hRO⟩
  have hl := lv_entry ([.ref a0]) (n := 4) (Nat.le_of_ble_eq_true rfl)
  rw [lg_entry_eq]
  generalize (lg_sl ([.ref a0]) ++ List.replicate (4 - (lg_sl ([.ref a0])).length) Slot.unset).toArray = ls at hl ⊢
  have hl : lv_has ls 4 [(0, .ref a0)] := hl
  unfold wp_X12_readMoves at hp
  exact t_X12_readMoves_0 F hr hlocks hK hp hW wX.rf (lv_sub hl [0] rfl) hL_a0 hK_a0
def wp_X12_readsRest_229 (D : wD) (post : wS → Prop)  (S : wS) (b0 : Nat) (t1 : Int32) (t2 : Int32) (t3 : Int32) : Prop :=
wp_X12_lay D (fun S_2 => 
post S_2) S b0 t1 t2 t3
def wp_X12_readsRest_228 (D : wD) (post : wS → Prop)  (S : wS) (b0 : Nat) (t1 : Int32) (t2 : Int32) : Prop :=
wp_X12_readsRest_229 D post S b0 t1 t2 (-1 : Int32)
def wp_X12_readsRest_128 (D : wD) (post : wS → Prop)  (S : wS) (a0 : Nat) (x1 : Int32) : Prop :=
wp_X12_lay D (fun S_2 => 
∀ S_3 : wS, S_3 = uI S_2 a0 24 ((sI S_2 a0 24) + (1 : Int32)) →
wp_X12_textAt D (fun r_4 S_5 => 
∀ x_6 : Int32, x_6 = (r_4 - (97 : Int32)) →
wp_X12_textAt D (fun r_7 S_8 => 
∀ x_9 : Int32, x_9 = (r_7 - (49 : Int32)) →
wp_X12_textAt D (fun r_10 S_11 => 
((r_10 = (45 : Int32) → wp_X12_readsRest_228 D post S_11 a0 (0 : Int32) (66 : Int32)) ∧
 (¬ r_10 = (45 : Int32) → wp_X12_in D (fun r_13 S_14 => 
((r_13 = 0 → wp_X12_readsRest_228 D post S_14 a0 (0 : Int32) (66 : Int32)) ∧
 (¬ r_13 = 0 → wp_X12_in D (fun r_16 S_17 => 
((r_16 = 0 → wp_X12_readsRest_228 D post S_17 a0 (0 : Int32) (66 : Int32)) ∧
 (¬ r_16 = 0 → wp_X12_readsRest_229 D post S_17 a0 (0 : Int32) (66 : Int32) (((sI S_17 a0 1) * x_9) + x_6)))) S_14 x_9 (0 : Int32) ((sI S_14 a0 2) - (1 : Int32))))) S_11 x_6 (0 : Int32) ((sI S_11 a0 1) - (1 : Int32))))) S_8 a0 (sI S_8 a0 24)) S_5 a0 ((sI S_5 a0 24) + (1 : Int32))) S_3 a0 (sI S_3 a0 24)) S a0 (0 : Int32) (65 : Int32) x1
def wp_X12_readsRest_113 (D : wD) (post : wS → Prop) (k_37 : wS → Nat → Int32 → Prop) (S : wS) (a0 : Nat) (t0 : Int32) (t1 : Int32) : Prop :=
∀ x_1 : Int32, x_1 = (t0 ||| t1) →
∀ S_2 : wS, S_2 = uI S a0 24 ((sI S a0 24) + (1 : Int32)) →
k_37 S_2 a0 x_1
def wp_X12_readsRest_37 (D : wD) (post : wS → Prop)  : Nat → wS → Nat → Int32 → Prop
  | 0, _, _, _ => False
  | n + 1, S, a0, x1 =>
    (((sI S a0 13) ≤ (sI S a0 24) → wp_X12_readsRest_128 D post S a0 x1) ∧
     (¬ (sI S a0 13) ≤ (sI S a0 24) → wp_X12_textAt D (fun r_2 S_3 => 
    ((r_2 = (32 : Int32) → wp_X12_readsRest_128 D post S_3 a0 x1) ∧
     (¬ r_2 = (32 : Int32) → wp_X12_textAt D (fun r_5 S_6 => 
    ((¬ r_5 = (75 : Int32) → ((¬ r_5 = (81 : Int32) → ((¬ r_5 = (107 : Int32) → ((¬ r_5 = (113 : Int32) → wp_X12_readsRest_113 D post (wp_X12_readsRest_37 D post n) S_6 a0 x1 (0 : Int32)) ∧
     (r_5 = (113 : Int32) → wp_X12_readsRest_113 D post (wp_X12_readsRest_37 D post n) S_6 a0 x1 (8 : Int32)))) ∧
     (r_5 = (107 : Int32) → wp_X12_readsRest_113 D post (wp_X12_readsRest_37 D post n) S_6 a0 x1 (4 : Int32)))) ∧
     (r_5 = (81 : Int32) → wp_X12_readsRest_113 D post (wp_X12_readsRest_37 D post n) S_6 a0 x1 (2 : Int32)))) ∧
     (r_5 = (75 : Int32) → wp_X12_readsRest_113 D post (wp_X12_readsRest_37 D post n) S_6 a0 x1 (1 : Int32)))) S_3 a0 (sI S_3 a0 24)))) S a0 (sI S a0 24)))
def wp_X12_readsRest_22 (D : wD) (post : wS → Prop)  (S : wS) (a0 : Nat) (b0 : Nat) (t1 : Int32) (t2 : Int32) (t3 : Int32) : Prop :=
wp_X12_lay D (fun S_2 => 
∀ S_3 : wS, S_3 = uI S_2 a0 24 ((sI S_2 a0 24) + (2 : Int32)) →
∃ n_4 : Nat, wp_X12_readsRest_37 D post n_4 S_3 a0 (0 : Int32)) S b0 t1 t2 t3
def wp_X12_readsRest_0 (D : wD) (post : wS → Prop)  (S : wS) (a0 : Nat) : Prop :=
wp_X12_textAt D (fun r_1 S_2 => 
((¬ r_1 = (119 : Int32) → wp_X12_readsRest_22 D post S_2 a0 a0 (0 : Int32) (64 : Int32) (0 : Int32)) ∧
 (r_1 = (119 : Int32) → wp_X12_readsRest_22 D post S_2 a0 a0 (0 : Int32) (64 : Int32) (1 : Int32)))) S a0 (sI S a0 24)
abbrev r_X12_readsRest : Room := { frames := 1, cells := 0, slots := 0, locals := 23 }
def wp_X12_readsRest (D : wD) (post : wS → Prop) (S : wS) (a0 : Nat) : Prop := wp_X12_readsRest_0 D post S a0
set_option maxHeartbeats 4000000 in
set_option maxRecDepth 100000 in
theorem t_X12_readsRest_229 {p : Program} {l : Launch} {e : Env} {s : State} {m : MethodId} {args : Array Value} {below : List Frame} {meth : Method} {c : Code} {D : wD} {cy : Nat → ClassId} {X : va_W} {A : Nat → Prop} {S0 : wS} {post : wS → Prop} (F : CallFix p m c cX12_readsRest 4 s args wz_X12_readsRest RX12) (hr : meth.sig.returnType = none) (hlocks : meth.locks = false) (hK : wK D cy A s) : ∀ {S : wS} {H : Heap} {locs : List Loc} {ls : Array Slot} {b0 : Nat} {t1 : Int32} {t2 : Int32} {t3 : Int32}, wp_X12_readsRest_229 D post S b0 t1 t2 t3 → wO D cy X A s.heap S H locs → wX D S0 S → lv_has ls 4 [] → wM D S b0 → sK S b0 = 17 → W p l e r_X12_readsRest s m args below meth c H locs 0 0 (MQ below (va_Qv (fun S9 => wX D S0 S9 ∧ post S9) (wB D cy X A) A) args s 0 0 A) (F0 m 229 ls [.int t3, .int t2, .int t1, .ref b0]) := by
  obtain ⟨hx, hb, hml, hown, hts⟩ := id F
  have hwg : ∀ w ∈ WG, w.before args s = true := fun w h => hts w (List.mem_cons_of_mem _ h)
  intro S H locs ls b0 t1 t2 t3 hp hW hE hl hL_b0 hK_b0
  unfold wp_X12_readsRest_229 at hp
  refine w_callV (va_runV (As := [.int t1, .int t2, .int t3]) (rest := []) F (c_X12_lay l hL_b0 hK_b0 hp H.size) (cwV (C := RX12) 3 hts (wg_V wm_RX12_207 wy_X12_lay) rfl rfl rfl (by decide +kernel) ⟨Nat.le_of_ble_eq_true rfl, Nat.le_of_ble_eq_true rfl⟩) (w_preV hK hW hL_b0 hK_b0 (by decide) rfl) rfl rfl hl.1 rfl (lv_room (Nat.le_of_ble_eq_true rfl)) dX12_readsRest_229 ⟨Nat.le_of_ble_eq_true rfl, Nat.le_of_ble_eq_true rfl⟩) hW (fun S_2 H locs hp hW => ?_)
  obtain ⟨hX_S_2, hp⟩ := hp
  refine W.widen (k := 0) (n := 0) (by decide) (by decide) ?_
  have hE := hE.trans hX_S_2
  exact w_vret hx hb hr hlocks hW ⟨hE, hp⟩ dX12_readsRest_232
set_option maxHeartbeats 4000000 in
set_option maxRecDepth 100000 in
theorem t_X12_readsRest_228 {p : Program} {l : Launch} {e : Env} {s : State} {m : MethodId} {args : Array Value} {below : List Frame} {meth : Method} {c : Code} {D : wD} {cy : Nat → ClassId} {X : va_W} {A : Nat → Prop} {S0 : wS} {post : wS → Prop} (F : CallFix p m c cX12_readsRest 4 s args wz_X12_readsRest RX12) (hr : meth.sig.returnType = none) (hlocks : meth.locks = false) (hK : wK D cy A s) : ∀ {S : wS} {H : Heap} {locs : List Loc} {ls : Array Slot} {b0 : Nat} {t1 : Int32} {t2 : Int32}, wp_X12_readsRest_228 D post S b0 t1 t2 → wO D cy X A s.heap S H locs → wX D S0 S → lv_has ls 4 [] → wM D S b0 → sK S b0 = 17 → W p l e r_X12_readsRest s m args below meth c H locs 0 0 (MQ below (va_Qv (fun S9 => wX D S0 S9 ∧ post S9) (wB D cy X A) A) args s 0 0 A) (F0 m 228 ls [.int t2, .int t1, .ref b0]) := by
  obtain ⟨hx, hb, hml, hown, hts⟩ := id F
  have hwg : ∀ w ∈ WG, w.before args s = true := fun w h => hts w (List.mem_cons_of_mem _ h)
  intro S H locs ls b0 t1 t2 hp hW hE hl hL_b0 hK_b0
  unfold wp_X12_readsRest_228 at hp
  refine lv_iconst (v := (-1)) hx hb dX12_readsRest_228 (by decide) ?_
  exact t_X12_readsRest_229 F hr hlocks hK hp hW hE (lv_sub hl [] rfl) hL_b0 hK_b0
set_option maxHeartbeats 4000000 in
set_option maxRecDepth 100000 in
theorem t_X12_readsRest_128 {p : Program} {l : Launch} {e : Env} {s : State} {m : MethodId} {args : Array Value} {below : List Frame} {meth : Method} {c : Code} {D : wD} {cy : Nat → ClassId} {X : va_W} {A : Nat → Prop} {S0 : wS} {post : wS → Prop} (F : CallFix p m c cX12_readsRest 4 s args wz_X12_readsRest RX12) (hr : meth.sig.returnType = none) (hlocks : meth.locks = false) (hK : wK D cy A s) : ∀ {S : wS} {H : Heap} {locs : List Loc} {ls : Array Slot} {a0 : Nat} {x1 : Int32}, wp_X12_readsRest_128 D post S a0 x1 → wO D cy X A s.heap S H locs → wX D S0 S → lv_has ls 4 [(0, .ref a0), (1, .int x1)] → wM D S a0 → sK S a0 = 17 → W p l e r_X12_readsRest s m args below meth c H locs 0 0 (MQ below (va_Qv (fun S9 => wX D S0 S9 ∧ post S9) (wB D cy X A) A) args s 0 0 A) (F0 m 128 ls []) := by
  obtain ⟨hx, hb, hml, hown, hts⟩ := id F
  have hwg : ∀ w ∈ WG, w.before args s = true := fun w h => hts w (List.mem_cons_of_mem _ h)
  have i_17 : ∀ w ∈ u_ws RX12 TX12 43, w ∈ wz_X12_readsRest := fun w h => List.mem_cons_of_mem _ (wu_17 w h)
  have k_13 := hwg _ wf_RX12_13
  have k_262 := hwg _ wf_RX12_262
  have k_9 := hwg _ wf_RX12_9
  intro S H locs ls a0 x1 hp hW hE hl hL_a0 hK_a0
  unfold wp_X12_readsRest_128 at hp
  refine lv_aload_n hx hb dX12_readsRest_128 rfl (lv_at hl 0 rfl) ?_
  refine lv_iconst (v := 0) hx hb dX12_readsRest_129 (by decide) ?_
  refine lv_bipush (v := 65) hx hb dX12_readsRest_130 (by decide) ?_
  refine lv_iload_n hx hb dX12_readsRest_132 rfl (lv_at hl 1 rfl) ?_
  refine w_callV (va_runV (As := [.int (0 : Int32), .int (65 : Int32), .int x1]) (rest := []) F (c_X12_lay l hL_a0 hK_a0 hp H.size) (cwV (C := RX12) 3 hts (wg_V wm_RX12_207 wy_X12_lay) rfl rfl rfl (by decide +kernel) ⟨Nat.le_of_ble_eq_true rfl, Nat.le_of_ble_eq_true rfl⟩) (w_preV hK hW hL_a0 hK_a0 (by decide) rfl) rfl rfl hl.1 rfl (lv_room (Nat.le_of_ble_eq_true rfl)) dX12_readsRest_133 ⟨Nat.le_of_ble_eq_true rfl, Nat.le_of_ble_eq_true rfl⟩) hW (fun S_2 H locs hp hW => ?_)
  obtain ⟨hX_S_2, hp⟩ := hp
  refine W.widen (k := 0) (n := 0) (by decide) (by decide) ?_
  have hE := hE.trans hX_S_2
  have hK_a0 : sK S_2 a0 = 17 := (hX_S_2.2 a0 hL_a0).1.trans hK_a0
  have hL_a0 : wM D S_2 a0 := hX_S_2.M hL_a0
  refine lv_aload_n hx hb dX12_readsRest_136 rfl (lv_at hl 0 rfl) ?_
  refine lv_dup hx hb dX12_readsRest_137 rfl ?_
  refine w_get (k := 17) (f := 24) (T := TX12) (v := .int (sI S_2 a0 24)) F hK hW hL_a0 hK_a0 (by decide) rfl rfl (by decide) i_17 k_262 rfl dX12_readsRest_138 ?_
  refine lv_iconst (v := 1) hx hb dX12_readsRest_141 (by decide) ?_
  refine lv_iadd hx hb dX12_readsRest_142 ?_
  refine w_putI (k := 17) (f := 24) (T := TX12) F hK hW hL_a0 hK_a0 (by decide) (by decide) rfl rfl (by decide) i_17 tyX12 tyX12_ok nmX12 k_262 rfl rfl (ty := .int) rfl rfl rfl dX12_readsRest_143 (fun H locs hW => ?_)
  obtain ⟨S_3, eS_3⟩ : ∃ z : wS, z = uI S_2 a0 24 ((sI S_2 a0 24) + (1 : Int32)) := ⟨_, rfl⟩
  rw [← eS_3] at hW
  replace hp := hp S_3 eS_3
  have hX_S_3 : wX D S_2 S_3 := by rw [eS_3]; exact wX_uI
  have hE := hE.trans hX_S_3
  have hK_a0 : sK S_3 a0 = 17 := (hX_S_3.2 a0 hL_a0).1.trans hK_a0
  have hL_a0 : wM D S_3 a0 := hX_S_3.M hL_a0
  refine lv_aload_n hx hb dX12_readsRest_146 rfl (lv_at hl 0 rfl) ?_
  refine lv_aload_n hx hb dX12_readsRest_147 rfl (lv_at hl 0 rfl) ?_
  refine w_get (k := 17) (f := 24) (T := TX12) (v := .int (sI S_3 a0 24)) F hK hW hL_a0 hK_a0 (by decide) rfl rfl (by decide) i_17 k_262 rfl dX12_readsRest_148 ?_
  refine w_callI (va_runV (As := [.int (sI S_3 a0 24)]) (rest := []) F (c_X12_textAt l hL_a0 hK_a0 hp H.size) (cwV (C := RX12) 1 hts (wg_V wm_RX12_265 wy_X12_textAt) rfl rfl rfl (by decide +kernel) ⟨Nat.le_of_ble_eq_true rfl, Nat.le_of_ble_eq_true rfl⟩) (w_preV hK hW hL_a0 hK_a0 (by decide) rfl) rfl rfl hl.1 rfl (lv_room (Nat.le_of_ble_eq_true rfl)) dX12_readsRest_151 ⟨Nat.le_of_ble_eq_true rfl, Nat.le_of_ble_eq_true rfl⟩) hW (fun r_4 S_5 H locs hp hW => ?_)
  obtain ⟨hX_S_5, hp⟩ := hp
  refine W.widen (k := 0) (n := 0) (by decide) (by decide) ?_
  have hE := hE.trans hX_S_5
  have hK_a0 : sK S_5 a0 = 17 := (hX_S_5.2 a0 hL_a0).1.trans hK_a0
  have hL_a0 : wM D S_5 a0 := hX_S_5.M hL_a0
  refine lv_bipush (v := 97) hx hb dX12_readsRest_154 (by decide) ?_
  refine lv_isub hx hb dX12_readsRest_156 ?_
  refine lv_topi (fun x_6 ex_6 => ?_)
  replace hp := hp x_6 ex_6
  refine lv_istore_n (lv' := [(2, .int x_6), (0, .ref a0), (1, .int x1)]) hx hb dX12_readsRest_157 rfl hl (by decide) rfl (fun ls hl => ?_)
  refine lv_aload_n hx hb dX12_readsRest_158 rfl (lv_at hl 1 rfl) ?_
  refine lv_aload_n hx hb dX12_readsRest_159 rfl (lv_at hl 1 rfl) ?_
  refine w_get (k := 17) (f := 24) (T := TX12) (v := .int (sI S_5 a0 24)) F hK hW hL_a0 hK_a0 (by decide) rfl rfl (by decide) i_17 k_262 rfl dX12_readsRest_160 ?_
  refine lv_iconst (v := 1) hx hb dX12_readsRest_163 (by decide) ?_
  refine lv_iadd hx hb dX12_readsRest_164 ?_
  refine w_callI (va_runV (As := [.int ((sI S_5 a0 24) + (1 : Int32))]) (rest := []) F (c_X12_textAt l hL_a0 hK_a0 hp H.size) (cwV (C := RX12) 1 hts (wg_V wm_RX12_265 wy_X12_textAt) rfl rfl rfl (by decide +kernel) ⟨Nat.le_of_ble_eq_true rfl, Nat.le_of_ble_eq_true rfl⟩) (w_preV hK hW hL_a0 hK_a0 (by decide) rfl) rfl rfl hl.1 rfl (lv_room (Nat.le_of_ble_eq_true rfl)) dX12_readsRest_165 ⟨Nat.le_of_ble_eq_true rfl, Nat.le_of_ble_eq_true rfl⟩) hW (fun r_7 S_8 H locs hp hW => ?_)
  obtain ⟨hX_S_8, hp⟩ := hp
  refine W.widen (k := 0) (n := 0) (by decide) (by decide) ?_
  have hE := hE.trans hX_S_8
  have hK_a0 : sK S_8 a0 = 17 := (hX_S_8.2 a0 hL_a0).1.trans hK_a0
  have hL_a0 : wM D S_8 a0 := hX_S_8.M hL_a0
  refine lv_bipush (v := 49) hx hb dX12_readsRest_168 (by decide) ?_
  refine lv_isub hx hb dX12_readsRest_170 ?_
  refine lv_topi (fun x_9 ex_9 => ?_)
  replace hp := hp x_9 ex_9
  refine lv_istore_n (lv' := [(3, .int x_9), (2, .int x_6), (0, .ref a0), (1, .int x1)]) hx hb dX12_readsRest_171 rfl hl (by decide) rfl (fun ls hl => ?_)
  refine lv_aload_n hx hb dX12_readsRest_172 rfl (lv_at hl 2 rfl) ?_
  refine lv_iconst (v := 0) hx hb dX12_readsRest_173 (by decide) ?_
  refine lv_bipush (v := 66) hx hb dX12_readsRest_174 (by decide) ?_
  refine lv_aload_n hx hb dX12_readsRest_176 rfl (lv_at hl 2 rfl) ?_
  refine lv_aload_n hx hb dX12_readsRest_177 rfl (lv_at hl 2 rfl) ?_
  refine w_get (k := 17) (f := 24) (T := TX12) (v := .int (sI S_8 a0 24)) F hK hW hL_a0 hK_a0 (by decide) rfl rfl (by decide) i_17 k_262 rfl dX12_readsRest_178 ?_
  refine w_callI (va_runV (As := [.int (sI S_8 a0 24)]) (rest := [.int (66 : Int32), .int (0 : Int32), .ref a0]) F (c_X12_textAt l hL_a0 hK_a0 hp H.size) (cwV (C := RX12) 1 hts (wg_V wm_RX12_265 wy_X12_textAt) rfl rfl rfl (by decide +kernel) ⟨Nat.le_of_ble_eq_true rfl, Nat.le_of_ble_eq_true rfl⟩) (w_preV hK hW hL_a0 hK_a0 (by decide) rfl) rfl rfl hl.1 rfl (lv_room (Nat.le_of_ble_eq_true rfl)) dX12_readsRest_181 ⟨Nat.le_of_ble_eq_true rfl, Nat.le_of_ble_eq_true rfl⟩) hW (fun r_10 S_11 H locs hp hW => ?_)
  obtain ⟨hX_S_11, hp⟩ := hp
  refine W.widen (k := 0) (n := 0) (by decide) (by decide) ?_
  have hE := hE.trans hX_S_11
  have hK_a0 : sK S_11 a0 = 17 := (hX_S_11.2 a0 hL_a0).1.trans hK_a0
  have hL_a0 : wM D S_11 a0 := hX_S_11.M hL_a0
  refine lv_bipush (v := 45) hx hb dX12_readsRest_184 (by decide) ?_
  refine lv_icmp_eq (tgt := 228) hx hb dX12_readsRest_186 (by decide) (fun c_12 => ?_) (fun c_12 => ?_)
  · replace hp := hp.1 c_12
    exact t_X12_readsRest_228 F hr hlocks hK hp hW hE (lv_sub hl [] rfl) hL_a0 hK_a0
  · replace hp := hp.2 c_12
    refine lv_iload_n hx hb dX12_readsRest_189 rfl (lv_at hl 1 rfl) ?_
    refine lv_iconst (v := 0) hx hb dX12_readsRest_190 (by decide) ?_
    refine lv_aload_n hx hb dX12_readsRest_191 rfl (lv_at hl 2 rfl) ?_
    refine w_get (k := 17) (f := 1) (T := TX12) (v := .int (sI S_11 a0 1)) F hK hW hL_a0 hK_a0 (by decide) rfl rfl (by decide) i_17 k_9 rfl dX12_readsRest_192 ?_
    refine lv_iconst (v := 1) hx hb dX12_readsRest_195 (by decide) ?_
    refine lv_isub hx hb dX12_readsRest_196 ?_
    refine w_callI (va_runS (As := [.int x_6, .int (0 : Int32), .int ((sI S_11 a0 1) - (1 : Int32))]) (rest := [.int (66 : Int32), .int (0 : Int32), .ref a0]) F (c_X12_in l hp H.size) (va_cwS 3 hts (wg_S wm_RX12_117 wy_X12_in) rfl rfl rfl (by decide +kernel) ⟨Nat.le_of_ble_eq_true rfl, Nat.le_of_ble_eq_true rfl⟩) (w_preS hK hW) rfl rfl hl.1 rfl (lv_room (Nat.le_of_ble_eq_true rfl)) dX12_readsRest_197 ⟨Nat.le_of_ble_eq_true rfl, Nat.le_of_ble_eq_true rfl⟩) hW (fun r_13 S_14 H locs hp hW => ?_)
    obtain ⟨hX_S_14, hp⟩ := hp
    refine W.widen (k := 0) (n := 0) (by decide) (by decide) ?_
    have hE := hE.trans hX_S_14
    have hK_a0 : sK S_14 a0 = 17 := (hX_S_14.2 a0 hL_a0).1.trans hK_a0
    have hL_a0 : wM D S_14 a0 := hX_S_14.M hL_a0
    refine lv_if_eq (tgt := 228) hx hb dX12_readsRest_200 (by decide) (fun c_15 => ?_) (fun c_15 => ?_)
    · replace hp := hp.1 c_15
      exact t_X12_readsRest_228 F hr hlocks hK hp hW hE (lv_sub hl [] rfl) hL_a0 hK_a0
    · replace hp := hp.2 c_15
      refine lv_iload_n hx hb dX12_readsRest_203 rfl (lv_at hl 0 rfl) ?_
      refine lv_iconst (v := 0) hx hb dX12_readsRest_204 (by decide) ?_
      refine lv_aload_n hx hb dX12_readsRest_205 rfl (lv_at hl 2 rfl) ?_
      refine w_get (k := 17) (f := 2) (T := TX12) (v := .int (sI S_14 a0 2)) F hK hW hL_a0 hK_a0 (by decide) rfl rfl (by decide) i_17 k_13 rfl dX12_readsRest_206 ?_
      refine lv_iconst (v := 1) hx hb dX12_readsRest_209 (by decide) ?_
      refine lv_isub hx hb dX12_readsRest_210 ?_
      refine w_callI (va_runS (As := [.int x_9, .int (0 : Int32), .int ((sI S_14 a0 2) - (1 : Int32))]) (rest := [.int (66 : Int32), .int (0 : Int32), .ref a0]) F (c_X12_in l hp H.size) (va_cwS 3 hts (wg_S wm_RX12_117 wy_X12_in) rfl rfl rfl (by decide +kernel) ⟨Nat.le_of_ble_eq_true rfl, Nat.le_of_ble_eq_true rfl⟩) (w_preS hK hW) rfl rfl hl.1 rfl (lv_room (Nat.le_of_ble_eq_true rfl)) dX12_readsRest_211 ⟨Nat.le_of_ble_eq_true rfl, Nat.le_of_ble_eq_true rfl⟩) hW (fun r_16 S_17 H locs hp hW => ?_)
      obtain ⟨hX_S_17, hp⟩ := hp
      refine W.widen (k := 0) (n := 0) (by decide) (by decide) ?_
      have hE := hE.trans hX_S_17
      have hK_a0 : sK S_17 a0 = 17 := (hX_S_17.2 a0 hL_a0).1.trans hK_a0
      have hL_a0 : wM D S_17 a0 := hX_S_17.M hL_a0
      refine lv_if_eq (tgt := 228) hx hb dX12_readsRest_214 (by decide) (fun c_18 => ?_) (fun c_18 => ?_)
      · replace hp := hp.1 c_18
        exact t_X12_readsRest_228 F hr hlocks hK hp hW hE (lv_sub hl [] rfl) hL_a0 hK_a0
      · replace hp := hp.2 c_18
        refine lv_aload_n hx hb dX12_readsRest_217 rfl (lv_at hl 2 rfl) ?_
        refine w_get (k := 17) (f := 1) (T := TX12) (v := .int (sI S_17 a0 1)) F hK hW hL_a0 hK_a0 (by decide) rfl rfl (by decide) i_17 k_9 rfl dX12_readsRest_218 ?_
        refine lv_iload_n hx hb dX12_readsRest_221 rfl (lv_at hl 0 rfl) ?_
        refine lv_imul hx hb dX12_readsRest_222 ?_
        refine lv_iload_n hx hb dX12_readsRest_223 rfl (lv_at hl 1 rfl) ?_
        refine lv_iadd hx hb dX12_readsRest_224 ?_
        refine lv_goto (tgt := 229) hx hb dX12_readsRest_225 (by decide) ?_
        exact t_X12_readsRest_229 F hr hlocks hK hp hW hE (lv_sub hl [] rfl) hL_a0 hK_a0
set_option maxHeartbeats 4000000 in
set_option maxRecDepth 100000 in
theorem t_X12_readsRest_113 {p : Program} {l : Launch} {e : Env} {s : State} {m : MethodId} {args : Array Value} {below : List Frame} {meth : Method} {c : Code} {D : wD} {cy : Nat → ClassId} {X : va_W} {A : Nat → Prop} {S0 : wS} {post : wS → Prop} (F : CallFix p m c cX12_readsRest 4 s args wz_X12_readsRest RX12) (hr : meth.sig.returnType = none) (hlocks : meth.locks = false) (hK : wK D cy A s) {k_37 : wS → Nat → Int32 → Prop} (q_37 : ∀ {S : wS} {H : Heap} {locs : List Loc} {ls : Array Slot} {a0 : Nat} {x1 : Int32}, k_37 S a0 x1 → wO D cy X A s.heap S H locs → wX D S0 S → lv_has ls 4 [(0, .ref a0), (1, .int x1)] → wM D S a0 → sK S a0 = 17 → W p l e r_X12_readsRest s m args below meth c H locs 0 0 (MQ below (va_Qv (fun S9 => wX D S0 S9 ∧ post S9) (wB D cy X A) A) args s 0 0 A) (F0 m 37 ls [])) : ∀ {S : wS} {H : Heap} {locs : List Loc} {ls : Array Slot} {a0 : Nat} {t0 : Int32} {t1 : Int32}, wp_X12_readsRest_113 D post k_37 S a0 t0 t1 → wO D cy X A s.heap S H locs → wX D S0 S → lv_has ls 4 [(0, .ref a0)] → wM D S a0 → sK S a0 = 17 → W p l e r_X12_readsRest s m args below meth c H locs 0 0 (MQ below (va_Qv (fun S9 => wX D S0 S9 ∧ post S9) (wB D cy X A) A) args s 0 0 A) (F0 m 113 ls [.int t1, .int t0]) := by
  obtain ⟨hx, hb, hml, hown, hts⟩ := id F
  have hwg : ∀ w ∈ WG, w.before args s = true := fun w h => hts w (List.mem_cons_of_mem _ h)
  have i_17 : ∀ w ∈ u_ws RX12 TX12 43, w ∈ wz_X12_readsRest := fun w h => List.mem_cons_of_mem _ (wu_17 w h)
  have k_262 := hwg _ wf_RX12_262
  intro S H locs ls a0 t0 t1 hp hW hE hl hL_a0 hK_a0
  unfold wp_X12_readsRest_113 at hp
  refine lv_ior hx hb dX12_readsRest_113 ?_
  refine lv_topi (fun x_1 ex_1 => ?_)
  replace hp := hp x_1 ex_1
  refine lv_istore_n (lv' := [(1, .int x_1), (0, .ref a0)]) hx hb dX12_readsRest_114 rfl hl (by decide) rfl (fun ls hl => ?_)
  refine lv_aload_n hx hb dX12_readsRest_115 rfl (lv_at hl 1 rfl) ?_
  refine lv_dup hx hb dX12_readsRest_116 rfl ?_
  refine w_get (k := 17) (f := 24) (T := TX12) (v := .int (sI S a0 24)) F hK hW hL_a0 hK_a0 (by decide) rfl rfl (by decide) i_17 k_262 rfl dX12_readsRest_117 ?_
  refine lv_iconst (v := 1) hx hb dX12_readsRest_120 (by decide) ?_
  refine lv_iadd hx hb dX12_readsRest_121 ?_
  refine w_putI (k := 17) (f := 24) (T := TX12) F hK hW hL_a0 hK_a0 (by decide) (by decide) rfl rfl (by decide) i_17 tyX12 tyX12_ok nmX12 k_262 rfl rfl (ty := .int) rfl rfl rfl dX12_readsRest_122 (fun H locs hW => ?_)
  obtain ⟨S_2, eS_2⟩ : ∃ z : wS, z = uI S a0 24 ((sI S a0 24) + (1 : Int32)) := ⟨_, rfl⟩
  rw [← eS_2] at hW
  replace hp := hp S_2 eS_2
  have hX_S_2 : wX D S S_2 := by rw [eS_2]; exact wX_uI
  have hE := hE.trans hX_S_2
  have hK_a0 : sK S_2 a0 = 17 := (hX_S_2.2 a0 hL_a0).1.trans hK_a0
  have hL_a0 : wM D S_2 a0 := hX_S_2.M hL_a0
  refine lv_goto (tgt := 37) hx hb dX12_readsRest_125 (by decide) ?_
  exact q_37 hp hW hE (lv_sub hl [1, 0] rfl) hL_a0 hK_a0
set_option maxHeartbeats 4000000 in
set_option maxRecDepth 100000 in
theorem t_X12_readsRest_37 {p : Program} {l : Launch} {e : Env} {s : State} {m : MethodId} {args : Array Value} {below : List Frame} {meth : Method} {c : Code} {D : wD} {cy : Nat → ClassId} {X : va_W} {A : Nat → Prop} {S0 : wS} {post : wS → Prop} (F : CallFix p m c cX12_readsRest 4 s args wz_X12_readsRest RX12) (hr : meth.sig.returnType = none) (hlocks : meth.locks = false) (hK : wK D cy A s) : ∀ (n : Nat) {S : wS} {H : Heap} {locs : List Loc} {ls : Array Slot} {a0 : Nat} {x1 : Int32}, wp_X12_readsRest_37 D post n S a0 x1 → wO D cy X A s.heap S H locs → wX D S0 S → lv_has ls 4 [(0, .ref a0), (1, .int x1)] → wM D S a0 → sK S a0 = 17 → W p l e r_X12_readsRest s m args below meth c H locs 0 0 (MQ below (va_Qv (fun S9 => wX D S0 S9 ∧ post S9) (wB D cy X A) A) args s 0 0 A) (F0 m 37 ls []) := by
  obtain ⟨hx, hb, hml, hown, hts⟩ := id F
  have hwg : ∀ w ∈ WG, w.before args s = true := fun w h => hts w (List.mem_cons_of_mem _ h)
  have i_17 : ∀ w ∈ u_ws RX12 TX12 43, w ∈ wz_X12_readsRest := fun w h => List.mem_cons_of_mem _ (wu_17 w h)
  have k_259 := hwg _ wf_RX12_259
  have k_262 := hwg _ wf_RX12_262
  intro n
  induction n with
  | zero =>
    intro S H locs ls a0 x1 hp
    exact hp.elim
  | succ n ih =>
    intro S H locs ls a0 x1 hp hW hE hl hL_a0 hK_a0
    unfold wp_X12_readsRest_37 at hp
    refine lv_aload_n hx hb dX12_readsRest_37 rfl (lv_at hl 0 rfl) ?_
    refine w_get (k := 17) (f := 24) (T := TX12) (v := .int (sI S a0 24)) F hK hW hL_a0 hK_a0 (by decide) rfl rfl (by decide) i_17 k_262 rfl dX12_readsRest_38 ?_
    refine lv_aload_n hx hb dX12_readsRest_41 rfl (lv_at hl 0 rfl) ?_
    refine w_get (k := 17) (f := 13) (T := TX12) (v := .int (sI S a0 13)) F hK hW hL_a0 hK_a0 (by decide) rfl rfl (by decide) i_17 k_259 rfl dX12_readsRest_42 ?_
    refine lv_icmp_ge (tgt := 128) hx hb dX12_readsRest_45 (by decide) (fun c_1 => ?_) (fun c_1 => ?_)
    · replace hp := hp.1 c_1
      exact t_X12_readsRest_128 F hr hlocks hK hp hW hE (lv_sub hl [0, 1] rfl) hL_a0 hK_a0
    · replace hp := hp.2 c_1
      refine lv_aload_n hx hb dX12_readsRest_48 rfl (lv_at hl 0 rfl) ?_
      refine lv_aload_n hx hb dX12_readsRest_49 rfl (lv_at hl 0 rfl) ?_
      refine w_get (k := 17) (f := 24) (T := TX12) (v := .int (sI S a0 24)) F hK hW hL_a0 hK_a0 (by decide) rfl rfl (by decide) i_17 k_262 rfl dX12_readsRest_50 ?_
      refine w_callI (va_runV (As := [.int (sI S a0 24)]) (rest := []) F (c_X12_textAt l hL_a0 hK_a0 hp H.size) (cwV (C := RX12) 1 hts (wg_V wm_RX12_265 wy_X12_textAt) rfl rfl rfl (by decide +kernel) ⟨Nat.le_of_ble_eq_true rfl, Nat.le_of_ble_eq_true rfl⟩) (w_preV hK hW hL_a0 hK_a0 (by decide) rfl) rfl rfl hl.1 rfl (lv_room (Nat.le_of_ble_eq_true rfl)) dX12_readsRest_53 ⟨Nat.le_of_ble_eq_true rfl, Nat.le_of_ble_eq_true rfl⟩) hW (fun r_2 S_3 H locs hp hW => ?_)
      obtain ⟨hX_S_3, hp⟩ := hp
      refine W.widen (k := 0) (n := 0) (by decide) (by decide) ?_
      have hE := hE.trans hX_S_3
      have hK_a0 : sK S_3 a0 = 17 := (hX_S_3.2 a0 hL_a0).1.trans hK_a0
      have hL_a0 : wM D S_3 a0 := hX_S_3.M hL_a0
      refine lv_bipush (v := 32) hx hb dX12_readsRest_56 (by decide) ?_
      refine lv_icmp_eq (tgt := 128) hx hb dX12_readsRest_58 (by decide) (fun c_4 => ?_) (fun c_4 => ?_)
      · replace hp := hp.1 c_4
        exact t_X12_readsRest_128 F hr hlocks hK hp hW hE (lv_sub hl [0, 1] rfl) hL_a0 hK_a0
      · replace hp := hp.2 c_4
        refine lv_aload_n hx hb dX12_readsRest_61 rfl (lv_at hl 0 rfl) ?_
        refine lv_aload_n hx hb dX12_readsRest_62 rfl (lv_at hl 0 rfl) ?_
        refine w_get (k := 17) (f := 24) (T := TX12) (v := .int (sI S_3 a0 24)) F hK hW hL_a0 hK_a0 (by decide) rfl rfl (by decide) i_17 k_262 rfl dX12_readsRest_63 ?_
        refine w_callI (va_runV (As := [.int (sI S_3 a0 24)]) (rest := []) F (c_X12_textAt l hL_a0 hK_a0 hp H.size) (cwV (C := RX12) 1 hts (wg_V wm_RX12_265 wy_X12_textAt) rfl rfl rfl (by decide +kernel) ⟨Nat.le_of_ble_eq_true rfl, Nat.le_of_ble_eq_true rfl⟩) (w_preV hK hW hL_a0 hK_a0 (by decide) rfl) rfl rfl hl.1 rfl (lv_room (Nat.le_of_ble_eq_true rfl)) dX12_readsRest_66 ⟨Nat.le_of_ble_eq_true rfl, Nat.le_of_ble_eq_true rfl⟩) hW (fun r_5 S_6 H locs hp hW => ?_)
        obtain ⟨hX_S_6, hp⟩ := hp
        refine W.widen (k := 0) (n := 0) (by decide) (by decide) ?_
        have hE := hE.trans hX_S_6
        have hK_a0 : sK S_6 a0 = 17 := (hX_S_6.2 a0 hL_a0).1.trans hK_a0
        have hL_a0 : wM D S_6 a0 := hX_S_6.M hL_a0
        refine lv_istore_n (lv' := [(2, .int r_5), (0, .ref a0), (1, .int x1)]) hx hb dX12_readsRest_69 rfl hl (by decide) rfl (fun ls hl => ?_)
        refine lv_iload_n hx hb dX12_readsRest_70 rfl (lv_at hl 2 rfl) ?_
        refine lv_iload_n hx hb dX12_readsRest_71 rfl (lv_at hl 0 rfl) ?_
        refine lv_bipush (v := 75) hx hb dX12_readsRest_72 (by decide) ?_
        refine lv_icmp_ne (tgt := 81) hx hb dX12_readsRest_74 (by decide) (fun c_7 => ?_) (fun c_7 => ?_)
        · replace hp := hp.1 c_7
          refine lv_iload_n hx hb dX12_readsRest_81 rfl (lv_at hl 0 rfl) ?_
          refine lv_bipush (v := 81) hx hb dX12_readsRest_82 (by decide) ?_
          refine lv_icmp_ne (tgt := 91) hx hb dX12_readsRest_84 (by decide) (fun c_8 => ?_) (fun c_8 => ?_)
          · replace hp := hp.1 c_8
            refine lv_iload_n hx hb dX12_readsRest_91 rfl (lv_at hl 0 rfl) ?_
            refine lv_bipush (v := 107) hx hb dX12_readsRest_92 (by decide) ?_
            refine lv_icmp_ne (tgt := 101) hx hb dX12_readsRest_94 (by decide) (fun c_9 => ?_) (fun c_9 => ?_)
            · replace hp := hp.1 c_9
              refine lv_iload_n hx hb dX12_readsRest_101 rfl (lv_at hl 0 rfl) ?_
              refine lv_bipush (v := 113) hx hb dX12_readsRest_102 (by decide) ?_
              refine lv_icmp_ne (tgt := 112) hx hb dX12_readsRest_104 (by decide) (fun c_10 => ?_) (fun c_10 => ?_)
              · replace hp := hp.1 c_10
                refine lv_iconst (v := 0) hx hb dX12_readsRest_112 (by decide) ?_
                exact t_X12_readsRest_113 F hr hlocks hK ih hp hW hE (lv_sub hl [1] rfl) hL_a0 hK_a0
              · replace hp := hp.2 c_10
                refine lv_bipush (v := 8) hx hb dX12_readsRest_107 (by decide) ?_
                refine lv_goto (tgt := 113) hx hb dX12_readsRest_109 (by decide) ?_
                exact t_X12_readsRest_113 F hr hlocks hK ih hp hW hE (lv_sub hl [1] rfl) hL_a0 hK_a0
            · replace hp := hp.2 c_9
              refine lv_iconst (v := 4) hx hb dX12_readsRest_97 (by decide) ?_
              refine lv_goto (tgt := 113) hx hb dX12_readsRest_98 (by decide) ?_
              exact t_X12_readsRest_113 F hr hlocks hK ih hp hW hE (lv_sub hl [1] rfl) hL_a0 hK_a0
          · replace hp := hp.2 c_8
            refine lv_iconst (v := 2) hx hb dX12_readsRest_87 (by decide) ?_
            refine lv_goto (tgt := 113) hx hb dX12_readsRest_88 (by decide) ?_
            exact t_X12_readsRest_113 F hr hlocks hK ih hp hW hE (lv_sub hl [1] rfl) hL_a0 hK_a0
        · replace hp := hp.2 c_7
          refine lv_iconst (v := 1) hx hb dX12_readsRest_77 (by decide) ?_
          refine lv_goto (tgt := 113) hx hb dX12_readsRest_78 (by decide) ?_
          exact t_X12_readsRest_113 F hr hlocks hK ih hp hW hE (lv_sub hl [1] rfl) hL_a0 hK_a0
set_option maxHeartbeats 4000000 in
set_option maxRecDepth 100000 in
theorem t_X12_readsRest_22 {p : Program} {l : Launch} {e : Env} {s : State} {m : MethodId} {args : Array Value} {below : List Frame} {meth : Method} {c : Code} {D : wD} {cy : Nat → ClassId} {X : va_W} {A : Nat → Prop} {S0 : wS} {post : wS → Prop} (F : CallFix p m c cX12_readsRest 4 s args wz_X12_readsRest RX12) (hr : meth.sig.returnType = none) (hlocks : meth.locks = false) (hK : wK D cy A s) : ∀ {S : wS} {H : Heap} {locs : List Loc} {ls : Array Slot} {a0 : Nat} {b0 : Nat} {t1 : Int32} {t2 : Int32} {t3 : Int32}, wp_X12_readsRest_22 D post S a0 b0 t1 t2 t3 → wO D cy X A s.heap S H locs → wX D S0 S → lv_has ls 4 [(0, .ref a0)] → wM D S a0 → sK S a0 = 17 → wM D S b0 → sK S b0 = 17 → W p l e r_X12_readsRest s m args below meth c H locs 0 0 (MQ below (va_Qv (fun S9 => wX D S0 S9 ∧ post S9) (wB D cy X A) A) args s 0 0 A) (F0 m 22 ls [.int t3, .int t2, .int t1, .ref b0]) := by
  obtain ⟨hx, hb, hml, hown, hts⟩ := id F
  have hwg : ∀ w ∈ WG, w.before args s = true := fun w h => hts w (List.mem_cons_of_mem _ h)
  have i_17 : ∀ w ∈ u_ws RX12 TX12 43, w ∈ wz_X12_readsRest := fun w h => List.mem_cons_of_mem _ (wu_17 w h)
  have k_262 := hwg _ wf_RX12_262
  intro S H locs ls a0 b0 t1 t2 t3 hp hW hE hl hL_a0 hK_a0 hL_b0 hK_b0
  unfold wp_X12_readsRest_22 at hp
  refine w_callV (va_runV (As := [.int t1, .int t2, .int t3]) (rest := []) F (c_X12_lay l hL_b0 hK_b0 hp H.size) (cwV (C := RX12) 3 hts (wg_V wm_RX12_207 wy_X12_lay) rfl rfl rfl (by decide +kernel) ⟨Nat.le_of_ble_eq_true rfl, Nat.le_of_ble_eq_true rfl⟩) (w_preV hK hW hL_b0 hK_b0 (by decide) rfl) rfl rfl hl.1 rfl (lv_room (Nat.le_of_ble_eq_true rfl)) dX12_readsRest_22 ⟨Nat.le_of_ble_eq_true rfl, Nat.le_of_ble_eq_true rfl⟩) hW (fun S_2 H locs hp hW => ?_)
  obtain ⟨hX_S_2, hp⟩ := hp
  refine W.widen (k := 0) (n := 0) (by decide) (by decide) ?_
  have hE := hE.trans hX_S_2
  have hK_a0 : sK S_2 a0 = 17 := (hX_S_2.2 a0 hL_a0).1.trans hK_a0
  have hL_a0 : wM D S_2 a0 := hX_S_2.M hL_a0
  refine lv_aload_n hx hb dX12_readsRest_25 rfl (lv_at hl 0 rfl) ?_
  refine lv_dup hx hb dX12_readsRest_26 rfl ?_
  refine w_get (k := 17) (f := 24) (T := TX12) (v := .int (sI S_2 a0 24)) F hK hW hL_a0 hK_a0 (by decide) rfl rfl (by decide) i_17 k_262 rfl dX12_readsRest_27 ?_
  refine lv_iconst (v := 2) hx hb dX12_readsRest_30 (by decide) ?_
  refine lv_iadd hx hb dX12_readsRest_31 ?_
  refine w_putI (k := 17) (f := 24) (T := TX12) F hK hW hL_a0 hK_a0 (by decide) (by decide) rfl rfl (by decide) i_17 tyX12 tyX12_ok nmX12 k_262 rfl rfl (ty := .int) rfl rfl rfl dX12_readsRest_32 (fun H locs hW => ?_)
  obtain ⟨S_3, eS_3⟩ : ∃ z : wS, z = uI S_2 a0 24 ((sI S_2 a0 24) + (2 : Int32)) := ⟨_, rfl⟩
  rw [← eS_3] at hW
  replace hp := hp S_3 eS_3
  have hX_S_3 : wX D S_2 S_3 := by rw [eS_3]; exact wX_uI
  have hE := hE.trans hX_S_3
  have hK_a0 : sK S_3 a0 = 17 := (hX_S_3.2 a0 hL_a0).1.trans hK_a0
  have hL_a0 : wM D S_3 a0 := hX_S_3.M hL_a0
  refine lv_iconst (v := 0) hx hb dX12_readsRest_35 (by decide) ?_
  refine lv_istore_n (lv' := [(1, .int (0 : Int32)), (0, .ref a0)]) hx hb dX12_readsRest_36 rfl hl (by decide) rfl (fun ls hl => ?_)
  obtain ⟨n_4, hp⟩ := hp
  exact t_X12_readsRest_37 F hr hlocks hK n_4 hp hW hE (lv_sub hl [1, 0] rfl) hL_a0 hK_a0
set_option maxHeartbeats 4000000 in
set_option maxRecDepth 100000 in
theorem t_X12_readsRest_0 {p : Program} {l : Launch} {e : Env} {s : State} {m : MethodId} {args : Array Value} {below : List Frame} {meth : Method} {c : Code} {D : wD} {cy : Nat → ClassId} {X : va_W} {A : Nat → Prop} {S0 : wS} {post : wS → Prop} (F : CallFix p m c cX12_readsRest 4 s args wz_X12_readsRest RX12) (hr : meth.sig.returnType = none) (hlocks : meth.locks = false) (hK : wK D cy A s) : ∀ {S : wS} {H : Heap} {locs : List Loc} {ls : Array Slot} {a0 : Nat}, wp_X12_readsRest_0 D post S a0 → wO D cy X A s.heap S H locs → wX D S0 S → lv_has ls 4 [(0, .ref a0)] → wM D S a0 → sK S a0 = 17 → W p l e r_X12_readsRest s m args below meth c H locs 0 0 (MQ below (va_Qv (fun S9 => wX D S0 S9 ∧ post S9) (wB D cy X A) A) args s 0 0 A) (F0 m 0 ls []) := by
  obtain ⟨hx, hb, hml, hown, hts⟩ := id F
  have hwg : ∀ w ∈ WG, w.before args s = true := fun w h => hts w (List.mem_cons_of_mem _ h)
  have i_17 : ∀ w ∈ u_ws RX12 TX12 43, w ∈ wz_X12_readsRest := fun w h => List.mem_cons_of_mem _ (wu_17 w h)
  have k_262 := hwg _ wf_RX12_262
  intro S H locs ls a0 hp hW hE hl hL_a0 hK_a0
  unfold wp_X12_readsRest_0 at hp
  refine lv_aload_n hx hb dX12_readsRest_0 rfl (lv_at hl 0 rfl) ?_
  refine lv_iconst (v := 0) hx hb dX12_readsRest_1 (by decide) ?_
  refine lv_bipush (v := 64) hx hb dX12_readsRest_2 (by decide) ?_
  refine lv_aload_n hx hb dX12_readsRest_4 rfl (lv_at hl 0 rfl) ?_
  refine lv_aload_n hx hb dX12_readsRest_5 rfl (lv_at hl 0 rfl) ?_
  refine w_get (k := 17) (f := 24) (T := TX12) (v := .int (sI S a0 24)) F hK hW hL_a0 hK_a0 (by decide) rfl rfl (by decide) i_17 k_262 rfl dX12_readsRest_6 ?_
  refine w_callI (va_runV (As := [.int (sI S a0 24)]) (rest := [.int (64 : Int32), .int (0 : Int32), .ref a0]) F (c_X12_textAt l hL_a0 hK_a0 hp H.size) (cwV (C := RX12) 1 hts (wg_V wm_RX12_265 wy_X12_textAt) rfl rfl rfl (by decide +kernel) ⟨Nat.le_of_ble_eq_true rfl, Nat.le_of_ble_eq_true rfl⟩) (w_preV hK hW hL_a0 hK_a0 (by decide) rfl) rfl rfl hl.1 rfl (lv_room (Nat.le_of_ble_eq_true rfl)) dX12_readsRest_9 ⟨Nat.le_of_ble_eq_true rfl, Nat.le_of_ble_eq_true rfl⟩) hW (fun r_1 S_2 H locs hp hW => ?_)
  obtain ⟨hX_S_2, hp⟩ := hp
  refine W.widen (k := 0) (n := 0) (by decide) (by decide) ?_
  have hE := hE.trans hX_S_2
  have hK_a0 : sK S_2 a0 = 17 := (hX_S_2.2 a0 hL_a0).1.trans hK_a0
  have hL_a0 : wM D S_2 a0 := hX_S_2.M hL_a0
  refine lv_bipush (v := 119) hx hb dX12_readsRest_12 (by decide) ?_
  refine lv_icmp_ne (tgt := 21) hx hb dX12_readsRest_14 (by decide) (fun c_3 => ?_) (fun c_3 => ?_)
  · replace hp := hp.1 c_3
    refine lv_iconst (v := 0) hx hb dX12_readsRest_21 (by decide) ?_
    exact t_X12_readsRest_22 F hr hlocks hK hp hW hE (lv_sub hl [0] rfl) hL_a0 hK_a0 hL_a0 hK_a0
  · replace hp := hp.2 c_3
    refine lv_iconst (v := 1) hx hb dX12_readsRest_17 (by decide) ?_
    refine lv_goto (tgt := 22) hx hb dX12_readsRest_18 (by decide) ?_
    exact t_X12_readsRest_22 F hr hlocks hK hp hW hE (lv_sub hl [0] rfl) hL_a0 hK_a0 hL_a0 hK_a0
set_option maxHeartbeats 4000000 in
set_option maxRecDepth 100000 in
theorem c_X12_readsRest (l : Launch) {D : wD} {cy : Nat → ClassId} {X : va_W} {S0 : wS} {post : wS → Prop} {a0 : Nat} (hL_a0 : wM D S0 a0) (hK_a0 : sK S0 a0 = 17) (hp : wp_X12_readsRest D post S0 a0) : mV D cy X l yX12_readsRest wz_X12_readsRest r_X12_readsRest [.ref a0] S0 (fun S9 => wX D S0 S9 ∧ post S9) := by
  intro sz
  refine Met.ofW (cc := cX12_readsRest) (maxL := 4) (ret := none) (by decide) rfl ?_
  intro p e s m args below meth c s₁ B hml hv
  obtain ⟨rfl, hsz, hP, hK, hD0, hRO⟩ := hv
  have hts := atoms_spec (ws := wz_X12_readsRest) B.pre
  have hown : s.vm.findClass RX12 = some m.cls := findClass_of_methodNamed B.named
  subst hsz
  have hD := hD0.self (sz := s.heap.size)
  have F : CallFix p m c cX12_readsRest 4 s _ wz_X12_readsRest RX12 := ⟨B.exec, B.bytes, hml, hown, hts⟩
  have hr := B.returns
  have hlocks := B.notSynchronized
  generalize hAe : va_A (wL cy X S0) s.heap.size = A at hD hK ⊢
  have hA : ∀ q, s.heap.size ≤ q → A q := fun q h => by rw [← hAe]; exact Or.inr h
  have hW : wO D cy X A s.heap S0 s.heap [] := ⟨hP, hD, va_S.rf, hA, hRO⟩
  have hl := lv_entry ([.ref a0]) (n := 4) (Nat.le_of_ble_eq_true rfl)
  rw [lg_entry_eq]
  generalize (lg_sl ([.ref a0]) ++ List.replicate (4 - (lg_sl ([.ref a0])).length) Slot.unset).toArray = ls at hl ⊢
  have hl : lv_has ls 4 [(0, .ref a0)] := hl
  unfold wp_X12_readsRest at hp
  exact t_X12_readsRest_0 F hr hlocks hK hp hW wX.rf (lv_sub hl [0] rfl) hL_a0 hK_a0
