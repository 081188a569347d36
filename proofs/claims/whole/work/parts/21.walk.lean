theorem dX7_ofKind_0 : decode cX7_ofKind 0 = .ok (.aload_n 0, 1) := by decide +kernel
theorem dX7_ofKind_1 : decode cX7_ofKind 1 = .ok (.getfield 15, 3) := by decide +kernel
theorem dX7_ofKind_4 : decode cX7_ofKind 4 = .ok (.aload_n 0, 1) := by decide +kernel
theorem dX7_ofKind_5 : decode cX7_ofKind 5 = .ok (.getfield 18, 3) := by decide +kernel
theorem dX7_ofKind_8 : decode cX7_ofKind 8 = .ok (.lor, 1) := by decide +kernel
theorem dX7_ofKind_9 : decode cX7_ofKind 9 = .ok (.aload_n 0, 1) := by decide +kernel
theorem dX7_ofKind_10 : decode cX7_ofKind 10 = .ok (.getfield 21, 3) := by decide +kernel
theorem dX7_ofKind_13 : decode cX7_ofKind 13 = .ok (.lor, 1) := by decide +kernel
theorem dX7_ofKind_14 : decode cX7_ofKind 14 = .ok (.lstore_n 2, 1) := by decide +kernel
theorem dX7_ofKind_15 : decode cX7_ofKind 15 = .ok (.lload_n 2, 1) := by decide +kernel
theorem dX7_ofKind_16 : decode cX7_ofKind 16 = .ok (.iload_n 1, 1) := by decide +kernel
theorem dX7_ofKind_17 : decode cX7_ofKind 17 = .ok (.iconst 1, 1) := by decide +kernel
theorem dX7_ofKind_18 : decode cX7_ofKind 18 = .ok (.iand, 1) := by decide +kernel
theorem dX7_ofKind_19 : decode cX7_ofKind 19 = .ok (.ifCond .eq 10, 3) := by decide +kernel
theorem dX7_ofKind_22 : decode cX7_ofKind 22 = .ok (.aload_n 0, 1) := by decide +kernel
theorem dX7_ofKind_23 : decode cX7_ofKind 23 = .ok (.getfield 15, 3) := by decide +kernel
theorem dX7_ofKind_26 : decode cX7_ofKind 26 = .ok (.goto 11, 3) := by decide +kernel
theorem dX7_ofKind_29 : decode cX7_ofKind 29 = .ok (.aload_n 0, 1) := by decide +kernel
theorem dX7_ofKind_30 : decode cX7_ofKind 30 = .ok (.getfield 15, 3) := by decide +kernel
theorem dX7_ofKind_33 : decode cX7_ofKind 33 = .ok (.ldc2_w 70, 3) := by decide +kernel
theorem dX7_ofKind_36 : decode cX7_ofKind 36 = .ok (.lxor, 1) := by decide +kernel
theorem dX7_ofKind_37 : decode cX7_ofKind 37 = .ok (.land, 1) := by decide +kernel
theorem dX7_ofKind_38 : decode cX7_ofKind 38 = .ok (.lstore_n 2, 1) := by decide +kernel
theorem dX7_ofKind_39 : decode cX7_ofKind 39 = .ok (.lload_n 2, 1) := by decide +kernel
theorem dX7_ofKind_40 : decode cX7_ofKind 40 = .ok (.iload_n 1, 1) := by decide +kernel
theorem dX7_ofKind_41 : decode cX7_ofKind 41 = .ok (.iconst 2, 1) := by decide +kernel
theorem dX7_ofKind_42 : decode cX7_ofKind 42 = .ok (.iand, 1) := by decide +kernel
theorem dX7_ofKind_43 : decode cX7_ofKind 43 = .ok (.ifCond .eq 10, 3) := by decide +kernel
theorem dX7_ofKind_46 : decode cX7_ofKind 46 = .ok (.aload_n 0, 1) := by decide +kernel
theorem dX7_ofKind_47 : decode cX7_ofKind 47 = .ok (.getfield 18, 3) := by decide +kernel
theorem dX7_ofKind_50 : decode cX7_ofKind 50 = .ok (.goto 11, 3) := by decide +kernel
theorem dX7_ofKind_53 : decode cX7_ofKind 53 = .ok (.aload_n 0, 1) := by decide +kernel
theorem dX7_ofKind_54 : decode cX7_ofKind 54 = .ok (.getfield 18, 3) := by decide +kernel
theorem dX7_ofKind_57 : decode cX7_ofKind 57 = .ok (.ldc2_w 70, 3) := by decide +kernel
theorem dX7_ofKind_60 : decode cX7_ofKind 60 = .ok (.lxor, 1) := by decide +kernel
theorem dX7_ofKind_61 : decode cX7_ofKind 61 = .ok (.land, 1) := by decide +kernel
theorem dX7_ofKind_62 : decode cX7_ofKind 62 = .ok (.lstore_n 2, 1) := by decide +kernel
theorem dX7_ofKind_63 : decode cX7_ofKind 63 = .ok (.lload_n 2, 1) := by decide +kernel
theorem dX7_ofKind_64 : decode cX7_ofKind 64 = .ok (.iload_n 1, 1) := by decide +kernel
theorem dX7_ofKind_65 : decode cX7_ofKind 65 = .ok (.iconst 4, 1) := by decide +kernel
theorem dX7_ofKind_66 : decode cX7_ofKind 66 = .ok (.iand, 1) := by decide +kernel
theorem dX7_ofKind_67 : decode cX7_ofKind 67 = .ok (.ifCond .eq 10, 3) := by decide +kernel
theorem dX7_ofKind_70 : decode cX7_ofKind 70 = .ok (.aload_n 0, 1) := by decide +kernel
theorem dX7_ofKind_71 : decode cX7_ofKind 71 = .ok (.getfield 21, 3) := by decide +kernel
theorem dX7_ofKind_74 : decode cX7_ofKind 74 = .ok (.goto 11, 3) := by decide +kernel
theorem dX7_ofKind_77 : decode cX7_ofKind 77 = .ok (.aload_n 0, 1) := by decide +kernel
theorem dX7_ofKind_78 : decode cX7_ofKind 78 = .ok (.getfield 21, 3) := by decide +kernel
theorem dX7_ofKind_81 : decode cX7_ofKind 81 = .ok (.ldc2_w 70, 3) := by decide +kernel
theorem dX7_ofKind_84 : decode cX7_ofKind 84 = .ok (.lxor, 1) := by decide +kernel
theorem dX7_ofKind_85 : decode cX7_ofKind 85 = .ok (.land, 1) := by decide +kernel
theorem dX7_ofKind_86 : decode cX7_ofKind 86 = .ok (.lstore_n 2, 1) := by decide +kernel
theorem dX7_ofKind_87 : decode cX7_ofKind 87 = .ok (.lload_n 2, 1) := by decide +kernel
theorem dX7_ofKind_88 : decode cX7_ofKind 88 = .ok (.lreturn, 1) := by decide +kernel
theorem dX7_ofSide_0 : decode cX7_ofSide 0 = .ok (.iload_n 1, 1) := by decide +kernel
theorem dX7_ofSide_1 : decode cX7_ofSide 1 = .ok (.ifCond .eq 10, 3) := by decide +kernel
theorem dX7_ofSide_4 : decode cX7_ofSide 4 = .ok (.aload_n 0, 1) := by decide +kernel
theorem dX7_ofSide_5 : decode cX7_ofSide 5 = .ok (.getfield 9, 3) := by decide +kernel
theorem dX7_ofSide_8 : decode cX7_ofSide 8 = .ok (.goto 26, 3) := by decide +kernel
theorem dX7_ofSide_11 : decode cX7_ofSide 11 = .ok (.aload_n 0, 1) := by decide +kernel
theorem dX7_ofSide_12 : decode cX7_ofSide 12 = .ok (.getfield 15, 3) := by decide +kernel
theorem dX7_ofSide_15 : decode cX7_ofSide 15 = .ok (.aload_n 0, 1) := by decide +kernel
theorem dX7_ofSide_16 : decode cX7_ofSide 16 = .ok (.getfield 18, 3) := by decide +kernel
theorem dX7_ofSide_19 : decode cX7_ofSide 19 = .ok (.lor, 1) := by decide +kernel
theorem dX7_ofSide_20 : decode cX7_ofSide 20 = .ok (.aload_n 0, 1) := by decide +kernel
theorem dX7_ofSide_21 : decode cX7_ofSide 21 = .ok (.getfield 21, 3) := by decide +kernel
theorem dX7_ofSide_24 : decode cX7_ofSide 24 = .ok (.lor, 1) := by decide +kernel
theorem dX7_ofSide_25 : decode cX7_ofSide 25 = .ok (.aload_n 0, 1) := by decide +kernel
theorem dX7_ofSide_26 : decode cX7_ofSide 26 = .ok (.getfield 9, 3) := by decide +kernel
theorem dX7_ofSide_29 : decode cX7_ofSide 29 = .ok (.ldc2_w 70, 3) := by decide +kernel
theorem dX7_ofSide_32 : decode cX7_ofSide 32 = .ok (.lxor, 1) := by decide +kernel
theorem dX7_ofSide_33 : decode cX7_ofSide 33 = .ok (.land, 1) := by decide +kernel
theorem dX7_ofSide_34 : decode cX7_ofSide 34 = .ok (.lreturn, 1) := by decide +kernel
theorem dX7_place_0 : decode cX7_place 0 = .ok (.lconst 1, 1) := by decide +kernel
theorem dX7_place_1 : decode cX7_place 1 = .ok (.iload_n 1, 1) := by decide +kernel
theorem dX7_place_2 : decode cX7_place 2 = .ok (.lshl, 1) := by decide +kernel
theorem dX7_place_3 : decode cX7_place 3 = .ok (.lstore_n 3, 1) := by decide +kernel
theorem dX7_place_4 : decode cX7_place 4 = .ok (.iload_n 2, 1) := by decide +kernel
theorem dX7_place_5 : decode cX7_place 5 = .ok (.bipush 6, 2) := by decide +kernel
theorem dX7_place_7 : decode cX7_place 7 = .ok (.if_icmp .le 10, 3) := by decide +kernel
theorem dX7_place_10 : decode cX7_place 10 = .ok (.iload_n 2, 1) := by decide +kernel
theorem dX7_place_11 : decode cX7_place 11 = .ok (.bipush 6, 2) := by decide +kernel
theorem dX7_place_13 : decode cX7_place 13 = .ok (.isub, 1) := by decide +kernel
theorem dX7_place_14 : decode cX7_place 14 = .ok (.goto 4, 3) := by decide +kernel
theorem dX7_place_17 : decode cX7_place 17 = .ok (.iload_n 2, 1) := by decide +kernel
theorem dX7_place_18 : decode cX7_place 18 = .ok (.istore 5, 2) := by decide +kernel
theorem dX7_place_20 : decode cX7_place 20 = .ok (.iload_n 2, 1) := by decide +kernel
theorem dX7_place_21 : decode cX7_place 21 = .ok (.ifCond .le 13, 3) := by decide +kernel
theorem dX7_place_24 : decode cX7_place 24 = .ok (.iload_n 2, 1) := by decide +kernel
theorem dX7_place_25 : decode cX7_place 25 = .ok (.bipush 6, 2) := by decide +kernel
theorem dX7_place_27 : decode cX7_place 27 = .ok (.if_icmp .gt 7, 3) := by decide +kernel
theorem dX7_place_30 : decode cX7_place 30 = .ok (.iconst 1, 1) := by decide +kernel
theorem dX7_place_31 : decode cX7_place 31 = .ok (.goto 4, 3) := by decide +kernel
theorem dX7_place_34 : decode cX7_place 34 = .ok (.iconst 0, 1) := by decide +kernel
theorem dX7_place_35 : decode cX7_place 35 = .ok (.istore 6, 2) := by decide +kernel
theorem dX7_place_37 : decode cX7_place 37 = .ok (.aload_n 0, 1) := by decide +kernel
theorem dX7_place_38 : decode cX7_place 38 = .ok (.iload 6, 2) := by decide +kernel
theorem dX7_place_40 : decode cX7_place 40 = .ok (.ifCond .eq 12, 3) := by decide +kernel
theorem dX7_place_43 : decode cX7_place 43 = .ok (.aload_n 0, 1) := by decide +kernel
theorem dX7_place_44 : decode cX7_place 44 = .ok (.getfield 9, 3) := by decide +kernel
theorem dX7_place_47 : decode cX7_place 47 = .ok (.lload_n 3, 1) := by decide +kernel
theorem dX7_place_48 : decode cX7_place 48 = .ok (.lor, 1) := by decide +kernel
theorem dX7_place_49 : decode cX7_place 49 = .ok (.goto 13, 3) := by decide +kernel
theorem dX7_place_52 : decode cX7_place 52 = .ok (.aload_n 0, 1) := by decide +kernel
theorem dX7_place_53 : decode cX7_place 53 = .ok (.getfield 9, 3) := by decide +kernel
theorem dX7_place_56 : decode cX7_place 56 = .ok (.lload_n 3, 1) := by decide +kernel
theorem dX7_place_57 : decode cX7_place 57 = .ok (.ldc2_w 70, 3) := by decide +kernel
theorem dX7_place_60 : decode cX7_place 60 = .ok (.lxor, 1) := by decide +kernel
theorem dX7_place_61 : decode cX7_place 61 = .ok (.land, 1) := by decide +kernel
theorem dX7_place_62 : decode cX7_place 62 = .ok (.putfield 9, 3) := by decide +kernel
theorem dX7_place_65 : decode cX7_place 65 = .ok (.aload_n 0, 1) := by decide +kernel
theorem dX7_place_66 : decode cX7_place 66 = .ok (.iload 5, 2) := by decide +kernel
theorem dX7_place_68 : decode cX7_place 68 = .ok (.iconst 1, 1) := by decide +kernel
theorem dX7_place_69 : decode cX7_place 69 = .ok (.iand, 1) := by decide +kernel
theorem dX7_place_70 : decode cX7_place 70 = .ok (.ifCond .eq 12, 3) := by decide +kernel
theorem dX7_place_73 : decode cX7_place 73 = .ok (.aload_n 0, 1) := by decide +kernel
theorem dX7_place_74 : decode cX7_place 74 = .ok (.getfield 15, 3) := by decide +kernel
theorem dX7_place_77 : decode cX7_place 77 = .ok (.lload_n 3, 1) := by decide +kernel
theorem dX7_place_78 : decode cX7_place 78 = .ok (.lor, 1) := by decide +kernel
theorem dX7_place_79 : decode cX7_place 79 = .ok (.goto 13, 3) := by decide +kernel
theorem dX7_place_82 : decode cX7_place 82 = .ok (.aload_n 0, 1) := by decide +kernel
theorem dX7_place_83 : decode cX7_place 83 = .ok (.getfield 15, 3) := by decide +kernel
theorem dX7_place_86 : decode cX7_place 86 = .ok (.lload_n 3, 1) := by decide +kernel
theorem dX7_place_87 : decode cX7_place 87 = .ok (.ldc2_w 70, 3) := by decide +kernel
theorem dX7_place_90 : decode cX7_place 90 = .ok (.lxor, 1) := by decide +kernel
theorem dX7_place_91 : decode cX7_place 91 = .ok (.land, 1) := by decide +kernel
theorem dX7_place_92 : decode cX7_place 92 = .ok (.putfield 15, 3) := by decide +kernel
theorem dX7_place_95 : decode cX7_place 95 = .ok (.aload_n 0, 1) := by decide +kernel
theorem dX7_place_96 : decode cX7_place 96 = .ok (.iload 5, 2) := by decide +kernel
theorem dX7_place_98 : decode cX7_place 98 = .ok (.iconst 2, 1) := by decide +kernel
theorem dX7_place_99 : decode cX7_place 99 = .ok (.iand, 1) := by decide +kernel
theorem dX7_place_100 : decode cX7_place 100 = .ok (.ifCond .eq 12, 3) := by decide +kernel
theorem dX7_place_103 : decode cX7_place 103 = .ok (.aload_n 0, 1) := by decide +kernel
theorem dX7_place_104 : decode cX7_place 104 = .ok (.getfield 18, 3) := by decide +kernel
theorem dX7_place_107 : decode cX7_place 107 = .ok (.lload_n 3, 1) := by decide +kernel
theorem dX7_place_108 : decode cX7_place 108 = .ok (.lor, 1) := by decide +kernel
theorem dX7_place_109 : decode cX7_place 109 = .ok (.goto 13, 3) := by decide +kernel
theorem dX7_place_112 : decode cX7_place 112 = .ok (.aload_n 0, 1) := by decide +kernel
theorem dX7_place_113 : decode cX7_place 113 = .ok (.getfield 18, 3) := by decide +kernel
theorem dX7_place_116 : decode cX7_place 116 = .ok (.lload_n 3, 1) := by decide +kernel
theorem dX7_place_117 : decode cX7_place 117 = .ok (.ldc2_w 70, 3) := by decide +kernel
theorem dX7_place_120 : decode cX7_place 120 = .ok (.lxor, 1) := by decide +kernel
theorem dX7_place_121 : decode cX7_place 121 = .ok (.land, 1) := by decide +kernel
theorem dX7_place_122 : decode cX7_place 122 = .ok (.putfield 18, 3) := by decide +kernel
theorem dX7_place_125 : decode cX7_place 125 = .ok (.aload_n 0, 1) := by decide +kernel
theorem dX7_place_126 : decode cX7_place 126 = .ok (.iload 5, 2) := by decide +kernel
theorem dX7_place_128 : decode cX7_place 128 = .ok (.iconst 4, 1) := by decide +kernel
theorem dX7_place_129 : decode cX7_place 129 = .ok (.iand, 1) := by decide +kernel
theorem dX7_place_130 : decode cX7_place 130 = .ok (.ifCond .eq 12, 3) := by decide +kernel
theorem dX7_place_133 : decode cX7_place 133 = .ok (.aload_n 0, 1) := by decide +kernel
theorem dX7_place_134 : decode cX7_place 134 = .ok (.getfield 21, 3) := by decide +kernel
theorem dX7_place_137 : decode cX7_place 137 = .ok (.lload_n 3, 1) := by decide +kernel
theorem dX7_place_138 : decode cX7_place 138 = .ok (.lor, 1) := by decide +kernel
theorem dX7_place_139 : decode cX7_place 139 = .ok (.goto 13, 3) := by decide +kernel
theorem dX7_place_142 : decode cX7_place 142 = .ok (.aload_n 0, 1) := by decide +kernel
theorem dX7_place_143 : decode cX7_place 143 = .ok (.getfield 21, 3) := by decide +kernel
theorem dX7_place_146 : decode cX7_place 146 = .ok (.lload_n 3, 1) := by decide +kernel
theorem dX7_place_147 : decode cX7_place 147 = .ok (.ldc2_w 70, 3) := by decide +kernel
theorem dX7_place_150 : decode cX7_place 150 = .ok (.lxor, 1) := by decide +kernel
theorem dX7_place_151 : decode cX7_place 151 = .ok (.land, 1) := by decide +kernel
theorem dX7_place_152 : decode cX7_place 152 = .ok (.putfield 21, 3) := by decide +kernel
theorem dX7_place_155 : decode cX7_place 155 = .ok (.return_, 1) := by decide +kernel
theorem dX7_apply_0 : decode cX7_apply 0 = .ok (.iload_n 1, 1) := by decide +kernel
theorem dX7_apply_1 : decode cX7_apply 1 = .ok (.invokestatic 144, 3) := by decide +kernel
theorem dX7_apply_4 : decode cX7_apply 4 = .ok (.istore_n 2, 1) := by decide +kernel
theorem dX7_apply_5 : decode cX7_apply 5 = .ok (.iload_n 1, 1) := by decide +kernel
theorem dX7_apply_6 : decode cX7_apply 6 = .ok (.invokestatic 147, 3) := by decide +kernel
theorem dX7_apply_9 : decode cX7_apply 9 = .ok (.istore_n 3, 1) := by decide +kernel
theorem dX7_apply_10 : decode cX7_apply 10 = .ok (.iload_n 1, 1) := by decide +kernel
theorem dX7_apply_11 : decode cX7_apply 11 = .ok (.invokestatic 150, 3) := by decide +kernel
theorem dX7_apply_14 : decode cX7_apply 14 = .ok (.istore 4, 2) := by decide +kernel
theorem dX7_apply_16 : decode cX7_apply 16 = .ok (.aload_n 0, 1) := by decide +kernel
theorem dX7_apply_17 : decode cX7_apply 17 = .ok (.iload_n 2, 1) := by decide +kernel
theorem dX7_apply_18 : decode cX7_apply 18 = .ok (.invokevirtual 141, 3) := by decide +kernel
theorem dX7_apply_21 : decode cX7_apply 21 = .ok (.istore 5, 2) := by decide +kernel
theorem dX7_apply_23 : decode cX7_apply 23 = .ok (.aload_n 0, 1) := by decide +kernel
theorem dX7_apply_24 : decode cX7_apply 24 = .ok (.iload_n 2, 1) := by decide +kernel
theorem dX7_apply_25 : decode cX7_apply 25 = .ok (.invokevirtual 76, 3) := by decide +kernel
theorem dX7_apply_28 : decode cX7_apply 28 = .ok (.istore 6, 2) := by decide +kernel
theorem dX7_apply_30 : decode cX7_apply 30 = .ok (.aload_n 0, 1) := by decide +kernel
theorem dX7_apply_31 : decode cX7_apply 31 = .ok (.getfield 24, 3) := by decide +kernel
theorem dX7_apply_34 : decode cX7_apply 34 = .ok (.ifCond .eq 13, 3) := by decide +kernel
theorem dX7_apply_37 : decode cX7_apply 37 = .ok (.aload_n 0, 1) := by decide +kernel
theorem dX7_apply_38 : decode cX7_apply 38 = .ok (.getfield 35, 3) := by decide +kernel
theorem dX7_apply_41 : decode cX7_apply 41 = .ok (.getfield 138, 3) := by decide +kernel
theorem dX7_apply_44 : decode cX7_apply 44 = .ok (.goto 11, 3) := by decide +kernel
theorem dX7_apply_47 : decode cX7_apply 47 = .ok (.aload_n 0, 1) := by decide +kernel
theorem dX7_apply_48 : decode cX7_apply 48 = .ok (.getfield 35, 3) := by decide +kernel
theorem dX7_apply_51 : decode cX7_apply 51 = .ok (.getfield 138, 3) := by decide +kernel
theorem dX7_apply_54 : decode cX7_apply 54 = .ok (.ineg, 1) := by decide +kernel
theorem dX7_apply_55 : decode cX7_apply 55 = .ok (.istore 7, 2) := by decide +kernel
theorem dX7_apply_57 : decode cX7_apply 57 = .ok (.iload 6, 2) := by decide +kernel
theorem dX7_apply_59 : decode cX7_apply 59 = .ok (.bipush 6, 2) := by decide +kernel
theorem dX7_apply_61 : decode cX7_apply 61 = .ok (.if_icmp .ne 20, 3) := by decide +kernel
theorem dX7_apply_64 : decode cX7_apply 64 = .ok (.iload_n 3, 1) := by decide +kernel
theorem dX7_apply_65 : decode cX7_apply 65 = .ok (.aload_n 0, 1) := by decide +kernel
theorem dX7_apply_66 : decode cX7_apply 66 = .ok (.getfield 32, 3) := by decide +kernel
theorem dX7_apply_69 : decode cX7_apply 69 = .ok (.if_icmp .ne 12, 3) := by decide +kernel
theorem dX7_apply_72 : decode cX7_apply 72 = .ok (.aload_n 0, 1) := by decide +kernel
theorem dX7_apply_73 : decode cX7_apply 73 = .ok (.iload_n 3, 1) := by decide +kernel
theorem dX7_apply_74 : decode cX7_apply 74 = .ok (.iload 7, 2) := by decide +kernel
theorem dX7_apply_76 : decode cX7_apply 76 = .ok (.isub, 1) := by decide +kernel
theorem dX7_apply_77 : decode cX7_apply 77 = .ok (.iconst 0, 1) := by decide +kernel
theorem dX7_apply_78 : decode cX7_apply 78 = .ok (.invokevirtual 60, 3) := by decide +kernel
theorem dX7_apply_81 : decode cX7_apply 81 = .ok (.iload 6, 2) := by decide +kernel
theorem dX7_apply_83 : decode cX7_apply 83 = .ok (.iconst 1, 1) := by decide +kernel
theorem dX7_apply_84 : decode cX7_apply 84 = .ok (.if_icmp .ne 32, 3) := by decide +kernel
theorem dX7_apply_87 : decode cX7_apply 87 = .ok (.iload_n 3, 1) := by decide +kernel
theorem dX7_apply_88 : decode cX7_apply 88 = .ok (.iload_n 2, 1) := by decide +kernel
theorem dX7_apply_89 : decode cX7_apply 89 = .ok (.isub, 1) := by decide +kernel
theorem dX7_apply_90 : decode cX7_apply 90 = .ok (.iconst 2, 1) := by decide +kernel
theorem dX7_apply_91 : decode cX7_apply 91 = .ok (.if_icmp .ne 25, 3) := by decide +kernel
theorem dX7_apply_94 : decode cX7_apply 94 = .ok (.aload_n 0, 1) := by decide +kernel
theorem dX7_apply_95 : decode cX7_apply 95 = .ok (.iload_n 2, 1) := by decide +kernel
theorem dX7_apply_96 : decode cX7_apply 96 = .ok (.iconst 1, 1) := by decide +kernel
theorem dX7_apply_97 : decode cX7_apply 97 = .ok (.iadd, 1) := by decide +kernel
theorem dX7_apply_98 : decode cX7_apply 98 = .ok (.aload_n 0, 1) := by decide +kernel
theorem dX7_apply_99 : decode cX7_apply 99 = .ok (.iload_n 2, 1) := by decide +kernel
theorem dX7_apply_100 : decode cX7_apply 100 = .ok (.iconst 3, 1) := by decide +kernel
theorem dX7_apply_101 : decode cX7_apply 101 = .ok (.iadd, 1) := by decide +kernel
theorem dX7_apply_102 : decode cX7_apply 102 = .ok (.invokevirtual 141, 3) := by decide +kernel
theorem dX7_apply_105 : decode cX7_apply 105 = .ok (.invokevirtual 60, 3) := by decide +kernel
theorem dX7_apply_108 : decode cX7_apply 108 = .ok (.aload_n 0, 1) := by decide +kernel
theorem dX7_apply_109 : decode cX7_apply 109 = .ok (.iload_n 2, 1) := by decide +kernel
theorem dX7_apply_110 : decode cX7_apply 110 = .ok (.iconst 3, 1) := by decide +kernel
theorem dX7_apply_111 : decode cX7_apply 111 = .ok (.iadd, 1) := by decide +kernel
theorem dX7_apply_112 : decode cX7_apply 112 = .ok (.iconst 0, 1) := by decide +kernel
theorem dX7_apply_113 : decode cX7_apply 113 = .ok (.invokevirtual 60, 3) := by decide +kernel
theorem dX7_apply_116 : decode cX7_apply 116 = .ok (.iload 6, 2) := by decide +kernel
theorem dX7_apply_118 : decode cX7_apply 118 = .ok (.iconst 1, 1) := by decide +kernel
theorem dX7_apply_119 : decode cX7_apply 119 = .ok (.if_icmp .ne 32, 3) := by decide +kernel
theorem dX7_apply_122 : decode cX7_apply 122 = .ok (.iload_n 2, 1) := by decide +kernel
theorem dX7_apply_123 : decode cX7_apply 123 = .ok (.iload_n 3, 1) := by decide +kernel
theorem dX7_apply_124 : decode cX7_apply 124 = .ok (.isub, 1) := by decide +kernel
theorem dX7_apply_125 : decode cX7_apply 125 = .ok (.iconst 2, 1) := by decide +kernel
theorem dX7_apply_126 : decode cX7_apply 126 = .ok (.if_icmp .ne 25, 3) := by decide +kernel
theorem dX7_apply_129 : decode cX7_apply 129 = .ok (.aload_n 0, 1) := by decide +kernel
theorem dX7_apply_130 : decode cX7_apply 130 = .ok (.iload_n 2, 1) := by decide +kernel
theorem dX7_apply_131 : decode cX7_apply 131 = .ok (.iconst 1, 1) := by decide +kernel
theorem dX7_apply_132 : decode cX7_apply 132 = .ok (.isub, 1) := by decide +kernel
theorem dX7_apply_133 : decode cX7_apply 133 = .ok (.aload_n 0, 1) := by decide +kernel
theorem dX7_apply_134 : decode cX7_apply 134 = .ok (.iload_n 2, 1) := by decide +kernel
theorem dX7_apply_135 : decode cX7_apply 135 = .ok (.iconst 4, 1) := by decide +kernel
theorem dX7_apply_136 : decode cX7_apply 136 = .ok (.isub, 1) := by decide +kernel
theorem dX7_apply_137 : decode cX7_apply 137 = .ok (.invokevirtual 141, 3) := by decide +kernel
theorem dX7_apply_140 : decode cX7_apply 140 = .ok (.invokevirtual 60, 3) := by decide +kernel
theorem dX7_apply_143 : decode cX7_apply 143 = .ok (.aload_n 0, 1) := by decide +kernel
theorem dX7_apply_144 : decode cX7_apply 144 = .ok (.iload_n 2, 1) := by decide +kernel
theorem dX7_apply_145 : decode cX7_apply 145 = .ok (.iconst 4, 1) := by decide +kernel
theorem dX7_apply_146 : decode cX7_apply 146 = .ok (.isub, 1) := by decide +kernel
theorem dX7_apply_147 : decode cX7_apply 147 = .ok (.iconst 0, 1) := by decide +kernel
theorem dX7_apply_148 : decode cX7_apply 148 = .ok (.invokevirtual 60, 3) := by decide +kernel
theorem dX7_apply_151 : decode cX7_apply 151 = .ok (.aload_n 0, 1) := by decide +kernel
theorem dX7_apply_152 : decode cX7_apply 152 = .ok (.iload_n 2, 1) := by decide +kernel
theorem dX7_apply_153 : decode cX7_apply 153 = .ok (.iconst 0, 1) := by decide +kernel
theorem dX7_apply_154 : decode cX7_apply 154 = .ok (.invokevirtual 60, 3) := by decide +kernel
theorem dX7_apply_157 : decode cX7_apply 157 = .ok (.aload_n 0, 1) := by decide +kernel
theorem dX7_apply_158 : decode cX7_apply 158 = .ok (.iload_n 3, 1) := by decide +kernel
theorem dX7_apply_159 : decode cX7_apply 159 = .ok (.iload 4, 2) := by decide +kernel
theorem dX7_apply_161 : decode cX7_apply 161 = .ok (.ifCond .ne 8, 3) := by decide +kernel
theorem dX7_apply_164 : decode cX7_apply 164 = .ok (.iload 5, 2) := by decide +kernel
theorem dX7_apply_166 : decode cX7_apply 166 = .ok (.goto 19, 3) := by decide +kernel
theorem dX7_apply_169 : decode cX7_apply 169 = .ok (.iload 4, 2) := by decide +kernel
theorem dX7_apply_171 : decode cX7_apply 171 = .ok (.aload_n 0, 1) := by decide +kernel
theorem dX7_apply_172 : decode cX7_apply 172 = .ok (.getfield 24, 3) := by decide +kernel
theorem dX7_apply_175 : decode cX7_apply 175 = .ok (.ifCond .eq 7, 3) := by decide +kernel
theorem dX7_apply_178 : decode cX7_apply 178 = .ok (.iconst 0, 1) := by decide +kernel
theorem dX7_apply_179 : decode cX7_apply 179 = .ok (.goto 5, 3) := by decide +kernel
theorem dX7_apply_182 : decode cX7_apply 182 = .ok (.bipush 6, 2) := by decide +kernel
theorem dX7_apply_184 : decode cX7_apply 184 = .ok (.iadd, 1) := by decide +kernel
theorem dX7_apply_185 : decode cX7_apply 185 = .ok (.invokevirtual 60, 3) := by decide +kernel
theorem dX7_apply_188 : decode cX7_apply 188 = .ok (.aload_n 0, 1) := by decide +kernel
theorem dX7_apply_189 : decode cX7_apply 189 = .ok (.getfield 28, 3) := by decide +kernel
theorem dX7_apply_192 : decode cX7_apply 192 = .ok (.ifCond .eq 11, 3) := by decide +kernel
theorem dX7_apply_195 : decode cX7_apply 195 = .ok (.aload_n 0, 1) := by decide +kernel
theorem dX7_apply_196 : decode cX7_apply 196 = .ok (.iload_n 2, 1) := by decide +kernel
theorem dX7_apply_197 : decode cX7_apply 197 = .ok (.iload_n 3, 1) := by decide +kernel
theorem dX7_apply_198 : decode cX7_apply 198 = .ok (.iload 6, 2) := by decide +kernel
theorem dX7_apply_200 : decode cX7_apply 200 = .ok (.invokevirtual 153, 3) := by decide +kernel
theorem dX7_apply_203 : decode cX7_apply 203 = .ok (.iload 6, 2) := by decide +kernel
theorem dX7_apply_205 : decode cX7_apply 205 = .ok (.bipush 6, 2) := by decide +kernel
theorem dX7_apply_207 : decode cX7_apply 207 = .ok (.if_icmp .ne 17, 3) := by decide +kernel
theorem dX7_apply_210 : decode cX7_apply 210 = .ok (.iload_n 3, 1) := by decide +kernel
theorem dX7_apply_211 : decode cX7_apply 211 = .ok (.iload_n 2, 1) := by decide +kernel
theorem dX7_apply_212 : decode cX7_apply 212 = .ok (.isub, 1) := by decide +kernel
theorem dX7_apply_213 : decode cX7_apply 213 = .ok (.iconst 2, 1) := by decide +kernel
theorem dX7_apply_214 : decode cX7_apply 214 = .ok (.iload 7, 2) := by decide +kernel
theorem dX7_apply_216 : decode cX7_apply 216 = .ok (.imul, 1) := by decide +kernel
theorem dX7_apply_217 : decode cX7_apply 217 = .ok (.if_icmp .ne 7, 3) := by decide +kernel
theorem dX7_apply_220 : decode cX7_apply 220 = .ok (.iconst 1, 1) := by decide +kernel
theorem dX7_apply_221 : decode cX7_apply 221 = .ok (.goto 4, 3) := by decide +kernel
theorem dX7_apply_224 : decode cX7_apply 224 = .ok (.iconst 0, 1) := by decide +kernel
theorem dX7_apply_225 : decode cX7_apply 225 = .ok (.istore 8, 2) := by decide +kernel
theorem dX7_apply_227 : decode cX7_apply 227 = .ok (.aload_n 0, 1) := by decide +kernel
theorem dX7_apply_228 : decode cX7_apply 228 = .ok (.bipush 6, 2) := by decide +kernel
theorem dX7_apply_230 : decode cX7_apply 230 = .ok (.invokevirtual 83, 3) := by decide +kernel
theorem dX7_apply_233 : decode cX7_apply 233 = .ok (.aload_n 0, 1) := by decide +kernel
theorem dX7_apply_234 : decode cX7_apply 234 = .ok (.aload_n 0, 1) := by decide +kernel
theorem dX7_apply_235 : decode cX7_apply 235 = .ok (.getfield 24, 3) := by decide +kernel
theorem dX7_apply_238 : decode cX7_apply 238 = .ok (.ifCond .ne 7, 3) := by decide +kernel
theorem dX7_apply_241 : decode cX7_apply 241 = .ok (.iconst 1, 1) := by decide +kernel
theorem dX7_apply_242 : decode cX7_apply 242 = .ok (.goto 4, 3) := by decide +kernel
theorem dX7_apply_245 : decode cX7_apply 245 = .ok (.iconst 0, 1) := by decide +kernel
theorem dX7_apply_246 : decode cX7_apply 246 = .ok (.invokevirtual 114, 3) := by decide +kernel
theorem dX7_apply_249 : decode cX7_apply 249 = .ok (.land, 1) := by decide +kernel
theorem dX7_apply_250 : decode cX7_apply 250 = .ok (.lstore 9, 2) := by decide +kernel
theorem dX7_apply_252 : decode cX7_apply 252 = .ok (.aload_n 0, 1) := by decide +kernel
theorem dX7_apply_253 : decode cX7_apply 253 = .ok (.iload 8, 2) := by decide +kernel
theorem dX7_apply_255 : decode cX7_apply 255 = .ok (.ifCond .eq 26, 3) := by decide +kernel
theorem dX7_apply_258 : decode cX7_apply 258 = .ok (.aload_n 0, 1) := by decide +kernel
theorem dX7_apply_259 : decode cX7_apply 259 = .ok (.getfield 35, 3) := by decide +kernel
theorem dX7_apply_262 : decode cX7_apply 262 = .ok (.iload_n 3, 1) := by decide +kernel
theorem dX7_apply_263 : decode cX7_apply 263 = .ok (.invokevirtual 157, 3) := by decide +kernel
theorem dX7_apply_266 : decode cX7_apply 266 = .ok (.lload 9, 2) := by decide +kernel
theorem dX7_apply_268 : decode cX7_apply 268 = .ok (.land, 1) := by decide +kernel
theorem dX7_apply_269 : decode cX7_apply 269 = .ok (.lconst 0, 1) := by decide +kernel
theorem dX7_apply_270 : decode cX7_apply 270 = .ok (.lcmp, 1) := by decide +kernel
theorem dX7_apply_271 : decode cX7_apply 271 = .ok (.ifCond .eq 10, 3) := by decide +kernel
theorem dX7_apply_274 : decode cX7_apply 274 = .ok (.iload_n 2, 1) := by decide +kernel
theorem dX7_apply_275 : decode cX7_apply 275 = .ok (.iload 7, 2) := by decide +kernel
theorem dX7_apply_277 : decode cX7_apply 277 = .ok (.iadd, 1) := by decide +kernel
theorem dX7_apply_278 : decode cX7_apply 278 = .ok (.goto 4, 3) := by decide +kernel
theorem dX7_apply_281 : decode cX7_apply 281 = .ok (.iconst (-1), 1) := by decide +kernel
theorem dX7_apply_282 : decode cX7_apply 282 = .ok (.putfield 32, 3) := by decide +kernel
theorem dX7_apply_285 : decode cX7_apply 285 = .ok (.aload_n 0, 1) := by decide +kernel
theorem dX7_apply_286 : decode cX7_apply 286 = .ok (.aload_n 0, 1) := by decide +kernel
theorem dX7_apply_287 : decode cX7_apply 287 = .ok (.getfield 24, 3) := by decide +kernel
theorem dX7_apply_290 : decode cX7_apply 290 = .ok (.ifCond .ne 7, 3) := by decide +kernel
theorem dX7_apply_293 : decode cX7_apply 293 = .ok (.iconst 1, 1) := by decide +kernel
theorem dX7_apply_294 : decode cX7_apply 294 = .ok (.goto 4, 3) := by decide +kernel
theorem dX7_apply_297 : decode cX7_apply 297 = .ok (.iconst 0, 1) := by decide +kernel
theorem dX7_apply_298 : decode cX7_apply 298 = .ok (.putfield 24, 3) := by decide +kernel
theorem dX7_apply_301 : decode cX7_apply 301 = .ok (.return_, 1) := by decide +kernel
theorem dX7_isLike_0 : decode cX7_isLike 0 = .ok (.aload_n 0, 1) := by decide +kernel
theorem dX7_isLike_1 : decode cX7_isLike 1 = .ok (.getfield 9, 3) := by decide +kernel
theorem dX7_isLike_4 : decode cX7_isLike 4 = .ok (.aload_n 1, 1) := by decide +kernel
theorem dX7_isLike_5 : decode cX7_isLike 5 = .ok (.getfield 9, 3) := by decide +kernel
theorem dX7_isLike_8 : decode cX7_isLike 8 = .ok (.lcmp, 1) := by decide +kernel
theorem dX7_isLike_9 : decode cX7_isLike 9 = .ok (.ifCond .ne 76, 3) := by decide +kernel
theorem dX7_isLike_12 : decode cX7_isLike 12 = .ok (.aload_n 0, 1) := by decide +kernel
theorem dX7_isLike_13 : decode cX7_isLike 13 = .ok (.getfield 15, 3) := by decide +kernel
theorem dX7_isLike_16 : decode cX7_isLike 16 = .ok (.aload_n 1, 1) := by decide +kernel
theorem dX7_isLike_17 : decode cX7_isLike 17 = .ok (.getfield 15, 3) := by decide +kernel
theorem dX7_isLike_20 : decode cX7_isLike 20 = .ok (.lcmp, 1) := by decide +kernel
theorem dX7_isLike_21 : decode cX7_isLike 21 = .ok (.ifCond .ne 64, 3) := by decide +kernel
theorem dX7_isLike_24 : decode cX7_isLike 24 = .ok (.aload_n 0, 1) := by decide +kernel
theorem dX7_isLike_25 : decode cX7_isLike 25 = .ok (.getfield 18, 3) := by decide +kernel
theorem dX7_isLike_28 : decode cX7_isLike 28 = .ok (.aload_n 1, 1) := by decide +kernel
theorem dX7_isLike_29 : decode cX7_isLike 29 = .ok (.getfield 18, 3) := by decide +kernel
theorem dX7_isLike_32 : decode cX7_isLike 32 = .ok (.lcmp, 1) := by decide +kernel
theorem dX7_isLike_33 : decode cX7_isLike 33 = .ok (.ifCond .ne 52, 3) := by decide +kernel
theorem dX7_isLike_36 : decode cX7_isLike 36 = .ok (.aload_n 0, 1) := by decide +kernel
theorem dX7_isLike_37 : decode cX7_isLike 37 = .ok (.getfield 21, 3) := by decide +kernel
theorem dX7_isLike_40 : decode cX7_isLike 40 = .ok (.aload_n 1, 1) := by decide +kernel
theorem dX7_isLike_41 : decode cX7_isLike 41 = .ok (.getfield 21, 3) := by decide +kernel
theorem dX7_isLike_44 : decode cX7_isLike 44 = .ok (.lcmp, 1) := by decide +kernel
theorem dX7_isLike_45 : decode cX7_isLike 45 = .ok (.ifCond .ne 40, 3) := by decide +kernel
theorem dX7_isLike_48 : decode cX7_isLike 48 = .ok (.aload_n 0, 1) := by decide +kernel
theorem dX7_isLike_49 : decode cX7_isLike 49 = .ok (.getfield 24, 3) := by decide +kernel
theorem dX7_isLike_52 : decode cX7_isLike 52 = .ok (.aload_n 1, 1) := by decide +kernel
theorem dX7_isLike_53 : decode cX7_isLike 53 = .ok (.getfield 24, 3) := by decide +kernel
theorem dX7_isLike_56 : decode cX7_isLike 56 = .ok (.if_icmp .ne 29, 3) := by decide +kernel
theorem dX7_isLike_59 : decode cX7_isLike 59 = .ok (.aload_n 0, 1) := by decide +kernel
theorem dX7_isLike_60 : decode cX7_isLike 60 = .ok (.getfield 28, 3) := by decide +kernel
theorem dX7_isLike_63 : decode cX7_isLike 63 = .ok (.aload_n 1, 1) := by decide +kernel
theorem dX7_isLike_64 : decode cX7_isLike 64 = .ok (.getfield 28, 3) := by decide +kernel
theorem dX7_isLike_67 : decode cX7_isLike 67 = .ok (.if_icmp .ne 18, 3) := by decide +kernel
theorem dX7_isLike_70 : decode cX7_isLike 70 = .ok (.aload_n 0, 1) := by decide +kernel
theorem dX7_isLike_71 : decode cX7_isLike 71 = .ok (.getfield 32, 3) := by decide +kernel
theorem dX7_isLike_74 : decode cX7_isLike 74 = .ok (.aload_n 1, 1) := by decide +kernel
theorem dX7_isLike_75 : decode cX7_isLike 75 = .ok (.getfield 32, 3) := by decide +kernel
theorem dX7_isLike_78 : decode cX7_isLike 78 = .ok (.if_icmp .ne 7, 3) := by decide +kernel
theorem dX7_isLike_81 : decode cX7_isLike 81 = .ok (.iconst 1, 1) := by decide +kernel
theorem dX7_isLike_82 : decode cX7_isLike 82 = .ok (.goto 4, 3) := by decide +kernel
theorem dX7_isLike_85 : decode cX7_isLike 85 = .ok (.iconst 0, 1) := by decide +kernel
theorem dX7_isLike_86 : decode cX7_isLike 86 = .ok (.ireturn, 1) := by decide +kernel
theorem dX7_attackers_0 : decode cX7_attackers 0 = .ok (.aload_n 0, 1) := by decide +kernel
theorem dX7_attackers_1 : decode cX7_attackers 1 = .ok (.getfield 35, 3) := by decide +kernel
theorem dX7_attackers_4 : decode cX7_attackers 4 = .ok (.iload_n 1, 1) := by decide +kernel
theorem dX7_attackers_5 : decode cX7_attackers 5 = .ok (.invokevirtual 93, 3) := by decide +kernel
theorem dX7_attackers_8 : decode cX7_attackers 8 = .ok (.ifCond .ne 5, 3) := by decide +kernel
theorem dX7_attackers_11 : decode cX7_attackers 11 = .ok (.lconst 0, 1) := by decide +kernel
theorem dX7_attackers_12 : decode cX7_attackers 12 = .ok (.lreturn, 1) := by decide +kernel
theorem dX7_attackers_13 : decode cX7_attackers 13 = .ok (.aload_n 0, 1) := by decide +kernel
theorem dX7_attackers_14 : decode cX7_attackers 14 = .ok (.iconst 2, 1) := by decide +kernel
theorem dX7_attackers_15 : decode cX7_attackers 15 = .ok (.invokevirtual 83, 3) := by decide +kernel
theorem dX7_attackers_18 : decode cX7_attackers 18 = .ok (.lstore 5, 2) := by decide +kernel
theorem dX7_attackers_20 : decode cX7_attackers 20 = .ok (.aload_n 0, 1) := by decide +kernel
theorem dX7_attackers_21 : decode cX7_attackers 21 = .ok (.getfield 35, 3) := by decide +kernel
theorem dX7_attackers_24 : decode cX7_attackers 24 = .ok (.getfield 99, 3) := by decide +kernel
theorem dX7_attackers_27 : decode cX7_attackers 27 = .ok (.iload_n 1, 1) := by decide +kernel
theorem dX7_attackers_28 : decode cX7_attackers 28 = .ok (.laload, 1) := by decide +kernel
theorem dX7_attackers_29 : decode cX7_attackers 29 = .ok (.aload_n 0, 1) := by decide +kernel
theorem dX7_attackers_30 : decode cX7_attackers 30 = .ok (.iconst 1, 1) := by decide +kernel
theorem dX7_attackers_31 : decode cX7_attackers 31 = .ok (.invokevirtual 83, 3) := by decide +kernel
theorem dX7_attackers_34 : decode cX7_attackers 34 = .ok (.land, 1) := by decide +kernel
theorem dX7_attackers_35 : decode cX7_attackers 35 = .ok (.aload_n 0, 1) := by decide +kernel
theorem dX7_attackers_36 : decode cX7_attackers 36 = .ok (.getfield 35, 3) := by decide +kernel
theorem dX7_attackers_39 : decode cX7_attackers 39 = .ok (.getfield 103, 3) := by decide +kernel
theorem dX7_attackers_42 : decode cX7_attackers 42 = .ok (.iload_n 1, 1) := by decide +kernel
theorem dX7_attackers_43 : decode cX7_attackers 43 = .ok (.laload, 1) := by decide +kernel
theorem dX7_attackers_44 : decode cX7_attackers 44 = .ok (.aload_n 0, 1) := by decide +kernel
theorem dX7_attackers_45 : decode cX7_attackers 45 = .ok (.iconst 5, 1) := by decide +kernel
theorem dX7_attackers_46 : decode cX7_attackers 46 = .ok (.invokevirtual 83, 3) := by decide +kernel
theorem dX7_attackers_49 : decode cX7_attackers 49 = .ok (.land, 1) := by decide +kernel
theorem dX7_attackers_50 : decode cX7_attackers 50 = .ok (.lor, 1) := by decide +kernel
theorem dX7_attackers_51 : decode cX7_attackers 51 = .ok (.aload_n 0, 1) := by decide +kernel
theorem dX7_attackers_52 : decode cX7_attackers 52 = .ok (.getfield 35, 3) := by decide +kernel
theorem dX7_attackers_55 : decode cX7_attackers 55 = .ok (.iload_n 1, 1) := by decide +kernel
theorem dX7_attackers_56 : decode cX7_attackers 56 = .ok (.iload_n 2, 1) := by decide +kernel
theorem dX7_attackers_57 : decode cX7_attackers 57 = .ok (.ifCond .ne 7, 3) := by decide +kernel
theorem dX7_attackers_60 : decode cX7_attackers 60 = .ok (.iconst 1, 1) := by decide +kernel
theorem dX7_attackers_61 : decode cX7_attackers 61 = .ok (.goto 4, 3) := by decide +kernel
theorem dX7_attackers_64 : decode cX7_attackers 64 = .ok (.iconst 0, 1) := by decide +kernel
theorem dX7_attackers_65 : decode cX7_attackers 65 = .ok (.invokevirtual 106, 3) := by decide +kernel
theorem dX7_attackers_68 : decode cX7_attackers 68 = .ok (.aload_n 0, 1) := by decide +kernel
theorem dX7_attackers_69 : decode cX7_attackers 69 = .ok (.bipush 6, 2) := by decide +kernel
theorem dX7_attackers_71 : decode cX7_attackers 71 = .ok (.invokevirtual 83, 3) := by decide +kernel
theorem dX7_attackers_74 : decode cX7_attackers 74 = .ok (.land, 1) := by decide +kernel
theorem dX7_attackers_75 : decode cX7_attackers 75 = .ok (.lor, 1) := by decide +kernel
theorem dX7_attackers_76 : decode cX7_attackers 76 = .ok (.aload_n 0, 1) := by decide +kernel
theorem dX7_attackers_77 : decode cX7_attackers 77 = .ok (.getfield 35, 3) := by decide +kernel
theorem dX7_attackers_80 : decode cX7_attackers 80 = .ok (.iload_n 1, 1) := by decide +kernel
theorem dX7_attackers_81 : decode cX7_attackers 81 = .ok (.iconst 1, 1) := by decide +kernel
theorem dX7_attackers_82 : decode cX7_attackers 82 = .ok (.lload_n 3, 1) := by decide +kernel
theorem dX7_attackers_83 : decode cX7_attackers 83 = .ok (.invokevirtual 110, 3) := by decide +kernel
theorem dX7_attackers_86 : decode cX7_attackers 86 = .ok (.aload_n 0, 1) := by decide +kernel
theorem dX7_attackers_87 : decode cX7_attackers 87 = .ok (.iconst 3, 1) := by decide +kernel
theorem dX7_attackers_88 : decode cX7_attackers 88 = .ok (.invokevirtual 83, 3) := by decide +kernel
theorem dX7_attackers_91 : decode cX7_attackers 91 = .ok (.lload 5, 2) := by decide +kernel
theorem dX7_attackers_93 : decode cX7_attackers 93 = .ok (.lor, 1) := by decide +kernel
theorem dX7_attackers_94 : decode cX7_attackers 94 = .ok (.land, 1) := by decide +kernel
theorem dX7_attackers_95 : decode cX7_attackers 95 = .ok (.lor, 1) := by decide +kernel
theorem dX7_attackers_96 : decode cX7_attackers 96 = .ok (.aload_n 0, 1) := by decide +kernel
theorem dX7_attackers_97 : decode cX7_attackers 97 = .ok (.getfield 35, 3) := by decide +kernel
theorem dX7_attackers_100 : decode cX7_attackers 100 = .ok (.iload_n 1, 1) := by decide +kernel
theorem dX7_attackers_101 : decode cX7_attackers 101 = .ok (.iconst 0, 1) := by decide +kernel
theorem dX7_attackers_102 : decode cX7_attackers 102 = .ok (.lload_n 3, 1) := by decide +kernel
theorem dX7_attackers_103 : decode cX7_attackers 103 = .ok (.invokevirtual 110, 3) := by decide +kernel
theorem dX7_attackers_106 : decode cX7_attackers 106 = .ok (.aload_n 0, 1) := by decide +kernel
theorem dX7_attackers_107 : decode cX7_attackers 107 = .ok (.iconst 4, 1) := by decide +kernel
theorem dX7_attackers_108 : decode cX7_attackers 108 = .ok (.invokevirtual 83, 3) := by decide +kernel
theorem dX7_attackers_111 : decode cX7_attackers 111 = .ok (.lload 5, 2) := by decide +kernel
theorem dX7_attackers_113 : decode cX7_attackers 113 = .ok (.lor, 1) := by decide +kernel
theorem dX7_attackers_114 : decode cX7_attackers 114 = .ok (.land, 1) := by decide +kernel
theorem dX7_attackers_115 : decode cX7_attackers 115 = .ok (.lor, 1) := by decide +kernel
theorem dX7_attackers_116 : decode cX7_attackers 116 = .ok (.lstore 7, 2) := by decide +kernel
theorem dX7_attackers_118 : decode cX7_attackers 118 = .ok (.lload 7, 2) := by decide +kernel
theorem dX7_attackers_120 : decode cX7_attackers 120 = .ok (.aload_n 0, 1) := by decide +kernel
theorem dX7_attackers_121 : decode cX7_attackers 121 = .ok (.iload_n 2, 1) := by decide +kernel
theorem dX7_attackers_122 : decode cX7_attackers 122 = .ok (.invokevirtual 114, 3) := by decide +kernel
theorem dX7_attackers_125 : decode cX7_attackers 125 = .ok (.land, 1) := by decide +kernel
theorem dX7_attackers_126 : decode cX7_attackers 126 = .ok (.lreturn, 1) := by decide +kernel
theorem dX7_hasSoundRights_0 : decode cX7_hasSoundRights 0 = .ok (.iload_n 1, 1) := by decide +kernel
theorem dX7_hasSoundRights_1 : decode cX7_hasSoundRights 1 = .ok (.ifCond .eq 12, 3) := by decide +kernel
theorem dX7_hasSoundRights_4 : decode cX7_hasSoundRights 4 = .ok (.aload_n 0, 1) := by decide +kernel
theorem dX7_hasSoundRights_5 : decode cX7_hasSoundRights 5 = .ok (.getfield 28, 3) := by decide +kernel
theorem dX7_hasSoundRights_8 : decode cX7_hasSoundRights 8 = .ok (.iconst 3, 1) := by decide +kernel
theorem dX7_hasSoundRights_9 : decode cX7_hasSoundRights 9 = .ok (.iand, 1) := by decide +kernel
theorem dX7_hasSoundRights_10 : decode cX7_hasSoundRights 10 = .ok (.goto 9, 3) := by decide +kernel
theorem dX7_hasSoundRights_13 : decode cX7_hasSoundRights 13 = .ok (.aload_n 0, 1) := by decide +kernel
theorem dX7_hasSoundRights_14 : decode cX7_hasSoundRights 14 = .ok (.getfield 28, 3) := by decide +kernel
theorem dX7_hasSoundRights_17 : decode cX7_hasSoundRights 17 = .ok (.iconst 2, 1) := by decide +kernel
theorem dX7_hasSoundRights_18 : decode cX7_hasSoundRights 18 = .ok (.iushr, 1) := by decide +kernel
theorem dX7_hasSoundRights_19 : decode cX7_hasSoundRights 19 = .ok (.istore_n 2, 1) := by decide +kernel
theorem dX7_hasSoundRights_20 : decode cX7_hasSoundRights 20 = .ok (.iload_n 2, 1) := by decide +kernel
theorem dX7_hasSoundRights_21 : decode cX7_hasSoundRights 21 = .ok (.ifCond .ne 5, 3) := by decide +kernel
theorem dX7_hasSoundRights_24 : decode cX7_hasSoundRights 24 = .ok (.iconst 1, 1) := by decide +kernel
theorem dX7_hasSoundRights_25 : decode cX7_hasSoundRights 25 = .ok (.ireturn, 1) := by decide +kernel
theorem dX7_hasSoundRights_26 : decode cX7_hasSoundRights 26 = .ok (.iload_n 1, 1) := by decide +kernel
theorem dX7_hasSoundRights_27 : decode cX7_hasSoundRights 27 = .ok (.ifCond .eq 7, 3) := by decide +kernel
theorem dX7_hasSoundRights_30 : decode cX7_hasSoundRights 30 = .ok (.iconst 0, 1) := by decide +kernel
theorem dX7_hasSoundRights_31 : decode cX7_hasSoundRights 31 = .ok (.goto 13, 3) := by decide +kernel
theorem dX7_hasSoundRights_34 : decode cX7_hasSoundRights 34 = .ok (.aload_n 0, 1) := by decide +kernel
theorem dX7_hasSoundRights_35 : decode cX7_hasSoundRights 35 = .ok (.getfield 35, 3) := by decide +kernel
theorem dX7_hasSoundRights_38 : decode cX7_hasSoundRights 38 = .ok (.getfield 135, 3) := by decide +kernel
theorem dX7_hasSoundRights_41 : decode cX7_hasSoundRights 41 = .ok (.bipush 8, 2) := by decide +kernel
theorem dX7_hasSoundRights_43 : decode cX7_hasSoundRights 43 = .ok (.isub, 1) := by decide +kernel
theorem dX7_hasSoundRights_44 : decode cX7_hasSoundRights 44 = .ok (.istore_n 3, 1) := by decide +kernel
theorem dX7_hasSoundRights_45 : decode cX7_hasSoundRights 45 = .ok (.iload_n 1, 1) := by decide +kernel
theorem dX7_hasSoundRights_46 : decode cX7_hasSoundRights 46 = .ok (.ifCond .eq 7, 3) := by decide +kernel
theorem dX7_hasSoundRights_49 : decode cX7_hasSoundRights 49 = .ok (.iconst 0, 1) := by decide +kernel
theorem dX7_hasSoundRights_50 : decode cX7_hasSoundRights 50 = .ok (.goto 5, 3) := by decide +kernel
theorem dX7_hasSoundRights_53 : decode cX7_hasSoundRights 53 = .ok (.bipush 6, 2) := by decide +kernel
theorem dX7_hasSoundRights_55 : decode cX7_hasSoundRights 55 = .ok (.istore 4, 2) := by decide +kernel
theorem dX7_hasSoundRights_57 : decode cX7_hasSoundRights 57 = .ok (.aload_n 0, 1) := by decide +kernel
theorem dX7_hasSoundRights_58 : decode cX7_hasSoundRights 58 = .ok (.getfield 35, 3) := by decide +kernel
theorem dX7_hasSoundRights_61 : decode cX7_hasSoundRights 61 = .ok (.getfield 138, 3) := by decide +kernel
theorem dX7_hasSoundRights_64 : decode cX7_hasSoundRights 64 = .ok (.bipush 8, 2) := by decide +kernel
theorem dX7_hasSoundRights_66 : decode cX7_hasSoundRights 66 = .ok (.if_icmp .ne 17, 3) := by decide +kernel
theorem dX7_hasSoundRights_69 : decode cX7_hasSoundRights 69 = .ok (.aload_n 0, 1) := by decide +kernel
theorem dX7_hasSoundRights_70 : decode cX7_hasSoundRights 70 = .ok (.iload_n 3, 1) := by decide +kernel
theorem dX7_hasSoundRights_71 : decode cX7_hasSoundRights 71 = .ok (.iconst 4, 1) := by decide +kernel
theorem dX7_hasSoundRights_72 : decode cX7_hasSoundRights 72 = .ok (.iadd, 1) := by decide +kernel
theorem dX7_hasSoundRights_73 : decode cX7_hasSoundRights 73 = .ok (.invokevirtual 141, 3) := by decide +kernel
theorem dX7_hasSoundRights_76 : decode cX7_hasSoundRights 76 = .ok (.iconst 1, 1) := by decide +kernel
theorem dX7_hasSoundRights_77 : decode cX7_hasSoundRights 77 = .ok (.iload 4, 2) := by decide +kernel
theorem dX7_hasSoundRights_79 : decode cX7_hasSoundRights 79 = .ok (.iadd, 1) := by decide +kernel
theorem dX7_hasSoundRights_80 : decode cX7_hasSoundRights 80 = .ok (.if_icmp .eq 5, 3) := by decide +kernel
theorem dX7_hasSoundRights_83 : decode cX7_hasSoundRights 83 = .ok (.iconst 0, 1) := by decide +kernel
theorem dX7_hasSoundRights_84 : decode cX7_hasSoundRights 84 = .ok (.ireturn, 1) := by decide +kernel
theorem dX7_hasSoundRights_85 : decode cX7_hasSoundRights 85 = .ok (.iload_n 2, 1) := by decide +kernel
theorem dX7_hasSoundRights_86 : decode cX7_hasSoundRights 86 = .ok (.iconst 1, 1) := by decide +kernel
theorem dX7_hasSoundRights_87 : decode cX7_hasSoundRights 87 = .ok (.iand, 1) := by decide +kernel
theorem dX7_hasSoundRights_88 : decode cX7_hasSoundRights 88 = .ok (.ifCond .eq 18, 3) := by decide +kernel
theorem dX7_hasSoundRights_91 : decode cX7_hasSoundRights 91 = .ok (.aload_n 0, 1) := by decide +kernel
theorem dX7_hasSoundRights_92 : decode cX7_hasSoundRights 92 = .ok (.iload_n 3, 1) := by decide +kernel
theorem dX7_hasSoundRights_93 : decode cX7_hasSoundRights 93 = .ok (.bipush 7, 2) := by decide +kernel
theorem dX7_hasSoundRights_95 : decode cX7_hasSoundRights 95 = .ok (.iadd, 1) := by decide +kernel
theorem dX7_hasSoundRights_96 : decode cX7_hasSoundRights 96 = .ok (.invokevirtual 141, 3) := by decide +kernel
theorem dX7_hasSoundRights_99 : decode cX7_hasSoundRights 99 = .ok (.iconst 3, 1) := by decide +kernel
theorem dX7_hasSoundRights_100 : decode cX7_hasSoundRights 100 = .ok (.iload 4, 2) := by decide +kernel
theorem dX7_hasSoundRights_102 : decode cX7_hasSoundRights 102 = .ok (.iadd, 1) := by decide +kernel
theorem dX7_hasSoundRights_103 : decode cX7_hasSoundRights 103 = .ok (.if_icmp .ne 7, 3) := by decide +kernel
theorem dX7_hasSoundRights_106 : decode cX7_hasSoundRights 106 = .ok (.iconst 1, 1) := by decide +kernel
theorem dX7_hasSoundRights_107 : decode cX7_hasSoundRights 107 = .ok (.goto 4, 3) := by decide +kernel
theorem dX7_hasSoundRights_110 : decode cX7_hasSoundRights 110 = .ok (.iconst 0, 1) := by decide +kernel
theorem dX7_hasSoundRights_111 : decode cX7_hasSoundRights 111 = .ok (.istore 5, 2) := by decide +kernel
theorem dX7_hasSoundRights_113 : decode cX7_hasSoundRights 113 = .ok (.iload_n 2, 1) := by decide +kernel
theorem dX7_hasSoundRights_114 : decode cX7_hasSoundRights 114 = .ok (.iconst 2, 1) := by decide +kernel
theorem dX7_hasSoundRights_115 : decode cX7_hasSoundRights 115 = .ok (.iand, 1) := by decide +kernel
theorem dX7_hasSoundRights_116 : decode cX7_hasSoundRights 116 = .ok (.ifCond .eq 15, 3) := by decide +kernel
theorem dX7_hasSoundRights_119 : decode cX7_hasSoundRights 119 = .ok (.aload_n 0, 1) := by decide +kernel
theorem dX7_hasSoundRights_120 : decode cX7_hasSoundRights 120 = .ok (.iload_n 3, 1) := by decide +kernel
theorem dX7_hasSoundRights_121 : decode cX7_hasSoundRights 121 = .ok (.invokevirtual 141, 3) := by decide +kernel
theorem dX7_hasSoundRights_124 : decode cX7_hasSoundRights 124 = .ok (.iconst 3, 1) := by decide +kernel
theorem dX7_hasSoundRights_125 : decode cX7_hasSoundRights 125 = .ok (.iload 4, 2) := by decide +kernel
theorem dX7_hasSoundRights_127 : decode cX7_hasSoundRights 127 = .ok (.iadd, 1) := by decide +kernel
theorem dX7_hasSoundRights_128 : decode cX7_hasSoundRights 128 = .ok (.if_icmp .ne 7, 3) := by decide +kernel
theorem dX7_hasSoundRights_131 : decode cX7_hasSoundRights 131 = .ok (.iconst 1, 1) := by decide +kernel
theorem dX7_hasSoundRights_132 : decode cX7_hasSoundRights 132 = .ok (.goto 4, 3) := by decide +kernel
theorem dX7_hasSoundRights_135 : decode cX7_hasSoundRights 135 = .ok (.iconst 0, 1) := by decide +kernel
theorem dX7_hasSoundRights_136 : decode cX7_hasSoundRights 136 = .ok (.istore 6, 2) := by decide +kernel
theorem dX7_hasSoundRights_138 : decode cX7_hasSoundRights 138 = .ok (.iload 5, 2) := by decide +kernel
theorem dX7_hasSoundRights_140 : decode cX7_hasSoundRights 140 = .ok (.ifCond .eq 12, 3) := by decide +kernel
theorem dX7_hasSoundRights_143 : decode cX7_hasSoundRights 143 = .ok (.iload 6, 2) := by decide +kernel
theorem dX7_hasSoundRights_145 : decode cX7_hasSoundRights 145 = .ok (.ifCond .eq 7, 3) := by decide +kernel
theorem dX7_hasSoundRights_148 : decode cX7_hasSoundRights 148 = .ok (.iconst 1, 1) := by decide +kernel
theorem dX7_hasSoundRights_149 : decode cX7_hasSoundRights 149 = .ok (.goto 4, 3) := by decide +kernel
theorem dX7_hasSoundRights_152 : decode cX7_hasSoundRights 152 = .ok (.iconst 0, 1) := by decide +kernel
theorem dX7_hasSoundRights_153 : decode cX7_hasSoundRights 153 = .ok (.ireturn, 1) := by decide +kernel
theorem dX7_kingOf_0 : decode cX7_kingOf 0 = .ok (.aload_n 0, 1) := by decide +kernel
theorem dX7_kingOf_1 : decode cX7_kingOf 1 = .ok (.iconst 1, 1) := by decide +kernel
theorem dX7_kingOf_2 : decode cX7_kingOf 2 = .ok (.invokevirtual 83, 3) := by decide +kernel
theorem dX7_kingOf_5 : decode cX7_kingOf 5 = .ok (.iload_n 1, 1) := by decide +kernel
theorem dX7_kingOf_6 : decode cX7_kingOf 6 = .ok (.ifCond .eq 10, 3) := by decide +kernel
theorem dX7_kingOf_9 : decode cX7_kingOf 9 = .ok (.aload_n 0, 1) := by decide +kernel
theorem dX7_kingOf_10 : decode cX7_kingOf 10 = .ok (.getfield 9, 3) := by decide +kernel
theorem dX7_kingOf_13 : decode cX7_kingOf 13 = .ok (.goto 11, 3) := by decide +kernel
theorem dX7_kingOf_16 : decode cX7_kingOf 16 = .ok (.aload_n 0, 1) := by decide +kernel
theorem dX7_kingOf_17 : decode cX7_kingOf 17 = .ok (.getfield 9, 3) := by decide +kernel
theorem dX7_kingOf_20 : decode cX7_kingOf 20 = .ok (.ldc2_w 70, 3) := by decide +kernel
theorem dX7_kingOf_23 : decode cX7_kingOf 23 = .ok (.lxor, 1) := by decide +kernel
theorem dX7_kingOf_24 : decode cX7_kingOf 24 = .ok (.land, 1) := by decide +kernel
theorem dX7_kingOf_25 : decode cX7_kingOf 25 = .ok (.lstore_n 2, 1) := by decide +kernel
theorem dX7_kingOf_26 : decode cX7_kingOf 26 = .ok (.lload_n 2, 1) := by decide +kernel
theorem dX7_kingOf_27 : decode cX7_kingOf 27 = .ok (.lconst 0, 1) := by decide +kernel
theorem dX7_kingOf_28 : decode cX7_kingOf 28 = .ok (.lcmp, 1) := by decide +kernel
theorem dX7_kingOf_29 : decode cX7_kingOf 29 = .ok (.ifCond .ne 7, 3) := by decide +kernel
theorem dX7_kingOf_32 : decode cX7_kingOf 32 = .ok (.iconst (-1), 1) := by decide +kernel
theorem dX7_kingOf_33 : decode cX7_kingOf 33 = .ok (.goto 12, 3) := by decide +kernel
theorem dX7_kingOf_36 : decode cX7_kingOf 36 = .ok (.lload_n 2, 1) := by decide +kernel
theorem dX7_kingOf_37 : decode cX7_kingOf 37 = .ok (.lload_n 2, 1) := by decide +kernel
theorem dX7_kingOf_38 : decode cX7_kingOf 38 = .ok (.lneg, 1) := by decide +kernel
theorem dX7_kingOf_39 : decode cX7_kingOf 39 = .ok (.land, 1) := by decide +kernel
theorem dX7_kingOf_40 : decode cX7_kingOf 40 = .ok (.lconst 1, 1) := by decide +kernel
theorem dX7_kingOf_41 : decode cX7_kingOf 41 = .ok (.lsub, 1) := by decide +kernel
theorem dX7_kingOf_42 : decode cX7_kingOf 42 = .ok (.invokestatic 87, 3) := by decide +kernel
theorem dX7_kingOf_45 : decode cX7_kingOf 45 = .ok (.ireturn, 1) := by decide +kernel
theorem dX7_occupied_0 : decode cX7_occupied 0 = .ok (.aload_n 0, 1) := by decide +kernel
theorem dX7_occupied_1 : decode cX7_occupied 1 = .ok (.getfield 15, 3) := by decide +kernel
theorem dX7_occupied_4 : decode cX7_occupied 4 = .ok (.aload_n 0, 1) := by decide +kernel
theorem dX7_occupied_5 : decode cX7_occupied 5 = .ok (.getfield 18, 3) := by decide +kernel
theorem dX7_occupied_8 : decode cX7_occupied 8 = .ok (.lor, 1) := by decide +kernel
theorem dX7_occupied_9 : decode cX7_occupied 9 = .ok (.aload_n 0, 1) := by decide +kernel
theorem dX7_occupied_10 : decode cX7_occupied 10 = .ok (.getfield 21, 3) := by decide +kernel
theorem dX7_occupied_13 : decode cX7_occupied 13 = .ok (.lor, 1) := by decide +kernel
theorem dX7_occupied_14 : decode cX7_occupied 14 = .ok (.lreturn, 1) := by decide +kernel
theorem dX7_isLawful_0 : decode cX7_isLawful 0 = .ok (.aload_n 0, 1) := by decide +kernel
theorem dX7_isLawful_1 : decode cX7_isLawful 1 = .ok (.iconst 1, 1) := by decide +kernel
theorem dX7_isLawful_2 : decode cX7_isLawful 2 = .ok (.invokevirtual 83, 3) := by decide +kernel
theorem dX7_isLawful_5 : decode cX7_isLawful 5 = .ok (.lstore_n 1, 1) := by decide +kernel
theorem dX7_isLawful_6 : decode cX7_isLawful 6 = .ok (.lload_n 1, 1) := by decide +kernel
theorem dX7_isLawful_7 : decode cX7_isLawful 7 = .ok (.aload_n 0, 1) := by decide +kernel
theorem dX7_isLawful_8 : decode cX7_isLawful 8 = .ok (.getfield 9, 3) := by decide +kernel
theorem dX7_isLawful_11 : decode cX7_isLawful 11 = .ok (.land, 1) := by decide +kernel
theorem dX7_isLawful_12 : decode cX7_isLawful 12 = .ok (.invokestatic 87, 3) := by decide +kernel
theorem dX7_isLawful_15 : decode cX7_isLawful 15 = .ok (.iconst 1, 1) := by decide +kernel
theorem dX7_isLawful_16 : decode cX7_isLawful 16 = .ok (.if_icmp .ne 20, 3) := by decide +kernel
theorem dX7_isLawful_19 : decode cX7_isLawful 19 = .ok (.lload_n 1, 1) := by decide +kernel
theorem dX7_isLawful_20 : decode cX7_isLawful 20 = .ok (.aload_n 0, 1) := by decide +kernel
theorem dX7_isLawful_21 : decode cX7_isLawful 21 = .ok (.getfield 9, 3) := by decide +kernel
theorem dX7_isLawful_24 : decode cX7_isLawful 24 = .ok (.ldc2_w 70, 3) := by decide +kernel
theorem dX7_isLawful_27 : decode cX7_isLawful 27 = .ok (.lxor, 1) := by decide +kernel
theorem dX7_isLawful_28 : decode cX7_isLawful 28 = .ok (.land, 1) := by decide +kernel
theorem dX7_isLawful_29 : decode cX7_isLawful 29 = .ok (.invokestatic 87, 3) := by decide +kernel
theorem dX7_isLawful_32 : decode cX7_isLawful 32 = .ok (.iconst 1, 1) := by decide +kernel
theorem dX7_isLawful_33 : decode cX7_isLawful 33 = .ok (.if_icmp .eq 5, 3) := by decide +kernel
theorem dX7_isLawful_36 : decode cX7_isLawful 36 = .ok (.iconst 0, 1) := by decide +kernel
theorem dX7_isLawful_37 : decode cX7_isLawful 37 = .ok (.ireturn, 1) := by decide +kernel
theorem dX7_isLawful_38 : decode cX7_isLawful 38 = .ok (.aload_n 0, 1) := by decide +kernel
theorem dX7_isLawful_39 : decode cX7_isLawful 39 = .ok (.bipush 6, 2) := by decide +kernel
theorem dX7_isLawful_41 : decode cX7_isLawful 41 = .ok (.invokevirtual 83, 3) := by decide +kernel
theorem dX7_isLawful_44 : decode cX7_isLawful 44 = .ok (.aload_n 0, 1) := by decide +kernel
theorem dX7_isLawful_45 : decode cX7_isLawful 45 = .ok (.getfield 35, 3) := by decide +kernel
theorem dX7_isLawful_48 : decode cX7_isLawful 48 = .ok (.getfield 128, 3) := by decide +kernel
theorem dX7_isLawful_51 : decode cX7_isLawful 51 = .ok (.land, 1) := by decide +kernel
theorem dX7_isLawful_52 : decode cX7_isLawful 52 = .ok (.lconst 0, 1) := by decide +kernel
theorem dX7_isLawful_53 : decode cX7_isLawful 53 = .ok (.lcmp, 1) := by decide +kernel
theorem dX7_isLawful_54 : decode cX7_isLawful 54 = .ok (.ifCond .eq 5, 3) := by decide +kernel
theorem dX7_isLawful_57 : decode cX7_isLawful 57 = .ok (.iconst 0, 1) := by decide +kernel
theorem dX7_isLawful_58 : decode cX7_isLawful 58 = .ok (.ireturn, 1) := by decide +kernel
theorem dX7_isLawful_59 : decode cX7_isLawful 59 = .ok (.aload_n 0, 1) := by decide +kernel
theorem dX7_isLawful_60 : decode cX7_isLawful 60 = .ok (.aload_n 0, 1) := by decide +kernel
theorem dX7_isLawful_61 : decode cX7_isLawful 61 = .ok (.aload_n 0, 1) := by decide +kernel
theorem dX7_isLawful_62 : decode cX7_isLawful 62 = .ok (.getfield 24, 3) := by decide +kernel
theorem dX7_isLawful_65 : decode cX7_isLawful 65 = .ok (.ifCond .ne 7, 3) := by decide +kernel
theorem dX7_isLawful_68 : decode cX7_isLawful 68 = .ok (.iconst 1, 1) := by decide +kernel
theorem dX7_isLawful_69 : decode cX7_isLawful 69 = .ok (.goto 4, 3) := by decide +kernel
theorem dX7_isLawful_72 : decode cX7_isLawful 72 = .ok (.iconst 0, 1) := by decide +kernel
theorem dX7_isLawful_73 : decode cX7_isLawful 73 = .ok (.invokevirtual 118, 3) := by decide +kernel
theorem dX7_isLawful_76 : decode cX7_isLawful 76 = .ok (.aload_n 0, 1) := by decide +kernel
theorem dX7_isLawful_77 : decode cX7_isLawful 77 = .ok (.getfield 24, 3) := by decide +kernel
theorem dX7_isLawful_80 : decode cX7_isLawful 80 = .ok (.aload_n 0, 1) := by decide +kernel
theorem dX7_isLawful_81 : decode cX7_isLawful 81 = .ok (.invokevirtual 122, 3) := by decide +kernel
theorem dX7_isLawful_84 : decode cX7_isLawful 84 = .ok (.invokevirtual 125, 3) := by decide +kernel
theorem dX7_isLawful_87 : decode cX7_isLawful 87 = .ok (.lconst 0, 1) := by decide +kernel
theorem dX7_isLawful_88 : decode cX7_isLawful 88 = .ok (.lcmp, 1) := by decide +kernel
theorem dX7_isLawful_89 : decode cX7_isLawful 89 = .ok (.ifCond .eq 5, 3) := by decide +kernel
theorem dX7_isLawful_92 : decode cX7_isLawful 92 = .ok (.iconst 0, 1) := by decide +kernel
theorem dX7_isLawful_93 : decode cX7_isLawful 93 = .ok (.ireturn, 1) := by decide +kernel
theorem dX7_isLawful_94 : decode cX7_isLawful 94 = .ok (.aload_n 0, 1) := by decide +kernel
theorem dX7_isLawful_95 : decode cX7_isLawful 95 = .ok (.iconst 1, 1) := by decide +kernel
theorem dX7_isLawful_96 : decode cX7_isLawful 96 = .ok (.invokevirtual 131, 3) := by decide +kernel
theorem dX7_isLawful_99 : decode cX7_isLawful 99 = .ok (.ifCond .eq 15, 3) := by decide +kernel
theorem dX7_isLawful_102 : decode cX7_isLawful 102 = .ok (.aload_n 0, 1) := by decide +kernel
theorem dX7_isLawful_103 : decode cX7_isLawful 103 = .ok (.iconst 0, 1) := by decide +kernel
theorem dX7_isLawful_104 : decode cX7_isLawful 104 = .ok (.invokevirtual 131, 3) := by decide +kernel
theorem dX7_isLawful_107 : decode cX7_isLawful 107 = .ok (.ifCond .eq 7, 3) := by decide +kernel
theorem dX7_isLawful_110 : decode cX7_isLawful 110 = .ok (.iconst 1, 1) := by decide +kernel
theorem dX7_isLawful_111 : decode cX7_isLawful 111 = .ok (.goto 4, 3) := by decide +kernel
theorem dX7_isLawful_114 : decode cX7_isLawful 114 = .ok (.iconst 0, 1) := by decide +kernel
theorem dX7_isLawful_115 : decode cX7_isLawful 115 = .ok (.ireturn, 1) := by decide +kernel
theorem dX11_isFirstLawful_0 : decode cX11_isFirstLawful 0 = .ok (.aload_n 0, 1) := by decide +kernel
theorem dX11_isFirstLawful_1 : decode cX11_isFirstLawful 1 = .ok (.getfield 40, 3) := by decide +kernel
theorem dX11_isFirstLawful_4 : decode cX11_isFirstLawful 4 = .ok (.getfield 157, 3) := by decide +kernel
theorem dX11_isFirstLawful_7 : decode cX11_isFirstLawful 7 = .ok (.ifCond .gt 13, 3) := by decide +kernel
theorem dX11_isFirstLawful_10 : decode cX11_isFirstLawful 10 = .ok (.aload_n 0, 1) := by decide +kernel
theorem dX11_isFirstLawful_11 : decode cX11_isFirstLawful 11 = .ok (.getfield 28, 3) := by decide +kernel
theorem dX11_isFirstLawful_14 : decode cX11_isFirstLawful 14 = .ok (.invokevirtual 209, 3) := by decide +kernel
theorem dX11_isFirstLawful_17 : decode cX11_isFirstLawful 17 = .ok (.ifCond .eq 7, 3) := by decide +kernel
theorem dX11_isFirstLawful_20 : decode cX11_isFirstLawful 20 = .ok (.iconst 1, 1) := by decide +kernel
theorem dX11_isFirstLawful_21 : decode cX11_isFirstLawful 21 = .ok (.goto 4, 3) := by decide +kernel
theorem dX11_isFirstLawful_24 : decode cX11_isFirstLawful 24 = .ok (.iconst 0, 1) := by decide +kernel
theorem dX11_isFirstLawful_25 : decode cX11_isFirstLawful 25 = .ok (.ireturn, 1) := by decide +kernel
theorem dX11_mustBeLawful_0 : decode cX11_mustBeLawful 0 = .ok (.aload_n 0, 1) := by decide +kernel
theorem dX11_mustBeLawful_1 : decode cX11_mustBeLawful 1 = .ok (.invokevirtual 323, 3) := by decide +kernel
theorem dX11_mustBeLawful_4 : decode cX11_mustBeLawful 4 = .ok (.ifCond .ne 14, 3) := by decide +kernel
theorem dX11_mustBeLawful_7 : decode cX11_mustBeLawful 7 = .ok (.new 285, 3) := by decide +kernel
theorem dX11_mustBeLawful_10 : decode cX11_mustBeLawful 10 = .ok (.dup, 1) := by decide +kernel
theorem dX11_mustBeLawful_11 : decode cX11_mustBeLawful 11 = .ok (.ldc_w 326, 3) := by decide +kernel
theorem dX11_mustBeLawful_14 : decode cX11_mustBeLawful 14 = .ok (.invokespecial 289, 3) := by decide +kernel
theorem dX11_mustBeLawful_17 : decode cX11_mustBeLawful 17 = .ok (.athrow, 1) := by decide +kernel
theorem dX11_mustBeLawful_18 : decode cX11_mustBeLawful 18 = .ok (.return_, 1) := by decide +kernel
theorem dX11_shelfOf_0 : decode cX11_shelfOf 0 = .ok (.iload_n 1, 1) := by decide +kernel
theorem dX11_shelfOf_1 : decode cX11_shelfOf 1 = .ok (.ifCond .eq 19, 3) := by decide +kernel
theorem dX11_shelfOf_4 : decode cX11_shelfOf 4 = .ok (.iload_n 1, 1) := by decide +kernel
theorem dX11_shelfOf_5 : decode cX11_shelfOf 5 = .ok (.iconst 1, 1) := by decide +kernel
theorem dX11_shelfOf_6 : decode cX11_shelfOf 6 = .ok (.if_icmp .eq 14, 3) := by decide +kernel
theorem dX11_shelfOf_9 : decode cX11_shelfOf 9 = .ok (.new 235, 3) := by decide +kernel
theorem dX11_shelfOf_12 : decode cX11_shelfOf 12 = .ok (.dup, 1) := by decide +kernel
theorem dX11_shelfOf_13 : decode cX11_shelfOf 13 = .ok (.ldc_w 501, 3) := by decide +kernel
theorem dX11_shelfOf_16 : decode cX11_shelfOf 16 = .ok (.invokespecial 239, 3) := by decide +kernel
theorem dX11_shelfOf_19 : decode cX11_shelfOf 19 = .ok (.athrow, 1) := by decide +kernel
theorem dX11_shelfOf_20 : decode cX11_shelfOf 20 = .ok (.iload_n 1, 1) := by decide +kernel
theorem dX11_shelfOf_21 : decode cX11_shelfOf 21 = .ok (.ifCond .ne 10, 3) := by decide +kernel
theorem dX11_shelfOf_24 : decode cX11_shelfOf 24 = .ok (.aload_n 0, 1) := by decide +kernel
theorem dX11_shelfOf_25 : decode cX11_shelfOf 25 = .ok (.getfield 72, 3) := by decide +kernel
theorem dX11_shelfOf_28 : decode cX11_shelfOf 28 = .ok (.goto 7, 3) := by decide +kernel
theorem dX11_shelfOf_31 : decode cX11_shelfOf 31 = .ok (.aload_n 0, 1) := by decide +kernel
theorem dX11_shelfOf_32 : decode cX11_shelfOf 32 = .ok (.getfield 76, 3) := by decide +kernel
theorem dX11_shelfOf_35 : decode cX11_shelfOf 35 = .ok (.areturn, 1) := by decide +kernel
theorem dX11_mustBeSquare_0 : decode cX11_mustBeSquare 0 = .ok (.aload_n 0, 1) := by decide +kernel
theorem dX11_mustBeSquare_1 : decode cX11_mustBeSquare 1 = .ok (.getfield 12, 3) := by decide +kernel
theorem dX11_mustBeSquare_4 : decode cX11_mustBeSquare 4 = .ok (.iload_n 1, 1) := by decide +kernel
theorem dX11_mustBeSquare_5 : decode cX11_mustBeSquare 5 = .ok (.invokevirtual 492, 3) := by decide +kernel
theorem dX11_mustBeSquare_8 : decode cX11_mustBeSquare 8 = .ok (.ifCond .ne 14, 3) := by decide +kernel
theorem dX11_mustBeSquare_11 : decode cX11_mustBeSquare 11 = .ok (.new 235, 3) := by decide +kernel
theorem dX11_mustBeSquare_14 : decode cX11_mustBeSquare 14 = .ok (.dup, 1) := by decide +kernel
theorem dX11_mustBeSquare_15 : decode cX11_mustBeSquare 15 = .ok (.ldc_w 495, 3) := by decide +kernel
theorem dX11_mustBeSquare_18 : decode cX11_mustBeSquare 18 = .ok (.invokespecial 239, 3) := by decide +kernel
theorem dX11_mustBeSquare_21 : decode cX11_mustBeSquare 21 = .ok (.athrow, 1) := by decide +kernel
theorem dX11_mustBeSquare_22 : decode cX11_mustBeSquare 22 = .ok (.return_, 1) := by decide +kernel
theorem dX11_ask_0 : decode cX11_ask 0 = .ok (.aload_n 0, 1) := by decide +kernel
theorem dX11_ask_1 : decode cX11_ask 1 = .ok (.iload_n 1, 1) := by decide +kernel
theorem dX11_ask_2 : decode cX11_ask 2 = .ok (.invokevirtual 160, 3) := by decide +kernel
theorem dX11_ask_5 : decode cX11_ask 5 = .ok (.iload_n 2, 1) := by decide +kernel
theorem dX11_ask_6 : decode cX11_ask 6 = .ok (.ifCond .lt 9, 3) := by decide +kernel
theorem dX11_ask_9 : decode cX11_ask 9 = .ok (.iload_n 2, 1) := by decide +kernel
theorem dX11_ask_10 : decode cX11_ask 10 = .ok (.bipush 15, 2) := by decide +kernel
theorem dX11_ask_12 : decode cX11_ask 12 = .ok (.if_icmp .le 14, 3) := by decide +kernel
theorem dX11_ask_15 : decode cX11_ask 15 = .ok (.new 140, 3) := by decide +kernel
theorem dX11_ask_18 : decode cX11_ask 18 = .ok (.dup, 1) := by decide +kernel
theorem dX11_ask_19 : decode cX11_ask 19 = .ok (.ldc_w 422, 3) := by decide +kernel
theorem dX11_ask_22 : decode cX11_ask 22 = .ok (.invokespecial 144, 3) := by decide +kernel
theorem dX11_ask_25 : decode cX11_ask 25 = .ok (.athrow, 1) := by decide +kernel
theorem dX11_ask_26 : decode cX11_ask 26 = .ok (.bipush 15, 2) := by decide +kernel
theorem dX11_ask_28 : decode cX11_ask 28 = .ok (.istore_n 3, 1) := by decide +kernel
theorem dX11_ask_29 : decode cX11_ask 29 = .ok (.iload_n 1, 1) := by decide +kernel
theorem dX11_ask_30 : decode cX11_ask 30 = .ok (.aload_n 0, 1) := by decide +kernel
theorem dX11_ask_31 : decode cX11_ask 31 = .ok (.getfield 112, 3) := by decide +kernel
theorem dX11_ask_34 : decode cX11_ask 34 = .ok (.arraylength, 1) := by decide +kernel
theorem dX11_ask_35 : decode cX11_ask 35 = .ok (.if_icmp .ge 17, 3) := by decide +kernel
theorem dX11_ask_38 : decode cX11_ask 38 = .ok (.aload_n 0, 1) := by decide +kernel
theorem dX11_ask_39 : decode cX11_ask 39 = .ok (.getfield 112, 3) := by decide +kernel
theorem dX11_ask_42 : decode cX11_ask 42 = .ok (.iload_n 1, 1) := by decide +kernel
theorem dX11_ask_43 : decode cX11_ask 43 = .ok (.iaload, 1) := by decide +kernel
theorem dX11_ask_44 : decode cX11_ask 44 = .ok (.istore_n 3, 1) := by decide +kernel
theorem dX11_ask_45 : decode cX11_ask 45 = .ok (.aload_n 0, 1) := by decide +kernel
theorem dX11_ask_46 : decode cX11_ask 46 = .ok (.getfield 112, 3) := by decide +kernel
theorem dX11_ask_49 : decode cX11_ask 49 = .ok (.iload_n 1, 1) := by decide +kernel
theorem dX11_ask_50 : decode cX11_ask 50 = .ok (.iload_n 2, 1) := by decide +kernel
theorem dX11_ask_51 : decode cX11_ask 51 = .ok (.iastore, 1) := by decide +kernel
theorem dX11_ask_52 : decode cX11_ask 52 = .ok (.iload_n 3, 1) := by decide +kernel
theorem dX11_ask_53 : decode cX11_ask 53 = .ok (.ireturn, 1) := by decide +kernel
theorem dX11_checkers_0 : decode cX11_checkers 0 = .ok (.aload_n 0, 1) := by decide +kernel
theorem dX11_checkers_1 : decode cX11_checkers 1 = .ok (.invokevirtual 217, 3) := by decide +kernel
theorem dX11_checkers_4 : decode cX11_checkers 4 = .ok (.aload_n 0, 1) := by decide +kernel
theorem dX11_checkers_5 : decode cX11_checkers 5 = .ok (.getfield 28, 3) := by decide +kernel
theorem dX11_checkers_8 : decode cX11_checkers 8 = .ok (.aload_n 0, 1) := by decide +kernel
theorem dX11_checkers_9 : decode cX11_checkers 9 = .ok (.getfield 28, 3) := by decide +kernel
theorem dX11_checkers_12 : decode cX11_checkers 12 = .ok (.getfield 183, 3) := by decide +kernel
theorem dX11_checkers_15 : decode cX11_checkers 15 = .ok (.invokevirtual 220, 3) := by decide +kernel
theorem dX11_checkers_18 : decode cX11_checkers 18 = .ok (.istore_n 1, 1) := by decide +kernel
theorem dX11_checkers_19 : decode cX11_checkers 19 = .ok (.aload_n 0, 1) := by decide +kernel
theorem dX11_checkers_20 : decode cX11_checkers 20 = .ok (.getfield 28, 3) := by decide +kernel
theorem dX11_checkers_23 : decode cX11_checkers 23 = .ok (.iload_n 1, 1) := by decide +kernel
theorem dX11_checkers_24 : decode cX11_checkers 24 = .ok (.aload_n 0, 1) := by decide +kernel
theorem dX11_checkers_25 : decode cX11_checkers 25 = .ok (.getfield 28, 3) := by decide +kernel
theorem dX11_checkers_28 : decode cX11_checkers 28 = .ok (.getfield 183, 3) := by decide +kernel
theorem dX11_checkers_31 : decode cX11_checkers 31 = .ok (.ifCond .ne 7, 3) := by decide +kernel
theorem dX11_checkers_34 : decode cX11_checkers 34 = .ok (.iconst 1, 1) := by decide +kernel
theorem dX11_checkers_35 : decode cX11_checkers 35 = .ok (.goto 4, 3) := by decide +kernel
theorem dX11_checkers_38 : decode cX11_checkers 38 = .ok (.iconst 0, 1) := by decide +kernel
theorem dX11_checkers_39 : decode cX11_checkers 39 = .ok (.aload_n 0, 1) := by decide +kernel
theorem dX11_checkers_40 : decode cX11_checkers 40 = .ok (.getfield 28, 3) := by decide +kernel
theorem dX11_checkers_43 : decode cX11_checkers 43 = .ok (.invokevirtual 199, 3) := by decide +kernel
theorem dX11_checkers_46 : decode cX11_checkers 46 = .ok (.invokevirtual 213, 3) := by decide +kernel
theorem dX11_checkers_49 : decode cX11_checkers 49 = .ok (.invokestatic 203, 3) := by decide +kernel
theorem dX11_checkers_52 : decode cX11_checkers 52 = .ok (.ireturn, 1) := by decide +kernel
theorem dX4_codeAt_0 : decode cX4_codeAt 0 = .ok (.iload_n 1, 1) := by decide +kernel
theorem dX4_codeAt_1 : decode cX4_codeAt 1 = .ok (.ifCond .lt 29, 3) := by decide +kernel
theorem dX4_codeAt_4 : decode cX4_codeAt 4 = .ok (.iload_n 1, 1) := by decide +kernel
theorem dX4_codeAt_5 : decode cX4_codeAt 5 = .ok (.aload_n 0, 1) := by decide +kernel
theorem dX4_codeAt_6 : decode cX4_codeAt 6 = .ok (.getfield 23, 3) := by decide +kernel
theorem dX4_codeAt_9 : decode cX4_codeAt 9 = .ok (.if_icmp .ge 21, 3) := by decide +kernel
theorem dX4_codeAt_12 : decode cX4_codeAt 12 = .ok (.iload_n 1, 1) := by decide +kernel
theorem dX4_codeAt_13 : decode cX4_codeAt 13 = .ok (.aload_n 0, 1) := by decide +kernel
theorem dX4_codeAt_14 : decode cX4_codeAt 14 = .ok (.getfield 11, 3) := by decide +kernel
theorem dX4_codeAt_17 : decode cX4_codeAt 17 = .ok (.arraylength, 1) := by decide +kernel
theorem dX4_codeAt_18 : decode cX4_codeAt 18 = .ok (.if_icmp .ge 12, 3) := by decide +kernel
theorem dX4_codeAt_21 : decode cX4_codeAt 21 = .ok (.aload_n 0, 1) := by decide +kernel
theorem dX4_codeAt_22 : decode cX4_codeAt 22 = .ok (.getfield 11, 3) := by decide +kernel
theorem dX4_codeAt_25 : decode cX4_codeAt 25 = .ok (.iload_n 1, 1) := by decide +kernel
theorem dX4_codeAt_26 : decode cX4_codeAt 26 = .ok (.iaload, 1) := by decide +kernel
theorem dX4_codeAt_27 : decode cX4_codeAt 27 = .ok (.goto 4, 3) := by decide +kernel
theorem dX4_codeAt_30 : decode cX4_codeAt 30 = .ok (.iconst 0, 1) := by decide +kernel
theorem dX4_codeAt_31 : decode cX4_codeAt 31 = .ok (.ireturn, 1) := by decide +kernel
theorem dX7_copy_0 : decode cX7_copy 0 = .ok (.aload_n 0, 1) := by decide +kernel
theorem dX7_copy_1 : decode cX7_copy 1 = .ok (.aload_n 1, 1) := by decide +kernel
theorem dX7_copy_2 : decode cX7_copy 2 = .ok (.getfield 9, 3) := by decide +kernel
theorem dX7_copy_5 : decode cX7_copy 5 = .ok (.putfield 9, 3) := by decide +kernel
theorem dX7_copy_8 : decode cX7_copy 8 = .ok (.aload_n 0, 1) := by decide +kernel
theorem dX7_copy_9 : decode cX7_copy 9 = .ok (.aload_n 1, 1) := by decide +kernel
theorem dX7_copy_10 : decode cX7_copy 10 = .ok (.getfield 15, 3) := by decide +kernel
theorem dX7_copy_13 : decode cX7_copy 13 = .ok (.putfield 15, 3) := by decide +kernel
theorem dX7_copy_16 : decode cX7_copy 16 = .ok (.aload_n 0, 1) := by decide +kernel
theorem dX7_copy_17 : decode cX7_copy 17 = .ok (.aload_n 1, 1) := by decide +kernel
theorem dX7_copy_18 : decode cX7_copy 18 = .ok (.getfield 18, 3) := by decide +kernel
theorem dX7_copy_21 : decode cX7_copy 21 = .ok (.putfield 18, 3) := by decide +kernel
theorem dX7_copy_24 : decode cX7_copy 24 = .ok (.aload_n 0, 1) := by decide +kernel
theorem dX7_copy_25 : decode cX7_copy 25 = .ok (.aload_n 1, 1) := by decide +kernel
theorem dX7_copy_26 : decode cX7_copy 26 = .ok (.getfield 21, 3) := by decide +kernel
theorem dX7_copy_29 : decode cX7_copy 29 = .ok (.putfield 21, 3) := by decide +kernel
theorem dX7_copy_32 : decode cX7_copy 32 = .ok (.aload_n 0, 1) := by decide +kernel
theorem dX7_copy_33 : decode cX7_copy 33 = .ok (.aload_n 1, 1) := by decide +kernel
theorem dX7_copy_34 : decode cX7_copy 34 = .ok (.getfield 24, 3) := by decide +kernel
theorem dX7_copy_37 : decode cX7_copy 37 = .ok (.putfield 24, 3) := by decide +kernel
theorem dX7_copy_40 : decode cX7_copy 40 = .ok (.aload_n 0, 1) := by decide +kernel
theorem dX7_copy_41 : decode cX7_copy 41 = .ok (.aload_n 1, 1) := by decide +kernel
theorem dX7_copy_42 : decode cX7_copy 42 = .ok (.getfield 28, 3) := by decide +kernel
theorem dX7_copy_45 : decode cX7_copy 45 = .ok (.putfield 28, 3) := by decide +kernel
theorem dX7_copy_48 : decode cX7_copy 48 = .ok (.aload_n 0, 1) := by decide +kernel
theorem dX7_copy_49 : decode cX7_copy 49 = .ok (.aload_n 1, 1) := by decide +kernel
theorem dX7_copy_50 : decode cX7_copy 50 = .ok (.getfield 32, 3) := by decide +kernel
theorem dX7_copy_53 : decode cX7_copy 53 = .ok (.putfield 32, 3) := by decide +kernel
theorem dX7_copy_56 : decode cX7_copy 56 = .ok (.return_, 1) := by decide +kernel
theorem dX11_lowest_0 : decode cX11_lowest 0 = .ok (.lload_n 0, 1) := by decide +kernel
theorem dX11_lowest_1 : decode cX11_lowest 1 = .ok (.lload_n 0, 1) := by decide +kernel
theorem dX11_lowest_2 : decode cX11_lowest 2 = .ok (.lneg, 1) := by decide +kernel
theorem dX11_lowest_3 : decode cX11_lowest 3 = .ok (.land, 1) := by decide +kernel
theorem dX11_lowest_4 : decode cX11_lowest 4 = .ok (.lconst 1, 1) := by decide +kernel
theorem dX11_lowest_5 : decode cX11_lowest 5 = .ok (.lsub, 1) := by decide +kernel
theorem dX11_lowest_6 : decode cX11_lowest 6 = .ok (.invokestatic 203, 3) := by decide +kernel
theorem dX11_lowest_9 : decode cX11_lowest 9 = .ok (.ireturn, 1) := by decide +kernel
theorem dX11_moveOf_0 : decode cX11_moveOf 0 = .ok (.iload_n 0, 1) := by decide +kernel
theorem dX11_moveOf_1 : decode cX11_moveOf 1 = .ok (.iload_n 1, 1) := by decide +kernel
theorem dX11_moveOf_2 : decode cX11_moveOf 2 = .ok (.bipush 6, 2) := by decide +kernel
theorem dX11_moveOf_4 : decode cX11_moveOf 4 = .ok (.ishl, 1) := by decide +kernel
theorem dX11_moveOf_5 : decode cX11_moveOf 5 = .ok (.ior, 1) := by decide +kernel
theorem dX11_moveOf_6 : decode cX11_moveOf 6 = .ok (.iload_n 2, 1) := by decide +kernel
theorem dX11_moveOf_7 : decode cX11_moveOf 7 = .ok (.bipush 12, 2) := by decide +kernel
theorem dX11_moveOf_9 : decode cX11_moveOf 9 = .ok (.ishl, 1) := by decide +kernel
theorem dX11_moveOf_10 : decode cX11_moveOf 10 = .ok (.ior, 1) := by decide +kernel
theorem dX11_moveOf_11 : decode cX11_moveOf 11 = .ok (.ireturn, 1) := by decide +kernel
theorem dX8_addMoves_0 : decode cX8_addMoves 0 = .ok (.iload_n 2, 1) := by decide +kernel
theorem dX8_addMoves_1 : decode cX8_addMoves 1 = .ok (.istore 8, 2) := by decide +kernel
theorem dX8_addMoves_3 : decode cX8_addMoves 3 = .ok (.lload 4, 2) := by decide +kernel
theorem dX8_addMoves_5 : decode cX8_addMoves 5 = .ok (.lstore 9, 2) := by decide +kernel
theorem dX8_addMoves_7 : decode cX8_addMoves 7 = .ok (.iconst 0, 1) := by decide +kernel
theorem dX8_addMoves_8 : decode cX8_addMoves 8 = .ok (.istore 11, 2) := by decide +kernel
theorem dX8_addMoves_10 : decode cX8_addMoves 10 = .ok (.iload 11, 2) := by decide +kernel
theorem dX8_addMoves_12 : decode cX8_addMoves 12 = .ok (.bipush 64, 2) := by decide +kernel
theorem dX8_addMoves_14 : decode cX8_addMoves 14 = .ok (.if_icmp .ge 105, 3) := by decide +kernel
theorem dX8_addMoves_17 : decode cX8_addMoves 17 = .ok (.lload 9, 2) := by decide +kernel
theorem dX8_addMoves_19 : decode cX8_addMoves 19 = .ok (.lconst 0, 1) := by decide +kernel
theorem dX8_addMoves_20 : decode cX8_addMoves 20 = .ok (.lcmp, 1) := by decide +kernel
theorem dX8_addMoves_21 : decode cX8_addMoves 21 = .ok (.ifCond .eq 98, 3) := by decide +kernel
theorem dX8_addMoves_24 : decode cX8_addMoves 24 = .ok (.lload 9, 2) := by decide +kernel
theorem dX8_addMoves_26 : decode cX8_addMoves 26 = .ok (.invokestatic 97, 3) := by decide +kernel
theorem dX8_addMoves_29 : decode cX8_addMoves 29 = .ok (.istore 12, 2) := by decide +kernel
theorem dX8_addMoves_31 : decode cX8_addMoves 31 = .ok (.lload 9, 2) := by decide +kernel
theorem dX8_addMoves_33 : decode cX8_addMoves 33 = .ok (.lload 9, 2) := by decide +kernel
theorem dX8_addMoves_35 : decode cX8_addMoves 35 = .ok (.lconst 1, 1) := by decide +kernel
theorem dX8_addMoves_36 : decode cX8_addMoves 36 = .ok (.lsub, 1) := by decide +kernel
theorem dX8_addMoves_37 : decode cX8_addMoves 37 = .ok (.land, 1) := by decide +kernel
theorem dX8_addMoves_38 : decode cX8_addMoves 38 = .ok (.lstore 9, 2) := by decide +kernel
theorem dX8_addMoves_40 : decode cX8_addMoves 40 = .ok (.lload 6, 2) := by decide +kernel
theorem dX8_addMoves_42 : decode cX8_addMoves 42 = .ok (.iload 12, 2) := by decide +kernel
theorem dX8_addMoves_44 : decode cX8_addMoves 44 = .ok (.invokestatic 68, 3) := by decide +kernel
theorem dX8_addMoves_47 : decode cX8_addMoves 47 = .ok (.istore 13, 2) := by decide +kernel
theorem dX8_addMoves_49 : decode cX8_addMoves 49 = .ok (.iload 13, 2) := by decide +kernel
theorem dX8_addMoves_51 : decode cX8_addMoves 51 = .ok (.ifCond .eq 7, 3) := by decide +kernel
theorem dX8_addMoves_54 : decode cX8_addMoves 54 = .ok (.iconst 5, 1) := by decide +kernel
theorem dX8_addMoves_55 : decode cX8_addMoves 55 = .ok (.goto 4, 3) := by decide +kernel
theorem dX8_addMoves_58 : decode cX8_addMoves 58 = .ok (.iconst 2, 1) := by decide +kernel
theorem dX8_addMoves_59 : decode cX8_addMoves 59 = .ok (.istore 14, 2) := by decide +kernel
theorem dX8_addMoves_61 : decode cX8_addMoves 61 = .ok (.iconst 2, 1) := by decide +kernel
theorem dX8_addMoves_62 : decode cX8_addMoves 62 = .ok (.istore 15, 2) := by decide +kernel
theorem dX8_addMoves_64 : decode cX8_addMoves 64 = .ok (.iload 15, 2) := by decide +kernel
theorem dX8_addMoves_66 : decode cX8_addMoves 66 = .ok (.iload 14, 2) := by decide +kernel
theorem dX8_addMoves_68 : decode cX8_addMoves 68 = .ok (.if_icmp .gt 45, 3) := by decide +kernel
theorem dX8_addMoves_71 : decode cX8_addMoves 71 = .ok (.iload 8, 2) := by decide +kernel
theorem dX8_addMoves_73 : decode cX8_addMoves 73 = .ok (.ifCond .lt 40, 3) := by decide +kernel
theorem dX8_addMoves_76 : decode cX8_addMoves 76 = .ok (.iload 8, 2) := by decide +kernel
theorem dX8_addMoves_78 : decode cX8_addMoves 78 = .ok (.aload_n 1, 1) := by decide +kernel
theorem dX8_addMoves_79 : decode cX8_addMoves 79 = .ok (.arraylength, 1) := by decide +kernel
theorem dX8_addMoves_80 : decode cX8_addMoves 80 = .ok (.if_icmp .ge 33, 3) := by decide +kernel
theorem dX8_addMoves_83 : decode cX8_addMoves 83 = .ok (.aload_n 1, 1) := by decide +kernel
theorem dX8_addMoves_84 : decode cX8_addMoves 84 = .ok (.iload 8, 2) := by decide +kernel
theorem dX8_addMoves_86 : decode cX8_addMoves 86 = .ok (.iload_n 3, 1) := by decide +kernel
theorem dX8_addMoves_87 : decode cX8_addMoves 87 = .ok (.iload 12, 2) := by decide +kernel
theorem dX8_addMoves_89 : decode cX8_addMoves 89 = .ok (.iload 13, 2) := by decide +kernel
theorem dX8_addMoves_91 : decode cX8_addMoves 91 = .ok (.ifCond .eq 8, 3) := by decide +kernel
theorem dX8_addMoves_94 : decode cX8_addMoves 94 = .ok (.iload 15, 2) := by decide +kernel
theorem dX8_addMoves_96 : decode cX8_addMoves 96 = .ok (.goto 4, 3) := by decide +kernel
theorem dX8_addMoves_99 : decode cX8_addMoves 99 = .ok (.iconst 0, 1) := by decide +kernel
theorem dX8_addMoves_100 : decode cX8_addMoves 100 = .ok (.invokestatic 100, 3) := by decide +kernel
theorem dX8_addMoves_103 : decode cX8_addMoves 103 = .ok (.iastore, 1) := by decide +kernel
theorem dX8_addMoves_104 : decode cX8_addMoves 104 = .ok (.iinc 8 1, 3) := by decide +kernel
theorem dX8_addMoves_107 : decode cX8_addMoves 107 = .ok (.iinc 15 1, 3) := by decide +kernel
theorem dX8_addMoves_110 : decode cX8_addMoves 110 = .ok (.goto (-46), 3) := by decide +kernel
theorem dX8_addMoves_113 : decode cX8_addMoves 113 = .ok (.iinc 11 1, 3) := by decide +kernel
theorem dX8_addMoves_116 : decode cX8_addMoves 116 = .ok (.goto (-106), 3) := by decide +kernel
theorem dX8_addMoves_119 : decode cX8_addMoves 119 = .ok (.iload 8, 2) := by decide +kernel
theorem dX8_addMoves_121 : decode cX8_addMoves 121 = .ok (.ireturn, 1) := by decide +kernel
theorem dX8_castlings_0 : decode cX8_castlings 0 = .ok (.aload_n 1, 1) := by decide +kernel
theorem dX8_castlings_1 : decode cX8_castlings 1 = .ok (.getfield 33, 3) := by decide +kernel
theorem dX8_castlings_4 : decode cX8_castlings 4 = .ok (.ifCond .eq 12, 3) := by decide +kernel
theorem dX8_castlings_7 : decode cX8_castlings 7 = .ok (.aload_n 1, 1) := by decide +kernel
theorem dX8_castlings_8 : decode cX8_castlings 8 = .ok (.getfield 127, 3) := by decide +kernel
theorem dX8_castlings_11 : decode cX8_castlings 11 = .ok (.iconst 3, 1) := by decide +kernel
theorem dX8_castlings_12 : decode cX8_castlings 12 = .ok (.iand, 1) := by decide +kernel
theorem dX8_castlings_13 : decode cX8_castlings 13 = .ok (.goto 9, 3) := by decide +kernel
theorem dX8_castlings_16 : decode cX8_castlings 16 = .ok (.aload_n 1, 1) := by decide +kernel
theorem dX8_castlings_17 : decode cX8_castlings 17 = .ok (.getfield 127, 3) := by decide +kernel
theorem dX8_castlings_20 : decode cX8_castlings 20 = .ok (.iconst 2, 1) := by decide +kernel
theorem dX8_castlings_21 : decode cX8_castlings 21 = .ok (.iushr, 1) := by decide +kernel
theorem dX8_castlings_22 : decode cX8_castlings 22 = .ok (.istore_n 2, 1) := by decide +kernel
theorem dX8_castlings_23 : decode cX8_castlings 23 = .ok (.iload_n 2, 1) := by decide +kernel
theorem dX8_castlings_24 : decode cX8_castlings 24 = .ok (.ifCond .eq 10, 3) := by decide +kernel
theorem dX8_castlings_27 : decode cX8_castlings 27 = .ok (.aload_n 0, 1) := by decide +kernel
theorem dX8_castlings_28 : decode cX8_castlings 28 = .ok (.getfield 22, 3) := by decide +kernel
theorem dX8_castlings_31 : decode cX8_castlings 31 = .ok (.ifCond .eq 5, 3) := by decide +kernel
theorem dX8_castlings_34 : decode cX8_castlings 34 = .ok (.lconst 0, 1) := by decide +kernel
theorem dX8_castlings_35 : decode cX8_castlings 35 = .ok (.lreturn, 1) := by decide +kernel
theorem dX8_castlings_36 : decode cX8_castlings 36 = .ok (.aload_n 1, 1) := by decide +kernel
theorem dX8_castlings_37 : decode cX8_castlings 37 = .ok (.getfield 33, 3) := by decide +kernel
theorem dX8_castlings_40 : decode cX8_castlings 40 = .ok (.ifCond .eq 7, 3) := by decide +kernel
theorem dX8_castlings_43 : decode cX8_castlings 43 = .ok (.iconst 0, 1) := by decide +kernel
theorem dX8_castlings_44 : decode cX8_castlings 44 = .ok (.goto 13, 3) := by decide +kernel
theorem dX8_castlings_47 : decode cX8_castlings 47 = .ok (.aload_n 0, 1) := by decide +kernel
theorem dX8_castlings_48 : decode cX8_castlings 48 = .ok (.getfield 29, 3) := by decide +kernel
theorem dX8_castlings_51 : decode cX8_castlings 51 = .ok (.getfield 65, 3) := by decide +kernel
theorem dX8_castlings_54 : decode cX8_castlings 54 = .ok (.bipush 8, 2) := by decide +kernel
theorem dX8_castlings_56 : decode cX8_castlings 56 = .ok (.isub, 1) := by decide +kernel
theorem dX8_castlings_57 : decode cX8_castlings 57 = .ok (.istore_n 3, 1) := by decide +kernel
theorem dX8_castlings_58 : decode cX8_castlings 58 = .ok (.iload_n 2, 1) := by decide +kernel
theorem dX8_castlings_59 : decode cX8_castlings 59 = .ok (.iconst 1, 1) := by decide +kernel
theorem dX8_castlings_60 : decode cX8_castlings 60 = .ok (.iand, 1) := by decide +kernel
theorem dX8_castlings_61 : decode cX8_castlings 61 = .ok (.ifCond .eq 79, 3) := by decide +kernel
theorem dX8_castlings_64 : decode cX8_castlings 64 = .ok (.aload_n 0, 1) := by decide +kernel
theorem dX8_castlings_65 : decode cX8_castlings 65 = .ok (.getfield 15, 3) := by decide +kernel
theorem dX8_castlings_68 : decode cX8_castlings 68 = .ok (.iload_n 3, 1) := by decide +kernel
theorem dX8_castlings_69 : decode cX8_castlings 69 = .ok (.lushr, 1) := by decide +kernel
theorem dX8_castlings_70 : decode cX8_castlings 70 = .ok (.ldc2_w 130, 3) := by decide +kernel
theorem dX8_castlings_73 : decode cX8_castlings 73 = .ok (.land, 1) := by decide +kernel
theorem dX8_castlings_74 : decode cX8_castlings 74 = .ok (.lconst 0, 1) := by decide +kernel
theorem dX8_castlings_75 : decode cX8_castlings 75 = .ok (.lcmp, 1) := by decide +kernel
theorem dX8_castlings_76 : decode cX8_castlings 76 = .ok (.ifCond .ne 64, 3) := by decide +kernel
theorem dX8_castlings_79 : decode cX8_castlings 79 = .ok (.aload_n 1, 1) := by decide +kernel
theorem dX8_castlings_80 : decode cX8_castlings 80 = .ok (.iload_n 3, 1) := by decide +kernel
theorem dX8_castlings_81 : decode cX8_castlings 81 = .ok (.iconst 5, 1) := by decide +kernel
theorem dX8_castlings_82 : decode cX8_castlings 82 = .ok (.iadd, 1) := by decide +kernel
theorem dX8_castlings_83 : decode cX8_castlings 83 = .ok (.aload_n 1, 1) := by decide +kernel
theorem dX8_castlings_84 : decode cX8_castlings 84 = .ok (.getfield 33, 3) := by decide +kernel
theorem dX8_castlings_87 : decode cX8_castlings 87 = .ok (.ifCond .ne 7, 3) := by decide +kernel
theorem dX8_castlings_90 : decode cX8_castlings 90 = .ok (.iconst 1, 1) := by decide +kernel
theorem dX8_castlings_91 : decode cX8_castlings 91 = .ok (.goto 4, 3) := by decide +kernel
theorem dX8_castlings_94 : decode cX8_castlings 94 = .ok (.iconst 0, 1) := by decide +kernel
theorem dX8_castlings_95 : decode cX8_castlings 95 = .ok (.aload_n 0, 1) := by decide +kernel
theorem dX8_castlings_96 : decode cX8_castlings 96 = .ok (.getfield 15, 3) := by decide +kernel
theorem dX8_castlings_99 : decode cX8_castlings 99 = .ok (.invokevirtual 49, 3) := by decide +kernel
theorem dX8_castlings_102 : decode cX8_castlings 102 = .ok (.lconst 0, 1) := by decide +kernel
theorem dX8_castlings_103 : decode cX8_castlings 103 = .ok (.lcmp, 1) := by decide +kernel
theorem dX8_castlings_104 : decode cX8_castlings 104 = .ok (.ifCond .ne 36, 3) := by decide +kernel
theorem dX8_castlings_107 : decode cX8_castlings 107 = .ok (.aload_n 1, 1) := by decide +kernel
theorem dX8_castlings_108 : decode cX8_castlings 108 = .ok (.iload_n 3, 1) := by decide +kernel
theorem dX8_castlings_109 : decode cX8_castlings 109 = .ok (.bipush 6, 2) := by decide +kernel
theorem dX8_castlings_111 : decode cX8_castlings 111 = .ok (.iadd, 1) := by decide +kernel
theorem dX8_castlings_112 : decode cX8_castlings 112 = .ok (.aload_n 1, 1) := by decide +kernel
theorem dX8_castlings_113 : decode cX8_castlings 113 = .ok (.getfield 33, 3) := by decide +kernel
theorem dX8_castlings_116 : decode cX8_castlings 116 = .ok (.ifCond .ne 7, 3) := by decide +kernel
theorem dX8_castlings_119 : decode cX8_castlings 119 = .ok (.iconst 1, 1) := by decide +kernel
theorem dX8_castlings_120 : decode cX8_castlings 120 = .ok (.goto 4, 3) := by decide +kernel
theorem dX8_castlings_123 : decode cX8_castlings 123 = .ok (.iconst 0, 1) := by decide +kernel
theorem dX8_castlings_124 : decode cX8_castlings 124 = .ok (.aload_n 0, 1) := by decide +kernel
theorem dX8_castlings_125 : decode cX8_castlings 125 = .ok (.getfield 15, 3) := by decide +kernel
theorem dX8_castlings_128 : decode cX8_castlings 128 = .ok (.invokevirtual 49, 3) := by decide +kernel
theorem dX8_castlings_131 : decode cX8_castlings 131 = .ok (.lconst 0, 1) := by decide +kernel
theorem dX8_castlings_132 : decode cX8_castlings 132 = .ok (.lcmp, 1) := by decide +kernel
theorem dX8_castlings_133 : decode cX8_castlings 133 = .ok (.ifCond .ne 7, 3) := by decide +kernel
theorem dX8_castlings_136 : decode cX8_castlings 136 = .ok (.iconst 1, 1) := by decide +kernel
theorem dX8_castlings_137 : decode cX8_castlings 137 = .ok (.goto 4, 3) := by decide +kernel
theorem dX8_castlings_140 : decode cX8_castlings 140 = .ok (.iconst 0, 1) := by decide +kernel
theorem dX8_castlings_141 : decode cX8_castlings 141 = .ok (.istore 4, 2) := by decide +kernel
theorem dX8_castlings_143 : decode cX8_castlings 143 = .ok (.iload_n 2, 1) := by decide +kernel
theorem dX8_castlings_144 : decode cX8_castlings 144 = .ok (.iconst 2, 1) := by decide +kernel
theorem dX8_castlings_145 : decode cX8_castlings 145 = .ok (.iand, 1) := by decide +kernel
theorem dX8_castlings_146 : decode cX8_castlings 146 = .ok (.ifCond .eq 78, 3) := by decide +kernel
theorem dX8_castlings_149 : decode cX8_castlings 149 = .ok (.aload_n 0, 1) := by decide +kernel
theorem dX8_castlings_150 : decode cX8_castlings 150 = .ok (.getfield 15, 3) := by decide +kernel
theorem dX8_castlings_153 : decode cX8_castlings 153 = .ok (.iload_n 3, 1) := by decide +kernel
theorem dX8_castlings_154 : decode cX8_castlings 154 = .ok (.lushr, 1) := by decide +kernel
theorem dX8_castlings_155 : decode cX8_castlings 155 = .ok (.ldc2_w 132, 3) := by decide +kernel
theorem dX8_castlings_158 : decode cX8_castlings 158 = .ok (.land, 1) := by decide +kernel
theorem dX8_castlings_159 : decode cX8_castlings 159 = .ok (.lconst 0, 1) := by decide +kernel
theorem dX8_castlings_160 : decode cX8_castlings 160 = .ok (.lcmp, 1) := by decide +kernel
theorem dX8_castlings_161 : decode cX8_castlings 161 = .ok (.ifCond .ne 63, 3) := by decide +kernel
theorem dX8_castlings_164 : decode cX8_castlings 164 = .ok (.aload_n 1, 1) := by decide +kernel
theorem dX8_castlings_165 : decode cX8_castlings 165 = .ok (.iload_n 3, 1) := by decide +kernel
theorem dX8_castlings_166 : decode cX8_castlings 166 = .ok (.iconst 3, 1) := by decide +kernel
theorem dX8_castlings_167 : decode cX8_castlings 167 = .ok (.iadd, 1) := by decide +kernel
theorem dX8_castlings_168 : decode cX8_castlings 168 = .ok (.aload_n 1, 1) := by decide +kernel
theorem dX8_castlings_169 : decode cX8_castlings 169 = .ok (.getfield 33, 3) := by decide +kernel
theorem dX8_castlings_172 : decode cX8_castlings 172 = .ok (.ifCond .ne 7, 3) := by decide +kernel
theorem dX8_castlings_175 : decode cX8_castlings 175 = .ok (.iconst 1, 1) := by decide +kernel
theorem dX8_castlings_176 : decode cX8_castlings 176 = .ok (.goto 4, 3) := by decide +kernel
theorem dX8_castlings_179 : decode cX8_castlings 179 = .ok (.iconst 0, 1) := by decide +kernel
theorem dX8_castlings_180 : decode cX8_castlings 180 = .ok (.aload_n 0, 1) := by decide +kernel
theorem dX8_castlings_181 : decode cX8_castlings 181 = .ok (.getfield 15, 3) := by decide +kernel
theorem dX8_castlings_184 : decode cX8_castlings 184 = .ok (.invokevirtual 49, 3) := by decide +kernel
theorem dX8_castlings_187 : decode cX8_castlings 187 = .ok (.lconst 0, 1) := by decide +kernel
theorem dX8_castlings_188 : decode cX8_castlings 188 = .ok (.lcmp, 1) := by decide +kernel
theorem dX8_castlings_189 : decode cX8_castlings 189 = .ok (.ifCond .ne 35, 3) := by decide +kernel
theorem dX8_castlings_192 : decode cX8_castlings 192 = .ok (.aload_n 1, 1) := by decide +kernel
theorem dX8_castlings_193 : decode cX8_castlings 193 = .ok (.iload_n 3, 1) := by decide +kernel
theorem dX8_castlings_194 : decode cX8_castlings 194 = .ok (.iconst 2, 1) := by decide +kernel
theorem dX8_castlings_195 : decode cX8_castlings 195 = .ok (.iadd, 1) := by decide +kernel
theorem dX8_castlings_196 : decode cX8_castlings 196 = .ok (.aload_n 1, 1) := by decide +kernel
theorem dX8_castlings_197 : decode cX8_castlings 197 = .ok (.getfield 33, 3) := by decide +kernel
theorem dX8_castlings_200 : decode cX8_castlings 200 = .ok (.ifCond .ne 7, 3) := by decide +kernel
theorem dX8_castlings_203 : decode cX8_castlings 203 = .ok (.iconst 1, 1) := by decide +kernel
theorem dX8_castlings_204 : decode cX8_castlings 204 = .ok (.goto 4, 3) := by decide +kernel
theorem dX8_castlings_207 : decode cX8_castlings 207 = .ok (.iconst 0, 1) := by decide +kernel
theorem dX8_castlings_208 : decode cX8_castlings 208 = .ok (.aload_n 0, 1) := by decide +kernel
theorem dX8_castlings_209 : decode cX8_castlings 209 = .ok (.getfield 15, 3) := by decide +kernel
theorem dX8_castlings_212 : decode cX8_castlings 212 = .ok (.invokevirtual 49, 3) := by decide +kernel
theorem dX8_castlings_215 : decode cX8_castlings 215 = .ok (.lconst 0, 1) := by decide +kernel
theorem dX8_castlings_216 : decode cX8_castlings 216 = .ok (.lcmp, 1) := by decide +kernel
theorem dX8_castlings_217 : decode cX8_castlings 217 = .ok (.ifCond .ne 7, 3) := by decide +kernel
theorem dX8_castlings_220 : decode cX8_castlings 220 = .ok (.iconst 1, 1) := by decide +kernel
theorem dX8_castlings_221 : decode cX8_castlings 221 = .ok (.goto 4, 3) := by decide +kernel
theorem dX8_castlings_224 : decode cX8_castlings 224 = .ok (.iconst 0, 1) := by decide +kernel
theorem dX8_castlings_225 : decode cX8_castlings 225 = .ok (.istore 5, 2) := by decide +kernel
theorem dX8_castlings_227 : decode cX8_castlings 227 = .ok (.iload 4, 2) := by decide +kernel
theorem dX8_castlings_229 : decode cX8_castlings 229 = .ok (.ifCond .eq 12, 3) := by decide +kernel
theorem dX8_castlings_232 : decode cX8_castlings 232 = .ok (.lconst 1, 1) := by decide +kernel
theorem dX8_castlings_233 : decode cX8_castlings 233 = .ok (.iload_n 3, 1) := by decide +kernel
theorem dX8_castlings_234 : decode cX8_castlings 234 = .ok (.bipush 6, 2) := by decide +kernel
theorem dX8_castlings_236 : decode cX8_castlings 236 = .ok (.iadd, 1) := by decide +kernel
theorem dX8_castlings_237 : decode cX8_castlings 237 = .ok (.lshl, 1) := by decide +kernel
theorem dX8_castlings_238 : decode cX8_castlings 238 = .ok (.goto 4, 3) := by decide +kernel
theorem dX8_castlings_241 : decode cX8_castlings 241 = .ok (.lconst 0, 1) := by decide +kernel
theorem dX8_castlings_242 : decode cX8_castlings 242 = .ok (.iload 5, 2) := by decide +kernel
theorem dX8_castlings_244 : decode cX8_castlings 244 = .ok (.ifCond .eq 11, 3) := by decide +kernel
theorem dX8_castlings_247 : decode cX8_castlings 247 = .ok (.lconst 1, 1) := by decide +kernel
theorem dX8_castlings_248 : decode cX8_castlings 248 = .ok (.iload_n 3, 1) := by decide +kernel
theorem dX8_castlings_249 : decode cX8_castlings 249 = .ok (.iconst 2, 1) := by decide +kernel
theorem dX8_castlings_250 : decode cX8_castlings 250 = .ok (.iadd, 1) := by decide +kernel
theorem dX8_castlings_251 : decode cX8_castlings 251 = .ok (.lshl, 1) := by decide +kernel
theorem dX8_castlings_252 : decode cX8_castlings 252 = .ok (.goto 4, 3) := by decide +kernel
theorem dX8_castlings_255 : decode cX8_castlings 255 = .ok (.lconst 0, 1) := by decide +kernel
theorem dX8_castlings_256 : decode cX8_castlings 256 = .ok (.lor, 1) := by decide +kernel
theorem dX8_castlings_257 : decode cX8_castlings 257 = .ok (.lreturn, 1) := by decide +kernel
def wp_X7_ofKind_85 (D : wD) (post : Int64 → wS → Prop)  (S : wS) (t0 : Int64) (t1 : Int64) : Prop :=
∀ x_1 : Int64, x_1 = (t0 &&& t1) →
post x_1 S
def wp_X7_ofKind_61 (D : wD) (post : Int64 → wS → Prop)  (S : wS) (a0 : Nat) (x1 : Int32) (t0 : Int64) (t1 : Int64) : Prop :=
∀ x_1 : Int64, x_1 = (t0 &&& t1) →
(((x1 &&& (4 : Int32)) = 0 → wp_X7_ofKind_85 D post S x_1 ((sJ S a0 4) ^^^ (-1 : Int64))) ∧
 (¬ (x1 &&& (4 : Int32)) = 0 → wp_X7_ofKind_85 D post S x_1 (sJ S a0 4)))
def wp_X7_ofKind_37 (D : wD) (post : Int64 → wS → Prop)  (S : wS) (a0 : Nat) (x1 : Int32) (t0 : Int64) (t1 : Int64) : Prop :=
∀ x_1 : Int64, x_1 = (t0 &&& t1) →
(((x1 &&& (2 : Int32)) = 0 → wp_X7_ofKind_61 D post S a0 x1 x_1 ((sJ S a0 3) ^^^ (-1 : Int64))) ∧
 (¬ (x1 &&& (2 : Int32)) = 0 → wp_X7_ofKind_61 D post S a0 x1 x_1 (sJ S a0 3)))
def wp_X7_ofKind_0 (D : wD) (post : Int64 → wS → Prop)  (S : wS) (a0 : Nat) (x1 : Int32) : Prop :=
∀ x_1 : Int64, x_1 = (((sJ S a0 2) ||| (sJ S a0 3)) ||| (sJ S a0 4)) →
(((x1 &&& (1 : Int32)) = 0 → wp_X7_ofKind_37 D post S a0 x1 x_1 ((sJ S a0 2) ^^^ (-1 : Int64))) ∧
 (¬ (x1 &&& (1 : Int32)) = 0 → wp_X7_ofKind_37 D post S a0 x1 x_1 (sJ S a0 2)))
abbrev r_X7_ofKind : Room := { frames := 0, cells := 0, slots := 0, locals := 0 }
def wp_X7_ofKind (D : wD) (post : Int64 → wS → Prop) (S : wS) (a0 : Nat) (x1 : Int32) : Prop := wp_X7_ofKind_0 D post S a0 x1
set_option maxHeartbeats 4000000 in
set_option maxRecDepth 100000 in
theorem t_X7_ofKind_85 {p : Program} {l : Launch} {e : Env} {s : State} {m : MethodId} {args : Array Value} {below : List Frame} {meth : Method} {c : Code} {D : wD} {cy : Nat → ClassId} {X : va_W} {A : Nat → Prop} {S0 : wS} {post : Int64 → wS → Prop} (F : CallFix p m c cX7_ofKind 4 s args wz_X7_ofKind RX7) (hr : meth.sig.returnType = (some .long)) (hlocks : meth.locks = false) (hK : wK D cy A s) : ∀ {S : wS} {H : Heap} {locs : List Loc} {ls : Array Slot} {t0 : Int64} {t1 : Int64}, wp_X7_ofKind_85 D post S t0 t1 → wO D cy X A s.heap S H locs → wX D S0 S → lv_has ls 4 [] → W p l e r_X7_ofKind s m args below meth c H locs 0 0 (MQ below (va_Ql (fun r S9 => wX D S0 S9 ∧ post r S9) (wB D cy X A) A) args s 0 0 A) (F0 m 85 ls [.long t1, .long t0]) := by
  obtain ⟨hx, hb, hml, hown, hts⟩ := id F
  have hwg : ∀ w ∈ WG, w.before args s = true := fun w h => hts w (List.mem_cons_of_mem _ h)
  intro S H locs ls t0 t1 hp hW hE hl
  unfold wp_X7_ofKind_85 at hp
  refine lv_land hx hb dX7_ofKind_85 ?_
  refine lv_topl (fun x_1 ex_1 => ?_)
  replace hp := hp x_1 ex_1
  refine lv_lstore_n (lv' := [(2, .long x_1)]) hx hb dX7_ofKind_86 rfl hl (by decide) rfl (fun ls hl => ?_)
  refine lv_lload_n hx hb dX7_ofKind_87 rfl (lv_at hl 0 rfl) ?_
  exact w_lret hx hb hr hlocks hW ⟨hE, hp⟩ dX7_ofKind_88
set_option maxHeartbeats 4000000 in
set_option maxRecDepth 100000 in
theorem t_X7_ofKind_61 {p : Program} {l : Launch} {e : Env} {s : State} {m : MethodId} {args : Array Value} {below : List Frame} {meth : Method} {c : Code} {D : wD} {cy : Nat → ClassId} {X : va_W} {A : Nat → Prop} {S0 : wS} {post : Int64 → wS → Prop} (F : CallFix p m c cX7_ofKind 4 s args wz_X7_ofKind RX7) (hr : meth.sig.returnType = (some .long)) (hlocks : meth.locks = false) (hK : wK D cy A s) : ∀ {S : wS} {H : Heap} {locs : List Loc} {ls : Array Slot} {a0 : Nat} {x1 : Int32} {t0 : Int64} {t1 : Int64}, wp_X7_ofKind_61 D post S a0 x1 t0 t1 → wO D cy X A s.heap S H locs → wX D S0 S → lv_has ls 4 [(0, .ref a0), (1, .int x1)] → wM D S a0 → sK S a0 = 12 → W p l e r_X7_ofKind s m args below meth c H locs 0 0 (MQ below (va_Ql (fun r S9 => wX D S0 S9 ∧ post r S9) (wB D cy X A) A) args s 0 0 A) (F0 m 61 ls [.long t1, .long t0]) := by
  obtain ⟨hx, hb, hml, hown, hts⟩ := id F
  have hwg : ∀ w ∈ WG, w.before args s = true := fun w h => hts w (List.mem_cons_of_mem _ h)
  have i_12 : ∀ w ∈ u_ws RX7 TX7 8, w ∈ wz_X7_ofKind := fun w h => List.mem_cons_of_mem _ (wu_12 w h)
  have k_21 := hwg _ wf_RX7_21
  intro S H locs ls a0 x1 t0 t1 hp hW hE hl hL_a0 hK_a0
  unfold wp_X7_ofKind_61 at hp
  refine lv_land hx hb dX7_ofKind_61 ?_
  refine lv_topl (fun x_1 ex_1 => ?_)
  replace hp := hp x_1 ex_1
  refine lv_lstore_n (lv' := [(2, .long x_1), (0, .ref a0), (1, .int x1)]) hx hb dX7_ofKind_62 rfl hl (by decide) rfl (fun ls hl => ?_)
  refine lv_lload_n hx hb dX7_ofKind_63 rfl (lv_at hl 0 rfl) ?_
  refine lv_iload_n hx hb dX7_ofKind_64 rfl (lv_at hl 2 rfl) ?_
  refine lv_iconst (v := 4) hx hb dX7_ofKind_65 (by decide) ?_
  refine lv_iand hx hb dX7_ofKind_66 ?_
  refine lv_if_eq (tgt := 77) hx hb dX7_ofKind_67 (by decide) (fun c_2 => ?_) (fun c_2 => ?_)
  · replace hp := hp.1 c_2
    refine lv_aload_n hx hb dX7_ofKind_77 rfl (lv_at hl 1 rfl) ?_
    refine w_get (k := 12) (f := 4) (T := TX7) (v := .long (sJ S a0 4)) F hK hW hL_a0 hK_a0 (by decide) rfl rfl (by decide) i_12 k_21 rfl dX7_ofKind_78 ?_
    refine lv_ldc2 (v := (-1)) hx hb hown (hwg _ wJ_RX7_70) dX7_ofKind_81 ?_
    refine lv_lxor hx hb dX7_ofKind_84 ?_
    exact t_X7_ofKind_85 F hr hlocks hK hp hW hE (lv_sub hl [] rfl)
  · replace hp := hp.2 c_2
    refine lv_aload_n hx hb dX7_ofKind_70 rfl (lv_at hl 1 rfl) ?_
    refine w_get (k := 12) (f := 4) (T := TX7) (v := .long (sJ S a0 4)) F hK hW hL_a0 hK_a0 (by decide) rfl rfl (by decide) i_12 k_21 rfl dX7_ofKind_71 ?_
    refine lv_goto (tgt := 85) hx hb dX7_ofKind_74 (by decide) ?_
    exact t_X7_ofKind_85 F hr hlocks hK hp hW hE (lv_sub hl [] rfl)
set_option maxHeartbeats 4000000 in
set_option maxRecDepth 100000 in
theorem t_X7_ofKind_37 {p : Program} {l : Launch} {e : Env} {s : State} {m : MethodId} {args : Array Value} {below : List Frame} {meth : Method} {c : Code} {D : wD} {cy : Nat → ClassId} {X : va_W} {A : Nat → Prop} {S0 : wS} {post : Int64 → wS → Prop} (F : CallFix p m c cX7_ofKind 4 s args wz_X7_ofKind RX7) (hr : meth.sig.returnType = (some .long)) (hlocks : meth.locks = false) (hK : wK D cy A s) : ∀ {S : wS} {H : Heap} {locs : List Loc} {ls : Array Slot} {a0 : Nat} {x1 : Int32} {t0 : Int64} {t1 : Int64}, wp_X7_ofKind_37 D post S a0 x1 t0 t1 → wO D cy X A s.heap S H locs → wX D S0 S → lv_has ls 4 [(0, .ref a0), (1, .int x1)] → wM D S a0 → sK S a0 = 12 → W p l e r_X7_ofKind s m args below meth c H locs 0 0 (MQ below (va_Ql (fun r S9 => wX D S0 S9 ∧ post r S9) (wB D cy X A) A) args s 0 0 A) (F0 m 37 ls [.long t1, .long t0]) := by
  obtain ⟨hx, hb, hml, hown, hts⟩ := id F
  have hwg : ∀ w ∈ WG, w.before args s = true := fun w h => hts w (List.mem_cons_of_mem _ h)
  have i_12 : ∀ w ∈ u_ws RX7 TX7 8, w ∈ wz_X7_ofKind := fun w h => List.mem_cons_of_mem _ (wu_12 w h)
  have k_18 := hwg _ wf_RX7_18
  intro S H locs ls a0 x1 t0 t1 hp hW hE hl hL_a0 hK_a0
  unfold wp_X7_ofKind_37 at hp
  refine lv_land hx hb dX7_ofKind_37 ?_
  refine lv_topl (fun x_1 ex_1 => ?_)
  replace hp := hp x_1 ex_1
  refine lv_lstore_n (lv' := [(2, .long x_1), (0, .ref a0), (1, .int x1)]) hx hb dX7_ofKind_38 rfl hl (by decide) rfl (fun ls hl => ?_)
  refine lv_lload_n hx hb dX7_ofKind_39 rfl (lv_at hl 0 rfl) ?_
  refine lv_iload_n hx hb dX7_ofKind_40 rfl (lv_at hl 2 rfl) ?_
  refine lv_iconst (v := 2) hx hb dX7_ofKind_41 (by decide) ?_
  refine lv_iand hx hb dX7_ofKind_42 ?_
  refine lv_if_eq (tgt := 53) hx hb dX7_ofKind_43 (by decide) (fun c_2 => ?_) (fun c_2 => ?_)
  · replace hp := hp.1 c_2
    refine lv_aload_n hx hb dX7_ofKind_53 rfl (lv_at hl 1 rfl) ?_
    refine w_get (k := 12) (f := 3) (T := TX7) (v := .long (sJ S a0 3)) F hK hW hL_a0 hK_a0 (by decide) rfl rfl (by decide) i_12 k_18 rfl dX7_ofKind_54 ?_
    refine lv_ldc2 (v := (-1)) hx hb hown (hwg _ wJ_RX7_70) dX7_ofKind_57 ?_
    refine lv_lxor hx hb dX7_ofKind_60 ?_
    exact t_X7_ofKind_61 F hr hlocks hK hp hW hE (lv_sub hl [1, 2] rfl) hL_a0 hK_a0
  · replace hp := hp.2 c_2
    refine lv_aload_n hx hb dX7_ofKind_46 rfl (lv_at hl 1 rfl) ?_
    refine w_get (k := 12) (f := 3) (T := TX7) (v := .long (sJ S a0 3)) F hK hW hL_a0 hK_a0 (by decide) rfl rfl (by decide) i_12 k_18 rfl dX7_ofKind_47 ?_
    refine lv_goto (tgt := 61) hx hb dX7_ofKind_50 (by decide) ?_
    exact t_X7_ofKind_61 F hr hlocks hK hp hW hE (lv_sub hl [1, 2] rfl) hL_a0 hK_a0
set_option maxHeartbeats 4000000 in
set_option maxRecDepth 100000 in
theorem t_X7_ofKind_0 {p : Program} {l : Launch} {e : Env} {s : State} {m : MethodId} {args : Array Value} {below : List Frame} {meth : Method} {c : Code} {D : wD} {cy : Nat → ClassId} {X : va_W} {A : Nat → Prop} {S0 : wS} {post : Int64 → wS → Prop} (F : CallFix p m c cX7_ofKind 4 s args wz_X7_ofKind RX7) (hr : meth.sig.returnType = (some .long)) (hlocks : meth.locks = false) (hK : wK D cy A s) : ∀ {S : wS} {H : Heap} {locs : List Loc} {ls : Array Slot} {a0 : Nat} {x1 : Int32}, wp_X7_ofKind_0 D post S a0 x1 → wO D cy X A s.heap S H locs → wX D S0 S → lv_has ls 4 [(0, .ref a0), (1, .int x1)] → wM D S a0 → sK S a0 = 12 → W p l e r_X7_ofKind s m args below meth c H locs 0 0 (MQ below (va_Ql (fun r S9 => wX D S0 S9 ∧ post r S9) (wB D cy X A) A) args s 0 0 A) (F0 m 0 ls []) := by
  obtain ⟨hx, hb, hml, hown, hts⟩ := id F
  have hwg : ∀ w ∈ WG, w.before args s = true := fun w h => hts w (List.mem_cons_of_mem _ h)
  have i_12 : ∀ w ∈ u_ws RX7 TX7 8, w ∈ wz_X7_ofKind := fun w h => List.mem_cons_of_mem _ (wu_12 w h)
  have k_15 := hwg _ wf_RX7_15
  have k_18 := hwg _ wf_RX7_18
  have k_21 := hwg _ wf_RX7_21
  intro S H locs ls a0 x1 hp hW hE hl hL_a0 hK_a0
  unfold wp_X7_ofKind_0 at hp
  refine lv_aload_n hx hb dX7_ofKind_0 rfl (lv_at hl 0 rfl) ?_
  refine w_get (k := 12) (f := 2) (T := TX7) (v := .long (sJ S a0 2)) F hK hW hL_a0 hK_a0 (by decide) rfl rfl (by decide) i_12 k_15 rfl dX7_ofKind_1 ?_
  refine lv_aload_n hx hb dX7_ofKind_4 rfl (lv_at hl 0 rfl) ?_
  refine w_get (k := 12) (f := 3) (T := TX7) (v := .long (sJ S a0 3)) F hK hW hL_a0 hK_a0 (by decide) rfl rfl (by decide) i_12 k_18 rfl dX7_ofKind_5 ?_
  refine lv_lor hx hb dX7_ofKind_8 ?_
  refine lv_aload_n hx hb dX7_ofKind_9 rfl (lv_at hl 0 rfl) ?_
  refine w_get (k := 12) (f := 4) (T := TX7) (v := .long (sJ S a0 4)) F hK hW hL_a0 hK_a0 (by decide) rfl rfl (by decide) i_12 k_21 rfl dX7_ofKind_10 ?_
  refine lv_lor hx hb dX7_ofKind_13 ?_
  refine lv_topl (fun x_1 ex_1 => ?_)
  replace hp := hp x_1 ex_1
  refine lv_lstore_n (lv' := [(2, .long x_1), (0, .ref a0), (1, .int x1)]) hx hb dX7_ofKind_14 rfl hl (by decide) rfl (fun ls hl => ?_)
  refine lv_lload_n hx hb dX7_ofKind_15 rfl (lv_at hl 0 rfl) ?_
  refine lv_iload_n hx hb dX7_ofKind_16 rfl (lv_at hl 2 rfl) ?_
  refine lv_iconst (v := 1) hx hb dX7_ofKind_17 (by decide) ?_
  refine lv_iand hx hb dX7_ofKind_18 ?_
  refine lv_if_eq (tgt := 29) hx hb dX7_ofKind_19 (by decide) (fun c_2 => ?_) (fun c_2 => ?_)
  · replace hp := hp.1 c_2
    refine lv_aload_n hx hb dX7_ofKind_29 rfl (lv_at hl 1 rfl) ?_
    refine w_get (k := 12) (f := 2) (T := TX7) (v := .long (sJ S a0 2)) F hK hW hL_a0 hK_a0 (by decide) rfl rfl (by decide) i_12 k_15 rfl dX7_ofKind_30 ?_
    refine lv_ldc2 (v := (-1)) hx hb hown (hwg _ wJ_RX7_70) dX7_ofKind_33 ?_
    refine lv_lxor hx hb dX7_ofKind_36 ?_
    exact t_X7_ofKind_37 F hr hlocks hK hp hW hE (lv_sub hl [1, 2] rfl) hL_a0 hK_a0
  · replace hp := hp.2 c_2
    refine lv_aload_n hx hb dX7_ofKind_22 rfl (lv_at hl 1 rfl) ?_
    refine w_get (k := 12) (f := 2) (T := TX7) (v := .long (sJ S a0 2)) F hK hW hL_a0 hK_a0 (by decide) rfl rfl (by decide) i_12 k_15 rfl dX7_ofKind_23 ?_
    refine lv_goto (tgt := 37) hx hb dX7_ofKind_26 (by decide) ?_
    exact t_X7_ofKind_37 F hr hlocks hK hp hW hE (lv_sub hl [1, 2] rfl) hL_a0 hK_a0
set_option maxHeartbeats 4000000 in
set_option maxRecDepth 100000 in
theorem c_X7_ofKind (l : Launch) {D : wD} {cy : Nat → ClassId} {X : va_W} {S0 : wS} {post : Int64 → wS → Prop} {a0 : Nat} {x1 : Int32} (hL_a0 : wM D S0 a0) (hK_a0 : sK S0 a0 = 12) (hp : wp_X7_ofKind D post S0 a0 x1) : mJ D cy X l yX7_ofKind wz_X7_ofKind r_X7_ofKind [.ref a0, .int x1] S0 (fun r S9 => wX D S0 S9 ∧ post r S9) := by
  intro sz
  refine Met.ofW (cc := cX7_ofKind) (maxL := 4) (ret := (some .long)) (by decide) rfl ?_
  intro p e s m args below meth c s₁ B hml hv
  obtain ⟨rfl, hsz, hP, hK, hD0, hRO⟩ := hv
  have hts := atoms_spec (ws := wz_X7_ofKind) B.pre
  have hown : s.vm.findClass RX7 = some m.cls := findClass_of_methodNamed B.named
  subst hsz
  have hD := hD0.self (sz := s.heap.size)
  have F : CallFix p m c cX7_ofKind 4 s _ wz_X7_ofKind RX7 := ⟨B.exec, B.bytes, hml, hown, hts⟩
  have hr := B.returns
  have hlocks := B.notSynchronized
  generalize hAe : va_A (wL cy X S0) s.heap.size = A at hD hK ⊢
  have hA : ∀ q, s.heap.size ≤ q → A q := fun q h => by rw [← hAe]; exact Or.inr h
  have hW : wO D cy X A s.heap S0 s.heap [] := ⟨hP, hD, va_S.rf, hA, hRO⟩
  have hl := lv_entry ([.ref a0, .int x1]) (n := 4) (Nat.le_of_ble_eq_true rfl)
  rw [lg_entry_eq]
  generalize (lg_sl ([.ref a0, .int x1]) ++ List.replicate (4 - (lg_sl ([.ref a0, .int x1])).length) Slot.unset).toArray = ls at hl ⊢
  have hl : lv_has ls 4 [(0, .ref a0), (1, .int x1)] := hl
  unfold wp_X7_ofKind at hp
  exact t_X7_ofKind_0 F hr hlocks hK hp hW wX.rf (lv_sub hl [0, 1] rfl) hL_a0 hK_a0
def wp_X7_ofSide_34 (D : wD) (post : Int64 → wS → Prop)  (S : wS) (t0 : Int64) : Prop :=
post t0 S
def wp_X7_ofSide_0 (D : wD) (post : Int64 → wS → Prop)  (S : wS) (a0 : Nat) (x1 : Int32) : Prop :=
((x1 = 0 → wp_X7_ofSide_34 D post S ((((sJ S a0 2) ||| (sJ S a0 3)) ||| (sJ S a0 4)) &&& ((sJ S a0 1) ^^^ (-1 : Int64)))) ∧
 (¬ x1 = 0 → wp_X7_ofSide_34 D post S (sJ S a0 1)))
abbrev r_X7_ofSide : Room := { frames := 0, cells := 0, slots := 0, locals := 0 }
def wp_X7_ofSide (D : wD) (post : Int64 → wS → Prop) (S : wS) (a0 : Nat) (x1 : Int32) : Prop := wp_X7_ofSide_0 D post S a0 x1
set_option maxHeartbeats 4000000 in
set_option maxRecDepth 100000 in
theorem t_X7_ofSide_34 {p : Program} {l : Launch} {e : Env} {s : State} {m : MethodId} {args : Array Value} {below : List Frame} {meth : Method} {c : Code} {D : wD} {cy : Nat → ClassId} {X : va_W} {A : Nat → Prop} {S0 : wS} {post : Int64 → wS → Prop} (F : CallFix p m c cX7_ofSide 2 s args wz_X7_ofSide RX7) (hr : meth.sig.returnType = (some .long)) (hlocks : meth.locks = false) (hK : wK D cy A s) : ∀ {S : wS} {H : Heap} {locs : List Loc} {ls : Array Slot} {t0 : Int64}, wp_X7_ofSide_34 D post S t0 → wO D cy X A s.heap S H locs → wX D S0 S → lv_has ls 2 [] → W p l e r_X7_ofSide s m args below meth c H locs 0 0 (MQ below (va_Ql (fun r S9 => wX D S0 S9 ∧ post r S9) (wB D cy X A) A) args s 0 0 A) (F0 m 34 ls [.long t0]) := by
  obtain ⟨hx, hb, hml, hown, hts⟩ := id F
  have hwg : ∀ w ∈ WG, w.before args s = true := fun w h => hts w (List.mem_cons_of_mem _ h)
  intro S H locs ls t0 hp hW hE hl
  unfold wp_X7_ofSide_34 at hp
  exact w_lret hx hb hr hlocks hW ⟨hE, hp⟩ dX7_ofSide_34
set_option maxHeartbeats 4000000 in
set_option maxRecDepth 100000 in
theorem t_X7_ofSide_0 {p : Program} {l : Launch} {e : Env} {s : State} {m : MethodId} {args : Array Value} {below : List Frame} {meth : Method} {c : Code} {D : wD} {cy : Nat → ClassId} {X : va_W} {A : Nat → Prop} {S0 : wS} {post : Int64 → wS → Prop} (F : CallFix p m c cX7_ofSide 2 s args wz_X7_ofSide RX7) (hr : meth.sig.returnType = (some .long)) (hlocks : meth.locks = false) (hK : wK D cy A s) : ∀ {S : wS} {H : Heap} {locs : List Loc} {ls : Array Slot} {a0 : Nat} {x1 : Int32}, wp_X7_ofSide_0 D post S a0 x1 → wO D cy X A s.heap S H locs → wX D S0 S → lv_has ls 2 [(0, .ref a0), (1, .int x1)] → wM D S a0 → sK S a0 = 12 → W p l e r_X7_ofSide s m args below meth c H locs 0 0 (MQ below (va_Ql (fun r S9 => wX D S0 S9 ∧ post r S9) (wB D cy X A) A) args s 0 0 A) (F0 m 0 ls []) := by
  obtain ⟨hx, hb, hml, hown, hts⟩ := id F
  have hwg : ∀ w ∈ WG, w.before args s = true := fun w h => hts w (List.mem_cons_of_mem _ h)
  have i_12 : ∀ w ∈ u_ws RX7 TX7 8, w ∈ wz_X7_ofSide := fun w h => List.mem_cons_of_mem _ (wu_12 w h)
  have k_15 := hwg _ wf_RX7_15
  have k_18 := hwg _ wf_RX7_18
  have k_21 := hwg _ wf_RX7_21
  have k_9 := hwg _ wf_RX7_9
  intro S H locs ls a0 x1 hp hW hE hl hL_a0 hK_a0
  unfold wp_X7_ofSide_0 at hp
  refine lv_iload_n hx hb dX7_ofSide_0 rfl (lv_at hl 1 rfl) ?_
  refine lv_if_eq (tgt := 11) hx hb dX7_ofSide_1 (by decide) (fun c_1 => ?_) (fun c_1 => ?_)
  · replace hp := hp.1 c_1
    refine lv_aload_n hx hb dX7_ofSide_11 rfl (lv_at hl 0 rfl) ?_
    refine w_get (k := 12) (f := 2) (T := TX7) (v := .long (sJ S a0 2)) F hK hW hL_a0 hK_a0 (by decide) rfl rfl (by decide) i_12 k_15 rfl dX7_ofSide_12 ?_
    refine lv_aload_n hx hb dX7_ofSide_15 rfl (lv_at hl 0 rfl) ?_
    refine w_get (k := 12) (f := 3) (T := TX7) (v := .long (sJ S a0 3)) F hK hW hL_a0 hK_a0 (by decide) rfl rfl (by decide) i_12 k_18 rfl dX7_ofSide_16 ?_
    refine lv_lor hx hb dX7_ofSide_19 ?_
    refine lv_aload_n hx hb dX7_ofSide_20 rfl (lv_at hl 0 rfl) ?_
    refine w_get (k := 12) (f := 4) (T := TX7) (v := .long (sJ S a0 4)) F hK hW hL_a0 hK_a0 (by decide) rfl rfl (by decide) i_12 k_21 rfl dX7_ofSide_21 ?_
    refine lv_lor hx hb dX7_ofSide_24 ?_
    refine lv_aload_n hx hb dX7_ofSide_25 rfl (lv_at hl 0 rfl) ?_
    refine w_get (k := 12) (f := 1) (T := TX7) (v := .long (sJ S a0 1)) F hK hW hL_a0 hK_a0 (by decide) rfl rfl (by decide) i_12 k_9 rfl dX7_ofSide_26 ?_
    refine lv_ldc2 (v := (-1)) hx hb hown (hwg _ wJ_RX7_70) dX7_ofSide_29 ?_
    refine lv_lxor hx hb dX7_ofSide_32 ?_
    refine lv_land hx hb dX7_ofSide_33 ?_
    exact t_X7_ofSide_34 F hr hlocks hK hp hW hE (lv_sub hl [] rfl)
  · replace hp := hp.2 c_1
    refine lv_aload_n hx hb dX7_ofSide_4 rfl (lv_at hl 0 rfl) ?_
    refine w_get (k := 12) (f := 1) (T := TX7) (v := .long (sJ S a0 1)) F hK hW hL_a0 hK_a0 (by decide) rfl rfl (by decide) i_12 k_9 rfl dX7_ofSide_5 ?_
    refine lv_goto (tgt := 34) hx hb dX7_ofSide_8 (by decide) ?_
    exact t_X7_ofSide_34 F hr hlocks hK hp hW hE (lv_sub hl [] rfl)
set_option maxHeartbeats 4000000 in
set_option maxRecDepth 100000 in
theorem c_X7_ofSide (l : Launch) {D : wD} {cy : Nat → ClassId} {X : va_W} {S0 : wS} {post : Int64 → wS → Prop} {a0 : Nat} {x1 : Int32} (hL_a0 : wM D S0 a0) (hK_a0 : sK S0 a0 = 12) (hp : wp_X7_ofSide D post S0 a0 x1) : mJ D cy X l yX7_ofSide wz_X7_ofSide r_X7_ofSide [.ref a0, .int x1] S0 (fun r S9 => wX D S0 S9 ∧ post r S9) := by
  intro sz
  refine Met.ofW (cc := cX7_ofSide) (maxL := 2) (ret := (some .long)) (by decide) rfl ?_
  intro p e s m args below meth c s₁ B hml hv
  obtain ⟨rfl, hsz, hP, hK, hD0, hRO⟩ := hv
  have hts := atoms_spec (ws := wz_X7_ofSide) B.pre
  have hown : s.vm.findClass RX7 = some m.cls := findClass_of_methodNamed B.named
  subst hsz
  have hD := hD0.self (sz := s.heap.size)
  have F : CallFix p m c cX7_ofSide 2 s _ wz_X7_ofSide RX7 := ⟨B.exec, B.bytes, hml, hown, hts⟩
  have hr := B.returns
  have hlocks := B.notSynchronized
  generalize hAe : va_A (wL cy X S0) s.heap.size = A at hD hK ⊢
  have hA : ∀ q, s.heap.size ≤ q → A q := fun q h => by rw [← hAe]; exact Or.inr h
  have hW : wO D cy X A s.heap S0 s.heap [] := ⟨hP, hD, va_S.rf, hA, hRO⟩
  have hl := lv_entry ([.ref a0, .int x1]) (n := 2) (Nat.le_of_ble_eq_true rfl)
  rw [lg_entry_eq]
  generalize (lg_sl ([.ref a0, .int x1]) ++ List.replicate (2 - (lg_sl ([.ref a0, .int x1])).length) Slot.unset).toArray = ls at hl ⊢
  have hl : lv_has ls 2 [(0, .ref a0), (1, .int x1)] := hl
  unfold wp_X7_ofSide at hp
  exact t_X7_ofSide_0 F hr hlocks hK hp hW wX.rf (lv_sub hl [0, 1] rfl) hL_a0 hK_a0
def wp_X7_place_152 (D : wD) (post : wS → Prop)  (S : wS) (b0 : Nat) (t1 : Int64) : Prop :=
∀ S_1 : wS, S_1 = uJ S b0 4 t1 →
post S_1
def wp_X7_place_122 (D : wD) (post : wS → Prop)  (S : wS) (a0 : Nat) (x3 : Int64) (x5 : Int32) (b0 : Nat) (t1 : Int64) : Prop :=
∀ S_1 : wS, S_1 = uJ S b0 3 t1 →
(((x5 &&& (4 : Int32)) = 0 → wp_X7_place_152 D post S_1 a0 ((sJ S_1 a0 4) &&& (x3 ^^^ (-1 : Int64)))) ∧
 (¬ (x5 &&& (4 : Int32)) = 0 → wp_X7_place_152 D post S_1 a0 ((sJ S_1 a0 4) ||| x3)))
def wp_X7_place_92 (D : wD) (post : wS → Prop)  (S : wS) (a0 : Nat) (x3 : Int64) (x5 : Int32) (b0 : Nat) (t1 : Int64) : Prop :=
∀ S_1 : wS, S_1 = uJ S b0 2 t1 →
(((x5 &&& (2 : Int32)) = 0 → wp_X7_place_122 D post S_1 a0 x3 x5 a0 ((sJ S_1 a0 3) &&& (x3 ^^^ (-1 : Int64)))) ∧
 (¬ (x5 &&& (2 : Int32)) = 0 → wp_X7_place_122 D post S_1 a0 x3 x5 a0 ((sJ S_1 a0 3) ||| x3)))
def wp_X7_place_62 (D : wD) (post : wS → Prop)  (S : wS) (a0 : Nat) (x3 : Int64) (x5 : Int32) (b0 : Nat) (t1 : Int64) : Prop :=
∀ S_1 : wS, S_1 = uJ S b0 1 t1 →
(((x5 &&& (1 : Int32)) = 0 → wp_X7_place_92 D post S_1 a0 x3 x5 a0 ((sJ S_1 a0 2) &&& (x3 ^^^ (-1 : Int64)))) ∧
 (¬ (x5 &&& (1 : Int32)) = 0 → wp_X7_place_92 D post S_1 a0 x3 x5 a0 ((sJ S_1 a0 2) ||| x3)))
def wp_X7_place_35 (D : wD) (post : wS → Prop)  (S : wS) (a0 : Nat) (x3 : Int64) (x5 : Int32) (t0 : Int32) : Prop :=
((t0 = 0 → wp_X7_place_62 D post S a0 x3 x5 a0 ((sJ S a0 1) &&& (x3 ^^^ (-1 : Int64)))) ∧
 (¬ t0 = 0 → wp_X7_place_62 D post S a0 x3 x5 a0 ((sJ S a0 1) ||| x3)))
def wp_X7_place_34 (D : wD) (post : wS → Prop)  (S : wS) (a0 : Nat) (x3 : Int64) (x5 : Int32) : Prop :=
wp_X7_place_35 D post S a0 x3 x5 (0 : Int32)
def wp_X7_place_18 (D : wD) (post : wS → Prop)  (S : wS) (a0 : Nat) (x2 : Int32) (x3 : Int64) (t0 : Int32) : Prop :=
((x2 ≤ 0 → wp_X7_place_34 D post S a0 x3 t0) ∧
 (¬ x2 ≤ 0 → (((6 : Int32) < x2 → wp_X7_place_34 D post S a0 x3 t0) ∧
 (¬ (6 : Int32) < x2 → wp_X7_place_35 D post S a0 x3 t0 (1 : Int32)))))
def wp_X7_place_0 (D : wD) (post : wS → Prop)  (S : wS) (a0 : Nat) (x1 : Int32) (x2 : Int32) : Prop :=
∀ x_1 : Int64, x_1 = (jlshl (1 : Int64) x1) →
((x2 ≤ (6 : Int32) → wp_X7_place_18 D post S a0 x2 x_1 x2) ∧
 (¬ x2 ≤ (6 : Int32) → wp_X7_place_18 D post S a0 x2 x_1 (x2 - (6 : Int32))))
abbrev r_X7_place : Room := { frames := 0, cells := 0, slots := 0, locals := 0 }
def wp_X7_place (D : wD) (post : wS → Prop) (S : wS) (a0 : Nat) (x1 : Int32) (x2 : Int32) : Prop := wp_X7_place_0 D post S a0 x1 x2
set_option maxHeartbeats 4000000 in
set_option maxRecDepth 100000 in
theorem t_X7_place_152 {p : Program} {l : Launch} {e : Env} {s : State} {m : MethodId} {args : Array Value} {below : List Frame} {meth : Method} {c : Code} {D : wD} {cy : Nat → ClassId} {X : va_W} {A : Nat → Prop} {S0 : wS} {post : wS → Prop} (F : CallFix p m c cX7_place 7 s args wz_X7_place RX7) (hr : meth.sig.returnType = none) (hlocks : meth.locks = false) (hK : wK D cy A s) : ∀ {S : wS} {H : Heap} {locs : List Loc} {ls : Array Slot} {b0 : Nat} {t1 : Int64}, wp_X7_place_152 D post S b0 t1 → wO D cy X A s.heap S H locs → wX D S0 S → lv_has ls 7 [] → wM D S b0 → sK S b0 = 12 → W p l e r_X7_place s m args below meth c H locs 0 0 (MQ below (va_Qv (fun S9 => wX D S0 S9 ∧ post S9) (wB D cy X A) A) args s 0 0 A) (F0 m 152 ls [.long t1, .ref b0]) := by
  obtain ⟨hx, hb, hml, hown, hts⟩ := id F
  have hwg : ∀ w ∈ WG, w.before args s = true := fun w h => hts w (List.mem_cons_of_mem _ h)
  have i_12 : ∀ w ∈ u_ws RX7 TX7 8, w ∈ wz_X7_place := fun w h => List.mem_cons_of_mem _ (wu_12 w h)
  have k_21 := hwg _ wf_RX7_21
  intro S H locs ls b0 t1 hp hW hE hl hL_b0 hK_b0
  unfold wp_X7_place_152 at hp
  refine w_putJ (k := 12) (f := 4) (T := TX7) F hK hW hL_b0 hK_b0 (by decide) (by decide) rfl rfl (by decide) i_12 tyX7 tyX7_ok nmX7 k_21 rfl rfl rfl dX7_place_152 (fun H locs hW => ?_)
  obtain ⟨S_1, eS_1⟩ : ∃ z : wS, z = uJ S b0 4 t1 := ⟨_, rfl⟩
  rw [← eS_1] at hW
  replace hp := hp S_1 eS_1
  have hX_S_1 : wX D S S_1 := by rw [eS_1]; exact wX_uJ
  have hE := hE.trans hX_S_1
  exact w_vret hx hb hr hlocks hW ⟨hE, hp⟩ dX7_place_155
set_option maxHeartbeats 4000000 in
set_option maxRecDepth 100000 in
theorem t_X7_place_122 {p : Program} {l : Launch} {e : Env} {s : State} {m : MethodId} {args : Array Value} {below : List Frame} {meth : Method} {c : Code} {D : wD} {cy : Nat → ClassId} {X : va_W} {A : Nat → Prop} {S0 : wS} {post : wS → Prop} (F : CallFix p m c cX7_place 7 s args wz_X7_place RX7) (hr : meth.sig.returnType = none) (hlocks : meth.locks = false) (hK : wK D cy A s) : ∀ {S : wS} {H : Heap} {locs : List Loc} {ls : Array Slot} {a0 : Nat} {x3 : Int64} {x5 : Int32} {b0 : Nat} {t1 : Int64}, wp_X7_place_122 D post S a0 x3 x5 b0 t1 → wO D cy X A s.heap S H locs → wX D S0 S → lv_has ls 7 [(0, .ref a0), (3, .long x3), (5, .int x5)] → wM D S a0 → sK S a0 = 12 → wM D S b0 → sK S b0 = 12 → W p l e r_X7_place s m args below meth c H locs 0 0 (MQ below (va_Qv (fun S9 => wX D S0 S9 ∧ post S9) (wB D cy X A) A) args s 0 0 A) (F0 m 122 ls [.long t1, .ref b0]) := by
  obtain ⟨hx, hb, hml, hown, hts⟩ := id F
  have hwg : ∀ w ∈ WG, w.before args s = true := fun w h => hts w (List.mem_cons_of_mem _ h)
  have i_12 : ∀ w ∈ u_ws RX7 TX7 8, w ∈ wz_X7_place := fun w h => List.mem_cons_of_mem _ (wu_12 w h)
  have k_18 := hwg _ wf_RX7_18
  have k_21 := hwg _ wf_RX7_21
  intro S H locs ls a0 x3 x5 b0 t1 hp hW hE hl hL_a0 hK_a0 hL_b0 hK_b0
  unfold wp_X7_place_122 at hp
  refine w_putJ (k := 12) (f := 3) (T := TX7) F hK hW hL_b0 hK_b0 (by decide) (by decide) rfl rfl (by decide) i_12 tyX7 tyX7_ok nmX7 k_18 rfl rfl rfl dX7_place_122 (fun H locs hW => ?_)
  obtain ⟨S_1, eS_1⟩ : ∃ z : wS, z = uJ S b0 3 t1 := ⟨_, rfl⟩
  rw [← eS_1] at hW
  replace hp := hp S_1 eS_1
  have hX_S_1 : wX D S S_1 := by rw [eS_1]; exact wX_uJ
  have hE := hE.trans hX_S_1
  have hK_a0 : sK S_1 a0 = 12 := (hX_S_1.2 a0 hL_a0).1.trans hK_a0
  have hL_a0 : wM D S_1 a0 := hX_S_1.M hL_a0
  refine lv_aload_n hx hb dX7_place_125 rfl (lv_at hl 0 rfl) ?_
  refine lv_iload hx hb dX7_place_126 (lv_at hl 2 rfl) ?_
  refine lv_iconst (v := 4) hx hb dX7_place_128 (by decide) ?_
  refine lv_iand hx hb dX7_place_129 ?_
  refine lv_if_eq (tgt := 142) hx hb dX7_place_130 (by decide) (fun c_2 => ?_) (fun c_2 => ?_)
  · replace hp := hp.1 c_2
    refine lv_aload_n hx hb dX7_place_142 rfl (lv_at hl 0 rfl) ?_
    refine w_get (k := 12) (f := 4) (T := TX7) (v := .long (sJ S_1 a0 4)) F hK hW hL_a0 hK_a0 (by decide) rfl rfl (by decide) i_12 k_21 rfl dX7_place_143 ?_
    refine lv_lload_n hx hb dX7_place_146 rfl (lv_at hl 1 rfl) ?_
    refine lv_ldc2 (v := (-1)) hx hb hown (hwg _ wJ_RX7_70) dX7_place_147 ?_
    refine lv_lxor hx hb dX7_place_150 ?_
    refine lv_land hx hb dX7_place_151 ?_
    exact t_X7_place_152 F hr hlocks hK hp hW hE (lv_sub hl [] rfl) hL_a0 hK_a0
  · replace hp := hp.2 c_2
    refine lv_aload_n hx hb dX7_place_133 rfl (lv_at hl 0 rfl) ?_
    refine w_get (k := 12) (f := 4) (T := TX7) (v := .long (sJ S_1 a0 4)) F hK hW hL_a0 hK_a0 (by decide) rfl rfl (by decide) i_12 k_21 rfl dX7_place_134 ?_
    refine lv_lload_n hx hb dX7_place_137 rfl (lv_at hl 1 rfl) ?_
    refine lv_lor hx hb dX7_place_138 ?_
    refine lv_goto (tgt := 152) hx hb dX7_place_139 (by decide) ?_
    exact t_X7_place_152 F hr hlocks hK hp hW hE (lv_sub hl [] rfl) hL_a0 hK_a0
set_option maxHeartbeats 4000000 in
set_option maxRecDepth 100000 in
theorem t_X7_place_92 {p : Program} {l : Launch} {e : Env} {s : State} {m : MethodId} {args : Array Value} {below : List Frame} {meth : Method} {c : Code} {D : wD} {cy : Nat → ClassId} {X : va_W} {A : Nat → Prop} {S0 : wS} {post : wS → Prop} (F : CallFix p m c cX7_place 7 s args wz_X7_place RX7) (hr : meth.sig.returnType = none) (hlocks : meth.locks = false) (hK : wK D cy A s) : ∀ {S : wS} {H : Heap} {locs : List Loc} {ls : Array Slot} {a0 : Nat} {x3 : Int64} {x5 : Int32} {b0 : Nat} {t1 : Int64}, wp_X7_place_92 D post S a0 x3 x5 b0 t1 → wO D cy X A s.heap S H locs → wX D S0 S → lv_has ls 7 [(0, .ref a0), (3, .long x3), (5, .int x5)] → wM D S a0 → sK S a0 = 12 → wM D S b0 → sK S b0 = 12 → W p l e r_X7_place s m args below meth c H locs 0 0 (MQ below (va_Qv (fun S9 => wX D S0 S9 ∧ post S9) (wB D cy X A) A) args s 0 0 A) (F0 m 92 ls [.long t1, .ref b0]) := by
  obtain ⟨hx, hb, hml, hown, hts⟩ := id F
  have hwg : ∀ w ∈ WG, w.before args s = true := fun w h => hts w (List.mem_cons_of_mem _ h)
  have i_12 : ∀ w ∈ u_ws RX7 TX7 8, w ∈ wz_X7_place := fun w h => List.mem_cons_of_mem _ (wu_12 w h)
  have k_15 := hwg _ wf_RX7_15
  have k_18 := hwg _ wf_RX7_18
  intro S H locs ls a0 x3 x5 b0 t1 hp hW hE hl hL_a0 hK_a0 hL_b0 hK_b0
  unfold wp_X7_place_92 at hp
  refine w_putJ (k := 12) (f := 2) (T := TX7) F hK hW hL_b0 hK_b0 (by decide) (by decide) rfl rfl (by decide) i_12 tyX7 tyX7_ok nmX7 k_15 rfl rfl rfl dX7_place_92 (fun H locs hW => ?_)
  obtain ⟨S_1, eS_1⟩ : ∃ z : wS, z = uJ S b0 2 t1 := ⟨_, rfl⟩
  rw [← eS_1] at hW
  replace hp := hp S_1 eS_1
  have hX_S_1 : wX D S S_1 := by rw [eS_1]; exact wX_uJ
  have hE := hE.trans hX_S_1
  have hK_a0 : sK S_1 a0 = 12 := (hX_S_1.2 a0 hL_a0).1.trans hK_a0
  have hL_a0 : wM D S_1 a0 := hX_S_1.M hL_a0
  refine lv_aload_n hx hb dX7_place_95 rfl (lv_at hl 0 rfl) ?_
  refine lv_iload hx hb dX7_place_96 (lv_at hl 2 rfl) ?_
  refine lv_iconst (v := 2) hx hb dX7_place_98 (by decide) ?_
  refine lv_iand hx hb dX7_place_99 ?_
  refine lv_if_eq (tgt := 112) hx hb dX7_place_100 (by decide) (fun c_2 => ?_) (fun c_2 => ?_)
  · replace hp := hp.1 c_2
    refine lv_aload_n hx hb dX7_place_112 rfl (lv_at hl 0 rfl) ?_
    refine w_get (k := 12) (f := 3) (T := TX7) (v := .long (sJ S_1 a0 3)) F hK hW hL_a0 hK_a0 (by decide) rfl rfl (by decide) i_12 k_18 rfl dX7_place_113 ?_
    refine lv_lload_n hx hb dX7_place_116 rfl (lv_at hl 1 rfl) ?_
    refine lv_ldc2 (v := (-1)) hx hb hown (hwg _ wJ_RX7_70) dX7_place_117 ?_
    refine lv_lxor hx hb dX7_place_120 ?_
    refine lv_land hx hb dX7_place_121 ?_
    exact t_X7_place_122 F hr hlocks hK hp hW hE (lv_sub hl [0, 1, 2] rfl) hL_a0 hK_a0 hL_a0 hK_a0
  · replace hp := hp.2 c_2
    refine lv_aload_n hx hb dX7_place_103 rfl (lv_at hl 0 rfl) ?_
    refine w_get (k := 12) (f := 3) (T := TX7) (v := .long (sJ S_1 a0 3)) F hK hW hL_a0 hK_a0 (by decide) rfl rfl (by decide) i_12 k_18 rfl dX7_place_104 ?_
    refine lv_lload_n hx hb dX7_place_107 rfl (lv_at hl 1 rfl) ?_
    refine lv_lor hx hb dX7_place_108 ?_
    refine lv_goto (tgt := 122) hx hb dX7_place_109 (by decide) ?_
    exact t_X7_place_122 F hr hlocks hK hp hW hE (lv_sub hl [0, 1, 2] rfl) hL_a0 hK_a0 hL_a0 hK_a0
set_option maxHeartbeats 4000000 in
set_option maxRecDepth 100000 in
theorem t_X7_place_62 {p : Program} {l : Launch} {e : Env} {s : State} {m : MethodId} {args : Array Value} {below : List Frame} {meth : Method} {c : Code} {D : wD} {cy : Nat → ClassId} {X : va_W} {A : Nat → Prop} {S0 : wS} {post : wS → Prop} (F : CallFix p m c cX7_place 7 s args wz_X7_place RX7) (hr : meth.sig.returnType = none) (hlocks : meth.locks = false) (hK : wK D cy A s) : ∀ {S : wS} {H : Heap} {locs : List Loc} {ls : Array Slot} {a0 : Nat} {x3 : Int64} {x5 : Int32} {b0 : Nat} {t1 : Int64}, wp_X7_place_62 D post S a0 x3 x5 b0 t1 → wO D cy X A s.heap S H locs → wX D S0 S → lv_has ls 7 [(0, .ref a0), (3, .long x3), (5, .int x5)] → wM D S a0 → sK S a0 = 12 → wM D S b0 → sK S b0 = 12 → W p l e r_X7_place s m args below meth c H locs 0 0 (MQ below (va_Qv (fun S9 => wX D S0 S9 ∧ post S9) (wB D cy X A) A) args s 0 0 A) (F0 m 62 ls [.long t1, .ref b0]) := by
  obtain ⟨hx, hb, hml, hown, hts⟩ := id F
  have hwg : ∀ w ∈ WG, w.before args s = true := fun w h => hts w (List.mem_cons_of_mem _ h)
  have i_12 : ∀ w ∈ u_ws RX7 TX7 8, w ∈ wz_X7_place := fun w h => List.mem_cons_of_mem _ (wu_12 w h)
  have k_15 := hwg _ wf_RX7_15
  have k_9 := hwg _ wf_RX7_9
  intro S H locs ls a0 x3 x5 b0 t1 hp hW hE hl hL_a0 hK_a0 hL_b0 hK_b0
  unfold wp_X7_place_62 at hp
  refine w_putJ (k := 12) (f := 1) (T := TX7) F hK hW hL_b0 hK_b0 (by decide) (by decide) rfl rfl (by decide) i_12 tyX7 tyX7_ok nmX7 k_9 rfl rfl rfl dX7_place_62 (fun H locs hW => ?_)
  obtain ⟨S_1, eS_1⟩ : ∃ z : wS, z = uJ S b0 1 t1 := ⟨_, rfl⟩
  rw [← eS_1] at hW
  replace hp := hp S_1 eS_1
  have hX_S_1 : wX D S S_1 := by rw [eS_1]; exact wX_uJ
  have hE := hE.trans hX_S_1
  have hK_a0 : sK S_1 a0 = 12 := (hX_S_1.2 a0 hL_a0).1.trans hK_a0
  have hL_a0 : wM D S_1 a0 := hX_S_1.M hL_a0
  refine lv_aload_n hx hb dX7_place_65 rfl (lv_at hl 0 rfl) ?_
  refine lv_iload hx hb dX7_place_66 (lv_at hl 2 rfl) ?_
  refine lv_iconst (v := 1) hx hb dX7_place_68 (by decide) ?_
  refine lv_iand hx hb dX7_place_69 ?_
  refine lv_if_eq (tgt := 82) hx hb dX7_place_70 (by decide) (fun c_2 => ?_) (fun c_2 => ?_)
  · replace hp := hp.1 c_2
    refine lv_aload_n hx hb dX7_place_82 rfl (lv_at hl 0 rfl) ?_
    refine w_get (k := 12) (f := 2) (T := TX7) (v := .long (sJ S_1 a0 2)) F hK hW hL_a0 hK_a0 (by decide) rfl rfl (by decide) i_12 k_15 rfl dX7_place_83 ?_
    refine lv_lload_n hx hb dX7_place_86 rfl (lv_at hl 1 rfl) ?_
    refine lv_ldc2 (v := (-1)) hx hb hown (hwg _ wJ_RX7_70) dX7_place_87 ?_
    refine lv_lxor hx hb dX7_place_90 ?_
    refine lv_land hx hb dX7_place_91 ?_
    exact t_X7_place_92 F hr hlocks hK hp hW hE (lv_sub hl [0, 1, 2] rfl) hL_a0 hK_a0 hL_a0 hK_a0
  · replace hp := hp.2 c_2
    refine lv_aload_n hx hb dX7_place_73 rfl (lv_at hl 0 rfl) ?_
    refine w_get (k := 12) (f := 2) (T := TX7) (v := .long (sJ S_1 a0 2)) F hK hW hL_a0 hK_a0 (by decide) rfl rfl (by decide) i_12 k_15 rfl dX7_place_74 ?_
    refine lv_lload_n hx hb dX7_place_77 rfl (lv_at hl 1 rfl) ?_
    refine lv_lor hx hb dX7_place_78 ?_
    refine lv_goto (tgt := 92) hx hb dX7_place_79 (by decide) ?_
    exact t_X7_place_92 F hr hlocks hK hp hW hE (lv_sub hl [0, 1, 2] rfl) hL_a0 hK_a0 hL_a0 hK_a0
set_option maxHeartbeats 4000000 in
set_option maxRecDepth 100000 in
theorem t_X7_place_35 {p : Program} {l : Launch} {e : Env} {s : State} {m : MethodId} {args : Array Value} {below : List Frame} {meth : Method} {c : Code} {D : wD} {cy : Nat → ClassId} {X : va_W} {A : Nat → Prop} {S0 : wS} {post : wS → Prop} (F : CallFix p m c cX7_place 7 s args wz_X7_place RX7) (hr : meth.sig.returnType = none) (hlocks : meth.locks = false) (hK : wK D cy A s) : ∀ {S : wS} {H : Heap} {locs : List Loc} {ls : Array Slot} {a0 : Nat} {x3 : Int64} {x5 : Int32} {t0 : Int32}, wp_X7_place_35 D post S a0 x3 x5 t0 → wO D cy X A s.heap S H locs → wX D S0 S → lv_has ls 7 [(0, .ref a0), (3, .long x3), (5, .int x5)] → wM D S a0 → sK S a0 = 12 → W p l e r_X7_place s m args below meth c H locs 0 0 (MQ below (va_Qv (fun S9 => wX D S0 S9 ∧ post S9) (wB D cy X A) A) args s 0 0 A) (F0 m 35 ls [.int t0]) := by
  obtain ⟨hx, hb, hml, hown, hts⟩ := id F
  have hwg : ∀ w ∈ WG, w.before args s = true := fun w h => hts w (List.mem_cons_of_mem _ h)
  have i_12 : ∀ w ∈ u_ws RX7 TX7 8, w ∈ wz_X7_place := fun w h => List.mem_cons_of_mem _ (wu_12 w h)
  have k_9 := hwg _ wf_RX7_9
  intro S H locs ls a0 x3 x5 t0 hp hW hE hl hL_a0 hK_a0
  unfold wp_X7_place_35 at hp
  refine lv_istore (lv' := [(6, .int t0), (0, .ref a0), (3, .long x3), (5, .int x5)]) hx hb dX7_place_35 hl (by decide) rfl (fun ls hl => ?_)
  refine lv_aload_n hx hb dX7_place_37 rfl (lv_at hl 1 rfl) ?_
  refine lv_iload hx hb dX7_place_38 (lv_at hl 0 rfl) ?_
  refine lv_if_eq (tgt := 52) hx hb dX7_place_40 (by decide) (fun c_1 => ?_) (fun c_1 => ?_)
  · replace hp := hp.1 c_1
    refine lv_aload_n hx hb dX7_place_52 rfl (lv_at hl 1 rfl) ?_
    refine w_get (k := 12) (f := 1) (T := TX7) (v := .long (sJ S a0 1)) F hK hW hL_a0 hK_a0 (by decide) rfl rfl (by decide) i_12 k_9 rfl dX7_place_53 ?_
    refine lv_lload_n hx hb dX7_place_56 rfl (lv_at hl 2 rfl) ?_
    refine lv_ldc2 (v := (-1)) hx hb hown (hwg _ wJ_RX7_70) dX7_place_57 ?_
    refine lv_lxor hx hb dX7_place_60 ?_
    refine lv_land hx hb dX7_place_61 ?_
    exact t_X7_place_62 F hr hlocks hK hp hW hE (lv_sub hl [1, 2, 3] rfl) hL_a0 hK_a0 hL_a0 hK_a0
  · replace hp := hp.2 c_1
    refine lv_aload_n hx hb dX7_place_43 rfl (lv_at hl 1 rfl) ?_
    refine w_get (k := 12) (f := 1) (T := TX7) (v := .long (sJ S a0 1)) F hK hW hL_a0 hK_a0 (by decide) rfl rfl (by decide) i_12 k_9 rfl dX7_place_44 ?_
    refine lv_lload_n hx hb dX7_place_47 rfl (lv_at hl 2 rfl) ?_
    refine lv_lor hx hb dX7_place_48 ?_
    refine lv_goto (tgt := 62) hx hb dX7_place_49 (by decide) ?_
    exact t_X7_place_62 F hr hlocks hK hp hW hE (lv_sub hl [1, 2, 3] rfl) hL_a0 hK_a0 hL_a0 hK_a0
set_option maxHeartbeats 4000000 in
set_option maxRecDepth 100000 in
theorem t_X7_place_34 {p : Program} {l : Launch} {e : Env} {s : State} {m : MethodId} {args : Array Value} {below : List Frame} {meth : Method} {c : Code} {D : wD} {cy : Nat → ClassId} {X : va_W} {A : Nat → Prop} {S0 : wS} {post : wS → Prop} (F : CallFix p m c cX7_place 7 s args wz_X7_place RX7) (hr : meth.sig.returnType = none) (hlocks : meth.locks = false) (hK : wK D cy A s) : ∀ {S : wS} {H : Heap} {locs : List Loc} {ls : Array Slot} {a0 : Nat} {x3 : Int64} {x5 : Int32}, wp_X7_place_34 D post S a0 x3 x5 → wO D cy X A s.heap S H locs → wX D S0 S → lv_has ls 7 [(0, .ref a0), (3, .long x3), (5, .int x5)] → wM D S a0 → sK S a0 = 12 → W p l e r_X7_place s m args below meth c H locs 0 0 (MQ below (va_Qv (fun S9 => wX D S0 S9 ∧ post S9) (wB D cy X A) A) args s 0 0 A) (F0 m 34 ls []) := by
  obtain ⟨hx, hb, hml, hown, hts⟩ := id F
  have hwg : ∀ w ∈ WG, w.before args s = true := fun w h => hts w (List.mem_cons_of_mem _ h)
  intro S H locs ls a0 x3 x5 hp hW hE hl hL_a0 hK_a0
  unfold wp_X7_place_34 at hp
  refine lv_iconst (v := 0) hx hb dX7_place_34 (by decide) ?_
  exact t_X7_place_35 F hr hlocks hK hp hW hE (lv_sub hl [0, 1, 2] rfl) hL_a0 hK_a0
set_option maxHeartbeats 4000000 in
set_option maxRecDepth 100000 in
theorem t_X7_place_18 {p : Program} {l : Launch} {e : Env} {s : State} {m : MethodId} {args : Array Value} {below : List Frame} {meth : Method} {c : Code} {D : wD} {cy : Nat → ClassId} {X : va_W} {A : Nat → Prop} {S0 : wS} {post : wS → Prop} (F : CallFix p m c cX7_place 7 s args wz_X7_place RX7) (hr : meth.sig.returnType = none) (hlocks : meth.locks = false) (hK : wK D cy A s) : ∀ {S : wS} {H : Heap} {locs : List Loc} {ls : Array Slot} {a0 : Nat} {x2 : Int32} {x3 : Int64} {t0 : Int32}, wp_X7_place_18 D post S a0 x2 x3 t0 → wO D cy X A s.heap S H locs → wX D S0 S → lv_has ls 7 [(0, .ref a0), (2, .int x2), (3, .long x3)] → wM D S a0 → sK S a0 = 12 → W p l e r_X7_place s m args below meth c H locs 0 0 (MQ below (va_Qv (fun S9 => wX D S0 S9 ∧ post S9) (wB D cy X A) A) args s 0 0 A) (F0 m 18 ls [.int t0]) := by
  obtain ⟨hx, hb, hml, hown, hts⟩ := id F
  have hwg : ∀ w ∈ WG, w.before args s = true := fun w h => hts w (List.mem_cons_of_mem _ h)
  intro S H locs ls a0 x2 x3 t0 hp hW hE hl hL_a0 hK_a0
  unfold wp_X7_place_18 at hp
  refine lv_istore (lv' := [(5, .int t0), (0, .ref a0), (2, .int x2), (3, .long x3)]) hx hb dX7_place_18 hl (by decide) rfl (fun ls hl => ?_)
  refine lv_iload_n hx hb dX7_place_20 rfl (lv_at hl 2 rfl) ?_
  refine lv_if_le (tgt := 34) hx hb dX7_place_21 (by decide) (fun c_1 => ?_) (fun c_1 => ?_)
  · replace hp := hp.1 c_1
    exact t_X7_place_34 F hr hlocks hK hp hW hE (lv_sub hl [1, 3, 0] rfl) hL_a0 hK_a0
  · replace hp := hp.2 c_1
    refine lv_iload_n hx hb dX7_place_24 rfl (lv_at hl 2 rfl) ?_
    refine lv_bipush (v := 6) hx hb dX7_place_25 (by decide) ?_
    refine lv_icmp_gt (tgt := 34) hx hb dX7_place_27 (by decide) (fun c_2 => ?_) (fun c_2 => ?_)
    · replace hp := hp.1 c_2
      exact t_X7_place_34 F hr hlocks hK hp hW hE (lv_sub hl [1, 3, 0] rfl) hL_a0 hK_a0
    · replace hp := hp.2 c_2
      refine lv_iconst (v := 1) hx hb dX7_place_30 (by decide) ?_
      refine lv_goto (tgt := 35) hx hb dX7_place_31 (by decide) ?_
      exact t_X7_place_35 F hr hlocks hK hp hW hE (lv_sub hl [1, 3, 0] rfl) hL_a0 hK_a0
set_option maxHeartbeats 4000000 in
set_option maxRecDepth 100000 in
theorem t_X7_place_0 {p : Program} {l : Launch} {e : Env} {s : State} {m : MethodId} {args : Array Value} {below : List Frame} {meth : Method} {c : Code} {D : wD} {cy : Nat → ClassId} {X : va_W} {A : Nat → Prop} {S0 : wS} {post : wS → Prop} (F : CallFix p m c cX7_place 7 s args wz_X7_place RX7) (hr : meth.sig.returnType = none) (hlocks : meth.locks = false) (hK : wK D cy A s) : ∀ {S : wS} {H : Heap} {locs : List Loc} {ls : Array Slot} {a0 : Nat} {x1 : Int32} {x2 : Int32}, wp_X7_place_0 D post S a0 x1 x2 → wO D cy X A s.heap S H locs → wX D S0 S → lv_has ls 7 [(0, .ref a0), (1, .int x1), (2, .int x2)] → wM D S a0 → sK S a0 = 12 → W p l e r_X7_place s m args below meth c H locs 0 0 (MQ below (va_Qv (fun S9 => wX D S0 S9 ∧ post S9) (wB D cy X A) A) args s 0 0 A) (F0 m 0 ls []) := by
  obtain ⟨hx, hb, hml, hown, hts⟩ := id F
  have hwg : ∀ w ∈ WG, w.before args s = true := fun w h => hts w (List.mem_cons_of_mem _ h)
  intro S H locs ls a0 x1 x2 hp hW hE hl hL_a0 hK_a0
  unfold wp_X7_place_0 at hp
  refine lv_lconst (v := 1) hx hb dX7_place_0 (by decide) ?_
  refine lv_iload_n hx hb dX7_place_1 rfl (lv_at hl 1 rfl) ?_
  refine lv_lshl (v := (jlshl (1 : Int64) x1)) hx hb dX7_place_2 rfl ?_
  refine lv_topl (fun x_1 ex_1 => ?_)
  replace hp := hp x_1 ex_1
  refine lv_lstore_n (lv' := [(3, .long x_1), (0, .ref a0), (1, .int x1), (2, .int x2)]) hx hb dX7_place_3 rfl hl (by decide) rfl (fun ls hl => ?_)
  refine lv_iload_n hx hb dX7_place_4 rfl (lv_at hl 3 rfl) ?_
  refine lv_bipush (v := 6) hx hb dX7_place_5 (by decide) ?_
  refine lv_icmp_le (tgt := 17) hx hb dX7_place_7 (by decide) (fun c_2 => ?_) (fun c_2 => ?_)
  · replace hp := hp.1 c_2
    refine lv_iload_n hx hb dX7_place_17 rfl (lv_at hl 3 rfl) ?_
    exact t_X7_place_18 F hr hlocks hK hp hW hE (lv_sub hl [1, 3, 0] rfl) hL_a0 hK_a0
  · replace hp := hp.2 c_2
    refine lv_iload_n hx hb dX7_place_10 rfl (lv_at hl 3 rfl) ?_
    refine lv_bipush (v := 6) hx hb dX7_place_11 (by decide) ?_
    refine lv_isub hx hb dX7_place_13 ?_
    refine lv_goto (tgt := 18) hx hb dX7_place_14 (by decide) ?_
    exact t_X7_place_18 F hr hlocks hK hp hW hE (lv_sub hl [1, 3, 0] rfl) hL_a0 hK_a0
set_option maxHeartbeats 4000000 in
set_option maxRecDepth 100000 in
theorem c_X7_place (l : Launch) {D : wD} {cy : Nat → ClassId} {X : va_W} {S0 : wS} {post : wS → Prop} {a0 : Nat} {x1 : Int32} {x2 : Int32} (hL_a0 : wM D S0 a0) (hK_a0 : sK S0 a0 = 12) (hp : wp_X7_place D post S0 a0 x1 x2) : mV D cy X l yX7_place wz_X7_place r_X7_place [.ref a0, .int x1, .int x2] S0 (fun S9 => wX D S0 S9 ∧ post S9) := by
  intro sz
  refine Met.ofW (cc := cX7_place) (maxL := 7) (ret := none) (by decide) rfl ?_
  intro p e s m args below meth c s₁ B hml hv
  obtain ⟨rfl, hsz, hP, hK, hD0, hRO⟩ := hv
  have hts := atoms_spec (ws := wz_X7_place) B.pre
  have hown : s.vm.findClass RX7 = some m.cls := findClass_of_methodNamed B.named
  subst hsz
  have hD := hD0.self (sz := s.heap.size)
  have F : CallFix p m c cX7_place 7 s _ wz_X7_place RX7 := ⟨B.exec, B.bytes, hml, hown, hts⟩
  have hr := B.returns
  have hlocks := B.notSynchronized
  generalize hAe : va_A (wL cy X S0) s.heap.size = A at hD hK ⊢
  have hA : ∀ q, s.heap.size ≤ q → A q := fun q h => by rw [← hAe]; exact Or.inr h
  have hW : wO D cy X A s.heap S0 s.heap [] := ⟨hP, hD, va_S.rf, hA, hRO⟩
  have hl := lv_entry ([.ref a0, .int x1, .int x2]) (n := 7) (Nat.le_of_ble_eq_true rfl)
  rw [lg_entry_eq]
  generalize (lg_sl ([.ref a0, .int x1, .int x2]) ++ List.replicate (7 - (lg_sl ([.ref a0, .int x1, .int x2])).length) Slot.unset).toArray = ls at hl ⊢
  have hl : lv_has ls 7 [(0, .ref a0), (1, .int x1), (2, .int x2)] := hl
  unfold wp_X7_place at hp
  exact t_X7_place_0 F hr hlocks hK hp hW wX.rf (lv_sub hl [0, 1, 2] rfl) hL_a0 hK_a0
def wp_X7_apply_298 (D : wD) (post : wS → Prop)  (S : wS) (b0 : Nat) (t1 : Int32) : Prop :=
narrow .boolean (.int t1) = .int t1 ∧ fits .boolean (.int t1) = true ∧
∀ S_1 : wS, S_1 = uI S b0 5 t1 →
post S_1
def wp_X7_apply_282 (D : wD) (post : wS → Prop)  (S : wS) (a0 : Nat) (b0 : Nat) (t1 : Int32) : Prop :=
∀ S_1 : wS, S_1 = uI S b0 7 t1 →
((¬ (sI S_1 a0 5) = 0 → wp_X7_apply_298 D post S_1 a0 (0 : Int32)) ∧
 ((sI S_1 a0 5) = 0 → wp_X7_apply_298 D post S_1 a0 (1 : Int32)))
def wp_X7_apply_281 (D : wD) (post : wS → Prop)  (S : wS) (a0 : Nat) (b0 : Nat) : Prop :=
wp_X7_apply_282 D post S a0 b0 (-1 : Int32)
def wp_X7_apply_246 (D : wD) (post : wS → Prop)  (S : wS) (a0 : Nat) (x2 : Int32) (x3 : Int32) (x7 : Int32) (x8 : Int32) (t0 : Int64) (b1 : Nat) (t2 : Int32) : Prop :=
wp_X7_ofSide D (fun r_1 S_2 => 
∀ x_3 : Int64, x_3 = (t0 &&& r_1) →
((x8 = 0 → wp_X7_apply_281 D post S_2 a0 a0) ∧
 (¬ x8 = 0 → ∃ y_5 : Nat, sR S_2 a0 0 = some y_5 ∧ wM D S_2 y_5 ∧ sK S_2 y_5 = 5 ∧
wp_X0_besidesOf D (fun r_6 S_7 => 
(((lg_cmp (r_6 &&& x_3) (0 : Int64)) = 0 → wp_X7_apply_281 D post S_7 a0 a0) ∧
 (¬ (lg_cmp (r_6 &&& x_3) (0 : Int64)) = 0 → wp_X7_apply_282 D post S_7 a0 a0 (x2 + x7)))) S_2 y_5 x3))) S b1 t2
def wp_X7_apply_225 (D : wD) (post : wS → Prop)  (S : wS) (a0 : Nat) (x2 : Int32) (x3 : Int32) (x7 : Int32) (t0 : Int32) : Prop :=
wp_X7_ofKind D (fun r_1 S_2 => 
((¬ (sI S_2 a0 5) = 0 → wp_X7_apply_246 D post S_2 a0 x2 x3 x7 t0 r_1 a0 (0 : Int32)) ∧
 ((sI S_2 a0 5) = 0 → wp_X7_apply_246 D post S_2 a0 x2 x3 x7 t0 r_1 a0 (1 : Int32)))) S a0 (6 : Int32)
def wp_X7_apply_224 (D : wD) (post : wS → Prop)  (S : wS) (a0 : Nat) (x2 : Int32) (x3 : Int32) (x7 : Int32) : Prop :=
wp_X7_apply_225 D post S a0 x2 x3 x7 (0 : Int32)
def wp_X7_apply_203 (D : wD) (post : wS → Prop)  (S : wS) (a0 : Nat) (x2 : Int32) (x3 : Int32) (x6 : Int32) (x7 : Int32) : Prop :=
((¬ x6 = (6 : Int32) → wp_X7_apply_224 D post S a0 x2 x3 x7) ∧
 (x6 = (6 : Int32) → ((¬ (x3 - x2) = ((2 : Int32) * x7) → wp_X7_apply_224 D post S a0 x2 x3 x7) ∧
 ((x3 - x2) = ((2 : Int32) * x7) → wp_X7_apply_225 D post S a0 x2 x3 x7 (1 : Int32)))))
def wp_X7_apply_185 (D : wD) (post : wS → Prop)  (S : wS) (a0 : Nat) (x2 : Int32) (x3 : Int32) (x6 : Int32) (x7 : Int32) (b0 : Nat) (t1 : Int32) (t2 : Int32) : Prop :=
wp_X7_place D (fun S_2 => 
(((sI S_2 a0 6) = 0 → wp_X7_apply_203 D post S_2 a0 x2 x3 x6 x7) ∧
 (¬ (sI S_2 a0 6) = 0 → wp_X7_loseRights D (fun S_5 => 
wp_X7_apply_203 D post S_5 a0 x2 x3 x6 x7) S_2 a0 x2 x3 x6))) S b0 t1 t2
def wp_X7_apply_184 (D : wD) (post : wS → Prop)  (S : wS) (a0 : Nat) (x2 : Int32) (x3 : Int32) (x6 : Int32) (x7 : Int32) (b0 : Nat) (t1 : Int32) (t2 : Int32) (t3 : Int32) : Prop :=
wp_X7_apply_185 D post S a0 x2 x3 x6 x7 b0 t1 (t2 + t3)
def wp_X7_apply_151 (D : wD) (post : wS → Prop)  (S : wS) (a0 : Nat) (x2 : Int32) (x3 : Int32) (x4 : Int32) (x5 : Int32) (x6 : Int32) (x7 : Int32) : Prop :=
wp_X7_place D (fun S_2 => 
((¬ x4 = 0 → (((sI S_2 a0 5) = 0 → wp_X7_apply_184 D post S_2 a0 x2 x3 x6 x7 a0 x3 x4 (6 : Int32)) ∧
 (¬ (sI S_2 a0 5) = 0 → wp_X7_apply_184 D post S_2 a0 x2 x3 x6 x7 a0 x3 x4 (0 : Int32)))) ∧
 (x4 = 0 → wp_X7_apply_185 D post S_2 a0 x2 x3 x6 x7 a0 x3 x5))) S a0 x2 (0 : Int32)
def wp_X7_apply_116 (D : wD) (post : wS → Prop)  (S : wS) (a0 : Nat) (x2 : Int32) (x3 : Int32) (x4 : Int32) (x5 : Int32) (x6 : Int32) (x7 : Int32) : Prop :=
((¬ x6 = (1 : Int32) → wp_X7_apply_151 D post S a0 x2 x3 x4 x5 x6 x7) ∧
 (x6 = (1 : Int32) → ((¬ (x2 - x3) = (2 : Int32) → wp_X7_apply_151 D post S a0 x2 x3 x4 x5 x6 x7) ∧
 ((x2 - x3) = (2 : Int32) → wp_X7_pieceOn D (fun r_3 S_4 => 
wp_X7_place D (fun S_6 => 
wp_X7_place D (fun S_8 => 
wp_X7_apply_151 D post S_8 a0 x2 x3 x4 x5 x6 x7) S_6 a0 (x2 - (4 : Int32)) (0 : Int32)) S_4 a0 (x2 - (1 : Int32)) r_3) S a0 (x2 - (4 : Int32))))))
def wp_X7_apply_81 (D : wD) (post : wS → Prop)  (S : wS) (a0 : Nat) (x2 : Int32) (x3 : Int32) (x4 : Int32) (x5 : Int32) (x6 : Int32) (x7 : Int32) : Prop :=
((¬ x6 = (1 : Int32) → wp_X7_apply_116 D post S a0 x2 x3 x4 x5 x6 x7) ∧
 (x6 = (1 : Int32) → ((¬ (x3 - x2) = (2 : Int32) → wp_X7_apply_116 D post S a0 x2 x3 x4 x5 x6 x7) ∧
 ((x3 - x2) = (2 : Int32) → wp_X7_pieceOn D (fun r_3 S_4 => 
wp_X7_place D (fun S_6 => 
wp_X7_place D (fun S_8 => 
wp_X7_apply_116 D post S_8 a0 x2 x3 x4 x5 x6 x7) S_6 a0 (x2 + (3 : Int32)) (0 : Int32)) S_4 a0 (x2 + (1 : Int32)) r_3) S a0 (x2 + (3 : Int32))))))
def wp_X7_apply_55 (D : wD) (post : wS → Prop)  (S : wS) (a0 : Nat) (x2 : Int32) (x3 : Int32) (x4 : Int32) (x5 : Int32) (x6 : Int32) (t0 : Int32) : Prop :=
((¬ x6 = (6 : Int32) → wp_X7_apply_81 D post S a0 x2 x3 x4 x5 x6 t0) ∧
 (x6 = (6 : Int32) → ((¬ x3 = (sI S a0 7) → wp_X7_apply_81 D post S a0 x2 x3 x4 x5 x6 t0) ∧
 (x3 = (sI S a0 7) → wp_X7_place D (fun S_4 => 
wp_X7_apply_81 D post S_4 a0 x2 x3 x4 x5 x6 t0) S a0 (x3 - t0) (0 : Int32)))))
def wp_X7_apply_0 (D : wD) (post : wS → Prop)  (S : wS) (a0 : Nat) (x1 : Int32) : Prop :=
wp_X11_fromOf D (fun r_1 S_2 => 
wp_X11_toOf D (fun r_3 S_4 => 
wp_X11_becomesOf D (fun r_5 S_6 => 
wp_X7_pieceOn D (fun r_7 S_8 => 
wp_X7_kindOn D (fun r_9 S_10 => 
(((sI S_10 a0 5) = 0 → ∃ y_12 : Nat, sR S_10 a0 0 = some y_12 ∧ wM D S_10 y_12 ∧ sK S_10 y_12 = 5 ∧
wp_X7_apply_55 D post S_10 a0 r_1 r_3 r_5 r_7 r_9 (-(sI S_10 y_12 0))) ∧
 (¬ (sI S_10 a0 5) = 0 → ∃ y_13 : Nat, sR S_10 a0 0 = some y_13 ∧ wM D S_10 y_13 ∧ sK S_10 y_13 = 5 ∧
wp_X7_apply_55 D post S_10 a0 r_1 r_3 r_5 r_7 r_9 (sI S_10 y_13 0)))) S_8 a0 r_1) S_6 a0 r_1) S_4 x1) S_2 x1) S x1
abbrev r_X7_apply : Room := { frames := 2, cells := 0, slots := 0, locals := 50 }
def wp_X7_apply (D : wD) (post : wS → Prop) (S : wS) (a0 : Nat) (x1 : Int32) : Prop := wp_X7_apply_0 D post S a0 x1
set_option maxHeartbeats 4000000 in
set_option maxRecDepth 100000 in
theorem t_X7_apply_298 {p : Program} {l : Launch} {e : Env} {s : State} {m : MethodId} {args : Array Value} {below : List Frame} {meth : Method} {c : Code} {D : wD} {cy : Nat → ClassId} {X : va_W} {A : Nat → Prop} {S0 : wS} {post : wS → Prop} (F : CallFix p m c cX7_apply 11 s args wz_X7_apply RX7) (hr : meth.sig.returnType = none) (hlocks : meth.locks = false) (hK : wK D cy A s) : ∀ {S : wS} {H : Heap} {locs : List Loc} {ls : Array Slot} {b0 : Nat} {t1 : Int32}, wp_X7_apply_298 D post S b0 t1 → wO D cy X A s.heap S H locs → wX D S0 S → lv_has ls 11 [] → wM D S b0 → sK S b0 = 12 → W p l e r_X7_apply s m args below meth c H locs 0 0 (MQ below (va_Qv (fun S9 => wX D S0 S9 ∧ post S9) (wB D cy X A) A) args s 0 0 A) (F0 m 298 ls [.int t1, .ref b0]) := by
  obtain ⟨hx, hb, hml, hown, hts⟩ := id F
  have hwg : ∀ w ∈ WG, w.before args s = true := fun w h => hts w (List.mem_cons_of_mem _ h)
  have i_12 : ∀ w ∈ u_ws RX7 TX7 8, w ∈ wz_X7_apply := fun w h => List.mem_cons_of_mem _ (wu_12 w h)
  have k_24 := hwg _ wf_RX7_24
  intro S H locs ls b0 t1 hp hW hE hl hL_b0 hK_b0
  unfold wp_X7_apply_298 at hp
  obtain ⟨h_2, h_2f, hp⟩ := hp
  refine w_putI (k := 12) (f := 5) (T := TX7) F hK hW hL_b0 hK_b0 (by decide) (by decide) rfl rfl (by decide) i_12 tyX7 tyX7_ok nmX7 k_24 rfl rfl (ty := .boolean) rfl h_2 h_2f dX7_apply_298 (fun H locs hW => ?_)
  obtain ⟨S_1, eS_1⟩ : ∃ z : wS, z = uI S b0 5 t1 := ⟨_, rfl⟩
  rw [← eS_1] at hW
  replace hp := hp S_1 eS_1
  have hX_S_1 : wX D S S_1 := by rw [eS_1]; exact wX_uI
  have hE := hE.trans hX_S_1
  exact w_vret hx hb hr hlocks hW ⟨hE, hp⟩ dX7_apply_301
set_option maxHeartbeats 4000000 in
set_option maxRecDepth 100000 in
theorem t_X7_apply_282 {p : Program} {l : Launch} {e : Env} {s : State} {m : MethodId} {args : Array Value} {below : List Frame} {meth : Method} {c : Code} {D : wD} {cy : Nat → ClassId} {X : va_W} {A : Nat → Prop} {S0 : wS} {post : wS → Prop} (F : CallFix p m c cX7_apply 11 s args wz_X7_apply RX7) (hr : meth.sig.returnType = none) (hlocks : meth.locks = false) (hK : wK D cy A s) : ∀ {S : wS} {H : Heap} {locs : List Loc} {ls : Array Slot} {a0 : Nat} {b0 : Nat} {t1 : Int32}, wp_X7_apply_282 D post S a0 b0 t1 → wO D cy X A s.heap S H locs → wX D S0 S → lv_has ls 11 [(0, .ref a0)] → wM D S a0 → sK S a0 = 12 → wM D S b0 → sK S b0 = 12 → W p l e r_X7_apply s m args below meth c H locs 0 0 (MQ below (va_Qv (fun S9 => wX D S0 S9 ∧ post S9) (wB D cy X A) A) args s 0 0 A) (F0 m 282 ls [.int t1, .ref b0]) := by
  obtain ⟨hx, hb, hml, hown, hts⟩ := id F
  have hwg : ∀ w ∈ WG, w.before args s = true := fun w h => hts w (List.mem_cons_of_mem _ h)
  have i_12 : ∀ w ∈ u_ws RX7 TX7 8, w ∈ wz_X7_apply := fun w h => List.mem_cons_of_mem _ (wu_12 w h)
  have k_24 := hwg _ wf_RX7_24
  have k_32 := hwg _ wf_RX7_32
  intro S H locs ls a0 b0 t1 hp hW hE hl hL_a0 hK_a0 hL_b0 hK_b0
  unfold wp_X7_apply_282 at hp
  refine w_putI (k := 12) (f := 7) (T := TX7) F hK hW hL_b0 hK_b0 (by decide) (by decide) rfl rfl (by decide) i_12 tyX7 tyX7_ok nmX7 k_32 rfl rfl (ty := .int) rfl rfl rfl dX7_apply_282 (fun H locs hW => ?_)
  obtain ⟨S_1, eS_1⟩ : ∃ z : wS, z = uI S b0 7 t1 := ⟨_, rfl⟩
  rw [← eS_1] at hW
  replace hp := hp S_1 eS_1
  have hX_S_1 : wX D S S_1 := by rw [eS_1]; exact wX_uI
  have hE := hE.trans hX_S_1
  have hK_a0 : sK S_1 a0 = 12 := (hX_S_1.2 a0 hL_a0).1.trans hK_a0
  have hL_a0 : wM D S_1 a0 := hX_S_1.M hL_a0
  refine lv_aload_n hx hb dX7_apply_285 rfl (lv_at hl 0 rfl) ?_
  refine lv_aload_n hx hb dX7_apply_286 rfl (lv_at hl 0 rfl) ?_
  refine w_get (k := 12) (f := 5) (T := TX7) (v := .int (sI S_1 a0 5)) F hK hW hL_a0 hK_a0 (by decide) rfl rfl (by decide) i_12 k_24 rfl dX7_apply_287 ?_
  refine lv_if_ne (tgt := 297) hx hb dX7_apply_290 (by decide) (fun c_2 => ?_) (fun c_2 => ?_)
  · replace hp := hp.1 c_2
    refine lv_iconst (v := 0) hx hb dX7_apply_297 (by decide) ?_
    exact t_X7_apply_298 F hr hlocks hK hp hW hE (lv_sub hl [] rfl) hL_a0 hK_a0
  · replace hp := hp.2 c_2
    refine lv_iconst (v := 1) hx hb dX7_apply_293 (by decide) ?_
    refine lv_goto (tgt := 298) hx hb dX7_apply_294 (by decide) ?_
    exact t_X7_apply_298 F hr hlocks hK hp hW hE (lv_sub hl [] rfl) hL_a0 hK_a0
set_option maxHeartbeats 4000000 in
set_option maxRecDepth 100000 in
theorem t_X7_apply_281 {p : Program} {l : Launch} {e : Env} {s : State} {m : MethodId} {args : Array Value} {below : List Frame} {meth : Method} {c : Code} {D : wD} {cy : Nat → ClassId} {X : va_W} {A : Nat → Prop} {S0 : wS} {post : wS → Prop} (F : CallFix p m c cX7_apply 11 s args wz_X7_apply RX7) (hr : meth.sig.returnType = none) (hlocks : meth.locks = false) (hK : wK D cy A s) : ∀ {S : wS} {H : Heap} {locs : List Loc} {ls : Array Slot} {a0 : Nat} {b0 : Nat}, wp_X7_apply_281 D post S a0 b0 → wO D cy X A s.heap S H locs → wX D S0 S → lv_has ls 11 [(0, .ref a0)] → wM D S a0 → sK S a0 = 12 → wM D S b0 → sK S b0 = 12 → W p l e r_X7_apply s m args below meth c H locs 0 0 (MQ below (va_Qv (fun S9 => wX D S0 S9 ∧ post S9) (wB D cy X A) A) args s 0 0 A) (F0 m 281 ls [.ref b0]) := by
  obtain ⟨hx, hb, hml, hown, hts⟩ := id F
  have hwg : ∀ w ∈ WG, w.before args s = true := fun w h => hts w (List.mem_cons_of_mem _ h)
  intro S H locs ls a0 b0 hp hW hE hl hL_a0 hK_a0 hL_b0 hK_b0
  unfold wp_X7_apply_281 at hp
  refine lv_iconst (v := (-1)) hx hb dX7_apply_281 (by decide) ?_
  exact t_X7_apply_282 F hr hlocks hK hp hW hE (lv_sub hl [0] rfl) hL_a0 hK_a0 hL_b0 hK_b0
set_option maxHeartbeats 4000000 in
set_option maxRecDepth 100000 in
theorem t_X7_apply_246 {p : Program} {l : Launch} {e : Env} {s : State} {m : MethodId} {args : Array Value} {below : List Frame} {meth : Method} {c : Code} {D : wD} {cy : Nat → ClassId} {X : va_W} {A : Nat → Prop} {S0 : wS} {post : wS → Prop} (F : CallFix p m c cX7_apply 11 s args wz_X7_apply RX7) (hr : meth.sig.returnType = none) (hlocks : meth.locks = false) (hK : wK D cy A s) : ∀ {S : wS} {H : Heap} {locs : List Loc} {ls : Array Slot} {a0 : Nat} {x2 : Int32} {x3 : Int32} {x7 : Int32} {x8 : Int32} {t0 : Int64} {b1 : Nat} {t2 : Int32}, wp_X7_apply_246 D post S a0 x2 x3 x7 x8 t0 b1 t2 → wO D cy X A s.heap S H locs → wX D S0 S → lv_has ls 11 [(0, .ref a0), (2, .int x2), (3, .int x3), (7, .int x7), (8, .int x8)] → wM D S a0 → sK S a0 = 12 → wM D S b1 → sK S b1 = 12 → W p l e r_X7_apply s m args below meth c H locs 0 0 (MQ below (va_Qv (fun S9 => wX D S0 S9 ∧ post S9) (wB D cy X A) A) args s 0 0 A) (F0 m 246 ls [.int t2, .ref b1, .long t0]) := by
  obtain ⟨hx, hb, hml, hown, hts⟩ := id F
  have hwg : ∀ w ∈ WG, w.before args s = true := fun w h => hts w (List.mem_cons_of_mem _ h)
  have i_12 : ∀ w ∈ u_ws RX7 TX7 8, w ∈ wz_X7_apply := fun w h => List.mem_cons_of_mem _ (wu_12 w h)
  have k_35 := hwg _ wf_RX7_35
  intro S H locs ls a0 x2 x3 x7 x8 t0 b1 t2 hp hW hE hl hL_a0 hK_a0 hL_b1 hK_b1
  unfold wp_X7_apply_246 at hp
  refine w_callJ (va_runV (As := [.int t2]) (rest := [.long t0]) F (c_X7_ofSide l hL_b1 hK_b1 hp H.size) (cwV (C := RX7) 1 hts (wg_V wm_RX7_114 wy_X7_ofSide) rfl rfl rfl (by decide +kernel) ⟨Nat.le_of_ble_eq_true rfl, Nat.le_of_ble_eq_true rfl⟩) (w_preV hK hW hL_b1 hK_b1 (by decide) rfl) rfl rfl hl.1 rfl (lv_room (Nat.le_of_ble_eq_true rfl)) dX7_apply_246 ⟨Nat.le_of_ble_eq_true rfl, Nat.le_of_ble_eq_true rfl⟩) hW (fun r_1 S_2 H locs hp hW => ?_)
  obtain ⟨hX_S_2, hp⟩ := hp
  refine W.widen (k := 0) (n := 0) (by decide) (by decide) ?_
  have hE := hE.trans hX_S_2
  have hK_a0 : sK S_2 a0 = 12 := (hX_S_2.2 a0 hL_a0).1.trans hK_a0
  have hL_a0 : wM D S_2 a0 := hX_S_2.M hL_a0
  refine lv_land hx hb dX7_apply_249 ?_
  refine lv_topl (fun x_3 ex_3 => ?_)
  replace hp := hp x_3 ex_3
  refine lv_lstore (lv' := [(9, .long x_3), (0, .ref a0), (2, .int x2), (3, .int x3), (7, .int x7), (8, .int x8)]) hx hb dX7_apply_250 hl (by decide) rfl (fun ls hl => ?_)
  refine lv_aload_n hx hb dX7_apply_252 rfl (lv_at hl 1 rfl) ?_
  refine lv_iload hx hb dX7_apply_253 (lv_at hl 5 rfl) ?_
  refine lv_if_eq (tgt := 281) hx hb dX7_apply_255 (by decide) (fun c_4 => ?_) (fun c_4 => ?_)
  · replace hp := hp.1 c_4
    exact t_X7_apply_281 F hr hlocks hK hp hW hE (lv_sub hl [1] rfl) hL_a0 hK_a0 hL_a0 hK_a0
  · replace hp := hp.2 c_4
    refine lv_aload_n hx hb dX7_apply_258 rfl (lv_at hl 1 rfl) ?_
    obtain ⟨y_5, ey_5, hL_y_5, hK_y_5, hp⟩ := hp
    refine w_get (k := 12) (f := 0) (T := TX7) (v := .ref y_5) F hK hW hL_a0 hK_a0 (by decide) rfl rfl (by decide) i_12 k_35 (by rw [show wv 12 0 S_2 a0 = va_rf (sR S_2 a0 0) from rfl, ey_5]; rfl) dX7_apply_259 ?_
    refine lv_iload_n hx hb dX7_apply_262 rfl (lv_at hl 3 rfl) ?_
    refine w_callJ (va_runV (As := [.int x3]) (rest := [.ref a0]) F (c_X0_besidesOf l hL_y_5 hK_y_5 hp H.size) (cwV (C := RX0) 1 hts (wg_V wm_RX7_157 wy_X0_besidesOf) rfl rfl rfl (by decide +kernel) ⟨Nat.le_of_ble_eq_true rfl, Nat.le_of_ble_eq_true rfl⟩) (w_preV hK hW hL_y_5 hK_y_5 (by decide) rfl) rfl rfl hl.1 rfl (lv_room (Nat.le_of_ble_eq_true rfl)) dX7_apply_263 ⟨Nat.le_of_ble_eq_true rfl, Nat.le_of_ble_eq_true rfl⟩) hW (fun r_6 S_7 H locs hp hW => ?_)
    obtain ⟨hX_S_7, hp⟩ := hp
    refine W.widen (k := 0) (n := 0) (by decide) (by decide) ?_
    have hE := hE.trans hX_S_7
    have hK_a0 : sK S_7 a0 = 12 := (hX_S_7.2 a0 hL_a0).1.trans hK_a0
    have hL_a0 : wM D S_7 a0 := hX_S_7.M hL_a0
    refine lv_lload hx hb dX7_apply_266 (lv_at hl 0 rfl) ?_
    refine lv_land hx hb dX7_apply_268 ?_
    refine lv_lconst (v := 0) hx hb dX7_apply_269 (by decide) ?_
    refine W.lcmp hx hb dX7_apply_270 ?_
    refine lv_if_eq (tgt := 281) hx hb dX7_apply_271 (by decide) (fun c_8 => ?_) (fun c_8 => ?_)
    · replace hp := hp.1 c_8
      exact t_X7_apply_281 F hr hlocks hK hp hW hE (lv_sub hl [1] rfl) hL_a0 hK_a0 hL_a0 hK_a0
    · replace hp := hp.2 c_8
      refine lv_iload_n hx hb dX7_apply_274 rfl (lv_at hl 2 rfl) ?_
      refine lv_iload hx hb dX7_apply_275 (lv_at hl 4 rfl) ?_
      refine lv_iadd hx hb dX7_apply_277 ?_
      refine lv_goto (tgt := 282) hx hb dX7_apply_278 (by decide) ?_
      exact t_X7_apply_282 F hr hlocks hK hp hW hE (lv_sub hl [1] rfl) hL_a0 hK_a0 hL_a0 hK_a0
set_option maxHeartbeats 4000000 in
set_option maxRecDepth 100000 in
theorem t_X7_apply_225 {p : Program} {l : Launch} {e : Env} {s : State} {m : MethodId} {args : Array Value} {below : List Frame} {meth : Method} {c : Code} {D : wD} {cy : Nat → ClassId} {X : va_W} {A : Nat → Prop} {S0 : wS} {post : wS → Prop} (F : CallFix p m c cX7_apply 11 s args wz_X7_apply RX7) (hr : meth.sig.returnType = none) (hlocks : meth.locks = false) (hK : wK D cy A s) : ∀ {S : wS} {H : Heap} {locs : List Loc} {ls : Array Slot} {a0 : Nat} {x2 : Int32} {x3 : Int32} {x7 : Int32} {t0 : Int32}, wp_X7_apply_225 D post S a0 x2 x3 x7 t0 → wO D cy X A s.heap S H locs → wX D S0 S → lv_has ls 11 [(0, .ref a0), (2, .int x2), (3, .int x3), (7, .int x7)] → wM D S a0 → sK S a0 = 12 → W p l e r_X7_apply s m args below meth c H locs 0 0 (MQ below (va_Qv (fun S9 => wX D S0 S9 ∧ post S9) (wB D cy X A) A) args s 0 0 A) (F0 m 225 ls [.int t0]) := by
  obtain ⟨hx, hb, hml, hown, hts⟩ := id F
  have hwg : ∀ w ∈ WG, w.before args s = true := fun w h => hts w (List.mem_cons_of_mem _ h)
  have i_12 : ∀ w ∈ u_ws RX7 TX7 8, w ∈ wz_X7_apply := fun w h => List.mem_cons_of_mem _ (wu_12 w h)
  have k_24 := hwg _ wf_RX7_24
  intro S H locs ls a0 x2 x3 x7 t0 hp hW hE hl hL_a0 hK_a0
  unfold wp_X7_apply_225 at hp
  refine lv_istore (lv' := [(8, .int t0), (0, .ref a0), (2, .int x2), (3, .int x3), (7, .int x7)]) hx hb dX7_apply_225 hl (by decide) rfl (fun ls hl => ?_)
  refine lv_aload_n hx hb dX7_apply_227 rfl (lv_at hl 1 rfl) ?_
  refine lv_bipush (v := 6) hx hb dX7_apply_228 (by decide) ?_
  refine w_callJ (va_runV (As := [.int (6 : Int32)]) (rest := []) F (c_X7_ofKind l hL_a0 hK_a0 hp H.size) (cwV (C := RX7) 1 hts (wg_V wm_RX7_83 wy_X7_ofKind) rfl rfl rfl (by decide +kernel) ⟨Nat.le_of_ble_eq_true rfl, Nat.le_of_ble_eq_true rfl⟩) (w_preV hK hW hL_a0 hK_a0 (by decide) rfl) rfl rfl hl.1 rfl (lv_room (Nat.le_of_ble_eq_true rfl)) dX7_apply_230 ⟨Nat.le_of_ble_eq_true rfl, Nat.le_of_ble_eq_true rfl⟩) hW (fun r_1 S_2 H locs hp hW => ?_)
  obtain ⟨hX_S_2, hp⟩ := hp
  refine W.widen (k := 0) (n := 0) (by decide) (by decide) ?_
  have hE := hE.trans hX_S_2
  have hK_a0 : sK S_2 a0 = 12 := (hX_S_2.2 a0 hL_a0).1.trans hK_a0
  have hL_a0 : wM D S_2 a0 := hX_S_2.M hL_a0
  refine lv_aload_n hx hb dX7_apply_233 rfl (lv_at hl 1 rfl) ?_
  refine lv_aload_n hx hb dX7_apply_234 rfl (lv_at hl 1 rfl) ?_
  refine w_get (k := 12) (f := 5) (T := TX7) (v := .int (sI S_2 a0 5)) F hK hW hL_a0 hK_a0 (by decide) rfl rfl (by decide) i_12 k_24 rfl dX7_apply_235 ?_
  refine lv_if_ne (tgt := 245) hx hb dX7_apply_238 (by decide) (fun c_3 => ?_) (fun c_3 => ?_)
  · replace hp := hp.1 c_3
    refine lv_iconst (v := 0) hx hb dX7_apply_245 (by decide) ?_
    exact t_X7_apply_246 F hr hlocks hK hp hW hE (lv_sub hl [1, 2, 3, 4, 0] rfl) hL_a0 hK_a0 hL_a0 hK_a0
  · replace hp := hp.2 c_3
    refine lv_iconst (v := 1) hx hb dX7_apply_241 (by decide) ?_
    refine lv_goto (tgt := 246) hx hb dX7_apply_242 (by decide) ?_
    exact t_X7_apply_246 F hr hlocks hK hp hW hE (lv_sub hl [1, 2, 3, 4, 0] rfl) hL_a0 hK_a0 hL_a0 hK_a0
set_option maxHeartbeats 4000000 in
set_option maxRecDepth 100000 in
theorem t_X7_apply_224 {p : Program} {l : Launch} {e : Env} {s : State} {m : MethodId} {args : Array Value} {below : List Frame} {meth : Method} {c : Code} {D : wD} {cy : Nat → ClassId} {X : va_W} {A : Nat → Prop} {S0 : wS} {post : wS → Prop} (F : CallFix p m c cX7_apply 11 s args wz_X7_apply RX7) (hr : meth.sig.returnType = none) (hlocks : meth.locks = false) (hK : wK D cy A s) : ∀ {S : wS} {H : Heap} {locs : List Loc} {ls : Array Slot} {a0 : Nat} {x2 : Int32} {x3 : Int32} {x7 : Int32}, wp_X7_apply_224 D post S a0 x2 x3 x7 → wO D cy X A s.heap S H locs → wX D S0 S → lv_has ls 11 [(0, .ref a0), (2, .int x2), (3, .int x3), (7, .int x7)] → wM D S a0 → sK S a0 = 12 → W p l e r_X7_apply s m args below meth c H locs 0 0 (MQ below (va_Qv (fun S9 => wX D S0 S9 ∧ post S9) (wB D cy X A) A) args s 0 0 A) (F0 m 224 ls []) := by
  obtain ⟨hx, hb, hml, hown, hts⟩ := id F
  have hwg : ∀ w ∈ WG, w.before args s = true := fun w h => hts w (List.mem_cons_of_mem _ h)
  intro S H locs ls a0 x2 x3 x7 hp hW hE hl hL_a0 hK_a0
  unfold wp_X7_apply_224 at hp
  refine lv_iconst (v := 0) hx hb dX7_apply_224 (by decide) ?_
  exact t_X7_apply_225 F hr hlocks hK hp hW hE (lv_sub hl [0, 1, 2, 3] rfl) hL_a0 hK_a0
set_option maxHeartbeats 4000000 in
set_option maxRecDepth 100000 in
theorem t_X7_apply_203 {p : Program} {l : Launch} {e : Env} {s : State} {m : MethodId} {args : Array Value} {below : List Frame} {meth : Method} {c : Code} {D : wD} {cy : Nat → ClassId} {X : va_W} {A : Nat → Prop} {S0 : wS} {post : wS → Prop} (F : CallFix p m c cX7_apply 11 s args wz_X7_apply RX7) (hr : meth.sig.returnType = none) (hlocks : meth.locks = false) (hK : wK D cy A s) : ∀ {S : wS} {H : Heap} {locs : List Loc} {ls : Array Slot} {a0 : Nat} {x2 : Int32} {x3 : Int32} {x6 : Int32} {x7 : Int32}, wp_X7_apply_203 D post S a0 x2 x3 x6 x7 → wO D cy X A s.heap S H locs → wX D S0 S → lv_has ls 11 [(0, .ref a0), (2, .int x2), (3, .int x3), (6, .int x6), (7, .int x7)] → wM D S a0 → sK S a0 = 12 → W p l e r_X7_apply s m args below meth c H locs 0 0 (MQ below (va_Qv (fun S9 => wX D S0 S9 ∧ post S9) (wB D cy X A) A) args s 0 0 A) (F0 m 203 ls []) := by
  obtain ⟨hx, hb, hml, hown, hts⟩ := id F
  have hwg : ∀ w ∈ WG, w.before args s = true := fun w h => hts w (List.mem_cons_of_mem _ h)
  intro S H locs ls a0 x2 x3 x6 x7 hp hW hE hl hL_a0 hK_a0
  unfold wp_X7_apply_203 at hp
  refine lv_iload hx hb dX7_apply_203 (lv_at hl 3 rfl) ?_
  refine lv_bipush (v := 6) hx hb dX7_apply_205 (by decide) ?_
  refine lv_icmp_ne (tgt := 224) hx hb dX7_apply_207 (by decide) (fun c_1 => ?_) (fun c_1 => ?_)
  · replace hp := hp.1 c_1
    exact t_X7_apply_224 F hr hlocks hK hp hW hE (lv_sub hl [0, 1, 2, 4] rfl) hL_a0 hK_a0
  · replace hp := hp.2 c_1
    refine lv_iload_n hx hb dX7_apply_210 rfl (lv_at hl 2 rfl) ?_
    refine lv_iload_n hx hb dX7_apply_211 rfl (lv_at hl 1 rfl) ?_
    refine lv_isub hx hb dX7_apply_212 ?_
    refine lv_iconst (v := 2) hx hb dX7_apply_213 (by decide) ?_
    refine lv_iload hx hb dX7_apply_214 (lv_at hl 4 rfl) ?_
    refine lv_imul hx hb dX7_apply_216 ?_
    refine lv_icmp_ne (tgt := 224) hx hb dX7_apply_217 (by decide) (fun c_2 => ?_) (fun c_2 => ?_)
    · replace hp := hp.1 c_2
      exact t_X7_apply_224 F hr hlocks hK hp hW hE (lv_sub hl [0, 1, 2, 4] rfl) hL_a0 hK_a0
    · replace hp := hp.2 c_2
      refine lv_iconst (v := 1) hx hb dX7_apply_220 (by decide) ?_
      refine lv_goto (tgt := 225) hx hb dX7_apply_221 (by decide) ?_
      exact t_X7_apply_225 F hr hlocks hK hp hW hE (lv_sub hl [0, 1, 2, 4] rfl) hL_a0 hK_a0
set_option maxHeartbeats 4000000 in
set_option maxRecDepth 100000 in
theorem t_X7_apply_185 {p : Program} {l : Launch} {e : Env} {s : State} {m : MethodId} {args : Array Value} {below : List Frame} {meth : Method} {c : Code} {D : wD} {cy : Nat → ClassId} {X : va_W} {A : Nat → Prop} {S0 : wS} {post : wS → Prop} (F : CallFix p m c cX7_apply 11 s args wz_X7_apply RX7) (hr : meth.sig.returnType = none) (hlocks : meth.locks = false) (hK : wK D cy A s) : ∀ {S : wS} {H : Heap} {locs : List Loc} {ls : Array Slot} {a0 : Nat} {x2 : Int32} {x3 : Int32} {x6 : Int32} {x7 : Int32} {b0 : Nat} {t1 : Int32} {t2 : Int32}, wp_X7_apply_185 D post S a0 x2 x3 x6 x7 b0 t1 t2 → wO D cy X A s.heap S H locs → wX D S0 S → lv_has ls 11 [(0, .ref a0), (2, .int x2), (3, .int x3), (6, .int x6), (7, .int x7)] → wM D S a0 → sK S a0 = 12 → wM D S b0 → sK S b0 = 12 → W p l e r_X7_apply s m args below meth c H locs 0 0 (MQ below (va_Qv (fun S9 => wX D S0 S9 ∧ post S9) (wB D cy X A) A) args s 0 0 A) (F0 m 185 ls [.int t2, .int t1, .ref b0]) := by
  obtain ⟨hx, hb, hml, hown, hts⟩ := id F
  have hwg : ∀ w ∈ WG, w.before args s = true := fun w h => hts w (List.mem_cons_of_mem _ h)
  have i_12 : ∀ w ∈ u_ws RX7 TX7 8, w ∈ wz_X7_apply := fun w h => List.mem_cons_of_mem _ (wu_12 w h)
  have k_28 := hwg _ wf_RX7_28
  intro S H locs ls a0 x2 x3 x6 x7 b0 t1 t2 hp hW hE hl hL_a0 hK_a0 hL_b0 hK_b0
  unfold wp_X7_apply_185 at hp
  refine w_callV (va_runV (As := [.int t1, .int t2]) (rest := []) F (c_X7_place l hL_b0 hK_b0 hp H.size) (cwV (C := RX7) 2 hts (wg_V wm_RX7_60 wy_X7_place) rfl rfl rfl (by decide +kernel) ⟨Nat.le_of_ble_eq_true rfl, Nat.le_of_ble_eq_true rfl⟩) (w_preV hK hW hL_b0 hK_b0 (by decide) rfl) rfl rfl hl.1 rfl (lv_room (Nat.le_of_ble_eq_true rfl)) dX7_apply_185 ⟨Nat.le_of_ble_eq_true rfl, Nat.le_of_ble_eq_true rfl⟩) hW (fun S_2 H locs hp hW => ?_)
  obtain ⟨hX_S_2, hp⟩ := hp
  refine W.widen (k := 0) (n := 0) (by decide) (by decide) ?_
  have hE := hE.trans hX_S_2
  have hK_a0 : sK S_2 a0 = 12 := (hX_S_2.2 a0 hL_a0).1.trans hK_a0
  have hL_a0 : wM D S_2 a0 := hX_S_2.M hL_a0
  refine lv_aload_n hx hb dX7_apply_188 rfl (lv_at hl 0 rfl) ?_
  refine w_get (k := 12) (f := 6) (T := TX7) (v := .int (sI S_2 a0 6)) F hK hW hL_a0 hK_a0 (by decide) rfl rfl (by decide) i_12 k_28 rfl dX7_apply_189 ?_
  refine lv_if_eq (tgt := 203) hx hb dX7_apply_192 (by decide) (fun c_3 => ?_) (fun c_3 => ?_)
  · replace hp := hp.1 c_3
    exact t_X7_apply_203 F hr hlocks hK hp hW hE (lv_sub hl [0, 1, 2, 3, 4] rfl) hL_a0 hK_a0
  · replace hp := hp.2 c_3
    refine lv_aload_n hx hb dX7_apply_195 rfl (lv_at hl 0 rfl) ?_
    refine lv_iload_n hx hb dX7_apply_196 rfl (lv_at hl 1 rfl) ?_
    refine lv_iload_n hx hb dX7_apply_197 rfl (lv_at hl 2 rfl) ?_
    refine lv_iload hx hb dX7_apply_198 (lv_at hl 3 rfl) ?_
    refine w_callV (va_runV (As := [.int x2, .int x3, .int x6]) (rest := []) F (c_X7_loseRights l hL_a0 hK_a0 hp H.size) (cwV (C := RX7) 3 hts (wg_V wm_RX7_153 wy_X7_loseRights) rfl rfl rfl (by decide +kernel) ⟨Nat.le_of_ble_eq_true rfl, Nat.le_of_ble_eq_true rfl⟩) (w_preV hK hW hL_a0 hK_a0 (by decide) rfl) rfl rfl hl.1 rfl (lv_room (Nat.le_of_ble_eq_true rfl)) dX7_apply_200 ⟨Nat.le_of_ble_eq_true rfl, Nat.le_of_ble_eq_true rfl⟩) hW (fun S_5 H locs hp hW => ?_)
    obtain ⟨hX_S_5, hp⟩ := hp
    refine W.widen (k := 0) (n := 0) (by decide) (by decide) ?_
    have hE := hE.trans hX_S_5
    have hK_a0 : sK S_5 a0 = 12 := (hX_S_5.2 a0 hL_a0).1.trans hK_a0
    have hL_a0 : wM D S_5 a0 := hX_S_5.M hL_a0
    exact t_X7_apply_203 F hr hlocks hK hp hW hE (lv_sub hl [0, 1, 2, 3, 4] rfl) hL_a0 hK_a0
set_option maxHeartbeats 4000000 in
set_option maxRecDepth 100000 in
theorem t_X7_apply_184 {p : Program} {l : Launch} {e : Env} {s : State} {m : MethodId} {args : Array Value} {below : List Frame} {meth : Method} {c : Code} {D : wD} {cy : Nat → ClassId} {X : va_W} {A : Nat → Prop} {S0 : wS} {post : wS → Prop} (F : CallFix p m c cX7_apply 11 s args wz_X7_apply RX7) (hr : meth.sig.returnType = none) (hlocks : meth.locks = false) (hK : wK D cy A s) : ∀ {S : wS} {H : Heap} {locs : List Loc} {ls : Array Slot} {a0 : Nat} {x2 : Int32} {x3 : Int32} {x6 : Int32} {x7 : Int32} {b0 : Nat} {t1 : Int32} {t2 : Int32} {t3 : Int32}, wp_X7_apply_184 D post S a0 x2 x3 x6 x7 b0 t1 t2 t3 → wO D cy X A s.heap S H locs → wX D S0 S → lv_has ls 11 [(0, .ref a0), (2, .int x2), (3, .int x3), (6, .int x6), (7, .int x7)] → wM D S a0 → sK S a0 = 12 → wM D S b0 → sK S b0 = 12 → W p l e r_X7_apply s m args below meth c H locs 0 0 (MQ below (va_Qv (fun S9 => wX D S0 S9 ∧ post S9) (wB D cy X A) A) args s 0 0 A) (F0 m 184 ls [.int t3, .int t2, .int t1, .ref b0]) := by
  obtain ⟨hx, hb, hml, hown, hts⟩ := id F
  have hwg : ∀ w ∈ WG, w.before args s = true := fun w h => hts w (List.mem_cons_of_mem _ h)
  intro S H locs ls a0 x2 x3 x6 x7 b0 t1 t2 t3 hp hW hE hl hL_a0 hK_a0 hL_b0 hK_b0
  unfold wp_X7_apply_184 at hp
  refine lv_iadd hx hb dX7_apply_184 ?_
  exact t_X7_apply_185 F hr hlocks hK hp hW hE (lv_sub hl [0, 1, 2, 3, 4] rfl) hL_a0 hK_a0 hL_b0 hK_b0
set_option maxHeartbeats 4000000 in
set_option maxRecDepth 100000 in
theorem t_X7_apply_151 {p : Program} {l : Launch} {e : Env} {s : State} {m : MethodId} {args : Array Value} {below : List Frame} {meth : Method} {c : Code} {D : wD} {cy : Nat → ClassId} {X : va_W} {A : Nat → Prop} {S0 : wS} {post : wS → Prop} (F : CallFix p m c cX7_apply 11 s args wz_X7_apply RX7) (hr : meth.sig.returnType = none) (hlocks : meth.locks = false) (hK : wK D cy A s) : ∀ {S : wS} {H : Heap} {locs : List Loc} {ls : Array Slot} {a0 : Nat} {x2 : Int32} {x3 : Int32} {x4 : Int32} {x5 : Int32} {x6 : Int32} {x7 : Int32}, wp_X7_apply_151 D post S a0 x2 x3 x4 x5 x6 x7 → wO D cy X A s.heap S H locs → wX D S0 S → lv_has ls 11 [(0, .ref a0), (2, .int x2), (3, .int x3), (4, .int x4), (5, .int x5), (6, .int x6), (7, .int x7)] → wM D S a0 → sK S a0 = 12 → W p l e r_X7_apply s m args below meth c H locs 0 0 (MQ below (va_Qv (fun S9 => wX D S0 S9 ∧ post S9) (wB D cy X A) A) args s 0 0 A) (F0 m 151 ls []) := by
  obtain ⟨hx, hb, hml, hown, hts⟩ := id F
  have hwg : ∀ w ∈ WG, w.before args s = true := fun w h => hts w (List.mem_cons_of_mem _ h)
  have i_12 : ∀ w ∈ u_ws RX7 TX7 8, w ∈ wz_X7_apply := fun w h => List.mem_cons_of_mem _ (wu_12 w h)
  have k_24 := hwg _ wf_RX7_24
  intro S H locs ls a0 x2 x3 x4 x5 x6 x7 hp hW hE hl hL_a0 hK_a0
  unfold wp_X7_apply_151 at hp
  refine lv_aload_n hx hb dX7_apply_151 rfl (lv_at hl 0 rfl) ?_
  refine lv_iload_n hx hb dX7_apply_152 rfl (lv_at hl 1 rfl) ?_
  refine lv_iconst (v := 0) hx hb dX7_apply_153 (by decide) ?_
  refine w_callV (va_runV (As := [.int x2, .int (0 : Int32)]) (rest := []) F (c_X7_place l hL_a0 hK_a0 hp H.size) (cwV (C := RX7) 2 hts (wg_V wm_RX7_60 wy_X7_place) rfl rfl rfl (by decide +kernel) ⟨Nat.le_of_ble_eq_true rfl, Nat.le_of_ble_eq_true rfl⟩) (w_preV hK hW hL_a0 hK_a0 (by decide) rfl) rfl rfl hl.1 rfl (lv_room (Nat.le_of_ble_eq_true rfl)) dX7_apply_154 ⟨Nat.le_of_ble_eq_true rfl, Nat.le_of_ble_eq_true rfl⟩) hW (fun S_2 H locs hp hW => ?_)
  obtain ⟨hX_S_2, hp⟩ := hp
  refine W.widen (k := 0) (n := 0) (by decide) (by decide) ?_
  have hE := hE.trans hX_S_2
  have hK_a0 : sK S_2 a0 = 12 := (hX_S_2.2 a0 hL_a0).1.trans hK_a0
  have hL_a0 : wM D S_2 a0 := hX_S_2.M hL_a0
  refine lv_aload_n hx hb dX7_apply_157 rfl (lv_at hl 0 rfl) ?_
  refine lv_iload_n hx hb dX7_apply_158 rfl (lv_at hl 2 rfl) ?_
  refine lv_iload hx hb dX7_apply_159 (lv_at hl 3 rfl) ?_
  refine lv_if_ne (tgt := 169) hx hb dX7_apply_161 (by decide) (fun c_3 => ?_) (fun c_3 => ?_)
  · replace hp := hp.1 c_3
    refine lv_iload hx hb dX7_apply_169 (lv_at hl 3 rfl) ?_
    refine lv_aload_n hx hb dX7_apply_171 rfl (lv_at hl 0 rfl) ?_
    refine w_get (k := 12) (f := 5) (T := TX7) (v := .int (sI S_2 a0 5)) F hK hW hL_a0 hK_a0 (by decide) rfl rfl (by decide) i_12 k_24 rfl dX7_apply_172 ?_
    refine lv_if_eq (tgt := 182) hx hb dX7_apply_175 (by decide) (fun c_4 => ?_) (fun c_4 => ?_)
    · replace hp := hp.1 c_4
      refine lv_bipush (v := 6) hx hb dX7_apply_182 (by decide) ?_
      exact t_X7_apply_184 F hr hlocks hK hp hW hE (lv_sub hl [0, 1, 2, 5, 6] rfl) hL_a0 hK_a0 hL_a0 hK_a0
    · replace hp := hp.2 c_4
      refine lv_iconst (v := 0) hx hb dX7_apply_178 (by decide) ?_
      refine lv_goto (tgt := 184) hx hb dX7_apply_179 (by decide) ?_
      exact t_X7_apply_184 F hr hlocks hK hp hW hE (lv_sub hl [0, 1, 2, 5, 6] rfl) hL_a0 hK_a0 hL_a0 hK_a0
  · replace hp := hp.2 c_3
    refine lv_iload hx hb dX7_apply_164 (lv_at hl 4 rfl) ?_
    refine lv_goto (tgt := 185) hx hb dX7_apply_166 (by decide) ?_
    exact t_X7_apply_185 F hr hlocks hK hp hW hE (lv_sub hl [0, 1, 2, 5, 6] rfl) hL_a0 hK_a0 hL_a0 hK_a0
set_option maxHeartbeats 4000000 in
set_option maxRecDepth 100000 in
theorem t_X7_apply_116 {p : Program} {l : Launch} {e : Env} {s : State} {m : MethodId} {args : Array Value} {below : List Frame} {meth : Method} {c : Code} {D : wD} {cy : Nat → ClassId} {X : va_W} {A : Nat → Prop} {S0 : wS} {post : wS → Prop} (F : CallFix p m c cX7_apply 11 s args wz_X7_apply RX7) (hr : meth.sig.returnType = none) (hlocks : meth.locks = false) (hK : wK D cy A s) : ∀ {S : wS} {H : Heap} {locs : List Loc} {ls : Array Slot} {a0 : Nat} {x2 : Int32} {x3 : Int32} {x4 : Int32} {x5 : Int32} {x6 : Int32} {x7 : Int32}, wp_X7_apply_116 D post S a0 x2 x3 x4 x5 x6 x7 → wO D cy X A s.heap S H locs → wX D S0 S → lv_has ls 11 [(0, .ref a0), (2, .int x2), (3, .int x3), (4, .int x4), (5, .int x5), (6, .int x6), (7, .int x7)] → wM D S a0 → sK S a0 = 12 → W p l e r_X7_apply s m args below meth c H locs 0 0 (MQ below (va_Qv (fun S9 => wX D S0 S9 ∧ post S9) (wB D cy X A) A) args s 0 0 A) (F0 m 116 ls []) := by
  obtain ⟨hx, hb, hml, hown, hts⟩ := id F
  have hwg : ∀ w ∈ WG, w.before args s = true := fun w h => hts w (List.mem_cons_of_mem _ h)
  intro S H locs ls a0 x2 x3 x4 x5 x6 x7 hp hW hE hl hL_a0 hK_a0
  unfold wp_X7_apply_116 at hp
  refine lv_iload hx hb dX7_apply_116 (lv_at hl 5 rfl) ?_
  refine lv_iconst (v := 1) hx hb dX7_apply_118 (by decide) ?_
  refine lv_icmp_ne (tgt := 151) hx hb dX7_apply_119 (by decide) (fun c_1 => ?_) (fun c_1 => ?_)
  · replace hp := hp.1 c_1
    exact t_X7_apply_151 F hr hlocks hK hp hW hE (lv_sub hl [0, 1, 2, 3, 4, 5, 6] rfl) hL_a0 hK_a0
  · replace hp := hp.2 c_1
    refine lv_iload_n hx hb dX7_apply_122 rfl (lv_at hl 1 rfl) ?_
    refine lv_iload_n hx hb dX7_apply_123 rfl (lv_at hl 2 rfl) ?_
    refine lv_isub hx hb dX7_apply_124 ?_
    refine lv_iconst (v := 2) hx hb dX7_apply_125 (by decide) ?_
    refine lv_icmp_ne (tgt := 151) hx hb dX7_apply_126 (by decide) (fun c_2 => ?_) (fun c_2 => ?_)
    · replace hp := hp.1 c_2
      exact t_X7_apply_151 F hr hlocks hK hp hW hE (lv_sub hl [0, 1, 2, 3, 4, 5, 6] rfl) hL_a0 hK_a0
    · replace hp := hp.2 c_2
      refine lv_aload_n hx hb dX7_apply_129 rfl (lv_at hl 0 rfl) ?_
      refine lv_iload_n hx hb dX7_apply_130 rfl (lv_at hl 1 rfl) ?_
      refine lv_iconst (v := 1) hx hb dX7_apply_131 (by decide) ?_
      refine lv_isub hx hb dX7_apply_132 ?_
      refine lv_aload_n hx hb dX7_apply_133 rfl (lv_at hl 0 rfl) ?_
      refine lv_iload_n hx hb dX7_apply_134 rfl (lv_at hl 1 rfl) ?_
      refine lv_iconst (v := 4) hx hb dX7_apply_135 (by decide) ?_
      refine lv_isub hx hb dX7_apply_136 ?_
      refine w_callI (va_runV (As := [.int (x2 - (4 : Int32))]) (rest := [.int (x2 - (1 : Int32)), .ref a0]) F (c_X7_pieceOn l hL_a0 hK_a0 hp H.size) (cwV (C := RX7) 1 hts (wg_V wm_RX7_141 wy_X7_pieceOn) rfl rfl rfl (by decide +kernel) ⟨Nat.le_of_ble_eq_true rfl, Nat.le_of_ble_eq_true rfl⟩) (w_preV hK hW hL_a0 hK_a0 (by decide) rfl) rfl rfl hl.1 rfl (lv_room (Nat.le_of_ble_eq_true rfl)) dX7_apply_137 ⟨Nat.le_of_ble_eq_true rfl, Nat.le_of_ble_eq_true rfl⟩) hW (fun r_3 S_4 H locs hp hW => ?_)
      obtain ⟨hX_S_4, hp⟩ := hp
      refine W.widen (k := 0) (n := 0) (by decide) (by decide) ?_
      have hE := hE.trans hX_S_4
      have hK_a0 : sK S_4 a0 = 12 := (hX_S_4.2 a0 hL_a0).1.trans hK_a0
      have hL_a0 : wM D S_4 a0 := hX_S_4.M hL_a0
      refine w_callV (va_runV (As := [.int (x2 - (1 : Int32)), .int r_3]) (rest := []) F (c_X7_place l hL_a0 hK_a0 hp H.size) (cwV (C := RX7) 2 hts (wg_V wm_RX7_60 wy_X7_place) rfl rfl rfl (by decide +kernel) ⟨Nat.le_of_ble_eq_true rfl, Nat.le_of_ble_eq_true rfl⟩) (w_preV hK hW hL_a0 hK_a0 (by decide) rfl) rfl rfl hl.1 rfl (lv_room (Nat.le_of_ble_eq_true rfl)) dX7_apply_140 ⟨Nat.le_of_ble_eq_true rfl, Nat.le_of_ble_eq_true rfl⟩) hW (fun S_6 H locs hp hW => ?_)
      obtain ⟨hX_S_6, hp⟩ := hp
      refine W.widen (k := 0) (n := 0) (by decide) (by decide) ?_
      have hE := hE.trans hX_S_6
      have hK_a0 : sK S_6 a0 = 12 := (hX_S_6.2 a0 hL_a0).1.trans hK_a0
      have hL_a0 : wM D S_6 a0 := hX_S_6.M hL_a0
      refine lv_aload_n hx hb dX7_apply_143 rfl (lv_at hl 0 rfl) ?_
      refine lv_iload_n hx hb dX7_apply_144 rfl (lv_at hl 1 rfl) ?_
      refine lv_iconst (v := 4) hx hb dX7_apply_145 (by decide) ?_
      refine lv_isub hx hb dX7_apply_146 ?_
      refine lv_iconst (v := 0) hx hb dX7_apply_147 (by decide) ?_
      refine w_callV (va_runV (As := [.int (x2 - (4 : Int32)), .int (0 : Int32)]) (rest := []) F (c_X7_place l hL_a0 hK_a0 hp H.size) (cwV (C := RX7) 2 hts (wg_V wm_RX7_60 wy_X7_place) rfl rfl rfl (by decide +kernel) ⟨Nat.le_of_ble_eq_true rfl, Nat.le_of_ble_eq_true rfl⟩) (w_preV hK hW hL_a0 hK_a0 (by decide) rfl) rfl rfl hl.1 rfl (lv_room (Nat.le_of_ble_eq_true rfl)) dX7_apply_148 ⟨Nat.le_of_ble_eq_true rfl, Nat.le_of_ble_eq_true rfl⟩) hW (fun S_8 H locs hp hW => ?_)
      obtain ⟨hX_S_8, hp⟩ := hp
      refine W.widen (k := 0) (n := 0) (by decide) (by decide) ?_
      have hE := hE.trans hX_S_8
      have hK_a0 : sK S_8 a0 = 12 := (hX_S_8.2 a0 hL_a0).1.trans hK_a0
      have hL_a0 : wM D S_8 a0 := hX_S_8.M hL_a0
      exact t_X7_apply_151 F hr hlocks hK hp hW hE (lv_sub hl [0, 1, 2, 3, 4, 5, 6] rfl) hL_a0 hK_a0
set_option maxHeartbeats 4000000 in
set_option maxRecDepth 100000 in
theorem t_X7_apply_81 {p : Program} {l : Launch} {e : Env} {s : State} {m : MethodId} {args : Array Value} {below : List Frame} {meth : Method} {c : Code} {D : wD} {cy : Nat → ClassId} {X : va_W} {A : Nat → Prop} {S0 : wS} {post : wS → Prop} (F : CallFix p m c cX7_apply 11 s args wz_X7_apply RX7) (hr : meth.sig.returnType = none) (hlocks : meth.locks = false) (hK : wK D cy A s) : ∀ {S : wS} {H : Heap} {locs : List Loc} {ls : Array Slot} {a0 : Nat} {x2 : Int32} {x3 : Int32} {x4 : Int32} {x5 : Int32} {x6 : Int32} {x7 : Int32}, wp_X7_apply_81 D post S a0 x2 x3 x4 x5 x6 x7 → wO D cy X A s.heap S H locs → wX D S0 S → lv_has ls 11 [(0, .ref a0), (2, .int x2), (3, .int x3), (4, .int x4), (5, .int x5), (6, .int x6), (7, .int x7)] → wM D S a0 → sK S a0 = 12 → W p l e r_X7_apply s m args below meth c H locs 0 0 (MQ below (va_Qv (fun S9 => wX D S0 S9 ∧ post S9) (wB D cy X A) A) args s 0 0 A) (F0 m 81 ls []) := by
  obtain ⟨hx, hb, hml, hown, hts⟩ := id F
  have hwg : ∀ w ∈ WG, w.before args s = true := fun w h => hts w (List.mem_cons_of_mem _ h)
  intro S H locs ls a0 x2 x3 x4 x5 x6 x7 hp hW hE hl hL_a0 hK_a0
  unfold wp_X7_apply_81 at hp
  refine lv_iload hx hb dX7_apply_81 (lv_at hl 5 rfl) ?_
  refine lv_iconst (v := 1) hx hb dX7_apply_83 (by decide) ?_
  refine lv_icmp_ne (tgt := 116) hx hb dX7_apply_84 (by decide) (fun c_1 => ?_) (fun c_1 => ?_)
  · replace hp := hp.1 c_1
    exact t_X7_apply_116 F hr hlocks hK hp hW hE (lv_sub hl [0, 1, 2, 3, 4, 5, 6] rfl) hL_a0 hK_a0
  · replace hp := hp.2 c_1
    refine lv_iload_n hx hb dX7_apply_87 rfl (lv_at hl 2 rfl) ?_
    refine lv_iload_n hx hb dX7_apply_88 rfl (lv_at hl 1 rfl) ?_
    refine lv_isub hx hb dX7_apply_89 ?_
    refine lv_iconst (v := 2) hx hb dX7_apply_90 (by decide) ?_
    refine lv_icmp_ne (tgt := 116) hx hb dX7_apply_91 (by decide) (fun c_2 => ?_) (fun c_2 => ?_)
    · replace hp := hp.1 c_2
      exact t_X7_apply_116 F hr hlocks hK hp hW hE (lv_sub hl [0, 1, 2, 3, 4, 5, 6] rfl) hL_a0 hK_a0
    · replace hp := hp.2 c_2
      refine lv_aload_n hx hb dX7_apply_94 rfl (lv_at hl 0 rfl) ?_
      refine lv_iload_n hx hb dX7_apply_95 rfl (lv_at hl 1 rfl) ?_
      refine lv_iconst (v := 1) hx hb dX7_apply_96 (by decide) ?_
      refine lv_iadd hx hb dX7_apply_97 ?_
      refine lv_aload_n hx hb dX7_apply_98 rfl (lv_at hl 0 rfl) ?_
      refine lv_iload_n hx hb dX7_apply_99 rfl (lv_at hl 1 rfl) ?_
      refine lv_iconst (v := 3) hx hb dX7_apply_100 (by decide) ?_
      refine lv_iadd hx hb dX7_apply_101 ?_
      refine w_callI (va_runV (As := [.int (x2 + (3 : Int32))]) (rest := [.int (x2 + (1 : Int32)), .ref a0]) F (c_X7_pieceOn l hL_a0 hK_a0 hp H.size) (cwV (C := RX7) 1 hts (wg_V wm_RX7_141 wy_X7_pieceOn) rfl rfl rfl (by decide +kernel) ⟨Nat.le_of_ble_eq_true rfl, Nat.le_of_ble_eq_true rfl⟩) (w_preV hK hW hL_a0 hK_a0 (by decide) rfl) rfl rfl hl.1 rfl (lv_room (Nat.le_of_ble_eq_true rfl)) dX7_apply_102 ⟨Nat.le_of_ble_eq_true rfl, Nat.le_of_ble_eq_true rfl⟩) hW (fun r_3 S_4 H locs hp hW => ?_)
      obtain ⟨hX_S_4, hp⟩ := hp
      refine W.widen (k := 0) (n := 0) (by decide) (by decide) ?_
      have hE := hE.trans hX_S_4
      have hK_a0 : sK S_4 a0 = 12 := (hX_S_4.2 a0 hL_a0).1.trans hK_a0
      have hL_a0 : wM D S_4 a0 := hX_S_4.M hL_a0
      refine w_callV (va_runV (As := [.int (x2 + (1 : Int32)), .int r_3]) (rest := []) F (c_X7_place l hL_a0 hK_a0 hp H.size) (cwV (C := RX7) 2 hts (wg_V wm_RX7_60 wy_X7_place) rfl rfl rfl (by decide +kernel) ⟨Nat.le_of_ble_eq_true rfl, Nat.le_of_ble_eq_true rfl⟩) (w_preV hK hW hL_a0 hK_a0 (by decide) rfl) rfl rfl hl.1 rfl (lv_room (Nat.le_of_ble_eq_true rfl)) dX7_apply_105 ⟨Nat.le_of_ble_eq_true rfl, Nat.le_of_ble_eq_true rfl⟩) hW (fun S_6 H locs hp hW => ?_)
      obtain ⟨hX_S_6, hp⟩ := hp
      refine W.widen (k := 0) (n := 0) (by decide) (by decide) ?_
      have hE := hE.trans hX_S_6
      have hK_a0 : sK S_6 a0 = 12 := (hX_S_6.2 a0 hL_a0).1.trans hK_a0
      have hL_a0 : wM D S_6 a0 := hX_S_6.M hL_a0
      refine lv_aload_n hx hb dX7_apply_108 rfl (lv_at hl 0 rfl) ?_
      refine lv_iload_n hx hb dX7_apply_109 rfl (lv_at hl 1 rfl) ?_
      refine lv_iconst (v := 3) hx hb dX7_apply_110 (by decide) ?_
      refine lv_iadd hx hb dX7_apply_111 ?_
      refine lv_iconst (v := 0) hx hb dX7_apply_112 (by decide) ?_
      refine w_callV (va_runV (As := [.int (x2 + (3 : Int32)), .int (0 : Int32)]) (rest := []) F (c_X7_place l hL_a0 hK_a0 hp H.size) (cwV (C := RX7) 2 hts (wg_V wm_RX7_60 wy_X7_place) rfl rfl rfl (by decide +kernel) ⟨Nat.le_of_ble_eq_true rfl, Nat.le_of_ble_eq_true rfl⟩) (w_preV hK hW hL_a0 hK_a0 (by decide) rfl) rfl rfl hl.1 rfl (lv_room (Nat.le_of_ble_eq_true rfl)) dX7_apply_113 ⟨Nat.le_of_ble_eq_true rfl, Nat.le_of_ble_eq_true rfl⟩) hW (fun S_8 H locs hp hW => ?_)
      obtain ⟨hX_S_8, hp⟩ := hp
      refine W.widen (k := 0) (n := 0) (by decide) (by decide) ?_
      have hE := hE.trans hX_S_8
      have hK_a0 : sK S_8 a0 = 12 := (hX_S_8.2 a0 hL_a0).1.trans hK_a0
      have hL_a0 : wM D S_8 a0 := hX_S_8.M hL_a0
      exact t_X7_apply_116 F hr hlocks hK hp hW hE (lv_sub hl [0, 1, 2, 3, 4, 5, 6] rfl) hL_a0 hK_a0
set_option maxHeartbeats 4000000 in
set_option maxRecDepth 100000 in
theorem t_X7_apply_55 {p : Program} {l : Launch} {e : Env} {s : State} {m : MethodId} {args : Array Value} {below : List Frame} {meth : Method} {c : Code} {D : wD} {cy : Nat → ClassId} {X : va_W} {A : Nat → Prop} {S0 : wS} {post : wS → Prop} (F : CallFix p m c cX7_apply 11 s args wz_X7_apply RX7) (hr : meth.sig.returnType = none) (hlocks : meth.locks = false) (hK : wK D cy A s) : ∀ {S : wS} {H : Heap} {locs : List Loc} {ls : Array Slot} {a0 : Nat} {x2 : Int32} {x3 : Int32} {x4 : Int32} {x5 : Int32} {x6 : Int32} {t0 : Int32}, wp_X7_apply_55 D post S a0 x2 x3 x4 x5 x6 t0 → wO D cy X A s.heap S H locs → wX D S0 S → lv_has ls 11 [(0, .ref a0), (2, .int x2), (3, .int x3), (4, .int x4), (5, .int x5), (6, .int x6)] → wM D S a0 → sK S a0 = 12 → W p l e r_X7_apply s m args below meth c H locs 0 0 (MQ below (va_Qv (fun S9 => wX D S0 S9 ∧ post S9) (wB D cy X A) A) args s 0 0 A) (F0 m 55 ls [.int t0]) := by
  obtain ⟨hx, hb, hml, hown, hts⟩ := id F
  have hwg : ∀ w ∈ WG, w.before args s = true := fun w h => hts w (List.mem_cons_of_mem _ h)
  have i_12 : ∀ w ∈ u_ws RX7 TX7 8, w ∈ wz_X7_apply := fun w h => List.mem_cons_of_mem _ (wu_12 w h)
  have k_32 := hwg _ wf_RX7_32
  intro S H locs ls a0 x2 x3 x4 x5 x6 t0 hp hW hE hl hL_a0 hK_a0
  unfold wp_X7_apply_55 at hp
  refine lv_istore (lv' := [(7, .int t0), (0, .ref a0), (2, .int x2), (3, .int x3), (4, .int x4), (5, .int x5), (6, .int x6)]) hx hb dX7_apply_55 hl (by decide) rfl (fun ls hl => ?_)
  refine lv_iload hx hb dX7_apply_57 (lv_at hl 6 rfl) ?_
  refine lv_bipush (v := 6) hx hb dX7_apply_59 (by decide) ?_
  refine lv_icmp_ne (tgt := 81) hx hb dX7_apply_61 (by decide) (fun c_1 => ?_) (fun c_1 => ?_)
  · replace hp := hp.1 c_1
    exact t_X7_apply_81 F hr hlocks hK hp hW hE (lv_sub hl [1, 2, 3, 4, 5, 6, 0] rfl) hL_a0 hK_a0
  · replace hp := hp.2 c_1
    refine lv_iload_n hx hb dX7_apply_64 rfl (lv_at hl 3 rfl) ?_
    refine lv_aload_n hx hb dX7_apply_65 rfl (lv_at hl 1 rfl) ?_
    refine w_get (k := 12) (f := 7) (T := TX7) (v := .int (sI S a0 7)) F hK hW hL_a0 hK_a0 (by decide) rfl rfl (by decide) i_12 k_32 rfl dX7_apply_66 ?_
    refine lv_icmp_ne (tgt := 81) hx hb dX7_apply_69 (by decide) (fun c_2 => ?_) (fun c_2 => ?_)
    · replace hp := hp.1 c_2
      exact t_X7_apply_81 F hr hlocks hK hp hW hE (lv_sub hl [1, 2, 3, 4, 5, 6, 0] rfl) hL_a0 hK_a0
    · replace hp := hp.2 c_2
      refine lv_aload_n hx hb dX7_apply_72 rfl (lv_at hl 1 rfl) ?_
      refine lv_iload_n hx hb dX7_apply_73 rfl (lv_at hl 3 rfl) ?_
      refine lv_iload hx hb dX7_apply_74 (lv_at hl 0 rfl) ?_
      refine lv_isub hx hb dX7_apply_76 ?_
      refine lv_iconst (v := 0) hx hb dX7_apply_77 (by decide) ?_
      refine w_callV (va_runV (As := [.int (x3 - t0), .int (0 : Int32)]) (rest := []) F (c_X7_place l hL_a0 hK_a0 hp H.size) (cwV (C := RX7) 2 hts (wg_V wm_RX7_60 wy_X7_place) rfl rfl rfl (by decide +kernel) ⟨Nat.le_of_ble_eq_true rfl, Nat.le_of_ble_eq_true rfl⟩) (w_preV hK hW hL_a0 hK_a0 (by decide) rfl) rfl rfl hl.1 rfl (lv_room (Nat.le_of_ble_eq_true rfl)) dX7_apply_78 ⟨Nat.le_of_ble_eq_true rfl, Nat.le_of_ble_eq_true rfl⟩) hW (fun S_4 H locs hp hW => ?_)
      obtain ⟨hX_S_4, hp⟩ := hp
      refine W.widen (k := 0) (n := 0) (by decide) (by decide) ?_
      have hE := hE.trans hX_S_4
      have hK_a0 : sK S_4 a0 = 12 := (hX_S_4.2 a0 hL_a0).1.trans hK_a0
      have hL_a0 : wM D S_4 a0 := hX_S_4.M hL_a0
      exact t_X7_apply_81 F hr hlocks hK hp hW hE (lv_sub hl [1, 2, 3, 4, 5, 6, 0] rfl) hL_a0 hK_a0
set_option maxHeartbeats 4000000 in
set_option maxRecDepth 100000 in
theorem t_X7_apply_0 {p : Program} {l : Launch} {e : Env} {s : State} {m : MethodId} {args : Array Value} {below : List Frame} {meth : Method} {c : Code} {D : wD} {cy : Nat → ClassId} {X : va_W} {A : Nat → Prop} {S0 : wS} {post : wS → Prop} (F : CallFix p m c cX7_apply 11 s args wz_X7_apply RX7) (hr : meth.sig.returnType = none) (hlocks : meth.locks = false) (hK : wK D cy A s) : ∀ {S : wS} {H : Heap} {locs : List Loc} {ls : Array Slot} {a0 : Nat} {x1 : Int32}, wp_X7_apply_0 D post S a0 x1 → wO D cy X A s.heap S H locs → wX D S0 S → lv_has ls 11 [(0, .ref a0), (1, .int x1)] → wM D S a0 → sK S a0 = 12 → W p l e r_X7_apply s m args below meth c H locs 0 0 (MQ below (va_Qv (fun S9 => wX D S0 S9 ∧ post S9) (wB D cy X A) A) args s 0 0 A) (F0 m 0 ls []) := by
  obtain ⟨hx, hb, hml, hown, hts⟩ := id F
  have hwg : ∀ w ∈ WG, w.before args s = true := fun w h => hts w (List.mem_cons_of_mem _ h)
  have i_12 : ∀ w ∈ u_ws RX7 TX7 8, w ∈ wz_X7_apply := fun w h => List.mem_cons_of_mem _ (wu_12 w h)
  have i_5 : ∀ w ∈ u_ws RX0 TX0 12, w ∈ wz_X7_apply := fun w h => List.mem_cons_of_mem _ (wu_5 w h)
  have k_24 := hwg _ wf_RX7_24
  have k_35 := hwg _ wf_RX7_35
  intro S H locs ls a0 x1 hp hW hE hl hL_a0 hK_a0
  unfold wp_X7_apply_0 at hp
  refine lv_iload_n hx hb dX7_apply_0 rfl (lv_at hl 1 rfl) ?_
  refine w_callI (va_runSN (As := [.int x1]) (rest := []) F (c_X11_fromOf l hp H.size) ⟨va_cnB (host := "OpeningsCabinet") 1 hts (wg_cons wy_X11_fromOf.2.2) rfl rfl rfl (hK.2.1 (.methodLinkNest "OpeningsCabinet$Position" 144 ⟨"OpeningsCabinet", "fromOf", "(I)I"⟩ "OpeningsCabinet") (by decide +kernel)) (hwg _ wy_X11_fromOf.2.1) ⟨by decide, by decide, by decide +kernel⟩ ⟨Nat.le_of_ble_eq_true rfl, Nat.le_of_ble_eq_true rfl⟩, hwg _ wy_X11_fromOf.1, trivial⟩ (w_preS hK hW) rfl rfl hl.1 rfl (lv_room (Nat.le_of_ble_eq_true rfl)) dX7_apply_1 ⟨Nat.le_of_ble_eq_true rfl, Nat.le_of_ble_eq_true rfl⟩) hW (fun r_1 S_2 H locs hp hW => ?_)
  obtain ⟨hX_S_2, hp⟩ := hp
  refine W.widen (k := 0) (n := 0) (by decide) (by decide) ?_
  have hE := hE.trans hX_S_2
  have hK_a0 : sK S_2 a0 = 12 := (hX_S_2.2 a0 hL_a0).1.trans hK_a0
  have hL_a0 : wM D S_2 a0 := hX_S_2.M hL_a0
  refine lv_istore_n (lv' := [(2, .int r_1), (0, .ref a0), (1, .int x1)]) hx hb dX7_apply_4 rfl hl (by decide) rfl (fun ls hl => ?_)
  refine lv_iload_n hx hb dX7_apply_5 rfl (lv_at hl 2 rfl) ?_
  refine w_callI (va_runSN (As := [.int x1]) (rest := []) F (c_X11_toOf l hp H.size) ⟨va_cnB (host := "OpeningsCabinet") 1 hts (wg_cons wy_X11_toOf.2.2) rfl rfl rfl (hK.2.1 (.methodLinkNest "OpeningsCabinet$Position" 147 ⟨"OpeningsCabinet", "toOf", "(I)I"⟩ "OpeningsCabinet") (by decide +kernel)) (hwg _ wy_X11_toOf.2.1) ⟨by decide, by decide, by decide +kernel⟩ ⟨Nat.le_of_ble_eq_true rfl, Nat.le_of_ble_eq_true rfl⟩, hwg _ wy_X11_toOf.1, trivial⟩ (w_preS hK hW) rfl rfl hl.1 rfl (lv_room (Nat.le_of_ble_eq_true rfl)) dX7_apply_6 ⟨Nat.le_of_ble_eq_true rfl, Nat.le_of_ble_eq_true rfl⟩) hW (fun r_3 S_4 H locs hp hW => ?_)
  obtain ⟨hX_S_4, hp⟩ := hp
  refine W.widen (k := 0) (n := 0) (by decide) (by decide) ?_
  have hE := hE.trans hX_S_4
  have hK_a0 : sK S_4 a0 = 12 := (hX_S_4.2 a0 hL_a0).1.trans hK_a0
  have hL_a0 : wM D S_4 a0 := hX_S_4.M hL_a0
  refine lv_istore_n (lv' := [(3, .int r_3), (2, .int r_1), (0, .ref a0), (1, .int x1)]) hx hb dX7_apply_9 rfl hl (by decide) rfl (fun ls hl => ?_)
  refine lv_iload_n hx hb dX7_apply_10 rfl (lv_at hl 3 rfl) ?_
  refine w_callI (va_runSN (As := [.int x1]) (rest := []) F (c_X11_becomesOf l hp H.size) ⟨va_cnB (host := "OpeningsCabinet") 1 hts (wg_cons wy_X11_becomesOf.2.2) rfl rfl rfl (hK.2.1 (.methodLinkNest "OpeningsCabinet$Position" 150 ⟨"OpeningsCabinet", "becomesOf", "(I)I"⟩ "OpeningsCabinet") (by decide +kernel)) (hwg _ wy_X11_becomesOf.2.1) ⟨by decide, by decide, by decide +kernel⟩ ⟨Nat.le_of_ble_eq_true rfl, Nat.le_of_ble_eq_true rfl⟩, hwg _ wy_X11_becomesOf.1, trivial⟩ (w_preS hK hW) rfl rfl hl.1 rfl (lv_room (Nat.le_of_ble_eq_true rfl)) dX7_apply_11 ⟨Nat.le_of_ble_eq_true rfl, Nat.le_of_ble_eq_true rfl⟩) hW (fun r_5 S_6 H locs hp hW => ?_)
  obtain ⟨hX_S_6, hp⟩ := hp
  refine W.widen (k := 0) (n := 0) (by decide) (by decide) ?_
  have hE := hE.trans hX_S_6
  have hK_a0 : sK S_6 a0 = 12 := (hX_S_6.2 a0 hL_a0).1.trans hK_a0
  have hL_a0 : wM D S_6 a0 := hX_S_6.M hL_a0
  refine lv_istore (lv' := [(4, .int r_5), (3, .int r_3), (2, .int r_1), (0, .ref a0), (1, .int x1)]) hx hb dX7_apply_14 hl (by decide) rfl (fun ls hl => ?_)
  refine lv_aload_n hx hb dX7_apply_16 rfl (lv_at hl 3 rfl) ?_
  refine lv_iload_n hx hb dX7_apply_17 rfl (lv_at hl 2 rfl) ?_
  refine w_callI (va_runV (As := [.int r_1]) (rest := []) F (c_X7_pieceOn l hL_a0 hK_a0 hp H.size) (cwV (C := RX7) 1 hts (wg_V wm_RX7_141 wy_X7_pieceOn) rfl rfl rfl (by decide +kernel) ⟨Nat.le_of_ble_eq_true rfl, Nat.le_of_ble_eq_true rfl⟩) (w_preV hK hW hL_a0 hK_a0 (by decide) rfl) rfl rfl hl.1 rfl (lv_room (Nat.le_of_ble_eq_true rfl)) dX7_apply_18 ⟨Nat.le_of_ble_eq_true rfl, Nat.le_of_ble_eq_true rfl⟩) hW (fun r_7 S_8 H locs hp hW => ?_)
  obtain ⟨hX_S_8, hp⟩ := hp
  refine W.widen (k := 0) (n := 0) (by decide) (by decide) ?_
  have hE := hE.trans hX_S_8
  have hK_a0 : sK S_8 a0 = 12 := (hX_S_8.2 a0 hL_a0).1.trans hK_a0
  have hL_a0 : wM D S_8 a0 := hX_S_8.M hL_a0
  refine lv_istore (lv' := [(5, .int r_7), (4, .int r_5), (3, .int r_3), (2, .int r_1), (0, .ref a0), (1, .int x1)]) hx hb dX7_apply_21 hl (by decide) rfl (fun ls hl => ?_)
  refine lv_aload_n hx hb dX7_apply_23 rfl (lv_at hl 4 rfl) ?_
  refine lv_iload_n hx hb dX7_apply_24 rfl (lv_at hl 3 rfl) ?_
  refine w_callI (va_runV (As := [.int r_1]) (rest := []) F (c_X7_kindOn l hL_a0 hK_a0 hp H.size) (cwV (C := RX7) 1 hts (wg_V wm_RX7_76 wy_X7_kindOn) rfl rfl rfl (by decide +kernel) ⟨Nat.le_of_ble_eq_true rfl, Nat.le_of_ble_eq_true rfl⟩) (w_preV hK hW hL_a0 hK_a0 (by decide) rfl) rfl rfl hl.1 rfl (lv_room (Nat.le_of_ble_eq_true rfl)) dX7_apply_25 ⟨Nat.le_of_ble_eq_true rfl, Nat.le_of_ble_eq_true rfl⟩) hW (fun r_9 S_10 H locs hp hW => ?_)
  obtain ⟨hX_S_10, hp⟩ := hp
  refine W.widen (k := 0) (n := 0) (by decide) (by decide) ?_
  have hE := hE.trans hX_S_10
  have hK_a0 : sK S_10 a0 = 12 := (hX_S_10.2 a0 hL_a0).1.trans hK_a0
  have hL_a0 : wM D S_10 a0 := hX_S_10.M hL_a0
  refine lv_istore (lv' := [(6, .int r_9), (5, .int r_7), (4, .int r_5), (3, .int r_3), (2, .int r_1), (0, .ref a0), (1, .int x1)]) hx hb dX7_apply_28 hl (by decide) rfl (fun ls hl => ?_)
  refine lv_aload_n hx hb dX7_apply_30 rfl (lv_at hl 5 rfl) ?_
  refine w_get (k := 12) (f := 5) (T := TX7) (v := .int (sI S_10 a0 5)) F hK hW hL_a0 hK_a0 (by decide) rfl rfl (by decide) i_12 k_24 rfl dX7_apply_31 ?_
  refine lv_if_eq (tgt := 47) hx hb dX7_apply_34 (by decide) (fun c_11 => ?_) (fun c_11 => ?_)
  · replace hp := hp.1 c_11
    refine lv_aload_n hx hb dX7_apply_47 rfl (lv_at hl 5 rfl) ?_
    obtain ⟨y_12, ey_12, hL_y_12, hK_y_12, hp⟩ := hp
    refine w_get (k := 12) (f := 0) (T := TX7) (v := .ref y_12) F hK hW hL_a0 hK_a0 (by decide) rfl rfl (by decide) i_12 k_35 (by rw [show wv 12 0 S_10 a0 = va_rf (sR S_10 a0 0) from rfl, ey_12]; rfl) dX7_apply_48 ?_
    refine w_getN (k := 5) (f := 0) (T := TX0) (v := .int (sI S_10 y_12 0)) F hK hW hL_y_12 hK_y_12 (by decide) rfl rfl (by decide) i_5 (hK.2.1 (.fieldLinkNest "OpeningsCabinet$Position" 138 "OpeningsCabinet$Board" "files" "I" "OpeningsCabinet") (by decide +kernel)) rfl dX7_apply_51 ?_
    refine lv_ineg hx hb dX7_apply_54 ?_
    exact t_X7_apply_55 F hr hlocks hK hp hW hE (lv_sub hl [5, 4, 3, 2, 1, 0] rfl) hL_a0 hK_a0
  · replace hp := hp.2 c_11
    refine lv_aload_n hx hb dX7_apply_37 rfl (lv_at hl 5 rfl) ?_
    obtain ⟨y_13, ey_13, hL_y_13, hK_y_13, hp⟩ := hp
    refine w_get (k := 12) (f := 0) (T := TX7) (v := .ref y_13) F hK hW hL_a0 hK_a0 (by decide) rfl rfl (by decide) i_12 k_35 (by rw [show wv 12 0 S_10 a0 = va_rf (sR S_10 a0 0) from rfl, ey_13]; rfl) dX7_apply_38 ?_
    refine w_getN (k := 5) (f := 0) (T := TX0) (v := .int (sI S_10 y_13 0)) F hK hW hL_y_13 hK_y_13 (by decide) rfl rfl (by decide) i_5 (hK.2.1 (.fieldLinkNest "OpeningsCabinet$Position" 138 "OpeningsCabinet$Board" "files" "I" "OpeningsCabinet") (by decide +kernel)) rfl dX7_apply_41 ?_
    refine lv_goto (tgt := 55) hx hb dX7_apply_44 (by decide) ?_
    exact t_X7_apply_55 F hr hlocks hK hp hW hE (lv_sub hl [5, 4, 3, 2, 1, 0] rfl) hL_a0 hK_a0
set_option maxHeartbeats 4000000 in
set_option maxRecDepth 100000 in
theorem c_X7_apply (l : Launch) {D : wD} {cy : Nat → ClassId} {X : va_W} {S0 : wS} {post : wS → Prop} {a0 : Nat} {x1 : Int32} (hL_a0 : wM D S0 a0) (hK_a0 : sK S0 a0 = 12) (hp : wp_X7_apply D post S0 a0 x1) : mV D cy X l yX7_apply wz_X7_apply r_X7_apply [.ref a0, .int x1] S0 (fun S9 => wX D S0 S9 ∧ post S9) := by
  intro sz
  refine Met.ofW (cc := cX7_apply) (maxL := 11) (ret := none) (by decide) rfl ?_
  intro p e s m args below meth c s₁ B hml hv
  obtain ⟨rfl, hsz, hP, hK, hD0, hRO⟩ := hv
  have hts := atoms_spec (ws := wz_X7_apply) B.pre
  have hown : s.vm.findClass RX7 = some m.cls := findClass_of_methodNamed B.named
  subst hsz
  have hD := hD0.self (sz := s.heap.size)
  have F : CallFix p m c cX7_apply 11 s _ wz_X7_apply RX7 := ⟨B.exec, B.bytes, hml, hown, hts⟩
  have hr := B.returns
  have hlocks := B.notSynchronized
  generalize hAe : va_A (wL cy X S0) s.heap.size = A at hD hK ⊢
  have hA : ∀ q, s.heap.size ≤ q → A q := fun q h => by rw [← hAe]; exact Or.inr h
  have hW : wO D cy X A s.heap S0 s.heap [] := ⟨hP, hD, va_S.rf, hA, hRO⟩
  have hl := lv_entry ([.ref a0, .int x1]) (n := 11) (Nat.le_of_ble_eq_true rfl)
  rw [lg_entry_eq]
  generalize (lg_sl ([.ref a0, .int x1]) ++ List.replicate (11 - (lg_sl ([.ref a0, .int x1])).length) Slot.unset).toArray = ls at hl ⊢
  have hl : lv_has ls 11 [(0, .ref a0), (1, .int x1)] := hl
  unfold wp_X7_apply at hp
  exact t_X7_apply_0 F hr hlocks hK hp hW wX.rf (lv_sub hl [0, 1] rfl) hL_a0 hK_a0
def wp_X7_isLike_86 (D : wD) (post : Int32 → wS → Prop)  (S : wS) (t0 : Int32) : Prop :=
narrow .boolean (.int t0) = .int t0 ∧ post t0 S
def wp_X7_isLike_85 (D : wD) (post : Int32 → wS → Prop)  (S : wS) : Prop :=
wp_X7_isLike_86 D post S (0 : Int32)
def wp_X7_isLike_0 (D : wD) (post : Int32 → wS → Prop)  (S : wS) (a0 : Nat) (a1 : Nat) : Prop :=
((¬ (lg_cmp (sJ S a0 1) (sJ S a1 1)) = 0 → wp_X7_isLike_85 D post S) ∧
 ((lg_cmp (sJ S a0 1) (sJ S a1 1)) = 0 → ((¬ (lg_cmp (sJ S a0 2) (sJ S a1 2)) = 0 → wp_X7_isLike_85 D post S) ∧
 ((lg_cmp (sJ S a0 2) (sJ S a1 2)) = 0 → ((¬ (lg_cmp (sJ S a0 3) (sJ S a1 3)) = 0 → wp_X7_isLike_85 D post S) ∧
 ((lg_cmp (sJ S a0 3) (sJ S a1 3)) = 0 → ((¬ (lg_cmp (sJ S a0 4) (sJ S a1 4)) = 0 → wp_X7_isLike_85 D post S) ∧
 ((lg_cmp (sJ S a0 4) (sJ S a1 4)) = 0 → ((¬ (sI S a0 5) = (sI S a1 5) → wp_X7_isLike_85 D post S) ∧
 ((sI S a0 5) = (sI S a1 5) → ((¬ (sI S a0 6) = (sI S a1 6) → wp_X7_isLike_85 D post S) ∧
 ((sI S a0 6) = (sI S a1 6) → ((¬ (sI S a0 7) = (sI S a1 7) → wp_X7_isLike_85 D post S) ∧
 ((sI S a0 7) = (sI S a1 7) → wp_X7_isLike_86 D post S (1 : Int32)))))))))))))))
abbrev r_X7_isLike : Room := { frames := 0, cells := 0, slots := 0, locals := 0 }
def wp_X7_isLike (D : wD) (post : Int32 → wS → Prop) (S : wS) (a0 : Nat) (a1 : Nat) : Prop := wp_X7_isLike_0 D post S a0 a1
set_option maxHeartbeats 4000000 in
set_option maxRecDepth 100000 in
theorem t_X7_isLike_86 {p : Program} {l : Launch} {e : Env} {s : State} {m : MethodId} {args : Array Value} {below : List Frame} {meth : Method} {c : Code} {D : wD} {cy : Nat → ClassId} {X : va_W} {A : Nat → Prop} {S0 : wS} {post : Int32 → wS → Prop} (F : CallFix p m c cX7_isLike 2 s args wz_X7_isLike RX7) (hr : meth.sig.returnType = (some .boolean)) (hlocks : meth.locks = false) (hK : wK D cy A s) : ∀ {S : wS} {H : Heap} {locs : List Loc} {ls : Array Slot} {t0 : Int32}, wp_X7_isLike_86 D post S t0 → wO D cy X A s.heap S H locs → wX D S0 S → lv_has ls 2 [] → W p l e r_X7_isLike s m args below meth c H locs 0 0 (MQ below (va_Qi (fun r S9 => wX D S0 S9 ∧ post r S9) (wB D cy X A) A) args s 0 0 A) (F0 m 86 ls [.int t0]) := by
  obtain ⟨hx, hb, hml, hown, hts⟩ := id F
  have hwg : ∀ w ∈ WG, w.before args s = true := fun w h => hts w (List.mem_cons_of_mem _ h)
  intro S H locs ls t0 hp hW hE hl
  unfold wp_X7_isLike_86 at hp
  exact w_zret hx hb hr hlocks hW hp.1 ⟨hE, hp.2⟩ dX7_isLike_86
set_option maxHeartbeats 4000000 in
set_option maxRecDepth 100000 in
theorem t_X7_isLike_85 {p : Program} {l : Launch} {e : Env} {s : State} {m : MethodId} {args : Array Value} {below : List Frame} {meth : Method} {c : Code} {D : wD} {cy : Nat → ClassId} {X : va_W} {A : Nat → Prop} {S0 : wS} {post : Int32 → wS → Prop} (F : CallFix p m c cX7_isLike 2 s args wz_X7_isLike RX7) (hr : meth.sig.returnType = (some .boolean)) (hlocks : meth.locks = false) (hK : wK D cy A s) : ∀ {S : wS} {H : Heap} {locs : List Loc} {ls : Array Slot}, wp_X7_isLike_85 D post S → wO D cy X A s.heap S H locs → wX D S0 S → lv_has ls 2 [] → W p l e r_X7_isLike s m args below meth c H locs 0 0 (MQ below (va_Qi (fun r S9 => wX D S0 S9 ∧ post r S9) (wB D cy X A) A) args s 0 0 A) (F0 m 85 ls []) := by
  obtain ⟨hx, hb, hml, hown, hts⟩ := id F
  have hwg : ∀ w ∈ WG, w.before args s = true := fun w h => hts w (List.mem_cons_of_mem _ h)
  intro S H locs ls hp hW hE hl
  unfold wp_X7_isLike_85 at hp
  refine lv_iconst (v := 0) hx hb dX7_isLike_85 (by decide) ?_
  exact t_X7_isLike_86 F hr hlocks hK hp hW hE (lv_sub hl [] rfl)
set_option maxHeartbeats 4000000 in
set_option maxRecDepth 100000 in
theorem t_X7_isLike_0 {p : Program} {l : Launch} {e : Env} {s : State} {m : MethodId} {args : Array Value} {below : List Frame} {meth : Method} {c : Code} {D : wD} {cy : Nat → ClassId} {X : va_W} {A : Nat → Prop} {S0 : wS} {post : Int32 → wS → Prop} (F : CallFix p m c cX7_isLike 2 s args wz_X7_isLike RX7) (hr : meth.sig.returnType = (some .boolean)) (hlocks : meth.locks = false) (hK : wK D cy A s) : ∀ {S : wS} {H : Heap} {locs : List Loc} {ls : Array Slot} {a0 : Nat} {a1 : Nat}, wp_X7_isLike_0 D post S a0 a1 → wO D cy X A s.heap S H locs → wX D S0 S → lv_has ls 2 [(0, .ref a0), (1, .ref a1)] → wM D S a0 → sK S a0 = 12 → wM D S a1 → sK S a1 = 12 → W p l e r_X7_isLike s m args below meth c H locs 0 0 (MQ below (va_Qi (fun r S9 => wX D S0 S9 ∧ post r S9) (wB D cy X A) A) args s 0 0 A) (F0 m 0 ls []) := by
  obtain ⟨hx, hb, hml, hown, hts⟩ := id F
  have hwg : ∀ w ∈ WG, w.before args s = true := fun w h => hts w (List.mem_cons_of_mem _ h)
  have i_12 : ∀ w ∈ u_ws RX7 TX7 8, w ∈ wz_X7_isLike := fun w h => List.mem_cons_of_mem _ (wu_12 w h)
  have k_15 := hwg _ wf_RX7_15
  have k_18 := hwg _ wf_RX7_18
  have k_21 := hwg _ wf_RX7_21
  have k_24 := hwg _ wf_RX7_24
  have k_28 := hwg _ wf_RX7_28
  have k_32 := hwg _ wf_RX7_32
  have k_9 := hwg _ wf_RX7_9
  intro S H locs ls a0 a1 hp hW hE hl hL_a0 hK_a0 hL_a1 hK_a1
  unfold wp_X7_isLike_0 at hp
  refine lv_aload_n hx hb dX7_isLike_0 rfl (lv_at hl 0 rfl) ?_
  refine w_get (k := 12) (f := 1) (T := TX7) (v := .long (sJ S a0 1)) F hK hW hL_a0 hK_a0 (by decide) rfl rfl (by decide) i_12 k_9 rfl dX7_isLike_1 ?_
  refine lv_aload_n hx hb dX7_isLike_4 rfl (lv_at hl 1 rfl) ?_
  refine w_get (k := 12) (f := 1) (T := TX7) (v := .long (sJ S a1 1)) F hK hW hL_a1 hK_a1 (by decide) rfl rfl (by decide) i_12 k_9 rfl dX7_isLike_5 ?_
  refine W.lcmp hx hb dX7_isLike_8 ?_
  refine lv_if_ne (tgt := 85) hx hb dX7_isLike_9 (by decide) (fun c_1 => ?_) (fun c_1 => ?_)
  · replace hp := hp.1 c_1
    exact t_X7_isLike_85 F hr hlocks hK hp hW hE (lv_sub hl [] rfl)
  · replace hp := hp.2 c_1
    refine lv_aload_n hx hb dX7_isLike_12 rfl (lv_at hl 0 rfl) ?_
    refine w_get (k := 12) (f := 2) (T := TX7) (v := .long (sJ S a0 2)) F hK hW hL_a0 hK_a0 (by decide) rfl rfl (by decide) i_12 k_15 rfl dX7_isLike_13 ?_
    refine lv_aload_n hx hb dX7_isLike_16 rfl (lv_at hl 1 rfl) ?_
    refine w_get (k := 12) (f := 2) (T := TX7) (v := .long (sJ S a1 2)) F hK hW hL_a1 hK_a1 (by decide) rfl rfl (by decide) i_12 k_15 rfl dX7_isLike_17 ?_
    refine W.lcmp hx hb dX7_isLike_20 ?_
    refine lv_if_ne (tgt := 85) hx hb dX7_isLike_21 (by decide) (fun c_2 => ?_) (fun c_2 => ?_)
    · replace hp := hp.1 c_2
      exact t_X7_isLike_85 F hr hlocks hK hp hW hE (lv_sub hl [] rfl)
    · replace hp := hp.2 c_2
      refine lv_aload_n hx hb dX7_isLike_24 rfl (lv_at hl 0 rfl) ?_
      refine w_get (k := 12) (f := 3) (T := TX7) (v := .long (sJ S a0 3)) F hK hW hL_a0 hK_a0 (by decide) rfl rfl (by decide) i_12 k_18 rfl dX7_isLike_25 ?_
      refine lv_aload_n hx hb dX7_isLike_28 rfl (lv_at hl 1 rfl) ?_
      refine w_get (k := 12) (f := 3) (T := TX7) (v := .long (sJ S a1 3)) F hK hW hL_a1 hK_a1 (by decide) rfl rfl (by decide) i_12 k_18 rfl dX7_isLike_29 ?_
      refine W.lcmp hx hb dX7_isLike_32 ?_
      refine lv_if_ne (tgt := 85) hx hb dX7_isLike_33 (by decide) (fun c_3 => ?_) (fun c_3 => ?_)
      · replace hp := hp.1 c_3
        exact t_X7_isLike_85 F hr hlocks hK hp hW hE (lv_sub hl [] rfl)
      · replace hp := hp.2 c_3
        refine lv_aload_n hx hb dX7_isLike_36 rfl (lv_at hl 0 rfl) ?_
        refine w_get (k := 12) (f := 4) (T := TX7) (v := .long (sJ S a0 4)) F hK hW hL_a0 hK_a0 (by decide) rfl rfl (by decide) i_12 k_21 rfl dX7_isLike_37 ?_
        refine lv_aload_n hx hb dX7_isLike_40 rfl (lv_at hl 1 rfl) ?_
        refine w_get (k := 12) (f := 4) (T := TX7) (v := .long (sJ S a1 4)) F hK hW hL_a1 hK_a1 (by decide) rfl rfl (by decide) i_12 k_21 rfl dX7_isLike_41 ?_
        refine W.lcmp hx hb dX7_isLike_44 ?_
        refine lv_if_ne (tgt := 85) hx hb dX7_isLike_45 (by decide) (fun c_4 => ?_) (fun c_4 => ?_)
        · replace hp := hp.1 c_4
          exact t_X7_isLike_85 F hr hlocks hK hp hW hE (lv_sub hl [] rfl)
        · replace hp := hp.2 c_4
          refine lv_aload_n hx hb dX7_isLike_48 rfl (lv_at hl 0 rfl) ?_
          refine w_get (k := 12) (f := 5) (T := TX7) (v := .int (sI S a0 5)) F hK hW hL_a0 hK_a0 (by decide) rfl rfl (by decide) i_12 k_24 rfl dX7_isLike_49 ?_
          refine lv_aload_n hx hb dX7_isLike_52 rfl (lv_at hl 1 rfl) ?_
          refine w_get (k := 12) (f := 5) (T := TX7) (v := .int (sI S a1 5)) F hK hW hL_a1 hK_a1 (by decide) rfl rfl (by decide) i_12 k_24 rfl dX7_isLike_53 ?_
          refine lv_icmp_ne (tgt := 85) hx hb dX7_isLike_56 (by decide) (fun c_5 => ?_) (fun c_5 => ?_)
          · replace hp := hp.1 c_5
            exact t_X7_isLike_85 F hr hlocks hK hp hW hE (lv_sub hl [] rfl)
          · replace hp := hp.2 c_5
            refine lv_aload_n hx hb dX7_isLike_59 rfl (lv_at hl 0 rfl) ?_
            refine w_get (k := 12) (f := 6) (T := TX7) (v := .int (sI S a0 6)) F hK hW hL_a0 hK_a0 (by decide) rfl rfl (by decide) i_12 k_28 rfl dX7_isLike_60 ?_
            refine lv_aload_n hx hb dX7_isLike_63 rfl (lv_at hl 1 rfl) ?_
            refine w_get (k := 12) (f := 6) (T := TX7) (v := .int (sI S a1 6)) F hK hW hL_a1 hK_a1 (by decide) rfl rfl (by decide) i_12 k_28 rfl dX7_isLike_64 ?_
            refine lv_icmp_ne (tgt := 85) hx hb dX7_isLike_67 (by decide) (fun c_6 => ?_) (fun c_6 => ?_)
            · replace hp := hp.1 c_6
              exact t_X7_isLike_85 F hr hlocks hK hp hW hE (lv_sub hl [] rfl)
            · replace hp := hp.2 c_6
              refine lv_aload_n hx hb dX7_isLike_70 rfl (lv_at hl 0 rfl) ?_
              refine w_get (k := 12) (f := 7) (T := TX7) (v := .int (sI S a0 7)) F hK hW hL_a0 hK_a0 (by decide) rfl rfl (by decide) i_12 k_32 rfl dX7_isLike_71 ?_
              refine lv_aload_n hx hb dX7_isLike_74 rfl (lv_at hl 1 rfl) ?_
              refine w_get (k := 12) (f := 7) (T := TX7) (v := .int (sI S a1 7)) F hK hW hL_a1 hK_a1 (by decide) rfl rfl (by decide) i_12 k_32 rfl dX7_isLike_75 ?_
              refine lv_icmp_ne (tgt := 85) hx hb dX7_isLike_78 (by decide) (fun c_7 => ?_) (fun c_7 => ?_)
              · replace hp := hp.1 c_7
                exact t_X7_isLike_85 F hr hlocks hK hp hW hE (lv_sub hl [] rfl)
              · replace hp := hp.2 c_7
                refine lv_iconst (v := 1) hx hb dX7_isLike_81 (by decide) ?_
                refine lv_goto (tgt := 86) hx hb dX7_isLike_82 (by decide) ?_
                exact t_X7_isLike_86 F hr hlocks hK hp hW hE (lv_sub hl [] rfl)
set_option maxHeartbeats 4000000 in
set_option maxRecDepth 100000 in
theorem c_X7_isLike (l : Launch) {D : wD} {cy : Nat → ClassId} {X : va_W} {S0 : wS} {post : Int32 → wS → Prop} {a0 : Nat} {a1 : Nat} (hL_a0 : wM D S0 a0) (hK_a0 : sK S0 a0 = 12) (hL_a1 : wM D S0 a1) (hK_a1 : sK S0 a1 = 12) (hp : wp_X7_isLike D post S0 a0 a1) : mI D cy X l yX7_isLike wz_X7_isLike r_X7_isLike [.ref a0, .ref a1] S0 (fun r S9 => wX D S0 S9 ∧ post r S9) := by
  intro sz
  refine Met.ofW (cc := cX7_isLike) (maxL := 2) (ret := (some .boolean)) (by decide) rfl ?_
  intro p e s m args below meth c s₁ B hml hv
  obtain ⟨rfl, hsz, hP, hK, hD0, hRO⟩ := hv
  have hts := atoms_spec (ws := wz_X7_isLike) B.pre
  have hown : s.vm.findClass RX7 = some m.cls := findClass_of_methodNamed B.named
  subst hsz
  have hD := hD0.self (sz := s.heap.size)
  have F : CallFix p m c cX7_isLike 2 s _ wz_X7_isLike RX7 := ⟨B.exec, B.bytes, hml, hown, hts⟩
  have hr := B.returns
  have hlocks := B.notSynchronized
  generalize hAe : va_A (wL cy X S0) s.heap.size = A at hD hK ⊢
  have hA : ∀ q, s.heap.size ≤ q → A q := fun q h => by rw [← hAe]; exact Or.inr h
  have hW : wO D cy X A s.heap S0 s.heap [] := ⟨hP, hD, va_S.rf, hA, hRO⟩
  have hl := lv_entry ([.ref a0, .ref a1]) (n := 2) (Nat.le_of_ble_eq_true rfl)
  rw [lg_entry_eq]
  generalize (lg_sl ([.ref a0, .ref a1]) ++ List.replicate (2 - (lg_sl ([.ref a0, .ref a1])).length) Slot.unset).toArray = ls at hl ⊢
  have hl : lv_has ls 2 [(0, .ref a0), (1, .ref a1)] := hl
  unfold wp_X7_isLike at hp
  exact t_X7_isLike_0 F hr hlocks hK hp hW wX.rf (lv_sub hl [0, 1] rfl) hL_a0 hK_a0 hL_a1 hK_a1
def wp_X7_attackers_65 (D : wD) (post : Int64 → wS → Prop)  (S : wS) (a0 : Nat) (x1 : Int32) (x2 : Int32) (x3 : Int64) (x5 : Int64) (t0 : Int64) (b1 : Nat) (t2 : Int32) (t3 : Int32) : Prop :=
wp_X0_pawnAimsOf D (fun r_1 S_2 => 
wp_X7_ofKind D (fun r_3 S_4 => 
∃ y_5 : Nat, sR S_4 a0 0 = some y_5 ∧ wM D S_4 y_5 ∧ sK S_4 y_5 = 5 ∧
wp_X0_slides D (fun r_6 S_7 => 
wp_X7_ofKind D (fun r_8 S_9 => 
∃ y_10 : Nat, sR S_9 a0 0 = some y_10 ∧ wM D S_9 y_10 ∧ sK S_9 y_10 = 5 ∧
wp_X0_slides D (fun r_11 S_12 => 
wp_X7_ofKind D (fun r_13 S_14 => 
∀ x_15 : Int64, x_15 = (((t0 ||| (r_1 &&& r_3)) ||| (r_6 &&& (r_8 ||| x5))) ||| (r_11 &&& (r_13 ||| x5))) →
wp_X7_ofSide D (fun r_16 S_17 => 
post (x_15 &&& r_16) S_17) S_14 a0 x2) S_12 a0 (4 : Int32)) S_9 y_10 x1 (0 : Int32) x3) S_7 a0 (3 : Int32)) S_4 y_5 x1 (1 : Int32) x3) S_2 a0 (6 : Int32)) S b1 t2 t3
def wp_X7_attackers_0 (D : wD) (post : Int64 → wS → Prop)  (S : wS) (a0 : Nat) (x1 : Int32) (x2 : Int32) (x3 : Int64) : Prop :=
∃ y_1 : Nat, sR S a0 0 = some y_1 ∧ wM D S y_1 ∧ sK S y_1 = 5 ∧
wp_X0_has D (fun r_2 S_3 => 
((¬ r_2 = 0 → wp_X7_ofKind D (fun r_5 S_6 => 
∃ y_7 : Nat, sR S_6 a0 0 = some y_7 ∧ wM D S_6 y_7 ∧ sK S_6 y_7 = 5 ∧
∃ y_8 : Nat, sR S_6 y_7 7 = some y_8 ∧ wM D S_6 y_8 ∧ sK S_6 y_8 = 22 ∧
vp_in x1 (sN S_6 y_8) ∧
wp_X7_ofKind D (fun r_10 S_11 => 
∃ y_12 : Nat, sR S_11 a0 0 = some y_12 ∧ wM D S_11 y_12 ∧ sK S_11 y_12 = 5 ∧
∃ y_13 : Nat, sR S_11 y_12 8 = some y_13 ∧ wM D S_11 y_13 ∧ sK S_11 y_13 = 22 ∧
vp_in x1 (sN S_11 y_13) ∧
wp_X7_ofKind D (fun r_15 S_16 => 
∃ y_17 : Nat, sR S_16 a0 0 = some y_17 ∧ wM D S_16 y_17 ∧ sK S_16 y_17 = 5 ∧
((¬ x2 = 0 → wp_X7_attackers_65 D post S_16 a0 x1 x2 x3 r_5 (((sJ S_6 y_8 (x1).toNatClampNeg) &&& r_10) ||| ((sJ S_11 y_13 (x1).toNatClampNeg) &&& r_15)) y_17 x1 (0 : Int32)) ∧
 (x2 = 0 → wp_X7_attackers_65 D post S_16 a0 x1 x2 x3 r_5 (((sJ S_6 y_8 (x1).toNatClampNeg) &&& r_10) ||| ((sJ S_11 y_13 (x1).toNatClampNeg) &&& r_15)) y_17 x1 (1 : Int32)))) S_11 a0 (5 : Int32)) S_6 a0 (1 : Int32)) S_3 a0 (2 : Int32)) ∧
 (r_2 = 0 → post (0 : Int64) S_3))) S y_1 x1
abbrev r_X7_attackers : Room := { frames := 1, cells := 0, slots := 0, locals := 32 }
def wp_X7_attackers (D : wD) (post : Int64 → wS → Prop) (S : wS) (a0 : Nat) (x1 : Int32) (x2 : Int32) (x3 : Int64) : Prop := wp_X7_attackers_0 D post S a0 x1 x2 x3
set_option maxHeartbeats 4000000 in
set_option maxRecDepth 100000 in
theorem t_X7_attackers_65 {p : Program} {l : Launch} {e : Env} {s : State} {m : MethodId} {args : Array Value} {below : List Frame} {meth : Method} {c : Code} {D : wD} {cy : Nat → ClassId} {X : va_W} {A : Nat → Prop} {S0 : wS} {post : Int64 → wS → Prop} (F : CallFix p m c cX7_attackers 9 s args wz_X7_attackers RX7) (hr : meth.sig.returnType = (some .long)) (hlocks : meth.locks = false) (hK : wK D cy A s) : ∀ {S : wS} {H : Heap} {locs : List Loc} {ls : Array Slot} {a0 : Nat} {x1 : Int32} {x2 : Int32} {x3 : Int64} {x5 : Int64} {t0 : Int64} {b1 : Nat} {t2 : Int32} {t3 : Int32}, wp_X7_attackers_65 D post S a0 x1 x2 x3 x5 t0 b1 t2 t3 → wO D cy X A s.heap S H locs → wX D S0 S → lv_has ls 9 [(0, .ref a0), (1, .int x1), (2, .int x2), (3, .long x3), (5, .long x5)] → wM D S a0 → sK S a0 = 12 → wM D S b1 → sK S b1 = 5 → W p l e r_X7_attackers s m args below meth c H locs 0 0 (MQ below (va_Ql (fun r S9 => wX D S0 S9 ∧ post r S9) (wB D cy X A) A) args s 0 0 A) (F0 m 65 ls [.int t3, .int t2, .ref b1, .long t0]) := by
  obtain ⟨hx, hb, hml, hown, hts⟩ := id F
  have hwg : ∀ w ∈ WG, w.before args s = true := fun w h => hts w (List.mem_cons_of_mem _ h)
  have i_12 : ∀ w ∈ u_ws RX7 TX7 8, w ∈ wz_X7_attackers := fun w h => List.mem_cons_of_mem _ (wu_12 w h)
  have k_35 := hwg _ wf_RX7_35
  intro S H locs ls a0 x1 x2 x3 x5 t0 b1 t2 t3 hp hW hE hl hL_a0 hK_a0 hL_b1 hK_b1
  unfold wp_X7_attackers_65 at hp
  refine w_callJ (va_runV (As := [.int t2, .int t3]) (rest := [.long t0]) F (c_X0_pawnAimsOf l hL_b1 hK_b1 hp H.size) (cwV (C := RX0) 2 hts (wg_V wm_RX7_106 wy_X0_pawnAimsOf) rfl rfl rfl (by decide +kernel) ⟨Nat.le_of_ble_eq_true rfl, Nat.le_of_ble_eq_true rfl⟩) (w_preV hK hW hL_b1 hK_b1 (by decide) rfl) rfl rfl hl.1 rfl (lv_room (Nat.le_of_ble_eq_true rfl)) dX7_attackers_65 ⟨Nat.le_of_ble_eq_true rfl, Nat.le_of_ble_eq_true rfl⟩) hW (fun r_1 S_2 H locs hp hW => ?_)
  obtain ⟨hX_S_2, hp⟩ := hp
  refine W.widen (k := 0) (n := 0) (by decide) (by decide) ?_
  have hE := hE.trans hX_S_2
  have hK_a0 : sK S_2 a0 = 12 := (hX_S_2.2 a0 hL_a0).1.trans hK_a0
  have hL_a0 : wM D S_2 a0 := hX_S_2.M hL_a0
  refine lv_aload_n hx hb dX7_attackers_68 rfl (lv_at hl 0 rfl) ?_
  refine lv_bipush (v := 6) hx hb dX7_attackers_69 (by decide) ?_
  refine w_callJ (va_runV (As := [.int (6 : Int32)]) (rest := [.long r_1, .long t0]) F (c_X7_ofKind l hL_a0 hK_a0 hp H.size) (cwV (C := RX7) 1 hts (wg_V wm_RX7_83 wy_X7_ofKind) rfl rfl rfl (by decide +kernel) ⟨Nat.le_of_ble_eq_true rfl, Nat.le_of_ble_eq_true rfl⟩) (w_preV hK hW hL_a0 hK_a0 (by decide) rfl) rfl rfl hl.1 rfl (lv_room (Nat.le_of_ble_eq_true rfl)) dX7_attackers_71 ⟨Nat.le_of_ble_eq_true rfl, Nat.le_of_ble_eq_true rfl⟩) hW (fun r_3 S_4 H locs hp hW => ?_)
  obtain ⟨hX_S_4, hp⟩ := hp
  refine W.widen (k := 0) (n := 0) (by decide) (by decide) ?_
  have hE := hE.trans hX_S_4
  have hK_a0 : sK S_4 a0 = 12 := (hX_S_4.2 a0 hL_a0).1.trans hK_a0
  have hL_a0 : wM D S_4 a0 := hX_S_4.M hL_a0
  refine lv_land hx hb dX7_attackers_74 ?_
  refine lv_lor hx hb dX7_attackers_75 ?_
  refine lv_aload_n hx hb dX7_attackers_76 rfl (lv_at hl 0 rfl) ?_
  obtain ⟨y_5, ey_5, hL_y_5, hK_y_5, hp⟩ := hp
  refine w_get (k := 12) (f := 0) (T := TX7) (v := .ref y_5) F hK hW hL_a0 hK_a0 (by decide) rfl rfl (by decide) i_12 k_35 (by rw [show wv 12 0 S_4 a0 = va_rf (sR S_4 a0 0) from rfl, ey_5]; rfl) dX7_attackers_77 ?_
  refine lv_iload_n hx hb dX7_attackers_80 rfl (lv_at hl 1 rfl) ?_
  refine lv_iconst (v := 1) hx hb dX7_attackers_81 (by decide) ?_
  refine lv_lload_n hx hb dX7_attackers_82 rfl (lv_at hl 3 rfl) ?_
  refine w_callJ (va_runV (As := [.int x1, .int (1 : Int32), .long x3]) (rest := [.long (t0 ||| (r_1 &&& r_3))]) F (c_X0_slides l hL_y_5 hK_y_5 hp H.size) (cwV (C := RX0) 3 hts (wg_V wm_RX7_110 wy_X0_slides) rfl rfl rfl (by decide +kernel) ⟨Nat.le_of_ble_eq_true rfl, Nat.le_of_ble_eq_true rfl⟩) (w_preV hK hW hL_y_5 hK_y_5 (by decide) rfl) rfl rfl hl.1 rfl (lv_room (Nat.le_of_ble_eq_true rfl)) dX7_attackers_83 ⟨Nat.le_of_ble_eq_true rfl, Nat.le_of_ble_eq_true rfl⟩) hW (fun r_6 S_7 H locs hp hW => ?_)
  obtain ⟨hX_S_7, hp⟩ := hp
  refine W.widen (k := 0) (n := 0) (by decide) (by decide) ?_
  have hE := hE.trans hX_S_7
  have hK_a0 : sK S_7 a0 = 12 := (hX_S_7.2 a0 hL_a0).1.trans hK_a0
  have hL_a0 : wM D S_7 a0 := hX_S_7.M hL_a0
  refine lv_aload_n hx hb dX7_attackers_86 rfl (lv_at hl 0 rfl) ?_
  refine lv_iconst (v := 3) hx hb dX7_attackers_87 (by decide) ?_
  refine w_callJ (va_runV (As := [.int (3 : Int32)]) (rest := [.long r_6, .long (t0 ||| (r_1 &&& r_3))]) F (c_X7_ofKind l hL_a0 hK_a0 hp H.size) (cwV (C := RX7) 1 hts (wg_V wm_RX7_83 wy_X7_ofKind) rfl rfl rfl (by decide +kernel) ⟨Nat.le_of_ble_eq_true rfl, Nat.le_of_ble_eq_true rfl⟩) (w_preV hK hW hL_a0 hK_a0 (by decide) rfl) rfl rfl hl.1 rfl (lv_room (Nat.le_of_ble_eq_true rfl)) dX7_attackers_88 ⟨Nat.le_of_ble_eq_true rfl, Nat.le_of_ble_eq_true rfl⟩) hW (fun r_8 S_9 H locs hp hW => ?_)
  obtain ⟨hX_S_9, hp⟩ := hp
  refine W.widen (k := 0) (n := 0) (by decide) (by decide) ?_
  have hE := hE.trans hX_S_9
  have hK_a0 : sK S_9 a0 = 12 := (hX_S_9.2 a0 hL_a0).1.trans hK_a0
  have hL_a0 : wM D S_9 a0 := hX_S_9.M hL_a0
  refine lv_lload hx hb dX7_attackers_91 (lv_at hl 4 rfl) ?_
  refine lv_lor hx hb dX7_attackers_93 ?_
  refine lv_land hx hb dX7_attackers_94 ?_
  refine lv_lor hx hb dX7_attackers_95 ?_
  refine lv_aload_n hx hb dX7_attackers_96 rfl (lv_at hl 0 rfl) ?_
  obtain ⟨y_10, ey_10, hL_y_10, hK_y_10, hp⟩ := hp
  refine w_get (k := 12) (f := 0) (T := TX7) (v := .ref y_10) F hK hW hL_a0 hK_a0 (by decide) rfl rfl (by decide) i_12 k_35 (by rw [show wv 12 0 S_9 a0 = va_rf (sR S_9 a0 0) from rfl, ey_10]; rfl) dX7_attackers_97 ?_
  refine lv_iload_n hx hb dX7_attackers_100 rfl (lv_at hl 1 rfl) ?_
  refine lv_iconst (v := 0) hx hb dX7_attackers_101 (by decide) ?_
  refine lv_lload_n hx hb dX7_attackers_102 rfl (lv_at hl 3 rfl) ?_
  refine w_callJ (va_runV (As := [.int x1, .int (0 : Int32), .long x3]) (rest := [.long ((t0 ||| (r_1 &&& r_3)) ||| (r_6 &&& (r_8 ||| x5)))]) F (c_X0_slides l hL_y_10 hK_y_10 hp H.size) (cwV (C := RX0) 3 hts (wg_V wm_RX7_110 wy_X0_slides) rfl rfl rfl (by decide +kernel) ⟨Nat.le_of_ble_eq_true rfl, Nat.le_of_ble_eq_true rfl⟩) (w_preV hK hW hL_y_10 hK_y_10 (by decide) rfl) rfl rfl hl.1 rfl (lv_room (Nat.le_of_ble_eq_true rfl)) dX7_attackers_103 ⟨Nat.le_of_ble_eq_true rfl, Nat.le_of_ble_eq_true rfl⟩) hW (fun r_11 S_12 H locs hp hW => ?_)
  obtain ⟨hX_S_12, hp⟩ := hp
  refine W.widen (k := 0) (n := 0) (by decide) (by decide) ?_
  have hE := hE.trans hX_S_12
  have hK_a0 : sK S_12 a0 = 12 := (hX_S_12.2 a0 hL_a0).1.trans hK_a0
  have hL_a0 : wM D S_12 a0 := hX_S_12.M hL_a0
  refine lv_aload_n hx hb dX7_attackers_106 rfl (lv_at hl 0 rfl) ?_
  refine lv_iconst (v := 4) hx hb dX7_attackers_107 (by decide) ?_
  refine w_callJ (va_runV (As := [.int (4 : Int32)]) (rest := [.long r_11, .long ((t0 ||| (r_1 &&& r_3)) ||| (r_6 &&& (r_8 ||| x5)))]) F (c_X7_ofKind l hL_a0 hK_a0 hp H.size) (cwV (C := RX7) 1 hts (wg_V wm_RX7_83 wy_X7_ofKind) rfl rfl rfl (by decide +kernel) ⟨Nat.le_of_ble_eq_true rfl, Nat.le_of_ble_eq_true rfl⟩) (w_preV hK hW hL_a0 hK_a0 (by decide) rfl) rfl rfl hl.1 rfl (lv_room (Nat.le_of_ble_eq_true rfl)) dX7_attackers_108 ⟨Nat.le_of_ble_eq_true rfl, Nat.le_of_ble_eq_true rfl⟩) hW (fun r_13 S_14 H locs hp hW => ?_)
  obtain ⟨hX_S_14, hp⟩ := hp
  refine W.widen (k := 0) (n := 0) (by decide) (by decide) ?_
  have hE := hE.trans hX_S_14
  have hK_a0 : sK S_14 a0 = 12 := (hX_S_14.2 a0 hL_a0).1.trans hK_a0
  have hL_a0 : wM D S_14 a0 := hX_S_14.M hL_a0
  refine lv_lload hx hb dX7_attackers_111 (lv_at hl 4 rfl) ?_
  refine lv_lor hx hb dX7_attackers_113 ?_
  refine lv_land hx hb dX7_attackers_114 ?_
  refine lv_lor hx hb dX7_attackers_115 ?_
  refine lv_topl (fun x_15 ex_15 => ?_)
  replace hp := hp x_15 ex_15
  refine lv_lstore (lv' := [(7, .long x_15), (0, .ref a0), (1, .int x1), (2, .int x2), (3, .long x3), (5, .long x5)]) hx hb dX7_attackers_116 hl (by decide) rfl (fun ls hl => ?_)
  refine lv_lload hx hb dX7_attackers_118 (lv_at hl 0 rfl) ?_
  refine lv_aload_n hx hb dX7_attackers_120 rfl (lv_at hl 1 rfl) ?_
  refine lv_iload_n hx hb dX7_attackers_121 rfl (lv_at hl 3 rfl) ?_
  refine w_callJ (va_runV (As := [.int x2]) (rest := [.long x_15]) F (c_X7_ofSide l hL_a0 hK_a0 hp H.size) (cwV (C := RX7) 1 hts (wg_V wm_RX7_114 wy_X7_ofSide) rfl rfl rfl (by decide +kernel) ⟨Nat.le_of_ble_eq_true rfl, Nat.le_of_ble_eq_true rfl⟩) (w_preV hK hW hL_a0 hK_a0 (by decide) rfl) rfl rfl hl.1 rfl (lv_room (Nat.le_of_ble_eq_true rfl)) dX7_attackers_122 ⟨Nat.le_of_ble_eq_true rfl, Nat.le_of_ble_eq_true rfl⟩) hW (fun r_16 S_17 H locs hp hW => ?_)
  obtain ⟨hX_S_17, hp⟩ := hp
  refine W.widen (k := 0) (n := 0) (by decide) (by decide) ?_
  have hE := hE.trans hX_S_17
  have hK_a0 : sK S_17 a0 = 12 := (hX_S_17.2 a0 hL_a0).1.trans hK_a0
  have hL_a0 : wM D S_17 a0 := hX_S_17.M hL_a0
  refine lv_land hx hb dX7_attackers_125 ?_
  exact w_lret hx hb hr hlocks hW ⟨hE, hp⟩ dX7_attackers_126
set_option maxHeartbeats 4000000 in
set_option maxRecDepth 100000 in
theorem t_X7_attackers_0 {p : Program} {l : Launch} {e : Env} {s : State} {m : MethodId} {args : Array Value} {below : List Frame} {meth : Method} {c : Code} {D : wD} {cy : Nat → ClassId} {X : va_W} {A : Nat → Prop} {S0 : wS} {post : Int64 → wS → Prop} (F : CallFix p m c cX7_attackers 9 s args wz_X7_attackers RX7) (hr : meth.sig.returnType = (some .long)) (hlocks : meth.locks = false) (hK : wK D cy A s) : ∀ {S : wS} {H : Heap} {locs : List Loc} {ls : Array Slot} {a0 : Nat} {x1 : Int32} {x2 : Int32} {x3 : Int64}, wp_X7_attackers_0 D post S a0 x1 x2 x3 → wO D cy X A s.heap S H locs → wX D S0 S → lv_has ls 9 [(0, .ref a0), (1, .int x1), (2, .int x2), (3, .long x3)] → wM D S a0 → sK S a0 = 12 → W p l e r_X7_attackers s m args below meth c H locs 0 0 (MQ below (va_Ql (fun r S9 => wX D S0 S9 ∧ post r S9) (wB D cy X A) A) args s 0 0 A) (F0 m 0 ls []) := by
  obtain ⟨hx, hb, hml, hown, hts⟩ := id F
  have hwg : ∀ w ∈ WG, w.before args s = true := fun w h => hts w (List.mem_cons_of_mem _ h)
  have i_12 : ∀ w ∈ u_ws RX7 TX7 8, w ∈ wz_X7_attackers := fun w h => List.mem_cons_of_mem _ (wu_12 w h)
  have i_5 : ∀ w ∈ u_ws RX0 TX0 12, w ∈ wz_X7_attackers := fun w h => List.mem_cons_of_mem _ (wu_5 w h)
  have k_35 := hwg _ wf_RX7_35
  intro S H locs ls a0 x1 x2 x3 hp hW hE hl hL_a0 hK_a0
  unfold wp_X7_attackers_0 at hp
  refine lv_aload_n hx hb dX7_attackers_0 rfl (lv_at hl 0 rfl) ?_
  obtain ⟨y_1, ey_1, hL_y_1, hK_y_1, hp⟩ := hp
  refine w_get (k := 12) (f := 0) (T := TX7) (v := .ref y_1) F hK hW hL_a0 hK_a0 (by decide) rfl rfl (by decide) i_12 k_35 (by rw [show wv 12 0 S a0 = va_rf (sR S a0 0) from rfl, ey_1]; rfl) dX7_attackers_1 ?_
  refine lv_iload_n hx hb dX7_attackers_4 rfl (lv_at hl 1 rfl) ?_
  refine w_callI (va_runV (As := [.int x1]) (rest := []) F (c_X0_has l hL_y_1 hK_y_1 hp H.size) (cwV (C := RX0) 1 hts (wg_V wm_RX7_93 wy_X0_has) rfl rfl rfl (by decide +kernel) ⟨Nat.le_of_ble_eq_true rfl, Nat.le_of_ble_eq_true rfl⟩) (w_preV hK hW hL_y_1 hK_y_1 (by decide) rfl) rfl rfl hl.1 rfl (lv_room (Nat.le_of_ble_eq_true rfl)) dX7_attackers_5 ⟨Nat.le_of_ble_eq_true rfl, Nat.le_of_ble_eq_true rfl⟩) hW (fun r_2 S_3 H locs hp hW => ?_)
  obtain ⟨hX_S_3, hp⟩ := hp
  refine W.widen (k := 0) (n := 0) (by decide) (by decide) ?_
  have hE := hE.trans hX_S_3
  have hK_a0 : sK S_3 a0 = 12 := (hX_S_3.2 a0 hL_a0).1.trans hK_a0
  have hL_a0 : wM D S_3 a0 := hX_S_3.M hL_a0
  refine lv_if_ne (tgt := 13) hx hb dX7_attackers_8 (by decide) (fun c_4 => ?_) (fun c_4 => ?_)
  · replace hp := hp.1 c_4
    refine lv_aload_n hx hb dX7_attackers_13 rfl (lv_at hl 0 rfl) ?_
    refine lv_iconst (v := 2) hx hb dX7_attackers_14 (by decide) ?_
    refine w_callJ (va_runV (As := [.int (2 : Int32)]) (rest := []) F (c_X7_ofKind l hL_a0 hK_a0 hp H.size) (cwV (C := RX7) 1 hts (wg_V wm_RX7_83 wy_X7_ofKind) rfl rfl rfl (by decide +kernel) ⟨Nat.le_of_ble_eq_true rfl, Nat.le_of_ble_eq_true rfl⟩) (w_preV hK hW hL_a0 hK_a0 (by decide) rfl) rfl rfl hl.1 rfl (lv_room (Nat.le_of_ble_eq_true rfl)) dX7_attackers_15 ⟨Nat.le_of_ble_eq_true rfl, Nat.le_of_ble_eq_true rfl⟩) hW (fun r_5 S_6 H locs hp hW => ?_)
    obtain ⟨hX_S_6, hp⟩ := hp
    refine W.widen (k := 0) (n := 0) (by decide) (by decide) ?_
    have hE := hE.trans hX_S_6
    have hK_a0 : sK S_6 a0 = 12 := (hX_S_6.2 a0 hL_a0).1.trans hK_a0
    have hL_a0 : wM D S_6 a0 := hX_S_6.M hL_a0
    refine lv_lstore (lv' := [(5, .long r_5), (0, .ref a0), (1, .int x1), (2, .int x2), (3, .long x3)]) hx hb dX7_attackers_18 hl (by decide) rfl (fun ls hl => ?_)
    refine lv_aload_n hx hb dX7_attackers_20 rfl (lv_at hl 1 rfl) ?_
    obtain ⟨y_7, ey_7, hL_y_7, hK_y_7, hp⟩ := hp
    refine w_get (k := 12) (f := 0) (T := TX7) (v := .ref y_7) F hK hW hL_a0 hK_a0 (by decide) rfl rfl (by decide) i_12 k_35 (by rw [show wv 12 0 S_6 a0 = va_rf (sR S_6 a0 0) from rfl, ey_7]; rfl) dX7_attackers_21 ?_
    obtain ⟨y_8, ey_8, hL_y_8, hK_y_8, hp⟩ := hp
    refine w_getN (k := 5) (f := 7) (T := TX0) (v := .ref y_8) F hK hW hL_y_7 hK_y_7 (by decide) rfl rfl (by decide) i_5 (hK.2.1 (.fieldLinkNest "OpeningsCabinet$Position" 99 "OpeningsCabinet$Board" "kingSteps" "[J" "OpeningsCabinet") (by decide +kernel)) (by rw [show wv 5 7 S_6 y_7 = va_rf (sR S_6 y_7 7) from rfl, ey_8]; rfl) dX7_attackers_24 ?_
    refine lv_iload_n hx hb dX7_attackers_27 rfl (lv_at hl 2 rfl) ?_
    obtain ⟨h_9, hp⟩ := hp
    refine w_lld F hK hW hL_y_8 hK_y_8 h_9 dX7_attackers_28 ?_
    refine lv_aload_n hx hb dX7_attackers_29 rfl (lv_at hl 1 rfl) ?_
    refine lv_iconst (v := 1) hx hb dX7_attackers_30 (by decide) ?_
    refine w_callJ (va_runV (As := [.int (1 : Int32)]) (rest := [.long (sJ S_6 y_8 (x1).toNatClampNeg)]) F (c_X7_ofKind l hL_a0 hK_a0 hp H.size) (cwV (C := RX7) 1 hts (wg_V wm_RX7_83 wy_X7_ofKind) rfl rfl rfl (by decide +kernel) ⟨Nat.le_of_ble_eq_true rfl, Nat.le_of_ble_eq_true rfl⟩) (w_preV hK hW hL_a0 hK_a0 (by decide) rfl) rfl rfl hl.1 rfl (lv_room (Nat.le_of_ble_eq_true rfl)) dX7_attackers_31 ⟨Nat.le_of_ble_eq_true rfl, Nat.le_of_ble_eq_true rfl⟩) hW (fun r_10 S_11 H locs hp hW => ?_)
    obtain ⟨hX_S_11, hp⟩ := hp
    refine W.widen (k := 0) (n := 0) (by decide) (by decide) ?_
    have hE := hE.trans hX_S_11
    have hK_a0 : sK S_11 a0 = 12 := (hX_S_11.2 a0 hL_a0).1.trans hK_a0
    have hL_a0 : wM D S_11 a0 := hX_S_11.M hL_a0
    refine lv_land hx hb dX7_attackers_34 ?_
    refine lv_aload_n hx hb dX7_attackers_35 rfl (lv_at hl 1 rfl) ?_
    obtain ⟨y_12, ey_12, hL_y_12, hK_y_12, hp⟩ := hp
    refine w_get (k := 12) (f := 0) (T := TX7) (v := .ref y_12) F hK hW hL_a0 hK_a0 (by decide) rfl rfl (by decide) i_12 k_35 (by rw [show wv 12 0 S_11 a0 = va_rf (sR S_11 a0 0) from rfl, ey_12]; rfl) dX7_attackers_36 ?_
    obtain ⟨y_13, ey_13, hL_y_13, hK_y_13, hp⟩ := hp
    refine w_getN (k := 5) (f := 8) (T := TX0) (v := .ref y_13) F hK hW hL_y_12 hK_y_12 (by decide) rfl rfl (by decide) i_5 (hK.2.1 (.fieldLinkNest "OpeningsCabinet$Position" 103 "OpeningsCabinet$Board" "knightSteps" "[J" "OpeningsCabinet") (by decide +kernel)) (by rw [show wv 5 8 S_11 y_12 = va_rf (sR S_11 y_12 8) from rfl, ey_13]; rfl) dX7_attackers_39 ?_
    refine lv_iload_n hx hb dX7_attackers_42 rfl (lv_at hl 2 rfl) ?_
    obtain ⟨h_14, hp⟩ := hp
    refine w_lld F hK hW hL_y_13 hK_y_13 h_14 dX7_attackers_43 ?_
    refine lv_aload_n hx hb dX7_attackers_44 rfl (lv_at hl 1 rfl) ?_
    refine lv_iconst (v := 5) hx hb dX7_attackers_45 (by decide) ?_
    refine w_callJ (va_runV (As := [.int (5 : Int32)]) (rest := [.long (sJ S_11 y_13 (x1).toNatClampNeg), .long ((sJ S_6 y_8 (x1).toNatClampNeg) &&& r_10)]) F (c_X7_ofKind l hL_a0 hK_a0 hp H.size) (cwV (C := RX7) 1 hts (wg_V wm_RX7_83 wy_X7_ofKind) rfl rfl rfl (by decide +kernel) ⟨Nat.le_of_ble_eq_true rfl, Nat.le_of_ble_eq_true rfl⟩) (w_preV hK hW hL_a0 hK_a0 (by decide) rfl) rfl rfl hl.1 rfl (lv_room (Nat.le_of_ble_eq_true rfl)) dX7_attackers_46 ⟨Nat.le_of_ble_eq_true rfl, Nat.le_of_ble_eq_true rfl⟩) hW (fun r_15 S_16 H locs hp hW => ?_)
    obtain ⟨hX_S_16, hp⟩ := hp
    refine W.widen (k := 0) (n := 0) (by decide) (by decide) ?_
    have hE := hE.trans hX_S_16
    have hK_a0 : sK S_16 a0 = 12 := (hX_S_16.2 a0 hL_a0).1.trans hK_a0
    have hL_a0 : wM D S_16 a0 := hX_S_16.M hL_a0
    refine lv_land hx hb dX7_attackers_49 ?_
    refine lv_lor hx hb dX7_attackers_50 ?_
    refine lv_aload_n hx hb dX7_attackers_51 rfl (lv_at hl 1 rfl) ?_
    obtain ⟨y_17, ey_17, hL_y_17, hK_y_17, hp⟩ := hp
    refine w_get (k := 12) (f := 0) (T := TX7) (v := .ref y_17) F hK hW hL_a0 hK_a0 (by decide) rfl rfl (by decide) i_12 k_35 (by rw [show wv 12 0 S_16 a0 = va_rf (sR S_16 a0 0) from rfl, ey_17]; rfl) dX7_attackers_52 ?_
    refine lv_iload_n hx hb dX7_attackers_55 rfl (lv_at hl 2 rfl) ?_
    refine lv_iload_n hx hb dX7_attackers_56 rfl (lv_at hl 3 rfl) ?_
    refine lv_if_ne (tgt := 64) hx hb dX7_attackers_57 (by decide) (fun c_18 => ?_) (fun c_18 => ?_)
    · replace hp := hp.1 c_18
      refine lv_iconst (v := 0) hx hb dX7_attackers_64 (by decide) ?_
      exact t_X7_attackers_65 F hr hlocks hK hp hW hE (lv_sub hl [1, 2, 3, 4, 0] rfl) hL_a0 hK_a0 hL_y_17 hK_y_17
    · replace hp := hp.2 c_18
      refine lv_iconst (v := 1) hx hb dX7_attackers_60 (by decide) ?_
      refine lv_goto (tgt := 65) hx hb dX7_attackers_61 (by decide) ?_
      exact t_X7_attackers_65 F hr hlocks hK hp hW hE (lv_sub hl [1, 2, 3, 4, 0] rfl) hL_a0 hK_a0 hL_y_17 hK_y_17
  · replace hp := hp.2 c_4
    refine lv_lconst (v := 0) hx hb dX7_attackers_11 (by decide) ?_
    exact w_lret hx hb hr hlocks hW ⟨hE, hp⟩ dX7_attackers_12
set_option maxHeartbeats 4000000 in
set_option maxRecDepth 100000 in
theorem c_X7_attackers (l : Launch) {D : wD} {cy : Nat → ClassId} {X : va_W} {S0 : wS} {post : Int64 → wS → Prop} {a0 : Nat} {x1 : Int32} {x2 : Int32} {x3 : Int64} (hL_a0 : wM D S0 a0) (hK_a0 : sK S0 a0 = 12) (hp : wp_X7_attackers D post S0 a0 x1 x2 x3) : mJ D cy X l yX7_attackers wz_X7_attackers r_X7_attackers [.ref a0, .int x1, .int x2, .long x3] S0 (fun r S9 => wX D S0 S9 ∧ post r S9) := by
  intro sz
  refine Met.ofW (cc := cX7_attackers) (maxL := 9) (ret := (some .long)) (by decide) rfl ?_
  intro p e s m args below meth c s₁ B hml hv
  obtain ⟨rfl, hsz, hP, hK, hD0, hRO⟩ := hv
  have hts := atoms_spec (ws := wz_X7_attackers) B.pre
  have hown : s.vm.findClass RX7 = some m.cls := findClass_of_methodNamed B.named
  subst hsz
  have hD := hD0.self (sz := s.heap.size)
  have F : CallFix p m c cX7_attackers 9 s _ wz_X7_attackers RX7 := ⟨B.exec, B.bytes, hml, hown, hts⟩
  have hr := B.returns
  have hlocks := B.notSynchronized
  generalize hAe : va_A (wL cy X S0) s.heap.size = A at hD hK ⊢
  have hA : ∀ q, s.heap.size ≤ q → A q := fun q h => by rw [← hAe]; exact Or.inr h
  have hW : wO D cy X A s.heap S0 s.heap [] := ⟨hP, hD, va_S.rf, hA, hRO⟩
  have hl := lv_entry ([.ref a0, .int x1, .int x2, .long x3]) (n := 9) (Nat.le_of_ble_eq_true rfl)
  rw [lg_entry_eq]
  generalize (lg_sl ([.ref a0, .int x1, .int x2, .long x3]) ++ List.replicate (9 - (lg_sl ([.ref a0, .int x1, .int x2, .long x3])).length) Slot.unset).toArray = ls at hl ⊢
  have hl : lv_has ls 9 [(0, .ref a0), (1, .int x1), (2, .int x2), (3, .long x3)] := hl
  unfold wp_X7_attackers at hp
  exact t_X7_attackers_0 F hr hlocks hK hp hW wX.rf (lv_sub hl [0, 1, 2, 3] rfl) hL_a0 hK_a0
def wp_X7_hasSoundRights_153 (D : wD) (post : Int32 → wS → Prop)  (S : wS) (t0 : Int32) : Prop :=
narrow .boolean (.int t0) = .int t0 ∧ post t0 S
def wp_X7_hasSoundRights_152 (D : wD) (post : Int32 → wS → Prop)  (S : wS) : Prop :=
wp_X7_hasSoundRights_153 D post S (0 : Int32)
def wp_X7_hasSoundRights_136 (D : wD) (post : Int32 → wS → Prop)  (S : wS) (x5 : Int32) (t0 : Int32) : Prop :=
((x5 = 0 → wp_X7_hasSoundRights_152 D post S) ∧
 (¬ x5 = 0 → ((t0 = 0 → wp_X7_hasSoundRights_152 D post S) ∧
 (¬ t0 = 0 → wp_X7_hasSoundRights_153 D post S (1 : Int32)))))
def wp_X7_hasSoundRights_131 (D : wD) (post : Int32 → wS → Prop)  (S : wS) (x5 : Int32) : Prop :=
wp_X7_hasSoundRights_136 D post S x5 (1 : Int32)
def wp_X7_hasSoundRights_111 (D : wD) (post : Int32 → wS → Prop)  (S : wS) (a0 : Nat) (x2 : Int32) (x3 : Int32) (x4 : Int32) (t0 : Int32) : Prop :=
(((x2 &&& (2 : Int32)) = 0 → wp_X7_hasSoundRights_131 D post S t0) ∧
 (¬ (x2 &&& (2 : Int32)) = 0 → wp_X7_pieceOn D (fun r_2 S_3 => 
((¬ r_2 = ((3 : Int32) + x4) → wp_X7_hasSoundRights_136 D post S_3 t0 (0 : Int32)) ∧
 (r_2 = ((3 : Int32) + x4) → wp_X7_hasSoundRights_131 D post S_3 t0))) S a0 x3))
def wp_X7_hasSoundRights_106 (D : wD) (post : Int32 → wS → Prop)  (S : wS) (a0 : Nat) (x2 : Int32) (x3 : Int32) (x4 : Int32) : Prop :=
wp_X7_hasSoundRights_111 D post S a0 x2 x3 x4 (1 : Int32)
def wp_X7_hasSoundRights_83 (D : wD) (post : Int32 → wS → Prop)  (S : wS) : Prop :=
narrow .boolean (.int (0 : Int32)) = .int (0 : Int32) ∧ post (0 : Int32) S
def wp_X7_hasSoundRights_55 (D : wD) (post : Int32 → wS → Prop)  (S : wS) (a0 : Nat) (x2 : Int32) (x3 : Int32) (t0 : Int32) : Prop :=
∃ y_1 : Nat, sR S a0 0 = some y_1 ∧ wM D S y_1 ∧ sK S y_1 = 5 ∧
((¬ (sI S y_1 0) = (8 : Int32) → wp_X7_hasSoundRights_83 D post S) ∧
 ((sI S y_1 0) = (8 : Int32) → wp_X7_pieceOn D (fun r_3 S_4 => 
((r_3 = ((1 : Int32) + t0) → (((x2 &&& (1 : Int32)) = 0 → wp_X7_hasSoundRights_106 D post S_4 a0 x2 x3 t0) ∧
 (¬ (x2 &&& (1 : Int32)) = 0 → wp_X7_pieceOn D (fun r_7 S_8 => 
((¬ r_7 = ((3 : Int32) + t0) → wp_X7_hasSoundRights_111 D post S_8 a0 x2 x3 t0 (0 : Int32)) ∧
 (r_7 = ((3 : Int32) + t0) → wp_X7_hasSoundRights_106 D post S_8 a0 x2 x3 t0))) S_4 a0 (x3 + (7 : Int32))))) ∧
 (¬ r_3 = ((1 : Int32) + t0) → wp_X7_hasSoundRights_83 D post S_4))) S a0 (x3 + (4 : Int32))))
def wp_X7_hasSoundRights_44 (D : wD) (post : Int32 → wS → Prop)  (S : wS) (a0 : Nat) (x1 : Int32) (x2 : Int32) (t0 : Int32) : Prop :=
((x1 = 0 → wp_X7_hasSoundRights_55 D post S a0 x2 t0 (6 : Int32)) ∧
 (¬ x1 = 0 → wp_X7_hasSoundRights_55 D post S a0 x2 t0 (0 : Int32)))
def wp_X7_hasSoundRights_19 (D : wD) (post : Int32 → wS → Prop)  (S : wS) (a0 : Nat) (x1 : Int32) (t0 : Int32) : Prop :=
((¬ t0 = 0 → ((x1 = 0 → ∃ y_3 : Nat, sR S a0 0 = some y_3 ∧ wM D S y_3 ∧ sK S y_3 = 5 ∧
wp_X7_hasSoundRights_44 D post S a0 x1 t0 ((sI S y_3 2) - (8 : Int32))) ∧
 (¬ x1 = 0 → wp_X7_hasSoundRights_44 D post S a0 x1 t0 (0 : Int32)))) ∧
 (t0 = 0 → narrow .boolean (.int (1 : Int32)) = .int (1 : Int32) ∧ post (1 : Int32) S))
def wp_X7_hasSoundRights_0 (D : wD) (post : Int32 → wS → Prop)  (S : wS) (a0 : Nat) (x1 : Int32) : Prop :=
((x1 = 0 → wp_X7_hasSoundRights_19 D post S a0 x1 (jiushr (sI S a0 6) (2 : Int32))) ∧
 (¬ x1 = 0 → wp_X7_hasSoundRights_19 D post S a0 x1 ((sI S a0 6) &&& (3 : Int32))))
abbrev r_X7_hasSoundRights : Room := { frames := 2, cells := 0, slots := 0, locals := 44 }
def wp_X7_hasSoundRights (D : wD) (post : Int32 → wS → Prop) (S : wS) (a0 : Nat) (x1 : Int32) : Prop := wp_X7_hasSoundRights_0 D post S a0 x1
set_option maxHeartbeats 4000000 in
set_option maxRecDepth 100000 in
theorem t_X7_hasSoundRights_153 {p : Program} {l : Launch} {e : Env} {s : State} {m : MethodId} {args : Array Value} {below : List Frame} {meth : Method} {c : Code} {D : wD} {cy : Nat → ClassId} {X : va_W} {A : Nat → Prop} {S0 : wS} {post : Int32 → wS → Prop} (F : CallFix p m c cX7_hasSoundRights 7 s args wz_X7_hasSoundRights RX7) (hr : meth.sig.returnType = (some .boolean)) (hlocks : meth.locks = false) (hK : wK D cy A s) : ∀ {S : wS} {H : Heap} {locs : List Loc} {ls : Array Slot} {t0 : Int32}, wp_X7_hasSoundRights_153 D post S t0 → wO D cy X A s.heap S H locs → wX D S0 S → lv_has ls 7 [] → W p l e r_X7_hasSoundRights s m args below meth c H locs 0 0 (MQ below (va_Qi (fun r S9 => wX D S0 S9 ∧ post r S9) (wB D cy X A) A) args s 0 0 A) (F0 m 153 ls [.int t0]) := by
  obtain ⟨hx, hb, hml, hown, hts⟩ := id F
  have hwg : ∀ w ∈ WG, w.before args s = true := fun w h => hts w (List.mem_cons_of_mem _ h)
  intro S H locs ls t0 hp hW hE hl
  unfold wp_X7_hasSoundRights_153 at hp
  exact w_zret hx hb hr hlocks hW hp.1 ⟨hE, hp.2⟩ dX7_hasSoundRights_153
set_option maxHeartbeats 4000000 in
set_option maxRecDepth 100000 in
theorem t_X7_hasSoundRights_152 {p : Program} {l : Launch} {e : Env} {s : State} {m : MethodId} {args : Array Value} {below : List Frame} {meth : Method} {c : Code} {D : wD} {cy : Nat → ClassId} {X : va_W} {A : Nat → Prop} {S0 : wS} {post : Int32 → wS → Prop} (F : CallFix p m c cX7_hasSoundRights 7 s args wz_X7_hasSoundRights RX7) (hr : meth.sig.returnType = (some .boolean)) (hlocks : meth.locks = false) (hK : wK D cy A s) : ∀ {S : wS} {H : Heap} {locs : List Loc} {ls : Array Slot}, wp_X7_hasSoundRights_152 D post S → wO D cy X A s.heap S H locs → wX D S0 S → lv_has ls 7 [] → W p l e r_X7_hasSoundRights s m args below meth c H locs 0 0 (MQ below (va_Qi (fun r S9 => wX D S0 S9 ∧ post r S9) (wB D cy X A) A) args s 0 0 A) (F0 m 152 ls []) := by
  obtain ⟨hx, hb, hml, hown, hts⟩ := id F
  have hwg : ∀ w ∈ WG, w.before args s = true := fun w h => hts w (List.mem_cons_of_mem _ h)
  intro S H locs ls hp hW hE hl
  unfold wp_X7_hasSoundRights_152 at hp
  refine lv_iconst (v := 0) hx hb dX7_hasSoundRights_152 (by decide) ?_
  exact t_X7_hasSoundRights_153 F hr hlocks hK hp hW hE (lv_sub hl [] rfl)
set_option maxHeartbeats 4000000 in
set_option maxRecDepth 100000 in
theorem t_X7_hasSoundRights_136 {p : Program} {l : Launch} {e : Env} {s : State} {m : MethodId} {args : Array Value} {below : List Frame} {meth : Method} {c : Code} {D : wD} {cy : Nat → ClassId} {X : va_W} {A : Nat → Prop} {S0 : wS} {post : Int32 → wS → Prop} (F : CallFix p m c cX7_hasSoundRights 7 s args wz_X7_hasSoundRights RX7) (hr : meth.sig.returnType = (some .boolean)) (hlocks : meth.locks = false) (hK : wK D cy A s) : ∀ {S : wS} {H : Heap} {locs : List Loc} {ls : Array Slot} {x5 : Int32} {t0 : Int32}, wp_X7_hasSoundRights_136 D post S x5 t0 → wO D cy X A s.heap S H locs → wX D S0 S → lv_has ls 7 [(5, .int x5)] → W p l e r_X7_hasSoundRights s m args below meth c H locs 0 0 (MQ below (va_Qi (fun r S9 => wX D S0 S9 ∧ post r S9) (wB D cy X A) A) args s 0 0 A) (F0 m 136 ls [.int t0]) := by
  obtain ⟨hx, hb, hml, hown, hts⟩ := id F
  have hwg : ∀ w ∈ WG, w.before args s = true := fun w h => hts w (List.mem_cons_of_mem _ h)
  intro S H locs ls x5 t0 hp hW hE hl
  unfold wp_X7_hasSoundRights_136 at hp
  refine lv_istore (lv' := [(6, .int t0), (5, .int x5)]) hx hb dX7_hasSoundRights_136 hl (by decide) rfl (fun ls hl => ?_)
  refine lv_iload hx hb dX7_hasSoundRights_138 (lv_at hl 1 rfl) ?_
  refine lv_if_eq (tgt := 152) hx hb dX7_hasSoundRights_140 (by decide) (fun c_1 => ?_) (fun c_1 => ?_)
  · replace hp := hp.1 c_1
    exact t_X7_hasSoundRights_152 F hr hlocks hK hp hW hE (lv_sub hl [] rfl)
  · replace hp := hp.2 c_1
    refine lv_iload hx hb dX7_hasSoundRights_143 (lv_at hl 0 rfl) ?_
    refine lv_if_eq (tgt := 152) hx hb dX7_hasSoundRights_145 (by decide) (fun c_2 => ?_) (fun c_2 => ?_)
    · replace hp := hp.1 c_2
      exact t_X7_hasSoundRights_152 F hr hlocks hK hp hW hE (lv_sub hl [] rfl)
    · replace hp := hp.2 c_2
      refine lv_iconst (v := 1) hx hb dX7_hasSoundRights_148 (by decide) ?_
      refine lv_goto (tgt := 153) hx hb dX7_hasSoundRights_149 (by decide) ?_
      exact t_X7_hasSoundRights_153 F hr hlocks hK hp hW hE (lv_sub hl [] rfl)
set_option maxHeartbeats 4000000 in
set_option maxRecDepth 100000 in
theorem t_X7_hasSoundRights_131 {p : Program} {l : Launch} {e : Env} {s : State} {m : MethodId} {args : Array Value} {below : List Frame} {meth : Method} {c : Code} {D : wD} {cy : Nat → ClassId} {X : va_W} {A : Nat → Prop} {S0 : wS} {post : Int32 → wS → Prop} (F : CallFix p m c cX7_hasSoundRights 7 s args wz_X7_hasSoundRights RX7) (hr : meth.sig.returnType = (some .boolean)) (hlocks : meth.locks = false) (hK : wK D cy A s) : ∀ {S : wS} {H : Heap} {locs : List Loc} {ls : Array Slot} {x5 : Int32}, wp_X7_hasSoundRights_131 D post S x5 → wO D cy X A s.heap S H locs → wX D S0 S → lv_has ls 7 [(5, .int x5)] → W p l e r_X7_hasSoundRights s m args below meth c H locs 0 0 (MQ below (va_Qi (fun r S9 => wX D S0 S9 ∧ post r S9) (wB D cy X A) A) args s 0 0 A) (F0 m 131 ls []) := by
  obtain ⟨hx, hb, hml, hown, hts⟩ := id F
  have hwg : ∀ w ∈ WG, w.before args s = true := fun w h => hts w (List.mem_cons_of_mem _ h)
  intro S H locs ls x5 hp hW hE hl
  unfold wp_X7_hasSoundRights_131 at hp
  refine lv_iconst (v := 1) hx hb dX7_hasSoundRights_131 (by decide) ?_
  refine lv_goto (tgt := 136) hx hb dX7_hasSoundRights_132 (by decide) ?_
  exact t_X7_hasSoundRights_136 F hr hlocks hK hp hW hE (lv_sub hl [0] rfl)
set_option maxHeartbeats 4000000 in
set_option maxRecDepth 100000 in
theorem t_X7_hasSoundRights_111 {p : Program} {l : Launch} {e : Env} {s : State} {m : MethodId} {args : Array Value} {below : List Frame} {meth : Method} {c : Code} {D : wD} {cy : Nat → ClassId} {X : va_W} {A : Nat → Prop} {S0 : wS} {post : Int32 → wS → Prop} (F : CallFix p m c cX7_hasSoundRights 7 s args wz_X7_hasSoundRights RX7) (hr : meth.sig.returnType = (some .boolean)) (hlocks : meth.locks = false) (hK : wK D cy A s) : ∀ {S : wS} {H : Heap} {locs : List Loc} {ls : Array Slot} {a0 : Nat} {x2 : Int32} {x3 : Int32} {x4 : Int32} {t0 : Int32}, wp_X7_hasSoundRights_111 D post S a0 x2 x3 x4 t0 → wO D cy X A s.heap S H locs → wX D S0 S → lv_has ls 7 [(0, .ref a0), (2, .int x2), (3, .int x3), (4, .int x4)] → wM D S a0 → sK S a0 = 12 → W p l e r_X7_hasSoundRights s m args below meth c H locs 0 0 (MQ below (va_Qi (fun r S9 => wX D S0 S9 ∧ post r S9) (wB D cy X A) A) args s 0 0 A) (F0 m 111 ls [.int t0]) := by
  obtain ⟨hx, hb, hml, hown, hts⟩ := id F
  have hwg : ∀ w ∈ WG, w.before args s = true := fun w h => hts w (List.mem_cons_of_mem _ h)
  intro S H locs ls a0 x2 x3 x4 t0 hp hW hE hl hL_a0 hK_a0
  unfold wp_X7_hasSoundRights_111 at hp
  refine lv_istore (lv' := [(5, .int t0), (0, .ref a0), (2, .int x2), (3, .int x3), (4, .int x4)]) hx hb dX7_hasSoundRights_111 hl (by decide) rfl (fun ls hl => ?_)
  refine lv_iload_n hx hb dX7_hasSoundRights_113 rfl (lv_at hl 2 rfl) ?_
  refine lv_iconst (v := 2) hx hb dX7_hasSoundRights_114 (by decide) ?_
  refine lv_iand hx hb dX7_hasSoundRights_115 ?_
  refine lv_if_eq (tgt := 131) hx hb dX7_hasSoundRights_116 (by decide) (fun c_1 => ?_) (fun c_1 => ?_)
  · replace hp := hp.1 c_1
    exact t_X7_hasSoundRights_131 F hr hlocks hK hp hW hE (lv_sub hl [0] rfl)
  · replace hp := hp.2 c_1
    refine lv_aload_n hx hb dX7_hasSoundRights_119 rfl (lv_at hl 1 rfl) ?_
    refine lv_iload_n hx hb dX7_hasSoundRights_120 rfl (lv_at hl 3 rfl) ?_
    refine w_callI (va_runV (As := [.int x3]) (rest := []) F (c_X7_pieceOn l hL_a0 hK_a0 hp H.size) (cwV (C := RX7) 1 hts (wg_V wm_RX7_141 wy_X7_pieceOn) rfl rfl rfl (by decide +kernel) ⟨Nat.le_of_ble_eq_true rfl, Nat.le_of_ble_eq_true rfl⟩) (w_preV hK hW hL_a0 hK_a0 (by decide) rfl) rfl rfl hl.1 rfl (lv_room (Nat.le_of_ble_eq_true rfl)) dX7_hasSoundRights_121 ⟨Nat.le_of_ble_eq_true rfl, Nat.le_of_ble_eq_true rfl⟩) hW (fun r_2 S_3 H locs hp hW => ?_)
    obtain ⟨hX_S_3, hp⟩ := hp
    refine W.widen (k := 0) (n := 0) (by decide) (by decide) ?_
    have hE := hE.trans hX_S_3
    have hK_a0 : sK S_3 a0 = 12 := (hX_S_3.2 a0 hL_a0).1.trans hK_a0
    have hL_a0 : wM D S_3 a0 := hX_S_3.M hL_a0
    refine lv_iconst (v := 3) hx hb dX7_hasSoundRights_124 (by decide) ?_
    refine lv_iload hx hb dX7_hasSoundRights_125 (lv_at hl 4 rfl) ?_
    refine lv_iadd hx hb dX7_hasSoundRights_127 ?_
    refine lv_icmp_ne (tgt := 135) hx hb dX7_hasSoundRights_128 (by decide) (fun c_4 => ?_) (fun c_4 => ?_)
    · replace hp := hp.1 c_4
      refine lv_iconst (v := 0) hx hb dX7_hasSoundRights_135 (by decide) ?_
      exact t_X7_hasSoundRights_136 F hr hlocks hK hp hW hE (lv_sub hl [0] rfl)
    · replace hp := hp.2 c_4
      exact t_X7_hasSoundRights_131 F hr hlocks hK hp hW hE (lv_sub hl [0] rfl)
set_option maxHeartbeats 4000000 in
set_option maxRecDepth 100000 in
theorem t_X7_hasSoundRights_106 {p : Program} {l : Launch} {e : Env} {s : State} {m : MethodId} {args : Array Value} {below : List Frame} {meth : Method} {c : Code} {D : wD} {cy : Nat → ClassId} {X : va_W} {A : Nat → Prop} {S0 : wS} {post : Int32 → wS → Prop} (F : CallFix p m c cX7_hasSoundRights 7 s args wz_X7_hasSoundRights RX7) (hr : meth.sig.returnType = (some .boolean)) (hlocks : meth.locks = false) (hK : wK D cy A s) : ∀ {S : wS} {H : Heap} {locs : List Loc} {ls : Array Slot} {a0 : Nat} {x2 : Int32} {x3 : Int32} {x4 : Int32}, wp_X7_hasSoundRights_106 D post S a0 x2 x3 x4 → wO D cy X A s.heap S H locs → wX D S0 S → lv_has ls 7 [(0, .ref a0), (2, .int x2), (3, .int x3), (4, .int x4)] → wM D S a0 → sK S a0 = 12 → W p l e r_X7_hasSoundRights s m args below meth c H locs 0 0 (MQ below (va_Qi (fun r S9 => wX D S0 S9 ∧ post r S9) (wB D cy X A) A) args s 0 0 A) (F0 m 106 ls []) := by
  obtain ⟨hx, hb, hml, hown, hts⟩ := id F
  have hwg : ∀ w ∈ WG, w.before args s = true := fun w h => hts w (List.mem_cons_of_mem _ h)
  intro S H locs ls a0 x2 x3 x4 hp hW hE hl hL_a0 hK_a0
  unfold wp_X7_hasSoundRights_106 at hp
  refine lv_iconst (v := 1) hx hb dX7_hasSoundRights_106 (by decide) ?_
  refine lv_goto (tgt := 111) hx hb dX7_hasSoundRights_107 (by decide) ?_
  exact t_X7_hasSoundRights_111 F hr hlocks hK hp hW hE (lv_sub hl [0, 1, 2, 3] rfl) hL_a0 hK_a0
set_option maxHeartbeats 4000000 in
set_option maxRecDepth 100000 in
theorem t_X7_hasSoundRights_83 {p : Program} {l : Launch} {e : Env} {s : State} {m : MethodId} {args : Array Value} {below : List Frame} {meth : Method} {c : Code} {D : wD} {cy : Nat → ClassId} {X : va_W} {A : Nat → Prop} {S0 : wS} {post : Int32 → wS → Prop} (F : CallFix p m c cX7_hasSoundRights 7 s args wz_X7_hasSoundRights RX7) (hr : meth.sig.returnType = (some .boolean)) (hlocks : meth.locks = false) (hK : wK D cy A s) : ∀ {S : wS} {H : Heap} {locs : List Loc} {ls : Array Slot}, wp_X7_hasSoundRights_83 D post S → wO D cy X A s.heap S H locs → wX D S0 S → lv_has ls 7 [] → W p l e r_X7_hasSoundRights s m args below meth c H locs 0 0 (MQ below (va_Qi (fun r S9 => wX D S0 S9 ∧ post r S9) (wB D cy X A) A) args s 0 0 A) (F0 m 83 ls []) := by
  obtain ⟨hx, hb, hml, hown, hts⟩ := id F
  have hwg : ∀ w ∈ WG, w.before args s = true := fun w h => hts w (List.mem_cons_of_mem _ h)
  intro S H locs ls hp hW hE hl
  unfold wp_X7_hasSoundRights_83 at hp
  refine lv_iconst (v := 0) hx hb dX7_hasSoundRights_83 (by decide) ?_
  exact w_zret hx hb hr hlocks hW hp.1 ⟨hE, hp.2⟩ dX7_hasSoundRights_84
set_option maxHeartbeats 4000000 in
set_option maxRecDepth 100000 in
theorem t_X7_hasSoundRights_55 {p : Program} {l : Launch} {e : Env} {s : State} {m : MethodId} {args : Array Value} {below : List Frame} {meth : Method} {c : Code} {D : wD} {cy : Nat → ClassId} {X : va_W} {A : Nat → Prop} {S0 : wS} {post : Int32 → wS → Prop} (F : CallFix p m c cX7_hasSoundRights 7 s args wz_X7_hasSoundRights RX7) (hr : meth.sig.returnType = (some .boolean)) (hlocks : meth.locks = false) (hK : wK D cy A s) : ∀ {S : wS} {H : Heap} {locs : List Loc} {ls : Array Slot} {a0 : Nat} {x2 : Int32} {x3 : Int32} {t0 : Int32}, wp_X7_hasSoundRights_55 D post S a0 x2 x3 t0 → wO D cy X A s.heap S H locs → wX D S0 S → lv_has ls 7 [(0, .ref a0), (2, .int x2), (3, .int x3)] → wM D S a0 → sK S a0 = 12 → W p l e r_X7_hasSoundRights s m args below meth c H locs 0 0 (MQ below (va_Qi (fun r S9 => wX D S0 S9 ∧ post r S9) (wB D cy X A) A) args s 0 0 A) (F0 m 55 ls [.int t0]) := by
  obtain ⟨hx, hb, hml, hown, hts⟩ := id F
  have hwg : ∀ w ∈ WG, w.before args s = true := fun w h => hts w (List.mem_cons_of_mem _ h)
  have i_12 : ∀ w ∈ u_ws RX7 TX7 8, w ∈ wz_X7_hasSoundRights := fun w h => List.mem_cons_of_mem _ (wu_12 w h)
  have i_5 : ∀ w ∈ u_ws RX0 TX0 12, w ∈ wz_X7_hasSoundRights := fun w h => List.mem_cons_of_mem _ (wu_5 w h)
  have k_35 := hwg _ wf_RX7_35
  intro S H locs ls a0 x2 x3 t0 hp hW hE hl hL_a0 hK_a0
  unfold wp_X7_hasSoundRights_55 at hp
  refine lv_istore (lv' := [(4, .int t0), (0, .ref a0), (2, .int x2), (3, .int x3)]) hx hb dX7_hasSoundRights_55 hl (by decide) rfl (fun ls hl => ?_)
  refine lv_aload_n hx hb dX7_hasSoundRights_57 rfl (lv_at hl 1 rfl) ?_
  obtain ⟨y_1, ey_1, hL_y_1, hK_y_1, hp⟩ := hp
  refine w_get (k := 12) (f := 0) (T := TX7) (v := .ref y_1) F hK hW hL_a0 hK_a0 (by decide) rfl rfl (by decide) i_12 k_35 (by rw [show wv 12 0 S a0 = va_rf (sR S a0 0) from rfl, ey_1]; rfl) dX7_hasSoundRights_58 ?_
  refine w_getN (k := 5) (f := 0) (T := TX0) (v := .int (sI S y_1 0)) F hK hW hL_y_1 hK_y_1 (by decide) rfl rfl (by decide) i_5 (hK.2.1 (.fieldLinkNest "OpeningsCabinet$Position" 138 "OpeningsCabinet$Board" "files" "I" "OpeningsCabinet") (by decide +kernel)) rfl dX7_hasSoundRights_61 ?_
  refine lv_bipush (v := 8) hx hb dX7_hasSoundRights_64 (by decide) ?_
  refine lv_icmp_ne (tgt := 83) hx hb dX7_hasSoundRights_66 (by decide) (fun c_2 => ?_) (fun c_2 => ?_)
  · replace hp := hp.1 c_2
    exact t_X7_hasSoundRights_83 F hr hlocks hK hp hW hE (lv_sub hl [] rfl)
  · replace hp := hp.2 c_2
    refine lv_aload_n hx hb dX7_hasSoundRights_69 rfl (lv_at hl 1 rfl) ?_
    refine lv_iload_n hx hb dX7_hasSoundRights_70 rfl (lv_at hl 3 rfl) ?_
    refine lv_iconst (v := 4) hx hb dX7_hasSoundRights_71 (by decide) ?_
    refine lv_iadd hx hb dX7_hasSoundRights_72 ?_
    refine w_callI (va_runV (As := [.int (x3 + (4 : Int32))]) (rest := []) F (c_X7_pieceOn l hL_a0 hK_a0 hp H.size) (cwV (C := RX7) 1 hts (wg_V wm_RX7_141 wy_X7_pieceOn) rfl rfl rfl (by decide +kernel) ⟨Nat.le_of_ble_eq_true rfl, Nat.le_of_ble_eq_true rfl⟩) (w_preV hK hW hL_a0 hK_a0 (by decide) rfl) rfl rfl hl.1 rfl (lv_room (Nat.le_of_ble_eq_true rfl)) dX7_hasSoundRights_73 ⟨Nat.le_of_ble_eq_true rfl, Nat.le_of_ble_eq_true rfl⟩) hW (fun r_3 S_4 H locs hp hW => ?_)
    obtain ⟨hX_S_4, hp⟩ := hp
    refine W.widen (k := 0) (n := 0) (by decide) (by decide) ?_
    have hE := hE.trans hX_S_4
    have hK_a0 : sK S_4 a0 = 12 := (hX_S_4.2 a0 hL_a0).1.trans hK_a0
    have hL_a0 : wM D S_4 a0 := hX_S_4.M hL_a0
    refine lv_iconst (v := 1) hx hb dX7_hasSoundRights_76 (by decide) ?_
    refine lv_iload hx hb dX7_hasSoundRights_77 (lv_at hl 0 rfl) ?_
    refine lv_iadd hx hb dX7_hasSoundRights_79 ?_
    refine lv_icmp_eq (tgt := 85) hx hb dX7_hasSoundRights_80 (by decide) (fun c_5 => ?_) (fun c_5 => ?_)
    · replace hp := hp.1 c_5
      refine lv_iload_n hx hb dX7_hasSoundRights_85 rfl (lv_at hl 2 rfl) ?_
      refine lv_iconst (v := 1) hx hb dX7_hasSoundRights_86 (by decide) ?_
      refine lv_iand hx hb dX7_hasSoundRights_87 ?_
      refine lv_if_eq (tgt := 106) hx hb dX7_hasSoundRights_88 (by decide) (fun c_6 => ?_) (fun c_6 => ?_)
      · replace hp := hp.1 c_6
        exact t_X7_hasSoundRights_106 F hr hlocks hK hp hW hE (lv_sub hl [1, 2, 3, 0] rfl) hL_a0 hK_a0
      · replace hp := hp.2 c_6
        refine lv_aload_n hx hb dX7_hasSoundRights_91 rfl (lv_at hl 1 rfl) ?_
        refine lv_iload_n hx hb dX7_hasSoundRights_92 rfl (lv_at hl 3 rfl) ?_
        refine lv_bipush (v := 7) hx hb dX7_hasSoundRights_93 (by decide) ?_
        refine lv_iadd hx hb dX7_hasSoundRights_95 ?_
        refine w_callI (va_runV (As := [.int (x3 + (7 : Int32))]) (rest := []) F (c_X7_pieceOn l hL_a0 hK_a0 hp H.size) (cwV (C := RX7) 1 hts (wg_V wm_RX7_141 wy_X7_pieceOn) rfl rfl rfl (by decide +kernel) ⟨Nat.le_of_ble_eq_true rfl, Nat.le_of_ble_eq_true rfl⟩) (w_preV hK hW hL_a0 hK_a0 (by decide) rfl) rfl rfl hl.1 rfl (lv_room (Nat.le_of_ble_eq_true rfl)) dX7_hasSoundRights_96 ⟨Nat.le_of_ble_eq_true rfl, Nat.le_of_ble_eq_true rfl⟩) hW (fun r_7 S_8 H locs hp hW => ?_)
        obtain ⟨hX_S_8, hp⟩ := hp
        refine W.widen (k := 0) (n := 0) (by decide) (by decide) ?_
        have hE := hE.trans hX_S_8
        have hK_a0 : sK S_8 a0 = 12 := (hX_S_8.2 a0 hL_a0).1.trans hK_a0
        have hL_a0 : wM D S_8 a0 := hX_S_8.M hL_a0
        refine lv_iconst (v := 3) hx hb dX7_hasSoundRights_99 (by decide) ?_
        refine lv_iload hx hb dX7_hasSoundRights_100 (lv_at hl 0 rfl) ?_
        refine lv_iadd hx hb dX7_hasSoundRights_102 ?_
        refine lv_icmp_ne (tgt := 110) hx hb dX7_hasSoundRights_103 (by decide) (fun c_9 => ?_) (fun c_9 => ?_)
        · replace hp := hp.1 c_9
          refine lv_iconst (v := 0) hx hb dX7_hasSoundRights_110 (by decide) ?_
          exact t_X7_hasSoundRights_111 F hr hlocks hK hp hW hE (lv_sub hl [1, 2, 3, 0] rfl) hL_a0 hK_a0
        · replace hp := hp.2 c_9
          exact t_X7_hasSoundRights_106 F hr hlocks hK hp hW hE (lv_sub hl [1, 2, 3, 0] rfl) hL_a0 hK_a0
    · replace hp := hp.2 c_5
      exact t_X7_hasSoundRights_83 F hr hlocks hK hp hW hE (lv_sub hl [] rfl)
set_option maxHeartbeats 4000000 in
set_option maxRecDepth 100000 in
theorem t_X7_hasSoundRights_44 {p : Program} {l : Launch} {e : Env} {s : State} {m : MethodId} {args : Array Value} {below : List Frame} {meth : Method} {c : Code} {D : wD} {cy : Nat → ClassId} {X : va_W} {A : Nat → Prop} {S0 : wS} {post : Int32 → wS → Prop} (F : CallFix p m c cX7_hasSoundRights 7 s args wz_X7_hasSoundRights RX7) (hr : meth.sig.returnType = (some .boolean)) (hlocks : meth.locks = false) (hK : wK D cy A s) : ∀ {S : wS} {H : Heap} {locs : List Loc} {ls : Array Slot} {a0 : Nat} {x1 : Int32} {x2 : Int32} {t0 : Int32}, wp_X7_hasSoundRights_44 D post S a0 x1 x2 t0 → wO D cy X A s.heap S H locs → wX D S0 S → lv_has ls 7 [(0, .ref a0), (1, .int x1), (2, .int x2)] → wM D S a0 → sK S a0 = 12 → W p l e r_X7_hasSoundRights s m args below meth c H locs 0 0 (MQ below (va_Qi (fun r S9 => wX D S0 S9 ∧ post r S9) (wB D cy X A) A) args s 0 0 A) (F0 m 44 ls [.int t0]) := by
  obtain ⟨hx, hb, hml, hown, hts⟩ := id F
  have hwg : ∀ w ∈ WG, w.before args s = true := fun w h => hts w (List.mem_cons_of_mem _ h)
  intro S H locs ls a0 x1 x2 t0 hp hW hE hl hL_a0 hK_a0
  unfold wp_X7_hasSoundRights_44 at hp
  refine lv_istore_n (lv' := [(3, .int t0), (0, .ref a0), (1, .int x1), (2, .int x2)]) hx hb dX7_hasSoundRights_44 rfl hl (by decide) rfl (fun ls hl => ?_)
  refine lv_iload_n hx hb dX7_hasSoundRights_45 rfl (lv_at hl 2 rfl) ?_
  refine lv_if_eq (tgt := 53) hx hb dX7_hasSoundRights_46 (by decide) (fun c_1 => ?_) (fun c_1 => ?_)
  · replace hp := hp.1 c_1
    refine lv_bipush (v := 6) hx hb dX7_hasSoundRights_53 (by decide) ?_
    exact t_X7_hasSoundRights_55 F hr hlocks hK hp hW hE (lv_sub hl [1, 3, 0] rfl) hL_a0 hK_a0
  · replace hp := hp.2 c_1
    refine lv_iconst (v := 0) hx hb dX7_hasSoundRights_49 (by decide) ?_
    refine lv_goto (tgt := 55) hx hb dX7_hasSoundRights_50 (by decide) ?_
    exact t_X7_hasSoundRights_55 F hr hlocks hK hp hW hE (lv_sub hl [1, 3, 0] rfl) hL_a0 hK_a0
set_option maxHeartbeats 4000000 in
set_option maxRecDepth 100000 in
theorem t_X7_hasSoundRights_19 {p : Program} {l : Launch} {e : Env} {s : State} {m : MethodId} {args : Array Value} {below : List Frame} {meth : Method} {c : Code} {D : wD} {cy : Nat → ClassId} {X : va_W} {A : Nat → Prop} {S0 : wS} {post : Int32 → wS → Prop} (F : CallFix p m c cX7_hasSoundRights 7 s args wz_X7_hasSoundRights RX7) (hr : meth.sig.returnType = (some .boolean)) (hlocks : meth.locks = false) (hK : wK D cy A s) : ∀ {S : wS} {H : Heap} {locs : List Loc} {ls : Array Slot} {a0 : Nat} {x1 : Int32} {t0 : Int32}, wp_X7_hasSoundRights_19 D post S a0 x1 t0 → wO D cy X A s.heap S H locs → wX D S0 S → lv_has ls 7 [(0, .ref a0), (1, .int x1)] → wM D S a0 → sK S a0 = 12 → W p l e r_X7_hasSoundRights s m args below meth c H locs 0 0 (MQ below (va_Qi (fun r S9 => wX D S0 S9 ∧ post r S9) (wB D cy X A) A) args s 0 0 A) (F0 m 19 ls [.int t0]) := by
  obtain ⟨hx, hb, hml, hown, hts⟩ := id F
  have hwg : ∀ w ∈ WG, w.before args s = true := fun w h => hts w (List.mem_cons_of_mem _ h)
  have i_12 : ∀ w ∈ u_ws RX7 TX7 8, w ∈ wz_X7_hasSoundRights := fun w h => List.mem_cons_of_mem _ (wu_12 w h)
  have i_5 : ∀ w ∈ u_ws RX0 TX0 12, w ∈ wz_X7_hasSoundRights := fun w h => List.mem_cons_of_mem _ (wu_5 w h)
  have k_35 := hwg _ wf_RX7_35
  intro S H locs ls a0 x1 t0 hp hW hE hl hL_a0 hK_a0
  unfold wp_X7_hasSoundRights_19 at hp
  refine lv_istore_n (lv' := [(2, .int t0), (0, .ref a0), (1, .int x1)]) hx hb dX7_hasSoundRights_19 rfl hl (by decide) rfl (fun ls hl => ?_)
  refine lv_iload_n hx hb dX7_hasSoundRights_20 rfl (lv_at hl 0 rfl) ?_
  refine lv_if_ne (tgt := 26) hx hb dX7_hasSoundRights_21 (by decide) (fun c_1 => ?_) (fun c_1 => ?_)
  · replace hp := hp.1 c_1
    refine lv_iload_n hx hb dX7_hasSoundRights_26 rfl (lv_at hl 2 rfl) ?_
    refine lv_if_eq (tgt := 34) hx hb dX7_hasSoundRights_27 (by decide) (fun c_2 => ?_) (fun c_2 => ?_)
    · replace hp := hp.1 c_2
      refine lv_aload_n hx hb dX7_hasSoundRights_34 rfl (lv_at hl 1 rfl) ?_
      obtain ⟨y_3, ey_3, hL_y_3, hK_y_3, hp⟩ := hp
      refine w_get (k := 12) (f := 0) (T := TX7) (v := .ref y_3) F hK hW hL_a0 hK_a0 (by decide) rfl rfl (by decide) i_12 k_35 (by rw [show wv 12 0 S a0 = va_rf (sR S a0 0) from rfl, ey_3]; rfl) dX7_hasSoundRights_35 ?_
      refine w_getN (k := 5) (f := 2) (T := TX0) (v := .int (sI S y_3 2)) F hK hW hL_y_3 hK_y_3 (by decide) rfl rfl (by decide) i_5 (hK.2.1 (.fieldLinkNest "OpeningsCabinet$Position" 135 "OpeningsCabinet$Board" "size" "I" "OpeningsCabinet") (by decide +kernel)) rfl dX7_hasSoundRights_38 ?_
      refine lv_bipush (v := 8) hx hb dX7_hasSoundRights_41 (by decide) ?_
      refine lv_isub hx hb dX7_hasSoundRights_43 ?_
      exact t_X7_hasSoundRights_44 F hr hlocks hK hp hW hE (lv_sub hl [1, 2, 0] rfl) hL_a0 hK_a0
    · replace hp := hp.2 c_2
      refine lv_iconst (v := 0) hx hb dX7_hasSoundRights_30 (by decide) ?_
      refine lv_goto (tgt := 44) hx hb dX7_hasSoundRights_31 (by decide) ?_
      exact t_X7_hasSoundRights_44 F hr hlocks hK hp hW hE (lv_sub hl [1, 2, 0] rfl) hL_a0 hK_a0
  · replace hp := hp.2 c_1
    refine lv_iconst (v := 1) hx hb dX7_hasSoundRights_24 (by decide) ?_
    exact w_zret hx hb hr hlocks hW hp.1 ⟨hE, hp.2⟩ dX7_hasSoundRights_25
set_option maxHeartbeats 4000000 in
set_option maxRecDepth 100000 in
theorem t_X7_hasSoundRights_0 {p : Program} {l : Launch} {e : Env} {s : State} {m : MethodId} {args : Array Value} {below : List Frame} {meth : Method} {c : Code} {D : wD} {cy : Nat → ClassId} {X : va_W} {A : Nat → Prop} {S0 : wS} {post : Int32 → wS → Prop} (F : CallFix p m c cX7_hasSoundRights 7 s args wz_X7_hasSoundRights RX7) (hr : meth.sig.returnType = (some .boolean)) (hlocks : meth.locks = false) (hK : wK D cy A s) : ∀ {S : wS} {H : Heap} {locs : List Loc} {ls : Array Slot} {a0 : Nat} {x1 : Int32}, wp_X7_hasSoundRights_0 D post S a0 x1 → wO D cy X A s.heap S H locs → wX D S0 S → lv_has ls 7 [(0, .ref a0), (1, .int x1)] → wM D S a0 → sK S a0 = 12 → W p l e r_X7_hasSoundRights s m args below meth c H locs 0 0 (MQ below (va_Qi (fun r S9 => wX D S0 S9 ∧ post r S9) (wB D cy X A) A) args s 0 0 A) (F0 m 0 ls []) := by
  obtain ⟨hx, hb, hml, hown, hts⟩ := id F
  have hwg : ∀ w ∈ WG, w.before args s = true := fun w h => hts w (List.mem_cons_of_mem _ h)
  have i_12 : ∀ w ∈ u_ws RX7 TX7 8, w ∈ wz_X7_hasSoundRights := fun w h => List.mem_cons_of_mem _ (wu_12 w h)
  have k_28 := hwg _ wf_RX7_28
  intro S H locs ls a0 x1 hp hW hE hl hL_a0 hK_a0
  unfold wp_X7_hasSoundRights_0 at hp
  refine lv_iload_n hx hb dX7_hasSoundRights_0 rfl (lv_at hl 1 rfl) ?_
  refine lv_if_eq (tgt := 13) hx hb dX7_hasSoundRights_1 (by decide) (fun c_1 => ?_) (fun c_1 => ?_)
  · replace hp := hp.1 c_1
    refine lv_aload_n hx hb dX7_hasSoundRights_13 rfl (lv_at hl 0 rfl) ?_
    refine w_get (k := 12) (f := 6) (T := TX7) (v := .int (sI S a0 6)) F hK hW hL_a0 hK_a0 (by decide) rfl rfl (by decide) i_12 k_28 rfl dX7_hasSoundRights_14 ?_
    refine lv_iconst (v := 2) hx hb dX7_hasSoundRights_17 (by decide) ?_
    refine lv_iushr (v := (jiushr (sI S a0 6) (2 : Int32))) hx hb dX7_hasSoundRights_18 rfl ?_
    exact t_X7_hasSoundRights_19 F hr hlocks hK hp hW hE (lv_sub hl [0, 1] rfl) hL_a0 hK_a0
  · replace hp := hp.2 c_1
    refine lv_aload_n hx hb dX7_hasSoundRights_4 rfl (lv_at hl 0 rfl) ?_
    refine w_get (k := 12) (f := 6) (T := TX7) (v := .int (sI S a0 6)) F hK hW hL_a0 hK_a0 (by decide) rfl rfl (by decide) i_12 k_28 rfl dX7_hasSoundRights_5 ?_
    refine lv_iconst (v := 3) hx hb dX7_hasSoundRights_8 (by decide) ?_
    refine lv_iand hx hb dX7_hasSoundRights_9 ?_
    refine lv_goto (tgt := 19) hx hb dX7_hasSoundRights_10 (by decide) ?_
    exact t_X7_hasSoundRights_19 F hr hlocks hK hp hW hE (lv_sub hl [0, 1] rfl) hL_a0 hK_a0
set_option maxHeartbeats 4000000 in
set_option maxRecDepth 100000 in
theorem c_X7_hasSoundRights (l : Launch) {D : wD} {cy : Nat → ClassId} {X : va_W} {S0 : wS} {post : Int32 → wS → Prop} {a0 : Nat} {x1 : Int32} (hL_a0 : wM D S0 a0) (hK_a0 : sK S0 a0 = 12) (hp : wp_X7_hasSoundRights D post S0 a0 x1) : mI D cy X l yX7_hasSoundRights wz_X7_hasSoundRights r_X7_hasSoundRights [.ref a0, .int x1] S0 (fun r S9 => wX D S0 S9 ∧ post r S9) := by
  intro sz
  refine Met.ofW (cc := cX7_hasSoundRights) (maxL := 7) (ret := (some .boolean)) (by decide) rfl ?_
  intro p e s m args below meth c s₁ B hml hv
  obtain ⟨rfl, hsz, hP, hK, hD0, hRO⟩ := hv
  have hts := atoms_spec (ws := wz_X7_hasSoundRights) B.pre
  have hown : s.vm.findClass RX7 = some m.cls := findClass_of_methodNamed B.named
  subst hsz
  have hD := hD0.self (sz := s.heap.size)
  have F : CallFix p m c cX7_hasSoundRights 7 s _ wz_X7_hasSoundRights RX7 := ⟨B.exec, B.bytes, hml, hown, hts⟩
  have hr := B.returns
  have hlocks := B.notSynchronized
  generalize hAe : va_A (wL cy X S0) s.heap.size = A at hD hK ⊢
  have hA : ∀ q, s.heap.size ≤ q → A q := fun q h => by rw [← hAe]; exact Or.inr h
  have hW : wO D cy X A s.heap S0 s.heap [] := ⟨hP, hD, va_S.rf, hA, hRO⟩
  have hl := lv_entry ([.ref a0, .int x1]) (n := 7) (Nat.le_of_ble_eq_true rfl)
  rw [lg_entry_eq]
  generalize (lg_sl ([.ref a0, .int x1]) ++ List.replicate (7 - (lg_sl ([.ref a0, .int x1])).length) Slot.unset).toArray = ls at hl ⊢
  have hl : lv_has ls 7 [(0, .ref a0), (1, .int x1)] := hl
  unfold wp_X7_hasSoundRights at hp
  exact t_X7_hasSoundRights_0 F hr hlocks hK hp hW wX.rf (lv_sub hl [0, 1] rfl) hL_a0 hK_a0
def wp_X7_kingOf_45 (D : wD) (post : Int32 → wS → Prop)  (S : wS) (t0 : Int32) : Prop :=
post t0 S
def wp_X7_kingOf_24 (D : wD) (post : Int32 → wS → Prop)  (S : wS) (t0 : Int64) (t1 : Int64) : Prop :=
∀ x_1 : Int64, x_1 = (t0 &&& t1) →
((¬ (lg_cmp x_1 (0 : Int64)) = 0 → wp_J13_bitCount_95d88 D (fun r_3 S_4 => 
wp_X7_kingOf_45 D post S_4 r_3) S ((x_1 &&& (-x_1)) - (1 : Int64))) ∧
 ((lg_cmp x_1 (0 : Int64)) = 0 → wp_X7_kingOf_45 D post S (-1 : Int32)))
def wp_X7_kingOf_0 (D : wD) (post : Int32 → wS → Prop)  (S : wS) (a0 : Nat) (x1 : Int32) : Prop :=
wp_X7_ofKind D (fun r_1 S_2 => 
((x1 = 0 → wp_X7_kingOf_24 D post S_2 r_1 ((sJ S_2 a0 1) ^^^ (-1 : Int64))) ∧
 (¬ x1 = 0 → wp_X7_kingOf_24 D post S_2 r_1 (sJ S_2 a0 1)))) S a0 (1 : Int32)
abbrev r_X7_kingOf : Room := { frames := 1, cells := 0, slots := 0, locals := 23 }
def wp_X7_kingOf (D : wD) (post : Int32 → wS → Prop) (S : wS) (a0 : Nat) (x1 : Int32) : Prop := wp_X7_kingOf_0 D post S a0 x1
set_option maxHeartbeats 4000000 in
set_option maxRecDepth 100000 in
theorem t_X7_kingOf_45 {p : Program} {l : Launch} {e : Env} {s : State} {m : MethodId} {args : Array Value} {below : List Frame} {meth : Method} {c : Code} {D : wD} {cy : Nat → ClassId} {X : va_W} {A : Nat → Prop} {S0 : wS} {post : Int32 → wS → Prop} (F : CallFix p m c cX7_kingOf 4 s args wz_X7_kingOf RX7) (hr : meth.sig.returnType = (some .int)) (hlocks : meth.locks = false) (hK : wK D cy A s) : ∀ {S : wS} {H : Heap} {locs : List Loc} {ls : Array Slot} {t0 : Int32}, wp_X7_kingOf_45 D post S t0 → wO D cy X A s.heap S H locs → wX D S0 S → lv_has ls 4 [] → W p l e r_X7_kingOf s m args below meth c H locs 0 0 (MQ below (va_Qi (fun r S9 => wX D S0 S9 ∧ post r S9) (wB D cy X A) A) args s 0 0 A) (F0 m 45 ls [.int t0]) := by
  obtain ⟨hx, hb, hml, hown, hts⟩ := id F
  have hwg : ∀ w ∈ WG, w.before args s = true := fun w h => hts w (List.mem_cons_of_mem _ h)
  intro S H locs ls t0 hp hW hE hl
  unfold wp_X7_kingOf_45 at hp
  exact w_iret hx hb hr hlocks hW ⟨hE, hp⟩ dX7_kingOf_45
set_option maxHeartbeats 4000000 in
set_option maxRecDepth 100000 in
theorem t_X7_kingOf_24 {p : Program} {l : Launch} {e : Env} {s : State} {m : MethodId} {args : Array Value} {below : List Frame} {meth : Method} {c : Code} {D : wD} {cy : Nat → ClassId} {X : va_W} {A : Nat → Prop} {S0 : wS} {post : Int32 → wS → Prop} (F : CallFix p m c cX7_kingOf 4 s args wz_X7_kingOf RX7) (hr : meth.sig.returnType = (some .int)) (hlocks : meth.locks = false) (hK : wK D cy A s) : ∀ {S : wS} {H : Heap} {locs : List Loc} {ls : Array Slot} {t0 : Int64} {t1 : Int64}, wp_X7_kingOf_24 D post S t0 t1 → wO D cy X A s.heap S H locs → wX D S0 S → lv_has ls 4 [] → W p l e r_X7_kingOf s m args below meth c H locs 0 0 (MQ below (va_Qi (fun r S9 => wX D S0 S9 ∧ post r S9) (wB D cy X A) A) args s 0 0 A) (F0 m 24 ls [.long t1, .long t0]) := by
  obtain ⟨hx, hb, hml, hown, hts⟩ := id F
  have hwg : ∀ w ∈ WG, w.before args s = true := fun w h => hts w (List.mem_cons_of_mem _ h)
  intro S H locs ls t0 t1 hp hW hE hl
  unfold wp_X7_kingOf_24 at hp
  refine lv_land hx hb dX7_kingOf_24 ?_
  refine lv_topl (fun x_1 ex_1 => ?_)
  replace hp := hp x_1 ex_1
  refine lv_lstore_n (lv' := [(2, .long x_1)]) hx hb dX7_kingOf_25 rfl hl (by decide) rfl (fun ls hl => ?_)
  refine lv_lload_n hx hb dX7_kingOf_26 rfl (lv_at hl 0 rfl) ?_
  refine lv_lconst (v := 0) hx hb dX7_kingOf_27 (by decide) ?_
  refine W.lcmp hx hb dX7_kingOf_28 ?_
  refine lv_if_ne (tgt := 36) hx hb dX7_kingOf_29 (by decide) (fun c_2 => ?_) (fun c_2 => ?_)
  · replace hp := hp.1 c_2
    refine lv_lload_n hx hb dX7_kingOf_36 rfl (lv_at hl 0 rfl) ?_
    refine lv_lload_n hx hb dX7_kingOf_37 rfl (lv_at hl 0 rfl) ?_
    refine lv_lneg hx hb dX7_kingOf_38 ?_
    refine lv_land hx hb dX7_kingOf_39 ?_
    refine lv_lconst (v := 1) hx hb dX7_kingOf_40 (by decide) ?_
    refine lv_lsub hx hb dX7_kingOf_41 ?_
    refine w_callI (va_runS (As := [.long ((x_1 &&& (-x_1)) - (1 : Int64))]) (rest := []) F (c_J13_bitCount_95d88 l hp H.size) (va_cwS 1 hts (wg_S wm_RX7_87 wy_J13_bitCount_95d88) rfl rfl rfl (by decide +kernel) ⟨Nat.le_of_ble_eq_true rfl, Nat.le_of_ble_eq_true rfl⟩) (w_preS hK hW) rfl rfl hl.1 rfl (lv_room (Nat.le_of_ble_eq_true rfl)) dX7_kingOf_42 ⟨Nat.le_of_ble_eq_true rfl, Nat.le_of_ble_eq_true rfl⟩) hW (fun r_3 S_4 H locs hp hW => ?_)
    obtain ⟨hX_S_4, hp⟩ := hp
    refine W.widen (k := 0) (n := 0) (by decide) (by decide) ?_
    have hE := hE.trans hX_S_4
    exact t_X7_kingOf_45 F hr hlocks hK hp hW hE (lv_sub hl [] rfl)
  · replace hp := hp.2 c_2
    refine lv_iconst (v := (-1)) hx hb dX7_kingOf_32 (by decide) ?_
    refine lv_goto (tgt := 45) hx hb dX7_kingOf_33 (by decide) ?_
    exact t_X7_kingOf_45 F hr hlocks hK hp hW hE (lv_sub hl [] rfl)
set_option maxHeartbeats 4000000 in
set_option maxRecDepth 100000 in
theorem t_X7_kingOf_0 {p : Program} {l : Launch} {e : Env} {s : State} {m : MethodId} {args : Array Value} {below : List Frame} {meth : Method} {c : Code} {D : wD} {cy : Nat → ClassId} {X : va_W} {A : Nat → Prop} {S0 : wS} {post : Int32 → wS → Prop} (F : CallFix p m c cX7_kingOf 4 s args wz_X7_kingOf RX7) (hr : meth.sig.returnType = (some .int)) (hlocks : meth.locks = false) (hK : wK D cy A s) : ∀ {S : wS} {H : Heap} {locs : List Loc} {ls : Array Slot} {a0 : Nat} {x1 : Int32}, wp_X7_kingOf_0 D post S a0 x1 → wO D cy X A s.heap S H locs → wX D S0 S → lv_has ls 4 [(0, .ref a0), (1, .int x1)] → wM D S a0 → sK S a0 = 12 → W p l e r_X7_kingOf s m args below meth c H locs 0 0 (MQ below (va_Qi (fun r S9 => wX D S0 S9 ∧ post r S9) (wB D cy X A) A) args s 0 0 A) (F0 m 0 ls []) := by
  obtain ⟨hx, hb, hml, hown, hts⟩ := id F
  have hwg : ∀ w ∈ WG, w.before args s = true := fun w h => hts w (List.mem_cons_of_mem _ h)
  have i_12 : ∀ w ∈ u_ws RX7 TX7 8, w ∈ wz_X7_kingOf := fun w h => List.mem_cons_of_mem _ (wu_12 w h)
  have k_9 := hwg _ wf_RX7_9
  intro S H locs ls a0 x1 hp hW hE hl hL_a0 hK_a0
  unfold wp_X7_kingOf_0 at hp
  refine lv_aload_n hx hb dX7_kingOf_0 rfl (lv_at hl 0 rfl) ?_
  refine lv_iconst (v := 1) hx hb dX7_kingOf_1 (by decide) ?_
  refine w_callJ (va_runV (As := [.int (1 : Int32)]) (rest := []) F (c_X7_ofKind l hL_a0 hK_a0 hp H.size) (cwV (C := RX7) 1 hts (wg_V wm_RX7_83 wy_X7_ofKind) rfl rfl rfl (by decide +kernel) ⟨Nat.le_of_ble_eq_true rfl, Nat.le_of_ble_eq_true rfl⟩) (w_preV hK hW hL_a0 hK_a0 (by decide) rfl) rfl rfl hl.1 rfl (lv_room (Nat.le_of_ble_eq_true rfl)) dX7_kingOf_2 ⟨Nat.le_of_ble_eq_true rfl, Nat.le_of_ble_eq_true rfl⟩) hW (fun r_1 S_2 H locs hp hW => ?_)
  obtain ⟨hX_S_2, hp⟩ := hp
  refine W.widen (k := 0) (n := 0) (by decide) (by decide) ?_
  have hE := hE.trans hX_S_2
  have hK_a0 : sK S_2 a0 = 12 := (hX_S_2.2 a0 hL_a0).1.trans hK_a0
  have hL_a0 : wM D S_2 a0 := hX_S_2.M hL_a0
  refine lv_iload_n hx hb dX7_kingOf_5 rfl (lv_at hl 1 rfl) ?_
  refine lv_if_eq (tgt := 16) hx hb dX7_kingOf_6 (by decide) (fun c_3 => ?_) (fun c_3 => ?_)
  · replace hp := hp.1 c_3
    refine lv_aload_n hx hb dX7_kingOf_16 rfl (lv_at hl 0 rfl) ?_
    refine w_get (k := 12) (f := 1) (T := TX7) (v := .long (sJ S_2 a0 1)) F hK hW hL_a0 hK_a0 (by decide) rfl rfl (by decide) i_12 k_9 rfl dX7_kingOf_17 ?_
    refine lv_ldc2 (v := (-1)) hx hb hown (hwg _ wJ_RX7_70) dX7_kingOf_20 ?_
    refine lv_lxor hx hb dX7_kingOf_23 ?_
    exact t_X7_kingOf_24 F hr hlocks hK hp hW hE (lv_sub hl [] rfl)
  · replace hp := hp.2 c_3
    refine lv_aload_n hx hb dX7_kingOf_9 rfl (lv_at hl 0 rfl) ?_
    refine w_get (k := 12) (f := 1) (T := TX7) (v := .long (sJ S_2 a0 1)) F hK hW hL_a0 hK_a0 (by decide) rfl rfl (by decide) i_12 k_9 rfl dX7_kingOf_10 ?_
    refine lv_goto (tgt := 24) hx hb dX7_kingOf_13 (by decide) ?_
    exact t_X7_kingOf_24 F hr hlocks hK hp hW hE (lv_sub hl [] rfl)
set_option maxHeartbeats 4000000 in
set_option maxRecDepth 100000 in
theorem c_X7_kingOf (l : Launch) {D : wD} {cy : Nat → ClassId} {X : va_W} {S0 : wS} {post : Int32 → wS → Prop} {a0 : Nat} {x1 : Int32} (hL_a0 : wM D S0 a0) (hK_a0 : sK S0 a0 = 12) (hp : wp_X7_kingOf D post S0 a0 x1) : mI D cy X l yX7_kingOf wz_X7_kingOf r_X7_kingOf [.ref a0, .int x1] S0 (fun r S9 => wX D S0 S9 ∧ post r S9) := by
  intro sz
  refine Met.ofW (cc := cX7_kingOf) (maxL := 4) (ret := (some .int)) (by decide) rfl ?_
  intro p e s m args below meth c s₁ B hml hv
  obtain ⟨rfl, hsz, hP, hK, hD0, hRO⟩ := hv
  have hts := atoms_spec (ws := wz_X7_kingOf) B.pre
  have hown : s.vm.findClass RX7 = some m.cls := findClass_of_methodNamed B.named
  subst hsz
  have hD := hD0.self (sz := s.heap.size)
  have F : CallFix p m c cX7_kingOf 4 s _ wz_X7_kingOf RX7 := ⟨B.exec, B.bytes, hml, hown, hts⟩
  have hr := B.returns
  have hlocks := B.notSynchronized
  generalize hAe : va_A (wL cy X S0) s.heap.size = A at hD hK ⊢
  have hA : ∀ q, s.heap.size ≤ q → A q := fun q h => by rw [← hAe]; exact Or.inr h
  have hW : wO D cy X A s.heap S0 s.heap [] := ⟨hP, hD, va_S.rf, hA, hRO⟩
  have hl := lv_entry ([.ref a0, .int x1]) (n := 4) (Nat.le_of_ble_eq_true rfl)
  rw [lg_entry_eq]
  generalize (lg_sl ([.ref a0, .int x1]) ++ List.replicate (4 - (lg_sl ([.ref a0, .int x1])).length) Slot.unset).toArray = ls at hl ⊢
  have hl : lv_has ls 4 [(0, .ref a0), (1, .int x1)] := hl
  unfold wp_X7_kingOf at hp
  exact t_X7_kingOf_0 F hr hlocks hK hp hW wX.rf (lv_sub hl [0, 1] rfl) hL_a0 hK_a0
def wp_X7_occupied_0 (D : wD) (post : Int64 → wS → Prop)  (S : wS) (a0 : Nat) : Prop :=
post (((sJ S a0 2) ||| (sJ S a0 3)) ||| (sJ S a0 4)) S
abbrev r_X7_occupied : Room := { frames := 0, cells := 0, slots := 0, locals := 0 }
def wp_X7_occupied (D : wD) (post : Int64 → wS → Prop) (S : wS) (a0 : Nat) : Prop := wp_X7_occupied_0 D post S a0
set_option maxHeartbeats 4000000 in
set_option maxRecDepth 100000 in
theorem t_X7_occupied_0 {p : Program} {l : Launch} {e : Env} {s : State} {m : MethodId} {args : Array Value} {below : List Frame} {meth : Method} {c : Code} {D : wD} {cy : Nat → ClassId} {X : va_W} {A : Nat → Prop} {S0 : wS} {post : Int64 → wS → Prop} (F : CallFix p m c cX7_occupied 1 s args wz_X7_occupied RX7) (hr : meth.sig.returnType = (some .long)) (hlocks : meth.locks = false) (hK : wK D cy A s) : ∀ {S : wS} {H : Heap} {locs : List Loc} {ls : Array Slot} {a0 : Nat}, wp_X7_occupied_0 D post S a0 → wO D cy X A s.heap S H locs → wX D S0 S → lv_has ls 1 [(0, .ref a0)] → wM D S a0 → sK S a0 = 12 → W p l e r_X7_occupied s m args below meth c H locs 0 0 (MQ below (va_Ql (fun r S9 => wX D S0 S9 ∧ post r S9) (wB D cy X A) A) args s 0 0 A) (F0 m 0 ls []) := by
  obtain ⟨hx, hb, hml, hown, hts⟩ := id F
  have hwg : ∀ w ∈ WG, w.before args s = true := fun w h => hts w (List.mem_cons_of_mem _ h)
  have i_12 : ∀ w ∈ u_ws RX7 TX7 8, w ∈ wz_X7_occupied := fun w h => List.mem_cons_of_mem _ (wu_12 w h)
  have k_15 := hwg _ wf_RX7_15
  have k_18 := hwg _ wf_RX7_18
  have k_21 := hwg _ wf_RX7_21
  intro S H locs ls a0 hp hW hE hl hL_a0 hK_a0
  unfold wp_X7_occupied_0 at hp
  refine lv_aload_n hx hb dX7_occupied_0 rfl (lv_at hl 0 rfl) ?_
  refine w_get (k := 12) (f := 2) (T := TX7) (v := .long (sJ S a0 2)) F hK hW hL_a0 hK_a0 (by decide) rfl rfl (by decide) i_12 k_15 rfl dX7_occupied_1 ?_
  refine lv_aload_n hx hb dX7_occupied_4 rfl (lv_at hl 0 rfl) ?_
  refine w_get (k := 12) (f := 3) (T := TX7) (v := .long (sJ S a0 3)) F hK hW hL_a0 hK_a0 (by decide) rfl rfl (by decide) i_12 k_18 rfl dX7_occupied_5 ?_
  refine lv_lor hx hb dX7_occupied_8 ?_
  refine lv_aload_n hx hb dX7_occupied_9 rfl (lv_at hl 0 rfl) ?_
  refine w_get (k := 12) (f := 4) (T := TX7) (v := .long (sJ S a0 4)) F hK hW hL_a0 hK_a0 (by decide) rfl rfl (by decide) i_12 k_21 rfl dX7_occupied_10 ?_
  refine lv_lor hx hb dX7_occupied_13 ?_
  exact w_lret hx hb hr hlocks hW ⟨hE, hp⟩ dX7_occupied_14
set_option maxHeartbeats 4000000 in
set_option maxRecDepth 100000 in
theorem c_X7_occupied (l : Launch) {D : wD} {cy : Nat → ClassId} {X : va_W} {S0 : wS} {post : Int64 → wS → Prop} {a0 : Nat} (hL_a0 : wM D S0 a0) (hK_a0 : sK S0 a0 = 12) (hp : wp_X7_occupied D post S0 a0) : mJ D cy X l yX7_occupied wz_X7_occupied r_X7_occupied [.ref a0] S0 (fun r S9 => wX D S0 S9 ∧ post r S9) := by
  intro sz
  refine Met.ofW (cc := cX7_occupied) (maxL := 1) (ret := (some .long)) (by decide) rfl ?_
  intro p e s m args below meth c s₁ B hml hv
  obtain ⟨rfl, hsz, hP, hK, hD0, hRO⟩ := hv
  have hts := atoms_spec (ws := wz_X7_occupied) B.pre
  have hown : s.vm.findClass RX7 = some m.cls := findClass_of_methodNamed B.named
  subst hsz
  have hD := hD0.self (sz := s.heap.size)
  have F : CallFix p m c cX7_occupied 1 s _ wz_X7_occupied RX7 := ⟨B.exec, B.bytes, hml, hown, hts⟩
  have hr := B.returns
  have hlocks := B.notSynchronized
  generalize hAe : va_A (wL cy X S0) s.heap.size = A at hD hK ⊢
  have hA : ∀ q, s.heap.size ≤ q → A q := fun q h => by rw [← hAe]; exact Or.inr h
  have hW : wO D cy X A s.heap S0 s.heap [] := ⟨hP, hD, va_S.rf, hA, hRO⟩
  have hl := lv_entry ([.ref a0]) (n := 1) (Nat.le_of_ble_eq_true rfl)
  rw [lg_entry_eq]
  generalize (lg_sl ([.ref a0]) ++ List.replicate (1 - (lg_sl ([.ref a0])).length) Slot.unset).toArray = ls at hl ⊢
  have hl : lv_has ls 1 [(0, .ref a0)] := hl
  unfold wp_X7_occupied at hp
  exact t_X7_occupied_0 F hr hlocks hK hp hW wX.rf (lv_sub hl [0] rfl) hL_a0 hK_a0
def wp_X7_isLawful_115 (D : wD) (post : Int32 → wS → Prop)  (S : wS) (t0 : Int32) : Prop :=
narrow .boolean (.int t0) = .int t0 ∧ post t0 S
def wp_X7_isLawful_114 (D : wD) (post : Int32 → wS → Prop)  (S : wS) : Prop :=
wp_X7_isLawful_115 D post S (0 : Int32)
def wp_X7_isLawful_73 (D : wD) (post : Int32 → wS → Prop)  (S : wS) (a0 : Nat) (b0 : Nat) (b1 : Nat) (t2 : Int32) : Prop :=
wp_X7_kingOf D (fun r_1 S_2 => 
wp_X7_occupied D (fun r_3 S_4 => 
wp_X7_attackers D (fun r_5 S_6 => 
(((lg_cmp r_5 (0 : Int64)) = 0 → wp_X7_hasSoundRights D (fun r_8 S_9 => 
((r_8 = 0 → wp_X7_isLawful_114 D post S_9) ∧
 (¬ r_8 = 0 → wp_X7_hasSoundRights D (fun r_11 S_12 => 
((r_11 = 0 → wp_X7_isLawful_114 D post S_12) ∧
 (¬ r_11 = 0 → wp_X7_isLawful_115 D post S_12 (1 : Int32)))) S_9 a0 (0 : Int32)))) S_6 a0 (1 : Int32)) ∧
 (¬ (lg_cmp r_5 (0 : Int64)) = 0 → narrow .boolean (.int (0 : Int32)) = .int (0 : Int32) ∧ post (0 : Int32) S_6))) S_4 b0 r_1 (sI S_2 a0 5) r_3) S_2 a0) S b1 t2
def wp_X7_isLawful_36 (D : wD) (post : Int32 → wS → Prop)  (S : wS) : Prop :=
narrow .boolean (.int (0 : Int32)) = .int (0 : Int32) ∧ post (0 : Int32) S
def wp_X7_isLawful_0 (D : wD) (post : Int32 → wS → Prop)  (S : wS) (a0 : Nat) : Prop :=
wp_X7_ofKind D (fun r_1 S_2 => 
wp_J13_bitCount_95d88 D (fun r_3 S_4 => 
((¬ r_3 = (1 : Int32) → wp_X7_isLawful_36 D post S_4) ∧
 (r_3 = (1 : Int32) → wp_J13_bitCount_95d88 D (fun r_6 S_7 => 
((r_6 = (1 : Int32) → wp_X7_ofKind D (fun r_9 S_10 => 
∃ y_11 : Nat, sR S_10 a0 0 = some y_11 ∧ wM D S_10 y_11 ∧ sK S_10 y_11 = 5 ∧
(((lg_cmp (r_9 &&& (sJ S_10 y_11 3)) (0 : Int64)) = 0 → ((¬ (sI S_10 a0 5) = 0 → wp_X7_isLawful_73 D post S_10 a0 a0 a0 (0 : Int32)) ∧
 ((sI S_10 a0 5) = 0 → wp_X7_isLawful_73 D post S_10 a0 a0 a0 (1 : Int32)))) ∧
 (¬ (lg_cmp (r_9 &&& (sJ S_10 y_11 3)) (0 : Int64)) = 0 → narrow .boolean (.int (0 : Int32)) = .int (0 : Int32) ∧ post (0 : Int32) S_10))) S_7 a0 (6 : Int32)) ∧
 (¬ r_6 = (1 : Int32) → wp_X7_isLawful_36 D post S_7))) S_4 (r_1 &&& ((sJ S_4 a0 1) ^^^ (-1 : Int64)))))) S_2 (r_1 &&& (sJ S_2 a0 1))) S a0 (1 : Int32)
abbrev r_X7_isLawful : Room := { frames := 3, cells := 0, slots := 0, locals := 70 }
def wp_X7_isLawful (D : wD) (post : Int32 → wS → Prop) (S : wS) (a0 : Nat) : Prop := wp_X7_isLawful_0 D post S a0
set_option maxHeartbeats 4000000 in
set_option maxRecDepth 100000 in
theorem t_X7_isLawful_115 {p : Program} {l : Launch} {e : Env} {s : State} {m : MethodId} {args : Array Value} {below : List Frame} {meth : Method} {c : Code} {D : wD} {cy : Nat → ClassId} {X : va_W} {A : Nat → Prop} {S0 : wS} {post : Int32 → wS → Prop} (F : CallFix p m c cX7_isLawful 3 s args wz_X7_isLawful RX7) (hr : meth.sig.returnType = (some .boolean)) (hlocks : meth.locks = false) (hK : wK D cy A s) : ∀ {S : wS} {H : Heap} {locs : List Loc} {ls : Array Slot} {t0 : Int32}, wp_X7_isLawful_115 D post S t0 → wO D cy X A s.heap S H locs → wX D S0 S → lv_has ls 3 [] → W p l e r_X7_isLawful s m args below meth c H locs 0 0 (MQ below (va_Qi (fun r S9 => wX D S0 S9 ∧ post r S9) (wB D cy X A) A) args s 0 0 A) (F0 m 115 ls [.int t0]) := by
  obtain ⟨hx, hb, hml, hown, hts⟩ := id F
  have hwg : ∀ w ∈ WG, w.before args s = true := fun w h => hts w (List.mem_cons_of_mem _ h)
  intro S H locs ls t0 hp hW hE hl
  unfold wp_X7_isLawful_115 at hp
  exact w_zret hx hb hr hlocks hW hp.1 ⟨hE, hp.2⟩ dX7_isLawful_115
set_option maxHeartbeats 4000000 in
set_option maxRecDepth 100000 in
theorem t_X7_isLawful_114 {p : Program} {l : Launch} {e : Env} {s : State} {m : MethodId} {args : Array Value} {below : List Frame} {meth : Method} {c : Code} {D : wD} {cy : Nat → ClassId} {X : va_W} {A : Nat → Prop} {S0 : wS} {post : Int32 → wS → Prop} (F : CallFix p m c cX7_isLawful 3 s args wz_X7_isLawful RX7) (hr : meth.sig.returnType = (some .boolean)) (hlocks : meth.locks = false) (hK : wK D cy A s) : ∀ {S : wS} {H : Heap} {locs : List Loc} {ls : Array Slot}, wp_X7_isLawful_114 D post S → wO D cy X A s.heap S H locs → wX D S0 S → lv_has ls 3 [] → W p l e r_X7_isLawful s m args below meth c H locs 0 0 (MQ below (va_Qi (fun r S9 => wX D S0 S9 ∧ post r S9) (wB D cy X A) A) args s 0 0 A) (F0 m 114 ls []) := by
  obtain ⟨hx, hb, hml, hown, hts⟩ := id F
  have hwg : ∀ w ∈ WG, w.before args s = true := fun w h => hts w (List.mem_cons_of_mem _ h)
  intro S H locs ls hp hW hE hl
  unfold wp_X7_isLawful_114 at hp
  refine lv_iconst (v := 0) hx hb dX7_isLawful_114 (by decide) ?_
  exact t_X7_isLawful_115 F hr hlocks hK hp hW hE (lv_sub hl [] rfl)
set_option maxHeartbeats 4000000 in
set_option maxRecDepth 100000 in
theorem t_X7_isLawful_73 {p : Program} {l : Launch} {e : Env} {s : State} {m : MethodId} {args : Array Value} {below : List Frame} {meth : Method} {c : Code} {D : wD} {cy : Nat → ClassId} {X : va_W} {A : Nat → Prop} {S0 : wS} {post : Int32 → wS → Prop} (F : CallFix p m c cX7_isLawful 3 s args wz_X7_isLawful RX7) (hr : meth.sig.returnType = (some .boolean)) (hlocks : meth.locks = false) (hK : wK D cy A s) : ∀ {S : wS} {H : Heap} {locs : List Loc} {ls : Array Slot} {a0 : Nat} {b0 : Nat} {b1 : Nat} {t2 : Int32}, wp_X7_isLawful_73 D post S a0 b0 b1 t2 → wO D cy X A s.heap S H locs → wX D S0 S → lv_has ls 3 [(0, .ref a0)] → wM D S a0 → sK S a0 = 12 → wM D S b0 → sK S b0 = 12 → wM D S b1 → sK S b1 = 12 → W p l e r_X7_isLawful s m args below meth c H locs 0 0 (MQ below (va_Qi (fun r S9 => wX D S0 S9 ∧ post r S9) (wB D cy X A) A) args s 0 0 A) (F0 m 73 ls [.int t2, .ref b1, .ref b0]) := by
  obtain ⟨hx, hb, hml, hown, hts⟩ := id F
  have hwg : ∀ w ∈ WG, w.before args s = true := fun w h => hts w (List.mem_cons_of_mem _ h)
  have i_12 : ∀ w ∈ u_ws RX7 TX7 8, w ∈ wz_X7_isLawful := fun w h => List.mem_cons_of_mem _ (wu_12 w h)
  have k_24 := hwg _ wf_RX7_24
  intro S H locs ls a0 b0 b1 t2 hp hW hE hl hL_a0 hK_a0 hL_b0 hK_b0 hL_b1 hK_b1
  unfold wp_X7_isLawful_73 at hp
  refine w_callI (va_runV (As := [.int t2]) (rest := [.ref b0]) F (c_X7_kingOf l hL_b1 hK_b1 hp H.size) (cwV (C := RX7) 1 hts (wg_V wm_RX7_118 wy_X7_kingOf) rfl rfl rfl (by decide +kernel) ⟨Nat.le_of_ble_eq_true rfl, Nat.le_of_ble_eq_true rfl⟩) (w_preV hK hW hL_b1 hK_b1 (by decide) rfl) rfl rfl hl.1 rfl (lv_room (Nat.le_of_ble_eq_true rfl)) dX7_isLawful_73 ⟨Nat.le_of_ble_eq_true rfl, Nat.le_of_ble_eq_true rfl⟩) hW (fun r_1 S_2 H locs hp hW => ?_)
  obtain ⟨hX_S_2, hp⟩ := hp
  refine W.widen (k := 0) (n := 0) (by decide) (by decide) ?_
  have hE := hE.trans hX_S_2
  have hK_a0 : sK S_2 a0 = 12 := (hX_S_2.2 a0 hL_a0).1.trans hK_a0
  have hL_a0 : wM D S_2 a0 := hX_S_2.M hL_a0
  have hK_b0 : sK S_2 b0 = 12 := (hX_S_2.2 b0 hL_b0).1.trans hK_b0
  have hL_b0 : wM D S_2 b0 := hX_S_2.M hL_b0
  refine lv_aload_n hx hb dX7_isLawful_76 rfl (lv_at hl 0 rfl) ?_
  refine w_get (k := 12) (f := 5) (T := TX7) (v := .int (sI S_2 a0 5)) F hK hW hL_a0 hK_a0 (by decide) rfl rfl (by decide) i_12 k_24 rfl dX7_isLawful_77 ?_
  refine lv_aload_n hx hb dX7_isLawful_80 rfl (lv_at hl 0 rfl) ?_
  refine w_callJ (va_runV (As := []) (rest := [.int (sI S_2 a0 5), .int r_1, .ref b0]) F (c_X7_occupied l hL_a0 hK_a0 hp H.size) (cwV (C := RX7) 0 hts (wg_V wm_RX7_122 wy_X7_occupied) rfl rfl rfl (by decide +kernel) ⟨Nat.le_of_ble_eq_true rfl, Nat.le_of_ble_eq_true rfl⟩) (w_preV hK hW hL_a0 hK_a0 (by decide) rfl) rfl rfl hl.1 rfl (lv_room (Nat.le_of_ble_eq_true rfl)) dX7_isLawful_81 ⟨Nat.le_of_ble_eq_true rfl, Nat.le_of_ble_eq_true rfl⟩) hW (fun r_3 S_4 H locs hp hW => ?_)
  obtain ⟨hX_S_4, hp⟩ := hp
  refine W.widen (k := 0) (n := 0) (by decide) (by decide) ?_
  have hE := hE.trans hX_S_4
  have hK_a0 : sK S_4 a0 = 12 := (hX_S_4.2 a0 hL_a0).1.trans hK_a0
  have hL_a0 : wM D S_4 a0 := hX_S_4.M hL_a0
  have hK_b0 : sK S_4 b0 = 12 := (hX_S_4.2 b0 hL_b0).1.trans hK_b0
  have hL_b0 : wM D S_4 b0 := hX_S_4.M hL_b0
  refine w_callJ (va_runV (As := [.int r_1, .int (sI S_2 a0 5), .long r_3]) (rest := []) F (c_X7_attackers l hL_b0 hK_b0 hp H.size) (cwV (C := RX7) 3 hts (wg_V wm_RX7_125 wy_X7_attackers) rfl rfl rfl (by decide +kernel) ⟨Nat.le_of_ble_eq_true rfl, Nat.le_of_ble_eq_true rfl⟩) (w_preV hK hW hL_b0 hK_b0 (by decide) rfl) rfl rfl hl.1 rfl (lv_room (Nat.le_of_ble_eq_true rfl)) dX7_isLawful_84 ⟨Nat.le_of_ble_eq_true rfl, Nat.le_of_ble_eq_true rfl⟩) hW (fun r_5 S_6 H locs hp hW => ?_)
  obtain ⟨hX_S_6, hp⟩ := hp
  refine W.widen (k := 0) (n := 0) (by decide) (by decide) ?_
  have hE := hE.trans hX_S_6
  have hK_a0 : sK S_6 a0 = 12 := (hX_S_6.2 a0 hL_a0).1.trans hK_a0
  have hL_a0 : wM D S_6 a0 := hX_S_6.M hL_a0
  refine lv_lconst (v := 0) hx hb dX7_isLawful_87 (by decide) ?_
  refine W.lcmp hx hb dX7_isLawful_88 ?_
  refine lv_if_eq (tgt := 94) hx hb dX7_isLawful_89 (by decide) (fun c_7 => ?_) (fun c_7 => ?_)
  · replace hp := hp.1 c_7
    refine lv_aload_n hx hb dX7_isLawful_94 rfl (lv_at hl 0 rfl) ?_
    refine lv_iconst (v := 1) hx hb dX7_isLawful_95 (by decide) ?_
    refine w_callI (va_runV (As := [.int (1 : Int32)]) (rest := []) F (c_X7_hasSoundRights l hL_a0 hK_a0 hp H.size) (cwV (C := RX7) 1 hts (wg_V wm_RX7_131 wy_X7_hasSoundRights) rfl rfl rfl (by decide +kernel) ⟨Nat.le_of_ble_eq_true rfl, Nat.le_of_ble_eq_true rfl⟩) (w_preV hK hW hL_a0 hK_a0 (by decide) rfl) rfl rfl hl.1 rfl (lv_room (Nat.le_of_ble_eq_true rfl)) dX7_isLawful_96 ⟨Nat.le_of_ble_eq_true rfl, Nat.le_of_ble_eq_true rfl⟩) hW (fun r_8 S_9 H locs hp hW => ?_)
    obtain ⟨hX_S_9, hp⟩ := hp
    refine W.widen (k := 0) (n := 0) (by decide) (by decide) ?_
    have hE := hE.trans hX_S_9
    have hK_a0 : sK S_9 a0 = 12 := (hX_S_9.2 a0 hL_a0).1.trans hK_a0
    have hL_a0 : wM D S_9 a0 := hX_S_9.M hL_a0
    refine lv_if_eq (tgt := 114) hx hb dX7_isLawful_99 (by decide) (fun c_10 => ?_) (fun c_10 => ?_)
    · replace hp := hp.1 c_10
      exact t_X7_isLawful_114 F hr hlocks hK hp hW hE (lv_sub hl [] rfl)
    · replace hp := hp.2 c_10
      refine lv_aload_n hx hb dX7_isLawful_102 rfl (lv_at hl 0 rfl) ?_
      refine lv_iconst (v := 0) hx hb dX7_isLawful_103 (by decide) ?_
      refine w_callI (va_runV (As := [.int (0 : Int32)]) (rest := []) F (c_X7_hasSoundRights l hL_a0 hK_a0 hp H.size) (cwV (C := RX7) 1 hts (wg_V wm_RX7_131 wy_X7_hasSoundRights) rfl rfl rfl (by decide +kernel) ⟨Nat.le_of_ble_eq_true rfl, Nat.le_of_ble_eq_true rfl⟩) (w_preV hK hW hL_a0 hK_a0 (by decide) rfl) rfl rfl hl.1 rfl (lv_room (Nat.le_of_ble_eq_true rfl)) dX7_isLawful_104 ⟨Nat.le_of_ble_eq_true rfl, Nat.le_of_ble_eq_true rfl⟩) hW (fun r_11 S_12 H locs hp hW => ?_)
      obtain ⟨hX_S_12, hp⟩ := hp
      refine W.widen (k := 0) (n := 0) (by decide) (by decide) ?_
      have hE := hE.trans hX_S_12
      have hK_a0 : sK S_12 a0 = 12 := (hX_S_12.2 a0 hL_a0).1.trans hK_a0
      have hL_a0 : wM D S_12 a0 := hX_S_12.M hL_a0
      refine lv_if_eq (tgt := 114) hx hb dX7_isLawful_107 (by decide) (fun c_13 => ?_) (fun c_13 => ?_)
      · replace hp := hp.1 c_13
        exact t_X7_isLawful_114 F hr hlocks hK hp hW hE (lv_sub hl [] rfl)
      · replace hp := hp.2 c_13
        refine lv_iconst (v := 1) hx hb dX7_isLawful_110 (by decide) ?_
        refine lv_goto (tgt := 115) hx hb dX7_isLawful_111 (by decide) ?_
        exact t_X7_isLawful_115 F hr hlocks hK hp hW hE (lv_sub hl [] rfl)
  · replace hp := hp.2 c_7
    refine lv_iconst (v := 0) hx hb dX7_isLawful_92 (by decide) ?_
    exact w_zret hx hb hr hlocks hW hp.1 ⟨hE, hp.2⟩ dX7_isLawful_93
set_option maxHeartbeats 4000000 in
set_option maxRecDepth 100000 in
theorem t_X7_isLawful_36 {p : Program} {l : Launch} {e : Env} {s : State} {m : MethodId} {args : Array Value} {below : List Frame} {meth : Method} {c : Code} {D : wD} {cy : Nat → ClassId} {X : va_W} {A : Nat → Prop} {S0 : wS} {post : Int32 → wS → Prop} (F : CallFix p m c cX7_isLawful 3 s args wz_X7_isLawful RX7) (hr : meth.sig.returnType = (some .boolean)) (hlocks : meth.locks = false) (hK : wK D cy A s) : ∀ {S : wS} {H : Heap} {locs : List Loc} {ls : Array Slot}, wp_X7_isLawful_36 D post S → wO D cy X A s.heap S H locs → wX D S0 S → lv_has ls 3 [] → W p l e r_X7_isLawful s m args below meth c H locs 0 0 (MQ below (va_Qi (fun r S9 => wX D S0 S9 ∧ post r S9) (wB D cy X A) A) args s 0 0 A) (F0 m 36 ls []) := by
  obtain ⟨hx, hb, hml, hown, hts⟩ := id F
  have hwg : ∀ w ∈ WG, w.before args s = true := fun w h => hts w (List.mem_cons_of_mem _ h)
  intro S H locs ls hp hW hE hl
  unfold wp_X7_isLawful_36 at hp
  refine lv_iconst (v := 0) hx hb dX7_isLawful_36 (by decide) ?_
  exact w_zret hx hb hr hlocks hW hp.1 ⟨hE, hp.2⟩ dX7_isLawful_37
set_option maxHeartbeats 4000000 in
set_option maxRecDepth 100000 in
theorem t_X7_isLawful_0 {p : Program} {l : Launch} {e : Env} {s : State} {m : MethodId} {args : Array Value} {below : List Frame} {meth : Method} {c : Code} {D : wD} {cy : Nat → ClassId} {X : va_W} {A : Nat → Prop} {S0 : wS} {post : Int32 → wS → Prop} (F : CallFix p m c cX7_isLawful 3 s args wz_X7_isLawful RX7) (hr : meth.sig.returnType = (some .boolean)) (hlocks : meth.locks = false) (hK : wK D cy A s) : ∀ {S : wS} {H : Heap} {locs : List Loc} {ls : Array Slot} {a0 : Nat}, wp_X7_isLawful_0 D post S a0 → wO D cy X A s.heap S H locs → wX D S0 S → lv_has ls 3 [(0, .ref a0)] → wM D S a0 → sK S a0 = 12 → W p l e r_X7_isLawful s m args below meth c H locs 0 0 (MQ below (va_Qi (fun r S9 => wX D S0 S9 ∧ post r S9) (wB D cy X A) A) args s 0 0 A) (F0 m 0 ls []) := by
  obtain ⟨hx, hb, hml, hown, hts⟩ := id F
  have hwg : ∀ w ∈ WG, w.before args s = true := fun w h => hts w (List.mem_cons_of_mem _ h)
  have i_12 : ∀ w ∈ u_ws RX7 TX7 8, w ∈ wz_X7_isLawful := fun w h => List.mem_cons_of_mem _ (wu_12 w h)
  have i_5 : ∀ w ∈ u_ws RX0 TX0 12, w ∈ wz_X7_isLawful := fun w h => List.mem_cons_of_mem _ (wu_5 w h)
  have k_24 := hwg _ wf_RX7_24
  have k_35 := hwg _ wf_RX7_35
  have k_9 := hwg _ wf_RX7_9
  intro S H locs ls a0 hp hW hE hl hL_a0 hK_a0
  unfold wp_X7_isLawful_0 at hp
  refine lv_aload_n hx hb dX7_isLawful_0 rfl (lv_at hl 0 rfl) ?_
  refine lv_iconst (v := 1) hx hb dX7_isLawful_1 (by decide) ?_
  refine w_callJ (va_runV (As := [.int (1 : Int32)]) (rest := []) F (c_X7_ofKind l hL_a0 hK_a0 hp H.size) (cwV (C := RX7) 1 hts (wg_V wm_RX7_83 wy_X7_ofKind) rfl rfl rfl (by decide +kernel) ⟨Nat.le_of_ble_eq_true rfl, Nat.le_of_ble_eq_true rfl⟩) (w_preV hK hW hL_a0 hK_a0 (by decide) rfl) rfl rfl hl.1 rfl (lv_room (Nat.le_of_ble_eq_true rfl)) dX7_isLawful_2 ⟨Nat.le_of_ble_eq_true rfl, Nat.le_of_ble_eq_true rfl⟩) hW (fun r_1 S_2 H locs hp hW => ?_)
  obtain ⟨hX_S_2, hp⟩ := hp
  refine W.widen (k := 0) (n := 0) (by decide) (by decide) ?_
  have hE := hE.trans hX_S_2
  have hK_a0 : sK S_2 a0 = 12 := (hX_S_2.2 a0 hL_a0).1.trans hK_a0
  have hL_a0 : wM D S_2 a0 := hX_S_2.M hL_a0
  refine lv_lstore_n (lv' := [(1, .long r_1), (0, .ref a0)]) hx hb dX7_isLawful_5 rfl hl (by decide) rfl (fun ls hl => ?_)
  refine lv_lload_n hx hb dX7_isLawful_6 rfl (lv_at hl 0 rfl) ?_
  refine lv_aload_n hx hb dX7_isLawful_7 rfl (lv_at hl 1 rfl) ?_
  refine w_get (k := 12) (f := 1) (T := TX7) (v := .long (sJ S_2 a0 1)) F hK hW hL_a0 hK_a0 (by decide) rfl rfl (by decide) i_12 k_9 rfl dX7_isLawful_8 ?_
  refine lv_land hx hb dX7_isLawful_11 ?_
  refine w_callI (va_runS (As := [.long (r_1 &&& (sJ S_2 a0 1))]) (rest := []) F (c_J13_bitCount_95d88 l hp H.size) (va_cwS 1 hts (wg_S wm_RX7_87 wy_J13_bitCount_95d88) rfl rfl rfl (by decide +kernel) ⟨Nat.le_of_ble_eq_true rfl, Nat.le_of_ble_eq_true rfl⟩) (w_preS hK hW) rfl rfl hl.1 rfl (lv_room (Nat.le_of_ble_eq_true rfl)) dX7_isLawful_12 ⟨Nat.le_of_ble_eq_true rfl, Nat.le_of_ble_eq_true rfl⟩) hW (fun r_3 S_4 H locs hp hW => ?_)
  obtain ⟨hX_S_4, hp⟩ := hp
  refine W.widen (k := 0) (n := 0) (by decide) (by decide) ?_
  have hE := hE.trans hX_S_4
  have hK_a0 : sK S_4 a0 = 12 := (hX_S_4.2 a0 hL_a0).1.trans hK_a0
  have hL_a0 : wM D S_4 a0 := hX_S_4.M hL_a0
  refine lv_iconst (v := 1) hx hb dX7_isLawful_15 (by decide) ?_
  refine lv_icmp_ne (tgt := 36) hx hb dX7_isLawful_16 (by decide) (fun c_5 => ?_) (fun c_5 => ?_)
  · replace hp := hp.1 c_5
    exact t_X7_isLawful_36 F hr hlocks hK hp hW hE (lv_sub hl [] rfl)
  · replace hp := hp.2 c_5
    refine lv_lload_n hx hb dX7_isLawful_19 rfl (lv_at hl 0 rfl) ?_
    refine lv_aload_n hx hb dX7_isLawful_20 rfl (lv_at hl 1 rfl) ?_
    refine w_get (k := 12) (f := 1) (T := TX7) (v := .long (sJ S_4 a0 1)) F hK hW hL_a0 hK_a0 (by decide) rfl rfl (by decide) i_12 k_9 rfl dX7_isLawful_21 ?_
    refine lv_ldc2 (v := (-1)) hx hb hown (hwg _ wJ_RX7_70) dX7_isLawful_24 ?_
    refine lv_lxor hx hb dX7_isLawful_27 ?_
    refine lv_land hx hb dX7_isLawful_28 ?_
    refine w_callI (va_runS (As := [.long (r_1 &&& ((sJ S_4 a0 1) ^^^ (-1 : Int64)))]) (rest := []) F (c_J13_bitCount_95d88 l hp H.size) (va_cwS 1 hts (wg_S wm_RX7_87 wy_J13_bitCount_95d88) rfl rfl rfl (by decide +kernel) ⟨Nat.le_of_ble_eq_true rfl, Nat.le_of_ble_eq_true rfl⟩) (w_preS hK hW) rfl rfl hl.1 rfl (lv_room (Nat.le_of_ble_eq_true rfl)) dX7_isLawful_29 ⟨Nat.le_of_ble_eq_true rfl, Nat.le_of_ble_eq_true rfl⟩) hW (fun r_6 S_7 H locs hp hW => ?_)
    obtain ⟨hX_S_7, hp⟩ := hp
    refine W.widen (k := 0) (n := 0) (by decide) (by decide) ?_
    have hE := hE.trans hX_S_7
    have hK_a0 : sK S_7 a0 = 12 := (hX_S_7.2 a0 hL_a0).1.trans hK_a0
    have hL_a0 : wM D S_7 a0 := hX_S_7.M hL_a0
    refine lv_iconst (v := 1) hx hb dX7_isLawful_32 (by decide) ?_
    refine lv_icmp_eq (tgt := 38) hx hb dX7_isLawful_33 (by decide) (fun c_8 => ?_) (fun c_8 => ?_)
    · replace hp := hp.1 c_8
      refine lv_aload_n hx hb dX7_isLawful_38 rfl (lv_at hl 1 rfl) ?_
      refine lv_bipush (v := 6) hx hb dX7_isLawful_39 (by decide) ?_
      refine w_callJ (va_runV (As := [.int (6 : Int32)]) (rest := []) F (c_X7_ofKind l hL_a0 hK_a0 hp H.size) (cwV (C := RX7) 1 hts (wg_V wm_RX7_83 wy_X7_ofKind) rfl rfl rfl (by decide +kernel) ⟨Nat.le_of_ble_eq_true rfl, Nat.le_of_ble_eq_true rfl⟩) (w_preV hK hW hL_a0 hK_a0 (by decide) rfl) rfl rfl hl.1 rfl (lv_room (Nat.le_of_ble_eq_true rfl)) dX7_isLawful_41 ⟨Nat.le_of_ble_eq_true rfl, Nat.le_of_ble_eq_true rfl⟩) hW (fun r_9 S_10 H locs hp hW => ?_)
      obtain ⟨hX_S_10, hp⟩ := hp
      refine W.widen (k := 0) (n := 0) (by decide) (by decide) ?_
      have hE := hE.trans hX_S_10
      have hK_a0 : sK S_10 a0 = 12 := (hX_S_10.2 a0 hL_a0).1.trans hK_a0
      have hL_a0 : wM D S_10 a0 := hX_S_10.M hL_a0
      refine lv_aload_n hx hb dX7_isLawful_44 rfl (lv_at hl 1 rfl) ?_
      obtain ⟨y_11, ey_11, hL_y_11, hK_y_11, hp⟩ := hp
      refine w_get (k := 12) (f := 0) (T := TX7) (v := .ref y_11) F hK hW hL_a0 hK_a0 (by decide) rfl rfl (by decide) i_12 k_35 (by rw [show wv 12 0 S_10 a0 = va_rf (sR S_10 a0 0) from rfl, ey_11]; rfl) dX7_isLawful_45 ?_
      refine w_getN (k := 5) (f := 3) (T := TX0) (v := .long (sJ S_10 y_11 3)) F hK hW hL_y_11 hK_y_11 (by decide) rfl rfl (by decide) i_5 (hK.2.1 (.fieldLinkNest "OpeningsCabinet$Position" 128 "OpeningsCabinet$Board" "edges" "J" "OpeningsCabinet") (by decide +kernel)) rfl dX7_isLawful_48 ?_
      refine lv_land hx hb dX7_isLawful_51 ?_
      refine lv_lconst (v := 0) hx hb dX7_isLawful_52 (by decide) ?_
      refine W.lcmp hx hb dX7_isLawful_53 ?_
      refine lv_if_eq (tgt := 59) hx hb dX7_isLawful_54 (by decide) (fun c_12 => ?_) (fun c_12 => ?_)
      · replace hp := hp.1 c_12
        refine lv_aload_n hx hb dX7_isLawful_59 rfl (lv_at hl 1 rfl) ?_
        refine lv_aload_n hx hb dX7_isLawful_60 rfl (lv_at hl 1 rfl) ?_
        refine lv_aload_n hx hb dX7_isLawful_61 rfl (lv_at hl 1 rfl) ?_
        refine w_get (k := 12) (f := 5) (T := TX7) (v := .int (sI S_10 a0 5)) F hK hW hL_a0 hK_a0 (by decide) rfl rfl (by decide) i_12 k_24 rfl dX7_isLawful_62 ?_
        refine lv_if_ne (tgt := 72) hx hb dX7_isLawful_65 (by decide) (fun c_13 => ?_) (fun c_13 => ?_)
        · replace hp := hp.1 c_13
          refine lv_iconst (v := 0) hx hb dX7_isLawful_72 (by decide) ?_
          exact t_X7_isLawful_73 F hr hlocks hK hp hW hE (lv_sub hl [1] rfl) hL_a0 hK_a0 hL_a0 hK_a0 hL_a0 hK_a0
        · replace hp := hp.2 c_13
          refine lv_iconst (v := 1) hx hb dX7_isLawful_68 (by decide) ?_
          refine lv_goto (tgt := 73) hx hb dX7_isLawful_69 (by decide) ?_
          exact t_X7_isLawful_73 F hr hlocks hK hp hW hE (lv_sub hl [1] rfl) hL_a0 hK_a0 hL_a0 hK_a0 hL_a0 hK_a0
      · replace hp := hp.2 c_12
        refine lv_iconst (v := 0) hx hb dX7_isLawful_57 (by decide) ?_
        exact w_zret hx hb hr hlocks hW hp.1 ⟨hE, hp.2⟩ dX7_isLawful_58
    · replace hp := hp.2 c_8
      exact t_X7_isLawful_36 F hr hlocks hK hp hW hE (lv_sub hl [] rfl)
set_option maxHeartbeats 4000000 in
set_option maxRecDepth 100000 in
theorem c_X7_isLawful (l : Launch) {D : wD} {cy : Nat → ClassId} {X : va_W} {S0 : wS} {post : Int32 → wS → Prop} {a0 : Nat} (hL_a0 : wM D S0 a0) (hK_a0 : sK S0 a0 = 12) (hp : wp_X7_isLawful D post S0 a0) : mI D cy X l yX7_isLawful wz_X7_isLawful r_X7_isLawful [.ref a0] S0 (fun r S9 => wX D S0 S9 ∧ post r S9) := by
  intro sz
  refine Met.ofW (cc := cX7_isLawful) (maxL := 3) (ret := (some .boolean)) (by decide) rfl ?_
  intro p e s m args below meth c s₁ B hml hv
  obtain ⟨rfl, hsz, hP, hK, hD0, hRO⟩ := hv
  have hts := atoms_spec (ws := wz_X7_isLawful) B.pre
  have hown : s.vm.findClass RX7 = some m.cls := findClass_of_methodNamed B.named
  subst hsz
  have hD := hD0.self (sz := s.heap.size)
  have F : CallFix p m c cX7_isLawful 3 s _ wz_X7_isLawful RX7 := ⟨B.exec, B.bytes, hml, hown, hts⟩
  have hr := B.returns
  have hlocks := B.notSynchronized
  generalize hAe : va_A (wL cy X S0) s.heap.size = A at hD hK ⊢
  have hA : ∀ q, s.heap.size ≤ q → A q := fun q h => by rw [← hAe]; exact Or.inr h
  have hW : wO D cy X A s.heap S0 s.heap [] := ⟨hP, hD, va_S.rf, hA, hRO⟩
  have hl := lv_entry ([.ref a0]) (n := 3) (Nat.le_of_ble_eq_true rfl)
  rw [lg_entry_eq]
  generalize (lg_sl ([.ref a0]) ++ List.replicate (3 - (lg_sl ([.ref a0])).length) Slot.unset).toArray = ls at hl ⊢
  have hl : lv_has ls 3 [(0, .ref a0)] := hl
  unfold wp_X7_isLawful at hp
  exact t_X7_isLawful_0 F hr hlocks hK hp hW wX.rf (lv_sub hl [0] rfl) hL_a0 hK_a0
def wp_X11_isFirstLawful_25 (D : wD) (post : Int32 → wS → Prop)  (S : wS) (t0 : Int32) : Prop :=
narrow .boolean (.int t0) = .int t0 ∧ post t0 S
def wp_X11_isFirstLawful_20 (D : wD) (post : Int32 → wS → Prop)  (S : wS) : Prop :=
wp_X11_isFirstLawful_25 D post S (1 : Int32)
def wp_X11_isFirstLawful_0 (D : wD) (post : Int32 → wS → Prop)  (S : wS) (a0 : Nat) : Prop :=
∃ y_1 : Nat, sR S a0 4 = some y_1 ∧ wM D S y_1 ∧ sK S y_1 = 8 ∧
((0 < (sI S y_1 3) → wp_X11_isFirstLawful_20 D post S) ∧
 (¬ 0 < (sI S y_1 3) → ∃ y_3 : Nat, sR S a0 2 = some y_3 ∧ wM D S y_3 ∧ sK S y_3 = 12 ∧
wp_X7_isLawful D (fun r_4 S_5 => 
((r_4 = 0 → wp_X11_isFirstLawful_25 D post S_5 (0 : Int32)) ∧
 (¬ r_4 = 0 → wp_X11_isFirstLawful_20 D post S_5))) S y_3))
abbrev r_X11_isFirstLawful : Room := { frames := 4, cells := 0, slots := 0, locals := 92 }
def wp_X11_isFirstLawful (D : wD) (post : Int32 → wS → Prop) (S : wS) (a0 : Nat) : Prop := wp_X11_isFirstLawful_0 D post S a0
set_option maxHeartbeats 4000000 in
set_option maxRecDepth 100000 in
theorem t_X11_isFirstLawful_25 {p : Program} {l : Launch} {e : Env} {s : State} {m : MethodId} {args : Array Value} {below : List Frame} {meth : Method} {c : Code} {D : wD} {cy : Nat → ClassId} {X : va_W} {A : Nat → Prop} {S0 : wS} {post : Int32 → wS → Prop} (F : CallFix p m c cX11_isFirstLawful 1 s args wz_X11_isFirstLawful RX11) (hr : meth.sig.returnType = (some .boolean)) (hlocks : meth.locks = false) (hK : wK D cy A s) : ∀ {S : wS} {H : Heap} {locs : List Loc} {ls : Array Slot} {t0 : Int32}, wp_X11_isFirstLawful_25 D post S t0 → wO D cy X A s.heap S H locs → wX D S0 S → lv_has ls 1 [] → W p l e r_X11_isFirstLawful s m args below meth c H locs 0 0 (MQ below (va_Qi (fun r S9 => wX D S0 S9 ∧ post r S9) (wB D cy X A) A) args s 0 0 A) (F0 m 25 ls [.int t0]) := by
  obtain ⟨hx, hb, hml, hown, hts⟩ := id F
  have hwg : ∀ w ∈ WG, w.before args s = true := fun w h => hts w (List.mem_cons_of_mem _ h)
  intro S H locs ls t0 hp hW hE hl
  unfold wp_X11_isFirstLawful_25 at hp
  exact w_zret hx hb hr hlocks hW hp.1 ⟨hE, hp.2⟩ dX11_isFirstLawful_25
set_option maxHeartbeats 4000000 in
set_option maxRecDepth 100000 in
theorem t_X11_isFirstLawful_20 {p : Program} {l : Launch} {e : Env} {s : State} {m : MethodId} {args : Array Value} {below : List Frame} {meth : Method} {c : Code} {D : wD} {cy : Nat → ClassId} {X : va_W} {A : Nat → Prop} {S0 : wS} {post : Int32 → wS → Prop} (F : CallFix p m c cX11_isFirstLawful 1 s args wz_X11_isFirstLawful RX11) (hr : meth.sig.returnType = (some .boolean)) (hlocks : meth.locks = false) (hK : wK D cy A s) : ∀ {S : wS} {H : Heap} {locs : List Loc} {ls : Array Slot}, wp_X11_isFirstLawful_20 D post S → wO D cy X A s.heap S H locs → wX D S0 S → lv_has ls 1 [] → W p l e r_X11_isFirstLawful s m args below meth c H locs 0 0 (MQ below (va_Qi (fun r S9 => wX D S0 S9 ∧ post r S9) (wB D cy X A) A) args s 0 0 A) (F0 m 20 ls []) := by
  obtain ⟨hx, hb, hml, hown, hts⟩ := id F
  have hwg : ∀ w ∈ WG, w.before args s = true := fun w h => hts w (List.mem_cons_of_mem _ h)
  intro S H locs ls hp hW hE hl
  unfold wp_X11_isFirstLawful_20 at hp
  refine lv_iconst (v := 1) hx hb dX11_isFirstLawful_20 (by decide) ?_
  refine lv_goto (tgt := 25) hx hb dX11_isFirstLawful_21 (by decide) ?_
  exact t_X11_isFirstLawful_25 F hr hlocks hK hp hW hE (lv_sub hl [] rfl)
set_option maxHeartbeats 4000000 in
set_option maxRecDepth 100000 in
theorem t_X11_isFirstLawful_0 {p : Program} {l : Launch} {e : Env} {s : State} {m : MethodId} {args : Array Value} {below : List Frame} {meth : Method} {c : Code} {D : wD} {cy : Nat → ClassId} {X : va_W} {A : Nat → Prop} {S0 : wS} {post : Int32 → wS → Prop} (F : CallFix p m c cX11_isFirstLawful 1 s args wz_X11_isFirstLawful RX11) (hr : meth.sig.returnType = (some .boolean)) (hlocks : meth.locks = false) (hK : wK D cy A s) : ∀ {S : wS} {H : Heap} {locs : List Loc} {ls : Array Slot} {a0 : Nat}, wp_X11_isFirstLawful_0 D post S a0 → wO D cy X A s.heap S H locs → wX D S0 S → lv_has ls 1 [(0, .ref a0)] → wM D S a0 → sK S a0 = 16 → W p l e r_X11_isFirstLawful s m args below meth c H locs 0 0 (MQ below (va_Qi (fun r S9 => wX D S0 S9 ∧ post r S9) (wB D cy X A) A) args s 0 0 A) (F0 m 0 ls []) := by
  obtain ⟨hx, hb, hml, hown, hts⟩ := id F
  have hwg : ∀ w ∈ WG, w.before args s = true := fun w h => hts w (List.mem_cons_of_mem _ h)
  have i_16 : ∀ w ∈ u_ws RX11 TX11 18, w ∈ wz_X11_isFirstLawful := fun w h => List.mem_cons_of_mem _ (wu_16 w h)
  have i_8 : ∀ w ∈ u_ws RX3 TX3 9, w ∈ wz_X11_isFirstLawful := fun w h => List.mem_cons_of_mem _ (wu_8 w h)
  have k_28 := hwg _ wf_RX11_28
  have k_40 := hwg _ wf_RX11_40
  intro S H locs ls a0 hp hW hE hl hL_a0 hK_a0
  unfold wp_X11_isFirstLawful_0 at hp
  refine lv_aload_n hx hb dX11_isFirstLawful_0 rfl (lv_at hl 0 rfl) ?_
  obtain ⟨y_1, ey_1, hL_y_1, hK_y_1, hp⟩ := hp
  refine w_get (k := 16) (f := 4) (T := TX11) (v := .ref y_1) F hK hW hL_a0 hK_a0 (by decide) rfl rfl (by decide) i_16 k_40 (by rw [show wv 16 4 S a0 = va_rf (sR S a0 4) from rfl, ey_1]; rfl) dX11_isFirstLawful_1 ?_
  refine w_getN (k := 8) (f := 3) (T := TX3) (v := .int (sI S y_1 3)) F hK hW hL_y_1 hK_y_1 (by decide) rfl rfl (by decide) i_8 (hK.2.1 (.fieldLinkNest "OpeningsCabinet" 157 "OpeningsCabinet$Game" "length" "I" "OpeningsCabinet") (by decide +kernel)) rfl dX11_isFirstLawful_4 ?_
  refine lv_if_gt (tgt := 20) hx hb dX11_isFirstLawful_7 (by decide) (fun c_2 => ?_) (fun c_2 => ?_)
  · replace hp := hp.1 c_2
    exact t_X11_isFirstLawful_20 F hr hlocks hK hp hW hE (lv_sub hl [] rfl)
  · replace hp := hp.2 c_2
    refine lv_aload_n hx hb dX11_isFirstLawful_10 rfl (lv_at hl 0 rfl) ?_
    obtain ⟨y_3, ey_3, hL_y_3, hK_y_3, hp⟩ := hp
    refine w_get (k := 16) (f := 2) (T := TX11) (v := .ref y_3) F hK hW hL_a0 hK_a0 (by decide) rfl rfl (by decide) i_16 k_28 (by rw [show wv 16 2 S a0 = va_rf (sR S a0 2) from rfl, ey_3]; rfl) dX11_isFirstLawful_11 ?_
    refine w_callI (va_runV (As := []) (rest := []) F (c_X7_isLawful l hL_y_3 hK_y_3 hp H.size) (cwV (C := RX7) 0 hts (wg_V wm_RX11_209 wy_X7_isLawful) rfl rfl rfl (by decide +kernel) ⟨Nat.le_of_ble_eq_true rfl, Nat.le_of_ble_eq_true rfl⟩) (w_preV hK hW hL_y_3 hK_y_3 (by decide) rfl) rfl rfl hl.1 rfl (lv_room (Nat.le_of_ble_eq_true rfl)) dX11_isFirstLawful_14 ⟨Nat.le_of_ble_eq_true rfl, Nat.le_of_ble_eq_true rfl⟩) hW (fun r_4 S_5 H locs hp hW => ?_)
    obtain ⟨hX_S_5, hp⟩ := hp
    refine W.widen (k := 0) (n := 0) (by decide) (by decide) ?_
    have hE := hE.trans hX_S_5
    have hK_a0 : sK S_5 a0 = 16 := (hX_S_5.2 a0 hL_a0).1.trans hK_a0
    have hL_a0 : wM D S_5 a0 := hX_S_5.M hL_a0
    refine lv_if_eq (tgt := 24) hx hb dX11_isFirstLawful_17 (by decide) (fun c_6 => ?_) (fun c_6 => ?_)
    · replace hp := hp.1 c_6
      refine lv_iconst (v := 0) hx hb dX11_isFirstLawful_24 (by decide) ?_
      exact t_X11_isFirstLawful_25 F hr hlocks hK hp hW hE (lv_sub hl [] rfl)
    · replace hp := hp.2 c_6
      exact t_X11_isFirstLawful_20 F hr hlocks hK hp hW hE (lv_sub hl [] rfl)
set_option maxHeartbeats 4000000 in
set_option maxRecDepth 100000 in
theorem c_X11_isFirstLawful (l : Launch) {D : wD} {cy : Nat → ClassId} {X : va_W} {S0 : wS} {post : Int32 → wS → Prop} {a0 : Nat} (hL_a0 : wM D S0 a0) (hK_a0 : sK S0 a0 = 16) (hp : wp_X11_isFirstLawful D post S0 a0) : mI D cy X l yX11_isFirstLawful wz_X11_isFirstLawful r_X11_isFirstLawful [.ref a0] S0 (fun r S9 => wX D S0 S9 ∧ post r S9) := by
  intro sz
  refine Met.ofW (cc := cX11_isFirstLawful) (maxL := 1) (ret := (some .boolean)) (by decide) rfl ?_
  intro p e s m args below meth c s₁ B hml hv
  obtain ⟨rfl, hsz, hP, hK, hD0, hRO⟩ := hv
  have hts := atoms_spec (ws := wz_X11_isFirstLawful) B.pre
  have hown : s.vm.findClass RX11 = some m.cls := findClass_of_methodNamed B.named
  subst hsz
  have hD := hD0.self (sz := s.heap.size)
  have F : CallFix p m c cX11_isFirstLawful 1 s _ wz_X11_isFirstLawful RX11 := ⟨B.exec, B.bytes, hml, hown, hts⟩
  have hr := B.returns
  have hlocks := B.notSynchronized
  generalize hAe : va_A (wL cy X S0) s.heap.size = A at hD hK ⊢
  have hA : ∀ q, s.heap.size ≤ q → A q := fun q h => by rw [← hAe]; exact Or.inr h
  have hW : wO D cy X A s.heap S0 s.heap [] := ⟨hP, hD, va_S.rf, hA, hRO⟩
  have hl := lv_entry ([.ref a0]) (n := 1) (Nat.le_of_ble_eq_true rfl)
  rw [lg_entry_eq]
  generalize (lg_sl ([.ref a0]) ++ List.replicate (1 - (lg_sl ([.ref a0])).length) Slot.unset).toArray = ls at hl ⊢
  have hl : lv_has ls 1 [(0, .ref a0)] := hl
  unfold wp_X11_isFirstLawful at hp
  exact t_X11_isFirstLawful_0 F hr hlocks hK hp hW wX.rf (lv_sub hl [0] rfl) hL_a0 hK_a0
def wp_X11_mustBeLawful_0 (D : wD) (post : wS → Prop) (xp : String → wS → Prop)  (S : wS) (a0 : Nat) : Prop :=
wp_X11_isFirstLawful D (fun r_1 S_2 => 
((¬ r_1 = 0 → post S_2) ∧
 (r_1 = 0 → xp "java/lang/IllegalStateException" S_2))) S a0
abbrev r_X11_mustBeLawful : Room := { frames := 6, cells := 1, slots := 6, locals := 120 }
def wp_X11_mustBeLawful (D : wD) (post : wS → Prop) (xp : String → wS → Prop) (S : wS) (a0 : Nat) : Prop := wp_X11_mustBeLawful_0 D post xp S a0
set_option maxHeartbeats 4000000 in
set_option maxRecDepth 100000 in
theorem t_X11_mustBeLawful_0 {p : Program} {l : Launch} {e : Env} {s : State} {m : MethodId} {args : Array Value} {below : List Frame} {meth : Method} {c : Code} {D : wD} {cy : Nat → ClassId} {X : va_W} {A : Nat → Prop} {S0 : wS} {post : wS → Prop} {xp : String → wS → Prop} (F : CallFix p m c cX11_mustBeLawful 1 s args wz_X11_mustBeLawful RX11) (hr : meth.sig.returnType = none) (hlocks : meth.locks = false) (hK : wK D cy A s) (hl0 : l.stackTraces = false) (hexc : ∀ x ∈ c.exceptionTable.toList, False) : ∀ {S : wS} {H : Heap} {locs : List Loc} {ls : Array Slot} {a0 : Nat}, wp_X11_mustBeLawful_0 D post xp S a0 → wO D cy X A s.heap S H locs → wX D S0 S → lv_has ls 1 [(0, .ref a0)] → wM D S a0 → sK S a0 = 16 → W p l e r_X11_mustBeLawful s m args below meth c H locs 0 0 (vx_MQ below (va_Qv (fun S9 => wX D S0 S9 ∧ post S9) (wB D cy X A) A) (wEx D cy X A (fun E S9 => wX D S0 S9 ∧ xp E S9)) args s 1 6 A) (F0 m 0 ls []) := by
  obtain ⟨hx, hb, hml, hown, hts⟩ := id F
  have hwg : ∀ w ∈ WG, w.before args s = true := fun w h => hts w (List.mem_cons_of_mem _ h)
  intro S H locs ls a0 hp hW hE hl hL_a0 hK_a0
  unfold wp_X11_mustBeLawful_0 at hp
  refine lv_aload_n hx hb dX11_mustBeLawful_0 rfl (lv_at hl 0 rfl) ?_
  refine w_callI (va_runV (As := []) (rest := []) F (c_X11_isFirstLawful l hL_a0 hK_a0 hp H.size) (cwV (C := RX11) 0 hts (wg_V wm_RX11_323 wy_X11_isFirstLawful) rfl rfl rfl (by decide +kernel) ⟨Nat.le_of_ble_eq_true rfl, Nat.le_of_ble_eq_true rfl⟩) (w_preV hK hW hL_a0 hK_a0 (by decide) rfl) rfl rfl hl.1 rfl (lv_room (Nat.le_of_ble_eq_true rfl)) dX11_mustBeLawful_1 ⟨Nat.le_of_ble_eq_true rfl, Nat.le_of_ble_eq_true rfl⟩) hW (fun r_1 S_2 H locs hp hW => ?_)
  obtain ⟨hX_S_2, hp⟩ := hp
  refine W.widen (k := 0) (n := 0) (by decide) (by decide) ?_
  have hE := hE.trans hX_S_2
  have hK_a0 : sK S_2 a0 = 16 := (hX_S_2.2 a0 hL_a0).1.trans hK_a0
  have hL_a0 : wM D S_2 a0 := hX_S_2.M hL_a0
  refine lv_if_ne (tgt := 18) hx hb dX11_mustBeLawful_4 (by decide) (fun c_3 => ?_) (fun c_3 => ?_)
  · replace hp := hp.1 c_3
    refine W.widen (k := 1) (n := 6) (by decide) (by decide) ?_
    refine vx_ret ?_
    exact w_vret hx hb hr hlocks hW ⟨hE, hp⟩ dX11_mustBeLawful_18
  · replace hp := hp.2 c_3
    exact x_throwW (ls := ls) F hK hW hl0 (by decide) (hwg _ wc_RX11_285) (hwg _ wi_java_lang_IllegalStateException) (show ("OpeningsCabinet", 326, "the first position is not proper", 17) ∈ wStr by decide +kernel) (wa_RX11_289 hwg hK.2.1) wa_RX11_289_ok hl.1 hexc hlocks dX11_mustBeLawful_7 dX11_mustBeLawful_10 dX11_mustBeLawful_11 dX11_mustBeLawful_14 dX11_mustBeLawful_17 (Nat.le_of_ble_eq_true rfl) (Nat.le_of_ble_eq_true rfl) (Nat.le_of_ble_eq_true rfl) (Nat.le_of_ble_eq_true rfl) (by decide) (by decide) ⟨hE, hp⟩
set_option maxHeartbeats 4000000 in
set_option maxRecDepth 100000 in
theorem c_X11_mustBeLawful (l : Launch) {D : wD} {cy : Nat → ClassId} {X : va_W} {S0 : wS} {post : wS → Prop} {xp : String → wS → Prop} (hl0 : l.stackTraces = false) {a0 : Nat} (hL_a0 : wM D S0 a0) (hK_a0 : sK S0 a0 = 16) (hp : wp_X11_mustBeLawful D post xp S0 a0) : xV D cy X l yX11_mustBeLawful wz_X11_mustBeLawful r_X11_mustBeLawful [.ref a0] S0 (fun S9 => wX D S0 S9 ∧ post S9) (fun E S9 => wX D S0 S9 ∧ xp E S9) := by
  intro sz
  refine vx_ofW (cc := cX11_mustBeLawful) (maxL := 1) (ret := none) (by decide) rfl ?_
  intro p e s m args below meth c s₁ B hml hexc hv
  obtain ⟨rfl, hsz, hP, hK, hD0, hRO⟩ := hv
  have hts := atoms_spec (ws := wz_X11_mustBeLawful) B.pre
  have hown : s.vm.findClass RX11 = some m.cls := findClass_of_methodNamed B.named
  subst hsz
  have hD := hD0.self (sz := s.heap.size)
  have F : CallFix p m c cX11_mustBeLawful 1 s _ wz_X11_mustBeLawful RX11 := ⟨B.exec, B.bytes, hml, hown, hts⟩
  have hr := B.returns
  have hlocks := B.notSynchronized
  generalize hAe : va_A (wL cy X S0) s.heap.size = A at hD hK ⊢
  have hA : ∀ q, s.heap.size ≤ q → A q := fun q h => by rw [← hAe]; exact Or.inr h
  have hW : wO D cy X A s.heap S0 s.heap [] := ⟨hP, hD, va_S.rf, hA, hRO⟩
  have hl := lv_entry ([.ref a0]) (n := 1) (Nat.le_of_ble_eq_true rfl)
  rw [lg_entry_eq]
  generalize (lg_sl ([.ref a0]) ++ List.replicate (1 - (lg_sl ([.ref a0])).length) Slot.unset).toArray = ls at hl ⊢
  have hl : lv_has ls 1 [(0, .ref a0)] := hl
  unfold wp_X11_mustBeLawful at hp
  exact t_X11_mustBeLawful_0 F hr hlocks hK hl0 hexc hp hW wX.rf (lv_sub hl [0] rfl) hL_a0 hK_a0
def wp_X11_shelfOf_35 (D : wD) (post : Option Nat → wS → Prop) (xp : String → wS → Prop)  (S : wS) (b0 : Nat) : Prop :=
post (some b0) S
def wp_X11_shelfOf_20 (D : wD) (post : Option Nat → wS → Prop) (xp : String → wS → Prop)  (S : wS) (a0 : Nat) (x1 : Int32) : Prop :=
((¬ x1 = 0 → ∃ y_2 : Nat, sR S a0 9 = some y_2 ∧ wM D S y_2 ∧ sK S y_2 = 15 ∧
wp_X11_shelfOf_35 D post xp S y_2) ∧
 (x1 = 0 → ∃ y_3 : Nat, sR S a0 8 = some y_3 ∧ wM D S y_3 ∧ sK S y_3 = 15 ∧
wp_X11_shelfOf_35 D post xp S y_3))
def wp_X11_shelfOf_0 (D : wD) (post : Option Nat → wS → Prop) (xp : String → wS → Prop)  (S : wS) (a0 : Nat) (x1 : Int32) : Prop :=
((x1 = 0 → wp_X11_shelfOf_20 D post xp S a0 x1) ∧
 (¬ x1 = 0 → ((x1 = (1 : Int32) → wp_X11_shelfOf_20 D post xp S a0 x1) ∧
 (¬ x1 = (1 : Int32) → xp "java/lang/IndexOutOfBoundsException" S))))
abbrev r_X11_shelfOf : Room := { frames := 6, cells := 1, slots := 6, locals := 120 }
def wp_X11_shelfOf (D : wD) (post : Option Nat → wS → Prop) (xp : String → wS → Prop) (S : wS) (a0 : Nat) (x1 : Int32) : Prop := wp_X11_shelfOf_0 D post xp S a0 x1
set_option maxHeartbeats 4000000 in
set_option maxRecDepth 100000 in
theorem t_X11_shelfOf_35 {p : Program} {l : Launch} {e : Env} {s : State} {m : MethodId} {args : Array Value} {below : List Frame} {meth : Method} {c : Code} {D : wD} {cy : Nat → ClassId} {X : va_W} {A : Nat → Prop} {S0 : wS} {post : Option Nat → wS → Prop} {xp : String → wS → Prop} (F : CallFix p m c cX11_shelfOf 2 s args wz_X11_shelfOf RX11) (hr : meth.sig.returnType = (some (.object "OpeningsCabinet$Shelf"))) (hlocks : meth.locks = false) (hK : wK D cy A s) (hl0 : l.stackTraces = false) (hexc : ∀ x ∈ c.exceptionTable.toList, False) : ∀ {S : wS} {H : Heap} {locs : List Loc} {ls : Array Slot} {b0 : Nat}, wp_X11_shelfOf_35 D post xp S b0 → wO D cy X A s.heap S H locs → wX D S0 S → lv_has ls 2 [] → wM D S b0 → sK S b0 = 15 → W p l e r_X11_shelfOf s m args below meth c H locs 0 0 (vx_MQ below (va_Qq (fun r S9 => wX D S0 S9 ∧ post r S9) (wB D cy X A) A) (wEx D cy X A (fun E S9 => wX D S0 S9 ∧ xp E S9)) args s 1 6 A) (F0 m 35 ls [.ref b0]) := by
  obtain ⟨hx, hb, hml, hown, hts⟩ := id F
  have hwg : ∀ w ∈ WG, w.before args s = true := fun w h => hts w (List.mem_cons_of_mem _ h)
  intro S H locs ls b0 hp hW hE hl hL_b0 hK_b0
  unfold wp_X11_shelfOf_35 at hp
  refine W.widen (k := 1) (n := 6) (by decide) (by decide) ?_
  refine vx_ret ?_
  exact w_aret (g := (some b0)) hx hb hr hlocks hW ⟨hE, hp⟩ dX11_shelfOf_35
set_option maxHeartbeats 4000000 in
set_option maxRecDepth 100000 in
theorem t_X11_shelfOf_20 {p : Program} {l : Launch} {e : Env} {s : State} {m : MethodId} {args : Array Value} {below : List Frame} {meth : Method} {c : Code} {D : wD} {cy : Nat → ClassId} {X : va_W} {A : Nat → Prop} {S0 : wS} {post : Option Nat → wS → Prop} {xp : String → wS → Prop} (F : CallFix p m c cX11_shelfOf 2 s args wz_X11_shelfOf RX11) (hr : meth.sig.returnType = (some (.object "OpeningsCabinet$Shelf"))) (hlocks : meth.locks = false) (hK : wK D cy A s) (hl0 : l.stackTraces = false) (hexc : ∀ x ∈ c.exceptionTable.toList, False) : ∀ {S : wS} {H : Heap} {locs : List Loc} {ls : Array Slot} {a0 : Nat} {x1 : Int32}, wp_X11_shelfOf_20 D post xp S a0 x1 → wO D cy X A s.heap S H locs → wX D S0 S → lv_has ls 2 [(0, .ref a0), (1, .int x1)] → wM D S a0 → sK S a0 = 16 → W p l e r_X11_shelfOf s m args below meth c H locs 0 0 (vx_MQ below (va_Qq (fun r S9 => wX D S0 S9 ∧ post r S9) (wB D cy X A) A) (wEx D cy X A (fun E S9 => wX D S0 S9 ∧ xp E S9)) args s 1 6 A) (F0 m 20 ls []) := by
  obtain ⟨hx, hb, hml, hown, hts⟩ := id F
  have hwg : ∀ w ∈ WG, w.before args s = true := fun w h => hts w (List.mem_cons_of_mem _ h)
  have i_16 : ∀ w ∈ u_ws RX11 TX11 18, w ∈ wz_X11_shelfOf := fun w h => List.mem_cons_of_mem _ (wu_16 w h)
  have k_72 := hwg _ wf_RX11_72
  have k_76 := hwg _ wf_RX11_76
  intro S H locs ls a0 x1 hp hW hE hl hL_a0 hK_a0
  unfold wp_X11_shelfOf_20 at hp
  refine lv_iload_n hx hb dX11_shelfOf_20 rfl (lv_at hl 1 rfl) ?_
  refine lv_if_ne (tgt := 31) hx hb dX11_shelfOf_21 (by decide) (fun c_1 => ?_) (fun c_1 => ?_)
  · replace hp := hp.1 c_1
    refine lv_aload_n hx hb dX11_shelfOf_31 rfl (lv_at hl 0 rfl) ?_
    obtain ⟨y_2, ey_2, hL_y_2, hK_y_2, hp⟩ := hp
    refine w_get (k := 16) (f := 9) (T := TX11) (v := .ref y_2) F hK hW hL_a0 hK_a0 (by decide) rfl rfl (by decide) i_16 k_76 (by rw [show wv 16 9 S a0 = va_rf (sR S a0 9) from rfl, ey_2]; rfl) dX11_shelfOf_32 ?_
    exact t_X11_shelfOf_35 F hr hlocks hK hl0 hexc hp hW hE (lv_sub hl [] rfl) hL_y_2 hK_y_2
  · replace hp := hp.2 c_1
    refine lv_aload_n hx hb dX11_shelfOf_24 rfl (lv_at hl 0 rfl) ?_
    obtain ⟨y_3, ey_3, hL_y_3, hK_y_3, hp⟩ := hp
    refine w_get (k := 16) (f := 8) (T := TX11) (v := .ref y_3) F hK hW hL_a0 hK_a0 (by decide) rfl rfl (by decide) i_16 k_72 (by rw [show wv 16 8 S a0 = va_rf (sR S a0 8) from rfl, ey_3]; rfl) dX11_shelfOf_25 ?_
    refine lv_goto (tgt := 35) hx hb dX11_shelfOf_28 (by decide) ?_
    exact t_X11_shelfOf_35 F hr hlocks hK hl0 hexc hp hW hE (lv_sub hl [] rfl) hL_y_3 hK_y_3
set_option maxHeartbeats 4000000 in
set_option maxRecDepth 100000 in
theorem t_X11_shelfOf_0 {p : Program} {l : Launch} {e : Env} {s : State} {m : MethodId} {args : Array Value} {below : List Frame} {meth : Method} {c : Code} {D : wD} {cy : Nat → ClassId} {X : va_W} {A : Nat → Prop} {S0 : wS} {post : Option Nat → wS → Prop} {xp : String → wS → Prop} (F : CallFix p m c cX11_shelfOf 2 s args wz_X11_shelfOf RX11) (hr : meth.sig.returnType = (some (.object "OpeningsCabinet$Shelf"))) (hlocks : meth.locks = false) (hK : wK D cy A s) (hl0 : l.stackTraces = false) (hexc : ∀ x ∈ c.exceptionTable.toList, False) : ∀ {S : wS} {H : Heap} {locs : List Loc} {ls : Array Slot} {a0 : Nat} {x1 : Int32}, wp_X11_shelfOf_0 D post xp S a0 x1 → wO D cy X A s.heap S H locs → wX D S0 S → lv_has ls 2 [(0, .ref a0), (1, .int x1)] → wM D S a0 → sK S a0 = 16 → W p l e r_X11_shelfOf s m args below meth c H locs 0 0 (vx_MQ below (va_Qq (fun r S9 => wX D S0 S9 ∧ post r S9) (wB D cy X A) A) (wEx D cy X A (fun E S9 => wX D S0 S9 ∧ xp E S9)) args s 1 6 A) (F0 m 0 ls []) := by
  obtain ⟨hx, hb, hml, hown, hts⟩ := id F
  have hwg : ∀ w ∈ WG, w.before args s = true := fun w h => hts w (List.mem_cons_of_mem _ h)
  intro S H locs ls a0 x1 hp hW hE hl hL_a0 hK_a0
  unfold wp_X11_shelfOf_0 at hp
  refine lv_iload_n hx hb dX11_shelfOf_0 rfl (lv_at hl 1 rfl) ?_
  refine lv_if_eq (tgt := 20) hx hb dX11_shelfOf_1 (by decide) (fun c_1 => ?_) (fun c_1 => ?_)
  · replace hp := hp.1 c_1
    exact t_X11_shelfOf_20 F hr hlocks hK hl0 hexc hp hW hE (lv_sub hl [0, 1] rfl) hL_a0 hK_a0
  · replace hp := hp.2 c_1
    refine lv_iload_n hx hb dX11_shelfOf_4 rfl (lv_at hl 1 rfl) ?_
    refine lv_iconst (v := 1) hx hb dX11_shelfOf_5 (by decide) ?_
    refine lv_icmp_eq (tgt := 20) hx hb dX11_shelfOf_6 (by decide) (fun c_2 => ?_) (fun c_2 => ?_)
    · replace hp := hp.1 c_2
      exact t_X11_shelfOf_20 F hr hlocks hK hl0 hexc hp hW hE (lv_sub hl [0, 1] rfl) hL_a0 hK_a0
    · replace hp := hp.2 c_2
      exact x_throwW (ls := ls) F hK hW hl0 (by decide) (hwg _ wc_RX11_235) (hwg _ wi_java_lang_IndexOutOfBoundsException) (show ("OpeningsCabinet", 501, "no such shelf", 31) ∈ wStr by decide +kernel) (wa_RX11_239 hwg hK.2.1) wa_RX11_239_ok hl.1 hexc hlocks dX11_shelfOf_9 dX11_shelfOf_12 dX11_shelfOf_13 dX11_shelfOf_16 dX11_shelfOf_19 (Nat.le_of_ble_eq_true rfl) (Nat.le_of_ble_eq_true rfl) (Nat.le_of_ble_eq_true rfl) (Nat.le_of_ble_eq_true rfl) (by decide) (by decide) ⟨hE, hp⟩
set_option maxHeartbeats 4000000 in
set_option maxRecDepth 100000 in
theorem c_X11_shelfOf (l : Launch) {D : wD} {cy : Nat → ClassId} {X : va_W} {S0 : wS} {post : Option Nat → wS → Prop} {xp : String → wS → Prop} (hl0 : l.stackTraces = false) {a0 : Nat} {x1 : Int32} (hL_a0 : wM D S0 a0) (hK_a0 : sK S0 a0 = 16) (hp : wp_X11_shelfOf D post xp S0 a0 x1) : xR D cy X l yX11_shelfOf wz_X11_shelfOf r_X11_shelfOf [.ref a0, .int x1] S0 (fun r S9 => wX D S0 S9 ∧ post r S9) (fun E S9 => wX D S0 S9 ∧ xp E S9) := by
  intro sz
  refine vx_ofW (cc := cX11_shelfOf) (maxL := 2) (ret := (some (.object "OpeningsCabinet$Shelf"))) (by decide) rfl ?_
  intro p e s m args below meth c s₁ B hml hexc hv
  obtain ⟨rfl, hsz, hP, hK, hD0, hRO⟩ := hv
  have hts := atoms_spec (ws := wz_X11_shelfOf) B.pre
  have hown : s.vm.findClass RX11 = some m.cls := findClass_of_methodNamed B.named
  subst hsz
  have hD := hD0.self (sz := s.heap.size)
  have F : CallFix p m c cX11_shelfOf 2 s _ wz_X11_shelfOf RX11 := ⟨B.exec, B.bytes, hml, hown, hts⟩
  have hr := B.returns
  have hlocks := B.notSynchronized
  generalize hAe : va_A (wL cy X S0) s.heap.size = A at hD hK ⊢
  have hA : ∀ q, s.heap.size ≤ q → A q := fun q h => by rw [← hAe]; exact Or.inr h
  have hW : wO D cy X A s.heap S0 s.heap [] := ⟨hP, hD, va_S.rf, hA, hRO⟩
  have hl := lv_entry ([.ref a0, .int x1]) (n := 2) (Nat.le_of_ble_eq_true rfl)
  rw [lg_entry_eq]
  generalize (lg_sl ([.ref a0, .int x1]) ++ List.replicate (2 - (lg_sl ([.ref a0, .int x1])).length) Slot.unset).toArray = ls at hl ⊢
  have hl : lv_has ls 2 [(0, .ref a0), (1, .int x1)] := hl
  unfold wp_X11_shelfOf at hp
  exact t_X11_shelfOf_0 F hr hlocks hK hl0 hexc hp hW wX.rf (lv_sub hl [0, 1] rfl) hL_a0 hK_a0
def wp_X11_mustBeSquare_0 (D : wD) (post : wS → Prop) (xp : String → wS → Prop)  (S : wS) (a0 : Nat) (x1 : Int32) : Prop :=
∃ y_1 : Nat, sR S a0 0 = some y_1 ∧ wM D S y_1 ∧ sK S y_1 = 5 ∧
wp_X0_has D (fun r_2 S_3 => 
((¬ r_2 = 0 → post S_3) ∧
 (r_2 = 0 → xp "java/lang/IndexOutOfBoundsException" S_3))) S y_1 x1
abbrev r_X11_mustBeSquare : Room := { frames := 6, cells := 1, slots := 6, locals := 120 }
def wp_X11_mustBeSquare (D : wD) (post : wS → Prop) (xp : String → wS → Prop) (S : wS) (a0 : Nat) (x1 : Int32) : Prop := wp_X11_mustBeSquare_0 D post xp S a0 x1
set_option maxHeartbeats 4000000 in
set_option maxRecDepth 100000 in
theorem t_X11_mustBeSquare_0 {p : Program} {l : Launch} {e : Env} {s : State} {m : MethodId} {args : Array Value} {below : List Frame} {meth : Method} {c : Code} {D : wD} {cy : Nat → ClassId} {X : va_W} {A : Nat → Prop} {S0 : wS} {post : wS → Prop} {xp : String → wS → Prop} (F : CallFix p m c cX11_mustBeSquare 2 s args wz_X11_mustBeSquare RX11) (hr : meth.sig.returnType = none) (hlocks : meth.locks = false) (hK : wK D cy A s) (hl0 : l.stackTraces = false) (hexc : ∀ x ∈ c.exceptionTable.toList, False) : ∀ {S : wS} {H : Heap} {locs : List Loc} {ls : Array Slot} {a0 : Nat} {x1 : Int32}, wp_X11_mustBeSquare_0 D post xp S a0 x1 → wO D cy X A s.heap S H locs → wX D S0 S → lv_has ls 2 [(0, .ref a0), (1, .int x1)] → wM D S a0 → sK S a0 = 16 → W p l e r_X11_mustBeSquare s m args below meth c H locs 0 0 (vx_MQ below (va_Qv (fun S9 => wX D S0 S9 ∧ post S9) (wB D cy X A) A) (wEx D cy X A (fun E S9 => wX D S0 S9 ∧ xp E S9)) args s 1 6 A) (F0 m 0 ls []) := by
  obtain ⟨hx, hb, hml, hown, hts⟩ := id F
  have hwg : ∀ w ∈ WG, w.before args s = true := fun w h => hts w (List.mem_cons_of_mem _ h)
  have i_16 : ∀ w ∈ u_ws RX11 TX11 18, w ∈ wz_X11_mustBeSquare := fun w h => List.mem_cons_of_mem _ (wu_16 w h)
  have k_12 := hwg _ wf_RX11_12
  intro S H locs ls a0 x1 hp hW hE hl hL_a0 hK_a0
  unfold wp_X11_mustBeSquare_0 at hp
  refine lv_aload_n hx hb dX11_mustBeSquare_0 rfl (lv_at hl 0 rfl) ?_
  obtain ⟨y_1, ey_1, hL_y_1, hK_y_1, hp⟩ := hp
  refine w_get (k := 16) (f := 0) (T := TX11) (v := .ref y_1) F hK hW hL_a0 hK_a0 (by decide) rfl rfl (by decide) i_16 k_12 (by rw [show wv 16 0 S a0 = va_rf (sR S a0 0) from rfl, ey_1]; rfl) dX11_mustBeSquare_1 ?_
  refine lv_iload_n hx hb dX11_mustBeSquare_4 rfl (lv_at hl 1 rfl) ?_
  refine w_callI (va_runV (As := [.int x1]) (rest := []) F (c_X0_has l hL_y_1 hK_y_1 hp H.size) (cwV (C := RX0) 1 hts (wg_V wm_RX11_492 wy_X0_has) rfl rfl rfl (by decide +kernel) ⟨Nat.le_of_ble_eq_true rfl, Nat.le_of_ble_eq_true rfl⟩) (w_preV hK hW hL_y_1 hK_y_1 (by decide) rfl) rfl rfl hl.1 rfl (lv_room (Nat.le_of_ble_eq_true rfl)) dX11_mustBeSquare_5 ⟨Nat.le_of_ble_eq_true rfl, Nat.le_of_ble_eq_true rfl⟩) hW (fun r_2 S_3 H locs hp hW => ?_)
  obtain ⟨hX_S_3, hp⟩ := hp
  refine W.widen (k := 0) (n := 0) (by decide) (by decide) ?_
  have hE := hE.trans hX_S_3
  have hK_a0 : sK S_3 a0 = 16 := (hX_S_3.2 a0 hL_a0).1.trans hK_a0
  have hL_a0 : wM D S_3 a0 := hX_S_3.M hL_a0
  refine lv_if_ne (tgt := 22) hx hb dX11_mustBeSquare_8 (by decide) (fun c_4 => ?_) (fun c_4 => ?_)
  · replace hp := hp.1 c_4
    refine W.widen (k := 1) (n := 6) (by decide) (by decide) ?_
    refine vx_ret ?_
    exact w_vret hx hb hr hlocks hW ⟨hE, hp⟩ dX11_mustBeSquare_22
  · replace hp := hp.2 c_4
    exact x_throwW (ls := ls) F hK hW hl0 (by decide) (hwg _ wc_RX11_235) (hwg _ wi_java_lang_IndexOutOfBoundsException) (show ("OpeningsCabinet", 495, "no such square", 12) ∈ wStr by decide +kernel) (wa_RX11_239 hwg hK.2.1) wa_RX11_239_ok hl.1 hexc hlocks dX11_mustBeSquare_11 dX11_mustBeSquare_14 dX11_mustBeSquare_15 dX11_mustBeSquare_18 dX11_mustBeSquare_21 (Nat.le_of_ble_eq_true rfl) (Nat.le_of_ble_eq_true rfl) (Nat.le_of_ble_eq_true rfl) (Nat.le_of_ble_eq_true rfl) (by decide) (by decide) ⟨hE, hp⟩
set_option maxHeartbeats 4000000 in
set_option maxRecDepth 100000 in
theorem c_X11_mustBeSquare (l : Launch) {D : wD} {cy : Nat → ClassId} {X : va_W} {S0 : wS} {post : wS → Prop} {xp : String → wS → Prop} (hl0 : l.stackTraces = false) {a0 : Nat} {x1 : Int32} (hL_a0 : wM D S0 a0) (hK_a0 : sK S0 a0 = 16) (hp : wp_X11_mustBeSquare D post xp S0 a0 x1) : xV D cy X l yX11_mustBeSquare wz_X11_mustBeSquare r_X11_mustBeSquare [.ref a0, .int x1] S0 (fun S9 => wX D S0 S9 ∧ post S9) (fun E S9 => wX D S0 S9 ∧ xp E S9) := by
  intro sz
  refine vx_ofW (cc := cX11_mustBeSquare) (maxL := 2) (ret := none) (by decide) rfl ?_
  intro p e s m args below meth c s₁ B hml hexc hv
  obtain ⟨rfl, hsz, hP, hK, hD0, hRO⟩ := hv
  have hts := atoms_spec (ws := wz_X11_mustBeSquare) B.pre
  have hown : s.vm.findClass RX11 = some m.cls := findClass_of_methodNamed B.named
  subst hsz
  have hD := hD0.self (sz := s.heap.size)
  have F : CallFix p m c cX11_mustBeSquare 2 s _ wz_X11_mustBeSquare RX11 := ⟨B.exec, B.bytes, hml, hown, hts⟩
  have hr := B.returns
  have hlocks := B.notSynchronized
  generalize hAe : va_A (wL cy X S0) s.heap.size = A at hD hK ⊢
  have hA : ∀ q, s.heap.size ≤ q → A q := fun q h => by rw [← hAe]; exact Or.inr h
  have hW : wO D cy X A s.heap S0 s.heap [] := ⟨hP, hD, va_S.rf, hA, hRO⟩
  have hl := lv_entry ([.ref a0, .int x1]) (n := 2) (Nat.le_of_ble_eq_true rfl)
  rw [lg_entry_eq]
  generalize (lg_sl ([.ref a0, .int x1]) ++ List.replicate (2 - (lg_sl ([.ref a0, .int x1])).length) Slot.unset).toArray = ls at hl ⊢
  have hl : lv_has ls 2 [(0, .ref a0), (1, .int x1)] := hl
  unfold wp_X11_mustBeSquare at hp
  exact t_X11_mustBeSquare_0 F hr hlocks hK hl0 hexc hp hW wX.rf (lv_sub hl [0, 1] rfl) hL_a0 hK_a0
def wp_X11_ask_52 (D : wD) (post : Int32 → wS → Prop) (xp : String → wS → Prop)  (S : wS) (x3 : Int32) : Prop :=
post x3 S
def wp_X11_ask_15 (D : wD) (post : Int32 → wS → Prop) (xp : String → wS → Prop)  (S : wS) : Prop :=
xp "java/lang/IllegalArgumentException" S
def wp_X11_ask_0 (D : wD) (post : Int32 → wS → Prop) (xp : String → wS → Prop)  (S : wS) (a0 : Nat) (x1 : Int32) (x2 : Int32) : Prop :=
wp_X11_mustBeSquare D (fun S_2 => 
((x2 < 0 → wp_X11_ask_15 D post xp S_2) ∧
 (¬ x2 < 0 → ((x2 ≤ (15 : Int32) → ∃ y_5 : Nat, sR S_2 a0 15 = some y_5 ∧ wM D S_2 y_5 ∧ sK S_2 y_5 = 21 ∧
(((Int32.ofNat (sN S_2 y_5)) ≤ x1 → wp_X11_ask_52 D post xp S_2 (15 : Int32)) ∧
 (¬ (Int32.ofNat (sN S_2 y_5)) ≤ x1 → ∃ y_7 : Nat, sR S_2 a0 15 = some y_7 ∧ wM D S_2 y_7 ∧ sK S_2 y_7 = 21 ∧
vp_in x1 (sN S_2 y_7) ∧
∀ x_9 : Int32, x_9 = (sI S_2 y_7 (x1).toNatClampNeg) →
∃ y_10 : Nat, sR S_2 a0 15 = some y_10 ∧ wM D S_2 y_10 ∧ sK S_2 y_10 = 21 ∧
y_10 ∈ sL S_2 ∧ vp_in x1 (sN S_2 y_10) ∧
∀ S_12 : wS, S_12 = uI S_2 y_10 (x1).toNatClampNeg x2 →
wp_X11_ask_52 D post xp S_12 x_9))) ∧
 (¬ x2 ≤ (15 : Int32) → wp_X11_ask_15 D post xp S_2))))) xp S a0 x1
abbrev r_X11_ask : Room := { frames := 7, cells := 2, slots := 12, locals := 141 }
def wp_X11_ask (D : wD) (post : Int32 → wS → Prop) (xp : String → wS → Prop) (S : wS) (a0 : Nat) (x1 : Int32) (x2 : Int32) : Prop := wp_X11_ask_0 D post xp S a0 x1 x2
set_option maxHeartbeats 4000000 in
set_option maxRecDepth 100000 in
theorem t_X11_ask_52 {p : Program} {l : Launch} {e : Env} {s : State} {m : MethodId} {args : Array Value} {below : List Frame} {meth : Method} {c : Code} {D : wD} {cy : Nat → ClassId} {X : va_W} {A : Nat → Prop} {S0 : wS} {post : Int32 → wS → Prop} {xp : String → wS → Prop} (F : CallFix p m c cX11_ask 4 s args wz_X11_ask RX11) (hr : meth.sig.returnType = (some .int)) (hlocks : meth.locks = false) (hK : wK D cy A s) (hl0 : l.stackTraces = false) (hexc : ∀ x ∈ c.exceptionTable.toList, False) : ∀ {S : wS} {H : Heap} {locs : List Loc} {ls : Array Slot} {x3 : Int32}, wp_X11_ask_52 D post xp S x3 → wO D cy X A s.heap S H locs → wX D S0 S → lv_has ls 4 [(3, .int x3)] → W p l e r_X11_ask s m args below meth c H locs 1 6 (vx_MQ below (va_Qi (fun r S9 => wX D S0 S9 ∧ post r S9) (wB D cy X A) A) (wEx D cy X A (fun E S9 => wX D S0 S9 ∧ xp E S9)) args s 2 12 A) (F0 m 52 ls []) := by
  obtain ⟨hx, hb, hml, hown, hts⟩ := id F
  have hwg : ∀ w ∈ WG, w.before args s = true := fun w h => hts w (List.mem_cons_of_mem _ h)
  intro S H locs ls x3 hp hW hE hl
  unfold wp_X11_ask_52 at hp
  refine lv_iload_n hx hb dX11_ask_52 rfl (lv_at hl 0 rfl) ?_
  refine W.widen (k := 2) (n := 12) (by decide) (by decide) ?_
  refine vx_ret ?_
  exact w_iret hx hb hr hlocks hW ⟨hE, hp⟩ dX11_ask_53
set_option maxHeartbeats 4000000 in
set_option maxRecDepth 100000 in
theorem t_X11_ask_15 {p : Program} {l : Launch} {e : Env} {s : State} {m : MethodId} {args : Array Value} {below : List Frame} {meth : Method} {c : Code} {D : wD} {cy : Nat → ClassId} {X : va_W} {A : Nat → Prop} {S0 : wS} {post : Int32 → wS → Prop} {xp : String → wS → Prop} (F : CallFix p m c cX11_ask 4 s args wz_X11_ask RX11) (hr : meth.sig.returnType = (some .int)) (hlocks : meth.locks = false) (hK : wK D cy A s) (hl0 : l.stackTraces = false) (hexc : ∀ x ∈ c.exceptionTable.toList, False) : ∀ {S : wS} {H : Heap} {locs : List Loc} {ls : Array Slot}, wp_X11_ask_15 D post xp S → wO D cy X A s.heap S H locs → wX D S0 S → lv_has ls 4 [] → W p l e r_X11_ask s m args below meth c H locs 1 6 (vx_MQ below (va_Qi (fun r S9 => wX D S0 S9 ∧ post r S9) (wB D cy X A) A) (wEx D cy X A (fun E S9 => wX D S0 S9 ∧ xp E S9)) args s 2 12 A) (F0 m 15 ls []) := by
  obtain ⟨hx, hb, hml, hown, hts⟩ := id F
  have hwg : ∀ w ∈ WG, w.before args s = true := fun w h => hts w (List.mem_cons_of_mem _ h)
  intro S H locs ls hp hW hE hl
  unfold wp_X11_ask_15 at hp
  exact x_throwW (ls := ls) F hK hW hl0 (by decide) (hwg _ wc_RX11_140) (hwg _ wi_java_lang_IllegalArgumentException) (show ("OpeningsCabinet", 422, "a pattern asks 0 to 15", 40) ∈ wStr by decide +kernel) (wa_RX11_144 hwg hK.2.1) wa_RX11_144_ok hl.1 hexc hlocks dX11_ask_15 dX11_ask_18 dX11_ask_19 dX11_ask_22 dX11_ask_25 (Nat.le_of_ble_eq_true rfl) (Nat.le_of_ble_eq_true rfl) (Nat.le_of_ble_eq_true rfl) (Nat.le_of_ble_eq_true rfl) (by decide) (by decide) ⟨hE, hp⟩
set_option maxHeartbeats 4000000 in
set_option maxRecDepth 100000 in
theorem t_X11_ask_0 {p : Program} {l : Launch} {e : Env} {s : State} {m : MethodId} {args : Array Value} {below : List Frame} {meth : Method} {c : Code} {D : wD} {cy : Nat → ClassId} {X : va_W} {A : Nat → Prop} {S0 : wS} {post : Int32 → wS → Prop} {xp : String → wS → Prop} (F : CallFix p m c cX11_ask 4 s args wz_X11_ask RX11) (hr : meth.sig.returnType = (some .int)) (hlocks : meth.locks = false) (hK : wK D cy A s) (hl0 : l.stackTraces = false) (hexc : ∀ x ∈ c.exceptionTable.toList, False) : ∀ {S : wS} {H : Heap} {locs : List Loc} {ls : Array Slot} {a0 : Nat} {x1 : Int32} {x2 : Int32}, wp_X11_ask_0 D post xp S a0 x1 x2 → wO D cy X A s.heap S H locs → wX D S0 S → lv_has ls 4 [(0, .ref a0), (1, .int x1), (2, .int x2)] → wM D S a0 → sK S a0 = 16 → W p l e r_X11_ask s m args below meth c H locs 0 0 (vx_MQ below (va_Qi (fun r S9 => wX D S0 S9 ∧ post r S9) (wB D cy X A) A) (wEx D cy X A (fun E S9 => wX D S0 S9 ∧ xp E S9)) args s 2 12 A) (F0 m 0 ls []) := by
  obtain ⟨hx, hb, hml, hown, hts⟩ := id F
  have hwg : ∀ w ∈ WG, w.before args s = true := fun w h => hts w (List.mem_cons_of_mem _ h)
  have i_16 : ∀ w ∈ u_ws RX11 TX11 18, w ∈ wz_X11_ask := fun w h => List.mem_cons_of_mem _ (wu_16 w h)
  have k_112 := hwg _ wf_RX11_112
  intro S H locs ls a0 x1 x2 hp hW hE hl hL_a0 hK_a0
  unfold wp_X11_ask_0 at hp
  refine lv_aload_n hx hb dX11_ask_0 rfl (lv_at hl 0 rfl) ?_
  refine lv_iload_n hx hb dX11_ask_1 rfl (lv_at hl 1 rfl) ?_
  refine x_callV (vx_runV (As := [.int x1]) (rest := []) F (c_X11_mustBeSquare l hl0 hL_a0 hK_a0 hp H.size) (cwV (C := RX11) 1 hts (wg_V wm_RX11_160 wy_X11_mustBeSquare) rfl rfl rfl (by decide +kernel) ⟨Nat.le_of_ble_eq_true rfl, Nat.le_of_ble_eq_true rfl⟩) (w_preV hK hW hL_a0 hK_a0 (by decide) rfl) rfl rfl hl.1 rfl (lv_room (Nat.le_of_ble_eq_true rfl)) dX11_ask_2 ⟨Nat.le_of_ble_eq_true rfl, Nat.le_of_ble_eq_true rfl⟩) hW (fun E ce q9 S9 H locs hp hW h1 h2 h3 => x_out hexc hlocks ⟨hE.trans hp.1, hp.2⟩ hW h1 h2 h3 (by decide) (by decide)) (fun S_2 H locs hp hW => ?_)
  obtain ⟨hX_S_2, hp⟩ := hp
  refine W.widen (k := 1) (n := 6) (by decide) (by decide) ?_
  have hE := hE.trans hX_S_2
  have hK_a0 : sK S_2 a0 = 16 := (hX_S_2.2 a0 hL_a0).1.trans hK_a0
  have hL_a0 : wM D S_2 a0 := hX_S_2.M hL_a0
  refine lv_iload_n hx hb dX11_ask_5 rfl (lv_at hl 2 rfl) ?_
  refine lv_if_lt (tgt := 15) hx hb dX11_ask_6 (by decide) (fun c_3 => ?_) (fun c_3 => ?_)
  · replace hp := hp.1 c_3
    exact t_X11_ask_15 F hr hlocks hK hl0 hexc hp hW hE (lv_sub hl [] rfl)
  · replace hp := hp.2 c_3
    refine lv_iload_n hx hb dX11_ask_9 rfl (lv_at hl 2 rfl) ?_
    refine lv_bipush (v := 15) hx hb dX11_ask_10 (by decide) ?_
    refine lv_icmp_le (tgt := 26) hx hb dX11_ask_12 (by decide) (fun c_4 => ?_) (fun c_4 => ?_)
    · replace hp := hp.1 c_4
      refine lv_bipush (v := 15) hx hb dX11_ask_26 (by decide) ?_
      refine lv_istore_n (lv' := [(3, .int (15 : Int32)), (0, .ref a0), (1, .int x1), (2, .int x2)]) hx hb dX11_ask_28 rfl hl (by decide) rfl (fun ls hl => ?_)
      refine lv_iload_n hx hb dX11_ask_29 rfl (lv_at hl 2 rfl) ?_
      refine lv_aload_n hx hb dX11_ask_30 rfl (lv_at hl 1 rfl) ?_
      obtain ⟨y_5, ey_5, hL_y_5, hK_y_5, hp⟩ := hp
      refine w_get (k := 16) (f := 15) (T := TX11) (v := .ref y_5) F hK hW hL_a0 hK_a0 (by decide) rfl rfl (by decide) i_16 k_112 (by rw [show wv 16 15 S_2 a0 = va_rf (sR S_2 a0 15) from rfl, ey_5]; rfl) dX11_ask_31 ?_
      refine w_len F hK hW hL_y_5 hK_y_5 (by decide) dX11_ask_34 ?_
      refine lv_icmp_ge (tgt := 52) hx hb dX11_ask_35 (by decide) (fun c_6 => ?_) (fun c_6 => ?_)
      · replace hp := hp.1 c_6
        exact t_X11_ask_52 F hr hlocks hK hl0 hexc hp hW hE (lv_sub hl [0] rfl)
      · replace hp := hp.2 c_6
        refine lv_aload_n hx hb dX11_ask_38 rfl (lv_at hl 1 rfl) ?_
        obtain ⟨y_7, ey_7, hL_y_7, hK_y_7, hp⟩ := hp
        refine w_get (k := 16) (f := 15) (T := TX11) (v := .ref y_7) F hK hW hL_a0 hK_a0 (by decide) rfl rfl (by decide) i_16 k_112 (by rw [show wv 16 15 S_2 a0 = va_rf (sR S_2 a0 15) from rfl, ey_7]; rfl) dX11_ask_39 ?_
        refine lv_iload_n hx hb dX11_ask_42 rfl (lv_at hl 2 rfl) ?_
        obtain ⟨h_8, hp⟩ := hp
        refine w_ild F hK hW hL_y_7 hK_y_7 h_8 dX11_ask_43 ?_
        refine lv_topi (fun x_9 ex_9 => ?_)
        replace hp := hp x_9 ex_9
        refine lv_istore_n (lv' := [(3, .int x_9), (0, .ref a0), (1, .int x1), (2, .int x2)]) hx hb dX11_ask_44 rfl hl (by decide) rfl (fun ls hl => ?_)
        refine lv_aload_n hx hb dX11_ask_45 rfl (lv_at hl 1 rfl) ?_
        obtain ⟨y_10, ey_10, hL_y_10, hK_y_10, hp⟩ := hp
        refine w_get (k := 16) (f := 15) (T := TX11) (v := .ref y_10) F hK hW hL_a0 hK_a0 (by decide) rfl rfl (by decide) i_16 k_112 (by rw [show wv 16 15 S_2 a0 = va_rf (sR S_2 a0 15) from rfl, ey_10]; rfl) dX11_ask_46 ?_
        refine lv_iload_n hx hb dX11_ask_49 rfl (lv_at hl 2 rfl) ?_
        refine lv_iload_n hx hb dX11_ask_50 rfl (lv_at hl 3 rfl) ?_
        obtain ⟨h_11m, h_11, hp⟩ := hp
        refine w_ist F hK hW h_11m hK_y_10 h_11 dX11_ask_51 (fun H locs hW => ?_)
        obtain ⟨S_12, eS_12⟩ : ∃ z : wS, z = uI S_2 y_10 (x1).toNatClampNeg x2 := ⟨_, rfl⟩
        rw [← eS_12] at hW
        replace hp := hp S_12 eS_12
        have hX_S_12 : wX D S_2 S_12 := by rw [eS_12]; exact wX_uI
        have hE := hE.trans hX_S_12
        have hK_a0 : sK S_12 a0 = 16 := (hX_S_12.2 a0 hL_a0).1.trans hK_a0
        have hL_a0 : wM D S_12 a0 := hX_S_12.M hL_a0
        exact t_X11_ask_52 F hr hlocks hK hl0 hexc hp hW hE (lv_sub hl [0] rfl)
    · replace hp := hp.2 c_4
      exact t_X11_ask_15 F hr hlocks hK hl0 hexc hp hW hE (lv_sub hl [] rfl)
set_option maxHeartbeats 4000000 in
set_option maxRecDepth 100000 in
theorem c_X11_ask (l : Launch) {D : wD} {cy : Nat → ClassId} {X : va_W} {S0 : wS} {post : Int32 → wS → Prop} {xp : String → wS → Prop} (hl0 : l.stackTraces = false) {a0 : Nat} {x1 : Int32} {x2 : Int32} (hL_a0 : wM D S0 a0) (hK_a0 : sK S0 a0 = 16) (hp : wp_X11_ask D post xp S0 a0 x1 x2) : xI D cy X l yX11_ask wz_X11_ask r_X11_ask [.ref a0, .int x1, .int x2] S0 (fun r S9 => wX D S0 S9 ∧ post r S9) (fun E S9 => wX D S0 S9 ∧ xp E S9) := by
  intro sz
  refine vx_ofW (cc := cX11_ask) (maxL := 4) (ret := (some .int)) (by decide) rfl ?_
  intro p e s m args below meth c s₁ B hml hexc hv
  obtain ⟨rfl, hsz, hP, hK, hD0, hRO⟩ := hv
  have hts := atoms_spec (ws := wz_X11_ask) B.pre
  have hown : s.vm.findClass RX11 = some m.cls := findClass_of_methodNamed B.named
  subst hsz
  have hD := hD0.self (sz := s.heap.size)
  have F : CallFix p m c cX11_ask 4 s _ wz_X11_ask RX11 := ⟨B.exec, B.bytes, hml, hown, hts⟩
  have hr := B.returns
  have hlocks := B.notSynchronized
  generalize hAe : va_A (wL cy X S0) s.heap.size = A at hD hK ⊢
  have hA : ∀ q, s.heap.size ≤ q → A q := fun q h => by rw [← hAe]; exact Or.inr h
  have hW : wO D cy X A s.heap S0 s.heap [] := ⟨hP, hD, va_S.rf, hA, hRO⟩
  have hl := lv_entry ([.ref a0, .int x1, .int x2]) (n := 4) (Nat.le_of_ble_eq_true rfl)
  rw [lg_entry_eq]
  generalize (lg_sl ([.ref a0, .int x1, .int x2]) ++ List.replicate (4 - (lg_sl ([.ref a0, .int x1, .int x2])).length) Slot.unset).toArray = ls at hl ⊢
  have hl : lv_has ls 4 [(0, .ref a0), (1, .int x1), (2, .int x2)] := hl
  unfold wp_X11_ask at hp
  exact t_X11_ask_0 F hr hlocks hK hl0 hexc hp hW wX.rf (lv_sub hl [0, 1, 2] rfl) hL_a0 hK_a0
def wp_X11_checkers_39 (D : wD) (post : Int32 → wS → Prop) (xp : String → wS → Prop)  (S : wS) (a0 : Nat) (b0 : Nat) (t1 : Int32) (t2 : Int32) : Prop :=
∃ y_1 : Nat, sR S a0 2 = some y_1 ∧ wM D S y_1 ∧ sK S y_1 = 12 ∧
wp_X7_occupied D (fun r_2 S_3 => 
wp_X7_attackers D (fun r_4 S_5 => 
wp_J13_bitCount_95d88 D (fun r_6 S_7 => 
post r_6 S_7) S_5 r_4) S_3 b0 t1 t2 r_2) S y_1
def wp_X11_checkers_0 (D : wD) (post : Int32 → wS → Prop) (xp : String → wS → Prop)  (S : wS) (a0 : Nat) : Prop :=
wp_X11_mustBeLawful D (fun S_2 => 
∃ y_3 : Nat, sR S_2 a0 2 = some y_3 ∧ wM D S_2 y_3 ∧ sK S_2 y_3 = 12 ∧
∃ y_4 : Nat, sR S_2 a0 2 = some y_4 ∧ wM D S_2 y_4 ∧ sK S_2 y_4 = 12 ∧
wp_X7_kingOf D (fun r_5 S_6 => 
∃ y_7 : Nat, sR S_6 a0 2 = some y_7 ∧ wM D S_6 y_7 ∧ sK S_6 y_7 = 12 ∧
∃ y_8 : Nat, sR S_6 a0 2 = some y_8 ∧ wM D S_6 y_8 ∧ sK S_6 y_8 = 12 ∧
((¬ (sI S_6 y_8 5) = 0 → wp_X11_checkers_39 D post xp S_6 a0 y_7 r_5 (0 : Int32)) ∧
 ((sI S_6 y_8 5) = 0 → wp_X11_checkers_39 D post xp S_6 a0 y_7 r_5 (1 : Int32)))) S_2 y_3 (sI S_2 y_4 5)) xp S a0
abbrev r_X11_checkers : Room := { frames := 7, cells := 1, slots := 6, locals := 140 }
def wp_X11_checkers (D : wD) (post : Int32 → wS → Prop) (xp : String → wS → Prop) (S : wS) (a0 : Nat) : Prop := wp_X11_checkers_0 D post xp S a0
set_option maxHeartbeats 4000000 in
set_option maxRecDepth 100000 in
theorem t_X11_checkers_39 {p : Program} {l : Launch} {e : Env} {s : State} {m : MethodId} {args : Array Value} {below : List Frame} {meth : Method} {c : Code} {D : wD} {cy : Nat → ClassId} {X : va_W} {A : Nat → Prop} {S0 : wS} {post : Int32 → wS → Prop} {xp : String → wS → Prop} (F : CallFix p m c cX11_checkers 2 s args wz_X11_checkers RX11) (hr : meth.sig.returnType = (some .int)) (hlocks : meth.locks = false) (hK : wK D cy A s) (hl0 : l.stackTraces = false) (hexc : ∀ x ∈ c.exceptionTable.toList, False) : ∀ {S : wS} {H : Heap} {locs : List Loc} {ls : Array Slot} {a0 : Nat} {b0 : Nat} {t1 : Int32} {t2 : Int32}, wp_X11_checkers_39 D post xp S a0 b0 t1 t2 → wO D cy X A s.heap S H locs → wX D S0 S → lv_has ls 2 [(0, .ref a0)] → wM D S a0 → sK S a0 = 16 → wM D S b0 → sK S b0 = 12 → W p l e r_X11_checkers s m args below meth c H locs 1 6 (vx_MQ below (va_Qi (fun r S9 => wX D S0 S9 ∧ post r S9) (wB D cy X A) A) (wEx D cy X A (fun E S9 => wX D S0 S9 ∧ xp E S9)) args s 1 6 A) (F0 m 39 ls [.int t2, .int t1, .ref b0]) := by
  obtain ⟨hx, hb, hml, hown, hts⟩ := id F
  have hwg : ∀ w ∈ WG, w.before args s = true := fun w h => hts w (List.mem_cons_of_mem _ h)
  have i_16 : ∀ w ∈ u_ws RX11 TX11 18, w ∈ wz_X11_checkers := fun w h => List.mem_cons_of_mem _ (wu_16 w h)
  have k_28 := hwg _ wf_RX11_28
  intro S H locs ls a0 b0 t1 t2 hp hW hE hl hL_a0 hK_a0 hL_b0 hK_b0
  unfold wp_X11_checkers_39 at hp
  refine lv_aload_n hx hb dX11_checkers_39 rfl (lv_at hl 0 rfl) ?_
  obtain ⟨y_1, ey_1, hL_y_1, hK_y_1, hp⟩ := hp
  refine w_get (k := 16) (f := 2) (T := TX11) (v := .ref y_1) F hK hW hL_a0 hK_a0 (by decide) rfl rfl (by decide) i_16 k_28 (by rw [show wv 16 2 S a0 = va_rf (sR S a0 2) from rfl, ey_1]; rfl) dX11_checkers_40 ?_
  refine w_callJ (va_runV (As := []) (rest := [.int t2, .int t1, .ref b0]) F (c_X7_occupied l hL_y_1 hK_y_1 hp H.size) (cwV (C := RX7) 0 hts (wg_V wm_RX11_199 wy_X7_occupied) rfl rfl rfl (by decide +kernel) ⟨Nat.le_of_ble_eq_true rfl, Nat.le_of_ble_eq_true rfl⟩) (w_preV hK hW hL_y_1 hK_y_1 (by decide) rfl) rfl rfl hl.1 rfl (lv_room (Nat.le_of_ble_eq_true rfl)) dX11_checkers_43 ⟨Nat.le_of_ble_eq_true rfl, Nat.le_of_ble_eq_true rfl⟩) hW (fun r_2 S_3 H locs hp hW => ?_)
  obtain ⟨hX_S_3, hp⟩ := hp
  refine W.widen (k := 1) (n := 6) (by decide) (by decide) ?_
  have hE := hE.trans hX_S_3
  have hK_a0 : sK S_3 a0 = 16 := (hX_S_3.2 a0 hL_a0).1.trans hK_a0
  have hL_a0 : wM D S_3 a0 := hX_S_3.M hL_a0
  have hK_b0 : sK S_3 b0 = 12 := (hX_S_3.2 b0 hL_b0).1.trans hK_b0
  have hL_b0 : wM D S_3 b0 := hX_S_3.M hL_b0
  refine w_callJ (va_runV (As := [.int t1, .int t2, .long r_2]) (rest := []) F (c_X7_attackers l hL_b0 hK_b0 hp H.size) (cwV (C := RX7) 3 hts (wg_V wm_RX11_213 wy_X7_attackers) rfl rfl rfl (by decide +kernel) ⟨Nat.le_of_ble_eq_true rfl, Nat.le_of_ble_eq_true rfl⟩) (w_preV hK hW hL_b0 hK_b0 (by decide) rfl) rfl rfl hl.1 rfl (lv_room (Nat.le_of_ble_eq_true rfl)) dX11_checkers_46 ⟨Nat.le_of_ble_eq_true rfl, Nat.le_of_ble_eq_true rfl⟩) hW (fun r_4 S_5 H locs hp hW => ?_)
  obtain ⟨hX_S_5, hp⟩ := hp
  refine W.widen (k := 1) (n := 6) (by decide) (by decide) ?_
  have hE := hE.trans hX_S_5
  have hK_a0 : sK S_5 a0 = 16 := (hX_S_5.2 a0 hL_a0).1.trans hK_a0
  have hL_a0 : wM D S_5 a0 := hX_S_5.M hL_a0
  refine w_callI (va_runS (As := [.long r_4]) (rest := []) F (c_J13_bitCount_95d88 l hp H.size) (va_cwS 1 hts (wg_S wm_RX11_203 wy_J13_bitCount_95d88) rfl rfl rfl (by decide +kernel) ⟨Nat.le_of_ble_eq_true rfl, Nat.le_of_ble_eq_true rfl⟩) (w_preS hK hW) rfl rfl hl.1 rfl (lv_room (Nat.le_of_ble_eq_true rfl)) dX11_checkers_49 ⟨Nat.le_of_ble_eq_true rfl, Nat.le_of_ble_eq_true rfl⟩) hW (fun r_6 S_7 H locs hp hW => ?_)
  obtain ⟨hX_S_7, hp⟩ := hp
  refine W.widen (k := 1) (n := 6) (by decide) (by decide) ?_
  have hE := hE.trans hX_S_7
  have hK_a0 : sK S_7 a0 = 16 := (hX_S_7.2 a0 hL_a0).1.trans hK_a0
  have hL_a0 : wM D S_7 a0 := hX_S_7.M hL_a0
  refine vx_ret ?_
  exact w_iret hx hb hr hlocks hW ⟨hE, hp⟩ dX11_checkers_52
set_option maxHeartbeats 4000000 in
set_option maxRecDepth 100000 in
theorem t_X11_checkers_0 {p : Program} {l : Launch} {e : Env} {s : State} {m : MethodId} {args : Array Value} {below : List Frame} {meth : Method} {c : Code} {D : wD} {cy : Nat → ClassId} {X : va_W} {A : Nat → Prop} {S0 : wS} {post : Int32 → wS → Prop} {xp : String → wS → Prop} (F : CallFix p m c cX11_checkers 2 s args wz_X11_checkers RX11) (hr : meth.sig.returnType = (some .int)) (hlocks : meth.locks = false) (hK : wK D cy A s) (hl0 : l.stackTraces = false) (hexc : ∀ x ∈ c.exceptionTable.toList, False) : ∀ {S : wS} {H : Heap} {locs : List Loc} {ls : Array Slot} {a0 : Nat}, wp_X11_checkers_0 D post xp S a0 → wO D cy X A s.heap S H locs → wX D S0 S → lv_has ls 2 [(0, .ref a0)] → wM D S a0 → sK S a0 = 16 → W p l e r_X11_checkers s m args below meth c H locs 0 0 (vx_MQ below (va_Qi (fun r S9 => wX D S0 S9 ∧ post r S9) (wB D cy X A) A) (wEx D cy X A (fun E S9 => wX D S0 S9 ∧ xp E S9)) args s 1 6 A) (F0 m 0 ls []) := by
  obtain ⟨hx, hb, hml, hown, hts⟩ := id F
  have hwg : ∀ w ∈ WG, w.before args s = true := fun w h => hts w (List.mem_cons_of_mem _ h)
  have i_12 : ∀ w ∈ u_ws RX7 TX7 8, w ∈ wz_X11_checkers := fun w h => List.mem_cons_of_mem _ (wu_12 w h)
  have i_16 : ∀ w ∈ u_ws RX11 TX11 18, w ∈ wz_X11_checkers := fun w h => List.mem_cons_of_mem _ (wu_16 w h)
  have k_28 := hwg _ wf_RX11_28
  intro S H locs ls a0 hp hW hE hl hL_a0 hK_a0
  unfold wp_X11_checkers_0 at hp
  refine lv_aload_n hx hb dX11_checkers_0 rfl (lv_at hl 0 rfl) ?_
  refine x_callV (vx_runV (As := []) (rest := []) F (c_X11_mustBeLawful l hl0 hL_a0 hK_a0 hp H.size) (cwV (C := RX11) 0 hts (wg_V wm_RX11_217 wy_X11_mustBeLawful) rfl rfl rfl (by decide +kernel) ⟨Nat.le_of_ble_eq_true rfl, Nat.le_of_ble_eq_true rfl⟩) (w_preV hK hW hL_a0 hK_a0 (by decide) rfl) rfl rfl hl.1 rfl (lv_room (Nat.le_of_ble_eq_true rfl)) dX11_checkers_1 ⟨Nat.le_of_ble_eq_true rfl, Nat.le_of_ble_eq_true rfl⟩) hW (fun E ce q9 S9 H locs hp hW h1 h2 h3 => x_out hexc hlocks ⟨hE.trans hp.1, hp.2⟩ hW h1 h2 h3 (by decide) (by decide)) (fun S_2 H locs hp hW => ?_)
  obtain ⟨hX_S_2, hp⟩ := hp
  refine W.widen (k := 1) (n := 6) (by decide) (by decide) ?_
  have hE := hE.trans hX_S_2
  have hK_a0 : sK S_2 a0 = 16 := (hX_S_2.2 a0 hL_a0).1.trans hK_a0
  have hL_a0 : wM D S_2 a0 := hX_S_2.M hL_a0
  refine lv_aload_n hx hb dX11_checkers_4 rfl (lv_at hl 0 rfl) ?_
  obtain ⟨y_3, ey_3, hL_y_3, hK_y_3, hp⟩ := hp
  refine w_get (k := 16) (f := 2) (T := TX11) (v := .ref y_3) F hK hW hL_a0 hK_a0 (by decide) rfl rfl (by decide) i_16 k_28 (by rw [show wv 16 2 S_2 a0 = va_rf (sR S_2 a0 2) from rfl, ey_3]; rfl) dX11_checkers_5 ?_
  refine lv_aload_n hx hb dX11_checkers_8 rfl (lv_at hl 0 rfl) ?_
  obtain ⟨y_4, ey_4, hL_y_4, hK_y_4, hp⟩ := hp
  refine w_get (k := 16) (f := 2) (T := TX11) (v := .ref y_4) F hK hW hL_a0 hK_a0 (by decide) rfl rfl (by decide) i_16 k_28 (by rw [show wv 16 2 S_2 a0 = va_rf (sR S_2 a0 2) from rfl, ey_4]; rfl) dX11_checkers_9 ?_
  refine w_getN (k := 12) (f := 5) (T := TX7) (v := .int (sI S_2 y_4 5)) F hK hW hL_y_4 hK_y_4 (by decide) rfl rfl (by decide) i_12 (hK.2.1 (.fieldLinkNest "OpeningsCabinet" 183 "OpeningsCabinet$Position" "isWhite" "Z" "OpeningsCabinet") (by decide +kernel)) rfl dX11_checkers_12 ?_
  refine w_callI (va_runV (As := [.int (sI S_2 y_4 5)]) (rest := []) F (c_X7_kingOf l hL_y_3 hK_y_3 hp H.size) (cwV (C := RX7) 1 hts (wg_V wm_RX11_220 wy_X7_kingOf) rfl rfl rfl (by decide +kernel) ⟨Nat.le_of_ble_eq_true rfl, Nat.le_of_ble_eq_true rfl⟩) (w_preV hK hW hL_y_3 hK_y_3 (by decide) rfl) rfl rfl hl.1 rfl (lv_room (Nat.le_of_ble_eq_true rfl)) dX11_checkers_15 ⟨Nat.le_of_ble_eq_true rfl, Nat.le_of_ble_eq_true rfl⟩) hW (fun r_5 S_6 H locs hp hW => ?_)
  obtain ⟨hX_S_6, hp⟩ := hp
  refine W.widen (k := 1) (n := 6) (by decide) (by decide) ?_
  have hE := hE.trans hX_S_6
  have hK_a0 : sK S_6 a0 = 16 := (hX_S_6.2 a0 hL_a0).1.trans hK_a0
  have hL_a0 : wM D S_6 a0 := hX_S_6.M hL_a0
  refine lv_istore_n (lv' := [(1, .int r_5), (0, .ref a0)]) hx hb dX11_checkers_18 rfl hl (by decide) rfl (fun ls hl => ?_)
  refine lv_aload_n hx hb dX11_checkers_19 rfl (lv_at hl 1 rfl) ?_
  obtain ⟨y_7, ey_7, hL_y_7, hK_y_7, hp⟩ := hp
  refine w_get (k := 16) (f := 2) (T := TX11) (v := .ref y_7) F hK hW hL_a0 hK_a0 (by decide) rfl rfl (by decide) i_16 k_28 (by rw [show wv 16 2 S_6 a0 = va_rf (sR S_6 a0 2) from rfl, ey_7]; rfl) dX11_checkers_20 ?_
  refine lv_iload_n hx hb dX11_checkers_23 rfl (lv_at hl 0 rfl) ?_
  refine lv_aload_n hx hb dX11_checkers_24 rfl (lv_at hl 1 rfl) ?_
  obtain ⟨y_8, ey_8, hL_y_8, hK_y_8, hp⟩ := hp
  refine w_get (k := 16) (f := 2) (T := TX11) (v := .ref y_8) F hK hW hL_a0 hK_a0 (by decide) rfl rfl (by decide) i_16 k_28 (by rw [show wv 16 2 S_6 a0 = va_rf (sR S_6 a0 2) from rfl, ey_8]; rfl) dX11_checkers_25 ?_
  refine w_getN (k := 12) (f := 5) (T := TX7) (v := .int (sI S_6 y_8 5)) F hK hW hL_y_8 hK_y_8 (by decide) rfl rfl (by decide) i_12 (hK.2.1 (.fieldLinkNest "OpeningsCabinet" 183 "OpeningsCabinet$Position" "isWhite" "Z" "OpeningsCabinet") (by decide +kernel)) rfl dX11_checkers_28 ?_
  refine lv_if_ne (tgt := 38) hx hb dX11_checkers_31 (by decide) (fun c_9 => ?_) (fun c_9 => ?_)
  · replace hp := hp.1 c_9
    refine lv_iconst (v := 0) hx hb dX11_checkers_38 (by decide) ?_
    exact t_X11_checkers_39 F hr hlocks hK hl0 hexc hp hW hE (lv_sub hl [1] rfl) hL_a0 hK_a0 hL_y_7 hK_y_7
  · replace hp := hp.2 c_9
    refine lv_iconst (v := 1) hx hb dX11_checkers_34 (by decide) ?_
    refine lv_goto (tgt := 39) hx hb dX11_checkers_35 (by decide) ?_
    exact t_X11_checkers_39 F hr hlocks hK hl0 hexc hp hW hE (lv_sub hl [1] rfl) hL_a0 hK_a0 hL_y_7 hK_y_7
set_option maxHeartbeats 4000000 in
set_option maxRecDepth 100000 in
theorem c_X11_checkers (l : Launch) {D : wD} {cy : Nat → ClassId} {X : va_W} {S0 : wS} {post : Int32 → wS → Prop} {xp : String → wS → Prop} (hl0 : l.stackTraces = false) {a0 : Nat} (hL_a0 : wM D S0 a0) (hK_a0 : sK S0 a0 = 16) (hp : wp_X11_checkers D post xp S0 a0) : xI D cy X l yX11_checkers wz_X11_checkers r_X11_checkers [.ref a0] S0 (fun r S9 => wX D S0 S9 ∧ post r S9) (fun E S9 => wX D S0 S9 ∧ xp E S9) := by
  intro sz
  refine vx_ofW (cc := cX11_checkers) (maxL := 2) (ret := (some .int)) (by decide) rfl ?_
  intro p e s m args below meth c s₁ B hml hexc hv
  obtain ⟨rfl, hsz, hP, hK, hD0, hRO⟩ := hv
  have hts := atoms_spec (ws := wz_X11_checkers) B.pre
  have hown : s.vm.findClass RX11 = some m.cls := findClass_of_methodNamed B.named
  subst hsz
  have hD := hD0.self (sz := s.heap.size)
  have F : CallFix p m c cX11_checkers 2 s _ wz_X11_checkers RX11 := ⟨B.exec, B.bytes, hml, hown, hts⟩
  have hr := B.returns
  have hlocks := B.notSynchronized
  generalize hAe : va_A (wL cy X S0) s.heap.size = A at hD hK ⊢
  have hA : ∀ q, s.heap.size ≤ q → A q := fun q h => by rw [← hAe]; exact Or.inr h
  have hW : wO D cy X A s.heap S0 s.heap [] := ⟨hP, hD, va_S.rf, hA, hRO⟩
  have hl := lv_entry ([.ref a0]) (n := 2) (Nat.le_of_ble_eq_true rfl)
  rw [lg_entry_eq]
  generalize (lg_sl ([.ref a0]) ++ List.replicate (2 - (lg_sl ([.ref a0])).length) Slot.unset).toArray = ls at hl ⊢
  have hl : lv_has ls 2 [(0, .ref a0)] := hl
  unfold wp_X11_checkers at hp
  exact t_X11_checkers_0 F hr hlocks hK hl0 hexc hp hW wX.rf (lv_sub hl [0] rfl) hL_a0 hK_a0
def wp_X4_codeAt_31 (D : wD) (post : Int32 → wS → Prop)  (S : wS) (t0 : Int32) : Prop :=
post t0 S
def wp_X4_codeAt_30 (D : wD) (post : Int32 → wS → Prop)  (S : wS) : Prop :=
wp_X4_codeAt_31 D post S (0 : Int32)
def wp_X4_codeAt_0 (D : wD) (post : Int32 → wS → Prop)  (S : wS) (a0 : Nat) (x1 : Int32) : Prop :=
((x1 < 0 → wp_X4_codeAt_30 D post S) ∧
 (¬ x1 < 0 → (((sI S a0 7) ≤ x1 → wp_X4_codeAt_30 D post S) ∧
 (¬ (sI S a0 7) ≤ x1 → ∃ y_3 : Nat, sR S a0 4 = some y_3 ∧ wM D S y_3 ∧ sK S y_3 = 21 ∧
(((Int32.ofNat (sN S y_3)) ≤ x1 → wp_X4_codeAt_30 D post S) ∧
 (¬ (Int32.ofNat (sN S y_3)) ≤ x1 → ∃ y_5 : Nat, sR S a0 4 = some y_5 ∧ wM D S y_5 ∧ sK S y_5 = 21 ∧
vp_in x1 (sN S y_5) ∧
wp_X4_codeAt_31 D post S (sI S y_5 (x1).toNatClampNeg)))))))
abbrev r_X4_codeAt : Room := { frames := 0, cells := 0, slots := 0, locals := 0 }
def wp_X4_codeAt (D : wD) (post : Int32 → wS → Prop) (S : wS) (a0 : Nat) (x1 : Int32) : Prop := wp_X4_codeAt_0 D post S a0 x1
set_option maxHeartbeats 4000000 in
set_option maxRecDepth 100000 in
theorem t_X4_codeAt_31 {p : Program} {l : Launch} {e : Env} {s : State} {m : MethodId} {args : Array Value} {below : List Frame} {meth : Method} {c : Code} {D : wD} {cy : Nat → ClassId} {X : va_W} {A : Nat → Prop} {S0 : wS} {post : Int32 → wS → Prop} (F : CallFix p m c cX4_codeAt 2 s args wz_X4_codeAt RX4) (hr : meth.sig.returnType = (some .int)) (hlocks : meth.locks = false) (hK : wK D cy A s) : ∀ {S : wS} {H : Heap} {locs : List Loc} {ls : Array Slot} {t0 : Int32}, wp_X4_codeAt_31 D post S t0 → wO D cy X A s.heap S H locs → wX D S0 S → lv_has ls 2 [] → W p l e r_X4_codeAt s m args below meth c H locs 0 0 (MQ below (va_Qi (fun r S9 => wX D S0 S9 ∧ post r S9) (wB D cy X A) A) args s 0 0 A) (F0 m 31 ls [.int t0]) := by
  obtain ⟨hx, hb, hml, hown, hts⟩ := id F
  have hwg : ∀ w ∈ WG, w.before args s = true := fun w h => hts w (List.mem_cons_of_mem _ h)
  intro S H locs ls t0 hp hW hE hl
  unfold wp_X4_codeAt_31 at hp
  exact w_iret hx hb hr hlocks hW ⟨hE, hp⟩ dX4_codeAt_31
set_option maxHeartbeats 4000000 in
set_option maxRecDepth 100000 in
theorem t_X4_codeAt_30 {p : Program} {l : Launch} {e : Env} {s : State} {m : MethodId} {args : Array Value} {below : List Frame} {meth : Method} {c : Code} {D : wD} {cy : Nat → ClassId} {X : va_W} {A : Nat → Prop} {S0 : wS} {post : Int32 → wS → Prop} (F : CallFix p m c cX4_codeAt 2 s args wz_X4_codeAt RX4) (hr : meth.sig.returnType = (some .int)) (hlocks : meth.locks = false) (hK : wK D cy A s) : ∀ {S : wS} {H : Heap} {locs : List Loc} {ls : Array Slot}, wp_X4_codeAt_30 D post S → wO D cy X A s.heap S H locs → wX D S0 S → lv_has ls 2 [] → W p l e r_X4_codeAt s m args below meth c H locs 0 0 (MQ below (va_Qi (fun r S9 => wX D S0 S9 ∧ post r S9) (wB D cy X A) A) args s 0 0 A) (F0 m 30 ls []) := by
  obtain ⟨hx, hb, hml, hown, hts⟩ := id F
  have hwg : ∀ w ∈ WG, w.before args s = true := fun w h => hts w (List.mem_cons_of_mem _ h)
  intro S H locs ls hp hW hE hl
  unfold wp_X4_codeAt_30 at hp
  refine lv_iconst (v := 0) hx hb dX4_codeAt_30 (by decide) ?_
  exact t_X4_codeAt_31 F hr hlocks hK hp hW hE (lv_sub hl [] rfl)
set_option maxHeartbeats 4000000 in
set_option maxRecDepth 100000 in
theorem t_X4_codeAt_0 {p : Program} {l : Launch} {e : Env} {s : State} {m : MethodId} {args : Array Value} {below : List Frame} {meth : Method} {c : Code} {D : wD} {cy : Nat → ClassId} {X : va_W} {A : Nat → Prop} {S0 : wS} {post : Int32 → wS → Prop} (F : CallFix p m c cX4_codeAt 2 s args wz_X4_codeAt RX4) (hr : meth.sig.returnType = (some .int)) (hlocks : meth.locks = false) (hK : wK D cy A s) : ∀ {S : wS} {H : Heap} {locs : List Loc} {ls : Array Slot} {a0 : Nat} {x1 : Int32}, wp_X4_codeAt_0 D post S a0 x1 → wO D cy X A s.heap S H locs → wX D S0 S → lv_has ls 2 [(0, .ref a0), (1, .int x1)] → wM D S a0 → sK S a0 = 9 → W p l e r_X4_codeAt s m args below meth c H locs 0 0 (MQ below (va_Qi (fun r S9 => wX D S0 S9 ∧ post r S9) (wB D cy X A) A) args s 0 0 A) (F0 m 0 ls []) := by
  obtain ⟨hx, hb, hml, hown, hts⟩ := id F
  have hwg : ∀ w ∈ WG, w.before args s = true := fun w h => hts w (List.mem_cons_of_mem _ h)
  have i_9 : ∀ w ∈ u_ws RX4 TX4 8, w ∈ wz_X4_codeAt := fun w h => List.mem_cons_of_mem _ (wu_9 w h)
  have k_11 := hwg _ wf_RX4_11
  have k_23 := hwg _ wf_RX4_23
  intro S H locs ls a0 x1 hp hW hE hl hL_a0 hK_a0
  unfold wp_X4_codeAt_0 at hp
  refine lv_iload_n hx hb dX4_codeAt_0 rfl (lv_at hl 1 rfl) ?_
  refine lv_if_lt (tgt := 30) hx hb dX4_codeAt_1 (by decide) (fun c_1 => ?_) (fun c_1 => ?_)
  · replace hp := hp.1 c_1
    exact t_X4_codeAt_30 F hr hlocks hK hp hW hE (lv_sub hl [] rfl)
  · replace hp := hp.2 c_1
    refine lv_iload_n hx hb dX4_codeAt_4 rfl (lv_at hl 1 rfl) ?_
    refine lv_aload_n hx hb dX4_codeAt_5 rfl (lv_at hl 0 rfl) ?_
    refine w_get (k := 9) (f := 7) (T := TX4) (v := .int (sI S a0 7)) F hK hW hL_a0 hK_a0 (by decide) rfl rfl (by decide) i_9 k_23 rfl dX4_codeAt_6 ?_
    refine lv_icmp_ge (tgt := 30) hx hb dX4_codeAt_9 (by decide) (fun c_2 => ?_) (fun c_2 => ?_)
    · replace hp := hp.1 c_2
      exact t_X4_codeAt_30 F hr hlocks hK hp hW hE (lv_sub hl [] rfl)
    · replace hp := hp.2 c_2
      refine lv_iload_n hx hb dX4_codeAt_12 rfl (lv_at hl 1 rfl) ?_
      refine lv_aload_n hx hb dX4_codeAt_13 rfl (lv_at hl 0 rfl) ?_
      obtain ⟨y_3, ey_3, hL_y_3, hK_y_3, hp⟩ := hp
      refine w_get (k := 9) (f := 4) (T := TX4) (v := .ref y_3) F hK hW hL_a0 hK_a0 (by decide) rfl rfl (by decide) i_9 k_11 (by rw [show wv 9 4 S a0 = va_rf (sR S a0 4) from rfl, ey_3]; rfl) dX4_codeAt_14 ?_
      refine w_len F hK hW hL_y_3 hK_y_3 (by decide) dX4_codeAt_17 ?_
      refine lv_icmp_ge (tgt := 30) hx hb dX4_codeAt_18 (by decide) (fun c_4 => ?_) (fun c_4 => ?_)
      · replace hp := hp.1 c_4
        exact t_X4_codeAt_30 F hr hlocks hK hp hW hE (lv_sub hl [] rfl)
      · replace hp := hp.2 c_4
        refine lv_aload_n hx hb dX4_codeAt_21 rfl (lv_at hl 0 rfl) ?_
        obtain ⟨y_5, ey_5, hL_y_5, hK_y_5, hp⟩ := hp
        refine w_get (k := 9) (f := 4) (T := TX4) (v := .ref y_5) F hK hW hL_a0 hK_a0 (by decide) rfl rfl (by decide) i_9 k_11 (by rw [show wv 9 4 S a0 = va_rf (sR S a0 4) from rfl, ey_5]; rfl) dX4_codeAt_22 ?_
        refine lv_iload_n hx hb dX4_codeAt_25 rfl (lv_at hl 1 rfl) ?_
        obtain ⟨h_6, hp⟩ := hp
        refine w_ild F hK hW hL_y_5 hK_y_5 h_6 dX4_codeAt_26 ?_
        refine lv_goto (tgt := 31) hx hb dX4_codeAt_27 (by decide) ?_
        exact t_X4_codeAt_31 F hr hlocks hK hp hW hE (lv_sub hl [] rfl)
set_option maxHeartbeats 4000000 in
set_option maxRecDepth 100000 in
theorem c_X4_codeAt (l : Launch) {D : wD} {cy : Nat → ClassId} {X : va_W} {S0 : wS} {post : Int32 → wS → Prop} {a0 : Nat} {x1 : Int32} (hL_a0 : wM D S0 a0) (hK_a0 : sK S0 a0 = 9) (hp : wp_X4_codeAt D post S0 a0 x1) : mI D cy X l yX4_codeAt wz_X4_codeAt r_X4_codeAt [.ref a0, .int x1] S0 (fun r S9 => wX D S0 S9 ∧ post r S9) := by
  intro sz
  refine Met.ofW (cc := cX4_codeAt) (maxL := 2) (ret := (some .int)) (by decide) rfl ?_
  intro p e s m args below meth c s₁ B hml hv
  obtain ⟨rfl, hsz, hP, hK, hD0, hRO⟩ := hv
  have hts := atoms_spec (ws := wz_X4_codeAt) B.pre
  have hown : s.vm.findClass RX4 = some m.cls := findClass_of_methodNamed B.named
  subst hsz
  have hD := hD0.self (sz := s.heap.size)
  have F : CallFix p m c cX4_codeAt 2 s _ wz_X4_codeAt RX4 := ⟨B.exec, B.bytes, hml, hown, hts⟩
  have hr := B.returns
  have hlocks := B.notSynchronized
  generalize hAe : va_A (wL cy X S0) s.heap.size = A at hD hK ⊢
  have hA : ∀ q, s.heap.size ≤ q → A q := fun q h => by rw [← hAe]; exact Or.inr h
  have hW : wO D cy X A s.heap S0 s.heap [] := ⟨hP, hD, va_S.rf, hA, hRO⟩
  have hl := lv_entry ([.ref a0, .int x1]) (n := 2) (Nat.le_of_ble_eq_true rfl)
  rw [lg_entry_eq]
  generalize (lg_sl ([.ref a0, .int x1]) ++ List.replicate (2 - (lg_sl ([.ref a0, .int x1])).length) Slot.unset).toArray = ls at hl ⊢
  have hl : lv_has ls 2 [(0, .ref a0), (1, .int x1)] := hl
  unfold wp_X4_codeAt at hp
  exact t_X4_codeAt_0 F hr hlocks hK hp hW wX.rf (lv_sub hl [0, 1] rfl) hL_a0 hK_a0
def wp_X7_copy_0 (D : wD) (post : wS → Prop)  (S : wS) (a0 : Nat) (a1 : Nat) : Prop :=
∀ S_1 : wS, S_1 = uJ S a0 1 (sJ S a1 1) →
∀ S_2 : wS, S_2 = uJ S_1 a0 2 (sJ S_1 a1 2) →
∀ S_3 : wS, S_3 = uJ S_2 a0 3 (sJ S_2 a1 3) →
∀ S_4 : wS, S_4 = uJ S_3 a0 4 (sJ S_3 a1 4) →
narrow .boolean (.int (sI S_4 a1 5)) = .int (sI S_4 a1 5) ∧ fits .boolean (.int (sI S_4 a1 5)) = true ∧
∀ S_5 : wS, S_5 = uI S_4 a0 5 (sI S_4 a1 5) →
∀ S_7 : wS, S_7 = uI S_5 a0 6 (sI S_5 a1 6) →
∀ S_8 : wS, S_8 = uI S_7 a0 7 (sI S_7 a1 7) →
post S_8
abbrev r_X7_copy : Room := { frames := 0, cells := 0, slots := 0, locals := 0 }
def wp_X7_copy (D : wD) (post : wS → Prop) (S : wS) (a0 : Nat) (a1 : Nat) : Prop := wp_X7_copy_0 D post S a0 a1
set_option maxHeartbeats 4000000 in
set_option maxRecDepth 100000 in
theorem t_X7_copy_0 {p : Program} {l : Launch} {e : Env} {s : State} {m : MethodId} {args : Array Value} {below : List Frame} {meth : Method} {c : Code} {D : wD} {cy : Nat → ClassId} {X : va_W} {A : Nat → Prop} {S0 : wS} {post : wS → Prop} (F : CallFix p m c cX7_copy 2 s args wz_X7_copy RX7) (hr : meth.sig.returnType = none) (hlocks : meth.locks = false) (hK : wK D cy A s) : ∀ {S : wS} {H : Heap} {locs : List Loc} {ls : Array Slot} {a0 : Nat} {a1 : Nat}, wp_X7_copy_0 D post S a0 a1 → wO D cy X A s.heap S H locs → wX D S0 S → lv_has ls 2 [(0, .ref a0), (1, .ref a1)] → wM D S a0 → sK S a0 = 12 → wM D S a1 → sK S a1 = 12 → W p l e r_X7_copy s m args below meth c H locs 0 0 (MQ below (va_Qv (fun S9 => wX D S0 S9 ∧ post S9) (wB D cy X A) A) args s 0 0 A) (F0 m 0 ls []) := by
  obtain ⟨hx, hb, hml, hown, hts⟩ := id F
  have hwg : ∀ w ∈ WG, w.before args s = true := fun w h => hts w (List.mem_cons_of_mem _ h)
  have i_12 : ∀ w ∈ u_ws RX7 TX7 8, w ∈ wz_X7_copy := fun w h => List.mem_cons_of_mem _ (wu_12 w h)
  have k_15 := hwg _ wf_RX7_15
  have k_18 := hwg _ wf_RX7_18
  have k_21 := hwg _ wf_RX7_21
  have k_24 := hwg _ wf_RX7_24
  have k_28 := hwg _ wf_RX7_28
  have k_32 := hwg _ wf_RX7_32
  have k_9 := hwg _ wf_RX7_9
  intro S H locs ls a0 a1 hp hW hE hl hL_a0 hK_a0 hL_a1 hK_a1
  unfold wp_X7_copy_0 at hp
  refine lv_aload_n hx hb dX7_copy_0 rfl (lv_at hl 0 rfl) ?_
  refine lv_aload_n hx hb dX7_copy_1 rfl (lv_at hl 1 rfl) ?_
  refine w_get (k := 12) (f := 1) (T := TX7) (v := .long (sJ S a1 1)) F hK hW hL_a1 hK_a1 (by decide) rfl rfl (by decide) i_12 k_9 rfl dX7_copy_2 ?_
  refine w_putJ (k := 12) (f := 1) (T := TX7) F hK hW hL_a0 hK_a0 (by decide) (by decide) rfl rfl (by decide) i_12 tyX7 tyX7_ok nmX7 k_9 rfl rfl rfl dX7_copy_5 (fun H locs hW => ?_)
  obtain ⟨S_1, eS_1⟩ : ∃ z : wS, z = uJ S a0 1 (sJ S a1 1) := ⟨_, rfl⟩
  rw [← eS_1] at hW
  replace hp := hp S_1 eS_1
  have hX_S_1 : wX D S S_1 := by rw [eS_1]; exact wX_uJ
  have hE := hE.trans hX_S_1
  have hK_a0 : sK S_1 a0 = 12 := (hX_S_1.2 a0 hL_a0).1.trans hK_a0
  have hL_a0 : wM D S_1 a0 := hX_S_1.M hL_a0
  have hK_a1 : sK S_1 a1 = 12 := (hX_S_1.2 a1 hL_a1).1.trans hK_a1
  have hL_a1 : wM D S_1 a1 := hX_S_1.M hL_a1
  refine lv_aload_n hx hb dX7_copy_8 rfl (lv_at hl 0 rfl) ?_
  refine lv_aload_n hx hb dX7_copy_9 rfl (lv_at hl 1 rfl) ?_
  refine w_get (k := 12) (f := 2) (T := TX7) (v := .long (sJ S_1 a1 2)) F hK hW hL_a1 hK_a1 (by decide) rfl rfl (by decide) i_12 k_15 rfl dX7_copy_10 ?_
  refine w_putJ (k := 12) (f := 2) (T := TX7) F hK hW hL_a0 hK_a0 (by decide) (by decide) rfl rfl (by decide) i_12 tyX7 tyX7_ok nmX7 k_15 rfl rfl rfl dX7_copy_13 (fun H locs hW => ?_)
  obtain ⟨S_2, eS_2⟩ : ∃ z : wS, z = uJ S_1 a0 2 (sJ S_1 a1 2) := ⟨_, rfl⟩
  rw [← eS_2] at hW
  replace hp := hp S_2 eS_2
  have hX_S_2 : wX D S_1 S_2 := by rw [eS_2]; exact wX_uJ
  have hE := hE.trans hX_S_2
  have hK_a0 : sK S_2 a0 = 12 := (hX_S_2.2 a0 hL_a0).1.trans hK_a0
  have hL_a0 : wM D S_2 a0 := hX_S_2.M hL_a0
  have hK_a1 : sK S_2 a1 = 12 := (hX_S_2.2 a1 hL_a1).1.trans hK_a1
  have hL_a1 : wM D S_2 a1 := hX_S_2.M hL_a1
  refine lv_aload_n hx hb dX7_copy_16 rfl (lv_at hl 0 rfl) ?_
  refine lv_aload_n hx hb dX7_copy_17 rfl (lv_at hl 1 rfl) ?_
  refine w_get (k := 12) (f := 3) (T := TX7) (v := .long (sJ S_2 a1 3)) F hK hW hL_a1 hK_a1 (by decide) rfl rfl (by decide) i_12 k_18 rfl dX7_copy_18 ?_
  refine w_putJ (k := 12) (f := 3) (T := TX7) F hK hW hL_a0 hK_a0 (by decide) (by decide) rfl rfl (by decide) i_12 tyX7 tyX7_ok nmX7 k_18 rfl rfl rfl dX7_copy_21 (fun H locs hW => ?_)
  obtain ⟨S_3, eS_3⟩ : ∃ z : wS, z = uJ S_2 a0 3 (sJ S_2 a1 3) := ⟨_, rfl⟩
  rw [← eS_3] at hW
  replace hp := hp S_3 eS_3
  have hX_S_3 : wX D S_2 S_3 := by rw [eS_3]; exact wX_uJ
  have hE := hE.trans hX_S_3
  have hK_a0 : sK S_3 a0 = 12 := (hX_S_3.2 a0 hL_a0).1.trans hK_a0
  have hL_a0 : wM D S_3 a0 := hX_S_3.M hL_a0
  have hK_a1 : sK S_3 a1 = 12 := (hX_S_3.2 a1 hL_a1).1.trans hK_a1
  have hL_a1 : wM D S_3 a1 := hX_S_3.M hL_a1
  refine lv_aload_n hx hb dX7_copy_24 rfl (lv_at hl 0 rfl) ?_
  refine lv_aload_n hx hb dX7_copy_25 rfl (lv_at hl 1 rfl) ?_
  refine w_get (k := 12) (f := 4) (T := TX7) (v := .long (sJ S_3 a1 4)) F hK hW hL_a1 hK_a1 (by decide) rfl rfl (by decide) i_12 k_21 rfl dX7_copy_26 ?_
  refine w_putJ (k := 12) (f := 4) (T := TX7) F hK hW hL_a0 hK_a0 (by decide) (by decide) rfl rfl (by decide) i_12 tyX7 tyX7_ok nmX7 k_21 rfl rfl rfl dX7_copy_29 (fun H locs hW => ?_)
  obtain ⟨S_4, eS_4⟩ : ∃ z : wS, z = uJ S_3 a0 4 (sJ S_3 a1 4) := ⟨_, rfl⟩
  rw [← eS_4] at hW
  replace hp := hp S_4 eS_4
  have hX_S_4 : wX D S_3 S_4 := by rw [eS_4]; exact wX_uJ
  have hE := hE.trans hX_S_4
  have hK_a0 : sK S_4 a0 = 12 := (hX_S_4.2 a0 hL_a0).1.trans hK_a0
  have hL_a0 : wM D S_4 a0 := hX_S_4.M hL_a0
  have hK_a1 : sK S_4 a1 = 12 := (hX_S_4.2 a1 hL_a1).1.trans hK_a1
  have hL_a1 : wM D S_4 a1 := hX_S_4.M hL_a1
  refine lv_aload_n hx hb dX7_copy_32 rfl (lv_at hl 0 rfl) ?_
  refine lv_aload_n hx hb dX7_copy_33 rfl (lv_at hl 1 rfl) ?_
  refine w_get (k := 12) (f := 5) (T := TX7) (v := .int (sI S_4 a1 5)) F hK hW hL_a1 hK_a1 (by decide) rfl rfl (by decide) i_12 k_24 rfl dX7_copy_34 ?_
  obtain ⟨h_6, h_6f, hp⟩ := hp
  refine w_putI (k := 12) (f := 5) (T := TX7) F hK hW hL_a0 hK_a0 (by decide) (by decide) rfl rfl (by decide) i_12 tyX7 tyX7_ok nmX7 k_24 rfl rfl (ty := .boolean) rfl h_6 h_6f dX7_copy_37 (fun H locs hW => ?_)
  obtain ⟨S_5, eS_5⟩ : ∃ z : wS, z = uI S_4 a0 5 (sI S_4 a1 5) := ⟨_, rfl⟩
  rw [← eS_5] at hW
  replace hp := hp S_5 eS_5
  have hX_S_5 : wX D S_4 S_5 := by rw [eS_5]; exact wX_uI
  have hE := hE.trans hX_S_5
  have hK_a0 : sK S_5 a0 = 12 := (hX_S_5.2 a0 hL_a0).1.trans hK_a0
  have hL_a0 : wM D S_5 a0 := hX_S_5.M hL_a0
  have hK_a1 : sK S_5 a1 = 12 := (hX_S_5.2 a1 hL_a1).1.trans hK_a1
  have hL_a1 : wM D S_5 a1 := hX_S_5.M hL_a1
  refine lv_aload_n hx hb dX7_copy_40 rfl (lv_at hl 0 rfl) ?_
  refine lv_aload_n hx hb dX7_copy_41 rfl (lv_at hl 1 rfl) ?_
  refine w_get (k := 12) (f := 6) (T := TX7) (v := .int (sI S_5 a1 6)) F hK hW hL_a1 hK_a1 (by decide) rfl rfl (by decide) i_12 k_28 rfl dX7_copy_42 ?_
  refine w_putI (k := 12) (f := 6) (T := TX7) F hK hW hL_a0 hK_a0 (by decide) (by decide) rfl rfl (by decide) i_12 tyX7 tyX7_ok nmX7 k_28 rfl rfl (ty := .int) rfl rfl rfl dX7_copy_45 (fun H locs hW => ?_)
  obtain ⟨S_7, eS_7⟩ : ∃ z : wS, z = uI S_5 a0 6 (sI S_5 a1 6) := ⟨_, rfl⟩
  rw [← eS_7] at hW
  replace hp := hp S_7 eS_7
  have hX_S_7 : wX D S_5 S_7 := by rw [eS_7]; exact wX_uI
  have hE := hE.trans hX_S_7
  have hK_a0 : sK S_7 a0 = 12 := (hX_S_7.2 a0 hL_a0).1.trans hK_a0
  have hL_a0 : wM D S_7 a0 := hX_S_7.M hL_a0
  have hK_a1 : sK S_7 a1 = 12 := (hX_S_7.2 a1 hL_a1).1.trans hK_a1
  have hL_a1 : wM D S_7 a1 := hX_S_7.M hL_a1
  refine lv_aload_n hx hb dX7_copy_48 rfl (lv_at hl 0 rfl) ?_
  refine lv_aload_n hx hb dX7_copy_49 rfl (lv_at hl 1 rfl) ?_
  refine w_get (k := 12) (f := 7) (T := TX7) (v := .int (sI S_7 a1 7)) F hK hW hL_a1 hK_a1 (by decide) rfl rfl (by decide) i_12 k_32 rfl dX7_copy_50 ?_
  refine w_putI (k := 12) (f := 7) (T := TX7) F hK hW hL_a0 hK_a0 (by decide) (by decide) rfl rfl (by decide) i_12 tyX7 tyX7_ok nmX7 k_32 rfl rfl (ty := .int) rfl rfl rfl dX7_copy_53 (fun H locs hW => ?_)
  obtain ⟨S_8, eS_8⟩ : ∃ z : wS, z = uI S_7 a0 7 (sI S_7 a1 7) := ⟨_, rfl⟩
  rw [← eS_8] at hW
  replace hp := hp S_8 eS_8
  have hX_S_8 : wX D S_7 S_8 := by rw [eS_8]; exact wX_uI
  have hE := hE.trans hX_S_8
  have hK_a0 : sK S_8 a0 = 12 := (hX_S_8.2 a0 hL_a0).1.trans hK_a0
  have hL_a0 : wM D S_8 a0 := hX_S_8.M hL_a0
  have hK_a1 : sK S_8 a1 = 12 := (hX_S_8.2 a1 hL_a1).1.trans hK_a1
  have hL_a1 : wM D S_8 a1 := hX_S_8.M hL_a1
  exact w_vret hx hb hr hlocks hW ⟨hE, hp⟩ dX7_copy_56
set_option maxHeartbeats 4000000 in
set_option maxRecDepth 100000 in
theorem c_X7_copy (l : Launch) {D : wD} {cy : Nat → ClassId} {X : va_W} {S0 : wS} {post : wS → Prop} {a0 : Nat} {a1 : Nat} (hL_a0 : wM D S0 a0) (hK_a0 : sK S0 a0 = 12) (hL_a1 : wM D S0 a1) (hK_a1 : sK S0 a1 = 12) (hp : wp_X7_copy D post S0 a0 a1) : mV D cy X l yX7_copy wz_X7_copy r_X7_copy [.ref a0, .ref a1] S0 (fun S9 => wX D S0 S9 ∧ post S9) := by
  intro sz
  refine Met.ofW (cc := cX7_copy) (maxL := 2) (ret := none) (by decide) rfl ?_
  intro p e s m args below meth c s₁ B hml hv
  obtain ⟨rfl, hsz, hP, hK, hD0, hRO⟩ := hv
  have hts := atoms_spec (ws := wz_X7_copy) B.pre
  have hown : s.vm.findClass RX7 = some m.cls := findClass_of_methodNamed B.named
  subst hsz
  have hD := hD0.self (sz := s.heap.size)
  have F : CallFix p m c cX7_copy 2 s _ wz_X7_copy RX7 := ⟨B.exec, B.bytes, hml, hown, hts⟩
  have hr := B.returns
  have hlocks := B.notSynchronized
  generalize hAe : va_A (wL cy X S0) s.heap.size = A at hD hK ⊢
  have hA : ∀ q, s.heap.size ≤ q → A q := fun q h => by rw [← hAe]; exact Or.inr h
  have hW : wO D cy X A s.heap S0 s.heap [] := ⟨hP, hD, va_S.rf, hA, hRO⟩
  have hl := lv_entry ([.ref a0, .ref a1]) (n := 2) (Nat.le_of_ble_eq_true rfl)
  rw [lg_entry_eq]
  generalize (lg_sl ([.ref a0, .ref a1]) ++ List.replicate (2 - (lg_sl ([.ref a0, .ref a1])).length) Slot.unset).toArray = ls at hl ⊢
  have hl : lv_has ls 2 [(0, .ref a0), (1, .ref a1)] := hl
  unfold wp_X7_copy at hp
  exact t_X7_copy_0 F hr hlocks hK hp hW wX.rf (lv_sub hl [0, 1] rfl) hL_a0 hK_a0 hL_a1 hK_a1
def wp_X11_lowest_0 (D : wD) (post : Int32 → wS → Prop)  (S : wS) (x0 : Int64) : Prop :=
wp_J13_bitCount_95d88 D (fun r_1 S_2 => 
post r_1 S_2) S ((x0 &&& (-x0)) - (1 : Int64))
abbrev r_X11_lowest : Room := { frames := 1, cells := 0, slots := 0, locals := 21 }
def wp_X11_lowest (D : wD) (post : Int32 → wS → Prop) (S : wS) (x0 : Int64) : Prop := wp_X11_lowest_0 D post S x0
set_option maxHeartbeats 4000000 in
set_option maxRecDepth 100000 in
theorem t_X11_lowest_0 {p : Program} {l : Launch} {e : Env} {s : State} {m : MethodId} {args : Array Value} {below : List Frame} {meth : Method} {c : Code} {D : wD} {cy : Nat → ClassId} {X : va_W} {A : Nat → Prop} {S0 : wS} {post : Int32 → wS → Prop} (F : CallFix p m c cX11_lowest 2 s args wz_X11_lowest RX11) (hr : meth.sig.returnType = (some .int)) (hlocks : meth.locks = false) (hK : wK D cy A s) : ∀ {S : wS} {H : Heap} {locs : List Loc} {ls : Array Slot} {x0 : Int64}, wp_X11_lowest_0 D post S x0 → wO D cy X A s.heap S H locs → wX D S0 S → lv_has ls 2 [(0, .long x0)] → W p l e r_X11_lowest s m args below meth c H locs 0 0 (MQ below (va_Qi (fun r S9 => wX D S0 S9 ∧ post r S9) (wB D cy X A) A) args s 0 0 A) (F0 m 0 ls []) := by
  obtain ⟨hx, hb, hml, hown, hts⟩ := id F
  have hwg : ∀ w ∈ WG, w.before args s = true := fun w h => hts w (List.mem_cons_of_mem _ h)
  intro S H locs ls x0 hp hW hE hl
  unfold wp_X11_lowest_0 at hp
  refine lv_lload_n hx hb dX11_lowest_0 rfl (lv_at hl 0 rfl) ?_
  refine lv_lload_n hx hb dX11_lowest_1 rfl (lv_at hl 0 rfl) ?_
  refine lv_lneg hx hb dX11_lowest_2 ?_
  refine lv_land hx hb dX11_lowest_3 ?_
  refine lv_lconst (v := 1) hx hb dX11_lowest_4 (by decide) ?_
  refine lv_lsub hx hb dX11_lowest_5 ?_
  refine w_callI (va_runS (As := [.long ((x0 &&& (-x0)) - (1 : Int64))]) (rest := []) F (c_J13_bitCount_95d88 l hp H.size) (va_cwS 1 hts (wg_S wm_RX11_203 wy_J13_bitCount_95d88) rfl rfl rfl (by decide +kernel) ⟨Nat.le_of_ble_eq_true rfl, Nat.le_of_ble_eq_true rfl⟩) (w_preS hK hW) rfl rfl hl.1 rfl (lv_room (Nat.le_of_ble_eq_true rfl)) dX11_lowest_6 ⟨Nat.le_of_ble_eq_true rfl, Nat.le_of_ble_eq_true rfl⟩) hW (fun r_1 S_2 H locs hp hW => ?_)
  obtain ⟨hX_S_2, hp⟩ := hp
  refine W.widen (k := 0) (n := 0) (by decide) (by decide) ?_
  have hE := hE.trans hX_S_2
  exact w_iret hx hb hr hlocks hW ⟨hE, hp⟩ dX11_lowest_9
set_option maxHeartbeats 4000000 in
set_option maxRecDepth 100000 in
theorem c_X11_lowest (l : Launch) {D : wD} {cy : Nat → ClassId} {X : va_W} {S0 : wS} {post : Int32 → wS → Prop} {x0 : Int64} (hp : wp_X11_lowest D post S0 x0) : mI D cy X l yX11_lowest wz_X11_lowest r_X11_lowest [.long x0] S0 (fun r S9 => wX D S0 S9 ∧ post r S9) := by
  intro sz
  refine Met.ofW (cc := cX11_lowest) (maxL := 2) (ret := (some .int)) (by decide) rfl ?_
  intro p e s m args below meth c s₁ B hml hv
  obtain ⟨rfl, hsz, hP, hK, hD0, hRO⟩ := hv
  have hts := atoms_spec (ws := wz_X11_lowest) B.pre
  have hown : s.vm.findClass RX11 = some m.cls := findClass_of_methodNamed B.named
  subst hsz
  have hD := hD0.self (sz := s.heap.size)
  have F : CallFix p m c cX11_lowest 2 s _ wz_X11_lowest RX11 := ⟨B.exec, B.bytes, hml, hown, hts⟩
  have hr := B.returns
  have hlocks := B.notSynchronized
  generalize hAe : va_A (wL cy X S0) s.heap.size = A at hD hK ⊢
  have hA : ∀ q, s.heap.size ≤ q → A q := fun q h => by rw [← hAe]; exact Or.inr h
  have hW : wO D cy X A s.heap S0 s.heap [] := ⟨hP, hD, va_S.rf, hA, hRO⟩
  have hl := lv_entry ([.long x0]) (n := 2) (Nat.le_of_ble_eq_true rfl)
  rw [lg_entry_eq]
  generalize (lg_sl ([.long x0]) ++ List.replicate (2 - (lg_sl ([.long x0])).length) Slot.unset).toArray = ls at hl ⊢
  have hl : lv_has ls 2 [(0, .long x0)] := hl
  unfold wp_X11_lowest at hp
  exact t_X11_lowest_0 F hr hlocks hK hp hW wX.rf (lv_sub hl [0] rfl)
def wp_X11_moveOf_0 (D : wD) (post : Int32 → wS → Prop)  (S : wS) (x0 : Int32) (x1 : Int32) (x2 : Int32) : Prop :=
post ((x0 ||| (x1 <<< ((6 : Int32) &&& 31))) ||| (x2 <<< ((12 : Int32) &&& 31))) S
abbrev r_X11_moveOf : Room := { frames := 0, cells := 0, slots := 0, locals := 0 }
def wp_X11_moveOf (D : wD) (post : Int32 → wS → Prop) (S : wS) (x0 : Int32) (x1 : Int32) (x2 : Int32) : Prop := wp_X11_moveOf_0 D post S x0 x1 x2
set_option maxHeartbeats 4000000 in
set_option maxRecDepth 100000 in
theorem t_X11_moveOf_0 {p : Program} {l : Launch} {e : Env} {s : State} {m : MethodId} {args : Array Value} {below : List Frame} {meth : Method} {c : Code} {D : wD} {cy : Nat → ClassId} {X : va_W} {A : Nat → Prop} {S0 : wS} {post : Int32 → wS → Prop} (F : CallFix p m c cX11_moveOf 3 s args wz_X11_moveOf RX11) (hr : meth.sig.returnType = (some .int)) (hlocks : meth.locks = false) (hK : wK D cy A s) : ∀ {S : wS} {H : Heap} {locs : List Loc} {ls : Array Slot} {x0 : Int32} {x1 : Int32} {x2 : Int32}, wp_X11_moveOf_0 D post S x0 x1 x2 → wO D cy X A s.heap S H locs → wX D S0 S → lv_has ls 3 [(0, .int x0), (1, .int x1), (2, .int x2)] → W p l e r_X11_moveOf s m args below meth c H locs 0 0 (MQ below (va_Qi (fun r S9 => wX D S0 S9 ∧ post r S9) (wB D cy X A) A) args s 0 0 A) (F0 m 0 ls []) := by
  obtain ⟨hx, hb, hml, hown, hts⟩ := id F
  have hwg : ∀ w ∈ WG, w.before args s = true := fun w h => hts w (List.mem_cons_of_mem _ h)
  intro S H locs ls x0 x1 x2 hp hW hE hl
  unfold wp_X11_moveOf_0 at hp
  refine lv_iload_n hx hb dX11_moveOf_0 rfl (lv_at hl 0 rfl) ?_
  refine lv_iload_n hx hb dX11_moveOf_1 rfl (lv_at hl 1 rfl) ?_
  refine lv_bipush (v := 6) hx hb dX11_moveOf_2 (by decide) ?_
  refine lv_ishl hx hb dX11_moveOf_4 ?_
  refine lv_ior hx hb dX11_moveOf_5 ?_
  refine lv_iload_n hx hb dX11_moveOf_6 rfl (lv_at hl 2 rfl) ?_
  refine lv_bipush (v := 12) hx hb dX11_moveOf_7 (by decide) ?_
  refine lv_ishl hx hb dX11_moveOf_9 ?_
  refine lv_ior hx hb dX11_moveOf_10 ?_
  exact w_iret hx hb hr hlocks hW ⟨hE, hp⟩ dX11_moveOf_11
set_option maxHeartbeats 4000000 in
set_option maxRecDepth 100000 in
theorem c_X11_moveOf (l : Launch) {D : wD} {cy : Nat → ClassId} {X : va_W} {S0 : wS} {post : Int32 → wS → Prop} {x0 : Int32} {x1 : Int32} {x2 : Int32} (hp : wp_X11_moveOf D post S0 x0 x1 x2) : mI D cy X l yX11_moveOf wz_X11_moveOf r_X11_moveOf [.int x0, .int x1, .int x2] S0 (fun r S9 => wX D S0 S9 ∧ post r S9) := by
  intro sz
  refine Met.ofW (cc := cX11_moveOf) (maxL := 3) (ret := (some .int)) (by decide) rfl ?_
  intro p e s m args below meth c s₁ B hml hv
  obtain ⟨rfl, hsz, hP, hK, hD0, hRO⟩ := hv
  have hts := atoms_spec (ws := wz_X11_moveOf) B.pre
  have hown : s.vm.findClass RX11 = some m.cls := findClass_of_methodNamed B.named
  subst hsz
  have hD := hD0.self (sz := s.heap.size)
  have F : CallFix p m c cX11_moveOf 3 s _ wz_X11_moveOf RX11 := ⟨B.exec, B.bytes, hml, hown, hts⟩
  have hr := B.returns
  have hlocks := B.notSynchronized
  generalize hAe : va_A (wL cy X S0) s.heap.size = A at hD hK ⊢
  have hA : ∀ q, s.heap.size ≤ q → A q := fun q h => by rw [← hAe]; exact Or.inr h
  have hW : wO D cy X A s.heap S0 s.heap [] := ⟨hP, hD, va_S.rf, hA, hRO⟩
  have hl := lv_entry ([.int x0, .int x1, .int x2]) (n := 3) (Nat.le_of_ble_eq_true rfl)
  rw [lg_entry_eq]
  generalize (lg_sl ([.int x0, .int x1, .int x2]) ++ List.replicate (3 - (lg_sl ([.int x0, .int x1, .int x2])).length) Slot.unset).toArray = ls at hl ⊢
  have hl : lv_has ls 3 [(0, .int x0), (1, .int x1), (2, .int x2)] := hl
  unfold wp_X11_moveOf at hp
  exact t_X11_moveOf_0 F hr hlocks hK hp hW wX.rf (lv_sub hl [0, 1, 2] rfl)
def wp_X8_addMoves_119 (D : wD) (post : Int32 → wS → Prop)  (S : wS) (x8 : Int32) : Prop :=
post x8 S
def wp_X8_addMoves_113 (D : wD) (post : Int32 → wS → Prop) (k_10 : wS → Nat → Int32 → Int64 → Int32 → Int64 → Int32 → Prop) (S : wS) (a1 : Nat) (x3 : Int32) (x6 : Int64) (x8 : Int32) (x9 : Int64) (x11 : Int32) : Prop :=
∀ x_1 : Int32, x_1 = x11 + 1 →
k_10 S a1 x3 x6 x8 x9 x_1
def wp_X8_addMoves_100 (D : wD) (post : Int32 → wS → Prop) (k_10 : wS → Nat → Int32 → Int64 → Int32 → Int64 → Int32 → Prop) (k_64 : wS → Nat → Int32 → Int64 → Int32 → Int64 → Int32 → Int32 → Int32 → Int32 → Int32 → Prop) (S : wS) (a1 : Nat) (x3 : Int32) (x6 : Int64) (x8 : Int32) (x9 : Int64) (x11 : Int32) (x12 : Int32) (x13 : Int32) (x14 : Int32) (x15 : Int32) (b0 : Nat) (t1 : Int32) (t2 : Int32) (t3 : Int32) (t4 : Int32) : Prop :=
wp_X11_moveOf D (fun r_1 S_2 => 
b0 ∈ sL S_2 ∧ vp_in t1 (sN S_2 b0) ∧
∀ S_4 : wS, S_4 = uI S_2 b0 (t1).toNatClampNeg r_1 →
∀ x_5 : Int32, x_5 = x8 + 1 →
∀ x_6 : Int32, x_6 = x15 + 1 →
k_64 S_4 a1 x3 x6 x_5 x9 x11 x12 x13 x14 x_6) S t2 t3 t4
def wp_X8_addMoves_64 (D : wD) (post : Int32 → wS → Prop) (k_10 : wS → Nat → Int32 → Int64 → Int32 → Int64 → Int32 → Prop) : Nat → wS → Nat → Int32 → Int64 → Int32 → Int64 → Int32 → Int32 → Int32 → Int32 → Int32 → Prop
  | 0, _, _, _, _, _, _, _, _, _, _, _ => False
  | n + 1, S, a1, x3, x6, x8, x9, x11, x12, x13, x14, x15 =>
    ((x14 < x15 → wp_X8_addMoves_113 D post k_10 S a1 x3 x6 x8 x9 x11) ∧
     (¬ x14 < x15 → ((x8 < 0 → wp_X8_addMoves_113 D post k_10 S a1 x3 x6 x8 x9 x11) ∧
     (¬ x8 < 0 → (((Int32.ofNat (sN S a1)) ≤ x8 → wp_X8_addMoves_113 D post k_10 S a1 x3 x6 x8 x9 x11) ∧
     (¬ (Int32.ofNat (sN S a1)) ≤ x8 → ((x13 = 0 → wp_X8_addMoves_100 D post k_10 (wp_X8_addMoves_64 D post k_10 n) S a1 x3 x6 x8 x9 x11 x12 x13 x14 x15 a1 x8 x3 x12 (0 : Int32)) ∧
     (¬ x13 = 0 → wp_X8_addMoves_100 D post k_10 (wp_X8_addMoves_64 D post k_10 n) S a1 x3 x6 x8 x9 x11 x12 x13 x14 x15 a1 x8 x3 x12 x15))))))))
def wp_X8_addMoves_59 (D : wD) (post : Int32 → wS → Prop) (k_10 : wS → Nat → Int32 → Int64 → Int32 → Int64 → Int32 → Prop) (S : wS) (a1 : Nat) (x3 : Int32) (x6 : Int64) (x8 : Int32) (x9 : Int64) (x11 : Int32) (x12 : Int32) (x13 : Int32) (t0 : Int32) : Prop :=
∃ n_1 : Nat, wp_X8_addMoves_64 D post k_10 n_1 S a1 x3 x6 x8 x9 x11 x12 x13 t0 (2 : Int32)
def wp_X8_addMoves_10 (D : wD) (post : Int32 → wS → Prop)  : Nat → wS → Nat → Int32 → Int64 → Int32 → Int64 → Int32 → Prop
  | 0, _, _, _, _, _, _, _ => False
  | n + 1, S, a1, x3, x6, x8, x9, x11 =>
    (((64 : Int32) ≤ x11 → wp_X8_addMoves_119 D post S x8) ∧
     (¬ (64 : Int32) ≤ x11 → (((lg_cmp x9 (0 : Int64)) = 0 → wp_X8_addMoves_119 D post S x8) ∧
     (¬ (lg_cmp x9 (0 : Int64)) = 0 → wp_X11_lowest D (fun r_3 S_4 => 
    ∀ x_5 : Int64, x_5 = (x9 &&& (x9 - (1 : Int64))) →
    wp_X11_contains D (fun r_6 S_7 => 
    ((r_6 = 0 → wp_X8_addMoves_59 D post (wp_X8_addMoves_10 D post n) S_7 a1 x3 x6 x8 x_5 x11 r_3 r_6 (2 : Int32)) ∧
     (¬ r_6 = 0 → wp_X8_addMoves_59 D post (wp_X8_addMoves_10 D post n) S_7 a1 x3 x6 x8 x_5 x11 r_3 r_6 (5 : Int32)))) S_4 x6 r_3) S x9))))
def wp_X8_addMoves_0 (D : wD) (post : Int32 → wS → Prop)  (S : wS) (a1 : Nat) (x2 : Int32) (x3 : Int32) (x4 : Int64) (x6 : Int64) : Prop :=
∃ n_1 : Nat, wp_X8_addMoves_10 D post n_1 S a1 x3 x6 x2 x4 (0 : Int32)
abbrev r_X8_addMoves : Room := { frames := 2, cells := 0, slots := 0, locals := 42 }
def wp_X8_addMoves (D : wD) (post : Int32 → wS → Prop) (S : wS) (a0 : Nat) (a1 : Nat) (x2 : Int32) (x3 : Int32) (x4 : Int64) (x6 : Int64) : Prop := wp_X8_addMoves_0 D post S a1 x2 x3 x4 x6
set_option maxHeartbeats 4000000 in
set_option maxRecDepth 100000 in
theorem t_X8_addMoves_119 {p : Program} {l : Launch} {e : Env} {s : State} {m : MethodId} {args : Array Value} {below : List Frame} {meth : Method} {c : Code} {D : wD} {cy : Nat → ClassId} {X : va_W} {A : Nat → Prop} {S0 : wS} {post : Int32 → wS → Prop} (F : CallFix p m c cX8_addMoves 16 s args wz_X8_addMoves RX8) (hr : meth.sig.returnType = (some .int)) (hlocks : meth.locks = false) (hK : wK D cy A s) : ∀ {S : wS} {H : Heap} {locs : List Loc} {ls : Array Slot} {x8 : Int32}, wp_X8_addMoves_119 D post S x8 → wO D cy X A s.heap S H locs → wX D S0 S → lv_has ls 16 [(8, .int x8)] → W p l e r_X8_addMoves s m args below meth c H locs 0 0 (MQ below (va_Qi (fun r S9 => wX D S0 S9 ∧ post r S9) (wB D cy X A) A) args s 0 0 A) (F0 m 119 ls []) := by
  obtain ⟨hx, hb, hml, hown, hts⟩ := id F
  have hwg : ∀ w ∈ WG, w.before args s = true := fun w h => hts w (List.mem_cons_of_mem _ h)
  intro S H locs ls x8 hp hW hE hl
  unfold wp_X8_addMoves_119 at hp
  refine lv_iload hx hb dX8_addMoves_119 (lv_at hl 0 rfl) ?_
  exact w_iret hx hb hr hlocks hW ⟨hE, hp⟩ dX8_addMoves_121
set_option maxHeartbeats 4000000 in
set_option maxRecDepth 100000 in
theorem t_X8_addMoves_113 {p : Program} {l : Launch} {e : Env} {s : State} {m : MethodId} {args : Array Value} {below : List Frame} {meth : Method} {c : Code} {D : wD} {cy : Nat → ClassId} {X : va_W} {A : Nat → Prop} {S0 : wS} {post : Int32 → wS → Prop} (F : CallFix p m c cX8_addMoves 16 s args wz_X8_addMoves RX8) (hr : meth.sig.returnType = (some .int)) (hlocks : meth.locks = false) (hK : wK D cy A s) {k_10 : wS → Nat → Int32 → Int64 → Int32 → Int64 → Int32 → Prop} (q_10 : ∀ {S : wS} {H : Heap} {locs : List Loc} {ls : Array Slot} {a1 : Nat} {x3 : Int32} {x6 : Int64} {x8 : Int32} {x9 : Int64} {x11 : Int32}, k_10 S a1 x3 x6 x8 x9 x11 → wO D cy X A s.heap S H locs → wX D S0 S → lv_has ls 16 [(1, .ref a1), (3, .int x3), (6, .long x6), (8, .int x8), (9, .long x9), (11, .int x11)] → wM D S a1 → sK S a1 = 21 → W p l e r_X8_addMoves s m args below meth c H locs 0 0 (MQ below (va_Qi (fun r S9 => wX D S0 S9 ∧ post r S9) (wB D cy X A) A) args s 0 0 A) (F0 m 10 ls [])) : ∀ {S : wS} {H : Heap} {locs : List Loc} {ls : Array Slot} {a1 : Nat} {x3 : Int32} {x6 : Int64} {x8 : Int32} {x9 : Int64} {x11 : Int32}, wp_X8_addMoves_113 D post k_10 S a1 x3 x6 x8 x9 x11 → wO D cy X A s.heap S H locs → wX D S0 S → lv_has ls 16 [(1, .ref a1), (3, .int x3), (6, .long x6), (8, .int x8), (9, .long x9), (11, .int x11)] → wM D S a1 → sK S a1 = 21 → W p l e r_X8_addMoves s m args below meth c H locs 0 0 (MQ below (va_Qi (fun r S9 => wX D S0 S9 ∧ post r S9) (wB D cy X A) A) args s 0 0 A) (F0 m 113 ls []) := by
  obtain ⟨hx, hb, hml, hown, hts⟩ := id F
  have hwg : ∀ w ∈ WG, w.before args s = true := fun w h => hts w (List.mem_cons_of_mem _ h)
  intro S H locs ls a1 x3 x6 x8 x9 x11 hp hW hE hl hL_a1 hK_a1
  unfold wp_X8_addMoves_113 at hp
  obtain ⟨x_1, ex_1⟩ : ∃ z : Int32, z = x11 + 1 := ⟨_, rfl⟩
  replace hp := hp x_1 ex_1
  refine lv_iinc (v := x_1) (lv' := [(11, .int x_1), (1, .ref a1), (3, .int x3), (6, .long x6), (8, .int x8), (9, .long x9)]) hx hb dX8_addMoves_113 hl (k := 5) rfl (by rw [ex_1]; rfl) (by decide) rfl (fun ls hl => ?_)
  refine lv_goto (tgt := 10) hx hb dX8_addMoves_116 (by decide) ?_
  exact q_10 hp hW hE (lv_sub hl [1, 2, 3, 4, 5, 0] rfl) hL_a1 hK_a1
set_option maxHeartbeats 4000000 in
set_option maxRecDepth 100000 in
theorem t_X8_addMoves_100 {p : Program} {l : Launch} {e : Env} {s : State} {m : MethodId} {args : Array Value} {below : List Frame} {meth : Method} {c : Code} {D : wD} {cy : Nat → ClassId} {X : va_W} {A : Nat → Prop} {S0 : wS} {post : Int32 → wS → Prop} (F : CallFix p m c cX8_addMoves 16 s args wz_X8_addMoves RX8) (hr : meth.sig.returnType = (some .int)) (hlocks : meth.locks = false) (hK : wK D cy A s) {k_10 : wS → Nat → Int32 → Int64 → Int32 → Int64 → Int32 → Prop} (q_10 : ∀ {S : wS} {H : Heap} {locs : List Loc} {ls : Array Slot} {a1 : Nat} {x3 : Int32} {x6 : Int64} {x8 : Int32} {x9 : Int64} {x11 : Int32}, k_10 S a1 x3 x6 x8 x9 x11 → wO D cy X A s.heap S H locs → wX D S0 S → lv_has ls 16 [(1, .ref a1), (3, .int x3), (6, .long x6), (8, .int x8), (9, .long x9), (11, .int x11)] → wM D S a1 → sK S a1 = 21 → W p l e r_X8_addMoves s m args below meth c H locs 0 0 (MQ below (va_Qi (fun r S9 => wX D S0 S9 ∧ post r S9) (wB D cy X A) A) args s 0 0 A) (F0 m 10 ls [])) {k_64 : wS → Nat → Int32 → Int64 → Int32 → Int64 → Int32 → Int32 → Int32 → Int32 → Int32 → Prop} (q_64 : ∀ {S : wS} {H : Heap} {locs : List Loc} {ls : Array Slot} {a1 : Nat} {x3 : Int32} {x6 : Int64} {x8 : Int32} {x9 : Int64} {x11 : Int32} {x12 : Int32} {x13 : Int32} {x14 : Int32} {x15 : Int32}, k_64 S a1 x3 x6 x8 x9 x11 x12 x13 x14 x15 → wO D cy X A s.heap S H locs → wX D S0 S → lv_has ls 16 [(1, .ref a1), (3, .int x3), (6, .long x6), (8, .int x8), (9, .long x9), (11, .int x11), (12, .int x12), (13, .int x13), (14, .int x14), (15, .int x15)] → wM D S a1 → sK S a1 = 21 → W p l e r_X8_addMoves s m args below meth c H locs 0 0 (MQ below (va_Qi (fun r S9 => wX D S0 S9 ∧ post r S9) (wB D cy X A) A) args s 0 0 A) (F0 m 64 ls [])) : ∀ {S : wS} {H : Heap} {locs : List Loc} {ls : Array Slot} {a1 : Nat} {x3 : Int32} {x6 : Int64} {x8 : Int32} {x9 : Int64} {x11 : Int32} {x12 : Int32} {x13 : Int32} {x14 : Int32} {x15 : Int32} {b0 : Nat} {t1 : Int32} {t2 : Int32} {t3 : Int32} {t4 : Int32}, wp_X8_addMoves_100 D post k_10 k_64 S a1 x3 x6 x8 x9 x11 x12 x13 x14 x15 b0 t1 t2 t3 t4 → wO D cy X A s.heap S H locs → wX D S0 S → lv_has ls 16 [(1, .ref a1), (3, .int x3), (6, .long x6), (8, .int x8), (9, .long x9), (11, .int x11), (12, .int x12), (13, .int x13), (14, .int x14), (15, .int x15)] → wM D S a1 → sK S a1 = 21 → wM D S b0 → sK S b0 = 21 → W p l e r_X8_addMoves s m args below meth c H locs 0 0 (MQ below (va_Qi (fun r S9 => wX D S0 S9 ∧ post r S9) (wB D cy X A) A) args s 0 0 A) (F0 m 100 ls [.int t4, .int t3, .int t2, .int t1, .ref b0]) := by
  obtain ⟨hx, hb, hml, hown, hts⟩ := id F
  have hwg : ∀ w ∈ WG, w.before args s = true := fun w h => hts w (List.mem_cons_of_mem _ h)
  intro S H locs ls a1 x3 x6 x8 x9 x11 x12 x13 x14 x15 b0 t1 t2 t3 t4 hp hW hE hl hL_a1 hK_a1 hL_b0 hK_b0
  unfold wp_X8_addMoves_100 at hp
  refine w_callI (va_runSN (As := [.int t2, .int t3, .int t4]) (rest := [.int t1, .ref b0]) F (c_X11_moveOf l hp H.size) ⟨va_cnB (host := "OpeningsCabinet") 3 hts (wg_cons wy_X11_moveOf.2.2) rfl rfl rfl (hK.2.1 (.methodLinkNest "OpeningsCabinet$Rules" 100 ⟨"OpeningsCabinet", "moveOf", "(III)I"⟩ "OpeningsCabinet") (by decide +kernel)) (hwg _ wy_X11_moveOf.2.1) ⟨by decide, by decide, by decide +kernel⟩ ⟨Nat.le_of_ble_eq_true rfl, Nat.le_of_ble_eq_true rfl⟩, hwg _ wy_X11_moveOf.1, trivial⟩ (w_preS hK hW) rfl rfl hl.1 rfl (lv_room (Nat.le_of_ble_eq_true rfl)) dX8_addMoves_100 ⟨Nat.le_of_ble_eq_true rfl, Nat.le_of_ble_eq_true rfl⟩) hW (fun r_1 S_2 H locs hp hW => ?_)
  obtain ⟨hX_S_2, hp⟩ := hp
  refine W.widen (k := 0) (n := 0) (by decide) (by decide) ?_
  have hE := hE.trans hX_S_2
  have hK_a1 : sK S_2 a1 = 21 := (hX_S_2.2 a1 hL_a1).1.trans hK_a1
  have hL_a1 : wM D S_2 a1 := hX_S_2.M hL_a1
  have hK_b0 : sK S_2 b0 = 21 := (hX_S_2.2 b0 hL_b0).1.trans hK_b0
  have hL_b0 : wM D S_2 b0 := hX_S_2.M hL_b0
  obtain ⟨h_3m, h_3, hp⟩ := hp
  refine w_ist F hK hW h_3m hK_b0 h_3 dX8_addMoves_103 (fun H locs hW => ?_)
  obtain ⟨S_4, eS_4⟩ : ∃ z : wS, z = uI S_2 b0 (t1).toNatClampNeg r_1 := ⟨_, rfl⟩
  rw [← eS_4] at hW
  replace hp := hp S_4 eS_4
  have hX_S_4 : wX D S_2 S_4 := by rw [eS_4]; exact wX_uI
  have hE := hE.trans hX_S_4
  have hK_a1 : sK S_4 a1 = 21 := (hX_S_4.2 a1 hL_a1).1.trans hK_a1
  have hL_a1 : wM D S_4 a1 := hX_S_4.M hL_a1
  obtain ⟨x_5, ex_5⟩ : ∃ z : Int32, z = x8 + 1 := ⟨_, rfl⟩
  replace hp := hp x_5 ex_5
  refine lv_iinc (v := x_5) (lv' := [(8, .int x_5), (1, .ref a1), (3, .int x3), (6, .long x6), (9, .long x9), (11, .int x11), (12, .int x12), (13, .int x13), (14, .int x14), (15, .int x15)]) hx hb dX8_addMoves_104 hl (k := 3) rfl (by rw [ex_5]; rfl) (by decide) rfl (fun ls hl => ?_)
  obtain ⟨x_6, ex_6⟩ : ∃ z : Int32, z = x15 + 1 := ⟨_, rfl⟩
  replace hp := hp x_6 ex_6
  refine lv_iinc (v := x_6) (lv' := [(15, .int x_6), (8, .int x_5), (1, .ref a1), (3, .int x3), (6, .long x6), (9, .long x9), (11, .int x11), (12, .int x12), (13, .int x13), (14, .int x14)]) hx hb dX8_addMoves_107 hl (k := 9) rfl (by rw [ex_6]; rfl) (by decide) rfl (fun ls hl => ?_)
  refine lv_goto (tgt := 64) hx hb dX8_addMoves_110 (by decide) ?_
  exact q_64 hp hW hE (lv_sub hl [2, 3, 4, 1, 5, 6, 7, 8, 9, 0] rfl) hL_a1 hK_a1
set_option maxHeartbeats 4000000 in
set_option maxRecDepth 100000 in
theorem t_X8_addMoves_64 {p : Program} {l : Launch} {e : Env} {s : State} {m : MethodId} {args : Array Value} {below : List Frame} {meth : Method} {c : Code} {D : wD} {cy : Nat → ClassId} {X : va_W} {A : Nat → Prop} {S0 : wS} {post : Int32 → wS → Prop} (F : CallFix p m c cX8_addMoves 16 s args wz_X8_addMoves RX8) (hr : meth.sig.returnType = (some .int)) (hlocks : meth.locks = false) (hK : wK D cy A s) {k_10 : wS → Nat → Int32 → Int64 → Int32 → Int64 → Int32 → Prop} (q_10 : ∀ {S : wS} {H : Heap} {locs : List Loc} {ls : Array Slot} {a1 : Nat} {x3 : Int32} {x6 : Int64} {x8 : Int32} {x9 : Int64} {x11 : Int32}, k_10 S a1 x3 x6 x8 x9 x11 → wO D cy X A s.heap S H locs → wX D S0 S → lv_has ls 16 [(1, .ref a1), (3, .int x3), (6, .long x6), (8, .int x8), (9, .long x9), (11, .int x11)] → wM D S a1 → sK S a1 = 21 → W p l e r_X8_addMoves s m args below meth c H locs 0 0 (MQ below (va_Qi (fun r S9 => wX D S0 S9 ∧ post r S9) (wB D cy X A) A) args s 0 0 A) (F0 m 10 ls [])) : ∀ (n : Nat) {S : wS} {H : Heap} {locs : List Loc} {ls : Array Slot} {a1 : Nat} {x3 : Int32} {x6 : Int64} {x8 : Int32} {x9 : Int64} {x11 : Int32} {x12 : Int32} {x13 : Int32} {x14 : Int32} {x15 : Int32}, wp_X8_addMoves_64 D post k_10 n S a1 x3 x6 x8 x9 x11 x12 x13 x14 x15 → wO D cy X A s.heap S H locs → wX D S0 S → lv_has ls 16 [(1, .ref a1), (3, .int x3), (6, .long x6), (8, .int x8), (9, .long x9), (11, .int x11), (12, .int x12), (13, .int x13), (14, .int x14), (15, .int x15)] → wM D S a1 → sK S a1 = 21 → W p l e r_X8_addMoves s m args below meth c H locs 0 0 (MQ below (va_Qi (fun r S9 => wX D S0 S9 ∧ post r S9) (wB D cy X A) A) args s 0 0 A) (F0 m 64 ls []) := by
  obtain ⟨hx, hb, hml, hown, hts⟩ := id F
  have hwg : ∀ w ∈ WG, w.before args s = true := fun w h => hts w (List.mem_cons_of_mem _ h)
  intro n
  induction n with
  | zero =>
    intro S H locs ls a1 x3 x6 x8 x9 x11 x12 x13 x14 x15 hp
    exact hp.elim
  | succ n ih =>
    intro S H locs ls a1 x3 x6 x8 x9 x11 x12 x13 x14 x15 hp hW hE hl hL_a1 hK_a1
    unfold wp_X8_addMoves_64 at hp
    refine lv_iload hx hb dX8_addMoves_64 (lv_at hl 9 rfl) ?_
    refine lv_iload hx hb dX8_addMoves_66 (lv_at hl 8 rfl) ?_
    refine lv_icmp_gt (tgt := 113) hx hb dX8_addMoves_68 (by decide) (fun c_1 => ?_) (fun c_1 => ?_)
    · replace hp := hp.1 c_1
      exact t_X8_addMoves_113 F hr hlocks hK q_10 hp hW hE (lv_sub hl [0, 1, 2, 3, 4, 5] rfl) hL_a1 hK_a1
    · replace hp := hp.2 c_1
      refine lv_iload hx hb dX8_addMoves_71 (lv_at hl 3 rfl) ?_
      refine lv_if_lt (tgt := 113) hx hb dX8_addMoves_73 (by decide) (fun c_2 => ?_) (fun c_2 => ?_)
      · replace hp := hp.1 c_2
        exact t_X8_addMoves_113 F hr hlocks hK q_10 hp hW hE (lv_sub hl [0, 1, 2, 3, 4, 5] rfl) hL_a1 hK_a1
      · replace hp := hp.2 c_2
        refine lv_iload hx hb dX8_addMoves_76 (lv_at hl 3 rfl) ?_
        refine lv_aload_n hx hb dX8_addMoves_78 rfl (lv_at hl 0 rfl) ?_
        refine w_len F hK hW hL_a1 hK_a1 (by decide) dX8_addMoves_79 ?_
        refine lv_icmp_ge (tgt := 113) hx hb dX8_addMoves_80 (by decide) (fun c_3 => ?_) (fun c_3 => ?_)
        · replace hp := hp.1 c_3
          exact t_X8_addMoves_113 F hr hlocks hK q_10 hp hW hE (lv_sub hl [0, 1, 2, 3, 4, 5] rfl) hL_a1 hK_a1
        · replace hp := hp.2 c_3
          refine lv_aload_n hx hb dX8_addMoves_83 rfl (lv_at hl 0 rfl) ?_
          refine lv_iload hx hb dX8_addMoves_84 (lv_at hl 3 rfl) ?_
          refine lv_iload_n hx hb dX8_addMoves_86 rfl (lv_at hl 1 rfl) ?_
          refine lv_iload hx hb dX8_addMoves_87 (lv_at hl 6 rfl) ?_
          refine lv_iload hx hb dX8_addMoves_89 (lv_at hl 7 rfl) ?_
          refine lv_if_eq (tgt := 99) hx hb dX8_addMoves_91 (by decide) (fun c_4 => ?_) (fun c_4 => ?_)
          · replace hp := hp.1 c_4
            refine lv_iconst (v := 0) hx hb dX8_addMoves_99 (by decide) ?_
            exact t_X8_addMoves_100 F hr hlocks hK q_10 ih hp hW hE (lv_sub hl [0, 1, 2, 3, 4, 5, 6, 7, 8, 9] rfl) hL_a1 hK_a1 hL_a1 hK_a1
          · replace hp := hp.2 c_4
            refine lv_iload hx hb dX8_addMoves_94 (lv_at hl 9 rfl) ?_
            refine lv_goto (tgt := 100) hx hb dX8_addMoves_96 (by decide) ?_
            exact t_X8_addMoves_100 F hr hlocks hK q_10 ih hp hW hE (lv_sub hl [0, 1, 2, 3, 4, 5, 6, 7, 8, 9] rfl) hL_a1 hK_a1 hL_a1 hK_a1
set_option maxHeartbeats 4000000 in
set_option maxRecDepth 100000 in
theorem t_X8_addMoves_59 {p : Program} {l : Launch} {e : Env} {s : State} {m : MethodId} {args : Array Value} {below : List Frame} {meth : Method} {c : Code} {D : wD} {cy : Nat → ClassId} {X : va_W} {A : Nat → Prop} {S0 : wS} {post : Int32 → wS → Prop} (F : CallFix p m c cX8_addMoves 16 s args wz_X8_addMoves RX8) (hr : meth.sig.returnType = (some .int)) (hlocks : meth.locks = false) (hK : wK D cy A s) {k_10 : wS → Nat → Int32 → Int64 → Int32 → Int64 → Int32 → Prop} (q_10 : ∀ {S : wS} {H : Heap} {locs : List Loc} {ls : Array Slot} {a1 : Nat} {x3 : Int32} {x6 : Int64} {x8 : Int32} {x9 : Int64} {x11 : Int32}, k_10 S a1 x3 x6 x8 x9 x11 → wO D cy X A s.heap S H locs → wX D S0 S → lv_has ls 16 [(1, .ref a1), (3, .int x3), (6, .long x6), (8, .int x8), (9, .long x9), (11, .int x11)] → wM D S a1 → sK S a1 = 21 → W p l e r_X8_addMoves s m args below meth c H locs 0 0 (MQ below (va_Qi (fun r S9 => wX D S0 S9 ∧ post r S9) (wB D cy X A) A) args s 0 0 A) (F0 m 10 ls [])) : ∀ {S : wS} {H : Heap} {locs : List Loc} {ls : Array Slot} {a1 : Nat} {x3 : Int32} {x6 : Int64} {x8 : Int32} {x9 : Int64} {x11 : Int32} {x12 : Int32} {x13 : Int32} {t0 : Int32}, wp_X8_addMoves_59 D post k_10 S a1 x3 x6 x8 x9 x11 x12 x13 t0 → wO D cy X A s.heap S H locs → wX D S0 S → lv_has ls 16 [(1, .ref a1), (3, .int x3), (6, .long x6), (8, .int x8), (9, .long x9), (11, .int x11), (12, .int x12), (13, .int x13)] → wM D S a1 → sK S a1 = 21 → W p l e r_X8_addMoves s m args below meth c H locs 0 0 (MQ below (va_Qi (fun r S9 => wX D S0 S9 ∧ post r S9) (wB D cy X A) A) args s 0 0 A) (F0 m 59 ls [.int t0]) := by
  obtain ⟨hx, hb, hml, hown, hts⟩ := id F
  have hwg : ∀ w ∈ WG, w.before args s = true := fun w h => hts w (List.mem_cons_of_mem _ h)
  intro S H locs ls a1 x3 x6 x8 x9 x11 x12 x13 t0 hp hW hE hl hL_a1 hK_a1
  unfold wp_X8_addMoves_59 at hp
  refine lv_istore (lv' := [(14, .int t0), (1, .ref a1), (3, .int x3), (6, .long x6), (8, .int x8), (9, .long x9), (11, .int x11), (12, .int x12), (13, .int x13)]) hx hb dX8_addMoves_59 hl (by decide) rfl (fun ls hl => ?_)
  refine lv_iconst (v := 2) hx hb dX8_addMoves_61 (by decide) ?_
  refine lv_istore (lv' := [(15, .int (2 : Int32)), (14, .int t0), (1, .ref a1), (3, .int x3), (6, .long x6), (8, .int x8), (9, .long x9), (11, .int x11), (12, .int x12), (13, .int x13)]) hx hb dX8_addMoves_62 hl (by decide) rfl (fun ls hl => ?_)
  obtain ⟨n_1, hp⟩ := hp
  exact t_X8_addMoves_64 F hr hlocks hK q_10 n_1 hp hW hE (lv_sub hl [2, 3, 4, 5, 6, 7, 8, 9, 1, 0] rfl) hL_a1 hK_a1
set_option maxHeartbeats 4000000 in
set_option maxRecDepth 100000 in
theorem t_X8_addMoves_10 {p : Program} {l : Launch} {e : Env} {s : State} {m : MethodId} {args : Array Value} {below : List Frame} {meth : Method} {c : Code} {D : wD} {cy : Nat → ClassId} {X : va_W} {A : Nat → Prop} {S0 : wS} {post : Int32 → wS → Prop} (F : CallFix p m c cX8_addMoves 16 s args wz_X8_addMoves RX8) (hr : meth.sig.returnType = (some .int)) (hlocks : meth.locks = false) (hK : wK D cy A s) : ∀ (n : Nat) {S : wS} {H : Heap} {locs : List Loc} {ls : Array Slot} {a1 : Nat} {x3 : Int32} {x6 : Int64} {x8 : Int32} {x9 : Int64} {x11 : Int32}, wp_X8_addMoves_10 D post n S a1 x3 x6 x8 x9 x11 → wO D cy X A s.heap S H locs → wX D S0 S → lv_has ls 16 [(1, .ref a1), (3, .int x3), (6, .long x6), (8, .int x8), (9, .long x9), (11, .int x11)] → wM D S a1 → sK S a1 = 21 → W p l e r_X8_addMoves s m args below meth c H locs 0 0 (MQ below (va_Qi (fun r S9 => wX D S0 S9 ∧ post r S9) (wB D cy X A) A) args s 0 0 A) (F0 m 10 ls []) := by
  obtain ⟨hx, hb, hml, hown, hts⟩ := id F
  have hwg : ∀ w ∈ WG, w.before args s = true := fun w h => hts w (List.mem_cons_of_mem _ h)
  intro n
  induction n with
  | zero =>
    intro S H locs ls a1 x3 x6 x8 x9 x11 hp
    exact hp.elim
  | succ n ih =>
    intro S H locs ls a1 x3 x6 x8 x9 x11 hp hW hE hl hL_a1 hK_a1
    unfold wp_X8_addMoves_10 at hp
    refine lv_iload hx hb dX8_addMoves_10 (lv_at hl 5 rfl) ?_
    refine lv_bipush (v := 64) hx hb dX8_addMoves_12 (by decide) ?_
    refine lv_icmp_ge (tgt := 119) hx hb dX8_addMoves_14 (by decide) (fun c_1 => ?_) (fun c_1 => ?_)
    · replace hp := hp.1 c_1
      exact t_X8_addMoves_119 F hr hlocks hK hp hW hE (lv_sub hl [3] rfl)
    · replace hp := hp.2 c_1
      refine lv_lload hx hb dX8_addMoves_17 (lv_at hl 4 rfl) ?_
      refine lv_lconst (v := 0) hx hb dX8_addMoves_19 (by decide) ?_
      refine W.lcmp hx hb dX8_addMoves_20 ?_
      refine lv_if_eq (tgt := 119) hx hb dX8_addMoves_21 (by decide) (fun c_2 => ?_) (fun c_2 => ?_)
      · replace hp := hp.1 c_2
        exact t_X8_addMoves_119 F hr hlocks hK hp hW hE (lv_sub hl [3] rfl)
      · replace hp := hp.2 c_2
        refine lv_lload hx hb dX8_addMoves_24 (lv_at hl 4 rfl) ?_
        refine w_callI (va_runSN (As := [.long x9]) (rest := []) F (c_X11_lowest l hp H.size) ⟨va_cnB (host := "OpeningsCabinet") 1 hts (wg_cons wy_X11_lowest.2.2) rfl rfl rfl (hK.2.1 (.methodLinkNest "OpeningsCabinet$Rules" 97 ⟨"OpeningsCabinet", "lowest", "(J)I"⟩ "OpeningsCabinet") (by decide +kernel)) (hwg _ wy_X11_lowest.2.1) ⟨by decide, by decide, by decide +kernel⟩ ⟨Nat.le_of_ble_eq_true rfl, Nat.le_of_ble_eq_true rfl⟩, hwg _ wy_X11_lowest.1, trivial⟩ (w_preS hK hW) rfl rfl hl.1 rfl (lv_room (Nat.le_of_ble_eq_true rfl)) dX8_addMoves_26 ⟨Nat.le_of_ble_eq_true rfl, Nat.le_of_ble_eq_true rfl⟩) hW (fun r_3 S_4 H locs hp hW => ?_)
        obtain ⟨hX_S_4, hp⟩ := hp
        refine W.widen (k := 0) (n := 0) (by decide) (by decide) ?_
        have hE := hE.trans hX_S_4
        have hK_a1 : sK S_4 a1 = 21 := (hX_S_4.2 a1 hL_a1).1.trans hK_a1
        have hL_a1 : wM D S_4 a1 := hX_S_4.M hL_a1
        refine lv_istore (lv' := [(12, .int r_3), (1, .ref a1), (3, .int x3), (6, .long x6), (8, .int x8), (9, .long x9), (11, .int x11)]) hx hb dX8_addMoves_29 hl (by decide) rfl (fun ls hl => ?_)
        refine lv_lload hx hb dX8_addMoves_31 (lv_at hl 5 rfl) ?_
        refine lv_lload hx hb dX8_addMoves_33 (lv_at hl 5 rfl) ?_
        refine lv_lconst (v := 1) hx hb dX8_addMoves_35 (by decide) ?_
        refine lv_lsub hx hb dX8_addMoves_36 ?_
        refine lv_land hx hb dX8_addMoves_37 ?_
        refine lv_topl (fun x_5 ex_5 => ?_)
        replace hp := hp x_5 ex_5
        refine lv_lstore (lv' := [(9, .long x_5), (12, .int r_3), (1, .ref a1), (3, .int x3), (6, .long x6), (8, .int x8), (11, .int x11)]) hx hb dX8_addMoves_38 hl (by decide) rfl (fun ls hl => ?_)
        refine lv_lload hx hb dX8_addMoves_40 (lv_at hl 4 rfl) ?_
        refine lv_iload hx hb dX8_addMoves_42 (lv_at hl 1 rfl) ?_
        refine w_callI (va_runSN (As := [.long x6, .int r_3]) (rest := []) F (c_X11_contains l hp H.size) ⟨va_cnB (host := "OpeningsCabinet") 2 hts (wg_cons wy_X11_contains.2.2) rfl rfl rfl (hK.2.1 (.methodLinkNest "OpeningsCabinet$Rules" 68 ⟨"OpeningsCabinet", "contains", "(JI)Z"⟩ "OpeningsCabinet") (by decide +kernel)) (hwg _ wy_X11_contains.2.1) ⟨by decide, by decide, by decide +kernel⟩ ⟨Nat.le_of_ble_eq_true rfl, Nat.le_of_ble_eq_true rfl⟩, hwg _ wy_X11_contains.1, trivial⟩ (w_preS hK hW) rfl rfl hl.1 rfl (lv_room (Nat.le_of_ble_eq_true rfl)) dX8_addMoves_44 ⟨Nat.le_of_ble_eq_true rfl, Nat.le_of_ble_eq_true rfl⟩) hW (fun r_6 S_7 H locs hp hW => ?_)
        obtain ⟨hX_S_7, hp⟩ := hp
        refine W.widen (k := 0) (n := 0) (by decide) (by decide) ?_
        have hE := hE.trans hX_S_7
        have hK_a1 : sK S_7 a1 = 21 := (hX_S_7.2 a1 hL_a1).1.trans hK_a1
        have hL_a1 : wM D S_7 a1 := hX_S_7.M hL_a1
        refine lv_istore (lv' := [(13, .int r_6), (9, .long x_5), (12, .int r_3), (1, .ref a1), (3, .int x3), (6, .long x6), (8, .int x8), (11, .int x11)]) hx hb dX8_addMoves_47 hl (by decide) rfl (fun ls hl => ?_)
        refine lv_iload hx hb dX8_addMoves_49 (lv_at hl 0 rfl) ?_
        refine lv_if_eq (tgt := 58) hx hb dX8_addMoves_51 (by decide) (fun c_8 => ?_) (fun c_8 => ?_)
        · replace hp := hp.1 c_8
          refine lv_iconst (v := 2) hx hb dX8_addMoves_58 (by decide) ?_
          exact t_X8_addMoves_59 F hr hlocks hK ih hp hW hE (lv_sub hl [3, 4, 5, 6, 1, 7, 2, 0] rfl) hL_a1 hK_a1
        · replace hp := hp.2 c_8
          refine lv_iconst (v := 5) hx hb dX8_addMoves_54 (by decide) ?_
          refine lv_goto (tgt := 59) hx hb dX8_addMoves_55 (by decide) ?_
          exact t_X8_addMoves_59 F hr hlocks hK ih hp hW hE (lv_sub hl [3, 4, 5, 6, 1, 7, 2, 0] rfl) hL_a1 hK_a1
set_option maxHeartbeats 4000000 in
set_option maxRecDepth 100000 in
theorem t_X8_addMoves_0 {p : Program} {l : Launch} {e : Env} {s : State} {m : MethodId} {args : Array Value} {below : List Frame} {meth : Method} {c : Code} {D : wD} {cy : Nat → ClassId} {X : va_W} {A : Nat → Prop} {S0 : wS} {post : Int32 → wS → Prop} (F : CallFix p m c cX8_addMoves 16 s args wz_X8_addMoves RX8) (hr : meth.sig.returnType = (some .int)) (hlocks : meth.locks = false) (hK : wK D cy A s) : ∀ {S : wS} {H : Heap} {locs : List Loc} {ls : Array Slot} {a1 : Nat} {x2 : Int32} {x3 : Int32} {x4 : Int64} {x6 : Int64}, wp_X8_addMoves_0 D post S a1 x2 x3 x4 x6 → wO D cy X A s.heap S H locs → wX D S0 S → lv_has ls 16 [(1, .ref a1), (2, .int x2), (3, .int x3), (4, .long x4), (6, .long x6)] → wM D S a1 → sK S a1 = 21 → W p l e r_X8_addMoves s m args below meth c H locs 0 0 (MQ below (va_Qi (fun r S9 => wX D S0 S9 ∧ post r S9) (wB D cy X A) A) args s 0 0 A) (F0 m 0 ls []) := by
  obtain ⟨hx, hb, hml, hown, hts⟩ := id F
  have hwg : ∀ w ∈ WG, w.before args s = true := fun w h => hts w (List.mem_cons_of_mem _ h)
  intro S H locs ls a1 x2 x3 x4 x6 hp hW hE hl hL_a1 hK_a1
  unfold wp_X8_addMoves_0 at hp
  refine lv_iload_n hx hb dX8_addMoves_0 rfl (lv_at hl 1 rfl) ?_
  refine lv_istore (lv' := [(8, .int x2), (1, .ref a1), (2, .int x2), (3, .int x3), (4, .long x4), (6, .long x6)]) hx hb dX8_addMoves_1 hl (by decide) rfl (fun ls hl => ?_)
  refine lv_lload hx hb dX8_addMoves_3 (lv_at hl 4 rfl) ?_
  refine lv_lstore (lv' := [(9, .long x4), (8, .int x2), (1, .ref a1), (2, .int x2), (3, .int x3), (4, .long x4), (6, .long x6)]) hx hb dX8_addMoves_5 hl (by decide) rfl (fun ls hl => ?_)
  refine lv_iconst (v := 0) hx hb dX8_addMoves_7 (by decide) ?_
  refine lv_istore (lv' := [(11, .int (0 : Int32)), (9, .long x4), (8, .int x2), (1, .ref a1), (2, .int x2), (3, .int x3), (4, .long x4), (6, .long x6)]) hx hb dX8_addMoves_8 hl (by decide) rfl (fun ls hl => ?_)
  obtain ⟨n_1, hp⟩ := hp
  exact t_X8_addMoves_10 F hr hlocks hK n_1 hp hW hE (lv_sub hl [3, 5, 7, 2, 1, 0] rfl) hL_a1 hK_a1
set_option maxHeartbeats 4000000 in
set_option maxRecDepth 100000 in
theorem c_X8_addMoves (l : Launch) {D : wD} {cy : Nat → ClassId} {X : va_W} {S0 : wS} {post : Int32 → wS → Prop} {a0 : Nat} {a1 : Nat} {x2 : Int32} {x3 : Int32} {x4 : Int64} {x6 : Int64} (hL_a0 : wM D S0 a0) (hK_a0 : sK S0 a0 = 13) (hL_a1 : wM D S0 a1) (hK_a1 : sK S0 a1 = 21) (hp : wp_X8_addMoves D post S0 a0 a1 x2 x3 x4 x6) : mI D cy X l yX8_addMoves wz_X8_addMoves r_X8_addMoves [.ref a0, .ref a1, .int x2, .int x3, .long x4, .long x6] S0 (fun r S9 => wX D S0 S9 ∧ post r S9) := by
  intro sz
  refine Met.ofW (cc := cX8_addMoves) (maxL := 16) (ret := (some .int)) (by decide) rfl ?_
  intro p e s m args below meth c s₁ B hml hv
  obtain ⟨rfl, hsz, hP, hK, hD0, hRO⟩ := hv
  have hts := atoms_spec (ws := wz_X8_addMoves) B.pre
  have hown : s.vm.findClass RX8 = some m.cls := findClass_of_methodNamed B.named
  subst hsz
  have hD := hD0.self (sz := s.heap.size)
  have F : CallFix p m c cX8_addMoves 16 s _ wz_X8_addMoves RX8 := ⟨B.exec, B.bytes, hml, hown, hts⟩
  have hr := B.returns
  have hlocks := B.notSynchronized
  generalize hAe : va_A (wL cy X S0) s.heap.size = A at hD hK ⊢
  have hA : ∀ q, s.heap.size ≤ q → A q := fun q h => by rw [← hAe]; exact Or.inr h
  have hW : wO D cy X A s.heap S0 s.heap [] := ⟨hP, hD, va_S.rf, hA, hRO⟩
  have hl := lv_entry ([.ref a0, .ref a1, .int x2, .int x3, .long x4, .long x6]) (n := 16) (Nat.le_of_ble_eq_true rfl)
  rw [lg_entry_eq]
  generalize (lg_sl ([.ref a0, .ref a1, .int x2, .int x3, .long x4, .long x6]) ++ List.replicate (16 - (lg_sl ([.ref a0, .ref a1, .int x2, .int x3, .long x4, .long x6])).length) Slot.unset).toArray = ls at hl ⊢
  have hl : lv_has ls 16 [(0, .ref a0), (1, .ref a1), (2, .int x2), (3, .int x3), (4, .long x4), (6, .long x6)] := hl
  unfold wp_X8_addMoves at hp
  exact t_X8_addMoves_0 F hr hlocks hK hp hW wX.rf (lv_sub hl [1, 2, 3, 4, 5] rfl) hL_a1 hK_a1
def wp_X8_castlings_256 (D : wD) (post : Int64 → wS → Prop)  (S : wS) (t0 : Int64) (t1 : Int64) : Prop :=
post (t0 ||| t1) S
def wp_X8_castlings_242 (D : wD) (post : Int64 → wS → Prop)  (S : wS) (x3 : Int32) (x5 : Int32) (t0 : Int64) : Prop :=
((x5 = 0 → wp_X8_castlings_256 D post S t0 (0 : Int64)) ∧
 (¬ x5 = 0 → wp_X8_castlings_256 D post S t0 (jlshl (1 : Int64) (x3 + (2 : Int32)))))
def wp_X8_castlings_225 (D : wD) (post : Int64 → wS → Prop)  (S : wS) (x3 : Int32) (x4 : Int32) (t0 : Int32) : Prop :=
((x4 = 0 → wp_X8_castlings_242 D post S x3 t0 (0 : Int64)) ∧
 (¬ x4 = 0 → wp_X8_castlings_242 D post S x3 t0 (jlshl (1 : Int64) (x3 + (6 : Int32)))))
def wp_X8_castlings_224 (D : wD) (post : Int64 → wS → Prop)  (S : wS) (x3 : Int32) (x4 : Int32) : Prop :=
wp_X8_castlings_225 D post S x3 x4 (0 : Int32)
def wp_X8_castlings_208 (D : wD) (post : Int64 → wS → Prop)  (S : wS) (a0 : Nat) (x3 : Int32) (x4 : Int32) (b0 : Nat) (t1 : Int32) (t2 : Int32) : Prop :=
wp_X7_attackers D (fun r_1 S_2 => 
((¬ (lg_cmp r_1 (0 : Int64)) = 0 → wp_X8_castlings_224 D post S_2 x3 x4) ∧
 ((lg_cmp r_1 (0 : Int64)) = 0 → wp_X8_castlings_225 D post S_2 x3 x4 (1 : Int32)))) S b0 t1 t2 (sJ S a0 2)
def wp_X8_castlings_180 (D : wD) (post : Int64 → wS → Prop)  (S : wS) (a0 : Nat) (a1 : Nat) (x3 : Int32) (x4 : Int32) (b0 : Nat) (t1 : Int32) (t2 : Int32) : Prop :=
wp_X7_attackers D (fun r_1 S_2 => 
((¬ (lg_cmp r_1 (0 : Int64)) = 0 → wp_X8_castlings_224 D post S_2 x3 x4) ∧
 ((lg_cmp r_1 (0 : Int64)) = 0 → ((¬ (sI S_2 a1 5) = 0 → wp_X8_castlings_208 D post S_2 a0 x3 x4 a1 (x3 + (2 : Int32)) (0 : Int32)) ∧
 ((sI S_2 a1 5) = 0 → wp_X8_castlings_208 D post S_2 a0 x3 x4 a1 (x3 + (2 : Int32)) (1 : Int32)))))) S b0 t1 t2 (sJ S a0 2)
def wp_X8_castlings_141 (D : wD) (post : Int64 → wS → Prop)  (S : wS) (a0 : Nat) (a1 : Nat) (x2 : Int32) (x3 : Int32) (t0 : Int32) : Prop :=
(((x2 &&& (2 : Int32)) = 0 → wp_X8_castlings_224 D post S x3 t0) ∧
 (¬ (x2 &&& (2 : Int32)) = 0 → ((¬ (lg_cmp ((jlushr (sJ S a0 2) x3) &&& (14 : Int64)) (0 : Int64)) = 0 → wp_X8_castlings_224 D post S x3 t0) ∧
 ((lg_cmp ((jlushr (sJ S a0 2) x3) &&& (14 : Int64)) (0 : Int64)) = 0 → ((¬ (sI S a1 5) = 0 → wp_X8_castlings_180 D post S a0 a1 x3 t0 a1 (x3 + (3 : Int32)) (0 : Int32)) ∧
 ((sI S a1 5) = 0 → wp_X8_castlings_180 D post S a0 a1 x3 t0 a1 (x3 + (3 : Int32)) (1 : Int32)))))))
def wp_X8_castlings_140 (D : wD) (post : Int64 → wS → Prop)  (S : wS) (a0 : Nat) (a1 : Nat) (x2 : Int32) (x3 : Int32) : Prop :=
wp_X8_castlings_141 D post S a0 a1 x2 x3 (0 : Int32)
def wp_X8_castlings_124 (D : wD) (post : Int64 → wS → Prop)  (S : wS) (a0 : Nat) (a1 : Nat) (x2 : Int32) (x3 : Int32) (b0 : Nat) (t1 : Int32) (t2 : Int32) : Prop :=
wp_X7_attackers D (fun r_1 S_2 => 
((¬ (lg_cmp r_1 (0 : Int64)) = 0 → wp_X8_castlings_140 D post S_2 a0 a1 x2 x3) ∧
 ((lg_cmp r_1 (0 : Int64)) = 0 → wp_X8_castlings_141 D post S_2 a0 a1 x2 x3 (1 : Int32)))) S b0 t1 t2 (sJ S a0 2)
def wp_X8_castlings_95 (D : wD) (post : Int64 → wS → Prop)  (S : wS) (a0 : Nat) (a1 : Nat) (x2 : Int32) (x3 : Int32) (b0 : Nat) (t1 : Int32) (t2 : Int32) : Prop :=
wp_X7_attackers D (fun r_1 S_2 => 
((¬ (lg_cmp r_1 (0 : Int64)) = 0 → wp_X8_castlings_140 D post S_2 a0 a1 x2 x3) ∧
 ((lg_cmp r_1 (0 : Int64)) = 0 → ((¬ (sI S_2 a1 5) = 0 → wp_X8_castlings_124 D post S_2 a0 a1 x2 x3 a1 (x3 + (6 : Int32)) (0 : Int32)) ∧
 ((sI S_2 a1 5) = 0 → wp_X8_castlings_124 D post S_2 a0 a1 x2 x3 a1 (x3 + (6 : Int32)) (1 : Int32)))))) S b0 t1 t2 (sJ S a0 2)
def wp_X8_castlings_57 (D : wD) (post : Int64 → wS → Prop)  (S : wS) (a0 : Nat) (a1 : Nat) (x2 : Int32) (t0 : Int32) : Prop :=
(((x2 &&& (1 : Int32)) = 0 → wp_X8_castlings_140 D post S a0 a1 x2 t0) ∧
 (¬ (x2 &&& (1 : Int32)) = 0 → ((¬ (lg_cmp ((jlushr (sJ S a0 2) t0) &&& (96 : Int64)) (0 : Int64)) = 0 → wp_X8_castlings_140 D post S a0 a1 x2 t0) ∧
 ((lg_cmp ((jlushr (sJ S a0 2) t0) &&& (96 : Int64)) (0 : Int64)) = 0 → ((¬ (sI S a1 5) = 0 → wp_X8_castlings_95 D post S a0 a1 x2 t0 a1 (t0 + (5 : Int32)) (0 : Int32)) ∧
 ((sI S a1 5) = 0 → wp_X8_castlings_95 D post S a0 a1 x2 t0 a1 (t0 + (5 : Int32)) (1 : Int32)))))))
def wp_X8_castlings_34 (D : wD) (post : Int64 → wS → Prop)  (S : wS) : Prop :=
post (0 : Int64) S
def wp_X8_castlings_22 (D : wD) (post : Int64 → wS → Prop)  (S : wS) (a0 : Nat) (a1 : Nat) (t0 : Int32) : Prop :=
((t0 = 0 → wp_X8_castlings_34 D post S) ∧
 (¬ t0 = 0 → (((sI S a0 4) = 0 → (((sI S a1 5) = 0 → ∃ y_4 : Nat, sR S a0 0 = some y_4 ∧ wM D S y_4 ∧ sK S y_4 = 5 ∧
wp_X8_castlings_57 D post S a0 a1 t0 ((sI S y_4 2) - (8 : Int32))) ∧
 (¬ (sI S a1 5) = 0 → wp_X8_castlings_57 D post S a0 a1 t0 (0 : Int32)))) ∧
 (¬ (sI S a0 4) = 0 → wp_X8_castlings_34 D post S))))
def wp_X8_castlings_0 (D : wD) (post : Int64 → wS → Prop)  (S : wS) (a0 : Nat) (a1 : Nat) : Prop :=
(((sI S a1 5) = 0 → wp_X8_castlings_22 D post S a0 a1 (jiushr (sI S a1 6) (2 : Int32))) ∧
 (¬ (sI S a1 5) = 0 → wp_X8_castlings_22 D post S a0 a1 ((sI S a1 6) &&& (3 : Int32))))
abbrev r_X8_castlings : Room := { frames := 2, cells := 0, slots := 0, locals := 60 }
def wp_X8_castlings (D : wD) (post : Int64 → wS → Prop) (S : wS) (a0 : Nat) (a1 : Nat) : Prop := wp_X8_castlings_0 D post S a0 a1
set_option maxHeartbeats 4000000 in
set_option maxRecDepth 100000 in
theorem t_X8_castlings_256 {p : Program} {l : Launch} {e : Env} {s : State} {m : MethodId} {args : Array Value} {below : List Frame} {meth : Method} {c : Code} {D : wD} {cy : Nat → ClassId} {X : va_W} {A : Nat → Prop} {S0 : wS} {post : Int64 → wS → Prop} (F : CallFix p m c cX8_castlings 6 s args wz_X8_castlings RX8) (hr : meth.sig.returnType = (some .long)) (hlocks : meth.locks = false) (hK : wK D cy A s) : ∀ {S : wS} {H : Heap} {locs : List Loc} {ls : Array Slot} {t0 : Int64} {t1 : Int64}, wp_X8_castlings_256 D post S t0 t1 → wO D cy X A s.heap S H locs → wX D S0 S → lv_has ls 6 [] → W p l e r_X8_castlings s m args below meth c H locs 0 0 (MQ below (va_Ql (fun r S9 => wX D S0 S9 ∧ post r S9) (wB D cy X A) A) args s 0 0 A) (F0 m 256 ls [.long t1, .long t0]) := by
  obtain ⟨hx, hb, hml, hown, hts⟩ := id F
  have hwg : ∀ w ∈ WG, w.before args s = true := fun w h => hts w (List.mem_cons_of_mem _ h)
  intro S H locs ls t0 t1 hp hW hE hl
  unfold wp_X8_castlings_256 at hp
  refine lv_lor hx hb dX8_castlings_256 ?_
  exact w_lret hx hb hr hlocks hW ⟨hE, hp⟩ dX8_castlings_257
set_option maxHeartbeats 4000000 in
set_option maxRecDepth 100000 in
theorem t_X8_castlings_242 {p : Program} {l : Launch} {e : Env} {s : State} {m : MethodId} {args : Array Value} {below : List Frame} {meth : Method} {c : Code} {D : wD} {cy : Nat → ClassId} {X : va_W} {A : Nat → Prop} {S0 : wS} {post : Int64 → wS → Prop} (F : CallFix p m c cX8_castlings 6 s args wz_X8_castlings RX8) (hr : meth.sig.returnType = (some .long)) (hlocks : meth.locks = false) (hK : wK D cy A s) : ∀ {S : wS} {H : Heap} {locs : List Loc} {ls : Array Slot} {x3 : Int32} {x5 : Int32} {t0 : Int64}, wp_X8_castlings_242 D post S x3 x5 t0 → wO D cy X A s.heap S H locs → wX D S0 S → lv_has ls 6 [(3, .int x3), (5, .int x5)] → W p l e r_X8_castlings s m args below meth c H locs 0 0 (MQ below (va_Ql (fun r S9 => wX D S0 S9 ∧ post r S9) (wB D cy X A) A) args s 0 0 A) (F0 m 242 ls [.long t0]) := by
  obtain ⟨hx, hb, hml, hown, hts⟩ := id F
  have hwg : ∀ w ∈ WG, w.before args s = true := fun w h => hts w (List.mem_cons_of_mem _ h)
  intro S H locs ls x3 x5 t0 hp hW hE hl
  unfold wp_X8_castlings_242 at hp
  refine lv_iload hx hb dX8_castlings_242 (lv_at hl 1 rfl) ?_
  refine lv_if_eq (tgt := 255) hx hb dX8_castlings_244 (by decide) (fun c_1 => ?_) (fun c_1 => ?_)
  · replace hp := hp.1 c_1
    refine lv_lconst (v := 0) hx hb dX8_castlings_255 (by decide) ?_
    exact t_X8_castlings_256 F hr hlocks hK hp hW hE (lv_sub hl [] rfl)
  · replace hp := hp.2 c_1
    refine lv_lconst (v := 1) hx hb dX8_castlings_247 (by decide) ?_
    refine lv_iload_n hx hb dX8_castlings_248 rfl (lv_at hl 0 rfl) ?_
    refine lv_iconst (v := 2) hx hb dX8_castlings_249 (by decide) ?_
    refine lv_iadd hx hb dX8_castlings_250 ?_
    refine lv_lshl (v := (jlshl (1 : Int64) (x3 + (2 : Int32)))) hx hb dX8_castlings_251 rfl ?_
    refine lv_goto (tgt := 256) hx hb dX8_castlings_252 (by decide) ?_
    exact t_X8_castlings_256 F hr hlocks hK hp hW hE (lv_sub hl [] rfl)
set_option maxHeartbeats 4000000 in
set_option maxRecDepth 100000 in
theorem t_X8_castlings_225 {p : Program} {l : Launch} {e : Env} {s : State} {m : MethodId} {args : Array Value} {below : List Frame} {meth : Method} {c : Code} {D : wD} {cy : Nat → ClassId} {X : va_W} {A : Nat → Prop} {S0 : wS} {post : Int64 → wS → Prop} (F : CallFix p m c cX8_castlings 6 s args wz_X8_castlings RX8) (hr : meth.sig.returnType = (some .long)) (hlocks : meth.locks = false) (hK : wK D cy A s) : ∀ {S : wS} {H : Heap} {locs : List Loc} {ls : Array Slot} {x3 : Int32} {x4 : Int32} {t0 : Int32}, wp_X8_castlings_225 D post S x3 x4 t0 → wO D cy X A s.heap S H locs → wX D S0 S → lv_has ls 6 [(3, .int x3), (4, .int x4)] → W p l e r_X8_castlings s m args below meth c H locs 0 0 (MQ below (va_Ql (fun r S9 => wX D S0 S9 ∧ post r S9) (wB D cy X A) A) args s 0 0 A) (F0 m 225 ls [.int t0]) := by
  obtain ⟨hx, hb, hml, hown, hts⟩ := id F
  have hwg : ∀ w ∈ WG, w.before args s = true := fun w h => hts w (List.mem_cons_of_mem _ h)
  intro S H locs ls x3 x4 t0 hp hW hE hl
  unfold wp_X8_castlings_225 at hp
  refine lv_istore (lv' := [(5, .int t0), (3, .int x3), (4, .int x4)]) hx hb dX8_castlings_225 hl (by decide) rfl (fun ls hl => ?_)
  refine lv_iload hx hb dX8_castlings_227 (lv_at hl 2 rfl) ?_
  refine lv_if_eq (tgt := 241) hx hb dX8_castlings_229 (by decide) (fun c_1 => ?_) (fun c_1 => ?_)
  · replace hp := hp.1 c_1
    refine lv_lconst (v := 0) hx hb dX8_castlings_241 (by decide) ?_
    exact t_X8_castlings_242 F hr hlocks hK hp hW hE (lv_sub hl [1, 0] rfl)
  · replace hp := hp.2 c_1
    refine lv_lconst (v := 1) hx hb dX8_castlings_232 (by decide) ?_
    refine lv_iload_n hx hb dX8_castlings_233 rfl (lv_at hl 1 rfl) ?_
    refine lv_bipush (v := 6) hx hb dX8_castlings_234 (by decide) ?_
    refine lv_iadd hx hb dX8_castlings_236 ?_
    refine lv_lshl (v := (jlshl (1 : Int64) (x3 + (6 : Int32)))) hx hb dX8_castlings_237 rfl ?_
    refine lv_goto (tgt := 242) hx hb dX8_castlings_238 (by decide) ?_
    exact t_X8_castlings_242 F hr hlocks hK hp hW hE (lv_sub hl [1, 0] rfl)
set_option maxHeartbeats 4000000 in
set_option maxRecDepth 100000 in
theorem t_X8_castlings_224 {p : Program} {l : Launch} {e : Env} {s : State} {m : MethodId} {args : Array Value} {below : List Frame} {meth : Method} {c : Code} {D : wD} {cy : Nat → ClassId} {X : va_W} {A : Nat → Prop} {S0 : wS} {post : Int64 → wS → Prop} (F : CallFix p m c cX8_castlings 6 s args wz_X8_castlings RX8) (hr : meth.sig.returnType = (some .long)) (hlocks : meth.locks = false) (hK : wK D cy A s) : ∀ {S : wS} {H : Heap} {locs : List Loc} {ls : Array Slot} {x3 : Int32} {x4 : Int32}, wp_X8_castlings_224 D post S x3 x4 → wO D cy X A s.heap S H locs → wX D S0 S → lv_has ls 6 [(3, .int x3), (4, .int x4)] → W p l e r_X8_castlings s m args below meth c H locs 0 0 (MQ below (va_Ql (fun r S9 => wX D S0 S9 ∧ post r S9) (wB D cy X A) A) args s 0 0 A) (F0 m 224 ls []) := by
  obtain ⟨hx, hb, hml, hown, hts⟩ := id F
  have hwg : ∀ w ∈ WG, w.before args s = true := fun w h => hts w (List.mem_cons_of_mem _ h)
  intro S H locs ls x3 x4 hp hW hE hl
  unfold wp_X8_castlings_224 at hp
  refine lv_iconst (v := 0) hx hb dX8_castlings_224 (by decide) ?_
  exact t_X8_castlings_225 F hr hlocks hK hp hW hE (lv_sub hl [0, 1] rfl)
set_option maxHeartbeats 4000000 in
set_option maxRecDepth 100000 in
theorem t_X8_castlings_208 {p : Program} {l : Launch} {e : Env} {s : State} {m : MethodId} {args : Array Value} {below : List Frame} {meth : Method} {c : Code} {D : wD} {cy : Nat → ClassId} {X : va_W} {A : Nat → Prop} {S0 : wS} {post : Int64 → wS → Prop} (F : CallFix p m c cX8_castlings 6 s args wz_X8_castlings RX8) (hr : meth.sig.returnType = (some .long)) (hlocks : meth.locks = false) (hK : wK D cy A s) : ∀ {S : wS} {H : Heap} {locs : List Loc} {ls : Array Slot} {a0 : Nat} {x3 : Int32} {x4 : Int32} {b0 : Nat} {t1 : Int32} {t2 : Int32}, wp_X8_castlings_208 D post S a0 x3 x4 b0 t1 t2 → wO D cy X A s.heap S H locs → wX D S0 S → lv_has ls 6 [(0, .ref a0), (3, .int x3), (4, .int x4)] → wM D S a0 → sK S a0 = 13 → wM D S b0 → sK S b0 = 12 → W p l e r_X8_castlings s m args below meth c H locs 0 0 (MQ below (va_Ql (fun r S9 => wX D S0 S9 ∧ post r S9) (wB D cy X A) A) args s 0 0 A) (F0 m 208 ls [.int t2, .int t1, .ref b0]) := by
  obtain ⟨hx, hb, hml, hown, hts⟩ := id F
  have hwg : ∀ w ∈ WG, w.before args s = true := fun w h => hts w (List.mem_cons_of_mem _ h)
  have i_13 : ∀ w ∈ u_ws RX8 TX8 6, w ∈ wz_X8_castlings := fun w h => List.mem_cons_of_mem _ (wu_13 w h)
  have k_15 := hwg _ wf_RX8_15
  intro S H locs ls a0 x3 x4 b0 t1 t2 hp hW hE hl hL_a0 hK_a0 hL_b0 hK_b0
  unfold wp_X8_castlings_208 at hp
  refine lv_aload_n hx hb dX8_castlings_208 rfl (lv_at hl 0 rfl) ?_
  refine w_get (k := 13) (f := 2) (T := TX8) (v := .long (sJ S a0 2)) F hK hW hL_a0 hK_a0 (by decide) rfl rfl (by decide) i_13 k_15 rfl dX8_castlings_209 ?_
  refine w_callJ (va_runV (As := [.int t1, .int t2, .long (sJ S a0 2)]) (rest := []) F (c_X7_attackers l hL_b0 hK_b0 hp H.size) (cwV (C := RX7) 3 hts (wg_V wm_RX8_49 wy_X7_attackers) rfl rfl rfl (by decide +kernel) ⟨Nat.le_of_ble_eq_true rfl, Nat.le_of_ble_eq_true rfl⟩) (w_preV hK hW hL_b0 hK_b0 (by decide) rfl) rfl rfl hl.1 rfl (lv_room (Nat.le_of_ble_eq_true rfl)) dX8_castlings_212 ⟨Nat.le_of_ble_eq_true rfl, Nat.le_of_ble_eq_true rfl⟩) hW (fun r_1 S_2 H locs hp hW => ?_)
  obtain ⟨hX_S_2, hp⟩ := hp
  refine W.widen (k := 0) (n := 0) (by decide) (by decide) ?_
  have hE := hE.trans hX_S_2
  have hK_a0 : sK S_2 a0 = 13 := (hX_S_2.2 a0 hL_a0).1.trans hK_a0
  have hL_a0 : wM D S_2 a0 := hX_S_2.M hL_a0
  refine lv_lconst (v := 0) hx hb dX8_castlings_215 (by decide) ?_
  refine W.lcmp hx hb dX8_castlings_216 ?_
  refine lv_if_ne (tgt := 224) hx hb dX8_castlings_217 (by decide) (fun c_3 => ?_) (fun c_3 => ?_)
  · replace hp := hp.1 c_3
    exact t_X8_castlings_224 F hr hlocks hK hp hW hE (lv_sub hl [1, 2] rfl)
  · replace hp := hp.2 c_3
    refine lv_iconst (v := 1) hx hb dX8_castlings_220 (by decide) ?_
    refine lv_goto (tgt := 225) hx hb dX8_castlings_221 (by decide) ?_
    exact t_X8_castlings_225 F hr hlocks hK hp hW hE (lv_sub hl [1, 2] rfl)
set_option maxHeartbeats 4000000 in
set_option maxRecDepth 100000 in
theorem t_X8_castlings_180 {p : Program} {l : Launch} {e : Env} {s : State} {m : MethodId} {args : Array Value} {below : List Frame} {meth : Method} {c : Code} {D : wD} {cy : Nat → ClassId} {X : va_W} {A : Nat → Prop} {S0 : wS} {post : Int64 → wS → Prop} (F : CallFix p m c cX8_castlings 6 s args wz_X8_castlings RX8) (hr : meth.sig.returnType = (some .long)) (hlocks : meth.locks = false) (hK : wK D cy A s) : ∀ {S : wS} {H : Heap} {locs : List Loc} {ls : Array Slot} {a0 : Nat} {a1 : Nat} {x3 : Int32} {x4 : Int32} {b0 : Nat} {t1 : Int32} {t2 : Int32}, wp_X8_castlings_180 D post S a0 a1 x3 x4 b0 t1 t2 → wO D cy X A s.heap S H locs → wX D S0 S → lv_has ls 6 [(0, .ref a0), (1, .ref a1), (3, .int x3), (4, .int x4)] → wM D S a0 → sK S a0 = 13 → wM D S a1 → sK S a1 = 12 → wM D S b0 → sK S b0 = 12 → W p l e r_X8_castlings s m args below meth c H locs 0 0 (MQ below (va_Ql (fun r S9 => wX D S0 S9 ∧ post r S9) (wB D cy X A) A) args s 0 0 A) (F0 m 180 ls [.int t2, .int t1, .ref b0]) := by
  obtain ⟨hx, hb, hml, hown, hts⟩ := id F
  have hwg : ∀ w ∈ WG, w.before args s = true := fun w h => hts w (List.mem_cons_of_mem _ h)
  have i_12 : ∀ w ∈ u_ws RX7 TX7 8, w ∈ wz_X8_castlings := fun w h => List.mem_cons_of_mem _ (wu_12 w h)
  have i_13 : ∀ w ∈ u_ws RX8 TX8 6, w ∈ wz_X8_castlings := fun w h => List.mem_cons_of_mem _ (wu_13 w h)
  have k_15 := hwg _ wf_RX8_15
  intro S H locs ls a0 a1 x3 x4 b0 t1 t2 hp hW hE hl hL_a0 hK_a0 hL_a1 hK_a1 hL_b0 hK_b0
  unfold wp_X8_castlings_180 at hp
  refine lv_aload_n hx hb dX8_castlings_180 rfl (lv_at hl 0 rfl) ?_
  refine w_get (k := 13) (f := 2) (T := TX8) (v := .long (sJ S a0 2)) F hK hW hL_a0 hK_a0 (by decide) rfl rfl (by decide) i_13 k_15 rfl dX8_castlings_181 ?_
  refine w_callJ (va_runV (As := [.int t1, .int t2, .long (sJ S a0 2)]) (rest := []) F (c_X7_attackers l hL_b0 hK_b0 hp H.size) (cwV (C := RX7) 3 hts (wg_V wm_RX8_49 wy_X7_attackers) rfl rfl rfl (by decide +kernel) ⟨Nat.le_of_ble_eq_true rfl, Nat.le_of_ble_eq_true rfl⟩) (w_preV hK hW hL_b0 hK_b0 (by decide) rfl) rfl rfl hl.1 rfl (lv_room (Nat.le_of_ble_eq_true rfl)) dX8_castlings_184 ⟨Nat.le_of_ble_eq_true rfl, Nat.le_of_ble_eq_true rfl⟩) hW (fun r_1 S_2 H locs hp hW => ?_)
  obtain ⟨hX_S_2, hp⟩ := hp
  refine W.widen (k := 0) (n := 0) (by decide) (by decide) ?_
  have hE := hE.trans hX_S_2
  have hK_a0 : sK S_2 a0 = 13 := (hX_S_2.2 a0 hL_a0).1.trans hK_a0
  have hL_a0 : wM D S_2 a0 := hX_S_2.M hL_a0
  have hK_a1 : sK S_2 a1 = 12 := (hX_S_2.2 a1 hL_a1).1.trans hK_a1
  have hL_a1 : wM D S_2 a1 := hX_S_2.M hL_a1
  refine lv_lconst (v := 0) hx hb dX8_castlings_187 (by decide) ?_
  refine W.lcmp hx hb dX8_castlings_188 ?_
  refine lv_if_ne (tgt := 224) hx hb dX8_castlings_189 (by decide) (fun c_3 => ?_) (fun c_3 => ?_)
  · replace hp := hp.1 c_3
    exact t_X8_castlings_224 F hr hlocks hK hp hW hE (lv_sub hl [2, 3] rfl)
  · replace hp := hp.2 c_3
    refine lv_aload_n hx hb dX8_castlings_192 rfl (lv_at hl 1 rfl) ?_
    refine lv_iload_n hx hb dX8_castlings_193 rfl (lv_at hl 2 rfl) ?_
    refine lv_iconst (v := 2) hx hb dX8_castlings_194 (by decide) ?_
    refine lv_iadd hx hb dX8_castlings_195 ?_
    refine lv_aload_n hx hb dX8_castlings_196 rfl (lv_at hl 1 rfl) ?_
    refine w_getN (k := 12) (f := 5) (T := TX7) (v := .int (sI S_2 a1 5)) F hK hW hL_a1 hK_a1 (by decide) rfl rfl (by decide) i_12 (hK.2.1 (.fieldLinkNest "OpeningsCabinet$Rules" 33 "OpeningsCabinet$Position" "isWhite" "Z" "OpeningsCabinet") (by decide +kernel)) rfl dX8_castlings_197 ?_
    refine lv_if_ne (tgt := 207) hx hb dX8_castlings_200 (by decide) (fun c_4 => ?_) (fun c_4 => ?_)
    · replace hp := hp.1 c_4
      refine lv_iconst (v := 0) hx hb dX8_castlings_207 (by decide) ?_
      exact t_X8_castlings_208 F hr hlocks hK hp hW hE (lv_sub hl [0, 2, 3] rfl) hL_a0 hK_a0 hL_a1 hK_a1
    · replace hp := hp.2 c_4
      refine lv_iconst (v := 1) hx hb dX8_castlings_203 (by decide) ?_
      refine lv_goto (tgt := 208) hx hb dX8_castlings_204 (by decide) ?_
      exact t_X8_castlings_208 F hr hlocks hK hp hW hE (lv_sub hl [0, 2, 3] rfl) hL_a0 hK_a0 hL_a1 hK_a1
set_option maxHeartbeats 4000000 in
set_option maxRecDepth 100000 in
theorem t_X8_castlings_141 {p : Program} {l : Launch} {e : Env} {s : State} {m : MethodId} {args : Array Value} {below : List Frame} {meth : Method} {c : Code} {D : wD} {cy : Nat → ClassId} {X : va_W} {A : Nat → Prop} {S0 : wS} {post : Int64 → wS → Prop} (F : CallFix p m c cX8_castlings 6 s args wz_X8_castlings RX8) (hr : meth.sig.returnType = (some .long)) (hlocks : meth.locks = false) (hK : wK D cy A s) : ∀ {S : wS} {H : Heap} {locs : List Loc} {ls : Array Slot} {a0 : Nat} {a1 : Nat} {x2 : Int32} {x3 : Int32} {t0 : Int32}, wp_X8_castlings_141 D post S a0 a1 x2 x3 t0 → wO D cy X A s.heap S H locs → wX D S0 S → lv_has ls 6 [(0, .ref a0), (1, .ref a1), (2, .int x2), (3, .int x3)] → wM D S a0 → sK S a0 = 13 → wM D S a1 → sK S a1 = 12 → W p l e r_X8_castlings s m args below meth c H locs 0 0 (MQ below (va_Ql (fun r S9 => wX D S0 S9 ∧ post r S9) (wB D cy X A) A) args s 0 0 A) (F0 m 141 ls [.int t0]) := by
  obtain ⟨hx, hb, hml, hown, hts⟩ := id F
  have hwg : ∀ w ∈ WG, w.before args s = true := fun w h => hts w (List.mem_cons_of_mem _ h)
  have i_12 : ∀ w ∈ u_ws RX7 TX7 8, w ∈ wz_X8_castlings := fun w h => List.mem_cons_of_mem _ (wu_12 w h)
  have i_13 : ∀ w ∈ u_ws RX8 TX8 6, w ∈ wz_X8_castlings := fun w h => List.mem_cons_of_mem _ (wu_13 w h)
  have k_15 := hwg _ wf_RX8_15
  intro S H locs ls a0 a1 x2 x3 t0 hp hW hE hl hL_a0 hK_a0 hL_a1 hK_a1
  unfold wp_X8_castlings_141 at hp
  refine lv_istore (lv' := [(4, .int t0), (0, .ref a0), (1, .ref a1), (2, .int x2), (3, .int x3)]) hx hb dX8_castlings_141 hl (by decide) rfl (fun ls hl => ?_)
  refine lv_iload_n hx hb dX8_castlings_143 rfl (lv_at hl 3 rfl) ?_
  refine lv_iconst (v := 2) hx hb dX8_castlings_144 (by decide) ?_
  refine lv_iand hx hb dX8_castlings_145 ?_
  refine lv_if_eq (tgt := 224) hx hb dX8_castlings_146 (by decide) (fun c_1 => ?_) (fun c_1 => ?_)
  · replace hp := hp.1 c_1
    exact t_X8_castlings_224 F hr hlocks hK hp hW hE (lv_sub hl [4, 0] rfl)
  · replace hp := hp.2 c_1
    refine lv_aload_n hx hb dX8_castlings_149 rfl (lv_at hl 1 rfl) ?_
    refine w_get (k := 13) (f := 2) (T := TX8) (v := .long (sJ S a0 2)) F hK hW hL_a0 hK_a0 (by decide) rfl rfl (by decide) i_13 k_15 rfl dX8_castlings_150 ?_
    refine lv_iload_n hx hb dX8_castlings_153 rfl (lv_at hl 4 rfl) ?_
    refine lv_lushr (v := (jlushr (sJ S a0 2) x3)) hx hb dX8_castlings_154 rfl ?_
    refine lv_ldc2 (v := 14) hx hb hown (hwg _ wJ_RX8_132) dX8_castlings_155 ?_
    refine lv_land hx hb dX8_castlings_158 ?_
    refine lv_lconst (v := 0) hx hb dX8_castlings_159 (by decide) ?_
    refine W.lcmp hx hb dX8_castlings_160 ?_
    refine lv_if_ne (tgt := 224) hx hb dX8_castlings_161 (by decide) (fun c_2 => ?_) (fun c_2 => ?_)
    · replace hp := hp.1 c_2
      exact t_X8_castlings_224 F hr hlocks hK hp hW hE (lv_sub hl [4, 0] rfl)
    · replace hp := hp.2 c_2
      refine lv_aload_n hx hb dX8_castlings_164 rfl (lv_at hl 2 rfl) ?_
      refine lv_iload_n hx hb dX8_castlings_165 rfl (lv_at hl 4 rfl) ?_
      refine lv_iconst (v := 3) hx hb dX8_castlings_166 (by decide) ?_
      refine lv_iadd hx hb dX8_castlings_167 ?_
      refine lv_aload_n hx hb dX8_castlings_168 rfl (lv_at hl 2 rfl) ?_
      refine w_getN (k := 12) (f := 5) (T := TX7) (v := .int (sI S a1 5)) F hK hW hL_a1 hK_a1 (by decide) rfl rfl (by decide) i_12 (hK.2.1 (.fieldLinkNest "OpeningsCabinet$Rules" 33 "OpeningsCabinet$Position" "isWhite" "Z" "OpeningsCabinet") (by decide +kernel)) rfl dX8_castlings_169 ?_
      refine lv_if_ne (tgt := 179) hx hb dX8_castlings_172 (by decide) (fun c_3 => ?_) (fun c_3 => ?_)
      · replace hp := hp.1 c_3
        refine lv_iconst (v := 0) hx hb dX8_castlings_179 (by decide) ?_
        exact t_X8_castlings_180 F hr hlocks hK hp hW hE (lv_sub hl [1, 2, 4, 0] rfl) hL_a0 hK_a0 hL_a1 hK_a1 hL_a1 hK_a1
      · replace hp := hp.2 c_3
        refine lv_iconst (v := 1) hx hb dX8_castlings_175 (by decide) ?_
        refine lv_goto (tgt := 180) hx hb dX8_castlings_176 (by decide) ?_
        exact t_X8_castlings_180 F hr hlocks hK hp hW hE (lv_sub hl [1, 2, 4, 0] rfl) hL_a0 hK_a0 hL_a1 hK_a1 hL_a1 hK_a1
set_option maxHeartbeats 4000000 in
set_option maxRecDepth 100000 in
theorem t_X8_castlings_140 {p : Program} {l : Launch} {e : Env} {s : State} {m : MethodId} {args : Array Value} {below : List Frame} {meth : Method} {c : Code} {D : wD} {cy : Nat → ClassId} {X : va_W} {A : Nat → Prop} {S0 : wS} {post : Int64 → wS → Prop} (F : CallFix p m c cX8_castlings 6 s args wz_X8_castlings RX8) (hr : meth.sig.returnType = (some .long)) (hlocks : meth.locks = false) (hK : wK D cy A s) : ∀ {S : wS} {H : Heap} {locs : List Loc} {ls : Array Slot} {a0 : Nat} {a1 : Nat} {x2 : Int32} {x3 : Int32}, wp_X8_castlings_140 D post S a0 a1 x2 x3 → wO D cy X A s.heap S H locs → wX D S0 S → lv_has ls 6 [(0, .ref a0), (1, .ref a1), (2, .int x2), (3, .int x3)] → wM D S a0 → sK S a0 = 13 → wM D S a1 → sK S a1 = 12 → W p l e r_X8_castlings s m args below meth c H locs 0 0 (MQ below (va_Ql (fun r S9 => wX D S0 S9 ∧ post r S9) (wB D cy X A) A) args s 0 0 A) (F0 m 140 ls []) := by
  obtain ⟨hx, hb, hml, hown, hts⟩ := id F
  have hwg : ∀ w ∈ WG, w.before args s = true := fun w h => hts w (List.mem_cons_of_mem _ h)
  intro S H locs ls a0 a1 x2 x3 hp hW hE hl hL_a0 hK_a0 hL_a1 hK_a1
  unfold wp_X8_castlings_140 at hp
  refine lv_iconst (v := 0) hx hb dX8_castlings_140 (by decide) ?_
  exact t_X8_castlings_141 F hr hlocks hK hp hW hE (lv_sub hl [0, 1, 2, 3] rfl) hL_a0 hK_a0 hL_a1 hK_a1
set_option maxHeartbeats 4000000 in
set_option maxRecDepth 100000 in
theorem t_X8_castlings_124 {p : Program} {l : Launch} {e : Env} {s : State} {m : MethodId} {args : Array Value} {below : List Frame} {meth : Method} {c : Code} {D : wD} {cy : Nat → ClassId} {X : va_W} {A : Nat → Prop} {S0 : wS} {post : Int64 → wS → Prop} (F : CallFix p m c cX8_castlings 6 s args wz_X8_castlings RX8) (hr : meth.sig.returnType = (some .long)) (hlocks : meth.locks = false) (hK : wK D cy A s) : ∀ {S : wS} {H : Heap} {locs : List Loc} {ls : Array Slot} {a0 : Nat} {a1 : Nat} {x2 : Int32} {x3 : Int32} {b0 : Nat} {t1 : Int32} {t2 : Int32}, wp_X8_castlings_124 D post S a0 a1 x2 x3 b0 t1 t2 → wO D cy X A s.heap S H locs → wX D S0 S → lv_has ls 6 [(0, .ref a0), (1, .ref a1), (2, .int x2), (3, .int x3)] → wM D S a0 → sK S a0 = 13 → wM D S a1 → sK S a1 = 12 → wM D S b0 → sK S b0 = 12 → W p l e r_X8_castlings s m args below meth c H locs 0 0 (MQ below (va_Ql (fun r S9 => wX D S0 S9 ∧ post r S9) (wB D cy X A) A) args s 0 0 A) (F0 m 124 ls [.int t2, .int t1, .ref b0]) := by
  obtain ⟨hx, hb, hml, hown, hts⟩ := id F
  have hwg : ∀ w ∈ WG, w.before args s = true := fun w h => hts w (List.mem_cons_of_mem _ h)
  have i_13 : ∀ w ∈ u_ws RX8 TX8 6, w ∈ wz_X8_castlings := fun w h => List.mem_cons_of_mem _ (wu_13 w h)
  have k_15 := hwg _ wf_RX8_15
  intro S H locs ls a0 a1 x2 x3 b0 t1 t2 hp hW hE hl hL_a0 hK_a0 hL_a1 hK_a1 hL_b0 hK_b0
  unfold wp_X8_castlings_124 at hp
  refine lv_aload_n hx hb dX8_castlings_124 rfl (lv_at hl 0 rfl) ?_
  refine w_get (k := 13) (f := 2) (T := TX8) (v := .long (sJ S a0 2)) F hK hW hL_a0 hK_a0 (by decide) rfl rfl (by decide) i_13 k_15 rfl dX8_castlings_125 ?_
  refine w_callJ (va_runV (As := [.int t1, .int t2, .long (sJ S a0 2)]) (rest := []) F (c_X7_attackers l hL_b0 hK_b0 hp H.size) (cwV (C := RX7) 3 hts (wg_V wm_RX8_49 wy_X7_attackers) rfl rfl rfl (by decide +kernel) ⟨Nat.le_of_ble_eq_true rfl, Nat.le_of_ble_eq_true rfl⟩) (w_preV hK hW hL_b0 hK_b0 (by decide) rfl) rfl rfl hl.1 rfl (lv_room (Nat.le_of_ble_eq_true rfl)) dX8_castlings_128 ⟨Nat.le_of_ble_eq_true rfl, Nat.le_of_ble_eq_true rfl⟩) hW (fun r_1 S_2 H locs hp hW => ?_)
  obtain ⟨hX_S_2, hp⟩ := hp
  refine W.widen (k := 0) (n := 0) (by decide) (by decide) ?_
  have hE := hE.trans hX_S_2
  have hK_a0 : sK S_2 a0 = 13 := (hX_S_2.2 a0 hL_a0).1.trans hK_a0
  have hL_a0 : wM D S_2 a0 := hX_S_2.M hL_a0
  have hK_a1 : sK S_2 a1 = 12 := (hX_S_2.2 a1 hL_a1).1.trans hK_a1
  have hL_a1 : wM D S_2 a1 := hX_S_2.M hL_a1
  refine lv_lconst (v := 0) hx hb dX8_castlings_131 (by decide) ?_
  refine W.lcmp hx hb dX8_castlings_132 ?_
  refine lv_if_ne (tgt := 140) hx hb dX8_castlings_133 (by decide) (fun c_3 => ?_) (fun c_3 => ?_)
  · replace hp := hp.1 c_3
    exact t_X8_castlings_140 F hr hlocks hK hp hW hE (lv_sub hl [0, 1, 2, 3] rfl) hL_a0 hK_a0 hL_a1 hK_a1
  · replace hp := hp.2 c_3
    refine lv_iconst (v := 1) hx hb dX8_castlings_136 (by decide) ?_
    refine lv_goto (tgt := 141) hx hb dX8_castlings_137 (by decide) ?_
    exact t_X8_castlings_141 F hr hlocks hK hp hW hE (lv_sub hl [0, 1, 2, 3] rfl) hL_a0 hK_a0 hL_a1 hK_a1
set_option maxHeartbeats 4000000 in
set_option maxRecDepth 100000 in
theorem t_X8_castlings_95 {p : Program} {l : Launch} {e : Env} {s : State} {m : MethodId} {args : Array Value} {below : List Frame} {meth : Method} {c : Code} {D : wD} {cy : Nat → ClassId} {X : va_W} {A : Nat → Prop} {S0 : wS} {post : Int64 → wS → Prop} (F : CallFix p m c cX8_castlings 6 s args wz_X8_castlings RX8) (hr : meth.sig.returnType = (some .long)) (hlocks : meth.locks = false) (hK : wK D cy A s) : ∀ {S : wS} {H : Heap} {locs : List Loc} {ls : Array Slot} {a0 : Nat} {a1 : Nat} {x2 : Int32} {x3 : Int32} {b0 : Nat} {t1 : Int32} {t2 : Int32}, wp_X8_castlings_95 D post S a0 a1 x2 x3 b0 t1 t2 → wO D cy X A s.heap S H locs → wX D S0 S → lv_has ls 6 [(0, .ref a0), (1, .ref a1), (2, .int x2), (3, .int x3)] → wM D S a0 → sK S a0 = 13 → wM D S a1 → sK S a1 = 12 → wM D S b0 → sK S b0 = 12 → W p l e r_X8_castlings s m args below meth c H locs 0 0 (MQ below (va_Ql (fun r S9 => wX D S0 S9 ∧ post r S9) (wB D cy X A) A) args s 0 0 A) (F0 m 95 ls [.int t2, .int t1, .ref b0]) := by
  obtain ⟨hx, hb, hml, hown, hts⟩ := id F
  have hwg : ∀ w ∈ WG, w.before args s = true := fun w h => hts w (List.mem_cons_of_mem _ h)
  have i_12 : ∀ w ∈ u_ws RX7 TX7 8, w ∈ wz_X8_castlings := fun w h => List.mem_cons_of_mem _ (wu_12 w h)
  have i_13 : ∀ w ∈ u_ws RX8 TX8 6, w ∈ wz_X8_castlings := fun w h => List.mem_cons_of_mem _ (wu_13 w h)
  have k_15 := hwg _ wf_RX8_15
  intro S H locs ls a0 a1 x2 x3 b0 t1 t2 hp hW hE hl hL_a0 hK_a0 hL_a1 hK_a1 hL_b0 hK_b0
  unfold wp_X8_castlings_95 at hp
  refine lv_aload_n hx hb dX8_castlings_95 rfl (lv_at hl 0 rfl) ?_
  refine w_get (k := 13) (f := 2) (T := TX8) (v := .long (sJ S a0 2)) F hK hW hL_a0 hK_a0 (by decide) rfl rfl (by decide) i_13 k_15 rfl dX8_castlings_96 ?_
  refine w_callJ (va_runV (As := [.int t1, .int t2, .long (sJ S a0 2)]) (rest := []) F (c_X7_attackers l hL_b0 hK_b0 hp H.size) (cwV (C := RX7) 3 hts (wg_V wm_RX8_49 wy_X7_attackers) rfl rfl rfl (by decide +kernel) ⟨Nat.le_of_ble_eq_true rfl, Nat.le_of_ble_eq_true rfl⟩) (w_preV hK hW hL_b0 hK_b0 (by decide) rfl) rfl rfl hl.1 rfl (lv_room (Nat.le_of_ble_eq_true rfl)) dX8_castlings_99 ⟨Nat.le_of_ble_eq_true rfl, Nat.le_of_ble_eq_true rfl⟩) hW (fun r_1 S_2 H locs hp hW => ?_)
  obtain ⟨hX_S_2, hp⟩ := hp
  refine W.widen (k := 0) (n := 0) (by decide) (by decide) ?_
  have hE := hE.trans hX_S_2
  have hK_a0 : sK S_2 a0 = 13 := (hX_S_2.2 a0 hL_a0).1.trans hK_a0
  have hL_a0 : wM D S_2 a0 := hX_S_2.M hL_a0
  have hK_a1 : sK S_2 a1 = 12 := (hX_S_2.2 a1 hL_a1).1.trans hK_a1
  have hL_a1 : wM D S_2 a1 := hX_S_2.M hL_a1
  refine lv_lconst (v := 0) hx hb dX8_castlings_102 (by decide) ?_
  refine W.lcmp hx hb dX8_castlings_103 ?_
  refine lv_if_ne (tgt := 140) hx hb dX8_castlings_104 (by decide) (fun c_3 => ?_) (fun c_3 => ?_)
  · replace hp := hp.1 c_3
    exact t_X8_castlings_140 F hr hlocks hK hp hW hE (lv_sub hl [0, 1, 2, 3] rfl) hL_a0 hK_a0 hL_a1 hK_a1
  · replace hp := hp.2 c_3
    refine lv_aload_n hx hb dX8_castlings_107 rfl (lv_at hl 1 rfl) ?_
    refine lv_iload_n hx hb dX8_castlings_108 rfl (lv_at hl 3 rfl) ?_
    refine lv_bipush (v := 6) hx hb dX8_castlings_109 (by decide) ?_
    refine lv_iadd hx hb dX8_castlings_111 ?_
    refine lv_aload_n hx hb dX8_castlings_112 rfl (lv_at hl 1 rfl) ?_
    refine w_getN (k := 12) (f := 5) (T := TX7) (v := .int (sI S_2 a1 5)) F hK hW hL_a1 hK_a1 (by decide) rfl rfl (by decide) i_12 (hK.2.1 (.fieldLinkNest "OpeningsCabinet$Rules" 33 "OpeningsCabinet$Position" "isWhite" "Z" "OpeningsCabinet") (by decide +kernel)) rfl dX8_castlings_113 ?_
    refine lv_if_ne (tgt := 123) hx hb dX8_castlings_116 (by decide) (fun c_4 => ?_) (fun c_4 => ?_)
    · replace hp := hp.1 c_4
      refine lv_iconst (v := 0) hx hb dX8_castlings_123 (by decide) ?_
      exact t_X8_castlings_124 F hr hlocks hK hp hW hE (lv_sub hl [0, 1, 2, 3] rfl) hL_a0 hK_a0 hL_a1 hK_a1 hL_a1 hK_a1
    · replace hp := hp.2 c_4
      refine lv_iconst (v := 1) hx hb dX8_castlings_119 (by decide) ?_
      refine lv_goto (tgt := 124) hx hb dX8_castlings_120 (by decide) ?_
      exact t_X8_castlings_124 F hr hlocks hK hp hW hE (lv_sub hl [0, 1, 2, 3] rfl) hL_a0 hK_a0 hL_a1 hK_a1 hL_a1 hK_a1
set_option maxHeartbeats 4000000 in
set_option maxRecDepth 100000 in
theorem t_X8_castlings_57 {p : Program} {l : Launch} {e : Env} {s : State} {m : MethodId} {args : Array Value} {below : List Frame} {meth : Method} {c : Code} {D : wD} {cy : Nat → ClassId} {X : va_W} {A : Nat → Prop} {S0 : wS} {post : Int64 → wS → Prop} (F : CallFix p m c cX8_castlings 6 s args wz_X8_castlings RX8) (hr : meth.sig.returnType = (some .long)) (hlocks : meth.locks = false) (hK : wK D cy A s) : ∀ {S : wS} {H : Heap} {locs : List Loc} {ls : Array Slot} {a0 : Nat} {a1 : Nat} {x2 : Int32} {t0 : Int32}, wp_X8_castlings_57 D post S a0 a1 x2 t0 → wO D cy X A s.heap S H locs → wX D S0 S → lv_has ls 6 [(0, .ref a0), (1, .ref a1), (2, .int x2)] → wM D S a0 → sK S a0 = 13 → wM D S a1 → sK S a1 = 12 → W p l e r_X8_castlings s m args below meth c H locs 0 0 (MQ below (va_Ql (fun r S9 => wX D S0 S9 ∧ post r S9) (wB D cy X A) A) args s 0 0 A) (F0 m 57 ls [.int t0]) := by
  obtain ⟨hx, hb, hml, hown, hts⟩ := id F
  have hwg : ∀ w ∈ WG, w.before args s = true := fun w h => hts w (List.mem_cons_of_mem _ h)
  have i_12 : ∀ w ∈ u_ws RX7 TX7 8, w ∈ wz_X8_castlings := fun w h => List.mem_cons_of_mem _ (wu_12 w h)
  have i_13 : ∀ w ∈ u_ws RX8 TX8 6, w ∈ wz_X8_castlings := fun w h => List.mem_cons_of_mem _ (wu_13 w h)
  have k_15 := hwg _ wf_RX8_15
  intro S H locs ls a0 a1 x2 t0 hp hW hE hl hL_a0 hK_a0 hL_a1 hK_a1
  unfold wp_X8_castlings_57 at hp
  refine lv_istore_n (lv' := [(3, .int t0), (0, .ref a0), (1, .ref a1), (2, .int x2)]) hx hb dX8_castlings_57 rfl hl (by decide) rfl (fun ls hl => ?_)
  refine lv_iload_n hx hb dX8_castlings_58 rfl (lv_at hl 3 rfl) ?_
  refine lv_iconst (v := 1) hx hb dX8_castlings_59 (by decide) ?_
  refine lv_iand hx hb dX8_castlings_60 ?_
  refine lv_if_eq (tgt := 140) hx hb dX8_castlings_61 (by decide) (fun c_1 => ?_) (fun c_1 => ?_)
  · replace hp := hp.1 c_1
    exact t_X8_castlings_140 F hr hlocks hK hp hW hE (lv_sub hl [1, 2, 3, 0] rfl) hL_a0 hK_a0 hL_a1 hK_a1
  · replace hp := hp.2 c_1
    refine lv_aload_n hx hb dX8_castlings_64 rfl (lv_at hl 1 rfl) ?_
    refine w_get (k := 13) (f := 2) (T := TX8) (v := .long (sJ S a0 2)) F hK hW hL_a0 hK_a0 (by decide) rfl rfl (by decide) i_13 k_15 rfl dX8_castlings_65 ?_
    refine lv_iload_n hx hb dX8_castlings_68 rfl (lv_at hl 0 rfl) ?_
    refine lv_lushr (v := (jlushr (sJ S a0 2) t0)) hx hb dX8_castlings_69 rfl ?_
    refine lv_ldc2 (v := 96) hx hb hown (hwg _ wJ_RX8_130) dX8_castlings_70 ?_
    refine lv_land hx hb dX8_castlings_73 ?_
    refine lv_lconst (v := 0) hx hb dX8_castlings_74 (by decide) ?_
    refine W.lcmp hx hb dX8_castlings_75 ?_
    refine lv_if_ne (tgt := 140) hx hb dX8_castlings_76 (by decide) (fun c_2 => ?_) (fun c_2 => ?_)
    · replace hp := hp.1 c_2
      exact t_X8_castlings_140 F hr hlocks hK hp hW hE (lv_sub hl [1, 2, 3, 0] rfl) hL_a0 hK_a0 hL_a1 hK_a1
    · replace hp := hp.2 c_2
      refine lv_aload_n hx hb dX8_castlings_79 rfl (lv_at hl 2 rfl) ?_
      refine lv_iload_n hx hb dX8_castlings_80 rfl (lv_at hl 0 rfl) ?_
      refine lv_iconst (v := 5) hx hb dX8_castlings_81 (by decide) ?_
      refine lv_iadd hx hb dX8_castlings_82 ?_
      refine lv_aload_n hx hb dX8_castlings_83 rfl (lv_at hl 2 rfl) ?_
      refine w_getN (k := 12) (f := 5) (T := TX7) (v := .int (sI S a1 5)) F hK hW hL_a1 hK_a1 (by decide) rfl rfl (by decide) i_12 (hK.2.1 (.fieldLinkNest "OpeningsCabinet$Rules" 33 "OpeningsCabinet$Position" "isWhite" "Z" "OpeningsCabinet") (by decide +kernel)) rfl dX8_castlings_84 ?_
      refine lv_if_ne (tgt := 94) hx hb dX8_castlings_87 (by decide) (fun c_3 => ?_) (fun c_3 => ?_)
      · replace hp := hp.1 c_3
        refine lv_iconst (v := 0) hx hb dX8_castlings_94 (by decide) ?_
        exact t_X8_castlings_95 F hr hlocks hK hp hW hE (lv_sub hl [1, 2, 3, 0] rfl) hL_a0 hK_a0 hL_a1 hK_a1 hL_a1 hK_a1
      · replace hp := hp.2 c_3
        refine lv_iconst (v := 1) hx hb dX8_castlings_90 (by decide) ?_
        refine lv_goto (tgt := 95) hx hb dX8_castlings_91 (by decide) ?_
        exact t_X8_castlings_95 F hr hlocks hK hp hW hE (lv_sub hl [1, 2, 3, 0] rfl) hL_a0 hK_a0 hL_a1 hK_a1 hL_a1 hK_a1
set_option maxHeartbeats 4000000 in
set_option maxRecDepth 100000 in
theorem t_X8_castlings_34 {p : Program} {l : Launch} {e : Env} {s : State} {m : MethodId} {args : Array Value} {below : List Frame} {meth : Method} {c : Code} {D : wD} {cy : Nat → ClassId} {X : va_W} {A : Nat → Prop} {S0 : wS} {post : Int64 → wS → Prop} (F : CallFix p m c cX8_castlings 6 s args wz_X8_castlings RX8) (hr : meth.sig.returnType = (some .long)) (hlocks : meth.locks = false) (hK : wK D cy A s) : ∀ {S : wS} {H : Heap} {locs : List Loc} {ls : Array Slot}, wp_X8_castlings_34 D post S → wO D cy X A s.heap S H locs → wX D S0 S → lv_has ls 6 [] → W p l e r_X8_castlings s m args below meth c H locs 0 0 (MQ below (va_Ql (fun r S9 => wX D S0 S9 ∧ post r S9) (wB D cy X A) A) args s 0 0 A) (F0 m 34 ls []) := by
  obtain ⟨hx, hb, hml, hown, hts⟩ := id F
  have hwg : ∀ w ∈ WG, w.before args s = true := fun w h => hts w (List.mem_cons_of_mem _ h)
  intro S H locs ls hp hW hE hl
  unfold wp_X8_castlings_34 at hp
  refine lv_lconst (v := 0) hx hb dX8_castlings_34 (by decide) ?_
  exact w_lret hx hb hr hlocks hW ⟨hE, hp⟩ dX8_castlings_35
set_option maxHeartbeats 4000000 in
set_option maxRecDepth 100000 in
theorem t_X8_castlings_22 {p : Program} {l : Launch} {e : Env} {s : State} {m : MethodId} {args : Array Value} {below : List Frame} {meth : Method} {c : Code} {D : wD} {cy : Nat → ClassId} {X : va_W} {A : Nat → Prop} {S0 : wS} {post : Int64 → wS → Prop} (F : CallFix p m c cX8_castlings 6 s args wz_X8_castlings RX8) (hr : meth.sig.returnType = (some .long)) (hlocks : meth.locks = false) (hK : wK D cy A s) : ∀ {S : wS} {H : Heap} {locs : List Loc} {ls : Array Slot} {a0 : Nat} {a1 : Nat} {t0 : Int32}, wp_X8_castlings_22 D post S a0 a1 t0 → wO D cy X A s.heap S H locs → wX D S0 S → lv_has ls 6 [(0, .ref a0), (1, .ref a1)] → wM D S a0 → sK S a0 = 13 → wM D S a1 → sK S a1 = 12 → W p l e r_X8_castlings s m args below meth c H locs 0 0 (MQ below (va_Ql (fun r S9 => wX D S0 S9 ∧ post r S9) (wB D cy X A) A) args s 0 0 A) (F0 m 22 ls [.int t0]) := by
  obtain ⟨hx, hb, hml, hown, hts⟩ := id F
  have hwg : ∀ w ∈ WG, w.before args s = true := fun w h => hts w (List.mem_cons_of_mem _ h)
  have i_12 : ∀ w ∈ u_ws RX7 TX7 8, w ∈ wz_X8_castlings := fun w h => List.mem_cons_of_mem _ (wu_12 w h)
  have i_13 : ∀ w ∈ u_ws RX8 TX8 6, w ∈ wz_X8_castlings := fun w h => List.mem_cons_of_mem _ (wu_13 w h)
  have i_5 : ∀ w ∈ u_ws RX0 TX0 12, w ∈ wz_X8_castlings := fun w h => List.mem_cons_of_mem _ (wu_5 w h)
  have k_22 := hwg _ wf_RX8_22
  have k_29 := hwg _ wf_RX8_29
  intro S H locs ls a0 a1 t0 hp hW hE hl hL_a0 hK_a0 hL_a1 hK_a1
  unfold wp_X8_castlings_22 at hp
  refine lv_istore_n (lv' := [(2, .int t0), (0, .ref a0), (1, .ref a1)]) hx hb dX8_castlings_22 rfl hl (by decide) rfl (fun ls hl => ?_)
  refine lv_iload_n hx hb dX8_castlings_23 rfl (lv_at hl 0 rfl) ?_
  refine lv_if_eq (tgt := 34) hx hb dX8_castlings_24 (by decide) (fun c_1 => ?_) (fun c_1 => ?_)
  · replace hp := hp.1 c_1
    exact t_X8_castlings_34 F hr hlocks hK hp hW hE (lv_sub hl [] rfl)
  · replace hp := hp.2 c_1
    refine lv_aload_n hx hb dX8_castlings_27 rfl (lv_at hl 1 rfl) ?_
    refine w_get (k := 13) (f := 4) (T := TX8) (v := .int (sI S a0 4)) F hK hW hL_a0 hK_a0 (by decide) rfl rfl (by decide) i_13 k_22 rfl dX8_castlings_28 ?_
    refine lv_if_eq (tgt := 36) hx hb dX8_castlings_31 (by decide) (fun c_2 => ?_) (fun c_2 => ?_)
    · replace hp := hp.1 c_2
      refine lv_aload_n hx hb dX8_castlings_36 rfl (lv_at hl 2 rfl) ?_
      refine w_getN (k := 12) (f := 5) (T := TX7) (v := .int (sI S a1 5)) F hK hW hL_a1 hK_a1 (by decide) rfl rfl (by decide) i_12 (hK.2.1 (.fieldLinkNest "OpeningsCabinet$Rules" 33 "OpeningsCabinet$Position" "isWhite" "Z" "OpeningsCabinet") (by decide +kernel)) rfl dX8_castlings_37 ?_
      refine lv_if_eq (tgt := 47) hx hb dX8_castlings_40 (by decide) (fun c_3 => ?_) (fun c_3 => ?_)
      · replace hp := hp.1 c_3
        refine lv_aload_n hx hb dX8_castlings_47 rfl (lv_at hl 1 rfl) ?_
        obtain ⟨y_4, ey_4, hL_y_4, hK_y_4, hp⟩ := hp
        refine w_get (k := 13) (f := 0) (T := TX8) (v := .ref y_4) F hK hW hL_a0 hK_a0 (by decide) rfl rfl (by decide) i_13 k_29 (by rw [show wv 13 0 S a0 = va_rf (sR S a0 0) from rfl, ey_4]; rfl) dX8_castlings_48 ?_
        refine w_getN (k := 5) (f := 2) (T := TX0) (v := .int (sI S y_4 2)) F hK hW hL_y_4 hK_y_4 (by decide) rfl rfl (by decide) i_5 (hK.2.1 (.fieldLinkNest "OpeningsCabinet$Rules" 65 "OpeningsCabinet$Board" "size" "I" "OpeningsCabinet") (by decide +kernel)) rfl dX8_castlings_51 ?_
        refine lv_bipush (v := 8) hx hb dX8_castlings_54 (by decide) ?_
        refine lv_isub hx hb dX8_castlings_56 ?_
        exact t_X8_castlings_57 F hr hlocks hK hp hW hE (lv_sub hl [1, 2, 0] rfl) hL_a0 hK_a0 hL_a1 hK_a1
      · replace hp := hp.2 c_3
        refine lv_iconst (v := 0) hx hb dX8_castlings_43 (by decide) ?_
        refine lv_goto (tgt := 57) hx hb dX8_castlings_44 (by decide) ?_
        exact t_X8_castlings_57 F hr hlocks hK hp hW hE (lv_sub hl [1, 2, 0] rfl) hL_a0 hK_a0 hL_a1 hK_a1
    · replace hp := hp.2 c_2
      exact t_X8_castlings_34 F hr hlocks hK hp hW hE (lv_sub hl [] rfl)
set_option maxHeartbeats 4000000 in
set_option maxRecDepth 100000 in
theorem t_X8_castlings_0 {p : Program} {l : Launch} {e : Env} {s : State} {m : MethodId} {args : Array Value} {below : List Frame} {meth : Method} {c : Code} {D : wD} {cy : Nat → ClassId} {X : va_W} {A : Nat → Prop} {S0 : wS} {post : Int64 → wS → Prop} (F : CallFix p m c cX8_castlings 6 s args wz_X8_castlings RX8) (hr : meth.sig.returnType = (some .long)) (hlocks : meth.locks = false) (hK : wK D cy A s) : ∀ {S : wS} {H : Heap} {locs : List Loc} {ls : Array Slot} {a0 : Nat} {a1 : Nat}, wp_X8_castlings_0 D post S a0 a1 → wO D cy X A s.heap S H locs → wX D S0 S → lv_has ls 6 [(0, .ref a0), (1, .ref a1)] → wM D S a0 → sK S a0 = 13 → wM D S a1 → sK S a1 = 12 → W p l e r_X8_castlings s m args below meth c H locs 0 0 (MQ below (va_Ql (fun r S9 => wX D S0 S9 ∧ post r S9) (wB D cy X A) A) args s 0 0 A) (F0 m 0 ls []) := by
  obtain ⟨hx, hb, hml, hown, hts⟩ := id F
  have hwg : ∀ w ∈ WG, w.before args s = true := fun w h => hts w (List.mem_cons_of_mem _ h)
  have i_12 : ∀ w ∈ u_ws RX7 TX7 8, w ∈ wz_X8_castlings := fun w h => List.mem_cons_of_mem _ (wu_12 w h)
  intro S H locs ls a0 a1 hp hW hE hl hL_a0 hK_a0 hL_a1 hK_a1
  unfold wp_X8_castlings_0 at hp
  refine lv_aload_n hx hb dX8_castlings_0 rfl (lv_at hl 1 rfl) ?_
  refine w_getN (k := 12) (f := 5) (T := TX7) (v := .int (sI S a1 5)) F hK hW hL_a1 hK_a1 (by decide) rfl rfl (by decide) i_12 (hK.2.1 (.fieldLinkNest "OpeningsCabinet$Rules" 33 "OpeningsCabinet$Position" "isWhite" "Z" "OpeningsCabinet") (by decide +kernel)) rfl dX8_castlings_1 ?_
  refine lv_if_eq (tgt := 16) hx hb dX8_castlings_4 (by decide) (fun c_1 => ?_) (fun c_1 => ?_)
  · replace hp := hp.1 c_1
    refine lv_aload_n hx hb dX8_castlings_16 rfl (lv_at hl 1 rfl) ?_
    refine w_getN (k := 12) (f := 6) (T := TX7) (v := .int (sI S a1 6)) F hK hW hL_a1 hK_a1 (by decide) rfl rfl (by decide) i_12 (hK.2.1 (.fieldLinkNest "OpeningsCabinet$Rules" 127 "OpeningsCabinet$Position" "rights" "I" "OpeningsCabinet") (by decide +kernel)) rfl dX8_castlings_17 ?_
    refine lv_iconst (v := 2) hx hb dX8_castlings_20 (by decide) ?_
    refine lv_iushr (v := (jiushr (sI S a1 6) (2 : Int32))) hx hb dX8_castlings_21 rfl ?_
    exact t_X8_castlings_22 F hr hlocks hK hp hW hE (lv_sub hl [0, 1] rfl) hL_a0 hK_a0 hL_a1 hK_a1
  · replace hp := hp.2 c_1
    refine lv_aload_n hx hb dX8_castlings_7 rfl (lv_at hl 1 rfl) ?_
    refine w_getN (k := 12) (f := 6) (T := TX7) (v := .int (sI S a1 6)) F hK hW hL_a1 hK_a1 (by decide) rfl rfl (by decide) i_12 (hK.2.1 (.fieldLinkNest "OpeningsCabinet$Rules" 127 "OpeningsCabinet$Position" "rights" "I" "OpeningsCabinet") (by decide +kernel)) rfl dX8_castlings_8 ?_
    refine lv_iconst (v := 3) hx hb dX8_castlings_11 (by decide) ?_
    refine lv_iand hx hb dX8_castlings_12 ?_
    refine lv_goto (tgt := 22) hx hb dX8_castlings_13 (by decide) ?_
    exact t_X8_castlings_22 F hr hlocks hK hp hW hE (lv_sub hl [0, 1] rfl) hL_a0 hK_a0 hL_a1 hK_a1
set_option maxHeartbeats 4000000 in
set_option maxRecDepth 100000 in
theorem c_X8_castlings (l : Launch) {D : wD} {cy : Nat → ClassId} {X : va_W} {S0 : wS} {post : Int64 → wS → Prop} {a0 : Nat} {a1 : Nat} (hL_a0 : wM D S0 a0) (hK_a0 : sK S0 a0 = 13) (hL_a1 : wM D S0 a1) (hK_a1 : sK S0 a1 = 12) (hp : wp_X8_castlings D post S0 a0 a1) : mJ D cy X l yX8_castlings wz_X8_castlings r_X8_castlings [.ref a0, .ref a1] S0 (fun r S9 => wX D S0 S9 ∧ post r S9) := by
  intro sz
  refine Met.ofW (cc := cX8_castlings) (maxL := 6) (ret := (some .long)) (by decide) rfl ?_
  intro p e s m args below meth c s₁ B hml hv
  obtain ⟨rfl, hsz, hP, hK, hD0, hRO⟩ := hv
  have hts := atoms_spec (ws := wz_X8_castlings) B.pre
  have hown : s.vm.findClass RX8 = some m.cls := findClass_of_methodNamed B.named
  subst hsz
  have hD := hD0.self (sz := s.heap.size)
  have F : CallFix p m c cX8_castlings 6 s _ wz_X8_castlings RX8 := ⟨B.exec, B.bytes, hml, hown, hts⟩
  have hr := B.returns
  have hlocks := B.notSynchronized
  generalize hAe : va_A (wL cy X S0) s.heap.size = A at hD hK ⊢
  have hA : ∀ q, s.heap.size ≤ q → A q := fun q h => by rw [← hAe]; exact Or.inr h
  have hW : wO D cy X A s.heap S0 s.heap [] := ⟨hP, hD, va_S.rf, hA, hRO⟩
  have hl := lv_entry ([.ref a0, .ref a1]) (n := 6) (Nat.le_of_ble_eq_true rfl)
  rw [lg_entry_eq]
  generalize (lg_sl ([.ref a0, .ref a1]) ++ List.replicate (6 - (lg_sl ([.ref a0, .ref a1])).length) Slot.unset).toArray = ls at hl ⊢
  have hl : lv_has ls 6 [(0, .ref a0), (1, .ref a1)] := hl
  unfold wp_X8_castlings at hp
  exact t_X8_castlings_0 F hr hlocks hK hp hW wX.rf (lv_sub hl [0, 1] rfl) hL_a0 hK_a0 hL_a1 hK_a1
