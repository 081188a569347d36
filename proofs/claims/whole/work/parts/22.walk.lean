theorem dX8_look_0 : decode cX8_look 0 = .ok (.aload_n 1, 1) := by decide +kernel
theorem dX8_look_1 : decode cX8_look 1 = .ok (.getfield 33, 3) := by decide +kernel
theorem dX8_look_4 : decode cX8_look 4 = .ok (.istore_n 2, 1) := by decide +kernel
theorem dX8_look_5 : decode cX8_look 5 = .ok (.aload_n 0, 1) := by decide +kernel
theorem dX8_look_6 : decode cX8_look 6 = .ok (.aload_n 1, 1) := by decide +kernel
theorem dX8_look_7 : decode cX8_look 7 = .ok (.iload_n 2, 1) := by decide +kernel
theorem dX8_look_8 : decode cX8_look 8 = .ok (.invokevirtual 38, 3) := by decide +kernel
theorem dX8_look_11 : decode cX8_look 11 = .ok (.putfield 9, 3) := by decide +kernel
theorem dX8_look_14 : decode cX8_look 14 = .ok (.aload_n 0, 1) := by decide +kernel
theorem dX8_look_15 : decode cX8_look 15 = .ok (.aload_n 1, 1) := by decide +kernel
theorem dX8_look_16 : decode cX8_look 16 = .ok (.invokevirtual 42, 3) := by decide +kernel
theorem dX8_look_19 : decode cX8_look 19 = .ok (.putfield 15, 3) := by decide +kernel
theorem dX8_look_22 : decode cX8_look 22 = .ok (.aload_n 0, 1) := by decide +kernel
theorem dX8_look_23 : decode cX8_look 23 = .ok (.aload_n 1, 1) := by decide +kernel
theorem dX8_look_24 : decode cX8_look 24 = .ok (.iload_n 2, 1) := by decide +kernel
theorem dX8_look_25 : decode cX8_look 25 = .ok (.invokevirtual 45, 3) := by decide +kernel
theorem dX8_look_28 : decode cX8_look 28 = .ok (.putfield 19, 3) := by decide +kernel
theorem dX8_look_31 : decode cX8_look 31 = .ok (.aload_n 0, 1) := by decide +kernel
theorem dX8_look_32 : decode cX8_look 32 = .ok (.aload_n 1, 1) := by decide +kernel
theorem dX8_look_33 : decode cX8_look 33 = .ok (.aload_n 0, 1) := by decide +kernel
theorem dX8_look_34 : decode cX8_look 34 = .ok (.getfield 9, 3) := by decide +kernel
theorem dX8_look_37 : decode cX8_look 37 = .ok (.iload_n 2, 1) := by decide +kernel
theorem dX8_look_38 : decode cX8_look 38 = .ok (.ifCond .ne 7, 3) := by decide +kernel
theorem dX8_look_41 : decode cX8_look 41 = .ok (.iconst 1, 1) := by decide +kernel
theorem dX8_look_42 : decode cX8_look 42 = .ok (.goto 4, 3) := by decide +kernel
theorem dX8_look_45 : decode cX8_look 45 = .ok (.iconst 0, 1) := by decide +kernel
theorem dX8_look_46 : decode cX8_look 46 = .ok (.aload_n 0, 1) := by decide +kernel
theorem dX8_look_47 : decode cX8_look 47 = .ok (.getfield 15, 3) := by decide +kernel
theorem dX8_look_50 : decode cX8_look 50 = .ok (.invokevirtual 49, 3) := by decide +kernel
theorem dX8_look_53 : decode cX8_look 53 = .ok (.lconst 0, 1) := by decide +kernel
theorem dX8_look_54 : decode cX8_look 54 = .ok (.lcmp, 1) := by decide +kernel
theorem dX8_look_55 : decode cX8_look 55 = .ok (.ifCond .eq 7, 3) := by decide +kernel
theorem dX8_look_58 : decode cX8_look 58 = .ok (.iconst 1, 1) := by decide +kernel
theorem dX8_look_59 : decode cX8_look 59 = .ok (.goto 4, 3) := by decide +kernel
theorem dX8_look_62 : decode cX8_look 62 = .ok (.iconst 0, 1) := by decide +kernel
theorem dX8_look_63 : decode cX8_look 63 = .ok (.putfield 22, 3) := by decide +kernel
theorem dX8_look_66 : decode cX8_look 66 = .ok (.aload_n 0, 1) := by decide +kernel
theorem dX8_look_67 : decode cX8_look 67 = .ok (.aload_n 0, 1) := by decide +kernel
theorem dX8_look_68 : decode cX8_look 68 = .ok (.getfield 29, 3) := by decide +kernel
theorem dX8_look_71 : decode cX8_look 71 = .ok (.iconst 2, 1) := by decide +kernel
theorem dX8_look_72 : decode cX8_look 72 = .ok (.aload_n 0, 1) := by decide +kernel
theorem dX8_look_73 : decode cX8_look 73 = .ok (.getfield 9, 3) := by decide +kernel
theorem dX8_look_76 : decode cX8_look 76 = .ok (.aload_n 0, 1) := by decide +kernel
theorem dX8_look_77 : decode cX8_look 77 = .ok (.getfield 15, 3) := by decide +kernel
theorem dX8_look_80 : decode cX8_look 80 = .ok (.invokevirtual 53, 3) := by decide +kernel
theorem dX8_look_83 : decode cX8_look 83 = .ok (.aload_n 0, 1) := by decide +kernel
theorem dX8_look_84 : decode cX8_look 84 = .ok (.getfield 19, 3) := by decide +kernel
theorem dX8_look_87 : decode cX8_look 87 = .ok (.land, 1) := by decide +kernel
theorem dX8_look_88 : decode cX8_look 88 = .ok (.putfield 26, 3) := by decide +kernel
theorem dX8_look_91 : decode cX8_look 91 = .ok (.aload_n 1, 1) := by decide +kernel
theorem dX8_look_92 : decode cX8_look 92 = .ok (.aload_n 0, 1) := by decide +kernel
theorem dX8_look_93 : decode cX8_look 93 = .ok (.getfield 9, 3) := by decide +kernel
theorem dX8_look_96 : decode cX8_look 96 = .ok (.iload_n 2, 1) := by decide +kernel
theorem dX8_look_97 : decode cX8_look 97 = .ok (.ifCond .ne 7, 3) := by decide +kernel
theorem dX8_look_100 : decode cX8_look 100 = .ok (.iconst 1, 1) := by decide +kernel
theorem dX8_look_101 : decode cX8_look 101 = .ok (.goto 4, 3) := by decide +kernel
theorem dX8_look_104 : decode cX8_look 104 = .ok (.iconst 0, 1) := by decide +kernel
theorem dX8_look_105 : decode cX8_look 105 = .ok (.aload_n 0, 1) := by decide +kernel
theorem dX8_look_106 : decode cX8_look 106 = .ok (.getfield 15, 3) := by decide +kernel
theorem dX8_look_109 : decode cX8_look 109 = .ok (.aload_n 0, 1) := by decide +kernel
theorem dX8_look_110 : decode cX8_look 110 = .ok (.getfield 26, 3) := by decide +kernel
theorem dX8_look_113 : decode cX8_look 113 = .ok (.ldc2_w 59, 3) := by decide +kernel
theorem dX8_look_116 : decode cX8_look 116 = .ok (.lxor, 1) := by decide +kernel
theorem dX8_look_117 : decode cX8_look 117 = .ok (.land, 1) := by decide +kernel
theorem dX8_look_118 : decode cX8_look 118 = .ok (.invokevirtual 49, 3) := by decide +kernel
theorem dX8_look_121 : decode cX8_look 121 = .ok (.lconst 0, 1) := by decide +kernel
theorem dX8_look_122 : decode cX8_look 122 = .ok (.lcmp, 1) := by decide +kernel
theorem dX8_look_123 : decode cX8_look 123 = .ok (.ifCond .ne 8, 3) := by decide +kernel
theorem dX8_look_126 : decode cX8_look 126 = .ok (.aload_n 0, 1) := by decide +kernel
theorem dX8_look_127 : decode cX8_look 127 = .ok (.lconst 0, 1) := by decide +kernel
theorem dX8_look_128 : decode cX8_look 128 = .ok (.putfield 26, 3) := by decide +kernel
theorem dX8_look_131 : decode cX8_look 131 = .ok (.return_, 1) := by decide +kernel
theorem dX8_pawnAims_0 : decode cX8_pawnAims 0 = .ok (.aload_n 1, 1) := by decide +kernel
theorem dX8_pawnAims_1 : decode cX8_pawnAims 1 = .ok (.getfield 33, 3) := by decide +kernel
theorem dX8_pawnAims_4 : decode cX8_pawnAims 4 = .ok (.istore_n 3, 1) := by decide +kernel
theorem dX8_pawnAims_5 : decode cX8_pawnAims 5 = .ok (.iload_n 3, 1) := by decide +kernel
theorem dX8_pawnAims_6 : decode cX8_pawnAims 6 = .ok (.ifCond .eq 13, 3) := by decide +kernel
theorem dX8_pawnAims_9 : decode cX8_pawnAims 9 = .ok (.aload_n 0, 1) := by decide +kernel
theorem dX8_pawnAims_10 : decode cX8_pawnAims 10 = .ok (.getfield 29, 3) := by decide +kernel
theorem dX8_pawnAims_13 : decode cX8_pawnAims 13 = .ok (.getfield 110, 3) := by decide +kernel
theorem dX8_pawnAims_16 : decode cX8_pawnAims 16 = .ok (.goto 11, 3) := by decide +kernel
theorem dX8_pawnAims_19 : decode cX8_pawnAims 19 = .ok (.aload_n 0, 1) := by decide +kernel
theorem dX8_pawnAims_20 : decode cX8_pawnAims 20 = .ok (.getfield 29, 3) := by decide +kernel
theorem dX8_pawnAims_23 : decode cX8_pawnAims 23 = .ok (.getfield 110, 3) := by decide +kernel
theorem dX8_pawnAims_26 : decode cX8_pawnAims 26 = .ok (.ineg, 1) := by decide +kernel
theorem dX8_pawnAims_27 : decode cX8_pawnAims 27 = .ok (.istore 4, 2) := by decide +kernel
theorem dX8_pawnAims_29 : decode cX8_pawnAims 29 = .ok (.lconst 0, 1) := by decide +kernel
theorem dX8_pawnAims_30 : decode cX8_pawnAims 30 = .ok (.lstore 5, 2) := by decide +kernel
theorem dX8_pawnAims_32 : decode cX8_pawnAims 32 = .ok (.iload_n 2, 1) := by decide +kernel
theorem dX8_pawnAims_33 : decode cX8_pawnAims 33 = .ok (.iload 4, 2) := by decide +kernel
theorem dX8_pawnAims_35 : decode cX8_pawnAims 35 = .ok (.iadd, 1) := by decide +kernel
theorem dX8_pawnAims_36 : decode cX8_pawnAims 36 = .ok (.istore 7, 2) := by decide +kernel
theorem dX8_pawnAims_38 : decode cX8_pawnAims 38 = .ok (.aload_n 0, 1) := by decide +kernel
theorem dX8_pawnAims_39 : decode cX8_pawnAims 39 = .ok (.getfield 29, 3) := by decide +kernel
theorem dX8_pawnAims_42 : decode cX8_pawnAims 42 = .ok (.iload 7, 2) := by decide +kernel
theorem dX8_pawnAims_44 : decode cX8_pawnAims 44 = .ok (.invokevirtual 113, 3) := by decide +kernel
theorem dX8_pawnAims_47 : decode cX8_pawnAims 47 = .ok (.ifCond .eq 103, 3) := by decide +kernel
theorem dX8_pawnAims_50 : decode cX8_pawnAims 50 = .ok (.aload_n 0, 1) := by decide +kernel
theorem dX8_pawnAims_51 : decode cX8_pawnAims 51 = .ok (.getfield 15, 3) := by decide +kernel
theorem dX8_pawnAims_54 : decode cX8_pawnAims 54 = .ok (.iload 7, 2) := by decide +kernel
theorem dX8_pawnAims_56 : decode cX8_pawnAims 56 = .ok (.invokestatic 68, 3) := by decide +kernel
theorem dX8_pawnAims_59 : decode cX8_pawnAims 59 = .ok (.ifCond .ne 91, 3) := by decide +kernel
theorem dX8_pawnAims_62 : decode cX8_pawnAims 62 = .ok (.lload 5, 2) := by decide +kernel
theorem dX8_pawnAims_64 : decode cX8_pawnAims 64 = .ok (.lconst 1, 1) := by decide +kernel
theorem dX8_pawnAims_65 : decode cX8_pawnAims 65 = .ok (.iload 7, 2) := by decide +kernel
theorem dX8_pawnAims_67 : decode cX8_pawnAims 67 = .ok (.lshl, 1) := by decide +kernel
theorem dX8_pawnAims_68 : decode cX8_pawnAims 68 = .ok (.lor, 1) := by decide +kernel
theorem dX8_pawnAims_69 : decode cX8_pawnAims 69 = .ok (.lstore 5, 2) := by decide +kernel
theorem dX8_pawnAims_71 : decode cX8_pawnAims 71 = .ok (.aload_n 0, 1) := by decide +kernel
theorem dX8_pawnAims_72 : decode cX8_pawnAims 72 = .ok (.getfield 29, 3) := by decide +kernel
theorem dX8_pawnAims_75 : decode cX8_pawnAims 75 = .ok (.iload_n 2, 1) := by decide +kernel
theorem dX8_pawnAims_76 : decode cX8_pawnAims 76 = .ok (.invokevirtual 117, 3) := by decide +kernel
theorem dX8_pawnAims_79 : decode cX8_pawnAims 79 = .ok (.iload_n 3, 1) := by decide +kernel
theorem dX8_pawnAims_80 : decode cX8_pawnAims 80 = .ok (.ifCond .eq 7, 3) := by decide +kernel
theorem dX8_pawnAims_83 : decode cX8_pawnAims 83 = .ok (.iconst 1, 1) := by decide +kernel
theorem dX8_pawnAims_84 : decode cX8_pawnAims 84 = .ok (.goto 12, 3) := by decide +kernel
theorem dX8_pawnAims_87 : decode cX8_pawnAims 87 = .ok (.aload_n 0, 1) := by decide +kernel
theorem dX8_pawnAims_88 : decode cX8_pawnAims 88 = .ok (.getfield 29, 3) := by decide +kernel
theorem dX8_pawnAims_91 : decode cX8_pawnAims 91 = .ok (.getfield 120, 3) := by decide +kernel
theorem dX8_pawnAims_94 : decode cX8_pawnAims 94 = .ok (.iconst 2, 1) := by decide +kernel
theorem dX8_pawnAims_95 : decode cX8_pawnAims 95 = .ok (.isub, 1) := by decide +kernel
theorem dX8_pawnAims_96 : decode cX8_pawnAims 96 = .ok (.if_icmp .ne 7, 3) := by decide +kernel
theorem dX8_pawnAims_99 : decode cX8_pawnAims 99 = .ok (.iconst 1, 1) := by decide +kernel
theorem dX8_pawnAims_100 : decode cX8_pawnAims 100 = .ok (.goto 4, 3) := by decide +kernel
theorem dX8_pawnAims_103 : decode cX8_pawnAims 103 = .ok (.iconst 0, 1) := by decide +kernel
theorem dX8_pawnAims_104 : decode cX8_pawnAims 104 = .ok (.istore 8, 2) := by decide +kernel
theorem dX8_pawnAims_106 : decode cX8_pawnAims 106 = .ok (.iload 8, 2) := by decide +kernel
theorem dX8_pawnAims_108 : decode cX8_pawnAims 108 = .ok (.ifCond .eq 42, 3) := by decide +kernel
theorem dX8_pawnAims_111 : decode cX8_pawnAims 111 = .ok (.aload_n 0, 1) := by decide +kernel
theorem dX8_pawnAims_112 : decode cX8_pawnAims 112 = .ok (.getfield 29, 3) := by decide +kernel
theorem dX8_pawnAims_115 : decode cX8_pawnAims 115 = .ok (.getfield 120, 3) := by decide +kernel
theorem dX8_pawnAims_118 : decode cX8_pawnAims 118 = .ok (.bipush 6, 2) := by decide +kernel
theorem dX8_pawnAims_120 : decode cX8_pawnAims 120 = .ok (.if_icmp .lt 30, 3) := by decide +kernel
theorem dX8_pawnAims_123 : decode cX8_pawnAims 123 = .ok (.aload_n 0, 1) := by decide +kernel
theorem dX8_pawnAims_124 : decode cX8_pawnAims 124 = .ok (.getfield 15, 3) := by decide +kernel
theorem dX8_pawnAims_127 : decode cX8_pawnAims 127 = .ok (.iload 7, 2) := by decide +kernel
theorem dX8_pawnAims_129 : decode cX8_pawnAims 129 = .ok (.iload 4, 2) := by decide +kernel
theorem dX8_pawnAims_131 : decode cX8_pawnAims 131 = .ok (.iadd, 1) := by decide +kernel
theorem dX8_pawnAims_132 : decode cX8_pawnAims 132 = .ok (.invokestatic 68, 3) := by decide +kernel
theorem dX8_pawnAims_135 : decode cX8_pawnAims 135 = .ok (.ifCond .ne 15, 3) := by decide +kernel
theorem dX8_pawnAims_138 : decode cX8_pawnAims 138 = .ok (.lload 5, 2) := by decide +kernel
theorem dX8_pawnAims_140 : decode cX8_pawnAims 140 = .ok (.lconst 1, 1) := by decide +kernel
theorem dX8_pawnAims_141 : decode cX8_pawnAims 141 = .ok (.iload 7, 2) := by decide +kernel
theorem dX8_pawnAims_143 : decode cX8_pawnAims 143 = .ok (.iload 4, 2) := by decide +kernel
theorem dX8_pawnAims_145 : decode cX8_pawnAims 145 = .ok (.iadd, 1) := by decide +kernel
theorem dX8_pawnAims_146 : decode cX8_pawnAims 146 = .ok (.lshl, 1) := by decide +kernel
theorem dX8_pawnAims_147 : decode cX8_pawnAims 147 = .ok (.lor, 1) := by decide +kernel
theorem dX8_pawnAims_148 : decode cX8_pawnAims 148 = .ok (.lstore 5, 2) := by decide +kernel
theorem dX8_pawnAims_150 : decode cX8_pawnAims 150 = .ok (.aload_n 1, 1) := by decide +kernel
theorem dX8_pawnAims_151 : decode cX8_pawnAims 151 = .ok (.iload_n 3, 1) := by decide +kernel
theorem dX8_pawnAims_152 : decode cX8_pawnAims 152 = .ok (.ifCond .ne 7, 3) := by decide +kernel
theorem dX8_pawnAims_155 : decode cX8_pawnAims 155 = .ok (.iconst 1, 1) := by decide +kernel
theorem dX8_pawnAims_156 : decode cX8_pawnAims 156 = .ok (.goto 4, 3) := by decide +kernel
theorem dX8_pawnAims_159 : decode cX8_pawnAims 159 = .ok (.iconst 0, 1) := by decide +kernel
theorem dX8_pawnAims_160 : decode cX8_pawnAims 160 = .ok (.invokevirtual 45, 3) := by decide +kernel
theorem dX8_pawnAims_163 : decode cX8_pawnAims 163 = .ok (.lstore 8, 2) := by decide +kernel
theorem dX8_pawnAims_165 : decode cX8_pawnAims 165 = .ok (.aload_n 1, 1) := by decide +kernel
theorem dX8_pawnAims_166 : decode cX8_pawnAims 166 = .ok (.getfield 107, 3) := by decide +kernel
theorem dX8_pawnAims_169 : decode cX8_pawnAims 169 = .ok (.iconst (-1), 1) := by decide +kernel
theorem dX8_pawnAims_170 : decode cX8_pawnAims 170 = .ok (.if_icmp .eq 14, 3) := by decide +kernel
theorem dX8_pawnAims_173 : decode cX8_pawnAims 173 = .ok (.lload 8, 2) := by decide +kernel
theorem dX8_pawnAims_175 : decode cX8_pawnAims 175 = .ok (.lconst 1, 1) := by decide +kernel
theorem dX8_pawnAims_176 : decode cX8_pawnAims 176 = .ok (.aload_n 1, 1) := by decide +kernel
theorem dX8_pawnAims_177 : decode cX8_pawnAims 177 = .ok (.getfield 107, 3) := by decide +kernel
theorem dX8_pawnAims_180 : decode cX8_pawnAims 180 = .ok (.lshl, 1) := by decide +kernel
theorem dX8_pawnAims_181 : decode cX8_pawnAims 181 = .ok (.lor, 1) := by decide +kernel
theorem dX8_pawnAims_182 : decode cX8_pawnAims 182 = .ok (.lstore 8, 2) := by decide +kernel
theorem dX8_pawnAims_184 : decode cX8_pawnAims 184 = .ok (.lload 5, 2) := by decide +kernel
theorem dX8_pawnAims_186 : decode cX8_pawnAims 186 = .ok (.aload_n 0, 1) := by decide +kernel
theorem dX8_pawnAims_187 : decode cX8_pawnAims 187 = .ok (.getfield 29, 3) := by decide +kernel
theorem dX8_pawnAims_190 : decode cX8_pawnAims 190 = .ok (.iload_n 2, 1) := by decide +kernel
theorem dX8_pawnAims_191 : decode cX8_pawnAims 191 = .ok (.iload_n 3, 1) := by decide +kernel
theorem dX8_pawnAims_192 : decode cX8_pawnAims 192 = .ok (.invokevirtual 123, 3) := by decide +kernel
theorem dX8_pawnAims_195 : decode cX8_pawnAims 195 = .ok (.lload 8, 2) := by decide +kernel
theorem dX8_pawnAims_197 : decode cX8_pawnAims 197 = .ok (.land, 1) := by decide +kernel
theorem dX8_pawnAims_198 : decode cX8_pawnAims 198 = .ok (.lor, 1) := by decide +kernel
theorem dX8_pawnAims_199 : decode cX8_pawnAims 199 = .ok (.lreturn, 1) := by decide +kernel
theorem dX8_targets_0 : decode cX8_targets 0 = .ok (.aload_n 1, 1) := by decide +kernel
theorem dX8_targets_1 : decode cX8_targets 1 = .ok (.iload_n 2, 1) := by decide +kernel
theorem dX8_targets_2 : decode cX8_targets 2 = .ok (.invokevirtual 86, 3) := by decide +kernel
theorem dX8_targets_5 : decode cX8_targets 5 = .ok (.istore_n 3, 1) := by decide +kernel
theorem dX8_targets_6 : decode cX8_targets 6 = .ok (.iload_n 3, 1) := by decide +kernel
theorem dX8_targets_7 : decode cX8_targets 7 = .ok (.bipush 6, 2) := by decide +kernel
theorem dX8_targets_9 : decode cX8_targets 9 = .ok (.if_icmp .ne 7, 3) := by decide +kernel
theorem dX8_targets_12 : decode cX8_targets 12 = .ok (.iconst 1, 1) := by decide +kernel
theorem dX8_targets_13 : decode cX8_targets 13 = .ok (.goto 4, 3) := by decide +kernel
theorem dX8_targets_16 : decode cX8_targets 16 = .ok (.iconst 0, 1) := by decide +kernel
theorem dX8_targets_17 : decode cX8_targets 17 = .ok (.istore 4, 2) := by decide +kernel
theorem dX8_targets_19 : decode cX8_targets 19 = .ok (.iload 4, 2) := by decide +kernel
theorem dX8_targets_21 : decode cX8_targets 21 = .ok (.ifCond .eq 12, 3) := by decide +kernel
theorem dX8_targets_24 : decode cX8_targets 24 = .ok (.aload_n 0, 1) := by decide +kernel
theorem dX8_targets_25 : decode cX8_targets 25 = .ok (.aload_n 1, 1) := by decide +kernel
theorem dX8_targets_26 : decode cX8_targets 26 = .ok (.iload_n 2, 1) := by decide +kernel
theorem dX8_targets_27 : decode cX8_targets 27 = .ok (.invokevirtual 104, 3) := by decide +kernel
theorem dX8_targets_30 : decode cX8_targets 30 = .ok (.goto 25, 3) := by decide +kernel
theorem dX8_targets_33 : decode cX8_targets 33 = .ok (.aload_n 0, 1) := by decide +kernel
theorem dX8_targets_34 : decode cX8_targets 34 = .ok (.getfield 29, 3) := by decide +kernel
theorem dX8_targets_37 : decode cX8_targets 37 = .ok (.iload_n 3, 1) := by decide +kernel
theorem dX8_targets_38 : decode cX8_targets 38 = .ok (.iload_n 2, 1) := by decide +kernel
theorem dX8_targets_39 : decode cX8_targets 39 = .ok (.aload_n 0, 1) := by decide +kernel
theorem dX8_targets_40 : decode cX8_targets 40 = .ok (.getfield 15, 3) := by decide +kernel
theorem dX8_targets_43 : decode cX8_targets 43 = .ok (.invokevirtual 53, 3) := by decide +kernel
theorem dX8_targets_46 : decode cX8_targets 46 = .ok (.aload_n 0, 1) := by decide +kernel
theorem dX8_targets_47 : decode cX8_targets 47 = .ok (.getfield 19, 3) := by decide +kernel
theorem dX8_targets_50 : decode cX8_targets 50 = .ok (.ldc2_w 59, 3) := by decide +kernel
theorem dX8_targets_53 : decode cX8_targets 53 = .ok (.lxor, 1) := by decide +kernel
theorem dX8_targets_54 : decode cX8_targets 54 = .ok (.land, 1) := by decide +kernel
theorem dX8_targets_55 : decode cX8_targets 55 = .ok (.lstore 5, 2) := by decide +kernel
theorem dX8_targets_57 : decode cX8_targets 57 = .ok (.iload 4, 2) := by decide +kernel
theorem dX8_targets_59 : decode cX8_targets 59 = .ok (.ifCond .eq 15, 3) := by decide +kernel
theorem dX8_targets_62 : decode cX8_targets 62 = .ok (.aload_n 1, 1) := by decide +kernel
theorem dX8_targets_63 : decode cX8_targets 63 = .ok (.getfield 107, 3) := by decide +kernel
theorem dX8_targets_66 : decode cX8_targets 66 = .ok (.iconst (-1), 1) := by decide +kernel
theorem dX8_targets_67 : decode cX8_targets 67 = .ok (.if_icmp .eq 7, 3) := by decide +kernel
theorem dX8_targets_70 : decode cX8_targets 70 = .ok (.iconst 1, 1) := by decide +kernel
theorem dX8_targets_71 : decode cX8_targets 71 = .ok (.goto 4, 3) := by decide +kernel
theorem dX8_targets_74 : decode cX8_targets 74 = .ok (.iconst 0, 1) := by decide +kernel
theorem dX8_targets_75 : decode cX8_targets 75 = .ok (.istore 7, 2) := by decide +kernel
theorem dX8_targets_77 : decode cX8_targets 77 = .ok (.aload_n 0, 1) := by decide +kernel
theorem dX8_targets_78 : decode cX8_targets 78 = .ok (.getfield 22, 3) := by decide +kernel
theorem dX8_targets_81 : decode cX8_targets 81 = .ok (.ifCond .ne 27, 3) := by decide +kernel
theorem dX8_targets_84 : decode cX8_targets 84 = .ok (.iload 7, 2) := by decide +kernel
theorem dX8_targets_86 : decode cX8_targets 86 = .ok (.ifCond .ne 22, 3) := by decide +kernel
theorem dX8_targets_89 : decode cX8_targets 89 = .ok (.iload_n 3, 1) := by decide +kernel
theorem dX8_targets_90 : decode cX8_targets 90 = .ok (.iconst 1, 1) := by decide +kernel
theorem dX8_targets_91 : decode cX8_targets 91 = .ok (.if_icmp .eq 17, 3) := by decide +kernel
theorem dX8_targets_94 : decode cX8_targets 94 = .ok (.aload_n 0, 1) := by decide +kernel
theorem dX8_targets_95 : decode cX8_targets 95 = .ok (.getfield 26, 3) := by decide +kernel
theorem dX8_targets_98 : decode cX8_targets 98 = .ok (.iload_n 2, 1) := by decide +kernel
theorem dX8_targets_99 : decode cX8_targets 99 = .ok (.invokestatic 68, 3) := by decide +kernel
theorem dX8_targets_102 : decode cX8_targets 102 = .ok (.ifCond .ne 6, 3) := by decide +kernel
theorem dX8_targets_105 : decode cX8_targets 105 = .ok (.lload 5, 2) := by decide +kernel
theorem dX8_targets_107 : decode cX8_targets 107 = .ok (.lreturn, 1) := by decide +kernel
theorem dX8_targets_108 : decode cX8_targets 108 = .ok (.lconst 0, 1) := by decide +kernel
theorem dX8_targets_109 : decode cX8_targets 109 = .ok (.lstore 8, 2) := by decide +kernel
theorem dX8_targets_111 : decode cX8_targets 111 = .ok (.lload 5, 2) := by decide +kernel
theorem dX8_targets_113 : decode cX8_targets 113 = .ok (.lstore 10, 2) := by decide +kernel
theorem dX8_targets_115 : decode cX8_targets 115 = .ok (.iconst 0, 1) := by decide +kernel
theorem dX8_targets_116 : decode cX8_targets 116 = .ok (.istore 12, 2) := by decide +kernel
theorem dX8_targets_118 : decode cX8_targets 118 = .ok (.iload 12, 2) := by decide +kernel
theorem dX8_targets_120 : decode cX8_targets 120 = .ok (.bipush 64, 2) := by decide +kernel
theorem dX8_targets_122 : decode cX8_targets 122 = .ok (.if_icmp .ge 172, 3) := by decide +kernel
theorem dX8_targets_125 : decode cX8_targets 125 = .ok (.lload 10, 2) := by decide +kernel
theorem dX8_targets_127 : decode cX8_targets 127 = .ok (.lconst 0, 1) := by decide +kernel
theorem dX8_targets_128 : decode cX8_targets 128 = .ok (.lcmp, 1) := by decide +kernel
theorem dX8_targets_129 : decode cX8_targets 129 = .ok (.ifCond .eq 165, 3) := by decide +kernel
theorem dX8_targets_132 : decode cX8_targets 132 = .ok (.lload 10, 2) := by decide +kernel
theorem dX8_targets_134 : decode cX8_targets 134 = .ok (.invokestatic 97, 3) := by decide +kernel
theorem dX8_targets_137 : decode cX8_targets 137 = .ok (.istore 13, 2) := by decide +kernel
theorem dX8_targets_139 : decode cX8_targets 139 = .ok (.lload 10, 2) := by decide +kernel
theorem dX8_targets_141 : decode cX8_targets 141 = .ok (.lload 10, 2) := by decide +kernel
theorem dX8_targets_143 : decode cX8_targets 143 = .ok (.lconst 1, 1) := by decide +kernel
theorem dX8_targets_144 : decode cX8_targets 144 = .ok (.lsub, 1) := by decide +kernel
theorem dX8_targets_145 : decode cX8_targets 145 = .ok (.land, 1) := by decide +kernel
theorem dX8_targets_146 : decode cX8_targets 146 = .ok (.lstore 10, 2) := by decide +kernel
theorem dX8_targets_148 : decode cX8_targets 148 = .ok (.lconst 1, 1) := by decide +kernel
theorem dX8_targets_149 : decode cX8_targets 149 = .ok (.iload 13, 2) := by decide +kernel
theorem dX8_targets_151 : decode cX8_targets 151 = .ok (.lshl, 1) := by decide +kernel
theorem dX8_targets_152 : decode cX8_targets 152 = .ok (.lstore 14, 2) := by decide +kernel
theorem dX8_targets_154 : decode cX8_targets 154 = .ok (.iload 7, 2) := by decide +kernel
theorem dX8_targets_156 : decode cX8_targets 156 = .ok (.ifCond .eq 49, 3) := by decide +kernel
theorem dX8_targets_159 : decode cX8_targets 159 = .ok (.iload 13, 2) := by decide +kernel
theorem dX8_targets_161 : decode cX8_targets 161 = .ok (.aload_n 1, 1) := by decide +kernel
theorem dX8_targets_162 : decode cX8_targets 162 = .ok (.getfield 107, 3) := by decide +kernel
theorem dX8_targets_165 : decode cX8_targets 165 = .ok (.if_icmp .ne 40, 3) := by decide +kernel
theorem dX8_targets_168 : decode cX8_targets 168 = .ok (.lload 14, 2) := by decide +kernel
theorem dX8_targets_170 : decode cX8_targets 170 = .ok (.lconst 1, 1) := by decide +kernel
theorem dX8_targets_171 : decode cX8_targets 171 = .ok (.aload_n 1, 1) := by decide +kernel
theorem dX8_targets_172 : decode cX8_targets 172 = .ok (.getfield 33, 3) := by decide +kernel
theorem dX8_targets_175 : decode cX8_targets 175 = .ok (.ifCond .eq 16, 3) := by decide +kernel
theorem dX8_targets_178 : decode cX8_targets 178 = .ok (.iload 13, 2) := by decide +kernel
theorem dX8_targets_180 : decode cX8_targets 180 = .ok (.aload_n 0, 1) := by decide +kernel
theorem dX8_targets_181 : decode cX8_targets 181 = .ok (.getfield 29, 3) := by decide +kernel
theorem dX8_targets_184 : decode cX8_targets 184 = .ok (.getfield 110, 3) := by decide +kernel
theorem dX8_targets_187 : decode cX8_targets 187 = .ok (.isub, 1) := by decide +kernel
theorem dX8_targets_188 : decode cX8_targets 188 = .ok (.goto 13, 3) := by decide +kernel
theorem dX8_targets_191 : decode cX8_targets 191 = .ok (.iload 13, 2) := by decide +kernel
theorem dX8_targets_193 : decode cX8_targets 193 = .ok (.aload_n 0, 1) := by decide +kernel
theorem dX8_targets_194 : decode cX8_targets 194 = .ok (.getfield 29, 3) := by decide +kernel
theorem dX8_targets_197 : decode cX8_targets 197 = .ok (.getfield 110, 3) := by decide +kernel
theorem dX8_targets_200 : decode cX8_targets 200 = .ok (.iadd, 1) := by decide +kernel
theorem dX8_targets_201 : decode cX8_targets 201 = .ok (.lshl, 1) := by decide +kernel
theorem dX8_targets_202 : decode cX8_targets 202 = .ok (.lor, 1) := by decide +kernel
theorem dX8_targets_203 : decode cX8_targets 203 = .ok (.lstore 14, 2) := by decide +kernel
theorem dX8_targets_205 : decode cX8_targets 205 = .ok (.aload_n 0, 1) := by decide +kernel
theorem dX8_targets_206 : decode cX8_targets 206 = .ok (.getfield 15, 3) := by decide +kernel
theorem dX8_targets_209 : decode cX8_targets 209 = .ok (.lload 14, 2) := by decide +kernel
theorem dX8_targets_211 : decode cX8_targets 211 = .ok (.ldc2_w 59, 3) := by decide +kernel
theorem dX8_targets_214 : decode cX8_targets 214 = .ok (.lxor, 1) := by decide +kernel
theorem dX8_targets_215 : decode cX8_targets 215 = .ok (.land, 1) := by decide +kernel
theorem dX8_targets_216 : decode cX8_targets 216 = .ok (.lconst 1, 1) := by decide +kernel
theorem dX8_targets_217 : decode cX8_targets 217 = .ok (.iload_n 2, 1) := by decide +kernel
theorem dX8_targets_218 : decode cX8_targets 218 = .ok (.lshl, 1) := by decide +kernel
theorem dX8_targets_219 : decode cX8_targets 219 = .ok (.ldc2_w 59, 3) := by decide +kernel
theorem dX8_targets_222 : decode cX8_targets 222 = .ok (.lxor, 1) := by decide +kernel
theorem dX8_targets_223 : decode cX8_targets 223 = .ok (.land, 1) := by decide +kernel
theorem dX8_targets_224 : decode cX8_targets 224 = .ok (.lconst 1, 1) := by decide +kernel
theorem dX8_targets_225 : decode cX8_targets 225 = .ok (.iload 13, 2) := by decide +kernel
theorem dX8_targets_227 : decode cX8_targets 227 = .ok (.lshl, 1) := by decide +kernel
theorem dX8_targets_228 : decode cX8_targets 228 = .ok (.lor, 1) := by decide +kernel
theorem dX8_targets_229 : decode cX8_targets 229 = .ok (.lstore 16, 2) := by decide +kernel
theorem dX8_targets_231 : decode cX8_targets 231 = .ok (.iload_n 3, 1) := by decide +kernel
theorem dX8_targets_232 : decode cX8_targets 232 = .ok (.iconst 1, 1) := by decide +kernel
theorem dX8_targets_233 : decode cX8_targets 233 = .ok (.if_icmp .ne 8, 3) := by decide +kernel
theorem dX8_targets_236 : decode cX8_targets 236 = .ok (.iload 13, 2) := by decide +kernel
theorem dX8_targets_238 : decode cX8_targets 238 = .ok (.goto 7, 3) := by decide +kernel
theorem dX8_targets_241 : decode cX8_targets 241 = .ok (.aload_n 0, 1) := by decide +kernel
theorem dX8_targets_242 : decode cX8_targets 242 = .ok (.getfield 9, 3) := by decide +kernel
theorem dX8_targets_245 : decode cX8_targets 245 = .ok (.istore 18, 2) := by decide +kernel
theorem dX8_targets_247 : decode cX8_targets 247 = .ok (.aload_n 1, 1) := by decide +kernel
theorem dX8_targets_248 : decode cX8_targets 248 = .ok (.iload 18, 2) := by decide +kernel
theorem dX8_targets_250 : decode cX8_targets 250 = .ok (.aload_n 1, 1) := by decide +kernel
theorem dX8_targets_251 : decode cX8_targets 251 = .ok (.getfield 33, 3) := by decide +kernel
theorem dX8_targets_254 : decode cX8_targets 254 = .ok (.ifCond .ne 7, 3) := by decide +kernel
theorem dX8_targets_257 : decode cX8_targets 257 = .ok (.iconst 1, 1) := by decide +kernel
theorem dX8_targets_258 : decode cX8_targets 258 = .ok (.goto 4, 3) := by decide +kernel
theorem dX8_targets_261 : decode cX8_targets 261 = .ok (.iconst 0, 1) := by decide +kernel
theorem dX8_targets_262 : decode cX8_targets 262 = .ok (.lload 16, 2) := by decide +kernel
theorem dX8_targets_264 : decode cX8_targets 264 = .ok (.invokevirtual 49, 3) := by decide +kernel
theorem dX8_targets_267 : decode cX8_targets 267 = .ok (.lload 14, 2) := by decide +kernel
theorem dX8_targets_269 : decode cX8_targets 269 = .ok (.ldc2_w 59, 3) := by decide +kernel
theorem dX8_targets_272 : decode cX8_targets 272 = .ok (.lxor, 1) := by decide +kernel
theorem dX8_targets_273 : decode cX8_targets 273 = .ok (.land, 1) := by decide +kernel
theorem dX8_targets_274 : decode cX8_targets 274 = .ok (.lconst 0, 1) := by decide +kernel
theorem dX8_targets_275 : decode cX8_targets 275 = .ok (.lcmp, 1) := by decide +kernel
theorem dX8_targets_276 : decode cX8_targets 276 = .ok (.ifCond .ne 12, 3) := by decide +kernel
theorem dX8_targets_279 : decode cX8_targets 279 = .ok (.lload 8, 2) := by decide +kernel
theorem dX8_targets_281 : decode cX8_targets 281 = .ok (.lconst 1, 1) := by decide +kernel
theorem dX8_targets_282 : decode cX8_targets 282 = .ok (.iload 13, 2) := by decide +kernel
theorem dX8_targets_284 : decode cX8_targets 284 = .ok (.lshl, 1) := by decide +kernel
theorem dX8_targets_285 : decode cX8_targets 285 = .ok (.lor, 1) := by decide +kernel
theorem dX8_targets_286 : decode cX8_targets 286 = .ok (.lstore 8, 2) := by decide +kernel
theorem dX8_targets_288 : decode cX8_targets 288 = .ok (.iinc 12 1, 3) := by decide +kernel
theorem dX8_targets_291 : decode cX8_targets 291 = .ok (.goto (-173), 3) := by decide +kernel
theorem dX8_targets_294 : decode cX8_targets 294 = .ok (.lload 8, 2) := by decide +kernel
theorem dX8_targets_296 : decode cX8_targets 296 = .ok (.lreturn, 1) := by decide +kernel
theorem dX8_generate_0 : decode cX8_generate 0 = .ok (.aload_n 0, 1) := by decide +kernel
theorem dX8_generate_1 : decode cX8_generate 1 = .ok (.aload_n 1, 1) := by decide +kernel
theorem dX8_generate_2 : decode cX8_generate 2 = .ok (.invokevirtual 61, 3) := by decide +kernel
theorem dX8_generate_5 : decode cX8_generate 5 = .ok (.iconst 0, 1) := by decide +kernel
theorem dX8_generate_6 : decode cX8_generate 6 = .ok (.istore_n 3, 1) := by decide +kernel
theorem dX8_generate_7 : decode cX8_generate 7 = .ok (.iconst 0, 1) := by decide +kernel
theorem dX8_generate_8 : decode cX8_generate 8 = .ok (.istore 4, 2) := by decide +kernel
theorem dX8_generate_10 : decode cX8_generate 10 = .ok (.iload 4, 2) := by decide +kernel
theorem dX8_generate_12 : decode cX8_generate 12 = .ok (.aload_n 0, 1) := by decide +kernel
theorem dX8_generate_13 : decode cX8_generate 13 = .ok (.getfield 29, 3) := by decide +kernel
theorem dX8_generate_16 : decode cX8_generate 16 = .ok (.getfield 65, 3) := by decide +kernel
theorem dX8_generate_19 : decode cX8_generate 19 = .ok (.if_icmp .ge 97, 3) := by decide +kernel
theorem dX8_generate_22 : decode cX8_generate 22 = .ok (.aload_n 0, 1) := by decide +kernel
theorem dX8_generate_23 : decode cX8_generate 23 = .ok (.getfield 19, 3) := by decide +kernel
theorem dX8_generate_26 : decode cX8_generate 26 = .ok (.iload 4, 2) := by decide +kernel
theorem dX8_generate_28 : decode cX8_generate 28 = .ok (.invokestatic 68, 3) := by decide +kernel
theorem dX8_generate_31 : decode cX8_generate 31 = .ok (.ifCond .eq 79, 3) := by decide +kernel
theorem dX8_generate_34 : decode cX8_generate 34 = .ok (.aload_n 0, 1) := by decide +kernel
theorem dX8_generate_35 : decode cX8_generate 35 = .ok (.aload_n 1, 1) := by decide +kernel
theorem dX8_generate_36 : decode cX8_generate 36 = .ok (.iload 4, 2) := by decide +kernel
theorem dX8_generate_38 : decode cX8_generate 38 = .ok (.invokevirtual 72, 3) := by decide +kernel
theorem dX8_generate_41 : decode cX8_generate 41 = .ok (.lstore 5, 2) := by decide +kernel
theorem dX8_generate_43 : decode cX8_generate 43 = .ok (.iload 4, 2) := by decide +kernel
theorem dX8_generate_45 : decode cX8_generate 45 = .ok (.aload_n 0, 1) := by decide +kernel
theorem dX8_generate_46 : decode cX8_generate 46 = .ok (.getfield 9, 3) := by decide +kernel
theorem dX8_generate_49 : decode cX8_generate 49 = .ok (.if_icmp .ne 13, 3) := by decide +kernel
theorem dX8_generate_52 : decode cX8_generate 52 = .ok (.lload 5, 2) := by decide +kernel
theorem dX8_generate_54 : decode cX8_generate 54 = .ok (.aload_n 0, 1) := by decide +kernel
theorem dX8_generate_55 : decode cX8_generate 55 = .ok (.aload_n 1, 1) := by decide +kernel
theorem dX8_generate_56 : decode cX8_generate 56 = .ok (.invokevirtual 76, 3) := by decide +kernel
theorem dX8_generate_59 : decode cX8_generate 59 = .ok (.lor, 1) := by decide +kernel
theorem dX8_generate_60 : decode cX8_generate 60 = .ok (.lstore 5, 2) := by decide +kernel
theorem dX8_generate_62 : decode cX8_generate 62 = .ok (.aload_n 1, 1) := by decide +kernel
theorem dX8_generate_63 : decode cX8_generate 63 = .ok (.iload 4, 2) := by decide +kernel
theorem dX8_generate_65 : decode cX8_generate 65 = .ok (.invokevirtual 86, 3) := by decide +kernel
theorem dX8_generate_68 : decode cX8_generate 68 = .ok (.bipush 6, 2) := by decide +kernel
theorem dX8_generate_70 : decode cX8_generate 70 = .ok (.if_icmp .ne 7, 3) := by decide +kernel
theorem dX8_generate_73 : decode cX8_generate 73 = .ok (.iconst 1, 1) := by decide +kernel
theorem dX8_generate_74 : decode cX8_generate 74 = .ok (.goto 4, 3) := by decide +kernel
theorem dX8_generate_77 : decode cX8_generate 77 = .ok (.iconst 0, 1) := by decide +kernel
theorem dX8_generate_78 : decode cX8_generate 78 = .ok (.istore 7, 2) := by decide +kernel
theorem dX8_generate_80 : decode cX8_generate 80 = .ok (.aload_n 0, 1) := by decide +kernel
theorem dX8_generate_81 : decode cX8_generate 81 = .ok (.aload_n 2, 1) := by decide +kernel
theorem dX8_generate_82 : decode cX8_generate 82 = .ok (.iload_n 3, 1) := by decide +kernel
theorem dX8_generate_83 : decode cX8_generate 83 = .ok (.iload 4, 2) := by decide +kernel
theorem dX8_generate_85 : decode cX8_generate 85 = .ok (.lload 5, 2) := by decide +kernel
theorem dX8_generate_87 : decode cX8_generate 87 = .ok (.iload 7, 2) := by decide +kernel
theorem dX8_generate_89 : decode cX8_generate 89 = .ok (.ifCond .eq 16, 3) := by decide +kernel
theorem dX8_generate_92 : decode cX8_generate 92 = .ok (.lload 5, 2) := by decide +kernel
theorem dX8_generate_94 : decode cX8_generate 94 = .ok (.aload_n 0, 1) := by decide +kernel
theorem dX8_generate_95 : decode cX8_generate 95 = .ok (.getfield 29, 3) := by decide +kernel
theorem dX8_generate_98 : decode cX8_generate 98 = .ok (.getfield 90, 3) := by decide +kernel
theorem dX8_generate_101 : decode cX8_generate 101 = .ok (.land, 1) := by decide +kernel
theorem dX8_generate_102 : decode cX8_generate 102 = .ok (.goto 4, 3) := by decide +kernel
theorem dX8_generate_105 : decode cX8_generate 105 = .ok (.lconst 0, 1) := by decide +kernel
theorem dX8_generate_106 : decode cX8_generate 106 = .ok (.invokevirtual 93, 3) := by decide +kernel
theorem dX8_generate_109 : decode cX8_generate 109 = .ok (.istore_n 3, 1) := by decide +kernel
theorem dX8_generate_110 : decode cX8_generate 110 = .ok (.iinc 4 1, 3) := by decide +kernel
theorem dX8_generate_113 : decode cX8_generate 113 = .ok (.goto (-103), 3) := by decide +kernel
theorem dX8_generate_116 : decode cX8_generate 116 = .ok (.iload_n 3, 1) := by decide +kernel
theorem dX8_generate_117 : decode cX8_generate 117 = .ok (.ireturn, 1) := by decide +kernel
theorem dX4_look_0 : decode cX4_look 0 = .ok (.aload_n 0, 1) := by decide +kernel
theorem dX4_look_1 : decode cX4_look 1 = .ok (.getfield 40, 3) := by decide +kernel
theorem dX4_look_4 : decode cX4_look 4 = .ok (.aload_n 1, 1) := by decide +kernel
theorem dX4_look_5 : decode cX4_look 5 = .ok (.invokevirtual 47, 3) := by decide +kernel
theorem dX4_look_8 : decode cX4_look 8 = .ok (.aload_n 0, 1) := by decide +kernel
theorem dX4_look_9 : decode cX4_look 9 = .ok (.aload_n 0, 1) := by decide +kernel
theorem dX4_look_10 : decode cX4_look 10 = .ok (.getfield 31, 3) := by decide +kernel
theorem dX4_look_13 : decode cX4_look 13 = .ok (.aload_n 0, 1) := by decide +kernel
theorem dX4_look_14 : decode cX4_look 14 = .ok (.getfield 40, 3) := by decide +kernel
theorem dX4_look_17 : decode cX4_look 17 = .ok (.aload_n 0, 1) := by decide +kernel
theorem dX4_look_18 : decode cX4_look 18 = .ok (.getfield 11, 3) := by decide +kernel
theorem dX4_look_21 : decode cX4_look 21 = .ok (.invokevirtual 51, 3) := by decide +kernel
theorem dX4_look_24 : decode cX4_look 24 = .ok (.putfield 23, 3) := by decide +kernel
theorem dX4_look_27 : decode cX4_look 27 = .ok (.aload_n 0, 1) := by decide +kernel
theorem dX4_look_28 : decode cX4_look 28 = .ok (.iconst 0, 1) := by decide +kernel
theorem dX4_look_29 : decode cX4_look 29 = .ok (.putfield 19, 3) := by decide +kernel
theorem dX4_look_32 : decode cX4_look 32 = .ok (.return_, 1) := by decide +kernel
theorem dX11_codeOf_0 : decode cX11_codeOf 0 = .ok (.aload_n 0, 1) := by decide +kernel
theorem dX11_codeOf_1 : decode cX11_codeOf 1 = .ok (.invokevirtual 217, 3) := by decide +kernel
theorem dX11_codeOf_4 : decode cX11_codeOf 4 = .ok (.aload_n 0, 1) := by decide +kernel
theorem dX11_codeOf_5 : decode cX11_codeOf 5 = .ok (.getfield 49, 3) := by decide +kernel
theorem dX11_codeOf_8 : decode cX11_codeOf 8 = .ok (.aload_n 0, 1) := by decide +kernel
theorem dX11_codeOf_9 : decode cX11_codeOf 9 = .ok (.getfield 28, 3) := by decide +kernel
theorem dX11_codeOf_12 : decode cX11_codeOf 12 = .ok (.invokevirtual 505, 3) := by decide +kernel
theorem dX11_codeOf_15 : decode cX11_codeOf 15 = .ok (.iload_n 1, 1) := by decide +kernel
theorem dX11_codeOf_16 : decode cX11_codeOf 16 = .ok (.ifCond .lt 14, 3) := by decide +kernel
theorem dX11_codeOf_19 : decode cX11_codeOf 19 = .ok (.iload_n 1, 1) := by decide +kernel
theorem dX11_codeOf_20 : decode cX11_codeOf 20 = .ok (.aload_n 0, 1) := by decide +kernel
theorem dX11_codeOf_21 : decode cX11_codeOf 21 = .ok (.getfield 49, 3) := by decide +kernel
theorem dX11_codeOf_24 : decode cX11_codeOf 24 = .ok (.getfield 508, 3) := by decide +kernel
theorem dX11_codeOf_27 : decode cX11_codeOf 27 = .ok (.if_icmp .lt 14, 3) := by decide +kernel
theorem dX11_codeOf_30 : decode cX11_codeOf 30 = .ok (.new 235, 3) := by decide +kernel
theorem dX11_codeOf_33 : decode cX11_codeOf 33 = .ok (.dup, 1) := by decide +kernel
theorem dX11_codeOf_34 : decode cX11_codeOf 34 = .ok (.ldc_w 509, 3) := by decide +kernel
theorem dX11_codeOf_37 : decode cX11_codeOf 37 = .ok (.invokespecial 239, 3) := by decide +kernel
theorem dX11_codeOf_40 : decode cX11_codeOf 40 = .ok (.athrow, 1) := by decide +kernel
theorem dX11_codeOf_41 : decode cX11_codeOf 41 = .ok (.aload_n 0, 1) := by decide +kernel
theorem dX11_codeOf_42 : decode cX11_codeOf 42 = .ok (.getfield 49, 3) := by decide +kernel
theorem dX11_codeOf_45 : decode cX11_codeOf 45 = .ok (.iload_n 1, 1) := by decide +kernel
theorem dX11_codeOf_46 : decode cX11_codeOf 46 = .ok (.invokevirtual 402, 3) := by decide +kernel
theorem dX11_codeOf_49 : decode cX11_codeOf 49 = .ok (.ireturn, 1) := by decide +kernel
theorem dX1_gamesWith_0 : decode cX1_gamesWith 0 = .ok (.iload_n 1, 1) := by decide +kernel
theorem dX1_gamesWith_1 : decode cX1_gamesWith 1 = .ok (.ifCond .lt 21, 3) := by decide +kernel
theorem dX1_gamesWith_4 : decode cX1_gamesWith 4 = .ok (.iload_n 1, 1) := by decide +kernel
theorem dX1_gamesWith_5 : decode cX1_gamesWith 5 = .ok (.aload_n 0, 1) := by decide +kernel
theorem dX1_gamesWith_6 : decode cX1_gamesWith 6 = .ok (.getfield 9, 3) := by decide +kernel
theorem dX1_gamesWith_9 : decode cX1_gamesWith 9 = .ok (.arraylength, 1) := by decide +kernel
theorem dX1_gamesWith_10 : decode cX1_gamesWith 10 = .ok (.if_icmp .ge 12, 3) := by decide +kernel
theorem dX1_gamesWith_13 : decode cX1_gamesWith 13 = .ok (.aload_n 0, 1) := by decide +kernel
theorem dX1_gamesWith_14 : decode cX1_gamesWith 14 = .ok (.getfield 9, 3) := by decide +kernel
theorem dX1_gamesWith_17 : decode cX1_gamesWith 17 = .ok (.iload_n 1, 1) := by decide +kernel
theorem dX1_gamesWith_18 : decode cX1_gamesWith 18 = .ok (.iaload, 1) := by decide +kernel
theorem dX1_gamesWith_19 : decode cX1_gamesWith 19 = .ok (.goto 4, 3) := by decide +kernel
theorem dX1_gamesWith_22 : decode cX1_gamesWith 22 = .ok (.iconst 0, 1) := by decide +kernel
theorem dX1_gamesWith_23 : decode cX1_gamesWith 23 = .ok (.ireturn, 1) := by decide +kernel
theorem dX1_letters_0 : decode cX1_letters 0 = .ok (.iload_n 1, 1) := by decide +kernel
theorem dX1_letters_1 : decode cX1_letters 1 = .ok (.ifCond .lt 21, 3) := by decide +kernel
theorem dX1_letters_4 : decode cX1_letters 4 = .ok (.iload_n 1, 1) := by decide +kernel
theorem dX1_letters_5 : decode cX1_letters 5 = .ok (.aload_n 0, 1) := by decide +kernel
theorem dX1_letters_6 : decode cX1_letters 6 = .ok (.getfield 18, 3) := by decide +kernel
theorem dX1_letters_9 : decode cX1_letters 9 = .ok (.arraylength, 1) := by decide +kernel
theorem dX1_letters_10 : decode cX1_letters 10 = .ok (.if_icmp .ge 12, 3) := by decide +kernel
theorem dX1_letters_13 : decode cX1_letters 13 = .ok (.aload_n 0, 1) := by decide +kernel
theorem dX1_letters_14 : decode cX1_letters 14 = .ok (.getfield 18, 3) := by decide +kernel
theorem dX1_letters_17 : decode cX1_letters 17 = .ok (.iload_n 1, 1) := by decide +kernel
theorem dX1_letters_18 : decode cX1_letters 18 = .ok (.laload, 1) := by decide +kernel
theorem dX1_letters_19 : decode cX1_letters 19 = .ok (.goto 4, 3) := by decide +kernel
theorem dX1_letters_22 : decode cX1_letters 22 = .ok (.lconst 0, 1) := by decide +kernel
theorem dX1_letters_23 : decode cX1_letters 23 = .ok (.lreturn, 1) := by decide +kernel
theorem dX1_before_0 : decode cX1_before 0 = .ok (.iconst 0, 1) := by decide +kernel
theorem dX1_before_1 : decode cX1_before 1 = .ok (.istore_n 2, 1) := by decide +kernel
theorem dX1_before_2 : decode cX1_before 2 = .ok (.iconst 0, 1) := by decide +kernel
theorem dX1_before_3 : decode cX1_before 3 = .ok (.istore_n 3, 1) := by decide +kernel
theorem dX1_before_4 : decode cX1_before 4 = .ok (.iload_n 3, 1) := by decide +kernel
theorem dX1_before_5 : decode cX1_before 5 = .ok (.aload_n 0, 1) := by decide +kernel
theorem dX1_before_6 : decode cX1_before 6 = .ok (.getfield 22, 3) := by decide +kernel
theorem dX1_before_9 : decode cX1_before 9 = .ok (.getfield 74, 3) := by decide +kernel
theorem dX1_before_12 : decode cX1_before 12 = .ok (.if_icmp .ge 39, 3) := by decide +kernel
theorem dX1_before_15 : decode cX1_before 15 = .ok (.iload_n 2, 1) := by decide +kernel
theorem dX1_before_16 : decode cX1_before 16 = .ok (.aload_n 0, 1) := by decide +kernel
theorem dX1_before_17 : decode cX1_before 17 = .ok (.iload_n 3, 1) := by decide +kernel
theorem dX1_before_18 : decode cX1_before 18 = .ok (.invokevirtual 76, 3) := by decide +kernel
theorem dX1_before_21 : decode cX1_before 21 = .ok (.ifCond .le 21, 3) := by decide +kernel
theorem dX1_before_24 : decode cX1_before 24 = .ok (.aload_n 0, 1) := by decide +kernel
theorem dX1_before_25 : decode cX1_before 25 = .ok (.iload_n 3, 1) := by decide +kernel
theorem dX1_before_26 : decode cX1_before 26 = .ok (.invokevirtual 90, 3) := by decide +kernel
theorem dX1_before_29 : decode cX1_before 29 = .ok (.aload_n 0, 1) := by decide +kernel
theorem dX1_before_30 : decode cX1_before 30 = .ok (.iload_n 1, 1) := by decide +kernel
theorem dX1_before_31 : decode cX1_before 31 = .ok (.invokevirtual 90, 3) := by decide +kernel
theorem dX1_before_34 : decode cX1_before 34 = .ok (.lcmp, 1) := by decide +kernel
theorem dX1_before_35 : decode cX1_before 35 = .ok (.ifCond .ge 7, 3) := by decide +kernel
theorem dX1_before_38 : decode cX1_before 38 = .ok (.iconst 1, 1) := by decide +kernel
theorem dX1_before_39 : decode cX1_before 39 = .ok (.goto 4, 3) := by decide +kernel
theorem dX1_before_42 : decode cX1_before 42 = .ok (.iconst 0, 1) := by decide +kernel
theorem dX1_before_43 : decode cX1_before 43 = .ok (.iadd, 1) := by decide +kernel
theorem dX1_before_44 : decode cX1_before 44 = .ok (.istore_n 2, 1) := by decide +kernel
theorem dX1_before_45 : decode cX1_before 45 = .ok (.iinc 3 1, 3) := by decide +kernel
theorem dX1_before_48 : decode cX1_before 48 = .ok (.goto (-44), 3) := by decide +kernel
theorem dX1_before_51 : decode cX1_before 51 = .ok (.iload_n 2, 1) := by decide +kernel
theorem dX1_before_52 : decode cX1_before 52 = .ok (.ireturn, 1) := by decide +kernel
theorem dX1_moveAt_0 : decode cX1_moveAt 0 = .ok (.iconst 0, 1) := by decide +kernel
theorem dX1_moveAt_1 : decode cX1_moveAt 1 = .ok (.istore_n 2, 1) := by decide +kernel
theorem dX1_moveAt_2 : decode cX1_moveAt 2 = .ok (.iload_n 2, 1) := by decide +kernel
theorem dX1_moveAt_3 : decode cX1_moveAt 3 = .ok (.aload_n 0, 1) := by decide +kernel
theorem dX1_moveAt_4 : decode cX1_moveAt 4 = .ok (.getfield 22, 3) := by decide +kernel
theorem dX1_moveAt_7 : decode cX1_moveAt 7 = .ok (.getfield 74, 3) := by decide +kernel
theorem dX1_moveAt_10 : decode cX1_moveAt 10 = .ok (.if_icmp .ge 28, 3) := by decide +kernel
theorem dX1_moveAt_13 : decode cX1_moveAt 13 = .ok (.aload_n 0, 1) := by decide +kernel
theorem dX1_moveAt_14 : decode cX1_moveAt 14 = .ok (.iload_n 2, 1) := by decide +kernel
theorem dX1_moveAt_15 : decode cX1_moveAt 15 = .ok (.invokevirtual 76, 3) := by decide +kernel
theorem dX1_moveAt_18 : decode cX1_moveAt 18 = .ok (.ifCond .le 14, 3) := by decide +kernel
theorem dX1_moveAt_21 : decode cX1_moveAt 21 = .ok (.aload_n 0, 1) := by decide +kernel
theorem dX1_moveAt_22 : decode cX1_moveAt 22 = .ok (.iload_n 2, 1) := by decide +kernel
theorem dX1_moveAt_23 : decode cX1_moveAt 23 = .ok (.invokevirtual 87, 3) := by decide +kernel
theorem dX1_moveAt_26 : decode cX1_moveAt 26 = .ok (.iload_n 1, 1) := by decide +kernel
theorem dX1_moveAt_27 : decode cX1_moveAt 27 = .ok (.if_icmp .ne 5, 3) := by decide +kernel
theorem dX1_moveAt_30 : decode cX1_moveAt 30 = .ok (.iload_n 2, 1) := by decide +kernel
theorem dX1_moveAt_31 : decode cX1_moveAt 31 = .ok (.ireturn, 1) := by decide +kernel
theorem dX1_moveAt_32 : decode cX1_moveAt 32 = .ok (.iinc 2 1, 3) := by decide +kernel
theorem dX1_moveAt_35 : decode cX1_moveAt 35 = .ok (.goto (-33), 3) := by decide +kernel
theorem dX1_moveAt_38 : decode cX1_moveAt 38 = .ok (.iconst (-1), 1) := by decide +kernel
theorem dX1_moveAt_39 : decode cX1_moveAt 39 = .ok (.ireturn, 1) := by decide +kernel
theorem dX11_followerAt_0 : decode cX11_followerAt 0 = .ok (.aload_n 0, 1) := by decide +kernel
theorem dX11_followerAt_1 : decode cX11_followerAt 1 = .ok (.getfield 84, 3) := by decide +kernel
theorem dX11_followerAt_4 : decode cX11_followerAt 4 = .ok (.iload_n 1, 1) := by decide +kernel
theorem dX11_followerAt_5 : decode cX11_followerAt 5 = .ok (.invokevirtual 511, 3) := by decide +kernel
theorem dX11_followerAt_8 : decode cX11_followerAt 8 = .ok (.istore_n 2, 1) := by decide +kernel
theorem dX11_followerAt_9 : decode cX11_followerAt 9 = .ok (.iload_n 2, 1) := by decide +kernel
theorem dX11_followerAt_10 : decode cX11_followerAt 10 = .ok (.iconst (-1), 1) := by decide +kernel
theorem dX11_followerAt_11 : decode cX11_followerAt 11 = .ok (.if_icmp .ne 14, 3) := by decide +kernel
theorem dX11_followerAt_14 : decode cX11_followerAt 14 = .ok (.new 235, 3) := by decide +kernel
theorem dX11_followerAt_17 : decode cX11_followerAt 17 = .ok (.dup, 1) := by decide +kernel
theorem dX11_followerAt_18 : decode cX11_followerAt 18 = .ok (.ldc_w 514, 3) := by decide +kernel
theorem dX11_followerAt_21 : decode cX11_followerAt 21 = .ok (.invokespecial 239, 3) := by decide +kernel
theorem dX11_followerAt_24 : decode cX11_followerAt 24 = .ok (.athrow, 1) := by decide +kernel
theorem dX11_followerAt_25 : decode cX11_followerAt 25 = .ok (.iload_n 2, 1) := by decide +kernel
theorem dX11_followerAt_26 : decode cX11_followerAt 26 = .ok (.ireturn, 1) := by decide +kernel
theorem dX1_aligned_0 : decode cX1_aligned 0 = .ok (.lload_n 0, 1) := by decide +kernel
theorem dX1_aligned_1 : decode cX1_aligned 1 = .ok (.lstore_n 2, 1) := by decide +kernel
theorem dX1_aligned_2 : decode cX1_aligned 2 = .ok (.iconst 0, 1) := by decide +kernel
theorem dX1_aligned_3 : decode cX1_aligned 3 = .ok (.istore 4, 2) := by decide +kernel
theorem dX1_aligned_5 : decode cX1_aligned 5 = .ok (.iload 4, 2) := by decide +kernel
theorem dX1_aligned_7 : decode cX1_aligned 7 = .ok (.bipush 8, 2) := by decide +kernel
theorem dX1_aligned_9 : decode cX1_aligned 9 = .ok (.if_icmp .ge 23, 3) := by decide +kernel
theorem dX1_aligned_12 : decode cX1_aligned 12 = .ok (.lload_n 2, 1) := by decide +kernel
theorem dX1_aligned_13 : decode cX1_aligned 13 = .ok (.bipush 56, 2) := by decide +kernel
theorem dX1_aligned_15 : decode cX1_aligned 15 = .ok (.lushr, 1) := by decide +kernel
theorem dX1_aligned_16 : decode cX1_aligned 16 = .ok (.lconst 0, 1) := by decide +kernel
theorem dX1_aligned_17 : decode cX1_aligned 17 = .ok (.lcmp, 1) := by decide +kernel
theorem dX1_aligned_18 : decode cX1_aligned 18 = .ok (.ifCond .ne 14, 3) := by decide +kernel
theorem dX1_aligned_21 : decode cX1_aligned 21 = .ok (.lload_n 2, 1) := by decide +kernel
theorem dX1_aligned_22 : decode cX1_aligned 22 = .ok (.bipush 8, 2) := by decide +kernel
theorem dX1_aligned_24 : decode cX1_aligned 24 = .ok (.lshl, 1) := by decide +kernel
theorem dX1_aligned_25 : decode cX1_aligned 25 = .ok (.lstore_n 2, 1) := by decide +kernel
theorem dX1_aligned_26 : decode cX1_aligned 26 = .ok (.iinc 4 1, 3) := by decide +kernel
theorem dX1_aligned_29 : decode cX1_aligned 29 = .ok (.goto (-24), 3) := by decide +kernel
theorem dX1_aligned_32 : decode cX1_aligned 32 = .ok (.lload_n 2, 1) := by decide +kernel
theorem dX1_aligned_33 : decode cX1_aligned 33 = .ok (.lreturn, 1) := by decide +kernel
theorem dX1_note_0 : decode cX1_note 0 = .ok (.iload_n 1, 1) := by decide +kernel
theorem dX1_note_1 : decode cX1_note 1 = .ok (.ifCond .lt 48, 3) := by decide +kernel
theorem dX1_note_4 : decode cX1_note 4 = .ok (.iload_n 1, 1) := by decide +kernel
theorem dX1_note_5 : decode cX1_note 5 = .ok (.aload_n 0, 1) := by decide +kernel
theorem dX1_note_6 : decode cX1_note 6 = .ok (.getfield 9, 3) := by decide +kernel
theorem dX1_note_9 : decode cX1_note 9 = .ok (.arraylength, 1) := by decide +kernel
theorem dX1_note_10 : decode cX1_note 10 = .ok (.if_icmp .ge 39, 3) := by decide +kernel
theorem dX1_note_13 : decode cX1_note 13 = .ok (.iload_n 1, 1) := by decide +kernel
theorem dX1_note_14 : decode cX1_note 14 = .ok (.aload_n 0, 1) := by decide +kernel
theorem dX1_note_15 : decode cX1_note 15 = .ok (.getfield 15, 3) := by decide +kernel
theorem dX1_note_18 : decode cX1_note 18 = .ok (.arraylength, 1) := by decide +kernel
theorem dX1_note_19 : decode cX1_note 19 = .ok (.if_icmp .ge 30, 3) := by decide +kernel
theorem dX1_note_22 : decode cX1_note 22 = .ok (.aload_n 0, 1) := by decide +kernel
theorem dX1_note_23 : decode cX1_note 23 = .ok (.getfield 15, 3) := by decide +kernel
theorem dX1_note_26 : decode cX1_note 26 = .ok (.iload_n 1, 1) := by decide +kernel
theorem dX1_note_27 : decode cX1_note 27 = .ok (.iaload, 1) := by decide +kernel
theorem dX1_note_28 : decode cX1_note 28 = .ok (.iload_n 2, 1) := by decide +kernel
theorem dX1_note_29 : decode cX1_note 29 = .ok (.if_icmp .eq 20, 3) := by decide +kernel
theorem dX1_note_32 : decode cX1_note 32 = .ok (.aload_n 0, 1) := by decide +kernel
theorem dX1_note_33 : decode cX1_note 33 = .ok (.getfield 15, 3) := by decide +kernel
theorem dX1_note_36 : decode cX1_note 36 = .ok (.iload_n 1, 1) := by decide +kernel
theorem dX1_note_37 : decode cX1_note 37 = .ok (.iload_n 2, 1) := by decide +kernel
theorem dX1_note_38 : decode cX1_note 38 = .ok (.iastore, 1) := by decide +kernel
theorem dX1_note_39 : decode cX1_note 39 = .ok (.aload_n 0, 1) := by decide +kernel
theorem dX1_note_40 : decode cX1_note 40 = .ok (.getfield 9, 3) := by decide +kernel
theorem dX1_note_43 : decode cX1_note 43 = .ok (.iload_n 1, 1) := by decide +kernel
theorem dX1_note_44 : decode cX1_note 44 = .ok (.dup2, 1) := by decide +kernel
theorem dX1_note_45 : decode cX1_note 45 = .ok (.iaload, 1) := by decide +kernel
theorem dX1_note_46 : decode cX1_note 46 = .ok (.iconst 1, 1) := by decide +kernel
theorem dX1_note_47 : decode cX1_note 47 = .ok (.iadd, 1) := by decide +kernel
theorem dX1_note_48 : decode cX1_note 48 = .ok (.iastore, 1) := by decide +kernel
theorem dX1_note_49 : decode cX1_note 49 = .ok (.return_, 1) := by decide +kernel
theorem dX4_numberOfCode_0 : decode cX4_numberOfCode 0 = .ok (.iconst 0, 1) := by decide +kernel
theorem dX4_numberOfCode_1 : decode cX4_numberOfCode 1 = .ok (.istore_n 2, 1) := by decide +kernel
theorem dX4_numberOfCode_2 : decode cX4_numberOfCode 2 = .ok (.iload_n 2, 1) := by decide +kernel
theorem dX4_numberOfCode_3 : decode cX4_numberOfCode 3 = .ok (.aload_n 0, 1) := by decide +kernel
theorem dX4_numberOfCode_4 : decode cX4_numberOfCode 4 = .ok (.getfield 23, 3) := by decide +kernel
theorem dX4_numberOfCode_7 : decode cX4_numberOfCode 7 = .ok (.if_icmp .ge 30, 3) := by decide +kernel
theorem dX4_numberOfCode_10 : decode cX4_numberOfCode 10 = .ok (.iload_n 2, 1) := by decide +kernel
theorem dX4_numberOfCode_11 : decode cX4_numberOfCode 11 = .ok (.aload_n 0, 1) := by decide +kernel
theorem dX4_numberOfCode_12 : decode cX4_numberOfCode 12 = .ok (.getfield 11, 3) := by decide +kernel
theorem dX4_numberOfCode_15 : decode cX4_numberOfCode 15 = .ok (.arraylength, 1) := by decide +kernel
theorem dX4_numberOfCode_16 : decode cX4_numberOfCode 16 = .ok (.if_icmp .ge 21, 3) := by decide +kernel
theorem dX4_numberOfCode_19 : decode cX4_numberOfCode 19 = .ok (.aload_n 0, 1) := by decide +kernel
theorem dX4_numberOfCode_20 : decode cX4_numberOfCode 20 = .ok (.getfield 11, 3) := by decide +kernel
theorem dX4_numberOfCode_23 : decode cX4_numberOfCode 23 = .ok (.iload_n 2, 1) := by decide +kernel
theorem dX4_numberOfCode_24 : decode cX4_numberOfCode 24 = .ok (.iaload, 1) := by decide +kernel
theorem dX4_numberOfCode_25 : decode cX4_numberOfCode 25 = .ok (.iload_n 1, 1) := by decide +kernel
theorem dX4_numberOfCode_26 : decode cX4_numberOfCode 26 = .ok (.if_icmp .ne 5, 3) := by decide +kernel
theorem dX4_numberOfCode_29 : decode cX4_numberOfCode 29 = .ok (.iload_n 2, 1) := by decide +kernel
theorem dX4_numberOfCode_30 : decode cX4_numberOfCode 30 = .ok (.ireturn, 1) := by decide +kernel
theorem dX4_numberOfCode_31 : decode cX4_numberOfCode 31 = .ok (.iinc 2 1, 3) := by decide +kernel
theorem dX4_numberOfCode_34 : decode cX4_numberOfCode 34 = .ok (.goto (-32), 3) := by decide +kernel
theorem dX4_numberOfCode_37 : decode cX4_numberOfCode 37 = .ok (.iconst (-1), 1) := by decide +kernel
theorem dX4_numberOfCode_38 : decode cX4_numberOfCode 38 = .ok (.ireturn, 1) := by decide +kernel
theorem dX7_isInCheck_0 : decode cX7_isInCheck 0 = .ok (.aload_n 0, 1) := by decide +kernel
theorem dX7_isInCheck_1 : decode cX7_isInCheck 1 = .ok (.aload_n 0, 1) := by decide +kernel
theorem dX7_isInCheck_2 : decode cX7_isInCheck 2 = .ok (.aload_n 0, 1) := by decide +kernel
theorem dX7_isInCheck_3 : decode cX7_isInCheck 3 = .ok (.getfield 24, 3) := by decide +kernel
theorem dX7_isInCheck_6 : decode cX7_isInCheck 6 = .ok (.invokevirtual 118, 3) := by decide +kernel
theorem dX7_isInCheck_9 : decode cX7_isInCheck 9 = .ok (.aload_n 0, 1) := by decide +kernel
theorem dX7_isInCheck_10 : decode cX7_isInCheck 10 = .ok (.getfield 24, 3) := by decide +kernel
theorem dX7_isInCheck_13 : decode cX7_isInCheck 13 = .ok (.ifCond .ne 7, 3) := by decide +kernel
theorem dX7_isInCheck_16 : decode cX7_isInCheck 16 = .ok (.iconst 1, 1) := by decide +kernel
theorem dX7_isInCheck_17 : decode cX7_isInCheck 17 = .ok (.goto 4, 3) := by decide +kernel
theorem dX7_isInCheck_20 : decode cX7_isInCheck 20 = .ok (.iconst 0, 1) := by decide +kernel
theorem dX7_isInCheck_21 : decode cX7_isInCheck 21 = .ok (.aload_n 0, 1) := by decide +kernel
theorem dX7_isInCheck_22 : decode cX7_isInCheck 22 = .ok (.invokevirtual 122, 3) := by decide +kernel
theorem dX7_isInCheck_25 : decode cX7_isInCheck 25 = .ok (.invokevirtual 125, 3) := by decide +kernel
theorem dX7_isInCheck_28 : decode cX7_isInCheck 28 = .ok (.lconst 0, 1) := by decide +kernel
theorem dX7_isInCheck_29 : decode cX7_isInCheck 29 = .ok (.lcmp, 1) := by decide +kernel
theorem dX7_isInCheck_30 : decode cX7_isInCheck 30 = .ok (.ifCond .eq 7, 3) := by decide +kernel
theorem dX7_isInCheck_33 : decode cX7_isInCheck 33 = .ok (.iconst 1, 1) := by decide +kernel
theorem dX7_isInCheck_34 : decode cX7_isInCheck 34 = .ok (.goto 4, 3) := by decide +kernel
theorem dX7_isInCheck_37 : decode cX7_isInCheck 37 = .ok (.iconst 0, 1) := by decide +kernel
theorem dX7_isInCheck_38 : decode cX7_isInCheck 38 = .ok (.ireturn, 1) := by decide +kernel
theorem dX8_hasMove_0 : decode cX8_hasMove 0 = .ok (.aload_n 0, 1) := by decide +kernel
theorem dX8_hasMove_1 : decode cX8_hasMove 1 = .ok (.aload_n 1, 1) := by decide +kernel
theorem dX8_hasMove_2 : decode cX8_hasMove 2 = .ok (.invokevirtual 61, 3) := by decide +kernel
theorem dX8_hasMove_5 : decode cX8_hasMove 5 = .ok (.iconst 0, 1) := by decide +kernel
theorem dX8_hasMove_6 : decode cX8_hasMove 6 = .ok (.istore_n 2, 1) := by decide +kernel
theorem dX8_hasMove_7 : decode cX8_hasMove 7 = .ok (.iload_n 2, 1) := by decide +kernel
theorem dX8_hasMove_8 : decode cX8_hasMove 8 = .ok (.aload_n 0, 1) := by decide +kernel
theorem dX8_hasMove_9 : decode cX8_hasMove 9 = .ok (.getfield 29, 3) := by decide +kernel
theorem dX8_hasMove_12 : decode cX8_hasMove 12 = .ok (.getfield 65, 3) := by decide +kernel
theorem dX8_hasMove_15 : decode cX8_hasMove 15 = .ok (.if_icmp .ge 33, 3) := by decide +kernel
theorem dX8_hasMove_18 : decode cX8_hasMove 18 = .ok (.aload_n 0, 1) := by decide +kernel
theorem dX8_hasMove_19 : decode cX8_hasMove 19 = .ok (.getfield 19, 3) := by decide +kernel
theorem dX8_hasMove_22 : decode cX8_hasMove 22 = .ok (.iload_n 2, 1) := by decide +kernel
theorem dX8_hasMove_23 : decode cX8_hasMove 23 = .ok (.invokestatic 68, 3) := by decide +kernel
theorem dX8_hasMove_26 : decode cX8_hasMove 26 = .ok (.ifCond .eq 16, 3) := by decide +kernel
theorem dX8_hasMove_29 : decode cX8_hasMove 29 = .ok (.aload_n 0, 1) := by decide +kernel
theorem dX8_hasMove_30 : decode cX8_hasMove 30 = .ok (.aload_n 1, 1) := by decide +kernel
theorem dX8_hasMove_31 : decode cX8_hasMove 31 = .ok (.iload_n 2, 1) := by decide +kernel
theorem dX8_hasMove_32 : decode cX8_hasMove 32 = .ok (.invokevirtual 72, 3) := by decide +kernel
theorem dX8_hasMove_35 : decode cX8_hasMove 35 = .ok (.lconst 0, 1) := by decide +kernel
theorem dX8_hasMove_36 : decode cX8_hasMove 36 = .ok (.lcmp, 1) := by decide +kernel
theorem dX8_hasMove_37 : decode cX8_hasMove 37 = .ok (.ifCond .eq 5, 3) := by decide +kernel
theorem dX8_hasMove_40 : decode cX8_hasMove 40 = .ok (.iconst 1, 1) := by decide +kernel
theorem dX8_hasMove_41 : decode cX8_hasMove 41 = .ok (.ireturn, 1) := by decide +kernel
theorem dX8_hasMove_42 : decode cX8_hasMove 42 = .ok (.iinc 2 1, 3) := by decide +kernel
theorem dX8_hasMove_45 : decode cX8_hasMove 45 = .ok (.goto (-38), 3) := by decide +kernel
theorem dX8_hasMove_48 : decode cX8_hasMove 48 = .ok (.iconst 0, 1) := by decide +kernel
theorem dX8_hasMove_49 : decode cX8_hasMove 49 = .ok (.ireturn, 1) := by decide +kernel
theorem dX4_markOf_0 : decode cX4_markOf 0 = .ok (.aload_n 0, 1) := by decide +kernel
theorem dX4_markOf_1 : decode cX4_markOf 1 = .ok (.getfield 44, 3) := by decide +kernel
theorem dX4_markOf_4 : decode cX4_markOf 4 = .ok (.aload_n 0, 1) := by decide +kernel
theorem dX4_markOf_5 : decode cX4_markOf 5 = .ok (.getfield 40, 3) := by decide +kernel
theorem dX4_markOf_8 : decode cX4_markOf 8 = .ok (.invokevirtual 47, 3) := by decide +kernel
theorem dX4_markOf_11 : decode cX4_markOf 11 = .ok (.aload_n 0, 1) := by decide +kernel
theorem dX4_markOf_12 : decode cX4_markOf 12 = .ok (.getfield 44, 3) := by decide +kernel
theorem dX4_markOf_15 : decode cX4_markOf 15 = .ok (.aload_n 0, 1) := by decide +kernel
theorem dX4_markOf_16 : decode cX4_markOf 16 = .ok (.iload_n 1, 1) := by decide +kernel
theorem dX4_markOf_17 : decode cX4_markOf 17 = .ok (.invokevirtual 65, 3) := by decide +kernel
theorem dX4_markOf_20 : decode cX4_markOf 20 = .ok (.invokevirtual 121, 3) := by decide +kernel
theorem dX4_markOf_23 : decode cX4_markOf 23 = .ok (.aload_n 0, 1) := by decide +kernel
theorem dX4_markOf_24 : decode cX4_markOf 24 = .ok (.getfield 44, 3) := by decide +kernel
theorem dX4_markOf_27 : decode cX4_markOf 27 = .ok (.invokevirtual 125, 3) := by decide +kernel
theorem dX4_markOf_30 : decode cX4_markOf 30 = .ok (.ifCond .ne 5, 3) := by decide +kernel
theorem dX4_markOf_33 : decode cX4_markOf 33 = .ok (.iconst 0, 1) := by decide +kernel
theorem dX4_markOf_34 : decode cX4_markOf 34 = .ok (.ireturn, 1) := by decide +kernel
theorem dX4_markOf_35 : decode cX4_markOf 35 = .ok (.aload_n 0, 1) := by decide +kernel
theorem dX4_markOf_36 : decode cX4_markOf 36 = .ok (.getfield 31, 3) := by decide +kernel
theorem dX4_markOf_39 : decode cX4_markOf 39 = .ok (.aload_n 0, 1) := by decide +kernel
theorem dX4_markOf_40 : decode cX4_markOf 40 = .ok (.getfield 44, 3) := by decide +kernel
theorem dX4_markOf_43 : decode cX4_markOf 43 = .ok (.invokevirtual 129, 3) := by decide +kernel
theorem dX4_markOf_46 : decode cX4_markOf 46 = .ok (.ifCond .eq 8, 3) := by decide +kernel
theorem dX4_markOf_49 : decode cX4_markOf 49 = .ok (.bipush 43, 2) := by decide +kernel
theorem dX4_markOf_51 : decode cX4_markOf 51 = .ok (.goto 5, 3) := by decide +kernel
theorem dX4_markOf_54 : decode cX4_markOf 54 = .ok (.bipush 35, 2) := by decide +kernel
theorem dX4_markOf_56 : decode cX4_markOf 56 = .ok (.ireturn, 1) := by decide +kernel
theorem dX4_fileName_0 : decode cX4_fileName 0 = .ok (.bipush 97, 2) := by decide +kernel
theorem dX4_fileName_2 : decode cX4_fileName 2 = .ok (.aload_n 0, 1) := by decide +kernel
theorem dX4_fileName_3 : decode cX4_fileName 3 = .ok (.getfield 27, 3) := by decide +kernel
theorem dX4_fileName_6 : decode cX4_fileName 6 = .ok (.iload_n 1, 1) := by decide +kernel
theorem dX4_fileName_7 : decode cX4_fileName 7 = .ok (.invokevirtual 113, 3) := by decide +kernel
theorem dX4_fileName_10 : decode cX4_fileName 10 = .ok (.iadd, 1) := by decide +kernel
theorem dX4_fileName_11 : decode cX4_fileName 11 = .ok (.i2l, 1) := by decide +kernel
theorem dX4_fileName_12 : decode cX4_fileName 12 = .ok (.lreturn, 1) := by decide +kernel
theorem dX4_rankName_0 : decode cX4_rankName 0 = .ok (.bipush 49, 2) := by decide +kernel
theorem dX4_rankName_2 : decode cX4_rankName 2 = .ok (.aload_n 0, 1) := by decide +kernel
theorem dX4_rankName_3 : decode cX4_rankName 3 = .ok (.getfield 27, 3) := by decide +kernel
theorem dX4_rankName_6 : decode cX4_rankName 6 = .ok (.iload_n 1, 1) := by decide +kernel
theorem dX4_rankName_7 : decode cX4_rankName 7 = .ok (.invokevirtual 118, 3) := by decide +kernel
theorem dX4_rankName_10 : decode cX4_rankName 10 = .ok (.iadd, 1) := by decide +kernel
theorem dX4_rankName_11 : decode cX4_rankName 11 = .ok (.i2l, 1) := by decide +kernel
theorem dX4_rankName_12 : decode cX4_rankName 12 = .ok (.lreturn, 1) := by decide +kernel
theorem dX4_withOrigin_0 : decode cX4_withOrigin 0 = .ok (.iload_n 3, 1) := by decide +kernel
theorem dX4_withOrigin_1 : decode cX4_withOrigin 1 = .ok (.invokestatic 68, 3) := by decide +kernel
theorem dX4_withOrigin_4 : decode cX4_withOrigin 4 = .ok (.istore 5, 2) := by decide +kernel
theorem dX4_withOrigin_6 : decode cX4_withOrigin 6 = .ok (.iconst 0, 1) := by decide +kernel
theorem dX4_withOrigin_7 : decode cX4_withOrigin 7 = .ok (.istore 6, 2) := by decide +kernel
theorem dX4_withOrigin_9 : decode cX4_withOrigin 9 = .ok (.iconst 0, 1) := by decide +kernel
theorem dX4_withOrigin_10 : decode cX4_withOrigin 10 = .ok (.istore 7, 2) := by decide +kernel
theorem dX4_withOrigin_12 : decode cX4_withOrigin 12 = .ok (.iconst 0, 1) := by decide +kernel
theorem dX4_withOrigin_13 : decode cX4_withOrigin 13 = .ok (.istore 8, 2) := by decide +kernel
theorem dX4_withOrigin_15 : decode cX4_withOrigin 15 = .ok (.iconst 0, 1) := by decide +kernel
theorem dX4_withOrigin_16 : decode cX4_withOrigin 16 = .ok (.istore 9, 2) := by decide +kernel
theorem dX4_withOrigin_18 : decode cX4_withOrigin 18 = .ok (.iload 9, 2) := by decide +kernel
theorem dX4_withOrigin_20 : decode cX4_withOrigin 20 = .ok (.aload_n 0, 1) := by decide +kernel
theorem dX4_withOrigin_21 : decode cX4_withOrigin 21 = .ok (.getfield 23, 3) := by decide +kernel
theorem dX4_withOrigin_24 : decode cX4_withOrigin 24 = .ok (.if_icmp .ge 134, 3) := by decide +kernel
theorem dX4_withOrigin_27 : decode cX4_withOrigin 27 = .ok (.iload 9, 2) := by decide +kernel
theorem dX4_withOrigin_29 : decode cX4_withOrigin 29 = .ok (.aload_n 0, 1) := by decide +kernel
theorem dX4_withOrigin_30 : decode cX4_withOrigin 30 = .ok (.getfield 11, 3) := by decide +kernel
theorem dX4_withOrigin_33 : decode cX4_withOrigin 33 = .ok (.arraylength, 1) := by decide +kernel
theorem dX4_withOrigin_34 : decode cX4_withOrigin 34 = .ok (.if_icmp .ge 124, 3) := by decide +kernel
theorem dX4_withOrigin_37 : decode cX4_withOrigin 37 = .ok (.aload_n 0, 1) := by decide +kernel
theorem dX4_withOrigin_38 : decode cX4_withOrigin 38 = .ok (.getfield 11, 3) := by decide +kernel
theorem dX4_withOrigin_41 : decode cX4_withOrigin 41 = .ok (.iload 9, 2) := by decide +kernel
theorem dX4_withOrigin_43 : decode cX4_withOrigin 43 = .ok (.iaload, 1) := by decide +kernel
theorem dX4_withOrigin_44 : decode cX4_withOrigin 44 = .ok (.invokestatic 68, 3) := by decide +kernel
theorem dX4_withOrigin_47 : decode cX4_withOrigin 47 = .ok (.istore 10, 2) := by decide +kernel
theorem dX4_withOrigin_49 : decode cX4_withOrigin 49 = .ok (.aload_n 0, 1) := by decide +kernel
theorem dX4_withOrigin_50 : decode cX4_withOrigin 50 = .ok (.getfield 11, 3) := by decide +kernel
theorem dX4_withOrigin_53 : decode cX4_withOrigin 53 = .ok (.iload 9, 2) := by decide +kernel
theorem dX4_withOrigin_55 : decode cX4_withOrigin 55 = .ok (.iaload, 1) := by decide +kernel
theorem dX4_withOrigin_56 : decode cX4_withOrigin 56 = .ok (.invokestatic 71, 3) := by decide +kernel
theorem dX4_withOrigin_59 : decode cX4_withOrigin 59 = .ok (.iload_n 3, 1) := by decide +kernel
theorem dX4_withOrigin_60 : decode cX4_withOrigin 60 = .ok (.invokestatic 71, 3) := by decide +kernel
theorem dX4_withOrigin_63 : decode cX4_withOrigin 63 = .ok (.if_icmp .ne 89, 3) := by decide +kernel
theorem dX4_withOrigin_66 : decode cX4_withOrigin 66 = .ok (.iload 10, 2) := by decide +kernel
theorem dX4_withOrigin_68 : decode cX4_withOrigin 68 = .ok (.iload 5, 2) := by decide +kernel
theorem dX4_withOrigin_70 : decode cX4_withOrigin 70 = .ok (.if_icmp .eq 82, 3) := by decide +kernel
theorem dX4_withOrigin_73 : decode cX4_withOrigin 73 = .ok (.aload_n 0, 1) := by decide +kernel
theorem dX4_withOrigin_74 : decode cX4_withOrigin 74 = .ok (.getfield 40, 3) := by decide +kernel
theorem dX4_withOrigin_77 : decode cX4_withOrigin 77 = .ok (.iload 10, 2) := by decide +kernel
theorem dX4_withOrigin_79 : decode cX4_withOrigin 79 = .ok (.invokevirtual 74, 3) := by decide +kernel
theorem dX4_withOrigin_82 : decode cX4_withOrigin 82 = .ok (.iload 4, 2) := by decide +kernel
theorem dX4_withOrigin_84 : decode cX4_withOrigin 84 = .ok (.if_icmp .ne 68, 3) := by decide +kernel
theorem dX4_withOrigin_87 : decode cX4_withOrigin 87 = .ok (.iconst 1, 1) := by decide +kernel
theorem dX4_withOrigin_88 : decode cX4_withOrigin 88 = .ok (.istore 6, 2) := by decide +kernel
theorem dX4_withOrigin_90 : decode cX4_withOrigin 90 = .ok (.iload 7, 2) := by decide +kernel
theorem dX4_withOrigin_92 : decode cX4_withOrigin 92 = .ok (.aload_n 0, 1) := by decide +kernel
theorem dX4_withOrigin_93 : decode cX4_withOrigin 93 = .ok (.getfield 27, 3) := by decide +kernel
theorem dX4_withOrigin_96 : decode cX4_withOrigin 96 = .ok (.iload 10, 2) := by decide +kernel
theorem dX4_withOrigin_98 : decode cX4_withOrigin 98 = .ok (.invokevirtual 113, 3) := by decide +kernel
theorem dX4_withOrigin_101 : decode cX4_withOrigin 101 = .ok (.aload_n 0, 1) := by decide +kernel
theorem dX4_withOrigin_102 : decode cX4_withOrigin 102 = .ok (.getfield 27, 3) := by decide +kernel
theorem dX4_withOrigin_105 : decode cX4_withOrigin 105 = .ok (.iload 5, 2) := by decide +kernel
theorem dX4_withOrigin_107 : decode cX4_withOrigin 107 = .ok (.invokevirtual 113, 3) := by decide +kernel
theorem dX4_withOrigin_110 : decode cX4_withOrigin 110 = .ok (.if_icmp .ne 7, 3) := by decide +kernel
theorem dX4_withOrigin_113 : decode cX4_withOrigin 113 = .ok (.iconst 1, 1) := by decide +kernel
theorem dX4_withOrigin_114 : decode cX4_withOrigin 114 = .ok (.goto 4, 3) := by decide +kernel
theorem dX4_withOrigin_117 : decode cX4_withOrigin 117 = .ok (.iconst 0, 1) := by decide +kernel
theorem dX4_withOrigin_118 : decode cX4_withOrigin 118 = .ok (.ior, 1) := by decide +kernel
theorem dX4_withOrigin_119 : decode cX4_withOrigin 119 = .ok (.istore 7, 2) := by decide +kernel
theorem dX4_withOrigin_121 : decode cX4_withOrigin 121 = .ok (.iload 8, 2) := by decide +kernel
theorem dX4_withOrigin_123 : decode cX4_withOrigin 123 = .ok (.aload_n 0, 1) := by decide +kernel
theorem dX4_withOrigin_124 : decode cX4_withOrigin 124 = .ok (.getfield 27, 3) := by decide +kernel
theorem dX4_withOrigin_127 : decode cX4_withOrigin 127 = .ok (.iload 10, 2) := by decide +kernel
theorem dX4_withOrigin_129 : decode cX4_withOrigin 129 = .ok (.invokevirtual 118, 3) := by decide +kernel
theorem dX4_withOrigin_132 : decode cX4_withOrigin 132 = .ok (.aload_n 0, 1) := by decide +kernel
theorem dX4_withOrigin_133 : decode cX4_withOrigin 133 = .ok (.getfield 27, 3) := by decide +kernel
theorem dX4_withOrigin_136 : decode cX4_withOrigin 136 = .ok (.iload 5, 2) := by decide +kernel
theorem dX4_withOrigin_138 : decode cX4_withOrigin 138 = .ok (.invokevirtual 118, 3) := by decide +kernel
theorem dX4_withOrigin_141 : decode cX4_withOrigin 141 = .ok (.if_icmp .ne 7, 3) := by decide +kernel
theorem dX4_withOrigin_144 : decode cX4_withOrigin 144 = .ok (.iconst 1, 1) := by decide +kernel
theorem dX4_withOrigin_145 : decode cX4_withOrigin 145 = .ok (.goto 4, 3) := by decide +kernel
theorem dX4_withOrigin_148 : decode cX4_withOrigin 148 = .ok (.iconst 0, 1) := by decide +kernel
theorem dX4_withOrigin_149 : decode cX4_withOrigin 149 = .ok (.ior, 1) := by decide +kernel
theorem dX4_withOrigin_150 : decode cX4_withOrigin 150 = .ok (.istore 8, 2) := by decide +kernel
theorem dX4_withOrigin_152 : decode cX4_withOrigin 152 = .ok (.iinc 9 1, 3) := by decide +kernel
theorem dX4_withOrigin_155 : decode cX4_withOrigin 155 = .ok (.goto (-137), 3) := by decide +kernel
theorem dX4_withOrigin_158 : decode cX4_withOrigin 158 = .ok (.iload 6, 2) := by decide +kernel
theorem dX4_withOrigin_160 : decode cX4_withOrigin 160 = .ok (.ifCond .eq 17, 3) := by decide +kernel
theorem dX4_withOrigin_163 : decode cX4_withOrigin 163 = .ok (.iload 7, 2) := by decide +kernel
theorem dX4_withOrigin_165 : decode cX4_withOrigin 165 = .ok (.ifCond .eq 8, 3) := by decide +kernel
theorem dX4_withOrigin_168 : decode cX4_withOrigin 168 = .ok (.iload 8, 2) := by decide +kernel
theorem dX4_withOrigin_170 : decode cX4_withOrigin 170 = .ok (.ifCond .eq 7, 3) := by decide +kernel
theorem dX4_withOrigin_173 : decode cX4_withOrigin 173 = .ok (.iconst 1, 1) := by decide +kernel
theorem dX4_withOrigin_174 : decode cX4_withOrigin 174 = .ok (.goto 4, 3) := by decide +kernel
theorem dX4_withOrigin_177 : decode cX4_withOrigin 177 = .ok (.iconst 0, 1) := by decide +kernel
theorem dX4_withOrigin_178 : decode cX4_withOrigin 178 = .ok (.istore 9, 2) := by decide +kernel
theorem dX4_withOrigin_180 : decode cX4_withOrigin 180 = .ok (.iload 6, 2) := by decide +kernel
theorem dX4_withOrigin_182 : decode cX4_withOrigin 182 = .ok (.ifCond .eq 12, 3) := by decide +kernel
theorem dX4_withOrigin_185 : decode cX4_withOrigin 185 = .ok (.iload 7, 2) := by decide +kernel
theorem dX4_withOrigin_187 : decode cX4_withOrigin 187 = .ok (.ifCond .eq 7, 3) := by decide +kernel
theorem dX4_withOrigin_190 : decode cX4_withOrigin 190 = .ok (.iconst 1, 1) := by decide +kernel
theorem dX4_withOrigin_191 : decode cX4_withOrigin 191 = .ok (.goto 4, 3) := by decide +kernel
theorem dX4_withOrigin_194 : decode cX4_withOrigin 194 = .ok (.iconst 0, 1) := by decide +kernel
theorem dX4_withOrigin_195 : decode cX4_withOrigin 195 = .ok (.istore 10, 2) := by decide +kernel
theorem dX4_withOrigin_197 : decode cX4_withOrigin 197 = .ok (.iload 9, 2) := by decide +kernel
theorem dX4_withOrigin_199 : decode cX4_withOrigin 199 = .ok (.ifCond .eq 17, 3) := by decide +kernel
theorem dX4_withOrigin_202 : decode cX4_withOrigin 202 = .ok (.lload_n 1, 1) := by decide +kernel
theorem dX4_withOrigin_203 : decode cX4_withOrigin 203 = .ok (.bipush 8, 2) := by decide +kernel
theorem dX4_withOrigin_205 : decode cX4_withOrigin 205 = .ok (.lshl, 1) := by decide +kernel
theorem dX4_withOrigin_206 : decode cX4_withOrigin 206 = .ok (.aload_n 0, 1) := by decide +kernel
theorem dX4_withOrigin_207 : decode cX4_withOrigin 207 = .ok (.iload 5, 2) := by decide +kernel
theorem dX4_withOrigin_209 : decode cX4_withOrigin 209 = .ok (.invokevirtual 84, 3) := by decide +kernel
theorem dX4_withOrigin_212 : decode cX4_withOrigin 212 = .ok (.lor, 1) := by decide +kernel
theorem dX4_withOrigin_213 : decode cX4_withOrigin 213 = .ok (.goto 4, 3) := by decide +kernel
theorem dX4_withOrigin_216 : decode cX4_withOrigin 216 = .ok (.lload_n 1, 1) := by decide +kernel
theorem dX4_withOrigin_217 : decode cX4_withOrigin 217 = .ok (.lstore 11, 2) := by decide +kernel
theorem dX4_withOrigin_219 : decode cX4_withOrigin 219 = .ok (.iload 10, 2) := by decide +kernel
theorem dX4_withOrigin_221 : decode cX4_withOrigin 221 = .ok (.ifCond .eq 18, 3) := by decide +kernel
theorem dX4_withOrigin_224 : decode cX4_withOrigin 224 = .ok (.lload 11, 2) := by decide +kernel
theorem dX4_withOrigin_226 : decode cX4_withOrigin 226 = .ok (.bipush 8, 2) := by decide +kernel
theorem dX4_withOrigin_228 : decode cX4_withOrigin 228 = .ok (.lshl, 1) := by decide +kernel
theorem dX4_withOrigin_229 : decode cX4_withOrigin 229 = .ok (.aload_n 0, 1) := by decide +kernel
theorem dX4_withOrigin_230 : decode cX4_withOrigin 230 = .ok (.iload 5, 2) := by decide +kernel
theorem dX4_withOrigin_232 : decode cX4_withOrigin 232 = .ok (.invokevirtual 105, 3) := by decide +kernel
theorem dX4_withOrigin_235 : decode cX4_withOrigin 235 = .ok (.lor, 1) := by decide +kernel
theorem dX4_withOrigin_236 : decode cX4_withOrigin 236 = .ok (.goto 5, 3) := by decide +kernel
theorem dX4_withOrigin_239 : decode cX4_withOrigin 239 = .ok (.lload 11, 2) := by decide +kernel
theorem dX4_withOrigin_241 : decode cX4_withOrigin 241 = .ok (.lreturn, 1) := by decide +kernel
theorem dX1_number_0 : decode cX1_number 0 = .ok (.iconst 0, 1) := by decide +kernel
theorem dX1_number_1 : decode cX1_number 1 = .ok (.istore_n 1, 1) := by decide +kernel
theorem dX1_number_2 : decode cX1_number 2 = .ok (.iconst 0, 1) := by decide +kernel
theorem dX1_number_3 : decode cX1_number 3 = .ok (.istore_n 2, 1) := by decide +kernel
theorem dX1_number_4 : decode cX1_number 4 = .ok (.iload_n 2, 1) := by decide +kernel
theorem dX1_number_5 : decode cX1_number 5 = .ok (.aload_n 0, 1) := by decide +kernel
theorem dX1_number_6 : decode cX1_number 6 = .ok (.getfield 22, 3) := by decide +kernel
theorem dX1_number_9 : decode cX1_number 9 = .ok (.getfield 74, 3) := by decide +kernel
theorem dX1_number_12 : decode cX1_number 12 = .ok (.if_icmp .ge 25, 3) := by decide +kernel
theorem dX1_number_15 : decode cX1_number 15 = .ok (.iload_n 1, 1) := by decide +kernel
theorem dX1_number_16 : decode cX1_number 16 = .ok (.aload_n 0, 1) := by decide +kernel
theorem dX1_number_17 : decode cX1_number 17 = .ok (.iload_n 2, 1) := by decide +kernel
theorem dX1_number_18 : decode cX1_number 18 = .ok (.invokevirtual 76, 3) := by decide +kernel
theorem dX1_number_21 : decode cX1_number 21 = .ok (.ifCond .le 7, 3) := by decide +kernel
theorem dX1_number_24 : decode cX1_number 24 = .ok (.iconst 1, 1) := by decide +kernel
theorem dX1_number_25 : decode cX1_number 25 = .ok (.goto 4, 3) := by decide +kernel
theorem dX1_number_28 : decode cX1_number 28 = .ok (.iconst 0, 1) := by decide +kernel
theorem dX1_number_29 : decode cX1_number 29 = .ok (.iadd, 1) := by decide +kernel
theorem dX1_number_30 : decode cX1_number 30 = .ok (.istore_n 1, 1) := by decide +kernel
theorem dX1_number_31 : decode cX1_number 31 = .ok (.iinc 2 1, 3) := by decide +kernel
theorem dX1_number_34 : decode cX1_number 34 = .ok (.goto (-30), 3) := by decide +kernel
theorem dX1_number_37 : decode cX1_number 37 = .ok (.iload_n 1, 1) := by decide +kernel
theorem dX1_number_38 : decode cX1_number 38 = .ok (.ireturn, 1) := by decide +kernel
theorem dX8_numberOfMoves_0 : decode cX8_numberOfMoves 0 = .ok (.aload_n 0, 1) := by decide +kernel
theorem dX8_numberOfMoves_1 : decode cX8_numberOfMoves 1 = .ok (.aload_n 1, 1) := by decide +kernel
theorem dX8_numberOfMoves_2 : decode cX8_numberOfMoves 2 = .ok (.invokevirtual 61, 3) := by decide +kernel
theorem dX8_numberOfMoves_5 : decode cX8_numberOfMoves 5 = .ok (.aload_n 0, 1) := by decide +kernel
theorem dX8_numberOfMoves_6 : decode cX8_numberOfMoves 6 = .ok (.aload_n 1, 1) := by decide +kernel
theorem dX8_numberOfMoves_7 : decode cX8_numberOfMoves 7 = .ok (.invokevirtual 76, 3) := by decide +kernel
theorem dX8_numberOfMoves_10 : decode cX8_numberOfMoves 10 = .ok (.invokestatic 80, 3) := by decide +kernel
theorem dX8_numberOfMoves_13 : decode cX8_numberOfMoves 13 = .ok (.istore_n 2, 1) := by decide +kernel
theorem dX8_numberOfMoves_14 : decode cX8_numberOfMoves 14 = .ok (.iconst 0, 1) := by decide +kernel
theorem dX8_numberOfMoves_15 : decode cX8_numberOfMoves 15 = .ok (.istore_n 3, 1) := by decide +kernel
theorem dX8_numberOfMoves_16 : decode cX8_numberOfMoves 16 = .ok (.iload_n 3, 1) := by decide +kernel
theorem dX8_numberOfMoves_17 : decode cX8_numberOfMoves 17 = .ok (.aload_n 0, 1) := by decide +kernel
theorem dX8_numberOfMoves_18 : decode cX8_numberOfMoves 18 = .ok (.getfield 29, 3) := by decide +kernel
theorem dX8_numberOfMoves_21 : decode cX8_numberOfMoves 21 = .ok (.getfield 65, 3) := by decide +kernel
theorem dX8_numberOfMoves_24 : decode cX8_numberOfMoves 24 = .ok (.if_icmp .ge 64, 3) := by decide +kernel
theorem dX8_numberOfMoves_27 : decode cX8_numberOfMoves 27 = .ok (.aload_n 0, 1) := by decide +kernel
theorem dX8_numberOfMoves_28 : decode cX8_numberOfMoves 28 = .ok (.getfield 19, 3) := by decide +kernel
theorem dX8_numberOfMoves_31 : decode cX8_numberOfMoves 31 = .ok (.iload_n 3, 1) := by decide +kernel
theorem dX8_numberOfMoves_32 : decode cX8_numberOfMoves 32 = .ok (.invokestatic 68, 3) := by decide +kernel
theorem dX8_numberOfMoves_35 : decode cX8_numberOfMoves 35 = .ok (.ifCond .eq 47, 3) := by decide +kernel
theorem dX8_numberOfMoves_38 : decode cX8_numberOfMoves 38 = .ok (.aload_n 0, 1) := by decide +kernel
theorem dX8_numberOfMoves_39 : decode cX8_numberOfMoves 39 = .ok (.aload_n 1, 1) := by decide +kernel
theorem dX8_numberOfMoves_40 : decode cX8_numberOfMoves 40 = .ok (.iload_n 3, 1) := by decide +kernel
theorem dX8_numberOfMoves_41 : decode cX8_numberOfMoves 41 = .ok (.invokevirtual 72, 3) := by decide +kernel
theorem dX8_numberOfMoves_44 : decode cX8_numberOfMoves 44 = .ok (.lstore 4, 2) := by decide +kernel
theorem dX8_numberOfMoves_46 : decode cX8_numberOfMoves 46 = .ok (.iload_n 2, 1) := by decide +kernel
theorem dX8_numberOfMoves_47 : decode cX8_numberOfMoves 47 = .ok (.lload 4, 2) := by decide +kernel
theorem dX8_numberOfMoves_49 : decode cX8_numberOfMoves 49 = .ok (.invokestatic 80, 3) := by decide +kernel
theorem dX8_numberOfMoves_52 : decode cX8_numberOfMoves 52 = .ok (.iadd, 1) := by decide +kernel
theorem dX8_numberOfMoves_53 : decode cX8_numberOfMoves 53 = .ok (.istore_n 2, 1) := by decide +kernel
theorem dX8_numberOfMoves_54 : decode cX8_numberOfMoves 54 = .ok (.aload_n 1, 1) := by decide +kernel
theorem dX8_numberOfMoves_55 : decode cX8_numberOfMoves 55 = .ok (.iload_n 3, 1) := by decide +kernel
theorem dX8_numberOfMoves_56 : decode cX8_numberOfMoves 56 = .ok (.invokevirtual 86, 3) := by decide +kernel
theorem dX8_numberOfMoves_59 : decode cX8_numberOfMoves 59 = .ok (.bipush 6, 2) := by decide +kernel
theorem dX8_numberOfMoves_61 : decode cX8_numberOfMoves 61 = .ok (.if_icmp .ne 21, 3) := by decide +kernel
theorem dX8_numberOfMoves_64 : decode cX8_numberOfMoves 64 = .ok (.iload_n 2, 1) := by decide +kernel
theorem dX8_numberOfMoves_65 : decode cX8_numberOfMoves 65 = .ok (.iconst 3, 1) := by decide +kernel
theorem dX8_numberOfMoves_66 : decode cX8_numberOfMoves 66 = .ok (.lload 4, 2) := by decide +kernel
theorem dX8_numberOfMoves_68 : decode cX8_numberOfMoves 68 = .ok (.aload_n 0, 1) := by decide +kernel
theorem dX8_numberOfMoves_69 : decode cX8_numberOfMoves 69 = .ok (.getfield 29, 3) := by decide +kernel
theorem dX8_numberOfMoves_72 : decode cX8_numberOfMoves 72 = .ok (.getfield 90, 3) := by decide +kernel
theorem dX8_numberOfMoves_75 : decode cX8_numberOfMoves 75 = .ok (.land, 1) := by decide +kernel
theorem dX8_numberOfMoves_76 : decode cX8_numberOfMoves 76 = .ok (.invokestatic 80, 3) := by decide +kernel
theorem dX8_numberOfMoves_79 : decode cX8_numberOfMoves 79 = .ok (.imul, 1) := by decide +kernel
theorem dX8_numberOfMoves_80 : decode cX8_numberOfMoves 80 = .ok (.iadd, 1) := by decide +kernel
theorem dX8_numberOfMoves_81 : decode cX8_numberOfMoves 81 = .ok (.istore_n 2, 1) := by decide +kernel
theorem dX8_numberOfMoves_82 : decode cX8_numberOfMoves 82 = .ok (.iinc 3 1, 3) := by decide +kernel
theorem dX8_numberOfMoves_85 : decode cX8_numberOfMoves 85 = .ok (.goto (-69), 3) := by decide +kernel
theorem dX8_numberOfMoves_88 : decode cX8_numberOfMoves 88 = .ok (.iload_n 2, 1) := by decide +kernel
theorem dX8_numberOfMoves_89 : decode cX8_numberOfMoves 89 = .ok (.ireturn, 1) := by decide +kernel
def wp_X8_look_131 (D : wD) (post : wS → Prop)  (S : wS) : Prop :=
post S
def wp_X8_look_105 (D : wD) (post : wS → Prop)  (S : wS) (a0 : Nat) (b0 : Nat) (t1 : Int32) (t2 : Int32) : Prop :=
wp_X7_attackers D (fun r_1 S_2 => 
((¬ (lg_cmp r_1 (0 : Int64)) = 0 → wp_X8_look_131 D post S_2) ∧
 ((lg_cmp r_1 (0 : Int64)) = 0 → ∀ S_4 : wS, S_4 = uJ S_2 a0 5 (0 : Int64) →
wp_X8_look_131 D post S_4))) S b0 t1 t2 ((sJ S a0 2) &&& ((sJ S a0 5) ^^^ (-1 : Int64)))
def wp_X8_look_63 (D : wD) (post : wS → Prop)  (S : wS) (a0 : Nat) (a1 : Nat) (x2 : Int32) (b0 : Nat) (t1 : Int32) : Prop :=
narrow .boolean (.int t1) = .int t1 ∧ fits .boolean (.int t1) = true ∧
∀ S_1 : wS, S_1 = uI S b0 4 t1 →
∃ y_3 : Nat, sR S_1 a0 0 = some y_3 ∧ wM D S_1 y_3 ∧ sK S_1 y_3 = 5 ∧
wp_X0_reach D (fun r_4 S_5 => 
∀ S_6 : wS, S_6 = uJ S_5 a0 5 (r_4 &&& (sJ S_5 a0 3)) →
((¬ x2 = 0 → wp_X8_look_105 D post S_6 a0 a1 (sI S_6 a0 1) (0 : Int32)) ∧
 (x2 = 0 → wp_X8_look_105 D post S_6 a0 a1 (sI S_6 a0 1) (1 : Int32)))) S_1 y_3 (2 : Int32) (sI S_1 a0 1) (sJ S_1 a0 2)
def wp_X8_look_46 (D : wD) (post : wS → Prop)  (S : wS) (a0 : Nat) (a1 : Nat) (x2 : Int32) (b0 : Nat) (b1 : Nat) (t2 : Int32) (t3 : Int32) : Prop :=
wp_X7_attackers D (fun r_1 S_2 => 
(((lg_cmp r_1 (0 : Int64)) = 0 → wp_X8_look_63 D post S_2 a0 a1 x2 b0 (0 : Int32)) ∧
 (¬ (lg_cmp r_1 (0 : Int64)) = 0 → wp_X8_look_63 D post S_2 a0 a1 x2 b0 (1 : Int32)))) S b1 t2 t3 (sJ S a0 2)
def wp_X8_look_0 (D : wD) (post : wS → Prop)  (S : wS) (a0 : Nat) (a1 : Nat) : Prop :=
∀ x_1 : Int32, x_1 = (sI S a1 5) →
wp_X7_kingOf D (fun r_2 S_3 => 
∀ S_4 : wS, S_4 = uI S_3 a0 1 r_2 →
wp_X7_occupied D (fun r_5 S_6 => 
∀ S_7 : wS, S_7 = uJ S_6 a0 2 r_5 →
wp_X7_ofSide D (fun r_8 S_9 => 
∀ S_10 : wS, S_10 = uJ S_9 a0 3 r_8 →
((¬ x_1 = 0 → wp_X8_look_46 D post S_10 a0 a1 x_1 a0 a1 (sI S_10 a0 1) (0 : Int32)) ∧
 (x_1 = 0 → wp_X8_look_46 D post S_10 a0 a1 x_1 a0 a1 (sI S_10 a0 1) (1 : Int32)))) S_7 a1 x_1) S_4 a1) S a1 x_1
abbrev r_X8_look : Room := { frames := 2, cells := 0, slots := 0, locals := 60 }
def wp_X8_look (D : wD) (post : wS → Prop) (S : wS) (a0 : Nat) (a1 : Nat) : Prop := wp_X8_look_0 D post S a0 a1
set_option maxHeartbeats 4000000 in
set_option maxRecDepth 100000 in
theorem t_X8_look_131 {p : Program} {l : Launch} {e : Env} {s : State} {m : MethodId} {args : Array Value} {below : List Frame} {meth : Method} {c : Code} {D : wD} {cy : Nat → ClassId} {X : va_W} {A : Nat → Prop} {S0 : wS} {post : wS → Prop} (F : CallFix p m c cX8_look 3 s args wz_X8_look RX8) (hr : meth.sig.returnType = none) (hlocks : meth.locks = false) (hK : wK D cy A s) : ∀ {S : wS} {H : Heap} {locs : List Loc} {ls : Array Slot}, wp_X8_look_131 D post S → wO D cy X A s.heap S H locs → wX D S0 S → lv_has ls 3 [] → W p l e r_X8_look s m args below meth c H locs 0 0 (MQ below (va_Qv (fun S9 => wX D S0 S9 ∧ post S9) (wB D cy X A) A) args s 0 0 A) (F0 m 131 ls []) := by
  obtain ⟨hx, hb, hml, hown, hts⟩ := id F
  have hwg : ∀ w ∈ WG, w.before args s = true := fun w h => hts w (List.mem_cons_of_mem _ h)
  intro S H locs ls hp hW hE hl
  unfold wp_X8_look_131 at hp
  exact w_vret hx hb hr hlocks hW ⟨hE, hp⟩ dX8_look_131
set_option maxHeartbeats 4000000 in
set_option maxRecDepth 100000 in
theorem t_X8_look_105 {p : Program} {l : Launch} {e : Env} {s : State} {m : MethodId} {args : Array Value} {below : List Frame} {meth : Method} {c : Code} {D : wD} {cy : Nat → ClassId} {X : va_W} {A : Nat → Prop} {S0 : wS} {post : wS → Prop} (F : CallFix p m c cX8_look 3 s args wz_X8_look RX8) (hr : meth.sig.returnType = none) (hlocks : meth.locks = false) (hK : wK D cy A s) : ∀ {S : wS} {H : Heap} {locs : List Loc} {ls : Array Slot} {a0 : Nat} {b0 : Nat} {t1 : Int32} {t2 : Int32}, wp_X8_look_105 D post S a0 b0 t1 t2 → wO D cy X A s.heap S H locs → wX D S0 S → lv_has ls 3 [(0, .ref a0)] → wM D S a0 → sK S a0 = 13 → wM D S b0 → sK S b0 = 12 → W p l e r_X8_look s m args below meth c H locs 0 0 (MQ below (va_Qv (fun S9 => wX D S0 S9 ∧ post S9) (wB D cy X A) A) args s 0 0 A) (F0 m 105 ls [.int t2, .int t1, .ref b0]) := by
  obtain ⟨hx, hb, hml, hown, hts⟩ := id F
  have hwg : ∀ w ∈ WG, w.before args s = true := fun w h => hts w (List.mem_cons_of_mem _ h)
  have i_13 : ∀ w ∈ u_ws RX8 TX8 6, w ∈ wz_X8_look := fun w h => List.mem_cons_of_mem _ (wu_13 w h)
  have k_15 := hwg _ wf_RX8_15
  have k_26 := hwg _ wf_RX8_26
  intro S H locs ls a0 b0 t1 t2 hp hW hE hl hL_a0 hK_a0 hL_b0 hK_b0
  unfold wp_X8_look_105 at hp
  refine lv_aload_n hx hb dX8_look_105 rfl (lv_at hl 0 rfl) ?_
  refine w_get (k := 13) (f := 2) (T := TX8) (v := .long (sJ S a0 2)) F hK hW hL_a0 hK_a0 (by decide) rfl rfl (by decide) i_13 k_15 rfl dX8_look_106 ?_
  refine lv_aload_n hx hb dX8_look_109 rfl (lv_at hl 0 rfl) ?_
  refine w_get (k := 13) (f := 5) (T := TX8) (v := .long (sJ S a0 5)) F hK hW hL_a0 hK_a0 (by decide) rfl rfl (by decide) i_13 k_26 rfl dX8_look_110 ?_
  refine lv_ldc2 (v := (-1)) hx hb hown (hwg _ wJ_RX8_59) dX8_look_113 ?_
  refine lv_lxor hx hb dX8_look_116 ?_
  refine lv_land hx hb dX8_look_117 ?_
  refine w_callJ (va_runV (As := [.int t1, .int t2, .long ((sJ S a0 2) &&& ((sJ S a0 5) ^^^ (-1 : Int64)))]) (rest := []) F (c_X7_attackers l hL_b0 hK_b0 hp H.size) (cwV (C := RX7) 3 hts (wg_V wm_RX8_49 wy_X7_attackers) rfl rfl rfl (by decide +kernel) ⟨Nat.le_of_ble_eq_true rfl, Nat.le_of_ble_eq_true rfl⟩) (w_preV hK hW hL_b0 hK_b0 (by decide) rfl) rfl rfl hl.1 rfl (lv_room (Nat.le_of_ble_eq_true rfl)) dX8_look_118 ⟨Nat.le_of_ble_eq_true rfl, Nat.le_of_ble_eq_true rfl⟩) hW (fun r_1 S_2 H locs hp hW => ?_)
  obtain ⟨hX_S_2, hp⟩ := hp
  refine W.widen (k := 0) (n := 0) (by decide) (by decide) ?_
  have hE := hE.trans hX_S_2
  have hK_a0 : sK S_2 a0 = 13 := (hX_S_2.2 a0 hL_a0).1.trans hK_a0
  have hL_a0 : wM D S_2 a0 := hX_S_2.M hL_a0
  refine lv_lconst (v := 0) hx hb dX8_look_121 (by decide) ?_
  refine W.lcmp hx hb dX8_look_122 ?_
  refine lv_if_ne (tgt := 131) hx hb dX8_look_123 (by decide) (fun c_3 => ?_) (fun c_3 => ?_)
  · replace hp := hp.1 c_3
    exact t_X8_look_131 F hr hlocks hK hp hW hE (lv_sub hl [] rfl)
  · replace hp := hp.2 c_3
    refine lv_aload_n hx hb dX8_look_126 rfl (lv_at hl 0 rfl) ?_
    refine lv_lconst (v := 0) hx hb dX8_look_127 (by decide) ?_
    refine w_putJ (k := 13) (f := 5) (T := TX8) F hK hW hL_a0 hK_a0 (by decide) (by decide) rfl rfl (by decide) i_13 tyX8 tyX8_ok nmX8 k_26 rfl rfl rfl dX8_look_128 (fun H locs hW => ?_)
    obtain ⟨S_4, eS_4⟩ : ∃ z : wS, z = uJ S_2 a0 5 (0 : Int64) := ⟨_, rfl⟩
    rw [← eS_4] at hW
    replace hp := hp S_4 eS_4
    have hX_S_4 : wX D S_2 S_4 := by rw [eS_4]; exact wX_uJ
    have hE := hE.trans hX_S_4
    have hK_a0 : sK S_4 a0 = 13 := (hX_S_4.2 a0 hL_a0).1.trans hK_a0
    have hL_a0 : wM D S_4 a0 := hX_S_4.M hL_a0
    exact t_X8_look_131 F hr hlocks hK hp hW hE (lv_sub hl [] rfl)
set_option maxHeartbeats 4000000 in
set_option maxRecDepth 100000 in
theorem t_X8_look_63 {p : Program} {l : Launch} {e : Env} {s : State} {m : MethodId} {args : Array Value} {below : List Frame} {meth : Method} {c : Code} {D : wD} {cy : Nat → ClassId} {X : va_W} {A : Nat → Prop} {S0 : wS} {post : wS → Prop} (F : CallFix p m c cX8_look 3 s args wz_X8_look RX8) (hr : meth.sig.returnType = none) (hlocks : meth.locks = false) (hK : wK D cy A s) : ∀ {S : wS} {H : Heap} {locs : List Loc} {ls : Array Slot} {a0 : Nat} {a1 : Nat} {x2 : Int32} {b0 : Nat} {t1 : Int32}, wp_X8_look_63 D post S a0 a1 x2 b0 t1 → wO D cy X A s.heap S H locs → wX D S0 S → lv_has ls 3 [(0, .ref a0), (1, .ref a1), (2, .int x2)] → wM D S a0 → sK S a0 = 13 → wM D S a1 → sK S a1 = 12 → wM D S b0 → sK S b0 = 13 → W p l e r_X8_look s m args below meth c H locs 0 0 (MQ below (va_Qv (fun S9 => wX D S0 S9 ∧ post S9) (wB D cy X A) A) args s 0 0 A) (F0 m 63 ls [.int t1, .ref b0]) := by
  obtain ⟨hx, hb, hml, hown, hts⟩ := id F
  have hwg : ∀ w ∈ WG, w.before args s = true := fun w h => hts w (List.mem_cons_of_mem _ h)
  have i_13 : ∀ w ∈ u_ws RX8 TX8 6, w ∈ wz_X8_look := fun w h => List.mem_cons_of_mem _ (wu_13 w h)
  have k_15 := hwg _ wf_RX8_15
  have k_19 := hwg _ wf_RX8_19
  have k_22 := hwg _ wf_RX8_22
  have k_26 := hwg _ wf_RX8_26
  have k_29 := hwg _ wf_RX8_29
  have k_9 := hwg _ wf_RX8_9
  intro S H locs ls a0 a1 x2 b0 t1 hp hW hE hl hL_a0 hK_a0 hL_a1 hK_a1 hL_b0 hK_b0
  unfold wp_X8_look_63 at hp
  obtain ⟨h_2, h_2f, hp⟩ := hp
  refine w_putI (k := 13) (f := 4) (T := TX8) F hK hW hL_b0 hK_b0 (by decide) (by decide) rfl rfl (by decide) i_13 tyX8 tyX8_ok nmX8 k_22 rfl rfl (ty := .boolean) rfl h_2 h_2f dX8_look_63 (fun H locs hW => ?_)
  obtain ⟨S_1, eS_1⟩ : ∃ z : wS, z = uI S b0 4 t1 := ⟨_, rfl⟩
  rw [← eS_1] at hW
  replace hp := hp S_1 eS_1
  have hX_S_1 : wX D S S_1 := by rw [eS_1]; exact wX_uI
  have hE := hE.trans hX_S_1
  have hK_a0 : sK S_1 a0 = 13 := (hX_S_1.2 a0 hL_a0).1.trans hK_a0
  have hL_a0 : wM D S_1 a0 := hX_S_1.M hL_a0
  have hK_a1 : sK S_1 a1 = 12 := (hX_S_1.2 a1 hL_a1).1.trans hK_a1
  have hL_a1 : wM D S_1 a1 := hX_S_1.M hL_a1
  refine lv_aload_n hx hb dX8_look_66 rfl (lv_at hl 0 rfl) ?_
  refine lv_aload_n hx hb dX8_look_67 rfl (lv_at hl 0 rfl) ?_
  obtain ⟨y_3, ey_3, hL_y_3, hK_y_3, hp⟩ := hp
  refine w_get (k := 13) (f := 0) (T := TX8) (v := .ref y_3) F hK hW hL_a0 hK_a0 (by decide) rfl rfl (by decide) i_13 k_29 (by rw [show wv 13 0 S_1 a0 = va_rf (sR S_1 a0 0) from rfl, ey_3]; rfl) dX8_look_68 ?_
  refine lv_iconst (v := 2) hx hb dX8_look_71 (by decide) ?_
  refine lv_aload_n hx hb dX8_look_72 rfl (lv_at hl 0 rfl) ?_
  refine w_get (k := 13) (f := 1) (T := TX8) (v := .int (sI S_1 a0 1)) F hK hW hL_a0 hK_a0 (by decide) rfl rfl (by decide) i_13 k_9 rfl dX8_look_73 ?_
  refine lv_aload_n hx hb dX8_look_76 rfl (lv_at hl 0 rfl) ?_
  refine w_get (k := 13) (f := 2) (T := TX8) (v := .long (sJ S_1 a0 2)) F hK hW hL_a0 hK_a0 (by decide) rfl rfl (by decide) i_13 k_15 rfl dX8_look_77 ?_
  refine w_callJ (va_runV (As := [.int (2 : Int32), .int (sI S_1 a0 1), .long (sJ S_1 a0 2)]) (rest := [.ref a0]) F (c_X0_reach l hL_y_3 hK_y_3 hp H.size) (cwV (C := RX0) 3 hts (wg_V wm_RX8_53 wy_X0_reach) rfl rfl rfl (by decide +kernel) ⟨Nat.le_of_ble_eq_true rfl, Nat.le_of_ble_eq_true rfl⟩) (w_preV hK hW hL_y_3 hK_y_3 (by decide) rfl) rfl rfl hl.1 rfl (lv_room (Nat.le_of_ble_eq_true rfl)) dX8_look_80 ⟨Nat.le_of_ble_eq_true rfl, Nat.le_of_ble_eq_true rfl⟩) hW (fun r_4 S_5 H locs hp hW => ?_)
  obtain ⟨hX_S_5, hp⟩ := hp
  refine W.widen (k := 0) (n := 0) (by decide) (by decide) ?_
  have hE := hE.trans hX_S_5
  have hK_a0 : sK S_5 a0 = 13 := (hX_S_5.2 a0 hL_a0).1.trans hK_a0
  have hL_a0 : wM D S_5 a0 := hX_S_5.M hL_a0
  have hK_a1 : sK S_5 a1 = 12 := (hX_S_5.2 a1 hL_a1).1.trans hK_a1
  have hL_a1 : wM D S_5 a1 := hX_S_5.M hL_a1
  refine lv_aload_n hx hb dX8_look_83 rfl (lv_at hl 0 rfl) ?_
  refine w_get (k := 13) (f := 3) (T := TX8) (v := .long (sJ S_5 a0 3)) F hK hW hL_a0 hK_a0 (by decide) rfl rfl (by decide) i_13 k_19 rfl dX8_look_84 ?_
  refine lv_land hx hb dX8_look_87 ?_
  refine w_putJ (k := 13) (f := 5) (T := TX8) F hK hW hL_a0 hK_a0 (by decide) (by decide) rfl rfl (by decide) i_13 tyX8 tyX8_ok nmX8 k_26 rfl rfl rfl dX8_look_88 (fun H locs hW => ?_)
  obtain ⟨S_6, eS_6⟩ : ∃ z : wS, z = uJ S_5 a0 5 (r_4 &&& (sJ S_5 a0 3)) := ⟨_, rfl⟩
  rw [← eS_6] at hW
  replace hp := hp S_6 eS_6
  have hX_S_6 : wX D S_5 S_6 := by rw [eS_6]; exact wX_uJ
  have hE := hE.trans hX_S_6
  have hK_a0 : sK S_6 a0 = 13 := (hX_S_6.2 a0 hL_a0).1.trans hK_a0
  have hL_a0 : wM D S_6 a0 := hX_S_6.M hL_a0
  have hK_a1 : sK S_6 a1 = 12 := (hX_S_6.2 a1 hL_a1).1.trans hK_a1
  have hL_a1 : wM D S_6 a1 := hX_S_6.M hL_a1
  refine lv_aload_n hx hb dX8_look_91 rfl (lv_at hl 1 rfl) ?_
  refine lv_aload_n hx hb dX8_look_92 rfl (lv_at hl 0 rfl) ?_
  refine w_get (k := 13) (f := 1) (T := TX8) (v := .int (sI S_6 a0 1)) F hK hW hL_a0 hK_a0 (by decide) rfl rfl (by decide) i_13 k_9 rfl dX8_look_93 ?_
  refine lv_iload_n hx hb dX8_look_96 rfl (lv_at hl 2 rfl) ?_
  refine lv_if_ne (tgt := 104) hx hb dX8_look_97 (by decide) (fun c_7 => ?_) (fun c_7 => ?_)
  · replace hp := hp.1 c_7
    refine lv_iconst (v := 0) hx hb dX8_look_104 (by decide) ?_
    exact t_X8_look_105 F hr hlocks hK hp hW hE (lv_sub hl [0] rfl) hL_a0 hK_a0 hL_a1 hK_a1
  · replace hp := hp.2 c_7
    refine lv_iconst (v := 1) hx hb dX8_look_100 (by decide) ?_
    refine lv_goto (tgt := 105) hx hb dX8_look_101 (by decide) ?_
    exact t_X8_look_105 F hr hlocks hK hp hW hE (lv_sub hl [0] rfl) hL_a0 hK_a0 hL_a1 hK_a1
set_option maxHeartbeats 4000000 in
set_option maxRecDepth 100000 in
theorem t_X8_look_46 {p : Program} {l : Launch} {e : Env} {s : State} {m : MethodId} {args : Array Value} {below : List Frame} {meth : Method} {c : Code} {D : wD} {cy : Nat → ClassId} {X : va_W} {A : Nat → Prop} {S0 : wS} {post : wS → Prop} (F : CallFix p m c cX8_look 3 s args wz_X8_look RX8) (hr : meth.sig.returnType = none) (hlocks : meth.locks = false) (hK : wK D cy A s) : ∀ {S : wS} {H : Heap} {locs : List Loc} {ls : Array Slot} {a0 : Nat} {a1 : Nat} {x2 : Int32} {b0 : Nat} {b1 : Nat} {t2 : Int32} {t3 : Int32}, wp_X8_look_46 D post S a0 a1 x2 b0 b1 t2 t3 → wO D cy X A s.heap S H locs → wX D S0 S → lv_has ls 3 [(0, .ref a0), (1, .ref a1), (2, .int x2)] → wM D S a0 → sK S a0 = 13 → wM D S a1 → sK S a1 = 12 → wM D S b0 → sK S b0 = 13 → wM D S b1 → sK S b1 = 12 → W p l e r_X8_look s m args below meth c H locs 0 0 (MQ below (va_Qv (fun S9 => wX D S0 S9 ∧ post S9) (wB D cy X A) A) args s 0 0 A) (F0 m 46 ls [.int t3, .int t2, .ref b1, .ref b0]) := by
  obtain ⟨hx, hb, hml, hown, hts⟩ := id F
  have hwg : ∀ w ∈ WG, w.before args s = true := fun w h => hts w (List.mem_cons_of_mem _ h)
  have i_13 : ∀ w ∈ u_ws RX8 TX8 6, w ∈ wz_X8_look := fun w h => List.mem_cons_of_mem _ (wu_13 w h)
  have k_15 := hwg _ wf_RX8_15
  intro S H locs ls a0 a1 x2 b0 b1 t2 t3 hp hW hE hl hL_a0 hK_a0 hL_a1 hK_a1 hL_b0 hK_b0 hL_b1 hK_b1
  unfold wp_X8_look_46 at hp
  refine lv_aload_n hx hb dX8_look_46 rfl (lv_at hl 0 rfl) ?_
  refine w_get (k := 13) (f := 2) (T := TX8) (v := .long (sJ S a0 2)) F hK hW hL_a0 hK_a0 (by decide) rfl rfl (by decide) i_13 k_15 rfl dX8_look_47 ?_
  refine w_callJ (va_runV (As := [.int t2, .int t3, .long (sJ S a0 2)]) (rest := [.ref b0]) F (c_X7_attackers l hL_b1 hK_b1 hp H.size) (cwV (C := RX7) 3 hts (wg_V wm_RX8_49 wy_X7_attackers) rfl rfl rfl (by decide +kernel) ⟨Nat.le_of_ble_eq_true rfl, Nat.le_of_ble_eq_true rfl⟩) (w_preV hK hW hL_b1 hK_b1 (by decide) rfl) rfl rfl hl.1 rfl (lv_room (Nat.le_of_ble_eq_true rfl)) dX8_look_50 ⟨Nat.le_of_ble_eq_true rfl, Nat.le_of_ble_eq_true rfl⟩) hW (fun r_1 S_2 H locs hp hW => ?_)
  obtain ⟨hX_S_2, hp⟩ := hp
  refine W.widen (k := 0) (n := 0) (by decide) (by decide) ?_
  have hE := hE.trans hX_S_2
  have hK_a0 : sK S_2 a0 = 13 := (hX_S_2.2 a0 hL_a0).1.trans hK_a0
  have hL_a0 : wM D S_2 a0 := hX_S_2.M hL_a0
  have hK_a1 : sK S_2 a1 = 12 := (hX_S_2.2 a1 hL_a1).1.trans hK_a1
  have hL_a1 : wM D S_2 a1 := hX_S_2.M hL_a1
  have hK_b0 : sK S_2 b0 = 13 := (hX_S_2.2 b0 hL_b0).1.trans hK_b0
  have hL_b0 : wM D S_2 b0 := hX_S_2.M hL_b0
  refine lv_lconst (v := 0) hx hb dX8_look_53 (by decide) ?_
  refine W.lcmp hx hb dX8_look_54 ?_
  refine lv_if_eq (tgt := 62) hx hb dX8_look_55 (by decide) (fun c_3 => ?_) (fun c_3 => ?_)
  · replace hp := hp.1 c_3
    refine lv_iconst (v := 0) hx hb dX8_look_62 (by decide) ?_
    exact t_X8_look_63 F hr hlocks hK hp hW hE (lv_sub hl [0, 1, 2] rfl) hL_a0 hK_a0 hL_a1 hK_a1 hL_b0 hK_b0
  · replace hp := hp.2 c_3
    refine lv_iconst (v := 1) hx hb dX8_look_58 (by decide) ?_
    refine lv_goto (tgt := 63) hx hb dX8_look_59 (by decide) ?_
    exact t_X8_look_63 F hr hlocks hK hp hW hE (lv_sub hl [0, 1, 2] rfl) hL_a0 hK_a0 hL_a1 hK_a1 hL_b0 hK_b0
set_option maxHeartbeats 4000000 in
set_option maxRecDepth 100000 in
theorem t_X8_look_0 {p : Program} {l : Launch} {e : Env} {s : State} {m : MethodId} {args : Array Value} {below : List Frame} {meth : Method} {c : Code} {D : wD} {cy : Nat → ClassId} {X : va_W} {A : Nat → Prop} {S0 : wS} {post : wS → Prop} (F : CallFix p m c cX8_look 3 s args wz_X8_look RX8) (hr : meth.sig.returnType = none) (hlocks : meth.locks = false) (hK : wK D cy A s) : ∀ {S : wS} {H : Heap} {locs : List Loc} {ls : Array Slot} {a0 : Nat} {a1 : Nat}, wp_X8_look_0 D post S a0 a1 → wO D cy X A s.heap S H locs → wX D S0 S → lv_has ls 3 [(0, .ref a0), (1, .ref a1)] → wM D S a0 → sK S a0 = 13 → wM D S a1 → sK S a1 = 12 → W p l e r_X8_look s m args below meth c H locs 0 0 (MQ below (va_Qv (fun S9 => wX D S0 S9 ∧ post S9) (wB D cy X A) A) args s 0 0 A) (F0 m 0 ls []) := by
  obtain ⟨hx, hb, hml, hown, hts⟩ := id F
  have hwg : ∀ w ∈ WG, w.before args s = true := fun w h => hts w (List.mem_cons_of_mem _ h)
  have i_12 : ∀ w ∈ u_ws RX7 TX7 8, w ∈ wz_X8_look := fun w h => List.mem_cons_of_mem _ (wu_12 w h)
  have i_13 : ∀ w ∈ u_ws RX8 TX8 6, w ∈ wz_X8_look := fun w h => List.mem_cons_of_mem _ (wu_13 w h)
  have k_15 := hwg _ wf_RX8_15
  have k_19 := hwg _ wf_RX8_19
  have k_9 := hwg _ wf_RX8_9
  intro S H locs ls a0 a1 hp hW hE hl hL_a0 hK_a0 hL_a1 hK_a1
  unfold wp_X8_look_0 at hp
  refine lv_aload_n hx hb dX8_look_0 rfl (lv_at hl 1 rfl) ?_
  refine w_getN (k := 12) (f := 5) (T := TX7) (v := .int (sI S a1 5)) F hK hW hL_a1 hK_a1 (by decide) rfl rfl (by decide) i_12 (hK.2.1 (.fieldLinkNest "OpeningsCabinet$Rules" 33 "OpeningsCabinet$Position" "isWhite" "Z" "OpeningsCabinet") (by decide +kernel)) rfl dX8_look_1 ?_
  refine lv_topi (fun x_1 ex_1 => ?_)
  replace hp := hp x_1 ex_1
  refine lv_istore_n (lv' := [(2, .int x_1), (0, .ref a0), (1, .ref a1)]) hx hb dX8_look_4 rfl hl (by decide) rfl (fun ls hl => ?_)
  refine lv_aload_n hx hb dX8_look_5 rfl (lv_at hl 1 rfl) ?_
  refine lv_aload_n hx hb dX8_look_6 rfl (lv_at hl 2 rfl) ?_
  refine lv_iload_n hx hb dX8_look_7 rfl (lv_at hl 0 rfl) ?_
  refine w_callI (va_runV (As := [.int x_1]) (rest := [.ref a0]) F (c_X7_kingOf l hL_a1 hK_a1 hp H.size) (cwV (C := RX7) 1 hts (wg_V wm_RX8_38 wy_X7_kingOf) rfl rfl rfl (by decide +kernel) ⟨Nat.le_of_ble_eq_true rfl, Nat.le_of_ble_eq_true rfl⟩) (w_preV hK hW hL_a1 hK_a1 (by decide) rfl) rfl rfl hl.1 rfl (lv_room (Nat.le_of_ble_eq_true rfl)) dX8_look_8 ⟨Nat.le_of_ble_eq_true rfl, Nat.le_of_ble_eq_true rfl⟩) hW (fun r_2 S_3 H locs hp hW => ?_)
  obtain ⟨hX_S_3, hp⟩ := hp
  refine W.widen (k := 0) (n := 0) (by decide) (by decide) ?_
  have hE := hE.trans hX_S_3
  have hK_a0 : sK S_3 a0 = 13 := (hX_S_3.2 a0 hL_a0).1.trans hK_a0
  have hL_a0 : wM D S_3 a0 := hX_S_3.M hL_a0
  have hK_a1 : sK S_3 a1 = 12 := (hX_S_3.2 a1 hL_a1).1.trans hK_a1
  have hL_a1 : wM D S_3 a1 := hX_S_3.M hL_a1
  refine w_putI (k := 13) (f := 1) (T := TX8) F hK hW hL_a0 hK_a0 (by decide) (by decide) rfl rfl (by decide) i_13 tyX8 tyX8_ok nmX8 k_9 rfl rfl (ty := .int) rfl rfl rfl dX8_look_11 (fun H locs hW => ?_)
  obtain ⟨S_4, eS_4⟩ : ∃ z : wS, z = uI S_3 a0 1 r_2 := ⟨_, rfl⟩
  rw [← eS_4] at hW
  replace hp := hp S_4 eS_4
  have hX_S_4 : wX D S_3 S_4 := by rw [eS_4]; exact wX_uI
  have hE := hE.trans hX_S_4
  have hK_a0 : sK S_4 a0 = 13 := (hX_S_4.2 a0 hL_a0).1.trans hK_a0
  have hL_a0 : wM D S_4 a0 := hX_S_4.M hL_a0
  have hK_a1 : sK S_4 a1 = 12 := (hX_S_4.2 a1 hL_a1).1.trans hK_a1
  have hL_a1 : wM D S_4 a1 := hX_S_4.M hL_a1
  refine lv_aload_n hx hb dX8_look_14 rfl (lv_at hl 1 rfl) ?_
  refine lv_aload_n hx hb dX8_look_15 rfl (lv_at hl 2 rfl) ?_
  refine w_callJ (va_runV (As := []) (rest := [.ref a0]) F (c_X7_occupied l hL_a1 hK_a1 hp H.size) (cwV (C := RX7) 0 hts (wg_V wm_RX8_42 wy_X7_occupied) rfl rfl rfl (by decide +kernel) ⟨Nat.le_of_ble_eq_true rfl, Nat.le_of_ble_eq_true rfl⟩) (w_preV hK hW hL_a1 hK_a1 (by decide) rfl) rfl rfl hl.1 rfl (lv_room (Nat.le_of_ble_eq_true rfl)) dX8_look_16 ⟨Nat.le_of_ble_eq_true rfl, Nat.le_of_ble_eq_true rfl⟩) hW (fun r_5 S_6 H locs hp hW => ?_)
  obtain ⟨hX_S_6, hp⟩ := hp
  refine W.widen (k := 0) (n := 0) (by decide) (by decide) ?_
  have hE := hE.trans hX_S_6
  have hK_a0 : sK S_6 a0 = 13 := (hX_S_6.2 a0 hL_a0).1.trans hK_a0
  have hL_a0 : wM D S_6 a0 := hX_S_6.M hL_a0
  have hK_a1 : sK S_6 a1 = 12 := (hX_S_6.2 a1 hL_a1).1.trans hK_a1
  have hL_a1 : wM D S_6 a1 := hX_S_6.M hL_a1
  refine w_putJ (k := 13) (f := 2) (T := TX8) F hK hW hL_a0 hK_a0 (by decide) (by decide) rfl rfl (by decide) i_13 tyX8 tyX8_ok nmX8 k_15 rfl rfl rfl dX8_look_19 (fun H locs hW => ?_)
  obtain ⟨S_7, eS_7⟩ : ∃ z : wS, z = uJ S_6 a0 2 r_5 := ⟨_, rfl⟩
  rw [← eS_7] at hW
  replace hp := hp S_7 eS_7
  have hX_S_7 : wX D S_6 S_7 := by rw [eS_7]; exact wX_uJ
  have hE := hE.trans hX_S_7
  have hK_a0 : sK S_7 a0 = 13 := (hX_S_7.2 a0 hL_a0).1.trans hK_a0
  have hL_a0 : wM D S_7 a0 := hX_S_7.M hL_a0
  have hK_a1 : sK S_7 a1 = 12 := (hX_S_7.2 a1 hL_a1).1.trans hK_a1
  have hL_a1 : wM D S_7 a1 := hX_S_7.M hL_a1
  refine lv_aload_n hx hb dX8_look_22 rfl (lv_at hl 1 rfl) ?_
  refine lv_aload_n hx hb dX8_look_23 rfl (lv_at hl 2 rfl) ?_
  refine lv_iload_n hx hb dX8_look_24 rfl (lv_at hl 0 rfl) ?_
  refine w_callJ (va_runV (As := [.int x_1]) (rest := [.ref a0]) F (c_X7_ofSide l hL_a1 hK_a1 hp H.size) (cwV (C := RX7) 1 hts (wg_V wm_RX8_45 wy_X7_ofSide) rfl rfl rfl (by decide +kernel) ⟨Nat.le_of_ble_eq_true rfl, Nat.le_of_ble_eq_true rfl⟩) (w_preV hK hW hL_a1 hK_a1 (by decide) rfl) rfl rfl hl.1 rfl (lv_room (Nat.le_of_ble_eq_true rfl)) dX8_look_25 ⟨Nat.le_of_ble_eq_true rfl, Nat.le_of_ble_eq_true rfl⟩) hW (fun r_8 S_9 H locs hp hW => ?_)
  obtain ⟨hX_S_9, hp⟩ := hp
  refine W.widen (k := 0) (n := 0) (by decide) (by decide) ?_
  have hE := hE.trans hX_S_9
  have hK_a0 : sK S_9 a0 = 13 := (hX_S_9.2 a0 hL_a0).1.trans hK_a0
  have hL_a0 : wM D S_9 a0 := hX_S_9.M hL_a0
  have hK_a1 : sK S_9 a1 = 12 := (hX_S_9.2 a1 hL_a1).1.trans hK_a1
  have hL_a1 : wM D S_9 a1 := hX_S_9.M hL_a1
  refine w_putJ (k := 13) (f := 3) (T := TX8) F hK hW hL_a0 hK_a0 (by decide) (by decide) rfl rfl (by decide) i_13 tyX8 tyX8_ok nmX8 k_19 rfl rfl rfl dX8_look_28 (fun H locs hW => ?_)
  obtain ⟨S_10, eS_10⟩ : ∃ z : wS, z = uJ S_9 a0 3 r_8 := ⟨_, rfl⟩
  rw [← eS_10] at hW
  replace hp := hp S_10 eS_10
  have hX_S_10 : wX D S_9 S_10 := by rw [eS_10]; exact wX_uJ
  have hE := hE.trans hX_S_10
  have hK_a0 : sK S_10 a0 = 13 := (hX_S_10.2 a0 hL_a0).1.trans hK_a0
  have hL_a0 : wM D S_10 a0 := hX_S_10.M hL_a0
  have hK_a1 : sK S_10 a1 = 12 := (hX_S_10.2 a1 hL_a1).1.trans hK_a1
  have hL_a1 : wM D S_10 a1 := hX_S_10.M hL_a1
  refine lv_aload_n hx hb dX8_look_31 rfl (lv_at hl 1 rfl) ?_
  refine lv_aload_n hx hb dX8_look_32 rfl (lv_at hl 2 rfl) ?_
  refine lv_aload_n hx hb dX8_look_33 rfl (lv_at hl 1 rfl) ?_
  refine w_get (k := 13) (f := 1) (T := TX8) (v := .int (sI S_10 a0 1)) F hK hW hL_a0 hK_a0 (by decide) rfl rfl (by decide) i_13 k_9 rfl dX8_look_34 ?_
  refine lv_iload_n hx hb dX8_look_37 rfl (lv_at hl 0 rfl) ?_
  refine lv_if_ne (tgt := 45) hx hb dX8_look_38 (by decide) (fun c_11 => ?_) (fun c_11 => ?_)
  · replace hp := hp.1 c_11
    refine lv_iconst (v := 0) hx hb dX8_look_45 (by decide) ?_
    exact t_X8_look_46 F hr hlocks hK hp hW hE (lv_sub hl [1, 2, 0] rfl) hL_a0 hK_a0 hL_a1 hK_a1 hL_a0 hK_a0 hL_a1 hK_a1
  · replace hp := hp.2 c_11
    refine lv_iconst (v := 1) hx hb dX8_look_41 (by decide) ?_
    refine lv_goto (tgt := 46) hx hb dX8_look_42 (by decide) ?_
    exact t_X8_look_46 F hr hlocks hK hp hW hE (lv_sub hl [1, 2, 0] rfl) hL_a0 hK_a0 hL_a1 hK_a1 hL_a0 hK_a0 hL_a1 hK_a1
set_option maxHeartbeats 4000000 in
set_option maxRecDepth 100000 in
theorem c_X8_look (l : Launch) {D : wD} {cy : Nat → ClassId} {X : va_W} {S0 : wS} {post : wS → Prop} {a0 : Nat} {a1 : Nat} (hL_a0 : wM D S0 a0) (hK_a0 : sK S0 a0 = 13) (hL_a1 : wM D S0 a1) (hK_a1 : sK S0 a1 = 12) (hp : wp_X8_look D post S0 a0 a1) : mV D cy X l yX8_look wz_X8_look r_X8_look [.ref a0, .ref a1] S0 (fun S9 => wX D S0 S9 ∧ post S9) := by
  intro sz
  refine Met.ofW (cc := cX8_look) (maxL := 3) (ret := none) (by decide) rfl ?_
  intro p e s m args below meth c s₁ B hml hv
  obtain ⟨rfl, hsz, hP, hK, hD0, hRO⟩ := hv
  have hts := atoms_spec (ws := wz_X8_look) B.pre
  have hown : s.vm.findClass RX8 = some m.cls := findClass_of_methodNamed B.named
  subst hsz
  have hD := hD0.self (sz := s.heap.size)
  have F : CallFix p m c cX8_look 3 s _ wz_X8_look RX8 := ⟨B.exec, B.bytes, hml, hown, hts⟩
  have hr := B.returns
  have hlocks := B.notSynchronized
  generalize hAe : va_A (wL cy X S0) s.heap.size = A at hD hK ⊢
  have hA : ∀ q, s.heap.size ≤ q → A q := fun q h => by rw [← hAe]; exact Or.inr h
  have hW : wO D cy X A s.heap S0 s.heap [] := ⟨hP, hD, va_S.rf, hA, hRO⟩
  have hl := lv_entry ([.ref a0, .ref a1]) (n := 3) (Nat.le_of_ble_eq_true rfl)
  rw [lg_entry_eq]
  generalize (lg_sl ([.ref a0, .ref a1]) ++ List.replicate (3 - (lg_sl ([.ref a0, .ref a1])).length) Slot.unset).toArray = ls at hl ⊢
  have hl : lv_has ls 3 [(0, .ref a0), (1, .ref a1)] := hl
  unfold wp_X8_look at hp
  exact t_X8_look_0 F hr hlocks hK hp hW wX.rf (lv_sub hl [0, 1] rfl) hL_a0 hK_a0 hL_a1 hK_a1
def wp_X8_pawnAims_184 (D : wD) (post : Int64 → wS → Prop)  (S : wS) (a0 : Nat) (x2 : Int32) (x3 : Int32) (x5 : Int64) (x8 : Int64) : Prop :=
∃ y_1 : Nat, sR S a0 0 = some y_1 ∧ wM D S y_1 ∧ sK S y_1 = 5 ∧
wp_X0_pawnAimsOf D (fun r_2 S_3 => 
post (x5 ||| (r_2 &&& x8)) S_3) S y_1 x2 x3
def wp_X8_pawnAims_160 (D : wD) (post : Int64 → wS → Prop)  (S : wS) (a0 : Nat) (a1 : Nat) (x2 : Int32) (x3 : Int32) (x5 : Int64) (b0 : Nat) (t1 : Int32) : Prop :=
wp_X7_ofSide D (fun r_1 S_2 => 
(((sI S_2 a1 7) = (-1 : Int32) → wp_X8_pawnAims_184 D post S_2 a0 x2 x3 x5 r_1) ∧
 (¬ (sI S_2 a1 7) = (-1 : Int32) → ∀ x_4 : Int64, x_4 = (r_1 ||| (jlshl (1 : Int64) (sI S_2 a1 7))) →
wp_X8_pawnAims_184 D post S_2 a0 x2 x3 x5 x_4))) S b0 t1
def wp_X8_pawnAims_150 (D : wD) (post : Int64 → wS → Prop)  (S : wS) (a0 : Nat) (a1 : Nat) (x2 : Int32) (x3 : Int32) (x5 : Int64) : Prop :=
((¬ x3 = 0 → wp_X8_pawnAims_160 D post S a0 a1 x2 x3 x5 a1 (0 : Int32)) ∧
 (x3 = 0 → wp_X8_pawnAims_160 D post S a0 a1 x2 x3 x5 a1 (1 : Int32)))
def wp_X8_pawnAims_104 (D : wD) (post : Int64 → wS → Prop)  (S : wS) (a0 : Nat) (a1 : Nat) (x2 : Int32) (x3 : Int32) (x4 : Int32) (x5 : Int64) (x7 : Int32) (t0 : Int32) : Prop :=
((t0 = 0 → wp_X8_pawnAims_150 D post S a0 a1 x2 x3 x5) ∧
 (¬ t0 = 0 → ∃ y_2 : Nat, sR S a0 0 = some y_2 ∧ wM D S y_2 ∧ sK S y_2 = 5 ∧
(((sI S y_2 1) < (6 : Int32) → wp_X8_pawnAims_150 D post S a0 a1 x2 x3 x5) ∧
 (¬ (sI S y_2 1) < (6 : Int32) → wp_X11_contains D (fun r_4 S_5 => 
((¬ r_4 = 0 → wp_X8_pawnAims_150 D post S_5 a0 a1 x2 x3 x5) ∧
 (r_4 = 0 → ∀ x_7 : Int64, x_7 = (x5 ||| (jlshl (1 : Int64) (x7 + x4))) →
wp_X8_pawnAims_150 D post S_5 a0 a1 x2 x3 x_7))) S (sJ S a0 2) (x7 + x4)))))
def wp_X8_pawnAims_96 (D : wD) (post : Int64 → wS → Prop)  (S : wS) (a0 : Nat) (a1 : Nat) (x2 : Int32) (x3 : Int32) (x4 : Int32) (x5 : Int64) (x7 : Int32) (t0 : Int32) (t1 : Int32) : Prop :=
((¬ t0 = t1 → wp_X8_pawnAims_104 D post S a0 a1 x2 x3 x4 x5 x7 (0 : Int32)) ∧
 (t0 = t1 → wp_X8_pawnAims_104 D post S a0 a1 x2 x3 x4 x5 x7 (1 : Int32)))
def wp_X8_pawnAims_27 (D : wD) (post : Int64 → wS → Prop)  (S : wS) (a0 : Nat) (a1 : Nat) (x2 : Int32) (x3 : Int32) (t0 : Int32) : Prop :=
∀ x_1 : Int32, x_1 = (x2 + t0) →
∃ y_2 : Nat, sR S a0 0 = some y_2 ∧ wM D S y_2 ∧ sK S y_2 = 5 ∧
wp_X0_has D (fun r_3 S_4 => 
((r_3 = 0 → wp_X8_pawnAims_150 D post S_4 a0 a1 x2 x3 (0 : Int64)) ∧
 (¬ r_3 = 0 → wp_X11_contains D (fun r_6 S_7 => 
((¬ r_6 = 0 → wp_X8_pawnAims_150 D post S_7 a0 a1 x2 x3 (0 : Int64)) ∧
 (r_6 = 0 → ∀ x_9 : Int64, x_9 = ((0 : Int64) ||| (jlshl (1 : Int64) x_1)) →
∃ y_10 : Nat, sR S_7 a0 0 = some y_10 ∧ wM D S_7 y_10 ∧ sK S_7 y_10 = 5 ∧
wp_X0_rankAt D (fun r_11 S_12 => 
((x3 = 0 → ∃ y_14 : Nat, sR S_12 a0 0 = some y_14 ∧ wM D S_12 y_14 ∧ sK S_12 y_14 = 5 ∧
wp_X8_pawnAims_96 D post S_12 a0 a1 x2 x3 t0 x_9 x_1 r_11 ((sI S_12 y_14 1) - (2 : Int32))) ∧
 (¬ x3 = 0 → wp_X8_pawnAims_96 D post S_12 a0 a1 x2 x3 t0 x_9 x_1 r_11 (1 : Int32)))) S_7 y_10 x2))) S_4 (sJ S_4 a0 2) x_1))) S y_2 x_1
def wp_X8_pawnAims_0 (D : wD) (post : Int64 → wS → Prop)  (S : wS) (a0 : Nat) (a1 : Nat) (x2 : Int32) : Prop :=
∀ x_1 : Int32, x_1 = (sI S a1 5) →
((x_1 = 0 → ∃ y_3 : Nat, sR S a0 0 = some y_3 ∧ wM D S y_3 ∧ sK S y_3 = 5 ∧
wp_X8_pawnAims_27 D post S a0 a1 x2 x_1 (-(sI S y_3 0))) ∧
 (¬ x_1 = 0 → ∃ y_4 : Nat, sR S a0 0 = some y_4 ∧ wM D S y_4 ∧ sK S y_4 = 5 ∧
wp_X8_pawnAims_27 D post S a0 a1 x2 x_1 (sI S y_4 0)))
abbrev r_X8_pawnAims : Room := { frames := 1, cells := 0, slots := 0, locals := 22 }
def wp_X8_pawnAims (D : wD) (post : Int64 → wS → Prop) (S : wS) (a0 : Nat) (a1 : Nat) (x2 : Int32) : Prop := wp_X8_pawnAims_0 D post S a0 a1 x2
set_option maxHeartbeats 4000000 in
set_option maxRecDepth 100000 in
theorem t_X8_pawnAims_184 {p : Program} {l : Launch} {e : Env} {s : State} {m : MethodId} {args : Array Value} {below : List Frame} {meth : Method} {c : Code} {D : wD} {cy : Nat → ClassId} {X : va_W} {A : Nat → Prop} {S0 : wS} {post : Int64 → wS → Prop} (F : CallFix p m c cX8_pawnAims 10 s args wz_X8_pawnAims RX8) (hr : meth.sig.returnType = (some .long)) (hlocks : meth.locks = false) (hK : wK D cy A s) : ∀ {S : wS} {H : Heap} {locs : List Loc} {ls : Array Slot} {a0 : Nat} {x2 : Int32} {x3 : Int32} {x5 : Int64} {x8 : Int64}, wp_X8_pawnAims_184 D post S a0 x2 x3 x5 x8 → wO D cy X A s.heap S H locs → wX D S0 S → lv_has ls 10 [(0, .ref a0), (2, .int x2), (3, .int x3), (5, .long x5), (8, .long x8)] → wM D S a0 → sK S a0 = 13 → W p l e r_X8_pawnAims s m args below meth c H locs 0 0 (MQ below (va_Ql (fun r S9 => wX D S0 S9 ∧ post r S9) (wB D cy X A) A) args s 0 0 A) (F0 m 184 ls []) := by
  obtain ⟨hx, hb, hml, hown, hts⟩ := id F
  have hwg : ∀ w ∈ WG, w.before args s = true := fun w h => hts w (List.mem_cons_of_mem _ h)
  have i_13 : ∀ w ∈ u_ws RX8 TX8 6, w ∈ wz_X8_pawnAims := fun w h => List.mem_cons_of_mem _ (wu_13 w h)
  have k_29 := hwg _ wf_RX8_29
  intro S H locs ls a0 x2 x3 x5 x8 hp hW hE hl hL_a0 hK_a0
  unfold wp_X8_pawnAims_184 at hp
  refine lv_lload hx hb dX8_pawnAims_184 (lv_at hl 3 rfl) ?_
  refine lv_aload_n hx hb dX8_pawnAims_186 rfl (lv_at hl 0 rfl) ?_
  obtain ⟨y_1, ey_1, hL_y_1, hK_y_1, hp⟩ := hp
  refine w_get (k := 13) (f := 0) (T := TX8) (v := .ref y_1) F hK hW hL_a0 hK_a0 (by decide) rfl rfl (by decide) i_13 k_29 (by rw [show wv 13 0 S a0 = va_rf (sR S a0 0) from rfl, ey_1]; rfl) dX8_pawnAims_187 ?_
  refine lv_iload_n hx hb dX8_pawnAims_190 rfl (lv_at hl 1 rfl) ?_
  refine lv_iload_n hx hb dX8_pawnAims_191 rfl (lv_at hl 2 rfl) ?_
  refine w_callJ (va_runV (As := [.int x2, .int x3]) (rest := [.long x5]) F (c_X0_pawnAimsOf l hL_y_1 hK_y_1 hp H.size) (cwV (C := RX0) 2 hts (wg_V wm_RX8_123 wy_X0_pawnAimsOf) rfl rfl rfl (by decide +kernel) ⟨Nat.le_of_ble_eq_true rfl, Nat.le_of_ble_eq_true rfl⟩) (w_preV hK hW hL_y_1 hK_y_1 (by decide) rfl) rfl rfl hl.1 rfl (lv_room (Nat.le_of_ble_eq_true rfl)) dX8_pawnAims_192 ⟨Nat.le_of_ble_eq_true rfl, Nat.le_of_ble_eq_true rfl⟩) hW (fun r_2 S_3 H locs hp hW => ?_)
  obtain ⟨hX_S_3, hp⟩ := hp
  refine W.widen (k := 0) (n := 0) (by decide) (by decide) ?_
  have hE := hE.trans hX_S_3
  have hK_a0 : sK S_3 a0 = 13 := (hX_S_3.2 a0 hL_a0).1.trans hK_a0
  have hL_a0 : wM D S_3 a0 := hX_S_3.M hL_a0
  refine lv_lload hx hb dX8_pawnAims_195 (lv_at hl 4 rfl) ?_
  refine lv_land hx hb dX8_pawnAims_197 ?_
  refine lv_lor hx hb dX8_pawnAims_198 ?_
  exact w_lret hx hb hr hlocks hW ⟨hE, hp⟩ dX8_pawnAims_199
set_option maxHeartbeats 4000000 in
set_option maxRecDepth 100000 in
theorem t_X8_pawnAims_160 {p : Program} {l : Launch} {e : Env} {s : State} {m : MethodId} {args : Array Value} {below : List Frame} {meth : Method} {c : Code} {D : wD} {cy : Nat → ClassId} {X : va_W} {A : Nat → Prop} {S0 : wS} {post : Int64 → wS → Prop} (F : CallFix p m c cX8_pawnAims 10 s args wz_X8_pawnAims RX8) (hr : meth.sig.returnType = (some .long)) (hlocks : meth.locks = false) (hK : wK D cy A s) : ∀ {S : wS} {H : Heap} {locs : List Loc} {ls : Array Slot} {a0 : Nat} {a1 : Nat} {x2 : Int32} {x3 : Int32} {x5 : Int64} {b0 : Nat} {t1 : Int32}, wp_X8_pawnAims_160 D post S a0 a1 x2 x3 x5 b0 t1 → wO D cy X A s.heap S H locs → wX D S0 S → lv_has ls 10 [(0, .ref a0), (1, .ref a1), (2, .int x2), (3, .int x3), (5, .long x5)] → wM D S a0 → sK S a0 = 13 → wM D S a1 → sK S a1 = 12 → wM D S b0 → sK S b0 = 12 → W p l e r_X8_pawnAims s m args below meth c H locs 0 0 (MQ below (va_Ql (fun r S9 => wX D S0 S9 ∧ post r S9) (wB D cy X A) A) args s 0 0 A) (F0 m 160 ls [.int t1, .ref b0]) := by
  obtain ⟨hx, hb, hml, hown, hts⟩ := id F
  have hwg : ∀ w ∈ WG, w.before args s = true := fun w h => hts w (List.mem_cons_of_mem _ h)
  have i_12 : ∀ w ∈ u_ws RX7 TX7 8, w ∈ wz_X8_pawnAims := fun w h => List.mem_cons_of_mem _ (wu_12 w h)
  intro S H locs ls a0 a1 x2 x3 x5 b0 t1 hp hW hE hl hL_a0 hK_a0 hL_a1 hK_a1 hL_b0 hK_b0
  unfold wp_X8_pawnAims_160 at hp
  refine w_callJ (va_runV (As := [.int t1]) (rest := []) F (c_X7_ofSide l hL_b0 hK_b0 hp H.size) (cwV (C := RX7) 1 hts (wg_V wm_RX8_45 wy_X7_ofSide) rfl rfl rfl (by decide +kernel) ⟨Nat.le_of_ble_eq_true rfl, Nat.le_of_ble_eq_true rfl⟩) (w_preV hK hW hL_b0 hK_b0 (by decide) rfl) rfl rfl hl.1 rfl (lv_room (Nat.le_of_ble_eq_true rfl)) dX8_pawnAims_160 ⟨Nat.le_of_ble_eq_true rfl, Nat.le_of_ble_eq_true rfl⟩) hW (fun r_1 S_2 H locs hp hW => ?_)
  obtain ⟨hX_S_2, hp⟩ := hp
  refine W.widen (k := 0) (n := 0) (by decide) (by decide) ?_
  have hE := hE.trans hX_S_2
  have hK_a0 : sK S_2 a0 = 13 := (hX_S_2.2 a0 hL_a0).1.trans hK_a0
  have hL_a0 : wM D S_2 a0 := hX_S_2.M hL_a0
  have hK_a1 : sK S_2 a1 = 12 := (hX_S_2.2 a1 hL_a1).1.trans hK_a1
  have hL_a1 : wM D S_2 a1 := hX_S_2.M hL_a1
  refine lv_lstore (lv' := [(8, .long r_1), (0, .ref a0), (1, .ref a1), (2, .int x2), (3, .int x3), (5, .long x5)]) hx hb dX8_pawnAims_163 hl (by decide) rfl (fun ls hl => ?_)
  refine lv_aload_n hx hb dX8_pawnAims_165 rfl (lv_at hl 2 rfl) ?_
  refine w_getN (k := 12) (f := 7) (T := TX7) (v := .int (sI S_2 a1 7)) F hK hW hL_a1 hK_a1 (by decide) rfl rfl (by decide) i_12 (hK.2.1 (.fieldLinkNest "OpeningsCabinet$Rules" 107 "OpeningsCabinet$Position" "passing" "I" "OpeningsCabinet") (by decide +kernel)) rfl dX8_pawnAims_166 ?_
  refine lv_iconst (v := (-1)) hx hb dX8_pawnAims_169 (by decide) ?_
  refine lv_icmp_eq (tgt := 184) hx hb dX8_pawnAims_170 (by decide) (fun c_3 => ?_) (fun c_3 => ?_)
  · replace hp := hp.1 c_3
    exact t_X8_pawnAims_184 F hr hlocks hK hp hW hE (lv_sub hl [1, 3, 4, 5, 0] rfl) hL_a0 hK_a0
  · replace hp := hp.2 c_3
    refine lv_lload hx hb dX8_pawnAims_173 (lv_at hl 0 rfl) ?_
    refine lv_lconst (v := 1) hx hb dX8_pawnAims_175 (by decide) ?_
    refine lv_aload_n hx hb dX8_pawnAims_176 rfl (lv_at hl 2 rfl) ?_
    refine w_getN (k := 12) (f := 7) (T := TX7) (v := .int (sI S_2 a1 7)) F hK hW hL_a1 hK_a1 (by decide) rfl rfl (by decide) i_12 (hK.2.1 (.fieldLinkNest "OpeningsCabinet$Rules" 107 "OpeningsCabinet$Position" "passing" "I" "OpeningsCabinet") (by decide +kernel)) rfl dX8_pawnAims_177 ?_
    refine lv_lshl (v := (jlshl (1 : Int64) (sI S_2 a1 7))) hx hb dX8_pawnAims_180 rfl ?_
    refine lv_lor hx hb dX8_pawnAims_181 ?_
    refine lv_topl (fun x_4 ex_4 => ?_)
    replace hp := hp x_4 ex_4
    refine lv_lstore (lv' := [(8, .long x_4), (0, .ref a0), (1, .ref a1), (2, .int x2), (3, .int x3), (5, .long x5)]) hx hb dX8_pawnAims_182 hl (by decide) rfl (fun ls hl => ?_)
    exact t_X8_pawnAims_184 F hr hlocks hK hp hW hE (lv_sub hl [1, 3, 4, 5, 0] rfl) hL_a0 hK_a0
set_option maxHeartbeats 4000000 in
set_option maxRecDepth 100000 in
theorem t_X8_pawnAims_150 {p : Program} {l : Launch} {e : Env} {s : State} {m : MethodId} {args : Array Value} {below : List Frame} {meth : Method} {c : Code} {D : wD} {cy : Nat → ClassId} {X : va_W} {A : Nat → Prop} {S0 : wS} {post : Int64 → wS → Prop} (F : CallFix p m c cX8_pawnAims 10 s args wz_X8_pawnAims RX8) (hr : meth.sig.returnType = (some .long)) (hlocks : meth.locks = false) (hK : wK D cy A s) : ∀ {S : wS} {H : Heap} {locs : List Loc} {ls : Array Slot} {a0 : Nat} {a1 : Nat} {x2 : Int32} {x3 : Int32} {x5 : Int64}, wp_X8_pawnAims_150 D post S a0 a1 x2 x3 x5 → wO D cy X A s.heap S H locs → wX D S0 S → lv_has ls 10 [(0, .ref a0), (1, .ref a1), (2, .int x2), (3, .int x3), (5, .long x5)] → wM D S a0 → sK S a0 = 13 → wM D S a1 → sK S a1 = 12 → W p l e r_X8_pawnAims s m args below meth c H locs 0 0 (MQ below (va_Ql (fun r S9 => wX D S0 S9 ∧ post r S9) (wB D cy X A) A) args s 0 0 A) (F0 m 150 ls []) := by
  obtain ⟨hx, hb, hml, hown, hts⟩ := id F
  have hwg : ∀ w ∈ WG, w.before args s = true := fun w h => hts w (List.mem_cons_of_mem _ h)
  intro S H locs ls a0 a1 x2 x3 x5 hp hW hE hl hL_a0 hK_a0 hL_a1 hK_a1
  unfold wp_X8_pawnAims_150 at hp
  refine lv_aload_n hx hb dX8_pawnAims_150 rfl (lv_at hl 1 rfl) ?_
  refine lv_iload_n hx hb dX8_pawnAims_151 rfl (lv_at hl 3 rfl) ?_
  refine lv_if_ne (tgt := 159) hx hb dX8_pawnAims_152 (by decide) (fun c_1 => ?_) (fun c_1 => ?_)
  · replace hp := hp.1 c_1
    refine lv_iconst (v := 0) hx hb dX8_pawnAims_159 (by decide) ?_
    exact t_X8_pawnAims_160 F hr hlocks hK hp hW hE (lv_sub hl [0, 1, 2, 3, 4] rfl) hL_a0 hK_a0 hL_a1 hK_a1 hL_a1 hK_a1
  · replace hp := hp.2 c_1
    refine lv_iconst (v := 1) hx hb dX8_pawnAims_155 (by decide) ?_
    refine lv_goto (tgt := 160) hx hb dX8_pawnAims_156 (by decide) ?_
    exact t_X8_pawnAims_160 F hr hlocks hK hp hW hE (lv_sub hl [0, 1, 2, 3, 4] rfl) hL_a0 hK_a0 hL_a1 hK_a1 hL_a1 hK_a1
set_option maxHeartbeats 4000000 in
set_option maxRecDepth 100000 in
theorem t_X8_pawnAims_104 {p : Program} {l : Launch} {e : Env} {s : State} {m : MethodId} {args : Array Value} {below : List Frame} {meth : Method} {c : Code} {D : wD} {cy : Nat → ClassId} {X : va_W} {A : Nat → Prop} {S0 : wS} {post : Int64 → wS → Prop} (F : CallFix p m c cX8_pawnAims 10 s args wz_X8_pawnAims RX8) (hr : meth.sig.returnType = (some .long)) (hlocks : meth.locks = false) (hK : wK D cy A s) : ∀ {S : wS} {H : Heap} {locs : List Loc} {ls : Array Slot} {a0 : Nat} {a1 : Nat} {x2 : Int32} {x3 : Int32} {x4 : Int32} {x5 : Int64} {x7 : Int32} {t0 : Int32}, wp_X8_pawnAims_104 D post S a0 a1 x2 x3 x4 x5 x7 t0 → wO D cy X A s.heap S H locs → wX D S0 S → lv_has ls 10 [(0, .ref a0), (1, .ref a1), (2, .int x2), (3, .int x3), (4, .int x4), (5, .long x5), (7, .int x7)] → wM D S a0 → sK S a0 = 13 → wM D S a1 → sK S a1 = 12 → W p l e r_X8_pawnAims s m args below meth c H locs 0 0 (MQ below (va_Ql (fun r S9 => wX D S0 S9 ∧ post r S9) (wB D cy X A) A) args s 0 0 A) (F0 m 104 ls [.int t0]) := by
  obtain ⟨hx, hb, hml, hown, hts⟩ := id F
  have hwg : ∀ w ∈ WG, w.before args s = true := fun w h => hts w (List.mem_cons_of_mem _ h)
  have i_13 : ∀ w ∈ u_ws RX8 TX8 6, w ∈ wz_X8_pawnAims := fun w h => List.mem_cons_of_mem _ (wu_13 w h)
  have i_5 : ∀ w ∈ u_ws RX0 TX0 12, w ∈ wz_X8_pawnAims := fun w h => List.mem_cons_of_mem _ (wu_5 w h)
  have k_15 := hwg _ wf_RX8_15
  have k_29 := hwg _ wf_RX8_29
  intro S H locs ls a0 a1 x2 x3 x4 x5 x7 t0 hp hW hE hl hL_a0 hK_a0 hL_a1 hK_a1
  unfold wp_X8_pawnAims_104 at hp
  refine lv_istore (lv' := [(8, .int t0), (0, .ref a0), (1, .ref a1), (2, .int x2), (3, .int x3), (4, .int x4), (5, .long x5), (7, .int x7)]) hx hb dX8_pawnAims_104 hl (by decide) rfl (fun ls hl => ?_)
  refine lv_iload hx hb dX8_pawnAims_106 (lv_at hl 0 rfl) ?_
  refine lv_if_eq (tgt := 150) hx hb dX8_pawnAims_108 (by decide) (fun c_1 => ?_) (fun c_1 => ?_)
  · replace hp := hp.1 c_1
    exact t_X8_pawnAims_150 F hr hlocks hK hp hW hE (lv_sub hl [1, 2, 3, 4, 6] rfl) hL_a0 hK_a0 hL_a1 hK_a1
  · replace hp := hp.2 c_1
    refine lv_aload_n hx hb dX8_pawnAims_111 rfl (lv_at hl 1 rfl) ?_
    obtain ⟨y_2, ey_2, hL_y_2, hK_y_2, hp⟩ := hp
    refine w_get (k := 13) (f := 0) (T := TX8) (v := .ref y_2) F hK hW hL_a0 hK_a0 (by decide) rfl rfl (by decide) i_13 k_29 (by rw [show wv 13 0 S a0 = va_rf (sR S a0 0) from rfl, ey_2]; rfl) dX8_pawnAims_112 ?_
    refine w_getN (k := 5) (f := 1) (T := TX0) (v := .int (sI S y_2 1)) F hK hW hL_y_2 hK_y_2 (by decide) rfl rfl (by decide) i_5 (hK.2.1 (.fieldLinkNest "OpeningsCabinet$Rules" 120 "OpeningsCabinet$Board" "ranks" "I" "OpeningsCabinet") (by decide +kernel)) rfl dX8_pawnAims_115 ?_
    refine lv_bipush (v := 6) hx hb dX8_pawnAims_118 (by decide) ?_
    refine lv_icmp_lt (tgt := 150) hx hb dX8_pawnAims_120 (by decide) (fun c_3 => ?_) (fun c_3 => ?_)
    · replace hp := hp.1 c_3
      exact t_X8_pawnAims_150 F hr hlocks hK hp hW hE (lv_sub hl [1, 2, 3, 4, 6] rfl) hL_a0 hK_a0 hL_a1 hK_a1
    · replace hp := hp.2 c_3
      refine lv_aload_n hx hb dX8_pawnAims_123 rfl (lv_at hl 1 rfl) ?_
      refine w_get (k := 13) (f := 2) (T := TX8) (v := .long (sJ S a0 2)) F hK hW hL_a0 hK_a0 (by decide) rfl rfl (by decide) i_13 k_15 rfl dX8_pawnAims_124 ?_
      refine lv_iload hx hb dX8_pawnAims_127 (lv_at hl 7 rfl) ?_
      refine lv_iload hx hb dX8_pawnAims_129 (lv_at hl 5 rfl) ?_
      refine lv_iadd hx hb dX8_pawnAims_131 ?_
      refine w_callI (va_runSN (As := [.long (sJ S a0 2), .int (x7 + x4)]) (rest := []) F (c_X11_contains l hp H.size) ⟨va_cnB (host := "OpeningsCabinet") 2 hts (wg_cons wy_X11_contains.2.2) rfl rfl rfl (hK.2.1 (.methodLinkNest "OpeningsCabinet$Rules" 68 ⟨"OpeningsCabinet", "contains", "(JI)Z"⟩ "OpeningsCabinet") (by decide +kernel)) (hwg _ wy_X11_contains.2.1) ⟨by decide, by decide, by decide +kernel⟩ ⟨Nat.le_of_ble_eq_true rfl, Nat.le_of_ble_eq_true rfl⟩, hwg _ wy_X11_contains.1, trivial⟩ (w_preS hK hW) rfl rfl hl.1 rfl (lv_room (Nat.le_of_ble_eq_true rfl)) dX8_pawnAims_132 ⟨Nat.le_of_ble_eq_true rfl, Nat.le_of_ble_eq_true rfl⟩) hW (fun r_4 S_5 H locs hp hW => ?_)
      obtain ⟨hX_S_5, hp⟩ := hp
      refine W.widen (k := 0) (n := 0) (by decide) (by decide) ?_
      have hE := hE.trans hX_S_5
      have hK_a0 : sK S_5 a0 = 13 := (hX_S_5.2 a0 hL_a0).1.trans hK_a0
      have hL_a0 : wM D S_5 a0 := hX_S_5.M hL_a0
      have hK_a1 : sK S_5 a1 = 12 := (hX_S_5.2 a1 hL_a1).1.trans hK_a1
      have hL_a1 : wM D S_5 a1 := hX_S_5.M hL_a1
      refine lv_if_ne (tgt := 150) hx hb dX8_pawnAims_135 (by decide) (fun c_6 => ?_) (fun c_6 => ?_)
      · replace hp := hp.1 c_6
        exact t_X8_pawnAims_150 F hr hlocks hK hp hW hE (lv_sub hl [1, 2, 3, 4, 6] rfl) hL_a0 hK_a0 hL_a1 hK_a1
      · replace hp := hp.2 c_6
        refine lv_lload hx hb dX8_pawnAims_138 (lv_at hl 6 rfl) ?_
        refine lv_lconst (v := 1) hx hb dX8_pawnAims_140 (by decide) ?_
        refine lv_iload hx hb dX8_pawnAims_141 (lv_at hl 7 rfl) ?_
        refine lv_iload hx hb dX8_pawnAims_143 (lv_at hl 5 rfl) ?_
        refine lv_iadd hx hb dX8_pawnAims_145 ?_
        refine lv_lshl (v := (jlshl (1 : Int64) (x7 + x4))) hx hb dX8_pawnAims_146 rfl ?_
        refine lv_lor hx hb dX8_pawnAims_147 ?_
        refine lv_topl (fun x_7 ex_7 => ?_)
        replace hp := hp x_7 ex_7
        refine lv_lstore (lv' := [(5, .long x_7), (8, .int t0), (0, .ref a0), (1, .ref a1), (2, .int x2), (3, .int x3), (4, .int x4), (7, .int x7)]) hx hb dX8_pawnAims_148 hl (by decide) rfl (fun ls hl => ?_)
        exact t_X8_pawnAims_150 F hr hlocks hK hp hW hE (lv_sub hl [2, 3, 4, 5, 0] rfl) hL_a0 hK_a0 hL_a1 hK_a1
set_option maxHeartbeats 4000000 in
set_option maxRecDepth 100000 in
theorem t_X8_pawnAims_96 {p : Program} {l : Launch} {e : Env} {s : State} {m : MethodId} {args : Array Value} {below : List Frame} {meth : Method} {c : Code} {D : wD} {cy : Nat → ClassId} {X : va_W} {A : Nat → Prop} {S0 : wS} {post : Int64 → wS → Prop} (F : CallFix p m c cX8_pawnAims 10 s args wz_X8_pawnAims RX8) (hr : meth.sig.returnType = (some .long)) (hlocks : meth.locks = false) (hK : wK D cy A s) : ∀ {S : wS} {H : Heap} {locs : List Loc} {ls : Array Slot} {a0 : Nat} {a1 : Nat} {x2 : Int32} {x3 : Int32} {x4 : Int32} {x5 : Int64} {x7 : Int32} {t0 : Int32} {t1 : Int32}, wp_X8_pawnAims_96 D post S a0 a1 x2 x3 x4 x5 x7 t0 t1 → wO D cy X A s.heap S H locs → wX D S0 S → lv_has ls 10 [(0, .ref a0), (1, .ref a1), (2, .int x2), (3, .int x3), (4, .int x4), (5, .long x5), (7, .int x7)] → wM D S a0 → sK S a0 = 13 → wM D S a1 → sK S a1 = 12 → W p l e r_X8_pawnAims s m args below meth c H locs 0 0 (MQ below (va_Ql (fun r S9 => wX D S0 S9 ∧ post r S9) (wB D cy X A) A) args s 0 0 A) (F0 m 96 ls [.int t1, .int t0]) := by
  obtain ⟨hx, hb, hml, hown, hts⟩ := id F
  have hwg : ∀ w ∈ WG, w.before args s = true := fun w h => hts w (List.mem_cons_of_mem _ h)
  intro S H locs ls a0 a1 x2 x3 x4 x5 x7 t0 t1 hp hW hE hl hL_a0 hK_a0 hL_a1 hK_a1
  unfold wp_X8_pawnAims_96 at hp
  refine lv_icmp_ne (tgt := 103) hx hb dX8_pawnAims_96 (by decide) (fun c_1 => ?_) (fun c_1 => ?_)
  · replace hp := hp.1 c_1
    refine lv_iconst (v := 0) hx hb dX8_pawnAims_103 (by decide) ?_
    exact t_X8_pawnAims_104 F hr hlocks hK hp hW hE (lv_sub hl [0, 1, 2, 3, 4, 5, 6] rfl) hL_a0 hK_a0 hL_a1 hK_a1
  · replace hp := hp.2 c_1
    refine lv_iconst (v := 1) hx hb dX8_pawnAims_99 (by decide) ?_
    refine lv_goto (tgt := 104) hx hb dX8_pawnAims_100 (by decide) ?_
    exact t_X8_pawnAims_104 F hr hlocks hK hp hW hE (lv_sub hl [0, 1, 2, 3, 4, 5, 6] rfl) hL_a0 hK_a0 hL_a1 hK_a1
set_option maxHeartbeats 4000000 in
set_option maxRecDepth 100000 in
theorem t_X8_pawnAims_27 {p : Program} {l : Launch} {e : Env} {s : State} {m : MethodId} {args : Array Value} {below : List Frame} {meth : Method} {c : Code} {D : wD} {cy : Nat → ClassId} {X : va_W} {A : Nat → Prop} {S0 : wS} {post : Int64 → wS → Prop} (F : CallFix p m c cX8_pawnAims 10 s args wz_X8_pawnAims RX8) (hr : meth.sig.returnType = (some .long)) (hlocks : meth.locks = false) (hK : wK D cy A s) : ∀ {S : wS} {H : Heap} {locs : List Loc} {ls : Array Slot} {a0 : Nat} {a1 : Nat} {x2 : Int32} {x3 : Int32} {t0 : Int32}, wp_X8_pawnAims_27 D post S a0 a1 x2 x3 t0 → wO D cy X A s.heap S H locs → wX D S0 S → lv_has ls 10 [(0, .ref a0), (1, .ref a1), (2, .int x2), (3, .int x3)] → wM D S a0 → sK S a0 = 13 → wM D S a1 → sK S a1 = 12 → W p l e r_X8_pawnAims s m args below meth c H locs 0 0 (MQ below (va_Ql (fun r S9 => wX D S0 S9 ∧ post r S9) (wB D cy X A) A) args s 0 0 A) (F0 m 27 ls [.int t0]) := by
  obtain ⟨hx, hb, hml, hown, hts⟩ := id F
  have hwg : ∀ w ∈ WG, w.before args s = true := fun w h => hts w (List.mem_cons_of_mem _ h)
  have i_13 : ∀ w ∈ u_ws RX8 TX8 6, w ∈ wz_X8_pawnAims := fun w h => List.mem_cons_of_mem _ (wu_13 w h)
  have i_5 : ∀ w ∈ u_ws RX0 TX0 12, w ∈ wz_X8_pawnAims := fun w h => List.mem_cons_of_mem _ (wu_5 w h)
  have k_15 := hwg _ wf_RX8_15
  have k_29 := hwg _ wf_RX8_29
  intro S H locs ls a0 a1 x2 x3 t0 hp hW hE hl hL_a0 hK_a0 hL_a1 hK_a1
  unfold wp_X8_pawnAims_27 at hp
  refine lv_istore (lv' := [(4, .int t0), (0, .ref a0), (1, .ref a1), (2, .int x2), (3, .int x3)]) hx hb dX8_pawnAims_27 hl (by decide) rfl (fun ls hl => ?_)
  refine lv_lconst (v := 0) hx hb dX8_pawnAims_29 (by decide) ?_
  refine lv_lstore (lv' := [(5, .long (0 : Int64)), (4, .int t0), (0, .ref a0), (1, .ref a1), (2, .int x2), (3, .int x3)]) hx hb dX8_pawnAims_30 hl (by decide) rfl (fun ls hl => ?_)
  refine lv_iload_n hx hb dX8_pawnAims_32 rfl (lv_at hl 4 rfl) ?_
  refine lv_iload hx hb dX8_pawnAims_33 (lv_at hl 1 rfl) ?_
  refine lv_iadd hx hb dX8_pawnAims_35 ?_
  refine lv_topi (fun x_1 ex_1 => ?_)
  replace hp := hp x_1 ex_1
  refine lv_istore (lv' := [(7, .int x_1), (5, .long (0 : Int64)), (4, .int t0), (0, .ref a0), (1, .ref a1), (2, .int x2), (3, .int x3)]) hx hb dX8_pawnAims_36 hl (by decide) rfl (fun ls hl => ?_)
  refine lv_aload_n hx hb dX8_pawnAims_38 rfl (lv_at hl 3 rfl) ?_
  obtain ⟨y_2, ey_2, hL_y_2, hK_y_2, hp⟩ := hp
  refine w_get (k := 13) (f := 0) (T := TX8) (v := .ref y_2) F hK hW hL_a0 hK_a0 (by decide) rfl rfl (by decide) i_13 k_29 (by rw [show wv 13 0 S a0 = va_rf (sR S a0 0) from rfl, ey_2]; rfl) dX8_pawnAims_39 ?_
  refine lv_iload hx hb dX8_pawnAims_42 (lv_at hl 0 rfl) ?_
  refine w_callI (va_runV (As := [.int x_1]) (rest := []) F (c_X0_has l hL_y_2 hK_y_2 hp H.size) (cwV (C := RX0) 1 hts (wg_V wm_RX8_113 wy_X0_has) rfl rfl rfl (by decide +kernel) ⟨Nat.le_of_ble_eq_true rfl, Nat.le_of_ble_eq_true rfl⟩) (w_preV hK hW hL_y_2 hK_y_2 (by decide) rfl) rfl rfl hl.1 rfl (lv_room (Nat.le_of_ble_eq_true rfl)) dX8_pawnAims_44 ⟨Nat.le_of_ble_eq_true rfl, Nat.le_of_ble_eq_true rfl⟩) hW (fun r_3 S_4 H locs hp hW => ?_)
  obtain ⟨hX_S_4, hp⟩ := hp
  refine W.widen (k := 0) (n := 0) (by decide) (by decide) ?_
  have hE := hE.trans hX_S_4
  have hK_a0 : sK S_4 a0 = 13 := (hX_S_4.2 a0 hL_a0).1.trans hK_a0
  have hL_a0 : wM D S_4 a0 := hX_S_4.M hL_a0
  have hK_a1 : sK S_4 a1 = 12 := (hX_S_4.2 a1 hL_a1).1.trans hK_a1
  have hL_a1 : wM D S_4 a1 := hX_S_4.M hL_a1
  refine lv_if_eq (tgt := 150) hx hb dX8_pawnAims_47 (by decide) (fun c_5 => ?_) (fun c_5 => ?_)
  · replace hp := hp.1 c_5
    exact t_X8_pawnAims_150 F hr hlocks hK hp hW hE (lv_sub hl [3, 4, 5, 6, 1] rfl) hL_a0 hK_a0 hL_a1 hK_a1
  · replace hp := hp.2 c_5
    refine lv_aload_n hx hb dX8_pawnAims_50 rfl (lv_at hl 3 rfl) ?_
    refine w_get (k := 13) (f := 2) (T := TX8) (v := .long (sJ S_4 a0 2)) F hK hW hL_a0 hK_a0 (by decide) rfl rfl (by decide) i_13 k_15 rfl dX8_pawnAims_51 ?_
    refine lv_iload hx hb dX8_pawnAims_54 (lv_at hl 0 rfl) ?_
    refine w_callI (va_runSN (As := [.long (sJ S_4 a0 2), .int x_1]) (rest := []) F (c_X11_contains l hp H.size) ⟨va_cnB (host := "OpeningsCabinet") 2 hts (wg_cons wy_X11_contains.2.2) rfl rfl rfl (hK.2.1 (.methodLinkNest "OpeningsCabinet$Rules" 68 ⟨"OpeningsCabinet", "contains", "(JI)Z"⟩ "OpeningsCabinet") (by decide +kernel)) (hwg _ wy_X11_contains.2.1) ⟨by decide, by decide, by decide +kernel⟩ ⟨Nat.le_of_ble_eq_true rfl, Nat.le_of_ble_eq_true rfl⟩, hwg _ wy_X11_contains.1, trivial⟩ (w_preS hK hW) rfl rfl hl.1 rfl (lv_room (Nat.le_of_ble_eq_true rfl)) dX8_pawnAims_56 ⟨Nat.le_of_ble_eq_true rfl, Nat.le_of_ble_eq_true rfl⟩) hW (fun r_6 S_7 H locs hp hW => ?_)
    obtain ⟨hX_S_7, hp⟩ := hp
    refine W.widen (k := 0) (n := 0) (by decide) (by decide) ?_
    have hE := hE.trans hX_S_7
    have hK_a0 : sK S_7 a0 = 13 := (hX_S_7.2 a0 hL_a0).1.trans hK_a0
    have hL_a0 : wM D S_7 a0 := hX_S_7.M hL_a0
    have hK_a1 : sK S_7 a1 = 12 := (hX_S_7.2 a1 hL_a1).1.trans hK_a1
    have hL_a1 : wM D S_7 a1 := hX_S_7.M hL_a1
    refine lv_if_ne (tgt := 150) hx hb dX8_pawnAims_59 (by decide) (fun c_8 => ?_) (fun c_8 => ?_)
    · replace hp := hp.1 c_8
      exact t_X8_pawnAims_150 F hr hlocks hK hp hW hE (lv_sub hl [3, 4, 5, 6, 1] rfl) hL_a0 hK_a0 hL_a1 hK_a1
    · replace hp := hp.2 c_8
      refine lv_lload hx hb dX8_pawnAims_62 (lv_at hl 1 rfl) ?_
      refine lv_lconst (v := 1) hx hb dX8_pawnAims_64 (by decide) ?_
      refine lv_iload hx hb dX8_pawnAims_65 (lv_at hl 0 rfl) ?_
      refine lv_lshl (v := (jlshl (1 : Int64) x_1)) hx hb dX8_pawnAims_67 rfl ?_
      refine lv_lor hx hb dX8_pawnAims_68 ?_
      refine lv_topl (fun x_9 ex_9 => ?_)
      replace hp := hp x_9 ex_9
      refine lv_lstore (lv' := [(5, .long x_9), (7, .int x_1), (4, .int t0), (0, .ref a0), (1, .ref a1), (2, .int x2), (3, .int x3)]) hx hb dX8_pawnAims_69 hl (by decide) rfl (fun ls hl => ?_)
      refine lv_aload_n hx hb dX8_pawnAims_71 rfl (lv_at hl 3 rfl) ?_
      obtain ⟨y_10, ey_10, hL_y_10, hK_y_10, hp⟩ := hp
      refine w_get (k := 13) (f := 0) (T := TX8) (v := .ref y_10) F hK hW hL_a0 hK_a0 (by decide) rfl rfl (by decide) i_13 k_29 (by rw [show wv 13 0 S_7 a0 = va_rf (sR S_7 a0 0) from rfl, ey_10]; rfl) dX8_pawnAims_72 ?_
      refine lv_iload_n hx hb dX8_pawnAims_75 rfl (lv_at hl 5 rfl) ?_
      refine w_callI (va_runV (As := [.int x2]) (rest := []) F (c_X0_rankAt l hL_y_10 hK_y_10 hp H.size) (cwV (C := RX0) 1 hts (wg_V wm_RX8_117 wy_X0_rankAt) rfl rfl rfl (by decide +kernel) ⟨Nat.le_of_ble_eq_true rfl, Nat.le_of_ble_eq_true rfl⟩) (w_preV hK hW hL_y_10 hK_y_10 (by decide) rfl) rfl rfl hl.1 rfl (lv_room (Nat.le_of_ble_eq_true rfl)) dX8_pawnAims_76 ⟨Nat.le_of_ble_eq_true rfl, Nat.le_of_ble_eq_true rfl⟩) hW (fun r_11 S_12 H locs hp hW => ?_)
      obtain ⟨hX_S_12, hp⟩ := hp
      refine W.widen (k := 0) (n := 0) (by decide) (by decide) ?_
      have hE := hE.trans hX_S_12
      have hK_a0 : sK S_12 a0 = 13 := (hX_S_12.2 a0 hL_a0).1.trans hK_a0
      have hL_a0 : wM D S_12 a0 := hX_S_12.M hL_a0
      have hK_a1 : sK S_12 a1 = 12 := (hX_S_12.2 a1 hL_a1).1.trans hK_a1
      have hL_a1 : wM D S_12 a1 := hX_S_12.M hL_a1
      refine lv_iload_n hx hb dX8_pawnAims_79 rfl (lv_at hl 6 rfl) ?_
      refine lv_if_eq (tgt := 87) hx hb dX8_pawnAims_80 (by decide) (fun c_13 => ?_) (fun c_13 => ?_)
      · replace hp := hp.1 c_13
        refine lv_aload_n hx hb dX8_pawnAims_87 rfl (lv_at hl 3 rfl) ?_
        obtain ⟨y_14, ey_14, hL_y_14, hK_y_14, hp⟩ := hp
        refine w_get (k := 13) (f := 0) (T := TX8) (v := .ref y_14) F hK hW hL_a0 hK_a0 (by decide) rfl rfl (by decide) i_13 k_29 (by rw [show wv 13 0 S_12 a0 = va_rf (sR S_12 a0 0) from rfl, ey_14]; rfl) dX8_pawnAims_88 ?_
        refine w_getN (k := 5) (f := 1) (T := TX0) (v := .int (sI S_12 y_14 1)) F hK hW hL_y_14 hK_y_14 (by decide) rfl rfl (by decide) i_5 (hK.2.1 (.fieldLinkNest "OpeningsCabinet$Rules" 120 "OpeningsCabinet$Board" "ranks" "I" "OpeningsCabinet") (by decide +kernel)) rfl dX8_pawnAims_91 ?_
        refine lv_iconst (v := 2) hx hb dX8_pawnAims_94 (by decide) ?_
        refine lv_isub hx hb dX8_pawnAims_95 ?_
        exact t_X8_pawnAims_96 F hr hlocks hK hp hW hE (lv_sub hl [3, 4, 5, 6, 2, 0, 1] rfl) hL_a0 hK_a0 hL_a1 hK_a1
      · replace hp := hp.2 c_13
        refine lv_iconst (v := 1) hx hb dX8_pawnAims_83 (by decide) ?_
        refine lv_goto (tgt := 96) hx hb dX8_pawnAims_84 (by decide) ?_
        exact t_X8_pawnAims_96 F hr hlocks hK hp hW hE (lv_sub hl [3, 4, 5, 6, 2, 0, 1] rfl) hL_a0 hK_a0 hL_a1 hK_a1
set_option maxHeartbeats 4000000 in
set_option maxRecDepth 100000 in
theorem t_X8_pawnAims_0 {p : Program} {l : Launch} {e : Env} {s : State} {m : MethodId} {args : Array Value} {below : List Frame} {meth : Method} {c : Code} {D : wD} {cy : Nat → ClassId} {X : va_W} {A : Nat → Prop} {S0 : wS} {post : Int64 → wS → Prop} (F : CallFix p m c cX8_pawnAims 10 s args wz_X8_pawnAims RX8) (hr : meth.sig.returnType = (some .long)) (hlocks : meth.locks = false) (hK : wK D cy A s) : ∀ {S : wS} {H : Heap} {locs : List Loc} {ls : Array Slot} {a0 : Nat} {a1 : Nat} {x2 : Int32}, wp_X8_pawnAims_0 D post S a0 a1 x2 → wO D cy X A s.heap S H locs → wX D S0 S → lv_has ls 10 [(0, .ref a0), (1, .ref a1), (2, .int x2)] → wM D S a0 → sK S a0 = 13 → wM D S a1 → sK S a1 = 12 → W p l e r_X8_pawnAims s m args below meth c H locs 0 0 (MQ below (va_Ql (fun r S9 => wX D S0 S9 ∧ post r S9) (wB D cy X A) A) args s 0 0 A) (F0 m 0 ls []) := by
  obtain ⟨hx, hb, hml, hown, hts⟩ := id F
  have hwg : ∀ w ∈ WG, w.before args s = true := fun w h => hts w (List.mem_cons_of_mem _ h)
  have i_12 : ∀ w ∈ u_ws RX7 TX7 8, w ∈ wz_X8_pawnAims := fun w h => List.mem_cons_of_mem _ (wu_12 w h)
  have i_13 : ∀ w ∈ u_ws RX8 TX8 6, w ∈ wz_X8_pawnAims := fun w h => List.mem_cons_of_mem _ (wu_13 w h)
  have i_5 : ∀ w ∈ u_ws RX0 TX0 12, w ∈ wz_X8_pawnAims := fun w h => List.mem_cons_of_mem _ (wu_5 w h)
  have k_29 := hwg _ wf_RX8_29
  intro S H locs ls a0 a1 x2 hp hW hE hl hL_a0 hK_a0 hL_a1 hK_a1
  unfold wp_X8_pawnAims_0 at hp
  refine lv_aload_n hx hb dX8_pawnAims_0 rfl (lv_at hl 1 rfl) ?_
  refine w_getN (k := 12) (f := 5) (T := TX7) (v := .int (sI S a1 5)) F hK hW hL_a1 hK_a1 (by decide) rfl rfl (by decide) i_12 (hK.2.1 (.fieldLinkNest "OpeningsCabinet$Rules" 33 "OpeningsCabinet$Position" "isWhite" "Z" "OpeningsCabinet") (by decide +kernel)) rfl dX8_pawnAims_1 ?_
  refine lv_topi (fun x_1 ex_1 => ?_)
  replace hp := hp x_1 ex_1
  refine lv_istore_n (lv' := [(3, .int x_1), (0, .ref a0), (1, .ref a1), (2, .int x2)]) hx hb dX8_pawnAims_4 rfl hl (by decide) rfl (fun ls hl => ?_)
  refine lv_iload_n hx hb dX8_pawnAims_5 rfl (lv_at hl 0 rfl) ?_
  refine lv_if_eq (tgt := 19) hx hb dX8_pawnAims_6 (by decide) (fun c_2 => ?_) (fun c_2 => ?_)
  · replace hp := hp.1 c_2
    refine lv_aload_n hx hb dX8_pawnAims_19 rfl (lv_at hl 1 rfl) ?_
    obtain ⟨y_3, ey_3, hL_y_3, hK_y_3, hp⟩ := hp
    refine w_get (k := 13) (f := 0) (T := TX8) (v := .ref y_3) F hK hW hL_a0 hK_a0 (by decide) rfl rfl (by decide) i_13 k_29 (by rw [show wv 13 0 S a0 = va_rf (sR S a0 0) from rfl, ey_3]; rfl) dX8_pawnAims_20 ?_
    refine w_getN (k := 5) (f := 0) (T := TX0) (v := .int (sI S y_3 0)) F hK hW hL_y_3 hK_y_3 (by decide) rfl rfl (by decide) i_5 (hK.2.1 (.fieldLinkNest "OpeningsCabinet$Rules" 110 "OpeningsCabinet$Board" "files" "I" "OpeningsCabinet") (by decide +kernel)) rfl dX8_pawnAims_23 ?_
    refine lv_ineg hx hb dX8_pawnAims_26 ?_
    exact t_X8_pawnAims_27 F hr hlocks hK hp hW hE (lv_sub hl [1, 2, 3, 0] rfl) hL_a0 hK_a0 hL_a1 hK_a1
  · replace hp := hp.2 c_2
    refine lv_aload_n hx hb dX8_pawnAims_9 rfl (lv_at hl 1 rfl) ?_
    obtain ⟨y_4, ey_4, hL_y_4, hK_y_4, hp⟩ := hp
    refine w_get (k := 13) (f := 0) (T := TX8) (v := .ref y_4) F hK hW hL_a0 hK_a0 (by decide) rfl rfl (by decide) i_13 k_29 (by rw [show wv 13 0 S a0 = va_rf (sR S a0 0) from rfl, ey_4]; rfl) dX8_pawnAims_10 ?_
    refine w_getN (k := 5) (f := 0) (T := TX0) (v := .int (sI S y_4 0)) F hK hW hL_y_4 hK_y_4 (by decide) rfl rfl (by decide) i_5 (hK.2.1 (.fieldLinkNest "OpeningsCabinet$Rules" 110 "OpeningsCabinet$Board" "files" "I" "OpeningsCabinet") (by decide +kernel)) rfl dX8_pawnAims_13 ?_
    refine lv_goto (tgt := 27) hx hb dX8_pawnAims_16 (by decide) ?_
    exact t_X8_pawnAims_27 F hr hlocks hK hp hW hE (lv_sub hl [1, 2, 3, 0] rfl) hL_a0 hK_a0 hL_a1 hK_a1
set_option maxHeartbeats 4000000 in
set_option maxRecDepth 100000 in
theorem c_X8_pawnAims (l : Launch) {D : wD} {cy : Nat → ClassId} {X : va_W} {S0 : wS} {post : Int64 → wS → Prop} {a0 : Nat} {a1 : Nat} {x2 : Int32} (hL_a0 : wM D S0 a0) (hK_a0 : sK S0 a0 = 13) (hL_a1 : wM D S0 a1) (hK_a1 : sK S0 a1 = 12) (hp : wp_X8_pawnAims D post S0 a0 a1 x2) : mJ D cy X l yX8_pawnAims wz_X8_pawnAims r_X8_pawnAims [.ref a0, .ref a1, .int x2] S0 (fun r S9 => wX D S0 S9 ∧ post r S9) := by
  intro sz
  refine Met.ofW (cc := cX8_pawnAims) (maxL := 10) (ret := (some .long)) (by decide) rfl ?_
  intro p e s m args below meth c s₁ B hml hv
  obtain ⟨rfl, hsz, hP, hK, hD0, hRO⟩ := hv
  have hts := atoms_spec (ws := wz_X8_pawnAims) B.pre
  have hown : s.vm.findClass RX8 = some m.cls := findClass_of_methodNamed B.named
  subst hsz
  have hD := hD0.self (sz := s.heap.size)
  have F : CallFix p m c cX8_pawnAims 10 s _ wz_X8_pawnAims RX8 := ⟨B.exec, B.bytes, hml, hown, hts⟩
  have hr := B.returns
  have hlocks := B.notSynchronized
  generalize hAe : va_A (wL cy X S0) s.heap.size = A at hD hK ⊢
  have hA : ∀ q, s.heap.size ≤ q → A q := fun q h => by rw [← hAe]; exact Or.inr h
  have hW : wO D cy X A s.heap S0 s.heap [] := ⟨hP, hD, va_S.rf, hA, hRO⟩
  have hl := lv_entry ([.ref a0, .ref a1, .int x2]) (n := 10) (Nat.le_of_ble_eq_true rfl)
  rw [lg_entry_eq]
  generalize (lg_sl ([.ref a0, .ref a1, .int x2]) ++ List.replicate (10 - (lg_sl ([.ref a0, .ref a1, .int x2])).length) Slot.unset).toArray = ls at hl ⊢
  have hl : lv_has ls 10 [(0, .ref a0), (1, .ref a1), (2, .int x2)] := hl
  unfold wp_X8_pawnAims at hp
  exact t_X8_pawnAims_0 F hr hlocks hK hp hW wX.rf (lv_sub hl [0, 1, 2] rfl) hL_a0 hK_a0 hL_a1 hK_a1
def wp_X8_targets_294 (D : wD) (post : Int64 → wS → Prop)  (S : wS) (x8 : Int64) : Prop :=
post x8 S
def wp_X8_targets_288 (D : wD) (post : Int64 → wS → Prop) (k_118 : wS → Nat → Nat → Int32 → Int32 → Int32 → Int64 → Int64 → Int32 → Prop) (S : wS) (a0 : Nat) (a1 : Nat) (x2 : Int32) (x3 : Int32) (x7 : Int32) (x8 : Int64) (x10 : Int64) (x12 : Int32) : Prop :=
∀ x_1 : Int32, x_1 = x12 + 1 →
k_118 S a0 a1 x2 x3 x7 x8 x10 x_1
def wp_X8_targets_262 (D : wD) (post : Int64 → wS → Prop) (k_118 : wS → Nat → Nat → Int32 → Int32 → Int32 → Int64 → Int64 → Int32 → Prop) (S : wS) (a0 : Nat) (a1 : Nat) (x2 : Int32) (x3 : Int32) (x7 : Int32) (x8 : Int64) (x10 : Int64) (x12 : Int32) (x13 : Int32) (x14 : Int64) (x16 : Int64) (b0 : Nat) (t1 : Int32) (t2 : Int32) : Prop :=
wp_X7_attackers D (fun r_1 S_2 => 
((¬ (lg_cmp (r_1 &&& (x14 ^^^ (-1 : Int64))) (0 : Int64)) = 0 → wp_X8_targets_288 D post k_118 S_2 a0 a1 x2 x3 x7 x8 x10 x12) ∧
 ((lg_cmp (r_1 &&& (x14 ^^^ (-1 : Int64))) (0 : Int64)) = 0 → ∀ x_4 : Int64, x_4 = (x8 ||| (jlshl (1 : Int64) x13)) →
wp_X8_targets_288 D post k_118 S_2 a0 a1 x2 x3 x7 x_4 x10 x12))) S b0 t1 t2 x16
def wp_X8_targets_245 (D : wD) (post : Int64 → wS → Prop) (k_118 : wS → Nat → Nat → Int32 → Int32 → Int32 → Int64 → Int64 → Int32 → Prop) (S : wS) (a0 : Nat) (a1 : Nat) (x2 : Int32) (x3 : Int32) (x7 : Int32) (x8 : Int64) (x10 : Int64) (x12 : Int32) (x13 : Int32) (x14 : Int64) (x16 : Int64) (t0 : Int32) : Prop :=
((¬ (sI S a1 5) = 0 → wp_X8_targets_262 D post k_118 S a0 a1 x2 x3 x7 x8 x10 x12 x13 x14 x16 a1 t0 (0 : Int32)) ∧
 ((sI S a1 5) = 0 → wp_X8_targets_262 D post k_118 S a0 a1 x2 x3 x7 x8 x10 x12 x13 x14 x16 a1 t0 (1 : Int32)))
def wp_X8_targets_205 (D : wD) (post : Int64 → wS → Prop) (k_118 : wS → Nat → Nat → Int32 → Int32 → Int32 → Int64 → Int64 → Int32 → Prop) (S : wS) (a0 : Nat) (a1 : Nat) (x2 : Int32) (x3 : Int32) (x7 : Int32) (x8 : Int64) (x10 : Int64) (x12 : Int32) (x13 : Int32) (x14 : Int64) : Prop :=
∀ x_1 : Int64, x_1 = ((((sJ S a0 2) &&& (x14 ^^^ (-1 : Int64))) &&& ((jlshl (1 : Int64) x2) ^^^ (-1 : Int64))) ||| (jlshl (1 : Int64) x13)) →
((¬ x3 = (1 : Int32) → wp_X8_targets_245 D post k_118 S a0 a1 x2 x3 x7 x8 x10 x12 x13 x14 x_1 (sI S a0 1)) ∧
 (x3 = (1 : Int32) → wp_X8_targets_245 D post k_118 S a0 a1 x2 x3 x7 x8 x10 x12 x13 x14 x_1 x13))
def wp_X8_targets_201 (D : wD) (post : Int64 → wS → Prop) (k_118 : wS → Nat → Nat → Int32 → Int32 → Int32 → Int64 → Int64 → Int32 → Prop) (S : wS) (a0 : Nat) (a1 : Nat) (x2 : Int32) (x3 : Int32) (x7 : Int32) (x8 : Int64) (x10 : Int64) (x12 : Int32) (x13 : Int32) (t0 : Int64) (t1 : Int64) (t2 : Int32) : Prop :=
∀ x_1 : Int64, x_1 = (t0 ||| (jlshl t1 t2)) →
wp_X8_targets_205 D post k_118 S a0 a1 x2 x3 x7 x8 x10 x12 x13 x_1
def wp_X8_targets_118 (D : wD) (post : Int64 → wS → Prop)  : Nat → wS → Nat → Nat → Int32 → Int32 → Int32 → Int64 → Int64 → Int32 → Prop
  | 0, _, _, _, _, _, _, _, _, _ => False
  | n + 1, S, a0, a1, x2, x3, x7, x8, x10, x12 =>
    (((64 : Int32) ≤ x12 → wp_X8_targets_294 D post S x8) ∧
     (¬ (64 : Int32) ≤ x12 → (((lg_cmp x10 (0 : Int64)) = 0 → wp_X8_targets_294 D post S x8) ∧
     (¬ (lg_cmp x10 (0 : Int64)) = 0 → wp_X11_lowest D (fun r_3 S_4 => 
    ∀ x_5 : Int64, x_5 = (x10 &&& (x10 - (1 : Int64))) →
    ∀ x_6 : Int64, x_6 = (jlshl (1 : Int64) r_3) →
    ((x7 = 0 → wp_X8_targets_205 D post (wp_X8_targets_118 D post n) S_4 a0 a1 x2 x3 x7 x8 x_5 x12 r_3 x_6) ∧
     (¬ x7 = 0 → ((¬ r_3 = (sI S_4 a1 7) → wp_X8_targets_205 D post (wp_X8_targets_118 D post n) S_4 a0 a1 x2 x3 x7 x8 x_5 x12 r_3 x_6) ∧
     (r_3 = (sI S_4 a1 7) → (((sI S_4 a1 5) = 0 → ∃ y_10 : Nat, sR S_4 a0 0 = some y_10 ∧ wM D S_4 y_10 ∧ sK S_4 y_10 = 5 ∧
    wp_X8_targets_201 D post (wp_X8_targets_118 D post n) S_4 a0 a1 x2 x3 x7 x8 x_5 x12 r_3 x_6 (1 : Int64) (r_3 + (sI S_4 y_10 0))) ∧
     (¬ (sI S_4 a1 5) = 0 → ∃ y_11 : Nat, sR S_4 a0 0 = some y_11 ∧ wM D S_4 y_11 ∧ sK S_4 y_11 = 5 ∧
    wp_X8_targets_201 D post (wp_X8_targets_118 D post n) S_4 a0 a1 x2 x3 x7 x8 x_5 x12 r_3 x_6 (1 : Int64) (r_3 - (sI S_4 y_11 0))))))))) S x10))))
def wp_X8_targets_108 (D : wD) (post : Int64 → wS → Prop)  (S : wS) (a0 : Nat) (a1 : Nat) (x2 : Int32) (x3 : Int32) (x5 : Int64) (x7 : Int32) : Prop :=
∃ n_1 : Nat, wp_X8_targets_118 D post n_1 S a0 a1 x2 x3 x7 (0 : Int64) x5 (0 : Int32)
def wp_X8_targets_75 (D : wD) (post : Int64 → wS → Prop)  (S : wS) (a0 : Nat) (a1 : Nat) (x2 : Int32) (x3 : Int32) (x5 : Int64) (t0 : Int32) : Prop :=
((¬ (sI S a0 4) = 0 → wp_X8_targets_108 D post S a0 a1 x2 x3 x5 t0) ∧
 ((sI S a0 4) = 0 → ((¬ t0 = 0 → wp_X8_targets_108 D post S a0 a1 x2 x3 x5 t0) ∧
 (t0 = 0 → ((x3 = (1 : Int32) → wp_X8_targets_108 D post S a0 a1 x2 x3 x5 t0) ∧
 (¬ x3 = (1 : Int32) → wp_X11_contains D (fun r_4 S_5 => 
((¬ r_4 = 0 → wp_X8_targets_108 D post S_5 a0 a1 x2 x3 x5 t0) ∧
 (r_4 = 0 → post x5 S_5))) S (sJ S a0 5) x2))))))
def wp_X8_targets_74 (D : wD) (post : Int64 → wS → Prop)  (S : wS) (a0 : Nat) (a1 : Nat) (x2 : Int32) (x3 : Int32) (x5 : Int64) : Prop :=
wp_X8_targets_75 D post S a0 a1 x2 x3 x5 (0 : Int32)
def wp_X8_targets_55 (D : wD) (post : Int64 → wS → Prop)  (S : wS) (a0 : Nat) (a1 : Nat) (x2 : Int32) (x3 : Int32) (x4 : Int32) (t0 : Int64) : Prop :=
((x4 = 0 → wp_X8_targets_74 D post S a0 a1 x2 x3 t0) ∧
 (¬ x4 = 0 → (((sI S a1 7) = (-1 : Int32) → wp_X8_targets_74 D post S a0 a1 x2 x3 t0) ∧
 (¬ (sI S a1 7) = (-1 : Int32) → wp_X8_targets_75 D post S a0 a1 x2 x3 t0 (1 : Int32)))))
def wp_X8_targets_17 (D : wD) (post : Int64 → wS → Prop)  (S : wS) (a0 : Nat) (a1 : Nat) (x2 : Int32) (x3 : Int32) (t0 : Int32) : Prop :=
((t0 = 0 → ∃ y_2 : Nat, sR S a0 0 = some y_2 ∧ wM D S y_2 ∧ sK S y_2 = 5 ∧
wp_X0_reach D (fun r_3 S_4 => 
wp_X8_targets_55 D post S_4 a0 a1 x2 x3 t0 (r_3 &&& ((sJ S_4 a0 3) ^^^ (-1 : Int64)))) S y_2 x3 x2 (sJ S a0 2)) ∧
 (¬ t0 = 0 → wp_X8_pawnAims D (fun r_5 S_6 => 
wp_X8_targets_55 D post S_6 a0 a1 x2 x3 t0 r_5) S a0 a1 x2))
def wp_X8_targets_0 (D : wD) (post : Int64 → wS → Prop)  (S : wS) (a0 : Nat) (a1 : Nat) (x2 : Int32) : Prop :=
wp_X7_kindOn D (fun r_1 S_2 => 
((¬ r_1 = (6 : Int32) → wp_X8_targets_17 D post S_2 a0 a1 x2 r_1 (0 : Int32)) ∧
 (r_1 = (6 : Int32) → wp_X8_targets_17 D post S_2 a0 a1 x2 r_1 (1 : Int32)))) S a1 x2
abbrev r_X8_targets : Room := { frames := 2, cells := 0, slots := 0, locals := 60 }
def wp_X8_targets (D : wD) (post : Int64 → wS → Prop) (S : wS) (a0 : Nat) (a1 : Nat) (x2 : Int32) : Prop := wp_X8_targets_0 D post S a0 a1 x2
set_option maxHeartbeats 4000000 in
set_option maxRecDepth 100000 in
theorem t_X8_targets_294 {p : Program} {l : Launch} {e : Env} {s : State} {m : MethodId} {args : Array Value} {below : List Frame} {meth : Method} {c : Code} {D : wD} {cy : Nat → ClassId} {X : va_W} {A : Nat → Prop} {S0 : wS} {post : Int64 → wS → Prop} (F : CallFix p m c cX8_targets 19 s args wz_X8_targets RX8) (hr : meth.sig.returnType = (some .long)) (hlocks : meth.locks = false) (hK : wK D cy A s) : ∀ {S : wS} {H : Heap} {locs : List Loc} {ls : Array Slot} {x8 : Int64}, wp_X8_targets_294 D post S x8 → wO D cy X A s.heap S H locs → wX D S0 S → lv_has ls 19 [(8, .long x8)] → W p l e r_X8_targets s m args below meth c H locs 0 0 (MQ below (va_Ql (fun r S9 => wX D S0 S9 ∧ post r S9) (wB D cy X A) A) args s 0 0 A) (F0 m 294 ls []) := by
  obtain ⟨hx, hb, hml, hown, hts⟩ := id F
  have hwg : ∀ w ∈ WG, w.before args s = true := fun w h => hts w (List.mem_cons_of_mem _ h)
  intro S H locs ls x8 hp hW hE hl
  unfold wp_X8_targets_294 at hp
  refine lv_lload hx hb dX8_targets_294 (lv_at hl 0 rfl) ?_
  exact w_lret hx hb hr hlocks hW ⟨hE, hp⟩ dX8_targets_296
set_option maxHeartbeats 4000000 in
set_option maxRecDepth 100000 in
theorem t_X8_targets_288 {p : Program} {l : Launch} {e : Env} {s : State} {m : MethodId} {args : Array Value} {below : List Frame} {meth : Method} {c : Code} {D : wD} {cy : Nat → ClassId} {X : va_W} {A : Nat → Prop} {S0 : wS} {post : Int64 → wS → Prop} (F : CallFix p m c cX8_targets 19 s args wz_X8_targets RX8) (hr : meth.sig.returnType = (some .long)) (hlocks : meth.locks = false) (hK : wK D cy A s) {k_118 : wS → Nat → Nat → Int32 → Int32 → Int32 → Int64 → Int64 → Int32 → Prop} (q_118 : ∀ {S : wS} {H : Heap} {locs : List Loc} {ls : Array Slot} {a0 : Nat} {a1 : Nat} {x2 : Int32} {x3 : Int32} {x7 : Int32} {x8 : Int64} {x10 : Int64} {x12 : Int32}, k_118 S a0 a1 x2 x3 x7 x8 x10 x12 → wO D cy X A s.heap S H locs → wX D S0 S → lv_has ls 19 [(0, .ref a0), (1, .ref a1), (2, .int x2), (3, .int x3), (7, .int x7), (8, .long x8), (10, .long x10), (12, .int x12)] → wM D S a0 → sK S a0 = 13 → wM D S a1 → sK S a1 = 12 → W p l e r_X8_targets s m args below meth c H locs 0 0 (MQ below (va_Ql (fun r S9 => wX D S0 S9 ∧ post r S9) (wB D cy X A) A) args s 0 0 A) (F0 m 118 ls [])) : ∀ {S : wS} {H : Heap} {locs : List Loc} {ls : Array Slot} {a0 : Nat} {a1 : Nat} {x2 : Int32} {x3 : Int32} {x7 : Int32} {x8 : Int64} {x10 : Int64} {x12 : Int32}, wp_X8_targets_288 D post k_118 S a0 a1 x2 x3 x7 x8 x10 x12 → wO D cy X A s.heap S H locs → wX D S0 S → lv_has ls 19 [(0, .ref a0), (1, .ref a1), (2, .int x2), (3, .int x3), (7, .int x7), (8, .long x8), (10, .long x10), (12, .int x12)] → wM D S a0 → sK S a0 = 13 → wM D S a1 → sK S a1 = 12 → W p l e r_X8_targets s m args below meth c H locs 0 0 (MQ below (va_Ql (fun r S9 => wX D S0 S9 ∧ post r S9) (wB D cy X A) A) args s 0 0 A) (F0 m 288 ls []) := by
  obtain ⟨hx, hb, hml, hown, hts⟩ := id F
  have hwg : ∀ w ∈ WG, w.before args s = true := fun w h => hts w (List.mem_cons_of_mem _ h)
  intro S H locs ls a0 a1 x2 x3 x7 x8 x10 x12 hp hW hE hl hL_a0 hK_a0 hL_a1 hK_a1
  unfold wp_X8_targets_288 at hp
  obtain ⟨x_1, ex_1⟩ : ∃ z : Int32, z = x12 + 1 := ⟨_, rfl⟩
  replace hp := hp x_1 ex_1
  refine lv_iinc (v := x_1) (lv' := [(12, .int x_1), (0, .ref a0), (1, .ref a1), (2, .int x2), (3, .int x3), (7, .int x7), (8, .long x8), (10, .long x10)]) hx hb dX8_targets_288 hl (k := 7) rfl (by rw [ex_1]; rfl) (by decide) rfl (fun ls hl => ?_)
  refine lv_goto (tgt := 118) hx hb dX8_targets_291 (by decide) ?_
  exact q_118 hp hW hE (lv_sub hl [1, 2, 3, 4, 5, 6, 7, 0] rfl) hL_a0 hK_a0 hL_a1 hK_a1
set_option maxHeartbeats 4000000 in
set_option maxRecDepth 100000 in
theorem t_X8_targets_262 {p : Program} {l : Launch} {e : Env} {s : State} {m : MethodId} {args : Array Value} {below : List Frame} {meth : Method} {c : Code} {D : wD} {cy : Nat → ClassId} {X : va_W} {A : Nat → Prop} {S0 : wS} {post : Int64 → wS → Prop} (F : CallFix p m c cX8_targets 19 s args wz_X8_targets RX8) (hr : meth.sig.returnType = (some .long)) (hlocks : meth.locks = false) (hK : wK D cy A s) {k_118 : wS → Nat → Nat → Int32 → Int32 → Int32 → Int64 → Int64 → Int32 → Prop} (q_118 : ∀ {S : wS} {H : Heap} {locs : List Loc} {ls : Array Slot} {a0 : Nat} {a1 : Nat} {x2 : Int32} {x3 : Int32} {x7 : Int32} {x8 : Int64} {x10 : Int64} {x12 : Int32}, k_118 S a0 a1 x2 x3 x7 x8 x10 x12 → wO D cy X A s.heap S H locs → wX D S0 S → lv_has ls 19 [(0, .ref a0), (1, .ref a1), (2, .int x2), (3, .int x3), (7, .int x7), (8, .long x8), (10, .long x10), (12, .int x12)] → wM D S a0 → sK S a0 = 13 → wM D S a1 → sK S a1 = 12 → W p l e r_X8_targets s m args below meth c H locs 0 0 (MQ below (va_Ql (fun r S9 => wX D S0 S9 ∧ post r S9) (wB D cy X A) A) args s 0 0 A) (F0 m 118 ls [])) : ∀ {S : wS} {H : Heap} {locs : List Loc} {ls : Array Slot} {a0 : Nat} {a1 : Nat} {x2 : Int32} {x3 : Int32} {x7 : Int32} {x8 : Int64} {x10 : Int64} {x12 : Int32} {x13 : Int32} {x14 : Int64} {x16 : Int64} {b0 : Nat} {t1 : Int32} {t2 : Int32}, wp_X8_targets_262 D post k_118 S a0 a1 x2 x3 x7 x8 x10 x12 x13 x14 x16 b0 t1 t2 → wO D cy X A s.heap S H locs → wX D S0 S → lv_has ls 19 [(0, .ref a0), (1, .ref a1), (2, .int x2), (3, .int x3), (7, .int x7), (8, .long x8), (10, .long x10), (12, .int x12), (13, .int x13), (14, .long x14), (16, .long x16)] → wM D S a0 → sK S a0 = 13 → wM D S a1 → sK S a1 = 12 → wM D S b0 → sK S b0 = 12 → W p l e r_X8_targets s m args below meth c H locs 0 0 (MQ below (va_Ql (fun r S9 => wX D S0 S9 ∧ post r S9) (wB D cy X A) A) args s 0 0 A) (F0 m 262 ls [.int t2, .int t1, .ref b0]) := by
  obtain ⟨hx, hb, hml, hown, hts⟩ := id F
  have hwg : ∀ w ∈ WG, w.before args s = true := fun w h => hts w (List.mem_cons_of_mem _ h)
  intro S H locs ls a0 a1 x2 x3 x7 x8 x10 x12 x13 x14 x16 b0 t1 t2 hp hW hE hl hL_a0 hK_a0 hL_a1 hK_a1 hL_b0 hK_b0
  unfold wp_X8_targets_262 at hp
  refine lv_lload hx hb dX8_targets_262 (lv_at hl 10 rfl) ?_
  refine w_callJ (va_runV (As := [.int t1, .int t2, .long x16]) (rest := []) F (c_X7_attackers l hL_b0 hK_b0 hp H.size) (cwV (C := RX7) 3 hts (wg_V wm_RX8_49 wy_X7_attackers) rfl rfl rfl (by decide +kernel) ⟨Nat.le_of_ble_eq_true rfl, Nat.le_of_ble_eq_true rfl⟩) (w_preV hK hW hL_b0 hK_b0 (by decide) rfl) rfl rfl hl.1 rfl (lv_room (Nat.le_of_ble_eq_true rfl)) dX8_targets_264 ⟨Nat.le_of_ble_eq_true rfl, Nat.le_of_ble_eq_true rfl⟩) hW (fun r_1 S_2 H locs hp hW => ?_)
  obtain ⟨hX_S_2, hp⟩ := hp
  refine W.widen (k := 0) (n := 0) (by decide) (by decide) ?_
  have hE := hE.trans hX_S_2
  have hK_a0 : sK S_2 a0 = 13 := (hX_S_2.2 a0 hL_a0).1.trans hK_a0
  have hL_a0 : wM D S_2 a0 := hX_S_2.M hL_a0
  have hK_a1 : sK S_2 a1 = 12 := (hX_S_2.2 a1 hL_a1).1.trans hK_a1
  have hL_a1 : wM D S_2 a1 := hX_S_2.M hL_a1
  refine lv_lload hx hb dX8_targets_267 (lv_at hl 9 rfl) ?_
  refine lv_ldc2 (v := (-1)) hx hb hown (hwg _ wJ_RX8_59) dX8_targets_269 ?_
  refine lv_lxor hx hb dX8_targets_272 ?_
  refine lv_land hx hb dX8_targets_273 ?_
  refine lv_lconst (v := 0) hx hb dX8_targets_274 (by decide) ?_
  refine W.lcmp hx hb dX8_targets_275 ?_
  refine lv_if_ne (tgt := 288) hx hb dX8_targets_276 (by decide) (fun c_3 => ?_) (fun c_3 => ?_)
  · replace hp := hp.1 c_3
    exact t_X8_targets_288 F hr hlocks hK q_118 hp hW hE (lv_sub hl [0, 1, 2, 3, 4, 5, 6, 7] rfl) hL_a0 hK_a0 hL_a1 hK_a1
  · replace hp := hp.2 c_3
    refine lv_lload hx hb dX8_targets_279 (lv_at hl 5 rfl) ?_
    refine lv_lconst (v := 1) hx hb dX8_targets_281 (by decide) ?_
    refine lv_iload hx hb dX8_targets_282 (lv_at hl 8 rfl) ?_
    refine lv_lshl (v := (jlshl (1 : Int64) x13)) hx hb dX8_targets_284 rfl ?_
    refine lv_lor hx hb dX8_targets_285 ?_
    refine lv_topl (fun x_4 ex_4 => ?_)
    replace hp := hp x_4 ex_4
    refine lv_lstore (lv' := [(8, .long x_4), (0, .ref a0), (1, .ref a1), (2, .int x2), (3, .int x3), (7, .int x7), (10, .long x10), (12, .int x12), (13, .int x13), (14, .long x14), (16, .long x16)]) hx hb dX8_targets_286 hl (by decide) rfl (fun ls hl => ?_)
    exact t_X8_targets_288 F hr hlocks hK q_118 hp hW hE (lv_sub hl [1, 2, 3, 4, 5, 0, 6, 7] rfl) hL_a0 hK_a0 hL_a1 hK_a1
set_option maxHeartbeats 4000000 in
set_option maxRecDepth 100000 in
theorem t_X8_targets_245 {p : Program} {l : Launch} {e : Env} {s : State} {m : MethodId} {args : Array Value} {below : List Frame} {meth : Method} {c : Code} {D : wD} {cy : Nat → ClassId} {X : va_W} {A : Nat → Prop} {S0 : wS} {post : Int64 → wS → Prop} (F : CallFix p m c cX8_targets 19 s args wz_X8_targets RX8) (hr : meth.sig.returnType = (some .long)) (hlocks : meth.locks = false) (hK : wK D cy A s) {k_118 : wS → Nat → Nat → Int32 → Int32 → Int32 → Int64 → Int64 → Int32 → Prop} (q_118 : ∀ {S : wS} {H : Heap} {locs : List Loc} {ls : Array Slot} {a0 : Nat} {a1 : Nat} {x2 : Int32} {x3 : Int32} {x7 : Int32} {x8 : Int64} {x10 : Int64} {x12 : Int32}, k_118 S a0 a1 x2 x3 x7 x8 x10 x12 → wO D cy X A s.heap S H locs → wX D S0 S → lv_has ls 19 [(0, .ref a0), (1, .ref a1), (2, .int x2), (3, .int x3), (7, .int x7), (8, .long x8), (10, .long x10), (12, .int x12)] → wM D S a0 → sK S a0 = 13 → wM D S a1 → sK S a1 = 12 → W p l e r_X8_targets s m args below meth c H locs 0 0 (MQ below (va_Ql (fun r S9 => wX D S0 S9 ∧ post r S9) (wB D cy X A) A) args s 0 0 A) (F0 m 118 ls [])) : ∀ {S : wS} {H : Heap} {locs : List Loc} {ls : Array Slot} {a0 : Nat} {a1 : Nat} {x2 : Int32} {x3 : Int32} {x7 : Int32} {x8 : Int64} {x10 : Int64} {x12 : Int32} {x13 : Int32} {x14 : Int64} {x16 : Int64} {t0 : Int32}, wp_X8_targets_245 D post k_118 S a0 a1 x2 x3 x7 x8 x10 x12 x13 x14 x16 t0 → wO D cy X A s.heap S H locs → wX D S0 S → lv_has ls 19 [(0, .ref a0), (1, .ref a1), (2, .int x2), (3, .int x3), (7, .int x7), (8, .long x8), (10, .long x10), (12, .int x12), (13, .int x13), (14, .long x14), (16, .long x16)] → wM D S a0 → sK S a0 = 13 → wM D S a1 → sK S a1 = 12 → W p l e r_X8_targets s m args below meth c H locs 0 0 (MQ below (va_Ql (fun r S9 => wX D S0 S9 ∧ post r S9) (wB D cy X A) A) args s 0 0 A) (F0 m 245 ls [.int t0]) := by
  obtain ⟨hx, hb, hml, hown, hts⟩ := id F
  have hwg : ∀ w ∈ WG, w.before args s = true := fun w h => hts w (List.mem_cons_of_mem _ h)
  have i_12 : ∀ w ∈ u_ws RX7 TX7 8, w ∈ wz_X8_targets := fun w h => List.mem_cons_of_mem _ (wu_12 w h)
  intro S H locs ls a0 a1 x2 x3 x7 x8 x10 x12 x13 x14 x16 t0 hp hW hE hl hL_a0 hK_a0 hL_a1 hK_a1
  unfold wp_X8_targets_245 at hp
  refine lv_istore (lv' := [(18, .int t0), (0, .ref a0), (1, .ref a1), (2, .int x2), (3, .int x3), (7, .int x7), (8, .long x8), (10, .long x10), (12, .int x12), (13, .int x13), (14, .long x14), (16, .long x16)]) hx hb dX8_targets_245 hl (by decide) rfl (fun ls hl => ?_)
  refine lv_aload_n hx hb dX8_targets_247 rfl (lv_at hl 2 rfl) ?_
  refine lv_iload hx hb dX8_targets_248 (lv_at hl 0 rfl) ?_
  refine lv_aload_n hx hb dX8_targets_250 rfl (lv_at hl 2 rfl) ?_
  refine w_getN (k := 12) (f := 5) (T := TX7) (v := .int (sI S a1 5)) F hK hW hL_a1 hK_a1 (by decide) rfl rfl (by decide) i_12 (hK.2.1 (.fieldLinkNest "OpeningsCabinet$Rules" 33 "OpeningsCabinet$Position" "isWhite" "Z" "OpeningsCabinet") (by decide +kernel)) rfl dX8_targets_251 ?_
  refine lv_if_ne (tgt := 261) hx hb dX8_targets_254 (by decide) (fun c_1 => ?_) (fun c_1 => ?_)
  · replace hp := hp.1 c_1
    refine lv_iconst (v := 0) hx hb dX8_targets_261 (by decide) ?_
    exact t_X8_targets_262 F hr hlocks hK q_118 hp hW hE (lv_sub hl [1, 2, 3, 4, 5, 6, 7, 8, 9, 10, 11] rfl) hL_a0 hK_a0 hL_a1 hK_a1 hL_a1 hK_a1
  · replace hp := hp.2 c_1
    refine lv_iconst (v := 1) hx hb dX8_targets_257 (by decide) ?_
    refine lv_goto (tgt := 262) hx hb dX8_targets_258 (by decide) ?_
    exact t_X8_targets_262 F hr hlocks hK q_118 hp hW hE (lv_sub hl [1, 2, 3, 4, 5, 6, 7, 8, 9, 10, 11] rfl) hL_a0 hK_a0 hL_a1 hK_a1 hL_a1 hK_a1
set_option maxHeartbeats 4000000 in
set_option maxRecDepth 100000 in
theorem t_X8_targets_205 {p : Program} {l : Launch} {e : Env} {s : State} {m : MethodId} {args : Array Value} {below : List Frame} {meth : Method} {c : Code} {D : wD} {cy : Nat → ClassId} {X : va_W} {A : Nat → Prop} {S0 : wS} {post : Int64 → wS → Prop} (F : CallFix p m c cX8_targets 19 s args wz_X8_targets RX8) (hr : meth.sig.returnType = (some .long)) (hlocks : meth.locks = false) (hK : wK D cy A s) {k_118 : wS → Nat → Nat → Int32 → Int32 → Int32 → Int64 → Int64 → Int32 → Prop} (q_118 : ∀ {S : wS} {H : Heap} {locs : List Loc} {ls : Array Slot} {a0 : Nat} {a1 : Nat} {x2 : Int32} {x3 : Int32} {x7 : Int32} {x8 : Int64} {x10 : Int64} {x12 : Int32}, k_118 S a0 a1 x2 x3 x7 x8 x10 x12 → wO D cy X A s.heap S H locs → wX D S0 S → lv_has ls 19 [(0, .ref a0), (1, .ref a1), (2, .int x2), (3, .int x3), (7, .int x7), (8, .long x8), (10, .long x10), (12, .int x12)] → wM D S a0 → sK S a0 = 13 → wM D S a1 → sK S a1 = 12 → W p l e r_X8_targets s m args below meth c H locs 0 0 (MQ below (va_Ql (fun r S9 => wX D S0 S9 ∧ post r S9) (wB D cy X A) A) args s 0 0 A) (F0 m 118 ls [])) : ∀ {S : wS} {H : Heap} {locs : List Loc} {ls : Array Slot} {a0 : Nat} {a1 : Nat} {x2 : Int32} {x3 : Int32} {x7 : Int32} {x8 : Int64} {x10 : Int64} {x12 : Int32} {x13 : Int32} {x14 : Int64}, wp_X8_targets_205 D post k_118 S a0 a1 x2 x3 x7 x8 x10 x12 x13 x14 → wO D cy X A s.heap S H locs → wX D S0 S → lv_has ls 19 [(0, .ref a0), (1, .ref a1), (2, .int x2), (3, .int x3), (7, .int x7), (8, .long x8), (10, .long x10), (12, .int x12), (13, .int x13), (14, .long x14)] → wM D S a0 → sK S a0 = 13 → wM D S a1 → sK S a1 = 12 → W p l e r_X8_targets s m args below meth c H locs 0 0 (MQ below (va_Ql (fun r S9 => wX D S0 S9 ∧ post r S9) (wB D cy X A) A) args s 0 0 A) (F0 m 205 ls []) := by
  obtain ⟨hx, hb, hml, hown, hts⟩ := id F
  have hwg : ∀ w ∈ WG, w.before args s = true := fun w h => hts w (List.mem_cons_of_mem _ h)
  have i_13 : ∀ w ∈ u_ws RX8 TX8 6, w ∈ wz_X8_targets := fun w h => List.mem_cons_of_mem _ (wu_13 w h)
  have k_15 := hwg _ wf_RX8_15
  have k_9 := hwg _ wf_RX8_9
  intro S H locs ls a0 a1 x2 x3 x7 x8 x10 x12 x13 x14 hp hW hE hl hL_a0 hK_a0 hL_a1 hK_a1
  unfold wp_X8_targets_205 at hp
  refine lv_aload_n hx hb dX8_targets_205 rfl (lv_at hl 0 rfl) ?_
  refine w_get (k := 13) (f := 2) (T := TX8) (v := .long (sJ S a0 2)) F hK hW hL_a0 hK_a0 (by decide) rfl rfl (by decide) i_13 k_15 rfl dX8_targets_206 ?_
  refine lv_lload hx hb dX8_targets_209 (lv_at hl 9 rfl) ?_
  refine lv_ldc2 (v := (-1)) hx hb hown (hwg _ wJ_RX8_59) dX8_targets_211 ?_
  refine lv_lxor hx hb dX8_targets_214 ?_
  refine lv_land hx hb dX8_targets_215 ?_
  refine lv_lconst (v := 1) hx hb dX8_targets_216 (by decide) ?_
  refine lv_iload_n hx hb dX8_targets_217 rfl (lv_at hl 2 rfl) ?_
  refine lv_lshl (v := (jlshl (1 : Int64) x2)) hx hb dX8_targets_218 rfl ?_
  refine lv_ldc2 (v := (-1)) hx hb hown (hwg _ wJ_RX8_59) dX8_targets_219 ?_
  refine lv_lxor hx hb dX8_targets_222 ?_
  refine lv_land hx hb dX8_targets_223 ?_
  refine lv_lconst (v := 1) hx hb dX8_targets_224 (by decide) ?_
  refine lv_iload hx hb dX8_targets_225 (lv_at hl 8 rfl) ?_
  refine lv_lshl (v := (jlshl (1 : Int64) x13)) hx hb dX8_targets_227 rfl ?_
  refine lv_lor hx hb dX8_targets_228 ?_
  refine lv_topl (fun x_1 ex_1 => ?_)
  replace hp := hp x_1 ex_1
  refine lv_lstore (lv' := [(16, .long x_1), (0, .ref a0), (1, .ref a1), (2, .int x2), (3, .int x3), (7, .int x7), (8, .long x8), (10, .long x10), (12, .int x12), (13, .int x13), (14, .long x14)]) hx hb dX8_targets_229 hl (by decide) rfl (fun ls hl => ?_)
  refine lv_iload_n hx hb dX8_targets_231 rfl (lv_at hl 4 rfl) ?_
  refine lv_iconst (v := 1) hx hb dX8_targets_232 (by decide) ?_
  refine lv_icmp_ne (tgt := 241) hx hb dX8_targets_233 (by decide) (fun c_2 => ?_) (fun c_2 => ?_)
  · replace hp := hp.1 c_2
    refine lv_aload_n hx hb dX8_targets_241 rfl (lv_at hl 1 rfl) ?_
    refine w_get (k := 13) (f := 1) (T := TX8) (v := .int (sI S a0 1)) F hK hW hL_a0 hK_a0 (by decide) rfl rfl (by decide) i_13 k_9 rfl dX8_targets_242 ?_
    exact t_X8_targets_245 F hr hlocks hK q_118 hp hW hE (lv_sub hl [1, 2, 3, 4, 5, 6, 7, 8, 9, 10, 0] rfl) hL_a0 hK_a0 hL_a1 hK_a1
  · replace hp := hp.2 c_2
    refine lv_iload hx hb dX8_targets_236 (lv_at hl 9 rfl) ?_
    refine lv_goto (tgt := 245) hx hb dX8_targets_238 (by decide) ?_
    exact t_X8_targets_245 F hr hlocks hK q_118 hp hW hE (lv_sub hl [1, 2, 3, 4, 5, 6, 7, 8, 9, 10, 0] rfl) hL_a0 hK_a0 hL_a1 hK_a1
set_option maxHeartbeats 4000000 in
set_option maxRecDepth 100000 in
theorem t_X8_targets_201 {p : Program} {l : Launch} {e : Env} {s : State} {m : MethodId} {args : Array Value} {below : List Frame} {meth : Method} {c : Code} {D : wD} {cy : Nat → ClassId} {X : va_W} {A : Nat → Prop} {S0 : wS} {post : Int64 → wS → Prop} (F : CallFix p m c cX8_targets 19 s args wz_X8_targets RX8) (hr : meth.sig.returnType = (some .long)) (hlocks : meth.locks = false) (hK : wK D cy A s) {k_118 : wS → Nat → Nat → Int32 → Int32 → Int32 → Int64 → Int64 → Int32 → Prop} (q_118 : ∀ {S : wS} {H : Heap} {locs : List Loc} {ls : Array Slot} {a0 : Nat} {a1 : Nat} {x2 : Int32} {x3 : Int32} {x7 : Int32} {x8 : Int64} {x10 : Int64} {x12 : Int32}, k_118 S a0 a1 x2 x3 x7 x8 x10 x12 → wO D cy X A s.heap S H locs → wX D S0 S → lv_has ls 19 [(0, .ref a0), (1, .ref a1), (2, .int x2), (3, .int x3), (7, .int x7), (8, .long x8), (10, .long x10), (12, .int x12)] → wM D S a0 → sK S a0 = 13 → wM D S a1 → sK S a1 = 12 → W p l e r_X8_targets s m args below meth c H locs 0 0 (MQ below (va_Ql (fun r S9 => wX D S0 S9 ∧ post r S9) (wB D cy X A) A) args s 0 0 A) (F0 m 118 ls [])) : ∀ {S : wS} {H : Heap} {locs : List Loc} {ls : Array Slot} {a0 : Nat} {a1 : Nat} {x2 : Int32} {x3 : Int32} {x7 : Int32} {x8 : Int64} {x10 : Int64} {x12 : Int32} {x13 : Int32} {t0 : Int64} {t1 : Int64} {t2 : Int32}, wp_X8_targets_201 D post k_118 S a0 a1 x2 x3 x7 x8 x10 x12 x13 t0 t1 t2 → wO D cy X A s.heap S H locs → wX D S0 S → lv_has ls 19 [(0, .ref a0), (1, .ref a1), (2, .int x2), (3, .int x3), (7, .int x7), (8, .long x8), (10, .long x10), (12, .int x12), (13, .int x13)] → wM D S a0 → sK S a0 = 13 → wM D S a1 → sK S a1 = 12 → W p l e r_X8_targets s m args below meth c H locs 0 0 (MQ below (va_Ql (fun r S9 => wX D S0 S9 ∧ post r S9) (wB D cy X A) A) args s 0 0 A) (F0 m 201 ls [.int t2, .long t1, .long t0]) := by
  obtain ⟨hx, hb, hml, hown, hts⟩ := id F
  have hwg : ∀ w ∈ WG, w.before args s = true := fun w h => hts w (List.mem_cons_of_mem _ h)
  intro S H locs ls a0 a1 x2 x3 x7 x8 x10 x12 x13 t0 t1 t2 hp hW hE hl hL_a0 hK_a0 hL_a1 hK_a1
  unfold wp_X8_targets_201 at hp
  refine lv_lshl (v := (jlshl t1 t2)) hx hb dX8_targets_201 rfl ?_
  refine lv_lor hx hb dX8_targets_202 ?_
  refine lv_topl (fun x_1 ex_1 => ?_)
  replace hp := hp x_1 ex_1
  refine lv_lstore (lv' := [(14, .long x_1), (0, .ref a0), (1, .ref a1), (2, .int x2), (3, .int x3), (7, .int x7), (8, .long x8), (10, .long x10), (12, .int x12), (13, .int x13)]) hx hb dX8_targets_203 hl (by decide) rfl (fun ls hl => ?_)
  exact t_X8_targets_205 F hr hlocks hK q_118 hp hW hE (lv_sub hl [1, 2, 3, 4, 5, 6, 7, 8, 9, 0] rfl) hL_a0 hK_a0 hL_a1 hK_a1
set_option maxHeartbeats 4000000 in
set_option maxRecDepth 100000 in
theorem t_X8_targets_118 {p : Program} {l : Launch} {e : Env} {s : State} {m : MethodId} {args : Array Value} {below : List Frame} {meth : Method} {c : Code} {D : wD} {cy : Nat → ClassId} {X : va_W} {A : Nat → Prop} {S0 : wS} {post : Int64 → wS → Prop} (F : CallFix p m c cX8_targets 19 s args wz_X8_targets RX8) (hr : meth.sig.returnType = (some .long)) (hlocks : meth.locks = false) (hK : wK D cy A s) : ∀ (n : Nat) {S : wS} {H : Heap} {locs : List Loc} {ls : Array Slot} {a0 : Nat} {a1 : Nat} {x2 : Int32} {x3 : Int32} {x7 : Int32} {x8 : Int64} {x10 : Int64} {x12 : Int32}, wp_X8_targets_118 D post n S a0 a1 x2 x3 x7 x8 x10 x12 → wO D cy X A s.heap S H locs → wX D S0 S → lv_has ls 19 [(0, .ref a0), (1, .ref a1), (2, .int x2), (3, .int x3), (7, .int x7), (8, .long x8), (10, .long x10), (12, .int x12)] → wM D S a0 → sK S a0 = 13 → wM D S a1 → sK S a1 = 12 → W p l e r_X8_targets s m args below meth c H locs 0 0 (MQ below (va_Ql (fun r S9 => wX D S0 S9 ∧ post r S9) (wB D cy X A) A) args s 0 0 A) (F0 m 118 ls []) := by
  obtain ⟨hx, hb, hml, hown, hts⟩ := id F
  have hwg : ∀ w ∈ WG, w.before args s = true := fun w h => hts w (List.mem_cons_of_mem _ h)
  have i_12 : ∀ w ∈ u_ws RX7 TX7 8, w ∈ wz_X8_targets := fun w h => List.mem_cons_of_mem _ (wu_12 w h)
  have i_13 : ∀ w ∈ u_ws RX8 TX8 6, w ∈ wz_X8_targets := fun w h => List.mem_cons_of_mem _ (wu_13 w h)
  have i_5 : ∀ w ∈ u_ws RX0 TX0 12, w ∈ wz_X8_targets := fun w h => List.mem_cons_of_mem _ (wu_5 w h)
  have k_29 := hwg _ wf_RX8_29
  intro n
  induction n with
  | zero =>
    intro S H locs ls a0 a1 x2 x3 x7 x8 x10 x12 hp
    exact hp.elim
  | succ n ih =>
    intro S H locs ls a0 a1 x2 x3 x7 x8 x10 x12 hp hW hE hl hL_a0 hK_a0 hL_a1 hK_a1
    unfold wp_X8_targets_118 at hp
    refine lv_iload hx hb dX8_targets_118 (lv_at hl 7 rfl) ?_
    refine lv_bipush (v := 64) hx hb dX8_targets_120 (by decide) ?_
    refine lv_icmp_ge (tgt := 294) hx hb dX8_targets_122 (by decide) (fun c_1 => ?_) (fun c_1 => ?_)
    · replace hp := hp.1 c_1
      exact t_X8_targets_294 F hr hlocks hK hp hW hE (lv_sub hl [5] rfl)
    · replace hp := hp.2 c_1
      refine lv_lload hx hb dX8_targets_125 (lv_at hl 6 rfl) ?_
      refine lv_lconst (v := 0) hx hb dX8_targets_127 (by decide) ?_
      refine W.lcmp hx hb dX8_targets_128 ?_
      refine lv_if_eq (tgt := 294) hx hb dX8_targets_129 (by decide) (fun c_2 => ?_) (fun c_2 => ?_)
      · replace hp := hp.1 c_2
        exact t_X8_targets_294 F hr hlocks hK hp hW hE (lv_sub hl [5] rfl)
      · replace hp := hp.2 c_2
        refine lv_lload hx hb dX8_targets_132 (lv_at hl 6 rfl) ?_
        refine w_callI (va_runSN (As := [.long x10]) (rest := []) F (c_X11_lowest l hp H.size) ⟨va_cnB (host := "OpeningsCabinet") 1 hts (wg_cons wy_X11_lowest.2.2) rfl rfl rfl (hK.2.1 (.methodLinkNest "OpeningsCabinet$Rules" 97 ⟨"OpeningsCabinet", "lowest", "(J)I"⟩ "OpeningsCabinet") (by decide +kernel)) (hwg _ wy_X11_lowest.2.1) ⟨by decide, by decide, by decide +kernel⟩ ⟨Nat.le_of_ble_eq_true rfl, Nat.le_of_ble_eq_true rfl⟩, hwg _ wy_X11_lowest.1, trivial⟩ (w_preS hK hW) rfl rfl hl.1 rfl (lv_room (Nat.le_of_ble_eq_true rfl)) dX8_targets_134 ⟨Nat.le_of_ble_eq_true rfl, Nat.le_of_ble_eq_true rfl⟩) hW (fun r_3 S_4 H locs hp hW => ?_)
        obtain ⟨hX_S_4, hp⟩ := hp
        refine W.widen (k := 0) (n := 0) (by decide) (by decide) ?_
        have hE := hE.trans hX_S_4
        have hK_a0 : sK S_4 a0 = 13 := (hX_S_4.2 a0 hL_a0).1.trans hK_a0
        have hL_a0 : wM D S_4 a0 := hX_S_4.M hL_a0
        have hK_a1 : sK S_4 a1 = 12 := (hX_S_4.2 a1 hL_a1).1.trans hK_a1
        have hL_a1 : wM D S_4 a1 := hX_S_4.M hL_a1
        refine lv_istore (lv' := [(13, .int r_3), (0, .ref a0), (1, .ref a1), (2, .int x2), (3, .int x3), (7, .int x7), (8, .long x8), (10, .long x10), (12, .int x12)]) hx hb dX8_targets_137 hl (by decide) rfl (fun ls hl => ?_)
        refine lv_lload hx hb dX8_targets_139 (lv_at hl 7 rfl) ?_
        refine lv_lload hx hb dX8_targets_141 (lv_at hl 7 rfl) ?_
        refine lv_lconst (v := 1) hx hb dX8_targets_143 (by decide) ?_
        refine lv_lsub hx hb dX8_targets_144 ?_
        refine lv_land hx hb dX8_targets_145 ?_
        refine lv_topl (fun x_5 ex_5 => ?_)
        replace hp := hp x_5 ex_5
        refine lv_lstore (lv' := [(10, .long x_5), (13, .int r_3), (0, .ref a0), (1, .ref a1), (2, .int x2), (3, .int x3), (7, .int x7), (8, .long x8), (12, .int x12)]) hx hb dX8_targets_146 hl (by decide) rfl (fun ls hl => ?_)
        refine lv_lconst (v := 1) hx hb dX8_targets_148 (by decide) ?_
        refine lv_iload hx hb dX8_targets_149 (lv_at hl 1 rfl) ?_
        refine lv_lshl (v := (jlshl (1 : Int64) r_3)) hx hb dX8_targets_151 rfl ?_
        refine lv_topl (fun x_6 ex_6 => ?_)
        replace hp := hp x_6 ex_6
        refine lv_lstore (lv' := [(14, .long x_6), (10, .long x_5), (13, .int r_3), (0, .ref a0), (1, .ref a1), (2, .int x2), (3, .int x3), (7, .int x7), (8, .long x8), (12, .int x12)]) hx hb dX8_targets_152 hl (by decide) rfl (fun ls hl => ?_)
        refine lv_iload hx hb dX8_targets_154 (lv_at hl 7 rfl) ?_
        refine lv_if_eq (tgt := 205) hx hb dX8_targets_156 (by decide) (fun c_7 => ?_) (fun c_7 => ?_)
        · replace hp := hp.1 c_7
          exact t_X8_targets_205 F hr hlocks hK ih hp hW hE (lv_sub hl [3, 4, 5, 6, 7, 8, 1, 9, 2, 0] rfl) hL_a0 hK_a0 hL_a1 hK_a1
        · replace hp := hp.2 c_7
          refine lv_iload hx hb dX8_targets_159 (lv_at hl 2 rfl) ?_
          refine lv_aload_n hx hb dX8_targets_161 rfl (lv_at hl 4 rfl) ?_
          refine w_getN (k := 12) (f := 7) (T := TX7) (v := .int (sI S_4 a1 7)) F hK hW hL_a1 hK_a1 (by decide) rfl rfl (by decide) i_12 (hK.2.1 (.fieldLinkNest "OpeningsCabinet$Rules" 107 "OpeningsCabinet$Position" "passing" "I" "OpeningsCabinet") (by decide +kernel)) rfl dX8_targets_162 ?_
          refine lv_icmp_ne (tgt := 205) hx hb dX8_targets_165 (by decide) (fun c_8 => ?_) (fun c_8 => ?_)
          · replace hp := hp.1 c_8
            exact t_X8_targets_205 F hr hlocks hK ih hp hW hE (lv_sub hl [3, 4, 5, 6, 7, 8, 1, 9, 2, 0] rfl) hL_a0 hK_a0 hL_a1 hK_a1
          · replace hp := hp.2 c_8
            refine lv_lload hx hb dX8_targets_168 (lv_at hl 0 rfl) ?_
            refine lv_lconst (v := 1) hx hb dX8_targets_170 (by decide) ?_
            refine lv_aload_n hx hb dX8_targets_171 rfl (lv_at hl 4 rfl) ?_
            refine w_getN (k := 12) (f := 5) (T := TX7) (v := .int (sI S_4 a1 5)) F hK hW hL_a1 hK_a1 (by decide) rfl rfl (by decide) i_12 (hK.2.1 (.fieldLinkNest "OpeningsCabinet$Rules" 33 "OpeningsCabinet$Position" "isWhite" "Z" "OpeningsCabinet") (by decide +kernel)) rfl dX8_targets_172 ?_
            refine lv_if_eq (tgt := 191) hx hb dX8_targets_175 (by decide) (fun c_9 => ?_) (fun c_9 => ?_)
            · replace hp := hp.1 c_9
              refine lv_iload hx hb dX8_targets_191 (lv_at hl 2 rfl) ?_
              refine lv_aload_n hx hb dX8_targets_193 rfl (lv_at hl 3 rfl) ?_
              obtain ⟨y_10, ey_10, hL_y_10, hK_y_10, hp⟩ := hp
              refine w_get (k := 13) (f := 0) (T := TX8) (v := .ref y_10) F hK hW hL_a0 hK_a0 (by decide) rfl rfl (by decide) i_13 k_29 (by rw [show wv 13 0 S_4 a0 = va_rf (sR S_4 a0 0) from rfl, ey_10]; rfl) dX8_targets_194 ?_
              refine w_getN (k := 5) (f := 0) (T := TX0) (v := .int (sI S_4 y_10 0)) F hK hW hL_y_10 hK_y_10 (by decide) rfl rfl (by decide) i_5 (hK.2.1 (.fieldLinkNest "OpeningsCabinet$Rules" 110 "OpeningsCabinet$Board" "files" "I" "OpeningsCabinet") (by decide +kernel)) rfl dX8_targets_197 ?_
              refine lv_iadd hx hb dX8_targets_200 ?_
              exact t_X8_targets_201 F hr hlocks hK ih hp hW hE (lv_sub hl [3, 4, 5, 6, 7, 8, 1, 9, 2] rfl) hL_a0 hK_a0 hL_a1 hK_a1
            · replace hp := hp.2 c_9
              refine lv_iload hx hb dX8_targets_178 (lv_at hl 2 rfl) ?_
              refine lv_aload_n hx hb dX8_targets_180 rfl (lv_at hl 3 rfl) ?_
              obtain ⟨y_11, ey_11, hL_y_11, hK_y_11, hp⟩ := hp
              refine w_get (k := 13) (f := 0) (T := TX8) (v := .ref y_11) F hK hW hL_a0 hK_a0 (by decide) rfl rfl (by decide) i_13 k_29 (by rw [show wv 13 0 S_4 a0 = va_rf (sR S_4 a0 0) from rfl, ey_11]; rfl) dX8_targets_181 ?_
              refine w_getN (k := 5) (f := 0) (T := TX0) (v := .int (sI S_4 y_11 0)) F hK hW hL_y_11 hK_y_11 (by decide) rfl rfl (by decide) i_5 (hK.2.1 (.fieldLinkNest "OpeningsCabinet$Rules" 110 "OpeningsCabinet$Board" "files" "I" "OpeningsCabinet") (by decide +kernel)) rfl dX8_targets_184 ?_
              refine lv_isub hx hb dX8_targets_187 ?_
              refine lv_goto (tgt := 201) hx hb dX8_targets_188 (by decide) ?_
              exact t_X8_targets_201 F hr hlocks hK ih hp hW hE (lv_sub hl [3, 4, 5, 6, 7, 8, 1, 9, 2] rfl) hL_a0 hK_a0 hL_a1 hK_a1
set_option maxHeartbeats 4000000 in
set_option maxRecDepth 100000 in
theorem t_X8_targets_108 {p : Program} {l : Launch} {e : Env} {s : State} {m : MethodId} {args : Array Value} {below : List Frame} {meth : Method} {c : Code} {D : wD} {cy : Nat → ClassId} {X : va_W} {A : Nat → Prop} {S0 : wS} {post : Int64 → wS → Prop} (F : CallFix p m c cX8_targets 19 s args wz_X8_targets RX8) (hr : meth.sig.returnType = (some .long)) (hlocks : meth.locks = false) (hK : wK D cy A s) : ∀ {S : wS} {H : Heap} {locs : List Loc} {ls : Array Slot} {a0 : Nat} {a1 : Nat} {x2 : Int32} {x3 : Int32} {x5 : Int64} {x7 : Int32}, wp_X8_targets_108 D post S a0 a1 x2 x3 x5 x7 → wO D cy X A s.heap S H locs → wX D S0 S → lv_has ls 19 [(0, .ref a0), (1, .ref a1), (2, .int x2), (3, .int x3), (5, .long x5), (7, .int x7)] → wM D S a0 → sK S a0 = 13 → wM D S a1 → sK S a1 = 12 → W p l e r_X8_targets s m args below meth c H locs 0 0 (MQ below (va_Ql (fun r S9 => wX D S0 S9 ∧ post r S9) (wB D cy X A) A) args s 0 0 A) (F0 m 108 ls []) := by
  obtain ⟨hx, hb, hml, hown, hts⟩ := id F
  have hwg : ∀ w ∈ WG, w.before args s = true := fun w h => hts w (List.mem_cons_of_mem _ h)
  intro S H locs ls a0 a1 x2 x3 x5 x7 hp hW hE hl hL_a0 hK_a0 hL_a1 hK_a1
  unfold wp_X8_targets_108 at hp
  refine lv_lconst (v := 0) hx hb dX8_targets_108 (by decide) ?_
  refine lv_lstore (lv' := [(8, .long (0 : Int64)), (0, .ref a0), (1, .ref a1), (2, .int x2), (3, .int x3), (5, .long x5), (7, .int x7)]) hx hb dX8_targets_109 hl (by decide) rfl (fun ls hl => ?_)
  refine lv_lload hx hb dX8_targets_111 (lv_at hl 5 rfl) ?_
  refine lv_lstore (lv' := [(10, .long x5), (8, .long (0 : Int64)), (0, .ref a0), (1, .ref a1), (2, .int x2), (3, .int x3), (5, .long x5), (7, .int x7)]) hx hb dX8_targets_113 hl (by decide) rfl (fun ls hl => ?_)
  refine lv_iconst (v := 0) hx hb dX8_targets_115 (by decide) ?_
  refine lv_istore (lv' := [(12, .int (0 : Int32)), (10, .long x5), (8, .long (0 : Int64)), (0, .ref a0), (1, .ref a1), (2, .int x2), (3, .int x3), (5, .long x5), (7, .int x7)]) hx hb dX8_targets_116 hl (by decide) rfl (fun ls hl => ?_)
  obtain ⟨n_1, hp⟩ := hp
  exact t_X8_targets_118 F hr hlocks hK n_1 hp hW hE (lv_sub hl [3, 4, 5, 6, 8, 2, 1, 0] rfl) hL_a0 hK_a0 hL_a1 hK_a1
set_option maxHeartbeats 4000000 in
set_option maxRecDepth 100000 in
theorem t_X8_targets_75 {p : Program} {l : Launch} {e : Env} {s : State} {m : MethodId} {args : Array Value} {below : List Frame} {meth : Method} {c : Code} {D : wD} {cy : Nat → ClassId} {X : va_W} {A : Nat → Prop} {S0 : wS} {post : Int64 → wS → Prop} (F : CallFix p m c cX8_targets 19 s args wz_X8_targets RX8) (hr : meth.sig.returnType = (some .long)) (hlocks : meth.locks = false) (hK : wK D cy A s) : ∀ {S : wS} {H : Heap} {locs : List Loc} {ls : Array Slot} {a0 : Nat} {a1 : Nat} {x2 : Int32} {x3 : Int32} {x5 : Int64} {t0 : Int32}, wp_X8_targets_75 D post S a0 a1 x2 x3 x5 t0 → wO D cy X A s.heap S H locs → wX D S0 S → lv_has ls 19 [(0, .ref a0), (1, .ref a1), (2, .int x2), (3, .int x3), (5, .long x5)] → wM D S a0 → sK S a0 = 13 → wM D S a1 → sK S a1 = 12 → W p l e r_X8_targets s m args below meth c H locs 0 0 (MQ below (va_Ql (fun r S9 => wX D S0 S9 ∧ post r S9) (wB D cy X A) A) args s 0 0 A) (F0 m 75 ls [.int t0]) := by
  obtain ⟨hx, hb, hml, hown, hts⟩ := id F
  have hwg : ∀ w ∈ WG, w.before args s = true := fun w h => hts w (List.mem_cons_of_mem _ h)
  have i_13 : ∀ w ∈ u_ws RX8 TX8 6, w ∈ wz_X8_targets := fun w h => List.mem_cons_of_mem _ (wu_13 w h)
  have k_22 := hwg _ wf_RX8_22
  have k_26 := hwg _ wf_RX8_26
  intro S H locs ls a0 a1 x2 x3 x5 t0 hp hW hE hl hL_a0 hK_a0 hL_a1 hK_a1
  unfold wp_X8_targets_75 at hp
  refine lv_istore (lv' := [(7, .int t0), (0, .ref a0), (1, .ref a1), (2, .int x2), (3, .int x3), (5, .long x5)]) hx hb dX8_targets_75 hl (by decide) rfl (fun ls hl => ?_)
  refine lv_aload_n hx hb dX8_targets_77 rfl (lv_at hl 1 rfl) ?_
  refine w_get (k := 13) (f := 4) (T := TX8) (v := .int (sI S a0 4)) F hK hW hL_a0 hK_a0 (by decide) rfl rfl (by decide) i_13 k_22 rfl dX8_targets_78 ?_
  refine lv_if_ne (tgt := 108) hx hb dX8_targets_81 (by decide) (fun c_1 => ?_) (fun c_1 => ?_)
  · replace hp := hp.1 c_1
    exact t_X8_targets_108 F hr hlocks hK hp hW hE (lv_sub hl [1, 2, 3, 4, 5, 0] rfl) hL_a0 hK_a0 hL_a1 hK_a1
  · replace hp := hp.2 c_1
    refine lv_iload hx hb dX8_targets_84 (lv_at hl 0 rfl) ?_
    refine lv_if_ne (tgt := 108) hx hb dX8_targets_86 (by decide) (fun c_2 => ?_) (fun c_2 => ?_)
    · replace hp := hp.1 c_2
      exact t_X8_targets_108 F hr hlocks hK hp hW hE (lv_sub hl [1, 2, 3, 4, 5, 0] rfl) hL_a0 hK_a0 hL_a1 hK_a1
    · replace hp := hp.2 c_2
      refine lv_iload_n hx hb dX8_targets_89 rfl (lv_at hl 4 rfl) ?_
      refine lv_iconst (v := 1) hx hb dX8_targets_90 (by decide) ?_
      refine lv_icmp_eq (tgt := 108) hx hb dX8_targets_91 (by decide) (fun c_3 => ?_) (fun c_3 => ?_)
      · replace hp := hp.1 c_3
        exact t_X8_targets_108 F hr hlocks hK hp hW hE (lv_sub hl [1, 2, 3, 4, 5, 0] rfl) hL_a0 hK_a0 hL_a1 hK_a1
      · replace hp := hp.2 c_3
        refine lv_aload_n hx hb dX8_targets_94 rfl (lv_at hl 1 rfl) ?_
        refine w_get (k := 13) (f := 5) (T := TX8) (v := .long (sJ S a0 5)) F hK hW hL_a0 hK_a0 (by decide) rfl rfl (by decide) i_13 k_26 rfl dX8_targets_95 ?_
        refine lv_iload_n hx hb dX8_targets_98 rfl (lv_at hl 3 rfl) ?_
        refine w_callI (va_runSN (As := [.long (sJ S a0 5), .int x2]) (rest := []) F (c_X11_contains l hp H.size) ⟨va_cnB (host := "OpeningsCabinet") 2 hts (wg_cons wy_X11_contains.2.2) rfl rfl rfl (hK.2.1 (.methodLinkNest "OpeningsCabinet$Rules" 68 ⟨"OpeningsCabinet", "contains", "(JI)Z"⟩ "OpeningsCabinet") (by decide +kernel)) (hwg _ wy_X11_contains.2.1) ⟨by decide, by decide, by decide +kernel⟩ ⟨Nat.le_of_ble_eq_true rfl, Nat.le_of_ble_eq_true rfl⟩, hwg _ wy_X11_contains.1, trivial⟩ (w_preS hK hW) rfl rfl hl.1 rfl (lv_room (Nat.le_of_ble_eq_true rfl)) dX8_targets_99 ⟨Nat.le_of_ble_eq_true rfl, Nat.le_of_ble_eq_true rfl⟩) hW (fun r_4 S_5 H locs hp hW => ?_)
        obtain ⟨hX_S_5, hp⟩ := hp
        refine W.widen (k := 0) (n := 0) (by decide) (by decide) ?_
        have hE := hE.trans hX_S_5
        have hK_a0 : sK S_5 a0 = 13 := (hX_S_5.2 a0 hL_a0).1.trans hK_a0
        have hL_a0 : wM D S_5 a0 := hX_S_5.M hL_a0
        have hK_a1 : sK S_5 a1 = 12 := (hX_S_5.2 a1 hL_a1).1.trans hK_a1
        have hL_a1 : wM D S_5 a1 := hX_S_5.M hL_a1
        refine lv_if_ne (tgt := 108) hx hb dX8_targets_102 (by decide) (fun c_6 => ?_) (fun c_6 => ?_)
        · replace hp := hp.1 c_6
          exact t_X8_targets_108 F hr hlocks hK hp hW hE (lv_sub hl [1, 2, 3, 4, 5, 0] rfl) hL_a0 hK_a0 hL_a1 hK_a1
        · replace hp := hp.2 c_6
          refine lv_lload hx hb dX8_targets_105 (lv_at hl 5 rfl) ?_
          exact w_lret hx hb hr hlocks hW ⟨hE, hp⟩ dX8_targets_107
set_option maxHeartbeats 4000000 in
set_option maxRecDepth 100000 in
theorem t_X8_targets_74 {p : Program} {l : Launch} {e : Env} {s : State} {m : MethodId} {args : Array Value} {below : List Frame} {meth : Method} {c : Code} {D : wD} {cy : Nat → ClassId} {X : va_W} {A : Nat → Prop} {S0 : wS} {post : Int64 → wS → Prop} (F : CallFix p m c cX8_targets 19 s args wz_X8_targets RX8) (hr : meth.sig.returnType = (some .long)) (hlocks : meth.locks = false) (hK : wK D cy A s) : ∀ {S : wS} {H : Heap} {locs : List Loc} {ls : Array Slot} {a0 : Nat} {a1 : Nat} {x2 : Int32} {x3 : Int32} {x5 : Int64}, wp_X8_targets_74 D post S a0 a1 x2 x3 x5 → wO D cy X A s.heap S H locs → wX D S0 S → lv_has ls 19 [(0, .ref a0), (1, .ref a1), (2, .int x2), (3, .int x3), (5, .long x5)] → wM D S a0 → sK S a0 = 13 → wM D S a1 → sK S a1 = 12 → W p l e r_X8_targets s m args below meth c H locs 0 0 (MQ below (va_Ql (fun r S9 => wX D S0 S9 ∧ post r S9) (wB D cy X A) A) args s 0 0 A) (F0 m 74 ls []) := by
  obtain ⟨hx, hb, hml, hown, hts⟩ := id F
  have hwg : ∀ w ∈ WG, w.before args s = true := fun w h => hts w (List.mem_cons_of_mem _ h)
  intro S H locs ls a0 a1 x2 x3 x5 hp hW hE hl hL_a0 hK_a0 hL_a1 hK_a1
  unfold wp_X8_targets_74 at hp
  refine lv_iconst (v := 0) hx hb dX8_targets_74 (by decide) ?_
  exact t_X8_targets_75 F hr hlocks hK hp hW hE (lv_sub hl [0, 1, 2, 3, 4] rfl) hL_a0 hK_a0 hL_a1 hK_a1
set_option maxHeartbeats 4000000 in
set_option maxRecDepth 100000 in
theorem t_X8_targets_55 {p : Program} {l : Launch} {e : Env} {s : State} {m : MethodId} {args : Array Value} {below : List Frame} {meth : Method} {c : Code} {D : wD} {cy : Nat → ClassId} {X : va_W} {A : Nat → Prop} {S0 : wS} {post : Int64 → wS → Prop} (F : CallFix p m c cX8_targets 19 s args wz_X8_targets RX8) (hr : meth.sig.returnType = (some .long)) (hlocks : meth.locks = false) (hK : wK D cy A s) : ∀ {S : wS} {H : Heap} {locs : List Loc} {ls : Array Slot} {a0 : Nat} {a1 : Nat} {x2 : Int32} {x3 : Int32} {x4 : Int32} {t0 : Int64}, wp_X8_targets_55 D post S a0 a1 x2 x3 x4 t0 → wO D cy X A s.heap S H locs → wX D S0 S → lv_has ls 19 [(0, .ref a0), (1, .ref a1), (2, .int x2), (3, .int x3), (4, .int x4)] → wM D S a0 → sK S a0 = 13 → wM D S a1 → sK S a1 = 12 → W p l e r_X8_targets s m args below meth c H locs 0 0 (MQ below (va_Ql (fun r S9 => wX D S0 S9 ∧ post r S9) (wB D cy X A) A) args s 0 0 A) (F0 m 55 ls [.long t0]) := by
  obtain ⟨hx, hb, hml, hown, hts⟩ := id F
  have hwg : ∀ w ∈ WG, w.before args s = true := fun w h => hts w (List.mem_cons_of_mem _ h)
  have i_12 : ∀ w ∈ u_ws RX7 TX7 8, w ∈ wz_X8_targets := fun w h => List.mem_cons_of_mem _ (wu_12 w h)
  intro S H locs ls a0 a1 x2 x3 x4 t0 hp hW hE hl hL_a0 hK_a0 hL_a1 hK_a1
  unfold wp_X8_targets_55 at hp
  refine lv_lstore (lv' := [(5, .long t0), (0, .ref a0), (1, .ref a1), (2, .int x2), (3, .int x3), (4, .int x4)]) hx hb dX8_targets_55 hl (by decide) rfl (fun ls hl => ?_)
  refine lv_iload hx hb dX8_targets_57 (lv_at hl 5 rfl) ?_
  refine lv_if_eq (tgt := 74) hx hb dX8_targets_59 (by decide) (fun c_1 => ?_) (fun c_1 => ?_)
  · replace hp := hp.1 c_1
    exact t_X8_targets_74 F hr hlocks hK hp hW hE (lv_sub hl [1, 2, 3, 4, 0] rfl) hL_a0 hK_a0 hL_a1 hK_a1
  · replace hp := hp.2 c_1
    refine lv_aload_n hx hb dX8_targets_62 rfl (lv_at hl 2 rfl) ?_
    refine w_getN (k := 12) (f := 7) (T := TX7) (v := .int (sI S a1 7)) F hK hW hL_a1 hK_a1 (by decide) rfl rfl (by decide) i_12 (hK.2.1 (.fieldLinkNest "OpeningsCabinet$Rules" 107 "OpeningsCabinet$Position" "passing" "I" "OpeningsCabinet") (by decide +kernel)) rfl dX8_targets_63 ?_
    refine lv_iconst (v := (-1)) hx hb dX8_targets_66 (by decide) ?_
    refine lv_icmp_eq (tgt := 74) hx hb dX8_targets_67 (by decide) (fun c_2 => ?_) (fun c_2 => ?_)
    · replace hp := hp.1 c_2
      exact t_X8_targets_74 F hr hlocks hK hp hW hE (lv_sub hl [1, 2, 3, 4, 0] rfl) hL_a0 hK_a0 hL_a1 hK_a1
    · replace hp := hp.2 c_2
      refine lv_iconst (v := 1) hx hb dX8_targets_70 (by decide) ?_
      refine lv_goto (tgt := 75) hx hb dX8_targets_71 (by decide) ?_
      exact t_X8_targets_75 F hr hlocks hK hp hW hE (lv_sub hl [1, 2, 3, 4, 0] rfl) hL_a0 hK_a0 hL_a1 hK_a1
set_option maxHeartbeats 4000000 in
set_option maxRecDepth 100000 in
theorem t_X8_targets_17 {p : Program} {l : Launch} {e : Env} {s : State} {m : MethodId} {args : Array Value} {below : List Frame} {meth : Method} {c : Code} {D : wD} {cy : Nat → ClassId} {X : va_W} {A : Nat → Prop} {S0 : wS} {post : Int64 → wS → Prop} (F : CallFix p m c cX8_targets 19 s args wz_X8_targets RX8) (hr : meth.sig.returnType = (some .long)) (hlocks : meth.locks = false) (hK : wK D cy A s) : ∀ {S : wS} {H : Heap} {locs : List Loc} {ls : Array Slot} {a0 : Nat} {a1 : Nat} {x2 : Int32} {x3 : Int32} {t0 : Int32}, wp_X8_targets_17 D post S a0 a1 x2 x3 t0 → wO D cy X A s.heap S H locs → wX D S0 S → lv_has ls 19 [(0, .ref a0), (1, .ref a1), (2, .int x2), (3, .int x3)] → wM D S a0 → sK S a0 = 13 → wM D S a1 → sK S a1 = 12 → W p l e r_X8_targets s m args below meth c H locs 0 0 (MQ below (va_Ql (fun r S9 => wX D S0 S9 ∧ post r S9) (wB D cy X A) A) args s 0 0 A) (F0 m 17 ls [.int t0]) := by
  obtain ⟨hx, hb, hml, hown, hts⟩ := id F
  have hwg : ∀ w ∈ WG, w.before args s = true := fun w h => hts w (List.mem_cons_of_mem _ h)
  have i_13 : ∀ w ∈ u_ws RX8 TX8 6, w ∈ wz_X8_targets := fun w h => List.mem_cons_of_mem _ (wu_13 w h)
  have k_15 := hwg _ wf_RX8_15
  have k_19 := hwg _ wf_RX8_19
  have k_29 := hwg _ wf_RX8_29
  intro S H locs ls a0 a1 x2 x3 t0 hp hW hE hl hL_a0 hK_a0 hL_a1 hK_a1
  unfold wp_X8_targets_17 at hp
  refine lv_istore (lv' := [(4, .int t0), (0, .ref a0), (1, .ref a1), (2, .int x2), (3, .int x3)]) hx hb dX8_targets_17 hl (by decide) rfl (fun ls hl => ?_)
  refine lv_iload hx hb dX8_targets_19 (lv_at hl 0 rfl) ?_
  refine lv_if_eq (tgt := 33) hx hb dX8_targets_21 (by decide) (fun c_1 => ?_) (fun c_1 => ?_)
  · replace hp := hp.1 c_1
    refine lv_aload_n hx hb dX8_targets_33 rfl (lv_at hl 1 rfl) ?_
    obtain ⟨y_2, ey_2, hL_y_2, hK_y_2, hp⟩ := hp
    refine w_get (k := 13) (f := 0) (T := TX8) (v := .ref y_2) F hK hW hL_a0 hK_a0 (by decide) rfl rfl (by decide) i_13 k_29 (by rw [show wv 13 0 S a0 = va_rf (sR S a0 0) from rfl, ey_2]; rfl) dX8_targets_34 ?_
    refine lv_iload_n hx hb dX8_targets_37 rfl (lv_at hl 4 rfl) ?_
    refine lv_iload_n hx hb dX8_targets_38 rfl (lv_at hl 3 rfl) ?_
    refine lv_aload_n hx hb dX8_targets_39 rfl (lv_at hl 1 rfl) ?_
    refine w_get (k := 13) (f := 2) (T := TX8) (v := .long (sJ S a0 2)) F hK hW hL_a0 hK_a0 (by decide) rfl rfl (by decide) i_13 k_15 rfl dX8_targets_40 ?_
    refine w_callJ (va_runV (As := [.int x3, .int x2, .long (sJ S a0 2)]) (rest := []) F (c_X0_reach l hL_y_2 hK_y_2 hp H.size) (cwV (C := RX0) 3 hts (wg_V wm_RX8_53 wy_X0_reach) rfl rfl rfl (by decide +kernel) ⟨Nat.le_of_ble_eq_true rfl, Nat.le_of_ble_eq_true rfl⟩) (w_preV hK hW hL_y_2 hK_y_2 (by decide) rfl) rfl rfl hl.1 rfl (lv_room (Nat.le_of_ble_eq_true rfl)) dX8_targets_43 ⟨Nat.le_of_ble_eq_true rfl, Nat.le_of_ble_eq_true rfl⟩) hW (fun r_3 S_4 H locs hp hW => ?_)
    obtain ⟨hX_S_4, hp⟩ := hp
    refine W.widen (k := 0) (n := 0) (by decide) (by decide) ?_
    have hE := hE.trans hX_S_4
    have hK_a0 : sK S_4 a0 = 13 := (hX_S_4.2 a0 hL_a0).1.trans hK_a0
    have hL_a0 : wM D S_4 a0 := hX_S_4.M hL_a0
    have hK_a1 : sK S_4 a1 = 12 := (hX_S_4.2 a1 hL_a1).1.trans hK_a1
    have hL_a1 : wM D S_4 a1 := hX_S_4.M hL_a1
    refine lv_aload_n hx hb dX8_targets_46 rfl (lv_at hl 1 rfl) ?_
    refine w_get (k := 13) (f := 3) (T := TX8) (v := .long (sJ S_4 a0 3)) F hK hW hL_a0 hK_a0 (by decide) rfl rfl (by decide) i_13 k_19 rfl dX8_targets_47 ?_
    refine lv_ldc2 (v := (-1)) hx hb hown (hwg _ wJ_RX8_59) dX8_targets_50 ?_
    refine lv_lxor hx hb dX8_targets_53 ?_
    refine lv_land hx hb dX8_targets_54 ?_
    exact t_X8_targets_55 F hr hlocks hK hp hW hE (lv_sub hl [1, 2, 3, 4, 0] rfl) hL_a0 hK_a0 hL_a1 hK_a1
  · replace hp := hp.2 c_1
    refine lv_aload_n hx hb dX8_targets_24 rfl (lv_at hl 1 rfl) ?_
    refine lv_aload_n hx hb dX8_targets_25 rfl (lv_at hl 2 rfl) ?_
    refine lv_iload_n hx hb dX8_targets_26 rfl (lv_at hl 3 rfl) ?_
    refine w_callJ (va_runV (As := [.ref a1, .int x2]) (rest := []) F (c_X8_pawnAims l hL_a0 hK_a0 hL_a1 hK_a1 hp H.size) (cwV (C := RX8) 2 hts (wg_V wm_RX8_104 wy_X8_pawnAims) rfl rfl rfl (by decide +kernel) ⟨Nat.le_of_ble_eq_true rfl, Nat.le_of_ble_eq_true rfl⟩) (w_preV hK hW hL_a0 hK_a0 (by decide) rfl) rfl rfl hl.1 rfl (lv_room (Nat.le_of_ble_eq_true rfl)) dX8_targets_27 ⟨Nat.le_of_ble_eq_true rfl, Nat.le_of_ble_eq_true rfl⟩) hW (fun r_5 S_6 H locs hp hW => ?_)
    obtain ⟨hX_S_6, hp⟩ := hp
    refine W.widen (k := 0) (n := 0) (by decide) (by decide) ?_
    have hE := hE.trans hX_S_6
    have hK_a0 : sK S_6 a0 = 13 := (hX_S_6.2 a0 hL_a0).1.trans hK_a0
    have hL_a0 : wM D S_6 a0 := hX_S_6.M hL_a0
    have hK_a1 : sK S_6 a1 = 12 := (hX_S_6.2 a1 hL_a1).1.trans hK_a1
    have hL_a1 : wM D S_6 a1 := hX_S_6.M hL_a1
    refine lv_goto (tgt := 55) hx hb dX8_targets_30 (by decide) ?_
    exact t_X8_targets_55 F hr hlocks hK hp hW hE (lv_sub hl [1, 2, 3, 4, 0] rfl) hL_a0 hK_a0 hL_a1 hK_a1
set_option maxHeartbeats 4000000 in
set_option maxRecDepth 100000 in
theorem t_X8_targets_0 {p : Program} {l : Launch} {e : Env} {s : State} {m : MethodId} {args : Array Value} {below : List Frame} {meth : Method} {c : Code} {D : wD} {cy : Nat → ClassId} {X : va_W} {A : Nat → Prop} {S0 : wS} {post : Int64 → wS → Prop} (F : CallFix p m c cX8_targets 19 s args wz_X8_targets RX8) (hr : meth.sig.returnType = (some .long)) (hlocks : meth.locks = false) (hK : wK D cy A s) : ∀ {S : wS} {H : Heap} {locs : List Loc} {ls : Array Slot} {a0 : Nat} {a1 : Nat} {x2 : Int32}, wp_X8_targets_0 D post S a0 a1 x2 → wO D cy X A s.heap S H locs → wX D S0 S → lv_has ls 19 [(0, .ref a0), (1, .ref a1), (2, .int x2)] → wM D S a0 → sK S a0 = 13 → wM D S a1 → sK S a1 = 12 → W p l e r_X8_targets s m args below meth c H locs 0 0 (MQ below (va_Ql (fun r S9 => wX D S0 S9 ∧ post r S9) (wB D cy X A) A) args s 0 0 A) (F0 m 0 ls []) := by
  obtain ⟨hx, hb, hml, hown, hts⟩ := id F
  have hwg : ∀ w ∈ WG, w.before args s = true := fun w h => hts w (List.mem_cons_of_mem _ h)
  intro S H locs ls a0 a1 x2 hp hW hE hl hL_a0 hK_a0 hL_a1 hK_a1
  unfold wp_X8_targets_0 at hp
  refine lv_aload_n hx hb dX8_targets_0 rfl (lv_at hl 1 rfl) ?_
  refine lv_iload_n hx hb dX8_targets_1 rfl (lv_at hl 2 rfl) ?_
  refine w_callI (va_runV (As := [.int x2]) (rest := []) F (c_X7_kindOn l hL_a1 hK_a1 hp H.size) (cwV (C := RX7) 1 hts (wg_V wm_RX8_86 wy_X7_kindOn) rfl rfl rfl (by decide +kernel) ⟨Nat.le_of_ble_eq_true rfl, Nat.le_of_ble_eq_true rfl⟩) (w_preV hK hW hL_a1 hK_a1 (by decide) rfl) rfl rfl hl.1 rfl (lv_room (Nat.le_of_ble_eq_true rfl)) dX8_targets_2 ⟨Nat.le_of_ble_eq_true rfl, Nat.le_of_ble_eq_true rfl⟩) hW (fun r_1 S_2 H locs hp hW => ?_)
  obtain ⟨hX_S_2, hp⟩ := hp
  refine W.widen (k := 0) (n := 0) (by decide) (by decide) ?_
  have hE := hE.trans hX_S_2
  have hK_a0 : sK S_2 a0 = 13 := (hX_S_2.2 a0 hL_a0).1.trans hK_a0
  have hL_a0 : wM D S_2 a0 := hX_S_2.M hL_a0
  have hK_a1 : sK S_2 a1 = 12 := (hX_S_2.2 a1 hL_a1).1.trans hK_a1
  have hL_a1 : wM D S_2 a1 := hX_S_2.M hL_a1
  refine lv_istore_n (lv' := [(3, .int r_1), (0, .ref a0), (1, .ref a1), (2, .int x2)]) hx hb dX8_targets_5 rfl hl (by decide) rfl (fun ls hl => ?_)
  refine lv_iload_n hx hb dX8_targets_6 rfl (lv_at hl 0 rfl) ?_
  refine lv_bipush (v := 6) hx hb dX8_targets_7 (by decide) ?_
  refine lv_icmp_ne (tgt := 16) hx hb dX8_targets_9 (by decide) (fun c_3 => ?_) (fun c_3 => ?_)
  · replace hp := hp.1 c_3
    refine lv_iconst (v := 0) hx hb dX8_targets_16 (by decide) ?_
    exact t_X8_targets_17 F hr hlocks hK hp hW hE (lv_sub hl [1, 2, 3, 0] rfl) hL_a0 hK_a0 hL_a1 hK_a1
  · replace hp := hp.2 c_3
    refine lv_iconst (v := 1) hx hb dX8_targets_12 (by decide) ?_
    refine lv_goto (tgt := 17) hx hb dX8_targets_13 (by decide) ?_
    exact t_X8_targets_17 F hr hlocks hK hp hW hE (lv_sub hl [1, 2, 3, 0] rfl) hL_a0 hK_a0 hL_a1 hK_a1
set_option maxHeartbeats 4000000 in
set_option maxRecDepth 100000 in
theorem c_X8_targets (l : Launch) {D : wD} {cy : Nat → ClassId} {X : va_W} {S0 : wS} {post : Int64 → wS → Prop} {a0 : Nat} {a1 : Nat} {x2 : Int32} (hL_a0 : wM D S0 a0) (hK_a0 : sK S0 a0 = 13) (hL_a1 : wM D S0 a1) (hK_a1 : sK S0 a1 = 12) (hp : wp_X8_targets D post S0 a0 a1 x2) : mJ D cy X l yX8_targets wz_X8_targets r_X8_targets [.ref a0, .ref a1, .int x2] S0 (fun r S9 => wX D S0 S9 ∧ post r S9) := by
  intro sz
  refine Met.ofW (cc := cX8_targets) (maxL := 19) (ret := (some .long)) (by decide) rfl ?_
  intro p e s m args below meth c s₁ B hml hv
  obtain ⟨rfl, hsz, hP, hK, hD0, hRO⟩ := hv
  have hts := atoms_spec (ws := wz_X8_targets) B.pre
  have hown : s.vm.findClass RX8 = some m.cls := findClass_of_methodNamed B.named
  subst hsz
  have hD := hD0.self (sz := s.heap.size)
  have F : CallFix p m c cX8_targets 19 s _ wz_X8_targets RX8 := ⟨B.exec, B.bytes, hml, hown, hts⟩
  have hr := B.returns
  have hlocks := B.notSynchronized
  generalize hAe : va_A (wL cy X S0) s.heap.size = A at hD hK ⊢
  have hA : ∀ q, s.heap.size ≤ q → A q := fun q h => by rw [← hAe]; exact Or.inr h
  have hW : wO D cy X A s.heap S0 s.heap [] := ⟨hP, hD, va_S.rf, hA, hRO⟩
  have hl := lv_entry ([.ref a0, .ref a1, .int x2]) (n := 19) (Nat.le_of_ble_eq_true rfl)
  rw [lg_entry_eq]
  generalize (lg_sl ([.ref a0, .ref a1, .int x2]) ++ List.replicate (19 - (lg_sl ([.ref a0, .ref a1, .int x2])).length) Slot.unset).toArray = ls at hl ⊢
  have hl : lv_has ls 19 [(0, .ref a0), (1, .ref a1), (2, .int x2)] := hl
  unfold wp_X8_targets at hp
  exact t_X8_targets_0 F hr hlocks hK hp hW wX.rf (lv_sub hl [0, 1, 2] rfl) hL_a0 hK_a0 hL_a1 hK_a1
def wp_X8_generate_110 (D : wD) (post : Int32 → wS → Prop) (k_10 : wS → Nat → Nat → Nat → Int32 → Int32 → Prop) (S : wS) (a0 : Nat) (a1 : Nat) (a2 : Nat) (x3 : Int32) (x4 : Int32) : Prop :=
∀ x_1 : Int32, x_1 = x4 + 1 →
k_10 S a0 a1 a2 x3 x_1
def wp_X8_generate_106 (D : wD) (post : Int32 → wS → Prop) (k_10 : wS → Nat → Nat → Nat → Int32 → Int32 → Prop) (S : wS) (a0 : Nat) (a1 : Nat) (a2 : Nat) (x4 : Int32) (b0 : Nat) (b1 : Nat) (t2 : Int32) (t3 : Int32) (t4 : Int64) (t5 : Int64) : Prop :=
wp_X8_addMoves D (fun r_1 S_2 => 
wp_X8_generate_110 D post k_10 S_2 a0 a1 a2 r_1 x4) S b0 b1 t2 t3 t4 t5
def wp_X8_generate_78 (D : wD) (post : Int32 → wS → Prop) (k_10 : wS → Nat → Nat → Nat → Int32 → Int32 → Prop) (S : wS) (a0 : Nat) (a1 : Nat) (a2 : Nat) (x3 : Int32) (x4 : Int32) (x5 : Int64) (t0 : Int32) : Prop :=
((t0 = 0 → wp_X8_generate_106 D post k_10 S a0 a1 a2 x4 a0 a2 x3 x4 x5 (0 : Int64)) ∧
 (¬ t0 = 0 → ∃ y_2 : Nat, sR S a0 0 = some y_2 ∧ wM D S y_2 ∧ sK S y_2 = 5 ∧
wp_X8_generate_106 D post k_10 S a0 a1 a2 x4 a0 a2 x3 x4 x5 (x5 &&& (sJ S y_2 3))))
def wp_X8_generate_62 (D : wD) (post : Int32 → wS → Prop) (k_10 : wS → Nat → Nat → Nat → Int32 → Int32 → Prop) (S : wS) (a0 : Nat) (a1 : Nat) (a2 : Nat) (x3 : Int32) (x4 : Int32) (x5 : Int64) : Prop :=
wp_X7_kindOn D (fun r_1 S_2 => 
((¬ r_1 = (6 : Int32) → wp_X8_generate_78 D post k_10 S_2 a0 a1 a2 x3 x4 x5 (0 : Int32)) ∧
 (r_1 = (6 : Int32) → wp_X8_generate_78 D post k_10 S_2 a0 a1 a2 x3 x4 x5 (1 : Int32)))) S a1 x4
def wp_X8_generate_10 (D : wD) (post : Int32 → wS → Prop)  : Nat → wS → Nat → Nat → Nat → Int32 → Int32 → Prop
  | 0, _, _, _, _, _, _ => False
  | n + 1, S, a0, a1, a2, x3, x4 =>
    ∃ y_1 : Nat, sR S a0 0 = some y_1 ∧ wM D S y_1 ∧ sK S y_1 = 5 ∧
    (((sI S y_1 2) ≤ x4 → post x3 S) ∧
     (¬ (sI S y_1 2) ≤ x4 → wp_X11_contains D (fun r_3 S_4 => 
    ((r_3 = 0 → wp_X8_generate_110 D post (wp_X8_generate_10 D post n) S_4 a0 a1 a2 x3 x4) ∧
     (¬ r_3 = 0 → wp_X8_targets D (fun r_6 S_7 => 
    ((¬ x4 = (sI S_7 a0 1) → wp_X8_generate_62 D post (wp_X8_generate_10 D post n) S_7 a0 a1 a2 x3 x4 r_6) ∧
     (x4 = (sI S_7 a0 1) → wp_X8_castlings D (fun r_9 S_10 => 
    ∀ x_11 : Int64, x_11 = (r_6 ||| r_9) →
    wp_X8_generate_62 D post (wp_X8_generate_10 D post n) S_10 a0 a1 a2 x3 x4 x_11) S_7 a0 a1))) S_4 a0 a1 x4))) S (sJ S a0 3) x4))
def wp_X8_generate_0 (D : wD) (post : Int32 → wS → Prop)  (S : wS) (a0 : Nat) (a1 : Nat) (a2 : Nat) : Prop :=
wp_X8_look D (fun S_2 => 
∃ n_3 : Nat, wp_X8_generate_10 D post n_3 S_2 a0 a1 a2 (0 : Int32) (0 : Int32)) S a0 a1
abbrev r_X8_generate : Room := { frames := 3, cells := 0, slots := 0, locals := 98 }
def wp_X8_generate (D : wD) (post : Int32 → wS → Prop) (S : wS) (a0 : Nat) (a1 : Nat) (a2 : Nat) : Prop := wp_X8_generate_0 D post S a0 a1 a2
set_option maxHeartbeats 4000000 in
set_option maxRecDepth 100000 in
theorem t_X8_generate_110 {p : Program} {l : Launch} {e : Env} {s : State} {m : MethodId} {args : Array Value} {below : List Frame} {meth : Method} {c : Code} {D : wD} {cy : Nat → ClassId} {X : va_W} {A : Nat → Prop} {S0 : wS} {post : Int32 → wS → Prop} (F : CallFix p m c cX8_generate 8 s args wz_X8_generate RX8) (hr : meth.sig.returnType = (some .int)) (hlocks : meth.locks = false) (hK : wK D cy A s) {k_10 : wS → Nat → Nat → Nat → Int32 → Int32 → Prop} (q_10 : ∀ {S : wS} {H : Heap} {locs : List Loc} {ls : Array Slot} {a0 : Nat} {a1 : Nat} {a2 : Nat} {x3 : Int32} {x4 : Int32}, k_10 S a0 a1 a2 x3 x4 → wO D cy X A s.heap S H locs → wX D S0 S → lv_has ls 8 [(0, .ref a0), (1, .ref a1), (2, .ref a2), (3, .int x3), (4, .int x4)] → wM D S a0 → sK S a0 = 13 → wM D S a1 → sK S a1 = 12 → wM D S a2 → sK S a2 = 21 → W p l e r_X8_generate s m args below meth c H locs 0 0 (MQ below (va_Qi (fun r S9 => wX D S0 S9 ∧ post r S9) (wB D cy X A) A) args s 0 0 A) (F0 m 10 ls [])) : ∀ {S : wS} {H : Heap} {locs : List Loc} {ls : Array Slot} {a0 : Nat} {a1 : Nat} {a2 : Nat} {x3 : Int32} {x4 : Int32}, wp_X8_generate_110 D post k_10 S a0 a1 a2 x3 x4 → wO D cy X A s.heap S H locs → wX D S0 S → lv_has ls 8 [(0, .ref a0), (1, .ref a1), (2, .ref a2), (3, .int x3), (4, .int x4)] → wM D S a0 → sK S a0 = 13 → wM D S a1 → sK S a1 = 12 → wM D S a2 → sK S a2 = 21 → W p l e r_X8_generate s m args below meth c H locs 0 0 (MQ below (va_Qi (fun r S9 => wX D S0 S9 ∧ post r S9) (wB D cy X A) A) args s 0 0 A) (F0 m 110 ls []) := by
  obtain ⟨hx, hb, hml, hown, hts⟩ := id F
  have hwg : ∀ w ∈ WG, w.before args s = true := fun w h => hts w (List.mem_cons_of_mem _ h)
  intro S H locs ls a0 a1 a2 x3 x4 hp hW hE hl hL_a0 hK_a0 hL_a1 hK_a1 hL_a2 hK_a2
  unfold wp_X8_generate_110 at hp
  obtain ⟨x_1, ex_1⟩ : ∃ z : Int32, z = x4 + 1 := ⟨_, rfl⟩
  replace hp := hp x_1 ex_1
  refine lv_iinc (v := x_1) (lv' := [(4, .int x_1), (0, .ref a0), (1, .ref a1), (2, .ref a2), (3, .int x3)]) hx hb dX8_generate_110 hl (k := 4) rfl (by rw [ex_1]; rfl) (by decide) rfl (fun ls hl => ?_)
  refine lv_goto (tgt := 10) hx hb dX8_generate_113 (by decide) ?_
  exact q_10 hp hW hE (lv_sub hl [1, 2, 3, 4, 0] rfl) hL_a0 hK_a0 hL_a1 hK_a1 hL_a2 hK_a2
set_option maxHeartbeats 4000000 in
set_option maxRecDepth 100000 in
theorem t_X8_generate_106 {p : Program} {l : Launch} {e : Env} {s : State} {m : MethodId} {args : Array Value} {below : List Frame} {meth : Method} {c : Code} {D : wD} {cy : Nat → ClassId} {X : va_W} {A : Nat → Prop} {S0 : wS} {post : Int32 → wS → Prop} (F : CallFix p m c cX8_generate 8 s args wz_X8_generate RX8) (hr : meth.sig.returnType = (some .int)) (hlocks : meth.locks = false) (hK : wK D cy A s) {k_10 : wS → Nat → Nat → Nat → Int32 → Int32 → Prop} (q_10 : ∀ {S : wS} {H : Heap} {locs : List Loc} {ls : Array Slot} {a0 : Nat} {a1 : Nat} {a2 : Nat} {x3 : Int32} {x4 : Int32}, k_10 S a0 a1 a2 x3 x4 → wO D cy X A s.heap S H locs → wX D S0 S → lv_has ls 8 [(0, .ref a0), (1, .ref a1), (2, .ref a2), (3, .int x3), (4, .int x4)] → wM D S a0 → sK S a0 = 13 → wM D S a1 → sK S a1 = 12 → wM D S a2 → sK S a2 = 21 → W p l e r_X8_generate s m args below meth c H locs 0 0 (MQ below (va_Qi (fun r S9 => wX D S0 S9 ∧ post r S9) (wB D cy X A) A) args s 0 0 A) (F0 m 10 ls [])) : ∀ {S : wS} {H : Heap} {locs : List Loc} {ls : Array Slot} {a0 : Nat} {a1 : Nat} {a2 : Nat} {x4 : Int32} {b0 : Nat} {b1 : Nat} {t2 : Int32} {t3 : Int32} {t4 : Int64} {t5 : Int64}, wp_X8_generate_106 D post k_10 S a0 a1 a2 x4 b0 b1 t2 t3 t4 t5 → wO D cy X A s.heap S H locs → wX D S0 S → lv_has ls 8 [(0, .ref a0), (1, .ref a1), (2, .ref a2), (4, .int x4)] → wM D S a0 → sK S a0 = 13 → wM D S a1 → sK S a1 = 12 → wM D S a2 → sK S a2 = 21 → wM D S b0 → sK S b0 = 13 → wM D S b1 → sK S b1 = 21 → W p l e r_X8_generate s m args below meth c H locs 0 0 (MQ below (va_Qi (fun r S9 => wX D S0 S9 ∧ post r S9) (wB D cy X A) A) args s 0 0 A) (F0 m 106 ls [.long t5, .long t4, .int t3, .int t2, .ref b1, .ref b0]) := by
  obtain ⟨hx, hb, hml, hown, hts⟩ := id F
  have hwg : ∀ w ∈ WG, w.before args s = true := fun w h => hts w (List.mem_cons_of_mem _ h)
  intro S H locs ls a0 a1 a2 x4 b0 b1 t2 t3 t4 t5 hp hW hE hl hL_a0 hK_a0 hL_a1 hK_a1 hL_a2 hK_a2 hL_b0 hK_b0 hL_b1 hK_b1
  unfold wp_X8_generate_106 at hp
  refine w_callI (va_runV (As := [.ref b1, .int t2, .int t3, .long t4, .long t5]) (rest := []) F (c_X8_addMoves l hL_b0 hK_b0 hL_b1 hK_b1 hp H.size) (cwV (C := RX8) 5 hts (wg_V wm_RX8_93 wy_X8_addMoves) rfl rfl rfl (by decide +kernel) ⟨Nat.le_of_ble_eq_true rfl, Nat.le_of_ble_eq_true rfl⟩) (w_preV hK hW hL_b0 hK_b0 (by decide) rfl) rfl rfl hl.1 rfl (lv_room (Nat.le_of_ble_eq_true rfl)) dX8_generate_106 ⟨Nat.le_of_ble_eq_true rfl, Nat.le_of_ble_eq_true rfl⟩) hW (fun r_1 S_2 H locs hp hW => ?_)
  obtain ⟨hX_S_2, hp⟩ := hp
  refine W.widen (k := 0) (n := 0) (by decide) (by decide) ?_
  have hE := hE.trans hX_S_2
  have hK_a0 : sK S_2 a0 = 13 := (hX_S_2.2 a0 hL_a0).1.trans hK_a0
  have hL_a0 : wM D S_2 a0 := hX_S_2.M hL_a0
  have hK_a1 : sK S_2 a1 = 12 := (hX_S_2.2 a1 hL_a1).1.trans hK_a1
  have hL_a1 : wM D S_2 a1 := hX_S_2.M hL_a1
  have hK_a2 : sK S_2 a2 = 21 := (hX_S_2.2 a2 hL_a2).1.trans hK_a2
  have hL_a2 : wM D S_2 a2 := hX_S_2.M hL_a2
  refine lv_istore_n (lv' := [(3, .int r_1), (0, .ref a0), (1, .ref a1), (2, .ref a2), (4, .int x4)]) hx hb dX8_generate_109 rfl hl (by decide) rfl (fun ls hl => ?_)
  exact t_X8_generate_110 F hr hlocks hK q_10 hp hW hE (lv_sub hl [1, 2, 3, 0, 4] rfl) hL_a0 hK_a0 hL_a1 hK_a1 hL_a2 hK_a2
set_option maxHeartbeats 4000000 in
set_option maxRecDepth 100000 in
theorem t_X8_generate_78 {p : Program} {l : Launch} {e : Env} {s : State} {m : MethodId} {args : Array Value} {below : List Frame} {meth : Method} {c : Code} {D : wD} {cy : Nat → ClassId} {X : va_W} {A : Nat → Prop} {S0 : wS} {post : Int32 → wS → Prop} (F : CallFix p m c cX8_generate 8 s args wz_X8_generate RX8) (hr : meth.sig.returnType = (some .int)) (hlocks : meth.locks = false) (hK : wK D cy A s) {k_10 : wS → Nat → Nat → Nat → Int32 → Int32 → Prop} (q_10 : ∀ {S : wS} {H : Heap} {locs : List Loc} {ls : Array Slot} {a0 : Nat} {a1 : Nat} {a2 : Nat} {x3 : Int32} {x4 : Int32}, k_10 S a0 a1 a2 x3 x4 → wO D cy X A s.heap S H locs → wX D S0 S → lv_has ls 8 [(0, .ref a0), (1, .ref a1), (2, .ref a2), (3, .int x3), (4, .int x4)] → wM D S a0 → sK S a0 = 13 → wM D S a1 → sK S a1 = 12 → wM D S a2 → sK S a2 = 21 → W p l e r_X8_generate s m args below meth c H locs 0 0 (MQ below (va_Qi (fun r S9 => wX D S0 S9 ∧ post r S9) (wB D cy X A) A) args s 0 0 A) (F0 m 10 ls [])) : ∀ {S : wS} {H : Heap} {locs : List Loc} {ls : Array Slot} {a0 : Nat} {a1 : Nat} {a2 : Nat} {x3 : Int32} {x4 : Int32} {x5 : Int64} {t0 : Int32}, wp_X8_generate_78 D post k_10 S a0 a1 a2 x3 x4 x5 t0 → wO D cy X A s.heap S H locs → wX D S0 S → lv_has ls 8 [(0, .ref a0), (1, .ref a1), (2, .ref a2), (3, .int x3), (4, .int x4), (5, .long x5)] → wM D S a0 → sK S a0 = 13 → wM D S a1 → sK S a1 = 12 → wM D S a2 → sK S a2 = 21 → W p l e r_X8_generate s m args below meth c H locs 0 0 (MQ below (va_Qi (fun r S9 => wX D S0 S9 ∧ post r S9) (wB D cy X A) A) args s 0 0 A) (F0 m 78 ls [.int t0]) := by
  obtain ⟨hx, hb, hml, hown, hts⟩ := id F
  have hwg : ∀ w ∈ WG, w.before args s = true := fun w h => hts w (List.mem_cons_of_mem _ h)
  have i_13 : ∀ w ∈ u_ws RX8 TX8 6, w ∈ wz_X8_generate := fun w h => List.mem_cons_of_mem _ (wu_13 w h)
  have i_5 : ∀ w ∈ u_ws RX0 TX0 12, w ∈ wz_X8_generate := fun w h => List.mem_cons_of_mem _ (wu_5 w h)
  have k_29 := hwg _ wf_RX8_29
  intro S H locs ls a0 a1 a2 x3 x4 x5 t0 hp hW hE hl hL_a0 hK_a0 hL_a1 hK_a1 hL_a2 hK_a2
  unfold wp_X8_generate_78 at hp
  refine lv_istore (lv' := [(7, .int t0), (0, .ref a0), (1, .ref a1), (2, .ref a2), (3, .int x3), (4, .int x4), (5, .long x5)]) hx hb dX8_generate_78 hl (by decide) rfl (fun ls hl => ?_)
  refine lv_aload_n hx hb dX8_generate_80 rfl (lv_at hl 1 rfl) ?_
  refine lv_aload_n hx hb dX8_generate_81 rfl (lv_at hl 3 rfl) ?_
  refine lv_iload_n hx hb dX8_generate_82 rfl (lv_at hl 4 rfl) ?_
  refine lv_iload hx hb dX8_generate_83 (lv_at hl 5 rfl) ?_
  refine lv_lload hx hb dX8_generate_85 (lv_at hl 6 rfl) ?_
  refine lv_iload hx hb dX8_generate_87 (lv_at hl 0 rfl) ?_
  refine lv_if_eq (tgt := 105) hx hb dX8_generate_89 (by decide) (fun c_1 => ?_) (fun c_1 => ?_)
  · replace hp := hp.1 c_1
    refine lv_lconst (v := 0) hx hb dX8_generate_105 (by decide) ?_
    exact t_X8_generate_106 F hr hlocks hK q_10 hp hW hE (lv_sub hl [1, 2, 3, 5] rfl) hL_a0 hK_a0 hL_a1 hK_a1 hL_a2 hK_a2 hL_a0 hK_a0 hL_a2 hK_a2
  · replace hp := hp.2 c_1
    refine lv_lload hx hb dX8_generate_92 (lv_at hl 6 rfl) ?_
    refine lv_aload_n hx hb dX8_generate_94 rfl (lv_at hl 1 rfl) ?_
    obtain ⟨y_2, ey_2, hL_y_2, hK_y_2, hp⟩ := hp
    refine w_get (k := 13) (f := 0) (T := TX8) (v := .ref y_2) F hK hW hL_a0 hK_a0 (by decide) rfl rfl (by decide) i_13 k_29 (by rw [show wv 13 0 S a0 = va_rf (sR S a0 0) from rfl, ey_2]; rfl) dX8_generate_95 ?_
    refine w_getN (k := 5) (f := 3) (T := TX0) (v := .long (sJ S y_2 3)) F hK hW hL_y_2 hK_y_2 (by decide) rfl rfl (by decide) i_5 (hK.2.1 (.fieldLinkNest "OpeningsCabinet$Rules" 90 "OpeningsCabinet$Board" "edges" "J" "OpeningsCabinet") (by decide +kernel)) rfl dX8_generate_98 ?_
    refine lv_land hx hb dX8_generate_101 ?_
    refine lv_goto (tgt := 106) hx hb dX8_generate_102 (by decide) ?_
    exact t_X8_generate_106 F hr hlocks hK q_10 hp hW hE (lv_sub hl [1, 2, 3, 5] rfl) hL_a0 hK_a0 hL_a1 hK_a1 hL_a2 hK_a2 hL_a0 hK_a0 hL_a2 hK_a2
set_option maxHeartbeats 4000000 in
set_option maxRecDepth 100000 in
theorem t_X8_generate_62 {p : Program} {l : Launch} {e : Env} {s : State} {m : MethodId} {args : Array Value} {below : List Frame} {meth : Method} {c : Code} {D : wD} {cy : Nat → ClassId} {X : va_W} {A : Nat → Prop} {S0 : wS} {post : Int32 → wS → Prop} (F : CallFix p m c cX8_generate 8 s args wz_X8_generate RX8) (hr : meth.sig.returnType = (some .int)) (hlocks : meth.locks = false) (hK : wK D cy A s) {k_10 : wS → Nat → Nat → Nat → Int32 → Int32 → Prop} (q_10 : ∀ {S : wS} {H : Heap} {locs : List Loc} {ls : Array Slot} {a0 : Nat} {a1 : Nat} {a2 : Nat} {x3 : Int32} {x4 : Int32}, k_10 S a0 a1 a2 x3 x4 → wO D cy X A s.heap S H locs → wX D S0 S → lv_has ls 8 [(0, .ref a0), (1, .ref a1), (2, .ref a2), (3, .int x3), (4, .int x4)] → wM D S a0 → sK S a0 = 13 → wM D S a1 → sK S a1 = 12 → wM D S a2 → sK S a2 = 21 → W p l e r_X8_generate s m args below meth c H locs 0 0 (MQ below (va_Qi (fun r S9 => wX D S0 S9 ∧ post r S9) (wB D cy X A) A) args s 0 0 A) (F0 m 10 ls [])) : ∀ {S : wS} {H : Heap} {locs : List Loc} {ls : Array Slot} {a0 : Nat} {a1 : Nat} {a2 : Nat} {x3 : Int32} {x4 : Int32} {x5 : Int64}, wp_X8_generate_62 D post k_10 S a0 a1 a2 x3 x4 x5 → wO D cy X A s.heap S H locs → wX D S0 S → lv_has ls 8 [(0, .ref a0), (1, .ref a1), (2, .ref a2), (3, .int x3), (4, .int x4), (5, .long x5)] → wM D S a0 → sK S a0 = 13 → wM D S a1 → sK S a1 = 12 → wM D S a2 → sK S a2 = 21 → W p l e r_X8_generate s m args below meth c H locs 0 0 (MQ below (va_Qi (fun r S9 => wX D S0 S9 ∧ post r S9) (wB D cy X A) A) args s 0 0 A) (F0 m 62 ls []) := by
  obtain ⟨hx, hb, hml, hown, hts⟩ := id F
  have hwg : ∀ w ∈ WG, w.before args s = true := fun w h => hts w (List.mem_cons_of_mem _ h)
  intro S H locs ls a0 a1 a2 x3 x4 x5 hp hW hE hl hL_a0 hK_a0 hL_a1 hK_a1 hL_a2 hK_a2
  unfold wp_X8_generate_62 at hp
  refine lv_aload_n hx hb dX8_generate_62 rfl (lv_at hl 1 rfl) ?_
  refine lv_iload hx hb dX8_generate_63 (lv_at hl 4 rfl) ?_
  refine w_callI (va_runV (As := [.int x4]) (rest := []) F (c_X7_kindOn l hL_a1 hK_a1 hp H.size) (cwV (C := RX7) 1 hts (wg_V wm_RX8_86 wy_X7_kindOn) rfl rfl rfl (by decide +kernel) ⟨Nat.le_of_ble_eq_true rfl, Nat.le_of_ble_eq_true rfl⟩) (w_preV hK hW hL_a1 hK_a1 (by decide) rfl) rfl rfl hl.1 rfl (lv_room (Nat.le_of_ble_eq_true rfl)) dX8_generate_65 ⟨Nat.le_of_ble_eq_true rfl, Nat.le_of_ble_eq_true rfl⟩) hW (fun r_1 S_2 H locs hp hW => ?_)
  obtain ⟨hX_S_2, hp⟩ := hp
  refine W.widen (k := 0) (n := 0) (by decide) (by decide) ?_
  have hE := hE.trans hX_S_2
  have hK_a0 : sK S_2 a0 = 13 := (hX_S_2.2 a0 hL_a0).1.trans hK_a0
  have hL_a0 : wM D S_2 a0 := hX_S_2.M hL_a0
  have hK_a1 : sK S_2 a1 = 12 := (hX_S_2.2 a1 hL_a1).1.trans hK_a1
  have hL_a1 : wM D S_2 a1 := hX_S_2.M hL_a1
  have hK_a2 : sK S_2 a2 = 21 := (hX_S_2.2 a2 hL_a2).1.trans hK_a2
  have hL_a2 : wM D S_2 a2 := hX_S_2.M hL_a2
  refine lv_bipush (v := 6) hx hb dX8_generate_68 (by decide) ?_
  refine lv_icmp_ne (tgt := 77) hx hb dX8_generate_70 (by decide) (fun c_3 => ?_) (fun c_3 => ?_)
  · replace hp := hp.1 c_3
    refine lv_iconst (v := 0) hx hb dX8_generate_77 (by decide) ?_
    exact t_X8_generate_78 F hr hlocks hK q_10 hp hW hE (lv_sub hl [0, 1, 2, 3, 4, 5] rfl) hL_a0 hK_a0 hL_a1 hK_a1 hL_a2 hK_a2
  · replace hp := hp.2 c_3
    refine lv_iconst (v := 1) hx hb dX8_generate_73 (by decide) ?_
    refine lv_goto (tgt := 78) hx hb dX8_generate_74 (by decide) ?_
    exact t_X8_generate_78 F hr hlocks hK q_10 hp hW hE (lv_sub hl [0, 1, 2, 3, 4, 5] rfl) hL_a0 hK_a0 hL_a1 hK_a1 hL_a2 hK_a2
set_option maxHeartbeats 4000000 in
set_option maxRecDepth 100000 in
theorem t_X8_generate_10 {p : Program} {l : Launch} {e : Env} {s : State} {m : MethodId} {args : Array Value} {below : List Frame} {meth : Method} {c : Code} {D : wD} {cy : Nat → ClassId} {X : va_W} {A : Nat → Prop} {S0 : wS} {post : Int32 → wS → Prop} (F : CallFix p m c cX8_generate 8 s args wz_X8_generate RX8) (hr : meth.sig.returnType = (some .int)) (hlocks : meth.locks = false) (hK : wK D cy A s) : ∀ (n : Nat) {S : wS} {H : Heap} {locs : List Loc} {ls : Array Slot} {a0 : Nat} {a1 : Nat} {a2 : Nat} {x3 : Int32} {x4 : Int32}, wp_X8_generate_10 D post n S a0 a1 a2 x3 x4 → wO D cy X A s.heap S H locs → wX D S0 S → lv_has ls 8 [(0, .ref a0), (1, .ref a1), (2, .ref a2), (3, .int x3), (4, .int x4)] → wM D S a0 → sK S a0 = 13 → wM D S a1 → sK S a1 = 12 → wM D S a2 → sK S a2 = 21 → W p l e r_X8_generate s m args below meth c H locs 0 0 (MQ below (va_Qi (fun r S9 => wX D S0 S9 ∧ post r S9) (wB D cy X A) A) args s 0 0 A) (F0 m 10 ls []) := by
  obtain ⟨hx, hb, hml, hown, hts⟩ := id F
  have hwg : ∀ w ∈ WG, w.before args s = true := fun w h => hts w (List.mem_cons_of_mem _ h)
  have i_13 : ∀ w ∈ u_ws RX8 TX8 6, w ∈ wz_X8_generate := fun w h => List.mem_cons_of_mem _ (wu_13 w h)
  have i_5 : ∀ w ∈ u_ws RX0 TX0 12, w ∈ wz_X8_generate := fun w h => List.mem_cons_of_mem _ (wu_5 w h)
  have k_19 := hwg _ wf_RX8_19
  have k_29 := hwg _ wf_RX8_29
  have k_9 := hwg _ wf_RX8_9
  intro n
  induction n with
  | zero =>
    intro S H locs ls a0 a1 a2 x3 x4 hp
    exact hp.elim
  | succ n ih =>
    intro S H locs ls a0 a1 a2 x3 x4 hp hW hE hl hL_a0 hK_a0 hL_a1 hK_a1 hL_a2 hK_a2
    unfold wp_X8_generate_10 at hp
    refine lv_iload hx hb dX8_generate_10 (lv_at hl 4 rfl) ?_
    refine lv_aload_n hx hb dX8_generate_12 rfl (lv_at hl 0 rfl) ?_
    obtain ⟨y_1, ey_1, hL_y_1, hK_y_1, hp⟩ := hp
    refine w_get (k := 13) (f := 0) (T := TX8) (v := .ref y_1) F hK hW hL_a0 hK_a0 (by decide) rfl rfl (by decide) i_13 k_29 (by rw [show wv 13 0 S a0 = va_rf (sR S a0 0) from rfl, ey_1]; rfl) dX8_generate_13 ?_
    refine w_getN (k := 5) (f := 2) (T := TX0) (v := .int (sI S y_1 2)) F hK hW hL_y_1 hK_y_1 (by decide) rfl rfl (by decide) i_5 (hK.2.1 (.fieldLinkNest "OpeningsCabinet$Rules" 65 "OpeningsCabinet$Board" "size" "I" "OpeningsCabinet") (by decide +kernel)) rfl dX8_generate_16 ?_
    refine lv_icmp_ge (tgt := 116) hx hb dX8_generate_19 (by decide) (fun c_2 => ?_) (fun c_2 => ?_)
    · replace hp := hp.1 c_2
      refine lv_iload_n hx hb dX8_generate_116 rfl (lv_at hl 3 rfl) ?_
      exact w_iret hx hb hr hlocks hW ⟨hE, hp⟩ dX8_generate_117
    · replace hp := hp.2 c_2
      refine lv_aload_n hx hb dX8_generate_22 rfl (lv_at hl 0 rfl) ?_
      refine w_get (k := 13) (f := 3) (T := TX8) (v := .long (sJ S a0 3)) F hK hW hL_a0 hK_a0 (by decide) rfl rfl (by decide) i_13 k_19 rfl dX8_generate_23 ?_
      refine lv_iload hx hb dX8_generate_26 (lv_at hl 4 rfl) ?_
      refine w_callI (va_runSN (As := [.long (sJ S a0 3), .int x4]) (rest := []) F (c_X11_contains l hp H.size) ⟨va_cnB (host := "OpeningsCabinet") 2 hts (wg_cons wy_X11_contains.2.2) rfl rfl rfl (hK.2.1 (.methodLinkNest "OpeningsCabinet$Rules" 68 ⟨"OpeningsCabinet", "contains", "(JI)Z"⟩ "OpeningsCabinet") (by decide +kernel)) (hwg _ wy_X11_contains.2.1) ⟨by decide, by decide, by decide +kernel⟩ ⟨Nat.le_of_ble_eq_true rfl, Nat.le_of_ble_eq_true rfl⟩, hwg _ wy_X11_contains.1, trivial⟩ (w_preS hK hW) rfl rfl hl.1 rfl (lv_room (Nat.le_of_ble_eq_true rfl)) dX8_generate_28 ⟨Nat.le_of_ble_eq_true rfl, Nat.le_of_ble_eq_true rfl⟩) hW (fun r_3 S_4 H locs hp hW => ?_)
      obtain ⟨hX_S_4, hp⟩ := hp
      refine W.widen (k := 0) (n := 0) (by decide) (by decide) ?_
      have hE := hE.trans hX_S_4
      have hK_a0 : sK S_4 a0 = 13 := (hX_S_4.2 a0 hL_a0).1.trans hK_a0
      have hL_a0 : wM D S_4 a0 := hX_S_4.M hL_a0
      have hK_a1 : sK S_4 a1 = 12 := (hX_S_4.2 a1 hL_a1).1.trans hK_a1
      have hL_a1 : wM D S_4 a1 := hX_S_4.M hL_a1
      have hK_a2 : sK S_4 a2 = 21 := (hX_S_4.2 a2 hL_a2).1.trans hK_a2
      have hL_a2 : wM D S_4 a2 := hX_S_4.M hL_a2
      refine lv_if_eq (tgt := 110) hx hb dX8_generate_31 (by decide) (fun c_5 => ?_) (fun c_5 => ?_)
      · replace hp := hp.1 c_5
        exact t_X8_generate_110 F hr hlocks hK ih hp hW hE (lv_sub hl [0, 1, 2, 3, 4] rfl) hL_a0 hK_a0 hL_a1 hK_a1 hL_a2 hK_a2
      · replace hp := hp.2 c_5
        refine lv_aload_n hx hb dX8_generate_34 rfl (lv_at hl 0 rfl) ?_
        refine lv_aload_n hx hb dX8_generate_35 rfl (lv_at hl 1 rfl) ?_
        refine lv_iload hx hb dX8_generate_36 (lv_at hl 4 rfl) ?_
        refine w_callJ (va_runV (As := [.ref a1, .int x4]) (rest := []) F (c_X8_targets l hL_a0 hK_a0 hL_a1 hK_a1 hp H.size) (cwV (C := RX8) 2 hts (wg_V wm_RX8_72 wy_X8_targets) rfl rfl rfl (by decide +kernel) ⟨Nat.le_of_ble_eq_true rfl, Nat.le_of_ble_eq_true rfl⟩) (w_preV hK hW hL_a0 hK_a0 (by decide) rfl) rfl rfl hl.1 rfl (lv_room (Nat.le_of_ble_eq_true rfl)) dX8_generate_38 ⟨Nat.le_of_ble_eq_true rfl, Nat.le_of_ble_eq_true rfl⟩) hW (fun r_6 S_7 H locs hp hW => ?_)
        obtain ⟨hX_S_7, hp⟩ := hp
        refine W.widen (k := 0) (n := 0) (by decide) (by decide) ?_
        have hE := hE.trans hX_S_7
        have hK_a0 : sK S_7 a0 = 13 := (hX_S_7.2 a0 hL_a0).1.trans hK_a0
        have hL_a0 : wM D S_7 a0 := hX_S_7.M hL_a0
        have hK_a1 : sK S_7 a1 = 12 := (hX_S_7.2 a1 hL_a1).1.trans hK_a1
        have hL_a1 : wM D S_7 a1 := hX_S_7.M hL_a1
        have hK_a2 : sK S_7 a2 = 21 := (hX_S_7.2 a2 hL_a2).1.trans hK_a2
        have hL_a2 : wM D S_7 a2 := hX_S_7.M hL_a2
        refine lv_lstore (lv' := [(5, .long r_6), (0, .ref a0), (1, .ref a1), (2, .ref a2), (3, .int x3), (4, .int x4)]) hx hb dX8_generate_41 hl (by decide) rfl (fun ls hl => ?_)
        refine lv_iload hx hb dX8_generate_43 (lv_at hl 5 rfl) ?_
        refine lv_aload_n hx hb dX8_generate_45 rfl (lv_at hl 1 rfl) ?_
        refine w_get (k := 13) (f := 1) (T := TX8) (v := .int (sI S_7 a0 1)) F hK hW hL_a0 hK_a0 (by decide) rfl rfl (by decide) i_13 k_9 rfl dX8_generate_46 ?_
        refine lv_icmp_ne (tgt := 62) hx hb dX8_generate_49 (by decide) (fun c_8 => ?_) (fun c_8 => ?_)
        · replace hp := hp.1 c_8
          exact t_X8_generate_62 F hr hlocks hK ih hp hW hE (lv_sub hl [1, 2, 3, 4, 5, 0] rfl) hL_a0 hK_a0 hL_a1 hK_a1 hL_a2 hK_a2
        · replace hp := hp.2 c_8
          refine lv_lload hx hb dX8_generate_52 (lv_at hl 0 rfl) ?_
          refine lv_aload_n hx hb dX8_generate_54 rfl (lv_at hl 1 rfl) ?_
          refine lv_aload_n hx hb dX8_generate_55 rfl (lv_at hl 2 rfl) ?_
          refine w_callJ (va_runV (As := [.ref a1]) (rest := [.long r_6]) F (c_X8_castlings l hL_a0 hK_a0 hL_a1 hK_a1 hp H.size) (cwV (C := RX8) 1 hts (wg_V wm_RX8_76 wy_X8_castlings) rfl rfl rfl (by decide +kernel) ⟨Nat.le_of_ble_eq_true rfl, Nat.le_of_ble_eq_true rfl⟩) (w_preV hK hW hL_a0 hK_a0 (by decide) rfl) rfl rfl hl.1 rfl (lv_room (Nat.le_of_ble_eq_true rfl)) dX8_generate_56 ⟨Nat.le_of_ble_eq_true rfl, Nat.le_of_ble_eq_true rfl⟩) hW (fun r_9 S_10 H locs hp hW => ?_)
          obtain ⟨hX_S_10, hp⟩ := hp
          refine W.widen (k := 0) (n := 0) (by decide) (by decide) ?_
          have hE := hE.trans hX_S_10
          have hK_a0 : sK S_10 a0 = 13 := (hX_S_10.2 a0 hL_a0).1.trans hK_a0
          have hL_a0 : wM D S_10 a0 := hX_S_10.M hL_a0
          have hK_a1 : sK S_10 a1 = 12 := (hX_S_10.2 a1 hL_a1).1.trans hK_a1
          have hL_a1 : wM D S_10 a1 := hX_S_10.M hL_a1
          have hK_a2 : sK S_10 a2 = 21 := (hX_S_10.2 a2 hL_a2).1.trans hK_a2
          have hL_a2 : wM D S_10 a2 := hX_S_10.M hL_a2
          refine lv_lor hx hb dX8_generate_59 ?_
          refine lv_topl (fun x_11 ex_11 => ?_)
          replace hp := hp x_11 ex_11
          refine lv_lstore (lv' := [(5, .long x_11), (0, .ref a0), (1, .ref a1), (2, .ref a2), (3, .int x3), (4, .int x4)]) hx hb dX8_generate_60 hl (by decide) rfl (fun ls hl => ?_)
          exact t_X8_generate_62 F hr hlocks hK ih hp hW hE (lv_sub hl [1, 2, 3, 4, 5, 0] rfl) hL_a0 hK_a0 hL_a1 hK_a1 hL_a2 hK_a2
set_option maxHeartbeats 4000000 in
set_option maxRecDepth 100000 in
theorem t_X8_generate_0 {p : Program} {l : Launch} {e : Env} {s : State} {m : MethodId} {args : Array Value} {below : List Frame} {meth : Method} {c : Code} {D : wD} {cy : Nat → ClassId} {X : va_W} {A : Nat → Prop} {S0 : wS} {post : Int32 → wS → Prop} (F : CallFix p m c cX8_generate 8 s args wz_X8_generate RX8) (hr : meth.sig.returnType = (some .int)) (hlocks : meth.locks = false) (hK : wK D cy A s) : ∀ {S : wS} {H : Heap} {locs : List Loc} {ls : Array Slot} {a0 : Nat} {a1 : Nat} {a2 : Nat}, wp_X8_generate_0 D post S a0 a1 a2 → wO D cy X A s.heap S H locs → wX D S0 S → lv_has ls 8 [(0, .ref a0), (1, .ref a1), (2, .ref a2)] → wM D S a0 → sK S a0 = 13 → wM D S a1 → sK S a1 = 12 → wM D S a2 → sK S a2 = 21 → W p l e r_X8_generate s m args below meth c H locs 0 0 (MQ below (va_Qi (fun r S9 => wX D S0 S9 ∧ post r S9) (wB D cy X A) A) args s 0 0 A) (F0 m 0 ls []) := by
  obtain ⟨hx, hb, hml, hown, hts⟩ := id F
  have hwg : ∀ w ∈ WG, w.before args s = true := fun w h => hts w (List.mem_cons_of_mem _ h)
  intro S H locs ls a0 a1 a2 hp hW hE hl hL_a0 hK_a0 hL_a1 hK_a1 hL_a2 hK_a2
  unfold wp_X8_generate_0 at hp
  refine lv_aload_n hx hb dX8_generate_0 rfl (lv_at hl 0 rfl) ?_
  refine lv_aload_n hx hb dX8_generate_1 rfl (lv_at hl 1 rfl) ?_
  refine w_callV (va_runV (As := [.ref a1]) (rest := []) F (c_X8_look l hL_a0 hK_a0 hL_a1 hK_a1 hp H.size) (cwV (C := RX8) 1 hts (wg_V wm_RX8_61 wy_X8_look) rfl rfl rfl (by decide +kernel) ⟨Nat.le_of_ble_eq_true rfl, Nat.le_of_ble_eq_true rfl⟩) (w_preV hK hW hL_a0 hK_a0 (by decide) rfl) rfl rfl hl.1 rfl (lv_room (Nat.le_of_ble_eq_true rfl)) dX8_generate_2 ⟨Nat.le_of_ble_eq_true rfl, Nat.le_of_ble_eq_true rfl⟩) hW (fun S_2 H locs hp hW => ?_)
  obtain ⟨hX_S_2, hp⟩ := hp
  refine W.widen (k := 0) (n := 0) (by decide) (by decide) ?_
  have hE := hE.trans hX_S_2
  have hK_a0 : sK S_2 a0 = 13 := (hX_S_2.2 a0 hL_a0).1.trans hK_a0
  have hL_a0 : wM D S_2 a0 := hX_S_2.M hL_a0
  have hK_a1 : sK S_2 a1 = 12 := (hX_S_2.2 a1 hL_a1).1.trans hK_a1
  have hL_a1 : wM D S_2 a1 := hX_S_2.M hL_a1
  have hK_a2 : sK S_2 a2 = 21 := (hX_S_2.2 a2 hL_a2).1.trans hK_a2
  have hL_a2 : wM D S_2 a2 := hX_S_2.M hL_a2
  refine lv_iconst (v := 0) hx hb dX8_generate_5 (by decide) ?_
  refine lv_istore_n (lv' := [(3, .int (0 : Int32)), (0, .ref a0), (1, .ref a1), (2, .ref a2)]) hx hb dX8_generate_6 rfl hl (by decide) rfl (fun ls hl => ?_)
  refine lv_iconst (v := 0) hx hb dX8_generate_7 (by decide) ?_
  refine lv_istore (lv' := [(4, .int (0 : Int32)), (3, .int (0 : Int32)), (0, .ref a0), (1, .ref a1), (2, .ref a2)]) hx hb dX8_generate_8 hl (by decide) rfl (fun ls hl => ?_)
  obtain ⟨n_3, hp⟩ := hp
  exact t_X8_generate_10 F hr hlocks hK n_3 hp hW hE (lv_sub hl [2, 3, 4, 1, 0] rfl) hL_a0 hK_a0 hL_a1 hK_a1 hL_a2 hK_a2
set_option maxHeartbeats 4000000 in
set_option maxRecDepth 100000 in
theorem c_X8_generate (l : Launch) {D : wD} {cy : Nat → ClassId} {X : va_W} {S0 : wS} {post : Int32 → wS → Prop} {a0 : Nat} {a1 : Nat} {a2 : Nat} (hL_a0 : wM D S0 a0) (hK_a0 : sK S0 a0 = 13) (hL_a1 : wM D S0 a1) (hK_a1 : sK S0 a1 = 12) (hL_a2 : wM D S0 a2) (hK_a2 : sK S0 a2 = 21) (hp : wp_X8_generate D post S0 a0 a1 a2) : mI D cy X l yX8_generate wz_X8_generate r_X8_generate [.ref a0, .ref a1, .ref a2] S0 (fun r S9 => wX D S0 S9 ∧ post r S9) := by
  intro sz
  refine Met.ofW (cc := cX8_generate) (maxL := 8) (ret := (some .int)) (by decide) rfl ?_
  intro p e s m args below meth c s₁ B hml hv
  obtain ⟨rfl, hsz, hP, hK, hD0, hRO⟩ := hv
  have hts := atoms_spec (ws := wz_X8_generate) B.pre
  have hown : s.vm.findClass RX8 = some m.cls := findClass_of_methodNamed B.named
  subst hsz
  have hD := hD0.self (sz := s.heap.size)
  have F : CallFix p m c cX8_generate 8 s _ wz_X8_generate RX8 := ⟨B.exec, B.bytes, hml, hown, hts⟩
  have hr := B.returns
  have hlocks := B.notSynchronized
  generalize hAe : va_A (wL cy X S0) s.heap.size = A at hD hK ⊢
  have hA : ∀ q, s.heap.size ≤ q → A q := fun q h => by rw [← hAe]; exact Or.inr h
  have hW : wO D cy X A s.heap S0 s.heap [] := ⟨hP, hD, va_S.rf, hA, hRO⟩
  have hl := lv_entry ([.ref a0, .ref a1, .ref a2]) (n := 8) (Nat.le_of_ble_eq_true rfl)
  rw [lg_entry_eq]
  generalize (lg_sl ([.ref a0, .ref a1, .ref a2]) ++ List.replicate (8 - (lg_sl ([.ref a0, .ref a1, .ref a2])).length) Slot.unset).toArray = ls at hl ⊢
  have hl : lv_has ls 8 [(0, .ref a0), (1, .ref a1), (2, .ref a2)] := hl
  unfold wp_X8_generate at hp
  exact t_X8_generate_0 F hr hlocks hK hp hW wX.rf (lv_sub hl [0, 1, 2] rfl) hL_a0 hK_a0 hL_a1 hK_a1 hL_a2 hK_a2
def wp_X4_look_0 (D : wD) (post : wS → Prop)  (S : wS) (a0 : Nat) (a1 : Nat) : Prop :=
∃ y_1 : Nat, sR S a0 2 = some y_1 ∧ wM D S y_1 ∧ sK S y_1 = 12 ∧
wp_X7_copy D (fun S_3 => 
∃ y_4 : Nat, sR S_3 a0 1 = some y_4 ∧ wM D S_3 y_4 ∧ sK S_3 y_4 = 13 ∧
∃ y_5 : Nat, sR S_3 a0 2 = some y_5 ∧ wM D S_3 y_5 ∧ sK S_3 y_5 = 12 ∧
∃ y_6 : Nat, sR S_3 a0 4 = some y_6 ∧ wM D S_3 y_6 ∧ sK S_3 y_6 = 21 ∧
wp_X8_generate D (fun r_7 S_8 => 
∀ S_9 : wS, S_9 = uI S_8 a0 7 r_7 →
narrow .boolean (.int (0 : Int32)) = .int (0 : Int32) ∧ fits .boolean (.int (0 : Int32)) = true ∧
∀ S_10 : wS, S_10 = uI S_9 a0 6 (0 : Int32) →
post S_10) S_3 y_4 y_5 y_6) S y_1 a1
abbrev r_X4_look : Room := { frames := 4, cells := 0, slots := 0, locals := 125 }
def wp_X4_look (D : wD) (post : wS → Prop) (S : wS) (a0 : Nat) (a1 : Nat) : Prop := wp_X4_look_0 D post S a0 a1
set_option maxHeartbeats 4000000 in
set_option maxRecDepth 100000 in
theorem t_X4_look_0 {p : Program} {l : Launch} {e : Env} {s : State} {m : MethodId} {args : Array Value} {below : List Frame} {meth : Method} {c : Code} {D : wD} {cy : Nat → ClassId} {X : va_W} {A : Nat → Prop} {S0 : wS} {post : wS → Prop} (F : CallFix p m c cX4_look 2 s args wz_X4_look RX4) (hr : meth.sig.returnType = none) (hlocks : meth.locks = false) (hK : wK D cy A s) : ∀ {S : wS} {H : Heap} {locs : List Loc} {ls : Array Slot} {a0 : Nat} {a1 : Nat}, wp_X4_look_0 D post S a0 a1 → wO D cy X A s.heap S H locs → wX D S0 S → lv_has ls 2 [(0, .ref a0), (1, .ref a1)] → wM D S a0 → sK S a0 = 9 → wM D S a1 → sK S a1 = 12 → W p l e r_X4_look s m args below meth c H locs 0 0 (MQ below (va_Qv (fun S9 => wX D S0 S9 ∧ post S9) (wB D cy X A) A) args s 0 0 A) (F0 m 0 ls []) := by
  obtain ⟨hx, hb, hml, hown, hts⟩ := id F
  have hwg : ∀ w ∈ WG, w.before args s = true := fun w h => hts w (List.mem_cons_of_mem _ h)
  have i_9 : ∀ w ∈ u_ws RX4 TX4 8, w ∈ wz_X4_look := fun w h => List.mem_cons_of_mem _ (wu_9 w h)
  have k_11 := hwg _ wf_RX4_11
  have k_19 := hwg _ wf_RX4_19
  have k_23 := hwg _ wf_RX4_23
  have k_31 := hwg _ wf_RX4_31
  have k_40 := hwg _ wf_RX4_40
  intro S H locs ls a0 a1 hp hW hE hl hL_a0 hK_a0 hL_a1 hK_a1
  unfold wp_X4_look_0 at hp
  refine lv_aload_n hx hb dX4_look_0 rfl (lv_at hl 0 rfl) ?_
  obtain ⟨y_1, ey_1, hL_y_1, hK_y_1, hp⟩ := hp
  refine w_get (k := 9) (f := 2) (T := TX4) (v := .ref y_1) F hK hW hL_a0 hK_a0 (by decide) rfl rfl (by decide) i_9 k_40 (by rw [show wv 9 2 S a0 = va_rf (sR S a0 2) from rfl, ey_1]; rfl) dX4_look_1 ?_
  refine lv_aload_n hx hb dX4_look_4 rfl (lv_at hl 1 rfl) ?_
  refine w_callV (va_runV (As := [.ref a1]) (rest := []) F (c_X7_copy l hL_y_1 hK_y_1 hL_a1 hK_a1 hp H.size) (cwV (C := RX7) 1 hts (wg_V wm_RX4_47 wy_X7_copy) rfl rfl rfl (by decide +kernel) ⟨Nat.le_of_ble_eq_true rfl, Nat.le_of_ble_eq_true rfl⟩) (w_preV hK hW hL_y_1 hK_y_1 (by decide) rfl) rfl rfl hl.1 rfl (lv_room (Nat.le_of_ble_eq_true rfl)) dX4_look_5 ⟨Nat.le_of_ble_eq_true rfl, Nat.le_of_ble_eq_true rfl⟩) hW (fun S_3 H locs hp hW => ?_)
  obtain ⟨hX_S_3, hp⟩ := hp
  refine W.widen (k := 0) (n := 0) (by decide) (by decide) ?_
  have hE := hE.trans hX_S_3
  have hK_a0 : sK S_3 a0 = 9 := (hX_S_3.2 a0 hL_a0).1.trans hK_a0
  have hL_a0 : wM D S_3 a0 := hX_S_3.M hL_a0
  have hK_a1 : sK S_3 a1 = 12 := (hX_S_3.2 a1 hL_a1).1.trans hK_a1
  have hL_a1 : wM D S_3 a1 := hX_S_3.M hL_a1
  refine lv_aload_n hx hb dX4_look_8 rfl (lv_at hl 0 rfl) ?_
  refine lv_aload_n hx hb dX4_look_9 rfl (lv_at hl 0 rfl) ?_
  obtain ⟨y_4, ey_4, hL_y_4, hK_y_4, hp⟩ := hp
  refine w_get (k := 9) (f := 1) (T := TX4) (v := .ref y_4) F hK hW hL_a0 hK_a0 (by decide) rfl rfl (by decide) i_9 k_31 (by rw [show wv 9 1 S_3 a0 = va_rf (sR S_3 a0 1) from rfl, ey_4]; rfl) dX4_look_10 ?_
  refine lv_aload_n hx hb dX4_look_13 rfl (lv_at hl 0 rfl) ?_
  obtain ⟨y_5, ey_5, hL_y_5, hK_y_5, hp⟩ := hp
  refine w_get (k := 9) (f := 2) (T := TX4) (v := .ref y_5) F hK hW hL_a0 hK_a0 (by decide) rfl rfl (by decide) i_9 k_40 (by rw [show wv 9 2 S_3 a0 = va_rf (sR S_3 a0 2) from rfl, ey_5]; rfl) dX4_look_14 ?_
  refine lv_aload_n hx hb dX4_look_17 rfl (lv_at hl 0 rfl) ?_
  obtain ⟨y_6, ey_6, hL_y_6, hK_y_6, hp⟩ := hp
  refine w_get (k := 9) (f := 4) (T := TX4) (v := .ref y_6) F hK hW hL_a0 hK_a0 (by decide) rfl rfl (by decide) i_9 k_11 (by rw [show wv 9 4 S_3 a0 = va_rf (sR S_3 a0 4) from rfl, ey_6]; rfl) dX4_look_18 ?_
  refine w_callI (va_runV (As := [.ref y_5, .ref y_6]) (rest := [.ref a0]) F (c_X8_generate l hL_y_4 hK_y_4 hL_y_5 hK_y_5 hL_y_6 hK_y_6 hp H.size) (cwV (C := RX8) 2 hts (wg_V wm_RX4_51 wy_X8_generate) rfl rfl rfl (by decide +kernel) ⟨Nat.le_of_ble_eq_true rfl, Nat.le_of_ble_eq_true rfl⟩) (w_preV hK hW hL_y_4 hK_y_4 (by decide) rfl) rfl rfl hl.1 rfl (lv_room (Nat.le_of_ble_eq_true rfl)) dX4_look_21 ⟨Nat.le_of_ble_eq_true rfl, Nat.le_of_ble_eq_true rfl⟩) hW (fun r_7 S_8 H locs hp hW => ?_)
  obtain ⟨hX_S_8, hp⟩ := hp
  refine W.widen (k := 0) (n := 0) (by decide) (by decide) ?_
  have hE := hE.trans hX_S_8
  have hK_a0 : sK S_8 a0 = 9 := (hX_S_8.2 a0 hL_a0).1.trans hK_a0
  have hL_a0 : wM D S_8 a0 := hX_S_8.M hL_a0
  have hK_a1 : sK S_8 a1 = 12 := (hX_S_8.2 a1 hL_a1).1.trans hK_a1
  have hL_a1 : wM D S_8 a1 := hX_S_8.M hL_a1
  refine w_putI (k := 9) (f := 7) (T := TX4) F hK hW hL_a0 hK_a0 (by decide) (by decide) rfl rfl (by decide) i_9 tyX4 tyX4_ok nmX4 k_23 rfl rfl (ty := .int) rfl rfl rfl dX4_look_24 (fun H locs hW => ?_)
  obtain ⟨S_9, eS_9⟩ : ∃ z : wS, z = uI S_8 a0 7 r_7 := ⟨_, rfl⟩
  rw [← eS_9] at hW
  replace hp := hp S_9 eS_9
  have hX_S_9 : wX D S_8 S_9 := by rw [eS_9]; exact wX_uI
  have hE := hE.trans hX_S_9
  have hK_a0 : sK S_9 a0 = 9 := (hX_S_9.2 a0 hL_a0).1.trans hK_a0
  have hL_a0 : wM D S_9 a0 := hX_S_9.M hL_a0
  have hK_a1 : sK S_9 a1 = 12 := (hX_S_9.2 a1 hL_a1).1.trans hK_a1
  have hL_a1 : wM D S_9 a1 := hX_S_9.M hL_a1
  refine lv_aload_n hx hb dX4_look_27 rfl (lv_at hl 0 rfl) ?_
  refine lv_iconst (v := 0) hx hb dX4_look_28 (by decide) ?_
  obtain ⟨h_11, h_11f, hp⟩ := hp
  refine w_putI (k := 9) (f := 6) (T := TX4) F hK hW hL_a0 hK_a0 (by decide) (by decide) rfl rfl (by decide) i_9 tyX4 tyX4_ok nmX4 k_19 rfl rfl (ty := .boolean) rfl h_11 h_11f dX4_look_29 (fun H locs hW => ?_)
  obtain ⟨S_10, eS_10⟩ : ∃ z : wS, z = uI S_9 a0 6 (0 : Int32) := ⟨_, rfl⟩
  rw [← eS_10] at hW
  replace hp := hp S_10 eS_10
  have hX_S_10 : wX D S_9 S_10 := by rw [eS_10]; exact wX_uI
  have hE := hE.trans hX_S_10
  have hK_a0 : sK S_10 a0 = 9 := (hX_S_10.2 a0 hL_a0).1.trans hK_a0
  have hL_a0 : wM D S_10 a0 := hX_S_10.M hL_a0
  have hK_a1 : sK S_10 a1 = 12 := (hX_S_10.2 a1 hL_a1).1.trans hK_a1
  have hL_a1 : wM D S_10 a1 := hX_S_10.M hL_a1
  exact w_vret hx hb hr hlocks hW ⟨hE, hp⟩ dX4_look_32
set_option maxHeartbeats 4000000 in
set_option maxRecDepth 100000 in
theorem c_X4_look (l : Launch) {D : wD} {cy : Nat → ClassId} {X : va_W} {S0 : wS} {post : wS → Prop} {a0 : Nat} {a1 : Nat} (hL_a0 : wM D S0 a0) (hK_a0 : sK S0 a0 = 9) (hL_a1 : wM D S0 a1) (hK_a1 : sK S0 a1 = 12) (hp : wp_X4_look D post S0 a0 a1) : mV D cy X l yX4_look wz_X4_look r_X4_look [.ref a0, .ref a1] S0 (fun S9 => wX D S0 S9 ∧ post S9) := by
  intro sz
  refine Met.ofW (cc := cX4_look) (maxL := 2) (ret := none) (by decide) rfl ?_
  intro p e s m args below meth c s₁ B hml hv
  obtain ⟨rfl, hsz, hP, hK, hD0, hRO⟩ := hv
  have hts := atoms_spec (ws := wz_X4_look) B.pre
  have hown : s.vm.findClass RX4 = some m.cls := findClass_of_methodNamed B.named
  subst hsz
  have hD := hD0.self (sz := s.heap.size)
  have F : CallFix p m c cX4_look 2 s _ wz_X4_look RX4 := ⟨B.exec, B.bytes, hml, hown, hts⟩
  have hr := B.returns
  have hlocks := B.notSynchronized
  generalize hAe : va_A (wL cy X S0) s.heap.size = A at hD hK ⊢
  have hA : ∀ q, s.heap.size ≤ q → A q := fun q h => by rw [← hAe]; exact Or.inr h
  have hW : wO D cy X A s.heap S0 s.heap [] := ⟨hP, hD, va_S.rf, hA, hRO⟩
  have hl := lv_entry ([.ref a0, .ref a1]) (n := 2) (Nat.le_of_ble_eq_true rfl)
  rw [lg_entry_eq]
  generalize (lg_sl ([.ref a0, .ref a1]) ++ List.replicate (2 - (lg_sl ([.ref a0, .ref a1])).length) Slot.unset).toArray = ls at hl ⊢
  have hl : lv_has ls 2 [(0, .ref a0), (1, .ref a1)] := hl
  unfold wp_X4_look at hp
  exact t_X4_look_0 F hr hlocks hK hp hW wX.rf (lv_sub hl [0, 1] rfl) hL_a0 hK_a0 hL_a1 hK_a1
def wp_X11_codeOf_30 (D : wD) (post : Int32 → wS → Prop) (xp : String → wS → Prop)  (S : wS) : Prop :=
xp "java/lang/IndexOutOfBoundsException" S
def wp_X11_codeOf_0 (D : wD) (post : Int32 → wS → Prop) (xp : String → wS → Prop)  (S : wS) (a0 : Nat) (x1 : Int32) : Prop :=
wp_X11_mustBeLawful D (fun S_2 => 
∃ y_3 : Nat, sR S_2 a0 5 = some y_3 ∧ wM D S_2 y_3 ∧ sK S_2 y_3 = 9 ∧
∃ y_4 : Nat, sR S_2 a0 2 = some y_4 ∧ wM D S_2 y_4 ∧ sK S_2 y_4 = 12 ∧
wp_X4_look D (fun S_6 => 
((x1 < 0 → wp_X11_codeOf_30 D post xp S_6) ∧
 (¬ x1 < 0 → ∃ y_8 : Nat, sR S_6 a0 5 = some y_8 ∧ wM D S_6 y_8 ∧ sK S_6 y_8 = 9 ∧
((x1 < (sI S_6 y_8 7) → ∃ y_10 : Nat, sR S_6 a0 5 = some y_10 ∧ wM D S_6 y_10 ∧ sK S_6 y_10 = 9 ∧
wp_X4_codeAt D (fun r_11 S_12 => 
post r_11 S_12) S_6 y_10 x1) ∧
 (¬ x1 < (sI S_6 y_8 7) → wp_X11_codeOf_30 D post xp S_6))))) S_2 y_3 y_4) xp S a0
abbrev r_X11_codeOf : Room := { frames := 7, cells := 2, slots := 12, locals := 146 }
def wp_X11_codeOf (D : wD) (post : Int32 → wS → Prop) (xp : String → wS → Prop) (S : wS) (a0 : Nat) (x1 : Int32) : Prop := wp_X11_codeOf_0 D post xp S a0 x1
set_option maxHeartbeats 4000000 in
set_option maxRecDepth 100000 in
theorem t_X11_codeOf_30 {p : Program} {l : Launch} {e : Env} {s : State} {m : MethodId} {args : Array Value} {below : List Frame} {meth : Method} {c : Code} {D : wD} {cy : Nat → ClassId} {X : va_W} {A : Nat → Prop} {S0 : wS} {post : Int32 → wS → Prop} {xp : String → wS → Prop} (F : CallFix p m c cX11_codeOf 2 s args wz_X11_codeOf RX11) (hr : meth.sig.returnType = (some .int)) (hlocks : meth.locks = false) (hK : wK D cy A s) (hl0 : l.stackTraces = false) (hexc : ∀ x ∈ c.exceptionTable.toList, False) : ∀ {S : wS} {H : Heap} {locs : List Loc} {ls : Array Slot}, wp_X11_codeOf_30 D post xp S → wO D cy X A s.heap S H locs → wX D S0 S → lv_has ls 2 [] → W p l e r_X11_codeOf s m args below meth c H locs 1 6 (vx_MQ below (va_Qi (fun r S9 => wX D S0 S9 ∧ post r S9) (wB D cy X A) A) (wEx D cy X A (fun E S9 => wX D S0 S9 ∧ xp E S9)) args s 2 12 A) (F0 m 30 ls []) := by
  obtain ⟨hx, hb, hml, hown, hts⟩ := id F
  have hwg : ∀ w ∈ WG, w.before args s = true := fun w h => hts w (List.mem_cons_of_mem _ h)
  intro S H locs ls hp hW hE hl
  unfold wp_X11_codeOf_30 at hp
  exact x_throwW (ls := ls) F hK hW hl0 (by decide) (hwg _ wc_RX11_235) (hwg _ wi_java_lang_IndexOutOfBoundsException) (show ("OpeningsCabinet", 509, "no such move", 20) ∈ wStr by decide +kernel) (wa_RX11_239 hwg hK.2.1) wa_RX11_239_ok hl.1 hexc hlocks dX11_codeOf_30 dX11_codeOf_33 dX11_codeOf_34 dX11_codeOf_37 dX11_codeOf_40 (Nat.le_of_ble_eq_true rfl) (Nat.le_of_ble_eq_true rfl) (Nat.le_of_ble_eq_true rfl) (Nat.le_of_ble_eq_true rfl) (by decide) (by decide) ⟨hE, hp⟩
set_option maxHeartbeats 4000000 in
set_option maxRecDepth 100000 in
theorem t_X11_codeOf_0 {p : Program} {l : Launch} {e : Env} {s : State} {m : MethodId} {args : Array Value} {below : List Frame} {meth : Method} {c : Code} {D : wD} {cy : Nat → ClassId} {X : va_W} {A : Nat → Prop} {S0 : wS} {post : Int32 → wS → Prop} {xp : String → wS → Prop} (F : CallFix p m c cX11_codeOf 2 s args wz_X11_codeOf RX11) (hr : meth.sig.returnType = (some .int)) (hlocks : meth.locks = false) (hK : wK D cy A s) (hl0 : l.stackTraces = false) (hexc : ∀ x ∈ c.exceptionTable.toList, False) : ∀ {S : wS} {H : Heap} {locs : List Loc} {ls : Array Slot} {a0 : Nat} {x1 : Int32}, wp_X11_codeOf_0 D post xp S a0 x1 → wO D cy X A s.heap S H locs → wX D S0 S → lv_has ls 2 [(0, .ref a0), (1, .int x1)] → wM D S a0 → sK S a0 = 16 → W p l e r_X11_codeOf s m args below meth c H locs 0 0 (vx_MQ below (va_Qi (fun r S9 => wX D S0 S9 ∧ post r S9) (wB D cy X A) A) (wEx D cy X A (fun E S9 => wX D S0 S9 ∧ xp E S9)) args s 2 12 A) (F0 m 0 ls []) := by
  obtain ⟨hx, hb, hml, hown, hts⟩ := id F
  have hwg : ∀ w ∈ WG, w.before args s = true := fun w h => hts w (List.mem_cons_of_mem _ h)
  have i_16 : ∀ w ∈ u_ws RX11 TX11 18, w ∈ wz_X11_codeOf := fun w h => List.mem_cons_of_mem _ (wu_16 w h)
  have i_9 : ∀ w ∈ u_ws RX4 TX4 8, w ∈ wz_X11_codeOf := fun w h => List.mem_cons_of_mem _ (wu_9 w h)
  have k_28 := hwg _ wf_RX11_28
  have k_49 := hwg _ wf_RX11_49
  intro S H locs ls a0 x1 hp hW hE hl hL_a0 hK_a0
  unfold wp_X11_codeOf_0 at hp
  refine lv_aload_n hx hb dX11_codeOf_0 rfl (lv_at hl 0 rfl) ?_
  refine x_callV (vx_runV (As := []) (rest := []) F (c_X11_mustBeLawful l hl0 hL_a0 hK_a0 hp H.size) (cwV (C := RX11) 0 hts (wg_V wm_RX11_217 wy_X11_mustBeLawful) rfl rfl rfl (by decide +kernel) ⟨Nat.le_of_ble_eq_true rfl, Nat.le_of_ble_eq_true rfl⟩) (w_preV hK hW hL_a0 hK_a0 (by decide) rfl) rfl rfl hl.1 rfl (lv_room (Nat.le_of_ble_eq_true rfl)) dX11_codeOf_1 ⟨Nat.le_of_ble_eq_true rfl, Nat.le_of_ble_eq_true rfl⟩) hW (fun E ce q9 S9 H locs hp hW h1 h2 h3 => x_out hexc hlocks ⟨hE.trans hp.1, hp.2⟩ hW h1 h2 h3 (by decide) (by decide)) (fun S_2 H locs hp hW => ?_)
  obtain ⟨hX_S_2, hp⟩ := hp
  refine W.widen (k := 1) (n := 6) (by decide) (by decide) ?_
  have hE := hE.trans hX_S_2
  have hK_a0 : sK S_2 a0 = 16 := (hX_S_2.2 a0 hL_a0).1.trans hK_a0
  have hL_a0 : wM D S_2 a0 := hX_S_2.M hL_a0
  refine lv_aload_n hx hb dX11_codeOf_4 rfl (lv_at hl 0 rfl) ?_
  obtain ⟨y_3, ey_3, hL_y_3, hK_y_3, hp⟩ := hp
  refine w_get (k := 16) (f := 5) (T := TX11) (v := .ref y_3) F hK hW hL_a0 hK_a0 (by decide) rfl rfl (by decide) i_16 k_49 (by rw [show wv 16 5 S_2 a0 = va_rf (sR S_2 a0 5) from rfl, ey_3]; rfl) dX11_codeOf_5 ?_
  refine lv_aload_n hx hb dX11_codeOf_8 rfl (lv_at hl 0 rfl) ?_
  obtain ⟨y_4, ey_4, hL_y_4, hK_y_4, hp⟩ := hp
  refine w_get (k := 16) (f := 2) (T := TX11) (v := .ref y_4) F hK hW hL_a0 hK_a0 (by decide) rfl rfl (by decide) i_16 k_28 (by rw [show wv 16 2 S_2 a0 = va_rf (sR S_2 a0 2) from rfl, ey_4]; rfl) dX11_codeOf_9 ?_
  refine w_callV (va_runV (As := [.ref y_4]) (rest := []) F (c_X4_look l hL_y_3 hK_y_3 hL_y_4 hK_y_4 hp H.size) (cwV (C := RX4) 1 hts (wg_V wm_RX11_505 wy_X4_look) rfl rfl rfl (by decide +kernel) ⟨Nat.le_of_ble_eq_true rfl, Nat.le_of_ble_eq_true rfl⟩) (w_preV hK hW hL_y_3 hK_y_3 (by decide) rfl) rfl rfl hl.1 rfl (lv_room (Nat.le_of_ble_eq_true rfl)) dX11_codeOf_12 ⟨Nat.le_of_ble_eq_true rfl, Nat.le_of_ble_eq_true rfl⟩) hW (fun S_6 H locs hp hW => ?_)
  obtain ⟨hX_S_6, hp⟩ := hp
  refine W.widen (k := 1) (n := 6) (by decide) (by decide) ?_
  have hE := hE.trans hX_S_6
  have hK_a0 : sK S_6 a0 = 16 := (hX_S_6.2 a0 hL_a0).1.trans hK_a0
  have hL_a0 : wM D S_6 a0 := hX_S_6.M hL_a0
  refine lv_iload_n hx hb dX11_codeOf_15 rfl (lv_at hl 1 rfl) ?_
  refine lv_if_lt (tgt := 30) hx hb dX11_codeOf_16 (by decide) (fun c_7 => ?_) (fun c_7 => ?_)
  · replace hp := hp.1 c_7
    exact t_X11_codeOf_30 F hr hlocks hK hl0 hexc hp hW hE (lv_sub hl [] rfl)
  · replace hp := hp.2 c_7
    refine lv_iload_n hx hb dX11_codeOf_19 rfl (lv_at hl 1 rfl) ?_
    refine lv_aload_n hx hb dX11_codeOf_20 rfl (lv_at hl 0 rfl) ?_
    obtain ⟨y_8, ey_8, hL_y_8, hK_y_8, hp⟩ := hp
    refine w_get (k := 16) (f := 5) (T := TX11) (v := .ref y_8) F hK hW hL_a0 hK_a0 (by decide) rfl rfl (by decide) i_16 k_49 (by rw [show wv 16 5 S_6 a0 = va_rf (sR S_6 a0 5) from rfl, ey_8]; rfl) dX11_codeOf_21 ?_
    refine w_getN (k := 9) (f := 7) (T := TX4) (v := .int (sI S_6 y_8 7)) F hK hW hL_y_8 hK_y_8 (by decide) rfl rfl (by decide) i_9 (hK.2.1 (.fieldLinkNest "OpeningsCabinet" 508 "OpeningsCabinet$MoveList" "size" "I" "OpeningsCabinet") (by decide +kernel)) rfl dX11_codeOf_24 ?_
    refine lv_icmp_lt (tgt := 41) hx hb dX11_codeOf_27 (by decide) (fun c_9 => ?_) (fun c_9 => ?_)
    · replace hp := hp.1 c_9
      refine lv_aload_n hx hb dX11_codeOf_41 rfl (lv_at hl 0 rfl) ?_
      obtain ⟨y_10, ey_10, hL_y_10, hK_y_10, hp⟩ := hp
      refine w_get (k := 16) (f := 5) (T := TX11) (v := .ref y_10) F hK hW hL_a0 hK_a0 (by decide) rfl rfl (by decide) i_16 k_49 (by rw [show wv 16 5 S_6 a0 = va_rf (sR S_6 a0 5) from rfl, ey_10]; rfl) dX11_codeOf_42 ?_
      refine lv_iload_n hx hb dX11_codeOf_45 rfl (lv_at hl 1 rfl) ?_
      refine w_callI (va_runV (As := [.int x1]) (rest := []) F (c_X4_codeAt l hL_y_10 hK_y_10 hp H.size) (cwV (C := RX4) 1 hts (wg_V wm_RX11_402 wy_X4_codeAt) rfl rfl rfl (by decide +kernel) ⟨Nat.le_of_ble_eq_true rfl, Nat.le_of_ble_eq_true rfl⟩) (w_preV hK hW hL_y_10 hK_y_10 (by decide) rfl) rfl rfl hl.1 rfl (lv_room (Nat.le_of_ble_eq_true rfl)) dX11_codeOf_46 ⟨Nat.le_of_ble_eq_true rfl, Nat.le_of_ble_eq_true rfl⟩) hW (fun r_11 S_12 H locs hp hW => ?_)
      obtain ⟨hX_S_12, hp⟩ := hp
      refine W.widen (k := 1) (n := 6) (by decide) (by decide) ?_
      have hE := hE.trans hX_S_12
      have hK_a0 : sK S_12 a0 = 16 := (hX_S_12.2 a0 hL_a0).1.trans hK_a0
      have hL_a0 : wM D S_12 a0 := hX_S_12.M hL_a0
      refine W.widen (k := 2) (n := 12) (by decide) (by decide) ?_
      refine vx_ret ?_
      exact w_iret hx hb hr hlocks hW ⟨hE, hp⟩ dX11_codeOf_49
    · replace hp := hp.2 c_9
      exact t_X11_codeOf_30 F hr hlocks hK hl0 hexc hp hW hE (lv_sub hl [] rfl)
set_option maxHeartbeats 4000000 in
set_option maxRecDepth 100000 in
theorem c_X11_codeOf (l : Launch) {D : wD} {cy : Nat → ClassId} {X : va_W} {S0 : wS} {post : Int32 → wS → Prop} {xp : String → wS → Prop} (hl0 : l.stackTraces = false) {a0 : Nat} {x1 : Int32} (hL_a0 : wM D S0 a0) (hK_a0 : sK S0 a0 = 16) (hp : wp_X11_codeOf D post xp S0 a0 x1) : xI D cy X l yX11_codeOf wz_X11_codeOf r_X11_codeOf [.ref a0, .int x1] S0 (fun r S9 => wX D S0 S9 ∧ post r S9) (fun E S9 => wX D S0 S9 ∧ xp E S9) := by
  intro sz
  refine vx_ofW (cc := cX11_codeOf) (maxL := 2) (ret := (some .int)) (by decide) rfl ?_
  intro p e s m args below meth c s₁ B hml hexc hv
  obtain ⟨rfl, hsz, hP, hK, hD0, hRO⟩ := hv
  have hts := atoms_spec (ws := wz_X11_codeOf) B.pre
  have hown : s.vm.findClass RX11 = some m.cls := findClass_of_methodNamed B.named
  subst hsz
  have hD := hD0.self (sz := s.heap.size)
  have F : CallFix p m c cX11_codeOf 2 s _ wz_X11_codeOf RX11 := ⟨B.exec, B.bytes, hml, hown, hts⟩
  have hr := B.returns
  have hlocks := B.notSynchronized
  generalize hAe : va_A (wL cy X S0) s.heap.size = A at hD hK ⊢
  have hA : ∀ q, s.heap.size ≤ q → A q := fun q h => by rw [← hAe]; exact Or.inr h
  have hW : wO D cy X A s.heap S0 s.heap [] := ⟨hP, hD, va_S.rf, hA, hRO⟩
  have hl := lv_entry ([.ref a0, .int x1]) (n := 2) (Nat.le_of_ble_eq_true rfl)
  rw [lg_entry_eq]
  generalize (lg_sl ([.ref a0, .int x1]) ++ List.replicate (2 - (lg_sl ([.ref a0, .int x1])).length) Slot.unset).toArray = ls at hl ⊢
  have hl : lv_has ls 2 [(0, .ref a0), (1, .int x1)] := hl
  unfold wp_X11_codeOf at hp
  exact t_X11_codeOf_0 F hr hlocks hK hl0 hexc hp hW wX.rf (lv_sub hl [0, 1] rfl) hL_a0 hK_a0
def wp_X1_gamesWith_23 (D : wD) (post : Int32 → wS → Prop)  (S : wS) (t0 : Int32) : Prop :=
post t0 S
def wp_X1_gamesWith_22 (D : wD) (post : Int32 → wS → Prop)  (S : wS) : Prop :=
wp_X1_gamesWith_23 D post S (0 : Int32)
def wp_X1_gamesWith_0 (D : wD) (post : Int32 → wS → Prop)  (S : wS) (a0 : Nat) (x1 : Int32) : Prop :=
((x1 < 0 → wp_X1_gamesWith_22 D post S) ∧
 (¬ x1 < 0 → ∃ y_2 : Nat, sR S a0 1 = some y_2 ∧ wM D S y_2 ∧ sK S y_2 = 21 ∧
(((Int32.ofNat (sN S y_2)) ≤ x1 → wp_X1_gamesWith_22 D post S) ∧
 (¬ (Int32.ofNat (sN S y_2)) ≤ x1 → ∃ y_4 : Nat, sR S a0 1 = some y_4 ∧ wM D S y_4 ∧ sK S y_4 = 21 ∧
vp_in x1 (sN S y_4) ∧
wp_X1_gamesWith_23 D post S (sI S y_4 (x1).toNatClampNeg)))))
abbrev r_X1_gamesWith : Room := { frames := 0, cells := 0, slots := 0, locals := 0 }
def wp_X1_gamesWith (D : wD) (post : Int32 → wS → Prop) (S : wS) (a0 : Nat) (x1 : Int32) : Prop := wp_X1_gamesWith_0 D post S a0 x1
set_option maxHeartbeats 4000000 in
set_option maxRecDepth 100000 in
theorem t_X1_gamesWith_23 {p : Program} {l : Launch} {e : Env} {s : State} {m : MethodId} {args : Array Value} {below : List Frame} {meth : Method} {c : Code} {D : wD} {cy : Nat → ClassId} {X : va_W} {A : Nat → Prop} {S0 : wS} {post : Int32 → wS → Prop} (F : CallFix p m c cX1_gamesWith 2 s args wz_X1_gamesWith RX1) (hr : meth.sig.returnType = (some .int)) (hlocks : meth.locks = false) (hK : wK D cy A s) : ∀ {S : wS} {H : Heap} {locs : List Loc} {ls : Array Slot} {t0 : Int32}, wp_X1_gamesWith_23 D post S t0 → wO D cy X A s.heap S H locs → wX D S0 S → lv_has ls 2 [] → W p l e r_X1_gamesWith s m args below meth c H locs 0 0 (MQ below (va_Qi (fun r S9 => wX D S0 S9 ∧ post r S9) (wB D cy X A) A) args s 0 0 A) (F0 m 23 ls [.int t0]) := by
  obtain ⟨hx, hb, hml, hown, hts⟩ := id F
  have hwg : ∀ w ∈ WG, w.before args s = true := fun w h => hts w (List.mem_cons_of_mem _ h)
  intro S H locs ls t0 hp hW hE hl
  unfold wp_X1_gamesWith_23 at hp
  exact w_iret hx hb hr hlocks hW ⟨hE, hp⟩ dX1_gamesWith_23
set_option maxHeartbeats 4000000 in
set_option maxRecDepth 100000 in
theorem t_X1_gamesWith_22 {p : Program} {l : Launch} {e : Env} {s : State} {m : MethodId} {args : Array Value} {below : List Frame} {meth : Method} {c : Code} {D : wD} {cy : Nat → ClassId} {X : va_W} {A : Nat → Prop} {S0 : wS} {post : Int32 → wS → Prop} (F : CallFix p m c cX1_gamesWith 2 s args wz_X1_gamesWith RX1) (hr : meth.sig.returnType = (some .int)) (hlocks : meth.locks = false) (hK : wK D cy A s) : ∀ {S : wS} {H : Heap} {locs : List Loc} {ls : Array Slot}, wp_X1_gamesWith_22 D post S → wO D cy X A s.heap S H locs → wX D S0 S → lv_has ls 2 [] → W p l e r_X1_gamesWith s m args below meth c H locs 0 0 (MQ below (va_Qi (fun r S9 => wX D S0 S9 ∧ post r S9) (wB D cy X A) A) args s 0 0 A) (F0 m 22 ls []) := by
  obtain ⟨hx, hb, hml, hown, hts⟩ := id F
  have hwg : ∀ w ∈ WG, w.before args s = true := fun w h => hts w (List.mem_cons_of_mem _ h)
  intro S H locs ls hp hW hE hl
  unfold wp_X1_gamesWith_22 at hp
  refine lv_iconst (v := 0) hx hb dX1_gamesWith_22 (by decide) ?_
  exact t_X1_gamesWith_23 F hr hlocks hK hp hW hE (lv_sub hl [] rfl)
set_option maxHeartbeats 4000000 in
set_option maxRecDepth 100000 in
theorem t_X1_gamesWith_0 {p : Program} {l : Launch} {e : Env} {s : State} {m : MethodId} {args : Array Value} {below : List Frame} {meth : Method} {c : Code} {D : wD} {cy : Nat → ClassId} {X : va_W} {A : Nat → Prop} {S0 : wS} {post : Int32 → wS → Prop} (F : CallFix p m c cX1_gamesWith 2 s args wz_X1_gamesWith RX1) (hr : meth.sig.returnType = (some .int)) (hlocks : meth.locks = false) (hK : wK D cy A s) : ∀ {S : wS} {H : Heap} {locs : List Loc} {ls : Array Slot} {a0 : Nat} {x1 : Int32}, wp_X1_gamesWith_0 D post S a0 x1 → wO D cy X A s.heap S H locs → wX D S0 S → lv_has ls 2 [(0, .ref a0), (1, .int x1)] → wM D S a0 → sK S a0 = 6 → W p l e r_X1_gamesWith s m args below meth c H locs 0 0 (MQ below (va_Qi (fun r S9 => wX D S0 S9 ∧ post r S9) (wB D cy X A) A) args s 0 0 A) (F0 m 0 ls []) := by
  obtain ⟨hx, hb, hml, hown, hts⟩ := id F
  have hwg : ∀ w ∈ WG, w.before args s = true := fun w h => hts w (List.mem_cons_of_mem _ h)
  have i_6 : ∀ w ∈ u_ws RX1 TX1 4, w ∈ wz_X1_gamesWith := fun w h => List.mem_cons_of_mem _ (wu_6 w h)
  have k_9 := hwg _ wf_RX1_9
  intro S H locs ls a0 x1 hp hW hE hl hL_a0 hK_a0
  unfold wp_X1_gamesWith_0 at hp
  refine lv_iload_n hx hb dX1_gamesWith_0 rfl (lv_at hl 1 rfl) ?_
  refine lv_if_lt (tgt := 22) hx hb dX1_gamesWith_1 (by decide) (fun c_1 => ?_) (fun c_1 => ?_)
  · replace hp := hp.1 c_1
    exact t_X1_gamesWith_22 F hr hlocks hK hp hW hE (lv_sub hl [] rfl)
  · replace hp := hp.2 c_1
    refine lv_iload_n hx hb dX1_gamesWith_4 rfl (lv_at hl 1 rfl) ?_
    refine lv_aload_n hx hb dX1_gamesWith_5 rfl (lv_at hl 0 rfl) ?_
    obtain ⟨y_2, ey_2, hL_y_2, hK_y_2, hp⟩ := hp
    refine w_get (k := 6) (f := 1) (T := TX1) (v := .ref y_2) F hK hW hL_a0 hK_a0 (by decide) rfl rfl (by decide) i_6 k_9 (by rw [show wv 6 1 S a0 = va_rf (sR S a0 1) from rfl, ey_2]; rfl) dX1_gamesWith_6 ?_
    refine w_len F hK hW hL_y_2 hK_y_2 (by decide) dX1_gamesWith_9 ?_
    refine lv_icmp_ge (tgt := 22) hx hb dX1_gamesWith_10 (by decide) (fun c_3 => ?_) (fun c_3 => ?_)
    · replace hp := hp.1 c_3
      exact t_X1_gamesWith_22 F hr hlocks hK hp hW hE (lv_sub hl [] rfl)
    · replace hp := hp.2 c_3
      refine lv_aload_n hx hb dX1_gamesWith_13 rfl (lv_at hl 0 rfl) ?_
      obtain ⟨y_4, ey_4, hL_y_4, hK_y_4, hp⟩ := hp
      refine w_get (k := 6) (f := 1) (T := TX1) (v := .ref y_4) F hK hW hL_a0 hK_a0 (by decide) rfl rfl (by decide) i_6 k_9 (by rw [show wv 6 1 S a0 = va_rf (sR S a0 1) from rfl, ey_4]; rfl) dX1_gamesWith_14 ?_
      refine lv_iload_n hx hb dX1_gamesWith_17 rfl (lv_at hl 1 rfl) ?_
      obtain ⟨h_5, hp⟩ := hp
      refine w_ild F hK hW hL_y_4 hK_y_4 h_5 dX1_gamesWith_18 ?_
      refine lv_goto (tgt := 23) hx hb dX1_gamesWith_19 (by decide) ?_
      exact t_X1_gamesWith_23 F hr hlocks hK hp hW hE (lv_sub hl [] rfl)
set_option maxHeartbeats 4000000 in
set_option maxRecDepth 100000 in
theorem c_X1_gamesWith (l : Launch) {D : wD} {cy : Nat → ClassId} {X : va_W} {S0 : wS} {post : Int32 → wS → Prop} {a0 : Nat} {x1 : Int32} (hL_a0 : wM D S0 a0) (hK_a0 : sK S0 a0 = 6) (hp : wp_X1_gamesWith D post S0 a0 x1) : mI D cy X l yX1_gamesWith wz_X1_gamesWith r_X1_gamesWith [.ref a0, .int x1] S0 (fun r S9 => wX D S0 S9 ∧ post r S9) := by
  intro sz
  refine Met.ofW (cc := cX1_gamesWith) (maxL := 2) (ret := (some .int)) (by decide) rfl ?_
  intro p e s m args below meth c s₁ B hml hv
  obtain ⟨rfl, hsz, hP, hK, hD0, hRO⟩ := hv
  have hts := atoms_spec (ws := wz_X1_gamesWith) B.pre
  have hown : s.vm.findClass RX1 = some m.cls := findClass_of_methodNamed B.named
  subst hsz
  have hD := hD0.self (sz := s.heap.size)
  have F : CallFix p m c cX1_gamesWith 2 s _ wz_X1_gamesWith RX1 := ⟨B.exec, B.bytes, hml, hown, hts⟩
  have hr := B.returns
  have hlocks := B.notSynchronized
  generalize hAe : va_A (wL cy X S0) s.heap.size = A at hD hK ⊢
  have hA : ∀ q, s.heap.size ≤ q → A q := fun q h => by rw [← hAe]; exact Or.inr h
  have hW : wO D cy X A s.heap S0 s.heap [] := ⟨hP, hD, va_S.rf, hA, hRO⟩
  have hl := lv_entry ([.ref a0, .int x1]) (n := 2) (Nat.le_of_ble_eq_true rfl)
  rw [lg_entry_eq]
  generalize (lg_sl ([.ref a0, .int x1]) ++ List.replicate (2 - (lg_sl ([.ref a0, .int x1])).length) Slot.unset).toArray = ls at hl ⊢
  have hl : lv_has ls 2 [(0, .ref a0), (1, .int x1)] := hl
  unfold wp_X1_gamesWith at hp
  exact t_X1_gamesWith_0 F hr hlocks hK hp hW wX.rf (lv_sub hl [0, 1] rfl) hL_a0 hK_a0
def wp_X1_letters_23 (D : wD) (post : Int64 → wS → Prop)  (S : wS) (t0 : Int64) : Prop :=
post t0 S
def wp_X1_letters_22 (D : wD) (post : Int64 → wS → Prop)  (S : wS) : Prop :=
wp_X1_letters_23 D post S (0 : Int64)
def wp_X1_letters_0 (D : wD) (post : Int64 → wS → Prop)  (S : wS) (a0 : Nat) (x1 : Int32) : Prop :=
((x1 < 0 → wp_X1_letters_22 D post S) ∧
 (¬ x1 < 0 → ∃ y_2 : Nat, sR S a0 3 = some y_2 ∧ wM D S y_2 ∧ sK S y_2 = 22 ∧
(((Int32.ofNat (sN S y_2)) ≤ x1 → wp_X1_letters_22 D post S) ∧
 (¬ (Int32.ofNat (sN S y_2)) ≤ x1 → ∃ y_4 : Nat, sR S a0 3 = some y_4 ∧ wM D S y_4 ∧ sK S y_4 = 22 ∧
vp_in x1 (sN S y_4) ∧
wp_X1_letters_23 D post S (sJ S y_4 (x1).toNatClampNeg)))))
abbrev r_X1_letters : Room := { frames := 0, cells := 0, slots := 0, locals := 0 }
def wp_X1_letters (D : wD) (post : Int64 → wS → Prop) (S : wS) (a0 : Nat) (x1 : Int32) : Prop := wp_X1_letters_0 D post S a0 x1
set_option maxHeartbeats 4000000 in
set_option maxRecDepth 100000 in
theorem t_X1_letters_23 {p : Program} {l : Launch} {e : Env} {s : State} {m : MethodId} {args : Array Value} {below : List Frame} {meth : Method} {c : Code} {D : wD} {cy : Nat → ClassId} {X : va_W} {A : Nat → Prop} {S0 : wS} {post : Int64 → wS → Prop} (F : CallFix p m c cX1_letters 2 s args wz_X1_letters RX1) (hr : meth.sig.returnType = (some .long)) (hlocks : meth.locks = false) (hK : wK D cy A s) : ∀ {S : wS} {H : Heap} {locs : List Loc} {ls : Array Slot} {t0 : Int64}, wp_X1_letters_23 D post S t0 → wO D cy X A s.heap S H locs → wX D S0 S → lv_has ls 2 [] → W p l e r_X1_letters s m args below meth c H locs 0 0 (MQ below (va_Ql (fun r S9 => wX D S0 S9 ∧ post r S9) (wB D cy X A) A) args s 0 0 A) (F0 m 23 ls [.long t0]) := by
  obtain ⟨hx, hb, hml, hown, hts⟩ := id F
  have hwg : ∀ w ∈ WG, w.before args s = true := fun w h => hts w (List.mem_cons_of_mem _ h)
  intro S H locs ls t0 hp hW hE hl
  unfold wp_X1_letters_23 at hp
  exact w_lret hx hb hr hlocks hW ⟨hE, hp⟩ dX1_letters_23
set_option maxHeartbeats 4000000 in
set_option maxRecDepth 100000 in
theorem t_X1_letters_22 {p : Program} {l : Launch} {e : Env} {s : State} {m : MethodId} {args : Array Value} {below : List Frame} {meth : Method} {c : Code} {D : wD} {cy : Nat → ClassId} {X : va_W} {A : Nat → Prop} {S0 : wS} {post : Int64 → wS → Prop} (F : CallFix p m c cX1_letters 2 s args wz_X1_letters RX1) (hr : meth.sig.returnType = (some .long)) (hlocks : meth.locks = false) (hK : wK D cy A s) : ∀ {S : wS} {H : Heap} {locs : List Loc} {ls : Array Slot}, wp_X1_letters_22 D post S → wO D cy X A s.heap S H locs → wX D S0 S → lv_has ls 2 [] → W p l e r_X1_letters s m args below meth c H locs 0 0 (MQ below (va_Ql (fun r S9 => wX D S0 S9 ∧ post r S9) (wB D cy X A) A) args s 0 0 A) (F0 m 22 ls []) := by
  obtain ⟨hx, hb, hml, hown, hts⟩ := id F
  have hwg : ∀ w ∈ WG, w.before args s = true := fun w h => hts w (List.mem_cons_of_mem _ h)
  intro S H locs ls hp hW hE hl
  unfold wp_X1_letters_22 at hp
  refine lv_lconst (v := 0) hx hb dX1_letters_22 (by decide) ?_
  exact t_X1_letters_23 F hr hlocks hK hp hW hE (lv_sub hl [] rfl)
set_option maxHeartbeats 4000000 in
set_option maxRecDepth 100000 in
theorem t_X1_letters_0 {p : Program} {l : Launch} {e : Env} {s : State} {m : MethodId} {args : Array Value} {below : List Frame} {meth : Method} {c : Code} {D : wD} {cy : Nat → ClassId} {X : va_W} {A : Nat → Prop} {S0 : wS} {post : Int64 → wS → Prop} (F : CallFix p m c cX1_letters 2 s args wz_X1_letters RX1) (hr : meth.sig.returnType = (some .long)) (hlocks : meth.locks = false) (hK : wK D cy A s) : ∀ {S : wS} {H : Heap} {locs : List Loc} {ls : Array Slot} {a0 : Nat} {x1 : Int32}, wp_X1_letters_0 D post S a0 x1 → wO D cy X A s.heap S H locs → wX D S0 S → lv_has ls 2 [(0, .ref a0), (1, .int x1)] → wM D S a0 → sK S a0 = 6 → W p l e r_X1_letters s m args below meth c H locs 0 0 (MQ below (va_Ql (fun r S9 => wX D S0 S9 ∧ post r S9) (wB D cy X A) A) args s 0 0 A) (F0 m 0 ls []) := by
  obtain ⟨hx, hb, hml, hown, hts⟩ := id F
  have hwg : ∀ w ∈ WG, w.before args s = true := fun w h => hts w (List.mem_cons_of_mem _ h)
  have i_6 : ∀ w ∈ u_ws RX1 TX1 4, w ∈ wz_X1_letters := fun w h => List.mem_cons_of_mem _ (wu_6 w h)
  have k_18 := hwg _ wf_RX1_18
  intro S H locs ls a0 x1 hp hW hE hl hL_a0 hK_a0
  unfold wp_X1_letters_0 at hp
  refine lv_iload_n hx hb dX1_letters_0 rfl (lv_at hl 1 rfl) ?_
  refine lv_if_lt (tgt := 22) hx hb dX1_letters_1 (by decide) (fun c_1 => ?_) (fun c_1 => ?_)
  · replace hp := hp.1 c_1
    exact t_X1_letters_22 F hr hlocks hK hp hW hE (lv_sub hl [] rfl)
  · replace hp := hp.2 c_1
    refine lv_iload_n hx hb dX1_letters_4 rfl (lv_at hl 1 rfl) ?_
    refine lv_aload_n hx hb dX1_letters_5 rfl (lv_at hl 0 rfl) ?_
    obtain ⟨y_2, ey_2, hL_y_2, hK_y_2, hp⟩ := hp
    refine w_get (k := 6) (f := 3) (T := TX1) (v := .ref y_2) F hK hW hL_a0 hK_a0 (by decide) rfl rfl (by decide) i_6 k_18 (by rw [show wv 6 3 S a0 = va_rf (sR S a0 3) from rfl, ey_2]; rfl) dX1_letters_6 ?_
    refine w_len F hK hW hL_y_2 hK_y_2 (by decide) dX1_letters_9 ?_
    refine lv_icmp_ge (tgt := 22) hx hb dX1_letters_10 (by decide) (fun c_3 => ?_) (fun c_3 => ?_)
    · replace hp := hp.1 c_3
      exact t_X1_letters_22 F hr hlocks hK hp hW hE (lv_sub hl [] rfl)
    · replace hp := hp.2 c_3
      refine lv_aload_n hx hb dX1_letters_13 rfl (lv_at hl 0 rfl) ?_
      obtain ⟨y_4, ey_4, hL_y_4, hK_y_4, hp⟩ := hp
      refine w_get (k := 6) (f := 3) (T := TX1) (v := .ref y_4) F hK hW hL_a0 hK_a0 (by decide) rfl rfl (by decide) i_6 k_18 (by rw [show wv 6 3 S a0 = va_rf (sR S a0 3) from rfl, ey_4]; rfl) dX1_letters_14 ?_
      refine lv_iload_n hx hb dX1_letters_17 rfl (lv_at hl 1 rfl) ?_
      obtain ⟨h_5, hp⟩ := hp
      refine w_lld F hK hW hL_y_4 hK_y_4 h_5 dX1_letters_18 ?_
      refine lv_goto (tgt := 23) hx hb dX1_letters_19 (by decide) ?_
      exact t_X1_letters_23 F hr hlocks hK hp hW hE (lv_sub hl [] rfl)
set_option maxHeartbeats 4000000 in
set_option maxRecDepth 100000 in
theorem c_X1_letters (l : Launch) {D : wD} {cy : Nat → ClassId} {X : va_W} {S0 : wS} {post : Int64 → wS → Prop} {a0 : Nat} {x1 : Int32} (hL_a0 : wM D S0 a0) (hK_a0 : sK S0 a0 = 6) (hp : wp_X1_letters D post S0 a0 x1) : mJ D cy X l yX1_letters wz_X1_letters r_X1_letters [.ref a0, .int x1] S0 (fun r S9 => wX D S0 S9 ∧ post r S9) := by
  intro sz
  refine Met.ofW (cc := cX1_letters) (maxL := 2) (ret := (some .long)) (by decide) rfl ?_
  intro p e s m args below meth c s₁ B hml hv
  obtain ⟨rfl, hsz, hP, hK, hD0, hRO⟩ := hv
  have hts := atoms_spec (ws := wz_X1_letters) B.pre
  have hown : s.vm.findClass RX1 = some m.cls := findClass_of_methodNamed B.named
  subst hsz
  have hD := hD0.self (sz := s.heap.size)
  have F : CallFix p m c cX1_letters 2 s _ wz_X1_letters RX1 := ⟨B.exec, B.bytes, hml, hown, hts⟩
  have hr := B.returns
  have hlocks := B.notSynchronized
  generalize hAe : va_A (wL cy X S0) s.heap.size = A at hD hK ⊢
  have hA : ∀ q, s.heap.size ≤ q → A q := fun q h => by rw [← hAe]; exact Or.inr h
  have hW : wO D cy X A s.heap S0 s.heap [] := ⟨hP, hD, va_S.rf, hA, hRO⟩
  have hl := lv_entry ([.ref a0, .int x1]) (n := 2) (Nat.le_of_ble_eq_true rfl)
  rw [lg_entry_eq]
  generalize (lg_sl ([.ref a0, .int x1]) ++ List.replicate (2 - (lg_sl ([.ref a0, .int x1])).length) Slot.unset).toArray = ls at hl ⊢
  have hl : lv_has ls 2 [(0, .ref a0), (1, .int x1)] := hl
  unfold wp_X1_letters at hp
  exact t_X1_letters_0 F hr hlocks hK hp hW wX.rf (lv_sub hl [0, 1] rfl) hL_a0 hK_a0
def wp_X1_before_43 (D : wD) (post : Int32 → wS → Prop) (k_4 : wS → Nat → Int32 → Int32 → Int32 → Prop) (S : wS) (a0 : Nat) (x1 : Int32) (x3 : Int32) (t0 : Int32) (t1 : Int32) : Prop :=
∀ x_1 : Int32, x_1 = (t0 + t1) →
∀ x_2 : Int32, x_2 = x3 + 1 →
k_4 S a0 x1 x_1 x_2
def wp_X1_before_42 (D : wD) (post : Int32 → wS → Prop) (k_4 : wS → Nat → Int32 → Int32 → Int32 → Prop) (S : wS) (a0 : Nat) (x1 : Int32) (x3 : Int32) (t0 : Int32) : Prop :=
wp_X1_before_43 D post k_4 S a0 x1 x3 t0 (0 : Int32)
def wp_X1_before_4 (D : wD) (post : Int32 → wS → Prop)  : Nat → wS → Nat → Int32 → Int32 → Int32 → Prop
  | 0, _, _, _, _, _ => False
  | n + 1, S, a0, x1, x2, x3 =>
    ∃ y_1 : Nat, sR S a0 0 = some y_1 ∧ wM D S y_1 ∧ sK S y_1 = 9 ∧
    (((sI S y_1 7) ≤ x3 → post x2 S) ∧
     (¬ (sI S y_1 7) ≤ x3 → wp_X1_gamesWith D (fun r_3 S_4 => 
    ((r_3 ≤ 0 → wp_X1_before_42 D post (wp_X1_before_4 D post n) S_4 a0 x1 x3 x2) ∧
     (¬ r_3 ≤ 0 → wp_X1_letters D (fun r_6 S_7 => 
    wp_X1_letters D (fun r_8 S_9 => 
    ((0 ≤ (lg_cmp r_6 r_8) → wp_X1_before_42 D post (wp_X1_before_4 D post n) S_9 a0 x1 x3 x2) ∧
     (¬ 0 ≤ (lg_cmp r_6 r_8) → wp_X1_before_43 D post (wp_X1_before_4 D post n) S_9 a0 x1 x3 x2 (1 : Int32)))) S_7 a0 x1) S_4 a0 x3))) S a0 x3))
def wp_X1_before_0 (D : wD) (post : Int32 → wS → Prop)  (S : wS) (a0 : Nat) (x1 : Int32) : Prop :=
∃ n_1 : Nat, wp_X1_before_4 D post n_1 S a0 x1 (0 : Int32) (0 : Int32)
abbrev r_X1_before : Room := { frames := 1, cells := 0, slots := 0, locals := 21 }
def wp_X1_before (D : wD) (post : Int32 → wS → Prop) (S : wS) (a0 : Nat) (x1 : Int32) : Prop := wp_X1_before_0 D post S a0 x1
set_option maxHeartbeats 4000000 in
set_option maxRecDepth 100000 in
theorem t_X1_before_43 {p : Program} {l : Launch} {e : Env} {s : State} {m : MethodId} {args : Array Value} {below : List Frame} {meth : Method} {c : Code} {D : wD} {cy : Nat → ClassId} {X : va_W} {A : Nat → Prop} {S0 : wS} {post : Int32 → wS → Prop} (F : CallFix p m c cX1_before 4 s args wz_X1_before RX1) (hr : meth.sig.returnType = (some .int)) (hlocks : meth.locks = false) (hK : wK D cy A s) {k_4 : wS → Nat → Int32 → Int32 → Int32 → Prop} (q_4 : ∀ {S : wS} {H : Heap} {locs : List Loc} {ls : Array Slot} {a0 : Nat} {x1 : Int32} {x2 : Int32} {x3 : Int32}, k_4 S a0 x1 x2 x3 → wO D cy X A s.heap S H locs → wX D S0 S → lv_has ls 4 [(0, .ref a0), (1, .int x1), (2, .int x2), (3, .int x3)] → wM D S a0 → sK S a0 = 6 → W p l e r_X1_before s m args below meth c H locs 0 0 (MQ below (va_Qi (fun r S9 => wX D S0 S9 ∧ post r S9) (wB D cy X A) A) args s 0 0 A) (F0 m 4 ls [])) : ∀ {S : wS} {H : Heap} {locs : List Loc} {ls : Array Slot} {a0 : Nat} {x1 : Int32} {x3 : Int32} {t0 : Int32} {t1 : Int32}, wp_X1_before_43 D post k_4 S a0 x1 x3 t0 t1 → wO D cy X A s.heap S H locs → wX D S0 S → lv_has ls 4 [(0, .ref a0), (1, .int x1), (3, .int x3)] → wM D S a0 → sK S a0 = 6 → W p l e r_X1_before s m args below meth c H locs 0 0 (MQ below (va_Qi (fun r S9 => wX D S0 S9 ∧ post r S9) (wB D cy X A) A) args s 0 0 A) (F0 m 43 ls [.int t1, .int t0]) := by
  obtain ⟨hx, hb, hml, hown, hts⟩ := id F
  have hwg : ∀ w ∈ WG, w.before args s = true := fun w h => hts w (List.mem_cons_of_mem _ h)
  intro S H locs ls a0 x1 x3 t0 t1 hp hW hE hl hL_a0 hK_a0
  unfold wp_X1_before_43 at hp
  refine lv_iadd hx hb dX1_before_43 ?_
  refine lv_topi (fun x_1 ex_1 => ?_)
  replace hp := hp x_1 ex_1
  refine lv_istore_n (lv' := [(2, .int x_1), (0, .ref a0), (1, .int x1), (3, .int x3)]) hx hb dX1_before_44 rfl hl (by decide) rfl (fun ls hl => ?_)
  obtain ⟨x_2, ex_2⟩ : ∃ z : Int32, z = x3 + 1 := ⟨_, rfl⟩
  replace hp := hp x_2 ex_2
  refine lv_iinc (v := x_2) (lv' := [(3, .int x_2), (2, .int x_1), (0, .ref a0), (1, .int x1)]) hx hb dX1_before_45 hl (k := 3) rfl (by rw [ex_2]; rfl) (by decide) rfl (fun ls hl => ?_)
  refine lv_goto (tgt := 4) hx hb dX1_before_48 (by decide) ?_
  exact q_4 hp hW hE (lv_sub hl [2, 3, 1, 0] rfl) hL_a0 hK_a0
set_option maxHeartbeats 4000000 in
set_option maxRecDepth 100000 in
theorem t_X1_before_42 {p : Program} {l : Launch} {e : Env} {s : State} {m : MethodId} {args : Array Value} {below : List Frame} {meth : Method} {c : Code} {D : wD} {cy : Nat → ClassId} {X : va_W} {A : Nat → Prop} {S0 : wS} {post : Int32 → wS → Prop} (F : CallFix p m c cX1_before 4 s args wz_X1_before RX1) (hr : meth.sig.returnType = (some .int)) (hlocks : meth.locks = false) (hK : wK D cy A s) {k_4 : wS → Nat → Int32 → Int32 → Int32 → Prop} (q_4 : ∀ {S : wS} {H : Heap} {locs : List Loc} {ls : Array Slot} {a0 : Nat} {x1 : Int32} {x2 : Int32} {x3 : Int32}, k_4 S a0 x1 x2 x3 → wO D cy X A s.heap S H locs → wX D S0 S → lv_has ls 4 [(0, .ref a0), (1, .int x1), (2, .int x2), (3, .int x3)] → wM D S a0 → sK S a0 = 6 → W p l e r_X1_before s m args below meth c H locs 0 0 (MQ below (va_Qi (fun r S9 => wX D S0 S9 ∧ post r S9) (wB D cy X A) A) args s 0 0 A) (F0 m 4 ls [])) : ∀ {S : wS} {H : Heap} {locs : List Loc} {ls : Array Slot} {a0 : Nat} {x1 : Int32} {x3 : Int32} {t0 : Int32}, wp_X1_before_42 D post k_4 S a0 x1 x3 t0 → wO D cy X A s.heap S H locs → wX D S0 S → lv_has ls 4 [(0, .ref a0), (1, .int x1), (3, .int x3)] → wM D S a0 → sK S a0 = 6 → W p l e r_X1_before s m args below meth c H locs 0 0 (MQ below (va_Qi (fun r S9 => wX D S0 S9 ∧ post r S9) (wB D cy X A) A) args s 0 0 A) (F0 m 42 ls [.int t0]) := by
  obtain ⟨hx, hb, hml, hown, hts⟩ := id F
  have hwg : ∀ w ∈ WG, w.before args s = true := fun w h => hts w (List.mem_cons_of_mem _ h)
  intro S H locs ls a0 x1 x3 t0 hp hW hE hl hL_a0 hK_a0
  unfold wp_X1_before_42 at hp
  refine lv_iconst (v := 0) hx hb dX1_before_42 (by decide) ?_
  exact t_X1_before_43 F hr hlocks hK q_4 hp hW hE (lv_sub hl [0, 1, 2] rfl) hL_a0 hK_a0
set_option maxHeartbeats 4000000 in
set_option maxRecDepth 100000 in
theorem t_X1_before_4 {p : Program} {l : Launch} {e : Env} {s : State} {m : MethodId} {args : Array Value} {below : List Frame} {meth : Method} {c : Code} {D : wD} {cy : Nat → ClassId} {X : va_W} {A : Nat → Prop} {S0 : wS} {post : Int32 → wS → Prop} (F : CallFix p m c cX1_before 4 s args wz_X1_before RX1) (hr : meth.sig.returnType = (some .int)) (hlocks : meth.locks = false) (hK : wK D cy A s) : ∀ (n : Nat) {S : wS} {H : Heap} {locs : List Loc} {ls : Array Slot} {a0 : Nat} {x1 : Int32} {x2 : Int32} {x3 : Int32}, wp_X1_before_4 D post n S a0 x1 x2 x3 → wO D cy X A s.heap S H locs → wX D S0 S → lv_has ls 4 [(0, .ref a0), (1, .int x1), (2, .int x2), (3, .int x3)] → wM D S a0 → sK S a0 = 6 → W p l e r_X1_before s m args below meth c H locs 0 0 (MQ below (va_Qi (fun r S9 => wX D S0 S9 ∧ post r S9) (wB D cy X A) A) args s 0 0 A) (F0 m 4 ls []) := by
  obtain ⟨hx, hb, hml, hown, hts⟩ := id F
  have hwg : ∀ w ∈ WG, w.before args s = true := fun w h => hts w (List.mem_cons_of_mem _ h)
  have i_6 : ∀ w ∈ u_ws RX1 TX1 4, w ∈ wz_X1_before := fun w h => List.mem_cons_of_mem _ (wu_6 w h)
  have i_9 : ∀ w ∈ u_ws RX4 TX4 8, w ∈ wz_X1_before := fun w h => List.mem_cons_of_mem _ (wu_9 w h)
  have k_22 := hwg _ wf_RX1_22
  intro n
  induction n with
  | zero =>
    intro S H locs ls a0 x1 x2 x3 hp
    exact hp.elim
  | succ n ih =>
    intro S H locs ls a0 x1 x2 x3 hp hW hE hl hL_a0 hK_a0
    unfold wp_X1_before_4 at hp
    refine lv_iload_n hx hb dX1_before_4 rfl (lv_at hl 3 rfl) ?_
    refine lv_aload_n hx hb dX1_before_5 rfl (lv_at hl 0 rfl) ?_
    obtain ⟨y_1, ey_1, hL_y_1, hK_y_1, hp⟩ := hp
    refine w_get (k := 6) (f := 0) (T := TX1) (v := .ref y_1) F hK hW hL_a0 hK_a0 (by decide) rfl rfl (by decide) i_6 k_22 (by rw [show wv 6 0 S a0 = va_rf (sR S a0 0) from rfl, ey_1]; rfl) dX1_before_6 ?_
    refine w_getN (k := 9) (f := 7) (T := TX4) (v := .int (sI S y_1 7)) F hK hW hL_y_1 hK_y_1 (by decide) rfl rfl (by decide) i_9 (hK.2.1 (.fieldLinkNest "OpeningsCabinet$Continuations" 74 "OpeningsCabinet$MoveList" "size" "I" "OpeningsCabinet") (by decide +kernel)) rfl dX1_before_9 ?_
    refine lv_icmp_ge (tgt := 51) hx hb dX1_before_12 (by decide) (fun c_2 => ?_) (fun c_2 => ?_)
    · replace hp := hp.1 c_2
      refine lv_iload_n hx hb dX1_before_51 rfl (lv_at hl 2 rfl) ?_
      exact w_iret hx hb hr hlocks hW ⟨hE, hp⟩ dX1_before_52
    · replace hp := hp.2 c_2
      refine lv_iload_n hx hb dX1_before_15 rfl (lv_at hl 2 rfl) ?_
      refine lv_aload_n hx hb dX1_before_16 rfl (lv_at hl 0 rfl) ?_
      refine lv_iload_n hx hb dX1_before_17 rfl (lv_at hl 3 rfl) ?_
      refine w_callI (va_runV (As := [.int x3]) (rest := [.int x2]) F (c_X1_gamesWith l hL_a0 hK_a0 hp H.size) (cwV (C := RX1) 1 hts (wg_V wm_RX1_76 wy_X1_gamesWith) rfl rfl rfl (by decide +kernel) ⟨Nat.le_of_ble_eq_true rfl, Nat.le_of_ble_eq_true rfl⟩) (w_preV hK hW hL_a0 hK_a0 (by decide) rfl) rfl rfl hl.1 rfl (lv_room (Nat.le_of_ble_eq_true rfl)) dX1_before_18 ⟨Nat.le_of_ble_eq_true rfl, Nat.le_of_ble_eq_true rfl⟩) hW (fun r_3 S_4 H locs hp hW => ?_)
      obtain ⟨hX_S_4, hp⟩ := hp
      refine W.widen (k := 0) (n := 0) (by decide) (by decide) ?_
      have hE := hE.trans hX_S_4
      have hK_a0 : sK S_4 a0 = 6 := (hX_S_4.2 a0 hL_a0).1.trans hK_a0
      have hL_a0 : wM D S_4 a0 := hX_S_4.M hL_a0
      refine lv_if_le (tgt := 42) hx hb dX1_before_21 (by decide) (fun c_5 => ?_) (fun c_5 => ?_)
      · replace hp := hp.1 c_5
        exact t_X1_before_42 F hr hlocks hK ih hp hW hE (lv_sub hl [0, 1, 3] rfl) hL_a0 hK_a0
      · replace hp := hp.2 c_5
        refine lv_aload_n hx hb dX1_before_24 rfl (lv_at hl 0 rfl) ?_
        refine lv_iload_n hx hb dX1_before_25 rfl (lv_at hl 3 rfl) ?_
        refine w_callJ (va_runV (As := [.int x3]) (rest := [.int x2]) F (c_X1_letters l hL_a0 hK_a0 hp H.size) (cwV (C := RX1) 1 hts (wg_V wm_RX1_90 wy_X1_letters) rfl rfl rfl (by decide +kernel) ⟨Nat.le_of_ble_eq_true rfl, Nat.le_of_ble_eq_true rfl⟩) (w_preV hK hW hL_a0 hK_a0 (by decide) rfl) rfl rfl hl.1 rfl (lv_room (Nat.le_of_ble_eq_true rfl)) dX1_before_26 ⟨Nat.le_of_ble_eq_true rfl, Nat.le_of_ble_eq_true rfl⟩) hW (fun r_6 S_7 H locs hp hW => ?_)
        obtain ⟨hX_S_7, hp⟩ := hp
        refine W.widen (k := 0) (n := 0) (by decide) (by decide) ?_
        have hE := hE.trans hX_S_7
        have hK_a0 : sK S_7 a0 = 6 := (hX_S_7.2 a0 hL_a0).1.trans hK_a0
        have hL_a0 : wM D S_7 a0 := hX_S_7.M hL_a0
        refine lv_aload_n hx hb dX1_before_29 rfl (lv_at hl 0 rfl) ?_
        refine lv_iload_n hx hb dX1_before_30 rfl (lv_at hl 1 rfl) ?_
        refine w_callJ (va_runV (As := [.int x1]) (rest := [.long r_6, .int x2]) F (c_X1_letters l hL_a0 hK_a0 hp H.size) (cwV (C := RX1) 1 hts (wg_V wm_RX1_90 wy_X1_letters) rfl rfl rfl (by decide +kernel) ⟨Nat.le_of_ble_eq_true rfl, Nat.le_of_ble_eq_true rfl⟩) (w_preV hK hW hL_a0 hK_a0 (by decide) rfl) rfl rfl hl.1 rfl (lv_room (Nat.le_of_ble_eq_true rfl)) dX1_before_31 ⟨Nat.le_of_ble_eq_true rfl, Nat.le_of_ble_eq_true rfl⟩) hW (fun r_8 S_9 H locs hp hW => ?_)
        obtain ⟨hX_S_9, hp⟩ := hp
        refine W.widen (k := 0) (n := 0) (by decide) (by decide) ?_
        have hE := hE.trans hX_S_9
        have hK_a0 : sK S_9 a0 = 6 := (hX_S_9.2 a0 hL_a0).1.trans hK_a0
        have hL_a0 : wM D S_9 a0 := hX_S_9.M hL_a0
        refine W.lcmp hx hb dX1_before_34 ?_
        refine lv_if_ge (tgt := 42) hx hb dX1_before_35 (by decide) (fun c_10 => ?_) (fun c_10 => ?_)
        · replace hp := hp.1 c_10
          exact t_X1_before_42 F hr hlocks hK ih hp hW hE (lv_sub hl [0, 1, 3] rfl) hL_a0 hK_a0
        · replace hp := hp.2 c_10
          refine lv_iconst (v := 1) hx hb dX1_before_38 (by decide) ?_
          refine lv_goto (tgt := 43) hx hb dX1_before_39 (by decide) ?_
          exact t_X1_before_43 F hr hlocks hK ih hp hW hE (lv_sub hl [0, 1, 3] rfl) hL_a0 hK_a0
set_option maxHeartbeats 4000000 in
set_option maxRecDepth 100000 in
theorem t_X1_before_0 {p : Program} {l : Launch} {e : Env} {s : State} {m : MethodId} {args : Array Value} {below : List Frame} {meth : Method} {c : Code} {D : wD} {cy : Nat → ClassId} {X : va_W} {A : Nat → Prop} {S0 : wS} {post : Int32 → wS → Prop} (F : CallFix p m c cX1_before 4 s args wz_X1_before RX1) (hr : meth.sig.returnType = (some .int)) (hlocks : meth.locks = false) (hK : wK D cy A s) : ∀ {S : wS} {H : Heap} {locs : List Loc} {ls : Array Slot} {a0 : Nat} {x1 : Int32}, wp_X1_before_0 D post S a0 x1 → wO D cy X A s.heap S H locs → wX D S0 S → lv_has ls 4 [(0, .ref a0), (1, .int x1)] → wM D S a0 → sK S a0 = 6 → W p l e r_X1_before s m args below meth c H locs 0 0 (MQ below (va_Qi (fun r S9 => wX D S0 S9 ∧ post r S9) (wB D cy X A) A) args s 0 0 A) (F0 m 0 ls []) := by
  obtain ⟨hx, hb, hml, hown, hts⟩ := id F
  have hwg : ∀ w ∈ WG, w.before args s = true := fun w h => hts w (List.mem_cons_of_mem _ h)
  intro S H locs ls a0 x1 hp hW hE hl hL_a0 hK_a0
  unfold wp_X1_before_0 at hp
  refine lv_iconst (v := 0) hx hb dX1_before_0 (by decide) ?_
  refine lv_istore_n (lv' := [(2, .int (0 : Int32)), (0, .ref a0), (1, .int x1)]) hx hb dX1_before_1 rfl hl (by decide) rfl (fun ls hl => ?_)
  refine lv_iconst (v := 0) hx hb dX1_before_2 (by decide) ?_
  refine lv_istore_n (lv' := [(3, .int (0 : Int32)), (2, .int (0 : Int32)), (0, .ref a0), (1, .int x1)]) hx hb dX1_before_3 rfl hl (by decide) rfl (fun ls hl => ?_)
  obtain ⟨n_1, hp⟩ := hp
  exact t_X1_before_4 F hr hlocks hK n_1 hp hW hE (lv_sub hl [2, 3, 1, 0] rfl) hL_a0 hK_a0
set_option maxHeartbeats 4000000 in
set_option maxRecDepth 100000 in
theorem c_X1_before (l : Launch) {D : wD} {cy : Nat → ClassId} {X : va_W} {S0 : wS} {post : Int32 → wS → Prop} {a0 : Nat} {x1 : Int32} (hL_a0 : wM D S0 a0) (hK_a0 : sK S0 a0 = 6) (hp : wp_X1_before D post S0 a0 x1) : mI D cy X l yX1_before wz_X1_before r_X1_before [.ref a0, .int x1] S0 (fun r S9 => wX D S0 S9 ∧ post r S9) := by
  intro sz
  refine Met.ofW (cc := cX1_before) (maxL := 4) (ret := (some .int)) (by decide) rfl ?_
  intro p e s m args below meth c s₁ B hml hv
  obtain ⟨rfl, hsz, hP, hK, hD0, hRO⟩ := hv
  have hts := atoms_spec (ws := wz_X1_before) B.pre
  have hown : s.vm.findClass RX1 = some m.cls := findClass_of_methodNamed B.named
  subst hsz
  have hD := hD0.self (sz := s.heap.size)
  have F : CallFix p m c cX1_before 4 s _ wz_X1_before RX1 := ⟨B.exec, B.bytes, hml, hown, hts⟩
  have hr := B.returns
  have hlocks := B.notSynchronized
  generalize hAe : va_A (wL cy X S0) s.heap.size = A at hD hK ⊢
  have hA : ∀ q, s.heap.size ≤ q → A q := fun q h => by rw [← hAe]; exact Or.inr h
  have hW : wO D cy X A s.heap S0 s.heap [] := ⟨hP, hD, va_S.rf, hA, hRO⟩
  have hl := lv_entry ([.ref a0, .int x1]) (n := 4) (Nat.le_of_ble_eq_true rfl)
  rw [lg_entry_eq]
  generalize (lg_sl ([.ref a0, .int x1]) ++ List.replicate (4 - (lg_sl ([.ref a0, .int x1])).length) Slot.unset).toArray = ls at hl ⊢
  have hl : lv_has ls 4 [(0, .ref a0), (1, .int x1)] := hl
  unfold wp_X1_before at hp
  exact t_X1_before_0 F hr hlocks hK hp hW wX.rf (lv_sub hl [0, 1] rfl) hL_a0 hK_a0
def wp_X1_moveAt_32 (D : wD) (post : Int32 → wS → Prop) (k_2 : wS → Nat → Int32 → Int32 → Prop) (S : wS) (a0 : Nat) (x1 : Int32) (x2 : Int32) : Prop :=
∀ x_1 : Int32, x_1 = x2 + 1 →
k_2 S a0 x1 x_1
def wp_X1_moveAt_2 (D : wD) (post : Int32 → wS → Prop)  : Nat → wS → Nat → Int32 → Int32 → Prop
  | 0, _, _, _, _ => False
  | n + 1, S, a0, x1, x2 =>
    ∃ y_1 : Nat, sR S a0 0 = some y_1 ∧ wM D S y_1 ∧ sK S y_1 = 9 ∧
    (((sI S y_1 7) ≤ x2 → post (-1 : Int32) S) ∧
     (¬ (sI S y_1 7) ≤ x2 → wp_X1_gamesWith D (fun r_3 S_4 => 
    ((r_3 ≤ 0 → wp_X1_moveAt_32 D post (wp_X1_moveAt_2 D post n) S_4 a0 x1 x2) ∧
     (¬ r_3 ≤ 0 → wp_X1_before D (fun r_6 S_7 => 
    ((¬ r_6 = x1 → wp_X1_moveAt_32 D post (wp_X1_moveAt_2 D post n) S_7 a0 x1 x2) ∧
     (r_6 = x1 → post x2 S_7))) S_4 a0 x2))) S a0 x2))
def wp_X1_moveAt_0 (D : wD) (post : Int32 → wS → Prop)  (S : wS) (a0 : Nat) (x1 : Int32) : Prop :=
∃ n_1 : Nat, wp_X1_moveAt_2 D post n_1 S a0 x1 (0 : Int32)
abbrev r_X1_moveAt : Room := { frames := 2, cells := 0, slots := 0, locals := 44 }
def wp_X1_moveAt (D : wD) (post : Int32 → wS → Prop) (S : wS) (a0 : Nat) (x1 : Int32) : Prop := wp_X1_moveAt_0 D post S a0 x1
set_option maxHeartbeats 4000000 in
set_option maxRecDepth 100000 in
theorem t_X1_moveAt_32 {p : Program} {l : Launch} {e : Env} {s : State} {m : MethodId} {args : Array Value} {below : List Frame} {meth : Method} {c : Code} {D : wD} {cy : Nat → ClassId} {X : va_W} {A : Nat → Prop} {S0 : wS} {post : Int32 → wS → Prop} (F : CallFix p m c cX1_moveAt 3 s args wz_X1_moveAt RX1) (hr : meth.sig.returnType = (some .int)) (hlocks : meth.locks = false) (hK : wK D cy A s) {k_2 : wS → Nat → Int32 → Int32 → Prop} (q_2 : ∀ {S : wS} {H : Heap} {locs : List Loc} {ls : Array Slot} {a0 : Nat} {x1 : Int32} {x2 : Int32}, k_2 S a0 x1 x2 → wO D cy X A s.heap S H locs → wX D S0 S → lv_has ls 3 [(0, .ref a0), (1, .int x1), (2, .int x2)] → wM D S a0 → sK S a0 = 6 → W p l e r_X1_moveAt s m args below meth c H locs 0 0 (MQ below (va_Qi (fun r S9 => wX D S0 S9 ∧ post r S9) (wB D cy X A) A) args s 0 0 A) (F0 m 2 ls [])) : ∀ {S : wS} {H : Heap} {locs : List Loc} {ls : Array Slot} {a0 : Nat} {x1 : Int32} {x2 : Int32}, wp_X1_moveAt_32 D post k_2 S a0 x1 x2 → wO D cy X A s.heap S H locs → wX D S0 S → lv_has ls 3 [(0, .ref a0), (1, .int x1), (2, .int x2)] → wM D S a0 → sK S a0 = 6 → W p l e r_X1_moveAt s m args below meth c H locs 0 0 (MQ below (va_Qi (fun r S9 => wX D S0 S9 ∧ post r S9) (wB D cy X A) A) args s 0 0 A) (F0 m 32 ls []) := by
  obtain ⟨hx, hb, hml, hown, hts⟩ := id F
  have hwg : ∀ w ∈ WG, w.before args s = true := fun w h => hts w (List.mem_cons_of_mem _ h)
  intro S H locs ls a0 x1 x2 hp hW hE hl hL_a0 hK_a0
  unfold wp_X1_moveAt_32 at hp
  obtain ⟨x_1, ex_1⟩ : ∃ z : Int32, z = x2 + 1 := ⟨_, rfl⟩
  replace hp := hp x_1 ex_1
  refine lv_iinc (v := x_1) (lv' := [(2, .int x_1), (0, .ref a0), (1, .int x1)]) hx hb dX1_moveAt_32 hl (k := 2) rfl (by rw [ex_1]; rfl) (by decide) rfl (fun ls hl => ?_)
  refine lv_goto (tgt := 2) hx hb dX1_moveAt_35 (by decide) ?_
  exact q_2 hp hW hE (lv_sub hl [1, 2, 0] rfl) hL_a0 hK_a0
set_option maxHeartbeats 4000000 in
set_option maxRecDepth 100000 in
theorem t_X1_moveAt_2 {p : Program} {l : Launch} {e : Env} {s : State} {m : MethodId} {args : Array Value} {below : List Frame} {meth : Method} {c : Code} {D : wD} {cy : Nat → ClassId} {X : va_W} {A : Nat → Prop} {S0 : wS} {post : Int32 → wS → Prop} (F : CallFix p m c cX1_moveAt 3 s args wz_X1_moveAt RX1) (hr : meth.sig.returnType = (some .int)) (hlocks : meth.locks = false) (hK : wK D cy A s) : ∀ (n : Nat) {S : wS} {H : Heap} {locs : List Loc} {ls : Array Slot} {a0 : Nat} {x1 : Int32} {x2 : Int32}, wp_X1_moveAt_2 D post n S a0 x1 x2 → wO D cy X A s.heap S H locs → wX D S0 S → lv_has ls 3 [(0, .ref a0), (1, .int x1), (2, .int x2)] → wM D S a0 → sK S a0 = 6 → W p l e r_X1_moveAt s m args below meth c H locs 0 0 (MQ below (va_Qi (fun r S9 => wX D S0 S9 ∧ post r S9) (wB D cy X A) A) args s 0 0 A) (F0 m 2 ls []) := by
  obtain ⟨hx, hb, hml, hown, hts⟩ := id F
  have hwg : ∀ w ∈ WG, w.before args s = true := fun w h => hts w (List.mem_cons_of_mem _ h)
  have i_6 : ∀ w ∈ u_ws RX1 TX1 4, w ∈ wz_X1_moveAt := fun w h => List.mem_cons_of_mem _ (wu_6 w h)
  have i_9 : ∀ w ∈ u_ws RX4 TX4 8, w ∈ wz_X1_moveAt := fun w h => List.mem_cons_of_mem _ (wu_9 w h)
  have k_22 := hwg _ wf_RX1_22
  intro n
  induction n with
  | zero =>
    intro S H locs ls a0 x1 x2 hp
    exact hp.elim
  | succ n ih =>
    intro S H locs ls a0 x1 x2 hp hW hE hl hL_a0 hK_a0
    unfold wp_X1_moveAt_2 at hp
    refine lv_iload_n hx hb dX1_moveAt_2 rfl (lv_at hl 2 rfl) ?_
    refine lv_aload_n hx hb dX1_moveAt_3 rfl (lv_at hl 0 rfl) ?_
    obtain ⟨y_1, ey_1, hL_y_1, hK_y_1, hp⟩ := hp
    refine w_get (k := 6) (f := 0) (T := TX1) (v := .ref y_1) F hK hW hL_a0 hK_a0 (by decide) rfl rfl (by decide) i_6 k_22 (by rw [show wv 6 0 S a0 = va_rf (sR S a0 0) from rfl, ey_1]; rfl) dX1_moveAt_4 ?_
    refine w_getN (k := 9) (f := 7) (T := TX4) (v := .int (sI S y_1 7)) F hK hW hL_y_1 hK_y_1 (by decide) rfl rfl (by decide) i_9 (hK.2.1 (.fieldLinkNest "OpeningsCabinet$Continuations" 74 "OpeningsCabinet$MoveList" "size" "I" "OpeningsCabinet") (by decide +kernel)) rfl dX1_moveAt_7 ?_
    refine lv_icmp_ge (tgt := 38) hx hb dX1_moveAt_10 (by decide) (fun c_2 => ?_) (fun c_2 => ?_)
    · replace hp := hp.1 c_2
      refine lv_iconst (v := (-1)) hx hb dX1_moveAt_38 (by decide) ?_
      exact w_iret hx hb hr hlocks hW ⟨hE, hp⟩ dX1_moveAt_39
    · replace hp := hp.2 c_2
      refine lv_aload_n hx hb dX1_moveAt_13 rfl (lv_at hl 0 rfl) ?_
      refine lv_iload_n hx hb dX1_moveAt_14 rfl (lv_at hl 2 rfl) ?_
      refine w_callI (va_runV (As := [.int x2]) (rest := []) F (c_X1_gamesWith l hL_a0 hK_a0 hp H.size) (cwV (C := RX1) 1 hts (wg_V wm_RX1_76 wy_X1_gamesWith) rfl rfl rfl (by decide +kernel) ⟨Nat.le_of_ble_eq_true rfl, Nat.le_of_ble_eq_true rfl⟩) (w_preV hK hW hL_a0 hK_a0 (by decide) rfl) rfl rfl hl.1 rfl (lv_room (Nat.le_of_ble_eq_true rfl)) dX1_moveAt_15 ⟨Nat.le_of_ble_eq_true rfl, Nat.le_of_ble_eq_true rfl⟩) hW (fun r_3 S_4 H locs hp hW => ?_)
      obtain ⟨hX_S_4, hp⟩ := hp
      refine W.widen (k := 0) (n := 0) (by decide) (by decide) ?_
      have hE := hE.trans hX_S_4
      have hK_a0 : sK S_4 a0 = 6 := (hX_S_4.2 a0 hL_a0).1.trans hK_a0
      have hL_a0 : wM D S_4 a0 := hX_S_4.M hL_a0
      refine lv_if_le (tgt := 32) hx hb dX1_moveAt_18 (by decide) (fun c_5 => ?_) (fun c_5 => ?_)
      · replace hp := hp.1 c_5
        exact t_X1_moveAt_32 F hr hlocks hK ih hp hW hE (lv_sub hl [0, 1, 2] rfl) hL_a0 hK_a0
      · replace hp := hp.2 c_5
        refine lv_aload_n hx hb dX1_moveAt_21 rfl (lv_at hl 0 rfl) ?_
        refine lv_iload_n hx hb dX1_moveAt_22 rfl (lv_at hl 2 rfl) ?_
        refine w_callI (va_runV (As := [.int x2]) (rest := []) F (c_X1_before l hL_a0 hK_a0 hp H.size) (cwV (C := RX1) 1 hts (wg_V wm_RX1_87 wy_X1_before) rfl rfl rfl (by decide +kernel) ⟨Nat.le_of_ble_eq_true rfl, Nat.le_of_ble_eq_true rfl⟩) (w_preV hK hW hL_a0 hK_a0 (by decide) rfl) rfl rfl hl.1 rfl (lv_room (Nat.le_of_ble_eq_true rfl)) dX1_moveAt_23 ⟨Nat.le_of_ble_eq_true rfl, Nat.le_of_ble_eq_true rfl⟩) hW (fun r_6 S_7 H locs hp hW => ?_)
        obtain ⟨hX_S_7, hp⟩ := hp
        refine W.widen (k := 0) (n := 0) (by decide) (by decide) ?_
        have hE := hE.trans hX_S_7
        have hK_a0 : sK S_7 a0 = 6 := (hX_S_7.2 a0 hL_a0).1.trans hK_a0
        have hL_a0 : wM D S_7 a0 := hX_S_7.M hL_a0
        refine lv_iload_n hx hb dX1_moveAt_26 rfl (lv_at hl 1 rfl) ?_
        refine lv_icmp_ne (tgt := 32) hx hb dX1_moveAt_27 (by decide) (fun c_8 => ?_) (fun c_8 => ?_)
        · replace hp := hp.1 c_8
          exact t_X1_moveAt_32 F hr hlocks hK ih hp hW hE (lv_sub hl [0, 1, 2] rfl) hL_a0 hK_a0
        · replace hp := hp.2 c_8
          refine lv_iload_n hx hb dX1_moveAt_30 rfl (lv_at hl 2 rfl) ?_
          exact w_iret hx hb hr hlocks hW ⟨hE, hp⟩ dX1_moveAt_31
set_option maxHeartbeats 4000000 in
set_option maxRecDepth 100000 in
theorem t_X1_moveAt_0 {p : Program} {l : Launch} {e : Env} {s : State} {m : MethodId} {args : Array Value} {below : List Frame} {meth : Method} {c : Code} {D : wD} {cy : Nat → ClassId} {X : va_W} {A : Nat → Prop} {S0 : wS} {post : Int32 → wS → Prop} (F : CallFix p m c cX1_moveAt 3 s args wz_X1_moveAt RX1) (hr : meth.sig.returnType = (some .int)) (hlocks : meth.locks = false) (hK : wK D cy A s) : ∀ {S : wS} {H : Heap} {locs : List Loc} {ls : Array Slot} {a0 : Nat} {x1 : Int32}, wp_X1_moveAt_0 D post S a0 x1 → wO D cy X A s.heap S H locs → wX D S0 S → lv_has ls 3 [(0, .ref a0), (1, .int x1)] → wM D S a0 → sK S a0 = 6 → W p l e r_X1_moveAt s m args below meth c H locs 0 0 (MQ below (va_Qi (fun r S9 => wX D S0 S9 ∧ post r S9) (wB D cy X A) A) args s 0 0 A) (F0 m 0 ls []) := by
  obtain ⟨hx, hb, hml, hown, hts⟩ := id F
  have hwg : ∀ w ∈ WG, w.before args s = true := fun w h => hts w (List.mem_cons_of_mem _ h)
  intro S H locs ls a0 x1 hp hW hE hl hL_a0 hK_a0
  unfold wp_X1_moveAt_0 at hp
  refine lv_iconst (v := 0) hx hb dX1_moveAt_0 (by decide) ?_
  refine lv_istore_n (lv' := [(2, .int (0 : Int32)), (0, .ref a0), (1, .int x1)]) hx hb dX1_moveAt_1 rfl hl (by decide) rfl (fun ls hl => ?_)
  obtain ⟨n_1, hp⟩ := hp
  exact t_X1_moveAt_2 F hr hlocks hK n_1 hp hW hE (lv_sub hl [1, 2, 0] rfl) hL_a0 hK_a0
set_option maxHeartbeats 4000000 in
set_option maxRecDepth 100000 in
theorem c_X1_moveAt (l : Launch) {D : wD} {cy : Nat → ClassId} {X : va_W} {S0 : wS} {post : Int32 → wS → Prop} {a0 : Nat} {x1 : Int32} (hL_a0 : wM D S0 a0) (hK_a0 : sK S0 a0 = 6) (hp : wp_X1_moveAt D post S0 a0 x1) : mI D cy X l yX1_moveAt wz_X1_moveAt r_X1_moveAt [.ref a0, .int x1] S0 (fun r S9 => wX D S0 S9 ∧ post r S9) := by
  intro sz
  refine Met.ofW (cc := cX1_moveAt) (maxL := 3) (ret := (some .int)) (by decide) rfl ?_
  intro p e s m args below meth c s₁ B hml hv
  obtain ⟨rfl, hsz, hP, hK, hD0, hRO⟩ := hv
  have hts := atoms_spec (ws := wz_X1_moveAt) B.pre
  have hown : s.vm.findClass RX1 = some m.cls := findClass_of_methodNamed B.named
  subst hsz
  have hD := hD0.self (sz := s.heap.size)
  have F : CallFix p m c cX1_moveAt 3 s _ wz_X1_moveAt RX1 := ⟨B.exec, B.bytes, hml, hown, hts⟩
  have hr := B.returns
  have hlocks := B.notSynchronized
  generalize hAe : va_A (wL cy X S0) s.heap.size = A at hD hK ⊢
  have hA : ∀ q, s.heap.size ≤ q → A q := fun q h => by rw [← hAe]; exact Or.inr h
  have hW : wO D cy X A s.heap S0 s.heap [] := ⟨hP, hD, va_S.rf, hA, hRO⟩
  have hl := lv_entry ([.ref a0, .int x1]) (n := 3) (Nat.le_of_ble_eq_true rfl)
  rw [lg_entry_eq]
  generalize (lg_sl ([.ref a0, .int x1]) ++ List.replicate (3 - (lg_sl ([.ref a0, .int x1])).length) Slot.unset).toArray = ls at hl ⊢
  have hl : lv_has ls 3 [(0, .ref a0), (1, .int x1)] := hl
  unfold wp_X1_moveAt at hp
  exact t_X1_moveAt_0 F hr hlocks hK hp hW wX.rf (lv_sub hl [0, 1] rfl) hL_a0 hK_a0
def wp_X11_followerAt_0 (D : wD) (post : Int32 → wS → Prop) (xp : String → wS → Prop)  (S : wS) (a0 : Nat) (x1 : Int32) : Prop :=
∃ y_1 : Nat, sR S a0 10 = some y_1 ∧ wM D S y_1 ∧ sK S y_1 = 6 ∧
wp_X1_moveAt D (fun r_2 S_3 => 
((¬ r_2 = (-1 : Int32) → post r_2 S_3) ∧
 (r_2 = (-1 : Int32) → xp "java/lang/IndexOutOfBoundsException" S_3))) S y_1 x1
abbrev r_X11_followerAt : Room := { frames := 6, cells := 1, slots := 6, locals := 120 }
def wp_X11_followerAt (D : wD) (post : Int32 → wS → Prop) (xp : String → wS → Prop) (S : wS) (a0 : Nat) (x1 : Int32) : Prop := wp_X11_followerAt_0 D post xp S a0 x1
set_option maxHeartbeats 4000000 in
set_option maxRecDepth 100000 in
theorem t_X11_followerAt_0 {p : Program} {l : Launch} {e : Env} {s : State} {m : MethodId} {args : Array Value} {below : List Frame} {meth : Method} {c : Code} {D : wD} {cy : Nat → ClassId} {X : va_W} {A : Nat → Prop} {S0 : wS} {post : Int32 → wS → Prop} {xp : String → wS → Prop} (F : CallFix p m c cX11_followerAt 3 s args wz_X11_followerAt RX11) (hr : meth.sig.returnType = (some .int)) (hlocks : meth.locks = false) (hK : wK D cy A s) (hl0 : l.stackTraces = false) (hexc : ∀ x ∈ c.exceptionTable.toList, False) : ∀ {S : wS} {H : Heap} {locs : List Loc} {ls : Array Slot} {a0 : Nat} {x1 : Int32}, wp_X11_followerAt_0 D post xp S a0 x1 → wO D cy X A s.heap S H locs → wX D S0 S → lv_has ls 3 [(0, .ref a0), (1, .int x1)] → wM D S a0 → sK S a0 = 16 → W p l e r_X11_followerAt s m args below meth c H locs 0 0 (vx_MQ below (va_Qi (fun r S9 => wX D S0 S9 ∧ post r S9) (wB D cy X A) A) (wEx D cy X A (fun E S9 => wX D S0 S9 ∧ xp E S9)) args s 1 6 A) (F0 m 0 ls []) := by
  obtain ⟨hx, hb, hml, hown, hts⟩ := id F
  have hwg : ∀ w ∈ WG, w.before args s = true := fun w h => hts w (List.mem_cons_of_mem _ h)
  have i_16 : ∀ w ∈ u_ws RX11 TX11 18, w ∈ wz_X11_followerAt := fun w h => List.mem_cons_of_mem _ (wu_16 w h)
  have k_84 := hwg _ wf_RX11_84
  intro S H locs ls a0 x1 hp hW hE hl hL_a0 hK_a0
  unfold wp_X11_followerAt_0 at hp
  refine lv_aload_n hx hb dX11_followerAt_0 rfl (lv_at hl 0 rfl) ?_
  obtain ⟨y_1, ey_1, hL_y_1, hK_y_1, hp⟩ := hp
  refine w_get (k := 16) (f := 10) (T := TX11) (v := .ref y_1) F hK hW hL_a0 hK_a0 (by decide) rfl rfl (by decide) i_16 k_84 (by rw [show wv 16 10 S a0 = va_rf (sR S a0 10) from rfl, ey_1]; rfl) dX11_followerAt_1 ?_
  refine lv_iload_n hx hb dX11_followerAt_4 rfl (lv_at hl 1 rfl) ?_
  refine w_callI (va_runV (As := [.int x1]) (rest := []) F (c_X1_moveAt l hL_y_1 hK_y_1 hp H.size) (cwV (C := RX1) 1 hts (wg_V wm_RX11_511 wy_X1_moveAt) rfl rfl rfl (by decide +kernel) ⟨Nat.le_of_ble_eq_true rfl, Nat.le_of_ble_eq_true rfl⟩) (w_preV hK hW hL_y_1 hK_y_1 (by decide) rfl) rfl rfl hl.1 rfl (lv_room (Nat.le_of_ble_eq_true rfl)) dX11_followerAt_5 ⟨Nat.le_of_ble_eq_true rfl, Nat.le_of_ble_eq_true rfl⟩) hW (fun r_2 S_3 H locs hp hW => ?_)
  obtain ⟨hX_S_3, hp⟩ := hp
  refine W.widen (k := 0) (n := 0) (by decide) (by decide) ?_
  have hE := hE.trans hX_S_3
  have hK_a0 : sK S_3 a0 = 16 := (hX_S_3.2 a0 hL_a0).1.trans hK_a0
  have hL_a0 : wM D S_3 a0 := hX_S_3.M hL_a0
  refine lv_istore_n (lv' := [(2, .int r_2), (0, .ref a0), (1, .int x1)]) hx hb dX11_followerAt_8 rfl hl (by decide) rfl (fun ls hl => ?_)
  refine lv_iload_n hx hb dX11_followerAt_9 rfl (lv_at hl 0 rfl) ?_
  refine lv_iconst (v := (-1)) hx hb dX11_followerAt_10 (by decide) ?_
  refine lv_icmp_ne (tgt := 25) hx hb dX11_followerAt_11 (by decide) (fun c_4 => ?_) (fun c_4 => ?_)
  · replace hp := hp.1 c_4
    refine lv_iload_n hx hb dX11_followerAt_25 rfl (lv_at hl 0 rfl) ?_
    refine W.widen (k := 1) (n := 6) (by decide) (by decide) ?_
    refine vx_ret ?_
    exact w_iret hx hb hr hlocks hW ⟨hE, hp⟩ dX11_followerAt_26
  · replace hp := hp.2 c_4
    exact x_throwW (ls := ls) F hK hW hl0 (by decide) (hwg _ wc_RX11_235) (hwg _ wi_java_lang_IndexOutOfBoundsException) (show ("OpeningsCabinet", 514, "no such continuation", 38) ∈ wStr by decide +kernel) (wa_RX11_239 hwg hK.2.1) wa_RX11_239_ok hl.1 hexc hlocks dX11_followerAt_14 dX11_followerAt_17 dX11_followerAt_18 dX11_followerAt_21 dX11_followerAt_24 (Nat.le_of_ble_eq_true rfl) (Nat.le_of_ble_eq_true rfl) (Nat.le_of_ble_eq_true rfl) (Nat.le_of_ble_eq_true rfl) (by decide) (by decide) ⟨hE, hp⟩
set_option maxHeartbeats 4000000 in
set_option maxRecDepth 100000 in
theorem c_X11_followerAt (l : Launch) {D : wD} {cy : Nat → ClassId} {X : va_W} {S0 : wS} {post : Int32 → wS → Prop} {xp : String → wS → Prop} (hl0 : l.stackTraces = false) {a0 : Nat} {x1 : Int32} (hL_a0 : wM D S0 a0) (hK_a0 : sK S0 a0 = 16) (hp : wp_X11_followerAt D post xp S0 a0 x1) : xI D cy X l yX11_followerAt wz_X11_followerAt r_X11_followerAt [.ref a0, .int x1] S0 (fun r S9 => wX D S0 S9 ∧ post r S9) (fun E S9 => wX D S0 S9 ∧ xp E S9) := by
  intro sz
  refine vx_ofW (cc := cX11_followerAt) (maxL := 3) (ret := (some .int)) (by decide) rfl ?_
  intro p e s m args below meth c s₁ B hml hexc hv
  obtain ⟨rfl, hsz, hP, hK, hD0, hRO⟩ := hv
  have hts := atoms_spec (ws := wz_X11_followerAt) B.pre
  have hown : s.vm.findClass RX11 = some m.cls := findClass_of_methodNamed B.named
  subst hsz
  have hD := hD0.self (sz := s.heap.size)
  have F : CallFix p m c cX11_followerAt 3 s _ wz_X11_followerAt RX11 := ⟨B.exec, B.bytes, hml, hown, hts⟩
  have hr := B.returns
  have hlocks := B.notSynchronized
  generalize hAe : va_A (wL cy X S0) s.heap.size = A at hD hK ⊢
  have hA : ∀ q, s.heap.size ≤ q → A q := fun q h => by rw [← hAe]; exact Or.inr h
  have hW : wO D cy X A s.heap S0 s.heap [] := ⟨hP, hD, va_S.rf, hA, hRO⟩
  have hl := lv_entry ([.ref a0, .int x1]) (n := 3) (Nat.le_of_ble_eq_true rfl)
  rw [lg_entry_eq]
  generalize (lg_sl ([.ref a0, .int x1]) ++ List.replicate (3 - (lg_sl ([.ref a0, .int x1])).length) Slot.unset).toArray = ls at hl ⊢
  have hl : lv_has ls 3 [(0, .ref a0), (1, .int x1)] := hl
  unfold wp_X11_followerAt at hp
  exact t_X11_followerAt_0 F hr hlocks hK hl0 hexc hp hW wX.rf (lv_sub hl [0, 1] rfl) hL_a0 hK_a0
def wp_X1_aligned_32 (D : wD) (post : Int64 → wS → Prop)  (S : wS) (x2 : Int64) : Prop :=
post x2 S
def wp_X1_aligned_5 (D : wD) (post : Int64 → wS → Prop)  : Nat → wS → Int64 → Int32 → Prop
  | 0, _, _, _ => False
  | n + 1, S, x2, x4 =>
    (((8 : Int32) ≤ x4 → wp_X1_aligned_32 D post S x2) ∧
     (¬ (8 : Int32) ≤ x4 → ((¬ (lg_cmp (jlushr x2 (56 : Int32)) (0 : Int64)) = 0 → wp_X1_aligned_32 D post S x2) ∧
     ((lg_cmp (jlushr x2 (56 : Int32)) (0 : Int64)) = 0 → ∀ x_3 : Int64, x_3 = (jlshl x2 (8 : Int32)) →
    ∀ x_4 : Int32, x_4 = x4 + 1 →
    wp_X1_aligned_5 D post n S x_3 x_4))))
def wp_X1_aligned_0 (D : wD) (post : Int64 → wS → Prop)  (S : wS) (x0 : Int64) : Prop :=
∃ n_1 : Nat, wp_X1_aligned_5 D post n_1 S x0 (0 : Int32)
abbrev r_X1_aligned : Room := { frames := 0, cells := 0, slots := 0, locals := 0 }
def wp_X1_aligned (D : wD) (post : Int64 → wS → Prop) (S : wS) (x0 : Int64) : Prop := wp_X1_aligned_0 D post S x0
set_option maxHeartbeats 4000000 in
set_option maxRecDepth 100000 in
theorem t_X1_aligned_32 {p : Program} {l : Launch} {e : Env} {s : State} {m : MethodId} {args : Array Value} {below : List Frame} {meth : Method} {c : Code} {D : wD} {cy : Nat → ClassId} {X : va_W} {A : Nat → Prop} {S0 : wS} {post : Int64 → wS → Prop} (F : CallFix p m c cX1_aligned 5 s args wz_X1_aligned RX1) (hr : meth.sig.returnType = (some .long)) (hlocks : meth.locks = false) (hK : wK D cy A s) : ∀ {S : wS} {H : Heap} {locs : List Loc} {ls : Array Slot} {x2 : Int64}, wp_X1_aligned_32 D post S x2 → wO D cy X A s.heap S H locs → wX D S0 S → lv_has ls 5 [(2, .long x2)] → W p l e r_X1_aligned s m args below meth c H locs 0 0 (MQ below (va_Ql (fun r S9 => wX D S0 S9 ∧ post r S9) (wB D cy X A) A) args s 0 0 A) (F0 m 32 ls []) := by
  obtain ⟨hx, hb, hml, hown, hts⟩ := id F
  have hwg : ∀ w ∈ WG, w.before args s = true := fun w h => hts w (List.mem_cons_of_mem _ h)
  intro S H locs ls x2 hp hW hE hl
  unfold wp_X1_aligned_32 at hp
  refine lv_lload_n hx hb dX1_aligned_32 rfl (lv_at hl 0 rfl) ?_
  exact w_lret hx hb hr hlocks hW ⟨hE, hp⟩ dX1_aligned_33
set_option maxHeartbeats 4000000 in
set_option maxRecDepth 100000 in
theorem t_X1_aligned_5 {p : Program} {l : Launch} {e : Env} {s : State} {m : MethodId} {args : Array Value} {below : List Frame} {meth : Method} {c : Code} {D : wD} {cy : Nat → ClassId} {X : va_W} {A : Nat → Prop} {S0 : wS} {post : Int64 → wS → Prop} (F : CallFix p m c cX1_aligned 5 s args wz_X1_aligned RX1) (hr : meth.sig.returnType = (some .long)) (hlocks : meth.locks = false) (hK : wK D cy A s) : ∀ (n : Nat) {S : wS} {H : Heap} {locs : List Loc} {ls : Array Slot} {x2 : Int64} {x4 : Int32}, wp_X1_aligned_5 D post n S x2 x4 → wO D cy X A s.heap S H locs → wX D S0 S → lv_has ls 5 [(2, .long x2), (4, .int x4)] → W p l e r_X1_aligned s m args below meth c H locs 0 0 (MQ below (va_Ql (fun r S9 => wX D S0 S9 ∧ post r S9) (wB D cy X A) A) args s 0 0 A) (F0 m 5 ls []) := by
  obtain ⟨hx, hb, hml, hown, hts⟩ := id F
  have hwg : ∀ w ∈ WG, w.before args s = true := fun w h => hts w (List.mem_cons_of_mem _ h)
  intro n
  induction n with
  | zero =>
    intro S H locs ls x2 x4 hp
    exact hp.elim
  | succ n ih =>
    intro S H locs ls x2 x4 hp hW hE hl
    unfold wp_X1_aligned_5 at hp
    refine lv_iload hx hb dX1_aligned_5 (lv_at hl 1 rfl) ?_
    refine lv_bipush (v := 8) hx hb dX1_aligned_7 (by decide) ?_
    refine lv_icmp_ge (tgt := 32) hx hb dX1_aligned_9 (by decide) (fun c_1 => ?_) (fun c_1 => ?_)
    · replace hp := hp.1 c_1
      exact t_X1_aligned_32 F hr hlocks hK hp hW hE (lv_sub hl [0] rfl)
    · replace hp := hp.2 c_1
      refine lv_lload_n hx hb dX1_aligned_12 rfl (lv_at hl 0 rfl) ?_
      refine lv_bipush (v := 56) hx hb dX1_aligned_13 (by decide) ?_
      refine lv_lushr (v := (jlushr x2 (56 : Int32))) hx hb dX1_aligned_15 rfl ?_
      refine lv_lconst (v := 0) hx hb dX1_aligned_16 (by decide) ?_
      refine W.lcmp hx hb dX1_aligned_17 ?_
      refine lv_if_ne (tgt := 32) hx hb dX1_aligned_18 (by decide) (fun c_2 => ?_) (fun c_2 => ?_)
      · replace hp := hp.1 c_2
        exact t_X1_aligned_32 F hr hlocks hK hp hW hE (lv_sub hl [0] rfl)
      · replace hp := hp.2 c_2
        refine lv_lload_n hx hb dX1_aligned_21 rfl (lv_at hl 0 rfl) ?_
        refine lv_bipush (v := 8) hx hb dX1_aligned_22 (by decide) ?_
        refine lv_lshl (v := (jlshl x2 (8 : Int32))) hx hb dX1_aligned_24 rfl ?_
        refine lv_topl (fun x_3 ex_3 => ?_)
        replace hp := hp x_3 ex_3
        refine lv_lstore_n (lv' := [(2, .long x_3), (4, .int x4)]) hx hb dX1_aligned_25 rfl hl (by decide) rfl (fun ls hl => ?_)
        obtain ⟨x_4, ex_4⟩ : ∃ z : Int32, z = x4 + 1 := ⟨_, rfl⟩
        replace hp := hp x_4 ex_4
        refine lv_iinc (v := x_4) (lv' := [(4, .int x_4), (2, .long x_3)]) hx hb dX1_aligned_26 hl (k := 1) rfl (by rw [ex_4]; rfl) (by decide) rfl (fun ls hl => ?_)
        refine lv_goto (tgt := 5) hx hb dX1_aligned_29 (by decide) ?_
        exact ih hp hW hE (lv_sub hl [1, 0] rfl)
set_option maxHeartbeats 4000000 in
set_option maxRecDepth 100000 in
theorem t_X1_aligned_0 {p : Program} {l : Launch} {e : Env} {s : State} {m : MethodId} {args : Array Value} {below : List Frame} {meth : Method} {c : Code} {D : wD} {cy : Nat → ClassId} {X : va_W} {A : Nat → Prop} {S0 : wS} {post : Int64 → wS → Prop} (F : CallFix p m c cX1_aligned 5 s args wz_X1_aligned RX1) (hr : meth.sig.returnType = (some .long)) (hlocks : meth.locks = false) (hK : wK D cy A s) : ∀ {S : wS} {H : Heap} {locs : List Loc} {ls : Array Slot} {x0 : Int64}, wp_X1_aligned_0 D post S x0 → wO D cy X A s.heap S H locs → wX D S0 S → lv_has ls 5 [(0, .long x0)] → W p l e r_X1_aligned s m args below meth c H locs 0 0 (MQ below (va_Ql (fun r S9 => wX D S0 S9 ∧ post r S9) (wB D cy X A) A) args s 0 0 A) (F0 m 0 ls []) := by
  obtain ⟨hx, hb, hml, hown, hts⟩ := id F
  have hwg : ∀ w ∈ WG, w.before args s = true := fun w h => hts w (List.mem_cons_of_mem _ h)
  intro S H locs ls x0 hp hW hE hl
  unfold wp_X1_aligned_0 at hp
  refine lv_lload_n hx hb dX1_aligned_0 rfl (lv_at hl 0 rfl) ?_
  refine lv_lstore_n (lv' := [(2, .long x0), (0, .long x0)]) hx hb dX1_aligned_1 rfl hl (by decide) rfl (fun ls hl => ?_)
  refine lv_iconst (v := 0) hx hb dX1_aligned_2 (by decide) ?_
  refine lv_istore (lv' := [(4, .int (0 : Int32)), (2, .long x0), (0, .long x0)]) hx hb dX1_aligned_3 hl (by decide) rfl (fun ls hl => ?_)
  obtain ⟨n_1, hp⟩ := hp
  exact t_X1_aligned_5 F hr hlocks hK n_1 hp hW hE (lv_sub hl [1, 0] rfl)
set_option maxHeartbeats 4000000 in
set_option maxRecDepth 100000 in
theorem c_X1_aligned (l : Launch) {D : wD} {cy : Nat → ClassId} {X : va_W} {S0 : wS} {post : Int64 → wS → Prop} {x0 : Int64} (hp : wp_X1_aligned D post S0 x0) : mJ D cy X l yX1_aligned wz_X1_aligned r_X1_aligned [.long x0] S0 (fun r S9 => wX D S0 S9 ∧ post r S9) := by
  intro sz
  refine Met.ofW (cc := cX1_aligned) (maxL := 5) (ret := (some .long)) (by decide) rfl ?_
  intro p e s m args below meth c s₁ B hml hv
  obtain ⟨rfl, hsz, hP, hK, hD0, hRO⟩ := hv
  have hts := atoms_spec (ws := wz_X1_aligned) B.pre
  have hown : s.vm.findClass RX1 = some m.cls := findClass_of_methodNamed B.named
  subst hsz
  have hD := hD0.self (sz := s.heap.size)
  have F : CallFix p m c cX1_aligned 5 s _ wz_X1_aligned RX1 := ⟨B.exec, B.bytes, hml, hown, hts⟩
  have hr := B.returns
  have hlocks := B.notSynchronized
  generalize hAe : va_A (wL cy X S0) s.heap.size = A at hD hK ⊢
  have hA : ∀ q, s.heap.size ≤ q → A q := fun q h => by rw [← hAe]; exact Or.inr h
  have hW : wO D cy X A s.heap S0 s.heap [] := ⟨hP, hD, va_S.rf, hA, hRO⟩
  have hl := lv_entry ([.long x0]) (n := 5) (Nat.le_of_ble_eq_true rfl)
  rw [lg_entry_eq]
  generalize (lg_sl ([.long x0]) ++ List.replicate (5 - (lg_sl ([.long x0])).length) Slot.unset).toArray = ls at hl ⊢
  have hl : lv_has ls 5 [(0, .long x0)] := hl
  unfold wp_X1_aligned at hp
  exact t_X1_aligned_0 F hr hlocks hK hp hW wX.rf (lv_sub hl [0] rfl)
def wp_X1_note_49 (D : wD) (post : wS → Prop)  (S : wS) : Prop :=
post S
def wp_X1_note_0 (D : wD) (post : wS → Prop)  (S : wS) (a0 : Nat) (x1 : Int32) (x2 : Int32) : Prop :=
((x1 < 0 → wp_X1_note_49 D post S) ∧
 (¬ x1 < 0 → ∃ y_2 : Nat, sR S a0 1 = some y_2 ∧ wM D S y_2 ∧ sK S y_2 = 21 ∧
(((Int32.ofNat (sN S y_2)) ≤ x1 → wp_X1_note_49 D post S) ∧
 (¬ (Int32.ofNat (sN S y_2)) ≤ x1 → ∃ y_4 : Nat, sR S a0 2 = some y_4 ∧ wM D S y_4 ∧ sK S y_4 = 21 ∧
(((Int32.ofNat (sN S y_4)) ≤ x1 → wp_X1_note_49 D post S) ∧
 (¬ (Int32.ofNat (sN S y_4)) ≤ x1 → ∃ y_6 : Nat, sR S a0 2 = some y_6 ∧ wM D S y_6 ∧ sK S y_6 = 21 ∧
vp_in x1 (sN S y_6) ∧
(((sI S y_6 (x1).toNatClampNeg) = x2 → wp_X1_note_49 D post S) ∧
 (¬ (sI S y_6 (x1).toNatClampNeg) = x2 → ∃ y_9 : Nat, sR S a0 2 = some y_9 ∧ wM D S y_9 ∧ sK S y_9 = 21 ∧
y_9 ∈ sL S ∧ vp_in x1 (sN S y_9) ∧
∀ S_11 : wS, S_11 = uI S y_9 (x1).toNatClampNeg x2 →
∃ y_12 : Nat, sR S_11 a0 1 = some y_12 ∧ wM D S_11 y_12 ∧ sK S_11 y_12 = 21 ∧
vp_in x1 (sN S_11 y_12) ∧
y_12 ∈ sL S_11 ∧ vp_in x1 (sN S_11 y_12) ∧
∀ S_15 : wS, S_15 = uI S_11 y_12 (x1).toNatClampNeg ((sI S_11 y_12 (x1).toNatClampNeg) + (1 : Int32)) →
wp_X1_note_49 D post S_15))))))))
abbrev r_X1_note : Room := { frames := 0, cells := 0, slots := 0, locals := 0 }
def wp_X1_note (D : wD) (post : wS → Prop) (S : wS) (a0 : Nat) (x1 : Int32) (x2 : Int32) : Prop := wp_X1_note_0 D post S a0 x1 x2
set_option maxHeartbeats 4000000 in
set_option maxRecDepth 100000 in
theorem t_X1_note_49 {p : Program} {l : Launch} {e : Env} {s : State} {m : MethodId} {args : Array Value} {below : List Frame} {meth : Method} {c : Code} {D : wD} {cy : Nat → ClassId} {X : va_W} {A : Nat → Prop} {S0 : wS} {post : wS → Prop} (F : CallFix p m c cX1_note 3 s args wz_X1_note RX1) (hr : meth.sig.returnType = none) (hlocks : meth.locks = false) (hK : wK D cy A s) : ∀ {S : wS} {H : Heap} {locs : List Loc} {ls : Array Slot}, wp_X1_note_49 D post S → wO D cy X A s.heap S H locs → wX D S0 S → lv_has ls 3 [] → W p l e r_X1_note s m args below meth c H locs 0 0 (MQ below (va_Qv (fun S9 => wX D S0 S9 ∧ post S9) (wB D cy X A) A) args s 0 0 A) (F0 m 49 ls []) := by
  obtain ⟨hx, hb, hml, hown, hts⟩ := id F
  have hwg : ∀ w ∈ WG, w.before args s = true := fun w h => hts w (List.mem_cons_of_mem _ h)
  intro S H locs ls hp hW hE hl
  unfold wp_X1_note_49 at hp
  exact w_vret hx hb hr hlocks hW ⟨hE, hp⟩ dX1_note_49
set_option maxHeartbeats 4000000 in
set_option maxRecDepth 100000 in
theorem t_X1_note_0 {p : Program} {l : Launch} {e : Env} {s : State} {m : MethodId} {args : Array Value} {below : List Frame} {meth : Method} {c : Code} {D : wD} {cy : Nat → ClassId} {X : va_W} {A : Nat → Prop} {S0 : wS} {post : wS → Prop} (F : CallFix p m c cX1_note 3 s args wz_X1_note RX1) (hr : meth.sig.returnType = none) (hlocks : meth.locks = false) (hK : wK D cy A s) : ∀ {S : wS} {H : Heap} {locs : List Loc} {ls : Array Slot} {a0 : Nat} {x1 : Int32} {x2 : Int32}, wp_X1_note_0 D post S a0 x1 x2 → wO D cy X A s.heap S H locs → wX D S0 S → lv_has ls 3 [(0, .ref a0), (1, .int x1), (2, .int x2)] → wM D S a0 → sK S a0 = 6 → W p l e r_X1_note s m args below meth c H locs 0 0 (MQ below (va_Qv (fun S9 => wX D S0 S9 ∧ post S9) (wB D cy X A) A) args s 0 0 A) (F0 m 0 ls []) := by
  obtain ⟨hx, hb, hml, hown, hts⟩ := id F
  have hwg : ∀ w ∈ WG, w.before args s = true := fun w h => hts w (List.mem_cons_of_mem _ h)
  have i_6 : ∀ w ∈ u_ws RX1 TX1 4, w ∈ wz_X1_note := fun w h => List.mem_cons_of_mem _ (wu_6 w h)
  have k_15 := hwg _ wf_RX1_15
  have k_9 := hwg _ wf_RX1_9
  intro S H locs ls a0 x1 x2 hp hW hE hl hL_a0 hK_a0
  unfold wp_X1_note_0 at hp
  refine lv_iload_n hx hb dX1_note_0 rfl (lv_at hl 1 rfl) ?_
  refine lv_if_lt (tgt := 49) hx hb dX1_note_1 (by decide) (fun c_1 => ?_) (fun c_1 => ?_)
  · replace hp := hp.1 c_1
    exact t_X1_note_49 F hr hlocks hK hp hW hE (lv_sub hl [] rfl)
  · replace hp := hp.2 c_1
    refine lv_iload_n hx hb dX1_note_4 rfl (lv_at hl 1 rfl) ?_
    refine lv_aload_n hx hb dX1_note_5 rfl (lv_at hl 0 rfl) ?_
    obtain ⟨y_2, ey_2, hL_y_2, hK_y_2, hp⟩ := hp
    refine w_get (k := 6) (f := 1) (T := TX1) (v := .ref y_2) F hK hW hL_a0 hK_a0 (by decide) rfl rfl (by decide) i_6 k_9 (by rw [show wv 6 1 S a0 = va_rf (sR S a0 1) from rfl, ey_2]; rfl) dX1_note_6 ?_
    refine w_len F hK hW hL_y_2 hK_y_2 (by decide) dX1_note_9 ?_
    refine lv_icmp_ge (tgt := 49) hx hb dX1_note_10 (by decide) (fun c_3 => ?_) (fun c_3 => ?_)
    · replace hp := hp.1 c_3
      exact t_X1_note_49 F hr hlocks hK hp hW hE (lv_sub hl [] rfl)
    · replace hp := hp.2 c_3
      refine lv_iload_n hx hb dX1_note_13 rfl (lv_at hl 1 rfl) ?_
      refine lv_aload_n hx hb dX1_note_14 rfl (lv_at hl 0 rfl) ?_
      obtain ⟨y_4, ey_4, hL_y_4, hK_y_4, hp⟩ := hp
      refine w_get (k := 6) (f := 2) (T := TX1) (v := .ref y_4) F hK hW hL_a0 hK_a0 (by decide) rfl rfl (by decide) i_6 k_15 (by rw [show wv 6 2 S a0 = va_rf (sR S a0 2) from rfl, ey_4]; rfl) dX1_note_15 ?_
      refine w_len F hK hW hL_y_4 hK_y_4 (by decide) dX1_note_18 ?_
      refine lv_icmp_ge (tgt := 49) hx hb dX1_note_19 (by decide) (fun c_5 => ?_) (fun c_5 => ?_)
      · replace hp := hp.1 c_5
        exact t_X1_note_49 F hr hlocks hK hp hW hE (lv_sub hl [] rfl)
      · replace hp := hp.2 c_5
        refine lv_aload_n hx hb dX1_note_22 rfl (lv_at hl 0 rfl) ?_
        obtain ⟨y_6, ey_6, hL_y_6, hK_y_6, hp⟩ := hp
        refine w_get (k := 6) (f := 2) (T := TX1) (v := .ref y_6) F hK hW hL_a0 hK_a0 (by decide) rfl rfl (by decide) i_6 k_15 (by rw [show wv 6 2 S a0 = va_rf (sR S a0 2) from rfl, ey_6]; rfl) dX1_note_23 ?_
        refine lv_iload_n hx hb dX1_note_26 rfl (lv_at hl 1 rfl) ?_
        obtain ⟨h_7, hp⟩ := hp
        refine w_ild F hK hW hL_y_6 hK_y_6 h_7 dX1_note_27 ?_
        refine lv_iload_n hx hb dX1_note_28 rfl (lv_at hl 2 rfl) ?_
        refine lv_icmp_eq (tgt := 49) hx hb dX1_note_29 (by decide) (fun c_8 => ?_) (fun c_8 => ?_)
        · replace hp := hp.1 c_8
          exact t_X1_note_49 F hr hlocks hK hp hW hE (lv_sub hl [] rfl)
        · replace hp := hp.2 c_8
          refine lv_aload_n hx hb dX1_note_32 rfl (lv_at hl 0 rfl) ?_
          obtain ⟨y_9, ey_9, hL_y_9, hK_y_9, hp⟩ := hp
          refine w_get (k := 6) (f := 2) (T := TX1) (v := .ref y_9) F hK hW hL_a0 hK_a0 (by decide) rfl rfl (by decide) i_6 k_15 (by rw [show wv 6 2 S a0 = va_rf (sR S a0 2) from rfl, ey_9]; rfl) dX1_note_33 ?_
          refine lv_iload_n hx hb dX1_note_36 rfl (lv_at hl 1 rfl) ?_
          refine lv_iload_n hx hb dX1_note_37 rfl (lv_at hl 2 rfl) ?_
          obtain ⟨h_10m, h_10, hp⟩ := hp
          refine w_ist F hK hW h_10m hK_y_9 h_10 dX1_note_38 (fun H locs hW => ?_)
          obtain ⟨S_11, eS_11⟩ : ∃ z : wS, z = uI S y_9 (x1).toNatClampNeg x2 := ⟨_, rfl⟩
          rw [← eS_11] at hW
          replace hp := hp S_11 eS_11
          have hX_S_11 : wX D S S_11 := by rw [eS_11]; exact wX_uI
          have hE := hE.trans hX_S_11
          have hK_a0 : sK S_11 a0 = 6 := (hX_S_11.2 a0 hL_a0).1.trans hK_a0
          have hL_a0 : wM D S_11 a0 := hX_S_11.M hL_a0
          refine lv_aload_n hx hb dX1_note_39 rfl (lv_at hl 0 rfl) ?_
          obtain ⟨y_12, ey_12, hL_y_12, hK_y_12, hp⟩ := hp
          refine w_get (k := 6) (f := 1) (T := TX1) (v := .ref y_12) F hK hW hL_a0 hK_a0 (by decide) rfl rfl (by decide) i_6 k_9 (by rw [show wv 6 1 S_11 a0 = va_rf (sR S_11 a0 1) from rfl, ey_12]; rfl) dX1_note_40 ?_
          refine lv_iload_n hx hb dX1_note_43 rfl (lv_at hl 1 rfl) ?_
          refine lv_dup2_11 hx hb dX1_note_44 rfl rfl ?_
          obtain ⟨h_13, hp⟩ := hp
          refine w_ild F hK hW hL_y_12 hK_y_12 h_13 dX1_note_45 ?_
          refine lv_iconst (v := 1) hx hb dX1_note_46 (by decide) ?_
          refine lv_iadd hx hb dX1_note_47 ?_
          obtain ⟨h_14m, h_14, hp⟩ := hp
          refine w_ist F hK hW h_14m hK_y_12 h_14 dX1_note_48 (fun H locs hW => ?_)
          obtain ⟨S_15, eS_15⟩ : ∃ z : wS, z = uI S_11 y_12 (x1).toNatClampNeg ((sI S_11 y_12 (x1).toNatClampNeg) + (1 : Int32)) := ⟨_, rfl⟩
          rw [← eS_15] at hW
          replace hp := hp S_15 eS_15
          have hX_S_15 : wX D S_11 S_15 := by rw [eS_15]; exact wX_uI
          have hE := hE.trans hX_S_15
          have hK_a0 : sK S_15 a0 = 6 := (hX_S_15.2 a0 hL_a0).1.trans hK_a0
          have hL_a0 : wM D S_15 a0 := hX_S_15.M hL_a0
          exact t_X1_note_49 F hr hlocks hK hp hW hE (lv_sub hl [] rfl)
set_option maxHeartbeats 4000000 in
set_option maxRecDepth 100000 in
theorem c_X1_note (l : Launch) {D : wD} {cy : Nat → ClassId} {X : va_W} {S0 : wS} {post : wS → Prop} {a0 : Nat} {x1 : Int32} {x2 : Int32} (hL_a0 : wM D S0 a0) (hK_a0 : sK S0 a0 = 6) (hp : wp_X1_note D post S0 a0 x1 x2) : mV D cy X l yX1_note wz_X1_note r_X1_note [.ref a0, .int x1, .int x2] S0 (fun S9 => wX D S0 S9 ∧ post S9) := by
  intro sz
  refine Met.ofW (cc := cX1_note) (maxL := 3) (ret := none) (by decide) rfl ?_
  intro p e s m args below meth c s₁ B hml hv
  obtain ⟨rfl, hsz, hP, hK, hD0, hRO⟩ := hv
  have hts := atoms_spec (ws := wz_X1_note) B.pre
  have hown : s.vm.findClass RX1 = some m.cls := findClass_of_methodNamed B.named
  subst hsz
  have hD := hD0.self (sz := s.heap.size)
  have F : CallFix p m c cX1_note 3 s _ wz_X1_note RX1 := ⟨B.exec, B.bytes, hml, hown, hts⟩
  have hr := B.returns
  have hlocks := B.notSynchronized
  generalize hAe : va_A (wL cy X S0) s.heap.size = A at hD hK ⊢
  have hA : ∀ q, s.heap.size ≤ q → A q := fun q h => by rw [← hAe]; exact Or.inr h
  have hW : wO D cy X A s.heap S0 s.heap [] := ⟨hP, hD, va_S.rf, hA, hRO⟩
  have hl := lv_entry ([.ref a0, .int x1, .int x2]) (n := 3) (Nat.le_of_ble_eq_true rfl)
  rw [lg_entry_eq]
  generalize (lg_sl ([.ref a0, .int x1, .int x2]) ++ List.replicate (3 - (lg_sl ([.ref a0, .int x1, .int x2])).length) Slot.unset).toArray = ls at hl ⊢
  have hl : lv_has ls 3 [(0, .ref a0), (1, .int x1), (2, .int x2)] := hl
  unfold wp_X1_note at hp
  exact t_X1_note_0 F hr hlocks hK hp hW wX.rf (lv_sub hl [0, 1, 2] rfl) hL_a0 hK_a0
def wp_X4_numberOfCode_37 (D : wD) (post : Int32 → wS → Prop)  (S : wS) : Prop :=
post (-1 : Int32) S
def wp_X4_numberOfCode_2 (D : wD) (post : Int32 → wS → Prop)  : Nat → wS → Nat → Int32 → Int32 → Prop
  | 0, _, _, _, _ => False
  | n + 1, S, a0, x1, x2 =>
    (((sI S a0 7) ≤ x2 → wp_X4_numberOfCode_37 D post S) ∧
     (¬ (sI S a0 7) ≤ x2 → ∃ y_2 : Nat, sR S a0 4 = some y_2 ∧ wM D S y_2 ∧ sK S y_2 = 21 ∧
    (((Int32.ofNat (sN S y_2)) ≤ x2 → wp_X4_numberOfCode_37 D post S) ∧
     (¬ (Int32.ofNat (sN S y_2)) ≤ x2 → ∃ y_4 : Nat, sR S a0 4 = some y_4 ∧ wM D S y_4 ∧ sK S y_4 = 21 ∧
    vp_in x2 (sN S y_4) ∧
    ((¬ (sI S y_4 (x2).toNatClampNeg) = x1 → ∀ x_7 : Int32, x_7 = x2 + 1 →
    wp_X4_numberOfCode_2 D post n S a0 x1 x_7) ∧
     ((sI S y_4 (x2).toNatClampNeg) = x1 → post x2 S))))))
def wp_X4_numberOfCode_0 (D : wD) (post : Int32 → wS → Prop)  (S : wS) (a0 : Nat) (x1 : Int32) : Prop :=
∃ n_1 : Nat, wp_X4_numberOfCode_2 D post n_1 S a0 x1 (0 : Int32)
abbrev r_X4_numberOfCode : Room := { frames := 0, cells := 0, slots := 0, locals := 0 }
def wp_X4_numberOfCode (D : wD) (post : Int32 → wS → Prop) (S : wS) (a0 : Nat) (x1 : Int32) : Prop := wp_X4_numberOfCode_0 D post S a0 x1
set_option maxHeartbeats 4000000 in
set_option maxRecDepth 100000 in
theorem t_X4_numberOfCode_37 {p : Program} {l : Launch} {e : Env} {s : State} {m : MethodId} {args : Array Value} {below : List Frame} {meth : Method} {c : Code} {D : wD} {cy : Nat → ClassId} {X : va_W} {A : Nat → Prop} {S0 : wS} {post : Int32 → wS → Prop} (F : CallFix p m c cX4_numberOfCode 3 s args wz_X4_numberOfCode RX4) (hr : meth.sig.returnType = (some .int)) (hlocks : meth.locks = false) (hK : wK D cy A s) : ∀ {S : wS} {H : Heap} {locs : List Loc} {ls : Array Slot}, wp_X4_numberOfCode_37 D post S → wO D cy X A s.heap S H locs → wX D S0 S → lv_has ls 3 [] → W p l e r_X4_numberOfCode s m args below meth c H locs 0 0 (MQ below (va_Qi (fun r S9 => wX D S0 S9 ∧ post r S9) (wB D cy X A) A) args s 0 0 A) (F0 m 37 ls []) := by
  obtain ⟨hx, hb, hml, hown, hts⟩ := id F
  have hwg : ∀ w ∈ WG, w.before args s = true := fun w h => hts w (List.mem_cons_of_mem _ h)
  intro S H locs ls hp hW hE hl
  unfold wp_X4_numberOfCode_37 at hp
  refine lv_iconst (v := (-1)) hx hb dX4_numberOfCode_37 (by decide) ?_
  exact w_iret hx hb hr hlocks hW ⟨hE, hp⟩ dX4_numberOfCode_38
set_option maxHeartbeats 4000000 in
set_option maxRecDepth 100000 in
theorem t_X4_numberOfCode_2 {p : Program} {l : Launch} {e : Env} {s : State} {m : MethodId} {args : Array Value} {below : List Frame} {meth : Method} {c : Code} {D : wD} {cy : Nat → ClassId} {X : va_W} {A : Nat → Prop} {S0 : wS} {post : Int32 → wS → Prop} (F : CallFix p m c cX4_numberOfCode 3 s args wz_X4_numberOfCode RX4) (hr : meth.sig.returnType = (some .int)) (hlocks : meth.locks = false) (hK : wK D cy A s) : ∀ (n : Nat) {S : wS} {H : Heap} {locs : List Loc} {ls : Array Slot} {a0 : Nat} {x1 : Int32} {x2 : Int32}, wp_X4_numberOfCode_2 D post n S a0 x1 x2 → wO D cy X A s.heap S H locs → wX D S0 S → lv_has ls 3 [(0, .ref a0), (1, .int x1), (2, .int x2)] → wM D S a0 → sK S a0 = 9 → W p l e r_X4_numberOfCode s m args below meth c H locs 0 0 (MQ below (va_Qi (fun r S9 => wX D S0 S9 ∧ post r S9) (wB D cy X A) A) args s 0 0 A) (F0 m 2 ls []) := by
  obtain ⟨hx, hb, hml, hown, hts⟩ := id F
  have hwg : ∀ w ∈ WG, w.before args s = true := fun w h => hts w (List.mem_cons_of_mem _ h)
  have i_9 : ∀ w ∈ u_ws RX4 TX4 8, w ∈ wz_X4_numberOfCode := fun w h => List.mem_cons_of_mem _ (wu_9 w h)
  have k_11 := hwg _ wf_RX4_11
  have k_23 := hwg _ wf_RX4_23
  intro n
  induction n with
  | zero =>
    intro S H locs ls a0 x1 x2 hp
    exact hp.elim
  | succ n ih =>
    intro S H locs ls a0 x1 x2 hp hW hE hl hL_a0 hK_a0
    unfold wp_X4_numberOfCode_2 at hp
    refine lv_iload_n hx hb dX4_numberOfCode_2 rfl (lv_at hl 2 rfl) ?_
    refine lv_aload_n hx hb dX4_numberOfCode_3 rfl (lv_at hl 0 rfl) ?_
    refine w_get (k := 9) (f := 7) (T := TX4) (v := .int (sI S a0 7)) F hK hW hL_a0 hK_a0 (by decide) rfl rfl (by decide) i_9 k_23 rfl dX4_numberOfCode_4 ?_
    refine lv_icmp_ge (tgt := 37) hx hb dX4_numberOfCode_7 (by decide) (fun c_1 => ?_) (fun c_1 => ?_)
    · replace hp := hp.1 c_1
      exact t_X4_numberOfCode_37 F hr hlocks hK hp hW hE (lv_sub hl [] rfl)
    · replace hp := hp.2 c_1
      refine lv_iload_n hx hb dX4_numberOfCode_10 rfl (lv_at hl 2 rfl) ?_
      refine lv_aload_n hx hb dX4_numberOfCode_11 rfl (lv_at hl 0 rfl) ?_
      obtain ⟨y_2, ey_2, hL_y_2, hK_y_2, hp⟩ := hp
      refine w_get (k := 9) (f := 4) (T := TX4) (v := .ref y_2) F hK hW hL_a0 hK_a0 (by decide) rfl rfl (by decide) i_9 k_11 (by rw [show wv 9 4 S a0 = va_rf (sR S a0 4) from rfl, ey_2]; rfl) dX4_numberOfCode_12 ?_
      refine w_len F hK hW hL_y_2 hK_y_2 (by decide) dX4_numberOfCode_15 ?_
      refine lv_icmp_ge (tgt := 37) hx hb dX4_numberOfCode_16 (by decide) (fun c_3 => ?_) (fun c_3 => ?_)
      · replace hp := hp.1 c_3
        exact t_X4_numberOfCode_37 F hr hlocks hK hp hW hE (lv_sub hl [] rfl)
      · replace hp := hp.2 c_3
        refine lv_aload_n hx hb dX4_numberOfCode_19 rfl (lv_at hl 0 rfl) ?_
        obtain ⟨y_4, ey_4, hL_y_4, hK_y_4, hp⟩ := hp
        refine w_get (k := 9) (f := 4) (T := TX4) (v := .ref y_4) F hK hW hL_a0 hK_a0 (by decide) rfl rfl (by decide) i_9 k_11 (by rw [show wv 9 4 S a0 = va_rf (sR S a0 4) from rfl, ey_4]; rfl) dX4_numberOfCode_20 ?_
        refine lv_iload_n hx hb dX4_numberOfCode_23 rfl (lv_at hl 2 rfl) ?_
        obtain ⟨h_5, hp⟩ := hp
        refine w_ild F hK hW hL_y_4 hK_y_4 h_5 dX4_numberOfCode_24 ?_
        refine lv_iload_n hx hb dX4_numberOfCode_25 rfl (lv_at hl 1 rfl) ?_
        refine lv_icmp_ne (tgt := 31) hx hb dX4_numberOfCode_26 (by decide) (fun c_6 => ?_) (fun c_6 => ?_)
        · replace hp := hp.1 c_6
          obtain ⟨x_7, ex_7⟩ : ∃ z : Int32, z = x2 + 1 := ⟨_, rfl⟩
          replace hp := hp x_7 ex_7
          refine lv_iinc (v := x_7) (lv' := [(2, .int x_7), (0, .ref a0), (1, .int x1)]) hx hb dX4_numberOfCode_31 hl (k := 2) rfl (by rw [ex_7]; rfl) (by decide) rfl (fun ls hl => ?_)
          refine lv_goto (tgt := 2) hx hb dX4_numberOfCode_34 (by decide) ?_
          exact ih hp hW hE (lv_sub hl [1, 2, 0] rfl) hL_a0 hK_a0
        · replace hp := hp.2 c_6
          refine lv_iload_n hx hb dX4_numberOfCode_29 rfl (lv_at hl 2 rfl) ?_
          exact w_iret hx hb hr hlocks hW ⟨hE, hp⟩ dX4_numberOfCode_30
set_option maxHeartbeats 4000000 in
set_option maxRecDepth 100000 in
theorem t_X4_numberOfCode_0 {p : Program} {l : Launch} {e : Env} {s : State} {m : MethodId} {args : Array Value} {below : List Frame} {meth : Method} {c : Code} {D : wD} {cy : Nat → ClassId} {X : va_W} {A : Nat → Prop} {S0 : wS} {post : Int32 → wS → Prop} (F : CallFix p m c cX4_numberOfCode 3 s args wz_X4_numberOfCode RX4) (hr : meth.sig.returnType = (some .int)) (hlocks : meth.locks = false) (hK : wK D cy A s) : ∀ {S : wS} {H : Heap} {locs : List Loc} {ls : Array Slot} {a0 : Nat} {x1 : Int32}, wp_X4_numberOfCode_0 D post S a0 x1 → wO D cy X A s.heap S H locs → wX D S0 S → lv_has ls 3 [(0, .ref a0), (1, .int x1)] → wM D S a0 → sK S a0 = 9 → W p l e r_X4_numberOfCode s m args below meth c H locs 0 0 (MQ below (va_Qi (fun r S9 => wX D S0 S9 ∧ post r S9) (wB D cy X A) A) args s 0 0 A) (F0 m 0 ls []) := by
  obtain ⟨hx, hb, hml, hown, hts⟩ := id F
  have hwg : ∀ w ∈ WG, w.before args s = true := fun w h => hts w (List.mem_cons_of_mem _ h)
  intro S H locs ls a0 x1 hp hW hE hl hL_a0 hK_a0
  unfold wp_X4_numberOfCode_0 at hp
  refine lv_iconst (v := 0) hx hb dX4_numberOfCode_0 (by decide) ?_
  refine lv_istore_n (lv' := [(2, .int (0 : Int32)), (0, .ref a0), (1, .int x1)]) hx hb dX4_numberOfCode_1 rfl hl (by decide) rfl (fun ls hl => ?_)
  obtain ⟨n_1, hp⟩ := hp
  exact t_X4_numberOfCode_2 F hr hlocks hK n_1 hp hW hE (lv_sub hl [1, 2, 0] rfl) hL_a0 hK_a0
set_option maxHeartbeats 4000000 in
set_option maxRecDepth 100000 in
theorem c_X4_numberOfCode (l : Launch) {D : wD} {cy : Nat → ClassId} {X : va_W} {S0 : wS} {post : Int32 → wS → Prop} {a0 : Nat} {x1 : Int32} (hL_a0 : wM D S0 a0) (hK_a0 : sK S0 a0 = 9) (hp : wp_X4_numberOfCode D post S0 a0 x1) : mI D cy X l yX4_numberOfCode wz_X4_numberOfCode r_X4_numberOfCode [.ref a0, .int x1] S0 (fun r S9 => wX D S0 S9 ∧ post r S9) := by
  intro sz
  refine Met.ofW (cc := cX4_numberOfCode) (maxL := 3) (ret := (some .int)) (by decide) rfl ?_
  intro p e s m args below meth c s₁ B hml hv
  obtain ⟨rfl, hsz, hP, hK, hD0, hRO⟩ := hv
  have hts := atoms_spec (ws := wz_X4_numberOfCode) B.pre
  have hown : s.vm.findClass RX4 = some m.cls := findClass_of_methodNamed B.named
  subst hsz
  have hD := hD0.self (sz := s.heap.size)
  have F : CallFix p m c cX4_numberOfCode 3 s _ wz_X4_numberOfCode RX4 := ⟨B.exec, B.bytes, hml, hown, hts⟩
  have hr := B.returns
  have hlocks := B.notSynchronized
  generalize hAe : va_A (wL cy X S0) s.heap.size = A at hD hK ⊢
  have hA : ∀ q, s.heap.size ≤ q → A q := fun q h => by rw [← hAe]; exact Or.inr h
  have hW : wO D cy X A s.heap S0 s.heap [] := ⟨hP, hD, va_S.rf, hA, hRO⟩
  have hl := lv_entry ([.ref a0, .int x1]) (n := 3) (Nat.le_of_ble_eq_true rfl)
  rw [lg_entry_eq]
  generalize (lg_sl ([.ref a0, .int x1]) ++ List.replicate (3 - (lg_sl ([.ref a0, .int x1])).length) Slot.unset).toArray = ls at hl ⊢
  have hl : lv_has ls 3 [(0, .ref a0), (1, .int x1)] := hl
  unfold wp_X4_numberOfCode at hp
  exact t_X4_numberOfCode_0 F hr hlocks hK hp hW wX.rf (lv_sub hl [0, 1] rfl) hL_a0 hK_a0
def wp_X7_isInCheck_38 (D : wD) (post : Int32 → wS → Prop)  (S : wS) (t0 : Int32) : Prop :=
narrow .boolean (.int t0) = .int t0 ∧ post t0 S
def wp_X7_isInCheck_21 (D : wD) (post : Int32 → wS → Prop)  (S : wS) (a0 : Nat) (b0 : Nat) (t1 : Int32) (t2 : Int32) : Prop :=
wp_X7_occupied D (fun r_1 S_2 => 
wp_X7_attackers D (fun r_3 S_4 => 
(((lg_cmp r_3 (0 : Int64)) = 0 → wp_X7_isInCheck_38 D post S_4 (0 : Int32)) ∧
 (¬ (lg_cmp r_3 (0 : Int64)) = 0 → wp_X7_isInCheck_38 D post S_4 (1 : Int32)))) S_2 b0 t1 t2 r_1) S a0
def wp_X7_isInCheck_0 (D : wD) (post : Int32 → wS → Prop)  (S : wS) (a0 : Nat) : Prop :=
wp_X7_kingOf D (fun r_1 S_2 => 
((¬ (sI S_2 a0 5) = 0 → wp_X7_isInCheck_21 D post S_2 a0 a0 r_1 (0 : Int32)) ∧
 ((sI S_2 a0 5) = 0 → wp_X7_isInCheck_21 D post S_2 a0 a0 r_1 (1 : Int32)))) S a0 (sI S a0 5)
abbrev r_X7_isInCheck : Room := { frames := 2, cells := 0, slots := 0, locals := 60 }
def wp_X7_isInCheck (D : wD) (post : Int32 → wS → Prop) (S : wS) (a0 : Nat) : Prop := wp_X7_isInCheck_0 D post S a0
set_option maxHeartbeats 4000000 in
set_option maxRecDepth 100000 in
theorem t_X7_isInCheck_38 {p : Program} {l : Launch} {e : Env} {s : State} {m : MethodId} {args : Array Value} {below : List Frame} {meth : Method} {c : Code} {D : wD} {cy : Nat → ClassId} {X : va_W} {A : Nat → Prop} {S0 : wS} {post : Int32 → wS → Prop} (F : CallFix p m c cX7_isInCheck 1 s args wz_X7_isInCheck RX7) (hr : meth.sig.returnType = (some .boolean)) (hlocks : meth.locks = false) (hK : wK D cy A s) : ∀ {S : wS} {H : Heap} {locs : List Loc} {ls : Array Slot} {t0 : Int32}, wp_X7_isInCheck_38 D post S t0 → wO D cy X A s.heap S H locs → wX D S0 S → lv_has ls 1 [] → W p l e r_X7_isInCheck s m args below meth c H locs 0 0 (MQ below (va_Qi (fun r S9 => wX D S0 S9 ∧ post r S9) (wB D cy X A) A) args s 0 0 A) (F0 m 38 ls [.int t0]) := by
  obtain ⟨hx, hb, hml, hown, hts⟩ := id F
  have hwg : ∀ w ∈ WG, w.before args s = true := fun w h => hts w (List.mem_cons_of_mem _ h)
  intro S H locs ls t0 hp hW hE hl
  unfold wp_X7_isInCheck_38 at hp
  exact w_zret hx hb hr hlocks hW hp.1 ⟨hE, hp.2⟩ dX7_isInCheck_38
set_option maxHeartbeats 4000000 in
set_option maxRecDepth 100000 in
theorem t_X7_isInCheck_21 {p : Program} {l : Launch} {e : Env} {s : State} {m : MethodId} {args : Array Value} {below : List Frame} {meth : Method} {c : Code} {D : wD} {cy : Nat → ClassId} {X : va_W} {A : Nat → Prop} {S0 : wS} {post : Int32 → wS → Prop} (F : CallFix p m c cX7_isInCheck 1 s args wz_X7_isInCheck RX7) (hr : meth.sig.returnType = (some .boolean)) (hlocks : meth.locks = false) (hK : wK D cy A s) : ∀ {S : wS} {H : Heap} {locs : List Loc} {ls : Array Slot} {a0 : Nat} {b0 : Nat} {t1 : Int32} {t2 : Int32}, wp_X7_isInCheck_21 D post S a0 b0 t1 t2 → wO D cy X A s.heap S H locs → wX D S0 S → lv_has ls 1 [(0, .ref a0)] → wM D S a0 → sK S a0 = 12 → wM D S b0 → sK S b0 = 12 → W p l e r_X7_isInCheck s m args below meth c H locs 0 0 (MQ below (va_Qi (fun r S9 => wX D S0 S9 ∧ post r S9) (wB D cy X A) A) args s 0 0 A) (F0 m 21 ls [.int t2, .int t1, .ref b0]) := by
  obtain ⟨hx, hb, hml, hown, hts⟩ := id F
  have hwg : ∀ w ∈ WG, w.before args s = true := fun w h => hts w (List.mem_cons_of_mem _ h)
  intro S H locs ls a0 b0 t1 t2 hp hW hE hl hL_a0 hK_a0 hL_b0 hK_b0
  unfold wp_X7_isInCheck_21 at hp
  refine lv_aload_n hx hb dX7_isInCheck_21 rfl (lv_at hl 0 rfl) ?_
  refine w_callJ (va_runV (As := []) (rest := [.int t2, .int t1, .ref b0]) F (c_X7_occupied l hL_a0 hK_a0 hp H.size) (cwV (C := RX7) 0 hts (wg_V wm_RX7_122 wy_X7_occupied) rfl rfl rfl (by decide +kernel) ⟨Nat.le_of_ble_eq_true rfl, Nat.le_of_ble_eq_true rfl⟩) (w_preV hK hW hL_a0 hK_a0 (by decide) rfl) rfl rfl hl.1 rfl (lv_room (Nat.le_of_ble_eq_true rfl)) dX7_isInCheck_22 ⟨Nat.le_of_ble_eq_true rfl, Nat.le_of_ble_eq_true rfl⟩) hW (fun r_1 S_2 H locs hp hW => ?_)
  obtain ⟨hX_S_2, hp⟩ := hp
  refine W.widen (k := 0) (n := 0) (by decide) (by decide) ?_
  have hE := hE.trans hX_S_2
  have hK_a0 : sK S_2 a0 = 12 := (hX_S_2.2 a0 hL_a0).1.trans hK_a0
  have hL_a0 : wM D S_2 a0 := hX_S_2.M hL_a0
  have hK_b0 : sK S_2 b0 = 12 := (hX_S_2.2 b0 hL_b0).1.trans hK_b0
  have hL_b0 : wM D S_2 b0 := hX_S_2.M hL_b0
  refine w_callJ (va_runV (As := [.int t1, .int t2, .long r_1]) (rest := []) F (c_X7_attackers l hL_b0 hK_b0 hp H.size) (cwV (C := RX7) 3 hts (wg_V wm_RX7_125 wy_X7_attackers) rfl rfl rfl (by decide +kernel) ⟨Nat.le_of_ble_eq_true rfl, Nat.le_of_ble_eq_true rfl⟩) (w_preV hK hW hL_b0 hK_b0 (by decide) rfl) rfl rfl hl.1 rfl (lv_room (Nat.le_of_ble_eq_true rfl)) dX7_isInCheck_25 ⟨Nat.le_of_ble_eq_true rfl, Nat.le_of_ble_eq_true rfl⟩) hW (fun r_3 S_4 H locs hp hW => ?_)
  obtain ⟨hX_S_4, hp⟩ := hp
  refine W.widen (k := 0) (n := 0) (by decide) (by decide) ?_
  have hE := hE.trans hX_S_4
  have hK_a0 : sK S_4 a0 = 12 := (hX_S_4.2 a0 hL_a0).1.trans hK_a0
  have hL_a0 : wM D S_4 a0 := hX_S_4.M hL_a0
  refine lv_lconst (v := 0) hx hb dX7_isInCheck_28 (by decide) ?_
  refine W.lcmp hx hb dX7_isInCheck_29 ?_
  refine lv_if_eq (tgt := 37) hx hb dX7_isInCheck_30 (by decide) (fun c_5 => ?_) (fun c_5 => ?_)
  · replace hp := hp.1 c_5
    refine lv_iconst (v := 0) hx hb dX7_isInCheck_37 (by decide) ?_
    exact t_X7_isInCheck_38 F hr hlocks hK hp hW hE (lv_sub hl [] rfl)
  · replace hp := hp.2 c_5
    refine lv_iconst (v := 1) hx hb dX7_isInCheck_33 (by decide) ?_
    refine lv_goto (tgt := 38) hx hb dX7_isInCheck_34 (by decide) ?_
    exact t_X7_isInCheck_38 F hr hlocks hK hp hW hE (lv_sub hl [] rfl)
set_option maxHeartbeats 4000000 in
set_option maxRecDepth 100000 in
theorem t_X7_isInCheck_0 {p : Program} {l : Launch} {e : Env} {s : State} {m : MethodId} {args : Array Value} {below : List Frame} {meth : Method} {c : Code} {D : wD} {cy : Nat → ClassId} {X : va_W} {A : Nat → Prop} {S0 : wS} {post : Int32 → wS → Prop} (F : CallFix p m c cX7_isInCheck 1 s args wz_X7_isInCheck RX7) (hr : meth.sig.returnType = (some .boolean)) (hlocks : meth.locks = false) (hK : wK D cy A s) : ∀ {S : wS} {H : Heap} {locs : List Loc} {ls : Array Slot} {a0 : Nat}, wp_X7_isInCheck_0 D post S a0 → wO D cy X A s.heap S H locs → wX D S0 S → lv_has ls 1 [(0, .ref a0)] → wM D S a0 → sK S a0 = 12 → W p l e r_X7_isInCheck s m args below meth c H locs 0 0 (MQ below (va_Qi (fun r S9 => wX D S0 S9 ∧ post r S9) (wB D cy X A) A) args s 0 0 A) (F0 m 0 ls []) := by
  obtain ⟨hx, hb, hml, hown, hts⟩ := id F
  have hwg : ∀ w ∈ WG, w.before args s = true := fun w h => hts w (List.mem_cons_of_mem _ h)
  have i_12 : ∀ w ∈ u_ws RX7 TX7 8, w ∈ wz_X7_isInCheck := fun w h => List.mem_cons_of_mem _ (wu_12 w h)
  have k_24 := hwg _ wf_RX7_24
  intro S H locs ls a0 hp hW hE hl hL_a0 hK_a0
  unfold wp_X7_isInCheck_0 at hp
  refine lv_aload_n hx hb dX7_isInCheck_0 rfl (lv_at hl 0 rfl) ?_
  refine lv_aload_n hx hb dX7_isInCheck_1 rfl (lv_at hl 0 rfl) ?_
  refine lv_aload_n hx hb dX7_isInCheck_2 rfl (lv_at hl 0 rfl) ?_
  refine w_get (k := 12) (f := 5) (T := TX7) (v := .int (sI S a0 5)) F hK hW hL_a0 hK_a0 (by decide) rfl rfl (by decide) i_12 k_24 rfl dX7_isInCheck_3 ?_
  refine w_callI (va_runV (As := [.int (sI S a0 5)]) (rest := [.ref a0]) F (c_X7_kingOf l hL_a0 hK_a0 hp H.size) (cwV (C := RX7) 1 hts (wg_V wm_RX7_118 wy_X7_kingOf) rfl rfl rfl (by decide +kernel) ⟨Nat.le_of_ble_eq_true rfl, Nat.le_of_ble_eq_true rfl⟩) (w_preV hK hW hL_a0 hK_a0 (by decide) rfl) rfl rfl hl.1 rfl (lv_room (Nat.le_of_ble_eq_true rfl)) dX7_isInCheck_6 ⟨Nat.le_of_ble_eq_true rfl, Nat.le_of_ble_eq_true rfl⟩) hW (fun r_1 S_2 H locs hp hW => ?_)
  obtain ⟨hX_S_2, hp⟩ := hp
  refine W.widen (k := 0) (n := 0) (by decide) (by decide) ?_
  have hE := hE.trans hX_S_2
  have hK_a0 : sK S_2 a0 = 12 := (hX_S_2.2 a0 hL_a0).1.trans hK_a0
  have hL_a0 : wM D S_2 a0 := hX_S_2.M hL_a0
  refine lv_aload_n hx hb dX7_isInCheck_9 rfl (lv_at hl 0 rfl) ?_
  refine w_get (k := 12) (f := 5) (T := TX7) (v := .int (sI S_2 a0 5)) F hK hW hL_a0 hK_a0 (by decide) rfl rfl (by decide) i_12 k_24 rfl dX7_isInCheck_10 ?_
  refine lv_if_ne (tgt := 20) hx hb dX7_isInCheck_13 (by decide) (fun c_3 => ?_) (fun c_3 => ?_)
  · replace hp := hp.1 c_3
    refine lv_iconst (v := 0) hx hb dX7_isInCheck_20 (by decide) ?_
    exact t_X7_isInCheck_21 F hr hlocks hK hp hW hE (lv_sub hl [0] rfl) hL_a0 hK_a0 hL_a0 hK_a0
  · replace hp := hp.2 c_3
    refine lv_iconst (v := 1) hx hb dX7_isInCheck_16 (by decide) ?_
    refine lv_goto (tgt := 21) hx hb dX7_isInCheck_17 (by decide) ?_
    exact t_X7_isInCheck_21 F hr hlocks hK hp hW hE (lv_sub hl [0] rfl) hL_a0 hK_a0 hL_a0 hK_a0
set_option maxHeartbeats 4000000 in
set_option maxRecDepth 100000 in
theorem c_X7_isInCheck (l : Launch) {D : wD} {cy : Nat → ClassId} {X : va_W} {S0 : wS} {post : Int32 → wS → Prop} {a0 : Nat} (hL_a0 : wM D S0 a0) (hK_a0 : sK S0 a0 = 12) (hp : wp_X7_isInCheck D post S0 a0) : mI D cy X l yX7_isInCheck wz_X7_isInCheck r_X7_isInCheck [.ref a0] S0 (fun r S9 => wX D S0 S9 ∧ post r S9) := by
  intro sz
  refine Met.ofW (cc := cX7_isInCheck) (maxL := 1) (ret := (some .boolean)) (by decide) rfl ?_
  intro p e s m args below meth c s₁ B hml hv
  obtain ⟨rfl, hsz, hP, hK, hD0, hRO⟩ := hv
  have hts := atoms_spec (ws := wz_X7_isInCheck) B.pre
  have hown : s.vm.findClass RX7 = some m.cls := findClass_of_methodNamed B.named
  subst hsz
  have hD := hD0.self (sz := s.heap.size)
  have F : CallFix p m c cX7_isInCheck 1 s _ wz_X7_isInCheck RX7 := ⟨B.exec, B.bytes, hml, hown, hts⟩
  have hr := B.returns
  have hlocks := B.notSynchronized
  generalize hAe : va_A (wL cy X S0) s.heap.size = A at hD hK ⊢
  have hA : ∀ q, s.heap.size ≤ q → A q := fun q h => by rw [← hAe]; exact Or.inr h
  have hW : wO D cy X A s.heap S0 s.heap [] := ⟨hP, hD, va_S.rf, hA, hRO⟩
  have hl := lv_entry ([.ref a0]) (n := 1) (Nat.le_of_ble_eq_true rfl)
  rw [lg_entry_eq]
  generalize (lg_sl ([.ref a0]) ++ List.replicate (1 - (lg_sl ([.ref a0])).length) Slot.unset).toArray = ls at hl ⊢
  have hl : lv_has ls 1 [(0, .ref a0)] := hl
  unfold wp_X7_isInCheck at hp
  exact t_X7_isInCheck_0 F hr hlocks hK hp hW wX.rf (lv_sub hl [0] rfl) hL_a0 hK_a0
def wp_X8_hasMove_42 (D : wD) (post : Int32 → wS → Prop) (k_7 : wS → Nat → Nat → Int32 → Prop) (S : wS) (a0 : Nat) (a1 : Nat) (x2 : Int32) : Prop :=
∀ x_1 : Int32, x_1 = x2 + 1 →
k_7 S a0 a1 x_1
def wp_X8_hasMove_7 (D : wD) (post : Int32 → wS → Prop)  : Nat → wS → Nat → Nat → Int32 → Prop
  | 0, _, _, _, _ => False
  | n + 1, S, a0, a1, x2 =>
    ∃ y_1 : Nat, sR S a0 0 = some y_1 ∧ wM D S y_1 ∧ sK S y_1 = 5 ∧
    (((sI S y_1 2) ≤ x2 → narrow .boolean (.int (0 : Int32)) = .int (0 : Int32) ∧ post (0 : Int32) S) ∧
     (¬ (sI S y_1 2) ≤ x2 → wp_X11_contains D (fun r_3 S_4 => 
    ((r_3 = 0 → wp_X8_hasMove_42 D post (wp_X8_hasMove_7 D post n) S_4 a0 a1 x2) ∧
     (¬ r_3 = 0 → wp_X8_targets D (fun r_6 S_7 => 
    (((lg_cmp r_6 (0 : Int64)) = 0 → wp_X8_hasMove_42 D post (wp_X8_hasMove_7 D post n) S_7 a0 a1 x2) ∧
     (¬ (lg_cmp r_6 (0 : Int64)) = 0 → narrow .boolean (.int (1 : Int32)) = .int (1 : Int32) ∧ post (1 : Int32) S_7))) S_4 a0 a1 x2))) S (sJ S a0 3) x2))
def wp_X8_hasMove_0 (D : wD) (post : Int32 → wS → Prop)  (S : wS) (a0 : Nat) (a1 : Nat) : Prop :=
wp_X8_look D (fun S_2 => 
∃ n_3 : Nat, wp_X8_hasMove_7 D post n_3 S_2 a0 a1 (0 : Int32)) S a0 a1
abbrev r_X8_hasMove : Room := { frames := 3, cells := 0, slots := 0, locals := 98 }
def wp_X8_hasMove (D : wD) (post : Int32 → wS → Prop) (S : wS) (a0 : Nat) (a1 : Nat) : Prop := wp_X8_hasMove_0 D post S a0 a1
set_option maxHeartbeats 4000000 in
set_option maxRecDepth 100000 in
theorem t_X8_hasMove_42 {p : Program} {l : Launch} {e : Env} {s : State} {m : MethodId} {args : Array Value} {below : List Frame} {meth : Method} {c : Code} {D : wD} {cy : Nat → ClassId} {X : va_W} {A : Nat → Prop} {S0 : wS} {post : Int32 → wS → Prop} (F : CallFix p m c cX8_hasMove 3 s args wz_X8_hasMove RX8) (hr : meth.sig.returnType = (some .boolean)) (hlocks : meth.locks = false) (hK : wK D cy A s) {k_7 : wS → Nat → Nat → Int32 → Prop} (q_7 : ∀ {S : wS} {H : Heap} {locs : List Loc} {ls : Array Slot} {a0 : Nat} {a1 : Nat} {x2 : Int32}, k_7 S a0 a1 x2 → wO D cy X A s.heap S H locs → wX D S0 S → lv_has ls 3 [(0, .ref a0), (1, .ref a1), (2, .int x2)] → wM D S a0 → sK S a0 = 13 → wM D S a1 → sK S a1 = 12 → W p l e r_X8_hasMove s m args below meth c H locs 0 0 (MQ below (va_Qi (fun r S9 => wX D S0 S9 ∧ post r S9) (wB D cy X A) A) args s 0 0 A) (F0 m 7 ls [])) : ∀ {S : wS} {H : Heap} {locs : List Loc} {ls : Array Slot} {a0 : Nat} {a1 : Nat} {x2 : Int32}, wp_X8_hasMove_42 D post k_7 S a0 a1 x2 → wO D cy X A s.heap S H locs → wX D S0 S → lv_has ls 3 [(0, .ref a0), (1, .ref a1), (2, .int x2)] → wM D S a0 → sK S a0 = 13 → wM D S a1 → sK S a1 = 12 → W p l e r_X8_hasMove s m args below meth c H locs 0 0 (MQ below (va_Qi (fun r S9 => wX D S0 S9 ∧ post r S9) (wB D cy X A) A) args s 0 0 A) (F0 m 42 ls []) := by
  obtain ⟨hx, hb, hml, hown, hts⟩ := id F
  have hwg : ∀ w ∈ WG, w.before args s = true := fun w h => hts w (List.mem_cons_of_mem _ h)
  intro S H locs ls a0 a1 x2 hp hW hE hl hL_a0 hK_a0 hL_a1 hK_a1
  unfold wp_X8_hasMove_42 at hp
  obtain ⟨x_1, ex_1⟩ : ∃ z : Int32, z = x2 + 1 := ⟨_, rfl⟩
  replace hp := hp x_1 ex_1
  refine lv_iinc (v := x_1) (lv' := [(2, .int x_1), (0, .ref a0), (1, .ref a1)]) hx hb dX8_hasMove_42 hl (k := 2) rfl (by rw [ex_1]; rfl) (by decide) rfl (fun ls hl => ?_)
  refine lv_goto (tgt := 7) hx hb dX8_hasMove_45 (by decide) ?_
  exact q_7 hp hW hE (lv_sub hl [1, 2, 0] rfl) hL_a0 hK_a0 hL_a1 hK_a1
set_option maxHeartbeats 4000000 in
set_option maxRecDepth 100000 in
theorem t_X8_hasMove_7 {p : Program} {l : Launch} {e : Env} {s : State} {m : MethodId} {args : Array Value} {below : List Frame} {meth : Method} {c : Code} {D : wD} {cy : Nat → ClassId} {X : va_W} {A : Nat → Prop} {S0 : wS} {post : Int32 → wS → Prop} (F : CallFix p m c cX8_hasMove 3 s args wz_X8_hasMove RX8) (hr : meth.sig.returnType = (some .boolean)) (hlocks : meth.locks = false) (hK : wK D cy A s) : ∀ (n : Nat) {S : wS} {H : Heap} {locs : List Loc} {ls : Array Slot} {a0 : Nat} {a1 : Nat} {x2 : Int32}, wp_X8_hasMove_7 D post n S a0 a1 x2 → wO D cy X A s.heap S H locs → wX D S0 S → lv_has ls 3 [(0, .ref a0), (1, .ref a1), (2, .int x2)] → wM D S a0 → sK S a0 = 13 → wM D S a1 → sK S a1 = 12 → W p l e r_X8_hasMove s m args below meth c H locs 0 0 (MQ below (va_Qi (fun r S9 => wX D S0 S9 ∧ post r S9) (wB D cy X A) A) args s 0 0 A) (F0 m 7 ls []) := by
  obtain ⟨hx, hb, hml, hown, hts⟩ := id F
  have hwg : ∀ w ∈ WG, w.before args s = true := fun w h => hts w (List.mem_cons_of_mem _ h)
  have i_13 : ∀ w ∈ u_ws RX8 TX8 6, w ∈ wz_X8_hasMove := fun w h => List.mem_cons_of_mem _ (wu_13 w h)
  have i_5 : ∀ w ∈ u_ws RX0 TX0 12, w ∈ wz_X8_hasMove := fun w h => List.mem_cons_of_mem _ (wu_5 w h)
  have k_19 := hwg _ wf_RX8_19
  have k_29 := hwg _ wf_RX8_29
  intro n
  induction n with
  | zero =>
    intro S H locs ls a0 a1 x2 hp
    exact hp.elim
  | succ n ih =>
    intro S H locs ls a0 a1 x2 hp hW hE hl hL_a0 hK_a0 hL_a1 hK_a1
    unfold wp_X8_hasMove_7 at hp
    refine lv_iload_n hx hb dX8_hasMove_7 rfl (lv_at hl 2 rfl) ?_
    refine lv_aload_n hx hb dX8_hasMove_8 rfl (lv_at hl 0 rfl) ?_
    obtain ⟨y_1, ey_1, hL_y_1, hK_y_1, hp⟩ := hp
    refine w_get (k := 13) (f := 0) (T := TX8) (v := .ref y_1) F hK hW hL_a0 hK_a0 (by decide) rfl rfl (by decide) i_13 k_29 (by rw [show wv 13 0 S a0 = va_rf (sR S a0 0) from rfl, ey_1]; rfl) dX8_hasMove_9 ?_
    refine w_getN (k := 5) (f := 2) (T := TX0) (v := .int (sI S y_1 2)) F hK hW hL_y_1 hK_y_1 (by decide) rfl rfl (by decide) i_5 (hK.2.1 (.fieldLinkNest "OpeningsCabinet$Rules" 65 "OpeningsCabinet$Board" "size" "I" "OpeningsCabinet") (by decide +kernel)) rfl dX8_hasMove_12 ?_
    refine lv_icmp_ge (tgt := 48) hx hb dX8_hasMove_15 (by decide) (fun c_2 => ?_) (fun c_2 => ?_)
    · replace hp := hp.1 c_2
      refine lv_iconst (v := 0) hx hb dX8_hasMove_48 (by decide) ?_
      exact w_zret hx hb hr hlocks hW hp.1 ⟨hE, hp.2⟩ dX8_hasMove_49
    · replace hp := hp.2 c_2
      refine lv_aload_n hx hb dX8_hasMove_18 rfl (lv_at hl 0 rfl) ?_
      refine w_get (k := 13) (f := 3) (T := TX8) (v := .long (sJ S a0 3)) F hK hW hL_a0 hK_a0 (by decide) rfl rfl (by decide) i_13 k_19 rfl dX8_hasMove_19 ?_
      refine lv_iload_n hx hb dX8_hasMove_22 rfl (lv_at hl 2 rfl) ?_
      refine w_callI (va_runSN (As := [.long (sJ S a0 3), .int x2]) (rest := []) F (c_X11_contains l hp H.size) ⟨va_cnB (host := "OpeningsCabinet") 2 hts (wg_cons wy_X11_contains.2.2) rfl rfl rfl (hK.2.1 (.methodLinkNest "OpeningsCabinet$Rules" 68 ⟨"OpeningsCabinet", "contains", "(JI)Z"⟩ "OpeningsCabinet") (by decide +kernel)) (hwg _ wy_X11_contains.2.1) ⟨by decide, by decide, by decide +kernel⟩ ⟨Nat.le_of_ble_eq_true rfl, Nat.le_of_ble_eq_true rfl⟩, hwg _ wy_X11_contains.1, trivial⟩ (w_preS hK hW) rfl rfl hl.1 rfl (lv_room (Nat.le_of_ble_eq_true rfl)) dX8_hasMove_23 ⟨Nat.le_of_ble_eq_true rfl, Nat.le_of_ble_eq_true rfl⟩) hW (fun r_3 S_4 H locs hp hW => ?_)
      obtain ⟨hX_S_4, hp⟩ := hp
      refine W.widen (k := 0) (n := 0) (by decide) (by decide) ?_
      have hE := hE.trans hX_S_4
      have hK_a0 : sK S_4 a0 = 13 := (hX_S_4.2 a0 hL_a0).1.trans hK_a0
      have hL_a0 : wM D S_4 a0 := hX_S_4.M hL_a0
      have hK_a1 : sK S_4 a1 = 12 := (hX_S_4.2 a1 hL_a1).1.trans hK_a1
      have hL_a1 : wM D S_4 a1 := hX_S_4.M hL_a1
      refine lv_if_eq (tgt := 42) hx hb dX8_hasMove_26 (by decide) (fun c_5 => ?_) (fun c_5 => ?_)
      · replace hp := hp.1 c_5
        exact t_X8_hasMove_42 F hr hlocks hK ih hp hW hE (lv_sub hl [0, 1, 2] rfl) hL_a0 hK_a0 hL_a1 hK_a1
      · replace hp := hp.2 c_5
        refine lv_aload_n hx hb dX8_hasMove_29 rfl (lv_at hl 0 rfl) ?_
        refine lv_aload_n hx hb dX8_hasMove_30 rfl (lv_at hl 1 rfl) ?_
        refine lv_iload_n hx hb dX8_hasMove_31 rfl (lv_at hl 2 rfl) ?_
        refine w_callJ (va_runV (As := [.ref a1, .int x2]) (rest := []) F (c_X8_targets l hL_a0 hK_a0 hL_a1 hK_a1 hp H.size) (cwV (C := RX8) 2 hts (wg_V wm_RX8_72 wy_X8_targets) rfl rfl rfl (by decide +kernel) ⟨Nat.le_of_ble_eq_true rfl, Nat.le_of_ble_eq_true rfl⟩) (w_preV hK hW hL_a0 hK_a0 (by decide) rfl) rfl rfl hl.1 rfl (lv_room (Nat.le_of_ble_eq_true rfl)) dX8_hasMove_32 ⟨Nat.le_of_ble_eq_true rfl, Nat.le_of_ble_eq_true rfl⟩) hW (fun r_6 S_7 H locs hp hW => ?_)
        obtain ⟨hX_S_7, hp⟩ := hp
        refine W.widen (k := 0) (n := 0) (by decide) (by decide) ?_
        have hE := hE.trans hX_S_7
        have hK_a0 : sK S_7 a0 = 13 := (hX_S_7.2 a0 hL_a0).1.trans hK_a0
        have hL_a0 : wM D S_7 a0 := hX_S_7.M hL_a0
        have hK_a1 : sK S_7 a1 = 12 := (hX_S_7.2 a1 hL_a1).1.trans hK_a1
        have hL_a1 : wM D S_7 a1 := hX_S_7.M hL_a1
        refine lv_lconst (v := 0) hx hb dX8_hasMove_35 (by decide) ?_
        refine W.lcmp hx hb dX8_hasMove_36 ?_
        refine lv_if_eq (tgt := 42) hx hb dX8_hasMove_37 (by decide) (fun c_8 => ?_) (fun c_8 => ?_)
        · replace hp := hp.1 c_8
          exact t_X8_hasMove_42 F hr hlocks hK ih hp hW hE (lv_sub hl [0, 1, 2] rfl) hL_a0 hK_a0 hL_a1 hK_a1
        · replace hp := hp.2 c_8
          refine lv_iconst (v := 1) hx hb dX8_hasMove_40 (by decide) ?_
          exact w_zret hx hb hr hlocks hW hp.1 ⟨hE, hp.2⟩ dX8_hasMove_41
set_option maxHeartbeats 4000000 in
set_option maxRecDepth 100000 in
theorem t_X8_hasMove_0 {p : Program} {l : Launch} {e : Env} {s : State} {m : MethodId} {args : Array Value} {below : List Frame} {meth : Method} {c : Code} {D : wD} {cy : Nat → ClassId} {X : va_W} {A : Nat → Prop} {S0 : wS} {post : Int32 → wS → Prop} (F : CallFix p m c cX8_hasMove 3 s args wz_X8_hasMove RX8) (hr : meth.sig.returnType = (some .boolean)) (hlocks : meth.locks = false) (hK : wK D cy A s) : ∀ {S : wS} {H : Heap} {locs : List Loc} {ls : Array Slot} {a0 : Nat} {a1 : Nat}, wp_X8_hasMove_0 D post S a0 a1 → wO D cy X A s.heap S H locs → wX D S0 S → lv_has ls 3 [(0, .ref a0), (1, .ref a1)] → wM D S a0 → sK S a0 = 13 → wM D S a1 → sK S a1 = 12 → W p l e r_X8_hasMove s m args below meth c H locs 0 0 (MQ below (va_Qi (fun r S9 => wX D S0 S9 ∧ post r S9) (wB D cy X A) A) args s 0 0 A) (F0 m 0 ls []) := by
  obtain ⟨hx, hb, hml, hown, hts⟩ := id F
  have hwg : ∀ w ∈ WG, w.before args s = true := fun w h => hts w (List.mem_cons_of_mem _ h)
  intro S H locs ls a0 a1 hp hW hE hl hL_a0 hK_a0 hL_a1 hK_a1
  unfold wp_X8_hasMove_0 at hp
  refine lv_aload_n hx hb dX8_hasMove_0 rfl (lv_at hl 0 rfl) ?_
  refine lv_aload_n hx hb dX8_hasMove_1 rfl (lv_at hl 1 rfl) ?_
  refine w_callV (va_runV (As := [.ref a1]) (rest := []) F (c_X8_look l hL_a0 hK_a0 hL_a1 hK_a1 hp H.size) (cwV (C := RX8) 1 hts (wg_V wm_RX8_61 wy_X8_look) rfl rfl rfl (by decide +kernel) ⟨Nat.le_of_ble_eq_true rfl, Nat.le_of_ble_eq_true rfl⟩) (w_preV hK hW hL_a0 hK_a0 (by decide) rfl) rfl rfl hl.1 rfl (lv_room (Nat.le_of_ble_eq_true rfl)) dX8_hasMove_2 ⟨Nat.le_of_ble_eq_true rfl, Nat.le_of_ble_eq_true rfl⟩) hW (fun S_2 H locs hp hW => ?_)
  obtain ⟨hX_S_2, hp⟩ := hp
  refine W.widen (k := 0) (n := 0) (by decide) (by decide) ?_
  have hE := hE.trans hX_S_2
  have hK_a0 : sK S_2 a0 = 13 := (hX_S_2.2 a0 hL_a0).1.trans hK_a0
  have hL_a0 : wM D S_2 a0 := hX_S_2.M hL_a0
  have hK_a1 : sK S_2 a1 = 12 := (hX_S_2.2 a1 hL_a1).1.trans hK_a1
  have hL_a1 : wM D S_2 a1 := hX_S_2.M hL_a1
  refine lv_iconst (v := 0) hx hb dX8_hasMove_5 (by decide) ?_
  refine lv_istore_n (lv' := [(2, .int (0 : Int32)), (0, .ref a0), (1, .ref a1)]) hx hb dX8_hasMove_6 rfl hl (by decide) rfl (fun ls hl => ?_)
  obtain ⟨n_3, hp⟩ := hp
  exact t_X8_hasMove_7 F hr hlocks hK n_3 hp hW hE (lv_sub hl [1, 2, 0] rfl) hL_a0 hK_a0 hL_a1 hK_a1
set_option maxHeartbeats 4000000 in
set_option maxRecDepth 100000 in
theorem c_X8_hasMove (l : Launch) {D : wD} {cy : Nat → ClassId} {X : va_W} {S0 : wS} {post : Int32 → wS → Prop} {a0 : Nat} {a1 : Nat} (hL_a0 : wM D S0 a0) (hK_a0 : sK S0 a0 = 13) (hL_a1 : wM D S0 a1) (hK_a1 : sK S0 a1 = 12) (hp : wp_X8_hasMove D post S0 a0 a1) : mI D cy X l yX8_hasMove wz_X8_hasMove r_X8_hasMove [.ref a0, .ref a1] S0 (fun r S9 => wX D S0 S9 ∧ post r S9) := by
  intro sz
  refine Met.ofW (cc := cX8_hasMove) (maxL := 3) (ret := (some .boolean)) (by decide) rfl ?_
  intro p e s m args below meth c s₁ B hml hv
  obtain ⟨rfl, hsz, hP, hK, hD0, hRO⟩ := hv
  have hts := atoms_spec (ws := wz_X8_hasMove) B.pre
  have hown : s.vm.findClass RX8 = some m.cls := findClass_of_methodNamed B.named
  subst hsz
  have hD := hD0.self (sz := s.heap.size)
  have F : CallFix p m c cX8_hasMove 3 s _ wz_X8_hasMove RX8 := ⟨B.exec, B.bytes, hml, hown, hts⟩
  have hr := B.returns
  have hlocks := B.notSynchronized
  generalize hAe : va_A (wL cy X S0) s.heap.size = A at hD hK ⊢
  have hA : ∀ q, s.heap.size ≤ q → A q := fun q h => by rw [← hAe]; exact Or.inr h
  have hW : wO D cy X A s.heap S0 s.heap [] := ⟨hP, hD, va_S.rf, hA, hRO⟩
  have hl := lv_entry ([.ref a0, .ref a1]) (n := 3) (Nat.le_of_ble_eq_true rfl)
  rw [lg_entry_eq]
  generalize (lg_sl ([.ref a0, .ref a1]) ++ List.replicate (3 - (lg_sl ([.ref a0, .ref a1])).length) Slot.unset).toArray = ls at hl ⊢
  have hl : lv_has ls 3 [(0, .ref a0), (1, .ref a1)] := hl
  unfold wp_X8_hasMove at hp
  exact t_X8_hasMove_0 F hr hlocks hK hp hW wX.rf (lv_sub hl [0, 1] rfl) hL_a0 hK_a0 hL_a1 hK_a1
def wp_X4_markOf_56 (D : wD) (post : Int32 → wS → Prop)  (S : wS) (t0 : Int32) : Prop :=
post t0 S
def wp_X4_markOf_0 (D : wD) (post : Int32 → wS → Prop)  (S : wS) (a0 : Nat) (x1 : Int32) : Prop :=
∃ y_1 : Nat, sR S a0 3 = some y_1 ∧ wM D S y_1 ∧ sK S y_1 = 12 ∧
∃ y_2 : Nat, sR S a0 2 = some y_2 ∧ wM D S y_2 ∧ sK S y_2 = 12 ∧
wp_X7_copy D (fun S_4 => 
∃ y_5 : Nat, sR S_4 a0 3 = some y_5 ∧ wM D S_4 y_5 ∧ sK S_4 y_5 = 12 ∧
wp_X4_codeAt D (fun r_6 S_7 => 
wp_X7_apply D (fun S_9 => 
∃ y_10 : Nat, sR S_9 a0 3 = some y_10 ∧ wM D S_9 y_10 ∧ sK S_9 y_10 = 12 ∧
wp_X7_isInCheck D (fun r_11 S_12 => 
((¬ r_11 = 0 → ∃ y_14 : Nat, sR S_12 a0 1 = some y_14 ∧ wM D S_12 y_14 ∧ sK S_12 y_14 = 13 ∧
∃ y_15 : Nat, sR S_12 a0 3 = some y_15 ∧ wM D S_12 y_15 ∧ sK S_12 y_15 = 12 ∧
wp_X8_hasMove D (fun r_16 S_17 => 
((r_16 = 0 → wp_X4_markOf_56 D post S_17 (35 : Int32)) ∧
 (¬ r_16 = 0 → wp_X4_markOf_56 D post S_17 (43 : Int32)))) S_12 y_14 y_15) ∧
 (r_11 = 0 → post (0 : Int32) S_12))) S_9 y_10) S_7 y_5 r_6) S_4 a0 x1) S y_1 y_2
abbrev r_X4_markOf : Room := { frames := 4, cells := 0, slots := 0, locals := 120 }
def wp_X4_markOf (D : wD) (post : Int32 → wS → Prop) (S : wS) (a0 : Nat) (x1 : Int32) : Prop := wp_X4_markOf_0 D post S a0 x1
set_option maxHeartbeats 4000000 in
set_option maxRecDepth 100000 in
theorem t_X4_markOf_56 {p : Program} {l : Launch} {e : Env} {s : State} {m : MethodId} {args : Array Value} {below : List Frame} {meth : Method} {c : Code} {D : wD} {cy : Nat → ClassId} {X : va_W} {A : Nat → Prop} {S0 : wS} {post : Int32 → wS → Prop} (F : CallFix p m c cX4_markOf 2 s args wz_X4_markOf RX4) (hr : meth.sig.returnType = (some .int)) (hlocks : meth.locks = false) (hK : wK D cy A s) : ∀ {S : wS} {H : Heap} {locs : List Loc} {ls : Array Slot} {t0 : Int32}, wp_X4_markOf_56 D post S t0 → wO D cy X A s.heap S H locs → wX D S0 S → lv_has ls 2 [] → W p l e r_X4_markOf s m args below meth c H locs 0 0 (MQ below (va_Qi (fun r S9 => wX D S0 S9 ∧ post r S9) (wB D cy X A) A) args s 0 0 A) (F0 m 56 ls [.int t0]) := by
  obtain ⟨hx, hb, hml, hown, hts⟩ := id F
  have hwg : ∀ w ∈ WG, w.before args s = true := fun w h => hts w (List.mem_cons_of_mem _ h)
  intro S H locs ls t0 hp hW hE hl
  unfold wp_X4_markOf_56 at hp
  exact w_iret hx hb hr hlocks hW ⟨hE, hp⟩ dX4_markOf_56
set_option maxHeartbeats 4000000 in
set_option maxRecDepth 100000 in
theorem t_X4_markOf_0 {p : Program} {l : Launch} {e : Env} {s : State} {m : MethodId} {args : Array Value} {below : List Frame} {meth : Method} {c : Code} {D : wD} {cy : Nat → ClassId} {X : va_W} {A : Nat → Prop} {S0 : wS} {post : Int32 → wS → Prop} (F : CallFix p m c cX4_markOf 2 s args wz_X4_markOf RX4) (hr : meth.sig.returnType = (some .int)) (hlocks : meth.locks = false) (hK : wK D cy A s) : ∀ {S : wS} {H : Heap} {locs : List Loc} {ls : Array Slot} {a0 : Nat} {x1 : Int32}, wp_X4_markOf_0 D post S a0 x1 → wO D cy X A s.heap S H locs → wX D S0 S → lv_has ls 2 [(0, .ref a0), (1, .int x1)] → wM D S a0 → sK S a0 = 9 → W p l e r_X4_markOf s m args below meth c H locs 0 0 (MQ below (va_Qi (fun r S9 => wX D S0 S9 ∧ post r S9) (wB D cy X A) A) args s 0 0 A) (F0 m 0 ls []) := by
  obtain ⟨hx, hb, hml, hown, hts⟩ := id F
  have hwg : ∀ w ∈ WG, w.before args s = true := fun w h => hts w (List.mem_cons_of_mem _ h)
  have i_9 : ∀ w ∈ u_ws RX4 TX4 8, w ∈ wz_X4_markOf := fun w h => List.mem_cons_of_mem _ (wu_9 w h)
  have k_31 := hwg _ wf_RX4_31
  have k_40 := hwg _ wf_RX4_40
  have k_44 := hwg _ wf_RX4_44
  intro S H locs ls a0 x1 hp hW hE hl hL_a0 hK_a0
  unfold wp_X4_markOf_0 at hp
  refine lv_aload_n hx hb dX4_markOf_0 rfl (lv_at hl 0 rfl) ?_
  obtain ⟨y_1, ey_1, hL_y_1, hK_y_1, hp⟩ := hp
  refine w_get (k := 9) (f := 3) (T := TX4) (v := .ref y_1) F hK hW hL_a0 hK_a0 (by decide) rfl rfl (by decide) i_9 k_44 (by rw [show wv 9 3 S a0 = va_rf (sR S a0 3) from rfl, ey_1]; rfl) dX4_markOf_1 ?_
  refine lv_aload_n hx hb dX4_markOf_4 rfl (lv_at hl 0 rfl) ?_
  obtain ⟨y_2, ey_2, hL_y_2, hK_y_2, hp⟩ := hp
  refine w_get (k := 9) (f := 2) (T := TX4) (v := .ref y_2) F hK hW hL_a0 hK_a0 (by decide) rfl rfl (by decide) i_9 k_40 (by rw [show wv 9 2 S a0 = va_rf (sR S a0 2) from rfl, ey_2]; rfl) dX4_markOf_5 ?_
  refine w_callV (va_runV (As := [.ref y_2]) (rest := []) F (c_X7_copy l hL_y_1 hK_y_1 hL_y_2 hK_y_2 hp H.size) (cwV (C := RX7) 1 hts (wg_V wm_RX4_47 wy_X7_copy) rfl rfl rfl (by decide +kernel) ⟨Nat.le_of_ble_eq_true rfl, Nat.le_of_ble_eq_true rfl⟩) (w_preV hK hW hL_y_1 hK_y_1 (by decide) rfl) rfl rfl hl.1 rfl (lv_room (Nat.le_of_ble_eq_true rfl)) dX4_markOf_8 ⟨Nat.le_of_ble_eq_true rfl, Nat.le_of_ble_eq_true rfl⟩) hW (fun S_4 H locs hp hW => ?_)
  obtain ⟨hX_S_4, hp⟩ := hp
  refine W.widen (k := 0) (n := 0) (by decide) (by decide) ?_
  have hE := hE.trans hX_S_4
  have hK_a0 : sK S_4 a0 = 9 := (hX_S_4.2 a0 hL_a0).1.trans hK_a0
  have hL_a0 : wM D S_4 a0 := hX_S_4.M hL_a0
  refine lv_aload_n hx hb dX4_markOf_11 rfl (lv_at hl 0 rfl) ?_
  obtain ⟨y_5, ey_5, hL_y_5, hK_y_5, hp⟩ := hp
  refine w_get (k := 9) (f := 3) (T := TX4) (v := .ref y_5) F hK hW hL_a0 hK_a0 (by decide) rfl rfl (by decide) i_9 k_44 (by rw [show wv 9 3 S_4 a0 = va_rf (sR S_4 a0 3) from rfl, ey_5]; rfl) dX4_markOf_12 ?_
  refine lv_aload_n hx hb dX4_markOf_15 rfl (lv_at hl 0 rfl) ?_
  refine lv_iload_n hx hb dX4_markOf_16 rfl (lv_at hl 1 rfl) ?_
  refine w_callI (va_runV (As := [.int x1]) (rest := [.ref y_5]) F (c_X4_codeAt l hL_a0 hK_a0 hp H.size) (cwV (C := RX4) 1 hts (wg_V wm_RX4_65 wy_X4_codeAt) rfl rfl rfl (by decide +kernel) ⟨Nat.le_of_ble_eq_true rfl, Nat.le_of_ble_eq_true rfl⟩) (w_preV hK hW hL_a0 hK_a0 (by decide) rfl) rfl rfl hl.1 rfl (lv_room (Nat.le_of_ble_eq_true rfl)) dX4_markOf_17 ⟨Nat.le_of_ble_eq_true rfl, Nat.le_of_ble_eq_true rfl⟩) hW (fun r_6 S_7 H locs hp hW => ?_)
  obtain ⟨hX_S_7, hp⟩ := hp
  refine W.widen (k := 0) (n := 0) (by decide) (by decide) ?_
  have hE := hE.trans hX_S_7
  have hK_a0 : sK S_7 a0 = 9 := (hX_S_7.2 a0 hL_a0).1.trans hK_a0
  have hL_a0 : wM D S_7 a0 := hX_S_7.M hL_a0
  have hK_y_5 : sK S_7 y_5 = 12 := (hX_S_7.2 y_5 hL_y_5).1.trans hK_y_5
  have hL_y_5 : wM D S_7 y_5 := hX_S_7.M hL_y_5
  refine w_callV (va_runV (As := [.int r_6]) (rest := []) F (c_X7_apply l hL_y_5 hK_y_5 hp H.size) (cwV (C := RX7) 1 hts (wg_V wm_RX4_121 wy_X7_apply) rfl rfl rfl (by decide +kernel) ⟨Nat.le_of_ble_eq_true rfl, Nat.le_of_ble_eq_true rfl⟩) (w_preV hK hW hL_y_5 hK_y_5 (by decide) rfl) rfl rfl hl.1 rfl (lv_room (Nat.le_of_ble_eq_true rfl)) dX4_markOf_20 ⟨Nat.le_of_ble_eq_true rfl, Nat.le_of_ble_eq_true rfl⟩) hW (fun S_9 H locs hp hW => ?_)
  obtain ⟨hX_S_9, hp⟩ := hp
  refine W.widen (k := 0) (n := 0) (by decide) (by decide) ?_
  have hE := hE.trans hX_S_9
  have hK_a0 : sK S_9 a0 = 9 := (hX_S_9.2 a0 hL_a0).1.trans hK_a0
  have hL_a0 : wM D S_9 a0 := hX_S_9.M hL_a0
  refine lv_aload_n hx hb dX4_markOf_23 rfl (lv_at hl 0 rfl) ?_
  obtain ⟨y_10, ey_10, hL_y_10, hK_y_10, hp⟩ := hp
  refine w_get (k := 9) (f := 3) (T := TX4) (v := .ref y_10) F hK hW hL_a0 hK_a0 (by decide) rfl rfl (by decide) i_9 k_44 (by rw [show wv 9 3 S_9 a0 = va_rf (sR S_9 a0 3) from rfl, ey_10]; rfl) dX4_markOf_24 ?_
  refine w_callI (va_runV (As := []) (rest := []) F (c_X7_isInCheck l hL_y_10 hK_y_10 hp H.size) (cwV (C := RX7) 0 hts (wg_V wm_RX4_125 wy_X7_isInCheck) rfl rfl rfl (by decide +kernel) ⟨Nat.le_of_ble_eq_true rfl, Nat.le_of_ble_eq_true rfl⟩) (w_preV hK hW hL_y_10 hK_y_10 (by decide) rfl) rfl rfl hl.1 rfl (lv_room (Nat.le_of_ble_eq_true rfl)) dX4_markOf_27 ⟨Nat.le_of_ble_eq_true rfl, Nat.le_of_ble_eq_true rfl⟩) hW (fun r_11 S_12 H locs hp hW => ?_)
  obtain ⟨hX_S_12, hp⟩ := hp
  refine W.widen (k := 0) (n := 0) (by decide) (by decide) ?_
  have hE := hE.trans hX_S_12
  have hK_a0 : sK S_12 a0 = 9 := (hX_S_12.2 a0 hL_a0).1.trans hK_a0
  have hL_a0 : wM D S_12 a0 := hX_S_12.M hL_a0
  refine lv_if_ne (tgt := 35) hx hb dX4_markOf_30 (by decide) (fun c_13 => ?_) (fun c_13 => ?_)
  · replace hp := hp.1 c_13
    refine lv_aload_n hx hb dX4_markOf_35 rfl (lv_at hl 0 rfl) ?_
    obtain ⟨y_14, ey_14, hL_y_14, hK_y_14, hp⟩ := hp
    refine w_get (k := 9) (f := 1) (T := TX4) (v := .ref y_14) F hK hW hL_a0 hK_a0 (by decide) rfl rfl (by decide) i_9 k_31 (by rw [show wv 9 1 S_12 a0 = va_rf (sR S_12 a0 1) from rfl, ey_14]; rfl) dX4_markOf_36 ?_
    refine lv_aload_n hx hb dX4_markOf_39 rfl (lv_at hl 0 rfl) ?_
    obtain ⟨y_15, ey_15, hL_y_15, hK_y_15, hp⟩ := hp
    refine w_get (k := 9) (f := 3) (T := TX4) (v := .ref y_15) F hK hW hL_a0 hK_a0 (by decide) rfl rfl (by decide) i_9 k_44 (by rw [show wv 9 3 S_12 a0 = va_rf (sR S_12 a0 3) from rfl, ey_15]; rfl) dX4_markOf_40 ?_
    refine w_callI (va_runV (As := [.ref y_15]) (rest := []) F (c_X8_hasMove l hL_y_14 hK_y_14 hL_y_15 hK_y_15 hp H.size) (cwV (C := RX8) 1 hts (wg_V wm_RX4_129 wy_X8_hasMove) rfl rfl rfl (by decide +kernel) ⟨Nat.le_of_ble_eq_true rfl, Nat.le_of_ble_eq_true rfl⟩) (w_preV hK hW hL_y_14 hK_y_14 (by decide) rfl) rfl rfl hl.1 rfl (lv_room (Nat.le_of_ble_eq_true rfl)) dX4_markOf_43 ⟨Nat.le_of_ble_eq_true rfl, Nat.le_of_ble_eq_true rfl⟩) hW (fun r_16 S_17 H locs hp hW => ?_)
    obtain ⟨hX_S_17, hp⟩ := hp
    refine W.widen (k := 0) (n := 0) (by decide) (by decide) ?_
    have hE := hE.trans hX_S_17
    have hK_a0 : sK S_17 a0 = 9 := (hX_S_17.2 a0 hL_a0).1.trans hK_a0
    have hL_a0 : wM D S_17 a0 := hX_S_17.M hL_a0
    refine lv_if_eq (tgt := 54) hx hb dX4_markOf_46 (by decide) (fun c_18 => ?_) (fun c_18 => ?_)
    · replace hp := hp.1 c_18
      refine lv_bipush (v := 35) hx hb dX4_markOf_54 (by decide) ?_
      exact t_X4_markOf_56 F hr hlocks hK hp hW hE (lv_sub hl [] rfl)
    · replace hp := hp.2 c_18
      refine lv_bipush (v := 43) hx hb dX4_markOf_49 (by decide) ?_
      refine lv_goto (tgt := 56) hx hb dX4_markOf_51 (by decide) ?_
      exact t_X4_markOf_56 F hr hlocks hK hp hW hE (lv_sub hl [] rfl)
  · replace hp := hp.2 c_13
    refine lv_iconst (v := 0) hx hb dX4_markOf_33 (by decide) ?_
    exact w_iret hx hb hr hlocks hW ⟨hE, hp⟩ dX4_markOf_34
set_option maxHeartbeats 4000000 in
set_option maxRecDepth 100000 in
theorem c_X4_markOf (l : Launch) {D : wD} {cy : Nat → ClassId} {X : va_W} {S0 : wS} {post : Int32 → wS → Prop} {a0 : Nat} {x1 : Int32} (hL_a0 : wM D S0 a0) (hK_a0 : sK S0 a0 = 9) (hp : wp_X4_markOf D post S0 a0 x1) : mI D cy X l yX4_markOf wz_X4_markOf r_X4_markOf [.ref a0, .int x1] S0 (fun r S9 => wX D S0 S9 ∧ post r S9) := by
  intro sz
  refine Met.ofW (cc := cX4_markOf) (maxL := 2) (ret := (some .int)) (by decide) rfl ?_
  intro p e s m args below meth c s₁ B hml hv
  obtain ⟨rfl, hsz, hP, hK, hD0, hRO⟩ := hv
  have hts := atoms_spec (ws := wz_X4_markOf) B.pre
  have hown : s.vm.findClass RX4 = some m.cls := findClass_of_methodNamed B.named
  subst hsz
  have hD := hD0.self (sz := s.heap.size)
  have F : CallFix p m c cX4_markOf 2 s _ wz_X4_markOf RX4 := ⟨B.exec, B.bytes, hml, hown, hts⟩
  have hr := B.returns
  have hlocks := B.notSynchronized
  generalize hAe : va_A (wL cy X S0) s.heap.size = A at hD hK ⊢
  have hA : ∀ q, s.heap.size ≤ q → A q := fun q h => by rw [← hAe]; exact Or.inr h
  have hW : wO D cy X A s.heap S0 s.heap [] := ⟨hP, hD, va_S.rf, hA, hRO⟩
  have hl := lv_entry ([.ref a0, .int x1]) (n := 2) (Nat.le_of_ble_eq_true rfl)
  rw [lg_entry_eq]
  generalize (lg_sl ([.ref a0, .int x1]) ++ List.replicate (2 - (lg_sl ([.ref a0, .int x1])).length) Slot.unset).toArray = ls at hl ⊢
  have hl : lv_has ls 2 [(0, .ref a0), (1, .int x1)] := hl
  unfold wp_X4_markOf at hp
  exact t_X4_markOf_0 F hr hlocks hK hp hW wX.rf (lv_sub hl [0, 1] rfl) hL_a0 hK_a0
def wp_X4_fileName_0 (D : wD) (post : Int64 → wS → Prop)  (S : wS) (a0 : Nat) (x1 : Int32) : Prop :=
∃ y_1 : Nat, sR S a0 0 = some y_1 ∧ wM D S y_1 ∧ sK S y_1 = 5 ∧
wp_X0_fileAt D (fun r_2 S_3 => 
post (Int32.toInt64 ((97 : Int32) + r_2)) S_3) S y_1 x1
abbrev r_X4_fileName : Room := { frames := 1, cells := 0, slots := 0, locals := 21 }
def wp_X4_fileName (D : wD) (post : Int64 → wS → Prop) (S : wS) (a0 : Nat) (x1 : Int32) : Prop := wp_X4_fileName_0 D post S a0 x1
set_option maxHeartbeats 4000000 in
set_option maxRecDepth 100000 in
theorem t_X4_fileName_0 {p : Program} {l : Launch} {e : Env} {s : State} {m : MethodId} {args : Array Value} {below : List Frame} {meth : Method} {c : Code} {D : wD} {cy : Nat → ClassId} {X : va_W} {A : Nat → Prop} {S0 : wS} {post : Int64 → wS → Prop} (F : CallFix p m c cX4_fileName 2 s args wz_X4_fileName RX4) (hr : meth.sig.returnType = (some .long)) (hlocks : meth.locks = false) (hK : wK D cy A s) : ∀ {S : wS} {H : Heap} {locs : List Loc} {ls : Array Slot} {a0 : Nat} {x1 : Int32}, wp_X4_fileName_0 D post S a0 x1 → wO D cy X A s.heap S H locs → wX D S0 S → lv_has ls 2 [(0, .ref a0), (1, .int x1)] → wM D S a0 → sK S a0 = 9 → W p l e r_X4_fileName s m args below meth c H locs 0 0 (MQ below (va_Ql (fun r S9 => wX D S0 S9 ∧ post r S9) (wB D cy X A) A) args s 0 0 A) (F0 m 0 ls []) := by
  obtain ⟨hx, hb, hml, hown, hts⟩ := id F
  have hwg : ∀ w ∈ WG, w.before args s = true := fun w h => hts w (List.mem_cons_of_mem _ h)
  have i_9 : ∀ w ∈ u_ws RX4 TX4 8, w ∈ wz_X4_fileName := fun w h => List.mem_cons_of_mem _ (wu_9 w h)
  have k_27 := hwg _ wf_RX4_27
  intro S H locs ls a0 x1 hp hW hE hl hL_a0 hK_a0
  unfold wp_X4_fileName_0 at hp
  refine lv_bipush (v := 97) hx hb dX4_fileName_0 (by decide) ?_
  refine lv_aload_n hx hb dX4_fileName_2 rfl (lv_at hl 0 rfl) ?_
  obtain ⟨y_1, ey_1, hL_y_1, hK_y_1, hp⟩ := hp
  refine w_get (k := 9) (f := 0) (T := TX4) (v := .ref y_1) F hK hW hL_a0 hK_a0 (by decide) rfl rfl (by decide) i_9 k_27 (by rw [show wv 9 0 S a0 = va_rf (sR S a0 0) from rfl, ey_1]; rfl) dX4_fileName_3 ?_
  refine lv_iload_n hx hb dX4_fileName_6 rfl (lv_at hl 1 rfl) ?_
  refine w_callI (va_runV (As := [.int x1]) (rest := [.int (97 : Int32)]) F (c_X0_fileAt l hL_y_1 hK_y_1 hp H.size) (cwV (C := RX0) 1 hts (wg_V wm_RX4_113 wy_X0_fileAt) rfl rfl rfl (by decide +kernel) ⟨Nat.le_of_ble_eq_true rfl, Nat.le_of_ble_eq_true rfl⟩) (w_preV hK hW hL_y_1 hK_y_1 (by decide) rfl) rfl rfl hl.1 rfl (lv_room (Nat.le_of_ble_eq_true rfl)) dX4_fileName_7 ⟨Nat.le_of_ble_eq_true rfl, Nat.le_of_ble_eq_true rfl⟩) hW (fun r_2 S_3 H locs hp hW => ?_)
  obtain ⟨hX_S_3, hp⟩ := hp
  refine W.widen (k := 0) (n := 0) (by decide) (by decide) ?_
  have hE := hE.trans hX_S_3
  have hK_a0 : sK S_3 a0 = 9 := (hX_S_3.2 a0 hL_a0).1.trans hK_a0
  have hL_a0 : wM D S_3 a0 := hX_S_3.M hL_a0
  refine lv_iadd hx hb dX4_fileName_10 ?_
  refine lv_i2l (v := (Int32.toInt64 ((97 : Int32) + r_2))) hx hb dX4_fileName_11 rfl ?_
  exact w_lret hx hb hr hlocks hW ⟨hE, hp⟩ dX4_fileName_12
set_option maxHeartbeats 4000000 in
set_option maxRecDepth 100000 in
theorem c_X4_fileName (l : Launch) {D : wD} {cy : Nat → ClassId} {X : va_W} {S0 : wS} {post : Int64 → wS → Prop} {a0 : Nat} {x1 : Int32} (hL_a0 : wM D S0 a0) (hK_a0 : sK S0 a0 = 9) (hp : wp_X4_fileName D post S0 a0 x1) : mJ D cy X l yX4_fileName wz_X4_fileName r_X4_fileName [.ref a0, .int x1] S0 (fun r S9 => wX D S0 S9 ∧ post r S9) := by
  intro sz
  refine Met.ofW (cc := cX4_fileName) (maxL := 2) (ret := (some .long)) (by decide) rfl ?_
  intro p e s m args below meth c s₁ B hml hv
  obtain ⟨rfl, hsz, hP, hK, hD0, hRO⟩ := hv
  have hts := atoms_spec (ws := wz_X4_fileName) B.pre
  have hown : s.vm.findClass RX4 = some m.cls := findClass_of_methodNamed B.named
  subst hsz
  have hD := hD0.self (sz := s.heap.size)
  have F : CallFix p m c cX4_fileName 2 s _ wz_X4_fileName RX4 := ⟨B.exec, B.bytes, hml, hown, hts⟩
  have hr := B.returns
  have hlocks := B.notSynchronized
  generalize hAe : va_A (wL cy X S0) s.heap.size = A at hD hK ⊢
  have hA : ∀ q, s.heap.size ≤ q → A q := fun q h => by rw [← hAe]; exact Or.inr h
  have hW : wO D cy X A s.heap S0 s.heap [] := ⟨hP, hD, va_S.rf, hA, hRO⟩
  have hl := lv_entry ([.ref a0, .int x1]) (n := 2) (Nat.le_of_ble_eq_true rfl)
  rw [lg_entry_eq]
  generalize (lg_sl ([.ref a0, .int x1]) ++ List.replicate (2 - (lg_sl ([.ref a0, .int x1])).length) Slot.unset).toArray = ls at hl ⊢
  have hl : lv_has ls 2 [(0, .ref a0), (1, .int x1)] := hl
  unfold wp_X4_fileName at hp
  exact t_X4_fileName_0 F hr hlocks hK hp hW wX.rf (lv_sub hl [0, 1] rfl) hL_a0 hK_a0
def wp_X4_rankName_0 (D : wD) (post : Int64 → wS → Prop)  (S : wS) (a0 : Nat) (x1 : Int32) : Prop :=
∃ y_1 : Nat, sR S a0 0 = some y_1 ∧ wM D S y_1 ∧ sK S y_1 = 5 ∧
wp_X0_rankAt D (fun r_2 S_3 => 
post (Int32.toInt64 ((49 : Int32) + r_2)) S_3) S y_1 x1
abbrev r_X4_rankName : Room := { frames := 1, cells := 0, slots := 0, locals := 21 }
def wp_X4_rankName (D : wD) (post : Int64 → wS → Prop) (S : wS) (a0 : Nat) (x1 : Int32) : Prop := wp_X4_rankName_0 D post S a0 x1
set_option maxHeartbeats 4000000 in
set_option maxRecDepth 100000 in
theorem t_X4_rankName_0 {p : Program} {l : Launch} {e : Env} {s : State} {m : MethodId} {args : Array Value} {below : List Frame} {meth : Method} {c : Code} {D : wD} {cy : Nat → ClassId} {X : va_W} {A : Nat → Prop} {S0 : wS} {post : Int64 → wS → Prop} (F : CallFix p m c cX4_rankName 2 s args wz_X4_rankName RX4) (hr : meth.sig.returnType = (some .long)) (hlocks : meth.locks = false) (hK : wK D cy A s) : ∀ {S : wS} {H : Heap} {locs : List Loc} {ls : Array Slot} {a0 : Nat} {x1 : Int32}, wp_X4_rankName_0 D post S a0 x1 → wO D cy X A s.heap S H locs → wX D S0 S → lv_has ls 2 [(0, .ref a0), (1, .int x1)] → wM D S a0 → sK S a0 = 9 → W p l e r_X4_rankName s m args below meth c H locs 0 0 (MQ below (va_Ql (fun r S9 => wX D S0 S9 ∧ post r S9) (wB D cy X A) A) args s 0 0 A) (F0 m 0 ls []) := by
  obtain ⟨hx, hb, hml, hown, hts⟩ := id F
  have hwg : ∀ w ∈ WG, w.before args s = true := fun w h => hts w (List.mem_cons_of_mem _ h)
  have i_9 : ∀ w ∈ u_ws RX4 TX4 8, w ∈ wz_X4_rankName := fun w h => List.mem_cons_of_mem _ (wu_9 w h)
  have k_27 := hwg _ wf_RX4_27
  intro S H locs ls a0 x1 hp hW hE hl hL_a0 hK_a0
  unfold wp_X4_rankName_0 at hp
  refine lv_bipush (v := 49) hx hb dX4_rankName_0 (by decide) ?_
  refine lv_aload_n hx hb dX4_rankName_2 rfl (lv_at hl 0 rfl) ?_
  obtain ⟨y_1, ey_1, hL_y_1, hK_y_1, hp⟩ := hp
  refine w_get (k := 9) (f := 0) (T := TX4) (v := .ref y_1) F hK hW hL_a0 hK_a0 (by decide) rfl rfl (by decide) i_9 k_27 (by rw [show wv 9 0 S a0 = va_rf (sR S a0 0) from rfl, ey_1]; rfl) dX4_rankName_3 ?_
  refine lv_iload_n hx hb dX4_rankName_6 rfl (lv_at hl 1 rfl) ?_
  refine w_callI (va_runV (As := [.int x1]) (rest := [.int (49 : Int32)]) F (c_X0_rankAt l hL_y_1 hK_y_1 hp H.size) (cwV (C := RX0) 1 hts (wg_V wm_RX4_118 wy_X0_rankAt) rfl rfl rfl (by decide +kernel) ⟨Nat.le_of_ble_eq_true rfl, Nat.le_of_ble_eq_true rfl⟩) (w_preV hK hW hL_y_1 hK_y_1 (by decide) rfl) rfl rfl hl.1 rfl (lv_room (Nat.le_of_ble_eq_true rfl)) dX4_rankName_7 ⟨Nat.le_of_ble_eq_true rfl, Nat.le_of_ble_eq_true rfl⟩) hW (fun r_2 S_3 H locs hp hW => ?_)
  obtain ⟨hX_S_3, hp⟩ := hp
  refine W.widen (k := 0) (n := 0) (by decide) (by decide) ?_
  have hE := hE.trans hX_S_3
  have hK_a0 : sK S_3 a0 = 9 := (hX_S_3.2 a0 hL_a0).1.trans hK_a0
  have hL_a0 : wM D S_3 a0 := hX_S_3.M hL_a0
  refine lv_iadd hx hb dX4_rankName_10 ?_
  refine lv_i2l (v := (Int32.toInt64 ((49 : Int32) + r_2))) hx hb dX4_rankName_11 rfl ?_
  exact w_lret hx hb hr hlocks hW ⟨hE, hp⟩ dX4_rankName_12
set_option maxHeartbeats 4000000 in
set_option maxRecDepth 100000 in
theorem c_X4_rankName (l : Launch) {D : wD} {cy : Nat → ClassId} {X : va_W} {S0 : wS} {post : Int64 → wS → Prop} {a0 : Nat} {x1 : Int32} (hL_a0 : wM D S0 a0) (hK_a0 : sK S0 a0 = 9) (hp : wp_X4_rankName D post S0 a0 x1) : mJ D cy X l yX4_rankName wz_X4_rankName r_X4_rankName [.ref a0, .int x1] S0 (fun r S9 => wX D S0 S9 ∧ post r S9) := by
  intro sz
  refine Met.ofW (cc := cX4_rankName) (maxL := 2) (ret := (some .long)) (by decide) rfl ?_
  intro p e s m args below meth c s₁ B hml hv
  obtain ⟨rfl, hsz, hP, hK, hD0, hRO⟩ := hv
  have hts := atoms_spec (ws := wz_X4_rankName) B.pre
  have hown : s.vm.findClass RX4 = some m.cls := findClass_of_methodNamed B.named
  subst hsz
  have hD := hD0.self (sz := s.heap.size)
  have F : CallFix p m c cX4_rankName 2 s _ wz_X4_rankName RX4 := ⟨B.exec, B.bytes, hml, hown, hts⟩
  have hr := B.returns
  have hlocks := B.notSynchronized
  generalize hAe : va_A (wL cy X S0) s.heap.size = A at hD hK ⊢
  have hA : ∀ q, s.heap.size ≤ q → A q := fun q h => by rw [← hAe]; exact Or.inr h
  have hW : wO D cy X A s.heap S0 s.heap [] := ⟨hP, hD, va_S.rf, hA, hRO⟩
  have hl := lv_entry ([.ref a0, .int x1]) (n := 2) (Nat.le_of_ble_eq_true rfl)
  rw [lg_entry_eq]
  generalize (lg_sl ([.ref a0, .int x1]) ++ List.replicate (2 - (lg_sl ([.ref a0, .int x1])).length) Slot.unset).toArray = ls at hl ⊢
  have hl : lv_has ls 2 [(0, .ref a0), (1, .int x1)] := hl
  unfold wp_X4_rankName at hp
  exact t_X4_rankName_0 F hr hlocks hK hp hW wX.rf (lv_sub hl [0, 1] rfl) hL_a0 hK_a0
def wp_X4_withOrigin_241 (D : wD) (post : Int64 → wS → Prop)  (S : wS) (t0 : Int64) : Prop :=
post t0 S
def wp_X4_withOrigin_217 (D : wD) (post : Int64 → wS → Prop)  (S : wS) (a0 : Nat) (x5 : Int32) (x10 : Int32) (t0 : Int64) : Prop :=
((x10 = 0 → wp_X4_withOrigin_241 D post S t0) ∧
 (¬ x10 = 0 → wp_X4_rankName D (fun r_2 S_3 => 
wp_X4_withOrigin_241 D post S_3 ((jlshl t0 (8 : Int32)) ||| r_2)) S a0 x5))
def wp_X4_withOrigin_195 (D : wD) (post : Int64 → wS → Prop)  (S : wS) (a0 : Nat) (x1 : Int64) (x5 : Int32) (x9 : Int32) (t0 : Int32) : Prop :=
((x9 = 0 → wp_X4_withOrigin_217 D post S a0 x5 t0 x1) ∧
 (¬ x9 = 0 → wp_X4_fileName D (fun r_2 S_3 => 
wp_X4_withOrigin_217 D post S_3 a0 x5 t0 ((jlshl x1 (8 : Int32)) ||| r_2)) S a0 x5))
def wp_X4_withOrigin_194 (D : wD) (post : Int64 → wS → Prop)  (S : wS) (a0 : Nat) (x1 : Int64) (x5 : Int32) (x9 : Int32) : Prop :=
wp_X4_withOrigin_195 D post S a0 x1 x5 x9 (0 : Int32)
def wp_X4_withOrigin_178 (D : wD) (post : Int64 → wS → Prop)  (S : wS) (a0 : Nat) (x1 : Int64) (x5 : Int32) (x6 : Int32) (x7 : Int32) (t0 : Int32) : Prop :=
((x6 = 0 → wp_X4_withOrigin_194 D post S a0 x1 x5 t0) ∧
 (¬ x6 = 0 → ((x7 = 0 → wp_X4_withOrigin_194 D post S a0 x1 x5 t0) ∧
 (¬ x7 = 0 → wp_X4_withOrigin_195 D post S a0 x1 x5 t0 (1 : Int32)))))
def wp_X4_withOrigin_177 (D : wD) (post : Int64 → wS → Prop)  (S : wS) (a0 : Nat) (x1 : Int64) (x5 : Int32) (x6 : Int32) (x7 : Int32) : Prop :=
wp_X4_withOrigin_178 D post S a0 x1 x5 x6 x7 (0 : Int32)
def wp_X4_withOrigin_173 (D : wD) (post : Int64 → wS → Prop)  (S : wS) (a0 : Nat) (x1 : Int64) (x5 : Int32) (x6 : Int32) (x7 : Int32) : Prop :=
wp_X4_withOrigin_178 D post S a0 x1 x5 x6 x7 (1 : Int32)
def wp_X4_withOrigin_158 (D : wD) (post : Int64 → wS → Prop)  (S : wS) (a0 : Nat) (x1 : Int64) (x5 : Int32) (x6 : Int32) (x7 : Int32) (x8 : Int32) : Prop :=
((x6 = 0 → wp_X4_withOrigin_177 D post S a0 x1 x5 x6 x7) ∧
 (¬ x6 = 0 → ((x7 = 0 → wp_X4_withOrigin_173 D post S a0 x1 x5 x6 x7) ∧
 (¬ x7 = 0 → ((x8 = 0 → wp_X4_withOrigin_177 D post S a0 x1 x5 x6 x7) ∧
 (¬ x8 = 0 → wp_X4_withOrigin_173 D post S a0 x1 x5 x6 x7))))))
def wp_X4_withOrigin_152 (D : wD) (post : Int64 → wS → Prop) (k_18 : wS → Nat → Int64 → Int32 → Int32 → Int32 → Int32 → Int32 → Int32 → Int32 → Prop) (S : wS) (a0 : Nat) (x1 : Int64) (x3 : Int32) (x4 : Int32) (x5 : Int32) (x6 : Int32) (x7 : Int32) (x8 : Int32) (x9 : Int32) : Prop :=
∀ x_1 : Int32, x_1 = x9 + 1 →
k_18 S a0 x1 x3 x4 x5 x6 x7 x8 x_1
def wp_X4_withOrigin_149 (D : wD) (post : Int64 → wS → Prop) (k_18 : wS → Nat → Int64 → Int32 → Int32 → Int32 → Int32 → Int32 → Int32 → Int32 → Prop) (S : wS) (a0 : Nat) (x1 : Int64) (x3 : Int32) (x4 : Int32) (x5 : Int32) (x6 : Int32) (x7 : Int32) (x9 : Int32) (t0 : Int32) (t1 : Int32) : Prop :=
∀ x_1 : Int32, x_1 = (t0 ||| t1) →
wp_X4_withOrigin_152 D post k_18 S a0 x1 x3 x4 x5 x6 x7 x_1 x9
def wp_X4_withOrigin_118 (D : wD) (post : Int64 → wS → Prop) (k_18 : wS → Nat → Int64 → Int32 → Int32 → Int32 → Int32 → Int32 → Int32 → Int32 → Prop) (S : wS) (a0 : Nat) (x1 : Int64) (x3 : Int32) (x4 : Int32) (x5 : Int32) (x6 : Int32) (x8 : Int32) (x9 : Int32) (x10 : Int32) (t0 : Int32) (t1 : Int32) : Prop :=
∀ x_1 : Int32, x_1 = (t0 ||| t1) →
∃ y_2 : Nat, sR S a0 0 = some y_2 ∧ wM D S y_2 ∧ sK S y_2 = 5 ∧
wp_X0_rankAt D (fun r_3 S_4 => 
∃ y_5 : Nat, sR S_4 a0 0 = some y_5 ∧ wM D S_4 y_5 ∧ sK S_4 y_5 = 5 ∧
wp_X0_rankAt D (fun r_6 S_7 => 
((¬ r_3 = r_6 → wp_X4_withOrigin_149 D post k_18 S_7 a0 x1 x3 x4 x5 x6 x_1 x9 x8 (0 : Int32)) ∧
 (r_3 = r_6 → wp_X4_withOrigin_149 D post k_18 S_7 a0 x1 x3 x4 x5 x6 x_1 x9 x8 (1 : Int32)))) S_4 y_5 x5) S y_2 x10
def wp_X4_withOrigin_18 (D : wD) (post : Int64 → wS → Prop)  : Nat → wS → Nat → Int64 → Int32 → Int32 → Int32 → Int32 → Int32 → Int32 → Int32 → Prop
  | 0, _, _, _, _, _, _, _, _, _, _ => False
  | n + 1, S, a0, x1, x3, x4, x5, x6, x7, x8, x9 =>
    (((sI S a0 7) ≤ x9 → wp_X4_withOrigin_158 D post S a0 x1 x5 x6 x7 x8) ∧
     (¬ (sI S a0 7) ≤ x9 → ∃ y_2 : Nat, sR S a0 4 = some y_2 ∧ wM D S y_2 ∧ sK S y_2 = 21 ∧
    (((Int32.ofNat (sN S y_2)) ≤ x9 → wp_X4_withOrigin_158 D post S a0 x1 x5 x6 x7 x8) ∧
     (¬ (Int32.ofNat (sN S y_2)) ≤ x9 → ∃ y_4 : Nat, sR S a0 4 = some y_4 ∧ wM D S y_4 ∧ sK S y_4 = 21 ∧
    vp_in x9 (sN S y_4) ∧
    wp_X11_fromOf D (fun r_6 S_7 => 
    ∃ y_8 : Nat, sR S_7 a0 4 = some y_8 ∧ wM D S_7 y_8 ∧ sK S_7 y_8 = 21 ∧
    vp_in x9 (sN S_7 y_8) ∧
    wp_X11_toOf D (fun r_10 S_11 => 
    wp_X11_toOf D (fun r_12 S_13 => 
    ((¬ r_10 = r_12 → wp_X4_withOrigin_152 D post (wp_X4_withOrigin_18 D post n) S_13 a0 x1 x3 x4 x5 x6 x7 x8 x9) ∧
     (r_10 = r_12 → ((r_6 = x5 → wp_X4_withOrigin_152 D post (wp_X4_withOrigin_18 D post n) S_13 a0 x1 x3 x4 x5 x6 x7 x8 x9) ∧
     (¬ r_6 = x5 → ∃ y_16 : Nat, sR S_13 a0 2 = some y_16 ∧ wM D S_13 y_16 ∧ sK S_13 y_16 = 12 ∧
    wp_X7_kindOn D (fun r_17 S_18 => 
    ((¬ r_17 = x4 → wp_X4_withOrigin_152 D post (wp_X4_withOrigin_18 D post n) S_18 a0 x1 x3 x4 x5 x6 x7 x8 x9) ∧
     (r_17 = x4 → ∃ y_20 : Nat, sR S_18 a0 0 = some y_20 ∧ wM D S_18 y_20 ∧ sK S_18 y_20 = 5 ∧
    wp_X0_fileAt D (fun r_21 S_22 => 
    ∃ y_23 : Nat, sR S_22 a0 0 = some y_23 ∧ wM D S_22 y_23 ∧ sK S_22 y_23 = 5 ∧
    wp_X0_fileAt D (fun r_24 S_25 => 
    ((¬ r_21 = r_24 → wp_X4_withOrigin_118 D post (wp_X4_withOrigin_18 D post n) S_25 a0 x1 x3 x4 x5 (1 : Int32) x8 x9 r_6 x7 (0 : Int32)) ∧
     (r_21 = r_24 → wp_X4_withOrigin_118 D post (wp_X4_withOrigin_18 D post n) S_25 a0 x1 x3 x4 x5 (1 : Int32) x8 x9 r_6 x7 (1 : Int32)))) S_22 y_23 x5) S_18 y_20 r_6))) S_13 y_16 r_6))))) S_11 x3) S_7 (sI S_7 y_8 (x9).toNatClampNeg)) S (sI S y_4 (x9).toNatClampNeg)))))
def wp_X4_withOrigin_0 (D : wD) (post : Int64 → wS → Prop)  (S : wS) (a0 : Nat) (x1 : Int64) (x3 : Int32) (x4 : Int32) : Prop :=
wp_X11_fromOf D (fun r_1 S_2 => 
∃ n_3 : Nat, wp_X4_withOrigin_18 D post n_3 S_2 a0 x1 x3 x4 r_1 (0 : Int32) (0 : Int32) (0 : Int32) (0 : Int32)) S x3
abbrev r_X4_withOrigin : Room := { frames := 2, cells := 0, slots := 0, locals := 42 }
def wp_X4_withOrigin (D : wD) (post : Int64 → wS → Prop) (S : wS) (a0 : Nat) (x1 : Int64) (x3 : Int32) (x4 : Int32) : Prop := wp_X4_withOrigin_0 D post S a0 x1 x3 x4
set_option maxHeartbeats 4000000 in
set_option maxRecDepth 100000 in
theorem t_X4_withOrigin_241 {p : Program} {l : Launch} {e : Env} {s : State} {m : MethodId} {args : Array Value} {below : List Frame} {meth : Method} {c : Code} {D : wD} {cy : Nat → ClassId} {X : va_W} {A : Nat → Prop} {S0 : wS} {post : Int64 → wS → Prop} (F : CallFix p m c cX4_withOrigin 13 s args wz_X4_withOrigin RX4) (hr : meth.sig.returnType = (some .long)) (hlocks : meth.locks = false) (hK : wK D cy A s) : ∀ {S : wS} {H : Heap} {locs : List Loc} {ls : Array Slot} {t0 : Int64}, wp_X4_withOrigin_241 D post S t0 → wO D cy X A s.heap S H locs → wX D S0 S → lv_has ls 13 [] → W p l e r_X4_withOrigin s m args below meth c H locs 0 0 (MQ below (va_Ql (fun r S9 => wX D S0 S9 ∧ post r S9) (wB D cy X A) A) args s 0 0 A) (F0 m 241 ls [.long t0]) := by
  obtain ⟨hx, hb, hml, hown, hts⟩ := id F
  have hwg : ∀ w ∈ WG, w.before args s = true := fun w h => hts w (List.mem_cons_of_mem _ h)
  intro S H locs ls t0 hp hW hE hl
  unfold wp_X4_withOrigin_241 at hp
  exact w_lret hx hb hr hlocks hW ⟨hE, hp⟩ dX4_withOrigin_241
set_option maxHeartbeats 4000000 in
set_option maxRecDepth 100000 in
theorem t_X4_withOrigin_217 {p : Program} {l : Launch} {e : Env} {s : State} {m : MethodId} {args : Array Value} {below : List Frame} {meth : Method} {c : Code} {D : wD} {cy : Nat → ClassId} {X : va_W} {A : Nat → Prop} {S0 : wS} {post : Int64 → wS → Prop} (F : CallFix p m c cX4_withOrigin 13 s args wz_X4_withOrigin RX4) (hr : meth.sig.returnType = (some .long)) (hlocks : meth.locks = false) (hK : wK D cy A s) : ∀ {S : wS} {H : Heap} {locs : List Loc} {ls : Array Slot} {a0 : Nat} {x5 : Int32} {x10 : Int32} {t0 : Int64}, wp_X4_withOrigin_217 D post S a0 x5 x10 t0 → wO D cy X A s.heap S H locs → wX D S0 S → lv_has ls 13 [(0, .ref a0), (5, .int x5), (10, .int x10)] → wM D S a0 → sK S a0 = 9 → W p l e r_X4_withOrigin s m args below meth c H locs 0 0 (MQ below (va_Ql (fun r S9 => wX D S0 S9 ∧ post r S9) (wB D cy X A) A) args s 0 0 A) (F0 m 217 ls [.long t0]) := by
  obtain ⟨hx, hb, hml, hown, hts⟩ := id F
  have hwg : ∀ w ∈ WG, w.before args s = true := fun w h => hts w (List.mem_cons_of_mem _ h)
  intro S H locs ls a0 x5 x10 t0 hp hW hE hl hL_a0 hK_a0
  unfold wp_X4_withOrigin_217 at hp
  refine lv_lstore (lv' := [(11, .long t0), (0, .ref a0), (5, .int x5), (10, .int x10)]) hx hb dX4_withOrigin_217 hl (by decide) rfl (fun ls hl => ?_)
  refine lv_iload hx hb dX4_withOrigin_219 (lv_at hl 3 rfl) ?_
  refine lv_if_eq (tgt := 239) hx hb dX4_withOrigin_221 (by decide) (fun c_1 => ?_) (fun c_1 => ?_)
  · replace hp := hp.1 c_1
    refine lv_lload hx hb dX4_withOrigin_239 (lv_at hl 0 rfl) ?_
    exact t_X4_withOrigin_241 F hr hlocks hK hp hW hE (lv_sub hl [] rfl)
  · replace hp := hp.2 c_1
    refine lv_lload hx hb dX4_withOrigin_224 (lv_at hl 0 rfl) ?_
    refine lv_bipush (v := 8) hx hb dX4_withOrigin_226 (by decide) ?_
    refine lv_lshl (v := (jlshl t0 (8 : Int32))) hx hb dX4_withOrigin_228 rfl ?_
    refine lv_aload_n hx hb dX4_withOrigin_229 rfl (lv_at hl 1 rfl) ?_
    refine lv_iload hx hb dX4_withOrigin_230 (lv_at hl 2 rfl) ?_
    refine w_callJ (va_runV (As := [.int x5]) (rest := [.long (jlshl t0 (8 : Int32))]) F (c_X4_rankName l hL_a0 hK_a0 hp H.size) (cwV (C := RX4) 1 hts (wg_V wm_RX4_105 wy_X4_rankName) rfl rfl rfl (by decide +kernel) ⟨Nat.le_of_ble_eq_true rfl, Nat.le_of_ble_eq_true rfl⟩) (w_preV hK hW hL_a0 hK_a0 (by decide) rfl) rfl rfl hl.1 rfl (lv_room (Nat.le_of_ble_eq_true rfl)) dX4_withOrigin_232 ⟨Nat.le_of_ble_eq_true rfl, Nat.le_of_ble_eq_true rfl⟩) hW (fun r_2 S_3 H locs hp hW => ?_)
    obtain ⟨hX_S_3, hp⟩ := hp
    refine W.widen (k := 0) (n := 0) (by decide) (by decide) ?_
    have hE := hE.trans hX_S_3
    have hK_a0 : sK S_3 a0 = 9 := (hX_S_3.2 a0 hL_a0).1.trans hK_a0
    have hL_a0 : wM D S_3 a0 := hX_S_3.M hL_a0
    refine lv_lor hx hb dX4_withOrigin_235 ?_
    refine lv_goto (tgt := 241) hx hb dX4_withOrigin_236 (by decide) ?_
    exact t_X4_withOrigin_241 F hr hlocks hK hp hW hE (lv_sub hl [] rfl)
set_option maxHeartbeats 4000000 in
set_option maxRecDepth 100000 in
theorem t_X4_withOrigin_195 {p : Program} {l : Launch} {e : Env} {s : State} {m : MethodId} {args : Array Value} {below : List Frame} {meth : Method} {c : Code} {D : wD} {cy : Nat → ClassId} {X : va_W} {A : Nat → Prop} {S0 : wS} {post : Int64 → wS → Prop} (F : CallFix p m c cX4_withOrigin 13 s args wz_X4_withOrigin RX4) (hr : meth.sig.returnType = (some .long)) (hlocks : meth.locks = false) (hK : wK D cy A s) : ∀ {S : wS} {H : Heap} {locs : List Loc} {ls : Array Slot} {a0 : Nat} {x1 : Int64} {x5 : Int32} {x9 : Int32} {t0 : Int32}, wp_X4_withOrigin_195 D post S a0 x1 x5 x9 t0 → wO D cy X A s.heap S H locs → wX D S0 S → lv_has ls 13 [(0, .ref a0), (1, .long x1), (5, .int x5), (9, .int x9)] → wM D S a0 → sK S a0 = 9 → W p l e r_X4_withOrigin s m args below meth c H locs 0 0 (MQ below (va_Ql (fun r S9 => wX D S0 S9 ∧ post r S9) (wB D cy X A) A) args s 0 0 A) (F0 m 195 ls [.int t0]) := by
  obtain ⟨hx, hb, hml, hown, hts⟩ := id F
  have hwg : ∀ w ∈ WG, w.before args s = true := fun w h => hts w (List.mem_cons_of_mem _ h)
  intro S H locs ls a0 x1 x5 x9 t0 hp hW hE hl hL_a0 hK_a0
  unfold wp_X4_withOrigin_195 at hp
  refine lv_istore (lv' := [(10, .int t0), (0, .ref a0), (1, .long x1), (5, .int x5), (9, .int x9)]) hx hb dX4_withOrigin_195 hl (by decide) rfl (fun ls hl => ?_)
  refine lv_iload hx hb dX4_withOrigin_197 (lv_at hl 4 rfl) ?_
  refine lv_if_eq (tgt := 216) hx hb dX4_withOrigin_199 (by decide) (fun c_1 => ?_) (fun c_1 => ?_)
  · replace hp := hp.1 c_1
    refine lv_lload_n hx hb dX4_withOrigin_216 rfl (lv_at hl 2 rfl) ?_
    exact t_X4_withOrigin_217 F hr hlocks hK hp hW hE (lv_sub hl [1, 3, 0] rfl) hL_a0 hK_a0
  · replace hp := hp.2 c_1
    refine lv_lload_n hx hb dX4_withOrigin_202 rfl (lv_at hl 2 rfl) ?_
    refine lv_bipush (v := 8) hx hb dX4_withOrigin_203 (by decide) ?_
    refine lv_lshl (v := (jlshl x1 (8 : Int32))) hx hb dX4_withOrigin_205 rfl ?_
    refine lv_aload_n hx hb dX4_withOrigin_206 rfl (lv_at hl 1 rfl) ?_
    refine lv_iload hx hb dX4_withOrigin_207 (lv_at hl 3 rfl) ?_
    refine w_callJ (va_runV (As := [.int x5]) (rest := [.long (jlshl x1 (8 : Int32))]) F (c_X4_fileName l hL_a0 hK_a0 hp H.size) (cwV (C := RX4) 1 hts (wg_V wm_RX4_84 wy_X4_fileName) rfl rfl rfl (by decide +kernel) ⟨Nat.le_of_ble_eq_true rfl, Nat.le_of_ble_eq_true rfl⟩) (w_preV hK hW hL_a0 hK_a0 (by decide) rfl) rfl rfl hl.1 rfl (lv_room (Nat.le_of_ble_eq_true rfl)) dX4_withOrigin_209 ⟨Nat.le_of_ble_eq_true rfl, Nat.le_of_ble_eq_true rfl⟩) hW (fun r_2 S_3 H locs hp hW => ?_)
    obtain ⟨hX_S_3, hp⟩ := hp
    refine W.widen (k := 0) (n := 0) (by decide) (by decide) ?_
    have hE := hE.trans hX_S_3
    have hK_a0 : sK S_3 a0 = 9 := (hX_S_3.2 a0 hL_a0).1.trans hK_a0
    have hL_a0 : wM D S_3 a0 := hX_S_3.M hL_a0
    refine lv_lor hx hb dX4_withOrigin_212 ?_
    refine lv_goto (tgt := 217) hx hb dX4_withOrigin_213 (by decide) ?_
    exact t_X4_withOrigin_217 F hr hlocks hK hp hW hE (lv_sub hl [1, 3, 0] rfl) hL_a0 hK_a0
set_option maxHeartbeats 4000000 in
set_option maxRecDepth 100000 in
theorem t_X4_withOrigin_194 {p : Program} {l : Launch} {e : Env} {s : State} {m : MethodId} {args : Array Value} {below : List Frame} {meth : Method} {c : Code} {D : wD} {cy : Nat → ClassId} {X : va_W} {A : Nat → Prop} {S0 : wS} {post : Int64 → wS → Prop} (F : CallFix p m c cX4_withOrigin 13 s args wz_X4_withOrigin RX4) (hr : meth.sig.returnType = (some .long)) (hlocks : meth.locks = false) (hK : wK D cy A s) : ∀ {S : wS} {H : Heap} {locs : List Loc} {ls : Array Slot} {a0 : Nat} {x1 : Int64} {x5 : Int32} {x9 : Int32}, wp_X4_withOrigin_194 D post S a0 x1 x5 x9 → wO D cy X A s.heap S H locs → wX D S0 S → lv_has ls 13 [(0, .ref a0), (1, .long x1), (5, .int x5), (9, .int x9)] → wM D S a0 → sK S a0 = 9 → W p l e r_X4_withOrigin s m args below meth c H locs 0 0 (MQ below (va_Ql (fun r S9 => wX D S0 S9 ∧ post r S9) (wB D cy X A) A) args s 0 0 A) (F0 m 194 ls []) := by
  obtain ⟨hx, hb, hml, hown, hts⟩ := id F
  have hwg : ∀ w ∈ WG, w.before args s = true := fun w h => hts w (List.mem_cons_of_mem _ h)
  intro S H locs ls a0 x1 x5 x9 hp hW hE hl hL_a0 hK_a0
  unfold wp_X4_withOrigin_194 at hp
  refine lv_iconst (v := 0) hx hb dX4_withOrigin_194 (by decide) ?_
  exact t_X4_withOrigin_195 F hr hlocks hK hp hW hE (lv_sub hl [0, 1, 2, 3] rfl) hL_a0 hK_a0
set_option maxHeartbeats 4000000 in
set_option maxRecDepth 100000 in
theorem t_X4_withOrigin_178 {p : Program} {l : Launch} {e : Env} {s : State} {m : MethodId} {args : Array Value} {below : List Frame} {meth : Method} {c : Code} {D : wD} {cy : Nat → ClassId} {X : va_W} {A : Nat → Prop} {S0 : wS} {post : Int64 → wS → Prop} (F : CallFix p m c cX4_withOrigin 13 s args wz_X4_withOrigin RX4) (hr : meth.sig.returnType = (some .long)) (hlocks : meth.locks = false) (hK : wK D cy A s) : ∀ {S : wS} {H : Heap} {locs : List Loc} {ls : Array Slot} {a0 : Nat} {x1 : Int64} {x5 : Int32} {x6 : Int32} {x7 : Int32} {t0 : Int32}, wp_X4_withOrigin_178 D post S a0 x1 x5 x6 x7 t0 → wO D cy X A s.heap S H locs → wX D S0 S → lv_has ls 13 [(0, .ref a0), (1, .long x1), (5, .int x5), (6, .int x6), (7, .int x7)] → wM D S a0 → sK S a0 = 9 → W p l e r_X4_withOrigin s m args below meth c H locs 0 0 (MQ below (va_Ql (fun r S9 => wX D S0 S9 ∧ post r S9) (wB D cy X A) A) args s 0 0 A) (F0 m 178 ls [.int t0]) := by
  obtain ⟨hx, hb, hml, hown, hts⟩ := id F
  have hwg : ∀ w ∈ WG, w.before args s = true := fun w h => hts w (List.mem_cons_of_mem _ h)
  intro S H locs ls a0 x1 x5 x6 x7 t0 hp hW hE hl hL_a0 hK_a0
  unfold wp_X4_withOrigin_178 at hp
  refine lv_istore (lv' := [(9, .int t0), (0, .ref a0), (1, .long x1), (5, .int x5), (6, .int x6), (7, .int x7)]) hx hb dX4_withOrigin_178 hl (by decide) rfl (fun ls hl => ?_)
  refine lv_iload hx hb dX4_withOrigin_180 (lv_at hl 4 rfl) ?_
  refine lv_if_eq (tgt := 194) hx hb dX4_withOrigin_182 (by decide) (fun c_1 => ?_) (fun c_1 => ?_)
  · replace hp := hp.1 c_1
    exact t_X4_withOrigin_194 F hr hlocks hK hp hW hE (lv_sub hl [1, 2, 3, 0] rfl) hL_a0 hK_a0
  · replace hp := hp.2 c_1
    refine lv_iload hx hb dX4_withOrigin_185 (lv_at hl 5 rfl) ?_
    refine lv_if_eq (tgt := 194) hx hb dX4_withOrigin_187 (by decide) (fun c_2 => ?_) (fun c_2 => ?_)
    · replace hp := hp.1 c_2
      exact t_X4_withOrigin_194 F hr hlocks hK hp hW hE (lv_sub hl [1, 2, 3, 0] rfl) hL_a0 hK_a0
    · replace hp := hp.2 c_2
      refine lv_iconst (v := 1) hx hb dX4_withOrigin_190 (by decide) ?_
      refine lv_goto (tgt := 195) hx hb dX4_withOrigin_191 (by decide) ?_
      exact t_X4_withOrigin_195 F hr hlocks hK hp hW hE (lv_sub hl [1, 2, 3, 0] rfl) hL_a0 hK_a0
set_option maxHeartbeats 4000000 in
set_option maxRecDepth 100000 in
theorem t_X4_withOrigin_177 {p : Program} {l : Launch} {e : Env} {s : State} {m : MethodId} {args : Array Value} {below : List Frame} {meth : Method} {c : Code} {D : wD} {cy : Nat → ClassId} {X : va_W} {A : Nat → Prop} {S0 : wS} {post : Int64 → wS → Prop} (F : CallFix p m c cX4_withOrigin 13 s args wz_X4_withOrigin RX4) (hr : meth.sig.returnType = (some .long)) (hlocks : meth.locks = false) (hK : wK D cy A s) : ∀ {S : wS} {H : Heap} {locs : List Loc} {ls : Array Slot} {a0 : Nat} {x1 : Int64} {x5 : Int32} {x6 : Int32} {x7 : Int32}, wp_X4_withOrigin_177 D post S a0 x1 x5 x6 x7 → wO D cy X A s.heap S H locs → wX D S0 S → lv_has ls 13 [(0, .ref a0), (1, .long x1), (5, .int x5), (6, .int x6), (7, .int x7)] → wM D S a0 → sK S a0 = 9 → W p l e r_X4_withOrigin s m args below meth c H locs 0 0 (MQ below (va_Ql (fun r S9 => wX D S0 S9 ∧ post r S9) (wB D cy X A) A) args s 0 0 A) (F0 m 177 ls []) := by
  obtain ⟨hx, hb, hml, hown, hts⟩ := id F
  have hwg : ∀ w ∈ WG, w.before args s = true := fun w h => hts w (List.mem_cons_of_mem _ h)
  intro S H locs ls a0 x1 x5 x6 x7 hp hW hE hl hL_a0 hK_a0
  unfold wp_X4_withOrigin_177 at hp
  refine lv_iconst (v := 0) hx hb dX4_withOrigin_177 (by decide) ?_
  exact t_X4_withOrigin_178 F hr hlocks hK hp hW hE (lv_sub hl [0, 1, 2, 3, 4] rfl) hL_a0 hK_a0
set_option maxHeartbeats 4000000 in
set_option maxRecDepth 100000 in
theorem t_X4_withOrigin_173 {p : Program} {l : Launch} {e : Env} {s : State} {m : MethodId} {args : Array Value} {below : List Frame} {meth : Method} {c : Code} {D : wD} {cy : Nat → ClassId} {X : va_W} {A : Nat → Prop} {S0 : wS} {post : Int64 → wS → Prop} (F : CallFix p m c cX4_withOrigin 13 s args wz_X4_withOrigin RX4) (hr : meth.sig.returnType = (some .long)) (hlocks : meth.locks = false) (hK : wK D cy A s) : ∀ {S : wS} {H : Heap} {locs : List Loc} {ls : Array Slot} {a0 : Nat} {x1 : Int64} {x5 : Int32} {x6 : Int32} {x7 : Int32}, wp_X4_withOrigin_173 D post S a0 x1 x5 x6 x7 → wO D cy X A s.heap S H locs → wX D S0 S → lv_has ls 13 [(0, .ref a0), (1, .long x1), (5, .int x5), (6, .int x6), (7, .int x7)] → wM D S a0 → sK S a0 = 9 → W p l e r_X4_withOrigin s m args below meth c H locs 0 0 (MQ below (va_Ql (fun r S9 => wX D S0 S9 ∧ post r S9) (wB D cy X A) A) args s 0 0 A) (F0 m 173 ls []) := by
  obtain ⟨hx, hb, hml, hown, hts⟩ := id F
  have hwg : ∀ w ∈ WG, w.before args s = true := fun w h => hts w (List.mem_cons_of_mem _ h)
  intro S H locs ls a0 x1 x5 x6 x7 hp hW hE hl hL_a0 hK_a0
  unfold wp_X4_withOrigin_173 at hp
  refine lv_iconst (v := 1) hx hb dX4_withOrigin_173 (by decide) ?_
  refine lv_goto (tgt := 178) hx hb dX4_withOrigin_174 (by decide) ?_
  exact t_X4_withOrigin_178 F hr hlocks hK hp hW hE (lv_sub hl [0, 1, 2, 3, 4] rfl) hL_a0 hK_a0
set_option maxHeartbeats 4000000 in
set_option maxRecDepth 100000 in
theorem t_X4_withOrigin_158 {p : Program} {l : Launch} {e : Env} {s : State} {m : MethodId} {args : Array Value} {below : List Frame} {meth : Method} {c : Code} {D : wD} {cy : Nat → ClassId} {X : va_W} {A : Nat → Prop} {S0 : wS} {post : Int64 → wS → Prop} (F : CallFix p m c cX4_withOrigin 13 s args wz_X4_withOrigin RX4) (hr : meth.sig.returnType = (some .long)) (hlocks : meth.locks = false) (hK : wK D cy A s) : ∀ {S : wS} {H : Heap} {locs : List Loc} {ls : Array Slot} {a0 : Nat} {x1 : Int64} {x5 : Int32} {x6 : Int32} {x7 : Int32} {x8 : Int32}, wp_X4_withOrigin_158 D post S a0 x1 x5 x6 x7 x8 → wO D cy X A s.heap S H locs → wX D S0 S → lv_has ls 13 [(0, .ref a0), (1, .long x1), (5, .int x5), (6, .int x6), (7, .int x7), (8, .int x8)] → wM D S a0 → sK S a0 = 9 → W p l e r_X4_withOrigin s m args below meth c H locs 0 0 (MQ below (va_Ql (fun r S9 => wX D S0 S9 ∧ post r S9) (wB D cy X A) A) args s 0 0 A) (F0 m 158 ls []) := by
  obtain ⟨hx, hb, hml, hown, hts⟩ := id F
  have hwg : ∀ w ∈ WG, w.before args s = true := fun w h => hts w (List.mem_cons_of_mem _ h)
  intro S H locs ls a0 x1 x5 x6 x7 x8 hp hW hE hl hL_a0 hK_a0
  unfold wp_X4_withOrigin_158 at hp
  refine lv_iload hx hb dX4_withOrigin_158 (lv_at hl 3 rfl) ?_
  refine lv_if_eq (tgt := 177) hx hb dX4_withOrigin_160 (by decide) (fun c_1 => ?_) (fun c_1 => ?_)
  · replace hp := hp.1 c_1
    exact t_X4_withOrigin_177 F hr hlocks hK hp hW hE (lv_sub hl [0, 1, 2, 3, 4] rfl) hL_a0 hK_a0
  · replace hp := hp.2 c_1
    refine lv_iload hx hb dX4_withOrigin_163 (lv_at hl 4 rfl) ?_
    refine lv_if_eq (tgt := 173) hx hb dX4_withOrigin_165 (by decide) (fun c_2 => ?_) (fun c_2 => ?_)
    · replace hp := hp.1 c_2
      exact t_X4_withOrigin_173 F hr hlocks hK hp hW hE (lv_sub hl [0, 1, 2, 3, 4] rfl) hL_a0 hK_a0
    · replace hp := hp.2 c_2
      refine lv_iload hx hb dX4_withOrigin_168 (lv_at hl 5 rfl) ?_
      refine lv_if_eq (tgt := 177) hx hb dX4_withOrigin_170 (by decide) (fun c_3 => ?_) (fun c_3 => ?_)
      · replace hp := hp.1 c_3
        exact t_X4_withOrigin_177 F hr hlocks hK hp hW hE (lv_sub hl [0, 1, 2, 3, 4] rfl) hL_a0 hK_a0
      · replace hp := hp.2 c_3
        exact t_X4_withOrigin_173 F hr hlocks hK hp hW hE (lv_sub hl [0, 1, 2, 3, 4] rfl) hL_a0 hK_a0
set_option maxHeartbeats 4000000 in
set_option maxRecDepth 100000 in
theorem t_X4_withOrigin_152 {p : Program} {l : Launch} {e : Env} {s : State} {m : MethodId} {args : Array Value} {below : List Frame} {meth : Method} {c : Code} {D : wD} {cy : Nat → ClassId} {X : va_W} {A : Nat → Prop} {S0 : wS} {post : Int64 → wS → Prop} (F : CallFix p m c cX4_withOrigin 13 s args wz_X4_withOrigin RX4) (hr : meth.sig.returnType = (some .long)) (hlocks : meth.locks = false) (hK : wK D cy A s) {k_18 : wS → Nat → Int64 → Int32 → Int32 → Int32 → Int32 → Int32 → Int32 → Int32 → Prop} (q_18 : ∀ {S : wS} {H : Heap} {locs : List Loc} {ls : Array Slot} {a0 : Nat} {x1 : Int64} {x3 : Int32} {x4 : Int32} {x5 : Int32} {x6 : Int32} {x7 : Int32} {x8 : Int32} {x9 : Int32}, k_18 S a0 x1 x3 x4 x5 x6 x7 x8 x9 → wO D cy X A s.heap S H locs → wX D S0 S → lv_has ls 13 [(0, .ref a0), (1, .long x1), (3, .int x3), (4, .int x4), (5, .int x5), (6, .int x6), (7, .int x7), (8, .int x8), (9, .int x9)] → wM D S a0 → sK S a0 = 9 → W p l e r_X4_withOrigin s m args below meth c H locs 0 0 (MQ below (va_Ql (fun r S9 => wX D S0 S9 ∧ post r S9) (wB D cy X A) A) args s 0 0 A) (F0 m 18 ls [])) : ∀ {S : wS} {H : Heap} {locs : List Loc} {ls : Array Slot} {a0 : Nat} {x1 : Int64} {x3 : Int32} {x4 : Int32} {x5 : Int32} {x6 : Int32} {x7 : Int32} {x8 : Int32} {x9 : Int32}, wp_X4_withOrigin_152 D post k_18 S a0 x1 x3 x4 x5 x6 x7 x8 x9 → wO D cy X A s.heap S H locs → wX D S0 S → lv_has ls 13 [(0, .ref a0), (1, .long x1), (3, .int x3), (4, .int x4), (5, .int x5), (6, .int x6), (7, .int x7), (8, .int x8), (9, .int x9)] → wM D S a0 → sK S a0 = 9 → W p l e r_X4_withOrigin s m args below meth c H locs 0 0 (MQ below (va_Ql (fun r S9 => wX D S0 S9 ∧ post r S9) (wB D cy X A) A) args s 0 0 A) (F0 m 152 ls []) := by
  obtain ⟨hx, hb, hml, hown, hts⟩ := id F
  have hwg : ∀ w ∈ WG, w.before args s = true := fun w h => hts w (List.mem_cons_of_mem _ h)
  intro S H locs ls a0 x1 x3 x4 x5 x6 x7 x8 x9 hp hW hE hl hL_a0 hK_a0
  unfold wp_X4_withOrigin_152 at hp
  obtain ⟨x_1, ex_1⟩ : ∃ z : Int32, z = x9 + 1 := ⟨_, rfl⟩
  replace hp := hp x_1 ex_1
  refine lv_iinc (v := x_1) (lv' := [(9, .int x_1), (0, .ref a0), (1, .long x1), (3, .int x3), (4, .int x4), (5, .int x5), (6, .int x6), (7, .int x7), (8, .int x8)]) hx hb dX4_withOrigin_152 hl (k := 8) rfl (by rw [ex_1]; rfl) (by decide) rfl (fun ls hl => ?_)
  refine lv_goto (tgt := 18) hx hb dX4_withOrigin_155 (by decide) ?_
  exact q_18 hp hW hE (lv_sub hl [1, 2, 3, 4, 5, 6, 7, 8, 0] rfl) hL_a0 hK_a0
set_option maxHeartbeats 4000000 in
set_option maxRecDepth 100000 in
theorem t_X4_withOrigin_149 {p : Program} {l : Launch} {e : Env} {s : State} {m : MethodId} {args : Array Value} {below : List Frame} {meth : Method} {c : Code} {D : wD} {cy : Nat → ClassId} {X : va_W} {A : Nat → Prop} {S0 : wS} {post : Int64 → wS → Prop} (F : CallFix p m c cX4_withOrigin 13 s args wz_X4_withOrigin RX4) (hr : meth.sig.returnType = (some .long)) (hlocks : meth.locks = false) (hK : wK D cy A s) {k_18 : wS → Nat → Int64 → Int32 → Int32 → Int32 → Int32 → Int32 → Int32 → Int32 → Prop} (q_18 : ∀ {S : wS} {H : Heap} {locs : List Loc} {ls : Array Slot} {a0 : Nat} {x1 : Int64} {x3 : Int32} {x4 : Int32} {x5 : Int32} {x6 : Int32} {x7 : Int32} {x8 : Int32} {x9 : Int32}, k_18 S a0 x1 x3 x4 x5 x6 x7 x8 x9 → wO D cy X A s.heap S H locs → wX D S0 S → lv_has ls 13 [(0, .ref a0), (1, .long x1), (3, .int x3), (4, .int x4), (5, .int x5), (6, .int x6), (7, .int x7), (8, .int x8), (9, .int x9)] → wM D S a0 → sK S a0 = 9 → W p l e r_X4_withOrigin s m args below meth c H locs 0 0 (MQ below (va_Ql (fun r S9 => wX D S0 S9 ∧ post r S9) (wB D cy X A) A) args s 0 0 A) (F0 m 18 ls [])) : ∀ {S : wS} {H : Heap} {locs : List Loc} {ls : Array Slot} {a0 : Nat} {x1 : Int64} {x3 : Int32} {x4 : Int32} {x5 : Int32} {x6 : Int32} {x7 : Int32} {x9 : Int32} {t0 : Int32} {t1 : Int32}, wp_X4_withOrigin_149 D post k_18 S a0 x1 x3 x4 x5 x6 x7 x9 t0 t1 → wO D cy X A s.heap S H locs → wX D S0 S → lv_has ls 13 [(0, .ref a0), (1, .long x1), (3, .int x3), (4, .int x4), (5, .int x5), (6, .int x6), (7, .int x7), (9, .int x9)] → wM D S a0 → sK S a0 = 9 → W p l e r_X4_withOrigin s m args below meth c H locs 0 0 (MQ below (va_Ql (fun r S9 => wX D S0 S9 ∧ post r S9) (wB D cy X A) A) args s 0 0 A) (F0 m 149 ls [.int t1, .int t0]) := by
  obtain ⟨hx, hb, hml, hown, hts⟩ := id F
  have hwg : ∀ w ∈ WG, w.before args s = true := fun w h => hts w (List.mem_cons_of_mem _ h)
  intro S H locs ls a0 x1 x3 x4 x5 x6 x7 x9 t0 t1 hp hW hE hl hL_a0 hK_a0
  unfold wp_X4_withOrigin_149 at hp
  refine lv_ior hx hb dX4_withOrigin_149 ?_
  refine lv_topi (fun x_1 ex_1 => ?_)
  replace hp := hp x_1 ex_1
  refine lv_istore (lv' := [(8, .int x_1), (0, .ref a0), (1, .long x1), (3, .int x3), (4, .int x4), (5, .int x5), (6, .int x6), (7, .int x7), (9, .int x9)]) hx hb dX4_withOrigin_150 hl (by decide) rfl (fun ls hl => ?_)
  exact t_X4_withOrigin_152 F hr hlocks hK q_18 hp hW hE (lv_sub hl [1, 2, 3, 4, 5, 6, 7, 0, 8] rfl) hL_a0 hK_a0
set_option maxHeartbeats 4000000 in
set_option maxRecDepth 100000 in
theorem t_X4_withOrigin_118 {p : Program} {l : Launch} {e : Env} {s : State} {m : MethodId} {args : Array Value} {below : List Frame} {meth : Method} {c : Code} {D : wD} {cy : Nat → ClassId} {X : va_W} {A : Nat → Prop} {S0 : wS} {post : Int64 → wS → Prop} (F : CallFix p m c cX4_withOrigin 13 s args wz_X4_withOrigin RX4) (hr : meth.sig.returnType = (some .long)) (hlocks : meth.locks = false) (hK : wK D cy A s) {k_18 : wS → Nat → Int64 → Int32 → Int32 → Int32 → Int32 → Int32 → Int32 → Int32 → Prop} (q_18 : ∀ {S : wS} {H : Heap} {locs : List Loc} {ls : Array Slot} {a0 : Nat} {x1 : Int64} {x3 : Int32} {x4 : Int32} {x5 : Int32} {x6 : Int32} {x7 : Int32} {x8 : Int32} {x9 : Int32}, k_18 S a0 x1 x3 x4 x5 x6 x7 x8 x9 → wO D cy X A s.heap S H locs → wX D S0 S → lv_has ls 13 [(0, .ref a0), (1, .long x1), (3, .int x3), (4, .int x4), (5, .int x5), (6, .int x6), (7, .int x7), (8, .int x8), (9, .int x9)] → wM D S a0 → sK S a0 = 9 → W p l e r_X4_withOrigin s m args below meth c H locs 0 0 (MQ below (va_Ql (fun r S9 => wX D S0 S9 ∧ post r S9) (wB D cy X A) A) args s 0 0 A) (F0 m 18 ls [])) : ∀ {S : wS} {H : Heap} {locs : List Loc} {ls : Array Slot} {a0 : Nat} {x1 : Int64} {x3 : Int32} {x4 : Int32} {x5 : Int32} {x6 : Int32} {x8 : Int32} {x9 : Int32} {x10 : Int32} {t0 : Int32} {t1 : Int32}, wp_X4_withOrigin_118 D post k_18 S a0 x1 x3 x4 x5 x6 x8 x9 x10 t0 t1 → wO D cy X A s.heap S H locs → wX D S0 S → lv_has ls 13 [(0, .ref a0), (1, .long x1), (3, .int x3), (4, .int x4), (5, .int x5), (6, .int x6), (8, .int x8), (9, .int x9), (10, .int x10)] → wM D S a0 → sK S a0 = 9 → W p l e r_X4_withOrigin s m args below meth c H locs 0 0 (MQ below (va_Ql (fun r S9 => wX D S0 S9 ∧ post r S9) (wB D cy X A) A) args s 0 0 A) (F0 m 118 ls [.int t1, .int t0]) := by
  obtain ⟨hx, hb, hml, hown, hts⟩ := id F
  have hwg : ∀ w ∈ WG, w.before args s = true := fun w h => hts w (List.mem_cons_of_mem _ h)
  have i_9 : ∀ w ∈ u_ws RX4 TX4 8, w ∈ wz_X4_withOrigin := fun w h => List.mem_cons_of_mem _ (wu_9 w h)
  have k_27 := hwg _ wf_RX4_27
  intro S H locs ls a0 x1 x3 x4 x5 x6 x8 x9 x10 t0 t1 hp hW hE hl hL_a0 hK_a0
  unfold wp_X4_withOrigin_118 at hp
  refine lv_ior hx hb dX4_withOrigin_118 ?_
  refine lv_topi (fun x_1 ex_1 => ?_)
  replace hp := hp x_1 ex_1
  refine lv_istore (lv' := [(7, .int x_1), (0, .ref a0), (1, .long x1), (3, .int x3), (4, .int x4), (5, .int x5), (6, .int x6), (8, .int x8), (9, .int x9), (10, .int x10)]) hx hb dX4_withOrigin_119 hl (by decide) rfl (fun ls hl => ?_)
  refine lv_iload hx hb dX4_withOrigin_121 (lv_at hl 7 rfl) ?_
  refine lv_aload_n hx hb dX4_withOrigin_123 rfl (lv_at hl 1 rfl) ?_
  obtain ⟨y_2, ey_2, hL_y_2, hK_y_2, hp⟩ := hp
  refine w_get (k := 9) (f := 0) (T := TX4) (v := .ref y_2) F hK hW hL_a0 hK_a0 (by decide) rfl rfl (by decide) i_9 k_27 (by rw [show wv 9 0 S a0 = va_rf (sR S a0 0) from rfl, ey_2]; rfl) dX4_withOrigin_124 ?_
  refine lv_iload hx hb dX4_withOrigin_127 (lv_at hl 9 rfl) ?_
  refine w_callI (va_runV (As := [.int x10]) (rest := [.int x8]) F (c_X0_rankAt l hL_y_2 hK_y_2 hp H.size) (cwV (C := RX0) 1 hts (wg_V wm_RX4_118 wy_X0_rankAt) rfl rfl rfl (by decide +kernel) ⟨Nat.le_of_ble_eq_true rfl, Nat.le_of_ble_eq_true rfl⟩) (w_preV hK hW hL_y_2 hK_y_2 (by decide) rfl) rfl rfl hl.1 rfl (lv_room (Nat.le_of_ble_eq_true rfl)) dX4_withOrigin_129 ⟨Nat.le_of_ble_eq_true rfl, Nat.le_of_ble_eq_true rfl⟩) hW (fun r_3 S_4 H locs hp hW => ?_)
  obtain ⟨hX_S_4, hp⟩ := hp
  refine W.widen (k := 0) (n := 0) (by decide) (by decide) ?_
  have hE := hE.trans hX_S_4
  have hK_a0 : sK S_4 a0 = 9 := (hX_S_4.2 a0 hL_a0).1.trans hK_a0
  have hL_a0 : wM D S_4 a0 := hX_S_4.M hL_a0
  refine lv_aload_n hx hb dX4_withOrigin_132 rfl (lv_at hl 1 rfl) ?_
  obtain ⟨y_5, ey_5, hL_y_5, hK_y_5, hp⟩ := hp
  refine w_get (k := 9) (f := 0) (T := TX4) (v := .ref y_5) F hK hW hL_a0 hK_a0 (by decide) rfl rfl (by decide) i_9 k_27 (by rw [show wv 9 0 S_4 a0 = va_rf (sR S_4 a0 0) from rfl, ey_5]; rfl) dX4_withOrigin_133 ?_
  refine lv_iload hx hb dX4_withOrigin_136 (lv_at hl 5 rfl) ?_
  refine w_callI (va_runV (As := [.int x5]) (rest := [.int r_3, .int x8]) F (c_X0_rankAt l hL_y_5 hK_y_5 hp H.size) (cwV (C := RX0) 1 hts (wg_V wm_RX4_118 wy_X0_rankAt) rfl rfl rfl (by decide +kernel) ⟨Nat.le_of_ble_eq_true rfl, Nat.le_of_ble_eq_true rfl⟩) (w_preV hK hW hL_y_5 hK_y_5 (by decide) rfl) rfl rfl hl.1 rfl (lv_room (Nat.le_of_ble_eq_true rfl)) dX4_withOrigin_138 ⟨Nat.le_of_ble_eq_true rfl, Nat.le_of_ble_eq_true rfl⟩) hW (fun r_6 S_7 H locs hp hW => ?_)
  obtain ⟨hX_S_7, hp⟩ := hp
  refine W.widen (k := 0) (n := 0) (by decide) (by decide) ?_
  have hE := hE.trans hX_S_7
  have hK_a0 : sK S_7 a0 = 9 := (hX_S_7.2 a0 hL_a0).1.trans hK_a0
  have hL_a0 : wM D S_7 a0 := hX_S_7.M hL_a0
  refine lv_icmp_ne (tgt := 148) hx hb dX4_withOrigin_141 (by decide) (fun c_8 => ?_) (fun c_8 => ?_)
  · replace hp := hp.1 c_8
    refine lv_iconst (v := 0) hx hb dX4_withOrigin_148 (by decide) ?_
    exact t_X4_withOrigin_149 F hr hlocks hK q_18 hp hW hE (lv_sub hl [1, 2, 3, 4, 5, 6, 0, 8] rfl) hL_a0 hK_a0
  · replace hp := hp.2 c_8
    refine lv_iconst (v := 1) hx hb dX4_withOrigin_144 (by decide) ?_
    refine lv_goto (tgt := 149) hx hb dX4_withOrigin_145 (by decide) ?_
    exact t_X4_withOrigin_149 F hr hlocks hK q_18 hp hW hE (lv_sub hl [1, 2, 3, 4, 5, 6, 0, 8] rfl) hL_a0 hK_a0
set_option maxHeartbeats 4000000 in
set_option maxRecDepth 100000 in
theorem t_X4_withOrigin_18 {p : Program} {l : Launch} {e : Env} {s : State} {m : MethodId} {args : Array Value} {below : List Frame} {meth : Method} {c : Code} {D : wD} {cy : Nat → ClassId} {X : va_W} {A : Nat → Prop} {S0 : wS} {post : Int64 → wS → Prop} (F : CallFix p m c cX4_withOrigin 13 s args wz_X4_withOrigin RX4) (hr : meth.sig.returnType = (some .long)) (hlocks : meth.locks = false) (hK : wK D cy A s) : ∀ (n : Nat) {S : wS} {H : Heap} {locs : List Loc} {ls : Array Slot} {a0 : Nat} {x1 : Int64} {x3 : Int32} {x4 : Int32} {x5 : Int32} {x6 : Int32} {x7 : Int32} {x8 : Int32} {x9 : Int32}, wp_X4_withOrigin_18 D post n S a0 x1 x3 x4 x5 x6 x7 x8 x9 → wO D cy X A s.heap S H locs → wX D S0 S → lv_has ls 13 [(0, .ref a0), (1, .long x1), (3, .int x3), (4, .int x4), (5, .int x5), (6, .int x6), (7, .int x7), (8, .int x8), (9, .int x9)] → wM D S a0 → sK S a0 = 9 → W p l e r_X4_withOrigin s m args below meth c H locs 0 0 (MQ below (va_Ql (fun r S9 => wX D S0 S9 ∧ post r S9) (wB D cy X A) A) args s 0 0 A) (F0 m 18 ls []) := by
  obtain ⟨hx, hb, hml, hown, hts⟩ := id F
  have hwg : ∀ w ∈ WG, w.before args s = true := fun w h => hts w (List.mem_cons_of_mem _ h)
  have i_9 : ∀ w ∈ u_ws RX4 TX4 8, w ∈ wz_X4_withOrigin := fun w h => List.mem_cons_of_mem _ (wu_9 w h)
  have k_11 := hwg _ wf_RX4_11
  have k_23 := hwg _ wf_RX4_23
  have k_27 := hwg _ wf_RX4_27
  have k_40 := hwg _ wf_RX4_40
  intro n
  induction n with
  | zero =>
    intro S H locs ls a0 x1 x3 x4 x5 x6 x7 x8 x9 hp
    exact hp.elim
  | succ n ih =>
    intro S H locs ls a0 x1 x3 x4 x5 x6 x7 x8 x9 hp hW hE hl hL_a0 hK_a0
    unfold wp_X4_withOrigin_18 at hp
    refine lv_iload hx hb dX4_withOrigin_18 (lv_at hl 8 rfl) ?_
    refine lv_aload_n hx hb dX4_withOrigin_20 rfl (lv_at hl 0 rfl) ?_
    refine w_get (k := 9) (f := 7) (T := TX4) (v := .int (sI S a0 7)) F hK hW hL_a0 hK_a0 (by decide) rfl rfl (by decide) i_9 k_23 rfl dX4_withOrigin_21 ?_
    refine lv_icmp_ge (tgt := 158) hx hb dX4_withOrigin_24 (by decide) (fun c_1 => ?_) (fun c_1 => ?_)
    · replace hp := hp.1 c_1
      exact t_X4_withOrigin_158 F hr hlocks hK hp hW hE (lv_sub hl [0, 1, 4, 5, 6, 7] rfl) hL_a0 hK_a0
    · replace hp := hp.2 c_1
      refine lv_iload hx hb dX4_withOrigin_27 (lv_at hl 8 rfl) ?_
      refine lv_aload_n hx hb dX4_withOrigin_29 rfl (lv_at hl 0 rfl) ?_
      obtain ⟨y_2, ey_2, hL_y_2, hK_y_2, hp⟩ := hp
      refine w_get (k := 9) (f := 4) (T := TX4) (v := .ref y_2) F hK hW hL_a0 hK_a0 (by decide) rfl rfl (by decide) i_9 k_11 (by rw [show wv 9 4 S a0 = va_rf (sR S a0 4) from rfl, ey_2]; rfl) dX4_withOrigin_30 ?_
      refine w_len F hK hW hL_y_2 hK_y_2 (by decide) dX4_withOrigin_33 ?_
      refine lv_icmp_ge (tgt := 158) hx hb dX4_withOrigin_34 (by decide) (fun c_3 => ?_) (fun c_3 => ?_)
      · replace hp := hp.1 c_3
        exact t_X4_withOrigin_158 F hr hlocks hK hp hW hE (lv_sub hl [0, 1, 4, 5, 6, 7] rfl) hL_a0 hK_a0
      · replace hp := hp.2 c_3
        refine lv_aload_n hx hb dX4_withOrigin_37 rfl (lv_at hl 0 rfl) ?_
        obtain ⟨y_4, ey_4, hL_y_4, hK_y_4, hp⟩ := hp
        refine w_get (k := 9) (f := 4) (T := TX4) (v := .ref y_4) F hK hW hL_a0 hK_a0 (by decide) rfl rfl (by decide) i_9 k_11 (by rw [show wv 9 4 S a0 = va_rf (sR S a0 4) from rfl, ey_4]; rfl) dX4_withOrigin_38 ?_
        refine lv_iload hx hb dX4_withOrigin_41 (lv_at hl 8 rfl) ?_
        obtain ⟨h_5, hp⟩ := hp
        refine w_ild F hK hW hL_y_4 hK_y_4 h_5 dX4_withOrigin_43 ?_
        refine w_callI (va_runSN (As := [.int (sI S y_4 (x9).toNatClampNeg)]) (rest := []) F (c_X11_fromOf l hp H.size) ⟨va_cnB (host := "OpeningsCabinet") 1 hts (wg_cons wy_X11_fromOf.2.2) rfl rfl rfl (hK.2.1 (.methodLinkNest "OpeningsCabinet$MoveList" 68 ⟨"OpeningsCabinet", "fromOf", "(I)I"⟩ "OpeningsCabinet") (by decide +kernel)) (hwg _ wy_X11_fromOf.2.1) ⟨by decide, by decide, by decide +kernel⟩ ⟨Nat.le_of_ble_eq_true rfl, Nat.le_of_ble_eq_true rfl⟩, hwg _ wy_X11_fromOf.1, trivial⟩ (w_preS hK hW) rfl rfl hl.1 rfl (lv_room (Nat.le_of_ble_eq_true rfl)) dX4_withOrigin_44 ⟨Nat.le_of_ble_eq_true rfl, Nat.le_of_ble_eq_true rfl⟩) hW (fun r_6 S_7 H locs hp hW => ?_)
        obtain ⟨hX_S_7, hp⟩ := hp
        refine W.widen (k := 0) (n := 0) (by decide) (by decide) ?_
        have hE := hE.trans hX_S_7
        have hK_a0 : sK S_7 a0 = 9 := (hX_S_7.2 a0 hL_a0).1.trans hK_a0
        have hL_a0 : wM D S_7 a0 := hX_S_7.M hL_a0
        refine lv_istore (lv' := [(10, .int r_6), (0, .ref a0), (1, .long x1), (3, .int x3), (4, .int x4), (5, .int x5), (6, .int x6), (7, .int x7), (8, .int x8), (9, .int x9)]) hx hb dX4_withOrigin_47 hl (by decide) rfl (fun ls hl => ?_)
        refine lv_aload_n hx hb dX4_withOrigin_49 rfl (lv_at hl 1 rfl) ?_
        obtain ⟨y_8, ey_8, hL_y_8, hK_y_8, hp⟩ := hp
        refine w_get (k := 9) (f := 4) (T := TX4) (v := .ref y_8) F hK hW hL_a0 hK_a0 (by decide) rfl rfl (by decide) i_9 k_11 (by rw [show wv 9 4 S_7 a0 = va_rf (sR S_7 a0 4) from rfl, ey_8]; rfl) dX4_withOrigin_50 ?_
        refine lv_iload hx hb dX4_withOrigin_53 (lv_at hl 9 rfl) ?_
        obtain ⟨h_9, hp⟩ := hp
        refine w_ild F hK hW hL_y_8 hK_y_8 h_9 dX4_withOrigin_55 ?_
        refine w_callI (va_runSN (As := [.int (sI S_7 y_8 (x9).toNatClampNeg)]) (rest := []) F (c_X11_toOf l hp H.size) ⟨va_cnB (host := "OpeningsCabinet") 1 hts (wg_cons wy_X11_toOf.2.2) rfl rfl rfl (hK.2.1 (.methodLinkNest "OpeningsCabinet$MoveList" 71 ⟨"OpeningsCabinet", "toOf", "(I)I"⟩ "OpeningsCabinet") (by decide +kernel)) (hwg _ wy_X11_toOf.2.1) ⟨by decide, by decide, by decide +kernel⟩ ⟨Nat.le_of_ble_eq_true rfl, Nat.le_of_ble_eq_true rfl⟩, hwg _ wy_X11_toOf.1, trivial⟩ (w_preS hK hW) rfl rfl hl.1 rfl (lv_room (Nat.le_of_ble_eq_true rfl)) dX4_withOrigin_56 ⟨Nat.le_of_ble_eq_true rfl, Nat.le_of_ble_eq_true rfl⟩) hW (fun r_10 S_11 H locs hp hW => ?_)
        obtain ⟨hX_S_11, hp⟩ := hp
        refine W.widen (k := 0) (n := 0) (by decide) (by decide) ?_
        have hE := hE.trans hX_S_11
        have hK_a0 : sK S_11 a0 = 9 := (hX_S_11.2 a0 hL_a0).1.trans hK_a0
        have hL_a0 : wM D S_11 a0 := hX_S_11.M hL_a0
        refine lv_iload_n hx hb dX4_withOrigin_59 rfl (lv_at hl 3 rfl) ?_
        refine w_callI (va_runSN (As := [.int x3]) (rest := [.int r_10]) F (c_X11_toOf l hp H.size) ⟨va_cnB (host := "OpeningsCabinet") 1 hts (wg_cons wy_X11_toOf.2.2) rfl rfl rfl (hK.2.1 (.methodLinkNest "OpeningsCabinet$MoveList" 71 ⟨"OpeningsCabinet", "toOf", "(I)I"⟩ "OpeningsCabinet") (by decide +kernel)) (hwg _ wy_X11_toOf.2.1) ⟨by decide, by decide, by decide +kernel⟩ ⟨Nat.le_of_ble_eq_true rfl, Nat.le_of_ble_eq_true rfl⟩, hwg _ wy_X11_toOf.1, trivial⟩ (w_preS hK hW) rfl rfl hl.1 rfl (lv_room (Nat.le_of_ble_eq_true rfl)) dX4_withOrigin_60 ⟨Nat.le_of_ble_eq_true rfl, Nat.le_of_ble_eq_true rfl⟩) hW (fun r_12 S_13 H locs hp hW => ?_)
        obtain ⟨hX_S_13, hp⟩ := hp
        refine W.widen (k := 0) (n := 0) (by decide) (by decide) ?_
        have hE := hE.trans hX_S_13
        have hK_a0 : sK S_13 a0 = 9 := (hX_S_13.2 a0 hL_a0).1.trans hK_a0
        have hL_a0 : wM D S_13 a0 := hX_S_13.M hL_a0
        refine lv_icmp_ne (tgt := 152) hx hb dX4_withOrigin_63 (by decide) (fun c_14 => ?_) (fun c_14 => ?_)
        · replace hp := hp.1 c_14
          exact t_X4_withOrigin_152 F hr hlocks hK ih hp hW hE (lv_sub hl [1, 2, 3, 4, 5, 6, 7, 8, 9] rfl) hL_a0 hK_a0
        · replace hp := hp.2 c_14
          refine lv_iload hx hb dX4_withOrigin_66 (lv_at hl 0 rfl) ?_
          refine lv_iload hx hb dX4_withOrigin_68 (lv_at hl 5 rfl) ?_
          refine lv_icmp_eq (tgt := 152) hx hb dX4_withOrigin_70 (by decide) (fun c_15 => ?_) (fun c_15 => ?_)
          · replace hp := hp.1 c_15
            exact t_X4_withOrigin_152 F hr hlocks hK ih hp hW hE (lv_sub hl [1, 2, 3, 4, 5, 6, 7, 8, 9] rfl) hL_a0 hK_a0
          · replace hp := hp.2 c_15
            refine lv_aload_n hx hb dX4_withOrigin_73 rfl (lv_at hl 1 rfl) ?_
            obtain ⟨y_16, ey_16, hL_y_16, hK_y_16, hp⟩ := hp
            refine w_get (k := 9) (f := 2) (T := TX4) (v := .ref y_16) F hK hW hL_a0 hK_a0 (by decide) rfl rfl (by decide) i_9 k_40 (by rw [show wv 9 2 S_13 a0 = va_rf (sR S_13 a0 2) from rfl, ey_16]; rfl) dX4_withOrigin_74 ?_
            refine lv_iload hx hb dX4_withOrigin_77 (lv_at hl 0 rfl) ?_
            refine w_callI (va_runV (As := [.int r_6]) (rest := []) F (c_X7_kindOn l hL_y_16 hK_y_16 hp H.size) (cwV (C := RX7) 1 hts (wg_V wm_RX4_74 wy_X7_kindOn) rfl rfl rfl (by decide +kernel) ⟨Nat.le_of_ble_eq_true rfl, Nat.le_of_ble_eq_true rfl⟩) (w_preV hK hW hL_y_16 hK_y_16 (by decide) rfl) rfl rfl hl.1 rfl (lv_room (Nat.le_of_ble_eq_true rfl)) dX4_withOrigin_79 ⟨Nat.le_of_ble_eq_true rfl, Nat.le_of_ble_eq_true rfl⟩) hW (fun r_17 S_18 H locs hp hW => ?_)
            obtain ⟨hX_S_18, hp⟩ := hp
            refine W.widen (k := 0) (n := 0) (by decide) (by decide) ?_
            have hE := hE.trans hX_S_18
            have hK_a0 : sK S_18 a0 = 9 := (hX_S_18.2 a0 hL_a0).1.trans hK_a0
            have hL_a0 : wM D S_18 a0 := hX_S_18.M hL_a0
            refine lv_iload hx hb dX4_withOrigin_82 (lv_at hl 4 rfl) ?_
            refine lv_icmp_ne (tgt := 152) hx hb dX4_withOrigin_84 (by decide) (fun c_19 => ?_) (fun c_19 => ?_)
            · replace hp := hp.1 c_19
              exact t_X4_withOrigin_152 F hr hlocks hK ih hp hW hE (lv_sub hl [1, 2, 3, 4, 5, 6, 7, 8, 9] rfl) hL_a0 hK_a0
            · replace hp := hp.2 c_19
              refine lv_iconst (v := 1) hx hb dX4_withOrigin_87 (by decide) ?_
              refine lv_istore (lv' := [(6, .int (1 : Int32)), (10, .int r_6), (0, .ref a0), (1, .long x1), (3, .int x3), (4, .int x4), (5, .int x5), (7, .int x7), (8, .int x8), (9, .int x9)]) hx hb dX4_withOrigin_88 hl (by decide) rfl (fun ls hl => ?_)
              refine lv_iload hx hb dX4_withOrigin_90 (lv_at hl 7 rfl) ?_
              refine lv_aload_n hx hb dX4_withOrigin_92 rfl (lv_at hl 2 rfl) ?_
              obtain ⟨y_20, ey_20, hL_y_20, hK_y_20, hp⟩ := hp
              refine w_get (k := 9) (f := 0) (T := TX4) (v := .ref y_20) F hK hW hL_a0 hK_a0 (by decide) rfl rfl (by decide) i_9 k_27 (by rw [show wv 9 0 S_18 a0 = va_rf (sR S_18 a0 0) from rfl, ey_20]; rfl) dX4_withOrigin_93 ?_
              refine lv_iload hx hb dX4_withOrigin_96 (lv_at hl 1 rfl) ?_
              refine w_callI (va_runV (As := [.int r_6]) (rest := [.int x7]) F (c_X0_fileAt l hL_y_20 hK_y_20 hp H.size) (cwV (C := RX0) 1 hts (wg_V wm_RX4_113 wy_X0_fileAt) rfl rfl rfl (by decide +kernel) ⟨Nat.le_of_ble_eq_true rfl, Nat.le_of_ble_eq_true rfl⟩) (w_preV hK hW hL_y_20 hK_y_20 (by decide) rfl) rfl rfl hl.1 rfl (lv_room (Nat.le_of_ble_eq_true rfl)) dX4_withOrigin_98 ⟨Nat.le_of_ble_eq_true rfl, Nat.le_of_ble_eq_true rfl⟩) hW (fun r_21 S_22 H locs hp hW => ?_)
              obtain ⟨hX_S_22, hp⟩ := hp
              refine W.widen (k := 0) (n := 0) (by decide) (by decide) ?_
              have hE := hE.trans hX_S_22
              have hK_a0 : sK S_22 a0 = 9 := (hX_S_22.2 a0 hL_a0).1.trans hK_a0
              have hL_a0 : wM D S_22 a0 := hX_S_22.M hL_a0
              refine lv_aload_n hx hb dX4_withOrigin_101 rfl (lv_at hl 2 rfl) ?_
              obtain ⟨y_23, ey_23, hL_y_23, hK_y_23, hp⟩ := hp
              refine w_get (k := 9) (f := 0) (T := TX4) (v := .ref y_23) F hK hW hL_a0 hK_a0 (by decide) rfl rfl (by decide) i_9 k_27 (by rw [show wv 9 0 S_22 a0 = va_rf (sR S_22 a0 0) from rfl, ey_23]; rfl) dX4_withOrigin_102 ?_
              refine lv_iload hx hb dX4_withOrigin_105 (lv_at hl 6 rfl) ?_
              refine w_callI (va_runV (As := [.int x5]) (rest := [.int r_21, .int x7]) F (c_X0_fileAt l hL_y_23 hK_y_23 hp H.size) (cwV (C := RX0) 1 hts (wg_V wm_RX4_113 wy_X0_fileAt) rfl rfl rfl (by decide +kernel) ⟨Nat.le_of_ble_eq_true rfl, Nat.le_of_ble_eq_true rfl⟩) (w_preV hK hW hL_y_23 hK_y_23 (by decide) rfl) rfl rfl hl.1 rfl (lv_room (Nat.le_of_ble_eq_true rfl)) dX4_withOrigin_107 ⟨Nat.le_of_ble_eq_true rfl, Nat.le_of_ble_eq_true rfl⟩) hW (fun r_24 S_25 H locs hp hW => ?_)
              obtain ⟨hX_S_25, hp⟩ := hp
              refine W.widen (k := 0) (n := 0) (by decide) (by decide) ?_
              have hE := hE.trans hX_S_25
              have hK_a0 : sK S_25 a0 = 9 := (hX_S_25.2 a0 hL_a0).1.trans hK_a0
              have hL_a0 : wM D S_25 a0 := hX_S_25.M hL_a0
              refine lv_icmp_ne (tgt := 117) hx hb dX4_withOrigin_110 (by decide) (fun c_26 => ?_) (fun c_26 => ?_)
              · replace hp := hp.1 c_26
                refine lv_iconst (v := 0) hx hb dX4_withOrigin_117 (by decide) ?_
                exact t_X4_withOrigin_118 F hr hlocks hK ih hp hW hE (lv_sub hl [2, 3, 4, 5, 6, 0, 8, 9, 1] rfl) hL_a0 hK_a0
              · replace hp := hp.2 c_26
                refine lv_iconst (v := 1) hx hb dX4_withOrigin_113 (by decide) ?_
                refine lv_goto (tgt := 118) hx hb dX4_withOrigin_114 (by decide) ?_
                exact t_X4_withOrigin_118 F hr hlocks hK ih hp hW hE (lv_sub hl [2, 3, 4, 5, 6, 0, 8, 9, 1] rfl) hL_a0 hK_a0
set_option maxHeartbeats 4000000 in
set_option maxRecDepth 100000 in
theorem t_X4_withOrigin_0 {p : Program} {l : Launch} {e : Env} {s : State} {m : MethodId} {args : Array Value} {below : List Frame} {meth : Method} {c : Code} {D : wD} {cy : Nat → ClassId} {X : va_W} {A : Nat → Prop} {S0 : wS} {post : Int64 → wS → Prop} (F : CallFix p m c cX4_withOrigin 13 s args wz_X4_withOrigin RX4) (hr : meth.sig.returnType = (some .long)) (hlocks : meth.locks = false) (hK : wK D cy A s) : ∀ {S : wS} {H : Heap} {locs : List Loc} {ls : Array Slot} {a0 : Nat} {x1 : Int64} {x3 : Int32} {x4 : Int32}, wp_X4_withOrigin_0 D post S a0 x1 x3 x4 → wO D cy X A s.heap S H locs → wX D S0 S → lv_has ls 13 [(0, .ref a0), (1, .long x1), (3, .int x3), (4, .int x4)] → wM D S a0 → sK S a0 = 9 → W p l e r_X4_withOrigin s m args below meth c H locs 0 0 (MQ below (va_Ql (fun r S9 => wX D S0 S9 ∧ post r S9) (wB D cy X A) A) args s 0 0 A) (F0 m 0 ls []) := by
  obtain ⟨hx, hb, hml, hown, hts⟩ := id F
  have hwg : ∀ w ∈ WG, w.before args s = true := fun w h => hts w (List.mem_cons_of_mem _ h)
  intro S H locs ls a0 x1 x3 x4 hp hW hE hl hL_a0 hK_a0
  unfold wp_X4_withOrigin_0 at hp
  refine lv_iload_n hx hb dX4_withOrigin_0 rfl (lv_at hl 2 rfl) ?_
  refine w_callI (va_runSN (As := [.int x3]) (rest := []) F (c_X11_fromOf l hp H.size) ⟨va_cnB (host := "OpeningsCabinet") 1 hts (wg_cons wy_X11_fromOf.2.2) rfl rfl rfl (hK.2.1 (.methodLinkNest "OpeningsCabinet$MoveList" 68 ⟨"OpeningsCabinet", "fromOf", "(I)I"⟩ "OpeningsCabinet") (by decide +kernel)) (hwg _ wy_X11_fromOf.2.1) ⟨by decide, by decide, by decide +kernel⟩ ⟨Nat.le_of_ble_eq_true rfl, Nat.le_of_ble_eq_true rfl⟩, hwg _ wy_X11_fromOf.1, trivial⟩ (w_preS hK hW) rfl rfl hl.1 rfl (lv_room (Nat.le_of_ble_eq_true rfl)) dX4_withOrigin_1 ⟨Nat.le_of_ble_eq_true rfl, Nat.le_of_ble_eq_true rfl⟩) hW (fun r_1 S_2 H locs hp hW => ?_)
  obtain ⟨hX_S_2, hp⟩ := hp
  refine W.widen (k := 0) (n := 0) (by decide) (by decide) ?_
  have hE := hE.trans hX_S_2
  have hK_a0 : sK S_2 a0 = 9 := (hX_S_2.2 a0 hL_a0).1.trans hK_a0
  have hL_a0 : wM D S_2 a0 := hX_S_2.M hL_a0
  refine lv_istore (lv' := [(5, .int r_1), (0, .ref a0), (1, .long x1), (3, .int x3), (4, .int x4)]) hx hb dX4_withOrigin_4 hl (by decide) rfl (fun ls hl => ?_)
  refine lv_iconst (v := 0) hx hb dX4_withOrigin_6 (by decide) ?_
  refine lv_istore (lv' := [(6, .int (0 : Int32)), (5, .int r_1), (0, .ref a0), (1, .long x1), (3, .int x3), (4, .int x4)]) hx hb dX4_withOrigin_7 hl (by decide) rfl (fun ls hl => ?_)
  refine lv_iconst (v := 0) hx hb dX4_withOrigin_9 (by decide) ?_
  refine lv_istore (lv' := [(7, .int (0 : Int32)), (6, .int (0 : Int32)), (5, .int r_1), (0, .ref a0), (1, .long x1), (3, .int x3), (4, .int x4)]) hx hb dX4_withOrigin_10 hl (by decide) rfl (fun ls hl => ?_)
  refine lv_iconst (v := 0) hx hb dX4_withOrigin_12 (by decide) ?_
  refine lv_istore (lv' := [(8, .int (0 : Int32)), (7, .int (0 : Int32)), (6, .int (0 : Int32)), (5, .int r_1), (0, .ref a0), (1, .long x1), (3, .int x3), (4, .int x4)]) hx hb dX4_withOrigin_13 hl (by decide) rfl (fun ls hl => ?_)
  refine lv_iconst (v := 0) hx hb dX4_withOrigin_15 (by decide) ?_
  refine lv_istore (lv' := [(9, .int (0 : Int32)), (8, .int (0 : Int32)), (7, .int (0 : Int32)), (6, .int (0 : Int32)), (5, .int r_1), (0, .ref a0), (1, .long x1), (3, .int x3), (4, .int x4)]) hx hb dX4_withOrigin_16 hl (by decide) rfl (fun ls hl => ?_)
  obtain ⟨n_3, hp⟩ := hp
  exact t_X4_withOrigin_18 F hr hlocks hK n_3 hp hW hE (lv_sub hl [5, 6, 7, 8, 4, 3, 2, 1, 0] rfl) hL_a0 hK_a0
set_option maxHeartbeats 4000000 in
set_option maxRecDepth 100000 in
theorem c_X4_withOrigin (l : Launch) {D : wD} {cy : Nat → ClassId} {X : va_W} {S0 : wS} {post : Int64 → wS → Prop} {a0 : Nat} {x1 : Int64} {x3 : Int32} {x4 : Int32} (hL_a0 : wM D S0 a0) (hK_a0 : sK S0 a0 = 9) (hp : wp_X4_withOrigin D post S0 a0 x1 x3 x4) : mJ D cy X l yX4_withOrigin wz_X4_withOrigin r_X4_withOrigin [.ref a0, .long x1, .int x3, .int x4] S0 (fun r S9 => wX D S0 S9 ∧ post r S9) := by
  intro sz
  refine Met.ofW (cc := cX4_withOrigin) (maxL := 13) (ret := (some .long)) (by decide) rfl ?_
  intro p e s m args below meth c s₁ B hml hv
  obtain ⟨rfl, hsz, hP, hK, hD0, hRO⟩ := hv
  have hts := atoms_spec (ws := wz_X4_withOrigin) B.pre
  have hown : s.vm.findClass RX4 = some m.cls := findClass_of_methodNamed B.named
  subst hsz
  have hD := hD0.self (sz := s.heap.size)
  have F : CallFix p m c cX4_withOrigin 13 s _ wz_X4_withOrigin RX4 := ⟨B.exec, B.bytes, hml, hown, hts⟩
  have hr := B.returns
  have hlocks := B.notSynchronized
  generalize hAe : va_A (wL cy X S0) s.heap.size = A at hD hK ⊢
  have hA : ∀ q, s.heap.size ≤ q → A q := fun q h => by rw [← hAe]; exact Or.inr h
  have hW : wO D cy X A s.heap S0 s.heap [] := ⟨hP, hD, va_S.rf, hA, hRO⟩
  have hl := lv_entry ([.ref a0, .long x1, .int x3, .int x4]) (n := 13) (Nat.le_of_ble_eq_true rfl)
  rw [lg_entry_eq]
  generalize (lg_sl ([.ref a0, .long x1, .int x3, .int x4]) ++ List.replicate (13 - (lg_sl ([.ref a0, .long x1, .int x3, .int x4])).length) Slot.unset).toArray = ls at hl ⊢
  have hl : lv_has ls 13 [(0, .ref a0), (1, .long x1), (3, .int x3), (4, .int x4)] := hl
  unfold wp_X4_withOrigin at hp
  exact t_X4_withOrigin_0 F hr hlocks hK hp hW wX.rf (lv_sub hl [0, 1, 2, 3] rfl) hL_a0 hK_a0
def wp_X1_number_29 (D : wD) (post : Int32 → wS → Prop) (k_4 : wS → Nat → Int32 → Int32 → Prop) (S : wS) (a0 : Nat) (x2 : Int32) (t0 : Int32) (t1 : Int32) : Prop :=
∀ x_1 : Int32, x_1 = (t0 + t1) →
∀ x_2 : Int32, x_2 = x2 + 1 →
k_4 S a0 x_1 x_2
def wp_X1_number_4 (D : wD) (post : Int32 → wS → Prop)  : Nat → wS → Nat → Int32 → Int32 → Prop
  | 0, _, _, _, _ => False
  | n + 1, S, a0, x1, x2 =>
    ∃ y_1 : Nat, sR S a0 0 = some y_1 ∧ wM D S y_1 ∧ sK S y_1 = 9 ∧
    (((sI S y_1 7) ≤ x2 → post x1 S) ∧
     (¬ (sI S y_1 7) ≤ x2 → wp_X1_gamesWith D (fun r_3 S_4 => 
    ((r_3 ≤ 0 → wp_X1_number_29 D post (wp_X1_number_4 D post n) S_4 a0 x2 x1 (0 : Int32)) ∧
     (¬ r_3 ≤ 0 → wp_X1_number_29 D post (wp_X1_number_4 D post n) S_4 a0 x2 x1 (1 : Int32)))) S a0 x2))
def wp_X1_number_0 (D : wD) (post : Int32 → wS → Prop)  (S : wS) (a0 : Nat) : Prop :=
∃ n_1 : Nat, wp_X1_number_4 D post n_1 S a0 (0 : Int32) (0 : Int32)
abbrev r_X1_number : Room := { frames := 1, cells := 0, slots := 0, locals := 21 }
def wp_X1_number (D : wD) (post : Int32 → wS → Prop) (S : wS) (a0 : Nat) : Prop := wp_X1_number_0 D post S a0
set_option maxHeartbeats 4000000 in
set_option maxRecDepth 100000 in
theorem t_X1_number_29 {p : Program} {l : Launch} {e : Env} {s : State} {m : MethodId} {args : Array Value} {below : List Frame} {meth : Method} {c : Code} {D : wD} {cy : Nat → ClassId} {X : va_W} {A : Nat → Prop} {S0 : wS} {post : Int32 → wS → Prop} (F : CallFix p m c cX1_number 3 s args wz_X1_number RX1) (hr : meth.sig.returnType = (some .int)) (hlocks : meth.locks = false) (hK : wK D cy A s) {k_4 : wS → Nat → Int32 → Int32 → Prop} (q_4 : ∀ {S : wS} {H : Heap} {locs : List Loc} {ls : Array Slot} {a0 : Nat} {x1 : Int32} {x2 : Int32}, k_4 S a0 x1 x2 → wO D cy X A s.heap S H locs → wX D S0 S → lv_has ls 3 [(0, .ref a0), (1, .int x1), (2, .int x2)] → wM D S a0 → sK S a0 = 6 → W p l e r_X1_number s m args below meth c H locs 0 0 (MQ below (va_Qi (fun r S9 => wX D S0 S9 ∧ post r S9) (wB D cy X A) A) args s 0 0 A) (F0 m 4 ls [])) : ∀ {S : wS} {H : Heap} {locs : List Loc} {ls : Array Slot} {a0 : Nat} {x2 : Int32} {t0 : Int32} {t1 : Int32}, wp_X1_number_29 D post k_4 S a0 x2 t0 t1 → wO D cy X A s.heap S H locs → wX D S0 S → lv_has ls 3 [(0, .ref a0), (2, .int x2)] → wM D S a0 → sK S a0 = 6 → W p l e r_X1_number s m args below meth c H locs 0 0 (MQ below (va_Qi (fun r S9 => wX D S0 S9 ∧ post r S9) (wB D cy X A) A) args s 0 0 A) (F0 m 29 ls [.int t1, .int t0]) := by
  obtain ⟨hx, hb, hml, hown, hts⟩ := id F
  have hwg : ∀ w ∈ WG, w.before args s = true := fun w h => hts w (List.mem_cons_of_mem _ h)
  intro S H locs ls a0 x2 t0 t1 hp hW hE hl hL_a0 hK_a0
  unfold wp_X1_number_29 at hp
  refine lv_iadd hx hb dX1_number_29 ?_
  refine lv_topi (fun x_1 ex_1 => ?_)
  replace hp := hp x_1 ex_1
  refine lv_istore_n (lv' := [(1, .int x_1), (0, .ref a0), (2, .int x2)]) hx hb dX1_number_30 rfl hl (by decide) rfl (fun ls hl => ?_)
  obtain ⟨x_2, ex_2⟩ : ∃ z : Int32, z = x2 + 1 := ⟨_, rfl⟩
  replace hp := hp x_2 ex_2
  refine lv_iinc (v := x_2) (lv' := [(2, .int x_2), (1, .int x_1), (0, .ref a0)]) hx hb dX1_number_31 hl (k := 2) rfl (by rw [ex_2]; rfl) (by decide) rfl (fun ls hl => ?_)
  refine lv_goto (tgt := 4) hx hb dX1_number_34 (by decide) ?_
  exact q_4 hp hW hE (lv_sub hl [2, 1, 0] rfl) hL_a0 hK_a0
set_option maxHeartbeats 4000000 in
set_option maxRecDepth 100000 in
theorem t_X1_number_4 {p : Program} {l : Launch} {e : Env} {s : State} {m : MethodId} {args : Array Value} {below : List Frame} {meth : Method} {c : Code} {D : wD} {cy : Nat → ClassId} {X : va_W} {A : Nat → Prop} {S0 : wS} {post : Int32 → wS → Prop} (F : CallFix p m c cX1_number 3 s args wz_X1_number RX1) (hr : meth.sig.returnType = (some .int)) (hlocks : meth.locks = false) (hK : wK D cy A s) : ∀ (n : Nat) {S : wS} {H : Heap} {locs : List Loc} {ls : Array Slot} {a0 : Nat} {x1 : Int32} {x2 : Int32}, wp_X1_number_4 D post n S a0 x1 x2 → wO D cy X A s.heap S H locs → wX D S0 S → lv_has ls 3 [(0, .ref a0), (1, .int x1), (2, .int x2)] → wM D S a0 → sK S a0 = 6 → W p l e r_X1_number s m args below meth c H locs 0 0 (MQ below (va_Qi (fun r S9 => wX D S0 S9 ∧ post r S9) (wB D cy X A) A) args s 0 0 A) (F0 m 4 ls []) := by
  obtain ⟨hx, hb, hml, hown, hts⟩ := id F
  have hwg : ∀ w ∈ WG, w.before args s = true := fun w h => hts w (List.mem_cons_of_mem _ h)
  have i_6 : ∀ w ∈ u_ws RX1 TX1 4, w ∈ wz_X1_number := fun w h => List.mem_cons_of_mem _ (wu_6 w h)
  have i_9 : ∀ w ∈ u_ws RX4 TX4 8, w ∈ wz_X1_number := fun w h => List.mem_cons_of_mem _ (wu_9 w h)
  have k_22 := hwg _ wf_RX1_22
  intro n
  induction n with
  | zero =>
    intro S H locs ls a0 x1 x2 hp
    exact hp.elim
  | succ n ih =>
    intro S H locs ls a0 x1 x2 hp hW hE hl hL_a0 hK_a0
    unfold wp_X1_number_4 at hp
    refine lv_iload_n hx hb dX1_number_4 rfl (lv_at hl 2 rfl) ?_
    refine lv_aload_n hx hb dX1_number_5 rfl (lv_at hl 0 rfl) ?_
    obtain ⟨y_1, ey_1, hL_y_1, hK_y_1, hp⟩ := hp
    refine w_get (k := 6) (f := 0) (T := TX1) (v := .ref y_1) F hK hW hL_a0 hK_a0 (by decide) rfl rfl (by decide) i_6 k_22 (by rw [show wv 6 0 S a0 = va_rf (sR S a0 0) from rfl, ey_1]; rfl) dX1_number_6 ?_
    refine w_getN (k := 9) (f := 7) (T := TX4) (v := .int (sI S y_1 7)) F hK hW hL_y_1 hK_y_1 (by decide) rfl rfl (by decide) i_9 (hK.2.1 (.fieldLinkNest "OpeningsCabinet$Continuations" 74 "OpeningsCabinet$MoveList" "size" "I" "OpeningsCabinet") (by decide +kernel)) rfl dX1_number_9 ?_
    refine lv_icmp_ge (tgt := 37) hx hb dX1_number_12 (by decide) (fun c_2 => ?_) (fun c_2 => ?_)
    · replace hp := hp.1 c_2
      refine lv_iload_n hx hb dX1_number_37 rfl (lv_at hl 1 rfl) ?_
      exact w_iret hx hb hr hlocks hW ⟨hE, hp⟩ dX1_number_38
    · replace hp := hp.2 c_2
      refine lv_iload_n hx hb dX1_number_15 rfl (lv_at hl 1 rfl) ?_
      refine lv_aload_n hx hb dX1_number_16 rfl (lv_at hl 0 rfl) ?_
      refine lv_iload_n hx hb dX1_number_17 rfl (lv_at hl 2 rfl) ?_
      refine w_callI (va_runV (As := [.int x2]) (rest := [.int x1]) F (c_X1_gamesWith l hL_a0 hK_a0 hp H.size) (cwV (C := RX1) 1 hts (wg_V wm_RX1_76 wy_X1_gamesWith) rfl rfl rfl (by decide +kernel) ⟨Nat.le_of_ble_eq_true rfl, Nat.le_of_ble_eq_true rfl⟩) (w_preV hK hW hL_a0 hK_a0 (by decide) rfl) rfl rfl hl.1 rfl (lv_room (Nat.le_of_ble_eq_true rfl)) dX1_number_18 ⟨Nat.le_of_ble_eq_true rfl, Nat.le_of_ble_eq_true rfl⟩) hW (fun r_3 S_4 H locs hp hW => ?_)
      obtain ⟨hX_S_4, hp⟩ := hp
      refine W.widen (k := 0) (n := 0) (by decide) (by decide) ?_
      have hE := hE.trans hX_S_4
      have hK_a0 : sK S_4 a0 = 6 := (hX_S_4.2 a0 hL_a0).1.trans hK_a0
      have hL_a0 : wM D S_4 a0 := hX_S_4.M hL_a0
      refine lv_if_le (tgt := 28) hx hb dX1_number_21 (by decide) (fun c_5 => ?_) (fun c_5 => ?_)
      · replace hp := hp.1 c_5
        refine lv_iconst (v := 0) hx hb dX1_number_28 (by decide) ?_
        exact t_X1_number_29 F hr hlocks hK ih hp hW hE (lv_sub hl [0, 2] rfl) hL_a0 hK_a0
      · replace hp := hp.2 c_5
        refine lv_iconst (v := 1) hx hb dX1_number_24 (by decide) ?_
        refine lv_goto (tgt := 29) hx hb dX1_number_25 (by decide) ?_
        exact t_X1_number_29 F hr hlocks hK ih hp hW hE (lv_sub hl [0, 2] rfl) hL_a0 hK_a0
set_option maxHeartbeats 4000000 in
set_option maxRecDepth 100000 in
theorem t_X1_number_0 {p : Program} {l : Launch} {e : Env} {s : State} {m : MethodId} {args : Array Value} {below : List Frame} {meth : Method} {c : Code} {D : wD} {cy : Nat → ClassId} {X : va_W} {A : Nat → Prop} {S0 : wS} {post : Int32 → wS → Prop} (F : CallFix p m c cX1_number 3 s args wz_X1_number RX1) (hr : meth.sig.returnType = (some .int)) (hlocks : meth.locks = false) (hK : wK D cy A s) : ∀ {S : wS} {H : Heap} {locs : List Loc} {ls : Array Slot} {a0 : Nat}, wp_X1_number_0 D post S a0 → wO D cy X A s.heap S H locs → wX D S0 S → lv_has ls 3 [(0, .ref a0)] → wM D S a0 → sK S a0 = 6 → W p l e r_X1_number s m args below meth c H locs 0 0 (MQ below (va_Qi (fun r S9 => wX D S0 S9 ∧ post r S9) (wB D cy X A) A) args s 0 0 A) (F0 m 0 ls []) := by
  obtain ⟨hx, hb, hml, hown, hts⟩ := id F
  have hwg : ∀ w ∈ WG, w.before args s = true := fun w h => hts w (List.mem_cons_of_mem _ h)
  intro S H locs ls a0 hp hW hE hl hL_a0 hK_a0
  unfold wp_X1_number_0 at hp
  refine lv_iconst (v := 0) hx hb dX1_number_0 (by decide) ?_
  refine lv_istore_n (lv' := [(1, .int (0 : Int32)), (0, .ref a0)]) hx hb dX1_number_1 rfl hl (by decide) rfl (fun ls hl => ?_)
  refine lv_iconst (v := 0) hx hb dX1_number_2 (by decide) ?_
  refine lv_istore_n (lv' := [(2, .int (0 : Int32)), (1, .int (0 : Int32)), (0, .ref a0)]) hx hb dX1_number_3 rfl hl (by decide) rfl (fun ls hl => ?_)
  obtain ⟨n_1, hp⟩ := hp
  exact t_X1_number_4 F hr hlocks hK n_1 hp hW hE (lv_sub hl [2, 1, 0] rfl) hL_a0 hK_a0
set_option maxHeartbeats 4000000 in
set_option maxRecDepth 100000 in
theorem c_X1_number (l : Launch) {D : wD} {cy : Nat → ClassId} {X : va_W} {S0 : wS} {post : Int32 → wS → Prop} {a0 : Nat} (hL_a0 : wM D S0 a0) (hK_a0 : sK S0 a0 = 6) (hp : wp_X1_number D post S0 a0) : mI D cy X l yX1_number wz_X1_number r_X1_number [.ref a0] S0 (fun r S9 => wX D S0 S9 ∧ post r S9) := by
  intro sz
  refine Met.ofW (cc := cX1_number) (maxL := 3) (ret := (some .int)) (by decide) rfl ?_
  intro p e s m args below meth c s₁ B hml hv
  obtain ⟨rfl, hsz, hP, hK, hD0, hRO⟩ := hv
  have hts := atoms_spec (ws := wz_X1_number) B.pre
  have hown : s.vm.findClass RX1 = some m.cls := findClass_of_methodNamed B.named
  subst hsz
  have hD := hD0.self (sz := s.heap.size)
  have F : CallFix p m c cX1_number 3 s _ wz_X1_number RX1 := ⟨B.exec, B.bytes, hml, hown, hts⟩
  have hr := B.returns
  have hlocks := B.notSynchronized
  generalize hAe : va_A (wL cy X S0) s.heap.size = A at hD hK ⊢
  have hA : ∀ q, s.heap.size ≤ q → A q := fun q h => by rw [← hAe]; exact Or.inr h
  have hW : wO D cy X A s.heap S0 s.heap [] := ⟨hP, hD, va_S.rf, hA, hRO⟩
  have hl := lv_entry ([.ref a0]) (n := 3) (Nat.le_of_ble_eq_true rfl)
  rw [lg_entry_eq]
  generalize (lg_sl ([.ref a0]) ++ List.replicate (3 - (lg_sl ([.ref a0])).length) Slot.unset).toArray = ls at hl ⊢
  have hl : lv_has ls 3 [(0, .ref a0)] := hl
  unfold wp_X1_number at hp
  exact t_X1_number_0 F hr hlocks hK hp hW wX.rf (lv_sub hl [0] rfl) hL_a0 hK_a0
def wp_X8_numberOfMoves_82 (D : wD) (post : Int32 → wS → Prop) (k_16 : wS → Nat → Nat → Int32 → Int32 → Prop) (S : wS) (a0 : Nat) (a1 : Nat) (x2 : Int32) (x3 : Int32) : Prop :=
∀ x_1 : Int32, x_1 = x3 + 1 →
k_16 S a0 a1 x2 x_1
def wp_X8_numberOfMoves_16 (D : wD) (post : Int32 → wS → Prop)  : Nat → wS → Nat → Nat → Int32 → Int32 → Prop
  | 0, _, _, _, _, _ => False
  | n + 1, S, a0, a1, x2, x3 =>
    ∃ y_1 : Nat, sR S a0 0 = some y_1 ∧ wM D S y_1 ∧ sK S y_1 = 5 ∧
    (((sI S y_1 2) ≤ x3 → post x2 S) ∧
     (¬ (sI S y_1 2) ≤ x3 → wp_X11_contains D (fun r_3 S_4 => 
    ((r_3 = 0 → wp_X8_numberOfMoves_82 D post (wp_X8_numberOfMoves_16 D post n) S_4 a0 a1 x2 x3) ∧
     (¬ r_3 = 0 → wp_X8_targets D (fun r_6 S_7 => 
    wp_J13_bitCount_95d88 D (fun r_8 S_9 => 
    ∀ x_10 : Int32, x_10 = (x2 + r_8) →
    wp_X7_kindOn D (fun r_11 S_12 => 
    ((¬ r_11 = (6 : Int32) → wp_X8_numberOfMoves_82 D post (wp_X8_numberOfMoves_16 D post n) S_12 a0 a1 x_10 x3) ∧
     (r_11 = (6 : Int32) → ∃ y_14 : Nat, sR S_12 a0 0 = some y_14 ∧ wM D S_12 y_14 ∧ sK S_12 y_14 = 5 ∧
    wp_J13_bitCount_95d88 D (fun r_15 S_16 => 
    ∀ x_17 : Int32, x_17 = (x_10 + ((3 : Int32) * r_15)) →
    wp_X8_numberOfMoves_82 D post (wp_X8_numberOfMoves_16 D post n) S_16 a0 a1 x_17 x3) S_12 (r_6 &&& (sJ S_12 y_14 3))))) S_9 a1 x3) S_7 r_6) S_4 a0 a1 x3))) S (sJ S a0 3) x3))
def wp_X8_numberOfMoves_0 (D : wD) (post : Int32 → wS → Prop)  (S : wS) (a0 : Nat) (a1 : Nat) : Prop :=
wp_X8_look D (fun S_2 => 
wp_X8_castlings D (fun r_3 S_4 => 
wp_J13_bitCount_95d88 D (fun r_5 S_6 => 
∃ n_7 : Nat, wp_X8_numberOfMoves_16 D post n_7 S_6 a0 a1 r_5 (0 : Int32)) S_4 r_3) S_2 a0 a1) S a0 a1
abbrev r_X8_numberOfMoves : Room := { frames := 3, cells := 0, slots := 0, locals := 98 }
def wp_X8_numberOfMoves (D : wD) (post : Int32 → wS → Prop) (S : wS) (a0 : Nat) (a1 : Nat) : Prop := wp_X8_numberOfMoves_0 D post S a0 a1
set_option maxHeartbeats 4000000 in
set_option maxRecDepth 100000 in
theorem t_X8_numberOfMoves_82 {p : Program} {l : Launch} {e : Env} {s : State} {m : MethodId} {args : Array Value} {below : List Frame} {meth : Method} {c : Code} {D : wD} {cy : Nat → ClassId} {X : va_W} {A : Nat → Prop} {S0 : wS} {post : Int32 → wS → Prop} (F : CallFix p m c cX8_numberOfMoves 6 s args wz_X8_numberOfMoves RX8) (hr : meth.sig.returnType = (some .int)) (hlocks : meth.locks = false) (hK : wK D cy A s) {k_16 : wS → Nat → Nat → Int32 → Int32 → Prop} (q_16 : ∀ {S : wS} {H : Heap} {locs : List Loc} {ls : Array Slot} {a0 : Nat} {a1 : Nat} {x2 : Int32} {x3 : Int32}, k_16 S a0 a1 x2 x3 → wO D cy X A s.heap S H locs → wX D S0 S → lv_has ls 6 [(0, .ref a0), (1, .ref a1), (2, .int x2), (3, .int x3)] → wM D S a0 → sK S a0 = 13 → wM D S a1 → sK S a1 = 12 → W p l e r_X8_numberOfMoves s m args below meth c H locs 0 0 (MQ below (va_Qi (fun r S9 => wX D S0 S9 ∧ post r S9) (wB D cy X A) A) args s 0 0 A) (F0 m 16 ls [])) : ∀ {S : wS} {H : Heap} {locs : List Loc} {ls : Array Slot} {a0 : Nat} {a1 : Nat} {x2 : Int32} {x3 : Int32}, wp_X8_numberOfMoves_82 D post k_16 S a0 a1 x2 x3 → wO D cy X A s.heap S H locs → wX D S0 S → lv_has ls 6 [(0, .ref a0), (1, .ref a1), (2, .int x2), (3, .int x3)] → wM D S a0 → sK S a0 = 13 → wM D S a1 → sK S a1 = 12 → W p l e r_X8_numberOfMoves s m args below meth c H locs 0 0 (MQ below (va_Qi (fun r S9 => wX D S0 S9 ∧ post r S9) (wB D cy X A) A) args s 0 0 A) (F0 m 82 ls []) := by
  obtain ⟨hx, hb, hml, hown, hts⟩ := id F
  have hwg : ∀ w ∈ WG, w.before args s = true := fun w h => hts w (List.mem_cons_of_mem _ h)
  intro S H locs ls a0 a1 x2 x3 hp hW hE hl hL_a0 hK_a0 hL_a1 hK_a1
  unfold wp_X8_numberOfMoves_82 at hp
  obtain ⟨x_1, ex_1⟩ : ∃ z : Int32, z = x3 + 1 := ⟨_, rfl⟩
  replace hp := hp x_1 ex_1
  refine lv_iinc (v := x_1) (lv' := [(3, .int x_1), (0, .ref a0), (1, .ref a1), (2, .int x2)]) hx hb dX8_numberOfMoves_82 hl (k := 3) rfl (by rw [ex_1]; rfl) (by decide) rfl (fun ls hl => ?_)
  refine lv_goto (tgt := 16) hx hb dX8_numberOfMoves_85 (by decide) ?_
  exact q_16 hp hW hE (lv_sub hl [1, 2, 3, 0] rfl) hL_a0 hK_a0 hL_a1 hK_a1
set_option maxHeartbeats 4000000 in
set_option maxRecDepth 100000 in
theorem t_X8_numberOfMoves_16 {p : Program} {l : Launch} {e : Env} {s : State} {m : MethodId} {args : Array Value} {below : List Frame} {meth : Method} {c : Code} {D : wD} {cy : Nat → ClassId} {X : va_W} {A : Nat → Prop} {S0 : wS} {post : Int32 → wS → Prop} (F : CallFix p m c cX8_numberOfMoves 6 s args wz_X8_numberOfMoves RX8) (hr : meth.sig.returnType = (some .int)) (hlocks : meth.locks = false) (hK : wK D cy A s) : ∀ (n : Nat) {S : wS} {H : Heap} {locs : List Loc} {ls : Array Slot} {a0 : Nat} {a1 : Nat} {x2 : Int32} {x3 : Int32}, wp_X8_numberOfMoves_16 D post n S a0 a1 x2 x3 → wO D cy X A s.heap S H locs → wX D S0 S → lv_has ls 6 [(0, .ref a0), (1, .ref a1), (2, .int x2), (3, .int x3)] → wM D S a0 → sK S a0 = 13 → wM D S a1 → sK S a1 = 12 → W p l e r_X8_numberOfMoves s m args below meth c H locs 0 0 (MQ below (va_Qi (fun r S9 => wX D S0 S9 ∧ post r S9) (wB D cy X A) A) args s 0 0 A) (F0 m 16 ls []) := by
  obtain ⟨hx, hb, hml, hown, hts⟩ := id F
  have hwg : ∀ w ∈ WG, w.before args s = true := fun w h => hts w (List.mem_cons_of_mem _ h)
  have i_13 : ∀ w ∈ u_ws RX8 TX8 6, w ∈ wz_X8_numberOfMoves := fun w h => List.mem_cons_of_mem _ (wu_13 w h)
  have i_5 : ∀ w ∈ u_ws RX0 TX0 12, w ∈ wz_X8_numberOfMoves := fun w h => List.mem_cons_of_mem _ (wu_5 w h)
  have k_19 := hwg _ wf_RX8_19
  have k_29 := hwg _ wf_RX8_29
  intro n
  induction n with
  | zero =>
    intro S H locs ls a0 a1 x2 x3 hp
    exact hp.elim
  | succ n ih =>
    intro S H locs ls a0 a1 x2 x3 hp hW hE hl hL_a0 hK_a0 hL_a1 hK_a1
    unfold wp_X8_numberOfMoves_16 at hp
    refine lv_iload_n hx hb dX8_numberOfMoves_16 rfl (lv_at hl 3 rfl) ?_
    refine lv_aload_n hx hb dX8_numberOfMoves_17 rfl (lv_at hl 0 rfl) ?_
    obtain ⟨y_1, ey_1, hL_y_1, hK_y_1, hp⟩ := hp
    refine w_get (k := 13) (f := 0) (T := TX8) (v := .ref y_1) F hK hW hL_a0 hK_a0 (by decide) rfl rfl (by decide) i_13 k_29 (by rw [show wv 13 0 S a0 = va_rf (sR S a0 0) from rfl, ey_1]; rfl) dX8_numberOfMoves_18 ?_
    refine w_getN (k := 5) (f := 2) (T := TX0) (v := .int (sI S y_1 2)) F hK hW hL_y_1 hK_y_1 (by decide) rfl rfl (by decide) i_5 (hK.2.1 (.fieldLinkNest "OpeningsCabinet$Rules" 65 "OpeningsCabinet$Board" "size" "I" "OpeningsCabinet") (by decide +kernel)) rfl dX8_numberOfMoves_21 ?_
    refine lv_icmp_ge (tgt := 88) hx hb dX8_numberOfMoves_24 (by decide) (fun c_2 => ?_) (fun c_2 => ?_)
    · replace hp := hp.1 c_2
      refine lv_iload_n hx hb dX8_numberOfMoves_88 rfl (lv_at hl 2 rfl) ?_
      exact w_iret hx hb hr hlocks hW ⟨hE, hp⟩ dX8_numberOfMoves_89
    · replace hp := hp.2 c_2
      refine lv_aload_n hx hb dX8_numberOfMoves_27 rfl (lv_at hl 0 rfl) ?_
      refine w_get (k := 13) (f := 3) (T := TX8) (v := .long (sJ S a0 3)) F hK hW hL_a0 hK_a0 (by decide) rfl rfl (by decide) i_13 k_19 rfl dX8_numberOfMoves_28 ?_
      refine lv_iload_n hx hb dX8_numberOfMoves_31 rfl (lv_at hl 3 rfl) ?_
      refine w_callI (va_runSN (As := [.long (sJ S a0 3), .int x3]) (rest := []) F (c_X11_contains l hp H.size) ⟨va_cnB (host := "OpeningsCabinet") 2 hts (wg_cons wy_X11_contains.2.2) rfl rfl rfl (hK.2.1 (.methodLinkNest "OpeningsCabinet$Rules" 68 ⟨"OpeningsCabinet", "contains", "(JI)Z"⟩ "OpeningsCabinet") (by decide +kernel)) (hwg _ wy_X11_contains.2.1) ⟨by decide, by decide, by decide +kernel⟩ ⟨Nat.le_of_ble_eq_true rfl, Nat.le_of_ble_eq_true rfl⟩, hwg _ wy_X11_contains.1, trivial⟩ (w_preS hK hW) rfl rfl hl.1 rfl (lv_room (Nat.le_of_ble_eq_true rfl)) dX8_numberOfMoves_32 ⟨Nat.le_of_ble_eq_true rfl, Nat.le_of_ble_eq_true rfl⟩) hW (fun r_3 S_4 H locs hp hW => ?_)
      obtain ⟨hX_S_4, hp⟩ := hp
      refine W.widen (k := 0) (n := 0) (by decide) (by decide) ?_
      have hE := hE.trans hX_S_4
      have hK_a0 : sK S_4 a0 = 13 := (hX_S_4.2 a0 hL_a0).1.trans hK_a0
      have hL_a0 : wM D S_4 a0 := hX_S_4.M hL_a0
      have hK_a1 : sK S_4 a1 = 12 := (hX_S_4.2 a1 hL_a1).1.trans hK_a1
      have hL_a1 : wM D S_4 a1 := hX_S_4.M hL_a1
      refine lv_if_eq (tgt := 82) hx hb dX8_numberOfMoves_35 (by decide) (fun c_5 => ?_) (fun c_5 => ?_)
      · replace hp := hp.1 c_5
        exact t_X8_numberOfMoves_82 F hr hlocks hK ih hp hW hE (lv_sub hl [0, 1, 2, 3] rfl) hL_a0 hK_a0 hL_a1 hK_a1
      · replace hp := hp.2 c_5
        refine lv_aload_n hx hb dX8_numberOfMoves_38 rfl (lv_at hl 0 rfl) ?_
        refine lv_aload_n hx hb dX8_numberOfMoves_39 rfl (lv_at hl 1 rfl) ?_
        refine lv_iload_n hx hb dX8_numberOfMoves_40 rfl (lv_at hl 3 rfl) ?_
        refine w_callJ (va_runV (As := [.ref a1, .int x3]) (rest := []) F (c_X8_targets l hL_a0 hK_a0 hL_a1 hK_a1 hp H.size) (cwV (C := RX8) 2 hts (wg_V wm_RX8_72 wy_X8_targets) rfl rfl rfl (by decide +kernel) ⟨Nat.le_of_ble_eq_true rfl, Nat.le_of_ble_eq_true rfl⟩) (w_preV hK hW hL_a0 hK_a0 (by decide) rfl) rfl rfl hl.1 rfl (lv_room (Nat.le_of_ble_eq_true rfl)) dX8_numberOfMoves_41 ⟨Nat.le_of_ble_eq_true rfl, Nat.le_of_ble_eq_true rfl⟩) hW (fun r_6 S_7 H locs hp hW => ?_)
        obtain ⟨hX_S_7, hp⟩ := hp
        refine W.widen (k := 0) (n := 0) (by decide) (by decide) ?_
        have hE := hE.trans hX_S_7
        have hK_a0 : sK S_7 a0 = 13 := (hX_S_7.2 a0 hL_a0).1.trans hK_a0
        have hL_a0 : wM D S_7 a0 := hX_S_7.M hL_a0
        have hK_a1 : sK S_7 a1 = 12 := (hX_S_7.2 a1 hL_a1).1.trans hK_a1
        have hL_a1 : wM D S_7 a1 := hX_S_7.M hL_a1
        refine lv_lstore (lv' := [(4, .long r_6), (0, .ref a0), (1, .ref a1), (2, .int x2), (3, .int x3)]) hx hb dX8_numberOfMoves_44 hl (by decide) rfl (fun ls hl => ?_)
        refine lv_iload_n hx hb dX8_numberOfMoves_46 rfl (lv_at hl 3 rfl) ?_
        refine lv_lload hx hb dX8_numberOfMoves_47 (lv_at hl 0 rfl) ?_
        refine w_callI (va_runS (As := [.long r_6]) (rest := [.int x2]) F (c_J13_bitCount_95d88 l hp H.size) (va_cwS 1 hts (wg_S wm_RX8_80 wy_J13_bitCount_95d88) rfl rfl rfl (by decide +kernel) ⟨Nat.le_of_ble_eq_true rfl, Nat.le_of_ble_eq_true rfl⟩) (w_preS hK hW) rfl rfl hl.1 rfl (lv_room (Nat.le_of_ble_eq_true rfl)) dX8_numberOfMoves_49 ⟨Nat.le_of_ble_eq_true rfl, Nat.le_of_ble_eq_true rfl⟩) hW (fun r_8 S_9 H locs hp hW => ?_)
        obtain ⟨hX_S_9, hp⟩ := hp
        refine W.widen (k := 0) (n := 0) (by decide) (by decide) ?_
        have hE := hE.trans hX_S_9
        have hK_a0 : sK S_9 a0 = 13 := (hX_S_9.2 a0 hL_a0).1.trans hK_a0
        have hL_a0 : wM D S_9 a0 := hX_S_9.M hL_a0
        have hK_a1 : sK S_9 a1 = 12 := (hX_S_9.2 a1 hL_a1).1.trans hK_a1
        have hL_a1 : wM D S_9 a1 := hX_S_9.M hL_a1
        refine lv_iadd hx hb dX8_numberOfMoves_52 ?_
        refine lv_topi (fun x_10 ex_10 => ?_)
        replace hp := hp x_10 ex_10
        refine lv_istore_n (lv' := [(2, .int x_10), (4, .long r_6), (0, .ref a0), (1, .ref a1), (3, .int x3)]) hx hb dX8_numberOfMoves_53 rfl hl (by decide) rfl (fun ls hl => ?_)
        refine lv_aload_n hx hb dX8_numberOfMoves_54 rfl (lv_at hl 3 rfl) ?_
        refine lv_iload_n hx hb dX8_numberOfMoves_55 rfl (lv_at hl 4 rfl) ?_
        refine w_callI (va_runV (As := [.int x3]) (rest := []) F (c_X7_kindOn l hL_a1 hK_a1 hp H.size) (cwV (C := RX7) 1 hts (wg_V wm_RX8_86 wy_X7_kindOn) rfl rfl rfl (by decide +kernel) ⟨Nat.le_of_ble_eq_true rfl, Nat.le_of_ble_eq_true rfl⟩) (w_preV hK hW hL_a1 hK_a1 (by decide) rfl) rfl rfl hl.1 rfl (lv_room (Nat.le_of_ble_eq_true rfl)) dX8_numberOfMoves_56 ⟨Nat.le_of_ble_eq_true rfl, Nat.le_of_ble_eq_true rfl⟩) hW (fun r_11 S_12 H locs hp hW => ?_)
        obtain ⟨hX_S_12, hp⟩ := hp
        refine W.widen (k := 0) (n := 0) (by decide) (by decide) ?_
        have hE := hE.trans hX_S_12
        have hK_a0 : sK S_12 a0 = 13 := (hX_S_12.2 a0 hL_a0).1.trans hK_a0
        have hL_a0 : wM D S_12 a0 := hX_S_12.M hL_a0
        have hK_a1 : sK S_12 a1 = 12 := (hX_S_12.2 a1 hL_a1).1.trans hK_a1
        have hL_a1 : wM D S_12 a1 := hX_S_12.M hL_a1
        refine lv_bipush (v := 6) hx hb dX8_numberOfMoves_59 (by decide) ?_
        refine lv_icmp_ne (tgt := 82) hx hb dX8_numberOfMoves_61 (by decide) (fun c_13 => ?_) (fun c_13 => ?_)
        · replace hp := hp.1 c_13
          exact t_X8_numberOfMoves_82 F hr hlocks hK ih hp hW hE (lv_sub hl [2, 3, 0, 4] rfl) hL_a0 hK_a0 hL_a1 hK_a1
        · replace hp := hp.2 c_13
          refine lv_iload_n hx hb dX8_numberOfMoves_64 rfl (lv_at hl 0 rfl) ?_
          refine lv_iconst (v := 3) hx hb dX8_numberOfMoves_65 (by decide) ?_
          refine lv_lload hx hb dX8_numberOfMoves_66 (lv_at hl 1 rfl) ?_
          refine lv_aload_n hx hb dX8_numberOfMoves_68 rfl (lv_at hl 2 rfl) ?_
          obtain ⟨y_14, ey_14, hL_y_14, hK_y_14, hp⟩ := hp
          refine w_get (k := 13) (f := 0) (T := TX8) (v := .ref y_14) F hK hW hL_a0 hK_a0 (by decide) rfl rfl (by decide) i_13 k_29 (by rw [show wv 13 0 S_12 a0 = va_rf (sR S_12 a0 0) from rfl, ey_14]; rfl) dX8_numberOfMoves_69 ?_
          refine w_getN (k := 5) (f := 3) (T := TX0) (v := .long (sJ S_12 y_14 3)) F hK hW hL_y_14 hK_y_14 (by decide) rfl rfl (by decide) i_5 (hK.2.1 (.fieldLinkNest "OpeningsCabinet$Rules" 90 "OpeningsCabinet$Board" "edges" "J" "OpeningsCabinet") (by decide +kernel)) rfl dX8_numberOfMoves_72 ?_
          refine lv_land hx hb dX8_numberOfMoves_75 ?_
          refine w_callI (va_runS (As := [.long (r_6 &&& (sJ S_12 y_14 3))]) (rest := [.int (3 : Int32), .int x_10]) F (c_J13_bitCount_95d88 l hp H.size) (va_cwS 1 hts (wg_S wm_RX8_80 wy_J13_bitCount_95d88) rfl rfl rfl (by decide +kernel) ⟨Nat.le_of_ble_eq_true rfl, Nat.le_of_ble_eq_true rfl⟩) (w_preS hK hW) rfl rfl hl.1 rfl (lv_room (Nat.le_of_ble_eq_true rfl)) dX8_numberOfMoves_76 ⟨Nat.le_of_ble_eq_true rfl, Nat.le_of_ble_eq_true rfl⟩) hW (fun r_15 S_16 H locs hp hW => ?_)
          obtain ⟨hX_S_16, hp⟩ := hp
          refine W.widen (k := 0) (n := 0) (by decide) (by decide) ?_
          have hE := hE.trans hX_S_16
          have hK_a0 : sK S_16 a0 = 13 := (hX_S_16.2 a0 hL_a0).1.trans hK_a0
          have hL_a0 : wM D S_16 a0 := hX_S_16.M hL_a0
          have hK_a1 : sK S_16 a1 = 12 := (hX_S_16.2 a1 hL_a1).1.trans hK_a1
          have hL_a1 : wM D S_16 a1 := hX_S_16.M hL_a1
          refine lv_imul hx hb dX8_numberOfMoves_79 ?_
          refine lv_iadd hx hb dX8_numberOfMoves_80 ?_
          refine lv_topi (fun x_17 ex_17 => ?_)
          replace hp := hp x_17 ex_17
          refine lv_istore_n (lv' := [(2, .int x_17), (4, .long r_6), (0, .ref a0), (1, .ref a1), (3, .int x3)]) hx hb dX8_numberOfMoves_81 rfl hl (by decide) rfl (fun ls hl => ?_)
          exact t_X8_numberOfMoves_82 F hr hlocks hK ih hp hW hE (lv_sub hl [2, 3, 0, 4] rfl) hL_a0 hK_a0 hL_a1 hK_a1
set_option maxHeartbeats 4000000 in
set_option maxRecDepth 100000 in
theorem t_X8_numberOfMoves_0 {p : Program} {l : Launch} {e : Env} {s : State} {m : MethodId} {args : Array Value} {below : List Frame} {meth : Method} {c : Code} {D : wD} {cy : Nat → ClassId} {X : va_W} {A : Nat → Prop} {S0 : wS} {post : Int32 → wS → Prop} (F : CallFix p m c cX8_numberOfMoves 6 s args wz_X8_numberOfMoves RX8) (hr : meth.sig.returnType = (some .int)) (hlocks : meth.locks = false) (hK : wK D cy A s) : ∀ {S : wS} {H : Heap} {locs : List Loc} {ls : Array Slot} {a0 : Nat} {a1 : Nat}, wp_X8_numberOfMoves_0 D post S a0 a1 → wO D cy X A s.heap S H locs → wX D S0 S → lv_has ls 6 [(0, .ref a0), (1, .ref a1)] → wM D S a0 → sK S a0 = 13 → wM D S a1 → sK S a1 = 12 → W p l e r_X8_numberOfMoves s m args below meth c H locs 0 0 (MQ below (va_Qi (fun r S9 => wX D S0 S9 ∧ post r S9) (wB D cy X A) A) args s 0 0 A) (F0 m 0 ls []) := by
  obtain ⟨hx, hb, hml, hown, hts⟩ := id F
  have hwg : ∀ w ∈ WG, w.before args s = true := fun w h => hts w (List.mem_cons_of_mem _ h)
  intro S H locs ls a0 a1 hp hW hE hl hL_a0 hK_a0 hL_a1 hK_a1
  unfold wp_X8_numberOfMoves_0 at hp
  refine lv_aload_n hx hb dX8_numberOfMoves_0 rfl (lv_at hl 0 rfl) ?_
  refine lv_aload_n hx hb dX8_numberOfMoves_1 rfl (lv_at hl 1 rfl) ?_
  refine w_callV (va_runV (As := [.ref a1]) (rest := []) F (c_X8_look l hL_a0 hK_a0 hL_a1 hK_a1 hp H.size) (cwV (C := RX8) 1 hts (wg_V wm_RX8_61 wy_X8_look) rfl rfl rfl (by decide +kernel) ⟨Nat.le_of_ble_eq_true rfl, Nat.le_of_ble_eq_true rfl⟩) (w_preV hK hW hL_a0 hK_a0 (by decide) rfl) rfl rfl hl.1 rfl (lv_room (Nat.le_of_ble_eq_true rfl)) dX8_numberOfMoves_2 ⟨Nat.le_of_ble_eq_true rfl, Nat.le_of_ble_eq_true rfl⟩) hW (fun S_2 H locs hp hW => ?_)
  obtain ⟨hX_S_2, hp⟩ := hp
  refine W.widen (k := 0) (n := 0) (by decide) (by decide) ?_
  have hE := hE.trans hX_S_2
  have hK_a0 : sK S_2 a0 = 13 := (hX_S_2.2 a0 hL_a0).1.trans hK_a0
  have hL_a0 : wM D S_2 a0 := hX_S_2.M hL_a0
  have hK_a1 : sK S_2 a1 = 12 := (hX_S_2.2 a1 hL_a1).1.trans hK_a1
  have hL_a1 : wM D S_2 a1 := hX_S_2.M hL_a1
  refine lv_aload_n hx hb dX8_numberOfMoves_5 rfl (lv_at hl 0 rfl) ?_
  refine lv_aload_n hx hb dX8_numberOfMoves_6 rfl (lv_at hl 1 rfl) ?_
  refine w_callJ (va_runV (As := [.ref a1]) (rest := []) F (c_X8_castlings l hL_a0 hK_a0 hL_a1 hK_a1 hp H.size) (cwV (C := RX8) 1 hts (wg_V wm_RX8_76 wy_X8_castlings) rfl rfl rfl (by decide +kernel) ⟨Nat.le_of_ble_eq_true rfl, Nat.le_of_ble_eq_true rfl⟩) (w_preV hK hW hL_a0 hK_a0 (by decide) rfl) rfl rfl hl.1 rfl (lv_room (Nat.le_of_ble_eq_true rfl)) dX8_numberOfMoves_7 ⟨Nat.le_of_ble_eq_true rfl, Nat.le_of_ble_eq_true rfl⟩) hW (fun r_3 S_4 H locs hp hW => ?_)
  obtain ⟨hX_S_4, hp⟩ := hp
  refine W.widen (k := 0) (n := 0) (by decide) (by decide) ?_
  have hE := hE.trans hX_S_4
  have hK_a0 : sK S_4 a0 = 13 := (hX_S_4.2 a0 hL_a0).1.trans hK_a0
  have hL_a0 : wM D S_4 a0 := hX_S_4.M hL_a0
  have hK_a1 : sK S_4 a1 = 12 := (hX_S_4.2 a1 hL_a1).1.trans hK_a1
  have hL_a1 : wM D S_4 a1 := hX_S_4.M hL_a1
  refine w_callI (va_runS (As := [.long r_3]) (rest := []) F (c_J13_bitCount_95d88 l hp H.size) (va_cwS 1 hts (wg_S wm_RX8_80 wy_J13_bitCount_95d88) rfl rfl rfl (by decide +kernel) ⟨Nat.le_of_ble_eq_true rfl, Nat.le_of_ble_eq_true rfl⟩) (w_preS hK hW) rfl rfl hl.1 rfl (lv_room (Nat.le_of_ble_eq_true rfl)) dX8_numberOfMoves_10 ⟨Nat.le_of_ble_eq_true rfl, Nat.le_of_ble_eq_true rfl⟩) hW (fun r_5 S_6 H locs hp hW => ?_)
  obtain ⟨hX_S_6, hp⟩ := hp
  refine W.widen (k := 0) (n := 0) (by decide) (by decide) ?_
  have hE := hE.trans hX_S_6
  have hK_a0 : sK S_6 a0 = 13 := (hX_S_6.2 a0 hL_a0).1.trans hK_a0
  have hL_a0 : wM D S_6 a0 := hX_S_6.M hL_a0
  have hK_a1 : sK S_6 a1 = 12 := (hX_S_6.2 a1 hL_a1).1.trans hK_a1
  have hL_a1 : wM D S_6 a1 := hX_S_6.M hL_a1
  refine lv_istore_n (lv' := [(2, .int r_5), (0, .ref a0), (1, .ref a1)]) hx hb dX8_numberOfMoves_13 rfl hl (by decide) rfl (fun ls hl => ?_)
  refine lv_iconst (v := 0) hx hb dX8_numberOfMoves_14 (by decide) ?_
  refine lv_istore_n (lv' := [(3, .int (0 : Int32)), (2, .int r_5), (0, .ref a0), (1, .ref a1)]) hx hb dX8_numberOfMoves_15 rfl hl (by decide) rfl (fun ls hl => ?_)
  obtain ⟨n_7, hp⟩ := hp
  exact t_X8_numberOfMoves_16 F hr hlocks hK n_7 hp hW hE (lv_sub hl [2, 3, 1, 0] rfl) hL_a0 hK_a0 hL_a1 hK_a1
set_option maxHeartbeats 4000000 in
set_option maxRecDepth 100000 in
theorem c_X8_numberOfMoves (l : Launch) {D : wD} {cy : Nat → ClassId} {X : va_W} {S0 : wS} {post : Int32 → wS → Prop} {a0 : Nat} {a1 : Nat} (hL_a0 : wM D S0 a0) (hK_a0 : sK S0 a0 = 13) (hL_a1 : wM D S0 a1) (hK_a1 : sK S0 a1 = 12) (hp : wp_X8_numberOfMoves D post S0 a0 a1) : mI D cy X l yX8_numberOfMoves wz_X8_numberOfMoves r_X8_numberOfMoves [.ref a0, .ref a1] S0 (fun r S9 => wX D S0 S9 ∧ post r S9) := by
  intro sz
  refine Met.ofW (cc := cX8_numberOfMoves) (maxL := 6) (ret := (some .int)) (by decide) rfl ?_
  intro p e s m args below meth c s₁ B hml hv
  obtain ⟨rfl, hsz, hP, hK, hD0, hRO⟩ := hv
  have hts := atoms_spec (ws := wz_X8_numberOfMoves) B.pre
  have hown : s.vm.findClass RX8 = some m.cls := findClass_of_methodNamed B.named
  subst hsz
  have hD := hD0.self (sz := s.heap.size)
  have F : CallFix p m c cX8_numberOfMoves 6 s _ wz_X8_numberOfMoves RX8 := ⟨B.exec, B.bytes, hml, hown, hts⟩
  have hr := B.returns
  have hlocks := B.notSynchronized
  generalize hAe : va_A (wL cy X S0) s.heap.size = A at hD hK ⊢
  have hA : ∀ q, s.heap.size ≤ q → A q := fun q h => by rw [← hAe]; exact Or.inr h
  have hW : wO D cy X A s.heap S0 s.heap [] := ⟨hP, hD, va_S.rf, hA, hRO⟩
  have hl := lv_entry ([.ref a0, .ref a1]) (n := 6) (Nat.le_of_ble_eq_true rfl)
  rw [lg_entry_eq]
  generalize (lg_sl ([.ref a0, .ref a1]) ++ List.replicate (6 - (lg_sl ([.ref a0, .ref a1])).length) Slot.unset).toArray = ls at hl ⊢
  have hl : lv_has ls 6 [(0, .ref a0), (1, .ref a1)] := hl
  unfold wp_X8_numberOfMoves at hp
  exact t_X8_numberOfMoves_0 F hr hlocks hK hp hW wX.rf (lv_sub hl [0, 1] rfl) hL_a0 hK_a0 hL_a1 hK_a1
