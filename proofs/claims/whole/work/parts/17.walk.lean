theorem dX12_readsSquares_0 : decode cX12_readsSquares 0 = .ok (.aload_n 0, 1) := by decide +kernel
theorem dX12_readsSquares_1 : decode cX12_readsSquares 1 = .ok (.iconst 0, 1) := by decide +kernel
theorem dX12_readsSquares_2 : decode cX12_readsSquares 2 = .ok (.putfield 262, 3) := by decide +kernel
theorem dX12_readsSquares_5 : decode cX12_readsSquares 5 = .ok (.aload_n 0, 1) := by decide +kernel
theorem dX12_readsSquares_6 : decode cX12_readsSquares 6 = .ok (.getfield 13, 3) := by decide +kernel
theorem dX12_readsSquares_9 : decode cX12_readsSquares 9 = .ok (.iconst 1, 1) := by decide +kernel
theorem dX12_readsSquares_10 : decode cX12_readsSquares 10 = .ok (.isub, 1) := by decide +kernel
theorem dX12_readsSquares_11 : decode cX12_readsSquares 11 = .ok (.istore_n 1, 1) := by decide +kernel
theorem dX12_readsSquares_12 : decode cX12_readsSquares 12 = .ok (.iload_n 1, 1) := by decide +kernel
theorem dX12_readsSquares_13 : decode cX12_readsSquares 13 = .ok (.ifCond .lt 180, 3) := by decide +kernel
theorem dX12_readsSquares_16 : decode cX12_readsSquares 16 = .ok (.iconst 0, 1) := by decide +kernel
theorem dX12_readsSquares_17 : decode cX12_readsSquares 17 = .ok (.istore_n 2, 1) := by decide +kernel
theorem dX12_readsSquares_18 : decode cX12_readsSquares 18 = .ok (.iload_n 2, 1) := by decide +kernel
theorem dX12_readsSquares_19 : decode cX12_readsSquares 19 = .ok (.aload_n 0, 1) := by decide +kernel
theorem dX12_readsSquares_20 : decode cX12_readsSquares 20 = .ok (.getfield 9, 3) := by decide +kernel
theorem dX12_readsSquares_23 : decode cX12_readsSquares 23 = .ok (.if_icmp .ge 130, 3) := by decide +kernel
theorem dX12_readsSquares_26 : decode cX12_readsSquares 26 = .ok (.aload_n 0, 1) := by decide +kernel
theorem dX12_readsSquares_27 : decode cX12_readsSquares 27 = .ok (.aload_n 0, 1) := by decide +kernel
theorem dX12_readsSquares_28 : decode cX12_readsSquares 28 = .ok (.getfield 262, 3) := by decide +kernel
theorem dX12_readsSquares_31 : decode cX12_readsSquares 31 = .ok (.invokevirtual 265, 3) := by decide +kernel
theorem dX12_readsSquares_34 : decode cX12_readsSquares 34 = .ok (.istore_n 3, 1) := by decide +kernel
theorem dX12_readsSquares_35 : decode cX12_readsSquares 35 = .ok (.aload_n 0, 1) := by decide +kernel
theorem dX12_readsSquares_36 : decode cX12_readsSquares 36 = .ok (.dup, 1) := by decide +kernel
theorem dX12_readsSquares_37 : decode cX12_readsSquares 37 = .ok (.getfield 262, 3) := by decide +kernel
theorem dX12_readsSquares_40 : decode cX12_readsSquares 40 = .ok (.iconst 1, 1) := by decide +kernel
theorem dX12_readsSquares_41 : decode cX12_readsSquares 41 = .ok (.iadd, 1) := by decide +kernel
theorem dX12_readsSquares_42 : decode cX12_readsSquares 42 = .ok (.putfield 262, 3) := by decide +kernel
theorem dX12_readsSquares_45 : decode cX12_readsSquares 45 = .ok (.iload_n 3, 1) := by decide +kernel
theorem dX12_readsSquares_46 : decode cX12_readsSquares 46 = .ok (.invokestatic 268, 3) := by decide +kernel
theorem dX12_readsSquares_49 : decode cX12_readsSquares 49 = .ok (.istore 4, 2) := by decide +kernel
theorem dX12_readsSquares_51 : decode cX12_readsSquares 51 = .ok (.iload 4, 2) := by decide +kernel
theorem dX12_readsSquares_53 : decode cX12_readsSquares 53 = .ok (.ifCond .ne 10, 3) := by decide +kernel
theorem dX12_readsSquares_56 : decode cX12_readsSquares 56 = .ok (.iload_n 3, 1) := by decide +kernel
theorem dX12_readsSquares_57 : decode cX12_readsSquares 57 = .ok (.bipush 48, 2) := by decide +kernel
theorem dX12_readsSquares_59 : decode cX12_readsSquares 59 = .ok (.isub, 1) := by decide +kernel
theorem dX12_readsSquares_60 : decode cX12_readsSquares 60 = .ok (.goto 4, 3) := by decide +kernel
theorem dX12_readsSquares_63 : decode cX12_readsSquares 63 = .ok (.iconst 0, 1) := by decide +kernel
theorem dX12_readsSquares_64 : decode cX12_readsSquares 64 = .ok (.istore 5, 2) := by decide +kernel
theorem dX12_readsSquares_66 : decode cX12_readsSquares 66 = .ok (.iload 4, 2) := by decide +kernel
theorem dX12_readsSquares_68 : decode cX12_readsSquares 68 = .ok (.ifCond .ne 20, 3) := by decide +kernel
theorem dX12_readsSquares_71 : decode cX12_readsSquares 71 = .ok (.iload 5, 2) := by decide +kernel
theorem dX12_readsSquares_73 : decode cX12_readsSquares 73 = .ok (.iconst 1, 1) := by decide +kernel
theorem dX12_readsSquares_74 : decode cX12_readsSquares 74 = .ok (.aload_n 0, 1) := by decide +kernel
theorem dX12_readsSquares_75 : decode cX12_readsSquares 75 = .ok (.getfield 9, 3) := by decide +kernel
theorem dX12_readsSquares_78 : decode cX12_readsSquares 78 = .ok (.iload_n 2, 1) := by decide +kernel
theorem dX12_readsSquares_79 : decode cX12_readsSquares 79 = .ok (.isub, 1) := by decide +kernel
theorem dX12_readsSquares_80 : decode cX12_readsSquares 80 = .ok (.invokestatic 117, 3) := by decide +kernel
theorem dX12_readsSquares_83 : decode cX12_readsSquares 83 = .ok (.ifCond .ne 5, 3) := by decide +kernel
theorem dX12_readsSquares_86 : decode cX12_readsSquares 86 = .ok (.iconst 0, 1) := by decide +kernel
theorem dX12_readsSquares_87 : decode cX12_readsSquares 87 = .ok (.ireturn, 1) := by decide +kernel
theorem dX12_readsSquares_88 : decode cX12_readsSquares 88 = .ok (.aload_n 0, 1) := by decide +kernel
theorem dX12_readsSquares_89 : decode cX12_readsSquares 89 = .ok (.iconst 0, 1) := by decide +kernel
theorem dX12_readsSquares_90 : decode cX12_readsSquares 90 = .ok (.aload_n 0, 1) := by decide +kernel
theorem dX12_readsSquares_91 : decode cX12_readsSquares 91 = .ok (.getfield 9, 3) := by decide +kernel
theorem dX12_readsSquares_94 : decode cX12_readsSquares 94 = .ok (.iload_n 1, 1) := by decide +kernel
theorem dX12_readsSquares_95 : decode cX12_readsSquares 95 = .ok (.imul, 1) := by decide +kernel
theorem dX12_readsSquares_96 : decode cX12_readsSquares 96 = .ok (.iload_n 2, 1) := by decide +kernel
theorem dX12_readsSquares_97 : decode cX12_readsSquares 97 = .ok (.iadd, 1) := by decide +kernel
theorem dX12_readsSquares_98 : decode cX12_readsSquares 98 = .ok (.iload 4, 2) := by decide +kernel
theorem dX12_readsSquares_100 : decode cX12_readsSquares 100 = .ok (.invokevirtual 207, 3) := by decide +kernel
theorem dX12_readsSquares_103 : decode cX12_readsSquares 103 = .ok (.iconst 1, 1) := by decide +kernel
theorem dX12_readsSquares_104 : decode cX12_readsSquares 104 = .ok (.istore 6, 2) := by decide +kernel
theorem dX12_readsSquares_106 : decode cX12_readsSquares 106 = .ok (.iload 6, 2) := by decide +kernel
theorem dX12_readsSquares_108 : decode cX12_readsSquares 108 = .ok (.iload 5, 2) := by decide +kernel
theorem dX12_readsSquares_110 : decode cX12_readsSquares 110 = .ok (.if_icmp .ge 26, 3) := by decide +kernel
theorem dX12_readsSquares_113 : decode cX12_readsSquares 113 = .ok (.aload_n 0, 1) := by decide +kernel
theorem dX12_readsSquares_114 : decode cX12_readsSquares 114 = .ok (.iconst 0, 1) := by decide +kernel
theorem dX12_readsSquares_115 : decode cX12_readsSquares 115 = .ok (.aload_n 0, 1) := by decide +kernel
theorem dX12_readsSquares_116 : decode cX12_readsSquares 116 = .ok (.getfield 9, 3) := by decide +kernel
theorem dX12_readsSquares_119 : decode cX12_readsSquares 119 = .ok (.iload_n 1, 1) := by decide +kernel
theorem dX12_readsSquares_120 : decode cX12_readsSquares 120 = .ok (.imul, 1) := by decide +kernel
theorem dX12_readsSquares_121 : decode cX12_readsSquares 121 = .ok (.iload_n 2, 1) := by decide +kernel
theorem dX12_readsSquares_122 : decode cX12_readsSquares 122 = .ok (.iadd, 1) := by decide +kernel
theorem dX12_readsSquares_123 : decode cX12_readsSquares 123 = .ok (.iload 6, 2) := by decide +kernel
theorem dX12_readsSquares_125 : decode cX12_readsSquares 125 = .ok (.iadd, 1) := by decide +kernel
theorem dX12_readsSquares_126 : decode cX12_readsSquares 126 = .ok (.iconst 0, 1) := by decide +kernel
theorem dX12_readsSquares_127 : decode cX12_readsSquares 127 = .ok (.invokevirtual 207, 3) := by decide +kernel
theorem dX12_readsSquares_130 : decode cX12_readsSquares 130 = .ok (.iinc 6 1, 3) := by decide +kernel
theorem dX12_readsSquares_133 : decode cX12_readsSquares 133 = .ok (.goto (-27), 3) := by decide +kernel
theorem dX12_readsSquares_136 : decode cX12_readsSquares 136 = .ok (.iload_n 2, 1) := by decide +kernel
theorem dX12_readsSquares_137 : decode cX12_readsSquares 137 = .ok (.iload 4, 2) := by decide +kernel
theorem dX12_readsSquares_139 : decode cX12_readsSquares 139 = .ok (.ifCond .ne 8, 3) := by decide +kernel
theorem dX12_readsSquares_142 : decode cX12_readsSquares 142 = .ok (.iload 5, 2) := by decide +kernel
theorem dX12_readsSquares_144 : decode cX12_readsSquares 144 = .ok (.goto 4, 3) := by decide +kernel
theorem dX12_readsSquares_147 : decode cX12_readsSquares 147 = .ok (.iconst 1, 1) := by decide +kernel
theorem dX12_readsSquares_148 : decode cX12_readsSquares 148 = .ok (.iadd, 1) := by decide +kernel
theorem dX12_readsSquares_149 : decode cX12_readsSquares 149 = .ok (.istore_n 2, 1) := by decide +kernel
theorem dX12_readsSquares_150 : decode cX12_readsSquares 150 = .ok (.goto (-132), 3) := by decide +kernel
theorem dX12_readsSquares_153 : decode cX12_readsSquares 153 = .ok (.aload_n 0, 1) := by decide +kernel
theorem dX12_readsSquares_154 : decode cX12_readsSquares 154 = .ok (.aload_n 0, 1) := by decide +kernel
theorem dX12_readsSquares_155 : decode cX12_readsSquares 155 = .ok (.getfield 262, 3) := by decide +kernel
theorem dX12_readsSquares_158 : decode cX12_readsSquares 158 = .ok (.invokevirtual 265, 3) := by decide +kernel
theorem dX12_readsSquares_161 : decode cX12_readsSquares 161 = .ok (.iload_n 1, 1) := by decide +kernel
theorem dX12_readsSquares_162 : decode cX12_readsSquares 162 = .ok (.ifCond .le 8, 3) := by decide +kernel
theorem dX12_readsSquares_165 : decode cX12_readsSquares 165 = .ok (.bipush 47, 2) := by decide +kernel
theorem dX12_readsSquares_167 : decode cX12_readsSquares 167 = .ok (.goto 5, 3) := by decide +kernel
theorem dX12_readsSquares_170 : decode cX12_readsSquares 170 = .ok (.bipush 32, 2) := by decide +kernel
theorem dX12_readsSquares_172 : decode cX12_readsSquares 172 = .ok (.if_icmp .eq 5, 3) := by decide +kernel
theorem dX12_readsSquares_175 : decode cX12_readsSquares 175 = .ok (.iconst 0, 1) := by decide +kernel
theorem dX12_readsSquares_176 : decode cX12_readsSquares 176 = .ok (.ireturn, 1) := by decide +kernel
theorem dX12_readsSquares_177 : decode cX12_readsSquares 177 = .ok (.aload_n 0, 1) := by decide +kernel
theorem dX12_readsSquares_178 : decode cX12_readsSquares 178 = .ok (.dup, 1) := by decide +kernel
theorem dX12_readsSquares_179 : decode cX12_readsSquares 179 = .ok (.getfield 262, 3) := by decide +kernel
theorem dX12_readsSquares_182 : decode cX12_readsSquares 182 = .ok (.iconst 1, 1) := by decide +kernel
theorem dX12_readsSquares_183 : decode cX12_readsSquares 183 = .ok (.iadd, 1) := by decide +kernel
theorem dX12_readsSquares_184 : decode cX12_readsSquares 184 = .ok (.putfield 262, 3) := by decide +kernel
theorem dX12_readsSquares_187 : decode cX12_readsSquares 187 = .ok (.iinc 1 (-1), 3) := by decide +kernel
theorem dX12_readsSquares_190 : decode cX12_readsSquares 190 = .ok (.goto (-178), 3) := by decide +kernel
theorem dX12_readsSquares_193 : decode cX12_readsSquares 193 = .ok (.iconst 1, 1) := by decide +kernel
theorem dX12_readsSquares_194 : decode cX12_readsSquares 194 = .ok (.ireturn, 1) := by decide +kernel
theorem dX12_readPaper_0 : decode cX12_readPaper 0 = .ok (.aload_n 0, 1) := by decide +kernel
theorem dX12_readPaper_1 : decode cX12_readPaper 1 = .ok (.getfield 244, 3) := by decide +kernel
theorem dX12_readPaper_4 : decode cX12_readPaper 4 = .ok (.istore_n 1, 1) := by decide +kernel
theorem dX12_readPaper_5 : decode cX12_readPaper 5 = .ok (.sipush 128, 3) := by decide +kernel
theorem dX12_readPaper_8 : decode cX12_readPaper 8 = .ok (.aload_n 0, 1) := by decide +kernel
theorem dX12_readPaper_9 : decode cX12_readPaper 9 = .ok (.getfield 45, 3) := by decide +kernel
theorem dX12_readPaper_12 : decode cX12_readPaper 12 = .ok (.iconst 0, 1) := by decide +kernel
theorem dX12_readPaper_13 : decode cX12_readPaper 13 = .ok (.aload_n 0, 1) := by decide +kernel
theorem dX12_readPaper_14 : decode cX12_readPaper 14 = .ok (.getfield 66, 3) := by decide +kernel
theorem dX12_readPaper_17 : decode cX12_readPaper 17 = .ok (.iconst 0, 1) := by decide +kernel
theorem dX12_readPaper_18 : decode cX12_readPaper 18 = .ok (.invokestatic 130, 3) := by decide +kernel
theorem dX12_readPaper_21 : decode cX12_readPaper 21 = .ok (.iconst 0, 1) := by decide +kernel
theorem dX12_readPaper_22 : decode cX12_readPaper 22 = .ok (.istore_n 2, 1) := by decide +kernel
theorem dX12_readPaper_23 : decode cX12_readPaper 23 = .ok (.iload_n 2, 1) := by decide +kernel
theorem dX12_readPaper_24 : decode cX12_readPaper 24 = .ok (.bipush 67, 2) := by decide +kernel
theorem dX12_readPaper_26 : decode cX12_readPaper 26 = .ok (.if_icmp .ge 16, 3) := by decide +kernel
theorem dX12_readPaper_29 : decode cX12_readPaper 29 = .ok (.aload_n 0, 1) := by decide +kernel
theorem dX12_readPaper_30 : decode cX12_readPaper 30 = .ok (.getfield 16, 3) := by decide +kernel
theorem dX12_readPaper_33 : decode cX12_readPaper 33 = .ok (.iload_n 2, 1) := by decide +kernel
theorem dX12_readPaper_34 : decode cX12_readPaper 34 = .ok (.iconst 0, 1) := by decide +kernel
theorem dX12_readPaper_35 : decode cX12_readPaper 35 = .ok (.iastore, 1) := by decide +kernel
theorem dX12_readPaper_36 : decode cX12_readPaper 36 = .ok (.iinc 2 1, 3) := by decide +kernel
theorem dX12_readPaper_39 : decode cX12_readPaper 39 = .ok (.goto (-16), 3) := by decide +kernel
theorem dX12_readPaper_42 : decode cX12_readPaper 42 = .ok (.aload_n 0, 1) := by decide +kernel
theorem dX12_readPaper_43 : decode cX12_readPaper 43 = .ok (.invokevirtual 271, 3) := by decide +kernel
theorem dX12_readPaper_46 : decode cX12_readPaper 46 = .ok (.istore_n 2, 1) := by decide +kernel
theorem dX12_readPaper_47 : decode cX12_readPaper 47 = .ok (.iload_n 2, 1) := by decide +kernel
theorem dX12_readPaper_48 : decode cX12_readPaper 48 = .ok (.ifCond .eq 36, 3) := by decide +kernel
theorem dX12_readPaper_51 : decode cX12_readPaper 51 = .ok (.aload_n 0, 1) := by decide +kernel
theorem dX12_readPaper_52 : decode cX12_readPaper 52 = .ok (.invokevirtual 275, 3) := by decide +kernel
theorem dX12_readPaper_55 : decode cX12_readPaper 55 = .ok (.aload_n 0, 1) := by decide +kernel
theorem dX12_readPaper_56 : decode cX12_readPaper 56 = .ok (.invokevirtual 278, 3) := by decide +kernel
theorem dX12_readPaper_59 : decode cX12_readPaper 59 = .ok (.ifCond .eq 23, 3) := by decide +kernel
theorem dX12_readPaper_62 : decode cX12_readPaper 62 = .ok (.aload_n 0, 1) := by decide +kernel
theorem dX12_readPaper_63 : decode cX12_readPaper 63 = .ok (.iconst 0, 1) := by decide +kernel
theorem dX12_readPaper_64 : decode cX12_readPaper 64 = .ok (.invokevirtual 189, 3) := by decide +kernel
theorem dX12_readPaper_67 : decode cX12_readPaper 67 = .ok (.ifCond .eq 15, 3) := by decide +kernel
theorem dX12_readPaper_70 : decode cX12_readPaper 70 = .ok (.aload_n 0, 1) := by decide +kernel
theorem dX12_readPaper_71 : decode cX12_readPaper 71 = .ok (.iconst 0, 1) := by decide +kernel
theorem dX12_readPaper_72 : decode cX12_readPaper 72 = .ok (.invokevirtual 281, 3) := by decide +kernel
theorem dX12_readPaper_75 : decode cX12_readPaper 75 = .ok (.ifCond .eq 7, 3) := by decide +kernel
theorem dX12_readPaper_78 : decode cX12_readPaper 78 = .ok (.iconst 1, 1) := by decide +kernel
theorem dX12_readPaper_79 : decode cX12_readPaper 79 = .ok (.goto 4, 3) := by decide +kernel
theorem dX12_readPaper_82 : decode cX12_readPaper 82 = .ok (.iconst 0, 1) := by decide +kernel
theorem dX12_readPaper_83 : decode cX12_readPaper 83 = .ok (.istore_n 2, 1) := by decide +kernel
theorem dX12_readPaper_84 : decode cX12_readPaper 84 = .ok (.sipush 128, 3) := by decide +kernel
theorem dX12_readPaper_87 : decode cX12_readPaper 87 = .ok (.aload_n 0, 1) := by decide +kernel
theorem dX12_readPaper_88 : decode cX12_readPaper 88 = .ok (.getfield 66, 3) := by decide +kernel
theorem dX12_readPaper_91 : decode cX12_readPaper 91 = .ok (.iconst 0, 1) := by decide +kernel
theorem dX12_readPaper_92 : decode cX12_readPaper 92 = .ok (.aload_n 0, 1) := by decide +kernel
theorem dX12_readPaper_93 : decode cX12_readPaper 93 = .ok (.getfield 45, 3) := by decide +kernel
theorem dX12_readPaper_96 : decode cX12_readPaper 96 = .ok (.iconst 0, 1) := by decide +kernel
theorem dX12_readPaper_97 : decode cX12_readPaper 97 = .ok (.invokestatic 130, 3) := by decide +kernel
theorem dX12_readPaper_100 : decode cX12_readPaper 100 = .ok (.aload_n 0, 1) := by decide +kernel
theorem dX12_readPaper_101 : decode cX12_readPaper 101 = .ok (.iload_n 1, 1) := by decide +kernel
theorem dX12_readPaper_102 : decode cX12_readPaper 102 = .ok (.putfield 244, 3) := by decide +kernel
theorem dX12_readPaper_105 : decode cX12_readPaper 105 = .ok (.aload_n 0, 1) := by decide +kernel
theorem dX12_readPaper_106 : decode cX12_readPaper 106 = .ok (.iconst 0, 1) := by decide +kernel
theorem dX12_readPaper_107 : decode cX12_readPaper 107 = .ok (.putfield 259, 3) := by decide +kernel
theorem dX12_readPaper_110 : decode cX12_readPaper 110 = .ok (.aload_n 0, 1) := by decide +kernel
theorem dX12_readPaper_111 : decode cX12_readPaper 111 = .ok (.iload_n 2, 1) := by decide +kernel
theorem dX12_readPaper_112 : decode cX12_readPaper 112 = .ok (.iconst 1, 1) := by decide +kernel
theorem dX12_readPaper_113 : decode cX12_readPaper 113 = .ok (.invokevirtual 237, 3) := by decide +kernel
theorem dX12_readPaper_116 : decode cX12_readPaper 116 = .ok (.ifCond .eq 23, 3) := by decide +kernel
theorem dX12_readPaper_119 : decode cX12_readPaper 119 = .ok (.aload_n 0, 1) := by decide +kernel
theorem dX12_readPaper_120 : decode cX12_readPaper 120 = .ok (.aload_n 0, 1) := by decide +kernel
theorem dX12_readPaper_121 : decode cX12_readPaper 121 = .ok (.getfield 121, 3) := by decide +kernel
theorem dX12_readPaper_124 : decode cX12_readPaper 124 = .ok (.ifCond .ne 7, 3) := by decide +kernel
theorem dX12_readPaper_127 : decode cX12_readPaper 127 = .ok (.iconst 1, 1) := by decide +kernel
theorem dX12_readPaper_128 : decode cX12_readPaper 128 = .ok (.goto 4, 3) := by decide +kernel
theorem dX12_readPaper_131 : decode cX12_readPaper 131 = .ok (.iconst 0, 1) := by decide +kernel
theorem dX12_readPaper_132 : decode cX12_readPaper 132 = .ok (.iconst 2, 1) := by decide +kernel
theorem dX12_readPaper_133 : decode cX12_readPaper 133 = .ok (.invokevirtual 237, 3) := by decide +kernel
theorem dX12_readPaper_136 : decode cX12_readPaper 136 = .ok (.ifCond .ne 5, 3) := by decide +kernel
theorem dX12_readPaper_139 : decode cX12_readPaper 139 = .ok (.iconst 0, 1) := by decide +kernel
theorem dX12_readPaper_140 : decode cX12_readPaper 140 = .ok (.ireturn, 1) := by decide +kernel
theorem dX12_readPaper_141 : decode cX12_readPaper 141 = .ok (.bipush 67, 2) := by decide +kernel
theorem dX12_readPaper_143 : decode cX12_readPaper 143 = .ok (.aload_n 0, 1) := by decide +kernel
theorem dX12_readPaper_144 : decode cX12_readPaper 144 = .ok (.getfield 16, 3) := by decide +kernel
theorem dX12_readPaper_147 : decode cX12_readPaper 147 = .ok (.iconst 0, 1) := by decide +kernel
theorem dX12_readPaper_148 : decode cX12_readPaper 148 = .ok (.aload_n 0, 1) := by decide +kernel
theorem dX12_readPaper_149 : decode cX12_readPaper 149 = .ok (.getfield 32, 3) := by decide +kernel
theorem dX12_readPaper_152 : decode cX12_readPaper 152 = .ok (.iconst 0, 1) := by decide +kernel
theorem dX12_readPaper_153 : decode cX12_readPaper 153 = .ok (.invokestatic 130, 3) := by decide +kernel
theorem dX12_readPaper_156 : decode cX12_readPaper 156 = .ok (.iconst 0, 1) := by decide +kernel
theorem dX12_readPaper_157 : decode cX12_readPaper 157 = .ok (.istore_n 3, 1) := by decide +kernel
theorem dX12_readPaper_158 : decode cX12_readPaper 158 = .ok (.iconst 0, 1) := by decide +kernel
theorem dX12_readPaper_159 : decode cX12_readPaper 159 = .ok (.istore 4, 2) := by decide +kernel
theorem dX12_readPaper_161 : decode cX12_readPaper 161 = .ok (.iload 4, 2) := by decide +kernel
theorem dX12_readPaper_163 : decode cX12_readPaper 163 = .ok (.aload_n 0, 1) := by decide +kernel
theorem dX12_readPaper_164 : decode cX12_readPaper 164 = .ok (.invokevirtual 113, 3) := by decide +kernel
theorem dX12_readPaper_167 : decode cX12_readPaper 167 = .ok (.if_icmp .ge 27, 3) := by decide +kernel
theorem dX12_readPaper_170 : decode cX12_readPaper 170 = .ok (.iload_n 3, 1) := by decide +kernel
theorem dX12_readPaper_171 : decode cX12_readPaper 171 = .ok (.aload_n 0, 1) := by decide +kernel
theorem dX12_readPaper_172 : decode cX12_readPaper 172 = .ok (.getfield 32, 3) := by decide +kernel
theorem dX12_readPaper_175 : decode cX12_readPaper 175 = .ok (.iload 4, 2) := by decide +kernel
theorem dX12_readPaper_177 : decode cX12_readPaper 177 = .ok (.iaload, 1) := by decide +kernel
theorem dX12_readPaper_178 : decode cX12_readPaper 178 = .ok (.ifCond .ne 7, 3) := by decide +kernel
theorem dX12_readPaper_181 : decode cX12_readPaper 181 = .ok (.iconst 0, 1) := by decide +kernel
theorem dX12_readPaper_182 : decode cX12_readPaper 182 = .ok (.goto 4, 3) := by decide +kernel
theorem dX12_readPaper_185 : decode cX12_readPaper 185 = .ok (.iconst 1, 1) := by decide +kernel
theorem dX12_readPaper_186 : decode cX12_readPaper 186 = .ok (.iadd, 1) := by decide +kernel
theorem dX12_readPaper_187 : decode cX12_readPaper 187 = .ok (.istore_n 3, 1) := by decide +kernel
theorem dX12_readPaper_188 : decode cX12_readPaper 188 = .ok (.iinc 4 1, 3) := by decide +kernel
theorem dX12_readPaper_191 : decode cX12_readPaper 191 = .ok (.goto (-30), 3) := by decide +kernel
theorem dX12_readPaper_194 : decode cX12_readPaper 194 = .ok (.iload_n 3, 1) := by decide +kernel
theorem dX12_readPaper_195 : decode cX12_readPaper 195 = .ok (.ireturn, 1) := by decide +kernel
theorem dX12_repetitions_0 : decode cX12_repetitions 0 = .ok (.aload_n 0, 1) := by decide +kernel
theorem dX12_repetitions_1 : decode cX12_repetitions 1 = .ok (.iconst 0, 1) := by decide +kernel
theorem dX12_repetitions_2 : decode cX12_repetitions 2 = .ok (.putfield 110, 3) := by decide +kernel
theorem dX12_repetitions_5 : decode cX12_repetitions 5 = .ok (.aload_n 0, 1) := by decide +kernel
theorem dX12_repetitions_6 : decode cX12_repetitions 6 = .ok (.invokevirtual 337, 3) := by decide +kernel
theorem dX12_repetitions_9 : decode cX12_repetitions 9 = .ok (.ireturn, 1) := by decide +kernel
theorem dX12_rights_0 : decode cX12_rights 0 = .ok (.aload_n 0, 1) := by decide +kernel
theorem dX12_rights_1 : decode cX12_rights 1 = .ok (.iconst 0, 1) := by decide +kernel
theorem dX12_rights_2 : decode cX12_rights 2 = .ok (.putfield 110, 3) := by decide +kernel
theorem dX12_rights_5 : decode cX12_rights 5 = .ok (.aload_n 0, 1) := by decide +kernel
theorem dX12_rights_6 : decode cX12_rights 6 = .ok (.getfield 32, 3) := by decide +kernel
theorem dX12_rights_9 : decode cX12_rights 9 = .ok (.aload_n 0, 1) := by decide +kernel
theorem dX12_rights_10 : decode cX12_rights 10 = .ok (.invokevirtual 127, 3) := by decide +kernel
theorem dX12_rights_13 : decode cX12_rights 13 = .ok (.bipush 65, 2) := by decide +kernel
theorem dX12_rights_15 : decode cX12_rights 15 = .ok (.iadd, 1) := by decide +kernel
theorem dX12_rights_16 : decode cX12_rights 16 = .ok (.iaload, 1) := by decide +kernel
theorem dX12_rights_17 : decode cX12_rights 17 = .ok (.ireturn, 1) := by decide +kernel
theorem dX12_setSide_0 : decode cX12_setSide 0 = .ok (.aload_n 0, 1) := by decide +kernel
theorem dX12_setSide_1 : decode cX12_setSide 1 = .ok (.iload_n 2, 1) := by decide +kernel
theorem dX12_setSide_2 : decode cX12_setSide 2 = .ok (.iconst 0, 1) := by decide +kernel
theorem dX12_setSide_3 : decode cX12_setSide 3 = .ok (.bipush 15, 2) := by decide +kernel
theorem dX12_setSide_5 : decode cX12_setSide 5 = .ok (.invokestatic 117, 3) := by decide +kernel
theorem dX12_setSide_8 : decode cX12_setSide 8 = .ok (.iconst 1, 1) := by decide +kernel
theorem dX12_setSide_9 : decode cX12_setSide 9 = .ok (.invokevirtual 237, 3) := by decide +kernel
theorem dX12_setSide_12 : decode cX12_setSide 12 = .ok (.ifCond .eq 23, 3) := by decide +kernel
theorem dX12_setSide_15 : decode cX12_setSide 15 = .ok (.aload_n 0, 1) := by decide +kernel
theorem dX12_setSide_16 : decode cX12_setSide 16 = .ok (.aload_n 0, 1) := by decide +kernel
theorem dX12_setSide_17 : decode cX12_setSide 17 = .ok (.getfield 121, 3) := by decide +kernel
theorem dX12_setSide_20 : decode cX12_setSide 20 = .ok (.ifCond .ne 7, 3) := by decide +kernel
theorem dX12_setSide_23 : decode cX12_setSide 23 = .ok (.iconst 1, 1) := by decide +kernel
theorem dX12_setSide_24 : decode cX12_setSide 24 = .ok (.goto 4, 3) := by decide +kernel
theorem dX12_setSide_27 : decode cX12_setSide 27 = .ok (.iconst 0, 1) := by decide +kernel
theorem dX12_setSide_28 : decode cX12_setSide 28 = .ok (.iconst 2, 1) := by decide +kernel
theorem dX12_setSide_29 : decode cX12_setSide 29 = .ok (.invokevirtual 237, 3) := by decide +kernel
theorem dX12_setSide_32 : decode cX12_setSide 32 = .ok (.ifCond .ne 5, 3) := by decide +kernel
theorem dX12_setSide_35 : decode cX12_setSide 35 = .ok (.iconst 0, 1) := by decide +kernel
theorem dX12_setSide_36 : decode cX12_setSide 36 = .ok (.ireturn, 1) := by decide +kernel
theorem dX12_setSide_37 : decode cX12_setSide 37 = .ok (.aload_n 0, 1) := by decide +kernel
theorem dX12_setSide_38 : decode cX12_setSide 38 = .ok (.getfield 32, 3) := by decide +kernel
theorem dX12_setSide_41 : decode cX12_setSide 41 = .ok (.bipush 65, 2) := by decide +kernel
theorem dX12_setSide_43 : decode cX12_setSide 43 = .ok (.iaload, 1) := by decide +kernel
theorem dX12_setSide_44 : decode cX12_setSide 44 = .ok (.istore_n 3, 1) := by decide +kernel
theorem dX12_setSide_45 : decode cX12_setSide 45 = .ok (.aload_n 0, 1) := by decide +kernel
theorem dX12_setSide_46 : decode cX12_setSide 46 = .ok (.getfield 32, 3) := by decide +kernel
theorem dX12_setSide_49 : decode cX12_setSide 49 = .ok (.bipush 64, 2) := by decide +kernel
theorem dX12_setSide_51 : decode cX12_setSide 51 = .ok (.iload_n 1, 1) := by decide +kernel
theorem dX12_setSide_52 : decode cX12_setSide 52 = .ok (.ifCond .eq 7, 3) := by decide +kernel
theorem dX12_setSide_55 : decode cX12_setSide 55 = .ok (.iconst 1, 1) := by decide +kernel
theorem dX12_setSide_56 : decode cX12_setSide 56 = .ok (.goto 4, 3) := by decide +kernel
theorem dX12_setSide_59 : decode cX12_setSide 59 = .ok (.iconst 0, 1) := by decide +kernel
theorem dX12_setSide_60 : decode cX12_setSide 60 = .ok (.iastore, 1) := by decide +kernel
theorem dX12_setSide_61 : decode cX12_setSide 61 = .ok (.aload_n 0, 1) := by decide +kernel
theorem dX12_setSide_62 : decode cX12_setSide 62 = .ok (.getfield 32, 3) := by decide +kernel
theorem dX12_setSide_65 : decode cX12_setSide 65 = .ok (.bipush 65, 2) := by decide +kernel
theorem dX12_setSide_67 : decode cX12_setSide 67 = .ok (.iload_n 2, 1) := by decide +kernel
theorem dX12_setSide_68 : decode cX12_setSide 68 = .ok (.iastore, 1) := by decide +kernel
theorem dX12_setSide_69 : decode cX12_setSide 69 = .ok (.aload_n 0, 1) := by decide +kernel
theorem dX12_setSide_70 : decode cX12_setSide 70 = .ok (.getfield 32, 3) := by decide +kernel
theorem dX12_setSide_73 : decode cX12_setSide 73 = .ok (.bipush 66, 2) := by decide +kernel
theorem dX12_setSide_75 : decode cX12_setSide 75 = .ok (.iconst (-1), 1) := by decide +kernel
theorem dX12_setSide_76 : decode cX12_setSide 76 = .ok (.iastore, 1) := by decide +kernel
theorem dX12_setSide_77 : decode cX12_setSide 77 = .ok (.iload_n 3, 1) := by decide +kernel
theorem dX12_setSide_78 : decode cX12_setSide 78 = .ok (.ireturn, 1) := by decide +kernel
theorem dX12_shareWon_0 : decode cX12_shareWon 0 = .ok (.aload_n 0, 1) := by decide +kernel
theorem dX12_shareWon_1 : decode cX12_shareWon 1 = .ok (.iload_n 1, 1) := by decide +kernel
theorem dX12_shareWon_2 : decode cX12_shareWon 2 = .ok (.invokestatic 397, 3) := by decide +kernel
theorem dX12_shareWon_5 : decode cX12_shareWon 5 = .ok (.iconst 1, 1) := by decide +kernel
theorem dX12_shareWon_6 : decode cX12_shareWon 6 = .ok (.invokevirtual 237, 3) := by decide +kernel
theorem dX12_shareWon_9 : decode cX12_shareWon 9 = .ok (.istore_n 2, 1) := by decide +kernel
theorem dX12_shareWon_10 : decode cX12_shareWon 10 = .ok (.iload_n 2, 1) := by decide +kernel
theorem dX12_shareWon_11 : decode cX12_shareWon 11 = .ok (.ifCond .eq 16, 3) := by decide +kernel
theorem dX12_shareWon_14 : decode cX12_shareWon 14 = .ok (.aload_n 0, 1) := by decide +kernel
theorem dX12_shareWon_15 : decode cX12_shareWon 15 = .ok (.iload_n 1, 1) := by decide +kernel
theorem dX12_shareWon_16 : decode cX12_shareWon 16 = .ok (.iconst (-1), 1) := by decide +kernel
theorem dX12_shareWon_17 : decode cX12_shareWon 17 = .ok (.iconst 0, 1) := by decide +kernel
theorem dX12_shareWon_18 : decode cX12_shareWon 18 = .ok (.sipush 9999, 3) := by decide +kernel
theorem dX12_shareWon_21 : decode cX12_shareWon 21 = .ok (.invokevirtual 427, 3) := by decide +kernel
theorem dX12_shareWon_24 : decode cX12_shareWon 24 = .ok (.goto 4, 3) := by decide +kernel
theorem dX12_shareWon_27 : decode cX12_shareWon 27 = .ok (.iconst 0, 1) := by decide +kernel
theorem dX12_shareWon_28 : decode cX12_shareWon 28 = .ok (.istore_n 3, 1) := by decide +kernel
theorem dX12_shareWon_29 : decode cX12_shareWon 29 = .ok (.iload_n 2, 1) := by decide +kernel
theorem dX12_shareWon_30 : decode cX12_shareWon 30 = .ok (.ifCond .eq 16, 3) := by decide +kernel
theorem dX12_shareWon_33 : decode cX12_shareWon 33 = .ok (.aload_n 0, 1) := by decide +kernel
theorem dX12_shareWon_34 : decode cX12_shareWon 34 = .ok (.iload_n 1, 1) := by decide +kernel
theorem dX12_shareWon_35 : decode cX12_shareWon 35 = .ok (.iconst 0, 1) := by decide +kernel
theorem dX12_shareWon_36 : decode cX12_shareWon 36 = .ok (.iconst 0, 1) := by decide +kernel
theorem dX12_shareWon_37 : decode cX12_shareWon 37 = .ok (.sipush 9999, 3) := by decide +kernel
theorem dX12_shareWon_40 : decode cX12_shareWon 40 = .ok (.invokevirtual 427, 3) := by decide +kernel
theorem dX12_shareWon_43 : decode cX12_shareWon 43 = .ok (.goto 4, 3) := by decide +kernel
theorem dX12_shareWon_46 : decode cX12_shareWon 46 = .ok (.iconst 0, 1) := by decide +kernel
theorem dX12_shareWon_47 : decode cX12_shareWon 47 = .ok (.istore 4, 2) := by decide +kernel
theorem dX12_shareWon_49 : decode cX12_shareWon 49 = .ok (.iload_n 3, 1) := by decide +kernel
theorem dX12_shareWon_50 : decode cX12_shareWon 50 = .ok (.ifCond .ne 7, 3) := by decide +kernel
theorem dX12_shareWon_53 : decode cX12_shareWon 53 = .ok (.fconst 0, 1) := by decide +kernel
theorem dX12_shareWon_54 : decode cX12_shareWon 54 = .ok (.goto 9, 3) := by decide +kernel
theorem dX12_shareWon_57 : decode cX12_shareWon 57 = .ok (.iload 4, 2) := by decide +kernel
theorem dX12_shareWon_59 : decode cX12_shareWon 59 = .ok (.i2f, 1) := by decide +kernel
theorem dX12_shareWon_60 : decode cX12_shareWon 60 = .ok (.iload_n 3, 1) := by decide +kernel
theorem dX12_shareWon_61 : decode cX12_shareWon 61 = .ok (.i2f, 1) := by decide +kernel
theorem dX12_shareWon_62 : decode cX12_shareWon 62 = .ok (.fdiv, 1) := by decide +kernel
theorem dX12_shareWon_63 : decode cX12_shareWon 63 = .ok (.freturn, 1) := by decide +kernel
theorem dX12_won_0 : decode cX12_won 0 = .ok (.iconst 0, 1) := by decide +kernel
theorem dX12_won_1 : decode cX12_won 1 = .ok (.istore_n 2, 1) := by decide +kernel
theorem dX12_won_2 : decode cX12_won 2 = .ok (.iconst 0, 1) := by decide +kernel
theorem dX12_won_3 : decode cX12_won 3 = .ok (.istore_n 3, 1) := by decide +kernel
theorem dX12_won_4 : decode cX12_won 4 = .ok (.iload_n 3, 1) := by decide +kernel
theorem dX12_won_5 : decode cX12_won 5 = .ok (.sipush 31250, 3) := by decide +kernel
theorem dX12_won_8 : decode cX12_won 8 = .ok (.if_icmp .ge 34, 3) := by decide +kernel
theorem dX12_won_11 : decode cX12_won 11 = .ok (.iload_n 2, 1) := by decide +kernel
theorem dX12_won_12 : decode cX12_won 12 = .ok (.aload_n 0, 1) := by decide +kernel
theorem dX12_won_13 : decode cX12_won 13 = .ok (.getfield 101, 3) := by decide +kernel
theorem dX12_won_16 : decode cX12_won 16 = .ok (.sipush 31250, 3) := by decide +kernel
theorem dX12_won_19 : decode cX12_won 19 = .ok (.iload_n 1, 1) := by decide +kernel
theorem dX12_won_20 : decode cX12_won 20 = .ok (.iconst 2, 1) := by decide +kernel
theorem dX12_won_21 : decode cX12_won 21 = .ok (.isub, 1) := by decide +kernel
theorem dX12_won_22 : decode cX12_won 22 = .ok (.imul, 1) := by decide +kernel
theorem dX12_won_23 : decode cX12_won 23 = .ok (.iload_n 3, 1) := by decide +kernel
theorem dX12_won_24 : decode cX12_won 24 = .ok (.iadd, 1) := by decide +kernel
theorem dX12_won_25 : decode cX12_won 25 = .ok (.iaload, 1) := by decide +kernel
theorem dX12_won_26 : decode cX12_won 26 = .ok (.ifCond .lt 7, 3) := by decide +kernel
theorem dX12_won_29 : decode cX12_won 29 = .ok (.iconst 1, 1) := by decide +kernel
theorem dX12_won_30 : decode cX12_won 30 = .ok (.goto 4, 3) := by decide +kernel
theorem dX12_won_33 : decode cX12_won 33 = .ok (.iconst 0, 1) := by decide +kernel
theorem dX12_won_34 : decode cX12_won 34 = .ok (.iadd, 1) := by decide +kernel
theorem dX12_won_35 : decode cX12_won 35 = .ok (.istore_n 2, 1) := by decide +kernel
theorem dX12_won_36 : decode cX12_won 36 = .ok (.iinc 3 1, 3) := by decide +kernel
theorem dX12_won_39 : decode cX12_won 39 = .ok (.goto (-35), 3) := by decide +kernel
theorem dX12_won_42 : decode cX12_won 42 = .ok (.iload_n 2, 1) := by decide +kernel
theorem dX12_won_43 : decode cX12_won 43 = .ok (.ireturn, 1) := by decide +kernel
theorem dX12_solve_0 : decode cX12_solve 0 = .ok (.aload_n 0, 1) := by decide +kernel
theorem dX12_solve_1 : decode cX12_solve 1 = .ok (.iload_n 1, 1) := by decide +kernel
theorem dX12_solve_2 : decode cX12_solve 2 = .ok (.invokestatic 500, 3) := by decide +kernel
theorem dX12_solve_5 : decode cX12_solve 5 = .ok (.iconst 1, 1) := by decide +kernel
theorem dX12_solve_6 : decode cX12_solve 6 = .ok (.invokevirtual 237, 3) := by decide +kernel
theorem dX12_solve_9 : decode cX12_solve 9 = .ok (.ifCond .eq 25, 3) := by decide +kernel
theorem dX12_solve_12 : decode cX12_solve 12 = .ok (.aload_n 0, 1) := by decide +kernel
theorem dX12_solve_13 : decode cX12_solve 13 = .ok (.aload_n 0, 1) := by decide +kernel
theorem dX12_solve_14 : decode cX12_solve 14 = .ok (.invokevirtual 113, 3) := by decide +kernel
theorem dX12_solve_17 : decode cX12_solve 17 = .ok (.bipush 25, 2) := by decide +kernel
theorem dX12_solve_19 : decode cX12_solve 19 = .ok (.if_icmp .gt 7, 3) := by decide +kernel
theorem dX12_solve_22 : decode cX12_solve 22 = .ok (.iconst 1, 1) := by decide +kernel
theorem dX12_solve_23 : decode cX12_solve 23 = .ok (.goto 4, 3) := by decide +kernel
theorem dX12_solve_26 : decode cX12_solve 26 = .ok (.iconst 0, 1) := by decide +kernel
theorem dX12_solve_27 : decode cX12_solve 27 = .ok (.iconst 2, 1) := by decide +kernel
theorem dX12_solve_28 : decode cX12_solve 28 = .ok (.invokevirtual 237, 3) := by decide +kernel
theorem dX12_solve_31 : decode cX12_solve 31 = .ok (.ifCond .ne 5, 3) := by decide +kernel
theorem dX12_solve_34 : decode cX12_solve 34 = .ok (.iconst 0, 1) := by decide +kernel
theorem dX12_solve_35 : decode cX12_solve 35 = .ok (.ireturn, 1) := by decide +kernel
theorem dX12_solve_36 : decode cX12_solve 36 = .ok (.aload_n 0, 1) := by decide +kernel
theorem dX12_solve_37 : decode cX12_solve 37 = .ok (.iload_n 1, 1) := by decide +kernel
theorem dX12_solve_38 : decode cX12_solve 38 = .ok (.invokevirtual 503, 3) := by decide +kernel
theorem dX12_solve_41 : decode cX12_solve 41 = .ok (.iconst 0, 1) := by decide +kernel
theorem dX12_solve_42 : decode cX12_solve 42 = .ok (.istore_n 2, 1) := by decide +kernel
theorem dX12_solve_43 : decode cX12_solve 43 = .ok (.aload_n 0, 1) := by decide +kernel
theorem dX12_solve_44 : decode cX12_solve 44 = .ok (.iload_n 1, 1) := by decide +kernel
theorem dX12_solve_45 : decode cX12_solve 45 = .ok (.iconst 0, 1) := by decide +kernel
theorem dX12_solve_46 : decode cX12_solve 46 = .ok (.invokevirtual 506, 3) := by decide +kernel
theorem dX12_solve_49 : decode cX12_solve 49 = .ok (.istore_n 3, 1) := by decide +kernel
theorem dX12_solve_50 : decode cX12_solve 50 = .ok (.iload_n 3, 1) := by decide +kernel
theorem dX12_solve_51 : decode cX12_solve 51 = .ok (.ifCond .eq 16, 3) := by decide +kernel
theorem dX12_solve_54 : decode cX12_solve 54 = .ok (.iinc 2 1, 3) := by decide +kernel
theorem dX12_solve_57 : decode cX12_solve 57 = .ok (.aload_n 0, 1) := by decide +kernel
theorem dX12_solve_58 : decode cX12_solve 58 = .ok (.iload_n 1, 1) := by decide +kernel
theorem dX12_solve_59 : decode cX12_solve 59 = .ok (.iload_n 2, 1) := by decide +kernel
theorem dX12_solve_60 : decode cX12_solve 60 = .ok (.invokevirtual 506, 3) := by decide +kernel
theorem dX12_solve_63 : decode cX12_solve 63 = .ok (.istore_n 3, 1) := by decide +kernel
theorem dX12_solve_64 : decode cX12_solve 64 = .ok (.goto (-14), 3) := by decide +kernel
theorem dX12_solve_67 : decode cX12_solve 67 = .ok (.aload_n 0, 1) := by decide +kernel
theorem dX12_solve_68 : decode cX12_solve 68 = .ok (.getfield 104, 3) := by decide +kernel
theorem dX12_solve_71 : decode cX12_solve 71 = .ok (.iload_n 1, 1) := by decide +kernel
theorem dX12_solve_72 : decode cX12_solve 72 = .ok (.iconst 1, 1) := by decide +kernel
theorem dX12_solve_73 : decode cX12_solve 73 = .ok (.bastore, 1) := by decide +kernel
theorem dX12_solve_74 : decode cX12_solve 74 = .ok (.aload_n 0, 1) := by decide +kernel
theorem dX12_solve_75 : decode cX12_solve 75 = .ok (.iload_n 1, 1) := by decide +kernel
theorem dX12_solve_76 : decode cX12_solve 76 = .ok (.invokevirtual 509, 3) := by decide +kernel
theorem dX12_solve_79 : decode cX12_solve 79 = .ok (.ireturn, 1) := by decide +kernel
theorem dX12_startHere_0 : decode cX12_startHere 0 = .ok (.aload_n 0, 1) := by decide +kernel
theorem dX12_startHere_1 : decode cX12_startHere 1 = .ok (.iconst 0, 1) := by decide +kernel
theorem dX12_startHere_2 : decode cX12_startHere 2 = .ok (.putfield 110, 3) := by decide +kernel
theorem dX12_startHere_5 : decode cX12_startHere 5 = .ok (.aload_n 0, 1) := by decide +kernel
theorem dX12_startHere_6 : decode cX12_startHere 6 = .ok (.getfield 121, 3) := by decide +kernel
theorem dX12_startHere_9 : decode cX12_startHere 9 = .ok (.istore_n 1, 1) := by decide +kernel
theorem dX12_startHere_10 : decode cX12_startHere 10 = .ok (.aload_n 0, 1) := by decide +kernel
theorem dX12_startHere_11 : decode cX12_startHere 11 = .ok (.invokevirtual 192, 3) := by decide +kernel
theorem dX12_startHere_14 : decode cX12_startHere 14 = .ok (.bipush 67, 2) := by decide +kernel
theorem dX12_startHere_16 : decode cX12_startHere 16 = .ok (.aload_n 0, 1) := by decide +kernel
theorem dX12_startHere_17 : decode cX12_startHere 17 = .ok (.getfield 16, 3) := by decide +kernel
theorem dX12_startHere_20 : decode cX12_startHere 20 = .ok (.iconst 0, 1) := by decide +kernel
theorem dX12_startHere_21 : decode cX12_startHere 21 = .ok (.aload_n 0, 1) := by decide +kernel
theorem dX12_startHere_22 : decode cX12_startHere 22 = .ok (.getfield 32, 3) := by decide +kernel
theorem dX12_startHere_25 : decode cX12_startHere 25 = .ok (.iconst 0, 1) := by decide +kernel
theorem dX12_startHere_26 : decode cX12_startHere 26 = .ok (.invokestatic 130, 3) := by decide +kernel
theorem dX12_startHere_29 : decode cX12_startHere 29 = .ok (.aload_n 0, 1) := by decide +kernel
theorem dX12_startHere_30 : decode cX12_startHere 30 = .ok (.iconst 0, 1) := by decide +kernel
theorem dX12_startHere_31 : decode cX12_startHere 31 = .ok (.putfield 121, 3) := by decide +kernel
theorem dX12_startHere_34 : decode cX12_startHere 34 = .ok (.iload_n 1, 1) := by decide +kernel
theorem dX12_startHere_35 : decode cX12_startHere 35 = .ok (.ireturn, 1) := by decide +kernel
theorem dX12_state_0 : decode cX12_state 0 = .ok (.aload_n 0, 1) := by decide +kernel
theorem dX12_state_1 : decode cX12_state 1 = .ok (.aload_n 0, 1) := by decide +kernel
theorem dX12_state_2 : decode cX12_state 2 = .ok (.invokevirtual 284, 3) := by decide +kernel
theorem dX12_state_5 : decode cX12_state 5 = .ok (.iconst 1, 1) := by decide +kernel
theorem dX12_state_6 : decode cX12_state 6 = .ok (.invokevirtual 237, 3) := by decide +kernel
theorem dX12_state_9 : decode cX12_state 9 = .ok (.ifCond .eq 10, 3) := by decide +kernel
theorem dX12_state_12 : decode cX12_state 12 = .ok (.aload_n 0, 1) := by decide +kernel
theorem dX12_state_13 : decode cX12_state 13 = .ok (.invokevirtual 327, 3) := by decide +kernel
theorem dX12_state_16 : decode cX12_state 16 = .ok (.goto 4, 3) := by decide +kernel
theorem dX12_state_19 : decode cX12_state 19 = .ok (.iconst 0, 1) := by decide +kernel
theorem dX12_state_20 : decode cX12_state 20 = .ok (.ireturn, 1) := by decide +kernel
theorem dX12_takeBack_0 : decode cX12_takeBack 0 = .ok (.aload_n 0, 1) := by decide +kernel
theorem dX12_takeBack_1 : decode cX12_takeBack 1 = .ok (.aload_n 0, 1) := by decide +kernel
theorem dX12_takeBack_2 : decode cX12_takeBack 2 = .ok (.getfield 121, 3) := by decide +kernel
theorem dX12_takeBack_5 : decode cX12_takeBack 5 = .ok (.ifCond .le 7, 3) := by decide +kernel
theorem dX12_takeBack_8 : decode cX12_takeBack 8 = .ok (.iconst 1, 1) := by decide +kernel
theorem dX12_takeBack_9 : decode cX12_takeBack 9 = .ok (.goto 4, 3) := by decide +kernel
theorem dX12_takeBack_12 : decode cX12_takeBack 12 = .ok (.iconst 0, 1) := by decide +kernel
theorem dX12_takeBack_13 : decode cX12_takeBack 13 = .ok (.iconst 1, 1) := by decide +kernel
theorem dX12_takeBack_14 : decode cX12_takeBack 14 = .ok (.invokevirtual 237, 3) := by decide +kernel
theorem dX12_takeBack_17 : decode cX12_takeBack 17 = .ok (.ifCond .ne 5, 3) := by decide +kernel
theorem dX12_takeBack_20 : decode cX12_takeBack 20 = .ok (.iconst 0, 1) := by decide +kernel
theorem dX12_takeBack_21 : decode cX12_takeBack 21 = .ok (.ireturn, 1) := by decide +kernel
theorem dX12_takeBack_22 : decode cX12_takeBack 22 = .ok (.aload_n 0, 1) := by decide +kernel
theorem dX12_takeBack_23 : decode cX12_takeBack 23 = .ok (.dup, 1) := by decide +kernel
theorem dX12_takeBack_24 : decode cX12_takeBack 24 = .ok (.getfield 121, 3) := by decide +kernel
theorem dX12_takeBack_27 : decode cX12_takeBack 27 = .ok (.iconst 1, 1) := by decide +kernel
theorem dX12_takeBack_28 : decode cX12_takeBack 28 = .ok (.isub, 1) := by decide +kernel
theorem dX12_takeBack_29 : decode cX12_takeBack 29 = .ok (.putfield 121, 3) := by decide +kernel
theorem dX12_takeBack_32 : decode cX12_takeBack 32 = .ok (.aload_n 0, 1) := by decide +kernel
theorem dX12_takeBack_33 : decode cX12_takeBack 33 = .ok (.getfield 121, 3) := by decide +kernel
theorem dX12_takeBack_36 : decode cX12_takeBack 36 = .ok (.ireturn, 1) := by decide +kernel
theorem dX12_thrown_0 : decode cX12_thrown 0 = .ok (.aload_n 0, 1) := by decide +kernel
theorem dX12_thrown_1 : decode cX12_thrown 1 = .ok (.getfield 110, 3) := by decide +kernel
theorem dX12_thrown_4 : decode cX12_thrown 4 = .ok (.ireturn, 1) := by decide +kernel
theorem dX12_type_0 : decode cX12_type 0 = .ok (.iconst 0, 1) := by decide +kernel
theorem dX12_type_1 : decode cX12_type 1 = .ok (.istore_n 3, 1) := by decide +kernel
theorem dX12_type_2 : decode cX12_type 2 = .ok (.iconst 1, 1) := by decide +kernel
theorem dX12_type_3 : decode cX12_type 3 = .ok (.istore 4, 2) := by decide +kernel
theorem dX12_type_5 : decode cX12_type 5 = .ok (.bipush 56, 2) := by decide +kernel
theorem dX12_type_7 : decode cX12_type 7 = .ok (.istore 5, 2) := by decide +kernel
theorem dX12_type_9 : decode cX12_type 9 = .ok (.iload 5, 2) := by decide +kernel
theorem dX12_type_11 : decode cX12_type 11 = .ok (.ifCond .lt 62, 3) := by decide +kernel
theorem dX12_type_14 : decode cX12_type 14 = .ok (.lload_n 1, 1) := by decide +kernel
theorem dX12_type_15 : decode cX12_type 15 = .ok (.iload 5, 2) := by decide +kernel
theorem dX12_type_17 : decode cX12_type 17 = .ok (.lshr, 1) := by decide +kernel
theorem dX12_type_18 : decode cX12_type 18 = .ok (.ldc2_w 343, 3) := by decide +kernel
theorem dX12_type_21 : decode cX12_type 21 = .ok (.land, 1) := by decide +kernel
theorem dX12_type_22 : decode cX12_type 22 = .ok (.l2i, 1) := by decide +kernel
theorem dX12_type_23 : decode cX12_type 23 = .ok (.istore 6, 2) := by decide +kernel
theorem dX12_type_25 : decode cX12_type 25 = .ok (.iload 4, 2) := by decide +kernel
theorem dX12_type_27 : decode cX12_type 27 = .ok (.ifCond .eq 24, 3) := by decide +kernel
theorem dX12_type_30 : decode cX12_type 30 = .ok (.iload 6, 2) := by decide +kernel
theorem dX12_type_32 : decode cX12_type 32 = .ok (.ifCond .eq 15, 3) := by decide +kernel
theorem dX12_type_35 : decode cX12_type 35 = .ok (.iload 6, 2) := by decide +kernel
theorem dX12_type_37 : decode cX12_type 37 = .ok (.bipush 32, 2) := by decide +kernel
theorem dX12_type_39 : decode cX12_type 39 = .ok (.bipush 126, 2) := by decide +kernel
theorem dX12_type_41 : decode cX12_type 41 = .ok (.invokestatic 117, 3) := by decide +kernel
theorem dX12_type_44 : decode cX12_type 44 = .ok (.ifCond .eq 7, 3) := by decide +kernel
theorem dX12_type_47 : decode cX12_type 47 = .ok (.iconst 1, 1) := by decide +kernel
theorem dX12_type_48 : decode cX12_type 48 = .ok (.goto 4, 3) := by decide +kernel
theorem dX12_type_51 : decode cX12_type 51 = .ok (.iconst 0, 1) := by decide +kernel
theorem dX12_type_52 : decode cX12_type 52 = .ok (.istore 4, 2) := by decide +kernel
theorem dX12_type_54 : decode cX12_type 54 = .ok (.iload_n 3, 1) := by decide +kernel
theorem dX12_type_55 : decode cX12_type 55 = .ok (.iload 6, 2) := by decide +kernel
theorem dX12_type_57 : decode cX12_type 57 = .ok (.ifCond .ne 7, 3) := by decide +kernel
theorem dX12_type_60 : decode cX12_type 60 = .ok (.iconst 0, 1) := by decide +kernel
theorem dX12_type_61 : decode cX12_type 61 = .ok (.goto 4, 3) := by decide +kernel
theorem dX12_type_64 : decode cX12_type 64 = .ok (.iconst 1, 1) := by decide +kernel
theorem dX12_type_65 : decode cX12_type 65 = .ok (.iadd, 1) := by decide +kernel
theorem dX12_type_66 : decode cX12_type 66 = .ok (.istore_n 3, 1) := by decide +kernel
theorem dX12_type_67 : decode cX12_type 67 = .ok (.iinc 5 (-8), 3) := by decide +kernel
theorem dX12_type_70 : decode cX12_type 70 = .ok (.goto (-61), 3) := by decide +kernel
theorem dX12_type_73 : decode cX12_type 73 = .ok (.aload_n 0, 1) := by decide +kernel
theorem dX12_type_74 : decode cX12_type 74 = .ok (.iload 4, 2) := by decide +kernel
theorem dX12_type_76 : decode cX12_type 76 = .ok (.iconst 1, 1) := by decide +kernel
theorem dX12_type_77 : decode cX12_type 77 = .ok (.invokevirtual 237, 3) := by decide +kernel
theorem dX12_type_80 : decode cX12_type 80 = .ok (.ifCond .eq 28, 3) := by decide +kernel
theorem dX12_type_83 : decode cX12_type 83 = .ok (.aload_n 0, 1) := by decide +kernel
theorem dX12_type_84 : decode cX12_type 84 = .ok (.aload_n 0, 1) := by decide +kernel
theorem dX12_type_85 : decode cX12_type 85 = .ok (.getfield 259, 3) := by decide +kernel
theorem dX12_type_88 : decode cX12_type 88 = .ok (.iload_n 3, 1) := by decide +kernel
theorem dX12_type_89 : decode cX12_type 89 = .ok (.iadd, 1) := by decide +kernel
theorem dX12_type_90 : decode cX12_type 90 = .ok (.sipush 500, 3) := by decide +kernel
theorem dX12_type_93 : decode cX12_type 93 = .ok (.if_icmp .gt 7, 3) := by decide +kernel
theorem dX12_type_96 : decode cX12_type 96 = .ok (.iconst 1, 1) := by decide +kernel
theorem dX12_type_97 : decode cX12_type 97 = .ok (.goto 4, 3) := by decide +kernel
theorem dX12_type_100 : decode cX12_type 100 = .ok (.iconst 0, 1) := by decide +kernel
theorem dX12_type_101 : decode cX12_type 101 = .ok (.iconst 2, 1) := by decide +kernel
theorem dX12_type_102 : decode cX12_type 102 = .ok (.invokevirtual 237, 3) := by decide +kernel
theorem dX12_type_105 : decode cX12_type 105 = .ok (.ifCond .ne 5, 3) := by decide +kernel
theorem dX12_type_108 : decode cX12_type 108 = .ok (.iconst 0, 1) := by decide +kernel
theorem dX12_type_109 : decode cX12_type 109 = .ok (.ireturn, 1) := by decide +kernel
theorem dX12_type_110 : decode cX12_type 110 = .ok (.bipush 56, 2) := by decide +kernel
theorem dX12_type_112 : decode cX12_type 112 = .ok (.istore 5, 2) := by decide +kernel
theorem dX12_type_114 : decode cX12_type 114 = .ok (.iload 5, 2) := by decide +kernel
theorem dX12_type_116 : decode cX12_type 116 = .ok (.ifCond .lt 46, 3) := by decide +kernel
theorem dX12_type_119 : decode cX12_type 119 = .ok (.lload_n 1, 1) := by decide +kernel
theorem dX12_type_120 : decode cX12_type 120 = .ok (.iload 5, 2) := by decide +kernel
theorem dX12_type_122 : decode cX12_type 122 = .ok (.lshr, 1) := by decide +kernel
theorem dX12_type_123 : decode cX12_type 123 = .ok (.ldc2_w 343, 3) := by decide +kernel
theorem dX12_type_126 : decode cX12_type 126 = .ok (.land, 1) := by decide +kernel
theorem dX12_type_127 : decode cX12_type 127 = .ok (.l2i, 1) := by decide +kernel
theorem dX12_type_128 : decode cX12_type 128 = .ok (.istore 6, 2) := by decide +kernel
theorem dX12_type_130 : decode cX12_type 130 = .ok (.iload 6, 2) := by decide +kernel
theorem dX12_type_132 : decode cX12_type 132 = .ok (.ifCond .eq 24, 3) := by decide +kernel
theorem dX12_type_135 : decode cX12_type 135 = .ok (.aload_n 0, 1) := by decide +kernel
theorem dX12_type_136 : decode cX12_type 136 = .ok (.getfield 42, 3) := by decide +kernel
theorem dX12_type_139 : decode cX12_type 139 = .ok (.aload_n 0, 1) := by decide +kernel
theorem dX12_type_140 : decode cX12_type 140 = .ok (.getfield 259, 3) := by decide +kernel
theorem dX12_type_143 : decode cX12_type 143 = .ok (.iload 6, 2) := by decide +kernel
theorem dX12_type_145 : decode cX12_type 145 = .ok (.iastore, 1) := by decide +kernel
theorem dX12_type_146 : decode cX12_type 146 = .ok (.aload_n 0, 1) := by decide +kernel
theorem dX12_type_147 : decode cX12_type 147 = .ok (.dup, 1) := by decide +kernel
theorem dX12_type_148 : decode cX12_type 148 = .ok (.getfield 259, 3) := by decide +kernel
theorem dX12_type_151 : decode cX12_type 151 = .ok (.iconst 1, 1) := by decide +kernel
theorem dX12_type_152 : decode cX12_type 152 = .ok (.iadd, 1) := by decide +kernel
theorem dX12_type_153 : decode cX12_type 153 = .ok (.putfield 259, 3) := by decide +kernel
theorem dX12_type_156 : decode cX12_type 156 = .ok (.iinc 5 (-8), 3) := by decide +kernel
theorem dX12_type_159 : decode cX12_type 159 = .ok (.goto (-45), 3) := by decide +kernel
theorem dX12_type_162 : decode cX12_type 162 = .ok (.aload_n 0, 1) := by decide +kernel
theorem dX12_type_163 : decode cX12_type 163 = .ok (.getfield 259, 3) := by decide +kernel
theorem dX12_type_166 : decode cX12_type 166 = .ok (.ireturn, 1) := by decide +kernel
theorem dX12_variationMoves_0 : decode cX12_variationMoves 0 = .ok (.aload_n 0, 1) := by decide +kernel
theorem dX12_variationMoves_1 : decode cX12_variationMoves 1 = .ok (.iconst 0, 1) := by decide +kernel
theorem dX12_variationMoves_2 : decode cX12_variationMoves 2 = .ok (.putfield 110, 3) := by decide +kernel
theorem dX12_variationMoves_5 : decode cX12_variationMoves 5 = .ok (.aload_n 0, 1) := by decide +kernel
theorem dX12_variationMoves_6 : decode cX12_variationMoves 6 = .ok (.getfield 394, 3) := by decide +kernel
theorem dX12_variationMoves_9 : decode cX12_variationMoves 9 = .ok (.ireturn, 1) := by decide +kernel
theorem dX12_writeMove_0 : decode cX12_writeMove 0 = .ok (.aload_n 0, 1) := by decide +kernel
theorem dX12_writeMove_1 : decode cX12_writeMove 1 = .ok (.iload_n 1, 1) := by decide +kernel
theorem dX12_writeMove_2 : decode cX12_writeMove 2 = .ok (.invokevirtual 293, 3) := by decide +kernel
theorem dX12_writeMove_5 : decode cX12_writeMove 5 = .ok (.ifCond .ne 5, 3) := by decide +kernel
theorem dX12_writeMove_8 : decode cX12_writeMove 8 = .ok (.iconst 0, 1) := by decide +kernel
theorem dX12_writeMove_9 : decode cX12_writeMove 9 = .ok (.ireturn, 1) := by decide +kernel
theorem dX12_writeMove_10 : decode cX12_writeMove 10 = .ok (.aload_n 0, 1) := by decide +kernel
theorem dX12_writeMove_11 : decode cX12_writeMove 11 = .ok (.iload_n 1, 1) := by decide +kernel
theorem dX12_writeMove_12 : decode cX12_writeMove 12 = .ok (.invokevirtual 318, 3) := by decide +kernel
theorem dX12_writeMove_15 : decode cX12_writeMove 15 = .ok (.aload_n 0, 1) := by decide +kernel
theorem dX12_writeMove_16 : decode cX12_writeMove 16 = .ok (.aload_n 0, 1) := by decide +kernel
theorem dX12_writeMove_17 : decode cX12_writeMove 17 = .ok (.getfield 51, 3) := by decide +kernel
theorem dX12_writeMove_20 : decode cX12_writeMove 20 = .ok (.iload_n 1, 1) := by decide +kernel
theorem dX12_writeMove_21 : decode cX12_writeMove 21 = .ok (.iaload, 1) := by decide +kernel
theorem dX12_writeMove_22 : decode cX12_writeMove 22 = .ok (.putfield 244, 3) := by decide +kernel
theorem dX12_writeMove_25 : decode cX12_writeMove 25 = .ok (.aload_n 0, 1) := by decide +kernel
theorem dX12_writeMove_26 : decode cX12_writeMove 26 = .ok (.getfield 244, 3) := by decide +kernel
theorem dX12_writeMove_29 : decode cX12_writeMove 29 = .ok (.aload_n 0, 1) := by decide +kernel
theorem dX12_writeMove_30 : decode cX12_writeMove 30 = .ok (.getfield 48, 3) := by decide +kernel
theorem dX12_writeMove_33 : decode cX12_writeMove 33 = .ok (.bipush 12, 2) := by decide +kernel
theorem dX12_writeMove_35 : decode cX12_writeMove 35 = .ok (.iload_n 1, 1) := by decide +kernel
theorem dX12_writeMove_36 : decode cX12_writeMove 36 = .ok (.imul, 1) := by decide +kernel
theorem dX12_writeMove_37 : decode cX12_writeMove 37 = .ok (.aload_n 0, 1) := by decide +kernel
theorem dX12_writeMove_38 : decode cX12_writeMove 38 = .ok (.getfield 45, 3) := by decide +kernel
theorem dX12_writeMove_41 : decode cX12_writeMove 41 = .ok (.iconst 0, 1) := by decide +kernel
theorem dX12_writeMove_42 : decode cX12_writeMove 42 = .ok (.invokestatic 130, 3) := by decide +kernel
theorem dX12_writeMove_45 : decode cX12_writeMove 45 = .ok (.aload_n 0, 1) := by decide +kernel
theorem dX12_writeMove_46 : decode cX12_writeMove 46 = .ok (.getfield 244, 3) := by decide +kernel
theorem dX12_writeMove_49 : decode cX12_writeMove 49 = .ok (.ireturn, 1) := by decide +kernel
theorem dX12_writePaper_0 : decode cX12_writePaper 0 = .ok (.aload_n 0, 1) := by decide +kernel
theorem dX12_writePaper_1 : decode cX12_writePaper 1 = .ok (.iconst 0, 1) := by decide +kernel
theorem dX12_writePaper_2 : decode cX12_writePaper 2 = .ok (.putfield 110, 3) := by decide +kernel
theorem dX12_writePaper_5 : decode cX12_writePaper 5 = .ok (.aload_n 0, 1) := by decide +kernel
theorem dX12_writePaper_6 : decode cX12_writePaper 6 = .ok (.invokevirtual 192, 3) := by decide +kernel
theorem dX12_writePaper_9 : decode cX12_writePaper 9 = .ok (.aload_n 0, 1) := by decide +kernel
theorem dX12_writePaper_10 : decode cX12_writePaper 10 = .ok (.invokevirtual 256, 3) := by decide +kernel
theorem dX12_writePaper_13 : decode cX12_writePaper 13 = .ok (.aload_n 0, 1) := by decide +kernel
theorem dX12_writePaper_14 : decode cX12_writePaper 14 = .ok (.getfield 244, 3) := by decide +kernel
theorem dX12_writePaper_17 : decode cX12_writePaper 17 = .ok (.ireturn, 1) := by decide +kernel
def wp_X12_readsSquares_172 (D : wD) (post : Int32 → wS → Prop) (k_12 : wS → Nat → Int32 → Prop) (S : wS) (a0 : Nat) (x1 : Int32) (t0 : Int32) (t1 : Int32) : Prop :=
((t0 = t1 → ∀ S_2 : wS, S_2 = uI S a0 24 ((sI S a0 24) + (1 : Int32)) →
∀ x_3 : Int32, x_3 = x1 + (-1) →
k_12 S_2 a0 x_3) ∧
 (¬ t0 = t1 → narrow .boolean (.int (0 : Int32)) = .int (0 : Int32) ∧ post (0 : Int32) S))
def wp_X12_readsSquares_148 (D : wD) (post : Int32 → wS → Prop) (k_12 : wS → Nat → Int32 → Prop) (k_18 : wS → Nat → Int32 → Int32 → Prop) (S : wS) (a0 : Nat) (x1 : Int32) (t0 : Int32) (t1 : Int32) : Prop :=
∀ x_1 : Int32, x_1 = (t0 + t1) →
k_18 S a0 x1 x_1
def wp_X12_readsSquares_106 (D : wD) (post : Int32 → wS → Prop) (k_12 : wS → Nat → Int32 → Prop) (k_18 : wS → Nat → Int32 → Int32 → Prop) : Nat → wS → Nat → Int32 → Int32 → Int32 → Int32 → Int32 → Prop
  | 0, _, _, _, _, _, _, _ => False
  | n + 1, S, a0, x1, x2, x4, x5, x6 =>
    ((x5 ≤ x6 → ((¬ x4 = 0 → wp_X12_readsSquares_148 D post k_12 k_18 S a0 x1 x2 (1 : Int32)) ∧
     (x4 = 0 → wp_X12_readsSquares_148 D post k_12 k_18 S a0 x1 x2 x5))) ∧
     (¬ x5 ≤ x6 → wp_X12_lay D (fun S_4 => 
    ∀ x_5 : Int32, x_5 = x6 + 1 →
    wp_X12_readsSquares_106 D post k_12 k_18 n S_4 a0 x1 x2 x4 x5 x_5) S a0 (0 : Int32) ((((sI S a0 1) * x1) + x2) + x6) (0 : Int32)))
def wp_X12_readsSquares_88 (D : wD) (post : Int32 → wS → Prop) (k_12 : wS → Nat → Int32 → Prop) (k_18 : wS → Nat → Int32 → Int32 → Prop) (S : wS) (a0 : Nat) (x1 : Int32) (x2 : Int32) (x4 : Int32) (x5 : Int32) : Prop :=
wp_X12_lay D (fun S_2 => 
∃ n_3 : Nat, wp_X12_readsSquares_106 D post k_12 k_18 n_3 S_2 a0 x1 x2 x4 x5 (1 : Int32)) S a0 (0 : Int32) (((sI S a0 1) * x1) + x2) x4
def wp_X12_readsSquares_64 (D : wD) (post : Int32 → wS → Prop) (k_12 : wS → Nat → Int32 → Prop) (k_18 : wS → Nat → Int32 → Int32 → Prop) (S : wS) (a0 : Nat) (x1 : Int32) (x2 : Int32) (x4 : Int32) (t0 : Int32) : Prop :=
((¬ x4 = 0 → wp_X12_readsSquares_88 D post k_12 k_18 S a0 x1 x2 x4 t0) ∧
 (x4 = 0 → wp_X12_in D (fun r_2 S_3 => 
((¬ r_2 = 0 → wp_X12_readsSquares_88 D post k_12 k_18 S_3 a0 x1 x2 x4 t0) ∧
 (r_2 = 0 → narrow .boolean (.int (0 : Int32)) = .int (0 : Int32) ∧ post (0 : Int32) S_3))) S t0 (1 : Int32) ((sI S a0 1) - x2)))
def wp_X12_readsSquares_18 (D : wD) (post : Int32 → wS → Prop) (k_12 : wS → Nat → Int32 → Prop) : Nat → wS → Nat → Int32 → Int32 → Prop
  | 0, _, _, _, _ => False
  | n + 1, S, a0, x1, x2 =>
    (((sI S a0 1) ≤ x2 → wp_X12_textAt D (fun r_2 S_3 => 
    ((x1 ≤ 0 → wp_X12_readsSquares_172 D post k_12 S_3 a0 x1 r_2 (32 : Int32)) ∧
     (¬ x1 ≤ 0 → wp_X12_readsSquares_172 D post k_12 S_3 a0 x1 r_2 (47 : Int32)))) S a0 (sI S a0 24)) ∧
     (¬ (sI S a0 1) ≤ x2 → wp_X12_textAt D (fun r_5 S_6 => 
    ∀ S_7 : wS, S_7 = uI S_6 a0 24 ((sI S_6 a0 24) + (1 : Int32)) →
    wp_X12_pieceBy D (fun r_8 S_9 => 
    ((¬ r_8 = 0 → wp_X12_readsSquares_64 D post k_12 (wp_X12_readsSquares_18 D post k_12 n) S_9 a0 x1 x2 r_8 (0 : Int32)) ∧
     (r_8 = 0 → wp_X12_readsSquares_64 D post k_12 (wp_X12_readsSquares_18 D post k_12 n) S_9 a0 x1 x2 r_8 (r_5 - (48 : Int32))))) S_7 r_5) S a0 (sI S a0 24)))
def wp_X12_readsSquares_12 (D : wD) (post : Int32 → wS → Prop)  : Nat → wS → Nat → Int32 → Prop
  | 0, _, _, _ => False
  | n + 1, S, a0, x1 =>
    ((x1 < 0 → narrow .boolean (.int (1 : Int32)) = .int (1 : Int32) ∧ post (1 : Int32) S) ∧
     (¬ x1 < 0 → ∃ n_2 : Nat, wp_X12_readsSquares_18 D post (wp_X12_readsSquares_12 D post n) n_2 S a0 x1 (0 : Int32)))
def wp_X12_readsSquares_0 (D : wD) (post : Int32 → wS → Prop)  (S : wS) (a0 : Nat) : Prop :=
∀ S_1 : wS, S_1 = uI S a0 24 (0 : Int32) →
∀ x_2 : Int32, x_2 = ((sI S_1 a0 2) - (1 : Int32)) →
∃ n_3 : Nat, wp_X12_readsSquares_12 D post n_3 S_1 a0 x_2
abbrev r_X12_readsSquares : Room := { frames := 2, cells := 0, slots := 0, locals := 41 }
def wp_X12_readsSquares (D : wD) (post : Int32 → wS → Prop) (S : wS) (a0 : Nat) : Prop := wp_X12_readsSquares_0 D post S a0
set_option maxHeartbeats 4000000 in
set_option maxRecDepth 100000 in
theorem t_X12_readsSquares_172 {p : Program} {l : Launch} {e : Env} {s : State} {m : MethodId} {args : Array Value} {below : List Frame} {meth : Method} {c : Code} {D : wD} {cy : Nat → ClassId} {X : va_W} {A : Nat → Prop} {S0 : wS} {post : Int32 → wS → Prop} (F : CallFix p m c cX12_readsSquares 7 s args wz_X12_readsSquares RX12) (hr : meth.sig.returnType = (some .boolean)) (hlocks : meth.locks = false) (hK : wK D cy A s) {k_12 : wS → Nat → Int32 → Prop} (q_12 : ∀ {S : wS} {H : Heap} {locs : List Loc} {ls : Array Slot} {a0 : Nat} {x1 : Int32}, k_12 S a0 x1 → wO D cy X A s.heap S H locs → wX D S0 S → lv_has ls 7 [(0, .ref a0), (1, .int x1)] → wM D S a0 → sK S a0 = 17 → W p l e r_X12_readsSquares s m args below meth c H locs 0 0 (MQ below (va_Qi (fun r S9 => wX D S0 S9 ∧ post r S9) (wB D cy X A) A) args s 0 0 A) (F0 m 12 ls [])) : ∀ {S : wS} {H : Heap} {locs : List Loc} {ls : Array Slot} {a0 : Nat} {x1 : Int32} {t0 : Int32} {t1 : Int32}, wp_X12_readsSquares_172 D post k_12 S a0 x1 t0 t1 → wO D cy X A s.heap S H locs → wX D S0 S → lv_has ls 7 [(0, .ref a0), (1, .int x1)] → wM D S a0 → sK S a0 = 17 → W p l e r_X12_readsSquares s m args below meth c H locs 0 0 (MQ below (va_Qi (fun r S9 => wX D S0 S9 ∧ post r S9) (wB D cy X A) A) args s 0 0 A) (F0 m 172 ls [.int t1, .int t0]) := by
  obtain ⟨hx, hb, hml, hown, hts⟩ := id F
  have hwg : ∀ w ∈ WG, w.before args s = true := fun w h => hts w (List.mem_cons_of_mem _ h)
  have i_17 : ∀ w ∈ u_ws RX12 TX12 43, w ∈ wz_X12_readsSquares := fun w h => List.mem_cons_of_mem _ (wu_17 w h)
  have k_262 := hwg _ wf_RX12_262
  intro S H locs ls a0 x1 t0 t1 hp hW hE hl hL_a0 hK_a0
  unfold wp_X12_readsSquares_172 at hp
  refine lv_icmp_eq (tgt := 177) hx hb dX12_readsSquares_172 (by decide) (fun c_1 => ?_) (fun c_1 => ?_)
  · replace hp := hp.1 c_1
    refine lv_aload_n hx hb dX12_readsSquares_177 rfl (lv_at hl 0 rfl) ?_
    refine lv_dup hx hb dX12_readsSquares_178 rfl ?_
    refine w_get (k := 17) (f := 24) (T := TX12) (v := .int (sI S a0 24)) F hK hW hL_a0 hK_a0 (by decide) rfl rfl (by decide) i_17 k_262 rfl dX12_readsSquares_179 ?_
    refine lv_iconst (v := 1) hx hb dX12_readsSquares_182 (by decide) ?_
    refine lv_iadd hx hb dX12_readsSquares_183 ?_
    refine w_putI (k := 17) (f := 24) (T := TX12) F hK hW hL_a0 hK_a0 (by decide) (by decide) rfl rfl (by decide) i_17 tyX12 tyX12_ok nmX12 k_262 rfl rfl (ty := .int) rfl rfl rfl dX12_readsSquares_184 (fun H locs hW => ?_)
    obtain ⟨S_2, eS_2⟩ : ∃ z : wS, z = uI S a0 24 ((sI S a0 24) + (1 : Int32)) := ⟨_, rfl⟩
    rw [← eS_2] at hW
    replace hp := hp S_2 eS_2
    have hX_S_2 : wX D S S_2 := by rw [eS_2]; exact wX_uI
    have hE := hE.trans hX_S_2
    have hK_a0 : sK S_2 a0 = 17 := (hX_S_2.2 a0 hL_a0).1.trans hK_a0
    have hL_a0 : wM D S_2 a0 := hX_S_2.M hL_a0
    obtain ⟨x_3, ex_3⟩ : ∃ z : Int32, z = x1 + (-1) := ⟨_, rfl⟩
    replace hp := hp x_3 ex_3
    refine lv_iinc (v := x_3) (lv' := [(1, .int x_3), (0, .ref a0)]) hx hb dX12_readsSquares_187 hl (k := 1) rfl (by rw [ex_3]; rfl) (by decide) rfl (fun ls hl => ?_)
    refine lv_goto (tgt := 12) hx hb dX12_readsSquares_190 (by decide) ?_
    exact q_12 hp hW hE (lv_sub hl [1, 0] rfl) hL_a0 hK_a0
  · replace hp := hp.2 c_1
    refine lv_iconst (v := 0) hx hb dX12_readsSquares_175 (by decide) ?_
    exact w_zret hx hb hr hlocks hW hp.1 ⟨hE, hp.2⟩ dX12_readsSquares_176
set_option maxHeartbeats 4000000 in
set_option maxRecDepth 100000 in
theorem t_X12_readsSquares_148 {p : Program} {l : Launch} {e : Env} {s : State} {m : MethodId} {args : Array Value} {below : List Frame} {meth : Method} {c : Code} {D : wD} {cy : Nat → ClassId} {X : va_W} {A : Nat → Prop} {S0 : wS} {post : Int32 → wS → Prop} (F : CallFix p m c cX12_readsSquares 7 s args wz_X12_readsSquares RX12) (hr : meth.sig.returnType = (some .boolean)) (hlocks : meth.locks = false) (hK : wK D cy A s) {k_12 : wS → Nat → Int32 → Prop} (q_12 : ∀ {S : wS} {H : Heap} {locs : List Loc} {ls : Array Slot} {a0 : Nat} {x1 : Int32}, k_12 S a0 x1 → wO D cy X A s.heap S H locs → wX D S0 S → lv_has ls 7 [(0, .ref a0), (1, .int x1)] → wM D S a0 → sK S a0 = 17 → W p l e r_X12_readsSquares s m args below meth c H locs 0 0 (MQ below (va_Qi (fun r S9 => wX D S0 S9 ∧ post r S9) (wB D cy X A) A) args s 0 0 A) (F0 m 12 ls [])) {k_18 : wS → Nat → Int32 → Int32 → Prop} (q_18 : ∀ {S : wS} {H : Heap} {locs : List Loc} {ls : Array Slot} {a0 : Nat} {x1 : Int32} {x2 : Int32}, k_18 S a0 x1 x2 → wO D cy X A s.heap S H locs → wX D S0 S → lv_has ls 7 [(0, .ref a0), (1, .int x1), (2, .int x2)] → wM D S a0 → sK S a0 = 17 → W p l e r_X12_readsSquares s m args below meth c H locs 0 0 (MQ below (va_Qi (fun r S9 => wX D S0 S9 ∧ post r S9) (wB D cy X A) A) args s 0 0 A) (F0 m 18 ls [])) : ∀ {S : wS} {H : Heap} {locs : List Loc} {ls : Array Slot} {a0 : Nat} {x1 : Int32} {t0 : Int32} {t1 : Int32}, wp_X12_readsSquares_148 D post k_12 k_18 S a0 x1 t0 t1 → wO D cy X A s.heap S H locs → wX D S0 S → lv_has ls 7 [(0, .ref a0), (1, .int x1)] → wM D S a0 → sK S a0 = 17 → W p l e r_X12_readsSquares s m args below meth c H locs 0 0 (MQ below (va_Qi (fun r S9 => wX D S0 S9 ∧ post r S9) (wB D cy X A) A) args s 0 0 A) (F0 m 148 ls [.int t1, .int t0]) := by
  obtain ⟨hx, hb, hml, hown, hts⟩ := id F
  have hwg : ∀ w ∈ WG, w.before args s = true := fun w h => hts w (List.mem_cons_of_mem _ h)
  intro S H locs ls a0 x1 t0 t1 hp hW hE hl hL_a0 hK_a0
  unfold wp_X12_readsSquares_148 at hp
  refine lv_iadd hx hb dX12_readsSquares_148 ?_
  refine lv_topi (fun x_1 ex_1 => ?_)
  replace hp := hp x_1 ex_1
  refine lv_istore_n (lv' := [(2, .int x_1), (0, .ref a0), (1, .int x1)]) hx hb dX12_readsSquares_149 rfl hl (by decide) rfl (fun ls hl => ?_)
  refine lv_goto (tgt := 18) hx hb dX12_readsSquares_150 (by decide) ?_
  exact q_18 hp hW hE (lv_sub hl [1, 2, 0] rfl) hL_a0 hK_a0
set_option maxHeartbeats 4000000 in
set_option maxRecDepth 100000 in
theorem t_X12_readsSquares_106 {p : Program} {l : Launch} {e : Env} {s : State} {m : MethodId} {args : Array Value} {below : List Frame} {meth : Method} {c : Code} {D : wD} {cy : Nat → ClassId} {X : va_W} {A : Nat → Prop} {S0 : wS} {post : Int32 → wS → Prop} (F : CallFix p m c cX12_readsSquares 7 s args wz_X12_readsSquares RX12) (hr : meth.sig.returnType = (some .boolean)) (hlocks : meth.locks = false) (hK : wK D cy A s) {k_12 : wS → Nat → Int32 → Prop} (q_12 : ∀ {S : wS} {H : Heap} {locs : List Loc} {ls : Array Slot} {a0 : Nat} {x1 : Int32}, k_12 S a0 x1 → wO D cy X A s.heap S H locs → wX D S0 S → lv_has ls 7 [(0, .ref a0), (1, .int x1)] → wM D S a0 → sK S a0 = 17 → W p l e r_X12_readsSquares s m args below meth c H locs 0 0 (MQ below (va_Qi (fun r S9 => wX D S0 S9 ∧ post r S9) (wB D cy X A) A) args s 0 0 A) (F0 m 12 ls [])) {k_18 : wS → Nat → Int32 → Int32 → Prop} (q_18 : ∀ {S : wS} {H : Heap} {locs : List Loc} {ls : Array Slot} {a0 : Nat} {x1 : Int32} {x2 : Int32}, k_18 S a0 x1 x2 → wO D cy X A s.heap S H locs → wX D S0 S → lv_has ls 7 [(0, .ref a0), (1, .int x1), (2, .int x2)] → wM D S a0 → sK S a0 = 17 → W p l e r_X12_readsSquares s m args below meth c H locs 0 0 (MQ below (va_Qi (fun r S9 => wX D S0 S9 ∧ post r S9) (wB D cy X A) A) args s 0 0 A) (F0 m 18 ls [])) : ∀ (n : Nat) {S : wS} {H : Heap} {locs : List Loc} {ls : Array Slot} {a0 : Nat} {x1 : Int32} {x2 : Int32} {x4 : Int32} {x5 : Int32} {x6 : Int32}, wp_X12_readsSquares_106 D post k_12 k_18 n S a0 x1 x2 x4 x5 x6 → wO D cy X A s.heap S H locs → wX D S0 S → lv_has ls 7 [(0, .ref a0), (1, .int x1), (2, .int x2), (4, .int x4), (5, .int x5), (6, .int x6)] → wM D S a0 → sK S a0 = 17 → W p l e r_X12_readsSquares s m args below meth c H locs 0 0 (MQ below (va_Qi (fun r S9 => wX D S0 S9 ∧ post r S9) (wB D cy X A) A) args s 0 0 A) (F0 m 106 ls []) := by
  obtain ⟨hx, hb, hml, hown, hts⟩ := id F
  have hwg : ∀ w ∈ WG, w.before args s = true := fun w h => hts w (List.mem_cons_of_mem _ h)
  have i_17 : ∀ w ∈ u_ws RX12 TX12 43, w ∈ wz_X12_readsSquares := fun w h => List.mem_cons_of_mem _ (wu_17 w h)
  have k_9 := hwg _ wf_RX12_9
  intro n
  induction n with
  | zero =>
    intro S H locs ls a0 x1 x2 x4 x5 x6 hp
    exact hp.elim
  | succ n ih =>
    intro S H locs ls a0 x1 x2 x4 x5 x6 hp hW hE hl hL_a0 hK_a0
    unfold wp_X12_readsSquares_106 at hp
    refine lv_iload hx hb dX12_readsSquares_106 (lv_at hl 5 rfl) ?_
    refine lv_iload hx hb dX12_readsSquares_108 (lv_at hl 4 rfl) ?_
    refine lv_icmp_ge (tgt := 136) hx hb dX12_readsSquares_110 (by decide) (fun c_1 => ?_) (fun c_1 => ?_)
    · replace hp := hp.1 c_1
      refine lv_iload_n hx hb dX12_readsSquares_136 rfl (lv_at hl 2 rfl) ?_
      refine lv_iload hx hb dX12_readsSquares_137 (lv_at hl 3 rfl) ?_
      refine lv_if_ne (tgt := 147) hx hb dX12_readsSquares_139 (by decide) (fun c_2 => ?_) (fun c_2 => ?_)
      · replace hp := hp.1 c_2
        refine lv_iconst (v := 1) hx hb dX12_readsSquares_147 (by decide) ?_
        exact t_X12_readsSquares_148 F hr hlocks hK q_12 q_18 hp hW hE (lv_sub hl [0, 1] rfl) hL_a0 hK_a0
      · replace hp := hp.2 c_2
        refine lv_iload hx hb dX12_readsSquares_142 (lv_at hl 4 rfl) ?_
        refine lv_goto (tgt := 148) hx hb dX12_readsSquares_144 (by decide) ?_
        exact t_X12_readsSquares_148 F hr hlocks hK q_12 q_18 hp hW hE (lv_sub hl [0, 1] rfl) hL_a0 hK_a0
    · replace hp := hp.2 c_1
      refine lv_aload_n hx hb dX12_readsSquares_113 rfl (lv_at hl 0 rfl) ?_
      refine lv_iconst (v := 0) hx hb dX12_readsSquares_114 (by decide) ?_
      refine lv_aload_n hx hb dX12_readsSquares_115 rfl (lv_at hl 0 rfl) ?_
      refine w_get (k := 17) (f := 1) (T := TX12) (v := .int (sI S a0 1)) F hK hW hL_a0 hK_a0 (by decide) rfl rfl (by decide) i_17 k_9 rfl dX12_readsSquares_116 ?_
      refine lv_iload_n hx hb dX12_readsSquares_119 rfl (lv_at hl 1 rfl) ?_
      refine lv_imul hx hb dX12_readsSquares_120 ?_
      refine lv_iload_n hx hb dX12_readsSquares_121 rfl (lv_at hl 2 rfl) ?_
      refine lv_iadd hx hb dX12_readsSquares_122 ?_
      refine lv_iload hx hb dX12_readsSquares_123 (lv_at hl 5 rfl) ?_
      refine lv_iadd hx hb dX12_readsSquares_125 ?_
      refine lv_iconst (v := 0) hx hb dX12_readsSquares_126 (by decide) ?_
      refine w_callV (va_runV (As := [.int (0 : Int32), .int ((((sI S a0 1) * x1) + x2) + x6), .int (0 : Int32)]) (rest := []) F (c_X12_lay l hL_a0 hK_a0 hp H.size) (cwV (C := RX12) 3 hts (wg_V wm_RX12_207 wy_X12_lay) rfl rfl rfl (by decide +kernel) ⟨Nat.le_of_ble_eq_true rfl, Nat.le_of_ble_eq_true rfl⟩) (w_preV hK hW hL_a0 hK_a0 (by decide) rfl) rfl rfl hl.1 rfl (lv_room (Nat.le_of_ble_eq_true rfl)) dX12_readsSquares_127 ⟨Nat.le_of_ble_eq_true rfl, Nat.le_of_ble_eq_true rfl⟩) hW (fun S_4 H locs hp hW => ?_)
      obtain ⟨hX_S_4, hp⟩ := hp
      refine W.widen (k := 0) (n := 0) (by decide) (by decide) ?_
      have hE := hE.trans hX_S_4
      have hK_a0 : sK S_4 a0 = 17 := (hX_S_4.2 a0 hL_a0).1.trans hK_a0
      have hL_a0 : wM D S_4 a0 := hX_S_4.M hL_a0
      obtain ⟨x_5, ex_5⟩ : ∃ z : Int32, z = x6 + 1 := ⟨_, rfl⟩
      replace hp := hp x_5 ex_5
      refine lv_iinc (v := x_5) (lv' := [(6, .int x_5), (0, .ref a0), (1, .int x1), (2, .int x2), (4, .int x4), (5, .int x5)]) hx hb dX12_readsSquares_130 hl (k := 5) rfl (by rw [ex_5]; rfl) (by decide) rfl (fun ls hl => ?_)
      refine lv_goto (tgt := 106) hx hb dX12_readsSquares_133 (by decide) ?_
      exact ih hp hW hE (lv_sub hl [1, 2, 3, 4, 5, 0] rfl) hL_a0 hK_a0
set_option maxHeartbeats 4000000 in
set_option maxRecDepth 100000 in
theorem t_X12_readsSquares_88 {p : Program} {l : Launch} {e : Env} {s : State} {m : MethodId} {args : Array Value} {below : List Frame} {meth : Method} {c : Code} {D : wD} {cy : Nat → ClassId} {X : va_W} {A : Nat → Prop} {S0 : wS} {post : Int32 → wS → Prop} (F : CallFix p m c cX12_readsSquares 7 s args wz_X12_readsSquares RX12) (hr : meth.sig.returnType = (some .boolean)) (hlocks : meth.locks = false) (hK : wK D cy A s) {k_12 : wS → Nat → Int32 → Prop} (q_12 : ∀ {S : wS} {H : Heap} {locs : List Loc} {ls : Array Slot} {a0 : Nat} {x1 : Int32}, k_12 S a0 x1 → wO D cy X A s.heap S H locs → wX D S0 S → lv_has ls 7 [(0, .ref a0), (1, .int x1)] → wM D S a0 → sK S a0 = 17 → W p l e r_X12_readsSquares s m args below meth c H locs 0 0 (MQ below (va_Qi (fun r S9 => wX D S0 S9 ∧ post r S9) (wB D cy X A) A) args s 0 0 A) (F0 m 12 ls [])) {k_18 : wS → Nat → Int32 → Int32 → Prop} (q_18 : ∀ {S : wS} {H : Heap} {locs : List Loc} {ls : Array Slot} {a0 : Nat} {x1 : Int32} {x2 : Int32}, k_18 S a0 x1 x2 → wO D cy X A s.heap S H locs → wX D S0 S → lv_has ls 7 [(0, .ref a0), (1, .int x1), (2, .int x2)] → wM D S a0 → sK S a0 = 17 → W p l e r_X12_readsSquares s m args below meth c H locs 0 0 (MQ below (va_Qi (fun r S9 => wX D S0 S9 ∧ post r S9) (wB D cy X A) A) args s 0 0 A) (F0 m 18 ls [])) : ∀ {S : wS} {H : Heap} {locs : List Loc} {ls : Array Slot} {a0 : Nat} {x1 : Int32} {x2 : Int32} {x4 : Int32} {x5 : Int32}, wp_X12_readsSquares_88 D post k_12 k_18 S a0 x1 x2 x4 x5 → wO D cy X A s.heap S H locs → wX D S0 S → lv_has ls 7 [(0, .ref a0), (1, .int x1), (2, .int x2), (4, .int x4), (5, .int x5)] → wM D S a0 → sK S a0 = 17 → W p l e r_X12_readsSquares s m args below meth c H locs 0 0 (MQ below (va_Qi (fun r S9 => wX D S0 S9 ∧ post r S9) (wB D cy X A) A) args s 0 0 A) (F0 m 88 ls []) := by
  obtain ⟨hx, hb, hml, hown, hts⟩ := id F
  have hwg : ∀ w ∈ WG, w.before args s = true := fun w h => hts w (List.mem_cons_of_mem _ h)
  have i_17 : ∀ w ∈ u_ws RX12 TX12 43, w ∈ wz_X12_readsSquares := fun w h => List.mem_cons_of_mem _ (wu_17 w h)
  have k_9 := hwg _ wf_RX12_9
  intro S H locs ls a0 x1 x2 x4 x5 hp hW hE hl hL_a0 hK_a0
  unfold wp_X12_readsSquares_88 at hp
  refine lv_aload_n hx hb dX12_readsSquares_88 rfl (lv_at hl 0 rfl) ?_
  refine lv_iconst (v := 0) hx hb dX12_readsSquares_89 (by decide) ?_
  refine lv_aload_n hx hb dX12_readsSquares_90 rfl (lv_at hl 0 rfl) ?_
  refine w_get (k := 17) (f := 1) (T := TX12) (v := .int (sI S a0 1)) F hK hW hL_a0 hK_a0 (by decide) rfl rfl (by decide) i_17 k_9 rfl dX12_readsSquares_91 ?_
  refine lv_iload_n hx hb dX12_readsSquares_94 rfl (lv_at hl 1 rfl) ?_
  refine lv_imul hx hb dX12_readsSquares_95 ?_
  refine lv_iload_n hx hb dX12_readsSquares_96 rfl (lv_at hl 2 rfl) ?_
  refine lv_iadd hx hb dX12_readsSquares_97 ?_
  refine lv_iload hx hb dX12_readsSquares_98 (lv_at hl 3 rfl) ?_
  refine w_callV (va_runV (As := [.int (0 : Int32), .int (((sI S a0 1) * x1) + x2), .int x4]) (rest := []) F (c_X12_lay l hL_a0 hK_a0 hp H.size) (cwV (C := RX12) 3 hts (wg_V wm_RX12_207 wy_X12_lay) rfl rfl rfl (by decide +kernel) ⟨Nat.le_of_ble_eq_true rfl, Nat.le_of_ble_eq_true rfl⟩) (w_preV hK hW hL_a0 hK_a0 (by decide) rfl) rfl rfl hl.1 rfl (lv_room (Nat.le_of_ble_eq_true rfl)) dX12_readsSquares_100 ⟨Nat.le_of_ble_eq_true rfl, Nat.le_of_ble_eq_true rfl⟩) hW (fun S_2 H locs hp hW => ?_)
  obtain ⟨hX_S_2, hp⟩ := hp
  refine W.widen (k := 0) (n := 0) (by decide) (by decide) ?_
  have hE := hE.trans hX_S_2
  have hK_a0 : sK S_2 a0 = 17 := (hX_S_2.2 a0 hL_a0).1.trans hK_a0
  have hL_a0 : wM D S_2 a0 := hX_S_2.M hL_a0
  refine lv_iconst (v := 1) hx hb dX12_readsSquares_103 (by decide) ?_
  refine lv_istore (lv' := [(6, .int (1 : Int32)), (0, .ref a0), (1, .int x1), (2, .int x2), (4, .int x4), (5, .int x5)]) hx hb dX12_readsSquares_104 hl (by decide) rfl (fun ls hl => ?_)
  obtain ⟨n_3, hp⟩ := hp
  exact t_X12_readsSquares_106 F hr hlocks hK q_12 q_18 n_3 hp hW hE (lv_sub hl [1, 2, 3, 4, 5, 0] rfl) hL_a0 hK_a0
set_option maxHeartbeats 4000000 in
set_option maxRecDepth 100000 in
theorem t_X12_readsSquares_64 {p : Program} {l : Launch} {e : Env} {s : State} {m : MethodId} {args : Array Value} {below : List Frame} {meth : Method} {c : Code} {D : wD} {cy : Nat → ClassId} {X : va_W} {A : Nat → Prop} {S0 : wS} {post : Int32 → wS → Prop} (F : CallFix p m c cX12_readsSquares 7 s args wz_X12_readsSquares RX12) (hr : meth.sig.returnType = (some .boolean)) (hlocks : meth.locks = false) (hK : wK D cy A s) {k_12 : wS → Nat → Int32 → Prop} (q_12 : ∀ {S : wS} {H : Heap} {locs : List Loc} {ls : Array Slot} {a0 : Nat} {x1 : Int32}, k_12 S a0 x1 → wO D cy X A s.heap S H locs → wX D S0 S → lv_has ls 7 [(0, .ref a0), (1, .int x1)] → wM D S a0 → sK S a0 = 17 → W p l e r_X12_readsSquares s m args below meth c H locs 0 0 (MQ below (va_Qi (fun r S9 => wX D S0 S9 ∧ post r S9) (wB D cy X A) A) args s 0 0 A) (F0 m 12 ls [])) {k_18 : wS → Nat → Int32 → Int32 → Prop} (q_18 : ∀ {S : wS} {H : Heap} {locs : List Loc} {ls : Array Slot} {a0 : Nat} {x1 : Int32} {x2 : Int32}, k_18 S a0 x1 x2 → wO D cy X A s.heap S H locs → wX D S0 S → lv_has ls 7 [(0, .ref a0), (1, .int x1), (2, .int x2)] → wM D S a0 → sK S a0 = 17 → W p l e r_X12_readsSquares s m args below meth c H locs 0 0 (MQ below (va_Qi (fun r S9 => wX D S0 S9 ∧ post r S9) (wB D cy X A) A) args s 0 0 A) (F0 m 18 ls [])) : ∀ {S : wS} {H : Heap} {locs : List Loc} {ls : Array Slot} {a0 : Nat} {x1 : Int32} {x2 : Int32} {x4 : Int32} {t0 : Int32}, wp_X12_readsSquares_64 D post k_12 k_18 S a0 x1 x2 x4 t0 → wO D cy X A s.heap S H locs → wX D S0 S → lv_has ls 7 [(0, .ref a0), (1, .int x1), (2, .int x2), (4, .int x4)] → wM D S a0 → sK S a0 = 17 → W p l e r_X12_readsSquares s m args below meth c H locs 0 0 (MQ below (va_Qi (fun r S9 => wX D S0 S9 ∧ post r S9) (wB D cy X A) A) args s 0 0 A) (F0 m 64 ls [.int t0]) := by
  obtain ⟨hx, hb, hml, hown, hts⟩ := id F
  have hwg : ∀ w ∈ WG, w.before args s = true := fun w h => hts w (List.mem_cons_of_mem _ h)
  have i_17 : ∀ w ∈ u_ws RX12 TX12 43, w ∈ wz_X12_readsSquares := fun w h => List.mem_cons_of_mem _ (wu_17 w h)
  have k_9 := hwg _ wf_RX12_9
  intro S H locs ls a0 x1 x2 x4 t0 hp hW hE hl hL_a0 hK_a0
  unfold wp_X12_readsSquares_64 at hp
  refine lv_istore (lv' := [(5, .int t0), (0, .ref a0), (1, .int x1), (2, .int x2), (4, .int x4)]) hx hb dX12_readsSquares_64 hl (by decide) rfl (fun ls hl => ?_)
  refine lv_iload hx hb dX12_readsSquares_66 (lv_at hl 4 rfl) ?_
  refine lv_if_ne (tgt := 88) hx hb dX12_readsSquares_68 (by decide) (fun c_1 => ?_) (fun c_1 => ?_)
  · replace hp := hp.1 c_1
    exact t_X12_readsSquares_88 F hr hlocks hK q_12 q_18 hp hW hE (lv_sub hl [1, 2, 3, 4, 0] rfl) hL_a0 hK_a0
  · replace hp := hp.2 c_1
    refine lv_iload hx hb dX12_readsSquares_71 (lv_at hl 0 rfl) ?_
    refine lv_iconst (v := 1) hx hb dX12_readsSquares_73 (by decide) ?_
    refine lv_aload_n hx hb dX12_readsSquares_74 rfl (lv_at hl 1 rfl) ?_
    refine w_get (k := 17) (f := 1) (T := TX12) (v := .int (sI S a0 1)) F hK hW hL_a0 hK_a0 (by decide) rfl rfl (by decide) i_17 k_9 rfl dX12_readsSquares_75 ?_
    refine lv_iload_n hx hb dX12_readsSquares_78 rfl (lv_at hl 3 rfl) ?_
    refine lv_isub hx hb dX12_readsSquares_79 ?_
    refine w_callI (va_runS (As := [.int t0, .int (1 : Int32), .int ((sI S a0 1) - x2)]) (rest := []) F (c_X12_in l hp H.size) (va_cwS 3 hts (wg_S wm_RX12_117 wy_X12_in) rfl rfl rfl (by decide +kernel) ⟨Nat.le_of_ble_eq_true rfl, Nat.le_of_ble_eq_true rfl⟩) (w_preS hK hW) rfl rfl hl.1 rfl (lv_room (Nat.le_of_ble_eq_true rfl)) dX12_readsSquares_80 ⟨Nat.le_of_ble_eq_true rfl, Nat.le_of_ble_eq_true rfl⟩) hW (fun r_2 S_3 H locs hp hW => ?_)
    obtain ⟨hX_S_3, hp⟩ := hp
    refine W.widen (k := 0) (n := 0) (by decide) (by decide) ?_
    have hE := hE.trans hX_S_3
    have hK_a0 : sK S_3 a0 = 17 := (hX_S_3.2 a0 hL_a0).1.trans hK_a0
    have hL_a0 : wM D S_3 a0 := hX_S_3.M hL_a0
    refine lv_if_ne (tgt := 88) hx hb dX12_readsSquares_83 (by decide) (fun c_4 => ?_) (fun c_4 => ?_)
    · replace hp := hp.1 c_4
      exact t_X12_readsSquares_88 F hr hlocks hK q_12 q_18 hp hW hE (lv_sub hl [1, 2, 3, 4, 0] rfl) hL_a0 hK_a0
    · replace hp := hp.2 c_4
      refine lv_iconst (v := 0) hx hb dX12_readsSquares_86 (by decide) ?_
      exact w_zret hx hb hr hlocks hW hp.1 ⟨hE, hp.2⟩ dX12_readsSquares_87
set_option maxHeartbeats 4000000 in
set_option maxRecDepth 100000 in
theorem t_X12_readsSquares_18 {p : Program} {l : Launch} {e : Env} {s : State} {m : MethodId} {args : Array Value} {below : List Frame} {meth : Method} {c : Code} {D : wD} {cy : Nat → ClassId} {X : va_W} {A : Nat → Prop} {S0 : wS} {post : Int32 → wS → Prop} (F : CallFix p m c cX12_readsSquares 7 s args wz_X12_readsSquares RX12) (hr : meth.sig.returnType = (some .boolean)) (hlocks : meth.locks = false) (hK : wK D cy A s) {k_12 : wS → Nat → Int32 → Prop} (q_12 : ∀ {S : wS} {H : Heap} {locs : List Loc} {ls : Array Slot} {a0 : Nat} {x1 : Int32}, k_12 S a0 x1 → wO D cy X A s.heap S H locs → wX D S0 S → lv_has ls 7 [(0, .ref a0), (1, .int x1)] → wM D S a0 → sK S a0 = 17 → W p l e r_X12_readsSquares s m args below meth c H locs 0 0 (MQ below (va_Qi (fun r S9 => wX D S0 S9 ∧ post r S9) (wB D cy X A) A) args s 0 0 A) (F0 m 12 ls [])) : ∀ (n : Nat) {S : wS} {H : Heap} {locs : List Loc} {ls : Array Slot} {a0 : Nat} {x1 : Int32} {x2 : Int32}, wp_X12_readsSquares_18 D post k_12 n S a0 x1 x2 → wO D cy X A s.heap S H locs → wX D S0 S → lv_has ls 7 [(0, .ref a0), (1, .int x1), (2, .int x2)] → wM D S a0 → sK S a0 = 17 → W p l e r_X12_readsSquares s m args below meth c H locs 0 0 (MQ below (va_Qi (fun r S9 => wX D S0 S9 ∧ post r S9) (wB D cy X A) A) args s 0 0 A) (F0 m 18 ls []) := by
  obtain ⟨hx, hb, hml, hown, hts⟩ := id F
  have hwg : ∀ w ∈ WG, w.before args s = true := fun w h => hts w (List.mem_cons_of_mem _ h)
  have i_17 : ∀ w ∈ u_ws RX12 TX12 43, w ∈ wz_X12_readsSquares := fun w h => List.mem_cons_of_mem _ (wu_17 w h)
  have k_262 := hwg _ wf_RX12_262
  have k_9 := hwg _ wf_RX12_9
  intro n
  induction n with
  | zero =>
    intro S H locs ls a0 x1 x2 hp
    exact hp.elim
  | succ n ih =>
    intro S H locs ls a0 x1 x2 hp hW hE hl hL_a0 hK_a0
    unfold wp_X12_readsSquares_18 at hp
    refine lv_iload_n hx hb dX12_readsSquares_18 rfl (lv_at hl 2 rfl) ?_
    refine lv_aload_n hx hb dX12_readsSquares_19 rfl (lv_at hl 0 rfl) ?_
    refine w_get (k := 17) (f := 1) (T := TX12) (v := .int (sI S a0 1)) F hK hW hL_a0 hK_a0 (by decide) rfl rfl (by decide) i_17 k_9 rfl dX12_readsSquares_20 ?_
    refine lv_icmp_ge (tgt := 153) hx hb dX12_readsSquares_23 (by decide) (fun c_1 => ?_) (fun c_1 => ?_)
    · replace hp := hp.1 c_1
      refine lv_aload_n hx hb dX12_readsSquares_153 rfl (lv_at hl 0 rfl) ?_
      refine lv_aload_n hx hb dX12_readsSquares_154 rfl (lv_at hl 0 rfl) ?_
      refine w_get (k := 17) (f := 24) (T := TX12) (v := .int (sI S a0 24)) F hK hW hL_a0 hK_a0 (by decide) rfl rfl (by decide) i_17 k_262 rfl dX12_readsSquares_155 ?_
      refine w_callI (va_runV (As := [.int (sI S a0 24)]) (rest := []) F (c_X12_textAt l hL_a0 hK_a0 hp H.size) (cwV (C := RX12) 1 hts (wg_V wm_RX12_265 wy_X12_textAt) rfl rfl rfl (by decide +kernel) ⟨Nat.le_of_ble_eq_true rfl, Nat.le_of_ble_eq_true rfl⟩) (w_preV hK hW hL_a0 hK_a0 (by decide) rfl) rfl rfl hl.1 rfl (lv_room (Nat.le_of_ble_eq_true rfl)) dX12_readsSquares_158 ⟨Nat.le_of_ble_eq_true rfl, Nat.le_of_ble_eq_true rfl⟩) hW (fun r_2 S_3 H locs hp hW => ?_)
      obtain ⟨hX_S_3, hp⟩ := hp
      refine W.widen (k := 0) (n := 0) (by decide) (by decide) ?_
      have hE := hE.trans hX_S_3
      have hK_a0 : sK S_3 a0 = 17 := (hX_S_3.2 a0 hL_a0).1.trans hK_a0
      have hL_a0 : wM D S_3 a0 := hX_S_3.M hL_a0
      refine lv_iload_n hx hb dX12_readsSquares_161 rfl (lv_at hl 1 rfl) ?_
      refine lv_if_le (tgt := 170) hx hb dX12_readsSquares_162 (by decide) (fun c_4 => ?_) (fun c_4 => ?_)
      · replace hp := hp.1 c_4
        refine lv_bipush (v := 32) hx hb dX12_readsSquares_170 (by decide) ?_
        exact t_X12_readsSquares_172 F hr hlocks hK q_12 hp hW hE (lv_sub hl [0, 1] rfl) hL_a0 hK_a0
      · replace hp := hp.2 c_4
        refine lv_bipush (v := 47) hx hb dX12_readsSquares_165 (by decide) ?_
        refine lv_goto (tgt := 172) hx hb dX12_readsSquares_167 (by decide) ?_
        exact t_X12_readsSquares_172 F hr hlocks hK q_12 hp hW hE (lv_sub hl [0, 1] rfl) hL_a0 hK_a0
    · replace hp := hp.2 c_1
      refine lv_aload_n hx hb dX12_readsSquares_26 rfl (lv_at hl 0 rfl) ?_
      refine lv_aload_n hx hb dX12_readsSquares_27 rfl (lv_at hl 0 rfl) ?_
      refine w_get (k := 17) (f := 24) (T := TX12) (v := .int (sI S a0 24)) F hK hW hL_a0 hK_a0 (by decide) rfl rfl (by decide) i_17 k_262 rfl dX12_readsSquares_28 ?_
      refine w_callI (va_runV (As := [.int (sI S a0 24)]) (rest := []) F (c_X12_textAt l hL_a0 hK_a0 hp H.size) (cwV (C := RX12) 1 hts (wg_V wm_RX12_265 wy_X12_textAt) rfl rfl rfl (by decide +kernel) ⟨Nat.le_of_ble_eq_true rfl, Nat.le_of_ble_eq_true rfl⟩) (w_preV hK hW hL_a0 hK_a0 (by decide) rfl) rfl rfl hl.1 rfl (lv_room (Nat.le_of_ble_eq_true rfl)) dX12_readsSquares_31 ⟨Nat.le_of_ble_eq_true rfl, Nat.le_of_ble_eq_true rfl⟩) hW (fun r_5 S_6 H locs hp hW => ?_)
      obtain ⟨hX_S_6, hp⟩ := hp
      refine W.widen (k := 0) (n := 0) (by decide) (by decide) ?_
      have hE := hE.trans hX_S_6
      have hK_a0 : sK S_6 a0 = 17 := (hX_S_6.2 a0 hL_a0).1.trans hK_a0
      have hL_a0 : wM D S_6 a0 := hX_S_6.M hL_a0
      refine lv_istore_n (lv' := [(3, .int r_5), (0, .ref a0), (1, .int x1), (2, .int x2)]) hx hb dX12_readsSquares_34 rfl hl (by decide) rfl (fun ls hl => ?_)
      refine lv_aload_n hx hb dX12_readsSquares_35 rfl (lv_at hl 1 rfl) ?_
      refine lv_dup hx hb dX12_readsSquares_36 rfl ?_
      refine w_get (k := 17) (f := 24) (T := TX12) (v := .int (sI S_6 a0 24)) F hK hW hL_a0 hK_a0 (by decide) rfl rfl (by decide) i_17 k_262 rfl dX12_readsSquares_37 ?_
      refine lv_iconst (v := 1) hx hb dX12_readsSquares_40 (by decide) ?_
      refine lv_iadd hx hb dX12_readsSquares_41 ?_
      refine w_putI (k := 17) (f := 24) (T := TX12) F hK hW hL_a0 hK_a0 (by decide) (by decide) rfl rfl (by decide) i_17 tyX12 tyX12_ok nmX12 k_262 rfl rfl (ty := .int) rfl rfl rfl dX12_readsSquares_42 (fun H locs hW => ?_)
      obtain ⟨S_7, eS_7⟩ : ∃ z : wS, z = uI S_6 a0 24 ((sI S_6 a0 24) + (1 : Int32)) := ⟨_, rfl⟩
      rw [← eS_7] at hW
      replace hp := hp S_7 eS_7
      have hX_S_7 : wX D S_6 S_7 := by rw [eS_7]; exact wX_uI
      have hE := hE.trans hX_S_7
      have hK_a0 : sK S_7 a0 = 17 := (hX_S_7.2 a0 hL_a0).1.trans hK_a0
      have hL_a0 : wM D S_7 a0 := hX_S_7.M hL_a0
      refine lv_iload_n hx hb dX12_readsSquares_45 rfl (lv_at hl 0 rfl) ?_
      refine w_callI (va_runS (As := [.int r_5]) (rest := []) F (c_X12_pieceBy l hp H.size) (va_cwS 1 hts (wg_S wm_RX12_268 wy_X12_pieceBy) rfl rfl rfl (by decide +kernel) ⟨Nat.le_of_ble_eq_true rfl, Nat.le_of_ble_eq_true rfl⟩) (w_preS hK hW) rfl rfl hl.1 rfl (lv_room (Nat.le_of_ble_eq_true rfl)) dX12_readsSquares_46 ⟨Nat.le_of_ble_eq_true rfl, Nat.le_of_ble_eq_true rfl⟩) hW (fun r_8 S_9 H locs hp hW => ?_)
      obtain ⟨hX_S_9, hp⟩ := hp
      refine W.widen (k := 0) (n := 0) (by decide) (by decide) ?_
      have hE := hE.trans hX_S_9
      have hK_a0 : sK S_9 a0 = 17 := (hX_S_9.2 a0 hL_a0).1.trans hK_a0
      have hL_a0 : wM D S_9 a0 := hX_S_9.M hL_a0
      refine lv_istore (lv' := [(4, .int r_8), (3, .int r_5), (0, .ref a0), (1, .int x1), (2, .int x2)]) hx hb dX12_readsSquares_49 hl (by decide) rfl (fun ls hl => ?_)
      refine lv_iload hx hb dX12_readsSquares_51 (lv_at hl 0 rfl) ?_
      refine lv_if_ne (tgt := 63) hx hb dX12_readsSquares_53 (by decide) (fun c_10 => ?_) (fun c_10 => ?_)
      · replace hp := hp.1 c_10
        refine lv_iconst (v := 0) hx hb dX12_readsSquares_63 (by decide) ?_
        exact t_X12_readsSquares_64 F hr hlocks hK q_12 ih hp hW hE (lv_sub hl [2, 3, 4, 0] rfl) hL_a0 hK_a0
      · replace hp := hp.2 c_10
        refine lv_iload_n hx hb dX12_readsSquares_56 rfl (lv_at hl 1 rfl) ?_
        refine lv_bipush (v := 48) hx hb dX12_readsSquares_57 (by decide) ?_
        refine lv_isub hx hb dX12_readsSquares_59 ?_
        refine lv_goto (tgt := 64) hx hb dX12_readsSquares_60 (by decide) ?_
        exact t_X12_readsSquares_64 F hr hlocks hK q_12 ih hp hW hE (lv_sub hl [2, 3, 4, 0] rfl) hL_a0 hK_a0
set_option maxHeartbeats 4000000 in
set_option maxRecDepth 100000 in
theorem t_X12_readsSquares_12 {p : Program} {l : Launch} {e : Env} {s : State} {m : MethodId} {args : Array Value} {below : List Frame} {meth : Method} {c : Code} {D : wD} {cy : Nat → ClassId} {X : va_W} {A : Nat → Prop} {S0 : wS} {post : Int32 → wS → Prop} (F : CallFix p m c cX12_readsSquares 7 s args wz_X12_readsSquares RX12) (hr : meth.sig.returnType = (some .boolean)) (hlocks : meth.locks = false) (hK : wK D cy A s) : ∀ (n : Nat) {S : wS} {H : Heap} {locs : List Loc} {ls : Array Slot} {a0 : Nat} {x1 : Int32}, wp_X12_readsSquares_12 D post n S a0 x1 → wO D cy X A s.heap S H locs → wX D S0 S → lv_has ls 7 [(0, .ref a0), (1, .int x1)] → wM D S a0 → sK S a0 = 17 → W p l e r_X12_readsSquares s m args below meth c H locs 0 0 (MQ below (va_Qi (fun r S9 => wX D S0 S9 ∧ post r S9) (wB D cy X A) A) args s 0 0 A) (F0 m 12 ls []) := by
  obtain ⟨hx, hb, hml, hown, hts⟩ := id F
  have hwg : ∀ w ∈ WG, w.before args s = true := fun w h => hts w (List.mem_cons_of_mem _ h)
  intro n
  induction n with
  | zero =>
    intro S H locs ls a0 x1 hp
    exact hp.elim
  | succ n ih =>
    intro S H locs ls a0 x1 hp hW hE hl hL_a0 hK_a0
    unfold wp_X12_readsSquares_12 at hp
    refine lv_iload_n hx hb dX12_readsSquares_12 rfl (lv_at hl 1 rfl) ?_
    refine lv_if_lt (tgt := 193) hx hb dX12_readsSquares_13 (by decide) (fun c_1 => ?_) (fun c_1 => ?_)
    · replace hp := hp.1 c_1
      refine lv_iconst (v := 1) hx hb dX12_readsSquares_193 (by decide) ?_
      exact w_zret hx hb hr hlocks hW hp.1 ⟨hE, hp.2⟩ dX12_readsSquares_194
    · replace hp := hp.2 c_1
      refine lv_iconst (v := 0) hx hb dX12_readsSquares_16 (by decide) ?_
      refine lv_istore_n (lv' := [(2, .int (0 : Int32)), (0, .ref a0), (1, .int x1)]) hx hb dX12_readsSquares_17 rfl hl (by decide) rfl (fun ls hl => ?_)
      obtain ⟨n_2, hp⟩ := hp
      exact t_X12_readsSquares_18 F hr hlocks hK ih n_2 hp hW hE (lv_sub hl [1, 2, 0] rfl) hL_a0 hK_a0
set_option maxHeartbeats 4000000 in
set_option maxRecDepth 100000 in
theorem t_X12_readsSquares_0 {p : Program} {l : Launch} {e : Env} {s : State} {m : MethodId} {args : Array Value} {below : List Frame} {meth : Method} {c : Code} {D : wD} {cy : Nat → ClassId} {X : va_W} {A : Nat → Prop} {S0 : wS} {post : Int32 → wS → Prop} (F : CallFix p m c cX12_readsSquares 7 s args wz_X12_readsSquares RX12) (hr : meth.sig.returnType = (some .boolean)) (hlocks : meth.locks = false) (hK : wK D cy A s) : ∀ {S : wS} {H : Heap} {locs : List Loc} {ls : Array Slot} {a0 : Nat}, wp_X12_readsSquares_0 D post S a0 → wO D cy X A s.heap S H locs → wX D S0 S → lv_has ls 7 [(0, .ref a0)] → wM D S a0 → sK S a0 = 17 → W p l e r_X12_readsSquares s m args below meth c H locs 0 0 (MQ below (va_Qi (fun r S9 => wX D S0 S9 ∧ post r S9) (wB D cy X A) A) args s 0 0 A) (F0 m 0 ls []) := by
  obtain ⟨hx, hb, hml, hown, hts⟩ := id F
  have hwg : ∀ w ∈ WG, w.before args s = true := fun w h => hts w (List.mem_cons_of_mem _ h)
  have i_17 : ∀ w ∈ u_ws RX12 TX12 43, w ∈ wz_X12_readsSquares := fun w h => List.mem_cons_of_mem _ (wu_17 w h)
  have k_13 := hwg _ wf_RX12_13
  have k_262 := hwg _ wf_RX12_262
  intro S H locs ls a0 hp hW hE hl hL_a0 hK_a0
  unfold wp_X12_readsSquares_0 at hp
  refine lv_aload_n hx hb dX12_readsSquares_0 rfl (lv_at hl 0 rfl) ?_
  refine lv_iconst (v := 0) hx hb dX12_readsSquares_1 (by decide) ?_
  refine w_putI (k := 17) (f := 24) (T := TX12) F hK hW hL_a0 hK_a0 (by decide) (by decide) rfl rfl (by decide) i_17 tyX12 tyX12_ok nmX12 k_262 rfl rfl (ty := .int) rfl rfl rfl dX12_readsSquares_2 (fun H locs hW => ?_)
  obtain ⟨S_1, eS_1⟩ : ∃ z : wS, z = uI S a0 24 (0 : Int32) := ⟨_, rfl⟩
  rw [← eS_1] at hW
  replace hp := hp S_1 eS_1
  have hX_S_1 : wX D S S_1 := by rw [eS_1]; exact wX_uI
  have hE := hE.trans hX_S_1
  have hK_a0 : sK S_1 a0 = 17 := (hX_S_1.2 a0 hL_a0).1.trans hK_a0
  have hL_a0 : wM D S_1 a0 := hX_S_1.M hL_a0
  refine lv_aload_n hx hb dX12_readsSquares_5 rfl (lv_at hl 0 rfl) ?_
  refine w_get (k := 17) (f := 2) (T := TX12) (v := .int (sI S_1 a0 2)) F hK hW hL_a0 hK_a0 (by decide) rfl rfl (by decide) i_17 k_13 rfl dX12_readsSquares_6 ?_
  refine lv_iconst (v := 1) hx hb dX12_readsSquares_9 (by decide) ?_
  refine lv_isub hx hb dX12_readsSquares_10 ?_
  refine lv_topi (fun x_2 ex_2 => ?_)
  replace hp := hp x_2 ex_2
  refine lv_istore_n (lv' := [(1, .int x_2), (0, .ref a0)]) hx hb dX12_readsSquares_11 rfl hl (by decide) rfl (fun ls hl => ?_)
  obtain ⟨n_3, hp⟩ := hp
  exact t_X12_readsSquares_12 F hr hlocks hK n_3 hp hW hE (lv_sub hl [1, 0] rfl) hL_a0 hK_a0
set_option maxHeartbeats 4000000 in
set_option maxRecDepth 100000 in
theorem c_X12_readsSquares (l : Launch) {D : wD} {cy : Nat → ClassId} {X : va_W} {S0 : wS} {post : Int32 → wS → Prop} {a0 : Nat} (hL_a0 : wM D S0 a0) (hK_a0 : sK S0 a0 = 17) (hp : wp_X12_readsSquares D post S0 a0) : mI D cy X l yX12_readsSquares wz_X12_readsSquares r_X12_readsSquares [.ref a0] S0 (fun r S9 => wX D S0 S9 ∧ post r S9) := by
  intro sz
  refine Met.ofW (cc := cX12_readsSquares) (maxL := 7) (ret := (some .boolean)) (by decide) rfl ?_
  intro p e s m args below meth c s₁ B hml hv
  obtain ⟨rfl, hsz, hP, hK, hD0, hRO⟩ := hv
  have hts := atoms_spec (ws := wz_X12_readsSquares) B.pre
  have hown : s.vm.findClass RX12 = some m.cls := findClass_of_methodNamed B.named
  subst hsz
  have hD := hD0.self (sz := s.heap.size)
  have F : CallFix p m c cX12_readsSquares 7 s _ wz_X12_readsSquares RX12 := ⟨B.exec, B.bytes, hml, hown, hts⟩
  have hr := B.returns
  have hlocks := B.notSynchronized
  generalize hAe : va_A (wL cy X S0) s.heap.size = A at hD hK ⊢
  have hA : ∀ q, s.heap.size ≤ q → A q := fun q h => by rw [← hAe]; exact Or.inr h
  have hW : wO D cy X A s.heap S0 s.heap [] := ⟨hP, hD, va_S.rf, hA, hRO⟩
  have hl := lv_entry ([.ref a0]) (n := 7) (Nat.le_of_ble_eq_true rfl)
  rw [lg_entry_eq]
  generalize (lg_sl ([.ref a0]) ++ List.replicate (7 - (lg_sl ([.ref a0])).length) Slot.unset).toArray = ls at hl ⊢
  have hl : lv_has ls 7 [(0, .ref a0)] := hl
  unfold wp_X12_readsSquares at hp
  exact t_X12_readsSquares_0 F hr hlocks hK hp hW wX.rf (lv_sub hl [0] rfl) hL_a0 hK_a0
def wp_X12_readPaper_186 (D : wD) (post : Int32 → wS → Prop) (k_161 : wS → Nat → Int32 → Int32 → Prop) (S : wS) (a0 : Nat) (x4 : Int32) (t0 : Int32) (t1 : Int32) : Prop :=
∀ x_1 : Int32, x_1 = (t0 + t1) →
∀ x_2 : Int32, x_2 = x4 + 1 →
k_161 S a0 x_1 x_2
def wp_X12_readPaper_161 (D : wD) (post : Int32 → wS → Prop)  : Nat → wS → Nat → Int32 → Int32 → Prop
  | 0, _, _, _, _ => False
  | n + 1, S, a0, x3, x4 =>
    wp_X12_squares D (fun r_1 S_2 => 
    ((r_1 ≤ x4 → post x3 S_2) ∧
     (¬ r_1 ≤ x4 → ∃ y_4 : Nat, sR S_2 a0 8 = some y_4 ∧ wM D S_2 y_4 ∧ sK S_2 y_4 = 21 ∧
    vp_in x4 (sN S_2 y_4) ∧
    ((¬ (sI S_2 y_4 (x4).toNatClampNeg) = 0 → wp_X12_readPaper_186 D post (wp_X12_readPaper_161 D post n) S_2 a0 x4 x3 (1 : Int32)) ∧
     ((sI S_2 y_4 (x4).toNatClampNeg) = 0 → wp_X12_readPaper_186 D post (wp_X12_readPaper_161 D post n) S_2 a0 x4 x3 (0 : Int32)))))) S a0
def wp_X12_readPaper_139 (D : wD) (post : Int32 → wS → Prop)  (S : wS) : Prop :=
post (0 : Int32) S
def wp_X12_readPaper_132 (D : wD) (post : Int32 → wS → Prop)  (S : wS) (a0 : Nat) (b0 : Nat) (t1 : Int32) : Prop :=
wp_X12_can D (fun r_1 S_2 => 
((¬ r_1 = 0 → ∃ y_4 : Nat, sR S_2 a0 3 = some y_4 ∧ wM D S_2 y_4 ∧ sK S_2 y_4 = 21 ∧
∃ y_5 : Nat, sR S_2 a0 8 = some y_5 ∧ wM D S_2 y_5 ∧ sK S_2 y_5 = 21 ∧
wp_X12_copies D (fun S_7 => 
∃ n_8 : Nat, wp_X12_readPaper_161 D post n_8 S_7 a0 (0 : Int32) (0 : Int32)) S_2 (67 : Int32) y_4 (0 : Int32) y_5 (0 : Int32)) ∧
 (r_1 = 0 → wp_X12_readPaper_139 D post S_2))) S b0 t1 (2 : Int32)
def wp_X12_readPaper_84 (D : wD) (post : Int32 → wS → Prop)  (S : wS) (a0 : Nat) (x1 : Int32) (x2 : Int32) : Prop :=
∃ y_1 : Nat, sR S a0 23 = some y_1 ∧ wM D S y_1 ∧ sK S y_1 = 21 ∧
∃ y_2 : Nat, sR S a0 14 = some y_2 ∧ wM D S y_2 ∧ sK S y_2 = 21 ∧
wp_X12_copies D (fun S_4 => 
∀ S_5 : wS, S_5 = uI S_4 a0 15 x1 →
∀ S_6 : wS, S_6 = uI S_5 a0 13 (0 : Int32) →
wp_X12_can D (fun r_7 S_8 => 
((r_7 = 0 → wp_X12_readPaper_139 D post S_8) ∧
 (¬ r_7 = 0 → ((¬ (sI S_8 a0 11) = 0 → wp_X12_readPaper_132 D post S_8 a0 a0 (0 : Int32)) ∧
 ((sI S_8 a0 11) = 0 → wp_X12_readPaper_132 D post S_8 a0 a0 (1 : Int32)))))) S_6 a0 x2 (1 : Int32)) S (128 : Int32) y_1 (0 : Int32) y_2 (0 : Int32)
def wp_X12_readPaper_83 (D : wD) (post : Int32 → wS → Prop)  (S : wS) (a0 : Nat) (x1 : Int32) (t0 : Int32) : Prop :=
wp_X12_readPaper_84 D post S a0 x1 t0
def wp_X12_readPaper_82 (D : wD) (post : Int32 → wS → Prop)  (S : wS) (a0 : Nat) (x1 : Int32) : Prop :=
wp_X12_readPaper_83 D post S a0 x1 (0 : Int32)
def wp_X12_readPaper_23 (D : wD) (post : Int32 → wS → Prop)  : Nat → wS → Nat → Int32 → Int32 → Prop
  | 0, _, _, _, _ => False
  | n + 1, S, a0, x1, x2 =>
    (((67 : Int32) ≤ x2 → wp_X12_readsSquares D (fun r_2 S_3 => 
    ((r_2 = 0 → wp_X12_readPaper_84 D post S_3 a0 x1 r_2) ∧
     (¬ r_2 = 0 → wp_X12_readsRest D (fun S_6 => 
    wp_X12_isAsWritten D (fun r_7 S_8 => 
    ((r_7 = 0 → wp_X12_readPaper_82 D post S_8 a0 x1) ∧
     (¬ r_7 = 0 → wp_X12_isProperAt D (fun r_10 S_11 => 
    ((r_10 = 0 → wp_X12_readPaper_82 D post S_11 a0 x1) ∧
     (¬ r_10 = 0 → wp_X12_isPassingRight D (fun r_13 S_14 => 
    ((r_13 = 0 → wp_X12_readPaper_82 D post S_14 a0 x1) ∧
     (¬ r_13 = 0 → wp_X12_readPaper_83 D post S_14 a0 x1 (1 : Int32)))) S_11 a0 (0 : Int32)))) S_8 a0 (0 : Int32)))) S_6 a0) S_3 a0))) S a0) ∧
     (¬ (67 : Int32) ≤ x2 → ∃ y_16 : Nat, sR S a0 3 = some y_16 ∧ wM D S y_16 ∧ sK S y_16 = 21 ∧
    y_16 ∈ sL S ∧ vp_in x2 (sN S y_16) ∧
    ∀ S_18 : wS, S_18 = uI S y_16 (x2).toNatClampNeg (0 : Int32) →
    ∀ x_19 : Int32, x_19 = x2 + 1 →
    wp_X12_readPaper_23 D post n S_18 a0 x1 x_19))
def wp_X12_readPaper_0 (D : wD) (post : Int32 → wS → Prop)  (S : wS) (a0 : Nat) : Prop :=
∀ x_1 : Int32, x_1 = (sI S a0 15) →
∃ y_2 : Nat, sR S a0 14 = some y_2 ∧ wM D S y_2 ∧ sK S y_2 = 21 ∧
∃ y_3 : Nat, sR S a0 23 = some y_3 ∧ wM D S y_3 ∧ sK S y_3 = 21 ∧
wp_X12_copies D (fun S_5 => 
∃ n_6 : Nat, wp_X12_readPaper_23 D post n_6 S_5 a0 x_1 (0 : Int32)) S (128 : Int32) y_2 (0 : Int32) y_3 (0 : Int32)
abbrev r_X12_readPaper : Room := { frames := 6, cells := 0, slots := 0, locals := 143 }
def wp_X12_readPaper (D : wD) (post : Int32 → wS → Prop) (S : wS) (a0 : Nat) : Prop := wp_X12_readPaper_0 D post S a0
set_option maxHeartbeats 4000000 in
set_option maxRecDepth 100000 in
theorem t_X12_readPaper_186 {p : Program} {l : Launch} {e : Env} {s : State} {m : MethodId} {args : Array Value} {below : List Frame} {meth : Method} {c : Code} {D : wD} {cy : Nat → ClassId} {X : va_W} {A : Nat → Prop} {S0 : wS} {post : Int32 → wS → Prop} (F : CallFix p m c cX12_readPaper 5 s args wz_X12_readPaper RX12) (hr : meth.sig.returnType = (some .int)) (hlocks : meth.locks = false) (hK : wK D cy A s) {k_161 : wS → Nat → Int32 → Int32 → Prop} (q_161 : ∀ {S : wS} {H : Heap} {locs : List Loc} {ls : Array Slot} {a0 : Nat} {x3 : Int32} {x4 : Int32}, k_161 S a0 x3 x4 → wO D cy X A s.heap S H locs → wX D S0 S → lv_has ls 5 [(0, .ref a0), (3, .int x3), (4, .int x4)] → wM D S a0 → sK S a0 = 17 → W p l e r_X12_readPaper s m args below meth c H locs 0 0 (MQ below (va_Qi (fun r S9 => wX D S0 S9 ∧ post r S9) (wB D cy X A) A) args s 0 0 A) (F0 m 161 ls [])) : ∀ {S : wS} {H : Heap} {locs : List Loc} {ls : Array Slot} {a0 : Nat} {x4 : Int32} {t0 : Int32} {t1 : Int32}, wp_X12_readPaper_186 D post k_161 S a0 x4 t0 t1 → wO D cy X A s.heap S H locs → wX D S0 S → lv_has ls 5 [(0, .ref a0), (4, .int x4)] → wM D S a0 → sK S a0 = 17 → W p l e r_X12_readPaper s m args below meth c H locs 0 0 (MQ below (va_Qi (fun r S9 => wX D S0 S9 ∧ post r S9) (wB D cy X A) A) args s 0 0 A) (F0 m 186 ls [.int t1, .int t0]) := by
  obtain ⟨hx, hb, hml, hown, hts⟩ := id F
  have hwg : ∀ w ∈ WG, w.before args s = true := fun w h => hts w (List.mem_cons_of_mem _ h)
  intro S H locs ls a0 x4 t0 t1 hp hW hE hl hL_a0 hK_a0
  unfold wp_X12_readPaper_186 at hp
  refine lv_iadd hx hb dX12_readPaper_186 ?_
  refine lv_topi (fun x_1 ex_1 => ?_)
  replace hp := hp x_1 ex_1
  refine lv_istore_n (lv' := [(3, .int x_1), (0, .ref a0), (4, .int x4)]) hx hb dX12_readPaper_187 rfl hl (by decide) rfl (fun ls hl => ?_)
  obtain ⟨x_2, ex_2⟩ : ∃ z : Int32, z = x4 + 1 := ⟨_, rfl⟩
  replace hp := hp x_2 ex_2
  refine lv_iinc (v := x_2) (lv' := [(4, .int x_2), (3, .int x_1), (0, .ref a0)]) hx hb dX12_readPaper_188 hl (k := 2) rfl (by rw [ex_2]; rfl) (by decide) rfl (fun ls hl => ?_)
  refine lv_goto (tgt := 161) hx hb dX12_readPaper_191 (by decide) ?_
  exact q_161 hp hW hE (lv_sub hl [2, 1, 0] rfl) hL_a0 hK_a0
set_option maxHeartbeats 4000000 in
set_option maxRecDepth 100000 in
theorem t_X12_readPaper_161 {p : Program} {l : Launch} {e : Env} {s : State} {m : MethodId} {args : Array Value} {below : List Frame} {meth : Method} {c : Code} {D : wD} {cy : Nat → ClassId} {X : va_W} {A : Nat → Prop} {S0 : wS} {post : Int32 → wS → Prop} (F : CallFix p m c cX12_readPaper 5 s args wz_X12_readPaper RX12) (hr : meth.sig.returnType = (some .int)) (hlocks : meth.locks = false) (hK : wK D cy A s) : ∀ (n : Nat) {S : wS} {H : Heap} {locs : List Loc} {ls : Array Slot} {a0 : Nat} {x3 : Int32} {x4 : Int32}, wp_X12_readPaper_161 D post n S a0 x3 x4 → wO D cy X A s.heap S H locs → wX D S0 S → lv_has ls 5 [(0, .ref a0), (3, .int x3), (4, .int x4)] → wM D S a0 → sK S a0 = 17 → W p l e r_X12_readPaper s m args below meth c H locs 0 0 (MQ below (va_Qi (fun r S9 => wX D S0 S9 ∧ post r S9) (wB D cy X A) A) args s 0 0 A) (F0 m 161 ls []) := by
  obtain ⟨hx, hb, hml, hown, hts⟩ := id F
  have hwg : ∀ w ∈ WG, w.before args s = true := fun w h => hts w (List.mem_cons_of_mem _ h)
  have i_17 : ∀ w ∈ u_ws RX12 TX12 43, w ∈ wz_X12_readPaper := fun w h => List.mem_cons_of_mem _ (wu_17 w h)
  have k_32 := hwg _ wf_RX12_32
  intro n
  induction n with
  | zero =>
    intro S H locs ls a0 x3 x4 hp
    exact hp.elim
  | succ n ih =>
    intro S H locs ls a0 x3 x4 hp hW hE hl hL_a0 hK_a0
    unfold wp_X12_readPaper_161 at hp
    refine lv_iload hx hb dX12_readPaper_161 (lv_at hl 2 rfl) ?_
    refine lv_aload_n hx hb dX12_readPaper_163 rfl (lv_at hl 0 rfl) ?_
    refine w_callI (va_runV (As := []) (rest := [.int x4]) F (c_X12_squares l hL_a0 hK_a0 hp H.size) (cwV (C := RX12) 0 hts (wg_V wm_RX12_113 wy_X12_squares) rfl rfl rfl (by decide +kernel) ⟨Nat.le_of_ble_eq_true rfl, Nat.le_of_ble_eq_true rfl⟩) (w_preV hK hW hL_a0 hK_a0 (by decide) rfl) rfl rfl hl.1 rfl (lv_room (Nat.le_of_ble_eq_true rfl)) dX12_readPaper_164 ⟨Nat.le_of_ble_eq_true rfl, Nat.le_of_ble_eq_true rfl⟩) hW (fun r_1 S_2 H locs hp hW => ?_)
    obtain ⟨hX_S_2, hp⟩ := hp
    refine W.widen (k := 0) (n := 0) (by decide) (by decide) ?_
    have hE := hE.trans hX_S_2
    have hK_a0 : sK S_2 a0 = 17 := (hX_S_2.2 a0 hL_a0).1.trans hK_a0
    have hL_a0 : wM D S_2 a0 := hX_S_2.M hL_a0
    refine lv_icmp_ge (tgt := 194) hx hb dX12_readPaper_167 (by decide) (fun c_3 => ?_) (fun c_3 => ?_)
    · replace hp := hp.1 c_3
      refine lv_iload_n hx hb dX12_readPaper_194 rfl (lv_at hl 1 rfl) ?_
      exact w_iret hx hb hr hlocks hW ⟨hE, hp⟩ dX12_readPaper_195
    · replace hp := hp.2 c_3
      refine lv_iload_n hx hb dX12_readPaper_170 rfl (lv_at hl 1 rfl) ?_
      refine lv_aload_n hx hb dX12_readPaper_171 rfl (lv_at hl 0 rfl) ?_
      obtain ⟨y_4, ey_4, hL_y_4, hK_y_4, hp⟩ := hp
      refine w_get (k := 17) (f := 8) (T := TX12) (v := .ref y_4) F hK hW hL_a0 hK_a0 (by decide) rfl rfl (by decide) i_17 k_32 (by rw [show wv 17 8 S_2 a0 = va_rf (sR S_2 a0 8) from rfl, ey_4]; rfl) dX12_readPaper_172 ?_
      refine lv_iload hx hb dX12_readPaper_175 (lv_at hl 2 rfl) ?_
      obtain ⟨h_5, hp⟩ := hp
      refine w_ild F hK hW hL_y_4 hK_y_4 h_5 dX12_readPaper_177 ?_
      refine lv_if_ne (tgt := 185) hx hb dX12_readPaper_178 (by decide) (fun c_6 => ?_) (fun c_6 => ?_)
      · replace hp := hp.1 c_6
        refine lv_iconst (v := 1) hx hb dX12_readPaper_185 (by decide) ?_
        exact t_X12_readPaper_186 F hr hlocks hK ih hp hW hE (lv_sub hl [0, 2] rfl) hL_a0 hK_a0
      · replace hp := hp.2 c_6
        refine lv_iconst (v := 0) hx hb dX12_readPaper_181 (by decide) ?_
        refine lv_goto (tgt := 186) hx hb dX12_readPaper_182 (by decide) ?_
        exact t_X12_readPaper_186 F hr hlocks hK ih hp hW hE (lv_sub hl [0, 2] rfl) hL_a0 hK_a0
set_option maxHeartbeats 4000000 in
set_option maxRecDepth 100000 in
theorem t_X12_readPaper_139 {p : Program} {l : Launch} {e : Env} {s : State} {m : MethodId} {args : Array Value} {below : List Frame} {meth : Method} {c : Code} {D : wD} {cy : Nat → ClassId} {X : va_W} {A : Nat → Prop} {S0 : wS} {post : Int32 → wS → Prop} (F : CallFix p m c cX12_readPaper 5 s args wz_X12_readPaper RX12) (hr : meth.sig.returnType = (some .int)) (hlocks : meth.locks = false) (hK : wK D cy A s) : ∀ {S : wS} {H : Heap} {locs : List Loc} {ls : Array Slot}, wp_X12_readPaper_139 D post S → wO D cy X A s.heap S H locs → wX D S0 S → lv_has ls 5 [] → W p l e r_X12_readPaper s m args below meth c H locs 0 0 (MQ below (va_Qi (fun r S9 => wX D S0 S9 ∧ post r S9) (wB D cy X A) A) args s 0 0 A) (F0 m 139 ls []) := by
  obtain ⟨hx, hb, hml, hown, hts⟩ := id F
  have hwg : ∀ w ∈ WG, w.before args s = true := fun w h => hts w (List.mem_cons_of_mem _ h)
  intro S H locs ls hp hW hE hl
  unfold wp_X12_readPaper_139 at hp
  refine lv_iconst (v := 0) hx hb dX12_readPaper_139 (by decide) ?_
  exact w_iret hx hb hr hlocks hW ⟨hE, hp⟩ dX12_readPaper_140
set_option maxHeartbeats 4000000 in
set_option maxRecDepth 100000 in
theorem t_X12_readPaper_132 {p : Program} {l : Launch} {e : Env} {s : State} {m : MethodId} {args : Array Value} {below : List Frame} {meth : Method} {c : Code} {D : wD} {cy : Nat → ClassId} {X : va_W} {A : Nat → Prop} {S0 : wS} {post : Int32 → wS → Prop} (F : CallFix p m c cX12_readPaper 5 s args wz_X12_readPaper RX12) (hr : meth.sig.returnType = (some .int)) (hlocks : meth.locks = false) (hK : wK D cy A s) : ∀ {S : wS} {H : Heap} {locs : List Loc} {ls : Array Slot} {a0 : Nat} {b0 : Nat} {t1 : Int32}, wp_X12_readPaper_132 D post S a0 b0 t1 → wO D cy X A s.heap S H locs → wX D S0 S → lv_has ls 5 [(0, .ref a0)] → wM D S a0 → sK S a0 = 17 → wM D S b0 → sK S b0 = 17 → W p l e r_X12_readPaper s m args below meth c H locs 0 0 (MQ below (va_Qi (fun r S9 => wX D S0 S9 ∧ post r S9) (wB D cy X A) A) args s 0 0 A) (F0 m 132 ls [.int t1, .ref b0]) := by
  obtain ⟨hx, hb, hml, hown, hts⟩ := id F
  have hwg : ∀ w ∈ WG, w.before args s = true := fun w h => hts w (List.mem_cons_of_mem _ h)
  have i_17 : ∀ w ∈ u_ws RX12 TX12 43, w ∈ wz_X12_readPaper := fun w h => List.mem_cons_of_mem _ (wu_17 w h)
  have k_16 := hwg _ wf_RX12_16
  have k_32 := hwg _ wf_RX12_32
  intro S H locs ls a0 b0 t1 hp hW hE hl hL_a0 hK_a0 hL_b0 hK_b0
  unfold wp_X12_readPaper_132 at hp
  refine lv_iconst (v := 2) hx hb dX12_readPaper_132 (by decide) ?_
  refine w_callI (va_runV (As := [.int t1, .int (2 : Int32)]) (rest := []) F (c_X12_can l hL_b0 hK_b0 hp H.size) (cwV (C := RX12) 2 hts (wg_V wm_RX12_237 wy_X12_can) rfl rfl rfl (by decide +kernel) ⟨Nat.le_of_ble_eq_true rfl, Nat.le_of_ble_eq_true rfl⟩) (w_preV hK hW hL_b0 hK_b0 (by decide) rfl) rfl rfl hl.1 rfl (lv_room (Nat.le_of_ble_eq_true rfl)) dX12_readPaper_133 ⟨Nat.le_of_ble_eq_true rfl, Nat.le_of_ble_eq_true rfl⟩) hW (fun r_1 S_2 H locs hp hW => ?_)
  obtain ⟨hX_S_2, hp⟩ := hp
  refine W.widen (k := 0) (n := 0) (by decide) (by decide) ?_
  have hE := hE.trans hX_S_2
  have hK_a0 : sK S_2 a0 = 17 := (hX_S_2.2 a0 hL_a0).1.trans hK_a0
  have hL_a0 : wM D S_2 a0 := hX_S_2.M hL_a0
  refine lv_if_ne (tgt := 141) hx hb dX12_readPaper_136 (by decide) (fun c_3 => ?_) (fun c_3 => ?_)
  · replace hp := hp.1 c_3
    refine lv_bipush (v := 67) hx hb dX12_readPaper_141 (by decide) ?_
    refine lv_aload_n hx hb dX12_readPaper_143 rfl (lv_at hl 0 rfl) ?_
    obtain ⟨y_4, ey_4, hL_y_4, hK_y_4, hp⟩ := hp
    refine w_get (k := 17) (f := 3) (T := TX12) (v := .ref y_4) F hK hW hL_a0 hK_a0 (by decide) rfl rfl (by decide) i_17 k_16 (by rw [show wv 17 3 S_2 a0 = va_rf (sR S_2 a0 3) from rfl, ey_4]; rfl) dX12_readPaper_144 ?_
    refine lv_iconst (v := 0) hx hb dX12_readPaper_147 (by decide) ?_
    refine lv_aload_n hx hb dX12_readPaper_148 rfl (lv_at hl 0 rfl) ?_
    obtain ⟨y_5, ey_5, hL_y_5, hK_y_5, hp⟩ := hp
    refine w_get (k := 17) (f := 8) (T := TX12) (v := .ref y_5) F hK hW hL_a0 hK_a0 (by decide) rfl rfl (by decide) i_17 k_32 (by rw [show wv 17 8 S_2 a0 = va_rf (sR S_2 a0 8) from rfl, ey_5]; rfl) dX12_readPaper_149 ?_
    refine lv_iconst (v := 0) hx hb dX12_readPaper_152 (by decide) ?_
    refine w_callV (va_runS (As := [.int (67 : Int32), .ref y_4, .int (0 : Int32), .ref y_5, .int (0 : Int32)]) (rest := []) F (c_X12_copies l hL_y_4 hK_y_4 hL_y_5 hK_y_5 hp H.size) (va_cwS 5 hts (wg_S wm_RX12_130 wy_X12_copies) rfl rfl rfl (by decide +kernel) ⟨Nat.le_of_ble_eq_true rfl, Nat.le_of_ble_eq_true rfl⟩) (w_preS hK hW) rfl rfl hl.1 rfl (lv_room (Nat.le_of_ble_eq_true rfl)) dX12_readPaper_153 ⟨Nat.le_of_ble_eq_true rfl, Nat.le_of_ble_eq_true rfl⟩) hW (fun S_7 H locs hp hW => ?_)
    obtain ⟨hX_S_7, hp⟩ := hp
    refine W.widen (k := 0) (n := 0) (by decide) (by decide) ?_
    have hE := hE.trans hX_S_7
    have hK_a0 : sK S_7 a0 = 17 := (hX_S_7.2 a0 hL_a0).1.trans hK_a0
    have hL_a0 : wM D S_7 a0 := hX_S_7.M hL_a0
    refine lv_iconst (v := 0) hx hb dX12_readPaper_156 (by decide) ?_
    refine lv_istore_n (lv' := [(3, .int (0 : Int32)), (0, .ref a0)]) hx hb dX12_readPaper_157 rfl hl (by decide) rfl (fun ls hl => ?_)
    refine lv_iconst (v := 0) hx hb dX12_readPaper_158 (by decide) ?_
    refine lv_istore (lv' := [(4, .int (0 : Int32)), (3, .int (0 : Int32)), (0, .ref a0)]) hx hb dX12_readPaper_159 hl (by decide) rfl (fun ls hl => ?_)
    obtain ⟨n_8, hp⟩ := hp
    exact t_X12_readPaper_161 F hr hlocks hK n_8 hp hW hE (lv_sub hl [2, 1, 0] rfl) hL_a0 hK_a0
  · replace hp := hp.2 c_3
    exact t_X12_readPaper_139 F hr hlocks hK hp hW hE (lv_sub hl [] rfl)
set_option maxHeartbeats 4000000 in
set_option maxRecDepth 100000 in
theorem t_X12_readPaper_84 {p : Program} {l : Launch} {e : Env} {s : State} {m : MethodId} {args : Array Value} {below : List Frame} {meth : Method} {c : Code} {D : wD} {cy : Nat → ClassId} {X : va_W} {A : Nat → Prop} {S0 : wS} {post : Int32 → wS → Prop} (F : CallFix p m c cX12_readPaper 5 s args wz_X12_readPaper RX12) (hr : meth.sig.returnType = (some .int)) (hlocks : meth.locks = false) (hK : wK D cy A s) : ∀ {S : wS} {H : Heap} {locs : List Loc} {ls : Array Slot} {a0 : Nat} {x1 : Int32} {x2 : Int32}, wp_X12_readPaper_84 D post S a0 x1 x2 → wO D cy X A s.heap S H locs → wX D S0 S → lv_has ls 5 [(0, .ref a0), (1, .int x1), (2, .int x2)] → wM D S a0 → sK S a0 = 17 → W p l e r_X12_readPaper s m args below meth c H locs 0 0 (MQ below (va_Qi (fun r S9 => wX D S0 S9 ∧ post r S9) (wB D cy X A) A) args s 0 0 A) (F0 m 84 ls []) := by
  obtain ⟨hx, hb, hml, hown, hts⟩ := id F
  have hwg : ∀ w ∈ WG, w.before args s = true := fun w h => hts w (List.mem_cons_of_mem _ h)
  have i_17 : ∀ w ∈ u_ws RX12 TX12 43, w ∈ wz_X12_readPaper := fun w h => List.mem_cons_of_mem _ (wu_17 w h)
  have k_121 := hwg _ wf_RX12_121
  have k_244 := hwg _ wf_RX12_244
  have k_259 := hwg _ wf_RX12_259
  have k_45 := hwg _ wf_RX12_45
  have k_66 := hwg _ wf_RX12_66
  intro S H locs ls a0 x1 x2 hp hW hE hl hL_a0 hK_a0
  unfold wp_X12_readPaper_84 at hp
  refine lv_sipush (v := 128) hx hb dX12_readPaper_84 (by decide) ?_
  refine lv_aload_n hx hb dX12_readPaper_87 rfl (lv_at hl 0 rfl) ?_
  obtain ⟨y_1, ey_1, hL_y_1, hK_y_1, hp⟩ := hp
  refine w_get (k := 17) (f := 23) (T := TX12) (v := .ref y_1) F hK hW hL_a0 hK_a0 (by decide) rfl rfl (by decide) i_17 k_66 (by rw [show wv 17 23 S a0 = va_rf (sR S a0 23) from rfl, ey_1]; rfl) dX12_readPaper_88 ?_
  refine lv_iconst (v := 0) hx hb dX12_readPaper_91 (by decide) ?_
  refine lv_aload_n hx hb dX12_readPaper_92 rfl (lv_at hl 0 rfl) ?_
  obtain ⟨y_2, ey_2, hL_y_2, hK_y_2, hp⟩ := hp
  refine w_get (k := 17) (f := 14) (T := TX12) (v := .ref y_2) F hK hW hL_a0 hK_a0 (by decide) rfl rfl (by decide) i_17 k_45 (by rw [show wv 17 14 S a0 = va_rf (sR S a0 14) from rfl, ey_2]; rfl) dX12_readPaper_93 ?_
  refine lv_iconst (v := 0) hx hb dX12_readPaper_96 (by decide) ?_
  refine w_callV (va_runS (As := [.int (128 : Int32), .ref y_1, .int (0 : Int32), .ref y_2, .int (0 : Int32)]) (rest := []) F (c_X12_copies l hL_y_1 hK_y_1 hL_y_2 hK_y_2 hp H.size) (va_cwS 5 hts (wg_S wm_RX12_130 wy_X12_copies) rfl rfl rfl (by decide +kernel) ⟨Nat.le_of_ble_eq_true rfl, Nat.le_of_ble_eq_true rfl⟩) (w_preS hK hW) rfl rfl hl.1 rfl (lv_room (Nat.le_of_ble_eq_true rfl)) dX12_readPaper_97 ⟨Nat.le_of_ble_eq_true rfl, Nat.le_of_ble_eq_true rfl⟩) hW (fun S_4 H locs hp hW => ?_)
  obtain ⟨hX_S_4, hp⟩ := hp
  refine W.widen (k := 0) (n := 0) (by decide) (by decide) ?_
  have hE := hE.trans hX_S_4
  have hK_a0 : sK S_4 a0 = 17 := (hX_S_4.2 a0 hL_a0).1.trans hK_a0
  have hL_a0 : wM D S_4 a0 := hX_S_4.M hL_a0
  refine lv_aload_n hx hb dX12_readPaper_100 rfl (lv_at hl 0 rfl) ?_
  refine lv_iload_n hx hb dX12_readPaper_101 rfl (lv_at hl 1 rfl) ?_
  refine w_putI (k := 17) (f := 15) (T := TX12) F hK hW hL_a0 hK_a0 (by decide) (by decide) rfl rfl (by decide) i_17 tyX12 tyX12_ok nmX12 k_244 rfl rfl (ty := .int) rfl rfl rfl dX12_readPaper_102 (fun H locs hW => ?_)
  obtain ⟨S_5, eS_5⟩ : ∃ z : wS, z = uI S_4 a0 15 x1 := ⟨_, rfl⟩
  rw [← eS_5] at hW
  replace hp := hp S_5 eS_5
  have hX_S_5 : wX D S_4 S_5 := by rw [eS_5]; exact wX_uI
  have hE := hE.trans hX_S_5
  have hK_a0 : sK S_5 a0 = 17 := (hX_S_5.2 a0 hL_a0).1.trans hK_a0
  have hL_a0 : wM D S_5 a0 := hX_S_5.M hL_a0
  refine lv_aload_n hx hb dX12_readPaper_105 rfl (lv_at hl 0 rfl) ?_
  refine lv_iconst (v := 0) hx hb dX12_readPaper_106 (by decide) ?_
  refine w_putI (k := 17) (f := 13) (T := TX12) F hK hW hL_a0 hK_a0 (by decide) (by decide) rfl rfl (by decide) i_17 tyX12 tyX12_ok nmX12 k_259 rfl rfl (ty := .int) rfl rfl rfl dX12_readPaper_107 (fun H locs hW => ?_)
  obtain ⟨S_6, eS_6⟩ : ∃ z : wS, z = uI S_5 a0 13 (0 : Int32) := ⟨_, rfl⟩
  rw [← eS_6] at hW
  replace hp := hp S_6 eS_6
  have hX_S_6 : wX D S_5 S_6 := by rw [eS_6]; exact wX_uI
  have hE := hE.trans hX_S_6
  have hK_a0 : sK S_6 a0 = 17 := (hX_S_6.2 a0 hL_a0).1.trans hK_a0
  have hL_a0 : wM D S_6 a0 := hX_S_6.M hL_a0
  refine lv_aload_n hx hb dX12_readPaper_110 rfl (lv_at hl 0 rfl) ?_
  refine lv_iload_n hx hb dX12_readPaper_111 rfl (lv_at hl 2 rfl) ?_
  refine lv_iconst (v := 1) hx hb dX12_readPaper_112 (by decide) ?_
  refine w_callI (va_runV (As := [.int x2, .int (1 : Int32)]) (rest := []) F (c_X12_can l hL_a0 hK_a0 hp H.size) (cwV (C := RX12) 2 hts (wg_V wm_RX12_237 wy_X12_can) rfl rfl rfl (by decide +kernel) ⟨Nat.le_of_ble_eq_true rfl, Nat.le_of_ble_eq_true rfl⟩) (w_preV hK hW hL_a0 hK_a0 (by decide) rfl) rfl rfl hl.1 rfl (lv_room (Nat.le_of_ble_eq_true rfl)) dX12_readPaper_113 ⟨Nat.le_of_ble_eq_true rfl, Nat.le_of_ble_eq_true rfl⟩) hW (fun r_7 S_8 H locs hp hW => ?_)
  obtain ⟨hX_S_8, hp⟩ := hp
  refine W.widen (k := 0) (n := 0) (by decide) (by decide) ?_
  have hE := hE.trans hX_S_8
  have hK_a0 : sK S_8 a0 = 17 := (hX_S_8.2 a0 hL_a0).1.trans hK_a0
  have hL_a0 : wM D S_8 a0 := hX_S_8.M hL_a0
  refine lv_if_eq (tgt := 139) hx hb dX12_readPaper_116 (by decide) (fun c_9 => ?_) (fun c_9 => ?_)
  · replace hp := hp.1 c_9
    exact t_X12_readPaper_139 F hr hlocks hK hp hW hE (lv_sub hl [] rfl)
  · replace hp := hp.2 c_9
    refine lv_aload_n hx hb dX12_readPaper_119 rfl (lv_at hl 0 rfl) ?_
    refine lv_aload_n hx hb dX12_readPaper_120 rfl (lv_at hl 0 rfl) ?_
    refine w_get (k := 17) (f := 11) (T := TX12) (v := .int (sI S_8 a0 11)) F hK hW hL_a0 hK_a0 (by decide) rfl rfl (by decide) i_17 k_121 rfl dX12_readPaper_121 ?_
    refine lv_if_ne (tgt := 131) hx hb dX12_readPaper_124 (by decide) (fun c_10 => ?_) (fun c_10 => ?_)
    · replace hp := hp.1 c_10
      refine lv_iconst (v := 0) hx hb dX12_readPaper_131 (by decide) ?_
      exact t_X12_readPaper_132 F hr hlocks hK hp hW hE (lv_sub hl [0] rfl) hL_a0 hK_a0 hL_a0 hK_a0
    · replace hp := hp.2 c_10
      refine lv_iconst (v := 1) hx hb dX12_readPaper_127 (by decide) ?_
      refine lv_goto (tgt := 132) hx hb dX12_readPaper_128 (by decide) ?_
      exact t_X12_readPaper_132 F hr hlocks hK hp hW hE (lv_sub hl [0] rfl) hL_a0 hK_a0 hL_a0 hK_a0
set_option maxHeartbeats 4000000 in
set_option maxRecDepth 100000 in
theorem t_X12_readPaper_83 {p : Program} {l : Launch} {e : Env} {s : State} {m : MethodId} {args : Array Value} {below : List Frame} {meth : Method} {c : Code} {D : wD} {cy : Nat → ClassId} {X : va_W} {A : Nat → Prop} {S0 : wS} {post : Int32 → wS → Prop} (F : CallFix p m c cX12_readPaper 5 s args wz_X12_readPaper RX12) (hr : meth.sig.returnType = (some .int)) (hlocks : meth.locks = false) (hK : wK D cy A s) : ∀ {S : wS} {H : Heap} {locs : List Loc} {ls : Array Slot} {a0 : Nat} {x1 : Int32} {t0 : Int32}, wp_X12_readPaper_83 D post S a0 x1 t0 → wO D cy X A s.heap S H locs → wX D S0 S → lv_has ls 5 [(0, .ref a0), (1, .int x1)] → wM D S a0 → sK S a0 = 17 → W p l e r_X12_readPaper s m args below meth c H locs 0 0 (MQ below (va_Qi (fun r S9 => wX D S0 S9 ∧ post r S9) (wB D cy X A) A) args s 0 0 A) (F0 m 83 ls [.int t0]) := by
  obtain ⟨hx, hb, hml, hown, hts⟩ := id F
  have hwg : ∀ w ∈ WG, w.before args s = true := fun w h => hts w (List.mem_cons_of_mem _ h)
  intro S H locs ls a0 x1 t0 hp hW hE hl hL_a0 hK_a0
  unfold wp_X12_readPaper_83 at hp
  refine lv_istore_n (lv' := [(2, .int t0), (0, .ref a0), (1, .int x1)]) hx hb dX12_readPaper_83 rfl hl (by decide) rfl (fun ls hl => ?_)
  exact t_X12_readPaper_84 F hr hlocks hK hp hW hE (lv_sub hl [1, 2, 0] rfl) hL_a0 hK_a0
set_option maxHeartbeats 4000000 in
set_option maxRecDepth 100000 in
theorem t_X12_readPaper_82 {p : Program} {l : Launch} {e : Env} {s : State} {m : MethodId} {args : Array Value} {below : List Frame} {meth : Method} {c : Code} {D : wD} {cy : Nat → ClassId} {X : va_W} {A : Nat → Prop} {S0 : wS} {post : Int32 → wS → Prop} (F : CallFix p m c cX12_readPaper 5 s args wz_X12_readPaper RX12) (hr : meth.sig.returnType = (some .int)) (hlocks : meth.locks = false) (hK : wK D cy A s) : ∀ {S : wS} {H : Heap} {locs : List Loc} {ls : Array Slot} {a0 : Nat} {x1 : Int32}, wp_X12_readPaper_82 D post S a0 x1 → wO D cy X A s.heap S H locs → wX D S0 S → lv_has ls 5 [(0, .ref a0), (1, .int x1)] → wM D S a0 → sK S a0 = 17 → W p l e r_X12_readPaper s m args below meth c H locs 0 0 (MQ below (va_Qi (fun r S9 => wX D S0 S9 ∧ post r S9) (wB D cy X A) A) args s 0 0 A) (F0 m 82 ls []) := by
  obtain ⟨hx, hb, hml, hown, hts⟩ := id F
  have hwg : ∀ w ∈ WG, w.before args s = true := fun w h => hts w (List.mem_cons_of_mem _ h)
  intro S H locs ls a0 x1 hp hW hE hl hL_a0 hK_a0
  unfold wp_X12_readPaper_82 at hp
  refine lv_iconst (v := 0) hx hb dX12_readPaper_82 (by decide) ?_
  exact t_X12_readPaper_83 F hr hlocks hK hp hW hE (lv_sub hl [0, 1] rfl) hL_a0 hK_a0
set_option maxHeartbeats 4000000 in
set_option maxRecDepth 100000 in
theorem t_X12_readPaper_23 {p : Program} {l : Launch} {e : Env} {s : State} {m : MethodId} {args : Array Value} {below : List Frame} {meth : Method} {c : Code} {D : wD} {cy : Nat → ClassId} {X : va_W} {A : Nat → Prop} {S0 : wS} {post : Int32 → wS → Prop} (F : CallFix p m c cX12_readPaper 5 s args wz_X12_readPaper RX12) (hr : meth.sig.returnType = (some .int)) (hlocks : meth.locks = false) (hK : wK D cy A s) : ∀ (n : Nat) {S : wS} {H : Heap} {locs : List Loc} {ls : Array Slot} {a0 : Nat} {x1 : Int32} {x2 : Int32}, wp_X12_readPaper_23 D post n S a0 x1 x2 → wO D cy X A s.heap S H locs → wX D S0 S → lv_has ls 5 [(0, .ref a0), (1, .int x1), (2, .int x2)] → wM D S a0 → sK S a0 = 17 → W p l e r_X12_readPaper s m args below meth c H locs 0 0 (MQ below (va_Qi (fun r S9 => wX D S0 S9 ∧ post r S9) (wB D cy X A) A) args s 0 0 A) (F0 m 23 ls []) := by
  obtain ⟨hx, hb, hml, hown, hts⟩ := id F
  have hwg : ∀ w ∈ WG, w.before args s = true := fun w h => hts w (List.mem_cons_of_mem _ h)
  have i_17 : ∀ w ∈ u_ws RX12 TX12 43, w ∈ wz_X12_readPaper := fun w h => List.mem_cons_of_mem _ (wu_17 w h)
  have k_16 := hwg _ wf_RX12_16
  intro n
  induction n with
  | zero =>
    intro S H locs ls a0 x1 x2 hp
    exact hp.elim
  | succ n ih =>
    intro S H locs ls a0 x1 x2 hp hW hE hl hL_a0 hK_a0
    unfold wp_X12_readPaper_23 at hp
    refine lv_iload_n hx hb dX12_readPaper_23 rfl (lv_at hl 2 rfl) ?_
    refine lv_bipush (v := 67) hx hb dX12_readPaper_24 (by decide) ?_
    refine lv_icmp_ge (tgt := 42) hx hb dX12_readPaper_26 (by decide) (fun c_1 => ?_) (fun c_1 => ?_)
    · replace hp := hp.1 c_1
      refine lv_aload_n hx hb dX12_readPaper_42 rfl (lv_at hl 0 rfl) ?_
      refine w_callI (va_runV (As := []) (rest := []) F (c_X12_readsSquares l hL_a0 hK_a0 hp H.size) (cwV (C := RX12) 0 hts (wg_V wm_RX12_271 wy_X12_readsSquares) rfl rfl rfl (by decide +kernel) ⟨Nat.le_of_ble_eq_true rfl, Nat.le_of_ble_eq_true rfl⟩) (w_preV hK hW hL_a0 hK_a0 (by decide) rfl) rfl rfl hl.1 rfl (lv_room (Nat.le_of_ble_eq_true rfl)) dX12_readPaper_43 ⟨Nat.le_of_ble_eq_true rfl, Nat.le_of_ble_eq_true rfl⟩) hW (fun r_2 S_3 H locs hp hW => ?_)
      obtain ⟨hX_S_3, hp⟩ := hp
      refine W.widen (k := 0) (n := 0) (by decide) (by decide) ?_
      have hE := hE.trans hX_S_3
      have hK_a0 : sK S_3 a0 = 17 := (hX_S_3.2 a0 hL_a0).1.trans hK_a0
      have hL_a0 : wM D S_3 a0 := hX_S_3.M hL_a0
      refine lv_istore_n (lv' := [(2, .int r_2), (0, .ref a0), (1, .int x1)]) hx hb dX12_readPaper_46 rfl hl (by decide) rfl (fun ls hl => ?_)
      refine lv_iload_n hx hb dX12_readPaper_47 rfl (lv_at hl 0 rfl) ?_
      refine lv_if_eq (tgt := 84) hx hb dX12_readPaper_48 (by decide) (fun c_4 => ?_) (fun c_4 => ?_)
      · replace hp := hp.1 c_4
        exact t_X12_readPaper_84 F hr hlocks hK hp hW hE (lv_sub hl [1, 2, 0] rfl) hL_a0 hK_a0
      · replace hp := hp.2 c_4
        refine lv_aload_n hx hb dX12_readPaper_51 rfl (lv_at hl 1 rfl) ?_
        refine w_callV (va_runV (As := []) (rest := []) F (c_X12_readsRest l hL_a0 hK_a0 hp H.size) (cwV (C := RX12) 0 hts (wg_V wm_RX12_275 wy_X12_readsRest) rfl rfl rfl (by decide +kernel) ⟨Nat.le_of_ble_eq_true rfl, Nat.le_of_ble_eq_true rfl⟩) (w_preV hK hW hL_a0 hK_a0 (by decide) rfl) rfl rfl hl.1 rfl (lv_room (Nat.le_of_ble_eq_true rfl)) dX12_readPaper_52 ⟨Nat.le_of_ble_eq_true rfl, Nat.le_of_ble_eq_true rfl⟩) hW (fun S_6 H locs hp hW => ?_)
        obtain ⟨hX_S_6, hp⟩ := hp
        refine W.widen (k := 0) (n := 0) (by decide) (by decide) ?_
        have hE := hE.trans hX_S_6
        have hK_a0 : sK S_6 a0 = 17 := (hX_S_6.2 a0 hL_a0).1.trans hK_a0
        have hL_a0 : wM D S_6 a0 := hX_S_6.M hL_a0
        refine lv_aload_n hx hb dX12_readPaper_55 rfl (lv_at hl 1 rfl) ?_
        refine w_callI (va_runV (As := []) (rest := []) F (c_X12_isAsWritten l hL_a0 hK_a0 hp H.size) (cwV (C := RX12) 0 hts (wg_V wm_RX12_278 wy_X12_isAsWritten) rfl rfl rfl (by decide +kernel) ⟨Nat.le_of_ble_eq_true rfl, Nat.le_of_ble_eq_true rfl⟩) (w_preV hK hW hL_a0 hK_a0 (by decide) rfl) rfl rfl hl.1 rfl (lv_room (Nat.le_of_ble_eq_true rfl)) dX12_readPaper_56 ⟨Nat.le_of_ble_eq_true rfl, Nat.le_of_ble_eq_true rfl⟩) hW (fun r_7 S_8 H locs hp hW => ?_)
        obtain ⟨hX_S_8, hp⟩ := hp
        refine W.widen (k := 0) (n := 0) (by decide) (by decide) ?_
        have hE := hE.trans hX_S_8
        have hK_a0 : sK S_8 a0 = 17 := (hX_S_8.2 a0 hL_a0).1.trans hK_a0
        have hL_a0 : wM D S_8 a0 := hX_S_8.M hL_a0
        refine lv_if_eq (tgt := 82) hx hb dX12_readPaper_59 (by decide) (fun c_9 => ?_) (fun c_9 => ?_)
        · replace hp := hp.1 c_9
          exact t_X12_readPaper_82 F hr hlocks hK hp hW hE (lv_sub hl [1, 2] rfl) hL_a0 hK_a0
        · replace hp := hp.2 c_9
          refine lv_aload_n hx hb dX12_readPaper_62 rfl (lv_at hl 1 rfl) ?_
          refine lv_iconst (v := 0) hx hb dX12_readPaper_63 (by decide) ?_
          refine w_callI (va_runV (As := [.int (0 : Int32)]) (rest := []) F (c_X12_isProperAt l hL_a0 hK_a0 hp H.size) (cwV (C := RX12) 1 hts (wg_V wm_RX12_189 wy_X12_isProperAt) rfl rfl rfl (by decide +kernel) ⟨Nat.le_of_ble_eq_true rfl, Nat.le_of_ble_eq_true rfl⟩) (w_preV hK hW hL_a0 hK_a0 (by decide) rfl) rfl rfl hl.1 rfl (lv_room (Nat.le_of_ble_eq_true rfl)) dX12_readPaper_64 ⟨Nat.le_of_ble_eq_true rfl, Nat.le_of_ble_eq_true rfl⟩) hW (fun r_10 S_11 H locs hp hW => ?_)
          obtain ⟨hX_S_11, hp⟩ := hp
          refine W.widen (k := 0) (n := 0) (by decide) (by decide) ?_
          have hE := hE.trans hX_S_11
          have hK_a0 : sK S_11 a0 = 17 := (hX_S_11.2 a0 hL_a0).1.trans hK_a0
          have hL_a0 : wM D S_11 a0 := hX_S_11.M hL_a0
          refine lv_if_eq (tgt := 82) hx hb dX12_readPaper_67 (by decide) (fun c_12 => ?_) (fun c_12 => ?_)
          · replace hp := hp.1 c_12
            exact t_X12_readPaper_82 F hr hlocks hK hp hW hE (lv_sub hl [1, 2] rfl) hL_a0 hK_a0
          · replace hp := hp.2 c_12
            refine lv_aload_n hx hb dX12_readPaper_70 rfl (lv_at hl 1 rfl) ?_
            refine lv_iconst (v := 0) hx hb dX12_readPaper_71 (by decide) ?_
            refine w_callI (va_runV (As := [.int (0 : Int32)]) (rest := []) F (c_X12_isPassingRight l hL_a0 hK_a0 hp H.size) (cwV (C := RX12) 1 hts (wg_V wm_RX12_281 wy_X12_isPassingRight) rfl rfl rfl (by decide +kernel) ⟨Nat.le_of_ble_eq_true rfl, Nat.le_of_ble_eq_true rfl⟩) (w_preV hK hW hL_a0 hK_a0 (by decide) rfl) rfl rfl hl.1 rfl (lv_room (Nat.le_of_ble_eq_true rfl)) dX12_readPaper_72 ⟨Nat.le_of_ble_eq_true rfl, Nat.le_of_ble_eq_true rfl⟩) hW (fun r_13 S_14 H locs hp hW => ?_)
            obtain ⟨hX_S_14, hp⟩ := hp
            refine W.widen (k := 0) (n := 0) (by decide) (by decide) ?_
            have hE := hE.trans hX_S_14
            have hK_a0 : sK S_14 a0 = 17 := (hX_S_14.2 a0 hL_a0).1.trans hK_a0
            have hL_a0 : wM D S_14 a0 := hX_S_14.M hL_a0
            refine lv_if_eq (tgt := 82) hx hb dX12_readPaper_75 (by decide) (fun c_15 => ?_) (fun c_15 => ?_)
            · replace hp := hp.1 c_15
              exact t_X12_readPaper_82 F hr hlocks hK hp hW hE (lv_sub hl [1, 2] rfl) hL_a0 hK_a0
            · replace hp := hp.2 c_15
              refine lv_iconst (v := 1) hx hb dX12_readPaper_78 (by decide) ?_
              refine lv_goto (tgt := 83) hx hb dX12_readPaper_79 (by decide) ?_
              exact t_X12_readPaper_83 F hr hlocks hK hp hW hE (lv_sub hl [1, 2] rfl) hL_a0 hK_a0
    · replace hp := hp.2 c_1
      refine lv_aload_n hx hb dX12_readPaper_29 rfl (lv_at hl 0 rfl) ?_
      obtain ⟨y_16, ey_16, hL_y_16, hK_y_16, hp⟩ := hp
      refine w_get (k := 17) (f := 3) (T := TX12) (v := .ref y_16) F hK hW hL_a0 hK_a0 (by decide) rfl rfl (by decide) i_17 k_16 (by rw [show wv 17 3 S a0 = va_rf (sR S a0 3) from rfl, ey_16]; rfl) dX12_readPaper_30 ?_
      refine lv_iload_n hx hb dX12_readPaper_33 rfl (lv_at hl 2 rfl) ?_
      refine lv_iconst (v := 0) hx hb dX12_readPaper_34 (by decide) ?_
      obtain ⟨h_17m, h_17, hp⟩ := hp
      refine w_ist F hK hW h_17m hK_y_16 h_17 dX12_readPaper_35 (fun H locs hW => ?_)
      obtain ⟨S_18, eS_18⟩ : ∃ z : wS, z = uI S y_16 (x2).toNatClampNeg (0 : Int32) := ⟨_, rfl⟩
      rw [← eS_18] at hW
      replace hp := hp S_18 eS_18
      have hX_S_18 : wX D S S_18 := by rw [eS_18]; exact wX_uI
      have hE := hE.trans hX_S_18
      have hK_a0 : sK S_18 a0 = 17 := (hX_S_18.2 a0 hL_a0).1.trans hK_a0
      have hL_a0 : wM D S_18 a0 := hX_S_18.M hL_a0
      obtain ⟨x_19, ex_19⟩ : ∃ z : Int32, z = x2 + 1 := ⟨_, rfl⟩
      replace hp := hp x_19 ex_19
      refine lv_iinc (v := x_19) (lv' := [(2, .int x_19), (0, .ref a0), (1, .int x1)]) hx hb dX12_readPaper_36 hl (k := 2) rfl (by rw [ex_19]; rfl) (by decide) rfl (fun ls hl => ?_)
      refine lv_goto (tgt := 23) hx hb dX12_readPaper_39 (by decide) ?_
      exact ih hp hW hE (lv_sub hl [1, 2, 0] rfl) hL_a0 hK_a0
set_option maxHeartbeats 4000000 in
set_option maxRecDepth 100000 in
theorem t_X12_readPaper_0 {p : Program} {l : Launch} {e : Env} {s : State} {m : MethodId} {args : Array Value} {below : List Frame} {meth : Method} {c : Code} {D : wD} {cy : Nat → ClassId} {X : va_W} {A : Nat → Prop} {S0 : wS} {post : Int32 → wS → Prop} (F : CallFix p m c cX12_readPaper 5 s args wz_X12_readPaper RX12) (hr : meth.sig.returnType = (some .int)) (hlocks : meth.locks = false) (hK : wK D cy A s) : ∀ {S : wS} {H : Heap} {locs : List Loc} {ls : Array Slot} {a0 : Nat}, wp_X12_readPaper_0 D post S a0 → wO D cy X A s.heap S H locs → wX D S0 S → lv_has ls 5 [(0, .ref a0)] → wM D S a0 → sK S a0 = 17 → W p l e r_X12_readPaper s m args below meth c H locs 0 0 (MQ below (va_Qi (fun r S9 => wX D S0 S9 ∧ post r S9) (wB D cy X A) A) args s 0 0 A) (F0 m 0 ls []) := by
  obtain ⟨hx, hb, hml, hown, hts⟩ := id F
  have hwg : ∀ w ∈ WG, w.before args s = true := fun w h => hts w (List.mem_cons_of_mem _ h)
  have i_17 : ∀ w ∈ u_ws RX12 TX12 43, w ∈ wz_X12_readPaper := fun w h => List.mem_cons_of_mem _ (wu_17 w h)
  have k_244 := hwg _ wf_RX12_244
  have k_45 := hwg _ wf_RX12_45
  have k_66 := hwg _ wf_RX12_66
  intro S H locs ls a0 hp hW hE hl hL_a0 hK_a0
  unfold wp_X12_readPaper_0 at hp
  refine lv_aload_n hx hb dX12_readPaper_0 rfl (lv_at hl 0 rfl) ?_
  refine w_get (k := 17) (f := 15) (T := TX12) (v := .int (sI S a0 15)) F hK hW hL_a0 hK_a0 (by decide) rfl rfl (by decide) i_17 k_244 rfl dX12_readPaper_1 ?_
  refine lv_topi (fun x_1 ex_1 => ?_)
  replace hp := hp x_1 ex_1
  refine lv_istore_n (lv' := [(1, .int x_1), (0, .ref a0)]) hx hb dX12_readPaper_4 rfl hl (by decide) rfl (fun ls hl => ?_)
  refine lv_sipush (v := 128) hx hb dX12_readPaper_5 (by decide) ?_
  refine lv_aload_n hx hb dX12_readPaper_8 rfl (lv_at hl 1 rfl) ?_
  obtain ⟨y_2, ey_2, hL_y_2, hK_y_2, hp⟩ := hp
  refine w_get (k := 17) (f := 14) (T := TX12) (v := .ref y_2) F hK hW hL_a0 hK_a0 (by decide) rfl rfl (by decide) i_17 k_45 (by rw [show wv 17 14 S a0 = va_rf (sR S a0 14) from rfl, ey_2]; rfl) dX12_readPaper_9 ?_
  refine lv_iconst (v := 0) hx hb dX12_readPaper_12 (by decide) ?_
  refine lv_aload_n hx hb dX12_readPaper_13 rfl (lv_at hl 1 rfl) ?_
  obtain ⟨y_3, ey_3, hL_y_3, hK_y_3, hp⟩ := hp
  refine w_get (k := 17) (f := 23) (T := TX12) (v := .ref y_3) F hK hW hL_a0 hK_a0 (by decide) rfl rfl (by decide) i_17 k_66 (by rw [show wv 17 23 S a0 = va_rf (sR S a0 23) from rfl, ey_3]; rfl) dX12_readPaper_14 ?_
  refine lv_iconst (v := 0) hx hb dX12_readPaper_17 (by decide) ?_
  refine w_callV (va_runS (As := [.int (128 : Int32), .ref y_2, .int (0 : Int32), .ref y_3, .int (0 : Int32)]) (rest := []) F (c_X12_copies l hL_y_2 hK_y_2 hL_y_3 hK_y_3 hp H.size) (va_cwS 5 hts (wg_S wm_RX12_130 wy_X12_copies) rfl rfl rfl (by decide +kernel) ⟨Nat.le_of_ble_eq_true rfl, Nat.le_of_ble_eq_true rfl⟩) (w_preS hK hW) rfl rfl hl.1 rfl (lv_room (Nat.le_of_ble_eq_true rfl)) dX12_readPaper_18 ⟨Nat.le_of_ble_eq_true rfl, Nat.le_of_ble_eq_true rfl⟩) hW (fun S_5 H locs hp hW => ?_)
  obtain ⟨hX_S_5, hp⟩ := hp
  refine W.widen (k := 0) (n := 0) (by decide) (by decide) ?_
  have hE := hE.trans hX_S_5
  have hK_a0 : sK S_5 a0 = 17 := (hX_S_5.2 a0 hL_a0).1.trans hK_a0
  have hL_a0 : wM D S_5 a0 := hX_S_5.M hL_a0
  refine lv_iconst (v := 0) hx hb dX12_readPaper_21 (by decide) ?_
  refine lv_istore_n (lv' := [(2, .int (0 : Int32)), (1, .int x_1), (0, .ref a0)]) hx hb dX12_readPaper_22 rfl hl (by decide) rfl (fun ls hl => ?_)
  obtain ⟨n_6, hp⟩ := hp
  exact t_X12_readPaper_23 F hr hlocks hK n_6 hp hW hE (lv_sub hl [2, 1, 0] rfl) hL_a0 hK_a0
set_option maxHeartbeats 4000000 in
set_option maxRecDepth 100000 in
theorem c_X12_readPaper (l : Launch) {D : wD} {cy : Nat → ClassId} {X : va_W} {S0 : wS} {post : Int32 → wS → Prop} {a0 : Nat} (hL_a0 : wM D S0 a0) (hK_a0 : sK S0 a0 = 17) (hp : wp_X12_readPaper D post S0 a0) : mI D cy X l yX12_readPaper wz_X12_readPaper r_X12_readPaper [.ref a0] S0 (fun r S9 => wX D S0 S9 ∧ post r S9) := by
  intro sz
  refine Met.ofW (cc := cX12_readPaper) (maxL := 5) (ret := (some .int)) (by decide) rfl ?_
  intro p e s m args below meth c s₁ B hml hv
  obtain ⟨rfl, hsz, hP, hK, hD0, hRO⟩ := hv
  have hts := atoms_spec (ws := wz_X12_readPaper) B.pre
  have hown : s.vm.findClass RX12 = some m.cls := findClass_of_methodNamed B.named
  subst hsz
  have hD := hD0.self (sz := s.heap.size)
  have F : CallFix p m c cX12_readPaper 5 s _ wz_X12_readPaper RX12 := ⟨B.exec, B.bytes, hml, hown, hts⟩
  have hr := B.returns
  have hlocks := B.notSynchronized
  generalize hAe : va_A (wL cy X S0) s.heap.size = A at hD hK ⊢
  have hA : ∀ q, s.heap.size ≤ q → A q := fun q h => by rw [← hAe]; exact Or.inr h
  have hW : wO D cy X A s.heap S0 s.heap [] := ⟨hP, hD, va_S.rf, hA, hRO⟩
  have hl := lv_entry ([.ref a0]) (n := 5) (Nat.le_of_ble_eq_true rfl)
  rw [lg_entry_eq]
  generalize (lg_sl ([.ref a0]) ++ List.replicate (5 - (lg_sl ([.ref a0])).length) Slot.unset).toArray = ls at hl ⊢
  have hl : lv_has ls 5 [(0, .ref a0)] := hl
  unfold wp_X12_readPaper at hp
  exact t_X12_readPaper_0 F hr hlocks hK hp hW wX.rf (lv_sub hl [0] rfl) hL_a0 hK_a0
def wp_X12_repetitions_0 (D : wD) (post : Int32 → wS → Prop)  (S : wS) (a0 : Nat) : Prop :=
∀ S_1 : wS, S_1 = uI S a0 0 (0 : Int32) →
wp_X12_stood D (fun r_2 S_3 => 
post r_2 S_3) S_1 a0
abbrev r_X12_repetitions : Room := { frames := 2, cells := 0, slots := 0, locals := 46 }
def wp_X12_repetitions (D : wD) (post : Int32 → wS → Prop) (S : wS) (a0 : Nat) : Prop := wp_X12_repetitions_0 D post S a0
set_option maxHeartbeats 4000000 in
set_option maxRecDepth 100000 in
theorem t_X12_repetitions_0 {p : Program} {l : Launch} {e : Env} {s : State} {m : MethodId} {args : Array Value} {below : List Frame} {meth : Method} {c : Code} {D : wD} {cy : Nat → ClassId} {X : va_W} {A : Nat → Prop} {S0 : wS} {post : Int32 → wS → Prop} (F : CallFix p m c cX12_repetitions 1 s args wz_X12_repetitions RX12) (hr : meth.sig.returnType = (some .int)) (hlocks : meth.locks = false) (hK : wK D cy A s) : ∀ {S : wS} {H : Heap} {locs : List Loc} {ls : Array Slot} {a0 : Nat}, wp_X12_repetitions_0 D post S a0 → wO D cy X A s.heap S H locs → wX D S0 S → lv_has ls 1 [(0, .ref a0)] → wM D S a0 → sK S a0 = 17 → W p l e r_X12_repetitions s m args below meth c H locs 0 0 (MQ below (va_Qi (fun r S9 => wX D S0 S9 ∧ post r S9) (wB D cy X A) A) args s 0 0 A) (F0 m 0 ls []) := by
  obtain ⟨hx, hb, hml, hown, hts⟩ := id F
  have hwg : ∀ w ∈ WG, w.before args s = true := fun w h => hts w (List.mem_cons_of_mem _ h)
  have i_17 : ∀ w ∈ u_ws RX12 TX12 43, w ∈ wz_X12_repetitions := fun w h => List.mem_cons_of_mem _ (wu_17 w h)
  have k_110 := hwg _ wf_RX12_110
  intro S H locs ls a0 hp hW hE hl hL_a0 hK_a0
  unfold wp_X12_repetitions_0 at hp
  refine lv_aload_n hx hb dX12_repetitions_0 rfl (lv_at hl 0 rfl) ?_
  refine lv_iconst (v := 0) hx hb dX12_repetitions_1 (by decide) ?_
  refine w_putI (k := 17) (f := 0) (T := TX12) F hK hW hL_a0 hK_a0 (by decide) (by decide) rfl rfl (by decide) i_17 tyX12 tyX12_ok nmX12 k_110 rfl rfl (ty := .int) rfl rfl rfl dX12_repetitions_2 (fun H locs hW => ?_)
  obtain ⟨S_1, eS_1⟩ : ∃ z : wS, z = uI S a0 0 (0 : Int32) := ⟨_, rfl⟩
  rw [← eS_1] at hW
  replace hp := hp S_1 eS_1
  have hX_S_1 : wX D S S_1 := by rw [eS_1]; exact wX_uI
  have hE := hE.trans hX_S_1
  have hK_a0 : sK S_1 a0 = 17 := (hX_S_1.2 a0 hL_a0).1.trans hK_a0
  have hL_a0 : wM D S_1 a0 := hX_S_1.M hL_a0
  refine lv_aload_n hx hb dX12_repetitions_5 rfl (lv_at hl 0 rfl) ?_
  refine w_callI (va_runV (As := []) (rest := []) F (c_X12_stood l hL_a0 hK_a0 hp H.size) (cwV (C := RX12) 0 hts (wg_V wm_RX12_337 wy_X12_stood) rfl rfl rfl (by decide +kernel) ⟨Nat.le_of_ble_eq_true rfl, Nat.le_of_ble_eq_true rfl⟩) (w_preV hK hW hL_a0 hK_a0 (by decide) rfl) rfl rfl hl.1 rfl (lv_room (Nat.le_of_ble_eq_true rfl)) dX12_repetitions_6 ⟨Nat.le_of_ble_eq_true rfl, Nat.le_of_ble_eq_true rfl⟩) hW (fun r_2 S_3 H locs hp hW => ?_)
  obtain ⟨hX_S_3, hp⟩ := hp
  refine W.widen (k := 0) (n := 0) (by decide) (by decide) ?_
  have hE := hE.trans hX_S_3
  have hK_a0 : sK S_3 a0 = 17 := (hX_S_3.2 a0 hL_a0).1.trans hK_a0
  have hL_a0 : wM D S_3 a0 := hX_S_3.M hL_a0
  exact w_iret hx hb hr hlocks hW ⟨hE, hp⟩ dX12_repetitions_9
set_option maxHeartbeats 4000000 in
set_option maxRecDepth 100000 in
theorem c_X12_repetitions (l : Launch) {D : wD} {cy : Nat → ClassId} {X : va_W} {S0 : wS} {post : Int32 → wS → Prop} {a0 : Nat} (hL_a0 : wM D S0 a0) (hK_a0 : sK S0 a0 = 17) (hp : wp_X12_repetitions D post S0 a0) : mI D cy X l yX12_repetitions wz_X12_repetitions r_X12_repetitions [.ref a0] S0 (fun r S9 => wX D S0 S9 ∧ post r S9) := by
  intro sz
  refine Met.ofW (cc := cX12_repetitions) (maxL := 1) (ret := (some .int)) (by decide) rfl ?_
  intro p e s m args below meth c s₁ B hml hv
  obtain ⟨rfl, hsz, hP, hK, hD0, hRO⟩ := hv
  have hts := atoms_spec (ws := wz_X12_repetitions) B.pre
  have hown : s.vm.findClass RX12 = some m.cls := findClass_of_methodNamed B.named
  subst hsz
  have hD := hD0.self (sz := s.heap.size)
  have F : CallFix p m c cX12_repetitions 1 s _ wz_X12_repetitions RX12 := ⟨B.exec, B.bytes, hml, hown, hts⟩
  have hr := B.returns
  have hlocks := B.notSynchronized
  generalize hAe : va_A (wL cy X S0) s.heap.size = A at hD hK ⊢
  have hA : ∀ q, s.heap.size ≤ q → A q := fun q h => by rw [← hAe]; exact Or.inr h
  have hW : wO D cy X A s.heap S0 s.heap [] := ⟨hP, hD, va_S.rf, hA, hRO⟩
  have hl := lv_entry ([.ref a0]) (n := 1) (Nat.le_of_ble_eq_true rfl)
  rw [lg_entry_eq]
  generalize (lg_sl ([.ref a0]) ++ List.replicate (1 - (lg_sl ([.ref a0])).length) Slot.unset).toArray = ls at hl ⊢
  have hl : lv_has ls 1 [(0, .ref a0)] := hl
  unfold wp_X12_repetitions at hp
  exact t_X12_repetitions_0 F hr hlocks hK hp hW wX.rf (lv_sub hl [0] rfl) hL_a0 hK_a0
def wp_X12_rights_0 (D : wD) (post : Int32 → wS → Prop)  (S : wS) (a0 : Nat) : Prop :=
∀ S_1 : wS, S_1 = uI S a0 0 (0 : Int32) →
∃ y_2 : Nat, sR S_1 a0 8 = some y_2 ∧ wM D S_1 y_2 ∧ sK S_1 y_2 = 21 ∧
wp_X12_presentAt D (fun r_3 S_4 => 
vp_in (r_3 + (65 : Int32)) (sN S_4 y_2) ∧
post (sI S_4 y_2 ((r_3 + (65 : Int32))).toNatClampNeg) S_4) S_1 a0
abbrev r_X12_rights : Room := { frames := 1, cells := 0, slots := 0, locals := 20 }
def wp_X12_rights (D : wD) (post : Int32 → wS → Prop) (S : wS) (a0 : Nat) : Prop := wp_X12_rights_0 D post S a0
set_option maxHeartbeats 4000000 in
set_option maxRecDepth 100000 in
theorem t_X12_rights_0 {p : Program} {l : Launch} {e : Env} {s : State} {m : MethodId} {args : Array Value} {below : List Frame} {meth : Method} {c : Code} {D : wD} {cy : Nat → ClassId} {X : va_W} {A : Nat → Prop} {S0 : wS} {post : Int32 → wS → Prop} (F : CallFix p m c cX12_rights 1 s args wz_X12_rights RX12) (hr : meth.sig.returnType = (some .int)) (hlocks : meth.locks = false) (hK : wK D cy A s) : ∀ {S : wS} {H : Heap} {locs : List Loc} {ls : Array Slot} {a0 : Nat}, wp_X12_rights_0 D post S a0 → wO D cy X A s.heap S H locs → wX D S0 S → lv_has ls 1 [(0, .ref a0)] → wM D S a0 → sK S a0 = 17 → W p l e r_X12_rights s m args below meth c H locs 0 0 (MQ below (va_Qi (fun r S9 => wX D S0 S9 ∧ post r S9) (wB D cy X A) A) args s 0 0 A) (F0 m 0 ls []) := by
  obtain ⟨hx, hb, hml, hown, hts⟩ := id F
  have hwg : ∀ w ∈ WG, w.before args s = true := fun w h => hts w (List.mem_cons_of_mem _ h)
  have i_17 : ∀ w ∈ u_ws RX12 TX12 43, w ∈ wz_X12_rights := fun w h => List.mem_cons_of_mem _ (wu_17 w h)
  have k_110 := hwg _ wf_RX12_110
  have k_32 := hwg _ wf_RX12_32
  intro S H locs ls a0 hp hW hE hl hL_a0 hK_a0
  unfold wp_X12_rights_0 at hp
  refine lv_aload_n hx hb dX12_rights_0 rfl (lv_at hl 0 rfl) ?_
  refine lv_iconst (v := 0) hx hb dX12_rights_1 (by decide) ?_
  refine w_putI (k := 17) (f := 0) (T := TX12) F hK hW hL_a0 hK_a0 (by decide) (by decide) rfl rfl (by decide) i_17 tyX12 tyX12_ok nmX12 k_110 rfl rfl (ty := .int) rfl rfl rfl dX12_rights_2 (fun H locs hW => ?_)
  obtain ⟨S_1, eS_1⟩ : ∃ z : wS, z = uI S a0 0 (0 : Int32) := ⟨_, rfl⟩
  rw [← eS_1] at hW
  replace hp := hp S_1 eS_1
  have hX_S_1 : wX D S S_1 := by rw [eS_1]; exact wX_uI
  have hE := hE.trans hX_S_1
  have hK_a0 : sK S_1 a0 = 17 := (hX_S_1.2 a0 hL_a0).1.trans hK_a0
  have hL_a0 : wM D S_1 a0 := hX_S_1.M hL_a0
  refine lv_aload_n hx hb dX12_rights_5 rfl (lv_at hl 0 rfl) ?_
  obtain ⟨y_2, ey_2, hL_y_2, hK_y_2, hp⟩ := hp
  refine w_get (k := 17) (f := 8) (T := TX12) (v := .ref y_2) F hK hW hL_a0 hK_a0 (by decide) rfl rfl (by decide) i_17 k_32 (by rw [show wv 17 8 S_1 a0 = va_rf (sR S_1 a0 8) from rfl, ey_2]; rfl) dX12_rights_6 ?_
  refine lv_aload_n hx hb dX12_rights_9 rfl (lv_at hl 0 rfl) ?_
  refine w_callI (va_runV (As := []) (rest := [.ref y_2]) F (c_X12_presentAt l hL_a0 hK_a0 hp H.size) (cwV (C := RX12) 0 hts (wg_V wm_RX12_127 wy_X12_presentAt) rfl rfl rfl (by decide +kernel) ⟨Nat.le_of_ble_eq_true rfl, Nat.le_of_ble_eq_true rfl⟩) (w_preV hK hW hL_a0 hK_a0 (by decide) rfl) rfl rfl hl.1 rfl (lv_room (Nat.le_of_ble_eq_true rfl)) dX12_rights_10 ⟨Nat.le_of_ble_eq_true rfl, Nat.le_of_ble_eq_true rfl⟩) hW (fun r_3 S_4 H locs hp hW => ?_)
  obtain ⟨hX_S_4, hp⟩ := hp
  refine W.widen (k := 0) (n := 0) (by decide) (by decide) ?_
  have hE := hE.trans hX_S_4
  have hK_a0 : sK S_4 a0 = 17 := (hX_S_4.2 a0 hL_a0).1.trans hK_a0
  have hL_a0 : wM D S_4 a0 := hX_S_4.M hL_a0
  have hK_y_2 : sK S_4 y_2 = 21 := (hX_S_4.2 y_2 hL_y_2).1.trans hK_y_2
  have hL_y_2 : wM D S_4 y_2 := hX_S_4.M hL_y_2
  refine lv_bipush (v := 65) hx hb dX12_rights_13 (by decide) ?_
  refine lv_iadd hx hb dX12_rights_15 ?_
  obtain ⟨h_5, hp⟩ := hp
  refine w_ild F hK hW hL_y_2 hK_y_2 h_5 dX12_rights_16 ?_
  exact w_iret hx hb hr hlocks hW ⟨hE, hp⟩ dX12_rights_17
set_option maxHeartbeats 4000000 in
set_option maxRecDepth 100000 in
theorem c_X12_rights (l : Launch) {D : wD} {cy : Nat → ClassId} {X : va_W} {S0 : wS} {post : Int32 → wS → Prop} {a0 : Nat} (hL_a0 : wM D S0 a0) (hK_a0 : sK S0 a0 = 17) (hp : wp_X12_rights D post S0 a0) : mI D cy X l yX12_rights wz_X12_rights r_X12_rights [.ref a0] S0 (fun r S9 => wX D S0 S9 ∧ post r S9) := by
  intro sz
  refine Met.ofW (cc := cX12_rights) (maxL := 1) (ret := (some .int)) (by decide) rfl ?_
  intro p e s m args below meth c s₁ B hml hv
  obtain ⟨rfl, hsz, hP, hK, hD0, hRO⟩ := hv
  have hts := atoms_spec (ws := wz_X12_rights) B.pre
  have hown : s.vm.findClass RX12 = some m.cls := findClass_of_methodNamed B.named
  subst hsz
  have hD := hD0.self (sz := s.heap.size)
  have F : CallFix p m c cX12_rights 1 s _ wz_X12_rights RX12 := ⟨B.exec, B.bytes, hml, hown, hts⟩
  have hr := B.returns
  have hlocks := B.notSynchronized
  generalize hAe : va_A (wL cy X S0) s.heap.size = A at hD hK ⊢
  have hA : ∀ q, s.heap.size ≤ q → A q := fun q h => by rw [← hAe]; exact Or.inr h
  have hW : wO D cy X A s.heap S0 s.heap [] := ⟨hP, hD, va_S.rf, hA, hRO⟩
  have hl := lv_entry ([.ref a0]) (n := 1) (Nat.le_of_ble_eq_true rfl)
  rw [lg_entry_eq]
  generalize (lg_sl ([.ref a0]) ++ List.replicate (1 - (lg_sl ([.ref a0])).length) Slot.unset).toArray = ls at hl ⊢
  have hl : lv_has ls 1 [(0, .ref a0)] := hl
  unfold wp_X12_rights at hp
  exact t_X12_rights_0 F hr hlocks hK hp hW wX.rf (lv_sub hl [0] rfl) hL_a0 hK_a0
def wp_X12_setSide_60 (D : wD) (post : Int32 → wS → Prop)  (S : wS) (a0 : Nat) (x2 : Int32) (x3 : Int32) (b0 : Nat) (t1 : Int32) (t2 : Int32) : Prop :=
b0 ∈ sL S ∧ vp_in t1 (sN S b0) ∧
∀ S_2 : wS, S_2 = uI S b0 (t1).toNatClampNeg t2 →
∃ y_3 : Nat, sR S_2 a0 8 = some y_3 ∧ wM D S_2 y_3 ∧ sK S_2 y_3 = 21 ∧
y_3 ∈ sL S_2 ∧ vp_in (65 : Int32) (sN S_2 y_3) ∧
∀ S_5 : wS, S_5 = uI S_2 y_3 ((65 : Int32)).toNatClampNeg x2 →
∃ y_6 : Nat, sR S_5 a0 8 = some y_6 ∧ wM D S_5 y_6 ∧ sK S_5 y_6 = 21 ∧
y_6 ∈ sL S_5 ∧ vp_in (66 : Int32) (sN S_5 y_6) ∧
∀ S_8 : wS, S_8 = uI S_5 y_6 ((66 : Int32)).toNatClampNeg (-1 : Int32) →
post x3 S_8
def wp_X12_setSide_35 (D : wD) (post : Int32 → wS → Prop)  (S : wS) : Prop :=
post (0 : Int32) S
def wp_X12_setSide_28 (D : wD) (post : Int32 → wS → Prop)  (S : wS) (a0 : Nat) (x1 : Int32) (x2 : Int32) (b0 : Nat) (t1 : Int32) : Prop :=
wp_X12_can D (fun r_1 S_2 => 
((¬ r_1 = 0 → ∃ y_4 : Nat, sR S_2 a0 8 = some y_4 ∧ wM D S_2 y_4 ∧ sK S_2 y_4 = 21 ∧
vp_in (65 : Int32) (sN S_2 y_4) ∧
∀ x_6 : Int32, x_6 = (sI S_2 y_4 ((65 : Int32)).toNatClampNeg) →
∃ y_7 : Nat, sR S_2 a0 8 = some y_7 ∧ wM D S_2 y_7 ∧ sK S_2 y_7 = 21 ∧
((x1 = 0 → wp_X12_setSide_60 D post S_2 a0 x2 x_6 y_7 (64 : Int32) (0 : Int32)) ∧
 (¬ x1 = 0 → wp_X12_setSide_60 D post S_2 a0 x2 x_6 y_7 (64 : Int32) (1 : Int32)))) ∧
 (r_1 = 0 → wp_X12_setSide_35 D post S_2))) S b0 t1 (2 : Int32)
def wp_X12_setSide_0 (D : wD) (post : Int32 → wS → Prop)  (S : wS) (a0 : Nat) (x1 : Int32) (x2 : Int32) : Prop :=
wp_X12_in D (fun r_1 S_2 => 
wp_X12_can D (fun r_3 S_4 => 
((r_3 = 0 → wp_X12_setSide_35 D post S_4) ∧
 (¬ r_3 = 0 → ((¬ (sI S_4 a0 11) = 0 → wp_X12_setSide_28 D post S_4 a0 x1 x2 a0 (0 : Int32)) ∧
 ((sI S_4 a0 11) = 0 → wp_X12_setSide_28 D post S_4 a0 x1 x2 a0 (1 : Int32)))))) S_2 a0 r_1 (1 : Int32)) S x2 (0 : Int32) (15 : Int32)
abbrev r_X12_setSide : Room := { frames := 1, cells := 0, slots := 0, locals := 22 }
def wp_X12_setSide (D : wD) (post : Int32 → wS → Prop) (S : wS) (a0 : Nat) (x1 : Int32) (x2 : Int32) : Prop := wp_X12_setSide_0 D post S a0 x1 x2
set_option maxHeartbeats 4000000 in
set_option maxRecDepth 100000 in
theorem t_X12_setSide_60 {p : Program} {l : Launch} {e : Env} {s : State} {m : MethodId} {args : Array Value} {below : List Frame} {meth : Method} {c : Code} {D : wD} {cy : Nat → ClassId} {X : va_W} {A : Nat → Prop} {S0 : wS} {post : Int32 → wS → Prop} (F : CallFix p m c cX12_setSide 4 s args wz_X12_setSide RX12) (hr : meth.sig.returnType = (some .int)) (hlocks : meth.locks = false) (hK : wK D cy A s) : ∀ {S : wS} {H : Heap} {locs : List Loc} {ls : Array Slot} {a0 : Nat} {x2 : Int32} {x3 : Int32} {b0 : Nat} {t1 : Int32} {t2 : Int32}, wp_X12_setSide_60 D post S a0 x2 x3 b0 t1 t2 → wO D cy X A s.heap S H locs → wX D S0 S → lv_has ls 4 [(0, .ref a0), (2, .int x2), (3, .int x3)] → wM D S a0 → sK S a0 = 17 → wM D S b0 → sK S b0 = 21 → W p l e r_X12_setSide s m args below meth c H locs 0 0 (MQ below (va_Qi (fun r S9 => wX D S0 S9 ∧ post r S9) (wB D cy X A) A) args s 0 0 A) (F0 m 60 ls [.int t2, .int t1, .ref b0]) := by
  obtain ⟨hx, hb, hml, hown, hts⟩ := id F
  have hwg : ∀ w ∈ WG, w.before args s = true := fun w h => hts w (List.mem_cons_of_mem _ h)
  have i_17 : ∀ w ∈ u_ws RX12 TX12 43, w ∈ wz_X12_setSide := fun w h => List.mem_cons_of_mem _ (wu_17 w h)
  have k_32 := hwg _ wf_RX12_32
  intro S H locs ls a0 x2 x3 b0 t1 t2 hp hW hE hl hL_a0 hK_a0 hL_b0 hK_b0
  unfold wp_X12_setSide_60 at hp
  obtain ⟨h_1m, h_1, hp⟩ := hp
  refine w_ist F hK hW h_1m hK_b0 h_1 dX12_setSide_60 (fun H locs hW => ?_)
  obtain ⟨S_2, eS_2⟩ : ∃ z : wS, z = uI S b0 (t1).toNatClampNeg t2 := ⟨_, rfl⟩
  rw [← eS_2] at hW
  replace hp := hp S_2 eS_2
  have hX_S_2 : wX D S S_2 := by rw [eS_2]; exact wX_uI
  have hE := hE.trans hX_S_2
  have hK_a0 : sK S_2 a0 = 17 := (hX_S_2.2 a0 hL_a0).1.trans hK_a0
  have hL_a0 : wM D S_2 a0 := hX_S_2.M hL_a0
  refine lv_aload_n hx hb dX12_setSide_61 rfl (lv_at hl 0 rfl) ?_
  obtain ⟨y_3, ey_3, hL_y_3, hK_y_3, hp⟩ := hp
  refine w_get (k := 17) (f := 8) (T := TX12) (v := .ref y_3) F hK hW hL_a0 hK_a0 (by decide) rfl rfl (by decide) i_17 k_32 (by rw [show wv 17 8 S_2 a0 = va_rf (sR S_2 a0 8) from rfl, ey_3]; rfl) dX12_setSide_62 ?_
  refine lv_bipush (v := 65) hx hb dX12_setSide_65 (by decide) ?_
  refine lv_iload_n hx hb dX12_setSide_67 rfl (lv_at hl 1 rfl) ?_
  obtain ⟨h_4m, h_4, hp⟩ := hp
  refine w_ist F hK hW h_4m hK_y_3 h_4 dX12_setSide_68 (fun H locs hW => ?_)
  obtain ⟨S_5, eS_5⟩ : ∃ z : wS, z = uI S_2 y_3 ((65 : Int32)).toNatClampNeg x2 := ⟨_, rfl⟩
  rw [← eS_5] at hW
  replace hp := hp S_5 eS_5
  have hX_S_5 : wX D S_2 S_5 := by rw [eS_5]; exact wX_uI
  have hE := hE.trans hX_S_5
  have hK_a0 : sK S_5 a0 = 17 := (hX_S_5.2 a0 hL_a0).1.trans hK_a0
  have hL_a0 : wM D S_5 a0 := hX_S_5.M hL_a0
  refine lv_aload_n hx hb dX12_setSide_69 rfl (lv_at hl 0 rfl) ?_
  obtain ⟨y_6, ey_6, hL_y_6, hK_y_6, hp⟩ := hp
  refine w_get (k := 17) (f := 8) (T := TX12) (v := .ref y_6) F hK hW hL_a0 hK_a0 (by decide) rfl rfl (by decide) i_17 k_32 (by rw [show wv 17 8 S_5 a0 = va_rf (sR S_5 a0 8) from rfl, ey_6]; rfl) dX12_setSide_70 ?_
  refine lv_bipush (v := 66) hx hb dX12_setSide_73 (by decide) ?_
  refine lv_iconst (v := (-1)) hx hb dX12_setSide_75 (by decide) ?_
  obtain ⟨h_7m, h_7, hp⟩ := hp
  refine w_ist F hK hW h_7m hK_y_6 h_7 dX12_setSide_76 (fun H locs hW => ?_)
  obtain ⟨S_8, eS_8⟩ : ∃ z : wS, z = uI S_5 y_6 ((66 : Int32)).toNatClampNeg (-1 : Int32) := ⟨_, rfl⟩
  rw [← eS_8] at hW
  replace hp := hp S_8 eS_8
  have hX_S_8 : wX D S_5 S_8 := by rw [eS_8]; exact wX_uI
  have hE := hE.trans hX_S_8
  have hK_a0 : sK S_8 a0 = 17 := (hX_S_8.2 a0 hL_a0).1.trans hK_a0
  have hL_a0 : wM D S_8 a0 := hX_S_8.M hL_a0
  refine lv_iload_n hx hb dX12_setSide_77 rfl (lv_at hl 2 rfl) ?_
  exact w_iret hx hb hr hlocks hW ⟨hE, hp⟩ dX12_setSide_78
set_option maxHeartbeats 4000000 in
set_option maxRecDepth 100000 in
theorem t_X12_setSide_35 {p : Program} {l : Launch} {e : Env} {s : State} {m : MethodId} {args : Array Value} {below : List Frame} {meth : Method} {c : Code} {D : wD} {cy : Nat → ClassId} {X : va_W} {A : Nat → Prop} {S0 : wS} {post : Int32 → wS → Prop} (F : CallFix p m c cX12_setSide 4 s args wz_X12_setSide RX12) (hr : meth.sig.returnType = (some .int)) (hlocks : meth.locks = false) (hK : wK D cy A s) : ∀ {S : wS} {H : Heap} {locs : List Loc} {ls : Array Slot}, wp_X12_setSide_35 D post S → wO D cy X A s.heap S H locs → wX D S0 S → lv_has ls 4 [] → W p l e r_X12_setSide s m args below meth c H locs 0 0 (MQ below (va_Qi (fun r S9 => wX D S0 S9 ∧ post r S9) (wB D cy X A) A) args s 0 0 A) (F0 m 35 ls []) := by
  obtain ⟨hx, hb, hml, hown, hts⟩ := id F
  have hwg : ∀ w ∈ WG, w.before args s = true := fun w h => hts w (List.mem_cons_of_mem _ h)
  intro S H locs ls hp hW hE hl
  unfold wp_X12_setSide_35 at hp
  refine lv_iconst (v := 0) hx hb dX12_setSide_35 (by decide) ?_
  exact w_iret hx hb hr hlocks hW ⟨hE, hp⟩ dX12_setSide_36
set_option maxHeartbeats 4000000 in
set_option maxRecDepth 100000 in
theorem t_X12_setSide_28 {p : Program} {l : Launch} {e : Env} {s : State} {m : MethodId} {args : Array Value} {below : List Frame} {meth : Method} {c : Code} {D : wD} {cy : Nat → ClassId} {X : va_W} {A : Nat → Prop} {S0 : wS} {post : Int32 → wS → Prop} (F : CallFix p m c cX12_setSide 4 s args wz_X12_setSide RX12) (hr : meth.sig.returnType = (some .int)) (hlocks : meth.locks = false) (hK : wK D cy A s) : ∀ {S : wS} {H : Heap} {locs : List Loc} {ls : Array Slot} {a0 : Nat} {x1 : Int32} {x2 : Int32} {b0 : Nat} {t1 : Int32}, wp_X12_setSide_28 D post S a0 x1 x2 b0 t1 → wO D cy X A s.heap S H locs → wX D S0 S → lv_has ls 4 [(0, .ref a0), (1, .int x1), (2, .int x2)] → wM D S a0 → sK S a0 = 17 → wM D S b0 → sK S b0 = 17 → W p l e r_X12_setSide s m args below meth c H locs 0 0 (MQ below (va_Qi (fun r S9 => wX D S0 S9 ∧ post r S9) (wB D cy X A) A) args s 0 0 A) (F0 m 28 ls [.int t1, .ref b0]) := by
  obtain ⟨hx, hb, hml, hown, hts⟩ := id F
  have hwg : ∀ w ∈ WG, w.before args s = true := fun w h => hts w (List.mem_cons_of_mem _ h)
  have i_17 : ∀ w ∈ u_ws RX12 TX12 43, w ∈ wz_X12_setSide := fun w h => List.mem_cons_of_mem _ (wu_17 w h)
  have k_32 := hwg _ wf_RX12_32
  intro S H locs ls a0 x1 x2 b0 t1 hp hW hE hl hL_a0 hK_a0 hL_b0 hK_b0
  unfold wp_X12_setSide_28 at hp
  refine lv_iconst (v := 2) hx hb dX12_setSide_28 (by decide) ?_
  refine w_callI (va_runV (As := [.int t1, .int (2 : Int32)]) (rest := []) F (c_X12_can l hL_b0 hK_b0 hp H.size) (cwV (C := RX12) 2 hts (wg_V wm_RX12_237 wy_X12_can) rfl rfl rfl (by decide +kernel) ⟨Nat.le_of_ble_eq_true rfl, Nat.le_of_ble_eq_true rfl⟩) (w_preV hK hW hL_b0 hK_b0 (by decide) rfl) rfl rfl hl.1 rfl (lv_room (Nat.le_of_ble_eq_true rfl)) dX12_setSide_29 ⟨Nat.le_of_ble_eq_true rfl, Nat.le_of_ble_eq_true rfl⟩) hW (fun r_1 S_2 H locs hp hW => ?_)
  obtain ⟨hX_S_2, hp⟩ := hp
  refine W.widen (k := 0) (n := 0) (by decide) (by decide) ?_
  have hE := hE.trans hX_S_2
  have hK_a0 : sK S_2 a0 = 17 := (hX_S_2.2 a0 hL_a0).1.trans hK_a0
  have hL_a0 : wM D S_2 a0 := hX_S_2.M hL_a0
  refine lv_if_ne (tgt := 37) hx hb dX12_setSide_32 (by decide) (fun c_3 => ?_) (fun c_3 => ?_)
  · replace hp := hp.1 c_3
    refine lv_aload_n hx hb dX12_setSide_37 rfl (lv_at hl 0 rfl) ?_
    obtain ⟨y_4, ey_4, hL_y_4, hK_y_4, hp⟩ := hp
    refine w_get (k := 17) (f := 8) (T := TX12) (v := .ref y_4) F hK hW hL_a0 hK_a0 (by decide) rfl rfl (by decide) i_17 k_32 (by rw [show wv 17 8 S_2 a0 = va_rf (sR S_2 a0 8) from rfl, ey_4]; rfl) dX12_setSide_38 ?_
    refine lv_bipush (v := 65) hx hb dX12_setSide_41 (by decide) ?_
    obtain ⟨h_5, hp⟩ := hp
    refine w_ild F hK hW hL_y_4 hK_y_4 h_5 dX12_setSide_43 ?_
    refine lv_topi (fun x_6 ex_6 => ?_)
    replace hp := hp x_6 ex_6
    refine lv_istore_n (lv' := [(3, .int x_6), (0, .ref a0), (1, .int x1), (2, .int x2)]) hx hb dX12_setSide_44 rfl hl (by decide) rfl (fun ls hl => ?_)
    refine lv_aload_n hx hb dX12_setSide_45 rfl (lv_at hl 1 rfl) ?_
    obtain ⟨y_7, ey_7, hL_y_7, hK_y_7, hp⟩ := hp
    refine w_get (k := 17) (f := 8) (T := TX12) (v := .ref y_7) F hK hW hL_a0 hK_a0 (by decide) rfl rfl (by decide) i_17 k_32 (by rw [show wv 17 8 S_2 a0 = va_rf (sR S_2 a0 8) from rfl, ey_7]; rfl) dX12_setSide_46 ?_
    refine lv_bipush (v := 64) hx hb dX12_setSide_49 (by decide) ?_
    refine lv_iload_n hx hb dX12_setSide_51 rfl (lv_at hl 2 rfl) ?_
    refine lv_if_eq (tgt := 59) hx hb dX12_setSide_52 (by decide) (fun c_8 => ?_) (fun c_8 => ?_)
    · replace hp := hp.1 c_8
      refine lv_iconst (v := 0) hx hb dX12_setSide_59 (by decide) ?_
      exact t_X12_setSide_60 F hr hlocks hK hp hW hE (lv_sub hl [1, 3, 0] rfl) hL_a0 hK_a0 hL_y_7 hK_y_7
    · replace hp := hp.2 c_8
      refine lv_iconst (v := 1) hx hb dX12_setSide_55 (by decide) ?_
      refine lv_goto (tgt := 60) hx hb dX12_setSide_56 (by decide) ?_
      exact t_X12_setSide_60 F hr hlocks hK hp hW hE (lv_sub hl [1, 3, 0] rfl) hL_a0 hK_a0 hL_y_7 hK_y_7
  · replace hp := hp.2 c_3
    exact t_X12_setSide_35 F hr hlocks hK hp hW hE (lv_sub hl [] rfl)
set_option maxHeartbeats 4000000 in
set_option maxRecDepth 100000 in
theorem t_X12_setSide_0 {p : Program} {l : Launch} {e : Env} {s : State} {m : MethodId} {args : Array Value} {below : List Frame} {meth : Method} {c : Code} {D : wD} {cy : Nat → ClassId} {X : va_W} {A : Nat → Prop} {S0 : wS} {post : Int32 → wS → Prop} (F : CallFix p m c cX12_setSide 4 s args wz_X12_setSide RX12) (hr : meth.sig.returnType = (some .int)) (hlocks : meth.locks = false) (hK : wK D cy A s) : ∀ {S : wS} {H : Heap} {locs : List Loc} {ls : Array Slot} {a0 : Nat} {x1 : Int32} {x2 : Int32}, wp_X12_setSide_0 D post S a0 x1 x2 → wO D cy X A s.heap S H locs → wX D S0 S → lv_has ls 4 [(0, .ref a0), (1, .int x1), (2, .int x2)] → wM D S a0 → sK S a0 = 17 → W p l e r_X12_setSide s m args below meth c H locs 0 0 (MQ below (va_Qi (fun r S9 => wX D S0 S9 ∧ post r S9) (wB D cy X A) A) args s 0 0 A) (F0 m 0 ls []) := by
  obtain ⟨hx, hb, hml, hown, hts⟩ := id F
  have hwg : ∀ w ∈ WG, w.before args s = true := fun w h => hts w (List.mem_cons_of_mem _ h)
  have i_17 : ∀ w ∈ u_ws RX12 TX12 43, w ∈ wz_X12_setSide := fun w h => List.mem_cons_of_mem _ (wu_17 w h)
  have k_121 := hwg _ wf_RX12_121
  intro S H locs ls a0 x1 x2 hp hW hE hl hL_a0 hK_a0
  unfold wp_X12_setSide_0 at hp
  refine lv_aload_n hx hb dX12_setSide_0 rfl (lv_at hl 0 rfl) ?_
  refine lv_iload_n hx hb dX12_setSide_1 rfl (lv_at hl 2 rfl) ?_
  refine lv_iconst (v := 0) hx hb dX12_setSide_2 (by decide) ?_
  refine lv_bipush (v := 15) hx hb dX12_setSide_3 (by decide) ?_
  refine w_callI (va_runS (As := [.int x2, .int (0 : Int32), .int (15 : Int32)]) (rest := [.ref a0]) F (c_X12_in l hp H.size) (va_cwS 3 hts (wg_S wm_RX12_117 wy_X12_in) rfl rfl rfl (by decide +kernel) ⟨Nat.le_of_ble_eq_true rfl, Nat.le_of_ble_eq_true rfl⟩) (w_preS hK hW) rfl rfl hl.1 rfl (lv_room (Nat.le_of_ble_eq_true rfl)) dX12_setSide_5 ⟨Nat.le_of_ble_eq_true rfl, Nat.le_of_ble_eq_true rfl⟩) hW (fun r_1 S_2 H locs hp hW => ?_)
  obtain ⟨hX_S_2, hp⟩ := hp
  refine W.widen (k := 0) (n := 0) (by decide) (by decide) ?_
  have hE := hE.trans hX_S_2
  have hK_a0 : sK S_2 a0 = 17 := (hX_S_2.2 a0 hL_a0).1.trans hK_a0
  have hL_a0 : wM D S_2 a0 := hX_S_2.M hL_a0
  refine lv_iconst (v := 1) hx hb dX12_setSide_8 (by decide) ?_
  refine w_callI (va_runV (As := [.int r_1, .int (1 : Int32)]) (rest := []) F (c_X12_can l hL_a0 hK_a0 hp H.size) (cwV (C := RX12) 2 hts (wg_V wm_RX12_237 wy_X12_can) rfl rfl rfl (by decide +kernel) ⟨Nat.le_of_ble_eq_true rfl, Nat.le_of_ble_eq_true rfl⟩) (w_preV hK hW hL_a0 hK_a0 (by decide) rfl) rfl rfl hl.1 rfl (lv_room (Nat.le_of_ble_eq_true rfl)) dX12_setSide_9 ⟨Nat.le_of_ble_eq_true rfl, Nat.le_of_ble_eq_true rfl⟩) hW (fun r_3 S_4 H locs hp hW => ?_)
  obtain ⟨hX_S_4, hp⟩ := hp
  refine W.widen (k := 0) (n := 0) (by decide) (by decide) ?_
  have hE := hE.trans hX_S_4
  have hK_a0 : sK S_4 a0 = 17 := (hX_S_4.2 a0 hL_a0).1.trans hK_a0
  have hL_a0 : wM D S_4 a0 := hX_S_4.M hL_a0
  refine lv_if_eq (tgt := 35) hx hb dX12_setSide_12 (by decide) (fun c_5 => ?_) (fun c_5 => ?_)
  · replace hp := hp.1 c_5
    exact t_X12_setSide_35 F hr hlocks hK hp hW hE (lv_sub hl [] rfl)
  · replace hp := hp.2 c_5
    refine lv_aload_n hx hb dX12_setSide_15 rfl (lv_at hl 0 rfl) ?_
    refine lv_aload_n hx hb dX12_setSide_16 rfl (lv_at hl 0 rfl) ?_
    refine w_get (k := 17) (f := 11) (T := TX12) (v := .int (sI S_4 a0 11)) F hK hW hL_a0 hK_a0 (by decide) rfl rfl (by decide) i_17 k_121 rfl dX12_setSide_17 ?_
    refine lv_if_ne (tgt := 27) hx hb dX12_setSide_20 (by decide) (fun c_6 => ?_) (fun c_6 => ?_)
    · replace hp := hp.1 c_6
      refine lv_iconst (v := 0) hx hb dX12_setSide_27 (by decide) ?_
      exact t_X12_setSide_28 F hr hlocks hK hp hW hE (lv_sub hl [0, 1, 2] rfl) hL_a0 hK_a0 hL_a0 hK_a0
    · replace hp := hp.2 c_6
      refine lv_iconst (v := 1) hx hb dX12_setSide_23 (by decide) ?_
      refine lv_goto (tgt := 28) hx hb dX12_setSide_24 (by decide) ?_
      exact t_X12_setSide_28 F hr hlocks hK hp hW hE (lv_sub hl [0, 1, 2] rfl) hL_a0 hK_a0 hL_a0 hK_a0
set_option maxHeartbeats 4000000 in
set_option maxRecDepth 100000 in
theorem c_X12_setSide (l : Launch) {D : wD} {cy : Nat → ClassId} {X : va_W} {S0 : wS} {post : Int32 → wS → Prop} {a0 : Nat} {x1 : Int32} {x2 : Int32} (hL_a0 : wM D S0 a0) (hK_a0 : sK S0 a0 = 17) (hp : wp_X12_setSide D post S0 a0 x1 x2) : mI D cy X l yX12_setSide wz_X12_setSide r_X12_setSide [.ref a0, .int x1, .int x2] S0 (fun r S9 => wX D S0 S9 ∧ post r S9) := by
  intro sz
  refine Met.ofW (cc := cX12_setSide) (maxL := 4) (ret := (some .int)) (by decide) rfl ?_
  intro p e s m args below meth c s₁ B hml hv
  obtain ⟨rfl, hsz, hP, hK, hD0, hRO⟩ := hv
  have hts := atoms_spec (ws := wz_X12_setSide) B.pre
  have hown : s.vm.findClass RX12 = some m.cls := findClass_of_methodNamed B.named
  subst hsz
  have hD := hD0.self (sz := s.heap.size)
  have F : CallFix p m c cX12_setSide 4 s _ wz_X12_setSide RX12 := ⟨B.exec, B.bytes, hml, hown, hts⟩
  have hr := B.returns
  have hlocks := B.notSynchronized
  generalize hAe : va_A (wL cy X S0) s.heap.size = A at hD hK ⊢
  have hA : ∀ q, s.heap.size ≤ q → A q := fun q h => by rw [← hAe]; exact Or.inr h
  have hW : wO D cy X A s.heap S0 s.heap [] := ⟨hP, hD, va_S.rf, hA, hRO⟩
  have hl := lv_entry ([.ref a0, .int x1, .int x2]) (n := 4) (Nat.le_of_ble_eq_true rfl)
  rw [lg_entry_eq]
  generalize (lg_sl ([.ref a0, .int x1, .int x2]) ++ List.replicate (4 - (lg_sl ([.ref a0, .int x1, .int x2])).length) Slot.unset).toArray = ls at hl ⊢
  have hl : lv_has ls 4 [(0, .ref a0), (1, .int x1), (2, .int x2)] := hl
  unfold wp_X12_setSide at hp
  exact t_X12_setSide_0 F hr hlocks hK hp hW wX.rf (lv_sub hl [0, 1, 2] rfl) hL_a0 hK_a0
def wp_X12_shareWon_63 (D : wD) (post : UInt32 → wS → Prop)  (S : wS) (t0 : UInt32) : Prop :=
post t0 S
def wp_X12_shareWon_47 (D : wD) (post : UInt32 → wS → Prop)  (S : wS) (x3 : Int32) (t0 : Int32) : Prop :=
((¬ x3 = 0 → vf_n32 (FP.fdiv (FP.i2f t0) (FP.i2f x3)) ∧
wp_X12_shareWon_63 D post S (FP.fdiv (FP.i2f t0) (FP.i2f x3))) ∧
 (x3 = 0 → wp_X12_shareWon_63 D post S FP.fconst0))
def wp_X12_shareWon_28 (D : wD) (post : UInt32 → wS → Prop)  (S : wS) (a0 : Nat) (x1 : Int32) (x2 : Int32) (t0 : Int32) : Prop :=
((x2 = 0 → wp_X12_shareWon_47 D post S t0 (0 : Int32)) ∧
 (¬ x2 = 0 → wp_X12_gamesHere D (fun r_2 S_3 => 
wp_X12_shareWon_47 D post S_3 t0 r_2) S a0 x1 (0 : Int32) (0 : Int32) (9999 : Int32)))
def wp_X12_shareWon_0 (D : wD) (post : UInt32 → wS → Prop)  (S : wS) (a0 : Nat) (x1 : Int32) : Prop :=
wp_X12_isShelf D (fun r_1 S_2 => 
wp_X12_can D (fun r_3 S_4 => 
((r_3 = 0 → wp_X12_shareWon_28 D post S_4 a0 x1 r_3 (0 : Int32)) ∧
 (¬ r_3 = 0 → wp_X12_gamesHere D (fun r_6 S_7 => 
wp_X12_shareWon_28 D post S_7 a0 x1 r_3 r_6) S_4 a0 x1 (-1 : Int32) (0 : Int32) (9999 : Int32)))) S_2 a0 r_1 (1 : Int32)) S x1
abbrev r_X12_shareWon : Room := { frames := 4, cells := 0, slots := 0, locals := 98 }
def wp_X12_shareWon (D : wD) (post : UInt32 → wS → Prop) (S : wS) (a0 : Nat) (x1 : Int32) : Prop := wp_X12_shareWon_0 D post S a0 x1
set_option maxHeartbeats 4000000 in
set_option maxRecDepth 100000 in
theorem t_X12_shareWon_63 {p : Program} {l : Launch} {e : Env} {s : State} {m : MethodId} {args : Array Value} {below : List Frame} {meth : Method} {c : Code} {D : wD} {cy : Nat → ClassId} {X : va_W} {A : Nat → Prop} {S0 : wS} {post : UInt32 → wS → Prop} (F : CallFix p m c cX12_shareWon 5 s args wz_X12_shareWon RX12) (hr : meth.sig.returnType = (some .float)) (hlocks : meth.locks = false) (hK : wK D cy A s) : ∀ {S : wS} {H : Heap} {locs : List Loc} {ls : Array Slot} {t0 : UInt32}, wp_X12_shareWon_63 D post S t0 → wO D cy X A s.heap S H locs → wX D S0 S → lv_has ls 5 [] → W p l e r_X12_shareWon s m args below meth c H locs 0 0 (MQ below (va_Qf (fun r S9 => wX D S0 S9 ∧ post r S9) (wB D cy X A) A) args s 0 0 A) (F0 m 63 ls [.float t0]) := by
  obtain ⟨hx, hb, hml, hown, hts⟩ := id F
  have hwg : ∀ w ∈ WG, w.before args s = true := fun w h => hts w (List.mem_cons_of_mem _ h)
  intro S H locs ls t0 hp hW hE hl
  unfold wp_X12_shareWon_63 at hp
  exact w_fret hx hb hr hlocks hW ⟨hE, hp⟩ dX12_shareWon_63
set_option maxHeartbeats 4000000 in
set_option maxRecDepth 100000 in
theorem t_X12_shareWon_47 {p : Program} {l : Launch} {e : Env} {s : State} {m : MethodId} {args : Array Value} {below : List Frame} {meth : Method} {c : Code} {D : wD} {cy : Nat → ClassId} {X : va_W} {A : Nat → Prop} {S0 : wS} {post : UInt32 → wS → Prop} (F : CallFix p m c cX12_shareWon 5 s args wz_X12_shareWon RX12) (hr : meth.sig.returnType = (some .float)) (hlocks : meth.locks = false) (hK : wK D cy A s) : ∀ {S : wS} {H : Heap} {locs : List Loc} {ls : Array Slot} {x3 : Int32} {t0 : Int32}, wp_X12_shareWon_47 D post S x3 t0 → wO D cy X A s.heap S H locs → wX D S0 S → lv_has ls 5 [(3, .int x3)] → W p l e r_X12_shareWon s m args below meth c H locs 0 0 (MQ below (va_Qf (fun r S9 => wX D S0 S9 ∧ post r S9) (wB D cy X A) A) args s 0 0 A) (F0 m 47 ls [.int t0]) := by
  obtain ⟨hx, hb, hml, hown, hts⟩ := id F
  have hwg : ∀ w ∈ WG, w.before args s = true := fun w h => hts w (List.mem_cons_of_mem _ h)
  intro S H locs ls x3 t0 hp hW hE hl
  unfold wp_X12_shareWon_47 at hp
  refine lv_istore (lv' := [(4, .int t0), (3, .int x3)]) hx hb dX12_shareWon_47 hl (by decide) rfl (fun ls hl => ?_)
  refine lv_iload_n hx hb dX12_shareWon_49 rfl (lv_at hl 1 rfl) ?_
  refine lv_if_ne (tgt := 57) hx hb dX12_shareWon_50 (by decide) (fun c_1 => ?_) (fun c_1 => ?_)
  · replace hp := hp.1 c_1
    refine lv_iload hx hb dX12_shareWon_57 (lv_at hl 0 rfl) ?_
    refine lv_i2f hx hb dX12_shareWon_59 ?_
    refine lv_iload_n hx hb dX12_shareWon_60 rfl (lv_at hl 1 rfl) ?_
    refine lv_i2f hx hb dX12_shareWon_61 ?_
    obtain ⟨h_2, hp⟩ := hp
    refine lv_fdiv hx hb dX12_shareWon_62 h_2 ?_
    exact t_X12_shareWon_63 F hr hlocks hK hp hW hE (lv_sub hl [] rfl)
  · replace hp := hp.2 c_1
    refine lv_fconst0 hx hb dX12_shareWon_53 ?_
    refine lv_goto (tgt := 63) hx hb dX12_shareWon_54 (by decide) ?_
    exact t_X12_shareWon_63 F hr hlocks hK hp hW hE (lv_sub hl [] rfl)
set_option maxHeartbeats 4000000 in
set_option maxRecDepth 100000 in
theorem t_X12_shareWon_28 {p : Program} {l : Launch} {e : Env} {s : State} {m : MethodId} {args : Array Value} {below : List Frame} {meth : Method} {c : Code} {D : wD} {cy : Nat → ClassId} {X : va_W} {A : Nat → Prop} {S0 : wS} {post : UInt32 → wS → Prop} (F : CallFix p m c cX12_shareWon 5 s args wz_X12_shareWon RX12) (hr : meth.sig.returnType = (some .float)) (hlocks : meth.locks = false) (hK : wK D cy A s) : ∀ {S : wS} {H : Heap} {locs : List Loc} {ls : Array Slot} {a0 : Nat} {x1 : Int32} {x2 : Int32} {t0 : Int32}, wp_X12_shareWon_28 D post S a0 x1 x2 t0 → wO D cy X A s.heap S H locs → wX D S0 S → lv_has ls 5 [(0, .ref a0), (1, .int x1), (2, .int x2)] → wM D S a0 → sK S a0 = 17 → W p l e r_X12_shareWon s m args below meth c H locs 0 0 (MQ below (va_Qf (fun r S9 => wX D S0 S9 ∧ post r S9) (wB D cy X A) A) args s 0 0 A) (F0 m 28 ls [.int t0]) := by
  obtain ⟨hx, hb, hml, hown, hts⟩ := id F
  have hwg : ∀ w ∈ WG, w.before args s = true := fun w h => hts w (List.mem_cons_of_mem _ h)
  intro S H locs ls a0 x1 x2 t0 hp hW hE hl hL_a0 hK_a0
  unfold wp_X12_shareWon_28 at hp
  refine lv_istore_n (lv' := [(3, .int t0), (0, .ref a0), (1, .int x1), (2, .int x2)]) hx hb dX12_shareWon_28 rfl hl (by decide) rfl (fun ls hl => ?_)
  refine lv_iload_n hx hb dX12_shareWon_29 rfl (lv_at hl 3 rfl) ?_
  refine lv_if_eq (tgt := 46) hx hb dX12_shareWon_30 (by decide) (fun c_1 => ?_) (fun c_1 => ?_)
  · replace hp := hp.1 c_1
    refine lv_iconst (v := 0) hx hb dX12_shareWon_46 (by decide) ?_
    exact t_X12_shareWon_47 F hr hlocks hK hp hW hE (lv_sub hl [0] rfl)
  · replace hp := hp.2 c_1
    refine lv_aload_n hx hb dX12_shareWon_33 rfl (lv_at hl 1 rfl) ?_
    refine lv_iload_n hx hb dX12_shareWon_34 rfl (lv_at hl 2 rfl) ?_
    refine lv_iconst (v := 0) hx hb dX12_shareWon_35 (by decide) ?_
    refine lv_iconst (v := 0) hx hb dX12_shareWon_36 (by decide) ?_
    refine lv_sipush (v := 9999) hx hb dX12_shareWon_37 (by decide) ?_
    refine w_callI (va_runV (As := [.int x1, .int (0 : Int32), .int (0 : Int32), .int (9999 : Int32)]) (rest := []) F (c_X12_gamesHere l hL_a0 hK_a0 hp H.size) (cwV (C := RX12) 4 hts (wg_V wm_RX12_427 wy_X12_gamesHere) rfl rfl rfl (by decide +kernel) ⟨Nat.le_of_ble_eq_true rfl, Nat.le_of_ble_eq_true rfl⟩) (w_preV hK hW hL_a0 hK_a0 (by decide) rfl) rfl rfl hl.1 rfl (lv_room (Nat.le_of_ble_eq_true rfl)) dX12_shareWon_40 ⟨Nat.le_of_ble_eq_true rfl, Nat.le_of_ble_eq_true rfl⟩) hW (fun r_2 S_3 H locs hp hW => ?_)
    obtain ⟨hX_S_3, hp⟩ := hp
    refine W.widen (k := 0) (n := 0) (by decide) (by decide) ?_
    have hE := hE.trans hX_S_3
    have hK_a0 : sK S_3 a0 = 17 := (hX_S_3.2 a0 hL_a0).1.trans hK_a0
    have hL_a0 : wM D S_3 a0 := hX_S_3.M hL_a0
    refine lv_goto (tgt := 47) hx hb dX12_shareWon_43 (by decide) ?_
    exact t_X12_shareWon_47 F hr hlocks hK hp hW hE (lv_sub hl [0] rfl)
set_option maxHeartbeats 4000000 in
set_option maxRecDepth 100000 in
theorem t_X12_shareWon_0 {p : Program} {l : Launch} {e : Env} {s : State} {m : MethodId} {args : Array Value} {below : List Frame} {meth : Method} {c : Code} {D : wD} {cy : Nat → ClassId} {X : va_W} {A : Nat → Prop} {S0 : wS} {post : UInt32 → wS → Prop} (F : CallFix p m c cX12_shareWon 5 s args wz_X12_shareWon RX12) (hr : meth.sig.returnType = (some .float)) (hlocks : meth.locks = false) (hK : wK D cy A s) : ∀ {S : wS} {H : Heap} {locs : List Loc} {ls : Array Slot} {a0 : Nat} {x1 : Int32}, wp_X12_shareWon_0 D post S a0 x1 → wO D cy X A s.heap S H locs → wX D S0 S → lv_has ls 5 [(0, .ref a0), (1, .int x1)] → wM D S a0 → sK S a0 = 17 → W p l e r_X12_shareWon s m args below meth c H locs 0 0 (MQ below (va_Qf (fun r S9 => wX D S0 S9 ∧ post r S9) (wB D cy X A) A) args s 0 0 A) (F0 m 0 ls []) := by
  obtain ⟨hx, hb, hml, hown, hts⟩ := id F
  have hwg : ∀ w ∈ WG, w.before args s = true := fun w h => hts w (List.mem_cons_of_mem _ h)
  intro S H locs ls a0 x1 hp hW hE hl hL_a0 hK_a0
  unfold wp_X12_shareWon_0 at hp
  refine lv_aload_n hx hb dX12_shareWon_0 rfl (lv_at hl 0 rfl) ?_
  refine lv_iload_n hx hb dX12_shareWon_1 rfl (lv_at hl 1 rfl) ?_
  refine w_callI (va_runS (As := [.int x1]) (rest := [.ref a0]) F (c_X12_isShelf l hp H.size) (va_cwS 1 hts (wg_S wm_RX12_397 wy_X12_isShelf) rfl rfl rfl (by decide +kernel) ⟨Nat.le_of_ble_eq_true rfl, Nat.le_of_ble_eq_true rfl⟩) (w_preS hK hW) rfl rfl hl.1 rfl (lv_room (Nat.le_of_ble_eq_true rfl)) dX12_shareWon_2 ⟨Nat.le_of_ble_eq_true rfl, Nat.le_of_ble_eq_true rfl⟩) hW (fun r_1 S_2 H locs hp hW => ?_)
  obtain ⟨hX_S_2, hp⟩ := hp
  refine W.widen (k := 0) (n := 0) (by decide) (by decide) ?_
  have hE := hE.trans hX_S_2
  have hK_a0 : sK S_2 a0 = 17 := (hX_S_2.2 a0 hL_a0).1.trans hK_a0
  have hL_a0 : wM D S_2 a0 := hX_S_2.M hL_a0
  refine lv_iconst (v := 1) hx hb dX12_shareWon_5 (by decide) ?_
  refine w_callI (va_runV (As := [.int r_1, .int (1 : Int32)]) (rest := []) F (c_X12_can l hL_a0 hK_a0 hp H.size) (cwV (C := RX12) 2 hts (wg_V wm_RX12_237 wy_X12_can) rfl rfl rfl (by decide +kernel) ⟨Nat.le_of_ble_eq_true rfl, Nat.le_of_ble_eq_true rfl⟩) (w_preV hK hW hL_a0 hK_a0 (by decide) rfl) rfl rfl hl.1 rfl (lv_room (Nat.le_of_ble_eq_true rfl)) dX12_shareWon_6 ⟨Nat.le_of_ble_eq_true rfl, Nat.le_of_ble_eq_true rfl⟩) hW (fun r_3 S_4 H locs hp hW => ?_)
  obtain ⟨hX_S_4, hp⟩ := hp
  refine W.widen (k := 0) (n := 0) (by decide) (by decide) ?_
  have hE := hE.trans hX_S_4
  have hK_a0 : sK S_4 a0 = 17 := (hX_S_4.2 a0 hL_a0).1.trans hK_a0
  have hL_a0 : wM D S_4 a0 := hX_S_4.M hL_a0
  refine lv_istore_n (lv' := [(2, .int r_3), (0, .ref a0), (1, .int x1)]) hx hb dX12_shareWon_9 rfl hl (by decide) rfl (fun ls hl => ?_)
  refine lv_iload_n hx hb dX12_shareWon_10 rfl (lv_at hl 0 rfl) ?_
  refine lv_if_eq (tgt := 27) hx hb dX12_shareWon_11 (by decide) (fun c_5 => ?_) (fun c_5 => ?_)
  · replace hp := hp.1 c_5
    refine lv_iconst (v := 0) hx hb dX12_shareWon_27 (by decide) ?_
    exact t_X12_shareWon_28 F hr hlocks hK hp hW hE (lv_sub hl [1, 2, 0] rfl) hL_a0 hK_a0
  · replace hp := hp.2 c_5
    refine lv_aload_n hx hb dX12_shareWon_14 rfl (lv_at hl 1 rfl) ?_
    refine lv_iload_n hx hb dX12_shareWon_15 rfl (lv_at hl 2 rfl) ?_
    refine lv_iconst (v := (-1)) hx hb dX12_shareWon_16 (by decide) ?_
    refine lv_iconst (v := 0) hx hb dX12_shareWon_17 (by decide) ?_
    refine lv_sipush (v := 9999) hx hb dX12_shareWon_18 (by decide) ?_
    refine w_callI (va_runV (As := [.int x1, .int (-1 : Int32), .int (0 : Int32), .int (9999 : Int32)]) (rest := []) F (c_X12_gamesHere l hL_a0 hK_a0 hp H.size) (cwV (C := RX12) 4 hts (wg_V wm_RX12_427 wy_X12_gamesHere) rfl rfl rfl (by decide +kernel) ⟨Nat.le_of_ble_eq_true rfl, Nat.le_of_ble_eq_true rfl⟩) (w_preV hK hW hL_a0 hK_a0 (by decide) rfl) rfl rfl hl.1 rfl (lv_room (Nat.le_of_ble_eq_true rfl)) dX12_shareWon_21 ⟨Nat.le_of_ble_eq_true rfl, Nat.le_of_ble_eq_true rfl⟩) hW (fun r_6 S_7 H locs hp hW => ?_)
    obtain ⟨hX_S_7, hp⟩ := hp
    refine W.widen (k := 0) (n := 0) (by decide) (by decide) ?_
    have hE := hE.trans hX_S_7
    have hK_a0 : sK S_7 a0 = 17 := (hX_S_7.2 a0 hL_a0).1.trans hK_a0
    have hL_a0 : wM D S_7 a0 := hX_S_7.M hL_a0
    refine lv_goto (tgt := 28) hx hb dX12_shareWon_24 (by decide) ?_
    exact t_X12_shareWon_28 F hr hlocks hK hp hW hE (lv_sub hl [1, 2, 0] rfl) hL_a0 hK_a0
set_option maxHeartbeats 4000000 in
set_option maxRecDepth 100000 in
theorem c_X12_shareWon (l : Launch) {D : wD} {cy : Nat → ClassId} {X : va_W} {S0 : wS} {post : UInt32 → wS → Prop} {a0 : Nat} {x1 : Int32} (hL_a0 : wM D S0 a0) (hK_a0 : sK S0 a0 = 17) (hp : wp_X12_shareWon D post S0 a0 x1) : mF D cy X l yX12_shareWon wz_X12_shareWon r_X12_shareWon [.ref a0, .int x1] S0 (fun r S9 => wX D S0 S9 ∧ post r S9) := by
  intro sz
  refine Met.ofW (cc := cX12_shareWon) (maxL := 5) (ret := (some .float)) (by decide) rfl ?_
  intro p e s m args below meth c s₁ B hml hv
  obtain ⟨rfl, hsz, hP, hK, hD0, hRO⟩ := hv
  have hts := atoms_spec (ws := wz_X12_shareWon) B.pre
  have hown : s.vm.findClass RX12 = some m.cls := findClass_of_methodNamed B.named
  subst hsz
  have hD := hD0.self (sz := s.heap.size)
  have F : CallFix p m c cX12_shareWon 5 s _ wz_X12_shareWon RX12 := ⟨B.exec, B.bytes, hml, hown, hts⟩
  have hr := B.returns
  have hlocks := B.notSynchronized
  generalize hAe : va_A (wL cy X S0) s.heap.size = A at hD hK ⊢
  have hA : ∀ q, s.heap.size ≤ q → A q := fun q h => by rw [← hAe]; exact Or.inr h
  have hW : wO D cy X A s.heap S0 s.heap [] := ⟨hP, hD, va_S.rf, hA, hRO⟩
  have hl := lv_entry ([.ref a0, .int x1]) (n := 5) (Nat.le_of_ble_eq_true rfl)
  rw [lg_entry_eq]
  generalize (lg_sl ([.ref a0, .int x1]) ++ List.replicate (5 - (lg_sl ([.ref a0, .int x1])).length) Slot.unset).toArray = ls at hl ⊢
  have hl : lv_has ls 5 [(0, .ref a0), (1, .int x1)] := hl
  unfold wp_X12_shareWon at hp
  exact t_X12_shareWon_0 F hr hlocks hK hp hW wX.rf (lv_sub hl [0, 1] rfl) hL_a0 hK_a0
def wp_X12_won_34 (D : wD) (post : Int32 → wS → Prop) (k_4 : wS → Nat → Int32 → Int32 → Int32 → Prop) (S : wS) (a0 : Nat) (x1 : Int32) (x3 : Int32) (t0 : Int32) (t1 : Int32) : Prop :=
∀ x_1 : Int32, x_1 = (t0 + t1) →
∀ x_2 : Int32, x_2 = x3 + 1 →
k_4 S a0 x1 x_1 x_2
def wp_X12_won_4 (D : wD) (post : Int32 → wS → Prop)  : Nat → wS → Nat → Int32 → Int32 → Int32 → Prop
  | 0, _, _, _, _, _ => False
  | n + 1, S, a0, x1, x2, x3 =>
    (((31250 : Int32) ≤ x3 → post x2 S) ∧
     (¬ (31250 : Int32) ≤ x3 → ∃ y_2 : Nat, sR S a0 41 = some y_2 ∧ wM D S y_2 ∧ sK S y_2 = 21 ∧
    vp_in (((31250 : Int32) * (x1 - (2 : Int32))) + x3) (sN S y_2) ∧
    (((sI S y_2 ((((31250 : Int32) * (x1 - (2 : Int32))) + x3)).toNatClampNeg) < 0 → wp_X12_won_34 D post (wp_X12_won_4 D post n) S a0 x1 x3 x2 (0 : Int32)) ∧
     (¬ (sI S y_2 ((((31250 : Int32) * (x1 - (2 : Int32))) + x3)).toNatClampNeg) < 0 → wp_X12_won_34 D post (wp_X12_won_4 D post n) S a0 x1 x3 x2 (1 : Int32)))))
def wp_X12_won_0 (D : wD) (post : Int32 → wS → Prop)  (S : wS) (a0 : Nat) (x1 : Int32) : Prop :=
∃ n_1 : Nat, wp_X12_won_4 D post n_1 S a0 x1 (0 : Int32) (0 : Int32)
abbrev r_X12_won : Room := { frames := 0, cells := 0, slots := 0, locals := 0 }
def wp_X12_won (D : wD) (post : Int32 → wS → Prop) (S : wS) (a0 : Nat) (x1 : Int32) : Prop := wp_X12_won_0 D post S a0 x1
set_option maxHeartbeats 4000000 in
set_option maxRecDepth 100000 in
theorem t_X12_won_34 {p : Program} {l : Launch} {e : Env} {s : State} {m : MethodId} {args : Array Value} {below : List Frame} {meth : Method} {c : Code} {D : wD} {cy : Nat → ClassId} {X : va_W} {A : Nat → Prop} {S0 : wS} {post : Int32 → wS → Prop} (F : CallFix p m c cX12_won 4 s args wz_X12_won RX12) (hr : meth.sig.returnType = (some .int)) (hlocks : meth.locks = false) (hK : wK D cy A s) {k_4 : wS → Nat → Int32 → Int32 → Int32 → Prop} (q_4 : ∀ {S : wS} {H : Heap} {locs : List Loc} {ls : Array Slot} {a0 : Nat} {x1 : Int32} {x2 : Int32} {x3 : Int32}, k_4 S a0 x1 x2 x3 → wO D cy X A s.heap S H locs → wX D S0 S → lv_has ls 4 [(0, .ref a0), (1, .int x1), (2, .int x2), (3, .int x3)] → wM D S a0 → sK S a0 = 17 → W p l e r_X12_won s m args below meth c H locs 0 0 (MQ below (va_Qi (fun r S9 => wX D S0 S9 ∧ post r S9) (wB D cy X A) A) args s 0 0 A) (F0 m 4 ls [])) : ∀ {S : wS} {H : Heap} {locs : List Loc} {ls : Array Slot} {a0 : Nat} {x1 : Int32} {x3 : Int32} {t0 : Int32} {t1 : Int32}, wp_X12_won_34 D post k_4 S a0 x1 x3 t0 t1 → wO D cy X A s.heap S H locs → wX D S0 S → lv_has ls 4 [(0, .ref a0), (1, .int x1), (3, .int x3)] → wM D S a0 → sK S a0 = 17 → W p l e r_X12_won s m args below meth c H locs 0 0 (MQ below (va_Qi (fun r S9 => wX D S0 S9 ∧ post r S9) (wB D cy X A) A) args s 0 0 A) (F0 m 34 ls [.int t1, .int t0]) := by
  obtain ⟨hx, hb, hml, hown, hts⟩ := id F
  have hwg : ∀ w ∈ WG, w.before args s = true := fun w h => hts w (List.mem_cons_of_mem _ h)
  intro S H locs ls a0 x1 x3 t0 t1 hp hW hE hl hL_a0 hK_a0
  unfold wp_X12_won_34 at hp
  refine lv_iadd hx hb dX12_won_34 ?_
  refine lv_topi (fun x_1 ex_1 => ?_)
  replace hp := hp x_1 ex_1
  refine lv_istore_n (lv' := [(2, .int x_1), (0, .ref a0), (1, .int x1), (3, .int x3)]) hx hb dX12_won_35 rfl hl (by decide) rfl (fun ls hl => ?_)
  obtain ⟨x_2, ex_2⟩ : ∃ z : Int32, z = x3 + 1 := ⟨_, rfl⟩
  replace hp := hp x_2 ex_2
  refine lv_iinc (v := x_2) (lv' := [(3, .int x_2), (2, .int x_1), (0, .ref a0), (1, .int x1)]) hx hb dX12_won_36 hl (k := 3) rfl (by rw [ex_2]; rfl) (by decide) rfl (fun ls hl => ?_)
  refine lv_goto (tgt := 4) hx hb dX12_won_39 (by decide) ?_
  exact q_4 hp hW hE (lv_sub hl [2, 3, 1, 0] rfl) hL_a0 hK_a0
set_option maxHeartbeats 4000000 in
set_option maxRecDepth 100000 in
theorem t_X12_won_4 {p : Program} {l : Launch} {e : Env} {s : State} {m : MethodId} {args : Array Value} {below : List Frame} {meth : Method} {c : Code} {D : wD} {cy : Nat → ClassId} {X : va_W} {A : Nat → Prop} {S0 : wS} {post : Int32 → wS → Prop} (F : CallFix p m c cX12_won 4 s args wz_X12_won RX12) (hr : meth.sig.returnType = (some .int)) (hlocks : meth.locks = false) (hK : wK D cy A s) : ∀ (n : Nat) {S : wS} {H : Heap} {locs : List Loc} {ls : Array Slot} {a0 : Nat} {x1 : Int32} {x2 : Int32} {x3 : Int32}, wp_X12_won_4 D post n S a0 x1 x2 x3 → wO D cy X A s.heap S H locs → wX D S0 S → lv_has ls 4 [(0, .ref a0), (1, .int x1), (2, .int x2), (3, .int x3)] → wM D S a0 → sK S a0 = 17 → W p l e r_X12_won s m args below meth c H locs 0 0 (MQ below (va_Qi (fun r S9 => wX D S0 S9 ∧ post r S9) (wB D cy X A) A) args s 0 0 A) (F0 m 4 ls []) := by
  obtain ⟨hx, hb, hml, hown, hts⟩ := id F
  have hwg : ∀ w ∈ WG, w.before args s = true := fun w h => hts w (List.mem_cons_of_mem _ h)
  have i_17 : ∀ w ∈ u_ws RX12 TX12 43, w ∈ wz_X12_won := fun w h => List.mem_cons_of_mem _ (wu_17 w h)
  have k_101 := hwg _ wf_RX12_101
  intro n
  induction n with
  | zero =>
    intro S H locs ls a0 x1 x2 x3 hp
    exact hp.elim
  | succ n ih =>
    intro S H locs ls a0 x1 x2 x3 hp hW hE hl hL_a0 hK_a0
    unfold wp_X12_won_4 at hp
    refine lv_iload_n hx hb dX12_won_4 rfl (lv_at hl 3 rfl) ?_
    refine lv_sipush (v := 31250) hx hb dX12_won_5 (by decide) ?_
    refine lv_icmp_ge (tgt := 42) hx hb dX12_won_8 (by decide) (fun c_1 => ?_) (fun c_1 => ?_)
    · replace hp := hp.1 c_1
      refine lv_iload_n hx hb dX12_won_42 rfl (lv_at hl 2 rfl) ?_
      exact w_iret hx hb hr hlocks hW ⟨hE, hp⟩ dX12_won_43
    · replace hp := hp.2 c_1
      refine lv_iload_n hx hb dX12_won_11 rfl (lv_at hl 2 rfl) ?_
      refine lv_aload_n hx hb dX12_won_12 rfl (lv_at hl 0 rfl) ?_
      obtain ⟨y_2, ey_2, hL_y_2, hK_y_2, hp⟩ := hp
      refine w_get (k := 17) (f := 41) (T := TX12) (v := .ref y_2) F hK hW hL_a0 hK_a0 (by decide) rfl rfl (by decide) i_17 k_101 (by rw [show wv 17 41 S a0 = va_rf (sR S a0 41) from rfl, ey_2]; rfl) dX12_won_13 ?_
      refine lv_sipush (v := 31250) hx hb dX12_won_16 (by decide) ?_
      refine lv_iload_n hx hb dX12_won_19 rfl (lv_at hl 1 rfl) ?_
      refine lv_iconst (v := 2) hx hb dX12_won_20 (by decide) ?_
      refine lv_isub hx hb dX12_won_21 ?_
      refine lv_imul hx hb dX12_won_22 ?_
      refine lv_iload_n hx hb dX12_won_23 rfl (lv_at hl 3 rfl) ?_
      refine lv_iadd hx hb dX12_won_24 ?_
      obtain ⟨h_3, hp⟩ := hp
      refine w_ild F hK hW hL_y_2 hK_y_2 h_3 dX12_won_25 ?_
      refine lv_if_lt (tgt := 33) hx hb dX12_won_26 (by decide) (fun c_4 => ?_) (fun c_4 => ?_)
      · replace hp := hp.1 c_4
        refine lv_iconst (v := 0) hx hb dX12_won_33 (by decide) ?_
        exact t_X12_won_34 F hr hlocks hK ih hp hW hE (lv_sub hl [0, 1, 3] rfl) hL_a0 hK_a0
      · replace hp := hp.2 c_4
        refine lv_iconst (v := 1) hx hb dX12_won_29 (by decide) ?_
        refine lv_goto (tgt := 34) hx hb dX12_won_30 (by decide) ?_
        exact t_X12_won_34 F hr hlocks hK ih hp hW hE (lv_sub hl [0, 1, 3] rfl) hL_a0 hK_a0
set_option maxHeartbeats 4000000 in
set_option maxRecDepth 100000 in
theorem t_X12_won_0 {p : Program} {l : Launch} {e : Env} {s : State} {m : MethodId} {args : Array Value} {below : List Frame} {meth : Method} {c : Code} {D : wD} {cy : Nat → ClassId} {X : va_W} {A : Nat → Prop} {S0 : wS} {post : Int32 → wS → Prop} (F : CallFix p m c cX12_won 4 s args wz_X12_won RX12) (hr : meth.sig.returnType = (some .int)) (hlocks : meth.locks = false) (hK : wK D cy A s) : ∀ {S : wS} {H : Heap} {locs : List Loc} {ls : Array Slot} {a0 : Nat} {x1 : Int32}, wp_X12_won_0 D post S a0 x1 → wO D cy X A s.heap S H locs → wX D S0 S → lv_has ls 4 [(0, .ref a0), (1, .int x1)] → wM D S a0 → sK S a0 = 17 → W p l e r_X12_won s m args below meth c H locs 0 0 (MQ below (va_Qi (fun r S9 => wX D S0 S9 ∧ post r S9) (wB D cy X A) A) args s 0 0 A) (F0 m 0 ls []) := by
  obtain ⟨hx, hb, hml, hown, hts⟩ := id F
  have hwg : ∀ w ∈ WG, w.before args s = true := fun w h => hts w (List.mem_cons_of_mem _ h)
  intro S H locs ls a0 x1 hp hW hE hl hL_a0 hK_a0
  unfold wp_X12_won_0 at hp
  refine lv_iconst (v := 0) hx hb dX12_won_0 (by decide) ?_
  refine lv_istore_n (lv' := [(2, .int (0 : Int32)), (0, .ref a0), (1, .int x1)]) hx hb dX12_won_1 rfl hl (by decide) rfl (fun ls hl => ?_)
  refine lv_iconst (v := 0) hx hb dX12_won_2 (by decide) ?_
  refine lv_istore_n (lv' := [(3, .int (0 : Int32)), (2, .int (0 : Int32)), (0, .ref a0), (1, .int x1)]) hx hb dX12_won_3 rfl hl (by decide) rfl (fun ls hl => ?_)
  obtain ⟨n_1, hp⟩ := hp
  exact t_X12_won_4 F hr hlocks hK n_1 hp hW hE (lv_sub hl [2, 3, 1, 0] rfl) hL_a0 hK_a0
set_option maxHeartbeats 4000000 in
set_option maxRecDepth 100000 in
theorem c_X12_won (l : Launch) {D : wD} {cy : Nat → ClassId} {X : va_W} {S0 : wS} {post : Int32 → wS → Prop} {a0 : Nat} {x1 : Int32} (hL_a0 : wM D S0 a0) (hK_a0 : sK S0 a0 = 17) (hp : wp_X12_won D post S0 a0 x1) : mI D cy X l yX12_won wz_X12_won r_X12_won [.ref a0, .int x1] S0 (fun r S9 => wX D S0 S9 ∧ post r S9) := by
  intro sz
  refine Met.ofW (cc := cX12_won) (maxL := 4) (ret := (some .int)) (by decide) rfl ?_
  intro p e s m args below meth c s₁ B hml hv
  obtain ⟨rfl, hsz, hP, hK, hD0, hRO⟩ := hv
  have hts := atoms_spec (ws := wz_X12_won) B.pre
  have hown : s.vm.findClass RX12 = some m.cls := findClass_of_methodNamed B.named
  subst hsz
  have hD := hD0.self (sz := s.heap.size)
  have F : CallFix p m c cX12_won 4 s _ wz_X12_won RX12 := ⟨B.exec, B.bytes, hml, hown, hts⟩
  have hr := B.returns
  have hlocks := B.notSynchronized
  generalize hAe : va_A (wL cy X S0) s.heap.size = A at hD hK ⊢
  have hA : ∀ q, s.heap.size ≤ q → A q := fun q h => by rw [← hAe]; exact Or.inr h
  have hW : wO D cy X A s.heap S0 s.heap [] := ⟨hP, hD, va_S.rf, hA, hRO⟩
  have hl := lv_entry ([.ref a0, .int x1]) (n := 4) (Nat.le_of_ble_eq_true rfl)
  rw [lg_entry_eq]
  generalize (lg_sl ([.ref a0, .int x1]) ++ List.replicate (4 - (lg_sl ([.ref a0, .int x1])).length) Slot.unset).toArray = ls at hl ⊢
  have hl : lv_has ls 4 [(0, .ref a0), (1, .int x1)] := hl
  unfold wp_X12_won at hp
  exact t_X12_won_0 F hr hlocks hK hp hW wX.rf (lv_sub hl [0, 1] rfl) hL_a0 hK_a0
def wp_X12_solve_50 (D : wD) (post : Int32 → wS → Prop)  : Nat → wS → Nat → Int32 → Int32 → Int32 → Prop
  | 0, _, _, _, _, _ => False
  | n + 1, S, a0, x1, x2, x3 =>
    ((x3 = 0 → ∃ y_2 : Nat, sR S a0 42 = some y_2 ∧ wM D S y_2 ∧ sK S y_2 = 23 ∧
    y_2 ∈ sL S ∧ vp_in x1 (sN S y_2) ∧
    ∀ S_4 : wS, S_4 = uI S y_2 (x1).toNatClampNeg (vp_nar .boolean (1 : Int32)) →
    wp_X12_won D (fun r_5 S_6 => 
    post r_5 S_6) S_4 a0 x1) ∧
     (¬ x3 = 0 → ∀ x_7 : Int32, x_7 = x2 + 1 →
    wp_X12_finds D (fun r_8 S_9 => 
    wp_X12_solve_50 D post n S_9 a0 x1 x_7 r_8) S a0 x1 x_7))
def wp_X12_solve_34 (D : wD) (post : Int32 → wS → Prop)  (S : wS) : Prop :=
post (0 : Int32) S
def wp_X12_solve_27 (D : wD) (post : Int32 → wS → Prop)  (S : wS) (a0 : Nat) (x1 : Int32) (b0 : Nat) (t1 : Int32) : Prop :=
wp_X12_can D (fun r_1 S_2 => 
((¬ r_1 = 0 → wp_X12_clears D (fun S_5 => 
wp_X12_finds D (fun r_6 S_7 => 
∃ n_8 : Nat, wp_X12_solve_50 D post n_8 S_7 a0 x1 (0 : Int32) r_6) S_5 a0 x1 (0 : Int32)) S_2 a0 x1) ∧
 (r_1 = 0 → wp_X12_solve_34 D post S_2))) S b0 t1 (2 : Int32)
def wp_X12_solve_0 (D : wD) (post : Int32 → wS → Prop)  (S : wS) (a0 : Nat) (x1 : Int32) : Prop :=
wp_X12_isEndingKind D (fun r_1 S_2 => 
wp_X12_can D (fun r_3 S_4 => 
((r_3 = 0 → wp_X12_solve_34 D post S_4) ∧
 (¬ r_3 = 0 → wp_X12_squares D (fun r_6 S_7 => 
(((25 : Int32) < r_6 → wp_X12_solve_27 D post S_7 a0 x1 a0 (0 : Int32)) ∧
 (¬ (25 : Int32) < r_6 → wp_X12_solve_27 D post S_7 a0 x1 a0 (1 : Int32)))) S_4 a0))) S_2 a0 r_1 (1 : Int32)) S x1
abbrev r_X12_solve : Room := { frames := 5, cells := 0, slots := 0, locals := 133 }
def wp_X12_solve (D : wD) (post : Int32 → wS → Prop) (S : wS) (a0 : Nat) (x1 : Int32) : Prop := wp_X12_solve_0 D post S a0 x1
set_option maxHeartbeats 4000000 in
set_option maxRecDepth 100000 in
theorem t_X12_solve_50 {p : Program} {l : Launch} {e : Env} {s : State} {m : MethodId} {args : Array Value} {below : List Frame} {meth : Method} {c : Code} {D : wD} {cy : Nat → ClassId} {X : va_W} {A : Nat → Prop} {S0 : wS} {post : Int32 → wS → Prop} (F : CallFix p m c cX12_solve 4 s args wz_X12_solve RX12) (hr : meth.sig.returnType = (some .int)) (hlocks : meth.locks = false) (hK : wK D cy A s) : ∀ (n : Nat) {S : wS} {H : Heap} {locs : List Loc} {ls : Array Slot} {a0 : Nat} {x1 : Int32} {x2 : Int32} {x3 : Int32}, wp_X12_solve_50 D post n S a0 x1 x2 x3 → wO D cy X A s.heap S H locs → wX D S0 S → lv_has ls 4 [(0, .ref a0), (1, .int x1), (2, .int x2), (3, .int x3)] → wM D S a0 → sK S a0 = 17 → W p l e r_X12_solve s m args below meth c H locs 0 0 (MQ below (va_Qi (fun r S9 => wX D S0 S9 ∧ post r S9) (wB D cy X A) A) args s 0 0 A) (F0 m 50 ls []) := by
  obtain ⟨hx, hb, hml, hown, hts⟩ := id F
  have hwg : ∀ w ∈ WG, w.before args s = true := fun w h => hts w (List.mem_cons_of_mem _ h)
  have i_17 : ∀ w ∈ u_ws RX12 TX12 43, w ∈ wz_X12_solve := fun w h => List.mem_cons_of_mem _ (wu_17 w h)
  have k_104 := hwg _ wf_RX12_104
  intro n
  induction n with
  | zero =>
    intro S H locs ls a0 x1 x2 x3 hp
    exact hp.elim
  | succ n ih =>
    intro S H locs ls a0 x1 x2 x3 hp hW hE hl hL_a0 hK_a0
    unfold wp_X12_solve_50 at hp
    refine lv_iload_n hx hb dX12_solve_50 rfl (lv_at hl 3 rfl) ?_
    refine lv_if_eq (tgt := 67) hx hb dX12_solve_51 (by decide) (fun c_1 => ?_) (fun c_1 => ?_)
    · replace hp := hp.1 c_1
      refine lv_aload_n hx hb dX12_solve_67 rfl (lv_at hl 0 rfl) ?_
      obtain ⟨y_2, ey_2, hL_y_2, hK_y_2, hp⟩ := hp
      refine w_get (k := 17) (f := 42) (T := TX12) (v := .ref y_2) F hK hW hL_a0 hK_a0 (by decide) rfl rfl (by decide) i_17 k_104 (by rw [show wv 17 42 S a0 = va_rf (sR S a0 42) from rfl, ey_2]; rfl) dX12_solve_68 ?_
      refine lv_iload_n hx hb dX12_solve_71 rfl (lv_at hl 1 rfl) ?_
      refine lv_iconst (v := 1) hx hb dX12_solve_72 (by decide) ?_
      obtain ⟨h_3m, h_3, hp⟩ := hp
      refine w_zst F hK hW h_3m hK_y_2 h_3 dX12_solve_73 (fun H locs hW => ?_)
      obtain ⟨S_4, eS_4⟩ : ∃ z : wS, z = uI S y_2 (x1).toNatClampNeg (vp_nar .boolean (1 : Int32)) := ⟨_, rfl⟩
      rw [← eS_4] at hW
      replace hp := hp S_4 eS_4
      have hX_S_4 : wX D S S_4 := by rw [eS_4]; exact wX_uI
      have hE := hE.trans hX_S_4
      have hK_a0 : sK S_4 a0 = 17 := (hX_S_4.2 a0 hL_a0).1.trans hK_a0
      have hL_a0 : wM D S_4 a0 := hX_S_4.M hL_a0
      refine lv_aload_n hx hb dX12_solve_74 rfl (lv_at hl 0 rfl) ?_
      refine lv_iload_n hx hb dX12_solve_75 rfl (lv_at hl 1 rfl) ?_
      refine w_callI (va_runV (As := [.int x1]) (rest := []) F (c_X12_won l hL_a0 hK_a0 hp H.size) (cwV (C := RX12) 1 hts (wg_V wm_RX12_509 wy_X12_won) rfl rfl rfl (by decide +kernel) ⟨Nat.le_of_ble_eq_true rfl, Nat.le_of_ble_eq_true rfl⟩) (w_preV hK hW hL_a0 hK_a0 (by decide) rfl) rfl rfl hl.1 rfl (lv_room (Nat.le_of_ble_eq_true rfl)) dX12_solve_76 ⟨Nat.le_of_ble_eq_true rfl, Nat.le_of_ble_eq_true rfl⟩) hW (fun r_5 S_6 H locs hp hW => ?_)
      obtain ⟨hX_S_6, hp⟩ := hp
      refine W.widen (k := 0) (n := 0) (by decide) (by decide) ?_
      have hE := hE.trans hX_S_6
      have hK_a0 : sK S_6 a0 = 17 := (hX_S_6.2 a0 hL_a0).1.trans hK_a0
      have hL_a0 : wM D S_6 a0 := hX_S_6.M hL_a0
      exact w_iret hx hb hr hlocks hW ⟨hE, hp⟩ dX12_solve_79
    · replace hp := hp.2 c_1
      obtain ⟨x_7, ex_7⟩ : ∃ z : Int32, z = x2 + 1 := ⟨_, rfl⟩
      replace hp := hp x_7 ex_7
      refine lv_iinc (v := x_7) (lv' := [(2, .int x_7), (0, .ref a0), (1, .int x1), (3, .int x3)]) hx hb dX12_solve_54 hl (k := 2) rfl (by rw [ex_7]; rfl) (by decide) rfl (fun ls hl => ?_)
      refine lv_aload_n hx hb dX12_solve_57 rfl (lv_at hl 1 rfl) ?_
      refine lv_iload_n hx hb dX12_solve_58 rfl (lv_at hl 2 rfl) ?_
      refine lv_iload_n hx hb dX12_solve_59 rfl (lv_at hl 0 rfl) ?_
      refine w_callI (va_runV (As := [.int x1, .int x_7]) (rest := []) F (c_X12_finds l hL_a0 hK_a0 hp H.size) (cwV (C := RX12) 2 hts (wg_V wm_RX12_506 wy_X12_finds) rfl rfl rfl (by decide +kernel) ⟨Nat.le_of_ble_eq_true rfl, Nat.le_of_ble_eq_true rfl⟩) (w_preV hK hW hL_a0 hK_a0 (by decide) rfl) rfl rfl hl.1 rfl (lv_room (Nat.le_of_ble_eq_true rfl)) dX12_solve_60 ⟨Nat.le_of_ble_eq_true rfl, Nat.le_of_ble_eq_true rfl⟩) hW (fun r_8 S_9 H locs hp hW => ?_)
      obtain ⟨hX_S_9, hp⟩ := hp
      refine W.widen (k := 0) (n := 0) (by decide) (by decide) ?_
      have hE := hE.trans hX_S_9
      have hK_a0 : sK S_9 a0 = 17 := (hX_S_9.2 a0 hL_a0).1.trans hK_a0
      have hL_a0 : wM D S_9 a0 := hX_S_9.M hL_a0
      refine lv_istore_n (lv' := [(3, .int r_8), (2, .int x_7), (0, .ref a0), (1, .int x1)]) hx hb dX12_solve_63 rfl hl (by decide) rfl (fun ls hl => ?_)
      refine lv_goto (tgt := 50) hx hb dX12_solve_64 (by decide) ?_
      exact ih hp hW hE (lv_sub hl [2, 3, 1, 0] rfl) hL_a0 hK_a0
set_option maxHeartbeats 4000000 in
set_option maxRecDepth 100000 in
theorem t_X12_solve_34 {p : Program} {l : Launch} {e : Env} {s : State} {m : MethodId} {args : Array Value} {below : List Frame} {meth : Method} {c : Code} {D : wD} {cy : Nat → ClassId} {X : va_W} {A : Nat → Prop} {S0 : wS} {post : Int32 → wS → Prop} (F : CallFix p m c cX12_solve 4 s args wz_X12_solve RX12) (hr : meth.sig.returnType = (some .int)) (hlocks : meth.locks = false) (hK : wK D cy A s) : ∀ {S : wS} {H : Heap} {locs : List Loc} {ls : Array Slot}, wp_X12_solve_34 D post S → wO D cy X A s.heap S H locs → wX D S0 S → lv_has ls 4 [] → W p l e r_X12_solve s m args below meth c H locs 0 0 (MQ below (va_Qi (fun r S9 => wX D S0 S9 ∧ post r S9) (wB D cy X A) A) args s 0 0 A) (F0 m 34 ls []) := by
  obtain ⟨hx, hb, hml, hown, hts⟩ := id F
  have hwg : ∀ w ∈ WG, w.before args s = true := fun w h => hts w (List.mem_cons_of_mem _ h)
  intro S H locs ls hp hW hE hl
  unfold wp_X12_solve_34 at hp
  refine lv_iconst (v := 0) hx hb dX12_solve_34 (by decide) ?_
  exact w_iret hx hb hr hlocks hW ⟨hE, hp⟩ dX12_solve_35
set_option maxHeartbeats 4000000 in
set_option maxRecDepth 100000 in
theorem t_X12_solve_27 {p : Program} {l : Launch} {e : Env} {s : State} {m : MethodId} {args : Array Value} {below : List Frame} {meth : Method} {c : Code} {D : wD} {cy : Nat → ClassId} {X : va_W} {A : Nat → Prop} {S0 : wS} {post : Int32 → wS → Prop} (F : CallFix p m c cX12_solve 4 s args wz_X12_solve RX12) (hr : meth.sig.returnType = (some .int)) (hlocks : meth.locks = false) (hK : wK D cy A s) : ∀ {S : wS} {H : Heap} {locs : List Loc} {ls : Array Slot} {a0 : Nat} {x1 : Int32} {b0 : Nat} {t1 : Int32}, wp_X12_solve_27 D post S a0 x1 b0 t1 → wO D cy X A s.heap S H locs → wX D S0 S → lv_has ls 4 [(0, .ref a0), (1, .int x1)] → wM D S a0 → sK S a0 = 17 → wM D S b0 → sK S b0 = 17 → W p l e r_X12_solve s m args below meth c H locs 0 0 (MQ below (va_Qi (fun r S9 => wX D S0 S9 ∧ post r S9) (wB D cy X A) A) args s 0 0 A) (F0 m 27 ls [.int t1, .ref b0]) := by
  obtain ⟨hx, hb, hml, hown, hts⟩ := id F
  have hwg : ∀ w ∈ WG, w.before args s = true := fun w h => hts w (List.mem_cons_of_mem _ h)
  intro S H locs ls a0 x1 b0 t1 hp hW hE hl hL_a0 hK_a0 hL_b0 hK_b0
  unfold wp_X12_solve_27 at hp
  refine lv_iconst (v := 2) hx hb dX12_solve_27 (by decide) ?_
  refine w_callI (va_runV (As := [.int t1, .int (2 : Int32)]) (rest := []) F (c_X12_can l hL_b0 hK_b0 hp H.size) (cwV (C := RX12) 2 hts (wg_V wm_RX12_237 wy_X12_can) rfl rfl rfl (by decide +kernel) ⟨Nat.le_of_ble_eq_true rfl, Nat.le_of_ble_eq_true rfl⟩) (w_preV hK hW hL_b0 hK_b0 (by decide) rfl) rfl rfl hl.1 rfl (lv_room (Nat.le_of_ble_eq_true rfl)) dX12_solve_28 ⟨Nat.le_of_ble_eq_true rfl, Nat.le_of_ble_eq_true rfl⟩) hW (fun r_1 S_2 H locs hp hW => ?_)
  obtain ⟨hX_S_2, hp⟩ := hp
  refine W.widen (k := 0) (n := 0) (by decide) (by decide) ?_
  have hE := hE.trans hX_S_2
  have hK_a0 : sK S_2 a0 = 17 := (hX_S_2.2 a0 hL_a0).1.trans hK_a0
  have hL_a0 : wM D S_2 a0 := hX_S_2.M hL_a0
  refine lv_if_ne (tgt := 36) hx hb dX12_solve_31 (by decide) (fun c_3 => ?_) (fun c_3 => ?_)
  · replace hp := hp.1 c_3
    refine lv_aload_n hx hb dX12_solve_36 rfl (lv_at hl 0 rfl) ?_
    refine lv_iload_n hx hb dX12_solve_37 rfl (lv_at hl 1 rfl) ?_
    refine w_callV (va_runV (As := [.int x1]) (rest := []) F (c_X12_clears l hL_a0 hK_a0 hp H.size) (cwV (C := RX12) 1 hts (wg_V wm_RX12_503 wy_X12_clears) rfl rfl rfl (by decide +kernel) ⟨Nat.le_of_ble_eq_true rfl, Nat.le_of_ble_eq_true rfl⟩) (w_preV hK hW hL_a0 hK_a0 (by decide) rfl) rfl rfl hl.1 rfl (lv_room (Nat.le_of_ble_eq_true rfl)) dX12_solve_38 ⟨Nat.le_of_ble_eq_true rfl, Nat.le_of_ble_eq_true rfl⟩) hW (fun S_5 H locs hp hW => ?_)
    obtain ⟨hX_S_5, hp⟩ := hp
    refine W.widen (k := 0) (n := 0) (by decide) (by decide) ?_
    have hE := hE.trans hX_S_5
    have hK_a0 : sK S_5 a0 = 17 := (hX_S_5.2 a0 hL_a0).1.trans hK_a0
    have hL_a0 : wM D S_5 a0 := hX_S_5.M hL_a0
    refine lv_iconst (v := 0) hx hb dX12_solve_41 (by decide) ?_
    refine lv_istore_n (lv' := [(2, .int (0 : Int32)), (0, .ref a0), (1, .int x1)]) hx hb dX12_solve_42 rfl hl (by decide) rfl (fun ls hl => ?_)
    refine lv_aload_n hx hb dX12_solve_43 rfl (lv_at hl 1 rfl) ?_
    refine lv_iload_n hx hb dX12_solve_44 rfl (lv_at hl 2 rfl) ?_
    refine lv_iconst (v := 0) hx hb dX12_solve_45 (by decide) ?_
    refine w_callI (va_runV (As := [.int x1, .int (0 : Int32)]) (rest := []) F (c_X12_finds l hL_a0 hK_a0 hp H.size) (cwV (C := RX12) 2 hts (wg_V wm_RX12_506 wy_X12_finds) rfl rfl rfl (by decide +kernel) ⟨Nat.le_of_ble_eq_true rfl, Nat.le_of_ble_eq_true rfl⟩) (w_preV hK hW hL_a0 hK_a0 (by decide) rfl) rfl rfl hl.1 rfl (lv_room (Nat.le_of_ble_eq_true rfl)) dX12_solve_46 ⟨Nat.le_of_ble_eq_true rfl, Nat.le_of_ble_eq_true rfl⟩) hW (fun r_6 S_7 H locs hp hW => ?_)
    obtain ⟨hX_S_7, hp⟩ := hp
    refine W.widen (k := 0) (n := 0) (by decide) (by decide) ?_
    have hE := hE.trans hX_S_7
    have hK_a0 : sK S_7 a0 = 17 := (hX_S_7.2 a0 hL_a0).1.trans hK_a0
    have hL_a0 : wM D S_7 a0 := hX_S_7.M hL_a0
    refine lv_istore_n (lv' := [(3, .int r_6), (2, .int (0 : Int32)), (0, .ref a0), (1, .int x1)]) hx hb dX12_solve_49 rfl hl (by decide) rfl (fun ls hl => ?_)
    obtain ⟨n_8, hp⟩ := hp
    exact t_X12_solve_50 F hr hlocks hK n_8 hp hW hE (lv_sub hl [2, 3, 1, 0] rfl) hL_a0 hK_a0
  · replace hp := hp.2 c_3
    exact t_X12_solve_34 F hr hlocks hK hp hW hE (lv_sub hl [] rfl)
set_option maxHeartbeats 4000000 in
set_option maxRecDepth 100000 in
theorem t_X12_solve_0 {p : Program} {l : Launch} {e : Env} {s : State} {m : MethodId} {args : Array Value} {below : List Frame} {meth : Method} {c : Code} {D : wD} {cy : Nat → ClassId} {X : va_W} {A : Nat → Prop} {S0 : wS} {post : Int32 → wS → Prop} (F : CallFix p m c cX12_solve 4 s args wz_X12_solve RX12) (hr : meth.sig.returnType = (some .int)) (hlocks : meth.locks = false) (hK : wK D cy A s) : ∀ {S : wS} {H : Heap} {locs : List Loc} {ls : Array Slot} {a0 : Nat} {x1 : Int32}, wp_X12_solve_0 D post S a0 x1 → wO D cy X A s.heap S H locs → wX D S0 S → lv_has ls 4 [(0, .ref a0), (1, .int x1)] → wM D S a0 → sK S a0 = 17 → W p l e r_X12_solve s m args below meth c H locs 0 0 (MQ below (va_Qi (fun r S9 => wX D S0 S9 ∧ post r S9) (wB D cy X A) A) args s 0 0 A) (F0 m 0 ls []) := by
  obtain ⟨hx, hb, hml, hown, hts⟩ := id F
  have hwg : ∀ w ∈ WG, w.before args s = true := fun w h => hts w (List.mem_cons_of_mem _ h)
  intro S H locs ls a0 x1 hp hW hE hl hL_a0 hK_a0
  unfold wp_X12_solve_0 at hp
  refine lv_aload_n hx hb dX12_solve_0 rfl (lv_at hl 0 rfl) ?_
  refine lv_iload_n hx hb dX12_solve_1 rfl (lv_at hl 1 rfl) ?_
  refine w_callI (va_runS (As := [.int x1]) (rest := [.ref a0]) F (c_X12_isEndingKind l hp H.size) (va_cwS 1 hts (wg_S wm_RX12_500 wy_X12_isEndingKind) rfl rfl rfl (by decide +kernel) ⟨Nat.le_of_ble_eq_true rfl, Nat.le_of_ble_eq_true rfl⟩) (w_preS hK hW) rfl rfl hl.1 rfl (lv_room (Nat.le_of_ble_eq_true rfl)) dX12_solve_2 ⟨Nat.le_of_ble_eq_true rfl, Nat.le_of_ble_eq_true rfl⟩) hW (fun r_1 S_2 H locs hp hW => ?_)
  obtain ⟨hX_S_2, hp⟩ := hp
  refine W.widen (k := 0) (n := 0) (by decide) (by decide) ?_
  have hE := hE.trans hX_S_2
  have hK_a0 : sK S_2 a0 = 17 := (hX_S_2.2 a0 hL_a0).1.trans hK_a0
  have hL_a0 : wM D S_2 a0 := hX_S_2.M hL_a0
  refine lv_iconst (v := 1) hx hb dX12_solve_5 (by decide) ?_
  refine w_callI (va_runV (As := [.int r_1, .int (1 : Int32)]) (rest := []) F (c_X12_can l hL_a0 hK_a0 hp H.size) (cwV (C := RX12) 2 hts (wg_V wm_RX12_237 wy_X12_can) rfl rfl rfl (by decide +kernel) ⟨Nat.le_of_ble_eq_true rfl, Nat.le_of_ble_eq_true rfl⟩) (w_preV hK hW hL_a0 hK_a0 (by decide) rfl) rfl rfl hl.1 rfl (lv_room (Nat.le_of_ble_eq_true rfl)) dX12_solve_6 ⟨Nat.le_of_ble_eq_true rfl, Nat.le_of_ble_eq_true rfl⟩) hW (fun r_3 S_4 H locs hp hW => ?_)
  obtain ⟨hX_S_4, hp⟩ := hp
  refine W.widen (k := 0) (n := 0) (by decide) (by decide) ?_
  have hE := hE.trans hX_S_4
  have hK_a0 : sK S_4 a0 = 17 := (hX_S_4.2 a0 hL_a0).1.trans hK_a0
  have hL_a0 : wM D S_4 a0 := hX_S_4.M hL_a0
  refine lv_if_eq (tgt := 34) hx hb dX12_solve_9 (by decide) (fun c_5 => ?_) (fun c_5 => ?_)
  · replace hp := hp.1 c_5
    exact t_X12_solve_34 F hr hlocks hK hp hW hE (lv_sub hl [] rfl)
  · replace hp := hp.2 c_5
    refine lv_aload_n hx hb dX12_solve_12 rfl (lv_at hl 0 rfl) ?_
    refine lv_aload_n hx hb dX12_solve_13 rfl (lv_at hl 0 rfl) ?_
    refine w_callI (va_runV (As := []) (rest := [.ref a0]) F (c_X12_squares l hL_a0 hK_a0 hp H.size) (cwV (C := RX12) 0 hts (wg_V wm_RX12_113 wy_X12_squares) rfl rfl rfl (by decide +kernel) ⟨Nat.le_of_ble_eq_true rfl, Nat.le_of_ble_eq_true rfl⟩) (w_preV hK hW hL_a0 hK_a0 (by decide) rfl) rfl rfl hl.1 rfl (lv_room (Nat.le_of_ble_eq_true rfl)) dX12_solve_14 ⟨Nat.le_of_ble_eq_true rfl, Nat.le_of_ble_eq_true rfl⟩) hW (fun r_6 S_7 H locs hp hW => ?_)
    obtain ⟨hX_S_7, hp⟩ := hp
    refine W.widen (k := 0) (n := 0) (by decide) (by decide) ?_
    have hE := hE.trans hX_S_7
    have hK_a0 : sK S_7 a0 = 17 := (hX_S_7.2 a0 hL_a0).1.trans hK_a0
    have hL_a0 : wM D S_7 a0 := hX_S_7.M hL_a0
    refine lv_bipush (v := 25) hx hb dX12_solve_17 (by decide) ?_
    refine lv_icmp_gt (tgt := 26) hx hb dX12_solve_19 (by decide) (fun c_8 => ?_) (fun c_8 => ?_)
    · replace hp := hp.1 c_8
      refine lv_iconst (v := 0) hx hb dX12_solve_26 (by decide) ?_
      exact t_X12_solve_27 F hr hlocks hK hp hW hE (lv_sub hl [0, 1] rfl) hL_a0 hK_a0 hL_a0 hK_a0
    · replace hp := hp.2 c_8
      refine lv_iconst (v := 1) hx hb dX12_solve_22 (by decide) ?_
      refine lv_goto (tgt := 27) hx hb dX12_solve_23 (by decide) ?_
      exact t_X12_solve_27 F hr hlocks hK hp hW hE (lv_sub hl [0, 1] rfl) hL_a0 hK_a0 hL_a0 hK_a0
set_option maxHeartbeats 4000000 in
set_option maxRecDepth 100000 in
theorem c_X12_solve (l : Launch) {D : wD} {cy : Nat → ClassId} {X : va_W} {S0 : wS} {post : Int32 → wS → Prop} {a0 : Nat} {x1 : Int32} (hL_a0 : wM D S0 a0) (hK_a0 : sK S0 a0 = 17) (hp : wp_X12_solve D post S0 a0 x1) : mI D cy X l yX12_solve wz_X12_solve r_X12_solve [.ref a0, .int x1] S0 (fun r S9 => wX D S0 S9 ∧ post r S9) := by
  intro sz
  refine Met.ofW (cc := cX12_solve) (maxL := 4) (ret := (some .int)) (by decide) rfl ?_
  intro p e s m args below meth c s₁ B hml hv
  obtain ⟨rfl, hsz, hP, hK, hD0, hRO⟩ := hv
  have hts := atoms_spec (ws := wz_X12_solve) B.pre
  have hown : s.vm.findClass RX12 = some m.cls := findClass_of_methodNamed B.named
  subst hsz
  have hD := hD0.self (sz := s.heap.size)
  have F : CallFix p m c cX12_solve 4 s _ wz_X12_solve RX12 := ⟨B.exec, B.bytes, hml, hown, hts⟩
  have hr := B.returns
  have hlocks := B.notSynchronized
  generalize hAe : va_A (wL cy X S0) s.heap.size = A at hD hK ⊢
  have hA : ∀ q, s.heap.size ≤ q → A q := fun q h => by rw [← hAe]; exact Or.inr h
  have hW : wO D cy X A s.heap S0 s.heap [] := ⟨hP, hD, va_S.rf, hA, hRO⟩
  have hl := lv_entry ([.ref a0, .int x1]) (n := 4) (Nat.le_of_ble_eq_true rfl)
  rw [lg_entry_eq]
  generalize (lg_sl ([.ref a0, .int x1]) ++ List.replicate (4 - (lg_sl ([.ref a0, .int x1])).length) Slot.unset).toArray = ls at hl ⊢
  have hl : lv_has ls 4 [(0, .ref a0), (1, .int x1)] := hl
  unfold wp_X12_solve at hp
  exact t_X12_solve_0 F hr hlocks hK hp hW wX.rf (lv_sub hl [0, 1] rfl) hL_a0 hK_a0
def wp_X12_startHere_0 (D : wD) (post : Int32 → wS → Prop)  (S : wS) (a0 : Nat) : Prop :=
∀ S_1 : wS, S_1 = uI S a0 0 (0 : Int32) →
∀ x_2 : Int32, x_2 = (sI S_1 a0 11) →
wp_X12_loads D (fun S_4 => 
∃ y_5 : Nat, sR S_4 a0 3 = some y_5 ∧ wM D S_4 y_5 ∧ sK S_4 y_5 = 21 ∧
∃ y_6 : Nat, sR S_4 a0 8 = some y_6 ∧ wM D S_4 y_6 ∧ sK S_4 y_6 = 21 ∧
wp_X12_copies D (fun S_8 => 
∀ S_9 : wS, S_9 = uI S_8 a0 11 (0 : Int32) →
post x_2 S_9) S_4 (67 : Int32) y_5 (0 : Int32) y_6 (0 : Int32)) S_1 a0
abbrev r_X12_startHere : Room := { frames := 2, cells := 0, slots := 0, locals := 45 }
def wp_X12_startHere (D : wD) (post : Int32 → wS → Prop) (S : wS) (a0 : Nat) : Prop := wp_X12_startHere_0 D post S a0
set_option maxHeartbeats 4000000 in
set_option maxRecDepth 100000 in
theorem t_X12_startHere_0 {p : Program} {l : Launch} {e : Env} {s : State} {m : MethodId} {args : Array Value} {below : List Frame} {meth : Method} {c : Code} {D : wD} {cy : Nat → ClassId} {X : va_W} {A : Nat → Prop} {S0 : wS} {post : Int32 → wS → Prop} (F : CallFix p m c cX12_startHere 2 s args wz_X12_startHere RX12) (hr : meth.sig.returnType = (some .int)) (hlocks : meth.locks = false) (hK : wK D cy A s) : ∀ {S : wS} {H : Heap} {locs : List Loc} {ls : Array Slot} {a0 : Nat}, wp_X12_startHere_0 D post S a0 → wO D cy X A s.heap S H locs → wX D S0 S → lv_has ls 2 [(0, .ref a0)] → wM D S a0 → sK S a0 = 17 → W p l e r_X12_startHere s m args below meth c H locs 0 0 (MQ below (va_Qi (fun r S9 => wX D S0 S9 ∧ post r S9) (wB D cy X A) A) args s 0 0 A) (F0 m 0 ls []) := by
  obtain ⟨hx, hb, hml, hown, hts⟩ := id F
  have hwg : ∀ w ∈ WG, w.before args s = true := fun w h => hts w (List.mem_cons_of_mem _ h)
  have i_17 : ∀ w ∈ u_ws RX12 TX12 43, w ∈ wz_X12_startHere := fun w h => List.mem_cons_of_mem _ (wu_17 w h)
  have k_110 := hwg _ wf_RX12_110
  have k_121 := hwg _ wf_RX12_121
  have k_16 := hwg _ wf_RX12_16
  have k_32 := hwg _ wf_RX12_32
  intro S H locs ls a0 hp hW hE hl hL_a0 hK_a0
  unfold wp_X12_startHere_0 at hp
  refine lv_aload_n hx hb dX12_startHere_0 rfl (lv_at hl 0 rfl) ?_
  refine lv_iconst (v := 0) hx hb dX12_startHere_1 (by decide) ?_
  refine w_putI (k := 17) (f := 0) (T := TX12) F hK hW hL_a0 hK_a0 (by decide) (by decide) rfl rfl (by decide) i_17 tyX12 tyX12_ok nmX12 k_110 rfl rfl (ty := .int) rfl rfl rfl dX12_startHere_2 (fun H locs hW => ?_)
  obtain ⟨S_1, eS_1⟩ : ∃ z : wS, z = uI S a0 0 (0 : Int32) := ⟨_, rfl⟩
  rw [← eS_1] at hW
  replace hp := hp S_1 eS_1
  have hX_S_1 : wX D S S_1 := by rw [eS_1]; exact wX_uI
  have hE := hE.trans hX_S_1
  have hK_a0 : sK S_1 a0 = 17 := (hX_S_1.2 a0 hL_a0).1.trans hK_a0
  have hL_a0 : wM D S_1 a0 := hX_S_1.M hL_a0
  refine lv_aload_n hx hb dX12_startHere_5 rfl (lv_at hl 0 rfl) ?_
  refine w_get (k := 17) (f := 11) (T := TX12) (v := .int (sI S_1 a0 11)) F hK hW hL_a0 hK_a0 (by decide) rfl rfl (by decide) i_17 k_121 rfl dX12_startHere_6 ?_
  refine lv_topi (fun x_2 ex_2 => ?_)
  replace hp := hp x_2 ex_2
  refine lv_istore_n (lv' := [(1, .int x_2), (0, .ref a0)]) hx hb dX12_startHere_9 rfl hl (by decide) rfl (fun ls hl => ?_)
  refine lv_aload_n hx hb dX12_startHere_10 rfl (lv_at hl 1 rfl) ?_
  refine w_callV (va_runV (As := []) (rest := []) F (c_X12_loads l hL_a0 hK_a0 hp H.size) (cwV (C := RX12) 0 hts (wg_V wm_RX12_192 wy_X12_loads) rfl rfl rfl (by decide +kernel) ⟨Nat.le_of_ble_eq_true rfl, Nat.le_of_ble_eq_true rfl⟩) (w_preV hK hW hL_a0 hK_a0 (by decide) rfl) rfl rfl hl.1 rfl (lv_room (Nat.le_of_ble_eq_true rfl)) dX12_startHere_11 ⟨Nat.le_of_ble_eq_true rfl, Nat.le_of_ble_eq_true rfl⟩) hW (fun S_4 H locs hp hW => ?_)
  obtain ⟨hX_S_4, hp⟩ := hp
  refine W.widen (k := 0) (n := 0) (by decide) (by decide) ?_
  have hE := hE.trans hX_S_4
  have hK_a0 : sK S_4 a0 = 17 := (hX_S_4.2 a0 hL_a0).1.trans hK_a0
  have hL_a0 : wM D S_4 a0 := hX_S_4.M hL_a0
  refine lv_bipush (v := 67) hx hb dX12_startHere_14 (by decide) ?_
  refine lv_aload_n hx hb dX12_startHere_16 rfl (lv_at hl 1 rfl) ?_
  obtain ⟨y_5, ey_5, hL_y_5, hK_y_5, hp⟩ := hp
  refine w_get (k := 17) (f := 3) (T := TX12) (v := .ref y_5) F hK hW hL_a0 hK_a0 (by decide) rfl rfl (by decide) i_17 k_16 (by rw [show wv 17 3 S_4 a0 = va_rf (sR S_4 a0 3) from rfl, ey_5]; rfl) dX12_startHere_17 ?_
  refine lv_iconst (v := 0) hx hb dX12_startHere_20 (by decide) ?_
  refine lv_aload_n hx hb dX12_startHere_21 rfl (lv_at hl 1 rfl) ?_
  obtain ⟨y_6, ey_6, hL_y_6, hK_y_6, hp⟩ := hp
  refine w_get (k := 17) (f := 8) (T := TX12) (v := .ref y_6) F hK hW hL_a0 hK_a0 (by decide) rfl rfl (by decide) i_17 k_32 (by rw [show wv 17 8 S_4 a0 = va_rf (sR S_4 a0 8) from rfl, ey_6]; rfl) dX12_startHere_22 ?_
  refine lv_iconst (v := 0) hx hb dX12_startHere_25 (by decide) ?_
  refine w_callV (va_runS (As := [.int (67 : Int32), .ref y_5, .int (0 : Int32), .ref y_6, .int (0 : Int32)]) (rest := []) F (c_X12_copies l hL_y_5 hK_y_5 hL_y_6 hK_y_6 hp H.size) (va_cwS 5 hts (wg_S wm_RX12_130 wy_X12_copies) rfl rfl rfl (by decide +kernel) ⟨Nat.le_of_ble_eq_true rfl, Nat.le_of_ble_eq_true rfl⟩) (w_preS hK hW) rfl rfl hl.1 rfl (lv_room (Nat.le_of_ble_eq_true rfl)) dX12_startHere_26 ⟨Nat.le_of_ble_eq_true rfl, Nat.le_of_ble_eq_true rfl⟩) hW (fun S_8 H locs hp hW => ?_)
  obtain ⟨hX_S_8, hp⟩ := hp
  refine W.widen (k := 0) (n := 0) (by decide) (by decide) ?_
  have hE := hE.trans hX_S_8
  have hK_a0 : sK S_8 a0 = 17 := (hX_S_8.2 a0 hL_a0).1.trans hK_a0
  have hL_a0 : wM D S_8 a0 := hX_S_8.M hL_a0
  refine lv_aload_n hx hb dX12_startHere_29 rfl (lv_at hl 1 rfl) ?_
  refine lv_iconst (v := 0) hx hb dX12_startHere_30 (by decide) ?_
  refine w_putI (k := 17) (f := 11) (T := TX12) F hK hW hL_a0 hK_a0 (by decide) (by decide) rfl rfl (by decide) i_17 tyX12 tyX12_ok nmX12 k_121 rfl rfl (ty := .int) rfl rfl rfl dX12_startHere_31 (fun H locs hW => ?_)
  obtain ⟨S_9, eS_9⟩ : ∃ z : wS, z = uI S_8 a0 11 (0 : Int32) := ⟨_, rfl⟩
  rw [← eS_9] at hW
  replace hp := hp S_9 eS_9
  have hX_S_9 : wX D S_8 S_9 := by rw [eS_9]; exact wX_uI
  have hE := hE.trans hX_S_9
  have hK_a0 : sK S_9 a0 = 17 := (hX_S_9.2 a0 hL_a0).1.trans hK_a0
  have hL_a0 : wM D S_9 a0 := hX_S_9.M hL_a0
  refine lv_iload_n hx hb dX12_startHere_34 rfl (lv_at hl 0 rfl) ?_
  exact w_iret hx hb hr hlocks hW ⟨hE, hp⟩ dX12_startHere_35
set_option maxHeartbeats 4000000 in
set_option maxRecDepth 100000 in
theorem c_X12_startHere (l : Launch) {D : wD} {cy : Nat → ClassId} {X : va_W} {S0 : wS} {post : Int32 → wS → Prop} {a0 : Nat} (hL_a0 : wM D S0 a0) (hK_a0 : sK S0 a0 = 17) (hp : wp_X12_startHere D post S0 a0) : mI D cy X l yX12_startHere wz_X12_startHere r_X12_startHere [.ref a0] S0 (fun r S9 => wX D S0 S9 ∧ post r S9) := by
  intro sz
  refine Met.ofW (cc := cX12_startHere) (maxL := 2) (ret := (some .int)) (by decide) rfl ?_
  intro p e s m args below meth c s₁ B hml hv
  obtain ⟨rfl, hsz, hP, hK, hD0, hRO⟩ := hv
  have hts := atoms_spec (ws := wz_X12_startHere) B.pre
  have hown : s.vm.findClass RX12 = some m.cls := findClass_of_methodNamed B.named
  subst hsz
  have hD := hD0.self (sz := s.heap.size)
  have F : CallFix p m c cX12_startHere 2 s _ wz_X12_startHere RX12 := ⟨B.exec, B.bytes, hml, hown, hts⟩
  have hr := B.returns
  have hlocks := B.notSynchronized
  generalize hAe : va_A (wL cy X S0) s.heap.size = A at hD hK ⊢
  have hA : ∀ q, s.heap.size ≤ q → A q := fun q h => by rw [← hAe]; exact Or.inr h
  have hW : wO D cy X A s.heap S0 s.heap [] := ⟨hP, hD, va_S.rf, hA, hRO⟩
  have hl := lv_entry ([.ref a0]) (n := 2) (Nat.le_of_ble_eq_true rfl)
  rw [lg_entry_eq]
  generalize (lg_sl ([.ref a0]) ++ List.replicate (2 - (lg_sl ([.ref a0])).length) Slot.unset).toArray = ls at hl ⊢
  have hl : lv_has ls 2 [(0, .ref a0)] := hl
  unfold wp_X12_startHere at hp
  exact t_X12_startHere_0 F hr hlocks hK hp hW wX.rf (lv_sub hl [0] rfl) hL_a0 hK_a0
def wp_X12_state_20 (D : wD) (post : Int32 → wS → Prop)  (S : wS) (t0 : Int32) : Prop :=
post t0 S
def wp_X12_state_0 (D : wD) (post : Int32 → wS → Prop)  (S : wS) (a0 : Nat) : Prop :=
wp_X12_isAskable D (fun r_1 S_2 => 
wp_X12_can D (fun r_3 S_4 => 
((r_3 = 0 → wp_X12_state_20 D post S_4 (0 : Int32)) ∧
 (¬ r_3 = 0 → wp_X12_stateNow D (fun r_6 S_7 => 
wp_X12_state_20 D post S_7 r_6) S_4 a0))) S_2 a0 r_1 (1 : Int32)) S a0
abbrev r_X12_state : Room := { frames := 8, cells := 0, slots := 0, locals := 198 }
def wp_X12_state (D : wD) (post : Int32 → wS → Prop) (S : wS) (a0 : Nat) : Prop := wp_X12_state_0 D post S a0
set_option maxHeartbeats 4000000 in
set_option maxRecDepth 100000 in
theorem t_X12_state_20 {p : Program} {l : Launch} {e : Env} {s : State} {m : MethodId} {args : Array Value} {below : List Frame} {meth : Method} {c : Code} {D : wD} {cy : Nat → ClassId} {X : va_W} {A : Nat → Prop} {S0 : wS} {post : Int32 → wS → Prop} (F : CallFix p m c cX12_state 1 s args wz_X12_state RX12) (hr : meth.sig.returnType = (some .int)) (hlocks : meth.locks = false) (hK : wK D cy A s) : ∀ {S : wS} {H : Heap} {locs : List Loc} {ls : Array Slot} {t0 : Int32}, wp_X12_state_20 D post S t0 → wO D cy X A s.heap S H locs → wX D S0 S → lv_has ls 1 [] → W p l e r_X12_state s m args below meth c H locs 0 0 (MQ below (va_Qi (fun r S9 => wX D S0 S9 ∧ post r S9) (wB D cy X A) A) args s 0 0 A) (F0 m 20 ls [.int t0]) := by
  obtain ⟨hx, hb, hml, hown, hts⟩ := id F
  have hwg : ∀ w ∈ WG, w.before args s = true := fun w h => hts w (List.mem_cons_of_mem _ h)
  intro S H locs ls t0 hp hW hE hl
  unfold wp_X12_state_20 at hp
  exact w_iret hx hb hr hlocks hW ⟨hE, hp⟩ dX12_state_20
set_option maxHeartbeats 4000000 in
set_option maxRecDepth 100000 in
theorem t_X12_state_0 {p : Program} {l : Launch} {e : Env} {s : State} {m : MethodId} {args : Array Value} {below : List Frame} {meth : Method} {c : Code} {D : wD} {cy : Nat → ClassId} {X : va_W} {A : Nat → Prop} {S0 : wS} {post : Int32 → wS → Prop} (F : CallFix p m c cX12_state 1 s args wz_X12_state RX12) (hr : meth.sig.returnType = (some .int)) (hlocks : meth.locks = false) (hK : wK D cy A s) : ∀ {S : wS} {H : Heap} {locs : List Loc} {ls : Array Slot} {a0 : Nat}, wp_X12_state_0 D post S a0 → wO D cy X A s.heap S H locs → wX D S0 S → lv_has ls 1 [(0, .ref a0)] → wM D S a0 → sK S a0 = 17 → W p l e r_X12_state s m args below meth c H locs 0 0 (MQ below (va_Qi (fun r S9 => wX D S0 S9 ∧ post r S9) (wB D cy X A) A) args s 0 0 A) (F0 m 0 ls []) := by
  obtain ⟨hx, hb, hml, hown, hts⟩ := id F
  have hwg : ∀ w ∈ WG, w.before args s = true := fun w h => hts w (List.mem_cons_of_mem _ h)
  intro S H locs ls a0 hp hW hE hl hL_a0 hK_a0
  unfold wp_X12_state_0 at hp
  refine lv_aload_n hx hb dX12_state_0 rfl (lv_at hl 0 rfl) ?_
  refine lv_aload_n hx hb dX12_state_1 rfl (lv_at hl 0 rfl) ?_
  refine w_callI (va_runV (As := []) (rest := [.ref a0]) F (c_X12_isAskable l hL_a0 hK_a0 hp H.size) (cwV (C := RX12) 0 hts (wg_V wm_RX12_284 wy_X12_isAskable) rfl rfl rfl (by decide +kernel) ⟨Nat.le_of_ble_eq_true rfl, Nat.le_of_ble_eq_true rfl⟩) (w_preV hK hW hL_a0 hK_a0 (by decide) rfl) rfl rfl hl.1 rfl (lv_room (Nat.le_of_ble_eq_true rfl)) dX12_state_2 ⟨Nat.le_of_ble_eq_true rfl, Nat.le_of_ble_eq_true rfl⟩) hW (fun r_1 S_2 H locs hp hW => ?_)
  obtain ⟨hX_S_2, hp⟩ := hp
  refine W.widen (k := 0) (n := 0) (by decide) (by decide) ?_
  have hE := hE.trans hX_S_2
  have hK_a0 : sK S_2 a0 = 17 := (hX_S_2.2 a0 hL_a0).1.trans hK_a0
  have hL_a0 : wM D S_2 a0 := hX_S_2.M hL_a0
  refine lv_iconst (v := 1) hx hb dX12_state_5 (by decide) ?_
  refine w_callI (va_runV (As := [.int r_1, .int (1 : Int32)]) (rest := []) F (c_X12_can l hL_a0 hK_a0 hp H.size) (cwV (C := RX12) 2 hts (wg_V wm_RX12_237 wy_X12_can) rfl rfl rfl (by decide +kernel) ⟨Nat.le_of_ble_eq_true rfl, Nat.le_of_ble_eq_true rfl⟩) (w_preV hK hW hL_a0 hK_a0 (by decide) rfl) rfl rfl hl.1 rfl (lv_room (Nat.le_of_ble_eq_true rfl)) dX12_state_6 ⟨Nat.le_of_ble_eq_true rfl, Nat.le_of_ble_eq_true rfl⟩) hW (fun r_3 S_4 H locs hp hW => ?_)
  obtain ⟨hX_S_4, hp⟩ := hp
  refine W.widen (k := 0) (n := 0) (by decide) (by decide) ?_
  have hE := hE.trans hX_S_4
  have hK_a0 : sK S_4 a0 = 17 := (hX_S_4.2 a0 hL_a0).1.trans hK_a0
  have hL_a0 : wM D S_4 a0 := hX_S_4.M hL_a0
  refine lv_if_eq (tgt := 19) hx hb dX12_state_9 (by decide) (fun c_5 => ?_) (fun c_5 => ?_)
  · replace hp := hp.1 c_5
    refine lv_iconst (v := 0) hx hb dX12_state_19 (by decide) ?_
    exact t_X12_state_20 F hr hlocks hK hp hW hE (lv_sub hl [] rfl)
  · replace hp := hp.2 c_5
    refine lv_aload_n hx hb dX12_state_12 rfl (lv_at hl 0 rfl) ?_
    refine w_callI (va_runV (As := []) (rest := []) F (c_X12_stateNow l hL_a0 hK_a0 hp H.size) (cwV (C := RX12) 0 hts (wg_V wm_RX12_327 wy_X12_stateNow) rfl rfl rfl (by decide +kernel) ⟨Nat.le_of_ble_eq_true rfl, Nat.le_of_ble_eq_true rfl⟩) (w_preV hK hW hL_a0 hK_a0 (by decide) rfl) rfl rfl hl.1 rfl (lv_room (Nat.le_of_ble_eq_true rfl)) dX12_state_13 ⟨Nat.le_of_ble_eq_true rfl, Nat.le_of_ble_eq_true rfl⟩) hW (fun r_6 S_7 H locs hp hW => ?_)
    obtain ⟨hX_S_7, hp⟩ := hp
    refine W.widen (k := 0) (n := 0) (by decide) (by decide) ?_
    have hE := hE.trans hX_S_7
    have hK_a0 : sK S_7 a0 = 17 := (hX_S_7.2 a0 hL_a0).1.trans hK_a0
    have hL_a0 : wM D S_7 a0 := hX_S_7.M hL_a0
    refine lv_goto (tgt := 20) hx hb dX12_state_16 (by decide) ?_
    exact t_X12_state_20 F hr hlocks hK hp hW hE (lv_sub hl [] rfl)
set_option maxHeartbeats 4000000 in
set_option maxRecDepth 100000 in
theorem c_X12_state (l : Launch) {D : wD} {cy : Nat → ClassId} {X : va_W} {S0 : wS} {post : Int32 → wS → Prop} {a0 : Nat} (hL_a0 : wM D S0 a0) (hK_a0 : sK S0 a0 = 17) (hp : wp_X12_state D post S0 a0) : mI D cy X l yX12_state wz_X12_state r_X12_state [.ref a0] S0 (fun r S9 => wX D S0 S9 ∧ post r S9) := by
  intro sz
  refine Met.ofW (cc := cX12_state) (maxL := 1) (ret := (some .int)) (by decide) rfl ?_
  intro p e s m args below meth c s₁ B hml hv
  obtain ⟨rfl, hsz, hP, hK, hD0, hRO⟩ := hv
  have hts := atoms_spec (ws := wz_X12_state) B.pre
  have hown : s.vm.findClass RX12 = some m.cls := findClass_of_methodNamed B.named
  subst hsz
  have hD := hD0.self (sz := s.heap.size)
  have F : CallFix p m c cX12_state 1 s _ wz_X12_state RX12 := ⟨B.exec, B.bytes, hml, hown, hts⟩
  have hr := B.returns
  have hlocks := B.notSynchronized
  generalize hAe : va_A (wL cy X S0) s.heap.size = A at hD hK ⊢
  have hA : ∀ q, s.heap.size ≤ q → A q := fun q h => by rw [← hAe]; exact Or.inr h
  have hW : wO D cy X A s.heap S0 s.heap [] := ⟨hP, hD, va_S.rf, hA, hRO⟩
  have hl := lv_entry ([.ref a0]) (n := 1) (Nat.le_of_ble_eq_true rfl)
  rw [lg_entry_eq]
  generalize (lg_sl ([.ref a0]) ++ List.replicate (1 - (lg_sl ([.ref a0])).length) Slot.unset).toArray = ls at hl ⊢
  have hl : lv_has ls 1 [(0, .ref a0)] := hl
  unfold wp_X12_state at hp
  exact t_X12_state_0 F hr hlocks hK hp hW wX.rf (lv_sub hl [0] rfl) hL_a0 hK_a0
def wp_X12_takeBack_13 (D : wD) (post : Int32 → wS → Prop)  (S : wS) (a0 : Nat) (b0 : Nat) (t1 : Int32) : Prop :=
wp_X12_can D (fun r_1 S_2 => 
((¬ r_1 = 0 → ∀ S_4 : wS, S_4 = uI S_2 a0 11 ((sI S_2 a0 11) - (1 : Int32)) →
post (sI S_4 a0 11) S_4) ∧
 (r_1 = 0 → post (0 : Int32) S_2))) S b0 t1 (1 : Int32)
def wp_X12_takeBack_0 (D : wD) (post : Int32 → wS → Prop)  (S : wS) (a0 : Nat) : Prop :=
(((sI S a0 11) ≤ 0 → wp_X12_takeBack_13 D post S a0 a0 (0 : Int32)) ∧
 (¬ (sI S a0 11) ≤ 0 → wp_X12_takeBack_13 D post S a0 a0 (1 : Int32)))
abbrev r_X12_takeBack : Room := { frames := 1, cells := 0, slots := 0, locals := 22 }
def wp_X12_takeBack (D : wD) (post : Int32 → wS → Prop) (S : wS) (a0 : Nat) : Prop := wp_X12_takeBack_0 D post S a0
set_option maxHeartbeats 4000000 in
set_option maxRecDepth 100000 in
theorem t_X12_takeBack_13 {p : Program} {l : Launch} {e : Env} {s : State} {m : MethodId} {args : Array Value} {below : List Frame} {meth : Method} {c : Code} {D : wD} {cy : Nat → ClassId} {X : va_W} {A : Nat → Prop} {S0 : wS} {post : Int32 → wS → Prop} (F : CallFix p m c cX12_takeBack 1 s args wz_X12_takeBack RX12) (hr : meth.sig.returnType = (some .int)) (hlocks : meth.locks = false) (hK : wK D cy A s) : ∀ {S : wS} {H : Heap} {locs : List Loc} {ls : Array Slot} {a0 : Nat} {b0 : Nat} {t1 : Int32}, wp_X12_takeBack_13 D post S a0 b0 t1 → wO D cy X A s.heap S H locs → wX D S0 S → lv_has ls 1 [(0, .ref a0)] → wM D S a0 → sK S a0 = 17 → wM D S b0 → sK S b0 = 17 → W p l e r_X12_takeBack s m args below meth c H locs 0 0 (MQ below (va_Qi (fun r S9 => wX D S0 S9 ∧ post r S9) (wB D cy X A) A) args s 0 0 A) (F0 m 13 ls [.int t1, .ref b0]) := by
  obtain ⟨hx, hb, hml, hown, hts⟩ := id F
  have hwg : ∀ w ∈ WG, w.before args s = true := fun w h => hts w (List.mem_cons_of_mem _ h)
  have i_17 : ∀ w ∈ u_ws RX12 TX12 43, w ∈ wz_X12_takeBack := fun w h => List.mem_cons_of_mem _ (wu_17 w h)
  have k_121 := hwg _ wf_RX12_121
  intro S H locs ls a0 b0 t1 hp hW hE hl hL_a0 hK_a0 hL_b0 hK_b0
  unfold wp_X12_takeBack_13 at hp
  refine lv_iconst (v := 1) hx hb dX12_takeBack_13 (by decide) ?_
  refine w_callI (va_runV (As := [.int t1, .int (1 : Int32)]) (rest := []) F (c_X12_can l hL_b0 hK_b0 hp H.size) (cwV (C := RX12) 2 hts (wg_V wm_RX12_237 wy_X12_can) rfl rfl rfl (by decide +kernel) ⟨Nat.le_of_ble_eq_true rfl, Nat.le_of_ble_eq_true rfl⟩) (w_preV hK hW hL_b0 hK_b0 (by decide) rfl) rfl rfl hl.1 rfl (lv_room (Nat.le_of_ble_eq_true rfl)) dX12_takeBack_14 ⟨Nat.le_of_ble_eq_true rfl, Nat.le_of_ble_eq_true rfl⟩) hW (fun r_1 S_2 H locs hp hW => ?_)
  obtain ⟨hX_S_2, hp⟩ := hp
  refine W.widen (k := 0) (n := 0) (by decide) (by decide) ?_
  have hE := hE.trans hX_S_2
  have hK_a0 : sK S_2 a0 = 17 := (hX_S_2.2 a0 hL_a0).1.trans hK_a0
  have hL_a0 : wM D S_2 a0 := hX_S_2.M hL_a0
  refine lv_if_ne (tgt := 22) hx hb dX12_takeBack_17 (by decide) (fun c_3 => ?_) (fun c_3 => ?_)
  · replace hp := hp.1 c_3
    refine lv_aload_n hx hb dX12_takeBack_22 rfl (lv_at hl 0 rfl) ?_
    refine lv_dup hx hb dX12_takeBack_23 rfl ?_
    refine w_get (k := 17) (f := 11) (T := TX12) (v := .int (sI S_2 a0 11)) F hK hW hL_a0 hK_a0 (by decide) rfl rfl (by decide) i_17 k_121 rfl dX12_takeBack_24 ?_
    refine lv_iconst (v := 1) hx hb dX12_takeBack_27 (by decide) ?_
    refine lv_isub hx hb dX12_takeBack_28 ?_
    refine w_putI (k := 17) (f := 11) (T := TX12) F hK hW hL_a0 hK_a0 (by decide) (by decide) rfl rfl (by decide) i_17 tyX12 tyX12_ok nmX12 k_121 rfl rfl (ty := .int) rfl rfl rfl dX12_takeBack_29 (fun H locs hW => ?_)
    obtain ⟨S_4, eS_4⟩ : ∃ z : wS, z = uI S_2 a0 11 ((sI S_2 a0 11) - (1 : Int32)) := ⟨_, rfl⟩
    rw [← eS_4] at hW
    replace hp := hp S_4 eS_4
    have hX_S_4 : wX D S_2 S_4 := by rw [eS_4]; exact wX_uI
    have hE := hE.trans hX_S_4
    have hK_a0 : sK S_4 a0 = 17 := (hX_S_4.2 a0 hL_a0).1.trans hK_a0
    have hL_a0 : wM D S_4 a0 := hX_S_4.M hL_a0
    refine lv_aload_n hx hb dX12_takeBack_32 rfl (lv_at hl 0 rfl) ?_
    refine w_get (k := 17) (f := 11) (T := TX12) (v := .int (sI S_4 a0 11)) F hK hW hL_a0 hK_a0 (by decide) rfl rfl (by decide) i_17 k_121 rfl dX12_takeBack_33 ?_
    exact w_iret hx hb hr hlocks hW ⟨hE, hp⟩ dX12_takeBack_36
  · replace hp := hp.2 c_3
    refine lv_iconst (v := 0) hx hb dX12_takeBack_20 (by decide) ?_
    exact w_iret hx hb hr hlocks hW ⟨hE, hp⟩ dX12_takeBack_21
set_option maxHeartbeats 4000000 in
set_option maxRecDepth 100000 in
theorem t_X12_takeBack_0 {p : Program} {l : Launch} {e : Env} {s : State} {m : MethodId} {args : Array Value} {below : List Frame} {meth : Method} {c : Code} {D : wD} {cy : Nat → ClassId} {X : va_W} {A : Nat → Prop} {S0 : wS} {post : Int32 → wS → Prop} (F : CallFix p m c cX12_takeBack 1 s args wz_X12_takeBack RX12) (hr : meth.sig.returnType = (some .int)) (hlocks : meth.locks = false) (hK : wK D cy A s) : ∀ {S : wS} {H : Heap} {locs : List Loc} {ls : Array Slot} {a0 : Nat}, wp_X12_takeBack_0 D post S a0 → wO D cy X A s.heap S H locs → wX D S0 S → lv_has ls 1 [(0, .ref a0)] → wM D S a0 → sK S a0 = 17 → W p l e r_X12_takeBack s m args below meth c H locs 0 0 (MQ below (va_Qi (fun r S9 => wX D S0 S9 ∧ post r S9) (wB D cy X A) A) args s 0 0 A) (F0 m 0 ls []) := by
  obtain ⟨hx, hb, hml, hown, hts⟩ := id F
  have hwg : ∀ w ∈ WG, w.before args s = true := fun w h => hts w (List.mem_cons_of_mem _ h)
  have i_17 : ∀ w ∈ u_ws RX12 TX12 43, w ∈ wz_X12_takeBack := fun w h => List.mem_cons_of_mem _ (wu_17 w h)
  have k_121 := hwg _ wf_RX12_121
  intro S H locs ls a0 hp hW hE hl hL_a0 hK_a0
  unfold wp_X12_takeBack_0 at hp
  refine lv_aload_n hx hb dX12_takeBack_0 rfl (lv_at hl 0 rfl) ?_
  refine lv_aload_n hx hb dX12_takeBack_1 rfl (lv_at hl 0 rfl) ?_
  refine w_get (k := 17) (f := 11) (T := TX12) (v := .int (sI S a0 11)) F hK hW hL_a0 hK_a0 (by decide) rfl rfl (by decide) i_17 k_121 rfl dX12_takeBack_2 ?_
  refine lv_if_le (tgt := 12) hx hb dX12_takeBack_5 (by decide) (fun c_1 => ?_) (fun c_1 => ?_)
  · replace hp := hp.1 c_1
    refine lv_iconst (v := 0) hx hb dX12_takeBack_12 (by decide) ?_
    exact t_X12_takeBack_13 F hr hlocks hK hp hW hE (lv_sub hl [0] rfl) hL_a0 hK_a0 hL_a0 hK_a0
  · replace hp := hp.2 c_1
    refine lv_iconst (v := 1) hx hb dX12_takeBack_8 (by decide) ?_
    refine lv_goto (tgt := 13) hx hb dX12_takeBack_9 (by decide) ?_
    exact t_X12_takeBack_13 F hr hlocks hK hp hW hE (lv_sub hl [0] rfl) hL_a0 hK_a0 hL_a0 hK_a0
set_option maxHeartbeats 4000000 in
set_option maxRecDepth 100000 in
theorem c_X12_takeBack (l : Launch) {D : wD} {cy : Nat → ClassId} {X : va_W} {S0 : wS} {post : Int32 → wS → Prop} {a0 : Nat} (hL_a0 : wM D S0 a0) (hK_a0 : sK S0 a0 = 17) (hp : wp_X12_takeBack D post S0 a0) : mI D cy X l yX12_takeBack wz_X12_takeBack r_X12_takeBack [.ref a0] S0 (fun r S9 => wX D S0 S9 ∧ post r S9) := by
  intro sz
  refine Met.ofW (cc := cX12_takeBack) (maxL := 1) (ret := (some .int)) (by decide) rfl ?_
  intro p e s m args below meth c s₁ B hml hv
  obtain ⟨rfl, hsz, hP, hK, hD0, hRO⟩ := hv
  have hts := atoms_spec (ws := wz_X12_takeBack) B.pre
  have hown : s.vm.findClass RX12 = some m.cls := findClass_of_methodNamed B.named
  subst hsz
  have hD := hD0.self (sz := s.heap.size)
  have F : CallFix p m c cX12_takeBack 1 s _ wz_X12_takeBack RX12 := ⟨B.exec, B.bytes, hml, hown, hts⟩
  have hr := B.returns
  have hlocks := B.notSynchronized
  generalize hAe : va_A (wL cy X S0) s.heap.size = A at hD hK ⊢
  have hA : ∀ q, s.heap.size ≤ q → A q := fun q h => by rw [← hAe]; exact Or.inr h
  have hW : wO D cy X A s.heap S0 s.heap [] := ⟨hP, hD, va_S.rf, hA, hRO⟩
  have hl := lv_entry ([.ref a0]) (n := 1) (Nat.le_of_ble_eq_true rfl)
  rw [lg_entry_eq]
  generalize (lg_sl ([.ref a0]) ++ List.replicate (1 - (lg_sl ([.ref a0])).length) Slot.unset).toArray = ls at hl ⊢
  have hl : lv_has ls 1 [(0, .ref a0)] := hl
  unfold wp_X12_takeBack at hp
  exact t_X12_takeBack_0 F hr hlocks hK hp hW wX.rf (lv_sub hl [0] rfl) hL_a0 hK_a0
def wp_X12_thrown_0 (D : wD) (post : Int32 → wS → Prop)  (S : wS) (a0 : Nat) : Prop :=
post (sI S a0 0) S
abbrev r_X12_thrown : Room := { frames := 0, cells := 0, slots := 0, locals := 0 }
def wp_X12_thrown (D : wD) (post : Int32 → wS → Prop) (S : wS) (a0 : Nat) : Prop := wp_X12_thrown_0 D post S a0
set_option maxHeartbeats 4000000 in
set_option maxRecDepth 100000 in
theorem t_X12_thrown_0 {p : Program} {l : Launch} {e : Env} {s : State} {m : MethodId} {args : Array Value} {below : List Frame} {meth : Method} {c : Code} {D : wD} {cy : Nat → ClassId} {X : va_W} {A : Nat → Prop} {S0 : wS} {post : Int32 → wS → Prop} (F : CallFix p m c cX12_thrown 1 s args wz_X12_thrown RX12) (hr : meth.sig.returnType = (some .int)) (hlocks : meth.locks = false) (hK : wK D cy A s) : ∀ {S : wS} {H : Heap} {locs : List Loc} {ls : Array Slot} {a0 : Nat}, wp_X12_thrown_0 D post S a0 → wO D cy X A s.heap S H locs → wX D S0 S → lv_has ls 1 [(0, .ref a0)] → wM D S a0 → sK S a0 = 17 → W p l e r_X12_thrown s m args below meth c H locs 0 0 (MQ below (va_Qi (fun r S9 => wX D S0 S9 ∧ post r S9) (wB D cy X A) A) args s 0 0 A) (F0 m 0 ls []) := by
  obtain ⟨hx, hb, hml, hown, hts⟩ := id F
  have hwg : ∀ w ∈ WG, w.before args s = true := fun w h => hts w (List.mem_cons_of_mem _ h)
  have i_17 : ∀ w ∈ u_ws RX12 TX12 43, w ∈ wz_X12_thrown := fun w h => List.mem_cons_of_mem _ (wu_17 w h)
  have k_110 := hwg _ wf_RX12_110
  intro S H locs ls a0 hp hW hE hl hL_a0 hK_a0
  unfold wp_X12_thrown_0 at hp
  refine lv_aload_n hx hb dX12_thrown_0 rfl (lv_at hl 0 rfl) ?_
  refine w_get (k := 17) (f := 0) (T := TX12) (v := .int (sI S a0 0)) F hK hW hL_a0 hK_a0 (by decide) rfl rfl (by decide) i_17 k_110 rfl dX12_thrown_1 ?_
  exact w_iret hx hb hr hlocks hW ⟨hE, hp⟩ dX12_thrown_4
set_option maxHeartbeats 4000000 in
set_option maxRecDepth 100000 in
theorem c_X12_thrown (l : Launch) {D : wD} {cy : Nat → ClassId} {X : va_W} {S0 : wS} {post : Int32 → wS → Prop} {a0 : Nat} (hL_a0 : wM D S0 a0) (hK_a0 : sK S0 a0 = 17) (hp : wp_X12_thrown D post S0 a0) : mI D cy X l yX12_thrown wz_X12_thrown r_X12_thrown [.ref a0] S0 (fun r S9 => wX D S0 S9 ∧ post r S9) := by
  intro sz
  refine Met.ofW (cc := cX12_thrown) (maxL := 1) (ret := (some .int)) (by decide) rfl ?_
  intro p e s m args below meth c s₁ B hml hv
  obtain ⟨rfl, hsz, hP, hK, hD0, hRO⟩ := hv
  have hts := atoms_spec (ws := wz_X12_thrown) B.pre
  have hown : s.vm.findClass RX12 = some m.cls := findClass_of_methodNamed B.named
  subst hsz
  have hD := hD0.self (sz := s.heap.size)
  have F : CallFix p m c cX12_thrown 1 s _ wz_X12_thrown RX12 := ⟨B.exec, B.bytes, hml, hown, hts⟩
  have hr := B.returns
  have hlocks := B.notSynchronized
  generalize hAe : va_A (wL cy X S0) s.heap.size = A at hD hK ⊢
  have hA : ∀ q, s.heap.size ≤ q → A q := fun q h => by rw [← hAe]; exact Or.inr h
  have hW : wO D cy X A s.heap S0 s.heap [] := ⟨hP, hD, va_S.rf, hA, hRO⟩
  have hl := lv_entry ([.ref a0]) (n := 1) (Nat.le_of_ble_eq_true rfl)
  rw [lg_entry_eq]
  generalize (lg_sl ([.ref a0]) ++ List.replicate (1 - (lg_sl ([.ref a0])).length) Slot.unset).toArray = ls at hl ⊢
  have hl : lv_has ls 1 [(0, .ref a0)] := hl
  unfold wp_X12_thrown at hp
  exact t_X12_thrown_0 F hr hlocks hK hp hW wX.rf (lv_sub hl [0] rfl) hL_a0 hK_a0
def wp_X12_type_156 (D : wD) (post : Int32 → wS → Prop) (k_114 : wS → Nat → Int64 → Int32 → Prop) (S : wS) (a0 : Nat) (x1 : Int64) (x5 : Int32) : Prop :=
∀ x_1 : Int32, x_1 = x5 + (-8) →
k_114 S a0 x1 x_1
def wp_X12_type_114 (D : wD) (post : Int32 → wS → Prop)  : Nat → wS → Nat → Int64 → Int32 → Prop
  | 0, _, _, _, _ => False
  | n + 1, S, a0, x1, x5 =>
    ((x5 < 0 → post (sI S a0 13) S) ∧
     (¬ x5 < 0 → ∀ x_2 : Int32, x_2 = (Int64.toInt32 ((jlshr x1 x5) &&& (255 : Int64))) →
    ((x_2 = 0 → wp_X12_type_156 D post (wp_X12_type_114 D post n) S a0 x1 x5) ∧
     (¬ x_2 = 0 → ∃ y_4 : Nat, sR S a0 12 = some y_4 ∧ wM D S y_4 ∧ sK S y_4 = 21 ∧
    y_4 ∈ sL S ∧ vp_in (sI S a0 13) (sN S y_4) ∧
    ∀ S_6 : wS, S_6 = uI S y_4 ((sI S a0 13)).toNatClampNeg x_2 →
    ∀ S_7 : wS, S_7 = uI S_6 a0 13 ((sI S_6 a0 13) + (1 : Int32)) →
    wp_X12_type_156 D post (wp_X12_type_114 D post n) S_7 a0 x1 x5))))
def wp_X12_type_108 (D : wD) (post : Int32 → wS → Prop)  (S : wS) : Prop :=
post (0 : Int32) S
def wp_X12_type_101 (D : wD) (post : Int32 → wS → Prop)  (S : wS) (a0 : Nat) (x1 : Int64) (b0 : Nat) (t1 : Int32) : Prop :=
wp_X12_can D (fun r_1 S_2 => 
((¬ r_1 = 0 → ∃ n_4 : Nat, wp_X12_type_114 D post n_4 S_2 a0 x1 (56 : Int32)) ∧
 (r_1 = 0 → wp_X12_type_108 D post S_2))) S b0 t1 (2 : Int32)
def wp_X12_type_65 (D : wD) (post : Int32 → wS → Prop) (k_9 : wS → Nat → Int64 → Int32 → Int32 → Int32 → Prop) (S : wS) (a0 : Nat) (x1 : Int64) (x4 : Int32) (x5 : Int32) (t0 : Int32) (t1 : Int32) : Prop :=
∀ x_1 : Int32, x_1 = (t0 + t1) →
∀ x_2 : Int32, x_2 = x5 + (-8) →
k_9 S a0 x1 x_1 x4 x_2
def wp_X12_type_52 (D : wD) (post : Int32 → wS → Prop) (k_9 : wS → Nat → Int64 → Int32 → Int32 → Int32 → Prop) (S : wS) (a0 : Nat) (x1 : Int64) (x3 : Int32) (x5 : Int32) (x6 : Int32) (t0 : Int32) : Prop :=
((¬ x6 = 0 → wp_X12_type_65 D post k_9 S a0 x1 t0 x5 x3 (1 : Int32)) ∧
 (x6 = 0 → wp_X12_type_65 D post k_9 S a0 x1 t0 x5 x3 (0 : Int32)))
def wp_X12_type_51 (D : wD) (post : Int32 → wS → Prop) (k_9 : wS → Nat → Int64 → Int32 → Int32 → Int32 → Prop) (S : wS) (a0 : Nat) (x1 : Int64) (x3 : Int32) (x5 : Int32) (x6 : Int32) : Prop :=
wp_X12_type_52 D post k_9 S a0 x1 x3 x5 x6 (0 : Int32)
def wp_X12_type_47 (D : wD) (post : Int32 → wS → Prop) (k_9 : wS → Nat → Int64 → Int32 → Int32 → Int32 → Prop) (S : wS) (a0 : Nat) (x1 : Int64) (x3 : Int32) (x5 : Int32) (x6 : Int32) : Prop :=
wp_X12_type_52 D post k_9 S a0 x1 x3 x5 x6 (1 : Int32)
def wp_X12_type_9 (D : wD) (post : Int32 → wS → Prop)  : Nat → wS → Nat → Int64 → Int32 → Int32 → Int32 → Prop
  | 0, _, _, _, _, _, _ => False
  | n + 1, S, a0, x1, x3, x4, x5 =>
    ((x5 < 0 → wp_X12_can D (fun r_2 S_3 => 
    ((r_2 = 0 → wp_X12_type_108 D post S_3) ∧
     (¬ r_2 = 0 → (((500 : Int32) < ((sI S_3 a0 13) + x3) → wp_X12_type_101 D post S_3 a0 x1 a0 (0 : Int32)) ∧
     (¬ (500 : Int32) < ((sI S_3 a0 13) + x3) → wp_X12_type_101 D post S_3 a0 x1 a0 (1 : Int32)))))) S a0 x4 (1 : Int32)) ∧
     (¬ x5 < 0 → ∀ x_6 : Int32, x_6 = (Int64.toInt32 ((jlshr x1 x5) &&& (255 : Int64))) →
    ((x4 = 0 → wp_X12_type_51 D post (wp_X12_type_9 D post n) S a0 x1 x3 x5 x_6) ∧
     (¬ x4 = 0 → ((x_6 = 0 → wp_X12_type_47 D post (wp_X12_type_9 D post n) S a0 x1 x3 x5 x_6) ∧
     (¬ x_6 = 0 → wp_X12_in D (fun r_9 S_10 => 
    ((r_9 = 0 → wp_X12_type_51 D post (wp_X12_type_9 D post n) S_10 a0 x1 x3 x5 x_6) ∧
     (¬ r_9 = 0 → wp_X12_type_47 D post (wp_X12_type_9 D post n) S_10 a0 x1 x3 x5 x_6))) S x_6 (32 : Int32) (126 : Int32)))))))
def wp_X12_type_0 (D : wD) (post : Int32 → wS → Prop)  (S : wS) (a0 : Nat) (x1 : Int64) : Prop :=
∃ n_1 : Nat, wp_X12_type_9 D post n_1 S a0 x1 (0 : Int32) (1 : Int32) (56 : Int32)
abbrev r_X12_type : Room := { frames := 1, cells := 0, slots := 0, locals := 22 }
def wp_X12_type (D : wD) (post : Int32 → wS → Prop) (S : wS) (a0 : Nat) (x1 : Int64) : Prop := wp_X12_type_0 D post S a0 x1
set_option maxHeartbeats 4000000 in
set_option maxRecDepth 100000 in
theorem t_X12_type_156 {p : Program} {l : Launch} {e : Env} {s : State} {m : MethodId} {args : Array Value} {below : List Frame} {meth : Method} {c : Code} {D : wD} {cy : Nat → ClassId} {X : va_W} {A : Nat → Prop} {S0 : wS} {post : Int32 → wS → Prop} (F : CallFix p m c cX12_type 7 s args wz_X12_type RX12) (hr : meth.sig.returnType = (some .int)) (hlocks : meth.locks = false) (hK : wK D cy A s) {k_114 : wS → Nat → Int64 → Int32 → Prop} (q_114 : ∀ {S : wS} {H : Heap} {locs : List Loc} {ls : Array Slot} {a0 : Nat} {x1 : Int64} {x5 : Int32}, k_114 S a0 x1 x5 → wO D cy X A s.heap S H locs → wX D S0 S → lv_has ls 7 [(0, .ref a0), (1, .long x1), (5, .int x5)] → wM D S a0 → sK S a0 = 17 → W p l e r_X12_type s m args below meth c H locs 0 0 (MQ below (va_Qi (fun r S9 => wX D S0 S9 ∧ post r S9) (wB D cy X A) A) args s 0 0 A) (F0 m 114 ls [])) : ∀ {S : wS} {H : Heap} {locs : List Loc} {ls : Array Slot} {a0 : Nat} {x1 : Int64} {x5 : Int32}, wp_X12_type_156 D post k_114 S a0 x1 x5 → wO D cy X A s.heap S H locs → wX D S0 S → lv_has ls 7 [(0, .ref a0), (1, .long x1), (5, .int x5)] → wM D S a0 → sK S a0 = 17 → W p l e r_X12_type s m args below meth c H locs 0 0 (MQ below (va_Qi (fun r S9 => wX D S0 S9 ∧ post r S9) (wB D cy X A) A) args s 0 0 A) (F0 m 156 ls []) := by
  obtain ⟨hx, hb, hml, hown, hts⟩ := id F
  have hwg : ∀ w ∈ WG, w.before args s = true := fun w h => hts w (List.mem_cons_of_mem _ h)
  intro S H locs ls a0 x1 x5 hp hW hE hl hL_a0 hK_a0
  unfold wp_X12_type_156 at hp
  obtain ⟨x_1, ex_1⟩ : ∃ z : Int32, z = x5 + (-8) := ⟨_, rfl⟩
  replace hp := hp x_1 ex_1
  refine lv_iinc (v := x_1) (lv' := [(5, .int x_1), (0, .ref a0), (1, .long x1)]) hx hb dX12_type_156 hl (k := 2) rfl (by rw [ex_1]; rfl) (by decide) rfl (fun ls hl => ?_)
  refine lv_goto (tgt := 114) hx hb dX12_type_159 (by decide) ?_
  exact q_114 hp hW hE (lv_sub hl [1, 2, 0] rfl) hL_a0 hK_a0
set_option maxHeartbeats 4000000 in
set_option maxRecDepth 100000 in
theorem t_X12_type_114 {p : Program} {l : Launch} {e : Env} {s : State} {m : MethodId} {args : Array Value} {below : List Frame} {meth : Method} {c : Code} {D : wD} {cy : Nat → ClassId} {X : va_W} {A : Nat → Prop} {S0 : wS} {post : Int32 → wS → Prop} (F : CallFix p m c cX12_type 7 s args wz_X12_type RX12) (hr : meth.sig.returnType = (some .int)) (hlocks : meth.locks = false) (hK : wK D cy A s) : ∀ (n : Nat) {S : wS} {H : Heap} {locs : List Loc} {ls : Array Slot} {a0 : Nat} {x1 : Int64} {x5 : Int32}, wp_X12_type_114 D post n S a0 x1 x5 → wO D cy X A s.heap S H locs → wX D S0 S → lv_has ls 7 [(0, .ref a0), (1, .long x1), (5, .int x5)] → wM D S a0 → sK S a0 = 17 → W p l e r_X12_type s m args below meth c H locs 0 0 (MQ below (va_Qi (fun r S9 => wX D S0 S9 ∧ post r S9) (wB D cy X A) A) args s 0 0 A) (F0 m 114 ls []) := by
  obtain ⟨hx, hb, hml, hown, hts⟩ := id F
  have hwg : ∀ w ∈ WG, w.before args s = true := fun w h => hts w (List.mem_cons_of_mem _ h)
  have i_17 : ∀ w ∈ u_ws RX12 TX12 43, w ∈ wz_X12_type := fun w h => List.mem_cons_of_mem _ (wu_17 w h)
  have k_259 := hwg _ wf_RX12_259
  have k_42 := hwg _ wf_RX12_42
  intro n
  induction n with
  | zero =>
    intro S H locs ls a0 x1 x5 hp
    exact hp.elim
  | succ n ih =>
    intro S H locs ls a0 x1 x5 hp hW hE hl hL_a0 hK_a0
    unfold wp_X12_type_114 at hp
    refine lv_iload hx hb dX12_type_114 (lv_at hl 2 rfl) ?_
    refine lv_if_lt (tgt := 162) hx hb dX12_type_116 (by decide) (fun c_1 => ?_) (fun c_1 => ?_)
    · replace hp := hp.1 c_1
      refine lv_aload_n hx hb dX12_type_162 rfl (lv_at hl 0 rfl) ?_
      refine w_get (k := 17) (f := 13) (T := TX12) (v := .int (sI S a0 13)) F hK hW hL_a0 hK_a0 (by decide) rfl rfl (by decide) i_17 k_259 rfl dX12_type_163 ?_
      exact w_iret hx hb hr hlocks hW ⟨hE, hp⟩ dX12_type_166
    · replace hp := hp.2 c_1
      refine lv_lload_n hx hb dX12_type_119 rfl (lv_at hl 1 rfl) ?_
      refine lv_iload hx hb dX12_type_120 (lv_at hl 2 rfl) ?_
      refine lv_lshr (v := (jlshr x1 x5)) hx hb dX12_type_122 rfl ?_
      refine lv_ldc2 (v := 255) hx hb hown (hwg _ wJ_RX12_343) dX12_type_123 ?_
      refine lv_land hx hb dX12_type_126 ?_
      refine lv_l2i (v := (Int64.toInt32 ((jlshr x1 x5) &&& (255 : Int64)))) hx hb dX12_type_127 rfl ?_
      refine lv_topi (fun x_2 ex_2 => ?_)
      replace hp := hp x_2 ex_2
      refine lv_istore (lv' := [(6, .int x_2), (0, .ref a0), (1, .long x1), (5, .int x5)]) hx hb dX12_type_128 hl (by decide) rfl (fun ls hl => ?_)
      refine lv_iload hx hb dX12_type_130 (lv_at hl 0 rfl) ?_
      refine lv_if_eq (tgt := 156) hx hb dX12_type_132 (by decide) (fun c_3 => ?_) (fun c_3 => ?_)
      · replace hp := hp.1 c_3
        exact t_X12_type_156 F hr hlocks hK ih hp hW hE (lv_sub hl [1, 2, 3] rfl) hL_a0 hK_a0
      · replace hp := hp.2 c_3
        refine lv_aload_n hx hb dX12_type_135 rfl (lv_at hl 1 rfl) ?_
        obtain ⟨y_4, ey_4, hL_y_4, hK_y_4, hp⟩ := hp
        refine w_get (k := 17) (f := 12) (T := TX12) (v := .ref y_4) F hK hW hL_a0 hK_a0 (by decide) rfl rfl (by decide) i_17 k_42 (by rw [show wv 17 12 S a0 = va_rf (sR S a0 12) from rfl, ey_4]; rfl) dX12_type_136 ?_
        refine lv_aload_n hx hb dX12_type_139 rfl (lv_at hl 1 rfl) ?_
        refine w_get (k := 17) (f := 13) (T := TX12) (v := .int (sI S a0 13)) F hK hW hL_a0 hK_a0 (by decide) rfl rfl (by decide) i_17 k_259 rfl dX12_type_140 ?_
        refine lv_iload hx hb dX12_type_143 (lv_at hl 0 rfl) ?_
        obtain ⟨h_5m, h_5, hp⟩ := hp
        refine w_ist F hK hW h_5m hK_y_4 h_5 dX12_type_145 (fun H locs hW => ?_)
        obtain ⟨S_6, eS_6⟩ : ∃ z : wS, z = uI S y_4 ((sI S a0 13)).toNatClampNeg x_2 := ⟨_, rfl⟩
        rw [← eS_6] at hW
        replace hp := hp S_6 eS_6
        have hX_S_6 : wX D S S_6 := by rw [eS_6]; exact wX_uI
        have hE := hE.trans hX_S_6
        have hK_a0 : sK S_6 a0 = 17 := (hX_S_6.2 a0 hL_a0).1.trans hK_a0
        have hL_a0 : wM D S_6 a0 := hX_S_6.M hL_a0
        refine lv_aload_n hx hb dX12_type_146 rfl (lv_at hl 1 rfl) ?_
        refine lv_dup hx hb dX12_type_147 rfl ?_
        refine w_get (k := 17) (f := 13) (T := TX12) (v := .int (sI S_6 a0 13)) F hK hW hL_a0 hK_a0 (by decide) rfl rfl (by decide) i_17 k_259 rfl dX12_type_148 ?_
        refine lv_iconst (v := 1) hx hb dX12_type_151 (by decide) ?_
        refine lv_iadd hx hb dX12_type_152 ?_
        refine w_putI (k := 17) (f := 13) (T := TX12) F hK hW hL_a0 hK_a0 (by decide) (by decide) rfl rfl (by decide) i_17 tyX12 tyX12_ok nmX12 k_259 rfl rfl (ty := .int) rfl rfl rfl dX12_type_153 (fun H locs hW => ?_)
        obtain ⟨S_7, eS_7⟩ : ∃ z : wS, z = uI S_6 a0 13 ((sI S_6 a0 13) + (1 : Int32)) := ⟨_, rfl⟩
        rw [← eS_7] at hW
        replace hp := hp S_7 eS_7
        have hX_S_7 : wX D S_6 S_7 := by rw [eS_7]; exact wX_uI
        have hE := hE.trans hX_S_7
        have hK_a0 : sK S_7 a0 = 17 := (hX_S_7.2 a0 hL_a0).1.trans hK_a0
        have hL_a0 : wM D S_7 a0 := hX_S_7.M hL_a0
        exact t_X12_type_156 F hr hlocks hK ih hp hW hE (lv_sub hl [1, 2, 3] rfl) hL_a0 hK_a0
set_option maxHeartbeats 4000000 in
set_option maxRecDepth 100000 in
theorem t_X12_type_108 {p : Program} {l : Launch} {e : Env} {s : State} {m : MethodId} {args : Array Value} {below : List Frame} {meth : Method} {c : Code} {D : wD} {cy : Nat → ClassId} {X : va_W} {A : Nat → Prop} {S0 : wS} {post : Int32 → wS → Prop} (F : CallFix p m c cX12_type 7 s args wz_X12_type RX12) (hr : meth.sig.returnType = (some .int)) (hlocks : meth.locks = false) (hK : wK D cy A s) : ∀ {S : wS} {H : Heap} {locs : List Loc} {ls : Array Slot}, wp_X12_type_108 D post S → wO D cy X A s.heap S H locs → wX D S0 S → lv_has ls 7 [] → W p l e r_X12_type s m args below meth c H locs 0 0 (MQ below (va_Qi (fun r S9 => wX D S0 S9 ∧ post r S9) (wB D cy X A) A) args s 0 0 A) (F0 m 108 ls []) := by
  obtain ⟨hx, hb, hml, hown, hts⟩ := id F
  have hwg : ∀ w ∈ WG, w.before args s = true := fun w h => hts w (List.mem_cons_of_mem _ h)
  intro S H locs ls hp hW hE hl
  unfold wp_X12_type_108 at hp
  refine lv_iconst (v := 0) hx hb dX12_type_108 (by decide) ?_
  exact w_iret hx hb hr hlocks hW ⟨hE, hp⟩ dX12_type_109
set_option maxHeartbeats 4000000 in
set_option maxRecDepth 100000 in
theorem t_X12_type_101 {p : Program} {l : Launch} {e : Env} {s : State} {m : MethodId} {args : Array Value} {below : List Frame} {meth : Method} {c : Code} {D : wD} {cy : Nat → ClassId} {X : va_W} {A : Nat → Prop} {S0 : wS} {post : Int32 → wS → Prop} (F : CallFix p m c cX12_type 7 s args wz_X12_type RX12) (hr : meth.sig.returnType = (some .int)) (hlocks : meth.locks = false) (hK : wK D cy A s) : ∀ {S : wS} {H : Heap} {locs : List Loc} {ls : Array Slot} {a0 : Nat} {x1 : Int64} {b0 : Nat} {t1 : Int32}, wp_X12_type_101 D post S a0 x1 b0 t1 → wO D cy X A s.heap S H locs → wX D S0 S → lv_has ls 7 [(0, .ref a0), (1, .long x1)] → wM D S a0 → sK S a0 = 17 → wM D S b0 → sK S b0 = 17 → W p l e r_X12_type s m args below meth c H locs 0 0 (MQ below (va_Qi (fun r S9 => wX D S0 S9 ∧ post r S9) (wB D cy X A) A) args s 0 0 A) (F0 m 101 ls [.int t1, .ref b0]) := by
  obtain ⟨hx, hb, hml, hown, hts⟩ := id F
  have hwg : ∀ w ∈ WG, w.before args s = true := fun w h => hts w (List.mem_cons_of_mem _ h)
  intro S H locs ls a0 x1 b0 t1 hp hW hE hl hL_a0 hK_a0 hL_b0 hK_b0
  unfold wp_X12_type_101 at hp
  refine lv_iconst (v := 2) hx hb dX12_type_101 (by decide) ?_
  refine w_callI (va_runV (As := [.int t1, .int (2 : Int32)]) (rest := []) F (c_X12_can l hL_b0 hK_b0 hp H.size) (cwV (C := RX12) 2 hts (wg_V wm_RX12_237 wy_X12_can) rfl rfl rfl (by decide +kernel) ⟨Nat.le_of_ble_eq_true rfl, Nat.le_of_ble_eq_true rfl⟩) (w_preV hK hW hL_b0 hK_b0 (by decide) rfl) rfl rfl hl.1 rfl (lv_room (Nat.le_of_ble_eq_true rfl)) dX12_type_102 ⟨Nat.le_of_ble_eq_true rfl, Nat.le_of_ble_eq_true rfl⟩) hW (fun r_1 S_2 H locs hp hW => ?_)
  obtain ⟨hX_S_2, hp⟩ := hp
  refine W.widen (k := 0) (n := 0) (by decide) (by decide) ?_
  have hE := hE.trans hX_S_2
  have hK_a0 : sK S_2 a0 = 17 := (hX_S_2.2 a0 hL_a0).1.trans hK_a0
  have hL_a0 : wM D S_2 a0 := hX_S_2.M hL_a0
  refine lv_if_ne (tgt := 110) hx hb dX12_type_105 (by decide) (fun c_3 => ?_) (fun c_3 => ?_)
  · replace hp := hp.1 c_3
    refine lv_bipush (v := 56) hx hb dX12_type_110 (by decide) ?_
    refine lv_istore (lv' := [(5, .int (56 : Int32)), (0, .ref a0), (1, .long x1)]) hx hb dX12_type_112 hl (by decide) rfl (fun ls hl => ?_)
    obtain ⟨n_4, hp⟩ := hp
    exact t_X12_type_114 F hr hlocks hK n_4 hp hW hE (lv_sub hl [1, 2, 0] rfl) hL_a0 hK_a0
  · replace hp := hp.2 c_3
    exact t_X12_type_108 F hr hlocks hK hp hW hE (lv_sub hl [] rfl)
set_option maxHeartbeats 4000000 in
set_option maxRecDepth 100000 in
theorem t_X12_type_65 {p : Program} {l : Launch} {e : Env} {s : State} {m : MethodId} {args : Array Value} {below : List Frame} {meth : Method} {c : Code} {D : wD} {cy : Nat → ClassId} {X : va_W} {A : Nat → Prop} {S0 : wS} {post : Int32 → wS → Prop} (F : CallFix p m c cX12_type 7 s args wz_X12_type RX12) (hr : meth.sig.returnType = (some .int)) (hlocks : meth.locks = false) (hK : wK D cy A s) {k_9 : wS → Nat → Int64 → Int32 → Int32 → Int32 → Prop} (q_9 : ∀ {S : wS} {H : Heap} {locs : List Loc} {ls : Array Slot} {a0 : Nat} {x1 : Int64} {x3 : Int32} {x4 : Int32} {x5 : Int32}, k_9 S a0 x1 x3 x4 x5 → wO D cy X A s.heap S H locs → wX D S0 S → lv_has ls 7 [(0, .ref a0), (1, .long x1), (3, .int x3), (4, .int x4), (5, .int x5)] → wM D S a0 → sK S a0 = 17 → W p l e r_X12_type s m args below meth c H locs 0 0 (MQ below (va_Qi (fun r S9 => wX D S0 S9 ∧ post r S9) (wB D cy X A) A) args s 0 0 A) (F0 m 9 ls [])) : ∀ {S : wS} {H : Heap} {locs : List Loc} {ls : Array Slot} {a0 : Nat} {x1 : Int64} {x4 : Int32} {x5 : Int32} {t0 : Int32} {t1 : Int32}, wp_X12_type_65 D post k_9 S a0 x1 x4 x5 t0 t1 → wO D cy X A s.heap S H locs → wX D S0 S → lv_has ls 7 [(0, .ref a0), (1, .long x1), (4, .int x4), (5, .int x5)] → wM D S a0 → sK S a0 = 17 → W p l e r_X12_type s m args below meth c H locs 0 0 (MQ below (va_Qi (fun r S9 => wX D S0 S9 ∧ post r S9) (wB D cy X A) A) args s 0 0 A) (F0 m 65 ls [.int t1, .int t0]) := by
  obtain ⟨hx, hb, hml, hown, hts⟩ := id F
  have hwg : ∀ w ∈ WG, w.before args s = true := fun w h => hts w (List.mem_cons_of_mem _ h)
  intro S H locs ls a0 x1 x4 x5 t0 t1 hp hW hE hl hL_a0 hK_a0
  unfold wp_X12_type_65 at hp
  refine lv_iadd hx hb dX12_type_65 ?_
  refine lv_topi (fun x_1 ex_1 => ?_)
  replace hp := hp x_1 ex_1
  refine lv_istore_n (lv' := [(3, .int x_1), (0, .ref a0), (1, .long x1), (4, .int x4), (5, .int x5)]) hx hb dX12_type_66 rfl hl (by decide) rfl (fun ls hl => ?_)
  obtain ⟨x_2, ex_2⟩ : ∃ z : Int32, z = x5 + (-8) := ⟨_, rfl⟩
  replace hp := hp x_2 ex_2
  refine lv_iinc (v := x_2) (lv' := [(5, .int x_2), (3, .int x_1), (0, .ref a0), (1, .long x1), (4, .int x4)]) hx hb dX12_type_67 hl (k := 4) rfl (by rw [ex_2]; rfl) (by decide) rfl (fun ls hl => ?_)
  refine lv_goto (tgt := 9) hx hb dX12_type_70 (by decide) ?_
  exact q_9 hp hW hE (lv_sub hl [2, 3, 1, 4, 0] rfl) hL_a0 hK_a0
set_option maxHeartbeats 4000000 in
set_option maxRecDepth 100000 in
theorem t_X12_type_52 {p : Program} {l : Launch} {e : Env} {s : State} {m : MethodId} {args : Array Value} {below : List Frame} {meth : Method} {c : Code} {D : wD} {cy : Nat → ClassId} {X : va_W} {A : Nat → Prop} {S0 : wS} {post : Int32 → wS → Prop} (F : CallFix p m c cX12_type 7 s args wz_X12_type RX12) (hr : meth.sig.returnType = (some .int)) (hlocks : meth.locks = false) (hK : wK D cy A s) {k_9 : wS → Nat → Int64 → Int32 → Int32 → Int32 → Prop} (q_9 : ∀ {S : wS} {H : Heap} {locs : List Loc} {ls : Array Slot} {a0 : Nat} {x1 : Int64} {x3 : Int32} {x4 : Int32} {x5 : Int32}, k_9 S a0 x1 x3 x4 x5 → wO D cy X A s.heap S H locs → wX D S0 S → lv_has ls 7 [(0, .ref a0), (1, .long x1), (3, .int x3), (4, .int x4), (5, .int x5)] → wM D S a0 → sK S a0 = 17 → W p l e r_X12_type s m args below meth c H locs 0 0 (MQ below (va_Qi (fun r S9 => wX D S0 S9 ∧ post r S9) (wB D cy X A) A) args s 0 0 A) (F0 m 9 ls [])) : ∀ {S : wS} {H : Heap} {locs : List Loc} {ls : Array Slot} {a0 : Nat} {x1 : Int64} {x3 : Int32} {x5 : Int32} {x6 : Int32} {t0 : Int32}, wp_X12_type_52 D post k_9 S a0 x1 x3 x5 x6 t0 → wO D cy X A s.heap S H locs → wX D S0 S → lv_has ls 7 [(0, .ref a0), (1, .long x1), (3, .int x3), (5, .int x5), (6, .int x6)] → wM D S a0 → sK S a0 = 17 → W p l e r_X12_type s m args below meth c H locs 0 0 (MQ below (va_Qi (fun r S9 => wX D S0 S9 ∧ post r S9) (wB D cy X A) A) args s 0 0 A) (F0 m 52 ls [.int t0]) := by
  obtain ⟨hx, hb, hml, hown, hts⟩ := id F
  have hwg : ∀ w ∈ WG, w.before args s = true := fun w h => hts w (List.mem_cons_of_mem _ h)
  intro S H locs ls a0 x1 x3 x5 x6 t0 hp hW hE hl hL_a0 hK_a0
  unfold wp_X12_type_52 at hp
  refine lv_istore (lv' := [(4, .int t0), (0, .ref a0), (1, .long x1), (3, .int x3), (5, .int x5), (6, .int x6)]) hx hb dX12_type_52 hl (by decide) rfl (fun ls hl => ?_)
  refine lv_iload_n hx hb dX12_type_54 rfl (lv_at hl 3 rfl) ?_
  refine lv_iload hx hb dX12_type_55 (lv_at hl 5 rfl) ?_
  refine lv_if_ne (tgt := 64) hx hb dX12_type_57 (by decide) (fun c_1 => ?_) (fun c_1 => ?_)
  · replace hp := hp.1 c_1
    refine lv_iconst (v := 1) hx hb dX12_type_64 (by decide) ?_
    exact t_X12_type_65 F hr hlocks hK q_9 hp hW hE (lv_sub hl [1, 2, 0, 4] rfl) hL_a0 hK_a0
  · replace hp := hp.2 c_1
    refine lv_iconst (v := 0) hx hb dX12_type_60 (by decide) ?_
    refine lv_goto (tgt := 65) hx hb dX12_type_61 (by decide) ?_
    exact t_X12_type_65 F hr hlocks hK q_9 hp hW hE (lv_sub hl [1, 2, 0, 4] rfl) hL_a0 hK_a0
set_option maxHeartbeats 4000000 in
set_option maxRecDepth 100000 in
theorem t_X12_type_51 {p : Program} {l : Launch} {e : Env} {s : State} {m : MethodId} {args : Array Value} {below : List Frame} {meth : Method} {c : Code} {D : wD} {cy : Nat → ClassId} {X : va_W} {A : Nat → Prop} {S0 : wS} {post : Int32 → wS → Prop} (F : CallFix p m c cX12_type 7 s args wz_X12_type RX12) (hr : meth.sig.returnType = (some .int)) (hlocks : meth.locks = false) (hK : wK D cy A s) {k_9 : wS → Nat → Int64 → Int32 → Int32 → Int32 → Prop} (q_9 : ∀ {S : wS} {H : Heap} {locs : List Loc} {ls : Array Slot} {a0 : Nat} {x1 : Int64} {x3 : Int32} {x4 : Int32} {x5 : Int32}, k_9 S a0 x1 x3 x4 x5 → wO D cy X A s.heap S H locs → wX D S0 S → lv_has ls 7 [(0, .ref a0), (1, .long x1), (3, .int x3), (4, .int x4), (5, .int x5)] → wM D S a0 → sK S a0 = 17 → W p l e r_X12_type s m args below meth c H locs 0 0 (MQ below (va_Qi (fun r S9 => wX D S0 S9 ∧ post r S9) (wB D cy X A) A) args s 0 0 A) (F0 m 9 ls [])) : ∀ {S : wS} {H : Heap} {locs : List Loc} {ls : Array Slot} {a0 : Nat} {x1 : Int64} {x3 : Int32} {x5 : Int32} {x6 : Int32}, wp_X12_type_51 D post k_9 S a0 x1 x3 x5 x6 → wO D cy X A s.heap S H locs → wX D S0 S → lv_has ls 7 [(0, .ref a0), (1, .long x1), (3, .int x3), (5, .int x5), (6, .int x6)] → wM D S a0 → sK S a0 = 17 → W p l e r_X12_type s m args below meth c H locs 0 0 (MQ below (va_Qi (fun r S9 => wX D S0 S9 ∧ post r S9) (wB D cy X A) A) args s 0 0 A) (F0 m 51 ls []) := by
  obtain ⟨hx, hb, hml, hown, hts⟩ := id F
  have hwg : ∀ w ∈ WG, w.before args s = true := fun w h => hts w (List.mem_cons_of_mem _ h)
  intro S H locs ls a0 x1 x3 x5 x6 hp hW hE hl hL_a0 hK_a0
  unfold wp_X12_type_51 at hp
  refine lv_iconst (v := 0) hx hb dX12_type_51 (by decide) ?_
  exact t_X12_type_52 F hr hlocks hK q_9 hp hW hE (lv_sub hl [0, 1, 2, 3, 4] rfl) hL_a0 hK_a0
set_option maxHeartbeats 4000000 in
set_option maxRecDepth 100000 in
theorem t_X12_type_47 {p : Program} {l : Launch} {e : Env} {s : State} {m : MethodId} {args : Array Value} {below : List Frame} {meth : Method} {c : Code} {D : wD} {cy : Nat → ClassId} {X : va_W} {A : Nat → Prop} {S0 : wS} {post : Int32 → wS → Prop} (F : CallFix p m c cX12_type 7 s args wz_X12_type RX12) (hr : meth.sig.returnType = (some .int)) (hlocks : meth.locks = false) (hK : wK D cy A s) {k_9 : wS → Nat → Int64 → Int32 → Int32 → Int32 → Prop} (q_9 : ∀ {S : wS} {H : Heap} {locs : List Loc} {ls : Array Slot} {a0 : Nat} {x1 : Int64} {x3 : Int32} {x4 : Int32} {x5 : Int32}, k_9 S a0 x1 x3 x4 x5 → wO D cy X A s.heap S H locs → wX D S0 S → lv_has ls 7 [(0, .ref a0), (1, .long x1), (3, .int x3), (4, .int x4), (5, .int x5)] → wM D S a0 → sK S a0 = 17 → W p l e r_X12_type s m args below meth c H locs 0 0 (MQ below (va_Qi (fun r S9 => wX D S0 S9 ∧ post r S9) (wB D cy X A) A) args s 0 0 A) (F0 m 9 ls [])) : ∀ {S : wS} {H : Heap} {locs : List Loc} {ls : Array Slot} {a0 : Nat} {x1 : Int64} {x3 : Int32} {x5 : Int32} {x6 : Int32}, wp_X12_type_47 D post k_9 S a0 x1 x3 x5 x6 → wO D cy X A s.heap S H locs → wX D S0 S → lv_has ls 7 [(0, .ref a0), (1, .long x1), (3, .int x3), (5, .int x5), (6, .int x6)] → wM D S a0 → sK S a0 = 17 → W p l e r_X12_type s m args below meth c H locs 0 0 (MQ below (va_Qi (fun r S9 => wX D S0 S9 ∧ post r S9) (wB D cy X A) A) args s 0 0 A) (F0 m 47 ls []) := by
  obtain ⟨hx, hb, hml, hown, hts⟩ := id F
  have hwg : ∀ w ∈ WG, w.before args s = true := fun w h => hts w (List.mem_cons_of_mem _ h)
  intro S H locs ls a0 x1 x3 x5 x6 hp hW hE hl hL_a0 hK_a0
  unfold wp_X12_type_47 at hp
  refine lv_iconst (v := 1) hx hb dX12_type_47 (by decide) ?_
  refine lv_goto (tgt := 52) hx hb dX12_type_48 (by decide) ?_
  exact t_X12_type_52 F hr hlocks hK q_9 hp hW hE (lv_sub hl [0, 1, 2, 3, 4] rfl) hL_a0 hK_a0
set_option maxHeartbeats 4000000 in
set_option maxRecDepth 100000 in
theorem t_X12_type_9 {p : Program} {l : Launch} {e : Env} {s : State} {m : MethodId} {args : Array Value} {below : List Frame} {meth : Method} {c : Code} {D : wD} {cy : Nat → ClassId} {X : va_W} {A : Nat → Prop} {S0 : wS} {post : Int32 → wS → Prop} (F : CallFix p m c cX12_type 7 s args wz_X12_type RX12) (hr : meth.sig.returnType = (some .int)) (hlocks : meth.locks = false) (hK : wK D cy A s) : ∀ (n : Nat) {S : wS} {H : Heap} {locs : List Loc} {ls : Array Slot} {a0 : Nat} {x1 : Int64} {x3 : Int32} {x4 : Int32} {x5 : Int32}, wp_X12_type_9 D post n S a0 x1 x3 x4 x5 → wO D cy X A s.heap S H locs → wX D S0 S → lv_has ls 7 [(0, .ref a0), (1, .long x1), (3, .int x3), (4, .int x4), (5, .int x5)] → wM D S a0 → sK S a0 = 17 → W p l e r_X12_type s m args below meth c H locs 0 0 (MQ below (va_Qi (fun r S9 => wX D S0 S9 ∧ post r S9) (wB D cy X A) A) args s 0 0 A) (F0 m 9 ls []) := by
  obtain ⟨hx, hb, hml, hown, hts⟩ := id F
  have hwg : ∀ w ∈ WG, w.before args s = true := fun w h => hts w (List.mem_cons_of_mem _ h)
  have i_17 : ∀ w ∈ u_ws RX12 TX12 43, w ∈ wz_X12_type := fun w h => List.mem_cons_of_mem _ (wu_17 w h)
  have k_259 := hwg _ wf_RX12_259
  intro n
  induction n with
  | zero =>
    intro S H locs ls a0 x1 x3 x4 x5 hp
    exact hp.elim
  | succ n ih =>
    intro S H locs ls a0 x1 x3 x4 x5 hp hW hE hl hL_a0 hK_a0
    unfold wp_X12_type_9 at hp
    refine lv_iload hx hb dX12_type_9 (lv_at hl 4 rfl) ?_
    refine lv_if_lt (tgt := 73) hx hb dX12_type_11 (by decide) (fun c_1 => ?_) (fun c_1 => ?_)
    · replace hp := hp.1 c_1
      refine lv_aload_n hx hb dX12_type_73 rfl (lv_at hl 0 rfl) ?_
      refine lv_iload hx hb dX12_type_74 (lv_at hl 3 rfl) ?_
      refine lv_iconst (v := 1) hx hb dX12_type_76 (by decide) ?_
      refine w_callI (va_runV (As := [.int x4, .int (1 : Int32)]) (rest := []) F (c_X12_can l hL_a0 hK_a0 hp H.size) (cwV (C := RX12) 2 hts (wg_V wm_RX12_237 wy_X12_can) rfl rfl rfl (by decide +kernel) ⟨Nat.le_of_ble_eq_true rfl, Nat.le_of_ble_eq_true rfl⟩) (w_preV hK hW hL_a0 hK_a0 (by decide) rfl) rfl rfl hl.1 rfl (lv_room (Nat.le_of_ble_eq_true rfl)) dX12_type_77 ⟨Nat.le_of_ble_eq_true rfl, Nat.le_of_ble_eq_true rfl⟩) hW (fun r_2 S_3 H locs hp hW => ?_)
      obtain ⟨hX_S_3, hp⟩ := hp
      refine W.widen (k := 0) (n := 0) (by decide) (by decide) ?_
      have hE := hE.trans hX_S_3
      have hK_a0 : sK S_3 a0 = 17 := (hX_S_3.2 a0 hL_a0).1.trans hK_a0
      have hL_a0 : wM D S_3 a0 := hX_S_3.M hL_a0
      refine lv_if_eq (tgt := 108) hx hb dX12_type_80 (by decide) (fun c_4 => ?_) (fun c_4 => ?_)
      · replace hp := hp.1 c_4
        exact t_X12_type_108 F hr hlocks hK hp hW hE (lv_sub hl [] rfl)
      · replace hp := hp.2 c_4
        refine lv_aload_n hx hb dX12_type_83 rfl (lv_at hl 0 rfl) ?_
        refine lv_aload_n hx hb dX12_type_84 rfl (lv_at hl 0 rfl) ?_
        refine w_get (k := 17) (f := 13) (T := TX12) (v := .int (sI S_3 a0 13)) F hK hW hL_a0 hK_a0 (by decide) rfl rfl (by decide) i_17 k_259 rfl dX12_type_85 ?_
        refine lv_iload_n hx hb dX12_type_88 rfl (lv_at hl 2 rfl) ?_
        refine lv_iadd hx hb dX12_type_89 ?_
        refine lv_sipush (v := 500) hx hb dX12_type_90 (by decide) ?_
        refine lv_icmp_gt (tgt := 100) hx hb dX12_type_93 (by decide) (fun c_5 => ?_) (fun c_5 => ?_)
        · replace hp := hp.1 c_5
          refine lv_iconst (v := 0) hx hb dX12_type_100 (by decide) ?_
          exact t_X12_type_101 F hr hlocks hK hp hW hE (lv_sub hl [0, 1] rfl) hL_a0 hK_a0 hL_a0 hK_a0
        · replace hp := hp.2 c_5
          refine lv_iconst (v := 1) hx hb dX12_type_96 (by decide) ?_
          refine lv_goto (tgt := 101) hx hb dX12_type_97 (by decide) ?_
          exact t_X12_type_101 F hr hlocks hK hp hW hE (lv_sub hl [0, 1] rfl) hL_a0 hK_a0 hL_a0 hK_a0
    · replace hp := hp.2 c_1
      refine lv_lload_n hx hb dX12_type_14 rfl (lv_at hl 1 rfl) ?_
      refine lv_iload hx hb dX12_type_15 (lv_at hl 4 rfl) ?_
      refine lv_lshr (v := (jlshr x1 x5)) hx hb dX12_type_17 rfl ?_
      refine lv_ldc2 (v := 255) hx hb hown (hwg _ wJ_RX12_343) dX12_type_18 ?_
      refine lv_land hx hb dX12_type_21 ?_
      refine lv_l2i (v := (Int64.toInt32 ((jlshr x1 x5) &&& (255 : Int64)))) hx hb dX12_type_22 rfl ?_
      refine lv_topi (fun x_6 ex_6 => ?_)
      replace hp := hp x_6 ex_6
      refine lv_istore (lv' := [(6, .int x_6), (0, .ref a0), (1, .long x1), (3, .int x3), (4, .int x4), (5, .int x5)]) hx hb dX12_type_23 hl (by decide) rfl (fun ls hl => ?_)
      refine lv_iload hx hb dX12_type_25 (lv_at hl 4 rfl) ?_
      refine lv_if_eq (tgt := 51) hx hb dX12_type_27 (by decide) (fun c_7 => ?_) (fun c_7 => ?_)
      · replace hp := hp.1 c_7
        exact t_X12_type_51 F hr hlocks hK ih hp hW hE (lv_sub hl [1, 2, 3, 5, 0] rfl) hL_a0 hK_a0
      · replace hp := hp.2 c_7
        refine lv_iload hx hb dX12_type_30 (lv_at hl 0 rfl) ?_
        refine lv_if_eq (tgt := 47) hx hb dX12_type_32 (by decide) (fun c_8 => ?_) (fun c_8 => ?_)
        · replace hp := hp.1 c_8
          exact t_X12_type_47 F hr hlocks hK ih hp hW hE (lv_sub hl [1, 2, 3, 5, 0] rfl) hL_a0 hK_a0
        · replace hp := hp.2 c_8
          refine lv_iload hx hb dX12_type_35 (lv_at hl 0 rfl) ?_
          refine lv_bipush (v := 32) hx hb dX12_type_37 (by decide) ?_
          refine lv_bipush (v := 126) hx hb dX12_type_39 (by decide) ?_
          refine w_callI (va_runS (As := [.int x_6, .int (32 : Int32), .int (126 : Int32)]) (rest := []) F (c_X12_in l hp H.size) (va_cwS 3 hts (wg_S wm_RX12_117 wy_X12_in) rfl rfl rfl (by decide +kernel) ⟨Nat.le_of_ble_eq_true rfl, Nat.le_of_ble_eq_true rfl⟩) (w_preS hK hW) rfl rfl hl.1 rfl (lv_room (Nat.le_of_ble_eq_true rfl)) dX12_type_41 ⟨Nat.le_of_ble_eq_true rfl, Nat.le_of_ble_eq_true rfl⟩) hW (fun r_9 S_10 H locs hp hW => ?_)
          obtain ⟨hX_S_10, hp⟩ := hp
          refine W.widen (k := 0) (n := 0) (by decide) (by decide) ?_
          have hE := hE.trans hX_S_10
          have hK_a0 : sK S_10 a0 = 17 := (hX_S_10.2 a0 hL_a0).1.trans hK_a0
          have hL_a0 : wM D S_10 a0 := hX_S_10.M hL_a0
          refine lv_if_eq (tgt := 51) hx hb dX12_type_44 (by decide) (fun c_11 => ?_) (fun c_11 => ?_)
          · replace hp := hp.1 c_11
            exact t_X12_type_51 F hr hlocks hK ih hp hW hE (lv_sub hl [1, 2, 3, 5, 0] rfl) hL_a0 hK_a0
          · replace hp := hp.2 c_11
            exact t_X12_type_47 F hr hlocks hK ih hp hW hE (lv_sub hl [1, 2, 3, 5, 0] rfl) hL_a0 hK_a0
set_option maxHeartbeats 4000000 in
set_option maxRecDepth 100000 in
theorem t_X12_type_0 {p : Program} {l : Launch} {e : Env} {s : State} {m : MethodId} {args : Array Value} {below : List Frame} {meth : Method} {c : Code} {D : wD} {cy : Nat → ClassId} {X : va_W} {A : Nat → Prop} {S0 : wS} {post : Int32 → wS → Prop} (F : CallFix p m c cX12_type 7 s args wz_X12_type RX12) (hr : meth.sig.returnType = (some .int)) (hlocks : meth.locks = false) (hK : wK D cy A s) : ∀ {S : wS} {H : Heap} {locs : List Loc} {ls : Array Slot} {a0 : Nat} {x1 : Int64}, wp_X12_type_0 D post S a0 x1 → wO D cy X A s.heap S H locs → wX D S0 S → lv_has ls 7 [(0, .ref a0), (1, .long x1)] → wM D S a0 → sK S a0 = 17 → W p l e r_X12_type s m args below meth c H locs 0 0 (MQ below (va_Qi (fun r S9 => wX D S0 S9 ∧ post r S9) (wB D cy X A) A) args s 0 0 A) (F0 m 0 ls []) := by
  obtain ⟨hx, hb, hml, hown, hts⟩ := id F
  have hwg : ∀ w ∈ WG, w.before args s = true := fun w h => hts w (List.mem_cons_of_mem _ h)
  intro S H locs ls a0 x1 hp hW hE hl hL_a0 hK_a0
  unfold wp_X12_type_0 at hp
  refine lv_iconst (v := 0) hx hb dX12_type_0 (by decide) ?_
  refine lv_istore_n (lv' := [(3, .int (0 : Int32)), (0, .ref a0), (1, .long x1)]) hx hb dX12_type_1 rfl hl (by decide) rfl (fun ls hl => ?_)
  refine lv_iconst (v := 1) hx hb dX12_type_2 (by decide) ?_
  refine lv_istore (lv' := [(4, .int (1 : Int32)), (3, .int (0 : Int32)), (0, .ref a0), (1, .long x1)]) hx hb dX12_type_3 hl (by decide) rfl (fun ls hl => ?_)
  refine lv_bipush (v := 56) hx hb dX12_type_5 (by decide) ?_
  refine lv_istore (lv' := [(5, .int (56 : Int32)), (4, .int (1 : Int32)), (3, .int (0 : Int32)), (0, .ref a0), (1, .long x1)]) hx hb dX12_type_7 hl (by decide) rfl (fun ls hl => ?_)
  obtain ⟨n_1, hp⟩ := hp
  exact t_X12_type_9 F hr hlocks hK n_1 hp hW hE (lv_sub hl [3, 4, 2, 1, 0] rfl) hL_a0 hK_a0
set_option maxHeartbeats 4000000 in
set_option maxRecDepth 100000 in
theorem c_X12_type (l : Launch) {D : wD} {cy : Nat → ClassId} {X : va_W} {S0 : wS} {post : Int32 → wS → Prop} {a0 : Nat} {x1 : Int64} (hL_a0 : wM D S0 a0) (hK_a0 : sK S0 a0 = 17) (hp : wp_X12_type D post S0 a0 x1) : mI D cy X l yX12_type wz_X12_type r_X12_type [.ref a0, .long x1] S0 (fun r S9 => wX D S0 S9 ∧ post r S9) := by
  intro sz
  refine Met.ofW (cc := cX12_type) (maxL := 7) (ret := (some .int)) (by decide) rfl ?_
  intro p e s m args below meth c s₁ B hml hv
  obtain ⟨rfl, hsz, hP, hK, hD0, hRO⟩ := hv
  have hts := atoms_spec (ws := wz_X12_type) B.pre
  have hown : s.vm.findClass RX12 = some m.cls := findClass_of_methodNamed B.named
  subst hsz
  have hD := hD0.self (sz := s.heap.size)
  have F : CallFix p m c cX12_type 7 s _ wz_X12_type RX12 := ⟨B.exec, B.bytes, hml, hown, hts⟩
  have hr := B.returns
  have hlocks := B.notSynchronized
  generalize hAe : va_A (wL cy X S0) s.heap.size = A at hD hK ⊢
  have hA : ∀ q, s.heap.size ≤ q → A q := fun q h => by rw [← hAe]; exact Or.inr h
  have hW : wO D cy X A s.heap S0 s.heap [] := ⟨hP, hD, va_S.rf, hA, hRO⟩
  have hl := lv_entry ([.ref a0, .long x1]) (n := 7) (Nat.le_of_ble_eq_true rfl)
  rw [lg_entry_eq]
  generalize (lg_sl ([.ref a0, .long x1]) ++ List.replicate (7 - (lg_sl ([.ref a0, .long x1])).length) Slot.unset).toArray = ls at hl ⊢
  have hl : lv_has ls 7 [(0, .ref a0), (1, .long x1)] := hl
  unfold wp_X12_type at hp
  exact t_X12_type_0 F hr hlocks hK hp hW wX.rf (lv_sub hl [0, 1] rfl) hL_a0 hK_a0
def wp_X12_variationMoves_0 (D : wD) (post : Int32 → wS → Prop)  (S : wS) (a0 : Nat) : Prop :=
∀ S_1 : wS, S_1 = uI S a0 0 (0 : Int32) →
post (sI S_1 a0 16) S_1
abbrev r_X12_variationMoves : Room := { frames := 0, cells := 0, slots := 0, locals := 0 }
def wp_X12_variationMoves (D : wD) (post : Int32 → wS → Prop) (S : wS) (a0 : Nat) : Prop := wp_X12_variationMoves_0 D post S a0
set_option maxHeartbeats 4000000 in
set_option maxRecDepth 100000 in
theorem t_X12_variationMoves_0 {p : Program} {l : Launch} {e : Env} {s : State} {m : MethodId} {args : Array Value} {below : List Frame} {meth : Method} {c : Code} {D : wD} {cy : Nat → ClassId} {X : va_W} {A : Nat → Prop} {S0 : wS} {post : Int32 → wS → Prop} (F : CallFix p m c cX12_variationMoves 1 s args wz_X12_variationMoves RX12) (hr : meth.sig.returnType = (some .int)) (hlocks : meth.locks = false) (hK : wK D cy A s) : ∀ {S : wS} {H : Heap} {locs : List Loc} {ls : Array Slot} {a0 : Nat}, wp_X12_variationMoves_0 D post S a0 → wO D cy X A s.heap S H locs → wX D S0 S → lv_has ls 1 [(0, .ref a0)] → wM D S a0 → sK S a0 = 17 → W p l e r_X12_variationMoves s m args below meth c H locs 0 0 (MQ below (va_Qi (fun r S9 => wX D S0 S9 ∧ post r S9) (wB D cy X A) A) args s 0 0 A) (F0 m 0 ls []) := by
  obtain ⟨hx, hb, hml, hown, hts⟩ := id F
  have hwg : ∀ w ∈ WG, w.before args s = true := fun w h => hts w (List.mem_cons_of_mem _ h)
  have i_17 : ∀ w ∈ u_ws RX12 TX12 43, w ∈ wz_X12_variationMoves := fun w h => List.mem_cons_of_mem _ (wu_17 w h)
  have k_110 := hwg _ wf_RX12_110
  have k_394 := hwg _ wf_RX12_394
  intro S H locs ls a0 hp hW hE hl hL_a0 hK_a0
  unfold wp_X12_variationMoves_0 at hp
  refine lv_aload_n hx hb dX12_variationMoves_0 rfl (lv_at hl 0 rfl) ?_
  refine lv_iconst (v := 0) hx hb dX12_variationMoves_1 (by decide) ?_
  refine w_putI (k := 17) (f := 0) (T := TX12) F hK hW hL_a0 hK_a0 (by decide) (by decide) rfl rfl (by decide) i_17 tyX12 tyX12_ok nmX12 k_110 rfl rfl (ty := .int) rfl rfl rfl dX12_variationMoves_2 (fun H locs hW => ?_)
  obtain ⟨S_1, eS_1⟩ : ∃ z : wS, z = uI S a0 0 (0 : Int32) := ⟨_, rfl⟩
  rw [← eS_1] at hW
  replace hp := hp S_1 eS_1
  have hX_S_1 : wX D S S_1 := by rw [eS_1]; exact wX_uI
  have hE := hE.trans hX_S_1
  have hK_a0 : sK S_1 a0 = 17 := (hX_S_1.2 a0 hL_a0).1.trans hK_a0
  have hL_a0 : wM D S_1 a0 := hX_S_1.M hL_a0
  refine lv_aload_n hx hb dX12_variationMoves_5 rfl (lv_at hl 0 rfl) ?_
  refine w_get (k := 17) (f := 16) (T := TX12) (v := .int (sI S_1 a0 16)) F hK hW hL_a0 hK_a0 (by decide) rfl rfl (by decide) i_17 k_394 rfl dX12_variationMoves_6 ?_
  exact w_iret hx hb hr hlocks hW ⟨hE, hp⟩ dX12_variationMoves_9
set_option maxHeartbeats 4000000 in
set_option maxRecDepth 100000 in
theorem c_X12_variationMoves (l : Launch) {D : wD} {cy : Nat → ClassId} {X : va_W} {S0 : wS} {post : Int32 → wS → Prop} {a0 : Nat} (hL_a0 : wM D S0 a0) (hK_a0 : sK S0 a0 = 17) (hp : wp_X12_variationMoves D post S0 a0) : mI D cy X l yX12_variationMoves wz_X12_variationMoves r_X12_variationMoves [.ref a0] S0 (fun r S9 => wX D S0 S9 ∧ post r S9) := by
  intro sz
  refine Met.ofW (cc := cX12_variationMoves) (maxL := 1) (ret := (some .int)) (by decide) rfl ?_
  intro p e s m args below meth c s₁ B hml hv
  obtain ⟨rfl, hsz, hP, hK, hD0, hRO⟩ := hv
  have hts := atoms_spec (ws := wz_X12_variationMoves) B.pre
  have hown : s.vm.findClass RX12 = some m.cls := findClass_of_methodNamed B.named
  subst hsz
  have hD := hD0.self (sz := s.heap.size)
  have F : CallFix p m c cX12_variationMoves 1 s _ wz_X12_variationMoves RX12 := ⟨B.exec, B.bytes, hml, hown, hts⟩
  have hr := B.returns
  have hlocks := B.notSynchronized
  generalize hAe : va_A (wL cy X S0) s.heap.size = A at hD hK ⊢
  have hA : ∀ q, s.heap.size ≤ q → A q := fun q h => by rw [← hAe]; exact Or.inr h
  have hW : wO D cy X A s.heap S0 s.heap [] := ⟨hP, hD, va_S.rf, hA, hRO⟩
  have hl := lv_entry ([.ref a0]) (n := 1) (Nat.le_of_ble_eq_true rfl)
  rw [lg_entry_eq]
  generalize (lg_sl ([.ref a0]) ++ List.replicate (1 - (lg_sl ([.ref a0])).length) Slot.unset).toArray = ls at hl ⊢
  have hl : lv_has ls 1 [(0, .ref a0)] := hl
  unfold wp_X12_variationMoves at hp
  exact t_X12_variationMoves_0 F hr hlocks hK hp hW wX.rf (lv_sub hl [0] rfl) hL_a0 hK_a0
def wp_X12_writeMove_0 (D : wD) (post : Int32 → wS → Prop)  (S : wS) (a0 : Nat) (x1 : Int32) : Prop :=
wp_X12_isAskedMove D (fun r_1 S_2 => 
((¬ r_1 = 0 → wp_X12_spellsWhole D (fun S_5 => 
∃ y_6 : Nat, sR S_5 a0 18 = some y_6 ∧ wM D S_5 y_6 ∧ sK S_5 y_6 = 21 ∧
vp_in x1 (sN S_5 y_6) ∧
∀ S_8 : wS, S_8 = uI S_5 a0 15 (sI S_5 y_6 (x1).toNatClampNeg) →
∃ y_9 : Nat, sR S_8 a0 17 = some y_9 ∧ wM D S_8 y_9 ∧ sK S_8 y_9 = 21 ∧
∃ y_10 : Nat, sR S_8 a0 14 = some y_10 ∧ wM D S_8 y_10 ∧ sK S_8 y_10 = 21 ∧
wp_X12_copies D (fun S_12 => 
post (sI S_12 a0 15) S_12) S_8 (sI S_8 a0 15) y_9 ((12 : Int32) * x1) y_10 (0 : Int32)) S_2 a0 x1) ∧
 (r_1 = 0 → post (0 : Int32) S_2))) S a0 x1
abbrev r_X12_writeMove : Room := { frames := 10, cells := 0, slots := 0, locals := 241 }
def wp_X12_writeMove (D : wD) (post : Int32 → wS → Prop) (S : wS) (a0 : Nat) (x1 : Int32) : Prop := wp_X12_writeMove_0 D post S a0 x1
set_option maxHeartbeats 4000000 in
set_option maxRecDepth 100000 in
theorem t_X12_writeMove_0 {p : Program} {l : Launch} {e : Env} {s : State} {m : MethodId} {args : Array Value} {below : List Frame} {meth : Method} {c : Code} {D : wD} {cy : Nat → ClassId} {X : va_W} {A : Nat → Prop} {S0 : wS} {post : Int32 → wS → Prop} (F : CallFix p m c cX12_writeMove 2 s args wz_X12_writeMove RX12) (hr : meth.sig.returnType = (some .int)) (hlocks : meth.locks = false) (hK : wK D cy A s) : ∀ {S : wS} {H : Heap} {locs : List Loc} {ls : Array Slot} {a0 : Nat} {x1 : Int32}, wp_X12_writeMove_0 D post S a0 x1 → wO D cy X A s.heap S H locs → wX D S0 S → lv_has ls 2 [(0, .ref a0), (1, .int x1)] → wM D S a0 → sK S a0 = 17 → W p l e r_X12_writeMove s m args below meth c H locs 0 0 (MQ below (va_Qi (fun r S9 => wX D S0 S9 ∧ post r S9) (wB D cy X A) A) args s 0 0 A) (F0 m 0 ls []) := by
  obtain ⟨hx, hb, hml, hown, hts⟩ := id F
  have hwg : ∀ w ∈ WG, w.before args s = true := fun w h => hts w (List.mem_cons_of_mem _ h)
  have i_17 : ∀ w ∈ u_ws RX12 TX12 43, w ∈ wz_X12_writeMove := fun w h => List.mem_cons_of_mem _ (wu_17 w h)
  have k_244 := hwg _ wf_RX12_244
  have k_45 := hwg _ wf_RX12_45
  have k_48 := hwg _ wf_RX12_48
  have k_51 := hwg _ wf_RX12_51
  intro S H locs ls a0 x1 hp hW hE hl hL_a0 hK_a0
  unfold wp_X12_writeMove_0 at hp
  refine lv_aload_n hx hb dX12_writeMove_0 rfl (lv_at hl 0 rfl) ?_
  refine lv_iload_n hx hb dX12_writeMove_1 rfl (lv_at hl 1 rfl) ?_
  refine w_callI (va_runV (As := [.int x1]) (rest := []) F (c_X12_isAskedMove l hL_a0 hK_a0 hp H.size) (cwV (C := RX12) 1 hts (wg_V wm_RX12_293 wy_X12_isAskedMove) rfl rfl rfl (by decide +kernel) ⟨Nat.le_of_ble_eq_true rfl, Nat.le_of_ble_eq_true rfl⟩) (w_preV hK hW hL_a0 hK_a0 (by decide) rfl) rfl rfl hl.1 rfl (lv_room (Nat.le_of_ble_eq_true rfl)) dX12_writeMove_2 ⟨Nat.le_of_ble_eq_true rfl, Nat.le_of_ble_eq_true rfl⟩) hW (fun r_1 S_2 H locs hp hW => ?_)
  obtain ⟨hX_S_2, hp⟩ := hp
  refine W.widen (k := 0) (n := 0) (by decide) (by decide) ?_
  have hE := hE.trans hX_S_2
  have hK_a0 : sK S_2 a0 = 17 := (hX_S_2.2 a0 hL_a0).1.trans hK_a0
  have hL_a0 : wM D S_2 a0 := hX_S_2.M hL_a0
  refine lv_if_ne (tgt := 10) hx hb dX12_writeMove_5 (by decide) (fun c_3 => ?_) (fun c_3 => ?_)
  · replace hp := hp.1 c_3
    refine lv_aload_n hx hb dX12_writeMove_10 rfl (lv_at hl 0 rfl) ?_
    refine lv_iload_n hx hb dX12_writeMove_11 rfl (lv_at hl 1 rfl) ?_
    refine w_callV (va_runV (As := [.int x1]) (rest := []) F (c_X12_spellsWhole l hL_a0 hK_a0 hp H.size) (cwV (C := RX12) 1 hts (wg_V wm_RX12_318 wy_X12_spellsWhole) rfl rfl rfl (by decide +kernel) ⟨Nat.le_of_ble_eq_true rfl, Nat.le_of_ble_eq_true rfl⟩) (w_preV hK hW hL_a0 hK_a0 (by decide) rfl) rfl rfl hl.1 rfl (lv_room (Nat.le_of_ble_eq_true rfl)) dX12_writeMove_12 ⟨Nat.le_of_ble_eq_true rfl, Nat.le_of_ble_eq_true rfl⟩) hW (fun S_5 H locs hp hW => ?_)
    obtain ⟨hX_S_5, hp⟩ := hp
    refine W.widen (k := 0) (n := 0) (by decide) (by decide) ?_
    have hE := hE.trans hX_S_5
    have hK_a0 : sK S_5 a0 = 17 := (hX_S_5.2 a0 hL_a0).1.trans hK_a0
    have hL_a0 : wM D S_5 a0 := hX_S_5.M hL_a0
    refine lv_aload_n hx hb dX12_writeMove_15 rfl (lv_at hl 0 rfl) ?_
    refine lv_aload_n hx hb dX12_writeMove_16 rfl (lv_at hl 0 rfl) ?_
    obtain ⟨y_6, ey_6, hL_y_6, hK_y_6, hp⟩ := hp
    refine w_get (k := 17) (f := 18) (T := TX12) (v := .ref y_6) F hK hW hL_a0 hK_a0 (by decide) rfl rfl (by decide) i_17 k_51 (by rw [show wv 17 18 S_5 a0 = va_rf (sR S_5 a0 18) from rfl, ey_6]; rfl) dX12_writeMove_17 ?_
    refine lv_iload_n hx hb dX12_writeMove_20 rfl (lv_at hl 1 rfl) ?_
    obtain ⟨h_7, hp⟩ := hp
    refine w_ild F hK hW hL_y_6 hK_y_6 h_7 dX12_writeMove_21 ?_
    refine w_putI (k := 17) (f := 15) (T := TX12) F hK hW hL_a0 hK_a0 (by decide) (by decide) rfl rfl (by decide) i_17 tyX12 tyX12_ok nmX12 k_244 rfl rfl (ty := .int) rfl rfl rfl dX12_writeMove_22 (fun H locs hW => ?_)
    obtain ⟨S_8, eS_8⟩ : ∃ z : wS, z = uI S_5 a0 15 (sI S_5 y_6 (x1).toNatClampNeg) := ⟨_, rfl⟩
    rw [← eS_8] at hW
    replace hp := hp S_8 eS_8
    have hX_S_8 : wX D S_5 S_8 := by rw [eS_8]; exact wX_uI
    have hE := hE.trans hX_S_8
    have hK_a0 : sK S_8 a0 = 17 := (hX_S_8.2 a0 hL_a0).1.trans hK_a0
    have hL_a0 : wM D S_8 a0 := hX_S_8.M hL_a0
    refine lv_aload_n hx hb dX12_writeMove_25 rfl (lv_at hl 0 rfl) ?_
    refine w_get (k := 17) (f := 15) (T := TX12) (v := .int (sI S_8 a0 15)) F hK hW hL_a0 hK_a0 (by decide) rfl rfl (by decide) i_17 k_244 rfl dX12_writeMove_26 ?_
    refine lv_aload_n hx hb dX12_writeMove_29 rfl (lv_at hl 0 rfl) ?_
    obtain ⟨y_9, ey_9, hL_y_9, hK_y_9, hp⟩ := hp
    refine w_get (k := 17) (f := 17) (T := TX12) (v := .ref y_9) F hK hW hL_a0 hK_a0 (by decide) rfl rfl (by decide) i_17 k_48 (by rw [show wv 17 17 S_8 a0 = va_rf (sR S_8 a0 17) from rfl, ey_9]; rfl) dX12_writeMove_30 ?_
    refine lv_bipush (v := 12) hx hb dX12_writeMove_33 (by decide) ?_
    refine lv_iload_n hx hb dX12_writeMove_35 rfl (lv_at hl 1 rfl) ?_
    refine lv_imul hx hb dX12_writeMove_36 ?_
    refine lv_aload_n hx hb dX12_writeMove_37 rfl (lv_at hl 0 rfl) ?_
    obtain ⟨y_10, ey_10, hL_y_10, hK_y_10, hp⟩ := hp
    refine w_get (k := 17) (f := 14) (T := TX12) (v := .ref y_10) F hK hW hL_a0 hK_a0 (by decide) rfl rfl (by decide) i_17 k_45 (by rw [show wv 17 14 S_8 a0 = va_rf (sR S_8 a0 14) from rfl, ey_10]; rfl) dX12_writeMove_38 ?_
    refine lv_iconst (v := 0) hx hb dX12_writeMove_41 (by decide) ?_
    refine w_callV (va_runS (As := [.int (sI S_8 a0 15), .ref y_9, .int ((12 : Int32) * x1), .ref y_10, .int (0 : Int32)]) (rest := []) F (c_X12_copies l hL_y_9 hK_y_9 hL_y_10 hK_y_10 hp H.size) (va_cwS 5 hts (wg_S wm_RX12_130 wy_X12_copies) rfl rfl rfl (by decide +kernel) ⟨Nat.le_of_ble_eq_true rfl, Nat.le_of_ble_eq_true rfl⟩) (w_preS hK hW) rfl rfl hl.1 rfl (lv_room (Nat.le_of_ble_eq_true rfl)) dX12_writeMove_42 ⟨Nat.le_of_ble_eq_true rfl, Nat.le_of_ble_eq_true rfl⟩) hW (fun S_12 H locs hp hW => ?_)
    obtain ⟨hX_S_12, hp⟩ := hp
    refine W.widen (k := 0) (n := 0) (by decide) (by decide) ?_
    have hE := hE.trans hX_S_12
    have hK_a0 : sK S_12 a0 = 17 := (hX_S_12.2 a0 hL_a0).1.trans hK_a0
    have hL_a0 : wM D S_12 a0 := hX_S_12.M hL_a0
    refine lv_aload_n hx hb dX12_writeMove_45 rfl (lv_at hl 0 rfl) ?_
    refine w_get (k := 17) (f := 15) (T := TX12) (v := .int (sI S_12 a0 15)) F hK hW hL_a0 hK_a0 (by decide) rfl rfl (by decide) i_17 k_244 rfl dX12_writeMove_46 ?_
    exact w_iret hx hb hr hlocks hW ⟨hE, hp⟩ dX12_writeMove_49
  · replace hp := hp.2 c_3
    refine lv_iconst (v := 0) hx hb dX12_writeMove_8 (by decide) ?_
    exact w_iret hx hb hr hlocks hW ⟨hE, hp⟩ dX12_writeMove_9
set_option maxHeartbeats 4000000 in
set_option maxRecDepth 100000 in
theorem c_X12_writeMove (l : Launch) {D : wD} {cy : Nat → ClassId} {X : va_W} {S0 : wS} {post : Int32 → wS → Prop} {a0 : Nat} {x1 : Int32} (hL_a0 : wM D S0 a0) (hK_a0 : sK S0 a0 = 17) (hp : wp_X12_writeMove D post S0 a0 x1) : mI D cy X l yX12_writeMove wz_X12_writeMove r_X12_writeMove [.ref a0, .int x1] S0 (fun r S9 => wX D S0 S9 ∧ post r S9) := by
  intro sz
  refine Met.ofW (cc := cX12_writeMove) (maxL := 2) (ret := (some .int)) (by decide) rfl ?_
  intro p e s m args below meth c s₁ B hml hv
  obtain ⟨rfl, hsz, hP, hK, hD0, hRO⟩ := hv
  have hts := atoms_spec (ws := wz_X12_writeMove) B.pre
  have hown : s.vm.findClass RX12 = some m.cls := findClass_of_methodNamed B.named
  subst hsz
  have hD := hD0.self (sz := s.heap.size)
  have F : CallFix p m c cX12_writeMove 2 s _ wz_X12_writeMove RX12 := ⟨B.exec, B.bytes, hml, hown, hts⟩
  have hr := B.returns
  have hlocks := B.notSynchronized
  generalize hAe : va_A (wL cy X S0) s.heap.size = A at hD hK ⊢
  have hA : ∀ q, s.heap.size ≤ q → A q := fun q h => by rw [← hAe]; exact Or.inr h
  have hW : wO D cy X A s.heap S0 s.heap [] := ⟨hP, hD, va_S.rf, hA, hRO⟩
  have hl := lv_entry ([.ref a0, .int x1]) (n := 2) (Nat.le_of_ble_eq_true rfl)
  rw [lg_entry_eq]
  generalize (lg_sl ([.ref a0, .int x1]) ++ List.replicate (2 - (lg_sl ([.ref a0, .int x1])).length) Slot.unset).toArray = ls at hl ⊢
  have hl : lv_has ls 2 [(0, .ref a0), (1, .int x1)] := hl
  unfold wp_X12_writeMove at hp
  exact t_X12_writeMove_0 F hr hlocks hK hp hW wX.rf (lv_sub hl [0, 1] rfl) hL_a0 hK_a0
def wp_X12_writePaper_0 (D : wD) (post : Int32 → wS → Prop)  (S : wS) (a0 : Nat) : Prop :=
∀ S_1 : wS, S_1 = uI S a0 0 (0 : Int32) →
wp_X12_loads D (fun S_3 => 
wp_X12_writesPaper D (fun S_5 => 
post (sI S_5 a0 15) S_5) S_3 a0) S_1 a0
abbrev r_X12_writePaper : Room := { frames := 3, cells := 0, slots := 0, locals := 66 }
def wp_X12_writePaper (D : wD) (post : Int32 → wS → Prop) (S : wS) (a0 : Nat) : Prop := wp_X12_writePaper_0 D post S a0
set_option maxHeartbeats 4000000 in
set_option maxRecDepth 100000 in
theorem t_X12_writePaper_0 {p : Program} {l : Launch} {e : Env} {s : State} {m : MethodId} {args : Array Value} {below : List Frame} {meth : Method} {c : Code} {D : wD} {cy : Nat → ClassId} {X : va_W} {A : Nat → Prop} {S0 : wS} {post : Int32 → wS → Prop} (F : CallFix p m c cX12_writePaper 1 s args wz_X12_writePaper RX12) (hr : meth.sig.returnType = (some .int)) (hlocks : meth.locks = false) (hK : wK D cy A s) : ∀ {S : wS} {H : Heap} {locs : List Loc} {ls : Array Slot} {a0 : Nat}, wp_X12_writePaper_0 D post S a0 → wO D cy X A s.heap S H locs → wX D S0 S → lv_has ls 1 [(0, .ref a0)] → wM D S a0 → sK S a0 = 17 → W p l e r_X12_writePaper s m args below meth c H locs 0 0 (MQ below (va_Qi (fun r S9 => wX D S0 S9 ∧ post r S9) (wB D cy X A) A) args s 0 0 A) (F0 m 0 ls []) := by
  obtain ⟨hx, hb, hml, hown, hts⟩ := id F
  have hwg : ∀ w ∈ WG, w.before args s = true := fun w h => hts w (List.mem_cons_of_mem _ h)
  have i_17 : ∀ w ∈ u_ws RX12 TX12 43, w ∈ wz_X12_writePaper := fun w h => List.mem_cons_of_mem _ (wu_17 w h)
  have k_110 := hwg _ wf_RX12_110
  have k_244 := hwg _ wf_RX12_244
  intro S H locs ls a0 hp hW hE hl hL_a0 hK_a0
  unfold wp_X12_writePaper_0 at hp
  refine lv_aload_n hx hb dX12_writePaper_0 rfl (lv_at hl 0 rfl) ?_
  refine lv_iconst (v := 0) hx hb dX12_writePaper_1 (by decide) ?_
  refine w_putI (k := 17) (f := 0) (T := TX12) F hK hW hL_a0 hK_a0 (by decide) (by decide) rfl rfl (by decide) i_17 tyX12 tyX12_ok nmX12 k_110 rfl rfl (ty := .int) rfl rfl rfl dX12_writePaper_2 (fun H locs hW => ?_)
  obtain ⟨S_1, eS_1⟩ : ∃ z : wS, z = uI S a0 0 (0 : Int32) := ⟨_, rfl⟩
  rw [← eS_1] at hW
  replace hp := hp S_1 eS_1
  have hX_S_1 : wX D S S_1 := by rw [eS_1]; exact wX_uI
  have hE := hE.trans hX_S_1
  have hK_a0 : sK S_1 a0 = 17 := (hX_S_1.2 a0 hL_a0).1.trans hK_a0
  have hL_a0 : wM D S_1 a0 := hX_S_1.M hL_a0
  refine lv_aload_n hx hb dX12_writePaper_5 rfl (lv_at hl 0 rfl) ?_
  refine w_callV (va_runV (As := []) (rest := []) F (c_X12_loads l hL_a0 hK_a0 hp H.size) (cwV (C := RX12) 0 hts (wg_V wm_RX12_192 wy_X12_loads) rfl rfl rfl (by decide +kernel) ⟨Nat.le_of_ble_eq_true rfl, Nat.le_of_ble_eq_true rfl⟩) (w_preV hK hW hL_a0 hK_a0 (by decide) rfl) rfl rfl hl.1 rfl (lv_room (Nat.le_of_ble_eq_true rfl)) dX12_writePaper_6 ⟨Nat.le_of_ble_eq_true rfl, Nat.le_of_ble_eq_true rfl⟩) hW (fun S_3 H locs hp hW => ?_)
  obtain ⟨hX_S_3, hp⟩ := hp
  refine W.widen (k := 0) (n := 0) (by decide) (by decide) ?_
  have hE := hE.trans hX_S_3
  have hK_a0 : sK S_3 a0 = 17 := (hX_S_3.2 a0 hL_a0).1.trans hK_a0
  have hL_a0 : wM D S_3 a0 := hX_S_3.M hL_a0
  refine lv_aload_n hx hb dX12_writePaper_9 rfl (lv_at hl 0 rfl) ?_
  refine w_callV (va_runV (As := []) (rest := []) F (c_X12_writesPaper l hL_a0 hK_a0 hp H.size) (cwV (C := RX12) 0 hts (wg_V wm_RX12_256 wy_X12_writesPaper) rfl rfl rfl (by decide +kernel) ⟨Nat.le_of_ble_eq_true rfl, Nat.le_of_ble_eq_true rfl⟩) (w_preV hK hW hL_a0 hK_a0 (by decide) rfl) rfl rfl hl.1 rfl (lv_room (Nat.le_of_ble_eq_true rfl)) dX12_writePaper_10 ⟨Nat.le_of_ble_eq_true rfl, Nat.le_of_ble_eq_true rfl⟩) hW (fun S_5 H locs hp hW => ?_)
  obtain ⟨hX_S_5, hp⟩ := hp
  refine W.widen (k := 0) (n := 0) (by decide) (by decide) ?_
  have hE := hE.trans hX_S_5
  have hK_a0 : sK S_5 a0 = 17 := (hX_S_5.2 a0 hL_a0).1.trans hK_a0
  have hL_a0 : wM D S_5 a0 := hX_S_5.M hL_a0
  refine lv_aload_n hx hb dX12_writePaper_13 rfl (lv_at hl 0 rfl) ?_
  refine w_get (k := 17) (f := 15) (T := TX12) (v := .int (sI S_5 a0 15)) F hK hW hL_a0 hK_a0 (by decide) rfl rfl (by decide) i_17 k_244 rfl dX12_writePaper_14 ?_
  exact w_iret hx hb hr hlocks hW ⟨hE, hp⟩ dX12_writePaper_17
set_option maxHeartbeats 4000000 in
set_option maxRecDepth 100000 in
theorem c_X12_writePaper (l : Launch) {D : wD} {cy : Nat → ClassId} {X : va_W} {S0 : wS} {post : Int32 → wS → Prop} {a0 : Nat} (hL_a0 : wM D S0 a0) (hK_a0 : sK S0 a0 = 17) (hp : wp_X12_writePaper D post S0 a0) : mI D cy X l yX12_writePaper wz_X12_writePaper r_X12_writePaper [.ref a0] S0 (fun r S9 => wX D S0 S9 ∧ post r S9) := by
  intro sz
  refine Met.ofW (cc := cX12_writePaper) (maxL := 1) (ret := (some .int)) (by decide) rfl ?_
  intro p e s m args below meth c s₁ B hml hv
  obtain ⟨rfl, hsz, hP, hK, hD0, hRO⟩ := hv
  have hts := atoms_spec (ws := wz_X12_writePaper) B.pre
  have hown : s.vm.findClass RX12 = some m.cls := findClass_of_methodNamed B.named
  subst hsz
  have hD := hD0.self (sz := s.heap.size)
  have F : CallFix p m c cX12_writePaper 1 s _ wz_X12_writePaper RX12 := ⟨B.exec, B.bytes, hml, hown, hts⟩
  have hr := B.returns
  have hlocks := B.notSynchronized
  generalize hAe : va_A (wL cy X S0) s.heap.size = A at hD hK ⊢
  have hA : ∀ q, s.heap.size ≤ q → A q := fun q h => by rw [← hAe]; exact Or.inr h
  have hW : wO D cy X A s.heap S0 s.heap [] := ⟨hP, hD, va_S.rf, hA, hRO⟩
  have hl := lv_entry ([.ref a0]) (n := 1) (Nat.le_of_ble_eq_true rfl)
  rw [lg_entry_eq]
  generalize (lg_sl ([.ref a0]) ++ List.replicate (1 - (lg_sl ([.ref a0])).length) Slot.unset).toArray = ls at hl ⊢
  have hl : lv_has ls 1 [(0, .ref a0)] := hl
  unfold wp_X12_writePaper at hp
  exact t_X12_writePaper_0 F hr hlocks hK hp hW wX.rf (lv_sub hl [0] rfl) hL_a0 hK_a0
