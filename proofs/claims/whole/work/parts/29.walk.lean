theorem dX2_reachWin_0 : decode cX2_reachWin 0 = .ok (.aload_n 0, 1) := by decide +kernel
theorem dX2_reachWin_1 : decode cX2_reachWin 1 = .ok (.iload_n 1, 1) := by decide +kernel
theorem dX2_reachWin_2 : decode cX2_reachWin 2 = .ok (.iload_n 2, 1) := by decide +kernel
theorem dX2_reachWin_3 : decode cX2_reachWin 3 = .ok (.invokevirtual 100, 3) := by decide +kernel
theorem dX2_reachWin_6 : decode cX2_reachWin 6 = .ok (.iconst (-1), 1) := by decide +kernel
theorem dX2_reachWin_7 : decode cX2_reachWin 7 = .ok (.if_icmp .ne 10, 3) := by decide +kernel
theorem dX2_reachWin_10 : decode cX2_reachWin 10 = .ok (.aload_n 0, 1) := by decide +kernel
theorem dX2_reachWin_11 : decode cX2_reachWin 11 = .ok (.iload_n 1, 1) := by decide +kernel
theorem dX2_reachWin_12 : decode cX2_reachWin 12 = .ok (.iload_n 2, 1) := by decide +kernel
theorem dX2_reachWin_13 : decode cX2_reachWin 13 = .ok (.iload_n 3, 1) := by decide +kernel
theorem dX2_reachWin_14 : decode cX2_reachWin 14 = .ok (.invokevirtual 146, 3) := by decide +kernel
theorem dX2_reachWin_17 : decode cX2_reachWin 17 = .ok (.return_, 1) := by decide +kernel
theorem dX2_stepBack_0 : decode cX2_stepBack 0 = .ok (.iload_n 2, 1) := by decide +kernel
theorem dX2_stepBack_1 : decode cX2_stepBack 1 = .ok (.sipush 15625, 3) := by decide +kernel
theorem dX2_stepBack_4 : decode cX2_stepBack 4 = .ok (.if_icmp .lt 7, 3) := by decide +kernel
theorem dX2_stepBack_7 : decode cX2_stepBack 7 = .ok (.iconst 1, 1) := by decide +kernel
theorem dX2_stepBack_8 : decode cX2_stepBack 8 = .ok (.goto 4, 3) := by decide +kernel
theorem dX2_stepBack_11 : decode cX2_stepBack 11 = .ok (.iconst 0, 1) := by decide +kernel
theorem dX2_stepBack_12 : decode cX2_stepBack 12 = .ok (.istore_n 3, 1) := by decide +kernel
theorem dX2_stepBack_13 : decode cX2_stepBack 13 = .ok (.iload_n 3, 1) := by decide +kernel
theorem dX2_stepBack_14 : decode cX2_stepBack 14 = .ok (.ifCond .eq 11, 3) := by decide +kernel
theorem dX2_stepBack_17 : decode cX2_stepBack 17 = .ok (.iload_n 2, 1) := by decide +kernel
theorem dX2_stepBack_18 : decode cX2_stepBack 18 = .ok (.sipush 15625, 3) := by decide +kernel
theorem dX2_stepBack_21 : decode cX2_stepBack 21 = .ok (.isub, 1) := by decide +kernel
theorem dX2_stepBack_22 : decode cX2_stepBack 22 = .ok (.goto 4, 3) := by decide +kernel
theorem dX2_stepBack_25 : decode cX2_stepBack 25 = .ok (.iload_n 2, 1) := by decide +kernel
theorem dX2_stepBack_26 : decode cX2_stepBack 26 = .ok (.istore 4, 2) := by decide +kernel
theorem dX2_stepBack_28 : decode cX2_stepBack 28 = .ok (.iload 4, 2) := by decide +kernel
theorem dX2_stepBack_30 : decode cX2_stepBack 30 = .ok (.bipush 25, 2) := by decide +kernel
theorem dX2_stepBack_32 : decode cX2_stepBack 32 = .ok (.irem, 1) := by decide +kernel
theorem dX2_stepBack_33 : decode cX2_stepBack 33 = .ok (.istore 5, 2) := by decide +kernel
theorem dX2_stepBack_35 : decode cX2_stepBack 35 = .ok (.iload 4, 2) := by decide +kernel
theorem dX2_stepBack_37 : decode cX2_stepBack 37 = .ok (.bipush 25, 2) := by decide +kernel
theorem dX2_stepBack_39 : decode cX2_stepBack 39 = .ok (.idiv, 1) := by decide +kernel
theorem dX2_stepBack_40 : decode cX2_stepBack 40 = .ok (.bipush 25, 2) := by decide +kernel
theorem dX2_stepBack_42 : decode cX2_stepBack 42 = .ok (.irem, 1) := by decide +kernel
theorem dX2_stepBack_43 : decode cX2_stepBack 43 = .ok (.istore 6, 2) := by decide +kernel
theorem dX2_stepBack_45 : decode cX2_stepBack 45 = .ok (.iload 4, 2) := by decide +kernel
theorem dX2_stepBack_47 : decode cX2_stepBack 47 = .ok (.bipush 25, 2) := by decide +kernel
theorem dX2_stepBack_49 : decode cX2_stepBack 49 = .ok (.idiv, 1) := by decide +kernel
theorem dX2_stepBack_50 : decode cX2_stepBack 50 = .ok (.bipush 25, 2) := by decide +kernel
theorem dX2_stepBack_52 : decode cX2_stepBack 52 = .ok (.idiv, 1) := by decide +kernel
theorem dX2_stepBack_53 : decode cX2_stepBack 53 = .ok (.istore 7, 2) := by decide +kernel
theorem dX2_stepBack_55 : decode cX2_stepBack 55 = .ok (.aload_n 0, 1) := by decide +kernel
theorem dX2_stepBack_56 : decode cX2_stepBack 56 = .ok (.iload_n 1, 1) := by decide +kernel
theorem dX2_stepBack_57 : decode cX2_stepBack 57 = .ok (.iload_n 2, 1) := by decide +kernel
theorem dX2_stepBack_58 : decode cX2_stepBack 58 = .ok (.invokevirtual 100, 3) := by decide +kernel
theorem dX2_stepBack_61 : decode cX2_stepBack 61 = .ok (.iconst 1, 1) := by decide +kernel
theorem dX2_stepBack_62 : decode cX2_stepBack 62 = .ok (.iadd, 1) := by decide +kernel
theorem dX2_stepBack_63 : decode cX2_stepBack 63 = .ok (.istore 8, 2) := by decide +kernel
theorem dX2_stepBack_65 : decode cX2_stepBack 65 = .ok (.aload_n 0, 1) := by decide +kernel
theorem dX2_stepBack_66 : decode cX2_stepBack 66 = .ok (.getfield 35, 3) := by decide +kernel
theorem dX2_stepBack_69 : decode cX2_stepBack 69 = .ok (.iconst 1, 1) := by decide +kernel
theorem dX2_stepBack_70 : decode cX2_stepBack 70 = .ok (.iload 7, 2) := by decide +kernel
theorem dX2_stepBack_72 : decode cX2_stepBack 72 = .ok (.lconst 0, 1) := by decide +kernel
theorem dX2_stepBack_73 : decode cX2_stepBack 73 = .ok (.invokevirtual 130, 3) := by decide +kernel
theorem dX2_stepBack_76 : decode cX2_stepBack 76 = .ok (.lstore 9, 2) := by decide +kernel
theorem dX2_stepBack_78 : decode cX2_stepBack 78 = .ok (.aload_n 0, 1) := by decide +kernel
theorem dX2_stepBack_79 : decode cX2_stepBack 79 = .ok (.getfield 35, 3) := by decide +kernel
theorem dX2_stepBack_82 : decode cX2_stepBack 82 = .ok (.iconst 1, 1) := by decide +kernel
theorem dX2_stepBack_83 : decode cX2_stepBack 83 = .ok (.iload 6, 2) := by decide +kernel
theorem dX2_stepBack_85 : decode cX2_stepBack 85 = .ok (.lconst 0, 1) := by decide +kernel
theorem dX2_stepBack_86 : decode cX2_stepBack 86 = .ok (.invokevirtual 130, 3) := by decide +kernel
theorem dX2_stepBack_89 : decode cX2_stepBack 89 = .ok (.lstore 11, 2) := by decide +kernel
theorem dX2_stepBack_91 : decode cX2_stepBack 91 = .ok (.aload_n 0, 1) := by decide +kernel
theorem dX2_stepBack_92 : decode cX2_stepBack 92 = .ok (.getfield 35, 3) := by decide +kernel
theorem dX2_stepBack_95 : decode cX2_stepBack 95 = .ok (.iload_n 1, 1) := by decide +kernel
theorem dX2_stepBack_96 : decode cX2_stepBack 96 = .ok (.iload 5, 2) := by decide +kernel
theorem dX2_stepBack_98 : decode cX2_stepBack 98 = .ok (.lconst 1, 1) := by decide +kernel
theorem dX2_stepBack_99 : decode cX2_stepBack 99 = .ok (.iload 7, 2) := by decide +kernel
theorem dX2_stepBack_101 : decode cX2_stepBack 101 = .ok (.lshl, 1) := by decide +kernel
theorem dX2_stepBack_102 : decode cX2_stepBack 102 = .ok (.lconst 1, 1) := by decide +kernel
theorem dX2_stepBack_103 : decode cX2_stepBack 103 = .ok (.iload 6, 2) := by decide +kernel
theorem dX2_stepBack_105 : decode cX2_stepBack 105 = .ok (.lshl, 1) := by decide +kernel
theorem dX2_stepBack_106 : decode cX2_stepBack 106 = .ok (.lor, 1) := by decide +kernel
theorem dX2_stepBack_107 : decode cX2_stepBack 107 = .ok (.invokevirtual 130, 3) := by decide +kernel
theorem dX2_stepBack_110 : decode cX2_stepBack 110 = .ok (.lstore 13, 2) := by decide +kernel
theorem dX2_stepBack_112 : decode cX2_stepBack 112 = .ok (.iconst 0, 1) := by decide +kernel
theorem dX2_stepBack_113 : decode cX2_stepBack 113 = .ok (.istore 15, 2) := by decide +kernel
theorem dX2_stepBack_115 : decode cX2_stepBack 115 = .ok (.iload 15, 2) := by decide +kernel
theorem dX2_stepBack_117 : decode cX2_stepBack 117 = .ok (.aload_n 0, 1) := by decide +kernel
theorem dX2_stepBack_118 : decode cX2_stepBack 118 = .ok (.getfield 35, 3) := by decide +kernel
theorem dX2_stepBack_121 : decode cX2_stepBack 121 = .ok (.getfield 104, 3) := by decide +kernel
theorem dX2_stepBack_124 : decode cX2_stepBack 124 = .ok (.if_icmp .ge 102, 3) := by decide +kernel
theorem dX2_stepBack_127 : decode cX2_stepBack 127 = .ok (.iload_n 3, 1) := by decide +kernel
theorem dX2_stepBack_128 : decode cX2_stepBack 128 = .ok (.ifCond .eq 30, 3) := by decide +kernel
theorem dX2_stepBack_131 : decode cX2_stepBack 131 = .ok (.lload 11, 2) := by decide +kernel
theorem dX2_stepBack_133 : decode cX2_stepBack 133 = .ok (.iload 15, 2) := by decide +kernel
theorem dX2_stepBack_135 : decode cX2_stepBack 135 = .ok (.invokestatic 134, 3) := by decide +kernel
theorem dX2_stepBack_138 : decode cX2_stepBack 138 = .ok (.ifCond .eq 20, 3) := by decide +kernel
theorem dX2_stepBack_141 : decode cX2_stepBack 141 = .ok (.aload_n 0, 1) := by decide +kernel
theorem dX2_stepBack_142 : decode cX2_stepBack 142 = .ok (.iload_n 1, 1) := by decide +kernel
theorem dX2_stepBack_143 : decode cX2_stepBack 143 = .ok (.iconst 0, 1) := by decide +kernel
theorem dX2_stepBack_144 : decode cX2_stepBack 144 = .ok (.iload 7, 2) := by decide +kernel
theorem dX2_stepBack_146 : decode cX2_stepBack 146 = .ok (.iload 15, 2) := by decide +kernel
theorem dX2_stepBack_148 : decode cX2_stepBack 148 = .ok (.iload 5, 2) := by decide +kernel
theorem dX2_stepBack_150 : decode cX2_stepBack 150 = .ok (.invokestatic 96, 3) := by decide +kernel
theorem dX2_stepBack_153 : decode cX2_stepBack 153 = .ok (.iload 8, 2) := by decide +kernel
theorem dX2_stepBack_155 : decode cX2_stepBack 155 = .ok (.invokevirtual 149, 3) := by decide +kernel
theorem dX2_stepBack_158 : decode cX2_stepBack 158 = .ok (.iload_n 3, 1) := by decide +kernel
theorem dX2_stepBack_159 : decode cX2_stepBack 159 = .ok (.ifCond .ne 30, 3) := by decide +kernel
theorem dX2_stepBack_162 : decode cX2_stepBack 162 = .ok (.lload 9, 2) := by decide +kernel
theorem dX2_stepBack_164 : decode cX2_stepBack 164 = .ok (.iload 15, 2) := by decide +kernel
theorem dX2_stepBack_166 : decode cX2_stepBack 166 = .ok (.invokestatic 134, 3) := by decide +kernel
theorem dX2_stepBack_169 : decode cX2_stepBack 169 = .ok (.ifCond .eq 20, 3) := by decide +kernel
theorem dX2_stepBack_172 : decode cX2_stepBack 172 = .ok (.aload_n 0, 1) := by decide +kernel
theorem dX2_stepBack_173 : decode cX2_stepBack 173 = .ok (.iload_n 1, 1) := by decide +kernel
theorem dX2_stepBack_174 : decode cX2_stepBack 174 = .ok (.iconst 1, 1) := by decide +kernel
theorem dX2_stepBack_175 : decode cX2_stepBack 175 = .ok (.iload 15, 2) := by decide +kernel
theorem dX2_stepBack_177 : decode cX2_stepBack 177 = .ok (.iload 6, 2) := by decide +kernel
theorem dX2_stepBack_179 : decode cX2_stepBack 179 = .ok (.iload 5, 2) := by decide +kernel
theorem dX2_stepBack_181 : decode cX2_stepBack 181 = .ok (.invokestatic 96, 3) := by decide +kernel
theorem dX2_stepBack_184 : decode cX2_stepBack 184 = .ok (.iload 8, 2) := by decide +kernel
theorem dX2_stepBack_186 : decode cX2_stepBack 186 = .ok (.invokevirtual 152, 3) := by decide +kernel
theorem dX2_stepBack_189 : decode cX2_stepBack 189 = .ok (.iload_n 3, 1) := by decide +kernel
theorem dX2_stepBack_190 : decode cX2_stepBack 190 = .ok (.ifCond .ne 30, 3) := by decide +kernel
theorem dX2_stepBack_193 : decode cX2_stepBack 193 = .ok (.lload 13, 2) := by decide +kernel
theorem dX2_stepBack_195 : decode cX2_stepBack 195 = .ok (.iload 15, 2) := by decide +kernel
theorem dX2_stepBack_197 : decode cX2_stepBack 197 = .ok (.invokestatic 134, 3) := by decide +kernel
theorem dX2_stepBack_200 : decode cX2_stepBack 200 = .ok (.ifCond .eq 20, 3) := by decide +kernel
theorem dX2_stepBack_203 : decode cX2_stepBack 203 = .ok (.aload_n 0, 1) := by decide +kernel
theorem dX2_stepBack_204 : decode cX2_stepBack 204 = .ok (.iload_n 1, 1) := by decide +kernel
theorem dX2_stepBack_205 : decode cX2_stepBack 205 = .ok (.iconst 1, 1) := by decide +kernel
theorem dX2_stepBack_206 : decode cX2_stepBack 206 = .ok (.iload 7, 2) := by decide +kernel
theorem dX2_stepBack_208 : decode cX2_stepBack 208 = .ok (.iload 6, 2) := by decide +kernel
theorem dX2_stepBack_210 : decode cX2_stepBack 210 = .ok (.iload 15, 2) := by decide +kernel
theorem dX2_stepBack_212 : decode cX2_stepBack 212 = .ok (.invokestatic 96, 3) := by decide +kernel
theorem dX2_stepBack_215 : decode cX2_stepBack 215 = .ok (.iload 8, 2) := by decide +kernel
theorem dX2_stepBack_217 : decode cX2_stepBack 217 = .ok (.invokevirtual 152, 3) := by decide +kernel
theorem dX2_stepBack_220 : decode cX2_stepBack 220 = .ok (.iinc 15 1, 3) := by decide +kernel
theorem dX2_stepBack_223 : decode cX2_stepBack 223 = .ok (.goto (-108), 3) := by decide +kernel
theorem dX2_stepBack_226 : decode cX2_stepBack 226 = .ok (.return_, 1) := by decide +kernel
theorem dX2_workOut_0 : decode cX2_workOut 0 = .ok (.aload_n 0, 1) := by decide +kernel
theorem dX2_workOut_1 : decode cX2_workOut 1 = .ok (.iload_n 1, 1) := by decide +kernel
theorem dX2_workOut_2 : decode cX2_workOut 2 = .ok (.invokevirtual 45, 3) := by decide +kernel
theorem dX2_workOut_5 : decode cX2_workOut 5 = .ok (.ifCond .ne 25, 3) := by decide +kernel
theorem dX2_workOut_8 : decode cX2_workOut 8 = .ok (.iload_n 1, 1) := by decide +kernel
theorem dX2_workOut_9 : decode cX2_workOut 9 = .ok (.iconst 2, 1) := by decide +kernel
theorem dX2_workOut_10 : decode cX2_workOut 10 = .ok (.if_icmp .lt 20, 3) := by decide +kernel
theorem dX2_workOut_13 : decode cX2_workOut 13 = .ok (.iload_n 1, 1) := by decide +kernel
theorem dX2_workOut_14 : decode cX2_workOut 14 = .ok (.iconst 5, 1) := by decide +kernel
theorem dX2_workOut_15 : decode cX2_workOut 15 = .ok (.if_icmp .gt 15, 3) := by decide +kernel
theorem dX2_workOut_18 : decode cX2_workOut 18 = .ok (.aload_n 0, 1) := by decide +kernel
theorem dX2_workOut_19 : decode cX2_workOut 19 = .ok (.getfield 35, 3) := by decide +kernel
theorem dX2_workOut_22 : decode cX2_workOut 22 = .ok (.getfield 104, 3) := by decide +kernel
theorem dX2_workOut_25 : decode cX2_workOut 25 = .ok (.bipush 25, 2) := by decide +kernel
theorem dX2_workOut_27 : decode cX2_workOut 27 = .ok (.if_icmp .le 4, 3) := by decide +kernel
theorem dX2_workOut_30 : decode cX2_workOut 30 = .ok (.return_, 1) := by decide +kernel
theorem dX2_workOut_31 : decode cX2_workOut 31 = .ok (.aload_n 0, 1) := by decide +kernel
theorem dX2_workOut_32 : decode cX2_workOut 32 = .ok (.getfield 22, 3) := by decide +kernel
theorem dX2_workOut_35 : decode cX2_workOut 35 = .ok (.arraylength, 1) := by decide +kernel
theorem dX2_workOut_36 : decode cX2_workOut 36 = .ok (.ifCond .ne 29, 3) := by decide +kernel
theorem dX2_workOut_39 : decode cX2_workOut 39 = .ok (.aload_n 0, 1) := by decide +kernel
theorem dX2_workOut_40 : decode cX2_workOut 40 = .ok (.ldc 109, 2) := by decide +kernel
theorem dX2_workOut_42 : decode cX2_workOut 42 = .ok (.newarray .int, 2) := by decide +kernel
theorem dX2_workOut_44 : decode cX2_workOut 44 = .ok (.putfield 22, 3) := by decide +kernel
theorem dX2_workOut_47 : decode cX2_workOut 47 = .ok (.aload_n 0, 1) := by decide +kernel
theorem dX2_workOut_48 : decode cX2_workOut 48 = .ok (.sipush 31250, 3) := by decide +kernel
theorem dX2_workOut_51 : decode cX2_workOut 51 = .ok (.newarray .int, 2) := by decide +kernel
theorem dX2_workOut_53 : decode cX2_workOut 53 = .ok (.putfield 25, 3) := by decide +kernel
theorem dX2_workOut_56 : decode cX2_workOut 56 = .ok (.aload_n 0, 1) := by decide +kernel
theorem dX2_workOut_57 : decode cX2_workOut 57 = .ok (.sipush 15625, 3) := by decide +kernel
theorem dX2_workOut_60 : decode cX2_workOut 60 = .ok (.newarray .int, 2) := by decide +kernel
theorem dX2_workOut_62 : decode cX2_workOut 62 = .ok (.putfield 28, 3) := by decide +kernel
theorem dX2_workOut_65 : decode cX2_workOut 65 = .ok (.aload_n 0, 1) := by decide +kernel
theorem dX2_workOut_66 : decode cX2_workOut 66 = .ok (.iconst 0, 1) := by decide +kernel
theorem dX2_workOut_67 : decode cX2_workOut 67 = .ok (.putfield 31, 3) := by decide +kernel
theorem dX2_workOut_70 : decode cX2_workOut 70 = .ok (.aload_n 0, 1) := by decide +kernel
theorem dX2_workOut_71 : decode cX2_workOut 71 = .ok (.iload_n 1, 1) := by decide +kernel
theorem dX2_workOut_72 : decode cX2_workOut 72 = .ok (.iconst 1, 1) := by decide +kernel
theorem dX2_workOut_73 : decode cX2_workOut 73 = .ok (.invokevirtual 110, 3) := by decide +kernel
theorem dX2_workOut_76 : decode cX2_workOut 76 = .ok (.aload_n 0, 1) := by decide +kernel
theorem dX2_workOut_77 : decode cX2_workOut 77 = .ok (.iload_n 1, 1) := by decide +kernel
theorem dX2_workOut_78 : decode cX2_workOut 78 = .ok (.iconst 0, 1) := by decide +kernel
theorem dX2_workOut_79 : decode cX2_workOut 79 = .ok (.invokevirtual 110, 3) := by decide +kernel
theorem dX2_workOut_82 : decode cX2_workOut 82 = .ok (.iconst 0, 1) := by decide +kernel
theorem dX2_workOut_83 : decode cX2_workOut 83 = .ok (.istore_n 2, 1) := by decide +kernel
theorem dX2_workOut_84 : decode cX2_workOut 84 = .ok (.iload_n 2, 1) := by decide +kernel
theorem dX2_workOut_85 : decode cX2_workOut 85 = .ok (.aload_n 0, 1) := by decide +kernel
theorem dX2_workOut_86 : decode cX2_workOut 86 = .ok (.getfield 31, 3) := by decide +kernel
theorem dX2_workOut_89 : decode cX2_workOut 89 = .ok (.if_icmp .ge 29, 3) := by decide +kernel
theorem dX2_workOut_92 : decode cX2_workOut 92 = .ok (.iload_n 2, 1) := by decide +kernel
theorem dX2_workOut_93 : decode cX2_workOut 93 = .ok (.aload_n 0, 1) := by decide +kernel
theorem dX2_workOut_94 : decode cX2_workOut 94 = .ok (.getfield 25, 3) := by decide +kernel
theorem dX2_workOut_97 : decode cX2_workOut 97 = .ok (.arraylength, 1) := by decide +kernel
theorem dX2_workOut_98 : decode cX2_workOut 98 = .ok (.if_icmp .ge 20, 3) := by decide +kernel
theorem dX2_workOut_101 : decode cX2_workOut 101 = .ok (.aload_n 0, 1) := by decide +kernel
theorem dX2_workOut_102 : decode cX2_workOut 102 = .ok (.iload_n 1, 1) := by decide +kernel
theorem dX2_workOut_103 : decode cX2_workOut 103 = .ok (.aload_n 0, 1) := by decide +kernel
theorem dX2_workOut_104 : decode cX2_workOut 104 = .ok (.getfield 25, 3) := by decide +kernel
theorem dX2_workOut_107 : decode cX2_workOut 107 = .ok (.iload_n 2, 1) := by decide +kernel
theorem dX2_workOut_108 : decode cX2_workOut 108 = .ok (.iaload, 1) := by decide +kernel
theorem dX2_workOut_109 : decode cX2_workOut 109 = .ok (.invokevirtual 114, 3) := by decide +kernel
theorem dX2_workOut_112 : decode cX2_workOut 112 = .ok (.iinc 2 1, 3) := by decide +kernel
theorem dX2_workOut_115 : decode cX2_workOut 115 = .ok (.goto (-31), 3) := by decide +kernel
theorem dX2_workOut_118 : decode cX2_workOut 118 = .ok (.aload_n 0, 1) := by decide +kernel
theorem dX2_workOut_119 : decode cX2_workOut 119 = .ok (.getfield 11, 3) := by decide +kernel
theorem dX2_workOut_122 : decode cX2_workOut 122 = .ok (.iload_n 1, 1) := by decide +kernel
theorem dX2_workOut_123 : decode cX2_workOut 123 = .ok (.iconst 1, 1) := by decide +kernel
theorem dX2_workOut_124 : decode cX2_workOut 124 = .ok (.bastore, 1) := by decide +kernel
theorem dX2_workOut_125 : decode cX2_workOut 125 = .ok (.aload_n 0, 1) := by decide +kernel
theorem dX2_workOut_126 : decode cX2_workOut 126 = .ok (.getfield 15, 3) := by decide +kernel
theorem dX2_workOut_129 : decode cX2_workOut 129 = .ok (.iload_n 1, 1) := by decide +kernel
theorem dX2_workOut_130 : decode cX2_workOut 130 = .ok (.aload_n 0, 1) := by decide +kernel
theorem dX2_workOut_131 : decode cX2_workOut 131 = .ok (.getfield 31, 3) := by decide +kernel
theorem dX2_workOut_134 : decode cX2_workOut 134 = .ok (.iastore, 1) := by decide +kernel
theorem dX2_workOut_135 : decode cX2_workOut 135 = .ok (.aload_n 0, 1) := by decide +kernel
theorem dX2_workOut_136 : decode cX2_workOut 136 = .ok (.getfield 31, 3) := by decide +kernel
theorem dX2_workOut_139 : decode cX2_workOut 139 = .ok (.iconst 1, 1) := by decide +kernel
theorem dX2_workOut_140 : decode cX2_workOut 140 = .ok (.isub, 1) := by decide +kernel
theorem dX2_workOut_141 : decode cX2_workOut 141 = .ok (.istore_n 2, 1) := by decide +kernel
theorem dX2_workOut_142 : decode cX2_workOut 142 = .ok (.aload_n 0, 1) := by decide +kernel
theorem dX2_workOut_143 : decode cX2_workOut 143 = .ok (.getfield 19, 3) := by decide +kernel
theorem dX2_workOut_146 : decode cX2_workOut 146 = .ok (.iload_n 1, 1) := by decide +kernel
theorem dX2_workOut_147 : decode cX2_workOut 147 = .ok (.iload_n 2, 1) := by decide +kernel
theorem dX2_workOut_148 : decode cX2_workOut 148 = .ok (.ifCond .lt 26, 3) := by decide +kernel
theorem dX2_workOut_151 : decode cX2_workOut 151 = .ok (.iload_n 2, 1) := by decide +kernel
theorem dX2_workOut_152 : decode cX2_workOut 152 = .ok (.aload_n 0, 1) := by decide +kernel
theorem dX2_workOut_153 : decode cX2_workOut 153 = .ok (.getfield 25, 3) := by decide +kernel
theorem dX2_workOut_156 : decode cX2_workOut 156 = .ok (.arraylength, 1) := by decide +kernel
theorem dX2_workOut_157 : decode cX2_workOut 157 = .ok (.if_icmp .ge 17, 3) := by decide +kernel
theorem dX2_workOut_160 : decode cX2_workOut 160 = .ok (.aload_n 0, 1) := by decide +kernel
theorem dX2_workOut_161 : decode cX2_workOut 161 = .ok (.iload_n 1, 1) := by decide +kernel
theorem dX2_workOut_162 : decode cX2_workOut 162 = .ok (.aload_n 0, 1) := by decide +kernel
theorem dX2_workOut_163 : decode cX2_workOut 163 = .ok (.getfield 25, 3) := by decide +kernel
theorem dX2_workOut_166 : decode cX2_workOut 166 = .ok (.iload_n 2, 1) := by decide +kernel
theorem dX2_workOut_167 : decode cX2_workOut 167 = .ok (.iaload, 1) := by decide +kernel
theorem dX2_workOut_168 : decode cX2_workOut 168 = .ok (.invokevirtual 100, 3) := by decide +kernel
theorem dX2_workOut_171 : decode cX2_workOut 171 = .ok (.goto 4, 3) := by decide +kernel
theorem dX2_workOut_174 : decode cX2_workOut 174 = .ok (.iconst (-1), 1) := by decide +kernel
theorem dX2_workOut_175 : decode cX2_workOut 175 = .ok (.iastore, 1) := by decide +kernel
theorem dX2_workOut_176 : decode cX2_workOut 176 = .ok (.return_, 1) := by decide +kernel
theorem dX11_solve_0 : decode cX11_solve 0 = .ok (.iload_n 1, 1) := by decide +kernel
theorem dX11_solve_1 : decode cX11_solve 1 = .ok (.invokestatic 446, 3) := by decide +kernel
theorem dX11_solve_4 : decode cX11_solve 4 = .ok (.aload_n 0, 1) := by decide +kernel
theorem dX11_solve_5 : decode cX11_solve 5 = .ok (.getfield 12, 3) := by decide +kernel
theorem dX11_solve_8 : decode cX11_solve 8 = .ok (.getfield 154, 3) := by decide +kernel
theorem dX11_solve_11 : decode cX11_solve 11 = .ok (.bipush 25, 2) := by decide +kernel
theorem dX11_solve_13 : decode cX11_solve 13 = .ok (.if_icmp .le 14, 3) := by decide +kernel
theorem dX11_solve_16 : decode cX11_solve 16 = .ok (.new 285, 3) := by decide +kernel
theorem dX11_solve_19 : decode cX11_solve 19 = .ok (.dup, 1) := by decide +kernel
theorem dX11_solve_20 : decode cX11_solve 20 = .ok (.ldc_w 449, 3) := by decide +kernel
theorem dX11_solve_23 : decode cX11_solve 23 = .ok (.invokespecial 289, 3) := by decide +kernel
theorem dX11_solve_26 : decode cX11_solve 26 = .ok (.athrow, 1) := by decide +kernel
theorem dX11_solve_27 : decode cX11_solve 27 = .ok (.aload_n 0, 1) := by decide +kernel
theorem dX11_solve_28 : decode cX11_solve 28 = .ok (.getfield 98, 3) := by decide +kernel
theorem dX11_solve_31 : decode cX11_solve 31 = .ok (.iload_n 1, 1) := by decide +kernel
theorem dX11_solve_32 : decode cX11_solve 32 = .ok (.invokevirtual 451, 3) := by decide +kernel
theorem dX11_solve_35 : decode cX11_solve 35 = .ok (.aload_n 0, 1) := by decide +kernel
theorem dX11_solve_36 : decode cX11_solve 36 = .ok (.getfield 98, 3) := by decide +kernel
theorem dX11_solve_39 : decode cX11_solve 39 = .ok (.iload_n 1, 1) := by decide +kernel
theorem dX11_solve_40 : decode cX11_solve 40 = .ok (.invokevirtual 454, 3) := by decide +kernel
theorem dX11_solve_43 : decode cX11_solve 43 = .ok (.ireturn, 1) := by decide +kernel
theorem dX11_startHere_0 : decode cX11_startHere 0 = .ok (.aload_n 0, 1) := by decide +kernel
theorem dX11_startHere_1 : decode cX11_startHere 1 = .ok (.getfield 40, 3) := by decide +kernel
theorem dX11_startHere_4 : decode cX11_startHere 4 = .ok (.getfield 157, 3) := by decide +kernel
theorem dX11_startHere_7 : decode cX11_startHere 7 = .ok (.istore_n 1, 1) := by decide +kernel
theorem dX11_startHere_8 : decode cX11_startHere 8 = .ok (.aload_n 0, 1) := by decide +kernel
theorem dX11_startHere_9 : decode cX11_startHere 9 = .ok (.getfield 40, 3) := by decide +kernel
theorem dX11_startHere_12 : decode cX11_startHere 12 = .ok (.aload_n 0, 1) := by decide +kernel
theorem dX11_startHere_13 : decode cX11_startHere 13 = .ok (.getfield 28, 3) := by decide +kernel
theorem dX11_startHere_16 : decode cX11_startHere 16 = .ok (.invokevirtual 130, 3) := by decide +kernel
theorem dX11_startHere_19 : decode cX11_startHere 19 = .ok (.iload_n 1, 1) := by decide +kernel
theorem dX11_startHere_20 : decode cX11_startHere 20 = .ok (.ireturn, 1) := by decide +kernel
theorem dX11_state_0 : decode cX11_state 0 = .ok (.aload_n 0, 1) := by decide +kernel
theorem dX11_state_1 : decode cX11_state 1 = .ok (.invokevirtual 217, 3) := by decide +kernel
theorem dX11_state_4 : decode cX11_state 4 = .ok (.aload_n 0, 1) := by decide +kernel
theorem dX11_state_5 : decode cX11_state 5 = .ok (.invokevirtual 293, 3) := by decide +kernel
theorem dX11_state_8 : decode cX11_state 8 = .ok (.ireturn, 1) := by decide +kernel
theorem dX11_takeBack_0 : decode cX11_takeBack 0 = .ok (.aload_n 0, 1) := by decide +kernel
theorem dX11_takeBack_1 : decode cX11_takeBack 1 = .ok (.getfield 40, 3) := by decide +kernel
theorem dX11_takeBack_4 : decode cX11_takeBack 4 = .ok (.getfield 157, 3) := by decide +kernel
theorem dX11_takeBack_7 : decode cX11_takeBack 7 = .ok (.ifCond .ne 14, 3) := by decide +kernel
theorem dX11_takeBack_10 : decode cX11_takeBack 10 = .ok (.new 285, 3) := by decide +kernel
theorem dX11_takeBack_13 : decode cX11_takeBack 13 = .ok (.dup, 1) := by decide +kernel
theorem dX11_takeBack_14 : decode cX11_takeBack 14 = .ok (.ldc_w 296, 3) := by decide +kernel
theorem dX11_takeBack_17 : decode cX11_takeBack 17 = .ok (.invokespecial 289, 3) := by decide +kernel
theorem dX11_takeBack_20 : decode cX11_takeBack 20 = .ok (.athrow, 1) := by decide +kernel
theorem dX11_takeBack_21 : decode cX11_takeBack 21 = .ok (.aload_n 0, 1) := by decide +kernel
theorem dX11_takeBack_22 : decode cX11_takeBack 22 = .ok (.getfield 40, 3) := by decide +kernel
theorem dX11_takeBack_25 : decode cX11_takeBack 25 = .ok (.dup, 1) := by decide +kernel
theorem dX11_takeBack_26 : decode cX11_takeBack 26 = .ok (.getfield 157, 3) := by decide +kernel
theorem dX11_takeBack_29 : decode cX11_takeBack 29 = .ok (.iconst 1, 1) := by decide +kernel
theorem dX11_takeBack_30 : decode cX11_takeBack 30 = .ok (.isub, 1) := by decide +kernel
theorem dX11_takeBack_31 : decode cX11_takeBack 31 = .ok (.putfield 157, 3) := by decide +kernel
theorem dX11_takeBack_34 : decode cX11_takeBack 34 = .ok (.aload_n 0, 1) := by decide +kernel
theorem dX11_takeBack_35 : decode cX11_takeBack 35 = .ok (.getfield 28, 3) := by decide +kernel
theorem dX11_takeBack_38 : decode cX11_takeBack 38 = .ok (.aload_n 0, 1) := by decide +kernel
theorem dX11_takeBack_39 : decode cX11_takeBack 39 = .ok (.getfield 40, 3) := by decide +kernel
theorem dX11_takeBack_42 : decode cX11_takeBack 42 = .ok (.getfield 298, 3) := by decide +kernel
theorem dX11_takeBack_45 : decode cX11_takeBack 45 = .ok (.aload_n 0, 1) := by decide +kernel
theorem dX11_takeBack_46 : decode cX11_takeBack 46 = .ok (.getfield 40, 3) := by decide +kernel
theorem dX11_takeBack_49 : decode cX11_takeBack 49 = .ok (.getfield 157, 3) := by decide +kernel
theorem dX11_takeBack_52 : decode cX11_takeBack 52 = .ok (.invokevirtual 302, 3) := by decide +kernel
theorem dX11_takeBack_55 : decode cX11_takeBack 55 = .ok (.aload_n 0, 1) := by decide +kernel
theorem dX11_takeBack_56 : decode cX11_takeBack 56 = .ok (.getfield 40, 3) := by decide +kernel
theorem dX11_takeBack_59 : decode cX11_takeBack 59 = .ok (.getfield 157, 3) := by decide +kernel
theorem dX11_takeBack_62 : decode cX11_takeBack 62 = .ok (.ireturn, 1) := by decide +kernel
theorem dX11_type_0 : decode cX11_type 0 = .ok (.iconst 0, 1) := by decide +kernel
theorem dX11_type_1 : decode cX11_type 1 = .ok (.istore_n 3, 1) := by decide +kernel
theorem dX11_type_2 : decode cX11_type 2 = .ok (.bipush 56, 2) := by decide +kernel
theorem dX11_type_4 : decode cX11_type 4 = .ok (.istore 4, 2) := by decide +kernel
theorem dX11_type_6 : decode cX11_type 6 = .ok (.iload 4, 2) := by decide +kernel
theorem dX11_type_8 : decode cX11_type 8 = .ok (.ifCond .lt 63, 3) := by decide +kernel
theorem dX11_type_11 : decode cX11_type 11 = .ok (.lload_n 1, 1) := by decide +kernel
theorem dX11_type_12 : decode cX11_type 12 = .ok (.iload 4, 2) := by decide +kernel
theorem dX11_type_14 : decode cX11_type 14 = .ok (.lushr, 1) := by decide +kernel
theorem dX11_type_15 : decode cX11_type 15 = .ok (.ldc2_w 279, 3) := by decide +kernel
theorem dX11_type_18 : decode cX11_type 18 = .ok (.land, 1) := by decide +kernel
theorem dX11_type_19 : decode cX11_type 19 = .ok (.l2i, 1) := by decide +kernel
theorem dX11_type_20 : decode cX11_type 20 = .ok (.istore 5, 2) := by decide +kernel
theorem dX11_type_22 : decode cX11_type 22 = .ok (.iload 5, 2) := by decide +kernel
theorem dX11_type_24 : decode cX11_type 24 = .ok (.ifCond .eq 28, 3) := by decide +kernel
theorem dX11_type_27 : decode cX11_type 27 = .ok (.iload 5, 2) := by decide +kernel
theorem dX11_type_29 : decode cX11_type 29 = .ok (.bipush 32, 2) := by decide +kernel
theorem dX11_type_31 : decode cX11_type 31 = .ok (.if_icmp .lt 10, 3) := by decide +kernel
theorem dX11_type_34 : decode cX11_type 34 = .ok (.iload 5, 2) := by decide +kernel
theorem dX11_type_36 : decode cX11_type 36 = .ok (.bipush 126, 2) := by decide +kernel
theorem dX11_type_38 : decode cX11_type 38 = .ok (.if_icmp .le 14, 3) := by decide +kernel
theorem dX11_type_41 : decode cX11_type 41 = .ok (.new 140, 3) := by decide +kernel
theorem dX11_type_44 : decode cX11_type 44 = .ok (.dup, 1) := by decide +kernel
theorem dX11_type_45 : decode cX11_type 45 = .ok (.ldc_w 315, 3) := by decide +kernel
theorem dX11_type_48 : decode cX11_type 48 = .ok (.invokespecial 144, 3) := by decide +kernel
theorem dX11_type_51 : decode cX11_type 51 = .ok (.athrow, 1) := by decide +kernel
theorem dX11_type_52 : decode cX11_type 52 = .ok (.iload_n 3, 1) := by decide +kernel
theorem dX11_type_53 : decode cX11_type 53 = .ok (.iload 5, 2) := by decide +kernel
theorem dX11_type_55 : decode cX11_type 55 = .ok (.ifCond .ne 7, 3) := by decide +kernel
theorem dX11_type_58 : decode cX11_type 58 = .ok (.iconst 0, 1) := by decide +kernel
theorem dX11_type_59 : decode cX11_type 59 = .ok (.goto 4, 3) := by decide +kernel
theorem dX11_type_62 : decode cX11_type 62 = .ok (.iconst 1, 1) := by decide +kernel
theorem dX11_type_63 : decode cX11_type 63 = .ok (.iadd, 1) := by decide +kernel
theorem dX11_type_64 : decode cX11_type 64 = .ok (.istore_n 3, 1) := by decide +kernel
theorem dX11_type_65 : decode cX11_type 65 = .ok (.iinc 4 (-8), 3) := by decide +kernel
theorem dX11_type_68 : decode cX11_type 68 = .ok (.goto (-62), 3) := by decide +kernel
theorem dX11_type_71 : decode cX11_type 71 = .ok (.aload_n 0, 1) := by decide +kernel
theorem dX11_type_72 : decode cX11_type 72 = .ok (.getfield 105, 3) := by decide +kernel
theorem dX11_type_75 : decode cX11_type 75 = .ok (.invokevirtual 232, 3) := by decide +kernel
theorem dX11_type_78 : decode cX11_type 78 = .ok (.iload_n 3, 1) := by decide +kernel
theorem dX11_type_79 : decode cX11_type 79 = .ok (.iadd, 1) := by decide +kernel
theorem dX11_type_80 : decode cX11_type 80 = .ok (.sipush 500, 3) := by decide +kernel
theorem dX11_type_83 : decode cX11_type 83 = .ok (.if_icmp .le 14, 3) := by decide +kernel
theorem dX11_type_86 : decode cX11_type 86 = .ok (.new 285, 3) := by decide +kernel
theorem dX11_type_89 : decode cX11_type 89 = .ok (.dup, 1) := by decide +kernel
theorem dX11_type_90 : decode cX11_type 90 = .ok (.ldc_w 317, 3) := by decide +kernel
theorem dX11_type_93 : decode cX11_type 93 = .ok (.invokespecial 289, 3) := by decide +kernel
theorem dX11_type_96 : decode cX11_type 96 = .ok (.athrow, 1) := by decide +kernel
theorem dX11_type_97 : decode cX11_type 97 = .ok (.bipush 56, 2) := by decide +kernel
theorem dX11_type_99 : decode cX11_type 99 = .ok (.istore 4, 2) := by decide +kernel
theorem dX11_type_101 : decode cX11_type 101 = .ok (.iload 4, 2) := by decide +kernel
theorem dX11_type_103 : decode cX11_type 103 = .ok (.ifCond .lt 36, 3) := by decide +kernel
theorem dX11_type_106 : decode cX11_type 106 = .ok (.lload_n 1, 1) := by decide +kernel
theorem dX11_type_107 : decode cX11_type 107 = .ok (.iload 4, 2) := by decide +kernel
theorem dX11_type_109 : decode cX11_type 109 = .ok (.lushr, 1) := by decide +kernel
theorem dX11_type_110 : decode cX11_type 110 = .ok (.ldc2_w 279, 3) := by decide +kernel
theorem dX11_type_113 : decode cX11_type 113 = .ok (.land, 1) := by decide +kernel
theorem dX11_type_114 : decode cX11_type 114 = .ok (.l2i, 1) := by decide +kernel
theorem dX11_type_115 : decode cX11_type 115 = .ok (.i2c, 1) := by decide +kernel
theorem dX11_type_116 : decode cX11_type 116 = .ok (.istore 5, 2) := by decide +kernel
theorem dX11_type_118 : decode cX11_type 118 = .ok (.iload 5, 2) := by decide +kernel
theorem dX11_type_120 : decode cX11_type 120 = .ok (.ifCond .eq 13, 3) := by decide +kernel
theorem dX11_type_123 : decode cX11_type 123 = .ok (.aload_n 0, 1) := by decide +kernel
theorem dX11_type_124 : decode cX11_type 124 = .ok (.getfield 105, 3) := by decide +kernel
theorem dX11_type_127 : decode cX11_type 127 = .ok (.iload 5, 2) := by decide +kernel
theorem dX11_type_129 : decode cX11_type 129 = .ok (.invokevirtual 281, 3) := by decide +kernel
theorem dX11_type_132 : decode cX11_type 132 = .ok (.pop, 1) := by decide +kernel
theorem dX11_type_133 : decode cX11_type 133 = .ok (.iinc 4 (-8), 3) := by decide +kernel
theorem dX11_type_136 : decode cX11_type 136 = .ok (.goto (-35), 3) := by decide +kernel
theorem dX11_type_139 : decode cX11_type 139 = .ok (.aload_n 0, 1) := by decide +kernel
theorem dX11_type_140 : decode cX11_type 140 = .ok (.getfield 105, 3) := by decide +kernel
theorem dX11_type_143 : decode cX11_type 143 = .ok (.invokevirtual 232, 3) := by decide +kernel
theorem dX11_type_146 : decode cX11_type 146 = .ok (.ireturn, 1) := by decide +kernel
theorem dX11_variationMoves_0 : decode cX11_variationMoves 0 = .ok (.aload_n 0, 1) := by decide +kernel
theorem dX11_variationMoves_1 : decode cX11_variationMoves 1 = .ok (.getfield 116, 3) := by decide +kernel
theorem dX11_variationMoves_4 : decode cX11_variationMoves 4 = .ok (.ireturn, 1) := by decide +kernel
theorem dX11_writeMove_0 : decode cX11_writeMove 0 = .ok (.aload_n 0, 1) := by decide +kernel
theorem dX11_writeMove_1 : decode cX11_writeMove 1 = .ok (.iload_n 1, 1) := by decide +kernel
theorem dX11_writeMove_2 : decode cX11_writeMove 2 = .ok (.invokevirtual 264, 3) := by decide +kernel
theorem dX11_writeMove_5 : decode cX11_writeMove 5 = .ok (.pop, 1) := by decide +kernel
theorem dX11_writeMove_6 : decode cX11_writeMove 6 = .ok (.aload_n 0, 1) := by decide +kernel
theorem dX11_writeMove_7 : decode cX11_writeMove 7 = .ok (.getfield 49, 3) := by decide +kernel
theorem dX11_writeMove_10 : decode cX11_writeMove 10 = .ok (.iload_n 1, 1) := by decide +kernel
theorem dX11_writeMove_11 : decode cX11_writeMove 11 = .ok (.invokevirtual 276, 3) := by decide +kernel
theorem dX11_writeMove_14 : decode cX11_writeMove 14 = .ok (.lstore_n 2, 1) := by decide +kernel
theorem dX11_writeMove_15 : decode cX11_writeMove 15 = .ok (.aload_n 0, 1) := by decide +kernel
theorem dX11_writeMove_16 : decode cX11_writeMove 16 = .ok (.getfield 109, 3) := by decide +kernel
theorem dX11_writeMove_19 : decode cX11_writeMove 19 = .ok (.iconst 0, 1) := by decide +kernel
theorem dX11_writeMove_20 : decode cX11_writeMove 20 = .ok (.invokevirtual 191, 3) := by decide +kernel
theorem dX11_writeMove_23 : decode cX11_writeMove 23 = .ok (.bipush 56, 2) := by decide +kernel
theorem dX11_writeMove_25 : decode cX11_writeMove 25 = .ok (.istore 4, 2) := by decide +kernel
theorem dX11_writeMove_27 : decode cX11_writeMove 27 = .ok (.iload 4, 2) := by decide +kernel
theorem dX11_writeMove_29 : decode cX11_writeMove 29 = .ok (.ifCond .lt 36, 3) := by decide +kernel
theorem dX11_writeMove_32 : decode cX11_writeMove 32 = .ok (.lload_n 2, 1) := by decide +kernel
theorem dX11_writeMove_33 : decode cX11_writeMove 33 = .ok (.iload 4, 2) := by decide +kernel
theorem dX11_writeMove_35 : decode cX11_writeMove 35 = .ok (.lushr, 1) := by decide +kernel
theorem dX11_writeMove_36 : decode cX11_writeMove 36 = .ok (.ldc2_w 279, 3) := by decide +kernel
theorem dX11_writeMove_39 : decode cX11_writeMove 39 = .ok (.land, 1) := by decide +kernel
theorem dX11_writeMove_40 : decode cX11_writeMove 40 = .ok (.l2i, 1) := by decide +kernel
theorem dX11_writeMove_41 : decode cX11_writeMove 41 = .ok (.i2c, 1) := by decide +kernel
theorem dX11_writeMove_42 : decode cX11_writeMove 42 = .ok (.istore 5, 2) := by decide +kernel
theorem dX11_writeMove_44 : decode cX11_writeMove 44 = .ok (.iload 5, 2) := by decide +kernel
theorem dX11_writeMove_46 : decode cX11_writeMove 46 = .ok (.ifCond .eq 13, 3) := by decide +kernel
theorem dX11_writeMove_49 : decode cX11_writeMove 49 = .ok (.aload_n 0, 1) := by decide +kernel
theorem dX11_writeMove_50 : decode cX11_writeMove 50 = .ok (.getfield 109, 3) := by decide +kernel
theorem dX11_writeMove_53 : decode cX11_writeMove 53 = .ok (.iload 5, 2) := by decide +kernel
theorem dX11_writeMove_55 : decode cX11_writeMove 55 = .ok (.invokevirtual 281, 3) := by decide +kernel
theorem dX11_writeMove_58 : decode cX11_writeMove 58 = .ok (.pop, 1) := by decide +kernel
theorem dX11_writeMove_59 : decode cX11_writeMove 59 = .ok (.iinc 4 (-8), 3) := by decide +kernel
theorem dX11_writeMove_62 : decode cX11_writeMove 62 = .ok (.goto (-35), 3) := by decide +kernel
theorem dX11_writeMove_65 : decode cX11_writeMove 65 = .ok (.aload_n 0, 1) := by decide +kernel
theorem dX11_writeMove_66 : decode cX11_writeMove 66 = .ok (.getfield 109, 3) := by decide +kernel
theorem dX11_writeMove_69 : decode cX11_writeMove 69 = .ok (.invokevirtual 232, 3) := by decide +kernel
theorem dX11_writeMove_72 : decode cX11_writeMove 72 = .ok (.ireturn, 1) := by decide +kernel
theorem dX11_writePaper_0 : decode cX11_writePaper 0 = .ok (.aload_n 0, 1) := by decide +kernel
theorem dX11_writePaper_1 : decode cX11_writePaper 1 = .ok (.getfield 65, 3) := by decide +kernel
theorem dX11_writePaper_4 : decode cX11_writePaper 4 = .ok (.aload_n 0, 1) := by decide +kernel
theorem dX11_writePaper_5 : decode cX11_writePaper 5 = .ok (.getfield 28, 3) := by decide +kernel
theorem dX11_writePaper_8 : decode cX11_writePaper 8 = .ok (.aload_n 0, 1) := by decide +kernel
theorem dX11_writePaper_9 : decode cX11_writePaper 9 = .ok (.getfield 109, 3) := by decide +kernel
theorem dX11_writePaper_12 : decode cX11_writePaper 12 = .ok (.invokevirtual 228, 3) := by decide +kernel
theorem dX11_writePaper_15 : decode cX11_writePaper 15 = .ok (.aload_n 0, 1) := by decide +kernel
theorem dX11_writePaper_16 : decode cX11_writePaper 16 = .ok (.getfield 109, 3) := by decide +kernel
theorem dX11_writePaper_19 : decode cX11_writePaper 19 = .ok (.invokevirtual 232, 3) := by decide +kernel
theorem dX11_writePaper_22 : decode cX11_writePaper 22 = .ok (.ireturn, 1) := by decide +kernel
def wp_X2_reachWin_17 (D : wD) (post : wS → Prop)  (S : wS) : Prop :=
post S
def wp_X2_reachWin_0 (D : wD) (post : wS → Prop)  (S : wS) (a0 : Nat) (x1 : Int32) (x2 : Int32) (x3 : Int32) : Prop :=
wp_X2_valueAt D (fun r_1 S_2 => 
((¬ r_1 = (-1 : Int32) → wp_X2_reachWin_17 D post S_2) ∧
 (r_1 = (-1 : Int32) → wp_X2_win D (fun S_5 => 
wp_X2_reachWin_17 D post S_5) S_2 a0 x1 x2 x3))) S a0 x1 x2
abbrev r_X2_reachWin : Room := { frames := 2, cells := 0, slots := 0, locals := 47 }
def wp_X2_reachWin (D : wD) (post : wS → Prop) (S : wS) (a0 : Nat) (x1 : Int32) (x2 : Int32) (x3 : Int32) : Prop := wp_X2_reachWin_0 D post S a0 x1 x2 x3
set_option maxHeartbeats 4000000 in
set_option maxRecDepth 100000 in
theorem t_X2_reachWin_17 {p : Program} {l : Launch} {e : Env} {s : State} {m : MethodId} {args : Array Value} {below : List Frame} {meth : Method} {c : Code} {D : wD} {cy : Nat → ClassId} {X : va_W} {A : Nat → Prop} {S0 : wS} {post : wS → Prop} (F : CallFix p m c cX2_reachWin 4 s args wz_X2_reachWin RX2) (hr : meth.sig.returnType = none) (hlocks : meth.locks = false) (hK : wK D cy A s) : ∀ {S : wS} {H : Heap} {locs : List Loc} {ls : Array Slot}, wp_X2_reachWin_17 D post S → wO D cy X A s.heap S H locs → wX D S0 S → lv_has ls 4 [] → W p l e r_X2_reachWin s m args below meth c H locs 0 0 (MQ below (va_Qv (fun S9 => wX D S0 S9 ∧ post S9) (wB D cy X A) A) args s 0 0 A) (F0 m 17 ls []) := by
  obtain ⟨hx, hb, hml, hown, hts⟩ := id F
  have hwg : ∀ w ∈ WG, w.before args s = true := fun w h => hts w (List.mem_cons_of_mem _ h)
  intro S H locs ls hp hW hE hl
  unfold wp_X2_reachWin_17 at hp
  exact w_vret hx hb hr hlocks hW ⟨hE, hp⟩ dX2_reachWin_17
set_option maxHeartbeats 4000000 in
set_option maxRecDepth 100000 in
theorem t_X2_reachWin_0 {p : Program} {l : Launch} {e : Env} {s : State} {m : MethodId} {args : Array Value} {below : List Frame} {meth : Method} {c : Code} {D : wD} {cy : Nat → ClassId} {X : va_W} {A : Nat → Prop} {S0 : wS} {post : wS → Prop} (F : CallFix p m c cX2_reachWin 4 s args wz_X2_reachWin RX2) (hr : meth.sig.returnType = none) (hlocks : meth.locks = false) (hK : wK D cy A s) : ∀ {S : wS} {H : Heap} {locs : List Loc} {ls : Array Slot} {a0 : Nat} {x1 : Int32} {x2 : Int32} {x3 : Int32}, wp_X2_reachWin_0 D post S a0 x1 x2 x3 → wO D cy X A s.heap S H locs → wX D S0 S → lv_has ls 4 [(0, .ref a0), (1, .int x1), (2, .int x2), (3, .int x3)] → wM D S a0 → sK S a0 = 7 → W p l e r_X2_reachWin s m args below meth c H locs 0 0 (MQ below (va_Qv (fun S9 => wX D S0 S9 ∧ post S9) (wB D cy X A) A) args s 0 0 A) (F0 m 0 ls []) := by
  obtain ⟨hx, hb, hml, hown, hts⟩ := id F
  have hwg : ∀ w ∈ WG, w.before args s = true := fun w h => hts w (List.mem_cons_of_mem _ h)
  intro S H locs ls a0 x1 x2 x3 hp hW hE hl hL_a0 hK_a0
  unfold wp_X2_reachWin_0 at hp
  refine lv_aload_n hx hb dX2_reachWin_0 rfl (lv_at hl 0 rfl) ?_
  refine lv_iload_n hx hb dX2_reachWin_1 rfl (lv_at hl 1 rfl) ?_
  refine lv_iload_n hx hb dX2_reachWin_2 rfl (lv_at hl 2 rfl) ?_
  refine w_callI (va_runV (As := [.int x1, .int x2]) (rest := []) F (c_X2_valueAt l hL_a0 hK_a0 hp H.size) (cwV (C := RX2) 2 hts (wg_V wm_RX2_100 wy_X2_valueAt) rfl rfl rfl (by decide +kernel) ⟨Nat.le_of_ble_eq_true rfl, Nat.le_of_ble_eq_true rfl⟩) (w_preV hK hW hL_a0 hK_a0 (by decide) rfl) rfl rfl hl.1 rfl (lv_room (Nat.le_of_ble_eq_true rfl)) dX2_reachWin_3 ⟨Nat.le_of_ble_eq_true rfl, Nat.le_of_ble_eq_true rfl⟩) hW (fun r_1 S_2 H locs hp hW => ?_)
  obtain ⟨hX_S_2, hp⟩ := hp
  refine W.widen (k := 0) (n := 0) (by decide) (by decide) ?_
  have hE := hE.trans hX_S_2
  have hK_a0 : sK S_2 a0 = 7 := (hX_S_2.2 a0 hL_a0).1.trans hK_a0
  have hL_a0 : wM D S_2 a0 := hX_S_2.M hL_a0
  refine lv_iconst (v := (-1)) hx hb dX2_reachWin_6 (by decide) ?_
  refine lv_icmp_ne (tgt := 17) hx hb dX2_reachWin_7 (by decide) (fun c_3 => ?_) (fun c_3 => ?_)
  · replace hp := hp.1 c_3
    exact t_X2_reachWin_17 F hr hlocks hK hp hW hE (lv_sub hl [] rfl)
  · replace hp := hp.2 c_3
    refine lv_aload_n hx hb dX2_reachWin_10 rfl (lv_at hl 0 rfl) ?_
    refine lv_iload_n hx hb dX2_reachWin_11 rfl (lv_at hl 1 rfl) ?_
    refine lv_iload_n hx hb dX2_reachWin_12 rfl (lv_at hl 2 rfl) ?_
    refine lv_iload_n hx hb dX2_reachWin_13 rfl (lv_at hl 3 rfl) ?_
    refine w_callV (va_runV (As := [.int x1, .int x2, .int x3]) (rest := []) F (c_X2_win l hL_a0 hK_a0 hp H.size) (cwV (C := RX2) 3 hts (wg_V wm_RX2_146 wy_X2_win) rfl rfl rfl (by decide +kernel) ⟨Nat.le_of_ble_eq_true rfl, Nat.le_of_ble_eq_true rfl⟩) (w_preV hK hW hL_a0 hK_a0 (by decide) rfl) rfl rfl hl.1 rfl (lv_room (Nat.le_of_ble_eq_true rfl)) dX2_reachWin_14 ⟨Nat.le_of_ble_eq_true rfl, Nat.le_of_ble_eq_true rfl⟩) hW (fun S_5 H locs hp hW => ?_)
    obtain ⟨hX_S_5, hp⟩ := hp
    refine W.widen (k := 0) (n := 0) (by decide) (by decide) ?_
    have hE := hE.trans hX_S_5
    have hK_a0 : sK S_5 a0 = 7 := (hX_S_5.2 a0 hL_a0).1.trans hK_a0
    have hL_a0 : wM D S_5 a0 := hX_S_5.M hL_a0
    exact t_X2_reachWin_17 F hr hlocks hK hp hW hE (lv_sub hl [] rfl)
set_option maxHeartbeats 4000000 in
set_option maxRecDepth 100000 in
theorem c_X2_reachWin (l : Launch) {D : wD} {cy : Nat → ClassId} {X : va_W} {S0 : wS} {post : wS → Prop} {a0 : Nat} {x1 : Int32} {x2 : Int32} {x3 : Int32} (hL_a0 : wM D S0 a0) (hK_a0 : sK S0 a0 = 7) (hp : wp_X2_reachWin D post S0 a0 x1 x2 x3) : mV D cy X l yX2_reachWin wz_X2_reachWin r_X2_reachWin [.ref a0, .int x1, .int x2, .int x3] S0 (fun S9 => wX D S0 S9 ∧ post S9) := by
  intro sz
  refine Met.ofW (cc := cX2_reachWin) (maxL := 4) (ret := none) (by decide) rfl ?_
  intro p e s m args below meth c s₁ B hml hv
  obtain ⟨rfl, hsz, hP, hK, hD0, hRO⟩ := hv
  have hts := atoms_spec (ws := wz_X2_reachWin) B.pre
  have hown : s.vm.findClass RX2 = some m.cls := findClass_of_methodNamed B.named
  subst hsz
  have hD := hD0.self (sz := s.heap.size)
  have F : CallFix p m c cX2_reachWin 4 s _ wz_X2_reachWin RX2 := ⟨B.exec, B.bytes, hml, hown, hts⟩
  have hr := B.returns
  have hlocks := B.notSynchronized
  generalize hAe : va_A (wL cy X S0) s.heap.size = A at hD hK ⊢
  have hA : ∀ q, s.heap.size ≤ q → A q := fun q h => by rw [← hAe]; exact Or.inr h
  have hW : wO D cy X A s.heap S0 s.heap [] := ⟨hP, hD, va_S.rf, hA, hRO⟩
  have hl := lv_entry ([.ref a0, .int x1, .int x2, .int x3]) (n := 4) (Nat.le_of_ble_eq_true rfl)
  rw [lg_entry_eq]
  generalize (lg_sl ([.ref a0, .int x1, .int x2, .int x3]) ++ List.replicate (4 - (lg_sl ([.ref a0, .int x1, .int x2, .int x3])).length) Slot.unset).toArray = ls at hl ⊢
  have hl : lv_has ls 4 [(0, .ref a0), (1, .int x1), (2, .int x2), (3, .int x3)] := hl
  unfold wp_X2_reachWin at hp
  exact t_X2_reachWin_0 F hr hlocks hK hp hW wX.rf (lv_sub hl [0, 1, 2, 3] rfl) hL_a0 hK_a0
def wp_X2_stepBack_220 (D : wD) (post : wS → Prop) (k_115 : wS → Nat → Int32 → Int32 → Int32 → Int32 → Int32 → Int32 → Int64 → Int64 → Int64 → Int32 → Prop) (S : wS) (a0 : Nat) (x1 : Int32) (x3 : Int32) (x5 : Int32) (x6 : Int32) (x7 : Int32) (x8 : Int32) (x9 : Int64) (x11 : Int64) (x13 : Int64) (x15 : Int32) : Prop :=
∀ x_1 : Int32, x_1 = x15 + 1 →
k_115 S a0 x1 x3 x5 x6 x7 x8 x9 x11 x13 x_1
def wp_X2_stepBack_189 (D : wD) (post : wS → Prop) (k_115 : wS → Nat → Int32 → Int32 → Int32 → Int32 → Int32 → Int32 → Int64 → Int64 → Int64 → Int32 → Prop) (S : wS) (a0 : Nat) (x1 : Int32) (x3 : Int32) (x5 : Int32) (x6 : Int32) (x7 : Int32) (x8 : Int32) (x9 : Int64) (x11 : Int64) (x13 : Int64) (x15 : Int32) : Prop :=
((¬ x3 = 0 → wp_X2_stepBack_220 D post k_115 S a0 x1 x3 x5 x6 x7 x8 x9 x11 x13 x15) ∧
 (x3 = 0 → wp_X11_contains D (fun r_2 S_3 => 
((r_2 = 0 → wp_X2_stepBack_220 D post k_115 S_3 a0 x1 x3 x5 x6 x7 x8 x9 x11 x13 x15) ∧
 (¬ r_2 = 0 → wp_X2_indexOf D (fun r_5 S_6 => 
wp_X2_reachWin D (fun S_8 => 
wp_X2_stepBack_220 D post k_115 S_8 a0 x1 x3 x5 x6 x7 x8 x9 x11 x13 x15) S_6 a0 x1 r_5 x8) S_3 (1 : Int32) x7 x6 x15))) S x13 x15))
def wp_X2_stepBack_158 (D : wD) (post : wS → Prop) (k_115 : wS → Nat → Int32 → Int32 → Int32 → Int32 → Int32 → Int32 → Int64 → Int64 → Int64 → Int32 → Prop) (S : wS) (a0 : Nat) (x1 : Int32) (x3 : Int32) (x5 : Int32) (x6 : Int32) (x7 : Int32) (x8 : Int32) (x9 : Int64) (x11 : Int64) (x13 : Int64) (x15 : Int32) : Prop :=
((¬ x3 = 0 → wp_X2_stepBack_189 D post k_115 S a0 x1 x3 x5 x6 x7 x8 x9 x11 x13 x15) ∧
 (x3 = 0 → wp_X11_contains D (fun r_2 S_3 => 
((r_2 = 0 → wp_X2_stepBack_189 D post k_115 S_3 a0 x1 x3 x5 x6 x7 x8 x9 x11 x13 x15) ∧
 (¬ r_2 = 0 → wp_X2_indexOf D (fun r_5 S_6 => 
wp_X2_reachWin D (fun S_8 => 
wp_X2_stepBack_189 D post k_115 S_8 a0 x1 x3 x5 x6 x7 x8 x9 x11 x13 x15) S_6 a0 x1 r_5 x8) S_3 (1 : Int32) x15 x6 x5))) S x9 x15))
def wp_X2_stepBack_115 (D : wD) (post : wS → Prop)  : Nat → wS → Nat → Int32 → Int32 → Int32 → Int32 → Int32 → Int32 → Int64 → Int64 → Int64 → Int32 → Prop
  | 0, _, _, _, _, _, _, _, _, _, _, _, _ => False
  | n + 1, S, a0, x1, x3, x5, x6, x7, x8, x9, x11, x13, x15 =>
    ∃ y_1 : Nat, sR S a0 0 = some y_1 ∧ wM D S y_1 ∧ sK S y_1 = 5 ∧
    (((sI S y_1 2) ≤ x15 → post S) ∧
     (¬ (sI S y_1 2) ≤ x15 → ((x3 = 0 → wp_X2_stepBack_158 D post (wp_X2_stepBack_115 D post n) S a0 x1 x3 x5 x6 x7 x8 x9 x11 x13 x15) ∧
     (¬ x3 = 0 → wp_X11_contains D (fun r_4 S_5 => 
    ((r_4 = 0 → wp_X2_stepBack_158 D post (wp_X2_stepBack_115 D post n) S_5 a0 x1 x3 x5 x6 x7 x8 x9 x11 x13 x15) ∧
     (¬ r_4 = 0 → wp_X2_indexOf D (fun r_7 S_8 => 
    wp_X2_loseMove D (fun S_10 => 
    wp_X2_stepBack_158 D post (wp_X2_stepBack_115 D post n) S_10 a0 x1 x3 x5 x6 x7 x8 x9 x11 x13 x15) S_8 a0 x1 r_7 x8) S_5 (0 : Int32) x7 x15 x5))) S x11 x15))))
def wp_X2_stepBack_26 (D : wD) (post : wS → Prop)  (S : wS) (a0 : Nat) (x1 : Int32) (x2 : Int32) (x3 : Int32) (t0 : Int32) : Prop :=
¬ (25 : Int32) = 0 ∧
∀ x_2 : Int32, x_2 = (t0 - t0 / (25 : Int32) * (25 : Int32)) →
¬ (25 : Int32) = 0 ∧
¬ (25 : Int32) = 0 ∧
∀ x_5 : Int32, x_5 = ((t0 / (25 : Int32)) - (t0 / (25 : Int32)) / (25 : Int32) * (25 : Int32)) →
¬ (25 : Int32) = 0 ∧
¬ (25 : Int32) = 0 ∧
∀ x_8 : Int32, x_8 = ((t0 / (25 : Int32)) / (25 : Int32)) →
wp_X2_valueAt D (fun r_9 S_10 => 
∀ x_11 : Int32, x_11 = (r_9 + (1 : Int32)) →
∃ y_12 : Nat, sR S_10 a0 0 = some y_12 ∧ wM D S_10 y_12 ∧ sK S_10 y_12 = 5 ∧
wp_X0_reach D (fun r_13 S_14 => 
∃ y_15 : Nat, sR S_14 a0 0 = some y_15 ∧ wM D S_14 y_15 ∧ sK S_14 y_15 = 5 ∧
wp_X0_reach D (fun r_16 S_17 => 
∃ y_18 : Nat, sR S_17 a0 0 = some y_18 ∧ wM D S_17 y_18 ∧ sK S_17 y_18 = 5 ∧
wp_X0_reach D (fun r_19 S_20 => 
∃ n_21 : Nat, wp_X2_stepBack_115 D post n_21 S_20 a0 x1 x3 x_2 x_5 x_8 x_11 r_13 r_16 r_19 (0 : Int32)) S_17 y_18 x1 x_2 ((jlshl (1 : Int64) x_8) ||| (jlshl (1 : Int64) x_5))) S_14 y_15 (1 : Int32) x_5 (0 : Int64)) S_10 y_12 (1 : Int32) x_8 (0 : Int64)) S a0 x1 x2
def wp_X2_stepBack_12 (D : wD) (post : wS → Prop)  (S : wS) (a0 : Nat) (x1 : Int32) (x2 : Int32) (t0 : Int32) : Prop :=
((t0 = 0 → wp_X2_stepBack_26 D post S a0 x1 x2 t0 x2) ∧
 (¬ t0 = 0 → wp_X2_stepBack_26 D post S a0 x1 x2 t0 (x2 - (15625 : Int32))))
def wp_X2_stepBack_0 (D : wD) (post : wS → Prop)  (S : wS) (a0 : Nat) (x1 : Int32) (x2 : Int32) : Prop :=
((x2 < (15625 : Int32) → wp_X2_stepBack_12 D post S a0 x1 x2 (0 : Int32)) ∧
 (¬ x2 < (15625 : Int32) → wp_X2_stepBack_12 D post S a0 x1 x2 (1 : Int32)))
abbrev r_X2_stepBack : Room := { frames := 3, cells := 0, slots := 0, locals := 70 }
def wp_X2_stepBack (D : wD) (post : wS → Prop) (S : wS) (a0 : Nat) (x1 : Int32) (x2 : Int32) : Prop := wp_X2_stepBack_0 D post S a0 x1 x2
set_option maxHeartbeats 4000000 in
set_option maxRecDepth 100000 in
theorem t_X2_stepBack_220 {p : Program} {l : Launch} {e : Env} {s : State} {m : MethodId} {args : Array Value} {below : List Frame} {meth : Method} {c : Code} {D : wD} {cy : Nat → ClassId} {X : va_W} {A : Nat → Prop} {S0 : wS} {post : wS → Prop} (F : CallFix p m c cX2_stepBack 16 s args wz_X2_stepBack RX2) (hr : meth.sig.returnType = none) (hlocks : meth.locks = false) (hK : wK D cy A s) {k_115 : wS → Nat → Int32 → Int32 → Int32 → Int32 → Int32 → Int32 → Int64 → Int64 → Int64 → Int32 → Prop} (q_115 : ∀ {S : wS} {H : Heap} {locs : List Loc} {ls : Array Slot} {a0 : Nat} {x1 : Int32} {x3 : Int32} {x5 : Int32} {x6 : Int32} {x7 : Int32} {x8 : Int32} {x9 : Int64} {x11 : Int64} {x13 : Int64} {x15 : Int32}, k_115 S a0 x1 x3 x5 x6 x7 x8 x9 x11 x13 x15 → wO D cy X A s.heap S H locs → wX D S0 S → lv_has ls 16 [(0, .ref a0), (1, .int x1), (3, .int x3), (5, .int x5), (6, .int x6), (7, .int x7), (8, .int x8), (9, .long x9), (11, .long x11), (13, .long x13), (15, .int x15)] → wM D S a0 → sK S a0 = 7 → W p l e r_X2_stepBack s m args below meth c H locs 0 0 (MQ below (va_Qv (fun S9 => wX D S0 S9 ∧ post S9) (wB D cy X A) A) args s 0 0 A) (F0 m 115 ls [])) : ∀ {S : wS} {H : Heap} {locs : List Loc} {ls : Array Slot} {a0 : Nat} {x1 : Int32} {x3 : Int32} {x5 : Int32} {x6 : Int32} {x7 : Int32} {x8 : Int32} {x9 : Int64} {x11 : Int64} {x13 : Int64} {x15 : Int32}, wp_X2_stepBack_220 D post k_115 S a0 x1 x3 x5 x6 x7 x8 x9 x11 x13 x15 → wO D cy X A s.heap S H locs → wX D S0 S → lv_has ls 16 [(0, .ref a0), (1, .int x1), (3, .int x3), (5, .int x5), (6, .int x6), (7, .int x7), (8, .int x8), (9, .long x9), (11, .long x11), (13, .long x13), (15, .int x15)] → wM D S a0 → sK S a0 = 7 → W p l e r_X2_stepBack s m args below meth c H locs 0 0 (MQ below (va_Qv (fun S9 => wX D S0 S9 ∧ post S9) (wB D cy X A) A) args s 0 0 A) (F0 m 220 ls []) := by
  obtain ⟨hx, hb, hml, hown, hts⟩ := id F
  have hwg : ∀ w ∈ WG, w.before args s = true := fun w h => hts w (List.mem_cons_of_mem _ h)
  intro S H locs ls a0 x1 x3 x5 x6 x7 x8 x9 x11 x13 x15 hp hW hE hl hL_a0 hK_a0
  unfold wp_X2_stepBack_220 at hp
  obtain ⟨x_1, ex_1⟩ : ∃ z : Int32, z = x15 + 1 := ⟨_, rfl⟩
  replace hp := hp x_1 ex_1
  refine lv_iinc (v := x_1) (lv' := [(15, .int x_1), (0, .ref a0), (1, .int x1), (3, .int x3), (5, .int x5), (6, .int x6), (7, .int x7), (8, .int x8), (9, .long x9), (11, .long x11), (13, .long x13)]) hx hb dX2_stepBack_220 hl (k := 10) rfl (by rw [ex_1]; rfl) (by decide) rfl (fun ls hl => ?_)
  refine lv_goto (tgt := 115) hx hb dX2_stepBack_223 (by decide) ?_
  exact q_115 hp hW hE (lv_sub hl [1, 2, 3, 4, 5, 6, 7, 8, 9, 10, 0] rfl) hL_a0 hK_a0
set_option maxHeartbeats 4000000 in
set_option maxRecDepth 100000 in
theorem t_X2_stepBack_189 {p : Program} {l : Launch} {e : Env} {s : State} {m : MethodId} {args : Array Value} {below : List Frame} {meth : Method} {c : Code} {D : wD} {cy : Nat → ClassId} {X : va_W} {A : Nat → Prop} {S0 : wS} {post : wS → Prop} (F : CallFix p m c cX2_stepBack 16 s args wz_X2_stepBack RX2) (hr : meth.sig.returnType = none) (hlocks : meth.locks = false) (hK : wK D cy A s) {k_115 : wS → Nat → Int32 → Int32 → Int32 → Int32 → Int32 → Int32 → Int64 → Int64 → Int64 → Int32 → Prop} (q_115 : ∀ {S : wS} {H : Heap} {locs : List Loc} {ls : Array Slot} {a0 : Nat} {x1 : Int32} {x3 : Int32} {x5 : Int32} {x6 : Int32} {x7 : Int32} {x8 : Int32} {x9 : Int64} {x11 : Int64} {x13 : Int64} {x15 : Int32}, k_115 S a0 x1 x3 x5 x6 x7 x8 x9 x11 x13 x15 → wO D cy X A s.heap S H locs → wX D S0 S → lv_has ls 16 [(0, .ref a0), (1, .int x1), (3, .int x3), (5, .int x5), (6, .int x6), (7, .int x7), (8, .int x8), (9, .long x9), (11, .long x11), (13, .long x13), (15, .int x15)] → wM D S a0 → sK S a0 = 7 → W p l e r_X2_stepBack s m args below meth c H locs 0 0 (MQ below (va_Qv (fun S9 => wX D S0 S9 ∧ post S9) (wB D cy X A) A) args s 0 0 A) (F0 m 115 ls [])) : ∀ {S : wS} {H : Heap} {locs : List Loc} {ls : Array Slot} {a0 : Nat} {x1 : Int32} {x3 : Int32} {x5 : Int32} {x6 : Int32} {x7 : Int32} {x8 : Int32} {x9 : Int64} {x11 : Int64} {x13 : Int64} {x15 : Int32}, wp_X2_stepBack_189 D post k_115 S a0 x1 x3 x5 x6 x7 x8 x9 x11 x13 x15 → wO D cy X A s.heap S H locs → wX D S0 S → lv_has ls 16 [(0, .ref a0), (1, .int x1), (3, .int x3), (5, .int x5), (6, .int x6), (7, .int x7), (8, .int x8), (9, .long x9), (11, .long x11), (13, .long x13), (15, .int x15)] → wM D S a0 → sK S a0 = 7 → W p l e r_X2_stepBack s m args below meth c H locs 0 0 (MQ below (va_Qv (fun S9 => wX D S0 S9 ∧ post S9) (wB D cy X A) A) args s 0 0 A) (F0 m 189 ls []) := by
  obtain ⟨hx, hb, hml, hown, hts⟩ := id F
  have hwg : ∀ w ∈ WG, w.before args s = true := fun w h => hts w (List.mem_cons_of_mem _ h)
  intro S H locs ls a0 x1 x3 x5 x6 x7 x8 x9 x11 x13 x15 hp hW hE hl hL_a0 hK_a0
  unfold wp_X2_stepBack_189 at hp
  refine lv_iload_n hx hb dX2_stepBack_189 rfl (lv_at hl 2 rfl) ?_
  refine lv_if_ne (tgt := 220) hx hb dX2_stepBack_190 (by decide) (fun c_1 => ?_) (fun c_1 => ?_)
  · replace hp := hp.1 c_1
    exact t_X2_stepBack_220 F hr hlocks hK q_115 hp hW hE (lv_sub hl [0, 1, 2, 3, 4, 5, 6, 7, 8, 9, 10] rfl) hL_a0 hK_a0
  · replace hp := hp.2 c_1
    refine lv_lload hx hb dX2_stepBack_193 (lv_at hl 9 rfl) ?_
    refine lv_iload hx hb dX2_stepBack_195 (lv_at hl 10 rfl) ?_
    refine w_callI (va_runSN (As := [.long x13, .int x15]) (rest := []) F (c_X11_contains l hp H.size) ⟨va_cnB (host := "OpeningsCabinet") 2 hts (wg_cons wy_X11_contains.2.2) rfl rfl rfl (hK.2.1 (.methodLinkNest "OpeningsCabinet$Endings" 134 ⟨"OpeningsCabinet", "contains", "(JI)Z"⟩ "OpeningsCabinet") (by decide +kernel)) (hwg _ wy_X11_contains.2.1) ⟨by decide, by decide, by decide +kernel⟩ ⟨Nat.le_of_ble_eq_true rfl, Nat.le_of_ble_eq_true rfl⟩, hwg _ wy_X11_contains.1, trivial⟩ (w_preS hK hW) rfl rfl hl.1 rfl (lv_room (Nat.le_of_ble_eq_true rfl)) dX2_stepBack_197 ⟨Nat.le_of_ble_eq_true rfl, Nat.le_of_ble_eq_true rfl⟩) hW (fun r_2 S_3 H locs hp hW => ?_)
    obtain ⟨hX_S_3, hp⟩ := hp
    refine W.widen (k := 0) (n := 0) (by decide) (by decide) ?_
    have hE := hE.trans hX_S_3
    have hK_a0 : sK S_3 a0 = 7 := (hX_S_3.2 a0 hL_a0).1.trans hK_a0
    have hL_a0 : wM D S_3 a0 := hX_S_3.M hL_a0
    refine lv_if_eq (tgt := 220) hx hb dX2_stepBack_200 (by decide) (fun c_4 => ?_) (fun c_4 => ?_)
    · replace hp := hp.1 c_4
      exact t_X2_stepBack_220 F hr hlocks hK q_115 hp hW hE (lv_sub hl [0, 1, 2, 3, 4, 5, 6, 7, 8, 9, 10] rfl) hL_a0 hK_a0
    · replace hp := hp.2 c_4
      refine lv_aload_n hx hb dX2_stepBack_203 rfl (lv_at hl 0 rfl) ?_
      refine lv_iload_n hx hb dX2_stepBack_204 rfl (lv_at hl 1 rfl) ?_
      refine lv_iconst (v := 1) hx hb dX2_stepBack_205 (by decide) ?_
      refine lv_iload hx hb dX2_stepBack_206 (lv_at hl 5 rfl) ?_
      refine lv_iload hx hb dX2_stepBack_208 (lv_at hl 4 rfl) ?_
      refine lv_iload hx hb dX2_stepBack_210 (lv_at hl 10 rfl) ?_
      refine w_callI (va_runS (As := [.int (1 : Int32), .int x7, .int x6, .int x15]) (rest := [.int x1, .ref a0]) F (c_X2_indexOf l hp H.size) (va_cwS 4 hts (wg_S wm_RX2_96 wy_X2_indexOf) rfl rfl rfl (by decide +kernel) ⟨Nat.le_of_ble_eq_true rfl, Nat.le_of_ble_eq_true rfl⟩) (w_preS hK hW) rfl rfl hl.1 rfl (lv_room (Nat.le_of_ble_eq_true rfl)) dX2_stepBack_212 ⟨Nat.le_of_ble_eq_true rfl, Nat.le_of_ble_eq_true rfl⟩) hW (fun r_5 S_6 H locs hp hW => ?_)
      obtain ⟨hX_S_6, hp⟩ := hp
      refine W.widen (k := 0) (n := 0) (by decide) (by decide) ?_
      have hE := hE.trans hX_S_6
      have hK_a0 : sK S_6 a0 = 7 := (hX_S_6.2 a0 hL_a0).1.trans hK_a0
      have hL_a0 : wM D S_6 a0 := hX_S_6.M hL_a0
      refine lv_iload hx hb dX2_stepBack_215 (lv_at hl 6 rfl) ?_
      refine w_callV (va_runV (As := [.int x1, .int r_5, .int x8]) (rest := []) F (c_X2_reachWin l hL_a0 hK_a0 hp H.size) (cwV (C := RX2) 3 hts (wg_V wm_RX2_152 wy_X2_reachWin) rfl rfl rfl (by decide +kernel) ⟨Nat.le_of_ble_eq_true rfl, Nat.le_of_ble_eq_true rfl⟩) (w_preV hK hW hL_a0 hK_a0 (by decide) rfl) rfl rfl hl.1 rfl (lv_room (Nat.le_of_ble_eq_true rfl)) dX2_stepBack_217 ⟨Nat.le_of_ble_eq_true rfl, Nat.le_of_ble_eq_true rfl⟩) hW (fun S_8 H locs hp hW => ?_)
      obtain ⟨hX_S_8, hp⟩ := hp
      refine W.widen (k := 0) (n := 0) (by decide) (by decide) ?_
      have hE := hE.trans hX_S_8
      have hK_a0 : sK S_8 a0 = 7 := (hX_S_8.2 a0 hL_a0).1.trans hK_a0
      have hL_a0 : wM D S_8 a0 := hX_S_8.M hL_a0
      exact t_X2_stepBack_220 F hr hlocks hK q_115 hp hW hE (lv_sub hl [0, 1, 2, 3, 4, 5, 6, 7, 8, 9, 10] rfl) hL_a0 hK_a0
set_option maxHeartbeats 4000000 in
set_option maxRecDepth 100000 in
theorem t_X2_stepBack_158 {p : Program} {l : Launch} {e : Env} {s : State} {m : MethodId} {args : Array Value} {below : List Frame} {meth : Method} {c : Code} {D : wD} {cy : Nat → ClassId} {X : va_W} {A : Nat → Prop} {S0 : wS} {post : wS → Prop} (F : CallFix p m c cX2_stepBack 16 s args wz_X2_stepBack RX2) (hr : meth.sig.returnType = none) (hlocks : meth.locks = false) (hK : wK D cy A s) {k_115 : wS → Nat → Int32 → Int32 → Int32 → Int32 → Int32 → Int32 → Int64 → Int64 → Int64 → Int32 → Prop} (q_115 : ∀ {S : wS} {H : Heap} {locs : List Loc} {ls : Array Slot} {a0 : Nat} {x1 : Int32} {x3 : Int32} {x5 : Int32} {x6 : Int32} {x7 : Int32} {x8 : Int32} {x9 : Int64} {x11 : Int64} {x13 : Int64} {x15 : Int32}, k_115 S a0 x1 x3 x5 x6 x7 x8 x9 x11 x13 x15 → wO D cy X A s.heap S H locs → wX D S0 S → lv_has ls 16 [(0, .ref a0), (1, .int x1), (3, .int x3), (5, .int x5), (6, .int x6), (7, .int x7), (8, .int x8), (9, .long x9), (11, .long x11), (13, .long x13), (15, .int x15)] → wM D S a0 → sK S a0 = 7 → W p l e r_X2_stepBack s m args below meth c H locs 0 0 (MQ below (va_Qv (fun S9 => wX D S0 S9 ∧ post S9) (wB D cy X A) A) args s 0 0 A) (F0 m 115 ls [])) : ∀ {S : wS} {H : Heap} {locs : List Loc} {ls : Array Slot} {a0 : Nat} {x1 : Int32} {x3 : Int32} {x5 : Int32} {x6 : Int32} {x7 : Int32} {x8 : Int32} {x9 : Int64} {x11 : Int64} {x13 : Int64} {x15 : Int32}, wp_X2_stepBack_158 D post k_115 S a0 x1 x3 x5 x6 x7 x8 x9 x11 x13 x15 → wO D cy X A s.heap S H locs → wX D S0 S → lv_has ls 16 [(0, .ref a0), (1, .int x1), (3, .int x3), (5, .int x5), (6, .int x6), (7, .int x7), (8, .int x8), (9, .long x9), (11, .long x11), (13, .long x13), (15, .int x15)] → wM D S a0 → sK S a0 = 7 → W p l e r_X2_stepBack s m args below meth c H locs 0 0 (MQ below (va_Qv (fun S9 => wX D S0 S9 ∧ post S9) (wB D cy X A) A) args s 0 0 A) (F0 m 158 ls []) := by
  obtain ⟨hx, hb, hml, hown, hts⟩ := id F
  have hwg : ∀ w ∈ WG, w.before args s = true := fun w h => hts w (List.mem_cons_of_mem _ h)
  intro S H locs ls a0 x1 x3 x5 x6 x7 x8 x9 x11 x13 x15 hp hW hE hl hL_a0 hK_a0
  unfold wp_X2_stepBack_158 at hp
  refine lv_iload_n hx hb dX2_stepBack_158 rfl (lv_at hl 2 rfl) ?_
  refine lv_if_ne (tgt := 189) hx hb dX2_stepBack_159 (by decide) (fun c_1 => ?_) (fun c_1 => ?_)
  · replace hp := hp.1 c_1
    exact t_X2_stepBack_189 F hr hlocks hK q_115 hp hW hE (lv_sub hl [0, 1, 2, 3, 4, 5, 6, 7, 8, 9, 10] rfl) hL_a0 hK_a0
  · replace hp := hp.2 c_1
    refine lv_lload hx hb dX2_stepBack_162 (lv_at hl 7 rfl) ?_
    refine lv_iload hx hb dX2_stepBack_164 (lv_at hl 10 rfl) ?_
    refine w_callI (va_runSN (As := [.long x9, .int x15]) (rest := []) F (c_X11_contains l hp H.size) ⟨va_cnB (host := "OpeningsCabinet") 2 hts (wg_cons wy_X11_contains.2.2) rfl rfl rfl (hK.2.1 (.methodLinkNest "OpeningsCabinet$Endings" 134 ⟨"OpeningsCabinet", "contains", "(JI)Z"⟩ "OpeningsCabinet") (by decide +kernel)) (hwg _ wy_X11_contains.2.1) ⟨by decide, by decide, by decide +kernel⟩ ⟨Nat.le_of_ble_eq_true rfl, Nat.le_of_ble_eq_true rfl⟩, hwg _ wy_X11_contains.1, trivial⟩ (w_preS hK hW) rfl rfl hl.1 rfl (lv_room (Nat.le_of_ble_eq_true rfl)) dX2_stepBack_166 ⟨Nat.le_of_ble_eq_true rfl, Nat.le_of_ble_eq_true rfl⟩) hW (fun r_2 S_3 H locs hp hW => ?_)
    obtain ⟨hX_S_3, hp⟩ := hp
    refine W.widen (k := 0) (n := 0) (by decide) (by decide) ?_
    have hE := hE.trans hX_S_3
    have hK_a0 : sK S_3 a0 = 7 := (hX_S_3.2 a0 hL_a0).1.trans hK_a0
    have hL_a0 : wM D S_3 a0 := hX_S_3.M hL_a0
    refine lv_if_eq (tgt := 189) hx hb dX2_stepBack_169 (by decide) (fun c_4 => ?_) (fun c_4 => ?_)
    · replace hp := hp.1 c_4
      exact t_X2_stepBack_189 F hr hlocks hK q_115 hp hW hE (lv_sub hl [0, 1, 2, 3, 4, 5, 6, 7, 8, 9, 10] rfl) hL_a0 hK_a0
    · replace hp := hp.2 c_4
      refine lv_aload_n hx hb dX2_stepBack_172 rfl (lv_at hl 0 rfl) ?_
      refine lv_iload_n hx hb dX2_stepBack_173 rfl (lv_at hl 1 rfl) ?_
      refine lv_iconst (v := 1) hx hb dX2_stepBack_174 (by decide) ?_
      refine lv_iload hx hb dX2_stepBack_175 (lv_at hl 10 rfl) ?_
      refine lv_iload hx hb dX2_stepBack_177 (lv_at hl 4 rfl) ?_
      refine lv_iload hx hb dX2_stepBack_179 (lv_at hl 3 rfl) ?_
      refine w_callI (va_runS (As := [.int (1 : Int32), .int x15, .int x6, .int x5]) (rest := [.int x1, .ref a0]) F (c_X2_indexOf l hp H.size) (va_cwS 4 hts (wg_S wm_RX2_96 wy_X2_indexOf) rfl rfl rfl (by decide +kernel) ⟨Nat.le_of_ble_eq_true rfl, Nat.le_of_ble_eq_true rfl⟩) (w_preS hK hW) rfl rfl hl.1 rfl (lv_room (Nat.le_of_ble_eq_true rfl)) dX2_stepBack_181 ⟨Nat.le_of_ble_eq_true rfl, Nat.le_of_ble_eq_true rfl⟩) hW (fun r_5 S_6 H locs hp hW => ?_)
      obtain ⟨hX_S_6, hp⟩ := hp
      refine W.widen (k := 0) (n := 0) (by decide) (by decide) ?_
      have hE := hE.trans hX_S_6
      have hK_a0 : sK S_6 a0 = 7 := (hX_S_6.2 a0 hL_a0).1.trans hK_a0
      have hL_a0 : wM D S_6 a0 := hX_S_6.M hL_a0
      refine lv_iload hx hb dX2_stepBack_184 (lv_at hl 6 rfl) ?_
      refine w_callV (va_runV (As := [.int x1, .int r_5, .int x8]) (rest := []) F (c_X2_reachWin l hL_a0 hK_a0 hp H.size) (cwV (C := RX2) 3 hts (wg_V wm_RX2_152 wy_X2_reachWin) rfl rfl rfl (by decide +kernel) ⟨Nat.le_of_ble_eq_true rfl, Nat.le_of_ble_eq_true rfl⟩) (w_preV hK hW hL_a0 hK_a0 (by decide) rfl) rfl rfl hl.1 rfl (lv_room (Nat.le_of_ble_eq_true rfl)) dX2_stepBack_186 ⟨Nat.le_of_ble_eq_true rfl, Nat.le_of_ble_eq_true rfl⟩) hW (fun S_8 H locs hp hW => ?_)
      obtain ⟨hX_S_8, hp⟩ := hp
      refine W.widen (k := 0) (n := 0) (by decide) (by decide) ?_
      have hE := hE.trans hX_S_8
      have hK_a0 : sK S_8 a0 = 7 := (hX_S_8.2 a0 hL_a0).1.trans hK_a0
      have hL_a0 : wM D S_8 a0 := hX_S_8.M hL_a0
      exact t_X2_stepBack_189 F hr hlocks hK q_115 hp hW hE (lv_sub hl [0, 1, 2, 3, 4, 5, 6, 7, 8, 9, 10] rfl) hL_a0 hK_a0
set_option maxHeartbeats 4000000 in
set_option maxRecDepth 100000 in
theorem t_X2_stepBack_115 {p : Program} {l : Launch} {e : Env} {s : State} {m : MethodId} {args : Array Value} {below : List Frame} {meth : Method} {c : Code} {D : wD} {cy : Nat → ClassId} {X : va_W} {A : Nat → Prop} {S0 : wS} {post : wS → Prop} (F : CallFix p m c cX2_stepBack 16 s args wz_X2_stepBack RX2) (hr : meth.sig.returnType = none) (hlocks : meth.locks = false) (hK : wK D cy A s) : ∀ (n : Nat) {S : wS} {H : Heap} {locs : List Loc} {ls : Array Slot} {a0 : Nat} {x1 : Int32} {x3 : Int32} {x5 : Int32} {x6 : Int32} {x7 : Int32} {x8 : Int32} {x9 : Int64} {x11 : Int64} {x13 : Int64} {x15 : Int32}, wp_X2_stepBack_115 D post n S a0 x1 x3 x5 x6 x7 x8 x9 x11 x13 x15 → wO D cy X A s.heap S H locs → wX D S0 S → lv_has ls 16 [(0, .ref a0), (1, .int x1), (3, .int x3), (5, .int x5), (6, .int x6), (7, .int x7), (8, .int x8), (9, .long x9), (11, .long x11), (13, .long x13), (15, .int x15)] → wM D S a0 → sK S a0 = 7 → W p l e r_X2_stepBack s m args below meth c H locs 0 0 (MQ below (va_Qv (fun S9 => wX D S0 S9 ∧ post S9) (wB D cy X A) A) args s 0 0 A) (F0 m 115 ls []) := by
  obtain ⟨hx, hb, hml, hown, hts⟩ := id F
  have hwg : ∀ w ∈ WG, w.before args s = true := fun w h => hts w (List.mem_cons_of_mem _ h)
  have i_5 : ∀ w ∈ u_ws RX0 TX0 12, w ∈ wz_X2_stepBack := fun w h => List.mem_cons_of_mem _ (wu_5 w h)
  have i_7 : ∀ w ∈ u_ws RX2 TX2 8, w ∈ wz_X2_stepBack := fun w h => List.mem_cons_of_mem _ (wu_7 w h)
  have k_35 := hwg _ wf_RX2_35
  intro n
  induction n with
  | zero =>
    intro S H locs ls a0 x1 x3 x5 x6 x7 x8 x9 x11 x13 x15 hp
    exact hp.elim
  | succ n ih =>
    intro S H locs ls a0 x1 x3 x5 x6 x7 x8 x9 x11 x13 x15 hp hW hE hl hL_a0 hK_a0
    unfold wp_X2_stepBack_115 at hp
    refine lv_iload hx hb dX2_stepBack_115 (lv_at hl 10 rfl) ?_
    refine lv_aload_n hx hb dX2_stepBack_117 rfl (lv_at hl 0 rfl) ?_
    obtain ⟨y_1, ey_1, hL_y_1, hK_y_1, hp⟩ := hp
    refine w_get (k := 7) (f := 0) (T := TX2) (v := .ref y_1) F hK hW hL_a0 hK_a0 (by decide) rfl rfl (by decide) i_7 k_35 (by rw [show wv 7 0 S a0 = va_rf (sR S a0 0) from rfl, ey_1]; rfl) dX2_stepBack_118 ?_
    refine w_getN (k := 5) (f := 2) (T := TX0) (v := .int (sI S y_1 2)) F hK hW hL_y_1 hK_y_1 (by decide) rfl rfl (by decide) i_5 (hK.2.1 (.fieldLinkNest "OpeningsCabinet$Endings" 104 "OpeningsCabinet$Board" "size" "I" "OpeningsCabinet") (by decide +kernel)) rfl dX2_stepBack_121 ?_
    refine lv_icmp_ge (tgt := 226) hx hb dX2_stepBack_124 (by decide) (fun c_2 => ?_) (fun c_2 => ?_)
    · replace hp := hp.1 c_2
      exact w_vret hx hb hr hlocks hW ⟨hE, hp⟩ dX2_stepBack_226
    · replace hp := hp.2 c_2
      refine lv_iload_n hx hb dX2_stepBack_127 rfl (lv_at hl 2 rfl) ?_
      refine lv_if_eq (tgt := 158) hx hb dX2_stepBack_128 (by decide) (fun c_3 => ?_) (fun c_3 => ?_)
      · replace hp := hp.1 c_3
        exact t_X2_stepBack_158 F hr hlocks hK ih hp hW hE (lv_sub hl [0, 1, 2, 3, 4, 5, 6, 7, 8, 9, 10] rfl) hL_a0 hK_a0
      · replace hp := hp.2 c_3
        refine lv_lload hx hb dX2_stepBack_131 (lv_at hl 8 rfl) ?_
        refine lv_iload hx hb dX2_stepBack_133 (lv_at hl 10 rfl) ?_
        refine w_callI (va_runSN (As := [.long x11, .int x15]) (rest := []) F (c_X11_contains l hp H.size) ⟨va_cnB (host := "OpeningsCabinet") 2 hts (wg_cons wy_X11_contains.2.2) rfl rfl rfl (hK.2.1 (.methodLinkNest "OpeningsCabinet$Endings" 134 ⟨"OpeningsCabinet", "contains", "(JI)Z"⟩ "OpeningsCabinet") (by decide +kernel)) (hwg _ wy_X11_contains.2.1) ⟨by decide, by decide, by decide +kernel⟩ ⟨Nat.le_of_ble_eq_true rfl, Nat.le_of_ble_eq_true rfl⟩, hwg _ wy_X11_contains.1, trivial⟩ (w_preS hK hW) rfl rfl hl.1 rfl (lv_room (Nat.le_of_ble_eq_true rfl)) dX2_stepBack_135 ⟨Nat.le_of_ble_eq_true rfl, Nat.le_of_ble_eq_true rfl⟩) hW (fun r_4 S_5 H locs hp hW => ?_)
        obtain ⟨hX_S_5, hp⟩ := hp
        refine W.widen (k := 0) (n := 0) (by decide) (by decide) ?_
        have hE := hE.trans hX_S_5
        have hK_a0 : sK S_5 a0 = 7 := (hX_S_5.2 a0 hL_a0).1.trans hK_a0
        have hL_a0 : wM D S_5 a0 := hX_S_5.M hL_a0
        refine lv_if_eq (tgt := 158) hx hb dX2_stepBack_138 (by decide) (fun c_6 => ?_) (fun c_6 => ?_)
        · replace hp := hp.1 c_6
          exact t_X2_stepBack_158 F hr hlocks hK ih hp hW hE (lv_sub hl [0, 1, 2, 3, 4, 5, 6, 7, 8, 9, 10] rfl) hL_a0 hK_a0
        · replace hp := hp.2 c_6
          refine lv_aload_n hx hb dX2_stepBack_141 rfl (lv_at hl 0 rfl) ?_
          refine lv_iload_n hx hb dX2_stepBack_142 rfl (lv_at hl 1 rfl) ?_
          refine lv_iconst (v := 0) hx hb dX2_stepBack_143 (by decide) ?_
          refine lv_iload hx hb dX2_stepBack_144 (lv_at hl 5 rfl) ?_
          refine lv_iload hx hb dX2_stepBack_146 (lv_at hl 10 rfl) ?_
          refine lv_iload hx hb dX2_stepBack_148 (lv_at hl 3 rfl) ?_
          refine w_callI (va_runS (As := [.int (0 : Int32), .int x7, .int x15, .int x5]) (rest := [.int x1, .ref a0]) F (c_X2_indexOf l hp H.size) (va_cwS 4 hts (wg_S wm_RX2_96 wy_X2_indexOf) rfl rfl rfl (by decide +kernel) ⟨Nat.le_of_ble_eq_true rfl, Nat.le_of_ble_eq_true rfl⟩) (w_preS hK hW) rfl rfl hl.1 rfl (lv_room (Nat.le_of_ble_eq_true rfl)) dX2_stepBack_150 ⟨Nat.le_of_ble_eq_true rfl, Nat.le_of_ble_eq_true rfl⟩) hW (fun r_7 S_8 H locs hp hW => ?_)
          obtain ⟨hX_S_8, hp⟩ := hp
          refine W.widen (k := 0) (n := 0) (by decide) (by decide) ?_
          have hE := hE.trans hX_S_8
          have hK_a0 : sK S_8 a0 = 7 := (hX_S_8.2 a0 hL_a0).1.trans hK_a0
          have hL_a0 : wM D S_8 a0 := hX_S_8.M hL_a0
          refine lv_iload hx hb dX2_stepBack_153 (lv_at hl 6 rfl) ?_
          refine w_callV (va_runV (As := [.int x1, .int r_7, .int x8]) (rest := []) F (c_X2_loseMove l hL_a0 hK_a0 hp H.size) (cwV (C := RX2) 3 hts (wg_V wm_RX2_149 wy_X2_loseMove) rfl rfl rfl (by decide +kernel) ⟨Nat.le_of_ble_eq_true rfl, Nat.le_of_ble_eq_true rfl⟩) (w_preV hK hW hL_a0 hK_a0 (by decide) rfl) rfl rfl hl.1 rfl (lv_room (Nat.le_of_ble_eq_true rfl)) dX2_stepBack_155 ⟨Nat.le_of_ble_eq_true rfl, Nat.le_of_ble_eq_true rfl⟩) hW (fun S_10 H locs hp hW => ?_)
          obtain ⟨hX_S_10, hp⟩ := hp
          refine W.widen (k := 0) (n := 0) (by decide) (by decide) ?_
          have hE := hE.trans hX_S_10
          have hK_a0 : sK S_10 a0 = 7 := (hX_S_10.2 a0 hL_a0).1.trans hK_a0
          have hL_a0 : wM D S_10 a0 := hX_S_10.M hL_a0
          exact t_X2_stepBack_158 F hr hlocks hK ih hp hW hE (lv_sub hl [0, 1, 2, 3, 4, 5, 6, 7, 8, 9, 10] rfl) hL_a0 hK_a0
set_option maxHeartbeats 4000000 in
set_option maxRecDepth 100000 in
theorem t_X2_stepBack_26 {p : Program} {l : Launch} {e : Env} {s : State} {m : MethodId} {args : Array Value} {below : List Frame} {meth : Method} {c : Code} {D : wD} {cy : Nat → ClassId} {X : va_W} {A : Nat → Prop} {S0 : wS} {post : wS → Prop} (F : CallFix p m c cX2_stepBack 16 s args wz_X2_stepBack RX2) (hr : meth.sig.returnType = none) (hlocks : meth.locks = false) (hK : wK D cy A s) : ∀ {S : wS} {H : Heap} {locs : List Loc} {ls : Array Slot} {a0 : Nat} {x1 : Int32} {x2 : Int32} {x3 : Int32} {t0 : Int32}, wp_X2_stepBack_26 D post S a0 x1 x2 x3 t0 → wO D cy X A s.heap S H locs → wX D S0 S → lv_has ls 16 [(0, .ref a0), (1, .int x1), (2, .int x2), (3, .int x3)] → wM D S a0 → sK S a0 = 7 → W p l e r_X2_stepBack s m args below meth c H locs 0 0 (MQ below (va_Qv (fun S9 => wX D S0 S9 ∧ post S9) (wB D cy X A) A) args s 0 0 A) (F0 m 26 ls [.int t0]) := by
  obtain ⟨hx, hb, hml, hown, hts⟩ := id F
  have hwg : ∀ w ∈ WG, w.before args s = true := fun w h => hts w (List.mem_cons_of_mem _ h)
  have i_7 : ∀ w ∈ u_ws RX2 TX2 8, w ∈ wz_X2_stepBack := fun w h => List.mem_cons_of_mem _ (wu_7 w h)
  have k_35 := hwg _ wf_RX2_35
  intro S H locs ls a0 x1 x2 x3 t0 hp hW hE hl hL_a0 hK_a0
  unfold wp_X2_stepBack_26 at hp
  refine lv_istore (lv' := [(4, .int t0), (0, .ref a0), (1, .int x1), (2, .int x2), (3, .int x3)]) hx hb dX2_stepBack_26 hl (by decide) rfl (fun ls hl => ?_)
  refine lv_iload hx hb dX2_stepBack_28 (lv_at hl 0 rfl) ?_
  refine lv_bipush (v := 25) hx hb dX2_stepBack_30 (by decide) ?_
  obtain ⟨h_1, hp⟩ := hp
  refine lv_irem hx hb dX2_stepBack_32 h_1 ?_
  refine lv_topi (fun x_2 ex_2 => ?_)
  replace hp := hp x_2 ex_2
  refine lv_istore (lv' := [(5, .int x_2), (4, .int t0), (0, .ref a0), (1, .int x1), (2, .int x2), (3, .int x3)]) hx hb dX2_stepBack_33 hl (by decide) rfl (fun ls hl => ?_)
  refine lv_iload hx hb dX2_stepBack_35 (lv_at hl 1 rfl) ?_
  refine lv_bipush (v := 25) hx hb dX2_stepBack_37 (by decide) ?_
  obtain ⟨h_3, hp⟩ := hp
  refine lv_idiv hx hb dX2_stepBack_39 h_3 ?_
  refine lv_bipush (v := 25) hx hb dX2_stepBack_40 (by decide) ?_
  obtain ⟨h_4, hp⟩ := hp
  refine lv_irem hx hb dX2_stepBack_42 h_4 ?_
  refine lv_topi (fun x_5 ex_5 => ?_)
  replace hp := hp x_5 ex_5
  refine lv_istore (lv' := [(6, .int x_5), (5, .int x_2), (4, .int t0), (0, .ref a0), (1, .int x1), (2, .int x2), (3, .int x3)]) hx hb dX2_stepBack_43 hl (by decide) rfl (fun ls hl => ?_)
  refine lv_iload hx hb dX2_stepBack_45 (lv_at hl 2 rfl) ?_
  refine lv_bipush (v := 25) hx hb dX2_stepBack_47 (by decide) ?_
  obtain ⟨h_6, hp⟩ := hp
  refine lv_idiv hx hb dX2_stepBack_49 h_6 ?_
  refine lv_bipush (v := 25) hx hb dX2_stepBack_50 (by decide) ?_
  obtain ⟨h_7, hp⟩ := hp
  refine lv_idiv hx hb dX2_stepBack_52 h_7 ?_
  refine lv_topi (fun x_8 ex_8 => ?_)
  replace hp := hp x_8 ex_8
  refine lv_istore (lv' := [(7, .int x_8), (6, .int x_5), (5, .int x_2), (4, .int t0), (0, .ref a0), (1, .int x1), (2, .int x2), (3, .int x3)]) hx hb dX2_stepBack_53 hl (by decide) rfl (fun ls hl => ?_)
  refine lv_aload_n hx hb dX2_stepBack_55 rfl (lv_at hl 4 rfl) ?_
  refine lv_iload_n hx hb dX2_stepBack_56 rfl (lv_at hl 5 rfl) ?_
  refine lv_iload_n hx hb dX2_stepBack_57 rfl (lv_at hl 6 rfl) ?_
  refine w_callI (va_runV (As := [.int x1, .int x2]) (rest := []) F (c_X2_valueAt l hL_a0 hK_a0 hp H.size) (cwV (C := RX2) 2 hts (wg_V wm_RX2_100 wy_X2_valueAt) rfl rfl rfl (by decide +kernel) ⟨Nat.le_of_ble_eq_true rfl, Nat.le_of_ble_eq_true rfl⟩) (w_preV hK hW hL_a0 hK_a0 (by decide) rfl) rfl rfl hl.1 rfl (lv_room (Nat.le_of_ble_eq_true rfl)) dX2_stepBack_58 ⟨Nat.le_of_ble_eq_true rfl, Nat.le_of_ble_eq_true rfl⟩) hW (fun r_9 S_10 H locs hp hW => ?_)
  obtain ⟨hX_S_10, hp⟩ := hp
  refine W.widen (k := 0) (n := 0) (by decide) (by decide) ?_
  have hE := hE.trans hX_S_10
  have hK_a0 : sK S_10 a0 = 7 := (hX_S_10.2 a0 hL_a0).1.trans hK_a0
  have hL_a0 : wM D S_10 a0 := hX_S_10.M hL_a0
  refine lv_iconst (v := 1) hx hb dX2_stepBack_61 (by decide) ?_
  refine lv_iadd hx hb dX2_stepBack_62 ?_
  refine lv_topi (fun x_11 ex_11 => ?_)
  replace hp := hp x_11 ex_11
  refine lv_istore (lv' := [(8, .int x_11), (7, .int x_8), (6, .int x_5), (5, .int x_2), (4, .int t0), (0, .ref a0), (1, .int x1), (2, .int x2), (3, .int x3)]) hx hb dX2_stepBack_63 hl (by decide) rfl (fun ls hl => ?_)
  refine lv_aload_n hx hb dX2_stepBack_65 rfl (lv_at hl 5 rfl) ?_
  obtain ⟨y_12, ey_12, hL_y_12, hK_y_12, hp⟩ := hp
  refine w_get (k := 7) (f := 0) (T := TX2) (v := .ref y_12) F hK hW hL_a0 hK_a0 (by decide) rfl rfl (by decide) i_7 k_35 (by rw [show wv 7 0 S_10 a0 = va_rf (sR S_10 a0 0) from rfl, ey_12]; rfl) dX2_stepBack_66 ?_
  refine lv_iconst (v := 1) hx hb dX2_stepBack_69 (by decide) ?_
  refine lv_iload hx hb dX2_stepBack_70 (lv_at hl 1 rfl) ?_
  refine lv_lconst (v := 0) hx hb dX2_stepBack_72 (by decide) ?_
  refine w_callJ (va_runV (As := [.int (1 : Int32), .int x_8, .long (0 : Int64)]) (rest := []) F (c_X0_reach l hL_y_12 hK_y_12 hp H.size) (cwV (C := RX0) 3 hts (wg_V wm_RX2_130 wy_X0_reach) rfl rfl rfl (by decide +kernel) ⟨Nat.le_of_ble_eq_true rfl, Nat.le_of_ble_eq_true rfl⟩) (w_preV hK hW hL_y_12 hK_y_12 (by decide) rfl) rfl rfl hl.1 rfl (lv_room (Nat.le_of_ble_eq_true rfl)) dX2_stepBack_73 ⟨Nat.le_of_ble_eq_true rfl, Nat.le_of_ble_eq_true rfl⟩) hW (fun r_13 S_14 H locs hp hW => ?_)
  obtain ⟨hX_S_14, hp⟩ := hp
  refine W.widen (k := 0) (n := 0) (by decide) (by decide) ?_
  have hE := hE.trans hX_S_14
  have hK_a0 : sK S_14 a0 = 7 := (hX_S_14.2 a0 hL_a0).1.trans hK_a0
  have hL_a0 : wM D S_14 a0 := hX_S_14.M hL_a0
  refine lv_lstore (lv' := [(9, .long r_13), (8, .int x_11), (7, .int x_8), (6, .int x_5), (5, .int x_2), (4, .int t0), (0, .ref a0), (1, .int x1), (2, .int x2), (3, .int x3)]) hx hb dX2_stepBack_76 hl (by decide) rfl (fun ls hl => ?_)
  refine lv_aload_n hx hb dX2_stepBack_78 rfl (lv_at hl 6 rfl) ?_
  obtain ⟨y_15, ey_15, hL_y_15, hK_y_15, hp⟩ := hp
  refine w_get (k := 7) (f := 0) (T := TX2) (v := .ref y_15) F hK hW hL_a0 hK_a0 (by decide) rfl rfl (by decide) i_7 k_35 (by rw [show wv 7 0 S_14 a0 = va_rf (sR S_14 a0 0) from rfl, ey_15]; rfl) dX2_stepBack_79 ?_
  refine lv_iconst (v := 1) hx hb dX2_stepBack_82 (by decide) ?_
  refine lv_iload hx hb dX2_stepBack_83 (lv_at hl 3 rfl) ?_
  refine lv_lconst (v := 0) hx hb dX2_stepBack_85 (by decide) ?_
  refine w_callJ (va_runV (As := [.int (1 : Int32), .int x_5, .long (0 : Int64)]) (rest := []) F (c_X0_reach l hL_y_15 hK_y_15 hp H.size) (cwV (C := RX0) 3 hts (wg_V wm_RX2_130 wy_X0_reach) rfl rfl rfl (by decide +kernel) ⟨Nat.le_of_ble_eq_true rfl, Nat.le_of_ble_eq_true rfl⟩) (w_preV hK hW hL_y_15 hK_y_15 (by decide) rfl) rfl rfl hl.1 rfl (lv_room (Nat.le_of_ble_eq_true rfl)) dX2_stepBack_86 ⟨Nat.le_of_ble_eq_true rfl, Nat.le_of_ble_eq_true rfl⟩) hW (fun r_16 S_17 H locs hp hW => ?_)
  obtain ⟨hX_S_17, hp⟩ := hp
  refine W.widen (k := 0) (n := 0) (by decide) (by decide) ?_
  have hE := hE.trans hX_S_17
  have hK_a0 : sK S_17 a0 = 7 := (hX_S_17.2 a0 hL_a0).1.trans hK_a0
  have hL_a0 : wM D S_17 a0 := hX_S_17.M hL_a0
  refine lv_lstore (lv' := [(11, .long r_16), (9, .long r_13), (8, .int x_11), (7, .int x_8), (6, .int x_5), (5, .int x_2), (4, .int t0), (0, .ref a0), (1, .int x1), (2, .int x2), (3, .int x3)]) hx hb dX2_stepBack_89 hl (by decide) rfl (fun ls hl => ?_)
  refine lv_aload_n hx hb dX2_stepBack_91 rfl (lv_at hl 7 rfl) ?_
  obtain ⟨y_18, ey_18, hL_y_18, hK_y_18, hp⟩ := hp
  refine w_get (k := 7) (f := 0) (T := TX2) (v := .ref y_18) F hK hW hL_a0 hK_a0 (by decide) rfl rfl (by decide) i_7 k_35 (by rw [show wv 7 0 S_17 a0 = va_rf (sR S_17 a0 0) from rfl, ey_18]; rfl) dX2_stepBack_92 ?_
  refine lv_iload_n hx hb dX2_stepBack_95 rfl (lv_at hl 8 rfl) ?_
  refine lv_iload hx hb dX2_stepBack_96 (lv_at hl 5 rfl) ?_
  refine lv_lconst (v := 1) hx hb dX2_stepBack_98 (by decide) ?_
  refine lv_iload hx hb dX2_stepBack_99 (lv_at hl 3 rfl) ?_
  refine lv_lshl (v := (jlshl (1 : Int64) x_8)) hx hb dX2_stepBack_101 rfl ?_
  refine lv_lconst (v := 1) hx hb dX2_stepBack_102 (by decide) ?_
  refine lv_iload hx hb dX2_stepBack_103 (lv_at hl 4 rfl) ?_
  refine lv_lshl (v := (jlshl (1 : Int64) x_5)) hx hb dX2_stepBack_105 rfl ?_
  refine lv_lor hx hb dX2_stepBack_106 ?_
  refine w_callJ (va_runV (As := [.int x1, .int x_2, .long ((jlshl (1 : Int64) x_8) ||| (jlshl (1 : Int64) x_5))]) (rest := []) F (c_X0_reach l hL_y_18 hK_y_18 hp H.size) (cwV (C := RX0) 3 hts (wg_V wm_RX2_130 wy_X0_reach) rfl rfl rfl (by decide +kernel) ⟨Nat.le_of_ble_eq_true rfl, Nat.le_of_ble_eq_true rfl⟩) (w_preV hK hW hL_y_18 hK_y_18 (by decide) rfl) rfl rfl hl.1 rfl (lv_room (Nat.le_of_ble_eq_true rfl)) dX2_stepBack_107 ⟨Nat.le_of_ble_eq_true rfl, Nat.le_of_ble_eq_true rfl⟩) hW (fun r_19 S_20 H locs hp hW => ?_)
  obtain ⟨hX_S_20, hp⟩ := hp
  refine W.widen (k := 0) (n := 0) (by decide) (by decide) ?_
  have hE := hE.trans hX_S_20
  have hK_a0 : sK S_20 a0 = 7 := (hX_S_20.2 a0 hL_a0).1.trans hK_a0
  have hL_a0 : wM D S_20 a0 := hX_S_20.M hL_a0
  refine lv_lstore (lv' := [(13, .long r_19), (11, .long r_16), (9, .long r_13), (8, .int x_11), (7, .int x_8), (6, .int x_5), (5, .int x_2), (4, .int t0), (0, .ref a0), (1, .int x1), (2, .int x2), (3, .int x3)]) hx hb dX2_stepBack_110 hl (by decide) rfl (fun ls hl => ?_)
  refine lv_iconst (v := 0) hx hb dX2_stepBack_112 (by decide) ?_
  refine lv_istore (lv' := [(15, .int (0 : Int32)), (13, .long r_19), (11, .long r_16), (9, .long r_13), (8, .int x_11), (7, .int x_8), (6, .int x_5), (5, .int x_2), (4, .int t0), (0, .ref a0), (1, .int x1), (2, .int x2), (3, .int x3)]) hx hb dX2_stepBack_113 hl (by decide) rfl (fun ls hl => ?_)
  obtain ⟨n_21, hp⟩ := hp
  exact t_X2_stepBack_115 F hr hlocks hK n_21 hp hW hE (lv_sub hl [9, 10, 12, 7, 6, 5, 4, 3, 2, 1, 0] rfl) hL_a0 hK_a0
set_option maxHeartbeats 4000000 in
set_option maxRecDepth 100000 in
theorem t_X2_stepBack_12 {p : Program} {l : Launch} {e : Env} {s : State} {m : MethodId} {args : Array Value} {below : List Frame} {meth : Method} {c : Code} {D : wD} {cy : Nat → ClassId} {X : va_W} {A : Nat → Prop} {S0 : wS} {post : wS → Prop} (F : CallFix p m c cX2_stepBack 16 s args wz_X2_stepBack RX2) (hr : meth.sig.returnType = none) (hlocks : meth.locks = false) (hK : wK D cy A s) : ∀ {S : wS} {H : Heap} {locs : List Loc} {ls : Array Slot} {a0 : Nat} {x1 : Int32} {x2 : Int32} {t0 : Int32}, wp_X2_stepBack_12 D post S a0 x1 x2 t0 → wO D cy X A s.heap S H locs → wX D S0 S → lv_has ls 16 [(0, .ref a0), (1, .int x1), (2, .int x2)] → wM D S a0 → sK S a0 = 7 → W p l e r_X2_stepBack s m args below meth c H locs 0 0 (MQ below (va_Qv (fun S9 => wX D S0 S9 ∧ post S9) (wB D cy X A) A) args s 0 0 A) (F0 m 12 ls [.int t0]) := by
  obtain ⟨hx, hb, hml, hown, hts⟩ := id F
  have hwg : ∀ w ∈ WG, w.before args s = true := fun w h => hts w (List.mem_cons_of_mem _ h)
  intro S H locs ls a0 x1 x2 t0 hp hW hE hl hL_a0 hK_a0
  unfold wp_X2_stepBack_12 at hp
  refine lv_istore_n (lv' := [(3, .int t0), (0, .ref a0), (1, .int x1), (2, .int x2)]) hx hb dX2_stepBack_12 rfl hl (by decide) rfl (fun ls hl => ?_)
  refine lv_iload_n hx hb dX2_stepBack_13 rfl (lv_at hl 0 rfl) ?_
  refine lv_if_eq (tgt := 25) hx hb dX2_stepBack_14 (by decide) (fun c_1 => ?_) (fun c_1 => ?_)
  · replace hp := hp.1 c_1
    refine lv_iload_n hx hb dX2_stepBack_25 rfl (lv_at hl 3 rfl) ?_
    exact t_X2_stepBack_26 F hr hlocks hK hp hW hE (lv_sub hl [1, 2, 3, 0] rfl) hL_a0 hK_a0
  · replace hp := hp.2 c_1
    refine lv_iload_n hx hb dX2_stepBack_17 rfl (lv_at hl 3 rfl) ?_
    refine lv_sipush (v := 15625) hx hb dX2_stepBack_18 (by decide) ?_
    refine lv_isub hx hb dX2_stepBack_21 ?_
    refine lv_goto (tgt := 26) hx hb dX2_stepBack_22 (by decide) ?_
    exact t_X2_stepBack_26 F hr hlocks hK hp hW hE (lv_sub hl [1, 2, 3, 0] rfl) hL_a0 hK_a0
set_option maxHeartbeats 4000000 in
set_option maxRecDepth 100000 in
theorem t_X2_stepBack_0 {p : Program} {l : Launch} {e : Env} {s : State} {m : MethodId} {args : Array Value} {below : List Frame} {meth : Method} {c : Code} {D : wD} {cy : Nat → ClassId} {X : va_W} {A : Nat → Prop} {S0 : wS} {post : wS → Prop} (F : CallFix p m c cX2_stepBack 16 s args wz_X2_stepBack RX2) (hr : meth.sig.returnType = none) (hlocks : meth.locks = false) (hK : wK D cy A s) : ∀ {S : wS} {H : Heap} {locs : List Loc} {ls : Array Slot} {a0 : Nat} {x1 : Int32} {x2 : Int32}, wp_X2_stepBack_0 D post S a0 x1 x2 → wO D cy X A s.heap S H locs → wX D S0 S → lv_has ls 16 [(0, .ref a0), (1, .int x1), (2, .int x2)] → wM D S a0 → sK S a0 = 7 → W p l e r_X2_stepBack s m args below meth c H locs 0 0 (MQ below (va_Qv (fun S9 => wX D S0 S9 ∧ post S9) (wB D cy X A) A) args s 0 0 A) (F0 m 0 ls []) := by
  obtain ⟨hx, hb, hml, hown, hts⟩ := id F
  have hwg : ∀ w ∈ WG, w.before args s = true := fun w h => hts w (List.mem_cons_of_mem _ h)
  intro S H locs ls a0 x1 x2 hp hW hE hl hL_a0 hK_a0
  unfold wp_X2_stepBack_0 at hp
  refine lv_iload_n hx hb dX2_stepBack_0 rfl (lv_at hl 2 rfl) ?_
  refine lv_sipush (v := 15625) hx hb dX2_stepBack_1 (by decide) ?_
  refine lv_icmp_lt (tgt := 11) hx hb dX2_stepBack_4 (by decide) (fun c_1 => ?_) (fun c_1 => ?_)
  · replace hp := hp.1 c_1
    refine lv_iconst (v := 0) hx hb dX2_stepBack_11 (by decide) ?_
    exact t_X2_stepBack_12 F hr hlocks hK hp hW hE (lv_sub hl [0, 1, 2] rfl) hL_a0 hK_a0
  · replace hp := hp.2 c_1
    refine lv_iconst (v := 1) hx hb dX2_stepBack_7 (by decide) ?_
    refine lv_goto (tgt := 12) hx hb dX2_stepBack_8 (by decide) ?_
    exact t_X2_stepBack_12 F hr hlocks hK hp hW hE (lv_sub hl [0, 1, 2] rfl) hL_a0 hK_a0
set_option maxHeartbeats 4000000 in
set_option maxRecDepth 100000 in
theorem c_X2_stepBack (l : Launch) {D : wD} {cy : Nat → ClassId} {X : va_W} {S0 : wS} {post : wS → Prop} {a0 : Nat} {x1 : Int32} {x2 : Int32} (hL_a0 : wM D S0 a0) (hK_a0 : sK S0 a0 = 7) (hp : wp_X2_stepBack D post S0 a0 x1 x2) : mV D cy X l yX2_stepBack wz_X2_stepBack r_X2_stepBack [.ref a0, .int x1, .int x2] S0 (fun S9 => wX D S0 S9 ∧ post S9) := by
  intro sz
  refine Met.ofW (cc := cX2_stepBack) (maxL := 16) (ret := none) (by decide) rfl ?_
  intro p e s m args below meth c s₁ B hml hv
  obtain ⟨rfl, hsz, hP, hK, hD0, hRO⟩ := hv
  have hts := atoms_spec (ws := wz_X2_stepBack) B.pre
  have hown : s.vm.findClass RX2 = some m.cls := findClass_of_methodNamed B.named
  subst hsz
  have hD := hD0.self (sz := s.heap.size)
  have F : CallFix p m c cX2_stepBack 16 s _ wz_X2_stepBack RX2 := ⟨B.exec, B.bytes, hml, hown, hts⟩
  have hr := B.returns
  have hlocks := B.notSynchronized
  generalize hAe : va_A (wL cy X S0) s.heap.size = A at hD hK ⊢
  have hA : ∀ q, s.heap.size ≤ q → A q := fun q h => by rw [← hAe]; exact Or.inr h
  have hW : wO D cy X A s.heap S0 s.heap [] := ⟨hP, hD, va_S.rf, hA, hRO⟩
  have hl := lv_entry ([.ref a0, .int x1, .int x2]) (n := 16) (Nat.le_of_ble_eq_true rfl)
  rw [lg_entry_eq]
  generalize (lg_sl ([.ref a0, .int x1, .int x2]) ++ List.replicate (16 - (lg_sl ([.ref a0, .int x1, .int x2])).length) Slot.unset).toArray = ls at hl ⊢
  have hl : lv_has ls 16 [(0, .ref a0), (1, .int x1), (2, .int x2)] := hl
  unfold wp_X2_stepBack at hp
  exact t_X2_stepBack_0 F hr hlocks hK hp hW wX.rf (lv_sub hl [0, 1, 2] rfl) hL_a0 hK_a0
def wp_X2_workOut_175 (D : wD) (post : wS → Prop)  (S : wS) (b0 : Nat) (t1 : Int32) (t2 : Int32) : Prop :=
b0 ∈ sL S ∧ vp_in t1 (sN S b0) ∧
∀ S_2 : wS, S_2 = uI S b0 (t1).toNatClampNeg t2 →
post S_2
def wp_X2_workOut_174 (D : wD) (post : wS → Prop)  (S : wS) (b0 : Nat) (t1 : Int32) : Prop :=
wp_X2_workOut_175 D post S b0 t1 (-1 : Int32)
def wp_X2_workOut_118 (D : wD) (post : wS → Prop)  (S : wS) (a0 : Nat) (x1 : Int32) : Prop :=
∃ y_1 : Nat, sR S a0 1 = some y_1 ∧ wM D S y_1 ∧ sK S y_1 = 23 ∧
y_1 ∈ sL S ∧ vp_in x1 (sN S y_1) ∧
∀ S_3 : wS, S_3 = uI S y_1 (x1).toNatClampNeg (vp_nar .boolean (1 : Int32)) →
∃ y_4 : Nat, sR S_3 a0 2 = some y_4 ∧ wM D S_3 y_4 ∧ sK S_3 y_4 = 21 ∧
y_4 ∈ sL S_3 ∧ vp_in x1 (sN S_3 y_4) ∧
∀ S_6 : wS, S_6 = uI S_3 y_4 (x1).toNatClampNeg (sI S_3 a0 7) →
∀ x_7 : Int32, x_7 = ((sI S_6 a0 7) - (1 : Int32)) →
∃ y_8 : Nat, sR S_6 a0 3 = some y_8 ∧ wM D S_6 y_8 ∧ sK S_6 y_8 = 21 ∧
((x_7 < 0 → wp_X2_workOut_174 D post S_6 y_8 x1) ∧
 (¬ x_7 < 0 → ∃ y_10 : Nat, sR S_6 a0 5 = some y_10 ∧ wM D S_6 y_10 ∧ sK S_6 y_10 = 21 ∧
(((Int32.ofNat (sN S_6 y_10)) ≤ x_7 → wp_X2_workOut_174 D post S_6 y_8 x1) ∧
 (¬ (Int32.ofNat (sN S_6 y_10)) ≤ x_7 → ∃ y_12 : Nat, sR S_6 a0 5 = some y_12 ∧ wM D S_6 y_12 ∧ sK S_6 y_12 = 21 ∧
vp_in x_7 (sN S_6 y_12) ∧
wp_X2_valueAt D (fun r_14 S_15 => 
wp_X2_workOut_175 D post S_15 y_8 x1 r_14) S_6 a0 x1 (sI S_6 y_12 (x_7).toNatClampNeg)))))
def wp_X2_workOut_84 (D : wD) (post : wS → Prop)  : Nat → wS → Nat → Int32 → Int32 → Prop
  | 0, _, _, _, _ => False
  | n + 1, S, a0, x1, x2 =>
    (((sI S a0 7) ≤ x2 → wp_X2_workOut_118 D post S a0 x1) ∧
     (¬ (sI S a0 7) ≤ x2 → ∃ y_2 : Nat, sR S a0 5 = some y_2 ∧ wM D S y_2 ∧ sK S y_2 = 21 ∧
    (((Int32.ofNat (sN S y_2)) ≤ x2 → wp_X2_workOut_118 D post S a0 x1) ∧
     (¬ (Int32.ofNat (sN S y_2)) ≤ x2 → ∃ y_4 : Nat, sR S a0 5 = some y_4 ∧ wM D S y_4 ∧ sK S y_4 = 21 ∧
    vp_in x2 (sN S y_4) ∧
    wp_X2_stepBack D (fun S_7 => 
    ∀ x_8 : Int32, x_8 = x2 + 1 →
    wp_X2_workOut_84 D post n S_7 a0 x1 x_8) S a0 x1 (sI S y_4 (x2).toNatClampNeg)))))
def wp_X2_workOut_65 (D : wD) (post : wS → Prop)  (S : wS) (a0 : Nat) (x1 : Int32) : Prop :=
∀ S_1 : wS, S_1 = uI S a0 7 (0 : Int32) →
wp_X2_forEachPlace D (fun S_3 => 
wp_X2_forEachPlace D (fun S_5 => 
∃ n_6 : Nat, wp_X2_workOut_84 D post n_6 S_5 a0 x1 (0 : Int32)) S_3 a0 x1 (0 : Int32)) S_1 a0 x1 (1 : Int32)
def wp_X2_workOut_30 (D : wD) (post : wS → Prop)  (S : wS) : Prop :=
post S
def wp_X2_workOut_0 (D : wD) (post : wS → Prop)  (S : wS) (a0 : Nat) (x1 : Int32) : Prop :=
wp_X2_isWorkedOut D (fun r_1 S_2 => 
((¬ r_1 = 0 → wp_X2_workOut_30 D post S_2) ∧
 (r_1 = 0 → ((x1 < (2 : Int32) → wp_X2_workOut_30 D post S_2) ∧
 (¬ x1 < (2 : Int32) → (((5 : Int32) < x1 → wp_X2_workOut_30 D post S_2) ∧
 (¬ (5 : Int32) < x1 → ∃ y_6 : Nat, sR S_2 a0 0 = some y_6 ∧ wM D S_2 y_6 ∧ sK S_2 y_6 = 5 ∧
(((sI S_2 y_6 2) ≤ (25 : Int32) → ∃ y_8 : Nat, sR S_2 a0 4 = some y_8 ∧ wM D S_2 y_8 ∧ sK S_2 y_8 = 21 ∧
((¬ (Int32.ofNat (sN S_2 y_8)) = 0 → wp_X2_workOut_65 D post S_2 a0 x1) ∧
 ((Int32.ofNat (sN S_2 y_8)) = 0 → ¬ (125000 : Int32) < 0 ∧ ((125000 : Int32)).toNatClampNeg ≤ 125000 ∧ ∀ y_10 : Nat, ¬ wM D S_2 y_10 → ∀ S_11 : wS, S_11 = nA S_2 y_10 21 ((125000 : Int32)).toNatClampNeg →
∀ S_13 : wS, S_13 = uR S_11 a0 4 (some y_10) →
¬ (31250 : Int32) < 0 ∧ ((31250 : Int32)).toNatClampNeg ≤ 31250 ∧ ∀ y_14 : Nat, ¬ wM D S_13 y_14 → ∀ S_15 : wS, S_15 = nA S_13 y_14 21 ((31250 : Int32)).toNatClampNeg →
∀ S_17 : wS, S_17 = uR S_15 a0 5 (some y_14) →
¬ (15625 : Int32) < 0 ∧ ((15625 : Int32)).toNatClampNeg ≤ 15625 ∧ ∀ y_18 : Nat, ¬ wM D S_17 y_18 → ∀ S_19 : wS, S_19 = nA S_17 y_18 21 ((15625 : Int32)).toNatClampNeg →
∀ S_21 : wS, S_21 = uR S_19 a0 6 (some y_18) →
wp_X2_workOut_65 D post S_21 a0 x1))) ∧
 (¬ (sI S_2 y_6 2) ≤ (25 : Int32) → wp_X2_workOut_30 D post S_2))))))))) S a0 x1
abbrev r_X2_workOut : Room := { frames := 5, cells := 3, slots := 171875, locals := 135 }
def wp_X2_workOut (D : wD) (post : wS → Prop) (S : wS) (a0 : Nat) (x1 : Int32) : Prop := wp_X2_workOut_0 D post S a0 x1
set_option maxHeartbeats 4000000 in
set_option maxRecDepth 100000 in
theorem t_X2_workOut_175 {p : Program} {l : Launch} {e : Env} {s : State} {m : MethodId} {args : Array Value} {below : List Frame} {meth : Method} {c : Code} {D : wD} {cy : Nat → ClassId} {X : va_W} {A : Nat → Prop} {S0 : wS} {post : wS → Prop} (F : CallFix p m c cX2_workOut 3 s args wz_X2_workOut RX2) (hr : meth.sig.returnType = none) (hlocks : meth.locks = false) (hK : wK D cy A s) : ∀ {S : wS} {H : Heap} {locs : List Loc} {ls : Array Slot} {b0 : Nat} {t1 : Int32} {t2 : Int32}, wp_X2_workOut_175 D post S b0 t1 t2 → wO D cy X A s.heap S H locs → wX D S0 S → lv_has ls 3 [] → wM D S b0 → sK S b0 = 21 → W p l e r_X2_workOut s m args below meth c H locs 3 171875 (MQ below (va_Qv (fun S9 => wX D S0 S9 ∧ post S9) (wB D cy X A) A) args s 3 171875 A) (F0 m 175 ls [.int t2, .int t1, .ref b0]) := by
  obtain ⟨hx, hb, hml, hown, hts⟩ := id F
  have hwg : ∀ w ∈ WG, w.before args s = true := fun w h => hts w (List.mem_cons_of_mem _ h)
  intro S H locs ls b0 t1 t2 hp hW hE hl hL_b0 hK_b0
  unfold wp_X2_workOut_175 at hp
  obtain ⟨h_1m, h_1, hp⟩ := hp
  refine w_ist F hK hW h_1m hK_b0 h_1 dX2_workOut_175 (fun H locs hW => ?_)
  obtain ⟨S_2, eS_2⟩ : ∃ z : wS, z = uI S b0 (t1).toNatClampNeg t2 := ⟨_, rfl⟩
  rw [← eS_2] at hW
  replace hp := hp S_2 eS_2
  have hX_S_2 : wX D S S_2 := by rw [eS_2]; exact wX_uI
  have hE := hE.trans hX_S_2
  exact w_vret hx hb hr hlocks hW ⟨hE, hp⟩ dX2_workOut_176
set_option maxHeartbeats 4000000 in
set_option maxRecDepth 100000 in
theorem t_X2_workOut_174 {p : Program} {l : Launch} {e : Env} {s : State} {m : MethodId} {args : Array Value} {below : List Frame} {meth : Method} {c : Code} {D : wD} {cy : Nat → ClassId} {X : va_W} {A : Nat → Prop} {S0 : wS} {post : wS → Prop} (F : CallFix p m c cX2_workOut 3 s args wz_X2_workOut RX2) (hr : meth.sig.returnType = none) (hlocks : meth.locks = false) (hK : wK D cy A s) : ∀ {S : wS} {H : Heap} {locs : List Loc} {ls : Array Slot} {b0 : Nat} {t1 : Int32}, wp_X2_workOut_174 D post S b0 t1 → wO D cy X A s.heap S H locs → wX D S0 S → lv_has ls 3 [] → wM D S b0 → sK S b0 = 21 → W p l e r_X2_workOut s m args below meth c H locs 3 171875 (MQ below (va_Qv (fun S9 => wX D S0 S9 ∧ post S9) (wB D cy X A) A) args s 3 171875 A) (F0 m 174 ls [.int t1, .ref b0]) := by
  obtain ⟨hx, hb, hml, hown, hts⟩ := id F
  have hwg : ∀ w ∈ WG, w.before args s = true := fun w h => hts w (List.mem_cons_of_mem _ h)
  intro S H locs ls b0 t1 hp hW hE hl hL_b0 hK_b0
  unfold wp_X2_workOut_174 at hp
  refine lv_iconst (v := (-1)) hx hb dX2_workOut_174 (by decide) ?_
  exact t_X2_workOut_175 F hr hlocks hK hp hW hE (lv_sub hl [] rfl) hL_b0 hK_b0
set_option maxHeartbeats 4000000 in
set_option maxRecDepth 100000 in
theorem t_X2_workOut_118 {p : Program} {l : Launch} {e : Env} {s : State} {m : MethodId} {args : Array Value} {below : List Frame} {meth : Method} {c : Code} {D : wD} {cy : Nat → ClassId} {X : va_W} {A : Nat → Prop} {S0 : wS} {post : wS → Prop} (F : CallFix p m c cX2_workOut 3 s args wz_X2_workOut RX2) (hr : meth.sig.returnType = none) (hlocks : meth.locks = false) (hK : wK D cy A s) : ∀ {S : wS} {H : Heap} {locs : List Loc} {ls : Array Slot} {a0 : Nat} {x1 : Int32}, wp_X2_workOut_118 D post S a0 x1 → wO D cy X A s.heap S H locs → wX D S0 S → lv_has ls 3 [(0, .ref a0), (1, .int x1)] → wM D S a0 → sK S a0 = 7 → W p l e r_X2_workOut s m args below meth c H locs 3 171875 (MQ below (va_Qv (fun S9 => wX D S0 S9 ∧ post S9) (wB D cy X A) A) args s 3 171875 A) (F0 m 118 ls []) := by
  obtain ⟨hx, hb, hml, hown, hts⟩ := id F
  have hwg : ∀ w ∈ WG, w.before args s = true := fun w h => hts w (List.mem_cons_of_mem _ h)
  have i_7 : ∀ w ∈ u_ws RX2 TX2 8, w ∈ wz_X2_workOut := fun w h => List.mem_cons_of_mem _ (wu_7 w h)
  have k_11 := hwg _ wf_RX2_11
  have k_15 := hwg _ wf_RX2_15
  have k_19 := hwg _ wf_RX2_19
  have k_25 := hwg _ wf_RX2_25
  have k_31 := hwg _ wf_RX2_31
  intro S H locs ls a0 x1 hp hW hE hl hL_a0 hK_a0
  unfold wp_X2_workOut_118 at hp
  refine lv_aload_n hx hb dX2_workOut_118 rfl (lv_at hl 0 rfl) ?_
  obtain ⟨y_1, ey_1, hL_y_1, hK_y_1, hp⟩ := hp
  refine w_get (k := 7) (f := 1) (T := TX2) (v := .ref y_1) F hK hW hL_a0 hK_a0 (by decide) rfl rfl (by decide) i_7 k_11 (by rw [show wv 7 1 S a0 = va_rf (sR S a0 1) from rfl, ey_1]; rfl) dX2_workOut_119 ?_
  refine lv_iload_n hx hb dX2_workOut_122 rfl (lv_at hl 1 rfl) ?_
  refine lv_iconst (v := 1) hx hb dX2_workOut_123 (by decide) ?_
  obtain ⟨h_2m, h_2, hp⟩ := hp
  refine w_zst F hK hW h_2m hK_y_1 h_2 dX2_workOut_124 (fun H locs hW => ?_)
  obtain ⟨S_3, eS_3⟩ : ∃ z : wS, z = uI S y_1 (x1).toNatClampNeg (vp_nar .boolean (1 : Int32)) := ⟨_, rfl⟩
  rw [← eS_3] at hW
  replace hp := hp S_3 eS_3
  have hX_S_3 : wX D S S_3 := by rw [eS_3]; exact wX_uI
  have hE := hE.trans hX_S_3
  have hK_a0 : sK S_3 a0 = 7 := (hX_S_3.2 a0 hL_a0).1.trans hK_a0
  have hL_a0 : wM D S_3 a0 := hX_S_3.M hL_a0
  refine lv_aload_n hx hb dX2_workOut_125 rfl (lv_at hl 0 rfl) ?_
  obtain ⟨y_4, ey_4, hL_y_4, hK_y_4, hp⟩ := hp
  refine w_get (k := 7) (f := 2) (T := TX2) (v := .ref y_4) F hK hW hL_a0 hK_a0 (by decide) rfl rfl (by decide) i_7 k_15 (by rw [show wv 7 2 S_3 a0 = va_rf (sR S_3 a0 2) from rfl, ey_4]; rfl) dX2_workOut_126 ?_
  refine lv_iload_n hx hb dX2_workOut_129 rfl (lv_at hl 1 rfl) ?_
  refine lv_aload_n hx hb dX2_workOut_130 rfl (lv_at hl 0 rfl) ?_
  refine w_get (k := 7) (f := 7) (T := TX2) (v := .int (sI S_3 a0 7)) F hK hW hL_a0 hK_a0 (by decide) rfl rfl (by decide) i_7 k_31 rfl dX2_workOut_131 ?_
  obtain ⟨h_5m, h_5, hp⟩ := hp
  refine w_ist F hK hW h_5m hK_y_4 h_5 dX2_workOut_134 (fun H locs hW => ?_)
  obtain ⟨S_6, eS_6⟩ : ∃ z : wS, z = uI S_3 y_4 (x1).toNatClampNeg (sI S_3 a0 7) := ⟨_, rfl⟩
  rw [← eS_6] at hW
  replace hp := hp S_6 eS_6
  have hX_S_6 : wX D S_3 S_6 := by rw [eS_6]; exact wX_uI
  have hE := hE.trans hX_S_6
  have hK_a0 : sK S_6 a0 = 7 := (hX_S_6.2 a0 hL_a0).1.trans hK_a0
  have hL_a0 : wM D S_6 a0 := hX_S_6.M hL_a0
  refine lv_aload_n hx hb dX2_workOut_135 rfl (lv_at hl 0 rfl) ?_
  refine w_get (k := 7) (f := 7) (T := TX2) (v := .int (sI S_6 a0 7)) F hK hW hL_a0 hK_a0 (by decide) rfl rfl (by decide) i_7 k_31 rfl dX2_workOut_136 ?_
  refine lv_iconst (v := 1) hx hb dX2_workOut_139 (by decide) ?_
  refine lv_isub hx hb dX2_workOut_140 ?_
  refine lv_topi (fun x_7 ex_7 => ?_)
  replace hp := hp x_7 ex_7
  refine lv_istore_n (lv' := [(2, .int x_7), (0, .ref a0), (1, .int x1)]) hx hb dX2_workOut_141 rfl hl (by decide) rfl (fun ls hl => ?_)
  refine lv_aload_n hx hb dX2_workOut_142 rfl (lv_at hl 1 rfl) ?_
  obtain ⟨y_8, ey_8, hL_y_8, hK_y_8, hp⟩ := hp
  refine w_get (k := 7) (f := 3) (T := TX2) (v := .ref y_8) F hK hW hL_a0 hK_a0 (by decide) rfl rfl (by decide) i_7 k_19 (by rw [show wv 7 3 S_6 a0 = va_rf (sR S_6 a0 3) from rfl, ey_8]; rfl) dX2_workOut_143 ?_
  refine lv_iload_n hx hb dX2_workOut_146 rfl (lv_at hl 2 rfl) ?_
  refine lv_iload_n hx hb dX2_workOut_147 rfl (lv_at hl 0 rfl) ?_
  refine lv_if_lt (tgt := 174) hx hb dX2_workOut_148 (by decide) (fun c_9 => ?_) (fun c_9 => ?_)
  · replace hp := hp.1 c_9
    exact t_X2_workOut_174 F hr hlocks hK hp hW hE (lv_sub hl [] rfl) hL_y_8 hK_y_8
  · replace hp := hp.2 c_9
    refine lv_iload_n hx hb dX2_workOut_151 rfl (lv_at hl 0 rfl) ?_
    refine lv_aload_n hx hb dX2_workOut_152 rfl (lv_at hl 1 rfl) ?_
    obtain ⟨y_10, ey_10, hL_y_10, hK_y_10, hp⟩ := hp
    refine w_get (k := 7) (f := 5) (T := TX2) (v := .ref y_10) F hK hW hL_a0 hK_a0 (by decide) rfl rfl (by decide) i_7 k_25 (by rw [show wv 7 5 S_6 a0 = va_rf (sR S_6 a0 5) from rfl, ey_10]; rfl) dX2_workOut_153 ?_
    refine w_len F hK hW hL_y_10 hK_y_10 (by decide) dX2_workOut_156 ?_
    refine lv_icmp_ge (tgt := 174) hx hb dX2_workOut_157 (by decide) (fun c_11 => ?_) (fun c_11 => ?_)
    · replace hp := hp.1 c_11
      exact t_X2_workOut_174 F hr hlocks hK hp hW hE (lv_sub hl [] rfl) hL_y_8 hK_y_8
    · replace hp := hp.2 c_11
      refine lv_aload_n hx hb dX2_workOut_160 rfl (lv_at hl 1 rfl) ?_
      refine lv_iload_n hx hb dX2_workOut_161 rfl (lv_at hl 2 rfl) ?_
      refine lv_aload_n hx hb dX2_workOut_162 rfl (lv_at hl 1 rfl) ?_
      obtain ⟨y_12, ey_12, hL_y_12, hK_y_12, hp⟩ := hp
      refine w_get (k := 7) (f := 5) (T := TX2) (v := .ref y_12) F hK hW hL_a0 hK_a0 (by decide) rfl rfl (by decide) i_7 k_25 (by rw [show wv 7 5 S_6 a0 = va_rf (sR S_6 a0 5) from rfl, ey_12]; rfl) dX2_workOut_163 ?_
      refine lv_iload_n hx hb dX2_workOut_166 rfl (lv_at hl 0 rfl) ?_
      obtain ⟨h_13, hp⟩ := hp
      refine w_ild F hK hW hL_y_12 hK_y_12 h_13 dX2_workOut_167 ?_
      refine w_callI (va_runV (As := [.int x1, .int (sI S_6 y_12 (x_7).toNatClampNeg)]) (rest := [.int x1, .ref y_8]) F (c_X2_valueAt l hL_a0 hK_a0 hp H.size) (cwV (C := RX2) 2 hts (wg_V wm_RX2_100 wy_X2_valueAt) rfl rfl rfl (by decide +kernel) ⟨Nat.le_of_ble_eq_true rfl, Nat.le_of_ble_eq_true rfl⟩) (w_preV hK hW hL_a0 hK_a0 (by decide) rfl) rfl rfl hl.1 rfl (lv_room (Nat.le_of_ble_eq_true rfl)) dX2_workOut_168 ⟨Nat.le_of_ble_eq_true rfl, Nat.le_of_ble_eq_true rfl⟩) hW (fun r_14 S_15 H locs hp hW => ?_)
      obtain ⟨hX_S_15, hp⟩ := hp
      refine W.widen (k := 3) (n := 171875) (by decide) (by decide) ?_
      have hE := hE.trans hX_S_15
      have hK_a0 : sK S_15 a0 = 7 := (hX_S_15.2 a0 hL_a0).1.trans hK_a0
      have hL_a0 : wM D S_15 a0 := hX_S_15.M hL_a0
      have hK_y_8 : sK S_15 y_8 = 21 := (hX_S_15.2 y_8 hL_y_8).1.trans hK_y_8
      have hL_y_8 : wM D S_15 y_8 := hX_S_15.M hL_y_8
      refine lv_goto (tgt := 175) hx hb dX2_workOut_171 (by decide) ?_
      exact t_X2_workOut_175 F hr hlocks hK hp hW hE (lv_sub hl [] rfl) hL_y_8 hK_y_8
set_option maxHeartbeats 4000000 in
set_option maxRecDepth 100000 in
theorem t_X2_workOut_84 {p : Program} {l : Launch} {e : Env} {s : State} {m : MethodId} {args : Array Value} {below : List Frame} {meth : Method} {c : Code} {D : wD} {cy : Nat → ClassId} {X : va_W} {A : Nat → Prop} {S0 : wS} {post : wS → Prop} (F : CallFix p m c cX2_workOut 3 s args wz_X2_workOut RX2) (hr : meth.sig.returnType = none) (hlocks : meth.locks = false) (hK : wK D cy A s) : ∀ (n : Nat) {S : wS} {H : Heap} {locs : List Loc} {ls : Array Slot} {a0 : Nat} {x1 : Int32} {x2 : Int32}, wp_X2_workOut_84 D post n S a0 x1 x2 → wO D cy X A s.heap S H locs → wX D S0 S → lv_has ls 3 [(0, .ref a0), (1, .int x1), (2, .int x2)] → wM D S a0 → sK S a0 = 7 → W p l e r_X2_workOut s m args below meth c H locs 3 171875 (MQ below (va_Qv (fun S9 => wX D S0 S9 ∧ post S9) (wB D cy X A) A) args s 3 171875 A) (F0 m 84 ls []) := by
  obtain ⟨hx, hb, hml, hown, hts⟩ := id F
  have hwg : ∀ w ∈ WG, w.before args s = true := fun w h => hts w (List.mem_cons_of_mem _ h)
  have i_7 : ∀ w ∈ u_ws RX2 TX2 8, w ∈ wz_X2_workOut := fun w h => List.mem_cons_of_mem _ (wu_7 w h)
  have k_25 := hwg _ wf_RX2_25
  have k_31 := hwg _ wf_RX2_31
  intro n
  induction n with
  | zero =>
    intro S H locs ls a0 x1 x2 hp
    exact hp.elim
  | succ n ih =>
    intro S H locs ls a0 x1 x2 hp hW hE hl hL_a0 hK_a0
    unfold wp_X2_workOut_84 at hp
    refine lv_iload_n hx hb dX2_workOut_84 rfl (lv_at hl 2 rfl) ?_
    refine lv_aload_n hx hb dX2_workOut_85 rfl (lv_at hl 0 rfl) ?_
    refine w_get (k := 7) (f := 7) (T := TX2) (v := .int (sI S a0 7)) F hK hW hL_a0 hK_a0 (by decide) rfl rfl (by decide) i_7 k_31 rfl dX2_workOut_86 ?_
    refine lv_icmp_ge (tgt := 118) hx hb dX2_workOut_89 (by decide) (fun c_1 => ?_) (fun c_1 => ?_)
    · replace hp := hp.1 c_1
      exact t_X2_workOut_118 F hr hlocks hK hp hW hE (lv_sub hl [0, 1] rfl) hL_a0 hK_a0
    · replace hp := hp.2 c_1
      refine lv_iload_n hx hb dX2_workOut_92 rfl (lv_at hl 2 rfl) ?_
      refine lv_aload_n hx hb dX2_workOut_93 rfl (lv_at hl 0 rfl) ?_
      obtain ⟨y_2, ey_2, hL_y_2, hK_y_2, hp⟩ := hp
      refine w_get (k := 7) (f := 5) (T := TX2) (v := .ref y_2) F hK hW hL_a0 hK_a0 (by decide) rfl rfl (by decide) i_7 k_25 (by rw [show wv 7 5 S a0 = va_rf (sR S a0 5) from rfl, ey_2]; rfl) dX2_workOut_94 ?_
      refine w_len F hK hW hL_y_2 hK_y_2 (by decide) dX2_workOut_97 ?_
      refine lv_icmp_ge (tgt := 118) hx hb dX2_workOut_98 (by decide) (fun c_3 => ?_) (fun c_3 => ?_)
      · replace hp := hp.1 c_3
        exact t_X2_workOut_118 F hr hlocks hK hp hW hE (lv_sub hl [0, 1] rfl) hL_a0 hK_a0
      · replace hp := hp.2 c_3
        refine lv_aload_n hx hb dX2_workOut_101 rfl (lv_at hl 0 rfl) ?_
        refine lv_iload_n hx hb dX2_workOut_102 rfl (lv_at hl 1 rfl) ?_
        refine lv_aload_n hx hb dX2_workOut_103 rfl (lv_at hl 0 rfl) ?_
        obtain ⟨y_4, ey_4, hL_y_4, hK_y_4, hp⟩ := hp
        refine w_get (k := 7) (f := 5) (T := TX2) (v := .ref y_4) F hK hW hL_a0 hK_a0 (by decide) rfl rfl (by decide) i_7 k_25 (by rw [show wv 7 5 S a0 = va_rf (sR S a0 5) from rfl, ey_4]; rfl) dX2_workOut_104 ?_
        refine lv_iload_n hx hb dX2_workOut_107 rfl (lv_at hl 2 rfl) ?_
        obtain ⟨h_5, hp⟩ := hp
        refine w_ild F hK hW hL_y_4 hK_y_4 h_5 dX2_workOut_108 ?_
        refine w_callV (va_runV (As := [.int x1, .int (sI S y_4 (x2).toNatClampNeg)]) (rest := []) F (c_X2_stepBack l hL_a0 hK_a0 hp H.size) (cwV (C := RX2) 2 hts (wg_V wm_RX2_114 wy_X2_stepBack) rfl rfl rfl (by decide +kernel) ⟨Nat.le_of_ble_eq_true rfl, Nat.le_of_ble_eq_true rfl⟩) (w_preV hK hW hL_a0 hK_a0 (by decide) rfl) rfl rfl hl.1 rfl (lv_room (Nat.le_of_ble_eq_true rfl)) dX2_workOut_109 ⟨Nat.le_of_ble_eq_true rfl, Nat.le_of_ble_eq_true rfl⟩) hW (fun S_7 H locs hp hW => ?_)
        obtain ⟨hX_S_7, hp⟩ := hp
        refine W.widen (k := 3) (n := 171875) (by decide) (by decide) ?_
        have hE := hE.trans hX_S_7
        have hK_a0 : sK S_7 a0 = 7 := (hX_S_7.2 a0 hL_a0).1.trans hK_a0
        have hL_a0 : wM D S_7 a0 := hX_S_7.M hL_a0
        obtain ⟨x_8, ex_8⟩ : ∃ z : Int32, z = x2 + 1 := ⟨_, rfl⟩
        replace hp := hp x_8 ex_8
        refine lv_iinc (v := x_8) (lv' := [(2, .int x_8), (0, .ref a0), (1, .int x1)]) hx hb dX2_workOut_112 hl (k := 2) rfl (by rw [ex_8]; rfl) (by decide) rfl (fun ls hl => ?_)
        refine lv_goto (tgt := 84) hx hb dX2_workOut_115 (by decide) ?_
        exact ih hp hW hE (lv_sub hl [1, 2, 0] rfl) hL_a0 hK_a0
set_option maxHeartbeats 4000000 in
set_option maxRecDepth 100000 in
theorem t_X2_workOut_65 {p : Program} {l : Launch} {e : Env} {s : State} {m : MethodId} {args : Array Value} {below : List Frame} {meth : Method} {c : Code} {D : wD} {cy : Nat → ClassId} {X : va_W} {A : Nat → Prop} {S0 : wS} {post : wS → Prop} (F : CallFix p m c cX2_workOut 3 s args wz_X2_workOut RX2) (hr : meth.sig.returnType = none) (hlocks : meth.locks = false) (hK : wK D cy A s) : ∀ {S : wS} {H : Heap} {locs : List Loc} {ls : Array Slot} {a0 : Nat} {x1 : Int32}, wp_X2_workOut_65 D post S a0 x1 → wO D cy X A s.heap S H locs → wX D S0 S → lv_has ls 3 [(0, .ref a0), (1, .int x1)] → wM D S a0 → sK S a0 = 7 → W p l e r_X2_workOut s m args below meth c H locs 3 171875 (MQ below (va_Qv (fun S9 => wX D S0 S9 ∧ post S9) (wB D cy X A) A) args s 3 171875 A) (F0 m 65 ls []) := by
  obtain ⟨hx, hb, hml, hown, hts⟩ := id F
  have hwg : ∀ w ∈ WG, w.before args s = true := fun w h => hts w (List.mem_cons_of_mem _ h)
  have i_7 : ∀ w ∈ u_ws RX2 TX2 8, w ∈ wz_X2_workOut := fun w h => List.mem_cons_of_mem _ (wu_7 w h)
  have k_31 := hwg _ wf_RX2_31
  intro S H locs ls a0 x1 hp hW hE hl hL_a0 hK_a0
  unfold wp_X2_workOut_65 at hp
  refine lv_aload_n hx hb dX2_workOut_65 rfl (lv_at hl 0 rfl) ?_
  refine lv_iconst (v := 0) hx hb dX2_workOut_66 (by decide) ?_
  refine w_putI (k := 7) (f := 7) (T := TX2) F hK hW hL_a0 hK_a0 (by decide) (by decide) rfl rfl (by decide) i_7 tyX2 tyX2_ok nmX2 k_31 rfl rfl (ty := .int) rfl rfl rfl dX2_workOut_67 (fun H locs hW => ?_)
  obtain ⟨S_1, eS_1⟩ : ∃ z : wS, z = uI S a0 7 (0 : Int32) := ⟨_, rfl⟩
  rw [← eS_1] at hW
  replace hp := hp S_1 eS_1
  have hX_S_1 : wX D S S_1 := by rw [eS_1]; exact wX_uI
  have hE := hE.trans hX_S_1
  have hK_a0 : sK S_1 a0 = 7 := (hX_S_1.2 a0 hL_a0).1.trans hK_a0
  have hL_a0 : wM D S_1 a0 := hX_S_1.M hL_a0
  refine lv_aload_n hx hb dX2_workOut_70 rfl (lv_at hl 0 rfl) ?_
  refine lv_iload_n hx hb dX2_workOut_71 rfl (lv_at hl 1 rfl) ?_
  refine lv_iconst (v := 1) hx hb dX2_workOut_72 (by decide) ?_
  refine w_callV (va_runV (As := [.int x1, .int (1 : Int32)]) (rest := []) F (c_X2_forEachPlace l hL_a0 hK_a0 hp H.size) (cwV (C := RX2) 2 hts (wg_V wm_RX2_110 wy_X2_forEachPlace) rfl rfl rfl (by decide +kernel) ⟨Nat.le_of_ble_eq_true rfl, Nat.le_of_ble_eq_true rfl⟩) (w_preV hK hW hL_a0 hK_a0 (by decide) rfl) rfl rfl hl.1 rfl (lv_room (Nat.le_of_ble_eq_true rfl)) dX2_workOut_73 ⟨Nat.le_of_ble_eq_true rfl, Nat.le_of_ble_eq_true rfl⟩) hW (fun S_3 H locs hp hW => ?_)
  obtain ⟨hX_S_3, hp⟩ := hp
  refine W.widen (k := 3) (n := 171875) (by decide) (by decide) ?_
  have hE := hE.trans hX_S_3
  have hK_a0 : sK S_3 a0 = 7 := (hX_S_3.2 a0 hL_a0).1.trans hK_a0
  have hL_a0 : wM D S_3 a0 := hX_S_3.M hL_a0
  refine lv_aload_n hx hb dX2_workOut_76 rfl (lv_at hl 0 rfl) ?_
  refine lv_iload_n hx hb dX2_workOut_77 rfl (lv_at hl 1 rfl) ?_
  refine lv_iconst (v := 0) hx hb dX2_workOut_78 (by decide) ?_
  refine w_callV (va_runV (As := [.int x1, .int (0 : Int32)]) (rest := []) F (c_X2_forEachPlace l hL_a0 hK_a0 hp H.size) (cwV (C := RX2) 2 hts (wg_V wm_RX2_110 wy_X2_forEachPlace) rfl rfl rfl (by decide +kernel) ⟨Nat.le_of_ble_eq_true rfl, Nat.le_of_ble_eq_true rfl⟩) (w_preV hK hW hL_a0 hK_a0 (by decide) rfl) rfl rfl hl.1 rfl (lv_room (Nat.le_of_ble_eq_true rfl)) dX2_workOut_79 ⟨Nat.le_of_ble_eq_true rfl, Nat.le_of_ble_eq_true rfl⟩) hW (fun S_5 H locs hp hW => ?_)
  obtain ⟨hX_S_5, hp⟩ := hp
  refine W.widen (k := 3) (n := 171875) (by decide) (by decide) ?_
  have hE := hE.trans hX_S_5
  have hK_a0 : sK S_5 a0 = 7 := (hX_S_5.2 a0 hL_a0).1.trans hK_a0
  have hL_a0 : wM D S_5 a0 := hX_S_5.M hL_a0
  refine lv_iconst (v := 0) hx hb dX2_workOut_82 (by decide) ?_
  refine lv_istore_n (lv' := [(2, .int (0 : Int32)), (0, .ref a0), (1, .int x1)]) hx hb dX2_workOut_83 rfl hl (by decide) rfl (fun ls hl => ?_)
  obtain ⟨n_6, hp⟩ := hp
  exact t_X2_workOut_84 F hr hlocks hK n_6 hp hW hE (lv_sub hl [1, 2, 0] rfl) hL_a0 hK_a0
set_option maxHeartbeats 4000000 in
set_option maxRecDepth 100000 in
theorem t_X2_workOut_30 {p : Program} {l : Launch} {e : Env} {s : State} {m : MethodId} {args : Array Value} {below : List Frame} {meth : Method} {c : Code} {D : wD} {cy : Nat → ClassId} {X : va_W} {A : Nat → Prop} {S0 : wS} {post : wS → Prop} (F : CallFix p m c cX2_workOut 3 s args wz_X2_workOut RX2) (hr : meth.sig.returnType = none) (hlocks : meth.locks = false) (hK : wK D cy A s) : ∀ {S : wS} {H : Heap} {locs : List Loc} {ls : Array Slot}, wp_X2_workOut_30 D post S → wO D cy X A s.heap S H locs → wX D S0 S → lv_has ls 3 [] → W p l e r_X2_workOut s m args below meth c H locs 0 0 (MQ below (va_Qv (fun S9 => wX D S0 S9 ∧ post S9) (wB D cy X A) A) args s 3 171875 A) (F0 m 30 ls []) := by
  obtain ⟨hx, hb, hml, hown, hts⟩ := id F
  have hwg : ∀ w ∈ WG, w.before args s = true := fun w h => hts w (List.mem_cons_of_mem _ h)
  intro S H locs ls hp hW hE hl
  unfold wp_X2_workOut_30 at hp
  refine W.widen (k := 3) (n := 171875) (by decide) (by decide) ?_
  exact w_vret hx hb hr hlocks hW ⟨hE, hp⟩ dX2_workOut_30
set_option maxHeartbeats 4000000 in
set_option maxRecDepth 100000 in
theorem t_X2_workOut_0 {p : Program} {l : Launch} {e : Env} {s : State} {m : MethodId} {args : Array Value} {below : List Frame} {meth : Method} {c : Code} {D : wD} {cy : Nat → ClassId} {X : va_W} {A : Nat → Prop} {S0 : wS} {post : wS → Prop} (F : CallFix p m c cX2_workOut 3 s args wz_X2_workOut RX2) (hr : meth.sig.returnType = none) (hlocks : meth.locks = false) (hK : wK D cy A s) : ∀ {S : wS} {H : Heap} {locs : List Loc} {ls : Array Slot} {a0 : Nat} {x1 : Int32}, wp_X2_workOut_0 D post S a0 x1 → wO D cy X A s.heap S H locs → wX D S0 S → lv_has ls 3 [(0, .ref a0), (1, .int x1)] → wM D S a0 → sK S a0 = 7 → W p l e r_X2_workOut s m args below meth c H locs 0 0 (MQ below (va_Qv (fun S9 => wX D S0 S9 ∧ post S9) (wB D cy X A) A) args s 3 171875 A) (F0 m 0 ls []) := by
  obtain ⟨hx, hb, hml, hown, hts⟩ := id F
  have hwg : ∀ w ∈ WG, w.before args s = true := fun w h => hts w (List.mem_cons_of_mem _ h)
  have i_5 : ∀ w ∈ u_ws RX0 TX0 12, w ∈ wz_X2_workOut := fun w h => List.mem_cons_of_mem _ (wu_5 w h)
  have i_7 : ∀ w ∈ u_ws RX2 TX2 8, w ∈ wz_X2_workOut := fun w h => List.mem_cons_of_mem _ (wu_7 w h)
  have k_22 := hwg _ wf_RX2_22
  have k_25 := hwg _ wf_RX2_25
  have k_28 := hwg _ wf_RX2_28
  have k_35 := hwg _ wf_RX2_35
  intro S H locs ls a0 x1 hp hW hE hl hL_a0 hK_a0
  unfold wp_X2_workOut_0 at hp
  refine lv_aload_n hx hb dX2_workOut_0 rfl (lv_at hl 0 rfl) ?_
  refine lv_iload_n hx hb dX2_workOut_1 rfl (lv_at hl 1 rfl) ?_
  refine w_callI (va_runV (As := [.int x1]) (rest := []) F (c_X2_isWorkedOut l hL_a0 hK_a0 hp H.size) (cwV (C := RX2) 1 hts (wg_V wm_RX2_45 wy_X2_isWorkedOut) rfl rfl rfl (by decide +kernel) ⟨Nat.le_of_ble_eq_true rfl, Nat.le_of_ble_eq_true rfl⟩) (w_preV hK hW hL_a0 hK_a0 (by decide) rfl) rfl rfl hl.1 rfl (lv_room (Nat.le_of_ble_eq_true rfl)) dX2_workOut_2 ⟨Nat.le_of_ble_eq_true rfl, Nat.le_of_ble_eq_true rfl⟩) hW (fun r_1 S_2 H locs hp hW => ?_)
  obtain ⟨hX_S_2, hp⟩ := hp
  refine W.widen (k := 0) (n := 0) (by decide) (by decide) ?_
  have hE := hE.trans hX_S_2
  have hK_a0 : sK S_2 a0 = 7 := (hX_S_2.2 a0 hL_a0).1.trans hK_a0
  have hL_a0 : wM D S_2 a0 := hX_S_2.M hL_a0
  refine lv_if_ne (tgt := 30) hx hb dX2_workOut_5 (by decide) (fun c_3 => ?_) (fun c_3 => ?_)
  · replace hp := hp.1 c_3
    exact t_X2_workOut_30 F hr hlocks hK hp hW hE (lv_sub hl [] rfl)
  · replace hp := hp.2 c_3
    refine lv_iload_n hx hb dX2_workOut_8 rfl (lv_at hl 1 rfl) ?_
    refine lv_iconst (v := 2) hx hb dX2_workOut_9 (by decide) ?_
    refine lv_icmp_lt (tgt := 30) hx hb dX2_workOut_10 (by decide) (fun c_4 => ?_) (fun c_4 => ?_)
    · replace hp := hp.1 c_4
      exact t_X2_workOut_30 F hr hlocks hK hp hW hE (lv_sub hl [] rfl)
    · replace hp := hp.2 c_4
      refine lv_iload_n hx hb dX2_workOut_13 rfl (lv_at hl 1 rfl) ?_
      refine lv_iconst (v := 5) hx hb dX2_workOut_14 (by decide) ?_
      refine lv_icmp_gt (tgt := 30) hx hb dX2_workOut_15 (by decide) (fun c_5 => ?_) (fun c_5 => ?_)
      · replace hp := hp.1 c_5
        exact t_X2_workOut_30 F hr hlocks hK hp hW hE (lv_sub hl [] rfl)
      · replace hp := hp.2 c_5
        refine lv_aload_n hx hb dX2_workOut_18 rfl (lv_at hl 0 rfl) ?_
        obtain ⟨y_6, ey_6, hL_y_6, hK_y_6, hp⟩ := hp
        refine w_get (k := 7) (f := 0) (T := TX2) (v := .ref y_6) F hK hW hL_a0 hK_a0 (by decide) rfl rfl (by decide) i_7 k_35 (by rw [show wv 7 0 S_2 a0 = va_rf (sR S_2 a0 0) from rfl, ey_6]; rfl) dX2_workOut_19 ?_
        refine w_getN (k := 5) (f := 2) (T := TX0) (v := .int (sI S_2 y_6 2)) F hK hW hL_y_6 hK_y_6 (by decide) rfl rfl (by decide) i_5 (hK.2.1 (.fieldLinkNest "OpeningsCabinet$Endings" 104 "OpeningsCabinet$Board" "size" "I" "OpeningsCabinet") (by decide +kernel)) rfl dX2_workOut_22 ?_
        refine lv_bipush (v := 25) hx hb dX2_workOut_25 (by decide) ?_
        refine lv_icmp_le (tgt := 31) hx hb dX2_workOut_27 (by decide) (fun c_7 => ?_) (fun c_7 => ?_)
        · replace hp := hp.1 c_7
          refine lv_aload_n hx hb dX2_workOut_31 rfl (lv_at hl 0 rfl) ?_
          obtain ⟨y_8, ey_8, hL_y_8, hK_y_8, hp⟩ := hp
          refine w_get (k := 7) (f := 4) (T := TX2) (v := .ref y_8) F hK hW hL_a0 hK_a0 (by decide) rfl rfl (by decide) i_7 k_22 (by rw [show wv 7 4 S_2 a0 = va_rf (sR S_2 a0 4) from rfl, ey_8]; rfl) dX2_workOut_32 ?_
          refine w_len F hK hW hL_y_8 hK_y_8 (by decide) dX2_workOut_35 ?_
          refine lv_if_ne (tgt := 65) hx hb dX2_workOut_36 (by decide) (fun c_9 => ?_) (fun c_9 => ?_)
          · replace hp := hp.1 c_9
            refine W.widen (k := 3) (n := 171875) (by decide) (by decide) ?_
            exact t_X2_workOut_65 F hr hlocks hK hp hW hE (lv_sub hl [0, 1] rfl) hL_a0 hK_a0
          · replace hp := hp.2 c_9
            refine lv_aload_n hx hb dX2_workOut_39 rfl (lv_at hl 0 rfl) ?_
            refine lv_ldc hx hb hown (v := 125000) (hwg _ wI_RX2_109) dX2_workOut_40 ?_
            obtain ⟨h_12, h_12b, hp⟩ := hp
            refine w_newaI F hK hW (hwg _ wr_int) h_12 (by omega) (Nat.le_of_ble_eq_true rfl) (Nat.le_trans (Nat.add_le_add_left h_12b _) (Nat.le_of_ble_eq_true rfl)) dX2_workOut_42 (fun y_10 H hq_y_10 hW => ?_)
            refine W.widen (k := 1) (n := 125000) (by decide) (Nat.add_le_add_left h_12b _) ?_
            obtain ⟨S_11, eS_11⟩ : ∃ z : wS, z = nA S_2 y_10 21 ((125000 : Int32)).toNatClampNeg := ⟨_, rfl⟩
            rw [← eS_11] at hW
            replace hp := hp y_10 hq_y_10 S_11 eS_11
            have hX_S_11 : wX D S_2 S_11 := by rw [eS_11]; exact wX_nA hq_y_10
            have hE := hE.trans hX_S_11
            have hK_a0 : sK S_11 a0 = 7 := (hX_S_11.2 a0 hL_a0).1.trans hK_a0
            have hL_a0 : wM D S_11 a0 := hX_S_11.M hL_a0
            have hL_y_10 : wM D S_11 y_10 := by rw [eS_11]; exact Or.inl (List.mem_append_right _ List.mem_cons_self)
            have hK_y_10 : sK S_11 y_10 = 21 := by rw [eS_11]; exact va_up_self _ _ _
            refine w_putR (k := 7) (f := 4) (T := TX2) (g := (some y_10)) F hK hW hL_a0 hK_a0 (by decide) (by decide) rfl rfl (by decide) i_7 tyX2 tyX2_ok nmX2 k_22 rfl rfl (ty := (.array .int)) rfl (v_narrow _ _) (v_fitsA _ _) dX2_workOut_44 (fun H locs hW => ?_)
            obtain ⟨S_13, eS_13⟩ : ∃ z : wS, z = uR S_11 a0 4 (some y_10) := ⟨_, rfl⟩
            rw [← eS_13] at hW
            replace hp := hp S_13 eS_13
            have hX_S_13 : wX D S_11 S_13 := by rw [eS_13]; exact wX_uR
            have hE := hE.trans hX_S_13
            have hK_a0 : sK S_13 a0 = 7 := (hX_S_13.2 a0 hL_a0).1.trans hK_a0
            have hL_a0 : wM D S_13 a0 := hX_S_13.M hL_a0
            refine lv_aload_n hx hb dX2_workOut_47 rfl (lv_at hl 0 rfl) ?_
            refine lv_sipush (v := 31250) hx hb dX2_workOut_48 (by decide) ?_
            obtain ⟨h_16, h_16b, hp⟩ := hp
            refine w_newaI F hK hW (hwg _ wr_int) h_16 (by omega) (Nat.le_of_ble_eq_true rfl) (Nat.le_trans (Nat.add_le_add_left h_16b _) (Nat.le_of_ble_eq_true rfl)) dX2_workOut_51 (fun y_14 H hq_y_14 hW => ?_)
            refine W.widen (k := 2) (n := 156250) (by decide) (Nat.add_le_add_left h_16b _) ?_
            obtain ⟨S_15, eS_15⟩ : ∃ z : wS, z = nA S_13 y_14 21 ((31250 : Int32)).toNatClampNeg := ⟨_, rfl⟩
            rw [← eS_15] at hW
            replace hp := hp y_14 hq_y_14 S_15 eS_15
            have hX_S_15 : wX D S_13 S_15 := by rw [eS_15]; exact wX_nA hq_y_14
            have hE := hE.trans hX_S_15
            have hK_a0 : sK S_15 a0 = 7 := (hX_S_15.2 a0 hL_a0).1.trans hK_a0
            have hL_a0 : wM D S_15 a0 := hX_S_15.M hL_a0
            have hL_y_14 : wM D S_15 y_14 := by rw [eS_15]; exact Or.inl (List.mem_append_right _ List.mem_cons_self)
            have hK_y_14 : sK S_15 y_14 = 21 := by rw [eS_15]; exact va_up_self _ _ _
            refine w_putR (k := 7) (f := 5) (T := TX2) (g := (some y_14)) F hK hW hL_a0 hK_a0 (by decide) (by decide) rfl rfl (by decide) i_7 tyX2 tyX2_ok nmX2 k_25 rfl rfl (ty := (.array .int)) rfl (v_narrow _ _) (v_fitsA _ _) dX2_workOut_53 (fun H locs hW => ?_)
            obtain ⟨S_17, eS_17⟩ : ∃ z : wS, z = uR S_15 a0 5 (some y_14) := ⟨_, rfl⟩
            rw [← eS_17] at hW
            replace hp := hp S_17 eS_17
            have hX_S_17 : wX D S_15 S_17 := by rw [eS_17]; exact wX_uR
            have hE := hE.trans hX_S_17
            have hK_a0 : sK S_17 a0 = 7 := (hX_S_17.2 a0 hL_a0).1.trans hK_a0
            have hL_a0 : wM D S_17 a0 := hX_S_17.M hL_a0
            refine lv_aload_n hx hb dX2_workOut_56 rfl (lv_at hl 0 rfl) ?_
            refine lv_sipush (v := 15625) hx hb dX2_workOut_57 (by decide) ?_
            obtain ⟨h_20, h_20b, hp⟩ := hp
            refine w_newaI F hK hW (hwg _ wr_int) h_20 (by omega) (Nat.le_of_ble_eq_true rfl) (Nat.le_trans (Nat.add_le_add_left h_20b _) (Nat.le_of_ble_eq_true rfl)) dX2_workOut_60 (fun y_18 H hq_y_18 hW => ?_)
            refine W.widen (k := 3) (n := 171875) (by decide) (Nat.add_le_add_left h_20b _) ?_
            obtain ⟨S_19, eS_19⟩ : ∃ z : wS, z = nA S_17 y_18 21 ((15625 : Int32)).toNatClampNeg := ⟨_, rfl⟩
            rw [← eS_19] at hW
            replace hp := hp y_18 hq_y_18 S_19 eS_19
            have hX_S_19 : wX D S_17 S_19 := by rw [eS_19]; exact wX_nA hq_y_18
            have hE := hE.trans hX_S_19
            have hK_a0 : sK S_19 a0 = 7 := (hX_S_19.2 a0 hL_a0).1.trans hK_a0
            have hL_a0 : wM D S_19 a0 := hX_S_19.M hL_a0
            have hL_y_18 : wM D S_19 y_18 := by rw [eS_19]; exact Or.inl (List.mem_append_right _ List.mem_cons_self)
            have hK_y_18 : sK S_19 y_18 = 21 := by rw [eS_19]; exact va_up_self _ _ _
            refine w_putR (k := 7) (f := 6) (T := TX2) (g := (some y_18)) F hK hW hL_a0 hK_a0 (by decide) (by decide) rfl rfl (by decide) i_7 tyX2 tyX2_ok nmX2 k_28 rfl rfl (ty := (.array .int)) rfl (v_narrow _ _) (v_fitsA _ _) dX2_workOut_62 (fun H locs hW => ?_)
            obtain ⟨S_21, eS_21⟩ : ∃ z : wS, z = uR S_19 a0 6 (some y_18) := ⟨_, rfl⟩
            rw [← eS_21] at hW
            replace hp := hp S_21 eS_21
            have hX_S_21 : wX D S_19 S_21 := by rw [eS_21]; exact wX_uR
            have hE := hE.trans hX_S_21
            have hK_a0 : sK S_21 a0 = 7 := (hX_S_21.2 a0 hL_a0).1.trans hK_a0
            have hL_a0 : wM D S_21 a0 := hX_S_21.M hL_a0
            exact t_X2_workOut_65 F hr hlocks hK hp hW hE (lv_sub hl [0, 1] rfl) hL_a0 hK_a0
        · replace hp := hp.2 c_7
          exact t_X2_workOut_30 F hr hlocks hK hp hW hE (lv_sub hl [] rfl)
set_option maxHeartbeats 4000000 in
set_option maxRecDepth 100000 in
theorem c_X2_workOut (l : Launch) {D : wD} {cy : Nat → ClassId} {X : va_W} {S0 : wS} {post : wS → Prop} {a0 : Nat} {x1 : Int32} (hL_a0 : wM D S0 a0) (hK_a0 : sK S0 a0 = 7) (hp : wp_X2_workOut D post S0 a0 x1) : mV D cy X l yX2_workOut wz_X2_workOut r_X2_workOut [.ref a0, .int x1] S0 (fun S9 => wX D S0 S9 ∧ post S9) := by
  intro sz
  refine Met.ofW (cc := cX2_workOut) (maxL := 3) (ret := none) (by decide) rfl ?_
  intro p e s m args below meth c s₁ B hml hv
  obtain ⟨rfl, hsz, hP, hK, hD0, hRO⟩ := hv
  have hts := atoms_spec (ws := wz_X2_workOut) B.pre
  have hown : s.vm.findClass RX2 = some m.cls := findClass_of_methodNamed B.named
  subst hsz
  have hD := hD0.self (sz := s.heap.size)
  have F : CallFix p m c cX2_workOut 3 s _ wz_X2_workOut RX2 := ⟨B.exec, B.bytes, hml, hown, hts⟩
  have hr := B.returns
  have hlocks := B.notSynchronized
  generalize hAe : va_A (wL cy X S0) s.heap.size = A at hD hK ⊢
  have hA : ∀ q, s.heap.size ≤ q → A q := fun q h => by rw [← hAe]; exact Or.inr h
  have hW : wO D cy X A s.heap S0 s.heap [] := ⟨hP, hD, va_S.rf, hA, hRO⟩
  have hl := lv_entry ([.ref a0, .int x1]) (n := 3) (Nat.le_of_ble_eq_true rfl)
  rw [lg_entry_eq]
  generalize (lg_sl ([.ref a0, .int x1]) ++ List.replicate (3 - (lg_sl ([.ref a0, .int x1])).length) Slot.unset).toArray = ls at hl ⊢
  have hl : lv_has ls 3 [(0, .ref a0), (1, .int x1)] := hl
  unfold wp_X2_workOut at hp
  exact t_X2_workOut_0 F hr hlocks hK hp hW wX.rf (lv_sub hl [0, 1] rfl) hL_a0 hK_a0
def wp_X11_solve_0 (D : wD) (post : Int32 → wS → Prop) (xp : String → wS → Prop)  (S : wS) (a0 : Nat) (x1 : Int32) : Prop :=
wp_X11_mustBeEndingKind D (fun S_2 => 
∃ y_3 : Nat, sR S_2 a0 0 = some y_3 ∧ wM D S_2 y_3 ∧ sK S_2 y_3 = 5 ∧
(((sI S_2 y_3 2) ≤ (25 : Int32) → ∃ y_5 : Nat, sR S_2 a0 12 = some y_5 ∧ wM D S_2 y_5 ∧ sK S_2 y_5 = 7 ∧
wp_X2_workOut D (fun S_7 => 
∃ y_8 : Nat, sR S_7 a0 12 = some y_8 ∧ wM D S_7 y_8 ∧ sK S_7 y_8 = 7 ∧
wp_X2_winsOf D (fun r_9 S_10 => 
post r_9 S_10) S_7 y_8 x1) S_2 y_5 x1) ∧
 (¬ (sI S_2 y_3 2) ≤ (25 : Int32) → xp "java/lang/IllegalStateException" S_2))) xp S x1
abbrev r_X11_solve : Room := { frames := 7, cells := 4, slots := 171881, locals := 157 }
def wp_X11_solve (D : wD) (post : Int32 → wS → Prop) (xp : String → wS → Prop) (S : wS) (a0 : Nat) (x1 : Int32) : Prop := wp_X11_solve_0 D post xp S a0 x1
set_option maxHeartbeats 4000000 in
set_option maxRecDepth 100000 in
theorem t_X11_solve_0 {p : Program} {l : Launch} {e : Env} {s : State} {m : MethodId} {args : Array Value} {below : List Frame} {meth : Method} {c : Code} {D : wD} {cy : Nat → ClassId} {X : va_W} {A : Nat → Prop} {S0 : wS} {post : Int32 → wS → Prop} {xp : String → wS → Prop} (F : CallFix p m c cX11_solve 2 s args wz_X11_solve RX11) (hr : meth.sig.returnType = (some .int)) (hlocks : meth.locks = false) (hK : wK D cy A s) (hl0 : l.stackTraces = false) (hexc : ∀ x ∈ c.exceptionTable.toList, False) : ∀ {S : wS} {H : Heap} {locs : List Loc} {ls : Array Slot} {a0 : Nat} {x1 : Int32}, wp_X11_solve_0 D post xp S a0 x1 → wO D cy X A s.heap S H locs → wX D S0 S → lv_has ls 2 [(0, .ref a0), (1, .int x1)] → wM D S a0 → sK S a0 = 16 → W p l e r_X11_solve s m args below meth c H locs 0 0 (vx_MQ below (va_Qi (fun r S9 => wX D S0 S9 ∧ post r S9) (wB D cy X A) A) (wEx D cy X A (fun E S9 => wX D S0 S9 ∧ xp E S9)) args s 4 171881 A) (F0 m 0 ls []) := by
  obtain ⟨hx, hb, hml, hown, hts⟩ := id F
  have hwg : ∀ w ∈ WG, w.before args s = true := fun w h => hts w (List.mem_cons_of_mem _ h)
  have i_16 : ∀ w ∈ u_ws RX11 TX11 18, w ∈ wz_X11_solve := fun w h => List.mem_cons_of_mem _ (wu_16 w h)
  have i_5 : ∀ w ∈ u_ws RX0 TX0 12, w ∈ wz_X11_solve := fun w h => List.mem_cons_of_mem _ (wu_5 w h)
  have k_12 := hwg _ wf_RX11_12
  have k_98 := hwg _ wf_RX11_98
  intro S H locs ls a0 x1 hp hW hE hl hL_a0 hK_a0
  unfold wp_X11_solve_0 at hp
  refine lv_iload_n hx hb dX11_solve_0 rfl (lv_at hl 1 rfl) ?_
  refine x_callV (vx_runS (As := [.int x1]) (rest := []) F (c_X11_mustBeEndingKind l hl0 hp H.size) (va_cwS 1 hts (wg_S wm_RX11_446 wy_X11_mustBeEndingKind) rfl rfl rfl (by decide +kernel) ⟨Nat.le_of_ble_eq_true rfl, Nat.le_of_ble_eq_true rfl⟩) (w_preS hK hW) rfl rfl hl.1 rfl (lv_room (Nat.le_of_ble_eq_true rfl)) dX11_solve_1 ⟨Nat.le_of_ble_eq_true rfl, Nat.le_of_ble_eq_true rfl⟩) hW (fun E ce q9 S9 H locs hp hW h1 h2 h3 => x_out hexc hlocks ⟨hE.trans hp.1, hp.2⟩ hW h1 h2 h3 (by decide) (by decide)) (fun S_2 H locs hp hW => ?_)
  obtain ⟨hX_S_2, hp⟩ := hp
  refine W.widen (k := 1) (n := 6) (by decide) (by decide) ?_
  have hE := hE.trans hX_S_2
  have hK_a0 : sK S_2 a0 = 16 := (hX_S_2.2 a0 hL_a0).1.trans hK_a0
  have hL_a0 : wM D S_2 a0 := hX_S_2.M hL_a0
  refine lv_aload_n hx hb dX11_solve_4 rfl (lv_at hl 0 rfl) ?_
  obtain ⟨y_3, ey_3, hL_y_3, hK_y_3, hp⟩ := hp
  refine w_get (k := 16) (f := 0) (T := TX11) (v := .ref y_3) F hK hW hL_a0 hK_a0 (by decide) rfl rfl (by decide) i_16 k_12 (by rw [show wv 16 0 S_2 a0 = va_rf (sR S_2 a0 0) from rfl, ey_3]; rfl) dX11_solve_5 ?_
  refine w_getN (k := 5) (f := 2) (T := TX0) (v := .int (sI S_2 y_3 2)) F hK hW hL_y_3 hK_y_3 (by decide) rfl rfl (by decide) i_5 (hK.2.1 (.fieldLinkNest "OpeningsCabinet" 154 "OpeningsCabinet$Board" "size" "I" "OpeningsCabinet") (by decide +kernel)) rfl dX11_solve_8 ?_
  refine lv_bipush (v := 25) hx hb dX11_solve_11 (by decide) ?_
  refine lv_icmp_le (tgt := 27) hx hb dX11_solve_13 (by decide) (fun c_4 => ?_) (fun c_4 => ?_)
  · replace hp := hp.1 c_4
    refine lv_aload_n hx hb dX11_solve_27 rfl (lv_at hl 0 rfl) ?_
    obtain ⟨y_5, ey_5, hL_y_5, hK_y_5, hp⟩ := hp
    refine w_get (k := 16) (f := 12) (T := TX11) (v := .ref y_5) F hK hW hL_a0 hK_a0 (by decide) rfl rfl (by decide) i_16 k_98 (by rw [show wv 16 12 S_2 a0 = va_rf (sR S_2 a0 12) from rfl, ey_5]; rfl) dX11_solve_28 ?_
    refine lv_iload_n hx hb dX11_solve_31 rfl (lv_at hl 1 rfl) ?_
    refine w_callV (va_runV (As := [.int x1]) (rest := []) F (c_X2_workOut l hL_y_5 hK_y_5 hp H.size) (cwV (C := RX2) 1 hts (wg_V wm_RX11_451 wy_X2_workOut) rfl rfl rfl (by decide +kernel) ⟨Nat.le_of_ble_eq_true rfl, Nat.le_of_ble_eq_true rfl⟩) (w_preV hK hW hL_y_5 hK_y_5 (by decide) rfl) rfl rfl hl.1 rfl (lv_room (Nat.le_of_ble_eq_true rfl)) dX11_solve_32 ⟨Nat.le_of_ble_eq_true rfl, Nat.le_of_ble_eq_true rfl⟩) hW (fun S_7 H locs hp hW => ?_)
    obtain ⟨hX_S_7, hp⟩ := hp
    refine W.widen (k := 4) (n := 171881) (by decide) (by decide) ?_
    have hE := hE.trans hX_S_7
    have hK_a0 : sK S_7 a0 = 16 := (hX_S_7.2 a0 hL_a0).1.trans hK_a0
    have hL_a0 : wM D S_7 a0 := hX_S_7.M hL_a0
    refine lv_aload_n hx hb dX11_solve_35 rfl (lv_at hl 0 rfl) ?_
    obtain ⟨y_8, ey_8, hL_y_8, hK_y_8, hp⟩ := hp
    refine w_get (k := 16) (f := 12) (T := TX11) (v := .ref y_8) F hK hW hL_a0 hK_a0 (by decide) rfl rfl (by decide) i_16 k_98 (by rw [show wv 16 12 S_7 a0 = va_rf (sR S_7 a0 12) from rfl, ey_8]; rfl) dX11_solve_36 ?_
    refine lv_iload_n hx hb dX11_solve_39 rfl (lv_at hl 1 rfl) ?_
    refine w_callI (va_runV (As := [.int x1]) (rest := []) F (c_X2_winsOf l hL_y_8 hK_y_8 hp H.size) (cwV (C := RX2) 1 hts (wg_V wm_RX11_454 wy_X2_winsOf) rfl rfl rfl (by decide +kernel) ⟨Nat.le_of_ble_eq_true rfl, Nat.le_of_ble_eq_true rfl⟩) (w_preV hK hW hL_y_8 hK_y_8 (by decide) rfl) rfl rfl hl.1 rfl (lv_room (Nat.le_of_ble_eq_true rfl)) dX11_solve_40 ⟨Nat.le_of_ble_eq_true rfl, Nat.le_of_ble_eq_true rfl⟩) hW (fun r_9 S_10 H locs hp hW => ?_)
    obtain ⟨hX_S_10, hp⟩ := hp
    refine W.widen (k := 4) (n := 171881) (by decide) (by decide) ?_
    have hE := hE.trans hX_S_10
    have hK_a0 : sK S_10 a0 = 16 := (hX_S_10.2 a0 hL_a0).1.trans hK_a0
    have hL_a0 : wM D S_10 a0 := hX_S_10.M hL_a0
    refine vx_ret ?_
    exact w_iret hx hb hr hlocks hW ⟨hE, hp⟩ dX11_solve_43
  · replace hp := hp.2 c_4
    exact x_throwW (ls := ls) F hK hW hl0 (by decide) (hwg _ wc_RX11_285) (hwg _ wi_java_lang_IllegalStateException) (show ("OpeningsCabinet", 449, "the board has more than 25 squares", 43) ∈ wStr by decide +kernel) (wa_RX11_289 hwg hK.2.1) wa_RX11_289_ok hl.1 hexc hlocks dX11_solve_16 dX11_solve_19 dX11_solve_20 dX11_solve_23 dX11_solve_26 (Nat.le_of_ble_eq_true rfl) (Nat.le_of_ble_eq_true rfl) (Nat.le_of_ble_eq_true rfl) (Nat.le_of_ble_eq_true rfl) (by decide) (by decide) ⟨hE, hp⟩
set_option maxHeartbeats 4000000 in
set_option maxRecDepth 100000 in
theorem c_X11_solve (l : Launch) {D : wD} {cy : Nat → ClassId} {X : va_W} {S0 : wS} {post : Int32 → wS → Prop} {xp : String → wS → Prop} (hl0 : l.stackTraces = false) {a0 : Nat} {x1 : Int32} (hL_a0 : wM D S0 a0) (hK_a0 : sK S0 a0 = 16) (hp : wp_X11_solve D post xp S0 a0 x1) : xI D cy X l yX11_solve wz_X11_solve r_X11_solve [.ref a0, .int x1] S0 (fun r S9 => wX D S0 S9 ∧ post r S9) (fun E S9 => wX D S0 S9 ∧ xp E S9) := by
  intro sz
  refine vx_ofW (cc := cX11_solve) (maxL := 2) (ret := (some .int)) (by decide) rfl ?_
  intro p e s m args below meth c s₁ B hml hexc hv
  obtain ⟨rfl, hsz, hP, hK, hD0, hRO⟩ := hv
  have hts := atoms_spec (ws := wz_X11_solve) B.pre
  have hown : s.vm.findClass RX11 = some m.cls := findClass_of_methodNamed B.named
  subst hsz
  have hD := hD0.self (sz := s.heap.size)
  have F : CallFix p m c cX11_solve 2 s _ wz_X11_solve RX11 := ⟨B.exec, B.bytes, hml, hown, hts⟩
  have hr := B.returns
  have hlocks := B.notSynchronized
  generalize hAe : va_A (wL cy X S0) s.heap.size = A at hD hK ⊢
  have hA : ∀ q, s.heap.size ≤ q → A q := fun q h => by rw [← hAe]; exact Or.inr h
  have hW : wO D cy X A s.heap S0 s.heap [] := ⟨hP, hD, va_S.rf, hA, hRO⟩
  have hl := lv_entry ([.ref a0, .int x1]) (n := 2) (Nat.le_of_ble_eq_true rfl)
  rw [lg_entry_eq]
  generalize (lg_sl ([.ref a0, .int x1]) ++ List.replicate (2 - (lg_sl ([.ref a0, .int x1])).length) Slot.unset).toArray = ls at hl ⊢
  have hl : lv_has ls 2 [(0, .ref a0), (1, .int x1)] := hl
  unfold wp_X11_solve at hp
  exact t_X11_solve_0 F hr hlocks hK hl0 hexc hp hW wX.rf (lv_sub hl [0, 1] rfl) hL_a0 hK_a0
def wp_X11_startHere_0 (D : wD) (post : Int32 → wS → Prop)  (S : wS) (a0 : Nat) : Prop :=
∃ y_1 : Nat, sR S a0 4 = some y_1 ∧ wM D S y_1 ∧ sK S y_1 = 8 ∧
∀ x_2 : Int32, x_2 = (sI S y_1 3) →
∃ y_3 : Nat, sR S a0 4 = some y_3 ∧ wM D S y_3 ∧ sK S y_3 = 8 ∧
∃ y_4 : Nat, sR S a0 2 = some y_4 ∧ wM D S y_4 ∧ sK S y_4 = 12 ∧
wp_X3_begin D (fun S_6 => 
post x_2 S_6) S y_3 y_4
abbrev r_X11_startHere : Room := { frames := 3, cells := 0, slots := 0, locals := 64 }
def wp_X11_startHere (D : wD) (post : Int32 → wS → Prop) (S : wS) (a0 : Nat) : Prop := wp_X11_startHere_0 D post S a0
set_option maxHeartbeats 4000000 in
set_option maxRecDepth 100000 in
theorem t_X11_startHere_0 {p : Program} {l : Launch} {e : Env} {s : State} {m : MethodId} {args : Array Value} {below : List Frame} {meth : Method} {c : Code} {D : wD} {cy : Nat → ClassId} {X : va_W} {A : Nat → Prop} {S0 : wS} {post : Int32 → wS → Prop} (F : CallFix p m c cX11_startHere 2 s args wz_X11_startHere RX11) (hr : meth.sig.returnType = (some .int)) (hlocks : meth.locks = false) (hK : wK D cy A s) : ∀ {S : wS} {H : Heap} {locs : List Loc} {ls : Array Slot} {a0 : Nat}, wp_X11_startHere_0 D post S a0 → wO D cy X A s.heap S H locs → wX D S0 S → lv_has ls 2 [(0, .ref a0)] → wM D S a0 → sK S a0 = 16 → W p l e r_X11_startHere s m args below meth c H locs 0 0 (MQ below (va_Qi (fun r S9 => wX D S0 S9 ∧ post r S9) (wB D cy X A) A) args s 0 0 A) (F0 m 0 ls []) := by
  obtain ⟨hx, hb, hml, hown, hts⟩ := id F
  have hwg : ∀ w ∈ WG, w.before args s = true := fun w h => hts w (List.mem_cons_of_mem _ h)
  have i_16 : ∀ w ∈ u_ws RX11 TX11 18, w ∈ wz_X11_startHere := fun w h => List.mem_cons_of_mem _ (wu_16 w h)
  have i_8 : ∀ w ∈ u_ws RX3 TX3 9, w ∈ wz_X11_startHere := fun w h => List.mem_cons_of_mem _ (wu_8 w h)
  have k_28 := hwg _ wf_RX11_28
  have k_40 := hwg _ wf_RX11_40
  intro S H locs ls a0 hp hW hE hl hL_a0 hK_a0
  unfold wp_X11_startHere_0 at hp
  refine lv_aload_n hx hb dX11_startHere_0 rfl (lv_at hl 0 rfl) ?_
  obtain ⟨y_1, ey_1, hL_y_1, hK_y_1, hp⟩ := hp
  refine w_get (k := 16) (f := 4) (T := TX11) (v := .ref y_1) F hK hW hL_a0 hK_a0 (by decide) rfl rfl (by decide) i_16 k_40 (by rw [show wv 16 4 S a0 = va_rf (sR S a0 4) from rfl, ey_1]; rfl) dX11_startHere_1 ?_
  refine w_getN (k := 8) (f := 3) (T := TX3) (v := .int (sI S y_1 3)) F hK hW hL_y_1 hK_y_1 (by decide) rfl rfl (by decide) i_8 (hK.2.1 (.fieldLinkNest "OpeningsCabinet" 157 "OpeningsCabinet$Game" "length" "I" "OpeningsCabinet") (by decide +kernel)) rfl dX11_startHere_4 ?_
  refine lv_topi (fun x_2 ex_2 => ?_)
  replace hp := hp x_2 ex_2
  refine lv_istore_n (lv' := [(1, .int x_2), (0, .ref a0)]) hx hb dX11_startHere_7 rfl hl (by decide) rfl (fun ls hl => ?_)
  refine lv_aload_n hx hb dX11_startHere_8 rfl (lv_at hl 1 rfl) ?_
  obtain ⟨y_3, ey_3, hL_y_3, hK_y_3, hp⟩ := hp
  refine w_get (k := 16) (f := 4) (T := TX11) (v := .ref y_3) F hK hW hL_a0 hK_a0 (by decide) rfl rfl (by decide) i_16 k_40 (by rw [show wv 16 4 S a0 = va_rf (sR S a0 4) from rfl, ey_3]; rfl) dX11_startHere_9 ?_
  refine lv_aload_n hx hb dX11_startHere_12 rfl (lv_at hl 1 rfl) ?_
  obtain ⟨y_4, ey_4, hL_y_4, hK_y_4, hp⟩ := hp
  refine w_get (k := 16) (f := 2) (T := TX11) (v := .ref y_4) F hK hW hL_a0 hK_a0 (by decide) rfl rfl (by decide) i_16 k_28 (by rw [show wv 16 2 S a0 = va_rf (sR S a0 2) from rfl, ey_4]; rfl) dX11_startHere_13 ?_
  refine w_callV (va_runV (As := [.ref y_4]) (rest := []) F (c_X3_begin l hL_y_3 hK_y_3 hL_y_4 hK_y_4 hp H.size) (cwV (C := RX3) 1 hts (wg_V wm_RX11_130 wy_X3_begin) rfl rfl rfl (by decide +kernel) ⟨Nat.le_of_ble_eq_true rfl, Nat.le_of_ble_eq_true rfl⟩) (w_preV hK hW hL_y_3 hK_y_3 (by decide) rfl) rfl rfl hl.1 rfl (lv_room (Nat.le_of_ble_eq_true rfl)) dX11_startHere_16 ⟨Nat.le_of_ble_eq_true rfl, Nat.le_of_ble_eq_true rfl⟩) hW (fun S_6 H locs hp hW => ?_)
  obtain ⟨hX_S_6, hp⟩ := hp
  refine W.widen (k := 0) (n := 0) (by decide) (by decide) ?_
  have hE := hE.trans hX_S_6
  have hK_a0 : sK S_6 a0 = 16 := (hX_S_6.2 a0 hL_a0).1.trans hK_a0
  have hL_a0 : wM D S_6 a0 := hX_S_6.M hL_a0
  refine lv_iload_n hx hb dX11_startHere_19 rfl (lv_at hl 0 rfl) ?_
  exact w_iret hx hb hr hlocks hW ⟨hE, hp⟩ dX11_startHere_20
set_option maxHeartbeats 4000000 in
set_option maxRecDepth 100000 in
theorem c_X11_startHere (l : Launch) {D : wD} {cy : Nat → ClassId} {X : va_W} {S0 : wS} {post : Int32 → wS → Prop} {a0 : Nat} (hL_a0 : wM D S0 a0) (hK_a0 : sK S0 a0 = 16) (hp : wp_X11_startHere D post S0 a0) : mI D cy X l yX11_startHere wz_X11_startHere r_X11_startHere [.ref a0] S0 (fun r S9 => wX D S0 S9 ∧ post r S9) := by
  intro sz
  refine Met.ofW (cc := cX11_startHere) (maxL := 2) (ret := (some .int)) (by decide) rfl ?_
  intro p e s m args below meth c s₁ B hml hv
  obtain ⟨rfl, hsz, hP, hK, hD0, hRO⟩ := hv
  have hts := atoms_spec (ws := wz_X11_startHere) B.pre
  have hown : s.vm.findClass RX11 = some m.cls := findClass_of_methodNamed B.named
  subst hsz
  have hD := hD0.self (sz := s.heap.size)
  have F : CallFix p m c cX11_startHere 2 s _ wz_X11_startHere RX11 := ⟨B.exec, B.bytes, hml, hown, hts⟩
  have hr := B.returns
  have hlocks := B.notSynchronized
  generalize hAe : va_A (wL cy X S0) s.heap.size = A at hD hK ⊢
  have hA : ∀ q, s.heap.size ≤ q → A q := fun q h => by rw [← hAe]; exact Or.inr h
  have hW : wO D cy X A s.heap S0 s.heap [] := ⟨hP, hD, va_S.rf, hA, hRO⟩
  have hl := lv_entry ([.ref a0]) (n := 2) (Nat.le_of_ble_eq_true rfl)
  rw [lg_entry_eq]
  generalize (lg_sl ([.ref a0]) ++ List.replicate (2 - (lg_sl ([.ref a0])).length) Slot.unset).toArray = ls at hl ⊢
  have hl : lv_has ls 2 [(0, .ref a0)] := hl
  unfold wp_X11_startHere at hp
  exact t_X11_startHere_0 F hr hlocks hK hp hW wX.rf (lv_sub hl [0] rfl) hL_a0 hK_a0
def wp_X11_state_0 (D : wD) (post : Int32 → wS → Prop) (xp : String → wS → Prop)  (S : wS) (a0 : Nat) : Prop :=
wp_X11_mustBeLawful D (fun S_2 => 
wp_X11_stateNow D (fun r_3 S_4 => 
post r_3 S_4) S_2 a0) xp S a0
abbrev r_X11_state : Room := { frames := 7, cells := 1, slots := 6, locals := 140 }
def wp_X11_state (D : wD) (post : Int32 → wS → Prop) (xp : String → wS → Prop) (S : wS) (a0 : Nat) : Prop := wp_X11_state_0 D post xp S a0
set_option maxHeartbeats 4000000 in
set_option maxRecDepth 100000 in
theorem t_X11_state_0 {p : Program} {l : Launch} {e : Env} {s : State} {m : MethodId} {args : Array Value} {below : List Frame} {meth : Method} {c : Code} {D : wD} {cy : Nat → ClassId} {X : va_W} {A : Nat → Prop} {S0 : wS} {post : Int32 → wS → Prop} {xp : String → wS → Prop} (F : CallFix p m c cX11_state 1 s args wz_X11_state RX11) (hr : meth.sig.returnType = (some .int)) (hlocks : meth.locks = false) (hK : wK D cy A s) (hl0 : l.stackTraces = false) (hexc : ∀ x ∈ c.exceptionTable.toList, False) : ∀ {S : wS} {H : Heap} {locs : List Loc} {ls : Array Slot} {a0 : Nat}, wp_X11_state_0 D post xp S a0 → wO D cy X A s.heap S H locs → wX D S0 S → lv_has ls 1 [(0, .ref a0)] → wM D S a0 → sK S a0 = 16 → W p l e r_X11_state s m args below meth c H locs 0 0 (vx_MQ below (va_Qi (fun r S9 => wX D S0 S9 ∧ post r S9) (wB D cy X A) A) (wEx D cy X A (fun E S9 => wX D S0 S9 ∧ xp E S9)) args s 1 6 A) (F0 m 0 ls []) := by
  obtain ⟨hx, hb, hml, hown, hts⟩ := id F
  have hwg : ∀ w ∈ WG, w.before args s = true := fun w h => hts w (List.mem_cons_of_mem _ h)
  intro S H locs ls a0 hp hW hE hl hL_a0 hK_a0
  unfold wp_X11_state_0 at hp
  refine lv_aload_n hx hb dX11_state_0 rfl (lv_at hl 0 rfl) ?_
  refine x_callV (vx_runV (As := []) (rest := []) F (c_X11_mustBeLawful l hl0 hL_a0 hK_a0 hp H.size) (cwV (C := RX11) 0 hts (wg_V wm_RX11_217 wy_X11_mustBeLawful) rfl rfl rfl (by decide +kernel) ⟨Nat.le_of_ble_eq_true rfl, Nat.le_of_ble_eq_true rfl⟩) (w_preV hK hW hL_a0 hK_a0 (by decide) rfl) rfl rfl hl.1 rfl (lv_room (Nat.le_of_ble_eq_true rfl)) dX11_state_1 ⟨Nat.le_of_ble_eq_true rfl, Nat.le_of_ble_eq_true rfl⟩) hW (fun E ce q9 S9 H locs hp hW h1 h2 h3 => x_out hexc hlocks ⟨hE.trans hp.1, hp.2⟩ hW h1 h2 h3 (by decide) (by decide)) (fun S_2 H locs hp hW => ?_)
  obtain ⟨hX_S_2, hp⟩ := hp
  refine W.widen (k := 1) (n := 6) (by decide) (by decide) ?_
  have hE := hE.trans hX_S_2
  have hK_a0 : sK S_2 a0 = 16 := (hX_S_2.2 a0 hL_a0).1.trans hK_a0
  have hL_a0 : wM D S_2 a0 := hX_S_2.M hL_a0
  refine lv_aload_n hx hb dX11_state_4 rfl (lv_at hl 0 rfl) ?_
  refine w_callI (va_runV (As := []) (rest := []) F (c_X11_stateNow l hL_a0 hK_a0 hp H.size) (cwV (C := RX11) 0 hts (wg_V wm_RX11_293 wy_X11_stateNow) rfl rfl rfl (by decide +kernel) ⟨Nat.le_of_ble_eq_true rfl, Nat.le_of_ble_eq_true rfl⟩) (w_preV hK hW hL_a0 hK_a0 (by decide) rfl) rfl rfl hl.1 rfl (lv_room (Nat.le_of_ble_eq_true rfl)) dX11_state_5 ⟨Nat.le_of_ble_eq_true rfl, Nat.le_of_ble_eq_true rfl⟩) hW (fun r_3 S_4 H locs hp hW => ?_)
  obtain ⟨hX_S_4, hp⟩ := hp
  refine W.widen (k := 1) (n := 6) (by decide) (by decide) ?_
  have hE := hE.trans hX_S_4
  have hK_a0 : sK S_4 a0 = 16 := (hX_S_4.2 a0 hL_a0).1.trans hK_a0
  have hL_a0 : wM D S_4 a0 := hX_S_4.M hL_a0
  refine vx_ret ?_
  exact w_iret hx hb hr hlocks hW ⟨hE, hp⟩ dX11_state_8
set_option maxHeartbeats 4000000 in
set_option maxRecDepth 100000 in
theorem c_X11_state (l : Launch) {D : wD} {cy : Nat → ClassId} {X : va_W} {S0 : wS} {post : Int32 → wS → Prop} {xp : String → wS → Prop} (hl0 : l.stackTraces = false) {a0 : Nat} (hL_a0 : wM D S0 a0) (hK_a0 : sK S0 a0 = 16) (hp : wp_X11_state D post xp S0 a0) : xI D cy X l yX11_state wz_X11_state r_X11_state [.ref a0] S0 (fun r S9 => wX D S0 S9 ∧ post r S9) (fun E S9 => wX D S0 S9 ∧ xp E S9) := by
  intro sz
  refine vx_ofW (cc := cX11_state) (maxL := 1) (ret := (some .int)) (by decide) rfl ?_
  intro p e s m args below meth c s₁ B hml hexc hv
  obtain ⟨rfl, hsz, hP, hK, hD0, hRO⟩ := hv
  have hts := atoms_spec (ws := wz_X11_state) B.pre
  have hown : s.vm.findClass RX11 = some m.cls := findClass_of_methodNamed B.named
  subst hsz
  have hD := hD0.self (sz := s.heap.size)
  have F : CallFix p m c cX11_state 1 s _ wz_X11_state RX11 := ⟨B.exec, B.bytes, hml, hown, hts⟩
  have hr := B.returns
  have hlocks := B.notSynchronized
  generalize hAe : va_A (wL cy X S0) s.heap.size = A at hD hK ⊢
  have hA : ∀ q, s.heap.size ≤ q → A q := fun q h => by rw [← hAe]; exact Or.inr h
  have hW : wO D cy X A s.heap S0 s.heap [] := ⟨hP, hD, va_S.rf, hA, hRO⟩
  have hl := lv_entry ([.ref a0]) (n := 1) (Nat.le_of_ble_eq_true rfl)
  rw [lg_entry_eq]
  generalize (lg_sl ([.ref a0]) ++ List.replicate (1 - (lg_sl ([.ref a0])).length) Slot.unset).toArray = ls at hl ⊢
  have hl : lv_has ls 1 [(0, .ref a0)] := hl
  unfold wp_X11_state at hp
  exact t_X11_state_0 F hr hlocks hK hl0 hexc hp hW wX.rf (lv_sub hl [0] rfl) hL_a0 hK_a0
def wp_X11_takeBack_0 (D : wD) (post : Int32 → wS → Prop) (xp : String → wS → Prop)  (S : wS) (a0 : Nat) : Prop :=
∃ y_1 : Nat, sR S a0 4 = some y_1 ∧ wM D S y_1 ∧ sK S y_1 = 8 ∧
((¬ (sI S y_1 3) = 0 → ∃ y_3 : Nat, sR S a0 4 = some y_3 ∧ wM D S y_3 ∧ sK S y_3 = 8 ∧
∀ S_4 : wS, S_4 = uI S y_3 3 ((sI S y_3 3) - (1 : Int32)) →
∃ y_5 : Nat, sR S_4 a0 2 = some y_5 ∧ wM D S_4 y_5 ∧ sK S_4 y_5 = 12 ∧
∃ y_6 : Nat, sR S_4 a0 4 = some y_6 ∧ wM D S_4 y_6 ∧ sK S_4 y_6 = 8 ∧
∃ y_7 : Nat, sR S_4 y_6 0 = some y_7 ∧ wM D S_4 y_7 ∧ sK S_4 y_7 = 22 ∧
∃ y_8 : Nat, sR S_4 a0 4 = some y_8 ∧ wM D S_4 y_8 ∧ sK S_4 y_8 = 8 ∧
wp_X7_load D (fun S_10 => 
∃ y_11 : Nat, sR S_10 a0 4 = some y_11 ∧ wM D S_10 y_11 ∧ sK S_10 y_11 = 8 ∧
post (sI S_10 y_11 3) S_10) S_4 y_5 y_7 (sI S_4 y_8 3)) ∧
 ((sI S y_1 3) = 0 → xp "java/lang/IllegalStateException" S))
abbrev r_X11_takeBack : Room := { frames := 6, cells := 1, slots := 6, locals := 120 }
def wp_X11_takeBack (D : wD) (post : Int32 → wS → Prop) (xp : String → wS → Prop) (S : wS) (a0 : Nat) : Prop := wp_X11_takeBack_0 D post xp S a0
set_option maxHeartbeats 4000000 in
set_option maxRecDepth 100000 in
theorem t_X11_takeBack_0 {p : Program} {l : Launch} {e : Env} {s : State} {m : MethodId} {args : Array Value} {below : List Frame} {meth : Method} {c : Code} {D : wD} {cy : Nat → ClassId} {X : va_W} {A : Nat → Prop} {S0 : wS} {post : Int32 → wS → Prop} {xp : String → wS → Prop} (F : CallFix p m c cX11_takeBack 1 s args wz_X11_takeBack RX11) (hr : meth.sig.returnType = (some .int)) (hlocks : meth.locks = false) (hK : wK D cy A s) (hl0 : l.stackTraces = false) (hexc : ∀ x ∈ c.exceptionTable.toList, False) : ∀ {S : wS} {H : Heap} {locs : List Loc} {ls : Array Slot} {a0 : Nat}, wp_X11_takeBack_0 D post xp S a0 → wO D cy X A s.heap S H locs → wX D S0 S → lv_has ls 1 [(0, .ref a0)] → wM D S a0 → sK S a0 = 16 → W p l e r_X11_takeBack s m args below meth c H locs 0 0 (vx_MQ below (va_Qi (fun r S9 => wX D S0 S9 ∧ post r S9) (wB D cy X A) A) (wEx D cy X A (fun E S9 => wX D S0 S9 ∧ xp E S9)) args s 1 6 A) (F0 m 0 ls []) := by
  obtain ⟨hx, hb, hml, hown, hts⟩ := id F
  have hwg : ∀ w ∈ WG, w.before args s = true := fun w h => hts w (List.mem_cons_of_mem _ h)
  have i_16 : ∀ w ∈ u_ws RX11 TX11 18, w ∈ wz_X11_takeBack := fun w h => List.mem_cons_of_mem _ (wu_16 w h)
  have i_8 : ∀ w ∈ u_ws RX3 TX3 9, w ∈ wz_X11_takeBack := fun w h => List.mem_cons_of_mem _ (wu_8 w h)
  have k_28 := hwg _ wf_RX11_28
  have k_40 := hwg _ wf_RX11_40
  intro S H locs ls a0 hp hW hE hl hL_a0 hK_a0
  unfold wp_X11_takeBack_0 at hp
  refine lv_aload_n hx hb dX11_takeBack_0 rfl (lv_at hl 0 rfl) ?_
  obtain ⟨y_1, ey_1, hL_y_1, hK_y_1, hp⟩ := hp
  refine w_get (k := 16) (f := 4) (T := TX11) (v := .ref y_1) F hK hW hL_a0 hK_a0 (by decide) rfl rfl (by decide) i_16 k_40 (by rw [show wv 16 4 S a0 = va_rf (sR S a0 4) from rfl, ey_1]; rfl) dX11_takeBack_1 ?_
  refine w_getN (k := 8) (f := 3) (T := TX3) (v := .int (sI S y_1 3)) F hK hW hL_y_1 hK_y_1 (by decide) rfl rfl (by decide) i_8 (hK.2.1 (.fieldLinkNest "OpeningsCabinet" 157 "OpeningsCabinet$Game" "length" "I" "OpeningsCabinet") (by decide +kernel)) rfl dX11_takeBack_4 ?_
  refine lv_if_ne (tgt := 21) hx hb dX11_takeBack_7 (by decide) (fun c_2 => ?_) (fun c_2 => ?_)
  · replace hp := hp.1 c_2
    refine lv_aload_n hx hb dX11_takeBack_21 rfl (lv_at hl 0 rfl) ?_
    obtain ⟨y_3, ey_3, hL_y_3, hK_y_3, hp⟩ := hp
    refine w_get (k := 16) (f := 4) (T := TX11) (v := .ref y_3) F hK hW hL_a0 hK_a0 (by decide) rfl rfl (by decide) i_16 k_40 (by rw [show wv 16 4 S a0 = va_rf (sR S a0 4) from rfl, ey_3]; rfl) dX11_takeBack_22 ?_
    refine lv_dup hx hb dX11_takeBack_25 rfl ?_
    refine w_getN (k := 8) (f := 3) (T := TX3) (v := .int (sI S y_3 3)) F hK hW hL_y_3 hK_y_3 (by decide) rfl rfl (by decide) i_8 (hK.2.1 (.fieldLinkNest "OpeningsCabinet" 157 "OpeningsCabinet$Game" "length" "I" "OpeningsCabinet") (by decide +kernel)) rfl dX11_takeBack_26 ?_
    refine lv_iconst (v := 1) hx hb dX11_takeBack_29 (by decide) ?_
    refine lv_isub hx hb dX11_takeBack_30 ?_
    refine w_putIN (k := 8) (f := 3) (T := TX3) F hK hW hL_y_3 hK_y_3 (by decide) (by decide) rfl rfl (by decide) i_8 tyX3 tyX3_ok nmX3 (hK.2.1 (.fieldLinkNest "OpeningsCabinet" 157 "OpeningsCabinet$Game" "length" "I" "OpeningsCabinet") (by decide +kernel)) rfl rfl (ty := .int) rfl rfl rfl dX11_takeBack_31 (fun H locs hW => ?_)
    obtain ⟨S_4, eS_4⟩ : ∃ z : wS, z = uI S y_3 3 ((sI S y_3 3) - (1 : Int32)) := ⟨_, rfl⟩
    rw [← eS_4] at hW
    replace hp := hp S_4 eS_4
    have hX_S_4 : wX D S S_4 := by rw [eS_4]; exact wX_uI
    have hE := hE.trans hX_S_4
    have hK_a0 : sK S_4 a0 = 16 := (hX_S_4.2 a0 hL_a0).1.trans hK_a0
    have hL_a0 : wM D S_4 a0 := hX_S_4.M hL_a0
    refine lv_aload_n hx hb dX11_takeBack_34 rfl (lv_at hl 0 rfl) ?_
    obtain ⟨y_5, ey_5, hL_y_5, hK_y_5, hp⟩ := hp
    refine w_get (k := 16) (f := 2) (T := TX11) (v := .ref y_5) F hK hW hL_a0 hK_a0 (by decide) rfl rfl (by decide) i_16 k_28 (by rw [show wv 16 2 S_4 a0 = va_rf (sR S_4 a0 2) from rfl, ey_5]; rfl) dX11_takeBack_35 ?_
    refine lv_aload_n hx hb dX11_takeBack_38 rfl (lv_at hl 0 rfl) ?_
    obtain ⟨y_6, ey_6, hL_y_6, hK_y_6, hp⟩ := hp
    refine w_get (k := 16) (f := 4) (T := TX11) (v := .ref y_6) F hK hW hL_a0 hK_a0 (by decide) rfl rfl (by decide) i_16 k_40 (by rw [show wv 16 4 S_4 a0 = va_rf (sR S_4 a0 4) from rfl, ey_6]; rfl) dX11_takeBack_39 ?_
    obtain ⟨y_7, ey_7, hL_y_7, hK_y_7, hp⟩ := hp
    refine w_getN (k := 8) (f := 0) (T := TX3) (v := .ref y_7) F hK hW hL_y_6 hK_y_6 (by decide) rfl rfl (by decide) i_8 (hK.2.1 (.fieldLinkNest "OpeningsCabinet" 298 "OpeningsCabinet$Game" "places" "[J" "OpeningsCabinet") (by decide +kernel)) (by rw [show wv 8 0 S_4 y_6 = va_rf (sR S_4 y_6 0) from rfl, ey_7]; rfl) dX11_takeBack_42 ?_
    refine lv_aload_n hx hb dX11_takeBack_45 rfl (lv_at hl 0 rfl) ?_
    obtain ⟨y_8, ey_8, hL_y_8, hK_y_8, hp⟩ := hp
    refine w_get (k := 16) (f := 4) (T := TX11) (v := .ref y_8) F hK hW hL_a0 hK_a0 (by decide) rfl rfl (by decide) i_16 k_40 (by rw [show wv 16 4 S_4 a0 = va_rf (sR S_4 a0 4) from rfl, ey_8]; rfl) dX11_takeBack_46 ?_
    refine w_getN (k := 8) (f := 3) (T := TX3) (v := .int (sI S_4 y_8 3)) F hK hW hL_y_8 hK_y_8 (by decide) rfl rfl (by decide) i_8 (hK.2.1 (.fieldLinkNest "OpeningsCabinet" 157 "OpeningsCabinet$Game" "length" "I" "OpeningsCabinet") (by decide +kernel)) rfl dX11_takeBack_49 ?_
    refine w_callV (va_runV (As := [.ref y_7, .int (sI S_4 y_8 3)]) (rest := []) F (c_X7_load l hL_y_5 hK_y_5 hL_y_7 hK_y_7 hp H.size) (cwV (C := RX7) 2 hts (wg_V wm_RX11_302 wy_X7_load) rfl rfl rfl (by decide +kernel) ⟨Nat.le_of_ble_eq_true rfl, Nat.le_of_ble_eq_true rfl⟩) (w_preV hK hW hL_y_5 hK_y_5 (by decide) rfl) rfl rfl hl.1 rfl (lv_room (Nat.le_of_ble_eq_true rfl)) dX11_takeBack_52 ⟨Nat.le_of_ble_eq_true rfl, Nat.le_of_ble_eq_true rfl⟩) hW (fun S_10 H locs hp hW => ?_)
    obtain ⟨hX_S_10, hp⟩ := hp
    refine W.widen (k := 0) (n := 0) (by decide) (by decide) ?_
    have hE := hE.trans hX_S_10
    have hK_a0 : sK S_10 a0 = 16 := (hX_S_10.2 a0 hL_a0).1.trans hK_a0
    have hL_a0 : wM D S_10 a0 := hX_S_10.M hL_a0
    refine lv_aload_n hx hb dX11_takeBack_55 rfl (lv_at hl 0 rfl) ?_
    obtain ⟨y_11, ey_11, hL_y_11, hK_y_11, hp⟩ := hp
    refine w_get (k := 16) (f := 4) (T := TX11) (v := .ref y_11) F hK hW hL_a0 hK_a0 (by decide) rfl rfl (by decide) i_16 k_40 (by rw [show wv 16 4 S_10 a0 = va_rf (sR S_10 a0 4) from rfl, ey_11]; rfl) dX11_takeBack_56 ?_
    refine w_getN (k := 8) (f := 3) (T := TX3) (v := .int (sI S_10 y_11 3)) F hK hW hL_y_11 hK_y_11 (by decide) rfl rfl (by decide) i_8 (hK.2.1 (.fieldLinkNest "OpeningsCabinet" 157 "OpeningsCabinet$Game" "length" "I" "OpeningsCabinet") (by decide +kernel)) rfl dX11_takeBack_59 ?_
    refine W.widen (k := 1) (n := 6) (by decide) (by decide) ?_
    refine vx_ret ?_
    exact w_iret hx hb hr hlocks hW ⟨hE, hp⟩ dX11_takeBack_62
  · replace hp := hp.2 c_2
    exact x_throwW (ls := ls) F hK hW hl0 (by decide) (hwg _ wc_RX11_285) (hwg _ wi_java_lang_IllegalStateException) (show ("OpeningsCabinet", 296, "no move was made", 22) ∈ wStr by decide +kernel) (wa_RX11_289 hwg hK.2.1) wa_RX11_289_ok hl.1 hexc hlocks dX11_takeBack_10 dX11_takeBack_13 dX11_takeBack_14 dX11_takeBack_17 dX11_takeBack_20 (Nat.le_of_ble_eq_true rfl) (Nat.le_of_ble_eq_true rfl) (Nat.le_of_ble_eq_true rfl) (Nat.le_of_ble_eq_true rfl) (by decide) (by decide) ⟨hE, hp⟩
set_option maxHeartbeats 4000000 in
set_option maxRecDepth 100000 in
theorem c_X11_takeBack (l : Launch) {D : wD} {cy : Nat → ClassId} {X : va_W} {S0 : wS} {post : Int32 → wS → Prop} {xp : String → wS → Prop} (hl0 : l.stackTraces = false) {a0 : Nat} (hL_a0 : wM D S0 a0) (hK_a0 : sK S0 a0 = 16) (hp : wp_X11_takeBack D post xp S0 a0) : xI D cy X l yX11_takeBack wz_X11_takeBack r_X11_takeBack [.ref a0] S0 (fun r S9 => wX D S0 S9 ∧ post r S9) (fun E S9 => wX D S0 S9 ∧ xp E S9) := by
  intro sz
  refine vx_ofW (cc := cX11_takeBack) (maxL := 1) (ret := (some .int)) (by decide) rfl ?_
  intro p e s m args below meth c s₁ B hml hexc hv
  obtain ⟨rfl, hsz, hP, hK, hD0, hRO⟩ := hv
  have hts := atoms_spec (ws := wz_X11_takeBack) B.pre
  have hown : s.vm.findClass RX11 = some m.cls := findClass_of_methodNamed B.named
  subst hsz
  have hD := hD0.self (sz := s.heap.size)
  have F : CallFix p m c cX11_takeBack 1 s _ wz_X11_takeBack RX11 := ⟨B.exec, B.bytes, hml, hown, hts⟩
  have hr := B.returns
  have hlocks := B.notSynchronized
  generalize hAe : va_A (wL cy X S0) s.heap.size = A at hD hK ⊢
  have hA : ∀ q, s.heap.size ≤ q → A q := fun q h => by rw [← hAe]; exact Or.inr h
  have hW : wO D cy X A s.heap S0 s.heap [] := ⟨hP, hD, va_S.rf, hA, hRO⟩
  have hl := lv_entry ([.ref a0]) (n := 1) (Nat.le_of_ble_eq_true rfl)
  rw [lg_entry_eq]
  generalize (lg_sl ([.ref a0]) ++ List.replicate (1 - (lg_sl ([.ref a0])).length) Slot.unset).toArray = ls at hl ⊢
  have hl : lv_has ls 1 [(0, .ref a0)] := hl
  unfold wp_X11_takeBack at hp
  exact t_X11_takeBack_0 F hr hlocks hK hl0 hexc hp hW wX.rf (lv_sub hl [0] rfl) hL_a0 hK_a0
def wp_X11_type_133 (D : wD) (post : Int32 → wS → Prop) (xp : String → wS → Prop) (k_101 : wS → Nat → Int64 → Int32 → Prop) (S : wS) (a0 : Nat) (x1 : Int64) (x4 : Int32) : Prop :=
∀ x_1 : Int32, x_1 = x4 + (-8) →
k_101 S a0 x1 x_1
def wp_X11_type_101 (D : wD) (post : Int32 → wS → Prop) (xp : String → wS → Prop)  : Nat → wS → Nat → Int64 → Int32 → Prop
  | 0, _, _, _, _ => False
  | n + 1, S, a0, x1, x4 =>
    ((x4 < 0 → ∃ y_2 : Nat, sR S a0 13 = some y_2 ∧ wM D S y_2 ∧ sK S y_2 = 1 ∧
    wp_J4_length_8abf5 D (fun r_3 S_4 => 
    post r_3 S_4) S y_2) ∧
     (¬ x4 < 0 → ∀ x_5 : Int32, x_5 = (ji2c (Int64.toInt32 ((jlushr x1 x4) &&& (255 : Int64)))) →
    ((x_5 = 0 → wp_X11_type_133 D post xp (wp_X11_type_101 D post xp n) S a0 x1 x4) ∧
     (¬ x_5 = 0 → ∃ y_7 : Nat, sR S a0 13 = some y_7 ∧ wM D S y_7 ∧ sK S y_7 = 1 ∧
    wp_J4_append_cf468 D (fun r_8 S_9 => 
    wp_X11_type_133 D post xp (wp_X11_type_101 D post xp n) S_9 a0 x1 x4) S y_7 x_5))))
def wp_X11_type_63 (D : wD) (post : Int32 → wS → Prop) (xp : String → wS → Prop) (k_6 : wS → Nat → Int64 → Int32 → Int32 → Prop) (S : wS) (a0 : Nat) (x1 : Int64) (x4 : Int32) (t0 : Int32) (t1 : Int32) : Prop :=
∀ x_1 : Int32, x_1 = (t0 + t1) →
∀ x_2 : Int32, x_2 = x4 + (-8) →
k_6 S a0 x1 x_1 x_2
def wp_X11_type_52 (D : wD) (post : Int32 → wS → Prop) (xp : String → wS → Prop) (k_6 : wS → Nat → Int64 → Int32 → Int32 → Prop) (S : wS) (a0 : Nat) (x1 : Int64) (x3 : Int32) (x4 : Int32) (x5 : Int32) : Prop :=
((¬ x5 = 0 → wp_X11_type_63 D post xp k_6 S a0 x1 x4 x3 (1 : Int32)) ∧
 (x5 = 0 → wp_X11_type_63 D post xp k_6 S a0 x1 x4 x3 (0 : Int32)))
def wp_X11_type_41 (D : wD) (post : Int32 → wS → Prop) (xp : String → wS → Prop)  (S : wS) : Prop :=
xp "java/lang/IllegalArgumentException" S
def wp_X11_type_6 (D : wD) (post : Int32 → wS → Prop) (xp : String → wS → Prop)  : Nat → wS → Nat → Int64 → Int32 → Int32 → Prop
  | 0, _, _, _, _, _ => False
  | n + 1, S, a0, x1, x3, x4 =>
    ((x4 < 0 → ∃ y_2 : Nat, sR S a0 13 = some y_2 ∧ wM D S y_2 ∧ sK S y_2 = 1 ∧
    wp_J4_length_8abf5 D (fun r_3 S_4 => 
    (((r_3 + x3) ≤ (500 : Int32) → ∃ n_6 : Nat, wp_X11_type_101 D post xp n_6 S_4 a0 x1 (56 : Int32)) ∧
     (¬ (r_3 + x3) ≤ (500 : Int32) → xp "java/lang/IllegalStateException" S_4))) S y_2) ∧
     (¬ x4 < 0 → ∀ x_7 : Int32, x_7 = (Int64.toInt32 ((jlushr x1 x4) &&& (255 : Int64))) →
    ((x_7 = 0 → wp_X11_type_52 D post xp (wp_X11_type_6 D post xp n) S a0 x1 x3 x4 x_7) ∧
     (¬ x_7 = 0 → ((x_7 < (32 : Int32) → wp_X11_type_41 D post xp S) ∧
     (¬ x_7 < (32 : Int32) → ((x_7 ≤ (126 : Int32) → wp_X11_type_52 D post xp (wp_X11_type_6 D post xp n) S a0 x1 x3 x4 x_7) ∧
     (¬ x_7 ≤ (126 : Int32) → wp_X11_type_41 D post xp S))))))))
def wp_X11_type_0 (D : wD) (post : Int32 → wS → Prop) (xp : String → wS → Prop)  (S : wS) (a0 : Nat) (x1 : Int64) : Prop :=
∃ n_1 : Nat, wp_X11_type_6 D post xp n_1 S a0 x1 (0 : Int32) (56 : Int32)
abbrev r_X11_type : Room := { frames := 6, cells := 1, slots := 6, locals := 120 }
def wp_X11_type (D : wD) (post : Int32 → wS → Prop) (xp : String → wS → Prop) (S : wS) (a0 : Nat) (x1 : Int64) : Prop := wp_X11_type_0 D post xp S a0 x1
set_option maxHeartbeats 4000000 in
set_option maxRecDepth 100000 in
theorem t_X11_type_133 {p : Program} {l : Launch} {e : Env} {s : State} {m : MethodId} {args : Array Value} {below : List Frame} {meth : Method} {c : Code} {D : wD} {cy : Nat → ClassId} {X : va_W} {A : Nat → Prop} {S0 : wS} {post : Int32 → wS → Prop} {xp : String → wS → Prop} (F : CallFix p m c cX11_type 6 s args wz_X11_type RX11) (hr : meth.sig.returnType = (some .int)) (hlocks : meth.locks = false) (hK : wK D cy A s) (hl0 : l.stackTraces = false) (hexc : ∀ x ∈ c.exceptionTable.toList, False) {k_101 : wS → Nat → Int64 → Int32 → Prop} (q_101 : ∀ {S : wS} {H : Heap} {locs : List Loc} {ls : Array Slot} {a0 : Nat} {x1 : Int64} {x4 : Int32}, k_101 S a0 x1 x4 → wO D cy X A s.heap S H locs → wX D S0 S → lv_has ls 6 [(0, .ref a0), (1, .long x1), (4, .int x4)] → wM D S a0 → sK S a0 = 16 → W p l e r_X11_type s m args below meth c H locs 0 0 (vx_MQ below (va_Qi (fun r S9 => wX D S0 S9 ∧ post r S9) (wB D cy X A) A) (wEx D cy X A (fun E S9 => wX D S0 S9 ∧ xp E S9)) args s 1 6 A) (F0 m 101 ls [])) : ∀ {S : wS} {H : Heap} {locs : List Loc} {ls : Array Slot} {a0 : Nat} {x1 : Int64} {x4 : Int32}, wp_X11_type_133 D post xp k_101 S a0 x1 x4 → wO D cy X A s.heap S H locs → wX D S0 S → lv_has ls 6 [(0, .ref a0), (1, .long x1), (4, .int x4)] → wM D S a0 → sK S a0 = 16 → W p l e r_X11_type s m args below meth c H locs 0 0 (vx_MQ below (va_Qi (fun r S9 => wX D S0 S9 ∧ post r S9) (wB D cy X A) A) (wEx D cy X A (fun E S9 => wX D S0 S9 ∧ xp E S9)) args s 1 6 A) (F0 m 133 ls []) := by
  obtain ⟨hx, hb, hml, hown, hts⟩ := id F
  have hwg : ∀ w ∈ WG, w.before args s = true := fun w h => hts w (List.mem_cons_of_mem _ h)
  intro S H locs ls a0 x1 x4 hp hW hE hl hL_a0 hK_a0
  unfold wp_X11_type_133 at hp
  obtain ⟨x_1, ex_1⟩ : ∃ z : Int32, z = x4 + (-8) := ⟨_, rfl⟩
  replace hp := hp x_1 ex_1
  refine lv_iinc (v := x_1) (lv' := [(4, .int x_1), (0, .ref a0), (1, .long x1)]) hx hb dX11_type_133 hl (k := 2) rfl (by rw [ex_1]; rfl) (by decide) rfl (fun ls hl => ?_)
  refine lv_goto (tgt := 101) hx hb dX11_type_136 (by decide) ?_
  exact q_101 hp hW hE (lv_sub hl [1, 2, 0] rfl) hL_a0 hK_a0
set_option maxHeartbeats 4000000 in
set_option maxRecDepth 100000 in
theorem t_X11_type_101 {p : Program} {l : Launch} {e : Env} {s : State} {m : MethodId} {args : Array Value} {below : List Frame} {meth : Method} {c : Code} {D : wD} {cy : Nat → ClassId} {X : va_W} {A : Nat → Prop} {S0 : wS} {post : Int32 → wS → Prop} {xp : String → wS → Prop} (F : CallFix p m c cX11_type 6 s args wz_X11_type RX11) (hr : meth.sig.returnType = (some .int)) (hlocks : meth.locks = false) (hK : wK D cy A s) (hl0 : l.stackTraces = false) (hexc : ∀ x ∈ c.exceptionTable.toList, False) : ∀ (n : Nat) {S : wS} {H : Heap} {locs : List Loc} {ls : Array Slot} {a0 : Nat} {x1 : Int64} {x4 : Int32}, wp_X11_type_101 D post xp n S a0 x1 x4 → wO D cy X A s.heap S H locs → wX D S0 S → lv_has ls 6 [(0, .ref a0), (1, .long x1), (4, .int x4)] → wM D S a0 → sK S a0 = 16 → W p l e r_X11_type s m args below meth c H locs 0 0 (vx_MQ below (va_Qi (fun r S9 => wX D S0 S9 ∧ post r S9) (wB D cy X A) A) (wEx D cy X A (fun E S9 => wX D S0 S9 ∧ xp E S9)) args s 1 6 A) (F0 m 101 ls []) := by
  obtain ⟨hx, hb, hml, hown, hts⟩ := id F
  have hwg : ∀ w ∈ WG, w.before args s = true := fun w h => hts w (List.mem_cons_of_mem _ h)
  have i_16 : ∀ w ∈ u_ws RX11 TX11 18, w ∈ wz_X11_type := fun w h => List.mem_cons_of_mem _ (wu_16 w h)
  have k_105 := hwg _ wf_RX11_105
  intro n
  induction n with
  | zero =>
    intro S H locs ls a0 x1 x4 hp
    exact hp.elim
  | succ n ih =>
    intro S H locs ls a0 x1 x4 hp hW hE hl hL_a0 hK_a0
    unfold wp_X11_type_101 at hp
    refine lv_iload hx hb dX11_type_101 (lv_at hl 2 rfl) ?_
    refine lv_if_lt (tgt := 139) hx hb dX11_type_103 (by decide) (fun c_1 => ?_) (fun c_1 => ?_)
    · replace hp := hp.1 c_1
      refine lv_aload_n hx hb dX11_type_139 rfl (lv_at hl 0 rfl) ?_
      obtain ⟨y_2, ey_2, hL_y_2, hK_y_2, hp⟩ := hp
      refine w_get (k := 16) (f := 13) (T := TX11) (v := .ref y_2) F hK hW hL_a0 hK_a0 (by decide) rfl rfl (by decide) i_16 k_105 (by rw [show wv 16 13 S a0 = va_rf (sR S a0 13) from rfl, ey_2]; rfl) dX11_type_140 ?_
      refine w_callI (va_runV (As := []) (rest := []) F (c_J4_length_8abf5 l hL_y_2 hK_y_2 hp H.size) (cwV (C := RJ4) 0 hts (wg_V wm_RX11_232 wy_J4_length_8abf5) rfl rfl rfl (by decide +kernel) ⟨Nat.le_of_ble_eq_true rfl, Nat.le_of_ble_eq_true rfl⟩) (w_preV hK hW hL_y_2 hK_y_2 (by decide) rfl) rfl rfl hl.1 rfl (lv_room (Nat.le_of_ble_eq_true rfl)) dX11_type_143 ⟨Nat.le_of_ble_eq_true rfl, Nat.le_of_ble_eq_true rfl⟩) hW (fun r_3 S_4 H locs hp hW => ?_)
      obtain ⟨hX_S_4, hp⟩ := hp
      refine W.widen (k := 0) (n := 0) (by decide) (by decide) ?_
      have hE := hE.trans hX_S_4
      have hK_a0 : sK S_4 a0 = 16 := (hX_S_4.2 a0 hL_a0).1.trans hK_a0
      have hL_a0 : wM D S_4 a0 := hX_S_4.M hL_a0
      refine W.widen (k := 1) (n := 6) (by decide) (by decide) ?_
      refine vx_ret ?_
      exact w_iret hx hb hr hlocks hW ⟨hE, hp⟩ dX11_type_146
    · replace hp := hp.2 c_1
      refine lv_lload_n hx hb dX11_type_106 rfl (lv_at hl 1 rfl) ?_
      refine lv_iload hx hb dX11_type_107 (lv_at hl 2 rfl) ?_
      refine lv_lushr (v := (jlushr x1 x4)) hx hb dX11_type_109 rfl ?_
      refine lv_ldc2 (v := 255) hx hb hown (hwg _ wJ_RX11_279) dX11_type_110 ?_
      refine lv_land hx hb dX11_type_113 ?_
      refine lv_l2i (v := (Int64.toInt32 ((jlushr x1 x4) &&& (255 : Int64)))) hx hb dX11_type_114 rfl ?_
      refine lv_i2c (v := (ji2c (Int64.toInt32 ((jlushr x1 x4) &&& (255 : Int64))))) hx hb dX11_type_115 rfl ?_
      refine lv_topi (fun x_5 ex_5 => ?_)
      replace hp := hp x_5 ex_5
      refine lv_istore (lv' := [(5, .int x_5), (0, .ref a0), (1, .long x1), (4, .int x4)]) hx hb dX11_type_116 hl (by decide) rfl (fun ls hl => ?_)
      refine lv_iload hx hb dX11_type_118 (lv_at hl 0 rfl) ?_
      refine lv_if_eq (tgt := 133) hx hb dX11_type_120 (by decide) (fun c_6 => ?_) (fun c_6 => ?_)
      · replace hp := hp.1 c_6
        exact t_X11_type_133 F hr hlocks hK hl0 hexc ih hp hW hE (lv_sub hl [1, 2, 3] rfl) hL_a0 hK_a0
      · replace hp := hp.2 c_6
        refine lv_aload_n hx hb dX11_type_123 rfl (lv_at hl 1 rfl) ?_
        obtain ⟨y_7, ey_7, hL_y_7, hK_y_7, hp⟩ := hp
        refine w_get (k := 16) (f := 13) (T := TX11) (v := .ref y_7) F hK hW hL_a0 hK_a0 (by decide) rfl rfl (by decide) i_16 k_105 (by rw [show wv 16 13 S a0 = va_rf (sR S a0 13) from rfl, ey_7]; rfl) dX11_type_124 ?_
        refine lv_iload hx hb dX11_type_127 (lv_at hl 0 rfl) ?_
        refine w_callR (va_runV (As := [.int x_5]) (rest := []) F (c_J4_append_cf468 l hL_y_7 hK_y_7 hp H.size) (cwV (C := RJ4) 1 hts (wg_V wm_RX11_281 wy_J4_append_cf468) rfl rfl rfl (by decide +kernel) ⟨Nat.le_of_ble_eq_true rfl, Nat.le_of_ble_eq_true rfl⟩) (w_preV hK hW hL_y_7 hK_y_7 (by decide) rfl) rfl rfl hl.1 rfl (lv_room (Nat.le_of_ble_eq_true rfl)) dX11_type_129 ⟨Nat.le_of_ble_eq_true rfl, Nat.le_of_ble_eq_true rfl⟩) hW (fun r_8 S_9 H locs hp hW => ?_)
        obtain ⟨hX_S_9, hp⟩ := hp
        refine W.widen (k := 0) (n := 0) (by decide) (by decide) ?_
        have hE := hE.trans hX_S_9
        have hK_a0 : sK S_9 a0 = 16 := (hX_S_9.2 a0 hL_a0).1.trans hK_a0
        have hL_a0 : wM D S_9 a0 := hX_S_9.M hL_a0
        refine lv_pop hx hb dX11_type_132 rfl ?_
        exact t_X11_type_133 F hr hlocks hK hl0 hexc ih hp hW hE (lv_sub hl [1, 2, 3] rfl) hL_a0 hK_a0
set_option maxHeartbeats 4000000 in
set_option maxRecDepth 100000 in
theorem t_X11_type_63 {p : Program} {l : Launch} {e : Env} {s : State} {m : MethodId} {args : Array Value} {below : List Frame} {meth : Method} {c : Code} {D : wD} {cy : Nat → ClassId} {X : va_W} {A : Nat → Prop} {S0 : wS} {post : Int32 → wS → Prop} {xp : String → wS → Prop} (F : CallFix p m c cX11_type 6 s args wz_X11_type RX11) (hr : meth.sig.returnType = (some .int)) (hlocks : meth.locks = false) (hK : wK D cy A s) (hl0 : l.stackTraces = false) (hexc : ∀ x ∈ c.exceptionTable.toList, False) {k_6 : wS → Nat → Int64 → Int32 → Int32 → Prop} (q_6 : ∀ {S : wS} {H : Heap} {locs : List Loc} {ls : Array Slot} {a0 : Nat} {x1 : Int64} {x3 : Int32} {x4 : Int32}, k_6 S a0 x1 x3 x4 → wO D cy X A s.heap S H locs → wX D S0 S → lv_has ls 6 [(0, .ref a0), (1, .long x1), (3, .int x3), (4, .int x4)] → wM D S a0 → sK S a0 = 16 → W p l e r_X11_type s m args below meth c H locs 0 0 (vx_MQ below (va_Qi (fun r S9 => wX D S0 S9 ∧ post r S9) (wB D cy X A) A) (wEx D cy X A (fun E S9 => wX D S0 S9 ∧ xp E S9)) args s 1 6 A) (F0 m 6 ls [])) : ∀ {S : wS} {H : Heap} {locs : List Loc} {ls : Array Slot} {a0 : Nat} {x1 : Int64} {x4 : Int32} {t0 : Int32} {t1 : Int32}, wp_X11_type_63 D post xp k_6 S a0 x1 x4 t0 t1 → wO D cy X A s.heap S H locs → wX D S0 S → lv_has ls 6 [(0, .ref a0), (1, .long x1), (4, .int x4)] → wM D S a0 → sK S a0 = 16 → W p l e r_X11_type s m args below meth c H locs 0 0 (vx_MQ below (va_Qi (fun r S9 => wX D S0 S9 ∧ post r S9) (wB D cy X A) A) (wEx D cy X A (fun E S9 => wX D S0 S9 ∧ xp E S9)) args s 1 6 A) (F0 m 63 ls [.int t1, .int t0]) := by
  obtain ⟨hx, hb, hml, hown, hts⟩ := id F
  have hwg : ∀ w ∈ WG, w.before args s = true := fun w h => hts w (List.mem_cons_of_mem _ h)
  intro S H locs ls a0 x1 x4 t0 t1 hp hW hE hl hL_a0 hK_a0
  unfold wp_X11_type_63 at hp
  refine lv_iadd hx hb dX11_type_63 ?_
  refine lv_topi (fun x_1 ex_1 => ?_)
  replace hp := hp x_1 ex_1
  refine lv_istore_n (lv' := [(3, .int x_1), (0, .ref a0), (1, .long x1), (4, .int x4)]) hx hb dX11_type_64 rfl hl (by decide) rfl (fun ls hl => ?_)
  obtain ⟨x_2, ex_2⟩ : ∃ z : Int32, z = x4 + (-8) := ⟨_, rfl⟩
  replace hp := hp x_2 ex_2
  refine lv_iinc (v := x_2) (lv' := [(4, .int x_2), (3, .int x_1), (0, .ref a0), (1, .long x1)]) hx hb dX11_type_65 hl (k := 3) rfl (by rw [ex_2]; rfl) (by decide) rfl (fun ls hl => ?_)
  refine lv_goto (tgt := 6) hx hb dX11_type_68 (by decide) ?_
  exact q_6 hp hW hE (lv_sub hl [2, 3, 1, 0] rfl) hL_a0 hK_a0
set_option maxHeartbeats 4000000 in
set_option maxRecDepth 100000 in
theorem t_X11_type_52 {p : Program} {l : Launch} {e : Env} {s : State} {m : MethodId} {args : Array Value} {below : List Frame} {meth : Method} {c : Code} {D : wD} {cy : Nat → ClassId} {X : va_W} {A : Nat → Prop} {S0 : wS} {post : Int32 → wS → Prop} {xp : String → wS → Prop} (F : CallFix p m c cX11_type 6 s args wz_X11_type RX11) (hr : meth.sig.returnType = (some .int)) (hlocks : meth.locks = false) (hK : wK D cy A s) (hl0 : l.stackTraces = false) (hexc : ∀ x ∈ c.exceptionTable.toList, False) {k_6 : wS → Nat → Int64 → Int32 → Int32 → Prop} (q_6 : ∀ {S : wS} {H : Heap} {locs : List Loc} {ls : Array Slot} {a0 : Nat} {x1 : Int64} {x3 : Int32} {x4 : Int32}, k_6 S a0 x1 x3 x4 → wO D cy X A s.heap S H locs → wX D S0 S → lv_has ls 6 [(0, .ref a0), (1, .long x1), (3, .int x3), (4, .int x4)] → wM D S a0 → sK S a0 = 16 → W p l e r_X11_type s m args below meth c H locs 0 0 (vx_MQ below (va_Qi (fun r S9 => wX D S0 S9 ∧ post r S9) (wB D cy X A) A) (wEx D cy X A (fun E S9 => wX D S0 S9 ∧ xp E S9)) args s 1 6 A) (F0 m 6 ls [])) : ∀ {S : wS} {H : Heap} {locs : List Loc} {ls : Array Slot} {a0 : Nat} {x1 : Int64} {x3 : Int32} {x4 : Int32} {x5 : Int32}, wp_X11_type_52 D post xp k_6 S a0 x1 x3 x4 x5 → wO D cy X A s.heap S H locs → wX D S0 S → lv_has ls 6 [(0, .ref a0), (1, .long x1), (3, .int x3), (4, .int x4), (5, .int x5)] → wM D S a0 → sK S a0 = 16 → W p l e r_X11_type s m args below meth c H locs 0 0 (vx_MQ below (va_Qi (fun r S9 => wX D S0 S9 ∧ post r S9) (wB D cy X A) A) (wEx D cy X A (fun E S9 => wX D S0 S9 ∧ xp E S9)) args s 1 6 A) (F0 m 52 ls []) := by
  obtain ⟨hx, hb, hml, hown, hts⟩ := id F
  have hwg : ∀ w ∈ WG, w.before args s = true := fun w h => hts w (List.mem_cons_of_mem _ h)
  intro S H locs ls a0 x1 x3 x4 x5 hp hW hE hl hL_a0 hK_a0
  unfold wp_X11_type_52 at hp
  refine lv_iload_n hx hb dX11_type_52 rfl (lv_at hl 2 rfl) ?_
  refine lv_iload hx hb dX11_type_53 (lv_at hl 4 rfl) ?_
  refine lv_if_ne (tgt := 62) hx hb dX11_type_55 (by decide) (fun c_1 => ?_) (fun c_1 => ?_)
  · replace hp := hp.1 c_1
    refine lv_iconst (v := 1) hx hb dX11_type_62 (by decide) ?_
    exact t_X11_type_63 F hr hlocks hK hl0 hexc q_6 hp hW hE (lv_sub hl [0, 1, 3] rfl) hL_a0 hK_a0
  · replace hp := hp.2 c_1
    refine lv_iconst (v := 0) hx hb dX11_type_58 (by decide) ?_
    refine lv_goto (tgt := 63) hx hb dX11_type_59 (by decide) ?_
    exact t_X11_type_63 F hr hlocks hK hl0 hexc q_6 hp hW hE (lv_sub hl [0, 1, 3] rfl) hL_a0 hK_a0
set_option maxHeartbeats 4000000 in
set_option maxRecDepth 100000 in
theorem t_X11_type_41 {p : Program} {l : Launch} {e : Env} {s : State} {m : MethodId} {args : Array Value} {below : List Frame} {meth : Method} {c : Code} {D : wD} {cy : Nat → ClassId} {X : va_W} {A : Nat → Prop} {S0 : wS} {post : Int32 → wS → Prop} {xp : String → wS → Prop} (F : CallFix p m c cX11_type 6 s args wz_X11_type RX11) (hr : meth.sig.returnType = (some .int)) (hlocks : meth.locks = false) (hK : wK D cy A s) (hl0 : l.stackTraces = false) (hexc : ∀ x ∈ c.exceptionTable.toList, False) : ∀ {S : wS} {H : Heap} {locs : List Loc} {ls : Array Slot}, wp_X11_type_41 D post xp S → wO D cy X A s.heap S H locs → wX D S0 S → lv_has ls 6 [] → W p l e r_X11_type s m args below meth c H locs 0 0 (vx_MQ below (va_Qi (fun r S9 => wX D S0 S9 ∧ post r S9) (wB D cy X A) A) (wEx D cy X A (fun E S9 => wX D S0 S9 ∧ xp E S9)) args s 1 6 A) (F0 m 41 ls []) := by
  obtain ⟨hx, hb, hml, hown, hts⟩ := id F
  have hwg : ∀ w ∈ WG, w.before args s = true := fun w h => hts w (List.mem_cons_of_mem _ h)
  intro S H locs ls hp hW hE hl
  unfold wp_X11_type_41 at hp
  exact x_throwW (ls := ls) F hK hW hl0 (by decide) (hwg _ wc_RX11_140) (hwg _ wi_java_lang_IllegalArgumentException) (show ("OpeningsCabinet", 315, "a byte of a text is 32 to 126", 24) ∈ wStr by decide +kernel) (wa_RX11_144 hwg hK.2.1) wa_RX11_144_ok hl.1 hexc hlocks dX11_type_41 dX11_type_44 dX11_type_45 dX11_type_48 dX11_type_51 (Nat.le_of_ble_eq_true rfl) (Nat.le_of_ble_eq_true rfl) (Nat.le_of_ble_eq_true rfl) (Nat.le_of_ble_eq_true rfl) (by decide) (by decide) ⟨hE, hp⟩
set_option maxHeartbeats 4000000 in
set_option maxRecDepth 100000 in
theorem t_X11_type_6 {p : Program} {l : Launch} {e : Env} {s : State} {m : MethodId} {args : Array Value} {below : List Frame} {meth : Method} {c : Code} {D : wD} {cy : Nat → ClassId} {X : va_W} {A : Nat → Prop} {S0 : wS} {post : Int32 → wS → Prop} {xp : String → wS → Prop} (F : CallFix p m c cX11_type 6 s args wz_X11_type RX11) (hr : meth.sig.returnType = (some .int)) (hlocks : meth.locks = false) (hK : wK D cy A s) (hl0 : l.stackTraces = false) (hexc : ∀ x ∈ c.exceptionTable.toList, False) : ∀ (n : Nat) {S : wS} {H : Heap} {locs : List Loc} {ls : Array Slot} {a0 : Nat} {x1 : Int64} {x3 : Int32} {x4 : Int32}, wp_X11_type_6 D post xp n S a0 x1 x3 x4 → wO D cy X A s.heap S H locs → wX D S0 S → lv_has ls 6 [(0, .ref a0), (1, .long x1), (3, .int x3), (4, .int x4)] → wM D S a0 → sK S a0 = 16 → W p l e r_X11_type s m args below meth c H locs 0 0 (vx_MQ below (va_Qi (fun r S9 => wX D S0 S9 ∧ post r S9) (wB D cy X A) A) (wEx D cy X A (fun E S9 => wX D S0 S9 ∧ xp E S9)) args s 1 6 A) (F0 m 6 ls []) := by
  obtain ⟨hx, hb, hml, hown, hts⟩ := id F
  have hwg : ∀ w ∈ WG, w.before args s = true := fun w h => hts w (List.mem_cons_of_mem _ h)
  have i_16 : ∀ w ∈ u_ws RX11 TX11 18, w ∈ wz_X11_type := fun w h => List.mem_cons_of_mem _ (wu_16 w h)
  have k_105 := hwg _ wf_RX11_105
  intro n
  induction n with
  | zero =>
    intro S H locs ls a0 x1 x3 x4 hp
    exact hp.elim
  | succ n ih =>
    intro S H locs ls a0 x1 x3 x4 hp hW hE hl hL_a0 hK_a0
    unfold wp_X11_type_6 at hp
    refine lv_iload hx hb dX11_type_6 (lv_at hl 3 rfl) ?_
    refine lv_if_lt (tgt := 71) hx hb dX11_type_8 (by decide) (fun c_1 => ?_) (fun c_1 => ?_)
    · replace hp := hp.1 c_1
      refine lv_aload_n hx hb dX11_type_71 rfl (lv_at hl 0 rfl) ?_
      obtain ⟨y_2, ey_2, hL_y_2, hK_y_2, hp⟩ := hp
      refine w_get (k := 16) (f := 13) (T := TX11) (v := .ref y_2) F hK hW hL_a0 hK_a0 (by decide) rfl rfl (by decide) i_16 k_105 (by rw [show wv 16 13 S a0 = va_rf (sR S a0 13) from rfl, ey_2]; rfl) dX11_type_72 ?_
      refine w_callI (va_runV (As := []) (rest := []) F (c_J4_length_8abf5 l hL_y_2 hK_y_2 hp H.size) (cwV (C := RJ4) 0 hts (wg_V wm_RX11_232 wy_J4_length_8abf5) rfl rfl rfl (by decide +kernel) ⟨Nat.le_of_ble_eq_true rfl, Nat.le_of_ble_eq_true rfl⟩) (w_preV hK hW hL_y_2 hK_y_2 (by decide) rfl) rfl rfl hl.1 rfl (lv_room (Nat.le_of_ble_eq_true rfl)) dX11_type_75 ⟨Nat.le_of_ble_eq_true rfl, Nat.le_of_ble_eq_true rfl⟩) hW (fun r_3 S_4 H locs hp hW => ?_)
      obtain ⟨hX_S_4, hp⟩ := hp
      refine W.widen (k := 0) (n := 0) (by decide) (by decide) ?_
      have hE := hE.trans hX_S_4
      have hK_a0 : sK S_4 a0 = 16 := (hX_S_4.2 a0 hL_a0).1.trans hK_a0
      have hL_a0 : wM D S_4 a0 := hX_S_4.M hL_a0
      refine lv_iload_n hx hb dX11_type_78 rfl (lv_at hl 2 rfl) ?_
      refine lv_iadd hx hb dX11_type_79 ?_
      refine lv_sipush (v := 500) hx hb dX11_type_80 (by decide) ?_
      refine lv_icmp_le (tgt := 97) hx hb dX11_type_83 (by decide) (fun c_5 => ?_) (fun c_5 => ?_)
      · replace hp := hp.1 c_5
        refine lv_bipush (v := 56) hx hb dX11_type_97 (by decide) ?_
        refine lv_istore (lv' := [(4, .int (56 : Int32)), (0, .ref a0), (1, .long x1), (3, .int x3)]) hx hb dX11_type_99 hl (by decide) rfl (fun ls hl => ?_)
        obtain ⟨n_6, hp⟩ := hp
        exact t_X11_type_101 F hr hlocks hK hl0 hexc n_6 hp hW hE (lv_sub hl [1, 2, 0] rfl) hL_a0 hK_a0
      · replace hp := hp.2 c_5
        exact x_throwW (ls := ls) F hK hW hl0 (by decide) (hwg _ wc_RX11_285) (hwg _ wi_java_lang_IllegalStateException) (show ("OpeningsCabinet", 317, "a text has at most 500 bytes", 25) ∈ wStr by decide +kernel) (wa_RX11_289 hwg hK.2.1) wa_RX11_289_ok hl.1 hexc hlocks dX11_type_86 dX11_type_89 dX11_type_90 dX11_type_93 dX11_type_96 (Nat.le_of_ble_eq_true rfl) (Nat.le_of_ble_eq_true rfl) (Nat.le_of_ble_eq_true rfl) (Nat.le_of_ble_eq_true rfl) (by decide) (by decide) ⟨hE, hp⟩
    · replace hp := hp.2 c_1
      refine lv_lload_n hx hb dX11_type_11 rfl (lv_at hl 1 rfl) ?_
      refine lv_iload hx hb dX11_type_12 (lv_at hl 3 rfl) ?_
      refine lv_lushr (v := (jlushr x1 x4)) hx hb dX11_type_14 rfl ?_
      refine lv_ldc2 (v := 255) hx hb hown (hwg _ wJ_RX11_279) dX11_type_15 ?_
      refine lv_land hx hb dX11_type_18 ?_
      refine lv_l2i (v := (Int64.toInt32 ((jlushr x1 x4) &&& (255 : Int64)))) hx hb dX11_type_19 rfl ?_
      refine lv_topi (fun x_7 ex_7 => ?_)
      replace hp := hp x_7 ex_7
      refine lv_istore (lv' := [(5, .int x_7), (0, .ref a0), (1, .long x1), (3, .int x3), (4, .int x4)]) hx hb dX11_type_20 hl (by decide) rfl (fun ls hl => ?_)
      refine lv_iload hx hb dX11_type_22 (lv_at hl 0 rfl) ?_
      refine lv_if_eq (tgt := 52) hx hb dX11_type_24 (by decide) (fun c_8 => ?_) (fun c_8 => ?_)
      · replace hp := hp.1 c_8
        exact t_X11_type_52 F hr hlocks hK hl0 hexc ih hp hW hE (lv_sub hl [1, 2, 3, 4, 0] rfl) hL_a0 hK_a0
      · replace hp := hp.2 c_8
        refine lv_iload hx hb dX11_type_27 (lv_at hl 0 rfl) ?_
        refine lv_bipush (v := 32) hx hb dX11_type_29 (by decide) ?_
        refine lv_icmp_lt (tgt := 41) hx hb dX11_type_31 (by decide) (fun c_9 => ?_) (fun c_9 => ?_)
        · replace hp := hp.1 c_9
          exact t_X11_type_41 F hr hlocks hK hl0 hexc hp hW hE (lv_sub hl [] rfl)
        · replace hp := hp.2 c_9
          refine lv_iload hx hb dX11_type_34 (lv_at hl 0 rfl) ?_
          refine lv_bipush (v := 126) hx hb dX11_type_36 (by decide) ?_
          refine lv_icmp_le (tgt := 52) hx hb dX11_type_38 (by decide) (fun c_10 => ?_) (fun c_10 => ?_)
          · replace hp := hp.1 c_10
            exact t_X11_type_52 F hr hlocks hK hl0 hexc ih hp hW hE (lv_sub hl [1, 2, 3, 4, 0] rfl) hL_a0 hK_a0
          · replace hp := hp.2 c_10
            exact t_X11_type_41 F hr hlocks hK hl0 hexc hp hW hE (lv_sub hl [] rfl)
set_option maxHeartbeats 4000000 in
set_option maxRecDepth 100000 in
theorem t_X11_type_0 {p : Program} {l : Launch} {e : Env} {s : State} {m : MethodId} {args : Array Value} {below : List Frame} {meth : Method} {c : Code} {D : wD} {cy : Nat → ClassId} {X : va_W} {A : Nat → Prop} {S0 : wS} {post : Int32 → wS → Prop} {xp : String → wS → Prop} (F : CallFix p m c cX11_type 6 s args wz_X11_type RX11) (hr : meth.sig.returnType = (some .int)) (hlocks : meth.locks = false) (hK : wK D cy A s) (hl0 : l.stackTraces = false) (hexc : ∀ x ∈ c.exceptionTable.toList, False) : ∀ {S : wS} {H : Heap} {locs : List Loc} {ls : Array Slot} {a0 : Nat} {x1 : Int64}, wp_X11_type_0 D post xp S a0 x1 → wO D cy X A s.heap S H locs → wX D S0 S → lv_has ls 6 [(0, .ref a0), (1, .long x1)] → wM D S a0 → sK S a0 = 16 → W p l e r_X11_type s m args below meth c H locs 0 0 (vx_MQ below (va_Qi (fun r S9 => wX D S0 S9 ∧ post r S9) (wB D cy X A) A) (wEx D cy X A (fun E S9 => wX D S0 S9 ∧ xp E S9)) args s 1 6 A) (F0 m 0 ls []) := by
  obtain ⟨hx, hb, hml, hown, hts⟩ := id F
  have hwg : ∀ w ∈ WG, w.before args s = true := fun w h => hts w (List.mem_cons_of_mem _ h)
  intro S H locs ls a0 x1 hp hW hE hl hL_a0 hK_a0
  unfold wp_X11_type_0 at hp
  refine lv_iconst (v := 0) hx hb dX11_type_0 (by decide) ?_
  refine lv_istore_n (lv' := [(3, .int (0 : Int32)), (0, .ref a0), (1, .long x1)]) hx hb dX11_type_1 rfl hl (by decide) rfl (fun ls hl => ?_)
  refine lv_bipush (v := 56) hx hb dX11_type_2 (by decide) ?_
  refine lv_istore (lv' := [(4, .int (56 : Int32)), (3, .int (0 : Int32)), (0, .ref a0), (1, .long x1)]) hx hb dX11_type_4 hl (by decide) rfl (fun ls hl => ?_)
  obtain ⟨n_1, hp⟩ := hp
  exact t_X11_type_6 F hr hlocks hK hl0 hexc n_1 hp hW hE (lv_sub hl [2, 3, 1, 0] rfl) hL_a0 hK_a0
set_option maxHeartbeats 4000000 in
set_option maxRecDepth 100000 in
theorem c_X11_type (l : Launch) {D : wD} {cy : Nat → ClassId} {X : va_W} {S0 : wS} {post : Int32 → wS → Prop} {xp : String → wS → Prop} (hl0 : l.stackTraces = false) {a0 : Nat} {x1 : Int64} (hL_a0 : wM D S0 a0) (hK_a0 : sK S0 a0 = 16) (hp : wp_X11_type D post xp S0 a0 x1) : xI D cy X l yX11_type wz_X11_type r_X11_type [.ref a0, .long x1] S0 (fun r S9 => wX D S0 S9 ∧ post r S9) (fun E S9 => wX D S0 S9 ∧ xp E S9) := by
  intro sz
  refine vx_ofW (cc := cX11_type) (maxL := 6) (ret := (some .int)) (by decide) rfl ?_
  intro p e s m args below meth c s₁ B hml hexc hv
  obtain ⟨rfl, hsz, hP, hK, hD0, hRO⟩ := hv
  have hts := atoms_spec (ws := wz_X11_type) B.pre
  have hown : s.vm.findClass RX11 = some m.cls := findClass_of_methodNamed B.named
  subst hsz
  have hD := hD0.self (sz := s.heap.size)
  have F : CallFix p m c cX11_type 6 s _ wz_X11_type RX11 := ⟨B.exec, B.bytes, hml, hown, hts⟩
  have hr := B.returns
  have hlocks := B.notSynchronized
  generalize hAe : va_A (wL cy X S0) s.heap.size = A at hD hK ⊢
  have hA : ∀ q, s.heap.size ≤ q → A q := fun q h => by rw [← hAe]; exact Or.inr h
  have hW : wO D cy X A s.heap S0 s.heap [] := ⟨hP, hD, va_S.rf, hA, hRO⟩
  have hl := lv_entry ([.ref a0, .long x1]) (n := 6) (Nat.le_of_ble_eq_true rfl)
  rw [lg_entry_eq]
  generalize (lg_sl ([.ref a0, .long x1]) ++ List.replicate (6 - (lg_sl ([.ref a0, .long x1])).length) Slot.unset).toArray = ls at hl ⊢
  have hl : lv_has ls 6 [(0, .ref a0), (1, .long x1)] := hl
  unfold wp_X11_type at hp
  exact t_X11_type_0 F hr hlocks hK hl0 hexc hp hW wX.rf (lv_sub hl [0, 1] rfl) hL_a0 hK_a0
def wp_X11_variationMoves_0 (D : wD) (post : Int32 → wS → Prop)  (S : wS) (a0 : Nat) : Prop :=
post (sI S a0 16) S
abbrev r_X11_variationMoves : Room := { frames := 0, cells := 0, slots := 0, locals := 0 }
def wp_X11_variationMoves (D : wD) (post : Int32 → wS → Prop) (S : wS) (a0 : Nat) : Prop := wp_X11_variationMoves_0 D post S a0
set_option maxHeartbeats 4000000 in
set_option maxRecDepth 100000 in
theorem t_X11_variationMoves_0 {p : Program} {l : Launch} {e : Env} {s : State} {m : MethodId} {args : Array Value} {below : List Frame} {meth : Method} {c : Code} {D : wD} {cy : Nat → ClassId} {X : va_W} {A : Nat → Prop} {S0 : wS} {post : Int32 → wS → Prop} (F : CallFix p m c cX11_variationMoves 1 s args wz_X11_variationMoves RX11) (hr : meth.sig.returnType = (some .int)) (hlocks : meth.locks = false) (hK : wK D cy A s) : ∀ {S : wS} {H : Heap} {locs : List Loc} {ls : Array Slot} {a0 : Nat}, wp_X11_variationMoves_0 D post S a0 → wO D cy X A s.heap S H locs → wX D S0 S → lv_has ls 1 [(0, .ref a0)] → wM D S a0 → sK S a0 = 16 → W p l e r_X11_variationMoves s m args below meth c H locs 0 0 (MQ below (va_Qi (fun r S9 => wX D S0 S9 ∧ post r S9) (wB D cy X A) A) args s 0 0 A) (F0 m 0 ls []) := by
  obtain ⟨hx, hb, hml, hown, hts⟩ := id F
  have hwg : ∀ w ∈ WG, w.before args s = true := fun w h => hts w (List.mem_cons_of_mem _ h)
  have i_16 : ∀ w ∈ u_ws RX11 TX11 18, w ∈ wz_X11_variationMoves := fun w h => List.mem_cons_of_mem _ (wu_16 w h)
  have k_116 := hwg _ wf_RX11_116
  intro S H locs ls a0 hp hW hE hl hL_a0 hK_a0
  unfold wp_X11_variationMoves_0 at hp
  refine lv_aload_n hx hb dX11_variationMoves_0 rfl (lv_at hl 0 rfl) ?_
  refine w_get (k := 16) (f := 16) (T := TX11) (v := .int (sI S a0 16)) F hK hW hL_a0 hK_a0 (by decide) rfl rfl (by decide) i_16 k_116 rfl dX11_variationMoves_1 ?_
  exact w_iret hx hb hr hlocks hW ⟨hE, hp⟩ dX11_variationMoves_4
set_option maxHeartbeats 4000000 in
set_option maxRecDepth 100000 in
theorem c_X11_variationMoves (l : Launch) {D : wD} {cy : Nat → ClassId} {X : va_W} {S0 : wS} {post : Int32 → wS → Prop} {a0 : Nat} (hL_a0 : wM D S0 a0) (hK_a0 : sK S0 a0 = 16) (hp : wp_X11_variationMoves D post S0 a0) : mI D cy X l yX11_variationMoves wz_X11_variationMoves r_X11_variationMoves [.ref a0] S0 (fun r S9 => wX D S0 S9 ∧ post r S9) := by
  intro sz
  refine Met.ofW (cc := cX11_variationMoves) (maxL := 1) (ret := (some .int)) (by decide) rfl ?_
  intro p e s m args below meth c s₁ B hml hv
  obtain ⟨rfl, hsz, hP, hK, hD0, hRO⟩ := hv
  have hts := atoms_spec (ws := wz_X11_variationMoves) B.pre
  have hown : s.vm.findClass RX11 = some m.cls := findClass_of_methodNamed B.named
  subst hsz
  have hD := hD0.self (sz := s.heap.size)
  have F : CallFix p m c cX11_variationMoves 1 s _ wz_X11_variationMoves RX11 := ⟨B.exec, B.bytes, hml, hown, hts⟩
  have hr := B.returns
  have hlocks := B.notSynchronized
  generalize hAe : va_A (wL cy X S0) s.heap.size = A at hD hK ⊢
  have hA : ∀ q, s.heap.size ≤ q → A q := fun q h => by rw [← hAe]; exact Or.inr h
  have hW : wO D cy X A s.heap S0 s.heap [] := ⟨hP, hD, va_S.rf, hA, hRO⟩
  have hl := lv_entry ([.ref a0]) (n := 1) (Nat.le_of_ble_eq_true rfl)
  rw [lg_entry_eq]
  generalize (lg_sl ([.ref a0]) ++ List.replicate (1 - (lg_sl ([.ref a0])).length) Slot.unset).toArray = ls at hl ⊢
  have hl : lv_has ls 1 [(0, .ref a0)] := hl
  unfold wp_X11_variationMoves at hp
  exact t_X11_variationMoves_0 F hr hlocks hK hp hW wX.rf (lv_sub hl [0] rfl) hL_a0 hK_a0
def wp_X11_writeMove_59 (D : wD) (post : Int32 → wS → Prop) (xp : String → wS → Prop) (k_27 : wS → Nat → Int64 → Int32 → Prop) (S : wS) (a0 : Nat) (x2 : Int64) (x4 : Int32) : Prop :=
∀ x_1 : Int32, x_1 = x4 + (-8) →
k_27 S a0 x2 x_1
def wp_X11_writeMove_27 (D : wD) (post : Int32 → wS → Prop) (xp : String → wS → Prop)  : Nat → wS → Nat → Int64 → Int32 → Prop
  | 0, _, _, _, _ => False
  | n + 1, S, a0, x2, x4 =>
    ((x4 < 0 → ∃ y_2 : Nat, sR S a0 14 = some y_2 ∧ wM D S y_2 ∧ sK S y_2 = 1 ∧
    wp_J4_length_8abf5 D (fun r_3 S_4 => 
    post r_3 S_4) S y_2) ∧
     (¬ x4 < 0 → ∀ x_5 : Int32, x_5 = (ji2c (Int64.toInt32 ((jlushr x2 x4) &&& (255 : Int64)))) →
    ((x_5 = 0 → wp_X11_writeMove_59 D post xp (wp_X11_writeMove_27 D post xp n) S a0 x2 x4) ∧
     (¬ x_5 = 0 → ∃ y_7 : Nat, sR S a0 14 = some y_7 ∧ wM D S y_7 ∧ sK S y_7 = 1 ∧
    wp_J4_append_cf468 D (fun r_8 S_9 => 
    wp_X11_writeMove_59 D post xp (wp_X11_writeMove_27 D post xp n) S_9 a0 x2 x4) S y_7 x_5))))
def wp_X11_writeMove_0 (D : wD) (post : Int32 → wS → Prop) (xp : String → wS → Prop)  (S : wS) (a0 : Nat) (x1 : Int32) : Prop :=
wp_X11_codeOf D (fun r_1 S_2 => 
∃ y_3 : Nat, sR S_2 a0 5 = some y_3 ∧ wM D S_2 y_3 ∧ sK S_2 y_3 = 9 ∧
wp_X4_wordOf D (fun r_4 S_5 => 
∃ y_6 : Nat, sR S_5 a0 14 = some y_6 ∧ wM D S_5 y_6 ∧ sK S_5 y_6 = 1 ∧
wp_J4_setLength_d00df D (fun S_8 => 
∃ n_9 : Nat, wp_X11_writeMove_27 D post xp n_9 S_8 a0 r_4 (56 : Int32)) S_5 y_6 (0 : Int32)) S_2 y_3 x1) xp S a0 x1
abbrev r_X11_writeMove : Room := { frames := 8, cells := 2, slots := 12, locals := 167 }
def wp_X11_writeMove (D : wD) (post : Int32 → wS → Prop) (xp : String → wS → Prop) (S : wS) (a0 : Nat) (x1 : Int32) : Prop := wp_X11_writeMove_0 D post xp S a0 x1
set_option maxHeartbeats 4000000 in
set_option maxRecDepth 100000 in
theorem t_X11_writeMove_59 {p : Program} {l : Launch} {e : Env} {s : State} {m : MethodId} {args : Array Value} {below : List Frame} {meth : Method} {c : Code} {D : wD} {cy : Nat → ClassId} {X : va_W} {A : Nat → Prop} {S0 : wS} {post : Int32 → wS → Prop} {xp : String → wS → Prop} (F : CallFix p m c cX11_writeMove 6 s args wz_X11_writeMove RX11) (hr : meth.sig.returnType = (some .int)) (hlocks : meth.locks = false) (hK : wK D cy A s) (hl0 : l.stackTraces = false) (hexc : ∀ x ∈ c.exceptionTable.toList, False) {k_27 : wS → Nat → Int64 → Int32 → Prop} (q_27 : ∀ {S : wS} {H : Heap} {locs : List Loc} {ls : Array Slot} {a0 : Nat} {x2 : Int64} {x4 : Int32}, k_27 S a0 x2 x4 → wO D cy X A s.heap S H locs → wX D S0 S → lv_has ls 6 [(0, .ref a0), (2, .long x2), (4, .int x4)] → wM D S a0 → sK S a0 = 16 → W p l e r_X11_writeMove s m args below meth c H locs 2 12 (vx_MQ below (va_Qi (fun r S9 => wX D S0 S9 ∧ post r S9) (wB D cy X A) A) (wEx D cy X A (fun E S9 => wX D S0 S9 ∧ xp E S9)) args s 2 12 A) (F0 m 27 ls [])) : ∀ {S : wS} {H : Heap} {locs : List Loc} {ls : Array Slot} {a0 : Nat} {x2 : Int64} {x4 : Int32}, wp_X11_writeMove_59 D post xp k_27 S a0 x2 x4 → wO D cy X A s.heap S H locs → wX D S0 S → lv_has ls 6 [(0, .ref a0), (2, .long x2), (4, .int x4)] → wM D S a0 → sK S a0 = 16 → W p l e r_X11_writeMove s m args below meth c H locs 2 12 (vx_MQ below (va_Qi (fun r S9 => wX D S0 S9 ∧ post r S9) (wB D cy X A) A) (wEx D cy X A (fun E S9 => wX D S0 S9 ∧ xp E S9)) args s 2 12 A) (F0 m 59 ls []) := by
  obtain ⟨hx, hb, hml, hown, hts⟩ := id F
  have hwg : ∀ w ∈ WG, w.before args s = true := fun w h => hts w (List.mem_cons_of_mem _ h)
  intro S H locs ls a0 x2 x4 hp hW hE hl hL_a0 hK_a0
  unfold wp_X11_writeMove_59 at hp
  obtain ⟨x_1, ex_1⟩ : ∃ z : Int32, z = x4 + (-8) := ⟨_, rfl⟩
  replace hp := hp x_1 ex_1
  refine lv_iinc (v := x_1) (lv' := [(4, .int x_1), (0, .ref a0), (2, .long x2)]) hx hb dX11_writeMove_59 hl (k := 2) rfl (by rw [ex_1]; rfl) (by decide) rfl (fun ls hl => ?_)
  refine lv_goto (tgt := 27) hx hb dX11_writeMove_62 (by decide) ?_
  exact q_27 hp hW hE (lv_sub hl [1, 2, 0] rfl) hL_a0 hK_a0
set_option maxHeartbeats 4000000 in
set_option maxRecDepth 100000 in
theorem t_X11_writeMove_27 {p : Program} {l : Launch} {e : Env} {s : State} {m : MethodId} {args : Array Value} {below : List Frame} {meth : Method} {c : Code} {D : wD} {cy : Nat → ClassId} {X : va_W} {A : Nat → Prop} {S0 : wS} {post : Int32 → wS → Prop} {xp : String → wS → Prop} (F : CallFix p m c cX11_writeMove 6 s args wz_X11_writeMove RX11) (hr : meth.sig.returnType = (some .int)) (hlocks : meth.locks = false) (hK : wK D cy A s) (hl0 : l.stackTraces = false) (hexc : ∀ x ∈ c.exceptionTable.toList, False) : ∀ (n : Nat) {S : wS} {H : Heap} {locs : List Loc} {ls : Array Slot} {a0 : Nat} {x2 : Int64} {x4 : Int32}, wp_X11_writeMove_27 D post xp n S a0 x2 x4 → wO D cy X A s.heap S H locs → wX D S0 S → lv_has ls 6 [(0, .ref a0), (2, .long x2), (4, .int x4)] → wM D S a0 → sK S a0 = 16 → W p l e r_X11_writeMove s m args below meth c H locs 2 12 (vx_MQ below (va_Qi (fun r S9 => wX D S0 S9 ∧ post r S9) (wB D cy X A) A) (wEx D cy X A (fun E S9 => wX D S0 S9 ∧ xp E S9)) args s 2 12 A) (F0 m 27 ls []) := by
  obtain ⟨hx, hb, hml, hown, hts⟩ := id F
  have hwg : ∀ w ∈ WG, w.before args s = true := fun w h => hts w (List.mem_cons_of_mem _ h)
  have i_16 : ∀ w ∈ u_ws RX11 TX11 18, w ∈ wz_X11_writeMove := fun w h => List.mem_cons_of_mem _ (wu_16 w h)
  have k_109 := hwg _ wf_RX11_109
  intro n
  induction n with
  | zero =>
    intro S H locs ls a0 x2 x4 hp
    exact hp.elim
  | succ n ih =>
    intro S H locs ls a0 x2 x4 hp hW hE hl hL_a0 hK_a0
    unfold wp_X11_writeMove_27 at hp
    refine lv_iload hx hb dX11_writeMove_27 (lv_at hl 2 rfl) ?_
    refine lv_if_lt (tgt := 65) hx hb dX11_writeMove_29 (by decide) (fun c_1 => ?_) (fun c_1 => ?_)
    · replace hp := hp.1 c_1
      refine lv_aload_n hx hb dX11_writeMove_65 rfl (lv_at hl 0 rfl) ?_
      obtain ⟨y_2, ey_2, hL_y_2, hK_y_2, hp⟩ := hp
      refine w_get (k := 16) (f := 14) (T := TX11) (v := .ref y_2) F hK hW hL_a0 hK_a0 (by decide) rfl rfl (by decide) i_16 k_109 (by rw [show wv 16 14 S a0 = va_rf (sR S a0 14) from rfl, ey_2]; rfl) dX11_writeMove_66 ?_
      refine w_callI (va_runV (As := []) (rest := []) F (c_J4_length_8abf5 l hL_y_2 hK_y_2 hp H.size) (cwV (C := RJ4) 0 hts (wg_V wm_RX11_232 wy_J4_length_8abf5) rfl rfl rfl (by decide +kernel) ⟨Nat.le_of_ble_eq_true rfl, Nat.le_of_ble_eq_true rfl⟩) (w_preV hK hW hL_y_2 hK_y_2 (by decide) rfl) rfl rfl hl.1 rfl (lv_room (Nat.le_of_ble_eq_true rfl)) dX11_writeMove_69 ⟨Nat.le_of_ble_eq_true rfl, Nat.le_of_ble_eq_true rfl⟩) hW (fun r_3 S_4 H locs hp hW => ?_)
      obtain ⟨hX_S_4, hp⟩ := hp
      refine W.widen (k := 2) (n := 12) (by decide) (by decide) ?_
      have hE := hE.trans hX_S_4
      have hK_a0 : sK S_4 a0 = 16 := (hX_S_4.2 a0 hL_a0).1.trans hK_a0
      have hL_a0 : wM D S_4 a0 := hX_S_4.M hL_a0
      refine vx_ret ?_
      exact w_iret hx hb hr hlocks hW ⟨hE, hp⟩ dX11_writeMove_72
    · replace hp := hp.2 c_1
      refine lv_lload_n hx hb dX11_writeMove_32 rfl (lv_at hl 1 rfl) ?_
      refine lv_iload hx hb dX11_writeMove_33 (lv_at hl 2 rfl) ?_
      refine lv_lushr (v := (jlushr x2 x4)) hx hb dX11_writeMove_35 rfl ?_
      refine lv_ldc2 (v := 255) hx hb hown (hwg _ wJ_RX11_279) dX11_writeMove_36 ?_
      refine lv_land hx hb dX11_writeMove_39 ?_
      refine lv_l2i (v := (Int64.toInt32 ((jlushr x2 x4) &&& (255 : Int64)))) hx hb dX11_writeMove_40 rfl ?_
      refine lv_i2c (v := (ji2c (Int64.toInt32 ((jlushr x2 x4) &&& (255 : Int64))))) hx hb dX11_writeMove_41 rfl ?_
      refine lv_topi (fun x_5 ex_5 => ?_)
      replace hp := hp x_5 ex_5
      refine lv_istore (lv' := [(5, .int x_5), (0, .ref a0), (2, .long x2), (4, .int x4)]) hx hb dX11_writeMove_42 hl (by decide) rfl (fun ls hl => ?_)
      refine lv_iload hx hb dX11_writeMove_44 (lv_at hl 0 rfl) ?_
      refine lv_if_eq (tgt := 59) hx hb dX11_writeMove_46 (by decide) (fun c_6 => ?_) (fun c_6 => ?_)
      · replace hp := hp.1 c_6
        exact t_X11_writeMove_59 F hr hlocks hK hl0 hexc ih hp hW hE (lv_sub hl [1, 2, 3] rfl) hL_a0 hK_a0
      · replace hp := hp.2 c_6
        refine lv_aload_n hx hb dX11_writeMove_49 rfl (lv_at hl 1 rfl) ?_
        obtain ⟨y_7, ey_7, hL_y_7, hK_y_7, hp⟩ := hp
        refine w_get (k := 16) (f := 14) (T := TX11) (v := .ref y_7) F hK hW hL_a0 hK_a0 (by decide) rfl rfl (by decide) i_16 k_109 (by rw [show wv 16 14 S a0 = va_rf (sR S a0 14) from rfl, ey_7]; rfl) dX11_writeMove_50 ?_
        refine lv_iload hx hb dX11_writeMove_53 (lv_at hl 0 rfl) ?_
        refine w_callR (va_runV (As := [.int x_5]) (rest := []) F (c_J4_append_cf468 l hL_y_7 hK_y_7 hp H.size) (cwV (C := RJ4) 1 hts (wg_V wm_RX11_281 wy_J4_append_cf468) rfl rfl rfl (by decide +kernel) ⟨Nat.le_of_ble_eq_true rfl, Nat.le_of_ble_eq_true rfl⟩) (w_preV hK hW hL_y_7 hK_y_7 (by decide) rfl) rfl rfl hl.1 rfl (lv_room (Nat.le_of_ble_eq_true rfl)) dX11_writeMove_55 ⟨Nat.le_of_ble_eq_true rfl, Nat.le_of_ble_eq_true rfl⟩) hW (fun r_8 S_9 H locs hp hW => ?_)
        obtain ⟨hX_S_9, hp⟩ := hp
        refine W.widen (k := 2) (n := 12) (by decide) (by decide) ?_
        have hE := hE.trans hX_S_9
        have hK_a0 : sK S_9 a0 = 16 := (hX_S_9.2 a0 hL_a0).1.trans hK_a0
        have hL_a0 : wM D S_9 a0 := hX_S_9.M hL_a0
        refine lv_pop hx hb dX11_writeMove_58 rfl ?_
        exact t_X11_writeMove_59 F hr hlocks hK hl0 hexc ih hp hW hE (lv_sub hl [1, 2, 3] rfl) hL_a0 hK_a0
set_option maxHeartbeats 4000000 in
set_option maxRecDepth 100000 in
theorem t_X11_writeMove_0 {p : Program} {l : Launch} {e : Env} {s : State} {m : MethodId} {args : Array Value} {below : List Frame} {meth : Method} {c : Code} {D : wD} {cy : Nat → ClassId} {X : va_W} {A : Nat → Prop} {S0 : wS} {post : Int32 → wS → Prop} {xp : String → wS → Prop} (F : CallFix p m c cX11_writeMove 6 s args wz_X11_writeMove RX11) (hr : meth.sig.returnType = (some .int)) (hlocks : meth.locks = false) (hK : wK D cy A s) (hl0 : l.stackTraces = false) (hexc : ∀ x ∈ c.exceptionTable.toList, False) : ∀ {S : wS} {H : Heap} {locs : List Loc} {ls : Array Slot} {a0 : Nat} {x1 : Int32}, wp_X11_writeMove_0 D post xp S a0 x1 → wO D cy X A s.heap S H locs → wX D S0 S → lv_has ls 6 [(0, .ref a0), (1, .int x1)] → wM D S a0 → sK S a0 = 16 → W p l e r_X11_writeMove s m args below meth c H locs 0 0 (vx_MQ below (va_Qi (fun r S9 => wX D S0 S9 ∧ post r S9) (wB D cy X A) A) (wEx D cy X A (fun E S9 => wX D S0 S9 ∧ xp E S9)) args s 2 12 A) (F0 m 0 ls []) := by
  obtain ⟨hx, hb, hml, hown, hts⟩ := id F
  have hwg : ∀ w ∈ WG, w.before args s = true := fun w h => hts w (List.mem_cons_of_mem _ h)
  have i_16 : ∀ w ∈ u_ws RX11 TX11 18, w ∈ wz_X11_writeMove := fun w h => List.mem_cons_of_mem _ (wu_16 w h)
  have k_109 := hwg _ wf_RX11_109
  have k_49 := hwg _ wf_RX11_49
  intro S H locs ls a0 x1 hp hW hE hl hL_a0 hK_a0
  unfold wp_X11_writeMove_0 at hp
  refine lv_aload_n hx hb dX11_writeMove_0 rfl (lv_at hl 0 rfl) ?_
  refine lv_iload_n hx hb dX11_writeMove_1 rfl (lv_at hl 1 rfl) ?_
  refine x_callI (vx_runV (As := [.int x1]) (rest := []) F (c_X11_codeOf l hl0 hL_a0 hK_a0 hp H.size) (cwV (C := RX11) 1 hts (wg_V wm_RX11_264 wy_X11_codeOf) rfl rfl rfl (by decide +kernel) ⟨Nat.le_of_ble_eq_true rfl, Nat.le_of_ble_eq_true rfl⟩) (w_preV hK hW hL_a0 hK_a0 (by decide) rfl) rfl rfl hl.1 rfl (lv_room (Nat.le_of_ble_eq_true rfl)) dX11_writeMove_2 ⟨Nat.le_of_ble_eq_true rfl, Nat.le_of_ble_eq_true rfl⟩) hW (fun E ce q9 S9 H locs hp hW h1 h2 h3 => x_out hexc hlocks ⟨hE.trans hp.1, hp.2⟩ hW h1 h2 h3 (by decide) (by decide)) (fun r_1 S_2 H locs hp hW => ?_)
  obtain ⟨hX_S_2, hp⟩ := hp
  refine W.widen (k := 2) (n := 12) (by decide) (by decide) ?_
  have hE := hE.trans hX_S_2
  have hK_a0 : sK S_2 a0 = 16 := (hX_S_2.2 a0 hL_a0).1.trans hK_a0
  have hL_a0 : wM D S_2 a0 := hX_S_2.M hL_a0
  refine lv_pop hx hb dX11_writeMove_5 rfl ?_
  refine lv_aload_n hx hb dX11_writeMove_6 rfl (lv_at hl 0 rfl) ?_
  obtain ⟨y_3, ey_3, hL_y_3, hK_y_3, hp⟩ := hp
  refine w_get (k := 16) (f := 5) (T := TX11) (v := .ref y_3) F hK hW hL_a0 hK_a0 (by decide) rfl rfl (by decide) i_16 k_49 (by rw [show wv 16 5 S_2 a0 = va_rf (sR S_2 a0 5) from rfl, ey_3]; rfl) dX11_writeMove_7 ?_
  refine lv_iload_n hx hb dX11_writeMove_10 rfl (lv_at hl 1 rfl) ?_
  refine w_callJ (va_runV (As := [.int x1]) (rest := []) F (c_X4_wordOf l hL_y_3 hK_y_3 hp H.size) (cwV (C := RX4) 1 hts (wg_V wm_RX11_276 wy_X4_wordOf) rfl rfl rfl (by decide +kernel) ⟨Nat.le_of_ble_eq_true rfl, Nat.le_of_ble_eq_true rfl⟩) (w_preV hK hW hL_y_3 hK_y_3 (by decide) rfl) rfl rfl hl.1 rfl (lv_room (Nat.le_of_ble_eq_true rfl)) dX11_writeMove_11 ⟨Nat.le_of_ble_eq_true rfl, Nat.le_of_ble_eq_true rfl⟩) hW (fun r_4 S_5 H locs hp hW => ?_)
  obtain ⟨hX_S_5, hp⟩ := hp
  refine W.widen (k := 2) (n := 12) (by decide) (by decide) ?_
  have hE := hE.trans hX_S_5
  have hK_a0 : sK S_5 a0 = 16 := (hX_S_5.2 a0 hL_a0).1.trans hK_a0
  have hL_a0 : wM D S_5 a0 := hX_S_5.M hL_a0
  refine lv_lstore_n (lv' := [(2, .long r_4), (0, .ref a0), (1, .int x1)]) hx hb dX11_writeMove_14 rfl hl (by decide) rfl (fun ls hl => ?_)
  refine lv_aload_n hx hb dX11_writeMove_15 rfl (lv_at hl 1 rfl) ?_
  obtain ⟨y_6, ey_6, hL_y_6, hK_y_6, hp⟩ := hp
  refine w_get (k := 16) (f := 14) (T := TX11) (v := .ref y_6) F hK hW hL_a0 hK_a0 (by decide) rfl rfl (by decide) i_16 k_109 (by rw [show wv 16 14 S_5 a0 = va_rf (sR S_5 a0 14) from rfl, ey_6]; rfl) dX11_writeMove_16 ?_
  refine lv_iconst (v := 0) hx hb dX11_writeMove_19 (by decide) ?_
  refine w_callV (va_runV (As := [.int (0 : Int32)]) (rest := []) F (c_J4_setLength_d00df l hL_y_6 hK_y_6 hp H.size) (cwV (C := RJ4) 1 hts (wg_V wm_RX11_191 wy_J4_setLength_d00df) rfl rfl rfl (by decide +kernel) ⟨Nat.le_of_ble_eq_true rfl, Nat.le_of_ble_eq_true rfl⟩) (w_preV hK hW hL_y_6 hK_y_6 (by decide) rfl) rfl rfl hl.1 rfl (lv_room (Nat.le_of_ble_eq_true rfl)) dX11_writeMove_20 ⟨Nat.le_of_ble_eq_true rfl, Nat.le_of_ble_eq_true rfl⟩) hW (fun S_8 H locs hp hW => ?_)
  obtain ⟨hX_S_8, hp⟩ := hp
  refine W.widen (k := 2) (n := 12) (by decide) (by decide) ?_
  have hE := hE.trans hX_S_8
  have hK_a0 : sK S_8 a0 = 16 := (hX_S_8.2 a0 hL_a0).1.trans hK_a0
  have hL_a0 : wM D S_8 a0 := hX_S_8.M hL_a0
  refine lv_bipush (v := 56) hx hb dX11_writeMove_23 (by decide) ?_
  refine lv_istore (lv' := [(4, .int (56 : Int32)), (2, .long r_4), (0, .ref a0), (1, .int x1)]) hx hb dX11_writeMove_25 hl (by decide) rfl (fun ls hl => ?_)
  obtain ⟨n_9, hp⟩ := hp
  exact t_X11_writeMove_27 F hr hlocks hK hl0 hexc n_9 hp hW hE (lv_sub hl [2, 1, 0] rfl) hL_a0 hK_a0
set_option maxHeartbeats 4000000 in
set_option maxRecDepth 100000 in
theorem c_X11_writeMove (l : Launch) {D : wD} {cy : Nat → ClassId} {X : va_W} {S0 : wS} {post : Int32 → wS → Prop} {xp : String → wS → Prop} (hl0 : l.stackTraces = false) {a0 : Nat} {x1 : Int32} (hL_a0 : wM D S0 a0) (hK_a0 : sK S0 a0 = 16) (hp : wp_X11_writeMove D post xp S0 a0 x1) : xI D cy X l yX11_writeMove wz_X11_writeMove r_X11_writeMove [.ref a0, .int x1] S0 (fun r S9 => wX D S0 S9 ∧ post r S9) (fun E S9 => wX D S0 S9 ∧ xp E S9) := by
  intro sz
  refine vx_ofW (cc := cX11_writeMove) (maxL := 6) (ret := (some .int)) (by decide) rfl ?_
  intro p e s m args below meth c s₁ B hml hexc hv
  obtain ⟨rfl, hsz, hP, hK, hD0, hRO⟩ := hv
  have hts := atoms_spec (ws := wz_X11_writeMove) B.pre
  have hown : s.vm.findClass RX11 = some m.cls := findClass_of_methodNamed B.named
  subst hsz
  have hD := hD0.self (sz := s.heap.size)
  have F : CallFix p m c cX11_writeMove 6 s _ wz_X11_writeMove RX11 := ⟨B.exec, B.bytes, hml, hown, hts⟩
  have hr := B.returns
  have hlocks := B.notSynchronized
  generalize hAe : va_A (wL cy X S0) s.heap.size = A at hD hK ⊢
  have hA : ∀ q, s.heap.size ≤ q → A q := fun q h => by rw [← hAe]; exact Or.inr h
  have hW : wO D cy X A s.heap S0 s.heap [] := ⟨hP, hD, va_S.rf, hA, hRO⟩
  have hl := lv_entry ([.ref a0, .int x1]) (n := 6) (Nat.le_of_ble_eq_true rfl)
  rw [lg_entry_eq]
  generalize (lg_sl ([.ref a0, .int x1]) ++ List.replicate (6 - (lg_sl ([.ref a0, .int x1])).length) Slot.unset).toArray = ls at hl ⊢
  have hl : lv_has ls 6 [(0, .ref a0), (1, .int x1)] := hl
  unfold wp_X11_writeMove at hp
  exact t_X11_writeMove_0 F hr hlocks hK hl0 hexc hp hW wX.rf (lv_sub hl [0, 1] rfl) hL_a0 hK_a0
def wp_X11_writePaper_0 (D : wD) (post : Int32 → wS → Prop)  (S : wS) (a0 : Nat) : Prop :=
∃ y_1 : Nat, sR S a0 7 = some y_1 ∧ wM D S y_1 ∧ sK S y_1 = 11 ∧
∃ y_2 : Nat, sR S a0 2 = some y_2 ∧ wM D S y_2 ∧ sK S y_2 = 12 ∧
∃ y_3 : Nat, sR S a0 14 = some y_3 ∧ wM D S y_3 ∧ sK S y_3 = 1 ∧
wp_X6_write D (fun S_5 => 
∃ y_6 : Nat, sR S_5 a0 14 = some y_6 ∧ wM D S_5 y_6 ∧ sK S_5 y_6 = 1 ∧
wp_J4_length_8abf5 D (fun r_7 S_8 => 
post r_7 S_8) S_5 y_6) S y_1 y_2 y_3
abbrev r_X11_writePaper : Room := { frames := 6, cells := 0, slots := 0, locals := 133 }
def wp_X11_writePaper (D : wD) (post : Int32 → wS → Prop) (S : wS) (a0 : Nat) : Prop := wp_X11_writePaper_0 D post S a0
set_option maxHeartbeats 4000000 in
set_option maxRecDepth 100000 in
theorem t_X11_writePaper_0 {p : Program} {l : Launch} {e : Env} {s : State} {m : MethodId} {args : Array Value} {below : List Frame} {meth : Method} {c : Code} {D : wD} {cy : Nat → ClassId} {X : va_W} {A : Nat → Prop} {S0 : wS} {post : Int32 → wS → Prop} (F : CallFix p m c cX11_writePaper 1 s args wz_X11_writePaper RX11) (hr : meth.sig.returnType = (some .int)) (hlocks : meth.locks = false) (hK : wK D cy A s) : ∀ {S : wS} {H : Heap} {locs : List Loc} {ls : Array Slot} {a0 : Nat}, wp_X11_writePaper_0 D post S a0 → wO D cy X A s.heap S H locs → wX D S0 S → lv_has ls 1 [(0, .ref a0)] → wM D S a0 → sK S a0 = 16 → W p l e r_X11_writePaper s m args below meth c H locs 0 0 (MQ below (va_Qi (fun r S9 => wX D S0 S9 ∧ post r S9) (wB D cy X A) A) args s 0 0 A) (F0 m 0 ls []) := by
  obtain ⟨hx, hb, hml, hown, hts⟩ := id F
  have hwg : ∀ w ∈ WG, w.before args s = true := fun w h => hts w (List.mem_cons_of_mem _ h)
  have i_16 : ∀ w ∈ u_ws RX11 TX11 18, w ∈ wz_X11_writePaper := fun w h => List.mem_cons_of_mem _ (wu_16 w h)
  have k_109 := hwg _ wf_RX11_109
  have k_28 := hwg _ wf_RX11_28
  have k_65 := hwg _ wf_RX11_65
  intro S H locs ls a0 hp hW hE hl hL_a0 hK_a0
  unfold wp_X11_writePaper_0 at hp
  refine lv_aload_n hx hb dX11_writePaper_0 rfl (lv_at hl 0 rfl) ?_
  obtain ⟨y_1, ey_1, hL_y_1, hK_y_1, hp⟩ := hp
  refine w_get (k := 16) (f := 7) (T := TX11) (v := .ref y_1) F hK hW hL_a0 hK_a0 (by decide) rfl rfl (by decide) i_16 k_65 (by rw [show wv 16 7 S a0 = va_rf (sR S a0 7) from rfl, ey_1]; rfl) dX11_writePaper_1 ?_
  refine lv_aload_n hx hb dX11_writePaper_4 rfl (lv_at hl 0 rfl) ?_
  obtain ⟨y_2, ey_2, hL_y_2, hK_y_2, hp⟩ := hp
  refine w_get (k := 16) (f := 2) (T := TX11) (v := .ref y_2) F hK hW hL_a0 hK_a0 (by decide) rfl rfl (by decide) i_16 k_28 (by rw [show wv 16 2 S a0 = va_rf (sR S a0 2) from rfl, ey_2]; rfl) dX11_writePaper_5 ?_
  refine lv_aload_n hx hb dX11_writePaper_8 rfl (lv_at hl 0 rfl) ?_
  obtain ⟨y_3, ey_3, hL_y_3, hK_y_3, hp⟩ := hp
  refine w_get (k := 16) (f := 14) (T := TX11) (v := .ref y_3) F hK hW hL_a0 hK_a0 (by decide) rfl rfl (by decide) i_16 k_109 (by rw [show wv 16 14 S a0 = va_rf (sR S a0 14) from rfl, ey_3]; rfl) dX11_writePaper_9 ?_
  refine w_callV (va_runV (As := [.ref y_2, .ref y_3]) (rest := []) F (c_X6_write l hL_y_1 hK_y_1 hL_y_2 hK_y_2 hL_y_3 hK_y_3 hp H.size) (cwV (C := RX6) 2 hts (wg_V wm_RX11_228 wy_X6_write) rfl rfl rfl (by decide +kernel) ⟨Nat.le_of_ble_eq_true rfl, Nat.le_of_ble_eq_true rfl⟩) (w_preV hK hW hL_y_1 hK_y_1 (by decide) rfl) rfl rfl hl.1 rfl (lv_room (Nat.le_of_ble_eq_true rfl)) dX11_writePaper_12 ⟨Nat.le_of_ble_eq_true rfl, Nat.le_of_ble_eq_true rfl⟩) hW (fun S_5 H locs hp hW => ?_)
  obtain ⟨hX_S_5, hp⟩ := hp
  refine W.widen (k := 0) (n := 0) (by decide) (by decide) ?_
  have hE := hE.trans hX_S_5
  have hK_a0 : sK S_5 a0 = 16 := (hX_S_5.2 a0 hL_a0).1.trans hK_a0
  have hL_a0 : wM D S_5 a0 := hX_S_5.M hL_a0
  refine lv_aload_n hx hb dX11_writePaper_15 rfl (lv_at hl 0 rfl) ?_
  obtain ⟨y_6, ey_6, hL_y_6, hK_y_6, hp⟩ := hp
  refine w_get (k := 16) (f := 14) (T := TX11) (v := .ref y_6) F hK hW hL_a0 hK_a0 (by decide) rfl rfl (by decide) i_16 k_109 (by rw [show wv 16 14 S_5 a0 = va_rf (sR S_5 a0 14) from rfl, ey_6]; rfl) dX11_writePaper_16 ?_
  refine w_callI (va_runV (As := []) (rest := []) F (c_J4_length_8abf5 l hL_y_6 hK_y_6 hp H.size) (cwV (C := RJ4) 0 hts (wg_V wm_RX11_232 wy_J4_length_8abf5) rfl rfl rfl (by decide +kernel) ⟨Nat.le_of_ble_eq_true rfl, Nat.le_of_ble_eq_true rfl⟩) (w_preV hK hW hL_y_6 hK_y_6 (by decide) rfl) rfl rfl hl.1 rfl (lv_room (Nat.le_of_ble_eq_true rfl)) dX11_writePaper_19 ⟨Nat.le_of_ble_eq_true rfl, Nat.le_of_ble_eq_true rfl⟩) hW (fun r_7 S_8 H locs hp hW => ?_)
  obtain ⟨hX_S_8, hp⟩ := hp
  refine W.widen (k := 0) (n := 0) (by decide) (by decide) ?_
  have hE := hE.trans hX_S_8
  have hK_a0 : sK S_8 a0 = 16 := (hX_S_8.2 a0 hL_a0).1.trans hK_a0
  have hL_a0 : wM D S_8 a0 := hX_S_8.M hL_a0
  exact w_iret hx hb hr hlocks hW ⟨hE, hp⟩ dX11_writePaper_22
set_option maxHeartbeats 4000000 in
set_option maxRecDepth 100000 in
theorem c_X11_writePaper (l : Launch) {D : wD} {cy : Nat → ClassId} {X : va_W} {S0 : wS} {post : Int32 → wS → Prop} {a0 : Nat} (hL_a0 : wM D S0 a0) (hK_a0 : sK S0 a0 = 16) (hp : wp_X11_writePaper D post S0 a0) : mI D cy X l yX11_writePaper wz_X11_writePaper r_X11_writePaper [.ref a0] S0 (fun r S9 => wX D S0 S9 ∧ post r S9) := by
  intro sz
  refine Met.ofW (cc := cX11_writePaper) (maxL := 1) (ret := (some .int)) (by decide) rfl ?_
  intro p e s m args below meth c s₁ B hml hv
  obtain ⟨rfl, hsz, hP, hK, hD0, hRO⟩ := hv
  have hts := atoms_spec (ws := wz_X11_writePaper) B.pre
  have hown : s.vm.findClass RX11 = some m.cls := findClass_of_methodNamed B.named
  subst hsz
  have hD := hD0.self (sz := s.heap.size)
  have F : CallFix p m c cX11_writePaper 1 s _ wz_X11_writePaper RX11 := ⟨B.exec, B.bytes, hml, hown, hts⟩
  have hr := B.returns
  have hlocks := B.notSynchronized
  generalize hAe : va_A (wL cy X S0) s.heap.size = A at hD hK ⊢
  have hA : ∀ q, s.heap.size ≤ q → A q := fun q h => by rw [← hAe]; exact Or.inr h
  have hW : wO D cy X A s.heap S0 s.heap [] := ⟨hP, hD, va_S.rf, hA, hRO⟩
  have hl := lv_entry ([.ref a0]) (n := 1) (Nat.le_of_ble_eq_true rfl)
  rw [lg_entry_eq]
  generalize (lg_sl ([.ref a0]) ++ List.replicate (1 - (lg_sl ([.ref a0])).length) Slot.unset).toArray = ls at hl ⊢
  have hl : lv_has ls 1 [(0, .ref a0)] := hl
  unfold wp_X11_writePaper at hp
  exact t_X11_writePaper_0 F hr hlocks hK hp hW wX.rf (lv_sub hl [0] rfl) hL_a0 hK_a0
