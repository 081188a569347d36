theorem dX12_fileOf_0 : decode cX12_fileOf 0 = .ok (.iload_n 1, 1) := by decide +kernel
theorem dX12_fileOf_1 : decode cX12_fileOf 1 = .ok (.aload_n 0, 1) := by decide +kernel
theorem dX12_fileOf_2 : decode cX12_fileOf 2 = .ok (.getfield 9, 3) := by decide +kernel
theorem dX12_fileOf_5 : decode cX12_fileOf 5 = .ok (.irem, 1) := by decide +kernel
theorem dX12_fileOf_6 : decode cX12_fileOf 6 = .ok (.ireturn, 1) := by decide +kernel
theorem dX12_on_0 : decode cX12_on 0 = .ok (.aload_n 0, 1) := by decide +kernel
theorem dX12_on_1 : decode cX12_on 1 = .ok (.getfield 16, 3) := by decide +kernel
theorem dX12_on_4 : decode cX12_on 4 = .ok (.bipush 67, 2) := by decide +kernel
theorem dX12_on_6 : decode cX12_on 6 = .ok (.iload_n 1, 1) := by decide +kernel
theorem dX12_on_7 : decode cX12_on 7 = .ok (.imul, 1) := by decide +kernel
theorem dX12_on_8 : decode cX12_on 8 = .ok (.iload_n 2, 1) := by decide +kernel
theorem dX12_on_9 : decode cX12_on 9 = .ok (.iadd, 1) := by decide +kernel
theorem dX12_on_10 : decode cX12_on 10 = .ok (.iaload, 1) := by decide +kernel
theorem dX12_on_11 : decode cX12_on 11 = .ok (.ireturn, 1) := by decide +kernel
theorem dX12_rankOf_0 : decode cX12_rankOf 0 = .ok (.iload_n 1, 1) := by decide +kernel
theorem dX12_rankOf_1 : decode cX12_rankOf 1 = .ok (.aload_n 0, 1) := by decide +kernel
theorem dX12_rankOf_2 : decode cX12_rankOf 2 = .ok (.getfield 9, 3) := by decide +kernel
theorem dX12_rankOf_5 : decode cX12_rankOf 5 = .ok (.idiv, 1) := by decide +kernel
theorem dX12_rankOf_6 : decode cX12_rankOf 6 = .ok (.ireturn, 1) := by decide +kernel
theorem dX12_isClear_0 : decode cX12_isClear 0 = .ok (.aload_n 0, 1) := by decide +kernel
theorem dX12_isClear_1 : decode cX12_isClear 1 = .ok (.iload_n 3, 1) := by decide +kernel
theorem dX12_isClear_2 : decode cX12_isClear 2 = .ok (.invokevirtual 134, 3) := by decide +kernel
theorem dX12_isClear_5 : decode cX12_isClear 5 = .ok (.aload_n 0, 1) := by decide +kernel
theorem dX12_isClear_6 : decode cX12_isClear 6 = .ok (.iload_n 2, 1) := by decide +kernel
theorem dX12_isClear_7 : decode cX12_isClear 7 = .ok (.invokevirtual 134, 3) := by decide +kernel
theorem dX12_isClear_10 : decode cX12_isClear 10 = .ok (.isub, 1) := by decide +kernel
theorem dX12_isClear_11 : decode cX12_isClear 11 = .ok (.istore 4, 2) := by decide +kernel
theorem dX12_isClear_13 : decode cX12_isClear 13 = .ok (.aload_n 0, 1) := by decide +kernel
theorem dX12_isClear_14 : decode cX12_isClear 14 = .ok (.iload_n 3, 1) := by decide +kernel
theorem dX12_isClear_15 : decode cX12_isClear 15 = .ok (.invokevirtual 138, 3) := by decide +kernel
theorem dX12_isClear_18 : decode cX12_isClear 18 = .ok (.aload_n 0, 1) := by decide +kernel
theorem dX12_isClear_19 : decode cX12_isClear 19 = .ok (.iload_n 2, 1) := by decide +kernel
theorem dX12_isClear_20 : decode cX12_isClear 20 = .ok (.invokevirtual 138, 3) := by decide +kernel
theorem dX12_isClear_23 : decode cX12_isClear 23 = .ok (.isub, 1) := by decide +kernel
theorem dX12_isClear_24 : decode cX12_isClear 24 = .ok (.istore 5, 2) := by decide +kernel
theorem dX12_isClear_26 : decode cX12_isClear 26 = .ok (.iload 5, 2) := by decide +kernel
theorem dX12_isClear_28 : decode cX12_isClear 28 = .ok (.ifCond .le 10, 3) := by decide +kernel
theorem dX12_isClear_31 : decode cX12_isClear 31 = .ok (.aload_n 0, 1) := by decide +kernel
theorem dX12_isClear_32 : decode cX12_isClear 32 = .ok (.getfield 9, 3) := by decide +kernel
theorem dX12_isClear_35 : decode cX12_isClear 35 = .ok (.goto 17, 3) := by decide +kernel
theorem dX12_isClear_38 : decode cX12_isClear 38 = .ok (.iload 5, 2) := by decide +kernel
theorem dX12_isClear_40 : decode cX12_isClear 40 = .ok (.ifCond .ge 11, 3) := by decide +kernel
theorem dX12_isClear_43 : decode cX12_isClear 43 = .ok (.aload_n 0, 1) := by decide +kernel
theorem dX12_isClear_44 : decode cX12_isClear 44 = .ok (.getfield 9, 3) := by decide +kernel
theorem dX12_isClear_47 : decode cX12_isClear 47 = .ok (.ineg, 1) := by decide +kernel
theorem dX12_isClear_48 : decode cX12_isClear 48 = .ok (.goto 4, 3) := by decide +kernel
theorem dX12_isClear_51 : decode cX12_isClear 51 = .ok (.iconst 0, 1) := by decide +kernel
theorem dX12_isClear_52 : decode cX12_isClear 52 = .ok (.iload 4, 2) := by decide +kernel
theorem dX12_isClear_54 : decode cX12_isClear 54 = .ok (.ifCond .le 7, 3) := by decide +kernel
theorem dX12_isClear_57 : decode cX12_isClear 57 = .ok (.iconst 1, 1) := by decide +kernel
theorem dX12_isClear_58 : decode cX12_isClear 58 = .ok (.goto 13, 3) := by decide +kernel
theorem dX12_isClear_61 : decode cX12_isClear 61 = .ok (.iload 4, 2) := by decide +kernel
theorem dX12_isClear_63 : decode cX12_isClear 63 = .ok (.ifCond .ge 7, 3) := by decide +kernel
theorem dX12_isClear_66 : decode cX12_isClear 66 = .ok (.iconst (-1), 1) := by decide +kernel
theorem dX12_isClear_67 : decode cX12_isClear 67 = .ok (.goto 4, 3) := by decide +kernel
theorem dX12_isClear_70 : decode cX12_isClear 70 = .ok (.iconst 0, 1) := by decide +kernel
theorem dX12_isClear_71 : decode cX12_isClear 71 = .ok (.iadd, 1) := by decide +kernel
theorem dX12_isClear_72 : decode cX12_isClear 72 = .ok (.istore 6, 2) := by decide +kernel
theorem dX12_isClear_74 : decode cX12_isClear 74 = .ok (.iload_n 2, 1) := by decide +kernel
theorem dX12_isClear_75 : decode cX12_isClear 75 = .ok (.iload 6, 2) := by decide +kernel
theorem dX12_isClear_77 : decode cX12_isClear 77 = .ok (.iadd, 1) := by decide +kernel
theorem dX12_isClear_78 : decode cX12_isClear 78 = .ok (.istore 7, 2) := by decide +kernel
theorem dX12_isClear_80 : decode cX12_isClear 80 = .ok (.iload 7, 2) := by decide +kernel
theorem dX12_isClear_82 : decode cX12_isClear 82 = .ok (.iload_n 3, 1) := by decide +kernel
theorem dX12_isClear_83 : decode cX12_isClear 83 = .ok (.if_icmp .eq 25, 3) := by decide +kernel
theorem dX12_isClear_86 : decode cX12_isClear 86 = .ok (.aload_n 0, 1) := by decide +kernel
theorem dX12_isClear_87 : decode cX12_isClear 87 = .ok (.iload_n 1, 1) := by decide +kernel
theorem dX12_isClear_88 : decode cX12_isClear 88 = .ok (.iload 7, 2) := by decide +kernel
theorem dX12_isClear_90 : decode cX12_isClear 90 = .ok (.invokevirtual 141, 3) := by decide +kernel
theorem dX12_isClear_93 : decode cX12_isClear 93 = .ok (.ifCond .eq 5, 3) := by decide +kernel
theorem dX12_isClear_96 : decode cX12_isClear 96 = .ok (.iconst 0, 1) := by decide +kernel
theorem dX12_isClear_97 : decode cX12_isClear 97 = .ok (.ireturn, 1) := by decide +kernel
theorem dX12_isClear_98 : decode cX12_isClear 98 = .ok (.iload 7, 2) := by decide +kernel
theorem dX12_isClear_100 : decode cX12_isClear 100 = .ok (.iload 6, 2) := by decide +kernel
theorem dX12_isClear_102 : decode cX12_isClear 102 = .ok (.iadd, 1) := by decide +kernel
theorem dX12_isClear_103 : decode cX12_isClear 103 = .ok (.istore 7, 2) := by decide +kernel
theorem dX12_isClear_105 : decode cX12_isClear 105 = .ok (.goto (-25), 3) := by decide +kernel
theorem dX12_isClear_108 : decode cX12_isClear 108 = .ok (.iconst 1, 1) := by decide +kernel
theorem dX12_isClear_109 : decode cX12_isClear 109 = .ok (.ireturn, 1) := by decide +kernel
theorem dX12_distance_0 : decode cX12_distance 0 = .ok (.iload_n 0, 1) := by decide +kernel
theorem dX12_distance_1 : decode cX12_distance 1 = .ok (.iload_n 1, 1) := by decide +kernel
theorem dX12_distance_2 : decode cX12_distance 2 = .ok (.if_icmp .ge 9, 3) := by decide +kernel
theorem dX12_distance_5 : decode cX12_distance 5 = .ok (.iload_n 1, 1) := by decide +kernel
theorem dX12_distance_6 : decode cX12_distance 6 = .ok (.iload_n 0, 1) := by decide +kernel
theorem dX12_distance_7 : decode cX12_distance 7 = .ok (.isub, 1) := by decide +kernel
theorem dX12_distance_8 : decode cX12_distance 8 = .ok (.goto 6, 3) := by decide +kernel
theorem dX12_distance_11 : decode cX12_distance 11 = .ok (.iload_n 0, 1) := by decide +kernel
theorem dX12_distance_12 : decode cX12_distance 12 = .ok (.iload_n 1, 1) := by decide +kernel
theorem dX12_distance_13 : decode cX12_distance 13 = .ok (.isub, 1) := by decide +kernel
theorem dX12_distance_14 : decode cX12_distance 14 = .ok (.ireturn, 1) := by decide +kernel
theorem dX12_kindOf_0 : decode cX12_kindOf 0 = .ok (.iload_n 0, 1) := by decide +kernel
theorem dX12_kindOf_1 : decode cX12_kindOf 1 = .ok (.bipush 6, 2) := by decide +kernel
theorem dX12_kindOf_3 : decode cX12_kindOf 3 = .ok (.if_icmp .le 10, 3) := by decide +kernel
theorem dX12_kindOf_6 : decode cX12_kindOf 6 = .ok (.iload_n 0, 1) := by decide +kernel
theorem dX12_kindOf_7 : decode cX12_kindOf 7 = .ok (.bipush 6, 2) := by decide +kernel
theorem dX12_kindOf_9 : decode cX12_kindOf 9 = .ok (.isub, 1) := by decide +kernel
theorem dX12_kindOf_10 : decode cX12_kindOf 10 = .ok (.goto 4, 3) := by decide +kernel
theorem dX12_kindOf_13 : decode cX12_kindOf 13 = .ok (.iload_n 0, 1) := by decide +kernel
theorem dX12_kindOf_14 : decode cX12_kindOf 14 = .ok (.ireturn, 1) := by decide +kernel
theorem dX12_attacks_0 : decode cX12_attacks 0 = .ok (.aload_n 0, 1) := by decide +kernel
theorem dX12_attacks_1 : decode cX12_attacks 1 = .ok (.iload_n 1, 1) := by decide +kernel
theorem dX12_attacks_2 : decode cX12_attacks 2 = .ok (.iload_n 2, 1) := by decide +kernel
theorem dX12_attacks_3 : decode cX12_attacks 3 = .ok (.invokevirtual 141, 3) := by decide +kernel
theorem dX12_attacks_6 : decode cX12_attacks 6 = .ok (.istore 4, 2) := by decide +kernel
theorem dX12_attacks_8 : decode cX12_attacks 8 = .ok (.aload_n 0, 1) := by decide +kernel
theorem dX12_attacks_9 : decode cX12_attacks 9 = .ok (.iload_n 2, 1) := by decide +kernel
theorem dX12_attacks_10 : decode cX12_attacks 10 = .ok (.invokevirtual 134, 3) := by decide +kernel
theorem dX12_attacks_13 : decode cX12_attacks 13 = .ok (.aload_n 0, 1) := by decide +kernel
theorem dX12_attacks_14 : decode cX12_attacks 14 = .ok (.iload_n 3, 1) := by decide +kernel
theorem dX12_attacks_15 : decode cX12_attacks 15 = .ok (.invokevirtual 134, 3) := by decide +kernel
theorem dX12_attacks_18 : decode cX12_attacks 18 = .ok (.invokestatic 145, 3) := by decide +kernel
theorem dX12_attacks_21 : decode cX12_attacks 21 = .ok (.istore 5, 2) := by decide +kernel
theorem dX12_attacks_23 : decode cX12_attacks 23 = .ok (.aload_n 0, 1) := by decide +kernel
theorem dX12_attacks_24 : decode cX12_attacks 24 = .ok (.iload_n 2, 1) := by decide +kernel
theorem dX12_attacks_25 : decode cX12_attacks 25 = .ok (.invokevirtual 138, 3) := by decide +kernel
theorem dX12_attacks_28 : decode cX12_attacks 28 = .ok (.aload_n 0, 1) := by decide +kernel
theorem dX12_attacks_29 : decode cX12_attacks 29 = .ok (.iload_n 3, 1) := by decide +kernel
theorem dX12_attacks_30 : decode cX12_attacks 30 = .ok (.invokevirtual 138, 3) := by decide +kernel
theorem dX12_attacks_33 : decode cX12_attacks 33 = .ok (.invokestatic 145, 3) := by decide +kernel
theorem dX12_attacks_36 : decode cX12_attacks 36 = .ok (.istore 6, 2) := by decide +kernel
theorem dX12_attacks_38 : decode cX12_attacks 38 = .ok (.iload 4, 2) := by decide +kernel
theorem dX12_attacks_40 : decode cX12_attacks 40 = .ok (.invokestatic 148, 3) := by decide +kernel
theorem dX12_attacks_43 : decode cX12_attacks 43 = .ok (.tableswitch 215 1 6 #[37, 176, 116, 148, 63, 78], 37) := by decide +kernel
theorem dX12_attacks_80 : decode cX12_attacks 80 = .ok (.iload 5, 2) := by decide +kernel
theorem dX12_attacks_82 : decode cX12_attacks 82 = .ok (.iconst 1, 1) := by decide +kernel
theorem dX12_attacks_83 : decode cX12_attacks 83 = .ok (.if_icmp .gt 21, 3) := by decide +kernel
theorem dX12_attacks_86 : decode cX12_attacks 86 = .ok (.iload 6, 2) := by decide +kernel
theorem dX12_attacks_88 : decode cX12_attacks 88 = .ok (.iconst 1, 1) := by decide +kernel
theorem dX12_attacks_89 : decode cX12_attacks 89 = .ok (.if_icmp .gt 15, 3) := by decide +kernel
theorem dX12_attacks_92 : decode cX12_attacks 92 = .ok (.iload 5, 2) := by decide +kernel
theorem dX12_attacks_94 : decode cX12_attacks 94 = .ok (.iload 6, 2) := by decide +kernel
theorem dX12_attacks_96 : decode cX12_attacks 96 = .ok (.iadd, 1) := by decide +kernel
theorem dX12_attacks_97 : decode cX12_attacks 97 = .ok (.ifCond .le 7, 3) := by decide +kernel
theorem dX12_attacks_100 : decode cX12_attacks 100 = .ok (.iconst 1, 1) := by decide +kernel
theorem dX12_attacks_101 : decode cX12_attacks 101 = .ok (.goto 4, 3) := by decide +kernel
theorem dX12_attacks_104 : decode cX12_attacks 104 = .ok (.iconst 0, 1) := by decide +kernel
theorem dX12_attacks_105 : decode cX12_attacks 105 = .ok (.ireturn, 1) := by decide +kernel
theorem dX12_attacks_106 : decode cX12_attacks 106 = .ok (.iload 5, 2) := by decide +kernel
theorem dX12_attacks_108 : decode cX12_attacks 108 = .ok (.iload 6, 2) := by decide +kernel
theorem dX12_attacks_110 : decode cX12_attacks 110 = .ok (.imul, 1) := by decide +kernel
theorem dX12_attacks_111 : decode cX12_attacks 111 = .ok (.iconst 2, 1) := by decide +kernel
theorem dX12_attacks_112 : decode cX12_attacks 112 = .ok (.if_icmp .ne 7, 3) := by decide +kernel
theorem dX12_attacks_115 : decode cX12_attacks 115 = .ok (.iconst 1, 1) := by decide +kernel
theorem dX12_attacks_116 : decode cX12_attacks 116 = .ok (.goto 4, 3) := by decide +kernel
theorem dX12_attacks_119 : decode cX12_attacks 119 = .ok (.iconst 0, 1) := by decide +kernel
theorem dX12_attacks_120 : decode cX12_attacks 120 = .ok (.ireturn, 1) := by decide +kernel
theorem dX12_attacks_121 : decode cX12_attacks 121 = .ok (.iload 5, 2) := by decide +kernel
theorem dX12_attacks_123 : decode cX12_attacks 123 = .ok (.iconst 1, 1) := by decide +kernel
theorem dX12_attacks_124 : decode cX12_attacks 124 = .ok (.if_icmp .ne 33, 3) := by decide +kernel
theorem dX12_attacks_127 : decode cX12_attacks 127 = .ok (.aload_n 0, 1) := by decide +kernel
theorem dX12_attacks_128 : decode cX12_attacks 128 = .ok (.iload_n 3, 1) := by decide +kernel
theorem dX12_attacks_129 : decode cX12_attacks 129 = .ok (.invokevirtual 138, 3) := by decide +kernel
theorem dX12_attacks_132 : decode cX12_attacks 132 = .ok (.aload_n 0, 1) := by decide +kernel
theorem dX12_attacks_133 : decode cX12_attacks 133 = .ok (.iload_n 2, 1) := by decide +kernel
theorem dX12_attacks_134 : decode cX12_attacks 134 = .ok (.invokevirtual 138, 3) := by decide +kernel
theorem dX12_attacks_137 : decode cX12_attacks 137 = .ok (.isub, 1) := by decide +kernel
theorem dX12_attacks_138 : decode cX12_attacks 138 = .ok (.iload 4, 2) := by decide +kernel
theorem dX12_attacks_140 : decode cX12_attacks 140 = .ok (.bipush 6, 2) := by decide +kernel
theorem dX12_attacks_142 : decode cX12_attacks 142 = .ok (.if_icmp .ne 7, 3) := by decide +kernel
theorem dX12_attacks_145 : decode cX12_attacks 145 = .ok (.iconst 1, 1) := by decide +kernel
theorem dX12_attacks_146 : decode cX12_attacks 146 = .ok (.goto 4, 3) := by decide +kernel
theorem dX12_attacks_149 : decode cX12_attacks 149 = .ok (.iconst (-1), 1) := by decide +kernel
theorem dX12_attacks_150 : decode cX12_attacks 150 = .ok (.if_icmp .ne 7, 3) := by decide +kernel
theorem dX12_attacks_153 : decode cX12_attacks 153 = .ok (.iconst 1, 1) := by decide +kernel
theorem dX12_attacks_154 : decode cX12_attacks 154 = .ok (.goto 4, 3) := by decide +kernel
theorem dX12_attacks_157 : decode cX12_attacks 157 = .ok (.iconst 0, 1) := by decide +kernel
theorem dX12_attacks_158 : decode cX12_attacks 158 = .ok (.ireturn, 1) := by decide +kernel
theorem dX12_attacks_159 : decode cX12_attacks 159 = .ok (.iload 5, 2) := by decide +kernel
theorem dX12_attacks_161 : decode cX12_attacks 161 = .ok (.iload 6, 2) := by decide +kernel
theorem dX12_attacks_163 : decode cX12_attacks 163 = .ok (.imul, 1) := by decide +kernel
theorem dX12_attacks_164 : decode cX12_attacks 164 = .ok (.ifCond .ne 25, 3) := by decide +kernel
theorem dX12_attacks_167 : decode cX12_attacks 167 = .ok (.iload 5, 2) := by decide +kernel
theorem dX12_attacks_169 : decode cX12_attacks 169 = .ok (.iload 6, 2) := by decide +kernel
theorem dX12_attacks_171 : decode cX12_attacks 171 = .ok (.iadd, 1) := by decide +kernel
theorem dX12_attacks_172 : decode cX12_attacks 172 = .ok (.ifCond .le 17, 3) := by decide +kernel
theorem dX12_attacks_175 : decode cX12_attacks 175 = .ok (.aload_n 0, 1) := by decide +kernel
theorem dX12_attacks_176 : decode cX12_attacks 176 = .ok (.iload_n 1, 1) := by decide +kernel
theorem dX12_attacks_177 : decode cX12_attacks 177 = .ok (.iload_n 2, 1) := by decide +kernel
theorem dX12_attacks_178 : decode cX12_attacks 178 = .ok (.iload_n 3, 1) := by decide +kernel
theorem dX12_attacks_179 : decode cX12_attacks 179 = .ok (.invokevirtual 151, 3) := by decide +kernel
theorem dX12_attacks_182 : decode cX12_attacks 182 = .ok (.ifCond .eq 7, 3) := by decide +kernel
theorem dX12_attacks_185 : decode cX12_attacks 185 = .ok (.iconst 1, 1) := by decide +kernel
theorem dX12_attacks_186 : decode cX12_attacks 186 = .ok (.goto 4, 3) := by decide +kernel
theorem dX12_attacks_189 : decode cX12_attacks 189 = .ok (.iconst 0, 1) := by decide +kernel
theorem dX12_attacks_190 : decode cX12_attacks 190 = .ok (.ireturn, 1) := by decide +kernel
theorem dX12_attacks_191 : decode cX12_attacks 191 = .ok (.iload 5, 2) := by decide +kernel
theorem dX12_attacks_193 : decode cX12_attacks 193 = .ok (.iload 6, 2) := by decide +kernel
theorem dX12_attacks_195 : decode cX12_attacks 195 = .ok (.if_icmp .ne 22, 3) := by decide +kernel
theorem dX12_attacks_198 : decode cX12_attacks 198 = .ok (.iload 5, 2) := by decide +kernel
theorem dX12_attacks_200 : decode cX12_attacks 200 = .ok (.ifCond .le 17, 3) := by decide +kernel
theorem dX12_attacks_203 : decode cX12_attacks 203 = .ok (.aload_n 0, 1) := by decide +kernel
theorem dX12_attacks_204 : decode cX12_attacks 204 = .ok (.iload_n 1, 1) := by decide +kernel
theorem dX12_attacks_205 : decode cX12_attacks 205 = .ok (.iload_n 2, 1) := by decide +kernel
theorem dX12_attacks_206 : decode cX12_attacks 206 = .ok (.iload_n 3, 1) := by decide +kernel
theorem dX12_attacks_207 : decode cX12_attacks 207 = .ok (.invokevirtual 151, 3) := by decide +kernel
theorem dX12_attacks_210 : decode cX12_attacks 210 = .ok (.ifCond .eq 7, 3) := by decide +kernel
theorem dX12_attacks_213 : decode cX12_attacks 213 = .ok (.iconst 1, 1) := by decide +kernel
theorem dX12_attacks_214 : decode cX12_attacks 214 = .ok (.goto 4, 3) := by decide +kernel
theorem dX12_attacks_217 : decode cX12_attacks 217 = .ok (.iconst 0, 1) := by decide +kernel
theorem dX12_attacks_218 : decode cX12_attacks 218 = .ok (.ireturn, 1) := by decide +kernel
theorem dX12_attacks_219 : decode cX12_attacks 219 = .ok (.iload 5, 2) := by decide +kernel
theorem dX12_attacks_221 : decode cX12_attacks 221 = .ok (.iload 6, 2) := by decide +kernel
theorem dX12_attacks_223 : decode cX12_attacks 223 = .ok (.imul, 1) := by decide +kernel
theorem dX12_attacks_224 : decode cX12_attacks 224 = .ok (.ifCond .eq 10, 3) := by decide +kernel
theorem dX12_attacks_227 : decode cX12_attacks 227 = .ok (.iload 5, 2) := by decide +kernel
theorem dX12_attacks_229 : decode cX12_attacks 229 = .ok (.iload 6, 2) := by decide +kernel
theorem dX12_attacks_231 : decode cX12_attacks 231 = .ok (.if_icmp .ne 25, 3) := by decide +kernel
theorem dX12_attacks_234 : decode cX12_attacks 234 = .ok (.iload 5, 2) := by decide +kernel
theorem dX12_attacks_236 : decode cX12_attacks 236 = .ok (.iload 6, 2) := by decide +kernel
theorem dX12_attacks_238 : decode cX12_attacks 238 = .ok (.iadd, 1) := by decide +kernel
theorem dX12_attacks_239 : decode cX12_attacks 239 = .ok (.ifCond .le 17, 3) := by decide +kernel
theorem dX12_attacks_242 : decode cX12_attacks 242 = .ok (.aload_n 0, 1) := by decide +kernel
theorem dX12_attacks_243 : decode cX12_attacks 243 = .ok (.iload_n 1, 1) := by decide +kernel
theorem dX12_attacks_244 : decode cX12_attacks 244 = .ok (.iload_n 2, 1) := by decide +kernel
theorem dX12_attacks_245 : decode cX12_attacks 245 = .ok (.iload_n 3, 1) := by decide +kernel
theorem dX12_attacks_246 : decode cX12_attacks 246 = .ok (.invokevirtual 151, 3) := by decide +kernel
theorem dX12_attacks_249 : decode cX12_attacks 249 = .ok (.ifCond .eq 7, 3) := by decide +kernel
theorem dX12_attacks_252 : decode cX12_attacks 252 = .ok (.iconst 1, 1) := by decide +kernel
theorem dX12_attacks_253 : decode cX12_attacks 253 = .ok (.goto 4, 3) := by decide +kernel
theorem dX12_attacks_256 : decode cX12_attacks 256 = .ok (.iconst 0, 1) := by decide +kernel
theorem dX12_attacks_257 : decode cX12_attacks 257 = .ok (.ireturn, 1) := by decide +kernel
theorem dX12_attacks_258 : decode cX12_attacks 258 = .ok (.iconst 0, 1) := by decide +kernel
theorem dX12_attacks_259 : decode cX12_attacks 259 = .ok (.ireturn, 1) := by decide +kernel
theorem dX12_isOf_0 : decode cX12_isOf 0 = .ok (.iload_n 0, 1) := by decide +kernel
theorem dX12_isOf_1 : decode cX12_isOf 1 = .ok (.ifCond .eq 22, 3) := by decide +kernel
theorem dX12_isOf_4 : decode cX12_isOf 4 = .ok (.iload_n 0, 1) := by decide +kernel
theorem dX12_isOf_5 : decode cX12_isOf 5 = .ok (.bipush 6, 2) := by decide +kernel
theorem dX12_isOf_7 : decode cX12_isOf 7 = .ok (.if_icmp .gt 7, 3) := by decide +kernel
theorem dX12_isOf_10 : decode cX12_isOf 10 = .ok (.iconst 1, 1) := by decide +kernel
theorem dX12_isOf_11 : decode cX12_isOf 11 = .ok (.goto 4, 3) := by decide +kernel
theorem dX12_isOf_14 : decode cX12_isOf 14 = .ok (.iconst 0, 1) := by decide +kernel
theorem dX12_isOf_15 : decode cX12_isOf 15 = .ok (.iload_n 1, 1) := by decide +kernel
theorem dX12_isOf_16 : decode cX12_isOf 16 = .ok (.if_icmp .ne 7, 3) := by decide +kernel
theorem dX12_isOf_19 : decode cX12_isOf 19 = .ok (.iconst 1, 1) := by decide +kernel
theorem dX12_isOf_20 : decode cX12_isOf 20 = .ok (.goto 4, 3) := by decide +kernel
theorem dX12_isOf_23 : decode cX12_isOf 23 = .ok (.iconst 0, 1) := by decide +kernel
theorem dX12_isOf_24 : decode cX12_isOf 24 = .ok (.ireturn, 1) := by decide +kernel
theorem dX12_squares_0 : decode cX12_squares 0 = .ok (.aload_n 0, 1) := by decide +kernel
theorem dX12_squares_1 : decode cX12_squares 1 = .ok (.getfield 9, 3) := by decide +kernel
theorem dX12_squares_4 : decode cX12_squares 4 = .ok (.aload_n 0, 1) := by decide +kernel
theorem dX12_squares_5 : decode cX12_squares 5 = .ok (.getfield 13, 3) := by decide +kernel
theorem dX12_squares_8 : decode cX12_squares 8 = .ok (.imul, 1) := by decide +kernel
theorem dX12_squares_9 : decode cX12_squares 9 = .ok (.ireturn, 1) := by decide +kernel
theorem dX12_isAttackedBy_0 : decode cX12_isAttackedBy 0 = .ok (.iconst 0, 1) := by decide +kernel
theorem dX12_isAttackedBy_1 : decode cX12_isAttackedBy 1 = .ok (.istore 4, 2) := by decide +kernel
theorem dX12_isAttackedBy_3 : decode cX12_isAttackedBy 3 = .ok (.iload 4, 2) := by decide +kernel
theorem dX12_isAttackedBy_5 : decode cX12_isAttackedBy 5 = .ok (.aload_n 0, 1) := by decide +kernel
theorem dX12_isAttackedBy_6 : decode cX12_isAttackedBy 6 = .ok (.invokevirtual 113, 3) := by decide +kernel
theorem dX12_isAttackedBy_9 : decode cX12_isAttackedBy 9 = .ok (.if_icmp .ge 36, 3) := by decide +kernel
theorem dX12_isAttackedBy_12 : decode cX12_isAttackedBy 12 = .ok (.aload_n 0, 1) := by decide +kernel
theorem dX12_isAttackedBy_13 : decode cX12_isAttackedBy 13 = .ok (.iload_n 1, 1) := by decide +kernel
theorem dX12_isAttackedBy_14 : decode cX12_isAttackedBy 14 = .ok (.iload 4, 2) := by decide +kernel
theorem dX12_isAttackedBy_16 : decode cX12_isAttackedBy 16 = .ok (.invokevirtual 141, 3) := by decide +kernel
theorem dX12_isAttackedBy_19 : decode cX12_isAttackedBy 19 = .ok (.iload_n 3, 1) := by decide +kernel
theorem dX12_isAttackedBy_20 : decode cX12_isAttackedBy 20 = .ok (.invokestatic 154, 3) := by decide +kernel
theorem dX12_isAttackedBy_23 : decode cX12_isAttackedBy 23 = .ok (.ifCond .eq 16, 3) := by decide +kernel
theorem dX12_isAttackedBy_26 : decode cX12_isAttackedBy 26 = .ok (.aload_n 0, 1) := by decide +kernel
theorem dX12_isAttackedBy_27 : decode cX12_isAttackedBy 27 = .ok (.iload_n 1, 1) := by decide +kernel
theorem dX12_isAttackedBy_28 : decode cX12_isAttackedBy 28 = .ok (.iload 4, 2) := by decide +kernel
theorem dX12_isAttackedBy_30 : decode cX12_isAttackedBy 30 = .ok (.iload_n 2, 1) := by decide +kernel
theorem dX12_isAttackedBy_31 : decode cX12_isAttackedBy 31 = .ok (.invokevirtual 158, 3) := by decide +kernel
theorem dX12_isAttackedBy_34 : decode cX12_isAttackedBy 34 = .ok (.ifCond .eq 5, 3) := by decide +kernel
theorem dX12_isAttackedBy_37 : decode cX12_isAttackedBy 37 = .ok (.iconst 1, 1) := by decide +kernel
theorem dX12_isAttackedBy_38 : decode cX12_isAttackedBy 38 = .ok (.ireturn, 1) := by decide +kernel
theorem dX12_isAttackedBy_39 : decode cX12_isAttackedBy 39 = .ok (.iinc 4 1, 3) := by decide +kernel
theorem dX12_isAttackedBy_42 : decode cX12_isAttackedBy 42 = .ok (.goto (-39), 3) := by decide +kernel
theorem dX12_isAttackedBy_45 : decode cX12_isAttackedBy 45 = .ok (.iconst 0, 1) := by decide +kernel
theorem dX12_isAttackedBy_46 : decode cX12_isAttackedBy 46 = .ok (.ireturn, 1) := by decide +kernel
theorem dX12_copies_0 : decode cX12_copies 0 = .ok (.iconst 0, 1) := by decide +kernel
theorem dX12_copies_1 : decode cX12_copies 1 = .ok (.istore 5, 2) := by decide +kernel
theorem dX12_copies_3 : decode cX12_copies 3 = .ok (.iload 5, 2) := by decide +kernel
theorem dX12_copies_5 : decode cX12_copies 5 = .ok (.iload_n 0, 1) := by decide +kernel
theorem dX12_copies_6 : decode cX12_copies 6 = .ok (.if_icmp .ge 22, 3) := by decide +kernel
theorem dX12_copies_9 : decode cX12_copies 9 = .ok (.aload_n 3, 1) := by decide +kernel
theorem dX12_copies_10 : decode cX12_copies 10 = .ok (.iload 4, 2) := by decide +kernel
theorem dX12_copies_12 : decode cX12_copies 12 = .ok (.iload 5, 2) := by decide +kernel
theorem dX12_copies_14 : decode cX12_copies 14 = .ok (.iadd, 1) := by decide +kernel
theorem dX12_copies_15 : decode cX12_copies 15 = .ok (.aload_n 1, 1) := by decide +kernel
theorem dX12_copies_16 : decode cX12_copies 16 = .ok (.iload_n 2, 1) := by decide +kernel
theorem dX12_copies_17 : decode cX12_copies 17 = .ok (.iload 5, 2) := by decide +kernel
theorem dX12_copies_19 : decode cX12_copies 19 = .ok (.iadd, 1) := by decide +kernel
theorem dX12_copies_20 : decode cX12_copies 20 = .ok (.iaload, 1) := by decide +kernel
theorem dX12_copies_21 : decode cX12_copies 21 = .ok (.iastore, 1) := by decide +kernel
theorem dX12_copies_22 : decode cX12_copies 22 = .ok (.iinc 5 1, 3) := by decide +kernel
theorem dX12_copies_25 : decode cX12_copies 25 = .ok (.goto (-22), 3) := by decide +kernel
theorem dX12_copies_28 : decode cX12_copies 28 = .ok (.return_, 1) := by decide +kernel
theorem dX11_contains_0 : decode cX11_contains 0 = .ok (.lload_n 0, 1) := by decide +kernel
theorem dX11_contains_1 : decode cX11_contains 1 = .ok (.iload_n 2, 1) := by decide +kernel
theorem dX11_contains_2 : decode cX11_contains 2 = .ok (.lushr, 1) := by decide +kernel
theorem dX11_contains_3 : decode cX11_contains 3 = .ok (.lconst 1, 1) := by decide +kernel
theorem dX11_contains_4 : decode cX11_contains 4 = .ok (.land, 1) := by decide +kernel
theorem dX11_contains_5 : decode cX11_contains 5 = .ok (.lconst 0, 1) := by decide +kernel
theorem dX11_contains_6 : decode cX11_contains 6 = .ok (.lcmp, 1) := by decide +kernel
theorem dX11_contains_7 : decode cX11_contains 7 = .ok (.ifCond .eq 7, 3) := by decide +kernel
theorem dX11_contains_10 : decode cX11_contains 10 = .ok (.iconst 1, 1) := by decide +kernel
theorem dX11_contains_11 : decode cX11_contains 11 = .ok (.goto 4, 3) := by decide +kernel
theorem dX11_contains_14 : decode cX11_contains 14 = .ok (.iconst 0, 1) := by decide +kernel
theorem dX11_contains_15 : decode cX11_contains 15 = .ok (.ireturn, 1) := by decide +kernel
theorem dX7_kindOn_0 : decode cX7_kindOn 0 = .ok (.aload_n 0, 1) := by decide +kernel
theorem dX7_kindOn_1 : decode cX7_kindOn 1 = .ok (.getfield 15, 3) := by decide +kernel
theorem dX7_kindOn_4 : decode cX7_kindOn 4 = .ok (.iload_n 1, 1) := by decide +kernel
theorem dX7_kindOn_5 : decode cX7_kindOn 5 = .ok (.lushr, 1) := by decide +kernel
theorem dX7_kindOn_6 : decode cX7_kindOn 6 = .ok (.lconst 1, 1) := by decide +kernel
theorem dX7_kindOn_7 : decode cX7_kindOn 7 = .ok (.land, 1) := by decide +kernel
theorem dX7_kindOn_8 : decode cX7_kindOn 8 = .ok (.aload_n 0, 1) := by decide +kernel
theorem dX7_kindOn_9 : decode cX7_kindOn 9 = .ok (.getfield 18, 3) := by decide +kernel
theorem dX7_kindOn_12 : decode cX7_kindOn 12 = .ok (.iload_n 1, 1) := by decide +kernel
theorem dX7_kindOn_13 : decode cX7_kindOn 13 = .ok (.lushr, 1) := by decide +kernel
theorem dX7_kindOn_14 : decode cX7_kindOn 14 = .ok (.lconst 1, 1) := by decide +kernel
theorem dX7_kindOn_15 : decode cX7_kindOn 15 = .ok (.land, 1) := by decide +kernel
theorem dX7_kindOn_16 : decode cX7_kindOn 16 = .ok (.ldc2_w 72, 3) := by decide +kernel
theorem dX7_kindOn_19 : decode cX7_kindOn 19 = .ok (.lmul, 1) := by decide +kernel
theorem dX7_kindOn_20 : decode cX7_kindOn 20 = .ok (.ladd, 1) := by decide +kernel
theorem dX7_kindOn_21 : decode cX7_kindOn 21 = .ok (.aload_n 0, 1) := by decide +kernel
theorem dX7_kindOn_22 : decode cX7_kindOn 22 = .ok (.getfield 21, 3) := by decide +kernel
theorem dX7_kindOn_25 : decode cX7_kindOn 25 = .ok (.iload_n 1, 1) := by decide +kernel
theorem dX7_kindOn_26 : decode cX7_kindOn 26 = .ok (.lushr, 1) := by decide +kernel
theorem dX7_kindOn_27 : decode cX7_kindOn 27 = .ok (.lconst 1, 1) := by decide +kernel
theorem dX7_kindOn_28 : decode cX7_kindOn 28 = .ok (.land, 1) := by decide +kernel
theorem dX7_kindOn_29 : decode cX7_kindOn 29 = .ok (.ldc2_w 74, 3) := by decide +kernel
theorem dX7_kindOn_32 : decode cX7_kindOn 32 = .ok (.lmul, 1) := by decide +kernel
theorem dX7_kindOn_33 : decode cX7_kindOn 33 = .ok (.ladd, 1) := by decide +kernel
theorem dX7_kindOn_34 : decode cX7_kindOn 34 = .ok (.l2i, 1) := by decide +kernel
theorem dX7_kindOn_35 : decode cX7_kindOn 35 = .ok (.ireturn, 1) := by decide +kernel
theorem dX7_pieceOn_0 : decode cX7_pieceOn 0 = .ok (.aload_n 0, 1) := by decide +kernel
theorem dX7_pieceOn_1 : decode cX7_pieceOn 1 = .ok (.iload_n 1, 1) := by decide +kernel
theorem dX7_pieceOn_2 : decode cX7_pieceOn 2 = .ok (.invokevirtual 76, 3) := by decide +kernel
theorem dX7_pieceOn_5 : decode cX7_pieceOn 5 = .ok (.istore_n 2, 1) := by decide +kernel
theorem dX7_pieceOn_6 : decode cX7_pieceOn 6 = .ok (.iload_n 2, 1) := by decide +kernel
theorem dX7_pieceOn_7 : decode cX7_pieceOn 7 = .ok (.ifCond .eq 14, 3) := by decide +kernel
theorem dX7_pieceOn_10 : decode cX7_pieceOn 10 = .ok (.aload_n 0, 1) := by decide +kernel
theorem dX7_pieceOn_11 : decode cX7_pieceOn 11 = .ok (.getfield 9, 3) := by decide +kernel
theorem dX7_pieceOn_14 : decode cX7_pieceOn 14 = .ok (.iload_n 1, 1) := by decide +kernel
theorem dX7_pieceOn_15 : decode cX7_pieceOn 15 = .ok (.invokestatic 79, 3) := by decide +kernel
theorem dX7_pieceOn_18 : decode cX7_pieceOn 18 = .ok (.ifCond .eq 7, 3) := by decide +kernel
theorem dX7_pieceOn_21 : decode cX7_pieceOn 21 = .ok (.iload_n 2, 1) := by decide +kernel
theorem dX7_pieceOn_22 : decode cX7_pieceOn 22 = .ok (.goto 7, 3) := by decide +kernel
theorem dX7_pieceOn_25 : decode cX7_pieceOn 25 = .ok (.iload_n 2, 1) := by decide +kernel
theorem dX7_pieceOn_26 : decode cX7_pieceOn 26 = .ok (.bipush 6, 2) := by decide +kernel
theorem dX7_pieceOn_28 : decode cX7_pieceOn 28 = .ok (.iadd, 1) := by decide +kernel
theorem dX7_pieceOn_29 : decode cX7_pieceOn 29 = .ok (.ireturn, 1) := by decide +kernel
theorem dX7_place_0 : decode cX7_place 0 = .ok (.lconst 1, 1) := by decide +kernel
theorem dX7_place_1 : decode cX7_place 1 = .ok (.iload_n 1, 1) := by decide +kernel
theorem dX7_place_2 : decode cX7_place 2 = .ok (.lshl, 1) := by decide +kernel
theorem dX7_place_3 : decode cX7_place 3 = .ok (.lstore_n 3, 1) := by decide +kernel
theorem dX7_place_4 : decode cX7_place 4 = .ok (.iload_n 2, 1) := by decide +kernel
theorem dX7_place_5 : decode cX7_place 5 = .ok (.bipush 6, 2) := by decide +kernel
theorem dX7_place_7 : decode cX7_place 7 = .ok (.if_icmp .le 10, 3) := by decide +kernel
theorem dX7_place_10 : decode cX7_place 10 = .ok (.iload_n 2, 1) := by decide +kernel
theorem dX7_place_11 : decode cX7_place 11 = .ok (.bipush 6, 2) := by decide +kernel
theorem dX7_place_13 : decode cX7_place 13 = .ok (.isub, 1) := by decide +kernel
theorem dX7_place_14 : decode cX7_place 14 = .ok (.goto 4, 3) := by decide +kernel
theorem dX7_place_17 : decode cX7_place 17 = .ok (.iload_n 2, 1) := by decide +kernel
theorem dX7_place_18 : decode cX7_place 18 = .ok (.istore 5, 2) := by decide +kernel
theorem dX7_place_20 : decode cX7_place 20 = .ok (.iload_n 2, 1) := by decide +kernel
theorem dX7_place_21 : decode cX7_place 21 = .ok (.ifCond .le 13, 3) := by decide +kernel
theorem dX7_place_24 : decode cX7_place 24 = .ok (.iload_n 2, 1) := by decide +kernel
theorem dX7_place_25 : decode cX7_place 25 = .ok (.bipush 6, 2) := by decide +kernel
theorem dX7_place_27 : decode cX7_place 27 = .ok (.if_icmp .gt 7, 3) := by decide +kernel
theorem dX7_place_30 : decode cX7_place 30 = .ok (.iconst 1, 1) := by decide +kernel
theorem dX7_place_31 : decode cX7_place 31 = .ok (.goto 4, 3) := by decide +kernel
theorem dX7_place_34 : decode cX7_place 34 = .ok (.iconst 0, 1) := by decide +kernel
theorem dX7_place_35 : decode cX7_place 35 = .ok (.istore 6, 2) := by decide +kernel
theorem dX7_place_37 : decode cX7_place 37 = .ok (.aload_n 0, 1) := by decide +kernel
theorem dX7_place_38 : decode cX7_place 38 = .ok (.iload 6, 2) := by decide +kernel
theorem dX7_place_40 : decode cX7_place 40 = .ok (.ifCond .eq 12, 3) := by decide +kernel
theorem dX7_place_43 : decode cX7_place 43 = .ok (.aload_n 0, 1) := by decide +kernel
theorem dX7_place_44 : decode cX7_place 44 = .ok (.getfield 9, 3) := by decide +kernel
theorem dX7_place_47 : decode cX7_place 47 = .ok (.lload_n 3, 1) := by decide +kernel
theorem dX7_place_48 : decode cX7_place 48 = .ok (.lor, 1) := by decide +kernel
theorem dX7_place_49 : decode cX7_place 49 = .ok (.goto 13, 3) := by decide +kernel
theorem dX7_place_52 : decode cX7_place 52 = .ok (.aload_n 0, 1) := by decide +kernel
theorem dX7_place_53 : decode cX7_place 53 = .ok (.getfield 9, 3) := by decide +kernel
theorem dX7_place_56 : decode cX7_place 56 = .ok (.lload_n 3, 1) := by decide +kernel
theorem dX7_place_57 : decode cX7_place 57 = .ok (.ldc2_w 70, 3) := by decide +kernel
theorem dX7_place_60 : decode cX7_place 60 = .ok (.lxor, 1) := by decide +kernel
theorem dX7_place_61 : decode cX7_place 61 = .ok (.land, 1) := by decide +kernel
theorem dX7_place_62 : decode cX7_place 62 = .ok (.putfield 9, 3) := by decide +kernel
theorem dX7_place_65 : decode cX7_place 65 = .ok (.aload_n 0, 1) := by decide +kernel
theorem dX7_place_66 : decode cX7_place 66 = .ok (.iload 5, 2) := by decide +kernel
theorem dX7_place_68 : decode cX7_place 68 = .ok (.iconst 1, 1) := by decide +kernel
theorem dX7_place_69 : decode cX7_place 69 = .ok (.iand, 1) := by decide +kernel
theorem dX7_place_70 : decode cX7_place 70 = .ok (.ifCond .eq 12, 3) := by decide +kernel
theorem dX7_place_73 : decode cX7_place 73 = .ok (.aload_n 0, 1) := by decide +kernel
theorem dX7_place_74 : decode cX7_place 74 = .ok (.getfield 15, 3) := by decide +kernel
theorem dX7_place_77 : decode cX7_place 77 = .ok (.lload_n 3, 1) := by decide +kernel
theorem dX7_place_78 : decode cX7_place 78 = .ok (.lor, 1) := by decide +kernel
theorem dX7_place_79 : decode cX7_place 79 = .ok (.goto 13, 3) := by decide +kernel
theorem dX7_place_82 : decode cX7_place 82 = .ok (.aload_n 0, 1) := by decide +kernel
theorem dX7_place_83 : decode cX7_place 83 = .ok (.getfield 15, 3) := by decide +kernel
theorem dX7_place_86 : decode cX7_place 86 = .ok (.lload_n 3, 1) := by decide +kernel
theorem dX7_place_87 : decode cX7_place 87 = .ok (.ldc2_w 70, 3) := by decide +kernel
theorem dX7_place_90 : decode cX7_place 90 = .ok (.lxor, 1) := by decide +kernel
theorem dX7_place_91 : decode cX7_place 91 = .ok (.land, 1) := by decide +kernel
theorem dX7_place_92 : decode cX7_place 92 = .ok (.putfield 15, 3) := by decide +kernel
theorem dX7_place_95 : decode cX7_place 95 = .ok (.aload_n 0, 1) := by decide +kernel
theorem dX7_place_96 : decode cX7_place 96 = .ok (.iload 5, 2) := by decide +kernel
theorem dX7_place_98 : decode cX7_place 98 = .ok (.iconst 2, 1) := by decide +kernel
theorem dX7_place_99 : decode cX7_place 99 = .ok (.iand, 1) := by decide +kernel
theorem dX7_place_100 : decode cX7_place 100 = .ok (.ifCond .eq 12, 3) := by decide +kernel
theorem dX7_place_103 : decode cX7_place 103 = .ok (.aload_n 0, 1) := by decide +kernel
theorem dX7_place_104 : decode cX7_place 104 = .ok (.getfield 18, 3) := by decide +kernel
theorem dX7_place_107 : decode cX7_place 107 = .ok (.lload_n 3, 1) := by decide +kernel
theorem dX7_place_108 : decode cX7_place 108 = .ok (.lor, 1) := by decide +kernel
theorem dX7_place_109 : decode cX7_place 109 = .ok (.goto 13, 3) := by decide +kernel
theorem dX7_place_112 : decode cX7_place 112 = .ok (.aload_n 0, 1) := by decide +kernel
theorem dX7_place_113 : decode cX7_place 113 = .ok (.getfield 18, 3) := by decide +kernel
theorem dX7_place_116 : decode cX7_place 116 = .ok (.lload_n 3, 1) := by decide +kernel
theorem dX7_place_117 : decode cX7_place 117 = .ok (.ldc2_w 70, 3) := by decide +kernel
theorem dX7_place_120 : decode cX7_place 120 = .ok (.lxor, 1) := by decide +kernel
theorem dX7_place_121 : decode cX7_place 121 = .ok (.land, 1) := by decide +kernel
theorem dX7_place_122 : decode cX7_place 122 = .ok (.putfield 18, 3) := by decide +kernel
theorem dX7_place_125 : decode cX7_place 125 = .ok (.aload_n 0, 1) := by decide +kernel
theorem dX7_place_126 : decode cX7_place 126 = .ok (.iload 5, 2) := by decide +kernel
theorem dX7_place_128 : decode cX7_place 128 = .ok (.iconst 4, 1) := by decide +kernel
theorem dX7_place_129 : decode cX7_place 129 = .ok (.iand, 1) := by decide +kernel
theorem dX7_place_130 : decode cX7_place 130 = .ok (.ifCond .eq 12, 3) := by decide +kernel
theorem dX7_place_133 : decode cX7_place 133 = .ok (.aload_n 0, 1) := by decide +kernel
theorem dX7_place_134 : decode cX7_place 134 = .ok (.getfield 21, 3) := by decide +kernel
theorem dX7_place_137 : decode cX7_place 137 = .ok (.lload_n 3, 1) := by decide +kernel
theorem dX7_place_138 : decode cX7_place 138 = .ok (.lor, 1) := by decide +kernel
theorem dX7_place_139 : decode cX7_place 139 = .ok (.goto 13, 3) := by decide +kernel
theorem dX7_place_142 : decode cX7_place 142 = .ok (.aload_n 0, 1) := by decide +kernel
theorem dX7_place_143 : decode cX7_place 143 = .ok (.getfield 21, 3) := by decide +kernel
theorem dX7_place_146 : decode cX7_place 146 = .ok (.lload_n 3, 1) := by decide +kernel
theorem dX7_place_147 : decode cX7_place 147 = .ok (.ldc2_w 70, 3) := by decide +kernel
theorem dX7_place_150 : decode cX7_place 150 = .ok (.lxor, 1) := by decide +kernel
theorem dX7_place_151 : decode cX7_place 151 = .ok (.land, 1) := by decide +kernel
theorem dX7_place_152 : decode cX7_place 152 = .ok (.putfield 21, 3) := by decide +kernel
theorem dX7_place_155 : decode cX7_place 155 = .ok (.return_, 1) := by decide +kernel
theorem dJ13_bitCount_95d88_0 : decode cJ13_bitCount_95d88 0 = .ok (.lload_n 0, 1) := by decide +kernel
theorem dJ13_bitCount_95d88_1 : decode cJ13_bitCount_95d88 1 = .ok (.lload_n 0, 1) := by decide +kernel
theorem dJ13_bitCount_95d88_2 : decode cJ13_bitCount_95d88 2 = .ok (.iconst 1, 1) := by decide +kernel
theorem dJ13_bitCount_95d88_3 : decode cJ13_bitCount_95d88 3 = .ok (.lushr, 1) := by decide +kernel
theorem dJ13_bitCount_95d88_4 : decode cJ13_bitCount_95d88 4 = .ok (.ldc2_w 314, 3) := by decide +kernel
theorem dJ13_bitCount_95d88_7 : decode cJ13_bitCount_95d88 7 = .ok (.land, 1) := by decide +kernel
theorem dJ13_bitCount_95d88_8 : decode cJ13_bitCount_95d88 8 = .ok (.lsub, 1) := by decide +kernel
theorem dJ13_bitCount_95d88_9 : decode cJ13_bitCount_95d88 9 = .ok (.lstore_n 0, 1) := by decide +kernel
theorem dJ13_bitCount_95d88_10 : decode cJ13_bitCount_95d88 10 = .ok (.lload_n 0, 1) := by decide +kernel
theorem dJ13_bitCount_95d88_11 : decode cJ13_bitCount_95d88 11 = .ok (.ldc2_w 316, 3) := by decide +kernel
theorem dJ13_bitCount_95d88_14 : decode cJ13_bitCount_95d88 14 = .ok (.land, 1) := by decide +kernel
theorem dJ13_bitCount_95d88_15 : decode cJ13_bitCount_95d88 15 = .ok (.lload_n 0, 1) := by decide +kernel
theorem dJ13_bitCount_95d88_16 : decode cJ13_bitCount_95d88 16 = .ok (.iconst 2, 1) := by decide +kernel
theorem dJ13_bitCount_95d88_17 : decode cJ13_bitCount_95d88 17 = .ok (.lushr, 1) := by decide +kernel
theorem dJ13_bitCount_95d88_18 : decode cJ13_bitCount_95d88 18 = .ok (.ldc2_w 316, 3) := by decide +kernel
theorem dJ13_bitCount_95d88_21 : decode cJ13_bitCount_95d88 21 = .ok (.land, 1) := by decide +kernel
theorem dJ13_bitCount_95d88_22 : decode cJ13_bitCount_95d88 22 = .ok (.ladd, 1) := by decide +kernel
theorem dJ13_bitCount_95d88_23 : decode cJ13_bitCount_95d88 23 = .ok (.lstore_n 0, 1) := by decide +kernel
theorem dJ13_bitCount_95d88_24 : decode cJ13_bitCount_95d88 24 = .ok (.lload_n 0, 1) := by decide +kernel
theorem dJ13_bitCount_95d88_25 : decode cJ13_bitCount_95d88 25 = .ok (.lload_n 0, 1) := by decide +kernel
theorem dJ13_bitCount_95d88_26 : decode cJ13_bitCount_95d88 26 = .ok (.iconst 4, 1) := by decide +kernel
theorem dJ13_bitCount_95d88_27 : decode cJ13_bitCount_95d88 27 = .ok (.lushr, 1) := by decide +kernel
theorem dJ13_bitCount_95d88_28 : decode cJ13_bitCount_95d88 28 = .ok (.ladd, 1) := by decide +kernel
theorem dJ13_bitCount_95d88_29 : decode cJ13_bitCount_95d88 29 = .ok (.ldc2_w 318, 3) := by decide +kernel
theorem dJ13_bitCount_95d88_32 : decode cJ13_bitCount_95d88 32 = .ok (.land, 1) := by decide +kernel
theorem dJ13_bitCount_95d88_33 : decode cJ13_bitCount_95d88 33 = .ok (.lstore_n 0, 1) := by decide +kernel
theorem dJ13_bitCount_95d88_34 : decode cJ13_bitCount_95d88 34 = .ok (.lload_n 0, 1) := by decide +kernel
theorem dJ13_bitCount_95d88_35 : decode cJ13_bitCount_95d88 35 = .ok (.lload_n 0, 1) := by decide +kernel
theorem dJ13_bitCount_95d88_36 : decode cJ13_bitCount_95d88 36 = .ok (.bipush 8, 2) := by decide +kernel
theorem dJ13_bitCount_95d88_38 : decode cJ13_bitCount_95d88 38 = .ok (.lushr, 1) := by decide +kernel
theorem dJ13_bitCount_95d88_39 : decode cJ13_bitCount_95d88 39 = .ok (.ladd, 1) := by decide +kernel
theorem dJ13_bitCount_95d88_40 : decode cJ13_bitCount_95d88 40 = .ok (.lstore_n 0, 1) := by decide +kernel
theorem dJ13_bitCount_95d88_41 : decode cJ13_bitCount_95d88 41 = .ok (.lload_n 0, 1) := by decide +kernel
theorem dJ13_bitCount_95d88_42 : decode cJ13_bitCount_95d88 42 = .ok (.lload_n 0, 1) := by decide +kernel
theorem dJ13_bitCount_95d88_43 : decode cJ13_bitCount_95d88 43 = .ok (.bipush 16, 2) := by decide +kernel
theorem dJ13_bitCount_95d88_45 : decode cJ13_bitCount_95d88 45 = .ok (.lushr, 1) := by decide +kernel
theorem dJ13_bitCount_95d88_46 : decode cJ13_bitCount_95d88 46 = .ok (.ladd, 1) := by decide +kernel
theorem dJ13_bitCount_95d88_47 : decode cJ13_bitCount_95d88 47 = .ok (.lstore_n 0, 1) := by decide +kernel
theorem dJ13_bitCount_95d88_48 : decode cJ13_bitCount_95d88 48 = .ok (.lload_n 0, 1) := by decide +kernel
theorem dJ13_bitCount_95d88_49 : decode cJ13_bitCount_95d88 49 = .ok (.lload_n 0, 1) := by decide +kernel
theorem dJ13_bitCount_95d88_50 : decode cJ13_bitCount_95d88 50 = .ok (.bipush 32, 2) := by decide +kernel
theorem dJ13_bitCount_95d88_52 : decode cJ13_bitCount_95d88 52 = .ok (.lushr, 1) := by decide +kernel
theorem dJ13_bitCount_95d88_53 : decode cJ13_bitCount_95d88 53 = .ok (.ladd, 1) := by decide +kernel
theorem dJ13_bitCount_95d88_54 : decode cJ13_bitCount_95d88 54 = .ok (.lstore_n 0, 1) := by decide +kernel
theorem dJ13_bitCount_95d88_55 : decode cJ13_bitCount_95d88 55 = .ok (.lload_n 0, 1) := by decide +kernel
theorem dJ13_bitCount_95d88_56 : decode cJ13_bitCount_95d88 56 = .ok (.l2i, 1) := by decide +kernel
theorem dJ13_bitCount_95d88_57 : decode cJ13_bitCount_95d88 57 = .ok (.bipush 127, 2) := by decide +kernel
theorem dJ13_bitCount_95d88_59 : decode cJ13_bitCount_95d88 59 = .ok (.iand, 1) := by decide +kernel
theorem dJ13_bitCount_95d88_60 : decode cJ13_bitCount_95d88 60 = .ok (.ireturn, 1) := by decide +kernel
theorem dX11_lowest_0 : decode cX11_lowest 0 = .ok (.lload_n 0, 1) := by decide +kernel
theorem dX11_lowest_1 : decode cX11_lowest 1 = .ok (.lload_n 0, 1) := by decide +kernel
theorem dX11_lowest_2 : decode cX11_lowest 2 = .ok (.lneg, 1) := by decide +kernel
theorem dX11_lowest_3 : decode cX11_lowest 3 = .ok (.land, 1) := by decide +kernel
theorem dX11_lowest_4 : decode cX11_lowest 4 = .ok (.lconst 1, 1) := by decide +kernel
theorem dX11_lowest_5 : decode cX11_lowest 5 = .ok (.lsub, 1) := by decide +kernel
theorem dX11_lowest_6 : decode cX11_lowest 6 = .ok (.invokestatic 203, 3) := by decide +kernel
theorem dX11_lowest_9 : decode cX11_lowest 9 = .ok (.ireturn, 1) := by decide +kernel
def wp_X12_fileOf_0 (post : Int32 → wS → Prop)  (S : wS) (a0 : Nat) (x1 : Int32) : Prop :=
¬ (sI S a0 1) = 0 ∧
post (x1 - x1 / (sI S a0 1) * (sI S a0 1)) S
abbrev r_X12_fileOf : Room := { frames := 0, cells := 0, slots := 0, locals := 0 }
def wp_X12_fileOf (post : Int32 → wS → Prop) (S : wS) (a0 : Nat) (x1 : Int32) : Prop := wp_X12_fileOf_0 post S a0 x1
set_option maxHeartbeats 4000000 in
set_option maxRecDepth 100000 in
theorem t_X12_fileOf_0 {p : Program} {l : Launch} {e : Env} {s : State} {m : MethodId} {args : Array Value} {below : List Frame} {meth : Method} {c : Code} {D : va_G} {cy : Nat → ClassId} {X : va_W} {A : Nat → Prop} {S0 : wS} {post : Int32 → wS → Prop} (F : CallFix p m c cX12_fileOf 2 s args wz_X12_fileOf RX12) (hr : meth.sig.returnType = (some .int)) (hlocks : meth.locks = false) (hK : wK D cy s) : ∀ {S : wS} {H : Heap} {locs : List Loc} {ls : Array Slot} {a0 : Nat} {x1 : Int32}, wp_X12_fileOf_0 post S a0 x1 → wO D cy X A s.heap S H locs → wX S0 S → lv_has ls 2 [(0, .ref a0), (1, .int x1)] → a0 ∈ sL S → sK S a0 = 17 → W p l e r_X12_fileOf s m args below meth c H locs 0 0 (MQ below (va_Qi (fun r S9 => wX S0 S9 ∧ post r S9) (wB D cy X A) A) args s 0 0 A) (F0 m 0 ls []) := by
  obtain ⟨hx, hb, hml, hown, hts⟩ := id F
  have hwg : ∀ w ∈ WG, w.before args s = true := fun w h => hts w (List.mem_cons_of_mem _ h)
  have i_17 : ∀ w ∈ u_ws RX12 TX12 43, w ∈ wz_X12_fileOf := fun w h => List.mem_cons_of_mem _ (wu_17 w h)
  have k_9 := hwg _ wf_RX12_9
  intro S H locs ls a0 x1 hp hW hE hl hL_a0 hK_a0
  unfold wp_X12_fileOf_0 at hp
  refine lv_iload_n hx hb dX12_fileOf_0 rfl (lv_at hl 1 rfl) ?_
  refine lv_aload_n hx hb dX12_fileOf_1 rfl (lv_at hl 0 rfl) ?_
  refine w_get (k := 17) (f := 1) (T := TX12) (v := .int (sI S a0 1)) F hK hW hL_a0 hK_a0 (by decide) rfl rfl (by decide) i_17 k_9 rfl dX12_fileOf_2 ?_
  obtain ⟨h_1, hp⟩ := hp
  refine lv_irem hx hb dX12_fileOf_5 h_1 ?_
  exact w_iret hx hb hr hlocks hK hW ⟨hE, hp⟩ dX12_fileOf_6
set_option maxHeartbeats 4000000 in
set_option maxRecDepth 100000 in
theorem c_X12_fileOf (l : Launch) {D : va_G} {cy : Nat → ClassId} {X : va_W} {S0 : wS} {post : Int32 → wS → Prop} {a0 : Nat} {x1 : Int32} (hL_a0 : a0 ∈ sL S0) (hK_a0 : sK S0 a0 = 17) (hp : wp_X12_fileOf post S0 a0 x1) : mI D cy X l yX12_fileOf wz_X12_fileOf r_X12_fileOf [.ref a0, .int x1] S0 (fun r S9 => wX S0 S9 ∧ post r S9) := by
  intro sz
  refine Met.ofW (cc := cX12_fileOf) (maxL := 2) (ret := (some .int)) (by decide) rfl ?_
  intro p e s m args below meth c s₁ B hml hv
  obtain ⟨rfl, hsz, hP, hK, hD0⟩ := hv
  have hts := atoms_spec (ws := wz_X12_fileOf) B.pre
  have hown : s.vm.findClass RX12 = some m.cls := findClass_of_methodNamed B.named
  subst hsz
  have hD := hD0.self (sz := s.heap.size)
  have F : CallFix p m c cX12_fileOf 2 s _ wz_X12_fileOf RX12 := ⟨B.exec, B.bytes, hml, hown, hts⟩
  have hr := B.returns
  have hlocks := B.notSynchronized
  generalize hAe : va_A (wL cy X S0) s.heap.size = A at hD ⊢
  have hA : ∀ q, s.heap.size ≤ q → A q := fun q h => by rw [← hAe]; exact Or.inr h
  have hW : wO D cy X A s.heap S0 s.heap [] := ⟨hP, hD, va_S.rf, hA⟩
  have hl := lv_entry ([.ref a0, .int x1]) (n := 2) (Nat.le_of_ble_eq_true rfl)
  rw [lg_entry_eq]
  generalize (lg_sl ([.ref a0, .int x1]) ++ List.replicate (2 - (lg_sl ([.ref a0, .int x1])).length) Slot.unset).toArray = ls at hl ⊢
  have hl : lv_has ls 2 [(0, .ref a0), (1, .int x1)] := hl
  unfold wp_X12_fileOf at hp
  exact t_X12_fileOf_0 F hr hlocks hK hp hW wX.rf (lv_sub hl [0, 1] rfl) hL_a0 hK_a0
def wp_X12_on_0 (post : Int32 → wS → Prop)  (S : wS) (a0 : Nat) (x1 : Int32) (x2 : Int32) : Prop :=
∃ y_1 : Nat, sR S a0 3 = some y_1 ∧ y_1 ∈ sL S ∧ sK S y_1 = 21 ∧
vp_in ((67 * x1) + x2) (sN S y_1) ∧
post (sI S y_1 (((67 * x1) + x2)).toNatClampNeg) S
abbrev r_X12_on : Room := { frames := 0, cells := 0, slots := 0, locals := 0 }
def wp_X12_on (post : Int32 → wS → Prop) (S : wS) (a0 : Nat) (x1 : Int32) (x2 : Int32) : Prop := wp_X12_on_0 post S a0 x1 x2
set_option maxHeartbeats 4000000 in
set_option maxRecDepth 100000 in
theorem t_X12_on_0 {p : Program} {l : Launch} {e : Env} {s : State} {m : MethodId} {args : Array Value} {below : List Frame} {meth : Method} {c : Code} {D : va_G} {cy : Nat → ClassId} {X : va_W} {A : Nat → Prop} {S0 : wS} {post : Int32 → wS → Prop} (F : CallFix p m c cX12_on 3 s args wz_X12_on RX12) (hr : meth.sig.returnType = (some .int)) (hlocks : meth.locks = false) (hK : wK D cy s) : ∀ {S : wS} {H : Heap} {locs : List Loc} {ls : Array Slot} {a0 : Nat} {x1 : Int32} {x2 : Int32}, wp_X12_on_0 post S a0 x1 x2 → wO D cy X A s.heap S H locs → wX S0 S → lv_has ls 3 [(0, .ref a0), (1, .int x1), (2, .int x2)] → a0 ∈ sL S → sK S a0 = 17 → W p l e r_X12_on s m args below meth c H locs 0 0 (MQ below (va_Qi (fun r S9 => wX S0 S9 ∧ post r S9) (wB D cy X A) A) args s 0 0 A) (F0 m 0 ls []) := by
  obtain ⟨hx, hb, hml, hown, hts⟩ := id F
  have hwg : ∀ w ∈ WG, w.before args s = true := fun w h => hts w (List.mem_cons_of_mem _ h)
  have i_17 : ∀ w ∈ u_ws RX12 TX12 43, w ∈ wz_X12_on := fun w h => List.mem_cons_of_mem _ (wu_17 w h)
  have k_16 := hwg _ wf_RX12_16
  intro S H locs ls a0 x1 x2 hp hW hE hl hL_a0 hK_a0
  unfold wp_X12_on_0 at hp
  refine lv_aload_n hx hb dX12_on_0 rfl (lv_at hl 0 rfl) ?_
  obtain ⟨y_1, ey_1, hL_y_1, hK_y_1, hp⟩ := hp
  refine w_get (k := 17) (f := 3) (T := TX12) (v := .ref y_1) F hK hW hL_a0 hK_a0 (by decide) rfl rfl (by decide) i_17 k_16 (by rw [show wv 17 3 S a0 = va_rf (sR S a0 3) from rfl, ey_1]; rfl) dX12_on_1 ?_
  refine lv_bipush (v := 67) hx hb dX12_on_4 (by decide) ?_
  refine lv_iload_n hx hb dX12_on_6 rfl (lv_at hl 1 rfl) ?_
  refine lv_imul hx hb dX12_on_7 ?_
  refine lv_iload_n hx hb dX12_on_8 rfl (lv_at hl 2 rfl) ?_
  refine lv_iadd hx hb dX12_on_9 ?_
  obtain ⟨h_2, hp⟩ := hp
  refine w_ild F hK hW hL_y_1 hK_y_1 h_2 dX12_on_10 ?_
  exact w_iret hx hb hr hlocks hK hW ⟨hE, hp⟩ dX12_on_11
set_option maxHeartbeats 4000000 in
set_option maxRecDepth 100000 in
theorem c_X12_on (l : Launch) {D : va_G} {cy : Nat → ClassId} {X : va_W} {S0 : wS} {post : Int32 → wS → Prop} {a0 : Nat} {x1 : Int32} {x2 : Int32} (hL_a0 : a0 ∈ sL S0) (hK_a0 : sK S0 a0 = 17) (hp : wp_X12_on post S0 a0 x1 x2) : mI D cy X l yX12_on wz_X12_on r_X12_on [.ref a0, .int x1, .int x2] S0 (fun r S9 => wX S0 S9 ∧ post r S9) := by
  intro sz
  refine Met.ofW (cc := cX12_on) (maxL := 3) (ret := (some .int)) (by decide) rfl ?_
  intro p e s m args below meth c s₁ B hml hv
  obtain ⟨rfl, hsz, hP, hK, hD0⟩ := hv
  have hts := atoms_spec (ws := wz_X12_on) B.pre
  have hown : s.vm.findClass RX12 = some m.cls := findClass_of_methodNamed B.named
  subst hsz
  have hD := hD0.self (sz := s.heap.size)
  have F : CallFix p m c cX12_on 3 s _ wz_X12_on RX12 := ⟨B.exec, B.bytes, hml, hown, hts⟩
  have hr := B.returns
  have hlocks := B.notSynchronized
  generalize hAe : va_A (wL cy X S0) s.heap.size = A at hD ⊢
  have hA : ∀ q, s.heap.size ≤ q → A q := fun q h => by rw [← hAe]; exact Or.inr h
  have hW : wO D cy X A s.heap S0 s.heap [] := ⟨hP, hD, va_S.rf, hA⟩
  have hl := lv_entry ([.ref a0, .int x1, .int x2]) (n := 3) (Nat.le_of_ble_eq_true rfl)
  rw [lg_entry_eq]
  generalize (lg_sl ([.ref a0, .int x1, .int x2]) ++ List.replicate (3 - (lg_sl ([.ref a0, .int x1, .int x2])).length) Slot.unset).toArray = ls at hl ⊢
  have hl : lv_has ls 3 [(0, .ref a0), (1, .int x1), (2, .int x2)] := hl
  unfold wp_X12_on at hp
  exact t_X12_on_0 F hr hlocks hK hp hW wX.rf (lv_sub hl [0, 1, 2] rfl) hL_a0 hK_a0
def wp_X12_rankOf_0 (post : Int32 → wS → Prop)  (S : wS) (a0 : Nat) (x1 : Int32) : Prop :=
¬ (sI S a0 1) = 0 ∧
post (x1 / (sI S a0 1)) S
abbrev r_X12_rankOf : Room := { frames := 0, cells := 0, slots := 0, locals := 0 }
def wp_X12_rankOf (post : Int32 → wS → Prop) (S : wS) (a0 : Nat) (x1 : Int32) : Prop := wp_X12_rankOf_0 post S a0 x1
set_option maxHeartbeats 4000000 in
set_option maxRecDepth 100000 in
theorem t_X12_rankOf_0 {p : Program} {l : Launch} {e : Env} {s : State} {m : MethodId} {args : Array Value} {below : List Frame} {meth : Method} {c : Code} {D : va_G} {cy : Nat → ClassId} {X : va_W} {A : Nat → Prop} {S0 : wS} {post : Int32 → wS → Prop} (F : CallFix p m c cX12_rankOf 2 s args wz_X12_rankOf RX12) (hr : meth.sig.returnType = (some .int)) (hlocks : meth.locks = false) (hK : wK D cy s) : ∀ {S : wS} {H : Heap} {locs : List Loc} {ls : Array Slot} {a0 : Nat} {x1 : Int32}, wp_X12_rankOf_0 post S a0 x1 → wO D cy X A s.heap S H locs → wX S0 S → lv_has ls 2 [(0, .ref a0), (1, .int x1)] → a0 ∈ sL S → sK S a0 = 17 → W p l e r_X12_rankOf s m args below meth c H locs 0 0 (MQ below (va_Qi (fun r S9 => wX S0 S9 ∧ post r S9) (wB D cy X A) A) args s 0 0 A) (F0 m 0 ls []) := by
  obtain ⟨hx, hb, hml, hown, hts⟩ := id F
  have hwg : ∀ w ∈ WG, w.before args s = true := fun w h => hts w (List.mem_cons_of_mem _ h)
  have i_17 : ∀ w ∈ u_ws RX12 TX12 43, w ∈ wz_X12_rankOf := fun w h => List.mem_cons_of_mem _ (wu_17 w h)
  have k_9 := hwg _ wf_RX12_9
  intro S H locs ls a0 x1 hp hW hE hl hL_a0 hK_a0
  unfold wp_X12_rankOf_0 at hp
  refine lv_iload_n hx hb dX12_rankOf_0 rfl (lv_at hl 1 rfl) ?_
  refine lv_aload_n hx hb dX12_rankOf_1 rfl (lv_at hl 0 rfl) ?_
  refine w_get (k := 17) (f := 1) (T := TX12) (v := .int (sI S a0 1)) F hK hW hL_a0 hK_a0 (by decide) rfl rfl (by decide) i_17 k_9 rfl dX12_rankOf_2 ?_
  obtain ⟨h_1, hp⟩ := hp
  refine lv_idiv hx hb dX12_rankOf_5 h_1 ?_
  exact w_iret hx hb hr hlocks hK hW ⟨hE, hp⟩ dX12_rankOf_6
set_option maxHeartbeats 4000000 in
set_option maxRecDepth 100000 in
theorem c_X12_rankOf (l : Launch) {D : va_G} {cy : Nat → ClassId} {X : va_W} {S0 : wS} {post : Int32 → wS → Prop} {a0 : Nat} {x1 : Int32} (hL_a0 : a0 ∈ sL S0) (hK_a0 : sK S0 a0 = 17) (hp : wp_X12_rankOf post S0 a0 x1) : mI D cy X l yX12_rankOf wz_X12_rankOf r_X12_rankOf [.ref a0, .int x1] S0 (fun r S9 => wX S0 S9 ∧ post r S9) := by
  intro sz
  refine Met.ofW (cc := cX12_rankOf) (maxL := 2) (ret := (some .int)) (by decide) rfl ?_
  intro p e s m args below meth c s₁ B hml hv
  obtain ⟨rfl, hsz, hP, hK, hD0⟩ := hv
  have hts := atoms_spec (ws := wz_X12_rankOf) B.pre
  have hown : s.vm.findClass RX12 = some m.cls := findClass_of_methodNamed B.named
  subst hsz
  have hD := hD0.self (sz := s.heap.size)
  have F : CallFix p m c cX12_rankOf 2 s _ wz_X12_rankOf RX12 := ⟨B.exec, B.bytes, hml, hown, hts⟩
  have hr := B.returns
  have hlocks := B.notSynchronized
  generalize hAe : va_A (wL cy X S0) s.heap.size = A at hD ⊢
  have hA : ∀ q, s.heap.size ≤ q → A q := fun q h => by rw [← hAe]; exact Or.inr h
  have hW : wO D cy X A s.heap S0 s.heap [] := ⟨hP, hD, va_S.rf, hA⟩
  have hl := lv_entry ([.ref a0, .int x1]) (n := 2) (Nat.le_of_ble_eq_true rfl)
  rw [lg_entry_eq]
  generalize (lg_sl ([.ref a0, .int x1]) ++ List.replicate (2 - (lg_sl ([.ref a0, .int x1])).length) Slot.unset).toArray = ls at hl ⊢
  have hl : lv_has ls 2 [(0, .ref a0), (1, .int x1)] := hl
  unfold wp_X12_rankOf at hp
  exact t_X12_rankOf_0 F hr hlocks hK hp hW wX.rf (lv_sub hl [0, 1] rfl) hL_a0 hK_a0
def wp_X12_isClear_80 (post : Int32 → wS → Prop)  : Nat → wS → Nat → Int32 → Int32 → Int32 → Int32 → Prop
  | 0, _, _, _, _, _, _ => False
  | n + 1, S, a0, x1, x3, x6, x7 =>
    ((x7 = x3 → narrow .boolean (.int 1) = .int 1 ∧ post 1 S) ∧
     (¬ x7 = x3 → wp_X12_on (fun r_2 S_3 => 
    ((r_2 = 0 → ∀ x_5 : Int32, x_5 = (x7 + x6) →
    wp_X12_isClear_80 post n S_3 a0 x1 x3 x6 x_5) ∧
     (¬ r_2 = 0 → narrow .boolean (.int 0) = .int 0 ∧ post 0 S_3))) S a0 x1 x7))
def wp_X12_isClear_71 (post : Int32 → wS → Prop)  (S : wS) (a0 : Nat) (x1 : Int32) (x2 : Int32) (x3 : Int32) (t0 : Int32) (t1 : Int32) : Prop :=
∀ x_1 : Int32, x_1 = (t0 + t1) →
∀ x_2 : Int32, x_2 = (x2 + x_1) →
∃ n_3 : Nat, wp_X12_isClear_80 post n_3 S a0 x1 x3 x_1 x_2
def wp_X12_isClear_52 (post : Int32 → wS → Prop)  (S : wS) (a0 : Nat) (x1 : Int32) (x2 : Int32) (x3 : Int32) (x4 : Int32) (t0 : Int32) : Prop :=
((x4 ≤ 0 → ((0 ≤ x4 → wp_X12_isClear_71 post S a0 x1 x2 x3 t0 0) ∧
 (¬ 0 ≤ x4 → wp_X12_isClear_71 post S a0 x1 x2 x3 t0 (-1)))) ∧
 (¬ x4 ≤ 0 → wp_X12_isClear_71 post S a0 x1 x2 x3 t0 1))
def wp_X12_isClear_0 (post : Int32 → wS → Prop)  (S : wS) (a0 : Nat) (x1 : Int32) (x2 : Int32) (x3 : Int32) : Prop :=
wp_X12_fileOf (fun r_1 S_2 => 
wp_X12_fileOf (fun r_3 S_4 => 
∀ x_5 : Int32, x_5 = (r_1 - r_3) →
wp_X12_rankOf (fun r_6 S_7 => 
wp_X12_rankOf (fun r_8 S_9 => 
∀ x_10 : Int32, x_10 = (r_6 - r_8) →
((x_10 ≤ 0 → ((0 ≤ x_10 → wp_X12_isClear_52 post S_9 a0 x1 x2 x3 x_5 0) ∧
 (¬ 0 ≤ x_10 → wp_X12_isClear_52 post S_9 a0 x1 x2 x3 x_5 (-(sI S_9 a0 1))))) ∧
 (¬ x_10 ≤ 0 → wp_X12_isClear_52 post S_9 a0 x1 x2 x3 x_5 (sI S_9 a0 1)))) S_7 a0 x2) S_4 a0 x3) S_2 a0 x2) S a0 x3
abbrev r_X12_isClear : Room := { frames := 1, cells := 0, slots := 0, locals := 22 }
def wp_X12_isClear (post : Int32 → wS → Prop) (S : wS) (a0 : Nat) (x1 : Int32) (x2 : Int32) (x3 : Int32) : Prop := wp_X12_isClear_0 post S a0 x1 x2 x3
set_option maxHeartbeats 4000000 in
set_option maxRecDepth 100000 in
theorem t_X12_isClear_80 {p : Program} {l : Launch} {e : Env} {s : State} {m : MethodId} {args : Array Value} {below : List Frame} {meth : Method} {c : Code} {D : va_G} {cy : Nat → ClassId} {X : va_W} {A : Nat → Prop} {S0 : wS} {post : Int32 → wS → Prop} (F : CallFix p m c cX12_isClear 8 s args wz_X12_isClear RX12) (hr : meth.sig.returnType = (some .boolean)) (hlocks : meth.locks = false) (hK : wK D cy s) : ∀ (n : Nat) {S : wS} {H : Heap} {locs : List Loc} {ls : Array Slot} {a0 : Nat} {x1 : Int32} {x3 : Int32} {x6 : Int32} {x7 : Int32}, wp_X12_isClear_80 post n S a0 x1 x3 x6 x7 → wO D cy X A s.heap S H locs → wX S0 S → lv_has ls 8 [(0, .ref a0), (1, .int x1), (3, .int x3), (6, .int x6), (7, .int x7)] → a0 ∈ sL S → sK S a0 = 17 → W p l e r_X12_isClear s m args below meth c H locs 0 0 (MQ below (va_Qi (fun r S9 => wX S0 S9 ∧ post r S9) (wB D cy X A) A) args s 0 0 A) (F0 m 80 ls []) := by
  obtain ⟨hx, hb, hml, hown, hts⟩ := id F
  have hwg : ∀ w ∈ WG, w.before args s = true := fun w h => hts w (List.mem_cons_of_mem _ h)
  intro n
  induction n with
  | zero =>
    intro S H locs ls a0 x1 x3 x6 x7 hp
    exact hp.elim
  | succ n ih =>
    intro S H locs ls a0 x1 x3 x6 x7 hp hW hE hl hL_a0 hK_a0
    unfold wp_X12_isClear_80 at hp
    refine lv_iload hx hb dX12_isClear_80 (lv_at hl 4 rfl) ?_
    refine lv_iload_n hx hb dX12_isClear_82 rfl (lv_at hl 2 rfl) ?_
    refine lv_icmp_eq (tgt := 108) hx hb dX12_isClear_83 (by decide) (fun c_1 => ?_) (fun c_1 => ?_)
    · replace hp := hp.1 c_1
      refine lv_iconst (v := 1) hx hb dX12_isClear_108 (by decide) ?_
      exact w_zret hx hb hr hlocks hK hW hp.1 ⟨hE, hp.2⟩ dX12_isClear_109
    · replace hp := hp.2 c_1
      refine lv_aload_n hx hb dX12_isClear_86 rfl (lv_at hl 0 rfl) ?_
      refine lv_iload_n hx hb dX12_isClear_87 rfl (lv_at hl 1 rfl) ?_
      refine lv_iload hx hb dX12_isClear_88 (lv_at hl 4 rfl) ?_
      refine w_callI (va_runV (As := [.int x1, .int x7]) (rest := []) F (c_X12_on l hL_a0 hK_a0 hp H.size) (cwV (C := RX12) 2 hts (wg_V wm_RX12_141 wy_X12_on) rfl rfl rfl (by decide +kernel) ⟨Nat.le_of_ble_eq_true rfl, Nat.le_of_ble_eq_true rfl⟩) (w_preV hK hW hL_a0 hK_a0 (by decide) rfl) rfl rfl hl.1 rfl (lv_room (Nat.le_of_ble_eq_true rfl)) dX12_isClear_90 ⟨Nat.le_of_ble_eq_true rfl, Nat.le_of_ble_eq_true rfl⟩) hW (fun r_2 S_3 H locs hp hW => ?_)
      obtain ⟨hX_S_3, hp⟩ := hp
      refine W.widen (k := 0) (n := 0) (Nat.le_refl 0) (Nat.le_refl 0) ?_
      have hE := hE.trans hX_S_3
      have hK_a0 : sK S_3 a0 = 17 := (hX_S_3 a0 hL_a0).2.1.trans hK_a0
      have hL_a0 : a0 ∈ sL S_3 := (hX_S_3 a0 hL_a0).1
      refine lv_if_eq (tgt := 98) hx hb dX12_isClear_93 (by decide) (fun c_4 => ?_) (fun c_4 => ?_)
      · replace hp := hp.1 c_4
        refine lv_iload hx hb dX12_isClear_98 (lv_at hl 4 rfl) ?_
        refine lv_iload hx hb dX12_isClear_100 (lv_at hl 3 rfl) ?_
        refine lv_iadd hx hb dX12_isClear_102 ?_
        refine lv_topi (fun x_5 ex_5 => ?_)
        replace hp := hp x_5 ex_5
        refine lv_istore (lv' := [(7, .int x_5), (0, .ref a0), (1, .int x1), (3, .int x3), (6, .int x6)]) hx hb dX12_isClear_103 hl (by decide) rfl (fun ls hl => ?_)
        refine lv_goto (tgt := 80) hx hb dX12_isClear_105 (by decide) ?_
        exact ih hp hW hE (lv_sub hl [1, 2, 3, 4, 0] rfl) hL_a0 hK_a0
      · replace hp := hp.2 c_4
        refine lv_iconst (v := 0) hx hb dX12_isClear_96 (by decide) ?_
        exact w_zret hx hb hr hlocks hK hW hp.1 ⟨hE, hp.2⟩ dX12_isClear_97
set_option maxHeartbeats 4000000 in
set_option maxRecDepth 100000 in
theorem t_X12_isClear_71 {p : Program} {l : Launch} {e : Env} {s : State} {m : MethodId} {args : Array Value} {below : List Frame} {meth : Method} {c : Code} {D : va_G} {cy : Nat → ClassId} {X : va_W} {A : Nat → Prop} {S0 : wS} {post : Int32 → wS → Prop} (F : CallFix p m c cX12_isClear 8 s args wz_X12_isClear RX12) (hr : meth.sig.returnType = (some .boolean)) (hlocks : meth.locks = false) (hK : wK D cy s) : ∀ {S : wS} {H : Heap} {locs : List Loc} {ls : Array Slot} {a0 : Nat} {x1 : Int32} {x2 : Int32} {x3 : Int32} {t0 : Int32} {t1 : Int32}, wp_X12_isClear_71 post S a0 x1 x2 x3 t0 t1 → wO D cy X A s.heap S H locs → wX S0 S → lv_has ls 8 [(0, .ref a0), (1, .int x1), (2, .int x2), (3, .int x3)] → a0 ∈ sL S → sK S a0 = 17 → W p l e r_X12_isClear s m args below meth c H locs 0 0 (MQ below (va_Qi (fun r S9 => wX S0 S9 ∧ post r S9) (wB D cy X A) A) args s 0 0 A) (F0 m 71 ls [.int t1, .int t0]) := by
  obtain ⟨hx, hb, hml, hown, hts⟩ := id F
  have hwg : ∀ w ∈ WG, w.before args s = true := fun w h => hts w (List.mem_cons_of_mem _ h)
  intro S H locs ls a0 x1 x2 x3 t0 t1 hp hW hE hl hL_a0 hK_a0
  unfold wp_X12_isClear_71 at hp
  refine lv_iadd hx hb dX12_isClear_71 ?_
  refine lv_topi (fun x_1 ex_1 => ?_)
  replace hp := hp x_1 ex_1
  refine lv_istore (lv' := [(6, .int x_1), (0, .ref a0), (1, .int x1), (2, .int x2), (3, .int x3)]) hx hb dX12_isClear_72 hl (by decide) rfl (fun ls hl => ?_)
  refine lv_iload_n hx hb dX12_isClear_74 rfl (lv_at hl 3 rfl) ?_
  refine lv_iload hx hb dX12_isClear_75 (lv_at hl 0 rfl) ?_
  refine lv_iadd hx hb dX12_isClear_77 ?_
  refine lv_topi (fun x_2 ex_2 => ?_)
  replace hp := hp x_2 ex_2
  refine lv_istore (lv' := [(7, .int x_2), (6, .int x_1), (0, .ref a0), (1, .int x1), (2, .int x2), (3, .int x3)]) hx hb dX12_isClear_78 hl (by decide) rfl (fun ls hl => ?_)
  obtain ⟨n_3, hp⟩ := hp
  exact t_X12_isClear_80 F hr hlocks hK n_3 hp hW hE (lv_sub hl [2, 3, 5, 1, 0] rfl) hL_a0 hK_a0
set_option maxHeartbeats 4000000 in
set_option maxRecDepth 100000 in
theorem t_X12_isClear_52 {p : Program} {l : Launch} {e : Env} {s : State} {m : MethodId} {args : Array Value} {below : List Frame} {meth : Method} {c : Code} {D : va_G} {cy : Nat → ClassId} {X : va_W} {A : Nat → Prop} {S0 : wS} {post : Int32 → wS → Prop} (F : CallFix p m c cX12_isClear 8 s args wz_X12_isClear RX12) (hr : meth.sig.returnType = (some .boolean)) (hlocks : meth.locks = false) (hK : wK D cy s) : ∀ {S : wS} {H : Heap} {locs : List Loc} {ls : Array Slot} {a0 : Nat} {x1 : Int32} {x2 : Int32} {x3 : Int32} {x4 : Int32} {t0 : Int32}, wp_X12_isClear_52 post S a0 x1 x2 x3 x4 t0 → wO D cy X A s.heap S H locs → wX S0 S → lv_has ls 8 [(0, .ref a0), (1, .int x1), (2, .int x2), (3, .int x3), (4, .int x4)] → a0 ∈ sL S → sK S a0 = 17 → W p l e r_X12_isClear s m args below meth c H locs 0 0 (MQ below (va_Qi (fun r S9 => wX S0 S9 ∧ post r S9) (wB D cy X A) A) args s 0 0 A) (F0 m 52 ls [.int t0]) := by
  obtain ⟨hx, hb, hml, hown, hts⟩ := id F
  have hwg : ∀ w ∈ WG, w.before args s = true := fun w h => hts w (List.mem_cons_of_mem _ h)
  intro S H locs ls a0 x1 x2 x3 x4 t0 hp hW hE hl hL_a0 hK_a0
  unfold wp_X12_isClear_52 at hp
  refine lv_iload hx hb dX12_isClear_52 (lv_at hl 4 rfl) ?_
  refine lv_if_le (tgt := 61) hx hb dX12_isClear_54 (by decide) (fun c_1 => ?_) (fun c_1 => ?_)
  · replace hp := hp.1 c_1
    refine lv_iload hx hb dX12_isClear_61 (lv_at hl 4 rfl) ?_
    refine lv_if_ge (tgt := 70) hx hb dX12_isClear_63 (by decide) (fun c_2 => ?_) (fun c_2 => ?_)
    · replace hp := hp.1 c_2
      refine lv_iconst (v := 0) hx hb dX12_isClear_70 (by decide) ?_
      exact t_X12_isClear_71 F hr hlocks hK hp hW hE (lv_sub hl [0, 1, 2, 3] rfl) hL_a0 hK_a0
    · replace hp := hp.2 c_2
      refine lv_iconst (v := (-1)) hx hb dX12_isClear_66 (by decide) ?_
      refine lv_goto (tgt := 71) hx hb dX12_isClear_67 (by decide) ?_
      exact t_X12_isClear_71 F hr hlocks hK hp hW hE (lv_sub hl [0, 1, 2, 3] rfl) hL_a0 hK_a0
  · replace hp := hp.2 c_1
    refine lv_iconst (v := 1) hx hb dX12_isClear_57 (by decide) ?_
    refine lv_goto (tgt := 71) hx hb dX12_isClear_58 (by decide) ?_
    exact t_X12_isClear_71 F hr hlocks hK hp hW hE (lv_sub hl [0, 1, 2, 3] rfl) hL_a0 hK_a0
set_option maxHeartbeats 4000000 in
set_option maxRecDepth 100000 in
theorem t_X12_isClear_0 {p : Program} {l : Launch} {e : Env} {s : State} {m : MethodId} {args : Array Value} {below : List Frame} {meth : Method} {c : Code} {D : va_G} {cy : Nat → ClassId} {X : va_W} {A : Nat → Prop} {S0 : wS} {post : Int32 → wS → Prop} (F : CallFix p m c cX12_isClear 8 s args wz_X12_isClear RX12) (hr : meth.sig.returnType = (some .boolean)) (hlocks : meth.locks = false) (hK : wK D cy s) : ∀ {S : wS} {H : Heap} {locs : List Loc} {ls : Array Slot} {a0 : Nat} {x1 : Int32} {x2 : Int32} {x3 : Int32}, wp_X12_isClear_0 post S a0 x1 x2 x3 → wO D cy X A s.heap S H locs → wX S0 S → lv_has ls 8 [(0, .ref a0), (1, .int x1), (2, .int x2), (3, .int x3)] → a0 ∈ sL S → sK S a0 = 17 → W p l e r_X12_isClear s m args below meth c H locs 0 0 (MQ below (va_Qi (fun r S9 => wX S0 S9 ∧ post r S9) (wB D cy X A) A) args s 0 0 A) (F0 m 0 ls []) := by
  obtain ⟨hx, hb, hml, hown, hts⟩ := id F
  have hwg : ∀ w ∈ WG, w.before args s = true := fun w h => hts w (List.mem_cons_of_mem _ h)
  have i_17 : ∀ w ∈ u_ws RX12 TX12 43, w ∈ wz_X12_isClear := fun w h => List.mem_cons_of_mem _ (wu_17 w h)
  have k_9 := hwg _ wf_RX12_9
  intro S H locs ls a0 x1 x2 x3 hp hW hE hl hL_a0 hK_a0
  unfold wp_X12_isClear_0 at hp
  refine lv_aload_n hx hb dX12_isClear_0 rfl (lv_at hl 0 rfl) ?_
  refine lv_iload_n hx hb dX12_isClear_1 rfl (lv_at hl 3 rfl) ?_
  refine w_callI (va_runV (As := [.int x3]) (rest := []) F (c_X12_fileOf l hL_a0 hK_a0 hp H.size) (cwV (C := RX12) 1 hts (wg_V wm_RX12_134 wy_X12_fileOf) rfl rfl rfl (by decide +kernel) ⟨Nat.le_of_ble_eq_true rfl, Nat.le_of_ble_eq_true rfl⟩) (w_preV hK hW hL_a0 hK_a0 (by decide) rfl) rfl rfl hl.1 rfl (lv_room (Nat.le_of_ble_eq_true rfl)) dX12_isClear_2 ⟨Nat.le_of_ble_eq_true rfl, Nat.le_of_ble_eq_true rfl⟩) hW (fun r_1 S_2 H locs hp hW => ?_)
  obtain ⟨hX_S_2, hp⟩ := hp
  refine W.widen (k := 0) (n := 0) (Nat.le_refl 0) (Nat.le_refl 0) ?_
  have hE := hE.trans hX_S_2
  have hK_a0 : sK S_2 a0 = 17 := (hX_S_2 a0 hL_a0).2.1.trans hK_a0
  have hL_a0 : a0 ∈ sL S_2 := (hX_S_2 a0 hL_a0).1
  refine lv_aload_n hx hb dX12_isClear_5 rfl (lv_at hl 0 rfl) ?_
  refine lv_iload_n hx hb dX12_isClear_6 rfl (lv_at hl 2 rfl) ?_
  refine w_callI (va_runV (As := [.int x2]) (rest := [.int r_1]) F (c_X12_fileOf l hL_a0 hK_a0 hp H.size) (cwV (C := RX12) 1 hts (wg_V wm_RX12_134 wy_X12_fileOf) rfl rfl rfl (by decide +kernel) ⟨Nat.le_of_ble_eq_true rfl, Nat.le_of_ble_eq_true rfl⟩) (w_preV hK hW hL_a0 hK_a0 (by decide) rfl) rfl rfl hl.1 rfl (lv_room (Nat.le_of_ble_eq_true rfl)) dX12_isClear_7 ⟨Nat.le_of_ble_eq_true rfl, Nat.le_of_ble_eq_true rfl⟩) hW (fun r_3 S_4 H locs hp hW => ?_)
  obtain ⟨hX_S_4, hp⟩ := hp
  refine W.widen (k := 0) (n := 0) (Nat.le_refl 0) (Nat.le_refl 0) ?_
  have hE := hE.trans hX_S_4
  have hK_a0 : sK S_4 a0 = 17 := (hX_S_4 a0 hL_a0).2.1.trans hK_a0
  have hL_a0 : a0 ∈ sL S_4 := (hX_S_4 a0 hL_a0).1
  refine lv_isub hx hb dX12_isClear_10 ?_
  refine lv_topi (fun x_5 ex_5 => ?_)
  replace hp := hp x_5 ex_5
  refine lv_istore (lv' := [(4, .int x_5), (0, .ref a0), (1, .int x1), (2, .int x2), (3, .int x3)]) hx hb dX12_isClear_11 hl (by decide) rfl (fun ls hl => ?_)
  refine lv_aload_n hx hb dX12_isClear_13 rfl (lv_at hl 1 rfl) ?_
  refine lv_iload_n hx hb dX12_isClear_14 rfl (lv_at hl 4 rfl) ?_
  refine w_callI (va_runV (As := [.int x3]) (rest := []) F (c_X12_rankOf l hL_a0 hK_a0 hp H.size) (cwV (C := RX12) 1 hts (wg_V wm_RX12_138 wy_X12_rankOf) rfl rfl rfl (by decide +kernel) ⟨Nat.le_of_ble_eq_true rfl, Nat.le_of_ble_eq_true rfl⟩) (w_preV hK hW hL_a0 hK_a0 (by decide) rfl) rfl rfl hl.1 rfl (lv_room (Nat.le_of_ble_eq_true rfl)) dX12_isClear_15 ⟨Nat.le_of_ble_eq_true rfl, Nat.le_of_ble_eq_true rfl⟩) hW (fun r_6 S_7 H locs hp hW => ?_)
  obtain ⟨hX_S_7, hp⟩ := hp
  refine W.widen (k := 0) (n := 0) (Nat.le_refl 0) (Nat.le_refl 0) ?_
  have hE := hE.trans hX_S_7
  have hK_a0 : sK S_7 a0 = 17 := (hX_S_7 a0 hL_a0).2.1.trans hK_a0
  have hL_a0 : a0 ∈ sL S_7 := (hX_S_7 a0 hL_a0).1
  refine lv_aload_n hx hb dX12_isClear_18 rfl (lv_at hl 1 rfl) ?_
  refine lv_iload_n hx hb dX12_isClear_19 rfl (lv_at hl 3 rfl) ?_
  refine w_callI (va_runV (As := [.int x2]) (rest := [.int r_6]) F (c_X12_rankOf l hL_a0 hK_a0 hp H.size) (cwV (C := RX12) 1 hts (wg_V wm_RX12_138 wy_X12_rankOf) rfl rfl rfl (by decide +kernel) ⟨Nat.le_of_ble_eq_true rfl, Nat.le_of_ble_eq_true rfl⟩) (w_preV hK hW hL_a0 hK_a0 (by decide) rfl) rfl rfl hl.1 rfl (lv_room (Nat.le_of_ble_eq_true rfl)) dX12_isClear_20 ⟨Nat.le_of_ble_eq_true rfl, Nat.le_of_ble_eq_true rfl⟩) hW (fun r_8 S_9 H locs hp hW => ?_)
  obtain ⟨hX_S_9, hp⟩ := hp
  refine W.widen (k := 0) (n := 0) (Nat.le_refl 0) (Nat.le_refl 0) ?_
  have hE := hE.trans hX_S_9
  have hK_a0 : sK S_9 a0 = 17 := (hX_S_9 a0 hL_a0).2.1.trans hK_a0
  have hL_a0 : a0 ∈ sL S_9 := (hX_S_9 a0 hL_a0).1
  refine lv_isub hx hb dX12_isClear_23 ?_
  refine lv_topi (fun x_10 ex_10 => ?_)
  replace hp := hp x_10 ex_10
  refine lv_istore (lv' := [(5, .int x_10), (4, .int x_5), (0, .ref a0), (1, .int x1), (2, .int x2), (3, .int x3)]) hx hb dX12_isClear_24 hl (by decide) rfl (fun ls hl => ?_)
  refine lv_iload hx hb dX12_isClear_26 (lv_at hl 0 rfl) ?_
  refine lv_if_le (tgt := 38) hx hb dX12_isClear_28 (by decide) (fun c_11 => ?_) (fun c_11 => ?_)
  · replace hp := hp.1 c_11
    refine lv_iload hx hb dX12_isClear_38 (lv_at hl 0 rfl) ?_
    refine lv_if_ge (tgt := 51) hx hb dX12_isClear_40 (by decide) (fun c_12 => ?_) (fun c_12 => ?_)
    · replace hp := hp.1 c_12
      refine lv_iconst (v := 0) hx hb dX12_isClear_51 (by decide) ?_
      exact t_X12_isClear_52 F hr hlocks hK hp hW hE (lv_sub hl [2, 3, 4, 5, 1] rfl) hL_a0 hK_a0
    · replace hp := hp.2 c_12
      refine lv_aload_n hx hb dX12_isClear_43 rfl (lv_at hl 2 rfl) ?_
      refine w_get (k := 17) (f := 1) (T := TX12) (v := .int (sI S_9 a0 1)) F hK hW hL_a0 hK_a0 (by decide) rfl rfl (by decide) i_17 k_9 rfl dX12_isClear_44 ?_
      refine lv_ineg hx hb dX12_isClear_47 ?_
      refine lv_goto (tgt := 52) hx hb dX12_isClear_48 (by decide) ?_
      exact t_X12_isClear_52 F hr hlocks hK hp hW hE (lv_sub hl [2, 3, 4, 5, 1] rfl) hL_a0 hK_a0
  · replace hp := hp.2 c_11
    refine lv_aload_n hx hb dX12_isClear_31 rfl (lv_at hl 2 rfl) ?_
    refine w_get (k := 17) (f := 1) (T := TX12) (v := .int (sI S_9 a0 1)) F hK hW hL_a0 hK_a0 (by decide) rfl rfl (by decide) i_17 k_9 rfl dX12_isClear_32 ?_
    refine lv_goto (tgt := 52) hx hb dX12_isClear_35 (by decide) ?_
    exact t_X12_isClear_52 F hr hlocks hK hp hW hE (lv_sub hl [2, 3, 4, 5, 1] rfl) hL_a0 hK_a0
set_option maxHeartbeats 4000000 in
set_option maxRecDepth 100000 in
theorem c_X12_isClear (l : Launch) {D : va_G} {cy : Nat → ClassId} {X : va_W} {S0 : wS} {post : Int32 → wS → Prop} {a0 : Nat} {x1 : Int32} {x2 : Int32} {x3 : Int32} (hL_a0 : a0 ∈ sL S0) (hK_a0 : sK S0 a0 = 17) (hp : wp_X12_isClear post S0 a0 x1 x2 x3) : mI D cy X l yX12_isClear wz_X12_isClear r_X12_isClear [.ref a0, .int x1, .int x2, .int x3] S0 (fun r S9 => wX S0 S9 ∧ post r S9) := by
  intro sz
  refine Met.ofW (cc := cX12_isClear) (maxL := 8) (ret := (some .boolean)) (by decide) rfl ?_
  intro p e s m args below meth c s₁ B hml hv
  obtain ⟨rfl, hsz, hP, hK, hD0⟩ := hv
  have hts := atoms_spec (ws := wz_X12_isClear) B.pre
  have hown : s.vm.findClass RX12 = some m.cls := findClass_of_methodNamed B.named
  subst hsz
  have hD := hD0.self (sz := s.heap.size)
  have F : CallFix p m c cX12_isClear 8 s _ wz_X12_isClear RX12 := ⟨B.exec, B.bytes, hml, hown, hts⟩
  have hr := B.returns
  have hlocks := B.notSynchronized
  generalize hAe : va_A (wL cy X S0) s.heap.size = A at hD ⊢
  have hA : ∀ q, s.heap.size ≤ q → A q := fun q h => by rw [← hAe]; exact Or.inr h
  have hW : wO D cy X A s.heap S0 s.heap [] := ⟨hP, hD, va_S.rf, hA⟩
  have hl := lv_entry ([.ref a0, .int x1, .int x2, .int x3]) (n := 8) (Nat.le_of_ble_eq_true rfl)
  rw [lg_entry_eq]
  generalize (lg_sl ([.ref a0, .int x1, .int x2, .int x3]) ++ List.replicate (8 - (lg_sl ([.ref a0, .int x1, .int x2, .int x3])).length) Slot.unset).toArray = ls at hl ⊢
  have hl : lv_has ls 8 [(0, .ref a0), (1, .int x1), (2, .int x2), (3, .int x3)] := hl
  unfold wp_X12_isClear at hp
  exact t_X12_isClear_0 F hr hlocks hK hp hW wX.rf (lv_sub hl [0, 1, 2, 3] rfl) hL_a0 hK_a0
def wp_X12_distance_14 (post : Int32 → wS → Prop)  (S : wS) (t0 : Int32) : Prop :=
post t0 S
def wp_X12_distance_0 (post : Int32 → wS → Prop)  (S : wS) (x0 : Int32) (x1 : Int32) : Prop :=
((x1 ≤ x0 → wp_X12_distance_14 post S (x0 - x1)) ∧
 (¬ x1 ≤ x0 → wp_X12_distance_14 post S (x1 - x0)))
abbrev r_X12_distance : Room := { frames := 0, cells := 0, slots := 0, locals := 0 }
def wp_X12_distance (post : Int32 → wS → Prop) (S : wS) (x0 : Int32) (x1 : Int32) : Prop := wp_X12_distance_0 post S x0 x1
set_option maxHeartbeats 4000000 in
set_option maxRecDepth 100000 in
theorem t_X12_distance_14 {p : Program} {l : Launch} {e : Env} {s : State} {m : MethodId} {args : Array Value} {below : List Frame} {meth : Method} {c : Code} {D : va_G} {cy : Nat → ClassId} {X : va_W} {A : Nat → Prop} {S0 : wS} {post : Int32 → wS → Prop} (F : CallFix p m c cX12_distance 2 s args wz_X12_distance RX12) (hr : meth.sig.returnType = (some .int)) (hlocks : meth.locks = false) (hK : wK D cy s) : ∀ {S : wS} {H : Heap} {locs : List Loc} {ls : Array Slot} {t0 : Int32}, wp_X12_distance_14 post S t0 → wO D cy X A s.heap S H locs → wX S0 S → lv_has ls 2 [] → W p l e r_X12_distance s m args below meth c H locs 0 0 (MQ below (va_Qi (fun r S9 => wX S0 S9 ∧ post r S9) (wB D cy X A) A) args s 0 0 A) (F0 m 14 ls [.int t0]) := by
  obtain ⟨hx, hb, hml, hown, hts⟩ := id F
  have hwg : ∀ w ∈ WG, w.before args s = true := fun w h => hts w (List.mem_cons_of_mem _ h)
  intro S H locs ls t0 hp hW hE hl
  unfold wp_X12_distance_14 at hp
  exact w_iret hx hb hr hlocks hK hW ⟨hE, hp⟩ dX12_distance_14
set_option maxHeartbeats 4000000 in
set_option maxRecDepth 100000 in
theorem t_X12_distance_0 {p : Program} {l : Launch} {e : Env} {s : State} {m : MethodId} {args : Array Value} {below : List Frame} {meth : Method} {c : Code} {D : va_G} {cy : Nat → ClassId} {X : va_W} {A : Nat → Prop} {S0 : wS} {post : Int32 → wS → Prop} (F : CallFix p m c cX12_distance 2 s args wz_X12_distance RX12) (hr : meth.sig.returnType = (some .int)) (hlocks : meth.locks = false) (hK : wK D cy s) : ∀ {S : wS} {H : Heap} {locs : List Loc} {ls : Array Slot} {x0 : Int32} {x1 : Int32}, wp_X12_distance_0 post S x0 x1 → wO D cy X A s.heap S H locs → wX S0 S → lv_has ls 2 [(0, .int x0), (1, .int x1)] → W p l e r_X12_distance s m args below meth c H locs 0 0 (MQ below (va_Qi (fun r S9 => wX S0 S9 ∧ post r S9) (wB D cy X A) A) args s 0 0 A) (F0 m 0 ls []) := by
  obtain ⟨hx, hb, hml, hown, hts⟩ := id F
  have hwg : ∀ w ∈ WG, w.before args s = true := fun w h => hts w (List.mem_cons_of_mem _ h)
  intro S H locs ls x0 x1 hp hW hE hl
  unfold wp_X12_distance_0 at hp
  refine lv_iload_n hx hb dX12_distance_0 rfl (lv_at hl 0 rfl) ?_
  refine lv_iload_n hx hb dX12_distance_1 rfl (lv_at hl 1 rfl) ?_
  refine lv_icmp_ge (tgt := 11) hx hb dX12_distance_2 (by decide) (fun c_1 => ?_) (fun c_1 => ?_)
  · replace hp := hp.1 c_1
    refine lv_iload_n hx hb dX12_distance_11 rfl (lv_at hl 0 rfl) ?_
    refine lv_iload_n hx hb dX12_distance_12 rfl (lv_at hl 1 rfl) ?_
    refine lv_isub hx hb dX12_distance_13 ?_
    exact t_X12_distance_14 F hr hlocks hK hp hW hE (lv_sub hl [] rfl)
  · replace hp := hp.2 c_1
    refine lv_iload_n hx hb dX12_distance_5 rfl (lv_at hl 1 rfl) ?_
    refine lv_iload_n hx hb dX12_distance_6 rfl (lv_at hl 0 rfl) ?_
    refine lv_isub hx hb dX12_distance_7 ?_
    refine lv_goto (tgt := 14) hx hb dX12_distance_8 (by decide) ?_
    exact t_X12_distance_14 F hr hlocks hK hp hW hE (lv_sub hl [] rfl)
set_option maxHeartbeats 4000000 in
set_option maxRecDepth 100000 in
theorem c_X12_distance (l : Launch) {D : va_G} {cy : Nat → ClassId} {X : va_W} {S0 : wS} {post : Int32 → wS → Prop} {x0 : Int32} {x1 : Int32} (hp : wp_X12_distance post S0 x0 x1) : mI D cy X l yX12_distance wz_X12_distance r_X12_distance [.int x0, .int x1] S0 (fun r S9 => wX S0 S9 ∧ post r S9) := by
  intro sz
  refine Met.ofW (cc := cX12_distance) (maxL := 2) (ret := (some .int)) (by decide) rfl ?_
  intro p e s m args below meth c s₁ B hml hv
  obtain ⟨rfl, hsz, hP, hK, hD0⟩ := hv
  have hts := atoms_spec (ws := wz_X12_distance) B.pre
  have hown : s.vm.findClass RX12 = some m.cls := findClass_of_methodNamed B.named
  subst hsz
  have hD := hD0.self (sz := s.heap.size)
  have F : CallFix p m c cX12_distance 2 s _ wz_X12_distance RX12 := ⟨B.exec, B.bytes, hml, hown, hts⟩
  have hr := B.returns
  have hlocks := B.notSynchronized
  generalize hAe : va_A (wL cy X S0) s.heap.size = A at hD ⊢
  have hA : ∀ q, s.heap.size ≤ q → A q := fun q h => by rw [← hAe]; exact Or.inr h
  have hW : wO D cy X A s.heap S0 s.heap [] := ⟨hP, hD, va_S.rf, hA⟩
  have hl := lv_entry ([.int x0, .int x1]) (n := 2) (Nat.le_of_ble_eq_true rfl)
  rw [lg_entry_eq]
  generalize (lg_sl ([.int x0, .int x1]) ++ List.replicate (2 - (lg_sl ([.int x0, .int x1])).length) Slot.unset).toArray = ls at hl ⊢
  have hl : lv_has ls 2 [(0, .int x0), (1, .int x1)] := hl
  unfold wp_X12_distance at hp
  exact t_X12_distance_0 F hr hlocks hK hp hW wX.rf (lv_sub hl [0, 1] rfl)
def wp_X12_kindOf_14 (post : Int32 → wS → Prop)  (S : wS) (t0 : Int32) : Prop :=
post t0 S
def wp_X12_kindOf_0 (post : Int32 → wS → Prop)  (S : wS) (x0 : Int32) : Prop :=
((x0 ≤ 6 → wp_X12_kindOf_14 post S x0) ∧
 (¬ x0 ≤ 6 → wp_X12_kindOf_14 post S (x0 - 6)))
abbrev r_X12_kindOf : Room := { frames := 0, cells := 0, slots := 0, locals := 0 }
def wp_X12_kindOf (post : Int32 → wS → Prop) (S : wS) (x0 : Int32) : Prop := wp_X12_kindOf_0 post S x0
set_option maxHeartbeats 4000000 in
set_option maxRecDepth 100000 in
theorem t_X12_kindOf_14 {p : Program} {l : Launch} {e : Env} {s : State} {m : MethodId} {args : Array Value} {below : List Frame} {meth : Method} {c : Code} {D : va_G} {cy : Nat → ClassId} {X : va_W} {A : Nat → Prop} {S0 : wS} {post : Int32 → wS → Prop} (F : CallFix p m c cX12_kindOf 1 s args wz_X12_kindOf RX12) (hr : meth.sig.returnType = (some .int)) (hlocks : meth.locks = false) (hK : wK D cy s) : ∀ {S : wS} {H : Heap} {locs : List Loc} {ls : Array Slot} {t0 : Int32}, wp_X12_kindOf_14 post S t0 → wO D cy X A s.heap S H locs → wX S0 S → lv_has ls 1 [] → W p l e r_X12_kindOf s m args below meth c H locs 0 0 (MQ below (va_Qi (fun r S9 => wX S0 S9 ∧ post r S9) (wB D cy X A) A) args s 0 0 A) (F0 m 14 ls [.int t0]) := by
  obtain ⟨hx, hb, hml, hown, hts⟩ := id F
  have hwg : ∀ w ∈ WG, w.before args s = true := fun w h => hts w (List.mem_cons_of_mem _ h)
  intro S H locs ls t0 hp hW hE hl
  unfold wp_X12_kindOf_14 at hp
  exact w_iret hx hb hr hlocks hK hW ⟨hE, hp⟩ dX12_kindOf_14
set_option maxHeartbeats 4000000 in
set_option maxRecDepth 100000 in
theorem t_X12_kindOf_0 {p : Program} {l : Launch} {e : Env} {s : State} {m : MethodId} {args : Array Value} {below : List Frame} {meth : Method} {c : Code} {D : va_G} {cy : Nat → ClassId} {X : va_W} {A : Nat → Prop} {S0 : wS} {post : Int32 → wS → Prop} (F : CallFix p m c cX12_kindOf 1 s args wz_X12_kindOf RX12) (hr : meth.sig.returnType = (some .int)) (hlocks : meth.locks = false) (hK : wK D cy s) : ∀ {S : wS} {H : Heap} {locs : List Loc} {ls : Array Slot} {x0 : Int32}, wp_X12_kindOf_0 post S x0 → wO D cy X A s.heap S H locs → wX S0 S → lv_has ls 1 [(0, .int x0)] → W p l e r_X12_kindOf s m args below meth c H locs 0 0 (MQ below (va_Qi (fun r S9 => wX S0 S9 ∧ post r S9) (wB D cy X A) A) args s 0 0 A) (F0 m 0 ls []) := by
  obtain ⟨hx, hb, hml, hown, hts⟩ := id F
  have hwg : ∀ w ∈ WG, w.before args s = true := fun w h => hts w (List.mem_cons_of_mem _ h)
  intro S H locs ls x0 hp hW hE hl
  unfold wp_X12_kindOf_0 at hp
  refine lv_iload_n hx hb dX12_kindOf_0 rfl (lv_at hl 0 rfl) ?_
  refine lv_bipush (v := 6) hx hb dX12_kindOf_1 (by decide) ?_
  refine lv_icmp_le (tgt := 13) hx hb dX12_kindOf_3 (by decide) (fun c_1 => ?_) (fun c_1 => ?_)
  · replace hp := hp.1 c_1
    refine lv_iload_n hx hb dX12_kindOf_13 rfl (lv_at hl 0 rfl) ?_
    exact t_X12_kindOf_14 F hr hlocks hK hp hW hE (lv_sub hl [] rfl)
  · replace hp := hp.2 c_1
    refine lv_iload_n hx hb dX12_kindOf_6 rfl (lv_at hl 0 rfl) ?_
    refine lv_bipush (v := 6) hx hb dX12_kindOf_7 (by decide) ?_
    refine lv_isub hx hb dX12_kindOf_9 ?_
    refine lv_goto (tgt := 14) hx hb dX12_kindOf_10 (by decide) ?_
    exact t_X12_kindOf_14 F hr hlocks hK hp hW hE (lv_sub hl [] rfl)
set_option maxHeartbeats 4000000 in
set_option maxRecDepth 100000 in
theorem c_X12_kindOf (l : Launch) {D : va_G} {cy : Nat → ClassId} {X : va_W} {S0 : wS} {post : Int32 → wS → Prop} {x0 : Int32} (hp : wp_X12_kindOf post S0 x0) : mI D cy X l yX12_kindOf wz_X12_kindOf r_X12_kindOf [.int x0] S0 (fun r S9 => wX S0 S9 ∧ post r S9) := by
  intro sz
  refine Met.ofW (cc := cX12_kindOf) (maxL := 1) (ret := (some .int)) (by decide) rfl ?_
  intro p e s m args below meth c s₁ B hml hv
  obtain ⟨rfl, hsz, hP, hK, hD0⟩ := hv
  have hts := atoms_spec (ws := wz_X12_kindOf) B.pre
  have hown : s.vm.findClass RX12 = some m.cls := findClass_of_methodNamed B.named
  subst hsz
  have hD := hD0.self (sz := s.heap.size)
  have F : CallFix p m c cX12_kindOf 1 s _ wz_X12_kindOf RX12 := ⟨B.exec, B.bytes, hml, hown, hts⟩
  have hr := B.returns
  have hlocks := B.notSynchronized
  generalize hAe : va_A (wL cy X S0) s.heap.size = A at hD ⊢
  have hA : ∀ q, s.heap.size ≤ q → A q := fun q h => by rw [← hAe]; exact Or.inr h
  have hW : wO D cy X A s.heap S0 s.heap [] := ⟨hP, hD, va_S.rf, hA⟩
  have hl := lv_entry ([.int x0]) (n := 1) (Nat.le_of_ble_eq_true rfl)
  rw [lg_entry_eq]
  generalize (lg_sl ([.int x0]) ++ List.replicate (1 - (lg_sl ([.int x0])).length) Slot.unset).toArray = ls at hl ⊢
  have hl : lv_has ls 1 [(0, .int x0)] := hl
  unfold wp_X12_kindOf at hp
  exact t_X12_kindOf_0 F hr hlocks hK hp hW wX.rf (lv_sub hl [0] rfl)
def wp_X12_attacks_257 (post : Int32 → wS → Prop)  (S : wS) (t0 : Int32) : Prop :=
narrow .boolean (.int t0) = .int t0 ∧ post t0 S
def wp_X12_attacks_256 (post : Int32 → wS → Prop)  (S : wS) : Prop :=
wp_X12_attacks_257 post S 0
def wp_X12_attacks_234 (post : Int32 → wS → Prop)  (S : wS) (a0 : Nat) (x1 : Int32) (x2 : Int32) (x3 : Int32) (x5 : Int32) (x6 : Int32) : Prop :=
(((x5 + x6) ≤ 0 → wp_X12_attacks_256 post S) ∧
 (¬ (x5 + x6) ≤ 0 → wp_X12_isClear (fun r_2 S_3 => 
((r_2 = 0 → wp_X12_attacks_256 post S_3) ∧
 (¬ r_2 = 0 → wp_X12_attacks_257 post S_3 1))) S a0 x1 x2 x3))
def wp_X12_attacks_218 (post : Int32 → wS → Prop)  (S : wS) (t0 : Int32) : Prop :=
narrow .boolean (.int t0) = .int t0 ∧ post t0 S
def wp_X12_attacks_217 (post : Int32 → wS → Prop)  (S : wS) : Prop :=
wp_X12_attacks_218 post S 0
def wp_X12_attacks_190 (post : Int32 → wS → Prop)  (S : wS) (t0 : Int32) : Prop :=
narrow .boolean (.int t0) = .int t0 ∧ post t0 S
def wp_X12_attacks_189 (post : Int32 → wS → Prop)  (S : wS) : Prop :=
wp_X12_attacks_190 post S 0
def wp_X12_attacks_158 (post : Int32 → wS → Prop)  (S : wS) (t0 : Int32) : Prop :=
narrow .boolean (.int t0) = .int t0 ∧ post t0 S
def wp_X12_attacks_157 (post : Int32 → wS → Prop)  (S : wS) : Prop :=
wp_X12_attacks_158 post S 0
def wp_X12_attacks_150 (post : Int32 → wS → Prop)  (S : wS) (t0 : Int32) (t1 : Int32) : Prop :=
((¬ t0 = t1 → wp_X12_attacks_157 post S) ∧
 (t0 = t1 → wp_X12_attacks_158 post S 1))
def wp_X12_attacks_120 (post : Int32 → wS → Prop)  (S : wS) (t0 : Int32) : Prop :=
narrow .boolean (.int t0) = .int t0 ∧ post t0 S
def wp_X12_attacks_105 (post : Int32 → wS → Prop)  (S : wS) (t0 : Int32) : Prop :=
narrow .boolean (.int t0) = .int t0 ∧ post t0 S
def wp_X12_attacks_104 (post : Int32 → wS → Prop)  (S : wS) : Prop :=
wp_X12_attacks_105 post S 0
def wp_X12_attacks_0 (post : Int32 → wS → Prop)  (S : wS) (a0 : Nat) (x1 : Int32) (x2 : Int32) (x3 : Int32) : Prop :=
wp_X12_on (fun r_1 S_2 => 
wp_X12_fileOf (fun r_3 S_4 => 
wp_X12_fileOf (fun r_5 S_6 => 
wp_X12_distance (fun r_7 S_8 => 
wp_X12_rankOf (fun r_9 S_10 => 
wp_X12_rankOf (fun r_11 S_12 => 
wp_X12_distance (fun r_13 S_14 => 
wp_X12_kindOf (fun r_15 S_16 => 
((r_15 = 1 → ((1 < r_7 → wp_X12_attacks_104 post S_16) ∧
 (¬ 1 < r_7 → ((1 < r_13 → wp_X12_attacks_104 post S_16) ∧
 (¬ 1 < r_13 → (((r_7 + r_13) ≤ 0 → wp_X12_attacks_104 post S_16) ∧
 (¬ (r_7 + r_13) ≤ 0 → wp_X12_attacks_105 post S_16 1))))))) ∧
 ((r_15 = 2 → (((r_7 * r_13) = 0 → wp_X12_attacks_234 post S_16 a0 x1 x2 x3 r_7 r_13) ∧
 (¬ (r_7 * r_13) = 0 → ((¬ r_7 = r_13 → wp_X12_attacks_256 post S_16) ∧
 (r_7 = r_13 → wp_X12_attacks_234 post S_16 a0 x1 x2 x3 r_7 r_13))))) ∧
 ((r_15 = 3 → ((¬ (r_7 * r_13) = 0 → wp_X12_attacks_189 post S_16) ∧
 ((r_7 * r_13) = 0 → (((r_7 + r_13) ≤ 0 → wp_X12_attacks_189 post S_16) ∧
 (¬ (r_7 + r_13) ≤ 0 → wp_X12_isClear (fun r_27 S_28 => 
((r_27 = 0 → wp_X12_attacks_189 post S_28) ∧
 (¬ r_27 = 0 → wp_X12_attacks_190 post S_28 1))) S_16 a0 x1 x2 x3))))) ∧
 ((r_15 = 4 → ((¬ r_7 = r_13 → wp_X12_attacks_217 post S_16) ∧
 (r_7 = r_13 → ((r_7 ≤ 0 → wp_X12_attacks_217 post S_16) ∧
 (¬ r_7 ≤ 0 → wp_X12_isClear (fun r_33 S_34 => 
((r_33 = 0 → wp_X12_attacks_217 post S_34) ∧
 (¬ r_33 = 0 → wp_X12_attacks_218 post S_34 1))) S_16 a0 x1 x2 x3))))) ∧
 ((r_15 = 5 → ((¬ (r_7 * r_13) = 2 → wp_X12_attacks_120 post S_16 0) ∧
 ((r_7 * r_13) = 2 → wp_X12_attacks_120 post S_16 1))) ∧
 ((r_15 = 6 → ((¬ r_7 = 1 → wp_X12_attacks_157 post S_16) ∧
 (r_7 = 1 → wp_X12_rankOf (fun r_40 S_41 => 
wp_X12_rankOf (fun r_42 S_43 => 
((¬ r_1 = 6 → wp_X12_attacks_150 post S_43 (r_40 - r_42) (-1)) ∧
 (r_1 = 6 → wp_X12_attacks_150 post S_43 (r_40 - r_42) 1))) S_41 a0 x2) S_16 a0 x3))) ∧
 (¬ r_15 = 1 → ¬ r_15 = 2 → ¬ r_15 = 3 → ¬ r_15 = 4 → ¬ r_15 = 5 → ¬ r_15 = 6 → narrow .boolean (.int 0) = .int 0 ∧ post 0 S_16)))))))) S_14 r_1) S_12 r_9 r_11) S_10 a0 x3) S_8 a0 x2) S_6 r_3 r_5) S_4 a0 x3) S_2 a0 x2) S a0 x1 x2
abbrev r_X12_attacks : Room := { frames := 2, cells := 0, slots := 0, locals := 49 }
def wp_X12_attacks (post : Int32 → wS → Prop) (S : wS) (a0 : Nat) (x1 : Int32) (x2 : Int32) (x3 : Int32) : Prop := wp_X12_attacks_0 post S a0 x1 x2 x3
set_option maxHeartbeats 4000000 in
set_option maxRecDepth 100000 in
theorem t_X12_attacks_257 {p : Program} {l : Launch} {e : Env} {s : State} {m : MethodId} {args : Array Value} {below : List Frame} {meth : Method} {c : Code} {D : va_G} {cy : Nat → ClassId} {X : va_W} {A : Nat → Prop} {S0 : wS} {post : Int32 → wS → Prop} (F : CallFix p m c cX12_attacks 7 s args wz_X12_attacks RX12) (hr : meth.sig.returnType = (some .boolean)) (hlocks : meth.locks = false) (hK : wK D cy s) : ∀ {S : wS} {H : Heap} {locs : List Loc} {ls : Array Slot} {t0 : Int32}, wp_X12_attacks_257 post S t0 → wO D cy X A s.heap S H locs → wX S0 S → lv_has ls 7 [] → W p l e r_X12_attacks s m args below meth c H locs 0 0 (MQ below (va_Qi (fun r S9 => wX S0 S9 ∧ post r S9) (wB D cy X A) A) args s 0 0 A) (F0 m 257 ls [.int t0]) := by
  obtain ⟨hx, hb, hml, hown, hts⟩ := id F
  have hwg : ∀ w ∈ WG, w.before args s = true := fun w h => hts w (List.mem_cons_of_mem _ h)
  intro S H locs ls t0 hp hW hE hl
  unfold wp_X12_attacks_257 at hp
  exact w_zret hx hb hr hlocks hK hW hp.1 ⟨hE, hp.2⟩ dX12_attacks_257
set_option maxHeartbeats 4000000 in
set_option maxRecDepth 100000 in
theorem t_X12_attacks_256 {p : Program} {l : Launch} {e : Env} {s : State} {m : MethodId} {args : Array Value} {below : List Frame} {meth : Method} {c : Code} {D : va_G} {cy : Nat → ClassId} {X : va_W} {A : Nat → Prop} {S0 : wS} {post : Int32 → wS → Prop} (F : CallFix p m c cX12_attacks 7 s args wz_X12_attacks RX12) (hr : meth.sig.returnType = (some .boolean)) (hlocks : meth.locks = false) (hK : wK D cy s) : ∀ {S : wS} {H : Heap} {locs : List Loc} {ls : Array Slot}, wp_X12_attacks_256 post S → wO D cy X A s.heap S H locs → wX S0 S → lv_has ls 7 [] → W p l e r_X12_attacks s m args below meth c H locs 0 0 (MQ below (va_Qi (fun r S9 => wX S0 S9 ∧ post r S9) (wB D cy X A) A) args s 0 0 A) (F0 m 256 ls []) := by
  obtain ⟨hx, hb, hml, hown, hts⟩ := id F
  have hwg : ∀ w ∈ WG, w.before args s = true := fun w h => hts w (List.mem_cons_of_mem _ h)
  intro S H locs ls hp hW hE hl
  unfold wp_X12_attacks_256 at hp
  refine lv_iconst (v := 0) hx hb dX12_attacks_256 (by decide) ?_
  exact t_X12_attacks_257 F hr hlocks hK hp hW hE (lv_sub hl [] rfl)
set_option maxHeartbeats 4000000 in
set_option maxRecDepth 100000 in
theorem t_X12_attacks_234 {p : Program} {l : Launch} {e : Env} {s : State} {m : MethodId} {args : Array Value} {below : List Frame} {meth : Method} {c : Code} {D : va_G} {cy : Nat → ClassId} {X : va_W} {A : Nat → Prop} {S0 : wS} {post : Int32 → wS → Prop} (F : CallFix p m c cX12_attacks 7 s args wz_X12_attacks RX12) (hr : meth.sig.returnType = (some .boolean)) (hlocks : meth.locks = false) (hK : wK D cy s) : ∀ {S : wS} {H : Heap} {locs : List Loc} {ls : Array Slot} {a0 : Nat} {x1 : Int32} {x2 : Int32} {x3 : Int32} {x5 : Int32} {x6 : Int32}, wp_X12_attacks_234 post S a0 x1 x2 x3 x5 x6 → wO D cy X A s.heap S H locs → wX S0 S → lv_has ls 7 [(0, .ref a0), (1, .int x1), (2, .int x2), (3, .int x3), (5, .int x5), (6, .int x6)] → a0 ∈ sL S → sK S a0 = 17 → W p l e r_X12_attacks s m args below meth c H locs 0 0 (MQ below (va_Qi (fun r S9 => wX S0 S9 ∧ post r S9) (wB D cy X A) A) args s 0 0 A) (F0 m 234 ls []) := by
  obtain ⟨hx, hb, hml, hown, hts⟩ := id F
  have hwg : ∀ w ∈ WG, w.before args s = true := fun w h => hts w (List.mem_cons_of_mem _ h)
  intro S H locs ls a0 x1 x2 x3 x5 x6 hp hW hE hl hL_a0 hK_a0
  unfold wp_X12_attacks_234 at hp
  refine lv_iload hx hb dX12_attacks_234 (lv_at hl 4 rfl) ?_
  refine lv_iload hx hb dX12_attacks_236 (lv_at hl 5 rfl) ?_
  refine lv_iadd hx hb dX12_attacks_238 ?_
  refine lv_if_le (tgt := 256) hx hb dX12_attacks_239 (by decide) (fun c_1 => ?_) (fun c_1 => ?_)
  · replace hp := hp.1 c_1
    exact t_X12_attacks_256 F hr hlocks hK hp hW hE (lv_sub hl [] rfl)
  · replace hp := hp.2 c_1
    refine lv_aload_n hx hb dX12_attacks_242 rfl (lv_at hl 0 rfl) ?_
    refine lv_iload_n hx hb dX12_attacks_243 rfl (lv_at hl 1 rfl) ?_
    refine lv_iload_n hx hb dX12_attacks_244 rfl (lv_at hl 2 rfl) ?_
    refine lv_iload_n hx hb dX12_attacks_245 rfl (lv_at hl 3 rfl) ?_
    refine w_callI (va_runV (As := [.int x1, .int x2, .int x3]) (rest := []) F (c_X12_isClear l hL_a0 hK_a0 hp H.size) (cwV (C := RX12) 3 hts (wg_V wm_RX12_151 wy_X12_isClear) rfl rfl rfl (by decide +kernel) ⟨Nat.le_of_ble_eq_true rfl, Nat.le_of_ble_eq_true rfl⟩) (w_preV hK hW hL_a0 hK_a0 (by decide) rfl) rfl rfl hl.1 rfl (lv_room (Nat.le_of_ble_eq_true rfl)) dX12_attacks_246 ⟨Nat.le_of_ble_eq_true rfl, Nat.le_of_ble_eq_true rfl⟩) hW (fun r_2 S_3 H locs hp hW => ?_)
    obtain ⟨hX_S_3, hp⟩ := hp
    refine W.widen (k := 0) (n := 0) (Nat.le_refl 0) (Nat.le_refl 0) ?_
    have hE := hE.trans hX_S_3
    have hK_a0 : sK S_3 a0 = 17 := (hX_S_3 a0 hL_a0).2.1.trans hK_a0
    have hL_a0 : a0 ∈ sL S_3 := (hX_S_3 a0 hL_a0).1
    refine lv_if_eq (tgt := 256) hx hb dX12_attacks_249 (by decide) (fun c_4 => ?_) (fun c_4 => ?_)
    · replace hp := hp.1 c_4
      exact t_X12_attacks_256 F hr hlocks hK hp hW hE (lv_sub hl [] rfl)
    · replace hp := hp.2 c_4
      refine lv_iconst (v := 1) hx hb dX12_attacks_252 (by decide) ?_
      refine lv_goto (tgt := 257) hx hb dX12_attacks_253 (by decide) ?_
      exact t_X12_attacks_257 F hr hlocks hK hp hW hE (lv_sub hl [] rfl)
set_option maxHeartbeats 4000000 in
set_option maxRecDepth 100000 in
theorem t_X12_attacks_218 {p : Program} {l : Launch} {e : Env} {s : State} {m : MethodId} {args : Array Value} {below : List Frame} {meth : Method} {c : Code} {D : va_G} {cy : Nat → ClassId} {X : va_W} {A : Nat → Prop} {S0 : wS} {post : Int32 → wS → Prop} (F : CallFix p m c cX12_attacks 7 s args wz_X12_attacks RX12) (hr : meth.sig.returnType = (some .boolean)) (hlocks : meth.locks = false) (hK : wK D cy s) : ∀ {S : wS} {H : Heap} {locs : List Loc} {ls : Array Slot} {t0 : Int32}, wp_X12_attacks_218 post S t0 → wO D cy X A s.heap S H locs → wX S0 S → lv_has ls 7 [] → W p l e r_X12_attacks s m args below meth c H locs 0 0 (MQ below (va_Qi (fun r S9 => wX S0 S9 ∧ post r S9) (wB D cy X A) A) args s 0 0 A) (F0 m 218 ls [.int t0]) := by
  obtain ⟨hx, hb, hml, hown, hts⟩ := id F
  have hwg : ∀ w ∈ WG, w.before args s = true := fun w h => hts w (List.mem_cons_of_mem _ h)
  intro S H locs ls t0 hp hW hE hl
  unfold wp_X12_attacks_218 at hp
  exact w_zret hx hb hr hlocks hK hW hp.1 ⟨hE, hp.2⟩ dX12_attacks_218
set_option maxHeartbeats 4000000 in
set_option maxRecDepth 100000 in
theorem t_X12_attacks_217 {p : Program} {l : Launch} {e : Env} {s : State} {m : MethodId} {args : Array Value} {below : List Frame} {meth : Method} {c : Code} {D : va_G} {cy : Nat → ClassId} {X : va_W} {A : Nat → Prop} {S0 : wS} {post : Int32 → wS → Prop} (F : CallFix p m c cX12_attacks 7 s args wz_X12_attacks RX12) (hr : meth.sig.returnType = (some .boolean)) (hlocks : meth.locks = false) (hK : wK D cy s) : ∀ {S : wS} {H : Heap} {locs : List Loc} {ls : Array Slot}, wp_X12_attacks_217 post S → wO D cy X A s.heap S H locs → wX S0 S → lv_has ls 7 [] → W p l e r_X12_attacks s m args below meth c H locs 0 0 (MQ below (va_Qi (fun r S9 => wX S0 S9 ∧ post r S9) (wB D cy X A) A) args s 0 0 A) (F0 m 217 ls []) := by
  obtain ⟨hx, hb, hml, hown, hts⟩ := id F
  have hwg : ∀ w ∈ WG, w.before args s = true := fun w h => hts w (List.mem_cons_of_mem _ h)
  intro S H locs ls hp hW hE hl
  unfold wp_X12_attacks_217 at hp
  refine lv_iconst (v := 0) hx hb dX12_attacks_217 (by decide) ?_
  exact t_X12_attacks_218 F hr hlocks hK hp hW hE (lv_sub hl [] rfl)
set_option maxHeartbeats 4000000 in
set_option maxRecDepth 100000 in
theorem t_X12_attacks_190 {p : Program} {l : Launch} {e : Env} {s : State} {m : MethodId} {args : Array Value} {below : List Frame} {meth : Method} {c : Code} {D : va_G} {cy : Nat → ClassId} {X : va_W} {A : Nat → Prop} {S0 : wS} {post : Int32 → wS → Prop} (F : CallFix p m c cX12_attacks 7 s args wz_X12_attacks RX12) (hr : meth.sig.returnType = (some .boolean)) (hlocks : meth.locks = false) (hK : wK D cy s) : ∀ {S : wS} {H : Heap} {locs : List Loc} {ls : Array Slot} {t0 : Int32}, wp_X12_attacks_190 post S t0 → wO D cy X A s.heap S H locs → wX S0 S → lv_has ls 7 [] → W p l e r_X12_attacks s m args below meth c H locs 0 0 (MQ below (va_Qi (fun r S9 => wX S0 S9 ∧ post r S9) (wB D cy X A) A) args s 0 0 A) (F0 m 190 ls [.int t0]) := by
  obtain ⟨hx, hb, hml, hown, hts⟩ := id F
  have hwg : ∀ w ∈ WG, w.before args s = true := fun w h => hts w (List.mem_cons_of_mem _ h)
  intro S H locs ls t0 hp hW hE hl
  unfold wp_X12_attacks_190 at hp
  exact w_zret hx hb hr hlocks hK hW hp.1 ⟨hE, hp.2⟩ dX12_attacks_190
set_option maxHeartbeats 4000000 in
set_option maxRecDepth 100000 in
theorem t_X12_attacks_189 {p : Program} {l : Launch} {e : Env} {s : State} {m : MethodId} {args : Array Value} {below : List Frame} {meth : Method} {c : Code} {D : va_G} {cy : Nat → ClassId} {X : va_W} {A : Nat → Prop} {S0 : wS} {post : Int32 → wS → Prop} (F : CallFix p m c cX12_attacks 7 s args wz_X12_attacks RX12) (hr : meth.sig.returnType = (some .boolean)) (hlocks : meth.locks = false) (hK : wK D cy s) : ∀ {S : wS} {H : Heap} {locs : List Loc} {ls : Array Slot}, wp_X12_attacks_189 post S → wO D cy X A s.heap S H locs → wX S0 S → lv_has ls 7 [] → W p l e r_X12_attacks s m args below meth c H locs 0 0 (MQ below (va_Qi (fun r S9 => wX S0 S9 ∧ post r S9) (wB D cy X A) A) args s 0 0 A) (F0 m 189 ls []) := by
  obtain ⟨hx, hb, hml, hown, hts⟩ := id F
  have hwg : ∀ w ∈ WG, w.before args s = true := fun w h => hts w (List.mem_cons_of_mem _ h)
  intro S H locs ls hp hW hE hl
  unfold wp_X12_attacks_189 at hp
  refine lv_iconst (v := 0) hx hb dX12_attacks_189 (by decide) ?_
  exact t_X12_attacks_190 F hr hlocks hK hp hW hE (lv_sub hl [] rfl)
set_option maxHeartbeats 4000000 in
set_option maxRecDepth 100000 in
theorem t_X12_attacks_158 {p : Program} {l : Launch} {e : Env} {s : State} {m : MethodId} {args : Array Value} {below : List Frame} {meth : Method} {c : Code} {D : va_G} {cy : Nat → ClassId} {X : va_W} {A : Nat → Prop} {S0 : wS} {post : Int32 → wS → Prop} (F : CallFix p m c cX12_attacks 7 s args wz_X12_attacks RX12) (hr : meth.sig.returnType = (some .boolean)) (hlocks : meth.locks = false) (hK : wK D cy s) : ∀ {S : wS} {H : Heap} {locs : List Loc} {ls : Array Slot} {t0 : Int32}, wp_X12_attacks_158 post S t0 → wO D cy X A s.heap S H locs → wX S0 S → lv_has ls 7 [] → W p l e r_X12_attacks s m args below meth c H locs 0 0 (MQ below (va_Qi (fun r S9 => wX S0 S9 ∧ post r S9) (wB D cy X A) A) args s 0 0 A) (F0 m 158 ls [.int t0]) := by
  obtain ⟨hx, hb, hml, hown, hts⟩ := id F
  have hwg : ∀ w ∈ WG, w.before args s = true := fun w h => hts w (List.mem_cons_of_mem _ h)
  intro S H locs ls t0 hp hW hE hl
  unfold wp_X12_attacks_158 at hp
  exact w_zret hx hb hr hlocks hK hW hp.1 ⟨hE, hp.2⟩ dX12_attacks_158
set_option maxHeartbeats 4000000 in
set_option maxRecDepth 100000 in
theorem t_X12_attacks_157 {p : Program} {l : Launch} {e : Env} {s : State} {m : MethodId} {args : Array Value} {below : List Frame} {meth : Method} {c : Code} {D : va_G} {cy : Nat → ClassId} {X : va_W} {A : Nat → Prop} {S0 : wS} {post : Int32 → wS → Prop} (F : CallFix p m c cX12_attacks 7 s args wz_X12_attacks RX12) (hr : meth.sig.returnType = (some .boolean)) (hlocks : meth.locks = false) (hK : wK D cy s) : ∀ {S : wS} {H : Heap} {locs : List Loc} {ls : Array Slot}, wp_X12_attacks_157 post S → wO D cy X A s.heap S H locs → wX S0 S → lv_has ls 7 [] → W p l e r_X12_attacks s m args below meth c H locs 0 0 (MQ below (va_Qi (fun r S9 => wX S0 S9 ∧ post r S9) (wB D cy X A) A) args s 0 0 A) (F0 m 157 ls []) := by
  obtain ⟨hx, hb, hml, hown, hts⟩ := id F
  have hwg : ∀ w ∈ WG, w.before args s = true := fun w h => hts w (List.mem_cons_of_mem _ h)
  intro S H locs ls hp hW hE hl
  unfold wp_X12_attacks_157 at hp
  refine lv_iconst (v := 0) hx hb dX12_attacks_157 (by decide) ?_
  exact t_X12_attacks_158 F hr hlocks hK hp hW hE (lv_sub hl [] rfl)
set_option maxHeartbeats 4000000 in
set_option maxRecDepth 100000 in
theorem t_X12_attacks_150 {p : Program} {l : Launch} {e : Env} {s : State} {m : MethodId} {args : Array Value} {below : List Frame} {meth : Method} {c : Code} {D : va_G} {cy : Nat → ClassId} {X : va_W} {A : Nat → Prop} {S0 : wS} {post : Int32 → wS → Prop} (F : CallFix p m c cX12_attacks 7 s args wz_X12_attacks RX12) (hr : meth.sig.returnType = (some .boolean)) (hlocks : meth.locks = false) (hK : wK D cy s) : ∀ {S : wS} {H : Heap} {locs : List Loc} {ls : Array Slot} {t0 : Int32} {t1 : Int32}, wp_X12_attacks_150 post S t0 t1 → wO D cy X A s.heap S H locs → wX S0 S → lv_has ls 7 [] → W p l e r_X12_attacks s m args below meth c H locs 0 0 (MQ below (va_Qi (fun r S9 => wX S0 S9 ∧ post r S9) (wB D cy X A) A) args s 0 0 A) (F0 m 150 ls [.int t1, .int t0]) := by
  obtain ⟨hx, hb, hml, hown, hts⟩ := id F
  have hwg : ∀ w ∈ WG, w.before args s = true := fun w h => hts w (List.mem_cons_of_mem _ h)
  intro S H locs ls t0 t1 hp hW hE hl
  unfold wp_X12_attacks_150 at hp
  refine lv_icmp_ne (tgt := 157) hx hb dX12_attacks_150 (by decide) (fun c_1 => ?_) (fun c_1 => ?_)
  · replace hp := hp.1 c_1
    exact t_X12_attacks_157 F hr hlocks hK hp hW hE (lv_sub hl [] rfl)
  · replace hp := hp.2 c_1
    refine lv_iconst (v := 1) hx hb dX12_attacks_153 (by decide) ?_
    refine lv_goto (tgt := 158) hx hb dX12_attacks_154 (by decide) ?_
    exact t_X12_attacks_158 F hr hlocks hK hp hW hE (lv_sub hl [] rfl)
set_option maxHeartbeats 4000000 in
set_option maxRecDepth 100000 in
theorem t_X12_attacks_120 {p : Program} {l : Launch} {e : Env} {s : State} {m : MethodId} {args : Array Value} {below : List Frame} {meth : Method} {c : Code} {D : va_G} {cy : Nat → ClassId} {X : va_W} {A : Nat → Prop} {S0 : wS} {post : Int32 → wS → Prop} (F : CallFix p m c cX12_attacks 7 s args wz_X12_attacks RX12) (hr : meth.sig.returnType = (some .boolean)) (hlocks : meth.locks = false) (hK : wK D cy s) : ∀ {S : wS} {H : Heap} {locs : List Loc} {ls : Array Slot} {t0 : Int32}, wp_X12_attacks_120 post S t0 → wO D cy X A s.heap S H locs → wX S0 S → lv_has ls 7 [] → W p l e r_X12_attacks s m args below meth c H locs 0 0 (MQ below (va_Qi (fun r S9 => wX S0 S9 ∧ post r S9) (wB D cy X A) A) args s 0 0 A) (F0 m 120 ls [.int t0]) := by
  obtain ⟨hx, hb, hml, hown, hts⟩ := id F
  have hwg : ∀ w ∈ WG, w.before args s = true := fun w h => hts w (List.mem_cons_of_mem _ h)
  intro S H locs ls t0 hp hW hE hl
  unfold wp_X12_attacks_120 at hp
  exact w_zret hx hb hr hlocks hK hW hp.1 ⟨hE, hp.2⟩ dX12_attacks_120
set_option maxHeartbeats 4000000 in
set_option maxRecDepth 100000 in
theorem t_X12_attacks_105 {p : Program} {l : Launch} {e : Env} {s : State} {m : MethodId} {args : Array Value} {below : List Frame} {meth : Method} {c : Code} {D : va_G} {cy : Nat → ClassId} {X : va_W} {A : Nat → Prop} {S0 : wS} {post : Int32 → wS → Prop} (F : CallFix p m c cX12_attacks 7 s args wz_X12_attacks RX12) (hr : meth.sig.returnType = (some .boolean)) (hlocks : meth.locks = false) (hK : wK D cy s) : ∀ {S : wS} {H : Heap} {locs : List Loc} {ls : Array Slot} {t0 : Int32}, wp_X12_attacks_105 post S t0 → wO D cy X A s.heap S H locs → wX S0 S → lv_has ls 7 [] → W p l e r_X12_attacks s m args below meth c H locs 0 0 (MQ below (va_Qi (fun r S9 => wX S0 S9 ∧ post r S9) (wB D cy X A) A) args s 0 0 A) (F0 m 105 ls [.int t0]) := by
  obtain ⟨hx, hb, hml, hown, hts⟩ := id F
  have hwg : ∀ w ∈ WG, w.before args s = true := fun w h => hts w (List.mem_cons_of_mem _ h)
  intro S H locs ls t0 hp hW hE hl
  unfold wp_X12_attacks_105 at hp
  exact w_zret hx hb hr hlocks hK hW hp.1 ⟨hE, hp.2⟩ dX12_attacks_105
set_option maxHeartbeats 4000000 in
set_option maxRecDepth 100000 in
theorem t_X12_attacks_104 {p : Program} {l : Launch} {e : Env} {s : State} {m : MethodId} {args : Array Value} {below : List Frame} {meth : Method} {c : Code} {D : va_G} {cy : Nat → ClassId} {X : va_W} {A : Nat → Prop} {S0 : wS} {post : Int32 → wS → Prop} (F : CallFix p m c cX12_attacks 7 s args wz_X12_attacks RX12) (hr : meth.sig.returnType = (some .boolean)) (hlocks : meth.locks = false) (hK : wK D cy s) : ∀ {S : wS} {H : Heap} {locs : List Loc} {ls : Array Slot}, wp_X12_attacks_104 post S → wO D cy X A s.heap S H locs → wX S0 S → lv_has ls 7 [] → W p l e r_X12_attacks s m args below meth c H locs 0 0 (MQ below (va_Qi (fun r S9 => wX S0 S9 ∧ post r S9) (wB D cy X A) A) args s 0 0 A) (F0 m 104 ls []) := by
  obtain ⟨hx, hb, hml, hown, hts⟩ := id F
  have hwg : ∀ w ∈ WG, w.before args s = true := fun w h => hts w (List.mem_cons_of_mem _ h)
  intro S H locs ls hp hW hE hl
  unfold wp_X12_attacks_104 at hp
  refine lv_iconst (v := 0) hx hb dX12_attacks_104 (by decide) ?_
  exact t_X12_attacks_105 F hr hlocks hK hp hW hE (lv_sub hl [] rfl)
set_option maxHeartbeats 4000000 in
set_option maxRecDepth 100000 in
theorem t_X12_attacks_0 {p : Program} {l : Launch} {e : Env} {s : State} {m : MethodId} {args : Array Value} {below : List Frame} {meth : Method} {c : Code} {D : va_G} {cy : Nat → ClassId} {X : va_W} {A : Nat → Prop} {S0 : wS} {post : Int32 → wS → Prop} (F : CallFix p m c cX12_attacks 7 s args wz_X12_attacks RX12) (hr : meth.sig.returnType = (some .boolean)) (hlocks : meth.locks = false) (hK : wK D cy s) : ∀ {S : wS} {H : Heap} {locs : List Loc} {ls : Array Slot} {a0 : Nat} {x1 : Int32} {x2 : Int32} {x3 : Int32}, wp_X12_attacks_0 post S a0 x1 x2 x3 → wO D cy X A s.heap S H locs → wX S0 S → lv_has ls 7 [(0, .ref a0), (1, .int x1), (2, .int x2), (3, .int x3)] → a0 ∈ sL S → sK S a0 = 17 → W p l e r_X12_attacks s m args below meth c H locs 0 0 (MQ below (va_Qi (fun r S9 => wX S0 S9 ∧ post r S9) (wB D cy X A) A) args s 0 0 A) (F0 m 0 ls []) := by
  obtain ⟨hx, hb, hml, hown, hts⟩ := id F
  have hwg : ∀ w ∈ WG, w.before args s = true := fun w h => hts w (List.mem_cons_of_mem _ h)
  intro S H locs ls a0 x1 x2 x3 hp hW hE hl hL_a0 hK_a0
  unfold wp_X12_attacks_0 at hp
  refine lv_aload_n hx hb dX12_attacks_0 rfl (lv_at hl 0 rfl) ?_
  refine lv_iload_n hx hb dX12_attacks_1 rfl (lv_at hl 1 rfl) ?_
  refine lv_iload_n hx hb dX12_attacks_2 rfl (lv_at hl 2 rfl) ?_
  refine w_callI (va_runV (As := [.int x1, .int x2]) (rest := []) F (c_X12_on l hL_a0 hK_a0 hp H.size) (cwV (C := RX12) 2 hts (wg_V wm_RX12_141 wy_X12_on) rfl rfl rfl (by decide +kernel) ⟨Nat.le_of_ble_eq_true rfl, Nat.le_of_ble_eq_true rfl⟩) (w_preV hK hW hL_a0 hK_a0 (by decide) rfl) rfl rfl hl.1 rfl (lv_room (Nat.le_of_ble_eq_true rfl)) dX12_attacks_3 ⟨Nat.le_of_ble_eq_true rfl, Nat.le_of_ble_eq_true rfl⟩) hW (fun r_1 S_2 H locs hp hW => ?_)
  obtain ⟨hX_S_2, hp⟩ := hp
  refine W.widen (k := 0) (n := 0) (Nat.le_refl 0) (Nat.le_refl 0) ?_
  have hE := hE.trans hX_S_2
  have hK_a0 : sK S_2 a0 = 17 := (hX_S_2 a0 hL_a0).2.1.trans hK_a0
  have hL_a0 : a0 ∈ sL S_2 := (hX_S_2 a0 hL_a0).1
  refine lv_istore (lv' := [(4, .int r_1), (0, .ref a0), (1, .int x1), (2, .int x2), (3, .int x3)]) hx hb dX12_attacks_6 hl (by decide) rfl (fun ls hl => ?_)
  refine lv_aload_n hx hb dX12_attacks_8 rfl (lv_at hl 1 rfl) ?_
  refine lv_iload_n hx hb dX12_attacks_9 rfl (lv_at hl 3 rfl) ?_
  refine w_callI (va_runV (As := [.int x2]) (rest := []) F (c_X12_fileOf l hL_a0 hK_a0 hp H.size) (cwV (C := RX12) 1 hts (wg_V wm_RX12_134 wy_X12_fileOf) rfl rfl rfl (by decide +kernel) ⟨Nat.le_of_ble_eq_true rfl, Nat.le_of_ble_eq_true rfl⟩) (w_preV hK hW hL_a0 hK_a0 (by decide) rfl) rfl rfl hl.1 rfl (lv_room (Nat.le_of_ble_eq_true rfl)) dX12_attacks_10 ⟨Nat.le_of_ble_eq_true rfl, Nat.le_of_ble_eq_true rfl⟩) hW (fun r_3 S_4 H locs hp hW => ?_)
  obtain ⟨hX_S_4, hp⟩ := hp
  refine W.widen (k := 0) (n := 0) (Nat.le_refl 0) (Nat.le_refl 0) ?_
  have hE := hE.trans hX_S_4
  have hK_a0 : sK S_4 a0 = 17 := (hX_S_4 a0 hL_a0).2.1.trans hK_a0
  have hL_a0 : a0 ∈ sL S_4 := (hX_S_4 a0 hL_a0).1
  refine lv_aload_n hx hb dX12_attacks_13 rfl (lv_at hl 1 rfl) ?_
  refine lv_iload_n hx hb dX12_attacks_14 rfl (lv_at hl 4 rfl) ?_
  refine w_callI (va_runV (As := [.int x3]) (rest := [.int r_3]) F (c_X12_fileOf l hL_a0 hK_a0 hp H.size) (cwV (C := RX12) 1 hts (wg_V wm_RX12_134 wy_X12_fileOf) rfl rfl rfl (by decide +kernel) ⟨Nat.le_of_ble_eq_true rfl, Nat.le_of_ble_eq_true rfl⟩) (w_preV hK hW hL_a0 hK_a0 (by decide) rfl) rfl rfl hl.1 rfl (lv_room (Nat.le_of_ble_eq_true rfl)) dX12_attacks_15 ⟨Nat.le_of_ble_eq_true rfl, Nat.le_of_ble_eq_true rfl⟩) hW (fun r_5 S_6 H locs hp hW => ?_)
  obtain ⟨hX_S_6, hp⟩ := hp
  refine W.widen (k := 0) (n := 0) (Nat.le_refl 0) (Nat.le_refl 0) ?_
  have hE := hE.trans hX_S_6
  have hK_a0 : sK S_6 a0 = 17 := (hX_S_6 a0 hL_a0).2.1.trans hK_a0
  have hL_a0 : a0 ∈ sL S_6 := (hX_S_6 a0 hL_a0).1
  refine w_callI (va_runS (As := [.int r_3, .int r_5]) (rest := []) F (c_X12_distance l hp H.size) (va_cwS 2 hts (wg_S wm_RX12_145 wy_X12_distance) rfl rfl rfl (by decide +kernel) ⟨Nat.le_of_ble_eq_true rfl, Nat.le_of_ble_eq_true rfl⟩) (w_preS hK hW) rfl rfl hl.1 rfl (lv_room (Nat.le_of_ble_eq_true rfl)) dX12_attacks_18 ⟨Nat.le_of_ble_eq_true rfl, Nat.le_of_ble_eq_true rfl⟩) hW (fun r_7 S_8 H locs hp hW => ?_)
  obtain ⟨hX_S_8, hp⟩ := hp
  refine W.widen (k := 0) (n := 0) (Nat.le_refl 0) (Nat.le_refl 0) ?_
  have hE := hE.trans hX_S_8
  have hK_a0 : sK S_8 a0 = 17 := (hX_S_8 a0 hL_a0).2.1.trans hK_a0
  have hL_a0 : a0 ∈ sL S_8 := (hX_S_8 a0 hL_a0).1
  refine lv_istore (lv' := [(5, .int r_7), (4, .int r_1), (0, .ref a0), (1, .int x1), (2, .int x2), (3, .int x3)]) hx hb dX12_attacks_21 hl (by decide) rfl (fun ls hl => ?_)
  refine lv_aload_n hx hb dX12_attacks_23 rfl (lv_at hl 2 rfl) ?_
  refine lv_iload_n hx hb dX12_attacks_24 rfl (lv_at hl 4 rfl) ?_
  refine w_callI (va_runV (As := [.int x2]) (rest := []) F (c_X12_rankOf l hL_a0 hK_a0 hp H.size) (cwV (C := RX12) 1 hts (wg_V wm_RX12_138 wy_X12_rankOf) rfl rfl rfl (by decide +kernel) ⟨Nat.le_of_ble_eq_true rfl, Nat.le_of_ble_eq_true rfl⟩) (w_preV hK hW hL_a0 hK_a0 (by decide) rfl) rfl rfl hl.1 rfl (lv_room (Nat.le_of_ble_eq_true rfl)) dX12_attacks_25 ⟨Nat.le_of_ble_eq_true rfl, Nat.le_of_ble_eq_true rfl⟩) hW (fun r_9 S_10 H locs hp hW => ?_)
  obtain ⟨hX_S_10, hp⟩ := hp
  refine W.widen (k := 0) (n := 0) (Nat.le_refl 0) (Nat.le_refl 0) ?_
  have hE := hE.trans hX_S_10
  have hK_a0 : sK S_10 a0 = 17 := (hX_S_10 a0 hL_a0).2.1.trans hK_a0
  have hL_a0 : a0 ∈ sL S_10 := (hX_S_10 a0 hL_a0).1
  refine lv_aload_n hx hb dX12_attacks_28 rfl (lv_at hl 2 rfl) ?_
  refine lv_iload_n hx hb dX12_attacks_29 rfl (lv_at hl 5 rfl) ?_
  refine w_callI (va_runV (As := [.int x3]) (rest := [.int r_9]) F (c_X12_rankOf l hL_a0 hK_a0 hp H.size) (cwV (C := RX12) 1 hts (wg_V wm_RX12_138 wy_X12_rankOf) rfl rfl rfl (by decide +kernel) ⟨Nat.le_of_ble_eq_true rfl, Nat.le_of_ble_eq_true rfl⟩) (w_preV hK hW hL_a0 hK_a0 (by decide) rfl) rfl rfl hl.1 rfl (lv_room (Nat.le_of_ble_eq_true rfl)) dX12_attacks_30 ⟨Nat.le_of_ble_eq_true rfl, Nat.le_of_ble_eq_true rfl⟩) hW (fun r_11 S_12 H locs hp hW => ?_)
  obtain ⟨hX_S_12, hp⟩ := hp
  refine W.widen (k := 0) (n := 0) (Nat.le_refl 0) (Nat.le_refl 0) ?_
  have hE := hE.trans hX_S_12
  have hK_a0 : sK S_12 a0 = 17 := (hX_S_12 a0 hL_a0).2.1.trans hK_a0
  have hL_a0 : a0 ∈ sL S_12 := (hX_S_12 a0 hL_a0).1
  refine w_callI (va_runS (As := [.int r_9, .int r_11]) (rest := []) F (c_X12_distance l hp H.size) (va_cwS 2 hts (wg_S wm_RX12_145 wy_X12_distance) rfl rfl rfl (by decide +kernel) ⟨Nat.le_of_ble_eq_true rfl, Nat.le_of_ble_eq_true rfl⟩) (w_preS hK hW) rfl rfl hl.1 rfl (lv_room (Nat.le_of_ble_eq_true rfl)) dX12_attacks_33 ⟨Nat.le_of_ble_eq_true rfl, Nat.le_of_ble_eq_true rfl⟩) hW (fun r_13 S_14 H locs hp hW => ?_)
  obtain ⟨hX_S_14, hp⟩ := hp
  refine W.widen (k := 0) (n := 0) (Nat.le_refl 0) (Nat.le_refl 0) ?_
  have hE := hE.trans hX_S_14
  have hK_a0 : sK S_14 a0 = 17 := (hX_S_14 a0 hL_a0).2.1.trans hK_a0
  have hL_a0 : a0 ∈ sL S_14 := (hX_S_14 a0 hL_a0).1
  refine lv_istore (lv' := [(6, .int r_13), (5, .int r_7), (4, .int r_1), (0, .ref a0), (1, .int x1), (2, .int x2), (3, .int x3)]) hx hb dX12_attacks_36 hl (by decide) rfl (fun ls hl => ?_)
  refine lv_iload hx hb dX12_attacks_38 (lv_at hl 2 rfl) ?_
  refine w_callI (va_runS (As := [.int r_1]) (rest := []) F (c_X12_kindOf l hp H.size) (va_cwS 1 hts (wg_S wm_RX12_148 wy_X12_kindOf) rfl rfl rfl (by decide +kernel) ⟨Nat.le_of_ble_eq_true rfl, Nat.le_of_ble_eq_true rfl⟩) (w_preS hK hW) rfl rfl hl.1 rfl (lv_room (Nat.le_of_ble_eq_true rfl)) dX12_attacks_40 ⟨Nat.le_of_ble_eq_true rfl, Nat.le_of_ble_eq_true rfl⟩) hW (fun r_15 S_16 H locs hp hW => ?_)
  obtain ⟨hX_S_16, hp⟩ := hp
  refine W.widen (k := 0) (n := 0) (Nat.le_refl 0) (Nat.le_refl 0) ?_
  have hE := hE.trans hX_S_16
  have hK_a0 : sK S_16 a0 = 17 := (hX_S_16 a0 hL_a0).2.1.trans hK_a0
  have hL_a0 : a0 ∈ sL S_16 := (hX_S_16 a0 hL_a0).1
  by_cases c_17 : r_15 = 1
  · refine lv_tableIn (tgt := 80) (x := r_15) (off := 37) hx hb dX12_attacks_43 (by rw [c_17]; decide) (by rw [c_17]; decide) (by rw [c_17]; decide) (by decide) ?_
    replace hp := hp.1 c_17
    refine lv_iload hx hb dX12_attacks_80 (lv_at hl 1 rfl) ?_
    refine lv_iconst (v := 1) hx hb dX12_attacks_82 (by decide) ?_
    refine lv_icmp_gt (tgt := 104) hx hb dX12_attacks_83 (by decide) (fun c_18 => ?_) (fun c_18 => ?_)
    · replace hp := hp.1 c_18
      exact t_X12_attacks_104 F hr hlocks hK hp hW hE (lv_sub hl [] rfl)
    · replace hp := hp.2 c_18
      refine lv_iload hx hb dX12_attacks_86 (lv_at hl 0 rfl) ?_
      refine lv_iconst (v := 1) hx hb dX12_attacks_88 (by decide) ?_
      refine lv_icmp_gt (tgt := 104) hx hb dX12_attacks_89 (by decide) (fun c_19 => ?_) (fun c_19 => ?_)
      · replace hp := hp.1 c_19
        exact t_X12_attacks_104 F hr hlocks hK hp hW hE (lv_sub hl [] rfl)
      · replace hp := hp.2 c_19
        refine lv_iload hx hb dX12_attacks_92 (lv_at hl 1 rfl) ?_
        refine lv_iload hx hb dX12_attacks_94 (lv_at hl 0 rfl) ?_
        refine lv_iadd hx hb dX12_attacks_96 ?_
        refine lv_if_le (tgt := 104) hx hb dX12_attacks_97 (by decide) (fun c_20 => ?_) (fun c_20 => ?_)
        · replace hp := hp.1 c_20
          exact t_X12_attacks_104 F hr hlocks hK hp hW hE (lv_sub hl [] rfl)
        · replace hp := hp.2 c_20
          refine lv_iconst (v := 1) hx hb dX12_attacks_100 (by decide) ?_
          refine lv_goto (tgt := 105) hx hb dX12_attacks_101 (by decide) ?_
          exact t_X12_attacks_105 F hr hlocks hK hp hW hE (lv_sub hl [] rfl)
  replace hp := hp.2
  by_cases c_21 : r_15 = 2
  · refine lv_tableIn (tgt := 219) (x := r_15) (off := 176) hx hb dX12_attacks_43 (by rw [c_21]; decide) (by rw [c_21]; decide) (by rw [c_21]; decide) (by decide) ?_
    replace hp := hp.1 c_21
    refine lv_iload hx hb dX12_attacks_219 (lv_at hl 1 rfl) ?_
    refine lv_iload hx hb dX12_attacks_221 (lv_at hl 0 rfl) ?_
    refine lv_imul hx hb dX12_attacks_223 ?_
    refine lv_if_eq (tgt := 234) hx hb dX12_attacks_224 (by decide) (fun c_22 => ?_) (fun c_22 => ?_)
    · replace hp := hp.1 c_22
      exact t_X12_attacks_234 F hr hlocks hK hp hW hE (lv_sub hl [3, 4, 5, 6, 1, 0] rfl) hL_a0 hK_a0
    · replace hp := hp.2 c_22
      refine lv_iload hx hb dX12_attacks_227 (lv_at hl 1 rfl) ?_
      refine lv_iload hx hb dX12_attacks_229 (lv_at hl 0 rfl) ?_
      refine lv_icmp_ne (tgt := 256) hx hb dX12_attacks_231 (by decide) (fun c_23 => ?_) (fun c_23 => ?_)
      · replace hp := hp.1 c_23
        exact t_X12_attacks_256 F hr hlocks hK hp hW hE (lv_sub hl [] rfl)
      · replace hp := hp.2 c_23
        exact t_X12_attacks_234 F hr hlocks hK hp hW hE (lv_sub hl [3, 4, 5, 6, 1, 0] rfl) hL_a0 hK_a0
  replace hp := hp.2
  by_cases c_24 : r_15 = 3
  · refine lv_tableIn (tgt := 159) (x := r_15) (off := 116) hx hb dX12_attacks_43 (by rw [c_24]; decide) (by rw [c_24]; decide) (by rw [c_24]; decide) (by decide) ?_
    replace hp := hp.1 c_24
    refine lv_iload hx hb dX12_attacks_159 (lv_at hl 1 rfl) ?_
    refine lv_iload hx hb dX12_attacks_161 (lv_at hl 0 rfl) ?_
    refine lv_imul hx hb dX12_attacks_163 ?_
    refine lv_if_ne (tgt := 189) hx hb dX12_attacks_164 (by decide) (fun c_25 => ?_) (fun c_25 => ?_)
    · replace hp := hp.1 c_25
      exact t_X12_attacks_189 F hr hlocks hK hp hW hE (lv_sub hl [] rfl)
    · replace hp := hp.2 c_25
      refine lv_iload hx hb dX12_attacks_167 (lv_at hl 1 rfl) ?_
      refine lv_iload hx hb dX12_attacks_169 (lv_at hl 0 rfl) ?_
      refine lv_iadd hx hb dX12_attacks_171 ?_
      refine lv_if_le (tgt := 189) hx hb dX12_attacks_172 (by decide) (fun c_26 => ?_) (fun c_26 => ?_)
      · replace hp := hp.1 c_26
        exact t_X12_attacks_189 F hr hlocks hK hp hW hE (lv_sub hl [] rfl)
      · replace hp := hp.2 c_26
        refine lv_aload_n hx hb dX12_attacks_175 rfl (lv_at hl 3 rfl) ?_
        refine lv_iload_n hx hb dX12_attacks_176 rfl (lv_at hl 4 rfl) ?_
        refine lv_iload_n hx hb dX12_attacks_177 rfl (lv_at hl 5 rfl) ?_
        refine lv_iload_n hx hb dX12_attacks_178 rfl (lv_at hl 6 rfl) ?_
        refine w_callI (va_runV (As := [.int x1, .int x2, .int x3]) (rest := []) F (c_X12_isClear l hL_a0 hK_a0 hp H.size) (cwV (C := RX12) 3 hts (wg_V wm_RX12_151 wy_X12_isClear) rfl rfl rfl (by decide +kernel) ⟨Nat.le_of_ble_eq_true rfl, Nat.le_of_ble_eq_true rfl⟩) (w_preV hK hW hL_a0 hK_a0 (by decide) rfl) rfl rfl hl.1 rfl (lv_room (Nat.le_of_ble_eq_true rfl)) dX12_attacks_179 ⟨Nat.le_of_ble_eq_true rfl, Nat.le_of_ble_eq_true rfl⟩) hW (fun r_27 S_28 H locs hp hW => ?_)
        obtain ⟨hX_S_28, hp⟩ := hp
        refine W.widen (k := 0) (n := 0) (Nat.le_refl 0) (Nat.le_refl 0) ?_
        have hE := hE.trans hX_S_28
        have hK_a0 : sK S_28 a0 = 17 := (hX_S_28 a0 hL_a0).2.1.trans hK_a0
        have hL_a0 : a0 ∈ sL S_28 := (hX_S_28 a0 hL_a0).1
        refine lv_if_eq (tgt := 189) hx hb dX12_attacks_182 (by decide) (fun c_29 => ?_) (fun c_29 => ?_)
        · replace hp := hp.1 c_29
          exact t_X12_attacks_189 F hr hlocks hK hp hW hE (lv_sub hl [] rfl)
        · replace hp := hp.2 c_29
          refine lv_iconst (v := 1) hx hb dX12_attacks_185 (by decide) ?_
          refine lv_goto (tgt := 190) hx hb dX12_attacks_186 (by decide) ?_
          exact t_X12_attacks_190 F hr hlocks hK hp hW hE (lv_sub hl [] rfl)
  replace hp := hp.2
  by_cases c_30 : r_15 = 4
  · refine lv_tableIn (tgt := 191) (x := r_15) (off := 148) hx hb dX12_attacks_43 (by rw [c_30]; decide) (by rw [c_30]; decide) (by rw [c_30]; decide) (by decide) ?_
    replace hp := hp.1 c_30
    refine lv_iload hx hb dX12_attacks_191 (lv_at hl 1 rfl) ?_
    refine lv_iload hx hb dX12_attacks_193 (lv_at hl 0 rfl) ?_
    refine lv_icmp_ne (tgt := 217) hx hb dX12_attacks_195 (by decide) (fun c_31 => ?_) (fun c_31 => ?_)
    · replace hp := hp.1 c_31
      exact t_X12_attacks_217 F hr hlocks hK hp hW hE (lv_sub hl [] rfl)
    · replace hp := hp.2 c_31
      refine lv_iload hx hb dX12_attacks_198 (lv_at hl 1 rfl) ?_
      refine lv_if_le (tgt := 217) hx hb dX12_attacks_200 (by decide) (fun c_32 => ?_) (fun c_32 => ?_)
      · replace hp := hp.1 c_32
        exact t_X12_attacks_217 F hr hlocks hK hp hW hE (lv_sub hl [] rfl)
      · replace hp := hp.2 c_32
        refine lv_aload_n hx hb dX12_attacks_203 rfl (lv_at hl 3 rfl) ?_
        refine lv_iload_n hx hb dX12_attacks_204 rfl (lv_at hl 4 rfl) ?_
        refine lv_iload_n hx hb dX12_attacks_205 rfl (lv_at hl 5 rfl) ?_
        refine lv_iload_n hx hb dX12_attacks_206 rfl (lv_at hl 6 rfl) ?_
        refine w_callI (va_runV (As := [.int x1, .int x2, .int x3]) (rest := []) F (c_X12_isClear l hL_a0 hK_a0 hp H.size) (cwV (C := RX12) 3 hts (wg_V wm_RX12_151 wy_X12_isClear) rfl rfl rfl (by decide +kernel) ⟨Nat.le_of_ble_eq_true rfl, Nat.le_of_ble_eq_true rfl⟩) (w_preV hK hW hL_a0 hK_a0 (by decide) rfl) rfl rfl hl.1 rfl (lv_room (Nat.le_of_ble_eq_true rfl)) dX12_attacks_207 ⟨Nat.le_of_ble_eq_true rfl, Nat.le_of_ble_eq_true rfl⟩) hW (fun r_33 S_34 H locs hp hW => ?_)
        obtain ⟨hX_S_34, hp⟩ := hp
        refine W.widen (k := 0) (n := 0) (Nat.le_refl 0) (Nat.le_refl 0) ?_
        have hE := hE.trans hX_S_34
        have hK_a0 : sK S_34 a0 = 17 := (hX_S_34 a0 hL_a0).2.1.trans hK_a0
        have hL_a0 : a0 ∈ sL S_34 := (hX_S_34 a0 hL_a0).1
        refine lv_if_eq (tgt := 217) hx hb dX12_attacks_210 (by decide) (fun c_35 => ?_) (fun c_35 => ?_)
        · replace hp := hp.1 c_35
          exact t_X12_attacks_217 F hr hlocks hK hp hW hE (lv_sub hl [] rfl)
        · replace hp := hp.2 c_35
          refine lv_iconst (v := 1) hx hb dX12_attacks_213 (by decide) ?_
          refine lv_goto (tgt := 218) hx hb dX12_attacks_214 (by decide) ?_
          exact t_X12_attacks_218 F hr hlocks hK hp hW hE (lv_sub hl [] rfl)
  replace hp := hp.2
  by_cases c_36 : r_15 = 5
  · refine lv_tableIn (tgt := 106) (x := r_15) (off := 63) hx hb dX12_attacks_43 (by rw [c_36]; decide) (by rw [c_36]; decide) (by rw [c_36]; decide) (by decide) ?_
    replace hp := hp.1 c_36
    refine lv_iload hx hb dX12_attacks_106 (lv_at hl 1 rfl) ?_
    refine lv_iload hx hb dX12_attacks_108 (lv_at hl 0 rfl) ?_
    refine lv_imul hx hb dX12_attacks_110 ?_
    refine lv_iconst (v := 2) hx hb dX12_attacks_111 (by decide) ?_
    refine lv_icmp_ne (tgt := 119) hx hb dX12_attacks_112 (by decide) (fun c_37 => ?_) (fun c_37 => ?_)
    · replace hp := hp.1 c_37
      refine lv_iconst (v := 0) hx hb dX12_attacks_119 (by decide) ?_
      exact t_X12_attacks_120 F hr hlocks hK hp hW hE (lv_sub hl [] rfl)
    · replace hp := hp.2 c_37
      refine lv_iconst (v := 1) hx hb dX12_attacks_115 (by decide) ?_
      refine lv_goto (tgt := 120) hx hb dX12_attacks_116 (by decide) ?_
      exact t_X12_attacks_120 F hr hlocks hK hp hW hE (lv_sub hl [] rfl)
  replace hp := hp.2
  by_cases c_38 : r_15 = 6
  · refine lv_tableIn (tgt := 121) (x := r_15) (off := 78) hx hb dX12_attacks_43 (by rw [c_38]; decide) (by rw [c_38]; decide) (by rw [c_38]; decide) (by decide) ?_
    replace hp := hp.1 c_38
    refine lv_iload hx hb dX12_attacks_121 (lv_at hl 1 rfl) ?_
    refine lv_iconst (v := 1) hx hb dX12_attacks_123 (by decide) ?_
    refine lv_icmp_ne (tgt := 157) hx hb dX12_attacks_124 (by decide) (fun c_39 => ?_) (fun c_39 => ?_)
    · replace hp := hp.1 c_39
      exact t_X12_attacks_157 F hr hlocks hK hp hW hE (lv_sub hl [] rfl)
    · replace hp := hp.2 c_39
      refine lv_aload_n hx hb dX12_attacks_127 rfl (lv_at hl 3 rfl) ?_
      refine lv_iload_n hx hb dX12_attacks_128 rfl (lv_at hl 6 rfl) ?_
      refine w_callI (va_runV (As := [.int x3]) (rest := []) F (c_X12_rankOf l hL_a0 hK_a0 hp H.size) (cwV (C := RX12) 1 hts (wg_V wm_RX12_138 wy_X12_rankOf) rfl rfl rfl (by decide +kernel) ⟨Nat.le_of_ble_eq_true rfl, Nat.le_of_ble_eq_true rfl⟩) (w_preV hK hW hL_a0 hK_a0 (by decide) rfl) rfl rfl hl.1 rfl (lv_room (Nat.le_of_ble_eq_true rfl)) dX12_attacks_129 ⟨Nat.le_of_ble_eq_true rfl, Nat.le_of_ble_eq_true rfl⟩) hW (fun r_40 S_41 H locs hp hW => ?_)
      obtain ⟨hX_S_41, hp⟩ := hp
      refine W.widen (k := 0) (n := 0) (Nat.le_refl 0) (Nat.le_refl 0) ?_
      have hE := hE.trans hX_S_41
      have hK_a0 : sK S_41 a0 = 17 := (hX_S_41 a0 hL_a0).2.1.trans hK_a0
      have hL_a0 : a0 ∈ sL S_41 := (hX_S_41 a0 hL_a0).1
      refine lv_aload_n hx hb dX12_attacks_132 rfl (lv_at hl 3 rfl) ?_
      refine lv_iload_n hx hb dX12_attacks_133 rfl (lv_at hl 5 rfl) ?_
      refine w_callI (va_runV (As := [.int x2]) (rest := [.int r_40]) F (c_X12_rankOf l hL_a0 hK_a0 hp H.size) (cwV (C := RX12) 1 hts (wg_V wm_RX12_138 wy_X12_rankOf) rfl rfl rfl (by decide +kernel) ⟨Nat.le_of_ble_eq_true rfl, Nat.le_of_ble_eq_true rfl⟩) (w_preV hK hW hL_a0 hK_a0 (by decide) rfl) rfl rfl hl.1 rfl (lv_room (Nat.le_of_ble_eq_true rfl)) dX12_attacks_134 ⟨Nat.le_of_ble_eq_true rfl, Nat.le_of_ble_eq_true rfl⟩) hW (fun r_42 S_43 H locs hp hW => ?_)
      obtain ⟨hX_S_43, hp⟩ := hp
      refine W.widen (k := 0) (n := 0) (Nat.le_refl 0) (Nat.le_refl 0) ?_
      have hE := hE.trans hX_S_43
      have hK_a0 : sK S_43 a0 = 17 := (hX_S_43 a0 hL_a0).2.1.trans hK_a0
      have hL_a0 : a0 ∈ sL S_43 := (hX_S_43 a0 hL_a0).1
      refine lv_isub hx hb dX12_attacks_137 ?_
      refine lv_iload hx hb dX12_attacks_138 (lv_at hl 2 rfl) ?_
      refine lv_bipush (v := 6) hx hb dX12_attacks_140 (by decide) ?_
      refine lv_icmp_ne (tgt := 149) hx hb dX12_attacks_142 (by decide) (fun c_44 => ?_) (fun c_44 => ?_)
      · replace hp := hp.1 c_44
        refine lv_iconst (v := (-1)) hx hb dX12_attacks_149 (by decide) ?_
        exact t_X12_attacks_150 F hr hlocks hK hp hW hE (lv_sub hl [] rfl)
      · replace hp := hp.2 c_44
        refine lv_iconst (v := 1) hx hb dX12_attacks_145 (by decide) ?_
        refine lv_goto (tgt := 150) hx hb dX12_attacks_146 (by decide) ?_
        exact t_X12_attacks_150 F hr hlocks hK hp hW hE (lv_sub hl [] rfl)
  replace hp := hp.2
  replace hp := hp c_17 c_21 c_24 c_30 c_36 c_38
  refine lv_tableOut (tgt := 258) hx hb dX12_attacks_43 (w_out (lo := 1) (hi := 6) (by decide) (by decide) (fun v h1 h2 => by have h3 : v = 1 ∨ v = 2 ∨ v = 3 ∨ v = 4 ∨ v = 5 ∨ v = 6 := (by omega); rcases h3 with rfl | rfl | rfl | rfl | rfl | rfl <;> (intro q; first | exact c_17 q | exact c_21 q | exact c_24 q | exact c_30 q | exact c_36 q | exact c_38 q))) (by decide) ?_
  refine lv_iconst (v := 0) hx hb dX12_attacks_258 (by decide) ?_
  exact w_zret hx hb hr hlocks hK hW hp.1 ⟨hE, hp.2⟩ dX12_attacks_259
set_option maxHeartbeats 4000000 in
set_option maxRecDepth 100000 in
theorem c_X12_attacks (l : Launch) {D : va_G} {cy : Nat → ClassId} {X : va_W} {S0 : wS} {post : Int32 → wS → Prop} {a0 : Nat} {x1 : Int32} {x2 : Int32} {x3 : Int32} (hL_a0 : a0 ∈ sL S0) (hK_a0 : sK S0 a0 = 17) (hp : wp_X12_attacks post S0 a0 x1 x2 x3) : mI D cy X l yX12_attacks wz_X12_attacks r_X12_attacks [.ref a0, .int x1, .int x2, .int x3] S0 (fun r S9 => wX S0 S9 ∧ post r S9) := by
  intro sz
  refine Met.ofW (cc := cX12_attacks) (maxL := 7) (ret := (some .boolean)) (by decide) rfl ?_
  intro p e s m args below meth c s₁ B hml hv
  obtain ⟨rfl, hsz, hP, hK, hD0⟩ := hv
  have hts := atoms_spec (ws := wz_X12_attacks) B.pre
  have hown : s.vm.findClass RX12 = some m.cls := findClass_of_methodNamed B.named
  subst hsz
  have hD := hD0.self (sz := s.heap.size)
  have F : CallFix p m c cX12_attacks 7 s _ wz_X12_attacks RX12 := ⟨B.exec, B.bytes, hml, hown, hts⟩
  have hr := B.returns
  have hlocks := B.notSynchronized
  generalize hAe : va_A (wL cy X S0) s.heap.size = A at hD ⊢
  have hA : ∀ q, s.heap.size ≤ q → A q := fun q h => by rw [← hAe]; exact Or.inr h
  have hW : wO D cy X A s.heap S0 s.heap [] := ⟨hP, hD, va_S.rf, hA⟩
  have hl := lv_entry ([.ref a0, .int x1, .int x2, .int x3]) (n := 7) (Nat.le_of_ble_eq_true rfl)
  rw [lg_entry_eq]
  generalize (lg_sl ([.ref a0, .int x1, .int x2, .int x3]) ++ List.replicate (7 - (lg_sl ([.ref a0, .int x1, .int x2, .int x3])).length) Slot.unset).toArray = ls at hl ⊢
  have hl : lv_has ls 7 [(0, .ref a0), (1, .int x1), (2, .int x2), (3, .int x3)] := hl
  unfold wp_X12_attacks at hp
  exact t_X12_attacks_0 F hr hlocks hK hp hW wX.rf (lv_sub hl [0, 1, 2, 3] rfl) hL_a0 hK_a0
def wp_X12_isOf_24 (post : Int32 → wS → Prop)  (S : wS) (t0 : Int32) : Prop :=
narrow .boolean (.int t0) = .int t0 ∧ post t0 S
def wp_X12_isOf_23 (post : Int32 → wS → Prop)  (S : wS) : Prop :=
wp_X12_isOf_24 post S 0
def wp_X12_isOf_15 (post : Int32 → wS → Prop)  (S : wS) (x1 : Int32) (t0 : Int32) : Prop :=
((¬ t0 = x1 → wp_X12_isOf_23 post S) ∧
 (t0 = x1 → wp_X12_isOf_24 post S 1))
def wp_X12_isOf_0 (post : Int32 → wS → Prop)  (S : wS) (x0 : Int32) (x1 : Int32) : Prop :=
((x0 = 0 → wp_X12_isOf_23 post S) ∧
 (¬ x0 = 0 → ((6 < x0 → wp_X12_isOf_15 post S x1 0) ∧
 (¬ 6 < x0 → wp_X12_isOf_15 post S x1 1))))
abbrev r_X12_isOf : Room := { frames := 0, cells := 0, slots := 0, locals := 0 }
def wp_X12_isOf (post : Int32 → wS → Prop) (S : wS) (x0 : Int32) (x1 : Int32) : Prop := wp_X12_isOf_0 post S x0 x1
set_option maxHeartbeats 4000000 in
set_option maxRecDepth 100000 in
theorem t_X12_isOf_24 {p : Program} {l : Launch} {e : Env} {s : State} {m : MethodId} {args : Array Value} {below : List Frame} {meth : Method} {c : Code} {D : va_G} {cy : Nat → ClassId} {X : va_W} {A : Nat → Prop} {S0 : wS} {post : Int32 → wS → Prop} (F : CallFix p m c cX12_isOf 2 s args wz_X12_isOf RX12) (hr : meth.sig.returnType = (some .boolean)) (hlocks : meth.locks = false) (hK : wK D cy s) : ∀ {S : wS} {H : Heap} {locs : List Loc} {ls : Array Slot} {t0 : Int32}, wp_X12_isOf_24 post S t0 → wO D cy X A s.heap S H locs → wX S0 S → lv_has ls 2 [] → W p l e r_X12_isOf s m args below meth c H locs 0 0 (MQ below (va_Qi (fun r S9 => wX S0 S9 ∧ post r S9) (wB D cy X A) A) args s 0 0 A) (F0 m 24 ls [.int t0]) := by
  obtain ⟨hx, hb, hml, hown, hts⟩ := id F
  have hwg : ∀ w ∈ WG, w.before args s = true := fun w h => hts w (List.mem_cons_of_mem _ h)
  intro S H locs ls t0 hp hW hE hl
  unfold wp_X12_isOf_24 at hp
  exact w_zret hx hb hr hlocks hK hW hp.1 ⟨hE, hp.2⟩ dX12_isOf_24
set_option maxHeartbeats 4000000 in
set_option maxRecDepth 100000 in
theorem t_X12_isOf_23 {p : Program} {l : Launch} {e : Env} {s : State} {m : MethodId} {args : Array Value} {below : List Frame} {meth : Method} {c : Code} {D : va_G} {cy : Nat → ClassId} {X : va_W} {A : Nat → Prop} {S0 : wS} {post : Int32 → wS → Prop} (F : CallFix p m c cX12_isOf 2 s args wz_X12_isOf RX12) (hr : meth.sig.returnType = (some .boolean)) (hlocks : meth.locks = false) (hK : wK D cy s) : ∀ {S : wS} {H : Heap} {locs : List Loc} {ls : Array Slot}, wp_X12_isOf_23 post S → wO D cy X A s.heap S H locs → wX S0 S → lv_has ls 2 [] → W p l e r_X12_isOf s m args below meth c H locs 0 0 (MQ below (va_Qi (fun r S9 => wX S0 S9 ∧ post r S9) (wB D cy X A) A) args s 0 0 A) (F0 m 23 ls []) := by
  obtain ⟨hx, hb, hml, hown, hts⟩ := id F
  have hwg : ∀ w ∈ WG, w.before args s = true := fun w h => hts w (List.mem_cons_of_mem _ h)
  intro S H locs ls hp hW hE hl
  unfold wp_X12_isOf_23 at hp
  refine lv_iconst (v := 0) hx hb dX12_isOf_23 (by decide) ?_
  exact t_X12_isOf_24 F hr hlocks hK hp hW hE (lv_sub hl [] rfl)
set_option maxHeartbeats 4000000 in
set_option maxRecDepth 100000 in
theorem t_X12_isOf_15 {p : Program} {l : Launch} {e : Env} {s : State} {m : MethodId} {args : Array Value} {below : List Frame} {meth : Method} {c : Code} {D : va_G} {cy : Nat → ClassId} {X : va_W} {A : Nat → Prop} {S0 : wS} {post : Int32 → wS → Prop} (F : CallFix p m c cX12_isOf 2 s args wz_X12_isOf RX12) (hr : meth.sig.returnType = (some .boolean)) (hlocks : meth.locks = false) (hK : wK D cy s) : ∀ {S : wS} {H : Heap} {locs : List Loc} {ls : Array Slot} {x1 : Int32} {t0 : Int32}, wp_X12_isOf_15 post S x1 t0 → wO D cy X A s.heap S H locs → wX S0 S → lv_has ls 2 [(1, .int x1)] → W p l e r_X12_isOf s m args below meth c H locs 0 0 (MQ below (va_Qi (fun r S9 => wX S0 S9 ∧ post r S9) (wB D cy X A) A) args s 0 0 A) (F0 m 15 ls [.int t0]) := by
  obtain ⟨hx, hb, hml, hown, hts⟩ := id F
  have hwg : ∀ w ∈ WG, w.before args s = true := fun w h => hts w (List.mem_cons_of_mem _ h)
  intro S H locs ls x1 t0 hp hW hE hl
  unfold wp_X12_isOf_15 at hp
  refine lv_iload_n hx hb dX12_isOf_15 rfl (lv_at hl 0 rfl) ?_
  refine lv_icmp_ne (tgt := 23) hx hb dX12_isOf_16 (by decide) (fun c_1 => ?_) (fun c_1 => ?_)
  · replace hp := hp.1 c_1
    exact t_X12_isOf_23 F hr hlocks hK hp hW hE (lv_sub hl [] rfl)
  · replace hp := hp.2 c_1
    refine lv_iconst (v := 1) hx hb dX12_isOf_19 (by decide) ?_
    refine lv_goto (tgt := 24) hx hb dX12_isOf_20 (by decide) ?_
    exact t_X12_isOf_24 F hr hlocks hK hp hW hE (lv_sub hl [] rfl)
set_option maxHeartbeats 4000000 in
set_option maxRecDepth 100000 in
theorem t_X12_isOf_0 {p : Program} {l : Launch} {e : Env} {s : State} {m : MethodId} {args : Array Value} {below : List Frame} {meth : Method} {c : Code} {D : va_G} {cy : Nat → ClassId} {X : va_W} {A : Nat → Prop} {S0 : wS} {post : Int32 → wS → Prop} (F : CallFix p m c cX12_isOf 2 s args wz_X12_isOf RX12) (hr : meth.sig.returnType = (some .boolean)) (hlocks : meth.locks = false) (hK : wK D cy s) : ∀ {S : wS} {H : Heap} {locs : List Loc} {ls : Array Slot} {x0 : Int32} {x1 : Int32}, wp_X12_isOf_0 post S x0 x1 → wO D cy X A s.heap S H locs → wX S0 S → lv_has ls 2 [(0, .int x0), (1, .int x1)] → W p l e r_X12_isOf s m args below meth c H locs 0 0 (MQ below (va_Qi (fun r S9 => wX S0 S9 ∧ post r S9) (wB D cy X A) A) args s 0 0 A) (F0 m 0 ls []) := by
  obtain ⟨hx, hb, hml, hown, hts⟩ := id F
  have hwg : ∀ w ∈ WG, w.before args s = true := fun w h => hts w (List.mem_cons_of_mem _ h)
  intro S H locs ls x0 x1 hp hW hE hl
  unfold wp_X12_isOf_0 at hp
  refine lv_iload_n hx hb dX12_isOf_0 rfl (lv_at hl 0 rfl) ?_
  refine lv_if_eq (tgt := 23) hx hb dX12_isOf_1 (by decide) (fun c_1 => ?_) (fun c_1 => ?_)
  · replace hp := hp.1 c_1
    exact t_X12_isOf_23 F hr hlocks hK hp hW hE (lv_sub hl [] rfl)
  · replace hp := hp.2 c_1
    refine lv_iload_n hx hb dX12_isOf_4 rfl (lv_at hl 0 rfl) ?_
    refine lv_bipush (v := 6) hx hb dX12_isOf_5 (by decide) ?_
    refine lv_icmp_gt (tgt := 14) hx hb dX12_isOf_7 (by decide) (fun c_2 => ?_) (fun c_2 => ?_)
    · replace hp := hp.1 c_2
      refine lv_iconst (v := 0) hx hb dX12_isOf_14 (by decide) ?_
      exact t_X12_isOf_15 F hr hlocks hK hp hW hE (lv_sub hl [1] rfl)
    · replace hp := hp.2 c_2
      refine lv_iconst (v := 1) hx hb dX12_isOf_10 (by decide) ?_
      refine lv_goto (tgt := 15) hx hb dX12_isOf_11 (by decide) ?_
      exact t_X12_isOf_15 F hr hlocks hK hp hW hE (lv_sub hl [1] rfl)
set_option maxHeartbeats 4000000 in
set_option maxRecDepth 100000 in
theorem c_X12_isOf (l : Launch) {D : va_G} {cy : Nat → ClassId} {X : va_W} {S0 : wS} {post : Int32 → wS → Prop} {x0 : Int32} {x1 : Int32} (hp : wp_X12_isOf post S0 x0 x1) : mI D cy X l yX12_isOf wz_X12_isOf r_X12_isOf [.int x0, .int x1] S0 (fun r S9 => wX S0 S9 ∧ post r S9) := by
  intro sz
  refine Met.ofW (cc := cX12_isOf) (maxL := 2) (ret := (some .boolean)) (by decide) rfl ?_
  intro p e s m args below meth c s₁ B hml hv
  obtain ⟨rfl, hsz, hP, hK, hD0⟩ := hv
  have hts := atoms_spec (ws := wz_X12_isOf) B.pre
  have hown : s.vm.findClass RX12 = some m.cls := findClass_of_methodNamed B.named
  subst hsz
  have hD := hD0.self (sz := s.heap.size)
  have F : CallFix p m c cX12_isOf 2 s _ wz_X12_isOf RX12 := ⟨B.exec, B.bytes, hml, hown, hts⟩
  have hr := B.returns
  have hlocks := B.notSynchronized
  generalize hAe : va_A (wL cy X S0) s.heap.size = A at hD ⊢
  have hA : ∀ q, s.heap.size ≤ q → A q := fun q h => by rw [← hAe]; exact Or.inr h
  have hW : wO D cy X A s.heap S0 s.heap [] := ⟨hP, hD, va_S.rf, hA⟩
  have hl := lv_entry ([.int x0, .int x1]) (n := 2) (Nat.le_of_ble_eq_true rfl)
  rw [lg_entry_eq]
  generalize (lg_sl ([.int x0, .int x1]) ++ List.replicate (2 - (lg_sl ([.int x0, .int x1])).length) Slot.unset).toArray = ls at hl ⊢
  have hl : lv_has ls 2 [(0, .int x0), (1, .int x1)] := hl
  unfold wp_X12_isOf at hp
  exact t_X12_isOf_0 F hr hlocks hK hp hW wX.rf (lv_sub hl [0, 1] rfl)
def wp_X12_squares_0 (post : Int32 → wS → Prop)  (S : wS) (a0 : Nat) : Prop :=
post ((sI S a0 1) * (sI S a0 2)) S
abbrev r_X12_squares : Room := { frames := 0, cells := 0, slots := 0, locals := 0 }
def wp_X12_squares (post : Int32 → wS → Prop) (S : wS) (a0 : Nat) : Prop := wp_X12_squares_0 post S a0
set_option maxHeartbeats 4000000 in
set_option maxRecDepth 100000 in
theorem t_X12_squares_0 {p : Program} {l : Launch} {e : Env} {s : State} {m : MethodId} {args : Array Value} {below : List Frame} {meth : Method} {c : Code} {D : va_G} {cy : Nat → ClassId} {X : va_W} {A : Nat → Prop} {S0 : wS} {post : Int32 → wS → Prop} (F : CallFix p m c cX12_squares 1 s args wz_X12_squares RX12) (hr : meth.sig.returnType = (some .int)) (hlocks : meth.locks = false) (hK : wK D cy s) : ∀ {S : wS} {H : Heap} {locs : List Loc} {ls : Array Slot} {a0 : Nat}, wp_X12_squares_0 post S a0 → wO D cy X A s.heap S H locs → wX S0 S → lv_has ls 1 [(0, .ref a0)] → a0 ∈ sL S → sK S a0 = 17 → W p l e r_X12_squares s m args below meth c H locs 0 0 (MQ below (va_Qi (fun r S9 => wX S0 S9 ∧ post r S9) (wB D cy X A) A) args s 0 0 A) (F0 m 0 ls []) := by
  obtain ⟨hx, hb, hml, hown, hts⟩ := id F
  have hwg : ∀ w ∈ WG, w.before args s = true := fun w h => hts w (List.mem_cons_of_mem _ h)
  have i_17 : ∀ w ∈ u_ws RX12 TX12 43, w ∈ wz_X12_squares := fun w h => List.mem_cons_of_mem _ (wu_17 w h)
  have k_13 := hwg _ wf_RX12_13
  have k_9 := hwg _ wf_RX12_9
  intro S H locs ls a0 hp hW hE hl hL_a0 hK_a0
  unfold wp_X12_squares_0 at hp
  refine lv_aload_n hx hb dX12_squares_0 rfl (lv_at hl 0 rfl) ?_
  refine w_get (k := 17) (f := 1) (T := TX12) (v := .int (sI S a0 1)) F hK hW hL_a0 hK_a0 (by decide) rfl rfl (by decide) i_17 k_9 rfl dX12_squares_1 ?_
  refine lv_aload_n hx hb dX12_squares_4 rfl (lv_at hl 0 rfl) ?_
  refine w_get (k := 17) (f := 2) (T := TX12) (v := .int (sI S a0 2)) F hK hW hL_a0 hK_a0 (by decide) rfl rfl (by decide) i_17 k_13 rfl dX12_squares_5 ?_
  refine lv_imul hx hb dX12_squares_8 ?_
  exact w_iret hx hb hr hlocks hK hW ⟨hE, hp⟩ dX12_squares_9
set_option maxHeartbeats 4000000 in
set_option maxRecDepth 100000 in
theorem c_X12_squares (l : Launch) {D : va_G} {cy : Nat → ClassId} {X : va_W} {S0 : wS} {post : Int32 → wS → Prop} {a0 : Nat} (hL_a0 : a0 ∈ sL S0) (hK_a0 : sK S0 a0 = 17) (hp : wp_X12_squares post S0 a0) : mI D cy X l yX12_squares wz_X12_squares r_X12_squares [.ref a0] S0 (fun r S9 => wX S0 S9 ∧ post r S9) := by
  intro sz
  refine Met.ofW (cc := cX12_squares) (maxL := 1) (ret := (some .int)) (by decide) rfl ?_
  intro p e s m args below meth c s₁ B hml hv
  obtain ⟨rfl, hsz, hP, hK, hD0⟩ := hv
  have hts := atoms_spec (ws := wz_X12_squares) B.pre
  have hown : s.vm.findClass RX12 = some m.cls := findClass_of_methodNamed B.named
  subst hsz
  have hD := hD0.self (sz := s.heap.size)
  have F : CallFix p m c cX12_squares 1 s _ wz_X12_squares RX12 := ⟨B.exec, B.bytes, hml, hown, hts⟩
  have hr := B.returns
  have hlocks := B.notSynchronized
  generalize hAe : va_A (wL cy X S0) s.heap.size = A at hD ⊢
  have hA : ∀ q, s.heap.size ≤ q → A q := fun q h => by rw [← hAe]; exact Or.inr h
  have hW : wO D cy X A s.heap S0 s.heap [] := ⟨hP, hD, va_S.rf, hA⟩
  have hl := lv_entry ([.ref a0]) (n := 1) (Nat.le_of_ble_eq_true rfl)
  rw [lg_entry_eq]
  generalize (lg_sl ([.ref a0]) ++ List.replicate (1 - (lg_sl ([.ref a0])).length) Slot.unset).toArray = ls at hl ⊢
  have hl : lv_has ls 1 [(0, .ref a0)] := hl
  unfold wp_X12_squares at hp
  exact t_X12_squares_0 F hr hlocks hK hp hW wX.rf (lv_sub hl [0] rfl) hL_a0 hK_a0
def wp_X12_isAttackedBy_39 (post : Int32 → wS → Prop) (k_3 : wS → Nat → Int32 → Int32 → Int32 → Int32 → Prop) (S : wS) (a0 : Nat) (x1 : Int32) (x2 : Int32) (x3 : Int32) (x4 : Int32) : Prop :=
∀ x_1 : Int32, x_1 = x4 + 1 →
k_3 S a0 x1 x2 x3 x_1
def wp_X12_isAttackedBy_3 (post : Int32 → wS → Prop)  : Nat → wS → Nat → Int32 → Int32 → Int32 → Int32 → Prop
  | 0, _, _, _, _, _, _ => False
  | n + 1, S, a0, x1, x2, x3, x4 =>
    wp_X12_squares (fun r_1 S_2 => 
    ((r_1 ≤ x4 → narrow .boolean (.int 0) = .int 0 ∧ post 0 S_2) ∧
     (¬ r_1 ≤ x4 → wp_X12_on (fun r_4 S_5 => 
    wp_X12_isOf (fun r_6 S_7 => 
    ((r_6 = 0 → wp_X12_isAttackedBy_39 post (wp_X12_isAttackedBy_3 post n) S_7 a0 x1 x2 x3 x4) ∧
     (¬ r_6 = 0 → wp_X12_attacks (fun r_9 S_10 => 
    ((r_9 = 0 → wp_X12_isAttackedBy_39 post (wp_X12_isAttackedBy_3 post n) S_10 a0 x1 x2 x3 x4) ∧
     (¬ r_9 = 0 → narrow .boolean (.int 1) = .int 1 ∧ post 1 S_10))) S_7 a0 x1 x4 x2))) S_5 r_4 x3) S_2 a0 x1 x4))) S a0
def wp_X12_isAttackedBy_0 (post : Int32 → wS → Prop)  (S : wS) (a0 : Nat) (x1 : Int32) (x2 : Int32) (x3 : Int32) : Prop :=
∃ n_1 : Nat, wp_X12_isAttackedBy_3 post n_1 S a0 x1 x2 x3 0
abbrev r_X12_isAttackedBy : Room := { frames := 3, cells := 0, slots := 0, locals := 75 }
def wp_X12_isAttackedBy (post : Int32 → wS → Prop) (S : wS) (a0 : Nat) (x1 : Int32) (x2 : Int32) (x3 : Int32) : Prop := wp_X12_isAttackedBy_0 post S a0 x1 x2 x3
set_option maxHeartbeats 4000000 in
set_option maxRecDepth 100000 in
theorem t_X12_isAttackedBy_39 {p : Program} {l : Launch} {e : Env} {s : State} {m : MethodId} {args : Array Value} {below : List Frame} {meth : Method} {c : Code} {D : va_G} {cy : Nat → ClassId} {X : va_W} {A : Nat → Prop} {S0 : wS} {post : Int32 → wS → Prop} (F : CallFix p m c cX12_isAttackedBy 5 s args wz_X12_isAttackedBy RX12) (hr : meth.sig.returnType = (some .boolean)) (hlocks : meth.locks = false) (hK : wK D cy s) {k_3 : wS → Nat → Int32 → Int32 → Int32 → Int32 → Prop} (q_3 : ∀ {S : wS} {H : Heap} {locs : List Loc} {ls : Array Slot} {a0 : Nat} {x1 : Int32} {x2 : Int32} {x3 : Int32} {x4 : Int32}, k_3 S a0 x1 x2 x3 x4 → wO D cy X A s.heap S H locs → wX S0 S → lv_has ls 5 [(0, .ref a0), (1, .int x1), (2, .int x2), (3, .int x3), (4, .int x4)] → a0 ∈ sL S → sK S a0 = 17 → W p l e r_X12_isAttackedBy s m args below meth c H locs 0 0 (MQ below (va_Qi (fun r S9 => wX S0 S9 ∧ post r S9) (wB D cy X A) A) args s 0 0 A) (F0 m 3 ls [])) : ∀ {S : wS} {H : Heap} {locs : List Loc} {ls : Array Slot} {a0 : Nat} {x1 : Int32} {x2 : Int32} {x3 : Int32} {x4 : Int32}, wp_X12_isAttackedBy_39 post k_3 S a0 x1 x2 x3 x4 → wO D cy X A s.heap S H locs → wX S0 S → lv_has ls 5 [(0, .ref a0), (1, .int x1), (2, .int x2), (3, .int x3), (4, .int x4)] → a0 ∈ sL S → sK S a0 = 17 → W p l e r_X12_isAttackedBy s m args below meth c H locs 0 0 (MQ below (va_Qi (fun r S9 => wX S0 S9 ∧ post r S9) (wB D cy X A) A) args s 0 0 A) (F0 m 39 ls []) := by
  obtain ⟨hx, hb, hml, hown, hts⟩ := id F
  have hwg : ∀ w ∈ WG, w.before args s = true := fun w h => hts w (List.mem_cons_of_mem _ h)
  intro S H locs ls a0 x1 x2 x3 x4 hp hW hE hl hL_a0 hK_a0
  unfold wp_X12_isAttackedBy_39 at hp
  obtain ⟨x_1, ex_1⟩ : ∃ z : Int32, z = x4 + 1 := ⟨_, rfl⟩
  replace hp := hp x_1 ex_1
  refine lv_iinc (v := x_1) (lv' := [(4, .int x_1), (0, .ref a0), (1, .int x1), (2, .int x2), (3, .int x3)]) hx hb dX12_isAttackedBy_39 hl (k := 4) rfl (by rw [ex_1]; rfl) (by decide) rfl (fun ls hl => ?_)
  refine lv_goto (tgt := 3) hx hb dX12_isAttackedBy_42 (by decide) ?_
  exact q_3 hp hW hE (lv_sub hl [1, 2, 3, 4, 0] rfl) hL_a0 hK_a0
set_option maxHeartbeats 4000000 in
set_option maxRecDepth 100000 in
theorem t_X12_isAttackedBy_3 {p : Program} {l : Launch} {e : Env} {s : State} {m : MethodId} {args : Array Value} {below : List Frame} {meth : Method} {c : Code} {D : va_G} {cy : Nat → ClassId} {X : va_W} {A : Nat → Prop} {S0 : wS} {post : Int32 → wS → Prop} (F : CallFix p m c cX12_isAttackedBy 5 s args wz_X12_isAttackedBy RX12) (hr : meth.sig.returnType = (some .boolean)) (hlocks : meth.locks = false) (hK : wK D cy s) : ∀ (n : Nat) {S : wS} {H : Heap} {locs : List Loc} {ls : Array Slot} {a0 : Nat} {x1 : Int32} {x2 : Int32} {x3 : Int32} {x4 : Int32}, wp_X12_isAttackedBy_3 post n S a0 x1 x2 x3 x4 → wO D cy X A s.heap S H locs → wX S0 S → lv_has ls 5 [(0, .ref a0), (1, .int x1), (2, .int x2), (3, .int x3), (4, .int x4)] → a0 ∈ sL S → sK S a0 = 17 → W p l e r_X12_isAttackedBy s m args below meth c H locs 0 0 (MQ below (va_Qi (fun r S9 => wX S0 S9 ∧ post r S9) (wB D cy X A) A) args s 0 0 A) (F0 m 3 ls []) := by
  obtain ⟨hx, hb, hml, hown, hts⟩ := id F
  have hwg : ∀ w ∈ WG, w.before args s = true := fun w h => hts w (List.mem_cons_of_mem _ h)
  intro n
  induction n with
  | zero =>
    intro S H locs ls a0 x1 x2 x3 x4 hp
    exact hp.elim
  | succ n ih =>
    intro S H locs ls a0 x1 x2 x3 x4 hp hW hE hl hL_a0 hK_a0
    unfold wp_X12_isAttackedBy_3 at hp
    refine lv_iload hx hb dX12_isAttackedBy_3 (lv_at hl 4 rfl) ?_
    refine lv_aload_n hx hb dX12_isAttackedBy_5 rfl (lv_at hl 0 rfl) ?_
    refine w_callI (va_runV (As := []) (rest := [.int x4]) F (c_X12_squares l hL_a0 hK_a0 hp H.size) (cwV (C := RX12) 0 hts (wg_V wm_RX12_113 wy_X12_squares) rfl rfl rfl (by decide +kernel) ⟨Nat.le_of_ble_eq_true rfl, Nat.le_of_ble_eq_true rfl⟩) (w_preV hK hW hL_a0 hK_a0 (by decide) rfl) rfl rfl hl.1 rfl (lv_room (Nat.le_of_ble_eq_true rfl)) dX12_isAttackedBy_6 ⟨Nat.le_of_ble_eq_true rfl, Nat.le_of_ble_eq_true rfl⟩) hW (fun r_1 S_2 H locs hp hW => ?_)
    obtain ⟨hX_S_2, hp⟩ := hp
    refine W.widen (k := 0) (n := 0) (Nat.le_refl 0) (Nat.le_refl 0) ?_
    have hE := hE.trans hX_S_2
    have hK_a0 : sK S_2 a0 = 17 := (hX_S_2 a0 hL_a0).2.1.trans hK_a0
    have hL_a0 : a0 ∈ sL S_2 := (hX_S_2 a0 hL_a0).1
    refine lv_icmp_ge (tgt := 45) hx hb dX12_isAttackedBy_9 (by decide) (fun c_3 => ?_) (fun c_3 => ?_)
    · replace hp := hp.1 c_3
      refine lv_iconst (v := 0) hx hb dX12_isAttackedBy_45 (by decide) ?_
      exact w_zret hx hb hr hlocks hK hW hp.1 ⟨hE, hp.2⟩ dX12_isAttackedBy_46
    · replace hp := hp.2 c_3
      refine lv_aload_n hx hb dX12_isAttackedBy_12 rfl (lv_at hl 0 rfl) ?_
      refine lv_iload_n hx hb dX12_isAttackedBy_13 rfl (lv_at hl 1 rfl) ?_
      refine lv_iload hx hb dX12_isAttackedBy_14 (lv_at hl 4 rfl) ?_
      refine w_callI (va_runV (As := [.int x1, .int x4]) (rest := []) F (c_X12_on l hL_a0 hK_a0 hp H.size) (cwV (C := RX12) 2 hts (wg_V wm_RX12_141 wy_X12_on) rfl rfl rfl (by decide +kernel) ⟨Nat.le_of_ble_eq_true rfl, Nat.le_of_ble_eq_true rfl⟩) (w_preV hK hW hL_a0 hK_a0 (by decide) rfl) rfl rfl hl.1 rfl (lv_room (Nat.le_of_ble_eq_true rfl)) dX12_isAttackedBy_16 ⟨Nat.le_of_ble_eq_true rfl, Nat.le_of_ble_eq_true rfl⟩) hW (fun r_4 S_5 H locs hp hW => ?_)
      obtain ⟨hX_S_5, hp⟩ := hp
      refine W.widen (k := 0) (n := 0) (Nat.le_refl 0) (Nat.le_refl 0) ?_
      have hE := hE.trans hX_S_5
      have hK_a0 : sK S_5 a0 = 17 := (hX_S_5 a0 hL_a0).2.1.trans hK_a0
      have hL_a0 : a0 ∈ sL S_5 := (hX_S_5 a0 hL_a0).1
      refine lv_iload_n hx hb dX12_isAttackedBy_19 rfl (lv_at hl 3 rfl) ?_
      refine w_callI (va_runS (As := [.int r_4, .int x3]) (rest := []) F (c_X12_isOf l hp H.size) (va_cwS 2 hts (wg_S wm_RX12_154 wy_X12_isOf) rfl rfl rfl (by decide +kernel) ⟨Nat.le_of_ble_eq_true rfl, Nat.le_of_ble_eq_true rfl⟩) (w_preS hK hW) rfl rfl hl.1 rfl (lv_room (Nat.le_of_ble_eq_true rfl)) dX12_isAttackedBy_20 ⟨Nat.le_of_ble_eq_true rfl, Nat.le_of_ble_eq_true rfl⟩) hW (fun r_6 S_7 H locs hp hW => ?_)
      obtain ⟨hX_S_7, hp⟩ := hp
      refine W.widen (k := 0) (n := 0) (Nat.le_refl 0) (Nat.le_refl 0) ?_
      have hE := hE.trans hX_S_7
      have hK_a0 : sK S_7 a0 = 17 := (hX_S_7 a0 hL_a0).2.1.trans hK_a0
      have hL_a0 : a0 ∈ sL S_7 := (hX_S_7 a0 hL_a0).1
      refine lv_if_eq (tgt := 39) hx hb dX12_isAttackedBy_23 (by decide) (fun c_8 => ?_) (fun c_8 => ?_)
      · replace hp := hp.1 c_8
        exact t_X12_isAttackedBy_39 F hr hlocks hK ih hp hW hE (lv_sub hl [0, 1, 2, 3, 4] rfl) hL_a0 hK_a0
      · replace hp := hp.2 c_8
        refine lv_aload_n hx hb dX12_isAttackedBy_26 rfl (lv_at hl 0 rfl) ?_
        refine lv_iload_n hx hb dX12_isAttackedBy_27 rfl (lv_at hl 1 rfl) ?_
        refine lv_iload hx hb dX12_isAttackedBy_28 (lv_at hl 4 rfl) ?_
        refine lv_iload_n hx hb dX12_isAttackedBy_30 rfl (lv_at hl 2 rfl) ?_
        refine w_callI (va_runV (As := [.int x1, .int x4, .int x2]) (rest := []) F (c_X12_attacks l hL_a0 hK_a0 hp H.size) (cwV (C := RX12) 3 hts (wg_V wm_RX12_158 wy_X12_attacks) rfl rfl rfl (by decide +kernel) ⟨Nat.le_of_ble_eq_true rfl, Nat.le_of_ble_eq_true rfl⟩) (w_preV hK hW hL_a0 hK_a0 (by decide) rfl) rfl rfl hl.1 rfl (lv_room (Nat.le_of_ble_eq_true rfl)) dX12_isAttackedBy_31 ⟨Nat.le_of_ble_eq_true rfl, Nat.le_of_ble_eq_true rfl⟩) hW (fun r_9 S_10 H locs hp hW => ?_)
        obtain ⟨hX_S_10, hp⟩ := hp
        refine W.widen (k := 0) (n := 0) (Nat.le_refl 0) (Nat.le_refl 0) ?_
        have hE := hE.trans hX_S_10
        have hK_a0 : sK S_10 a0 = 17 := (hX_S_10 a0 hL_a0).2.1.trans hK_a0
        have hL_a0 : a0 ∈ sL S_10 := (hX_S_10 a0 hL_a0).1
        refine lv_if_eq (tgt := 39) hx hb dX12_isAttackedBy_34 (by decide) (fun c_11 => ?_) (fun c_11 => ?_)
        · replace hp := hp.1 c_11
          exact t_X12_isAttackedBy_39 F hr hlocks hK ih hp hW hE (lv_sub hl [0, 1, 2, 3, 4] rfl) hL_a0 hK_a0
        · replace hp := hp.2 c_11
          refine lv_iconst (v := 1) hx hb dX12_isAttackedBy_37 (by decide) ?_
          exact w_zret hx hb hr hlocks hK hW hp.1 ⟨hE, hp.2⟩ dX12_isAttackedBy_38
set_option maxHeartbeats 4000000 in
set_option maxRecDepth 100000 in
theorem t_X12_isAttackedBy_0 {p : Program} {l : Launch} {e : Env} {s : State} {m : MethodId} {args : Array Value} {below : List Frame} {meth : Method} {c : Code} {D : va_G} {cy : Nat → ClassId} {X : va_W} {A : Nat → Prop} {S0 : wS} {post : Int32 → wS → Prop} (F : CallFix p m c cX12_isAttackedBy 5 s args wz_X12_isAttackedBy RX12) (hr : meth.sig.returnType = (some .boolean)) (hlocks : meth.locks = false) (hK : wK D cy s) : ∀ {S : wS} {H : Heap} {locs : List Loc} {ls : Array Slot} {a0 : Nat} {x1 : Int32} {x2 : Int32} {x3 : Int32}, wp_X12_isAttackedBy_0 post S a0 x1 x2 x3 → wO D cy X A s.heap S H locs → wX S0 S → lv_has ls 5 [(0, .ref a0), (1, .int x1), (2, .int x2), (3, .int x3)] → a0 ∈ sL S → sK S a0 = 17 → W p l e r_X12_isAttackedBy s m args below meth c H locs 0 0 (MQ below (va_Qi (fun r S9 => wX S0 S9 ∧ post r S9) (wB D cy X A) A) args s 0 0 A) (F0 m 0 ls []) := by
  obtain ⟨hx, hb, hml, hown, hts⟩ := id F
  have hwg : ∀ w ∈ WG, w.before args s = true := fun w h => hts w (List.mem_cons_of_mem _ h)
  intro S H locs ls a0 x1 x2 x3 hp hW hE hl hL_a0 hK_a0
  unfold wp_X12_isAttackedBy_0 at hp
  refine lv_iconst (v := 0) hx hb dX12_isAttackedBy_0 (by decide) ?_
  refine lv_istore (lv' := [(4, .int 0), (0, .ref a0), (1, .int x1), (2, .int x2), (3, .int x3)]) hx hb dX12_isAttackedBy_1 hl (by decide) rfl (fun ls hl => ?_)
  obtain ⟨n_1, hp⟩ := hp
  exact t_X12_isAttackedBy_3 F hr hlocks hK n_1 hp hW hE (lv_sub hl [1, 2, 3, 4, 0] rfl) hL_a0 hK_a0
set_option maxHeartbeats 4000000 in
set_option maxRecDepth 100000 in
theorem c_X12_isAttackedBy (l : Launch) {D : va_G} {cy : Nat → ClassId} {X : va_W} {S0 : wS} {post : Int32 → wS → Prop} {a0 : Nat} {x1 : Int32} {x2 : Int32} {x3 : Int32} (hL_a0 : a0 ∈ sL S0) (hK_a0 : sK S0 a0 = 17) (hp : wp_X12_isAttackedBy post S0 a0 x1 x2 x3) : mI D cy X l yX12_isAttackedBy wz_X12_isAttackedBy r_X12_isAttackedBy [.ref a0, .int x1, .int x2, .int x3] S0 (fun r S9 => wX S0 S9 ∧ post r S9) := by
  intro sz
  refine Met.ofW (cc := cX12_isAttackedBy) (maxL := 5) (ret := (some .boolean)) (by decide) rfl ?_
  intro p e s m args below meth c s₁ B hml hv
  obtain ⟨rfl, hsz, hP, hK, hD0⟩ := hv
  have hts := atoms_spec (ws := wz_X12_isAttackedBy) B.pre
  have hown : s.vm.findClass RX12 = some m.cls := findClass_of_methodNamed B.named
  subst hsz
  have hD := hD0.self (sz := s.heap.size)
  have F : CallFix p m c cX12_isAttackedBy 5 s _ wz_X12_isAttackedBy RX12 := ⟨B.exec, B.bytes, hml, hown, hts⟩
  have hr := B.returns
  have hlocks := B.notSynchronized
  generalize hAe : va_A (wL cy X S0) s.heap.size = A at hD ⊢
  have hA : ∀ q, s.heap.size ≤ q → A q := fun q h => by rw [← hAe]; exact Or.inr h
  have hW : wO D cy X A s.heap S0 s.heap [] := ⟨hP, hD, va_S.rf, hA⟩
  have hl := lv_entry ([.ref a0, .int x1, .int x2, .int x3]) (n := 5) (Nat.le_of_ble_eq_true rfl)
  rw [lg_entry_eq]
  generalize (lg_sl ([.ref a0, .int x1, .int x2, .int x3]) ++ List.replicate (5 - (lg_sl ([.ref a0, .int x1, .int x2, .int x3])).length) Slot.unset).toArray = ls at hl ⊢
  have hl : lv_has ls 5 [(0, .ref a0), (1, .int x1), (2, .int x2), (3, .int x3)] := hl
  unfold wp_X12_isAttackedBy at hp
  exact t_X12_isAttackedBy_0 F hr hlocks hK hp hW wX.rf (lv_sub hl [0, 1, 2, 3] rfl) hL_a0 hK_a0
def wp_X12_copies_3 (post : wS → Prop)  : Nat → wS → Int32 → Nat → Int32 → Nat → Int32 → Int32 → Prop
  | 0, _, _, _, _, _, _, _ => False
  | n + 1, S, x0, a1, x2, a3, x4, x5 =>
    ((x0 ≤ x5 → post S) ∧
     (¬ x0 ≤ x5 → vp_in (x2 + x5) (sN S a1) ∧
    vp_in (x4 + x5) (sN S a3) ∧
    ∀ S_4 : wS, S_4 = uI S a3 ((x4 + x5)).toNatClampNeg (sI S a1 ((x2 + x5)).toNatClampNeg) →
    ∀ x_5 : Int32, x_5 = x5 + 1 →
    wp_X12_copies_3 post n S_4 x0 a1 x2 a3 x4 x_5))
def wp_X12_copies_0 (post : wS → Prop)  (S : wS) (x0 : Int32) (a1 : Nat) (x2 : Int32) (a3 : Nat) (x4 : Int32) : Prop :=
∃ n_1 : Nat, wp_X12_copies_3 post n_1 S x0 a1 x2 a3 x4 0
abbrev r_X12_copies : Room := { frames := 0, cells := 0, slots := 0, locals := 0 }
def wp_X12_copies (post : wS → Prop) (S : wS) (x0 : Int32) (a1 : Nat) (x2 : Int32) (a3 : Nat) (x4 : Int32) : Prop := wp_X12_copies_0 post S x0 a1 x2 a3 x4
set_option maxHeartbeats 4000000 in
set_option maxRecDepth 100000 in
theorem t_X12_copies_3 {p : Program} {l : Launch} {e : Env} {s : State} {m : MethodId} {args : Array Value} {below : List Frame} {meth : Method} {c : Code} {D : va_G} {cy : Nat → ClassId} {X : va_W} {A : Nat → Prop} {S0 : wS} {post : wS → Prop} (F : CallFix p m c cX12_copies 6 s args wz_X12_copies RX12) (hr : meth.sig.returnType = none) (hlocks : meth.locks = false) (hK : wK D cy s) : ∀ (n : Nat) {S : wS} {H : Heap} {locs : List Loc} {ls : Array Slot} {x0 : Int32} {a1 : Nat} {x2 : Int32} {a3 : Nat} {x4 : Int32} {x5 : Int32}, wp_X12_copies_3 post n S x0 a1 x2 a3 x4 x5 → wO D cy X A s.heap S H locs → wX S0 S → lv_has ls 6 [(0, .int x0), (1, .ref a1), (2, .int x2), (3, .ref a3), (4, .int x4), (5, .int x5)] → a1 ∈ sL S → sK S a1 = 21 → a3 ∈ sL S → sK S a3 = 21 → W p l e r_X12_copies s m args below meth c H locs 0 0 (MQ below (va_Qv (fun S9 => wX S0 S9 ∧ post S9) (wB D cy X A) A) args s 0 0 A) (F0 m 3 ls []) := by
  obtain ⟨hx, hb, hml, hown, hts⟩ := id F
  have hwg : ∀ w ∈ WG, w.before args s = true := fun w h => hts w (List.mem_cons_of_mem _ h)
  intro n
  induction n with
  | zero =>
    intro S H locs ls x0 a1 x2 a3 x4 x5 hp
    exact hp.elim
  | succ n ih =>
    intro S H locs ls x0 a1 x2 a3 x4 x5 hp hW hE hl hL_a1 hK_a1 hL_a3 hK_a3
    unfold wp_X12_copies_3 at hp
    refine lv_iload hx hb dX12_copies_3 (lv_at hl 5 rfl) ?_
    refine lv_iload_n hx hb dX12_copies_5 rfl (lv_at hl 0 rfl) ?_
    refine lv_icmp_ge (tgt := 28) hx hb dX12_copies_6 (by decide) (fun c_1 => ?_) (fun c_1 => ?_)
    · replace hp := hp.1 c_1
      exact w_vret hx hb hr hlocks hK hW ⟨hE, hp⟩ dX12_copies_28
    · replace hp := hp.2 c_1
      refine lv_aload_n hx hb dX12_copies_9 rfl (lv_at hl 3 rfl) ?_
      refine lv_iload hx hb dX12_copies_10 (lv_at hl 4 rfl) ?_
      refine lv_iload hx hb dX12_copies_12 (lv_at hl 5 rfl) ?_
      refine lv_iadd hx hb dX12_copies_14 ?_
      refine lv_aload_n hx hb dX12_copies_15 rfl (lv_at hl 1 rfl) ?_
      refine lv_iload_n hx hb dX12_copies_16 rfl (lv_at hl 2 rfl) ?_
      refine lv_iload hx hb dX12_copies_17 (lv_at hl 5 rfl) ?_
      refine lv_iadd hx hb dX12_copies_19 ?_
      obtain ⟨h_2, hp⟩ := hp
      refine w_ild F hK hW hL_a1 hK_a1 h_2 dX12_copies_20 ?_
      obtain ⟨h_3, hp⟩ := hp
      refine w_ist F hK hW hL_a3 hK_a3 h_3 dX12_copies_21 (fun H locs hW => ?_)
      obtain ⟨S_4, eS_4⟩ : ∃ z : wS, z = uI S a3 ((x4 + x5)).toNatClampNeg (sI S a1 ((x2 + x5)).toNatClampNeg) := ⟨_, rfl⟩
      rw [← eS_4] at hW
      replace hp := hp S_4 eS_4
      have hX_S_4 : wX S S_4 := by rw [eS_4]; exact wX_uI
      have hE := hE.trans hX_S_4
      have hK_a1 : sK S_4 a1 = 21 := (hX_S_4 a1 hL_a1).2.1.trans hK_a1
      have hL_a1 : a1 ∈ sL S_4 := (hX_S_4 a1 hL_a1).1
      have hK_a3 : sK S_4 a3 = 21 := (hX_S_4 a3 hL_a3).2.1.trans hK_a3
      have hL_a3 : a3 ∈ sL S_4 := (hX_S_4 a3 hL_a3).1
      obtain ⟨x_5, ex_5⟩ : ∃ z : Int32, z = x5 + 1 := ⟨_, rfl⟩
      replace hp := hp x_5 ex_5
      refine lv_iinc (v := x_5) (lv' := [(5, .int x_5), (0, .int x0), (1, .ref a1), (2, .int x2), (3, .ref a3), (4, .int x4)]) hx hb dX12_copies_22 hl (k := 5) rfl (by rw [ex_5]; rfl) (by decide) rfl (fun ls hl => ?_)
      refine lv_goto (tgt := 3) hx hb dX12_copies_25 (by decide) ?_
      exact ih hp hW hE (lv_sub hl [1, 2, 3, 4, 5, 0] rfl) hL_a1 hK_a1 hL_a3 hK_a3
set_option maxHeartbeats 4000000 in
set_option maxRecDepth 100000 in
theorem t_X12_copies_0 {p : Program} {l : Launch} {e : Env} {s : State} {m : MethodId} {args : Array Value} {below : List Frame} {meth : Method} {c : Code} {D : va_G} {cy : Nat → ClassId} {X : va_W} {A : Nat → Prop} {S0 : wS} {post : wS → Prop} (F : CallFix p m c cX12_copies 6 s args wz_X12_copies RX12) (hr : meth.sig.returnType = none) (hlocks : meth.locks = false) (hK : wK D cy s) : ∀ {S : wS} {H : Heap} {locs : List Loc} {ls : Array Slot} {x0 : Int32} {a1 : Nat} {x2 : Int32} {a3 : Nat} {x4 : Int32}, wp_X12_copies_0 post S x0 a1 x2 a3 x4 → wO D cy X A s.heap S H locs → wX S0 S → lv_has ls 6 [(0, .int x0), (1, .ref a1), (2, .int x2), (3, .ref a3), (4, .int x4)] → a1 ∈ sL S → sK S a1 = 21 → a3 ∈ sL S → sK S a3 = 21 → W p l e r_X12_copies s m args below meth c H locs 0 0 (MQ below (va_Qv (fun S9 => wX S0 S9 ∧ post S9) (wB D cy X A) A) args s 0 0 A) (F0 m 0 ls []) := by
  obtain ⟨hx, hb, hml, hown, hts⟩ := id F
  have hwg : ∀ w ∈ WG, w.before args s = true := fun w h => hts w (List.mem_cons_of_mem _ h)
  intro S H locs ls x0 a1 x2 a3 x4 hp hW hE hl hL_a1 hK_a1 hL_a3 hK_a3
  unfold wp_X12_copies_0 at hp
  refine lv_iconst (v := 0) hx hb dX12_copies_0 (by decide) ?_
  refine lv_istore (lv' := [(5, .int 0), (0, .int x0), (1, .ref a1), (2, .int x2), (3, .ref a3), (4, .int x4)]) hx hb dX12_copies_1 hl (by decide) rfl (fun ls hl => ?_)
  obtain ⟨n_1, hp⟩ := hp
  exact t_X12_copies_3 F hr hlocks hK n_1 hp hW hE (lv_sub hl [1, 2, 3, 4, 5, 0] rfl) hL_a1 hK_a1 hL_a3 hK_a3
set_option maxHeartbeats 4000000 in
set_option maxRecDepth 100000 in
theorem c_X12_copies (l : Launch) {D : va_G} {cy : Nat → ClassId} {X : va_W} {S0 : wS} {post : wS → Prop} {x0 : Int32} {a1 : Nat} {x2 : Int32} {a3 : Nat} {x4 : Int32} (hL_a1 : a1 ∈ sL S0) (hK_a1 : sK S0 a1 = 21) (hL_a3 : a3 ∈ sL S0) (hK_a3 : sK S0 a3 = 21) (hp : wp_X12_copies post S0 x0 a1 x2 a3 x4) : mV D cy X l yX12_copies wz_X12_copies r_X12_copies [.int x0, .ref a1, .int x2, .ref a3, .int x4] S0 (fun S9 => wX S0 S9 ∧ post S9) := by
  intro sz
  refine Met.ofW (cc := cX12_copies) (maxL := 6) (ret := none) (by decide) rfl ?_
  intro p e s m args below meth c s₁ B hml hv
  obtain ⟨rfl, hsz, hP, hK, hD0⟩ := hv
  have hts := atoms_spec (ws := wz_X12_copies) B.pre
  have hown : s.vm.findClass RX12 = some m.cls := findClass_of_methodNamed B.named
  subst hsz
  have hD := hD0.self (sz := s.heap.size)
  have F : CallFix p m c cX12_copies 6 s _ wz_X12_copies RX12 := ⟨B.exec, B.bytes, hml, hown, hts⟩
  have hr := B.returns
  have hlocks := B.notSynchronized
  generalize hAe : va_A (wL cy X S0) s.heap.size = A at hD ⊢
  have hA : ∀ q, s.heap.size ≤ q → A q := fun q h => by rw [← hAe]; exact Or.inr h
  have hW : wO D cy X A s.heap S0 s.heap [] := ⟨hP, hD, va_S.rf, hA⟩
  have hl := lv_entry ([.int x0, .ref a1, .int x2, .ref a3, .int x4]) (n := 6) (Nat.le_of_ble_eq_true rfl)
  rw [lg_entry_eq]
  generalize (lg_sl ([.int x0, .ref a1, .int x2, .ref a3, .int x4]) ++ List.replicate (6 - (lg_sl ([.int x0, .ref a1, .int x2, .ref a3, .int x4])).length) Slot.unset).toArray = ls at hl ⊢
  have hl : lv_has ls 6 [(0, .int x0), (1, .ref a1), (2, .int x2), (3, .ref a3), (4, .int x4)] := hl
  unfold wp_X12_copies at hp
  exact t_X12_copies_0 F hr hlocks hK hp hW wX.rf (lv_sub hl [0, 1, 2, 3, 4] rfl) hL_a1 hK_a1 hL_a3 hK_a3
def wp_X11_contains_15 (post : Int32 → wS → Prop)  (S : wS) (t0 : Int32) : Prop :=
narrow .boolean (.int t0) = .int t0 ∧ post t0 S
def wp_X11_contains_0 (post : Int32 → wS → Prop)  (S : wS) (x0 : Int64) (x2 : Int32) : Prop :=
(((lg_cmp ((jlushr x0 x2) &&& 1) 0) = 0 → wp_X11_contains_15 post S 0) ∧
 (¬ (lg_cmp ((jlushr x0 x2) &&& 1) 0) = 0 → wp_X11_contains_15 post S 1))
abbrev r_X11_contains : Room := { frames := 0, cells := 0, slots := 0, locals := 0 }
def wp_X11_contains (post : Int32 → wS → Prop) (S : wS) (x0 : Int64) (x2 : Int32) : Prop := wp_X11_contains_0 post S x0 x2
set_option maxHeartbeats 4000000 in
set_option maxRecDepth 100000 in
theorem t_X11_contains_15 {p : Program} {l : Launch} {e : Env} {s : State} {m : MethodId} {args : Array Value} {below : List Frame} {meth : Method} {c : Code} {D : va_G} {cy : Nat → ClassId} {X : va_W} {A : Nat → Prop} {S0 : wS} {post : Int32 → wS → Prop} (F : CallFix p m c cX11_contains 3 s args wz_X11_contains RX11) (hr : meth.sig.returnType = (some .boolean)) (hlocks : meth.locks = false) (hK : wK D cy s) : ∀ {S : wS} {H : Heap} {locs : List Loc} {ls : Array Slot} {t0 : Int32}, wp_X11_contains_15 post S t0 → wO D cy X A s.heap S H locs → wX S0 S → lv_has ls 3 [] → W p l e r_X11_contains s m args below meth c H locs 0 0 (MQ below (va_Qi (fun r S9 => wX S0 S9 ∧ post r S9) (wB D cy X A) A) args s 0 0 A) (F0 m 15 ls [.int t0]) := by
  obtain ⟨hx, hb, hml, hown, hts⟩ := id F
  have hwg : ∀ w ∈ WG, w.before args s = true := fun w h => hts w (List.mem_cons_of_mem _ h)
  intro S H locs ls t0 hp hW hE hl
  unfold wp_X11_contains_15 at hp
  exact w_zret hx hb hr hlocks hK hW hp.1 ⟨hE, hp.2⟩ dX11_contains_15
set_option maxHeartbeats 4000000 in
set_option maxRecDepth 100000 in
theorem t_X11_contains_0 {p : Program} {l : Launch} {e : Env} {s : State} {m : MethodId} {args : Array Value} {below : List Frame} {meth : Method} {c : Code} {D : va_G} {cy : Nat → ClassId} {X : va_W} {A : Nat → Prop} {S0 : wS} {post : Int32 → wS → Prop} (F : CallFix p m c cX11_contains 3 s args wz_X11_contains RX11) (hr : meth.sig.returnType = (some .boolean)) (hlocks : meth.locks = false) (hK : wK D cy s) : ∀ {S : wS} {H : Heap} {locs : List Loc} {ls : Array Slot} {x0 : Int64} {x2 : Int32}, wp_X11_contains_0 post S x0 x2 → wO D cy X A s.heap S H locs → wX S0 S → lv_has ls 3 [(0, .long x0), (2, .int x2)] → W p l e r_X11_contains s m args below meth c H locs 0 0 (MQ below (va_Qi (fun r S9 => wX S0 S9 ∧ post r S9) (wB D cy X A) A) args s 0 0 A) (F0 m 0 ls []) := by
  obtain ⟨hx, hb, hml, hown, hts⟩ := id F
  have hwg : ∀ w ∈ WG, w.before args s = true := fun w h => hts w (List.mem_cons_of_mem _ h)
  intro S H locs ls x0 x2 hp hW hE hl
  unfold wp_X11_contains_0 at hp
  refine lv_lload_n hx hb dX11_contains_0 rfl (lv_at hl 0 rfl) ?_
  refine lv_iload_n hx hb dX11_contains_1 rfl (lv_at hl 1 rfl) ?_
  refine lv_lushr (v := (jlushr x0 x2)) hx hb dX11_contains_2 rfl ?_
  refine lv_lconst (v := 1) hx hb dX11_contains_3 (by decide) ?_
  refine lv_land hx hb dX11_contains_4 ?_
  refine lv_lconst (v := 0) hx hb dX11_contains_5 (by decide) ?_
  refine W.lcmp hx hb dX11_contains_6 ?_
  refine lv_if_eq (tgt := 14) hx hb dX11_contains_7 (by decide) (fun c_1 => ?_) (fun c_1 => ?_)
  · replace hp := hp.1 c_1
    refine lv_iconst (v := 0) hx hb dX11_contains_14 (by decide) ?_
    exact t_X11_contains_15 F hr hlocks hK hp hW hE (lv_sub hl [] rfl)
  · replace hp := hp.2 c_1
    refine lv_iconst (v := 1) hx hb dX11_contains_10 (by decide) ?_
    refine lv_goto (tgt := 15) hx hb dX11_contains_11 (by decide) ?_
    exact t_X11_contains_15 F hr hlocks hK hp hW hE (lv_sub hl [] rfl)
set_option maxHeartbeats 4000000 in
set_option maxRecDepth 100000 in
theorem c_X11_contains (l : Launch) {D : va_G} {cy : Nat → ClassId} {X : va_W} {S0 : wS} {post : Int32 → wS → Prop} {x0 : Int64} {x2 : Int32} (hp : wp_X11_contains post S0 x0 x2) : mI D cy X l yX11_contains wz_X11_contains r_X11_contains [.long x0, .int x2] S0 (fun r S9 => wX S0 S9 ∧ post r S9) := by
  intro sz
  refine Met.ofW (cc := cX11_contains) (maxL := 3) (ret := (some .boolean)) (by decide) rfl ?_
  intro p e s m args below meth c s₁ B hml hv
  obtain ⟨rfl, hsz, hP, hK, hD0⟩ := hv
  have hts := atoms_spec (ws := wz_X11_contains) B.pre
  have hown : s.vm.findClass RX11 = some m.cls := findClass_of_methodNamed B.named
  subst hsz
  have hD := hD0.self (sz := s.heap.size)
  have F : CallFix p m c cX11_contains 3 s _ wz_X11_contains RX11 := ⟨B.exec, B.bytes, hml, hown, hts⟩
  have hr := B.returns
  have hlocks := B.notSynchronized
  generalize hAe : va_A (wL cy X S0) s.heap.size = A at hD ⊢
  have hA : ∀ q, s.heap.size ≤ q → A q := fun q h => by rw [← hAe]; exact Or.inr h
  have hW : wO D cy X A s.heap S0 s.heap [] := ⟨hP, hD, va_S.rf, hA⟩
  have hl := lv_entry ([.long x0, .int x2]) (n := 3) (Nat.le_of_ble_eq_true rfl)
  rw [lg_entry_eq]
  generalize (lg_sl ([.long x0, .int x2]) ++ List.replicate (3 - (lg_sl ([.long x0, .int x2])).length) Slot.unset).toArray = ls at hl ⊢
  have hl : lv_has ls 3 [(0, .long x0), (2, .int x2)] := hl
  unfold wp_X11_contains at hp
  exact t_X11_contains_0 F hr hlocks hK hp hW wX.rf (lv_sub hl [0, 1] rfl)
def wp_X7_kindOn_0 (post : Int32 → wS → Prop)  (S : wS) (a0 : Nat) (x1 : Int32) : Prop :=
post (Int64.toInt32 ((((jlushr (sJ S a0 2) x1) &&& 1) + (((jlushr (sJ S a0 3) x1) &&& 1) * 2)) + (((jlushr (sJ S a0 4) x1) &&& 1) * 4))) S
abbrev r_X7_kindOn : Room := { frames := 0, cells := 0, slots := 0, locals := 0 }
def wp_X7_kindOn (post : Int32 → wS → Prop) (S : wS) (a0 : Nat) (x1 : Int32) : Prop := wp_X7_kindOn_0 post S a0 x1
set_option maxHeartbeats 4000000 in
set_option maxRecDepth 100000 in
theorem t_X7_kindOn_0 {p : Program} {l : Launch} {e : Env} {s : State} {m : MethodId} {args : Array Value} {below : List Frame} {meth : Method} {c : Code} {D : va_G} {cy : Nat → ClassId} {X : va_W} {A : Nat → Prop} {S0 : wS} {post : Int32 → wS → Prop} (F : CallFix p m c cX7_kindOn 2 s args wz_X7_kindOn RX7) (hr : meth.sig.returnType = (some .int)) (hlocks : meth.locks = false) (hK : wK D cy s) : ∀ {S : wS} {H : Heap} {locs : List Loc} {ls : Array Slot} {a0 : Nat} {x1 : Int32}, wp_X7_kindOn_0 post S a0 x1 → wO D cy X A s.heap S H locs → wX S0 S → lv_has ls 2 [(0, .ref a0), (1, .int x1)] → a0 ∈ sL S → sK S a0 = 12 → W p l e r_X7_kindOn s m args below meth c H locs 0 0 (MQ below (va_Qi (fun r S9 => wX S0 S9 ∧ post r S9) (wB D cy X A) A) args s 0 0 A) (F0 m 0 ls []) := by
  obtain ⟨hx, hb, hml, hown, hts⟩ := id F
  have hwg : ∀ w ∈ WG, w.before args s = true := fun w h => hts w (List.mem_cons_of_mem _ h)
  have i_12 : ∀ w ∈ u_ws RX7 TX7 8, w ∈ wz_X7_kindOn := fun w h => List.mem_cons_of_mem _ (wu_12 w h)
  have k_15 := hwg _ wf_RX7_15
  have k_18 := hwg _ wf_RX7_18
  have k_21 := hwg _ wf_RX7_21
  intro S H locs ls a0 x1 hp hW hE hl hL_a0 hK_a0
  unfold wp_X7_kindOn_0 at hp
  refine lv_aload_n hx hb dX7_kindOn_0 rfl (lv_at hl 0 rfl) ?_
  refine w_get (k := 12) (f := 2) (T := TX7) (v := .long (sJ S a0 2)) F hK hW hL_a0 hK_a0 (by decide) rfl rfl (by decide) i_12 k_15 rfl dX7_kindOn_1 ?_
  refine lv_iload_n hx hb dX7_kindOn_4 rfl (lv_at hl 1 rfl) ?_
  refine lv_lushr (v := (jlushr (sJ S a0 2) x1)) hx hb dX7_kindOn_5 rfl ?_
  refine lv_lconst (v := 1) hx hb dX7_kindOn_6 (by decide) ?_
  refine lv_land hx hb dX7_kindOn_7 ?_
  refine lv_aload_n hx hb dX7_kindOn_8 rfl (lv_at hl 0 rfl) ?_
  refine w_get (k := 12) (f := 3) (T := TX7) (v := .long (sJ S a0 3)) F hK hW hL_a0 hK_a0 (by decide) rfl rfl (by decide) i_12 k_18 rfl dX7_kindOn_9 ?_
  refine lv_iload_n hx hb dX7_kindOn_12 rfl (lv_at hl 1 rfl) ?_
  refine lv_lushr (v := (jlushr (sJ S a0 3) x1)) hx hb dX7_kindOn_13 rfl ?_
  refine lv_lconst (v := 1) hx hb dX7_kindOn_14 (by decide) ?_
  refine lv_land hx hb dX7_kindOn_15 ?_
  refine lv_ldc2 (v := 2) hx hb hown (hwg _ wJ_RX7_72) dX7_kindOn_16 ?_
  refine lv_lmul hx hb dX7_kindOn_19 ?_
  refine lv_ladd hx hb dX7_kindOn_20 ?_
  refine lv_aload_n hx hb dX7_kindOn_21 rfl (lv_at hl 0 rfl) ?_
  refine w_get (k := 12) (f := 4) (T := TX7) (v := .long (sJ S a0 4)) F hK hW hL_a0 hK_a0 (by decide) rfl rfl (by decide) i_12 k_21 rfl dX7_kindOn_22 ?_
  refine lv_iload_n hx hb dX7_kindOn_25 rfl (lv_at hl 1 rfl) ?_
  refine lv_lushr (v := (jlushr (sJ S a0 4) x1)) hx hb dX7_kindOn_26 rfl ?_
  refine lv_lconst (v := 1) hx hb dX7_kindOn_27 (by decide) ?_
  refine lv_land hx hb dX7_kindOn_28 ?_
  refine lv_ldc2 (v := 4) hx hb hown (hwg _ wJ_RX7_74) dX7_kindOn_29 ?_
  refine lv_lmul hx hb dX7_kindOn_32 ?_
  refine lv_ladd hx hb dX7_kindOn_33 ?_
  refine lv_l2i (v := (Int64.toInt32 ((((jlushr (sJ S a0 2) x1) &&& 1) + (((jlushr (sJ S a0 3) x1) &&& 1) * 2)) + (((jlushr (sJ S a0 4) x1) &&& 1) * 4)))) hx hb dX7_kindOn_34 rfl ?_
  exact w_iret hx hb hr hlocks hK hW ⟨hE, hp⟩ dX7_kindOn_35
set_option maxHeartbeats 4000000 in
set_option maxRecDepth 100000 in
theorem c_X7_kindOn (l : Launch) {D : va_G} {cy : Nat → ClassId} {X : va_W} {S0 : wS} {post : Int32 → wS → Prop} {a0 : Nat} {x1 : Int32} (hL_a0 : a0 ∈ sL S0) (hK_a0 : sK S0 a0 = 12) (hp : wp_X7_kindOn post S0 a0 x1) : mI D cy X l yX7_kindOn wz_X7_kindOn r_X7_kindOn [.ref a0, .int x1] S0 (fun r S9 => wX S0 S9 ∧ post r S9) := by
  intro sz
  refine Met.ofW (cc := cX7_kindOn) (maxL := 2) (ret := (some .int)) (by decide) rfl ?_
  intro p e s m args below meth c s₁ B hml hv
  obtain ⟨rfl, hsz, hP, hK, hD0⟩ := hv
  have hts := atoms_spec (ws := wz_X7_kindOn) B.pre
  have hown : s.vm.findClass RX7 = some m.cls := findClass_of_methodNamed B.named
  subst hsz
  have hD := hD0.self (sz := s.heap.size)
  have F : CallFix p m c cX7_kindOn 2 s _ wz_X7_kindOn RX7 := ⟨B.exec, B.bytes, hml, hown, hts⟩
  have hr := B.returns
  have hlocks := B.notSynchronized
  generalize hAe : va_A (wL cy X S0) s.heap.size = A at hD ⊢
  have hA : ∀ q, s.heap.size ≤ q → A q := fun q h => by rw [← hAe]; exact Or.inr h
  have hW : wO D cy X A s.heap S0 s.heap [] := ⟨hP, hD, va_S.rf, hA⟩
  have hl := lv_entry ([.ref a0, .int x1]) (n := 2) (Nat.le_of_ble_eq_true rfl)
  rw [lg_entry_eq]
  generalize (lg_sl ([.ref a0, .int x1]) ++ List.replicate (2 - (lg_sl ([.ref a0, .int x1])).length) Slot.unset).toArray = ls at hl ⊢
  have hl : lv_has ls 2 [(0, .ref a0), (1, .int x1)] := hl
  unfold wp_X7_kindOn at hp
  exact t_X7_kindOn_0 F hr hlocks hK hp hW wX.rf (lv_sub hl [0, 1] rfl) hL_a0 hK_a0
def wp_X7_pieceOn_29 (post : Int32 → wS → Prop)  (S : wS) (t0 : Int32) : Prop :=
post t0 S
def wp_X7_pieceOn_21 (post : Int32 → wS → Prop)  (S : wS) (x2 : Int32) : Prop :=
wp_X7_pieceOn_29 post S x2
def wp_X7_pieceOn_0 (post : Int32 → wS → Prop)  (S : wS) (a0 : Nat) (x1 : Int32) : Prop :=
wp_X7_kindOn (fun r_1 S_2 => 
((r_1 = 0 → wp_X7_pieceOn_21 post S_2 r_1) ∧
 (¬ r_1 = 0 → wp_X11_contains (fun r_4 S_5 => 
((r_4 = 0 → wp_X7_pieceOn_29 post S_5 (r_1 + 6)) ∧
 (¬ r_4 = 0 → wp_X7_pieceOn_21 post S_5 r_1))) S_2 (sJ S_2 a0 1) x1))) S a0 x1
abbrev r_X7_pieceOn : Room := { frames := 1, cells := 0, slots := 0, locals := 22 }
def wp_X7_pieceOn (post : Int32 → wS → Prop) (S : wS) (a0 : Nat) (x1 : Int32) : Prop := wp_X7_pieceOn_0 post S a0 x1
set_option maxHeartbeats 4000000 in
set_option maxRecDepth 100000 in
theorem t_X7_pieceOn_29 {p : Program} {l : Launch} {e : Env} {s : State} {m : MethodId} {args : Array Value} {below : List Frame} {meth : Method} {c : Code} {D : va_G} {cy : Nat → ClassId} {X : va_W} {A : Nat → Prop} {S0 : wS} {post : Int32 → wS → Prop} (F : CallFix p m c cX7_pieceOn 3 s args wz_X7_pieceOn RX7) (hr : meth.sig.returnType = (some .int)) (hlocks : meth.locks = false) (hK : wK D cy s) : ∀ {S : wS} {H : Heap} {locs : List Loc} {ls : Array Slot} {t0 : Int32}, wp_X7_pieceOn_29 post S t0 → wO D cy X A s.heap S H locs → wX S0 S → lv_has ls 3 [] → W p l e r_X7_pieceOn s m args below meth c H locs 0 0 (MQ below (va_Qi (fun r S9 => wX S0 S9 ∧ post r S9) (wB D cy X A) A) args s 0 0 A) (F0 m 29 ls [.int t0]) := by
  obtain ⟨hx, hb, hml, hown, hts⟩ := id F
  have hwg : ∀ w ∈ WG, w.before args s = true := fun w h => hts w (List.mem_cons_of_mem _ h)
  intro S H locs ls t0 hp hW hE hl
  unfold wp_X7_pieceOn_29 at hp
  exact w_iret hx hb hr hlocks hK hW ⟨hE, hp⟩ dX7_pieceOn_29
set_option maxHeartbeats 4000000 in
set_option maxRecDepth 100000 in
theorem t_X7_pieceOn_21 {p : Program} {l : Launch} {e : Env} {s : State} {m : MethodId} {args : Array Value} {below : List Frame} {meth : Method} {c : Code} {D : va_G} {cy : Nat → ClassId} {X : va_W} {A : Nat → Prop} {S0 : wS} {post : Int32 → wS → Prop} (F : CallFix p m c cX7_pieceOn 3 s args wz_X7_pieceOn RX7) (hr : meth.sig.returnType = (some .int)) (hlocks : meth.locks = false) (hK : wK D cy s) : ∀ {S : wS} {H : Heap} {locs : List Loc} {ls : Array Slot} {x2 : Int32}, wp_X7_pieceOn_21 post S x2 → wO D cy X A s.heap S H locs → wX S0 S → lv_has ls 3 [(2, .int x2)] → W p l e r_X7_pieceOn s m args below meth c H locs 0 0 (MQ below (va_Qi (fun r S9 => wX S0 S9 ∧ post r S9) (wB D cy X A) A) args s 0 0 A) (F0 m 21 ls []) := by
  obtain ⟨hx, hb, hml, hown, hts⟩ := id F
  have hwg : ∀ w ∈ WG, w.before args s = true := fun w h => hts w (List.mem_cons_of_mem _ h)
  intro S H locs ls x2 hp hW hE hl
  unfold wp_X7_pieceOn_21 at hp
  refine lv_iload_n hx hb dX7_pieceOn_21 rfl (lv_at hl 0 rfl) ?_
  refine lv_goto (tgt := 29) hx hb dX7_pieceOn_22 (by decide) ?_
  exact t_X7_pieceOn_29 F hr hlocks hK hp hW hE (lv_sub hl [] rfl)
set_option maxHeartbeats 4000000 in
set_option maxRecDepth 100000 in
theorem t_X7_pieceOn_0 {p : Program} {l : Launch} {e : Env} {s : State} {m : MethodId} {args : Array Value} {below : List Frame} {meth : Method} {c : Code} {D : va_G} {cy : Nat → ClassId} {X : va_W} {A : Nat → Prop} {S0 : wS} {post : Int32 → wS → Prop} (F : CallFix p m c cX7_pieceOn 3 s args wz_X7_pieceOn RX7) (hr : meth.sig.returnType = (some .int)) (hlocks : meth.locks = false) (hK : wK D cy s) : ∀ {S : wS} {H : Heap} {locs : List Loc} {ls : Array Slot} {a0 : Nat} {x1 : Int32}, wp_X7_pieceOn_0 post S a0 x1 → wO D cy X A s.heap S H locs → wX S0 S → lv_has ls 3 [(0, .ref a0), (1, .int x1)] → a0 ∈ sL S → sK S a0 = 12 → W p l e r_X7_pieceOn s m args below meth c H locs 0 0 (MQ below (va_Qi (fun r S9 => wX S0 S9 ∧ post r S9) (wB D cy X A) A) args s 0 0 A) (F0 m 0 ls []) := by
  obtain ⟨hx, hb, hml, hown, hts⟩ := id F
  have hwg : ∀ w ∈ WG, w.before args s = true := fun w h => hts w (List.mem_cons_of_mem _ h)
  have i_12 : ∀ w ∈ u_ws RX7 TX7 8, w ∈ wz_X7_pieceOn := fun w h => List.mem_cons_of_mem _ (wu_12 w h)
  have k_9 := hwg _ wf_RX7_9
  intro S H locs ls a0 x1 hp hW hE hl hL_a0 hK_a0
  unfold wp_X7_pieceOn_0 at hp
  refine lv_aload_n hx hb dX7_pieceOn_0 rfl (lv_at hl 0 rfl) ?_
  refine lv_iload_n hx hb dX7_pieceOn_1 rfl (lv_at hl 1 rfl) ?_
  refine w_callI (va_runV (As := [.int x1]) (rest := []) F (c_X7_kindOn l hL_a0 hK_a0 hp H.size) (cwV (C := RX7) 1 hts (wg_V wm_RX7_76 wy_X7_kindOn) rfl rfl rfl (by decide +kernel) ⟨Nat.le_of_ble_eq_true rfl, Nat.le_of_ble_eq_true rfl⟩) (w_preV hK hW hL_a0 hK_a0 (by decide) rfl) rfl rfl hl.1 rfl (lv_room (Nat.le_of_ble_eq_true rfl)) dX7_pieceOn_2 ⟨Nat.le_of_ble_eq_true rfl, Nat.le_of_ble_eq_true rfl⟩) hW (fun r_1 S_2 H locs hp hW => ?_)
  obtain ⟨hX_S_2, hp⟩ := hp
  refine W.widen (k := 0) (n := 0) (Nat.le_refl 0) (Nat.le_refl 0) ?_
  have hE := hE.trans hX_S_2
  have hK_a0 : sK S_2 a0 = 12 := (hX_S_2 a0 hL_a0).2.1.trans hK_a0
  have hL_a0 : a0 ∈ sL S_2 := (hX_S_2 a0 hL_a0).1
  refine lv_istore_n (lv' := [(2, .int r_1), (0, .ref a0), (1, .int x1)]) hx hb dX7_pieceOn_5 rfl hl (by decide) rfl (fun ls hl => ?_)
  refine lv_iload_n hx hb dX7_pieceOn_6 rfl (lv_at hl 0 rfl) ?_
  refine lv_if_eq (tgt := 21) hx hb dX7_pieceOn_7 (by decide) (fun c_3 => ?_) (fun c_3 => ?_)
  · replace hp := hp.1 c_3
    exact t_X7_pieceOn_21 F hr hlocks hK hp hW hE (lv_sub hl [0] rfl)
  · replace hp := hp.2 c_3
    refine lv_aload_n hx hb dX7_pieceOn_10 rfl (lv_at hl 1 rfl) ?_
    refine w_get (k := 12) (f := 1) (T := TX7) (v := .long (sJ S_2 a0 1)) F hK hW hL_a0 hK_a0 (by decide) rfl rfl (by decide) i_12 k_9 rfl dX7_pieceOn_11 ?_
    refine lv_iload_n hx hb dX7_pieceOn_14 rfl (lv_at hl 2 rfl) ?_
    refine w_callI (va_runSN (As := [.long (sJ S_2 a0 1), .int x1]) (rest := []) F (c_X11_contains l hp H.size) ⟨va_cnB (host := "OpeningsCabinet") 2 hts (wg_cons wy_X11_contains.2.2) rfl rfl rfl (hK.2 (.methodLinkNest "OpeningsCabinet$Position" 79 ⟨"OpeningsCabinet", "contains", "(JI)Z"⟩ "OpeningsCabinet") (by decide +kernel)) (hwg _ wy_X11_contains.2.1) ⟨by decide, by decide, by decide +kernel⟩ ⟨Nat.le_of_ble_eq_true rfl, Nat.le_of_ble_eq_true rfl⟩, hwg _ wy_X11_contains.1, trivial⟩ (w_preS hK hW) rfl rfl hl.1 rfl (lv_room (Nat.le_of_ble_eq_true rfl)) dX7_pieceOn_15 ⟨Nat.le_of_ble_eq_true rfl, Nat.le_of_ble_eq_true rfl⟩) hW (fun r_4 S_5 H locs hp hW => ?_)
    obtain ⟨hX_S_5, hp⟩ := hp
    refine W.widen (k := 0) (n := 0) (Nat.le_refl 0) (Nat.le_refl 0) ?_
    have hE := hE.trans hX_S_5
    have hK_a0 : sK S_5 a0 = 12 := (hX_S_5 a0 hL_a0).2.1.trans hK_a0
    have hL_a0 : a0 ∈ sL S_5 := (hX_S_5 a0 hL_a0).1
    refine lv_if_eq (tgt := 25) hx hb dX7_pieceOn_18 (by decide) (fun c_6 => ?_) (fun c_6 => ?_)
    · replace hp := hp.1 c_6
      refine lv_iload_n hx hb dX7_pieceOn_25 rfl (lv_at hl 0 rfl) ?_
      refine lv_bipush (v := 6) hx hb dX7_pieceOn_26 (by decide) ?_
      refine lv_iadd hx hb dX7_pieceOn_28 ?_
      exact t_X7_pieceOn_29 F hr hlocks hK hp hW hE (lv_sub hl [] rfl)
    · replace hp := hp.2 c_6
      exact t_X7_pieceOn_21 F hr hlocks hK hp hW hE (lv_sub hl [0] rfl)
set_option maxHeartbeats 4000000 in
set_option maxRecDepth 100000 in
theorem c_X7_pieceOn (l : Launch) {D : va_G} {cy : Nat → ClassId} {X : va_W} {S0 : wS} {post : Int32 → wS → Prop} {a0 : Nat} {x1 : Int32} (hL_a0 : a0 ∈ sL S0) (hK_a0 : sK S0 a0 = 12) (hp : wp_X7_pieceOn post S0 a0 x1) : mI D cy X l yX7_pieceOn wz_X7_pieceOn r_X7_pieceOn [.ref a0, .int x1] S0 (fun r S9 => wX S0 S9 ∧ post r S9) := by
  intro sz
  refine Met.ofW (cc := cX7_pieceOn) (maxL := 3) (ret := (some .int)) (by decide) rfl ?_
  intro p e s m args below meth c s₁ B hml hv
  obtain ⟨rfl, hsz, hP, hK, hD0⟩ := hv
  have hts := atoms_spec (ws := wz_X7_pieceOn) B.pre
  have hown : s.vm.findClass RX7 = some m.cls := findClass_of_methodNamed B.named
  subst hsz
  have hD := hD0.self (sz := s.heap.size)
  have F : CallFix p m c cX7_pieceOn 3 s _ wz_X7_pieceOn RX7 := ⟨B.exec, B.bytes, hml, hown, hts⟩
  have hr := B.returns
  have hlocks := B.notSynchronized
  generalize hAe : va_A (wL cy X S0) s.heap.size = A at hD ⊢
  have hA : ∀ q, s.heap.size ≤ q → A q := fun q h => by rw [← hAe]; exact Or.inr h
  have hW : wO D cy X A s.heap S0 s.heap [] := ⟨hP, hD, va_S.rf, hA⟩
  have hl := lv_entry ([.ref a0, .int x1]) (n := 3) (Nat.le_of_ble_eq_true rfl)
  rw [lg_entry_eq]
  generalize (lg_sl ([.ref a0, .int x1]) ++ List.replicate (3 - (lg_sl ([.ref a0, .int x1])).length) Slot.unset).toArray = ls at hl ⊢
  have hl : lv_has ls 3 [(0, .ref a0), (1, .int x1)] := hl
  unfold wp_X7_pieceOn at hp
  exact t_X7_pieceOn_0 F hr hlocks hK hp hW wX.rf (lv_sub hl [0, 1] rfl) hL_a0 hK_a0
def wp_X7_place_152 (post : wS → Prop)  (S : wS) (b0 : Nat) (t1 : Int64) : Prop :=
∀ S_1 : wS, S_1 = uJ S b0 4 t1 →
post S_1
def wp_X7_place_122 (post : wS → Prop)  (S : wS) (a0 : Nat) (x3 : Int64) (x5 : Int32) (b0 : Nat) (t1 : Int64) : Prop :=
∀ S_1 : wS, S_1 = uJ S b0 3 t1 →
(((x5 &&& 4) = 0 → wp_X7_place_152 post S_1 a0 ((sJ S_1 a0 4) &&& (x3 ^^^ (-1)))) ∧
 (¬ (x5 &&& 4) = 0 → wp_X7_place_152 post S_1 a0 ((sJ S_1 a0 4) ||| x3)))
def wp_X7_place_92 (post : wS → Prop)  (S : wS) (a0 : Nat) (x3 : Int64) (x5 : Int32) (b0 : Nat) (t1 : Int64) : Prop :=
∀ S_1 : wS, S_1 = uJ S b0 2 t1 →
(((x5 &&& 2) = 0 → wp_X7_place_122 post S_1 a0 x3 x5 a0 ((sJ S_1 a0 3) &&& (x3 ^^^ (-1)))) ∧
 (¬ (x5 &&& 2) = 0 → wp_X7_place_122 post S_1 a0 x3 x5 a0 ((sJ S_1 a0 3) ||| x3)))
def wp_X7_place_62 (post : wS → Prop)  (S : wS) (a0 : Nat) (x3 : Int64) (x5 : Int32) (b0 : Nat) (t1 : Int64) : Prop :=
∀ S_1 : wS, S_1 = uJ S b0 1 t1 →
(((x5 &&& 1) = 0 → wp_X7_place_92 post S_1 a0 x3 x5 a0 ((sJ S_1 a0 2) &&& (x3 ^^^ (-1)))) ∧
 (¬ (x5 &&& 1) = 0 → wp_X7_place_92 post S_1 a0 x3 x5 a0 ((sJ S_1 a0 2) ||| x3)))
def wp_X7_place_35 (post : wS → Prop)  (S : wS) (a0 : Nat) (x3 : Int64) (x5 : Int32) (t0 : Int32) : Prop :=
((t0 = 0 → wp_X7_place_62 post S a0 x3 x5 a0 ((sJ S a0 1) &&& (x3 ^^^ (-1)))) ∧
 (¬ t0 = 0 → wp_X7_place_62 post S a0 x3 x5 a0 ((sJ S a0 1) ||| x3)))
def wp_X7_place_34 (post : wS → Prop)  (S : wS) (a0 : Nat) (x3 : Int64) (x5 : Int32) : Prop :=
wp_X7_place_35 post S a0 x3 x5 0
def wp_X7_place_18 (post : wS → Prop)  (S : wS) (a0 : Nat) (x2 : Int32) (x3 : Int64) (t0 : Int32) : Prop :=
((x2 ≤ 0 → wp_X7_place_34 post S a0 x3 t0) ∧
 (¬ x2 ≤ 0 → ((6 < x2 → wp_X7_place_34 post S a0 x3 t0) ∧
 (¬ 6 < x2 → wp_X7_place_35 post S a0 x3 t0 1))))
def wp_X7_place_0 (post : wS → Prop)  (S : wS) (a0 : Nat) (x1 : Int32) (x2 : Int32) : Prop :=
∀ x_1 : Int64, x_1 = (jlshl 1 x1) →
((x2 ≤ 6 → wp_X7_place_18 post S a0 x2 x_1 x2) ∧
 (¬ x2 ≤ 6 → wp_X7_place_18 post S a0 x2 x_1 (x2 - 6)))
abbrev r_X7_place : Room := { frames := 0, cells := 0, slots := 0, locals := 0 }
def wp_X7_place (post : wS → Prop) (S : wS) (a0 : Nat) (x1 : Int32) (x2 : Int32) : Prop := wp_X7_place_0 post S a0 x1 x2
set_option maxHeartbeats 4000000 in
set_option maxRecDepth 100000 in
theorem t_X7_place_152 {p : Program} {l : Launch} {e : Env} {s : State} {m : MethodId} {args : Array Value} {below : List Frame} {meth : Method} {c : Code} {D : va_G} {cy : Nat → ClassId} {X : va_W} {A : Nat → Prop} {S0 : wS} {post : wS → Prop} (F : CallFix p m c cX7_place 7 s args wz_X7_place RX7) (hr : meth.sig.returnType = none) (hlocks : meth.locks = false) (hK : wK D cy s) : ∀ {S : wS} {H : Heap} {locs : List Loc} {ls : Array Slot} {b0 : Nat} {t1 : Int64}, wp_X7_place_152 post S b0 t1 → wO D cy X A s.heap S H locs → wX S0 S → lv_has ls 7 [] → b0 ∈ sL S → sK S b0 = 12 → W p l e r_X7_place s m args below meth c H locs 0 0 (MQ below (va_Qv (fun S9 => wX S0 S9 ∧ post S9) (wB D cy X A) A) args s 0 0 A) (F0 m 152 ls [.long t1, .ref b0]) := by
  obtain ⟨hx, hb, hml, hown, hts⟩ := id F
  have hwg : ∀ w ∈ WG, w.before args s = true := fun w h => hts w (List.mem_cons_of_mem _ h)
  have i_12 : ∀ w ∈ u_ws RX7 TX7 8, w ∈ wz_X7_place := fun w h => List.mem_cons_of_mem _ (wu_12 w h)
  have k_21 := hwg _ wf_RX7_21
  intro S H locs ls b0 t1 hp hW hE hl hL_b0 hK_b0
  unfold wp_X7_place_152 at hp
  refine w_putJ (k := 12) (f := 4) (T := TX7) F hK hW hL_b0 hK_b0 (by decide) rfl rfl (by decide) i_12 tyX7 tyX7_ok nmX7 k_21 rfl rfl rfl dX7_place_152 (fun H locs hW => ?_)
  obtain ⟨S_1, eS_1⟩ : ∃ z : wS, z = uJ S b0 4 t1 := ⟨_, rfl⟩
  rw [← eS_1] at hW
  replace hp := hp S_1 eS_1
  have hX_S_1 : wX S S_1 := by rw [eS_1]; exact wX_uJ
  have hE := hE.trans hX_S_1
  exact w_vret hx hb hr hlocks hK hW ⟨hE, hp⟩ dX7_place_155
set_option maxHeartbeats 4000000 in
set_option maxRecDepth 100000 in
theorem t_X7_place_122 {p : Program} {l : Launch} {e : Env} {s : State} {m : MethodId} {args : Array Value} {below : List Frame} {meth : Method} {c : Code} {D : va_G} {cy : Nat → ClassId} {X : va_W} {A : Nat → Prop} {S0 : wS} {post : wS → Prop} (F : CallFix p m c cX7_place 7 s args wz_X7_place RX7) (hr : meth.sig.returnType = none) (hlocks : meth.locks = false) (hK : wK D cy s) : ∀ {S : wS} {H : Heap} {locs : List Loc} {ls : Array Slot} {a0 : Nat} {x3 : Int64} {x5 : Int32} {b0 : Nat} {t1 : Int64}, wp_X7_place_122 post S a0 x3 x5 b0 t1 → wO D cy X A s.heap S H locs → wX S0 S → lv_has ls 7 [(0, .ref a0), (3, .long x3), (5, .int x5)] → a0 ∈ sL S → sK S a0 = 12 → b0 ∈ sL S → sK S b0 = 12 → W p l e r_X7_place s m args below meth c H locs 0 0 (MQ below (va_Qv (fun S9 => wX S0 S9 ∧ post S9) (wB D cy X A) A) args s 0 0 A) (F0 m 122 ls [.long t1, .ref b0]) := by
  obtain ⟨hx, hb, hml, hown, hts⟩ := id F
  have hwg : ∀ w ∈ WG, w.before args s = true := fun w h => hts w (List.mem_cons_of_mem _ h)
  have i_12 : ∀ w ∈ u_ws RX7 TX7 8, w ∈ wz_X7_place := fun w h => List.mem_cons_of_mem _ (wu_12 w h)
  have k_18 := hwg _ wf_RX7_18
  have k_21 := hwg _ wf_RX7_21
  intro S H locs ls a0 x3 x5 b0 t1 hp hW hE hl hL_a0 hK_a0 hL_b0 hK_b0
  unfold wp_X7_place_122 at hp
  refine w_putJ (k := 12) (f := 3) (T := TX7) F hK hW hL_b0 hK_b0 (by decide) rfl rfl (by decide) i_12 tyX7 tyX7_ok nmX7 k_18 rfl rfl rfl dX7_place_122 (fun H locs hW => ?_)
  obtain ⟨S_1, eS_1⟩ : ∃ z : wS, z = uJ S b0 3 t1 := ⟨_, rfl⟩
  rw [← eS_1] at hW
  replace hp := hp S_1 eS_1
  have hX_S_1 : wX S S_1 := by rw [eS_1]; exact wX_uJ
  have hE := hE.trans hX_S_1
  have hK_a0 : sK S_1 a0 = 12 := (hX_S_1 a0 hL_a0).2.1.trans hK_a0
  have hL_a0 : a0 ∈ sL S_1 := (hX_S_1 a0 hL_a0).1
  refine lv_aload_n hx hb dX7_place_125 rfl (lv_at hl 0 rfl) ?_
  refine lv_iload hx hb dX7_place_126 (lv_at hl 2 rfl) ?_
  refine lv_iconst (v := 4) hx hb dX7_place_128 (by decide) ?_
  refine lv_iand hx hb dX7_place_129 ?_
  refine lv_if_eq (tgt := 142) hx hb dX7_place_130 (by decide) (fun c_2 => ?_) (fun c_2 => ?_)
  · replace hp := hp.1 c_2
    refine lv_aload_n hx hb dX7_place_142 rfl (lv_at hl 0 rfl) ?_
    refine w_get (k := 12) (f := 4) (T := TX7) (v := .long (sJ S_1 a0 4)) F hK hW hL_a0 hK_a0 (by decide) rfl rfl (by decide) i_12 k_21 rfl dX7_place_143 ?_
    refine lv_lload_n hx hb dX7_place_146 rfl (lv_at hl 1 rfl) ?_
    refine lv_ldc2 (v := (-1)) hx hb hown (hwg _ wJ_RX7_70) dX7_place_147 ?_
    refine lv_lxor hx hb dX7_place_150 ?_
    refine lv_land hx hb dX7_place_151 ?_
    exact t_X7_place_152 F hr hlocks hK hp hW hE (lv_sub hl [] rfl) hL_a0 hK_a0
  · replace hp := hp.2 c_2
    refine lv_aload_n hx hb dX7_place_133 rfl (lv_at hl 0 rfl) ?_
    refine w_get (k := 12) (f := 4) (T := TX7) (v := .long (sJ S_1 a0 4)) F hK hW hL_a0 hK_a0 (by decide) rfl rfl (by decide) i_12 k_21 rfl dX7_place_134 ?_
    refine lv_lload_n hx hb dX7_place_137 rfl (lv_at hl 1 rfl) ?_
    refine lv_lor hx hb dX7_place_138 ?_
    refine lv_goto (tgt := 152) hx hb dX7_place_139 (by decide) ?_
    exact t_X7_place_152 F hr hlocks hK hp hW hE (lv_sub hl [] rfl) hL_a0 hK_a0
set_option maxHeartbeats 4000000 in
set_option maxRecDepth 100000 in
theorem t_X7_place_92 {p : Program} {l : Launch} {e : Env} {s : State} {m : MethodId} {args : Array Value} {below : List Frame} {meth : Method} {c : Code} {D : va_G} {cy : Nat → ClassId} {X : va_W} {A : Nat → Prop} {S0 : wS} {post : wS → Prop} (F : CallFix p m c cX7_place 7 s args wz_X7_place RX7) (hr : meth.sig.returnType = none) (hlocks : meth.locks = false) (hK : wK D cy s) : ∀ {S : wS} {H : Heap} {locs : List Loc} {ls : Array Slot} {a0 : Nat} {x3 : Int64} {x5 : Int32} {b0 : Nat} {t1 : Int64}, wp_X7_place_92 post S a0 x3 x5 b0 t1 → wO D cy X A s.heap S H locs → wX S0 S → lv_has ls 7 [(0, .ref a0), (3, .long x3), (5, .int x5)] → a0 ∈ sL S → sK S a0 = 12 → b0 ∈ sL S → sK S b0 = 12 → W p l e r_X7_place s m args below meth c H locs 0 0 (MQ below (va_Qv (fun S9 => wX S0 S9 ∧ post S9) (wB D cy X A) A) args s 0 0 A) (F0 m 92 ls [.long t1, .ref b0]) := by
  obtain ⟨hx, hb, hml, hown, hts⟩ := id F
  have hwg : ∀ w ∈ WG, w.before args s = true := fun w h => hts w (List.mem_cons_of_mem _ h)
  have i_12 : ∀ w ∈ u_ws RX7 TX7 8, w ∈ wz_X7_place := fun w h => List.mem_cons_of_mem _ (wu_12 w h)
  have k_15 := hwg _ wf_RX7_15
  have k_18 := hwg _ wf_RX7_18
  intro S H locs ls a0 x3 x5 b0 t1 hp hW hE hl hL_a0 hK_a0 hL_b0 hK_b0
  unfold wp_X7_place_92 at hp
  refine w_putJ (k := 12) (f := 2) (T := TX7) F hK hW hL_b0 hK_b0 (by decide) rfl rfl (by decide) i_12 tyX7 tyX7_ok nmX7 k_15 rfl rfl rfl dX7_place_92 (fun H locs hW => ?_)
  obtain ⟨S_1, eS_1⟩ : ∃ z : wS, z = uJ S b0 2 t1 := ⟨_, rfl⟩
  rw [← eS_1] at hW
  replace hp := hp S_1 eS_1
  have hX_S_1 : wX S S_1 := by rw [eS_1]; exact wX_uJ
  have hE := hE.trans hX_S_1
  have hK_a0 : sK S_1 a0 = 12 := (hX_S_1 a0 hL_a0).2.1.trans hK_a0
  have hL_a0 : a0 ∈ sL S_1 := (hX_S_1 a0 hL_a0).1
  refine lv_aload_n hx hb dX7_place_95 rfl (lv_at hl 0 rfl) ?_
  refine lv_iload hx hb dX7_place_96 (lv_at hl 2 rfl) ?_
  refine lv_iconst (v := 2) hx hb dX7_place_98 (by decide) ?_
  refine lv_iand hx hb dX7_place_99 ?_
  refine lv_if_eq (tgt := 112) hx hb dX7_place_100 (by decide) (fun c_2 => ?_) (fun c_2 => ?_)
  · replace hp := hp.1 c_2
    refine lv_aload_n hx hb dX7_place_112 rfl (lv_at hl 0 rfl) ?_
    refine w_get (k := 12) (f := 3) (T := TX7) (v := .long (sJ S_1 a0 3)) F hK hW hL_a0 hK_a0 (by decide) rfl rfl (by decide) i_12 k_18 rfl dX7_place_113 ?_
    refine lv_lload_n hx hb dX7_place_116 rfl (lv_at hl 1 rfl) ?_
    refine lv_ldc2 (v := (-1)) hx hb hown (hwg _ wJ_RX7_70) dX7_place_117 ?_
    refine lv_lxor hx hb dX7_place_120 ?_
    refine lv_land hx hb dX7_place_121 ?_
    exact t_X7_place_122 F hr hlocks hK hp hW hE (lv_sub hl [0, 1, 2] rfl) hL_a0 hK_a0 hL_a0 hK_a0
  · replace hp := hp.2 c_2
    refine lv_aload_n hx hb dX7_place_103 rfl (lv_at hl 0 rfl) ?_
    refine w_get (k := 12) (f := 3) (T := TX7) (v := .long (sJ S_1 a0 3)) F hK hW hL_a0 hK_a0 (by decide) rfl rfl (by decide) i_12 k_18 rfl dX7_place_104 ?_
    refine lv_lload_n hx hb dX7_place_107 rfl (lv_at hl 1 rfl) ?_
    refine lv_lor hx hb dX7_place_108 ?_
    refine lv_goto (tgt := 122) hx hb dX7_place_109 (by decide) ?_
    exact t_X7_place_122 F hr hlocks hK hp hW hE (lv_sub hl [0, 1, 2] rfl) hL_a0 hK_a0 hL_a0 hK_a0
set_option maxHeartbeats 4000000 in
set_option maxRecDepth 100000 in
theorem t_X7_place_62 {p : Program} {l : Launch} {e : Env} {s : State} {m : MethodId} {args : Array Value} {below : List Frame} {meth : Method} {c : Code} {D : va_G} {cy : Nat → ClassId} {X : va_W} {A : Nat → Prop} {S0 : wS} {post : wS → Prop} (F : CallFix p m c cX7_place 7 s args wz_X7_place RX7) (hr : meth.sig.returnType = none) (hlocks : meth.locks = false) (hK : wK D cy s) : ∀ {S : wS} {H : Heap} {locs : List Loc} {ls : Array Slot} {a0 : Nat} {x3 : Int64} {x5 : Int32} {b0 : Nat} {t1 : Int64}, wp_X7_place_62 post S a0 x3 x5 b0 t1 → wO D cy X A s.heap S H locs → wX S0 S → lv_has ls 7 [(0, .ref a0), (3, .long x3), (5, .int x5)] → a0 ∈ sL S → sK S a0 = 12 → b0 ∈ sL S → sK S b0 = 12 → W p l e r_X7_place s m args below meth c H locs 0 0 (MQ below (va_Qv (fun S9 => wX S0 S9 ∧ post S9) (wB D cy X A) A) args s 0 0 A) (F0 m 62 ls [.long t1, .ref b0]) := by
  obtain ⟨hx, hb, hml, hown, hts⟩ := id F
  have hwg : ∀ w ∈ WG, w.before args s = true := fun w h => hts w (List.mem_cons_of_mem _ h)
  have i_12 : ∀ w ∈ u_ws RX7 TX7 8, w ∈ wz_X7_place := fun w h => List.mem_cons_of_mem _ (wu_12 w h)
  have k_15 := hwg _ wf_RX7_15
  have k_9 := hwg _ wf_RX7_9
  intro S H locs ls a0 x3 x5 b0 t1 hp hW hE hl hL_a0 hK_a0 hL_b0 hK_b0
  unfold wp_X7_place_62 at hp
  refine w_putJ (k := 12) (f := 1) (T := TX7) F hK hW hL_b0 hK_b0 (by decide) rfl rfl (by decide) i_12 tyX7 tyX7_ok nmX7 k_9 rfl rfl rfl dX7_place_62 (fun H locs hW => ?_)
  obtain ⟨S_1, eS_1⟩ : ∃ z : wS, z = uJ S b0 1 t1 := ⟨_, rfl⟩
  rw [← eS_1] at hW
  replace hp := hp S_1 eS_1
  have hX_S_1 : wX S S_1 := by rw [eS_1]; exact wX_uJ
  have hE := hE.trans hX_S_1
  have hK_a0 : sK S_1 a0 = 12 := (hX_S_1 a0 hL_a0).2.1.trans hK_a0
  have hL_a0 : a0 ∈ sL S_1 := (hX_S_1 a0 hL_a0).1
  refine lv_aload_n hx hb dX7_place_65 rfl (lv_at hl 0 rfl) ?_
  refine lv_iload hx hb dX7_place_66 (lv_at hl 2 rfl) ?_
  refine lv_iconst (v := 1) hx hb dX7_place_68 (by decide) ?_
  refine lv_iand hx hb dX7_place_69 ?_
  refine lv_if_eq (tgt := 82) hx hb dX7_place_70 (by decide) (fun c_2 => ?_) (fun c_2 => ?_)
  · replace hp := hp.1 c_2
    refine lv_aload_n hx hb dX7_place_82 rfl (lv_at hl 0 rfl) ?_
    refine w_get (k := 12) (f := 2) (T := TX7) (v := .long (sJ S_1 a0 2)) F hK hW hL_a0 hK_a0 (by decide) rfl rfl (by decide) i_12 k_15 rfl dX7_place_83 ?_
    refine lv_lload_n hx hb dX7_place_86 rfl (lv_at hl 1 rfl) ?_
    refine lv_ldc2 (v := (-1)) hx hb hown (hwg _ wJ_RX7_70) dX7_place_87 ?_
    refine lv_lxor hx hb dX7_place_90 ?_
    refine lv_land hx hb dX7_place_91 ?_
    exact t_X7_place_92 F hr hlocks hK hp hW hE (lv_sub hl [0, 1, 2] rfl) hL_a0 hK_a0 hL_a0 hK_a0
  · replace hp := hp.2 c_2
    refine lv_aload_n hx hb dX7_place_73 rfl (lv_at hl 0 rfl) ?_
    refine w_get (k := 12) (f := 2) (T := TX7) (v := .long (sJ S_1 a0 2)) F hK hW hL_a0 hK_a0 (by decide) rfl rfl (by decide) i_12 k_15 rfl dX7_place_74 ?_
    refine lv_lload_n hx hb dX7_place_77 rfl (lv_at hl 1 rfl) ?_
    refine lv_lor hx hb dX7_place_78 ?_
    refine lv_goto (tgt := 92) hx hb dX7_place_79 (by decide) ?_
    exact t_X7_place_92 F hr hlocks hK hp hW hE (lv_sub hl [0, 1, 2] rfl) hL_a0 hK_a0 hL_a0 hK_a0
set_option maxHeartbeats 4000000 in
set_option maxRecDepth 100000 in
theorem t_X7_place_35 {p : Program} {l : Launch} {e : Env} {s : State} {m : MethodId} {args : Array Value} {below : List Frame} {meth : Method} {c : Code} {D : va_G} {cy : Nat → ClassId} {X : va_W} {A : Nat → Prop} {S0 : wS} {post : wS → Prop} (F : CallFix p m c cX7_place 7 s args wz_X7_place RX7) (hr : meth.sig.returnType = none) (hlocks : meth.locks = false) (hK : wK D cy s) : ∀ {S : wS} {H : Heap} {locs : List Loc} {ls : Array Slot} {a0 : Nat} {x3 : Int64} {x5 : Int32} {t0 : Int32}, wp_X7_place_35 post S a0 x3 x5 t0 → wO D cy X A s.heap S H locs → wX S0 S → lv_has ls 7 [(0, .ref a0), (3, .long x3), (5, .int x5)] → a0 ∈ sL S → sK S a0 = 12 → W p l e r_X7_place s m args below meth c H locs 0 0 (MQ below (va_Qv (fun S9 => wX S0 S9 ∧ post S9) (wB D cy X A) A) args s 0 0 A) (F0 m 35 ls [.int t0]) := by
  obtain ⟨hx, hb, hml, hown, hts⟩ := id F
  have hwg : ∀ w ∈ WG, w.before args s = true := fun w h => hts w (List.mem_cons_of_mem _ h)
  have i_12 : ∀ w ∈ u_ws RX7 TX7 8, w ∈ wz_X7_place := fun w h => List.mem_cons_of_mem _ (wu_12 w h)
  have k_9 := hwg _ wf_RX7_9
  intro S H locs ls a0 x3 x5 t0 hp hW hE hl hL_a0 hK_a0
  unfold wp_X7_place_35 at hp
  refine lv_istore (lv' := [(6, .int t0), (0, .ref a0), (3, .long x3), (5, .int x5)]) hx hb dX7_place_35 hl (by decide) rfl (fun ls hl => ?_)
  refine lv_aload_n hx hb dX7_place_37 rfl (lv_at hl 1 rfl) ?_
  refine lv_iload hx hb dX7_place_38 (lv_at hl 0 rfl) ?_
  refine lv_if_eq (tgt := 52) hx hb dX7_place_40 (by decide) (fun c_1 => ?_) (fun c_1 => ?_)
  · replace hp := hp.1 c_1
    refine lv_aload_n hx hb dX7_place_52 rfl (lv_at hl 1 rfl) ?_
    refine w_get (k := 12) (f := 1) (T := TX7) (v := .long (sJ S a0 1)) F hK hW hL_a0 hK_a0 (by decide) rfl rfl (by decide) i_12 k_9 rfl dX7_place_53 ?_
    refine lv_lload_n hx hb dX7_place_56 rfl (lv_at hl 2 rfl) ?_
    refine lv_ldc2 (v := (-1)) hx hb hown (hwg _ wJ_RX7_70) dX7_place_57 ?_
    refine lv_lxor hx hb dX7_place_60 ?_
    refine lv_land hx hb dX7_place_61 ?_
    exact t_X7_place_62 F hr hlocks hK hp hW hE (lv_sub hl [1, 2, 3] rfl) hL_a0 hK_a0 hL_a0 hK_a0
  · replace hp := hp.2 c_1
    refine lv_aload_n hx hb dX7_place_43 rfl (lv_at hl 1 rfl) ?_
    refine w_get (k := 12) (f := 1) (T := TX7) (v := .long (sJ S a0 1)) F hK hW hL_a0 hK_a0 (by decide) rfl rfl (by decide) i_12 k_9 rfl dX7_place_44 ?_
    refine lv_lload_n hx hb dX7_place_47 rfl (lv_at hl 2 rfl) ?_
    refine lv_lor hx hb dX7_place_48 ?_
    refine lv_goto (tgt := 62) hx hb dX7_place_49 (by decide) ?_
    exact t_X7_place_62 F hr hlocks hK hp hW hE (lv_sub hl [1, 2, 3] rfl) hL_a0 hK_a0 hL_a0 hK_a0
set_option maxHeartbeats 4000000 in
set_option maxRecDepth 100000 in
theorem t_X7_place_34 {p : Program} {l : Launch} {e : Env} {s : State} {m : MethodId} {args : Array Value} {below : List Frame} {meth : Method} {c : Code} {D : va_G} {cy : Nat → ClassId} {X : va_W} {A : Nat → Prop} {S0 : wS} {post : wS → Prop} (F : CallFix p m c cX7_place 7 s args wz_X7_place RX7) (hr : meth.sig.returnType = none) (hlocks : meth.locks = false) (hK : wK D cy s) : ∀ {S : wS} {H : Heap} {locs : List Loc} {ls : Array Slot} {a0 : Nat} {x3 : Int64} {x5 : Int32}, wp_X7_place_34 post S a0 x3 x5 → wO D cy X A s.heap S H locs → wX S0 S → lv_has ls 7 [(0, .ref a0), (3, .long x3), (5, .int x5)] → a0 ∈ sL S → sK S a0 = 12 → W p l e r_X7_place s m args below meth c H locs 0 0 (MQ below (va_Qv (fun S9 => wX S0 S9 ∧ post S9) (wB D cy X A) A) args s 0 0 A) (F0 m 34 ls []) := by
  obtain ⟨hx, hb, hml, hown, hts⟩ := id F
  have hwg : ∀ w ∈ WG, w.before args s = true := fun w h => hts w (List.mem_cons_of_mem _ h)
  intro S H locs ls a0 x3 x5 hp hW hE hl hL_a0 hK_a0
  unfold wp_X7_place_34 at hp
  refine lv_iconst (v := 0) hx hb dX7_place_34 (by decide) ?_
  exact t_X7_place_35 F hr hlocks hK hp hW hE (lv_sub hl [0, 1, 2] rfl) hL_a0 hK_a0
set_option maxHeartbeats 4000000 in
set_option maxRecDepth 100000 in
theorem t_X7_place_18 {p : Program} {l : Launch} {e : Env} {s : State} {m : MethodId} {args : Array Value} {below : List Frame} {meth : Method} {c : Code} {D : va_G} {cy : Nat → ClassId} {X : va_W} {A : Nat → Prop} {S0 : wS} {post : wS → Prop} (F : CallFix p m c cX7_place 7 s args wz_X7_place RX7) (hr : meth.sig.returnType = none) (hlocks : meth.locks = false) (hK : wK D cy s) : ∀ {S : wS} {H : Heap} {locs : List Loc} {ls : Array Slot} {a0 : Nat} {x2 : Int32} {x3 : Int64} {t0 : Int32}, wp_X7_place_18 post S a0 x2 x3 t0 → wO D cy X A s.heap S H locs → wX S0 S → lv_has ls 7 [(0, .ref a0), (2, .int x2), (3, .long x3)] → a0 ∈ sL S → sK S a0 = 12 → W p l e r_X7_place s m args below meth c H locs 0 0 (MQ below (va_Qv (fun S9 => wX S0 S9 ∧ post S9) (wB D cy X A) A) args s 0 0 A) (F0 m 18 ls [.int t0]) := by
  obtain ⟨hx, hb, hml, hown, hts⟩ := id F
  have hwg : ∀ w ∈ WG, w.before args s = true := fun w h => hts w (List.mem_cons_of_mem _ h)
  intro S H locs ls a0 x2 x3 t0 hp hW hE hl hL_a0 hK_a0
  unfold wp_X7_place_18 at hp
  refine lv_istore (lv' := [(5, .int t0), (0, .ref a0), (2, .int x2), (3, .long x3)]) hx hb dX7_place_18 hl (by decide) rfl (fun ls hl => ?_)
  refine lv_iload_n hx hb dX7_place_20 rfl (lv_at hl 2 rfl) ?_
  refine lv_if_le (tgt := 34) hx hb dX7_place_21 (by decide) (fun c_1 => ?_) (fun c_1 => ?_)
  · replace hp := hp.1 c_1
    exact t_X7_place_34 F hr hlocks hK hp hW hE (lv_sub hl [1, 3, 0] rfl) hL_a0 hK_a0
  · replace hp := hp.2 c_1
    refine lv_iload_n hx hb dX7_place_24 rfl (lv_at hl 2 rfl) ?_
    refine lv_bipush (v := 6) hx hb dX7_place_25 (by decide) ?_
    refine lv_icmp_gt (tgt := 34) hx hb dX7_place_27 (by decide) (fun c_2 => ?_) (fun c_2 => ?_)
    · replace hp := hp.1 c_2
      exact t_X7_place_34 F hr hlocks hK hp hW hE (lv_sub hl [1, 3, 0] rfl) hL_a0 hK_a0
    · replace hp := hp.2 c_2
      refine lv_iconst (v := 1) hx hb dX7_place_30 (by decide) ?_
      refine lv_goto (tgt := 35) hx hb dX7_place_31 (by decide) ?_
      exact t_X7_place_35 F hr hlocks hK hp hW hE (lv_sub hl [1, 3, 0] rfl) hL_a0 hK_a0
set_option maxHeartbeats 4000000 in
set_option maxRecDepth 100000 in
theorem t_X7_place_0 {p : Program} {l : Launch} {e : Env} {s : State} {m : MethodId} {args : Array Value} {below : List Frame} {meth : Method} {c : Code} {D : va_G} {cy : Nat → ClassId} {X : va_W} {A : Nat → Prop} {S0 : wS} {post : wS → Prop} (F : CallFix p m c cX7_place 7 s args wz_X7_place RX7) (hr : meth.sig.returnType = none) (hlocks : meth.locks = false) (hK : wK D cy s) : ∀ {S : wS} {H : Heap} {locs : List Loc} {ls : Array Slot} {a0 : Nat} {x1 : Int32} {x2 : Int32}, wp_X7_place_0 post S a0 x1 x2 → wO D cy X A s.heap S H locs → wX S0 S → lv_has ls 7 [(0, .ref a0), (1, .int x1), (2, .int x2)] → a0 ∈ sL S → sK S a0 = 12 → W p l e r_X7_place s m args below meth c H locs 0 0 (MQ below (va_Qv (fun S9 => wX S0 S9 ∧ post S9) (wB D cy X A) A) args s 0 0 A) (F0 m 0 ls []) := by
  obtain ⟨hx, hb, hml, hown, hts⟩ := id F
  have hwg : ∀ w ∈ WG, w.before args s = true := fun w h => hts w (List.mem_cons_of_mem _ h)
  intro S H locs ls a0 x1 x2 hp hW hE hl hL_a0 hK_a0
  unfold wp_X7_place_0 at hp
  refine lv_lconst (v := 1) hx hb dX7_place_0 (by decide) ?_
  refine lv_iload_n hx hb dX7_place_1 rfl (lv_at hl 1 rfl) ?_
  refine lv_lshl (v := (jlshl 1 x1)) hx hb dX7_place_2 rfl ?_
  refine lv_topl (fun x_1 ex_1 => ?_)
  replace hp := hp x_1 ex_1
  refine lv_lstore_n (lv' := [(3, .long x_1), (0, .ref a0), (1, .int x1), (2, .int x2)]) hx hb dX7_place_3 rfl hl (by decide) rfl (fun ls hl => ?_)
  refine lv_iload_n hx hb dX7_place_4 rfl (lv_at hl 3 rfl) ?_
  refine lv_bipush (v := 6) hx hb dX7_place_5 (by decide) ?_
  refine lv_icmp_le (tgt := 17) hx hb dX7_place_7 (by decide) (fun c_2 => ?_) (fun c_2 => ?_)
  · replace hp := hp.1 c_2
    refine lv_iload_n hx hb dX7_place_17 rfl (lv_at hl 3 rfl) ?_
    exact t_X7_place_18 F hr hlocks hK hp hW hE (lv_sub hl [1, 3, 0] rfl) hL_a0 hK_a0
  · replace hp := hp.2 c_2
    refine lv_iload_n hx hb dX7_place_10 rfl (lv_at hl 3 rfl) ?_
    refine lv_bipush (v := 6) hx hb dX7_place_11 (by decide) ?_
    refine lv_isub hx hb dX7_place_13 ?_
    refine lv_goto (tgt := 18) hx hb dX7_place_14 (by decide) ?_
    exact t_X7_place_18 F hr hlocks hK hp hW hE (lv_sub hl [1, 3, 0] rfl) hL_a0 hK_a0
set_option maxHeartbeats 4000000 in
set_option maxRecDepth 100000 in
theorem c_X7_place (l : Launch) {D : va_G} {cy : Nat → ClassId} {X : va_W} {S0 : wS} {post : wS → Prop} {a0 : Nat} {x1 : Int32} {x2 : Int32} (hL_a0 : a0 ∈ sL S0) (hK_a0 : sK S0 a0 = 12) (hp : wp_X7_place post S0 a0 x1 x2) : mV D cy X l yX7_place wz_X7_place r_X7_place [.ref a0, .int x1, .int x2] S0 (fun S9 => wX S0 S9 ∧ post S9) := by
  intro sz
  refine Met.ofW (cc := cX7_place) (maxL := 7) (ret := none) (by decide) rfl ?_
  intro p e s m args below meth c s₁ B hml hv
  obtain ⟨rfl, hsz, hP, hK, hD0⟩ := hv
  have hts := atoms_spec (ws := wz_X7_place) B.pre
  have hown : s.vm.findClass RX7 = some m.cls := findClass_of_methodNamed B.named
  subst hsz
  have hD := hD0.self (sz := s.heap.size)
  have F : CallFix p m c cX7_place 7 s _ wz_X7_place RX7 := ⟨B.exec, B.bytes, hml, hown, hts⟩
  have hr := B.returns
  have hlocks := B.notSynchronized
  generalize hAe : va_A (wL cy X S0) s.heap.size = A at hD ⊢
  have hA : ∀ q, s.heap.size ≤ q → A q := fun q h => by rw [← hAe]; exact Or.inr h
  have hW : wO D cy X A s.heap S0 s.heap [] := ⟨hP, hD, va_S.rf, hA⟩
  have hl := lv_entry ([.ref a0, .int x1, .int x2]) (n := 7) (Nat.le_of_ble_eq_true rfl)
  rw [lg_entry_eq]
  generalize (lg_sl ([.ref a0, .int x1, .int x2]) ++ List.replicate (7 - (lg_sl ([.ref a0, .int x1, .int x2])).length) Slot.unset).toArray = ls at hl ⊢
  have hl : lv_has ls 7 [(0, .ref a0), (1, .int x1), (2, .int x2)] := hl
  unfold wp_X7_place at hp
  exact t_X7_place_0 F hr hlocks hK hp hW wX.rf (lv_sub hl [0, 1, 2] rfl) hL_a0 hK_a0
def wp_J13_bitCount_95d88_0 (post : Int32 → wS → Prop)  (S : wS) (x0 : Int64) : Prop :=
∀ x_1 : Int64, x_1 = (x0 - ((jlushr x0 1) &&& 6148914691236517205)) →
∀ x_2 : Int64, x_2 = ((x_1 &&& 3689348814741910323) + ((jlushr x_1 2) &&& 3689348814741910323)) →
∀ x_3 : Int64, x_3 = ((x_2 + (jlushr x_2 4)) &&& 1085102592571150095) →
∀ x_4 : Int64, x_4 = (x_3 + (jlushr x_3 8)) →
∀ x_5 : Int64, x_5 = (x_4 + (jlushr x_4 16)) →
∀ x_6 : Int64, x_6 = (x_5 + (jlushr x_5 32)) →
post ((Int64.toInt32 x_6) &&& 127) S
abbrev r_J13_bitCount_95d88 : Room := { frames := 0, cells := 0, slots := 0, locals := 0 }
def wp_J13_bitCount_95d88 (post : Int32 → wS → Prop) (S : wS) (x0 : Int64) : Prop := wp_J13_bitCount_95d88_0 post S x0
set_option maxHeartbeats 4000000 in
set_option maxRecDepth 100000 in
theorem t_J13_bitCount_95d88_0 {p : Program} {l : Launch} {e : Env} {s : State} {m : MethodId} {args : Array Value} {below : List Frame} {meth : Method} {c : Code} {D : va_G} {cy : Nat → ClassId} {X : va_W} {A : Nat → Prop} {S0 : wS} {post : Int32 → wS → Prop} (F : CallFix p m c cJ13_bitCount_95d88 2 s args wz_J13_bitCount_95d88 RJ13) (hr : meth.sig.returnType = (some .int)) (hlocks : meth.locks = false) (hK : wK D cy s) : ∀ {S : wS} {H : Heap} {locs : List Loc} {ls : Array Slot} {x0 : Int64}, wp_J13_bitCount_95d88_0 post S x0 → wO D cy X A s.heap S H locs → wX S0 S → lv_has ls 2 [(0, .long x0)] → W p l e r_J13_bitCount_95d88 s m args below meth c H locs 0 0 (MQ below (va_Qi (fun r S9 => wX S0 S9 ∧ post r S9) (wB D cy X A) A) args s 0 0 A) (F0 m 0 ls []) := by
  obtain ⟨hx, hb, hml, hown, hts⟩ := id F
  have hwg : ∀ w ∈ WG, w.before args s = true := fun w h => hts w (List.mem_cons_of_mem _ h)
  intro S H locs ls x0 hp hW hE hl
  unfold wp_J13_bitCount_95d88_0 at hp
  refine lv_lload_n hx hb dJ13_bitCount_95d88_0 rfl (lv_at hl 0 rfl) ?_
  refine lv_lload_n hx hb dJ13_bitCount_95d88_1 rfl (lv_at hl 0 rfl) ?_
  refine lv_iconst (v := 1) hx hb dJ13_bitCount_95d88_2 (by decide) ?_
  refine lv_lushr (v := (jlushr x0 1)) hx hb dJ13_bitCount_95d88_3 rfl ?_
  refine lv_ldc2 (v := 6148914691236517205) hx hb hown (hwg _ wJ_RJ13_314) dJ13_bitCount_95d88_4 ?_
  refine lv_land hx hb dJ13_bitCount_95d88_7 ?_
  refine lv_lsub hx hb dJ13_bitCount_95d88_8 ?_
  refine lv_topl (fun x_1 ex_1 => ?_)
  replace hp := hp x_1 ex_1
  refine lv_lstore_n (lv' := [(0, .long x_1)]) hx hb dJ13_bitCount_95d88_9 rfl hl (by decide) rfl (fun ls hl => ?_)
  refine lv_lload_n hx hb dJ13_bitCount_95d88_10 rfl (lv_at hl 0 rfl) ?_
  refine lv_ldc2 (v := 3689348814741910323) hx hb hown (hwg _ wJ_RJ13_316) dJ13_bitCount_95d88_11 ?_
  refine lv_land hx hb dJ13_bitCount_95d88_14 ?_
  refine lv_lload_n hx hb dJ13_bitCount_95d88_15 rfl (lv_at hl 0 rfl) ?_
  refine lv_iconst (v := 2) hx hb dJ13_bitCount_95d88_16 (by decide) ?_
  refine lv_lushr (v := (jlushr x_1 2)) hx hb dJ13_bitCount_95d88_17 rfl ?_
  refine lv_ldc2 (v := 3689348814741910323) hx hb hown (hwg _ wJ_RJ13_316) dJ13_bitCount_95d88_18 ?_
  refine lv_land hx hb dJ13_bitCount_95d88_21 ?_
  refine lv_ladd hx hb dJ13_bitCount_95d88_22 ?_
  refine lv_topl (fun x_2 ex_2 => ?_)
  replace hp := hp x_2 ex_2
  refine lv_lstore_n (lv' := [(0, .long x_2)]) hx hb dJ13_bitCount_95d88_23 rfl hl (by decide) rfl (fun ls hl => ?_)
  refine lv_lload_n hx hb dJ13_bitCount_95d88_24 rfl (lv_at hl 0 rfl) ?_
  refine lv_lload_n hx hb dJ13_bitCount_95d88_25 rfl (lv_at hl 0 rfl) ?_
  refine lv_iconst (v := 4) hx hb dJ13_bitCount_95d88_26 (by decide) ?_
  refine lv_lushr (v := (jlushr x_2 4)) hx hb dJ13_bitCount_95d88_27 rfl ?_
  refine lv_ladd hx hb dJ13_bitCount_95d88_28 ?_
  refine lv_ldc2 (v := 1085102592571150095) hx hb hown (hwg _ wJ_RJ13_318) dJ13_bitCount_95d88_29 ?_
  refine lv_land hx hb dJ13_bitCount_95d88_32 ?_
  refine lv_topl (fun x_3 ex_3 => ?_)
  replace hp := hp x_3 ex_3
  refine lv_lstore_n (lv' := [(0, .long x_3)]) hx hb dJ13_bitCount_95d88_33 rfl hl (by decide) rfl (fun ls hl => ?_)
  refine lv_lload_n hx hb dJ13_bitCount_95d88_34 rfl (lv_at hl 0 rfl) ?_
  refine lv_lload_n hx hb dJ13_bitCount_95d88_35 rfl (lv_at hl 0 rfl) ?_
  refine lv_bipush (v := 8) hx hb dJ13_bitCount_95d88_36 (by decide) ?_
  refine lv_lushr (v := (jlushr x_3 8)) hx hb dJ13_bitCount_95d88_38 rfl ?_
  refine lv_ladd hx hb dJ13_bitCount_95d88_39 ?_
  refine lv_topl (fun x_4 ex_4 => ?_)
  replace hp := hp x_4 ex_4
  refine lv_lstore_n (lv' := [(0, .long x_4)]) hx hb dJ13_bitCount_95d88_40 rfl hl (by decide) rfl (fun ls hl => ?_)
  refine lv_lload_n hx hb dJ13_bitCount_95d88_41 rfl (lv_at hl 0 rfl) ?_
  refine lv_lload_n hx hb dJ13_bitCount_95d88_42 rfl (lv_at hl 0 rfl) ?_
  refine lv_bipush (v := 16) hx hb dJ13_bitCount_95d88_43 (by decide) ?_
  refine lv_lushr (v := (jlushr x_4 16)) hx hb dJ13_bitCount_95d88_45 rfl ?_
  refine lv_ladd hx hb dJ13_bitCount_95d88_46 ?_
  refine lv_topl (fun x_5 ex_5 => ?_)
  replace hp := hp x_5 ex_5
  refine lv_lstore_n (lv' := [(0, .long x_5)]) hx hb dJ13_bitCount_95d88_47 rfl hl (by decide) rfl (fun ls hl => ?_)
  refine lv_lload_n hx hb dJ13_bitCount_95d88_48 rfl (lv_at hl 0 rfl) ?_
  refine lv_lload_n hx hb dJ13_bitCount_95d88_49 rfl (lv_at hl 0 rfl) ?_
  refine lv_bipush (v := 32) hx hb dJ13_bitCount_95d88_50 (by decide) ?_
  refine lv_lushr (v := (jlushr x_5 32)) hx hb dJ13_bitCount_95d88_52 rfl ?_
  refine lv_ladd hx hb dJ13_bitCount_95d88_53 ?_
  refine lv_topl (fun x_6 ex_6 => ?_)
  replace hp := hp x_6 ex_6
  refine lv_lstore_n (lv' := [(0, .long x_6)]) hx hb dJ13_bitCount_95d88_54 rfl hl (by decide) rfl (fun ls hl => ?_)
  refine lv_lload_n hx hb dJ13_bitCount_95d88_55 rfl (lv_at hl 0 rfl) ?_
  refine lv_l2i (v := (Int64.toInt32 x_6)) hx hb dJ13_bitCount_95d88_56 rfl ?_
  refine lv_bipush (v := 127) hx hb dJ13_bitCount_95d88_57 (by decide) ?_
  refine lv_iand hx hb dJ13_bitCount_95d88_59 ?_
  exact w_iret hx hb hr hlocks hK hW ⟨hE, hp⟩ dJ13_bitCount_95d88_60
set_option maxHeartbeats 4000000 in
set_option maxRecDepth 100000 in
theorem c_J13_bitCount_95d88 (l : Launch) {D : va_G} {cy : Nat → ClassId} {X : va_W} {S0 : wS} {post : Int32 → wS → Prop} {x0 : Int64} (hp : wp_J13_bitCount_95d88 post S0 x0) : mI D cy X l yJ13_bitCount_95d88 wz_J13_bitCount_95d88 r_J13_bitCount_95d88 [.long x0] S0 (fun r S9 => wX S0 S9 ∧ post r S9) := by
  intro sz
  refine Met.ofW (cc := cJ13_bitCount_95d88) (maxL := 2) (ret := (some .int)) (by decide) rfl ?_
  intro p e s m args below meth c s₁ B hml hv
  obtain ⟨rfl, hsz, hP, hK, hD0⟩ := hv
  have hts := atoms_spec (ws := wz_J13_bitCount_95d88) B.pre
  have hown : s.vm.findClass RJ13 = some m.cls := findClass_of_methodNamed B.named
  subst hsz
  have hD := hD0.self (sz := s.heap.size)
  have F : CallFix p m c cJ13_bitCount_95d88 2 s _ wz_J13_bitCount_95d88 RJ13 := ⟨B.exec, B.bytes, hml, hown, hts⟩
  have hr := B.returns
  have hlocks := B.notSynchronized
  generalize hAe : va_A (wL cy X S0) s.heap.size = A at hD ⊢
  have hA : ∀ q, s.heap.size ≤ q → A q := fun q h => by rw [← hAe]; exact Or.inr h
  have hW : wO D cy X A s.heap S0 s.heap [] := ⟨hP, hD, va_S.rf, hA⟩
  have hl := lv_entry ([.long x0]) (n := 2) (Nat.le_of_ble_eq_true rfl)
  rw [lg_entry_eq]
  generalize (lg_sl ([.long x0]) ++ List.replicate (2 - (lg_sl ([.long x0])).length) Slot.unset).toArray = ls at hl ⊢
  have hl : lv_has ls 2 [(0, .long x0)] := hl
  unfold wp_J13_bitCount_95d88 at hp
  exact t_J13_bitCount_95d88_0 F hr hlocks hK hp hW wX.rf (lv_sub hl [0] rfl)
def wp_X11_lowest_0 (post : Int32 → wS → Prop)  (S : wS) (x0 : Int64) : Prop :=
wp_J13_bitCount_95d88 (fun r_1 S_2 => 
post r_1 S_2) S ((x0 &&& (-x0)) - 1)
abbrev r_X11_lowest : Room := { frames := 1, cells := 0, slots := 0, locals := 21 }
def wp_X11_lowest (post : Int32 → wS → Prop) (S : wS) (x0 : Int64) : Prop := wp_X11_lowest_0 post S x0
set_option maxHeartbeats 4000000 in
set_option maxRecDepth 100000 in
theorem t_X11_lowest_0 {p : Program} {l : Launch} {e : Env} {s : State} {m : MethodId} {args : Array Value} {below : List Frame} {meth : Method} {c : Code} {D : va_G} {cy : Nat → ClassId} {X : va_W} {A : Nat → Prop} {S0 : wS} {post : Int32 → wS → Prop} (F : CallFix p m c cX11_lowest 2 s args wz_X11_lowest RX11) (hr : meth.sig.returnType = (some .int)) (hlocks : meth.locks = false) (hK : wK D cy s) : ∀ {S : wS} {H : Heap} {locs : List Loc} {ls : Array Slot} {x0 : Int64}, wp_X11_lowest_0 post S x0 → wO D cy X A s.heap S H locs → wX S0 S → lv_has ls 2 [(0, .long x0)] → W p l e r_X11_lowest s m args below meth c H locs 0 0 (MQ below (va_Qi (fun r S9 => wX S0 S9 ∧ post r S9) (wB D cy X A) A) args s 0 0 A) (F0 m 0 ls []) := by
  obtain ⟨hx, hb, hml, hown, hts⟩ := id F
  have hwg : ∀ w ∈ WG, w.before args s = true := fun w h => hts w (List.mem_cons_of_mem _ h)
  intro S H locs ls x0 hp hW hE hl
  unfold wp_X11_lowest_0 at hp
  refine lv_lload_n hx hb dX11_lowest_0 rfl (lv_at hl 0 rfl) ?_
  refine lv_lload_n hx hb dX11_lowest_1 rfl (lv_at hl 0 rfl) ?_
  refine lv_lneg hx hb dX11_lowest_2 ?_
  refine lv_land hx hb dX11_lowest_3 ?_
  refine lv_lconst (v := 1) hx hb dX11_lowest_4 (by decide) ?_
  refine lv_lsub hx hb dX11_lowest_5 ?_
  refine w_callI (va_runS (As := [.long ((x0 &&& (-x0)) - 1)]) (rest := []) F (c_J13_bitCount_95d88 l hp H.size) (va_cwS 1 hts (wg_S wm_RX11_203 wy_J13_bitCount_95d88) rfl rfl rfl (by decide +kernel) ⟨Nat.le_of_ble_eq_true rfl, Nat.le_of_ble_eq_true rfl⟩) (w_preS hK hW) rfl rfl hl.1 rfl (lv_room (Nat.le_of_ble_eq_true rfl)) dX11_lowest_6 ⟨Nat.le_of_ble_eq_true rfl, Nat.le_of_ble_eq_true rfl⟩) hW (fun r_1 S_2 H locs hp hW => ?_)
  obtain ⟨hX_S_2, hp⟩ := hp
  refine W.widen (k := 0) (n := 0) (Nat.le_refl 0) (Nat.le_refl 0) ?_
  have hE := hE.trans hX_S_2
  exact w_iret hx hb hr hlocks hK hW ⟨hE, hp⟩ dX11_lowest_9
set_option maxHeartbeats 4000000 in
set_option maxRecDepth 100000 in
theorem c_X11_lowest (l : Launch) {D : va_G} {cy : Nat → ClassId} {X : va_W} {S0 : wS} {post : Int32 → wS → Prop} {x0 : Int64} (hp : wp_X11_lowest post S0 x0) : mI D cy X l yX11_lowest wz_X11_lowest r_X11_lowest [.long x0] S0 (fun r S9 => wX S0 S9 ∧ post r S9) := by
  intro sz
  refine Met.ofW (cc := cX11_lowest) (maxL := 2) (ret := (some .int)) (by decide) rfl ?_
  intro p e s m args below meth c s₁ B hml hv
  obtain ⟨rfl, hsz, hP, hK, hD0⟩ := hv
  have hts := atoms_spec (ws := wz_X11_lowest) B.pre
  have hown : s.vm.findClass RX11 = some m.cls := findClass_of_methodNamed B.named
  subst hsz
  have hD := hD0.self (sz := s.heap.size)
  have F : CallFix p m c cX11_lowest 2 s _ wz_X11_lowest RX11 := ⟨B.exec, B.bytes, hml, hown, hts⟩
  have hr := B.returns
  have hlocks := B.notSynchronized
  generalize hAe : va_A (wL cy X S0) s.heap.size = A at hD ⊢
  have hA : ∀ q, s.heap.size ≤ q → A q := fun q h => by rw [← hAe]; exact Or.inr h
  have hW : wO D cy X A s.heap S0 s.heap [] := ⟨hP, hD, va_S.rf, hA⟩
  have hl := lv_entry ([.long x0]) (n := 2) (Nat.le_of_ble_eq_true rfl)
  rw [lg_entry_eq]
  generalize (lg_sl ([.long x0]) ++ List.replicate (2 - (lg_sl ([.long x0])).length) Slot.unset).toArray = ls at hl ⊢
  have hl : lv_has ls 2 [(0, .long x0)] := hl
  unfold wp_X11_lowest at hp
  exact t_X11_lowest_0 F hr hlocks hK hp hW wX.rf (lv_sub hl [0] rfl)
