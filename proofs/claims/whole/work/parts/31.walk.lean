theorem dX11_asked_0 : decode cX11_asked 0 = .ok (.aload_n 0, 1) := by decide +kernel
theorem dX11_asked_1 : decode cX11_asked 1 = .ok (.invokevirtual 474, 3) := by decide +kernel
theorem dX11_asked_4 : decode cX11_asked 4 = .ok (.ireturn, 1) := by decide +kernel
theorem dX11_clearText_0 : decode cX11_clearText 0 = .ok (.aload_n 0, 1) := by decide +kernel
theorem dX11_clearText_1 : decode cX11_clearText 1 = .ok (.getfield 105, 3) := by decide +kernel
theorem dX11_clearText_4 : decode cX11_clearText 4 = .ok (.invokevirtual 232, 3) := by decide +kernel
theorem dX11_clearText_7 : decode cX11_clearText 7 = .ok (.istore_n 1, 1) := by decide +kernel
theorem dX11_clearText_8 : decode cX11_clearText 8 = .ok (.aload_n 0, 1) := by decide +kernel
theorem dX11_clearText_9 : decode cX11_clearText 9 = .ok (.getfield 105, 3) := by decide +kernel
theorem dX11_clearText_12 : decode cX11_clearText 12 = .ok (.iconst 0, 1) := by decide +kernel
theorem dX11_clearText_13 : decode cX11_clearText 13 = .ok (.invokevirtual 191, 3) := by decide +kernel
theorem dX11_clearText_16 : decode cX11_clearText 16 = .ok (.iload_n 1, 1) := by decide +kernel
theorem dX11_clearText_17 : decode cX11_clearText 17 = .ok (.ireturn, 1) := by decide +kernel
theorem dX4_plainWord_0 : decode cX4_plainWord 0 = .ok (.aload_n 0, 1) := by decide +kernel
theorem dX4_plainWord_1 : decode cX4_plainWord 1 = .ok (.iload_n 1, 1) := by decide +kernel
theorem dX4_plainWord_2 : decode cX4_plainWord 2 = .ok (.invokevirtual 65, 3) := by decide +kernel
theorem dX4_plainWord_5 : decode cX4_plainWord 5 = .ok (.istore_n 2, 1) := by decide +kernel
theorem dX4_plainWord_6 : decode cX4_plainWord 6 = .ok (.iload_n 2, 1) := by decide +kernel
theorem dX4_plainWord_7 : decode cX4_plainWord 7 = .ok (.invokestatic 68, 3) := by decide +kernel
theorem dX4_plainWord_10 : decode cX4_plainWord 10 = .ok (.istore_n 3, 1) := by decide +kernel
theorem dX4_plainWord_11 : decode cX4_plainWord 11 = .ok (.iload_n 2, 1) := by decide +kernel
theorem dX4_plainWord_12 : decode cX4_plainWord 12 = .ok (.invokestatic 71, 3) := by decide +kernel
theorem dX4_plainWord_15 : decode cX4_plainWord 15 = .ok (.istore 4, 2) := by decide +kernel
theorem dX4_plainWord_17 : decode cX4_plainWord 17 = .ok (.aload_n 0, 1) := by decide +kernel
theorem dX4_plainWord_18 : decode cX4_plainWord 18 = .ok (.getfield 40, 3) := by decide +kernel
theorem dX4_plainWord_21 : decode cX4_plainWord 21 = .ok (.iload_n 3, 1) := by decide +kernel
theorem dX4_plainWord_22 : decode cX4_plainWord 22 = .ok (.invokevirtual 74, 3) := by decide +kernel
theorem dX4_plainWord_25 : decode cX4_plainWord 25 = .ok (.istore 5, 2) := by decide +kernel
theorem dX4_plainWord_27 : decode cX4_plainWord 27 = .ok (.iload 5, 2) := by decide +kernel
theorem dX4_plainWord_29 : decode cX4_plainWord 29 = .ok (.iconst 1, 1) := by decide +kernel
theorem dX4_plainWord_30 : decode cX4_plainWord 30 = .ok (.if_icmp .ne 15, 3) := by decide +kernel
theorem dX4_plainWord_33 : decode cX4_plainWord 33 = .ok (.iload 4, 2) := by decide +kernel
theorem dX4_plainWord_35 : decode cX4_plainWord 35 = .ok (.iload_n 3, 1) := by decide +kernel
theorem dX4_plainWord_36 : decode cX4_plainWord 36 = .ok (.isub, 1) := by decide +kernel
theorem dX4_plainWord_37 : decode cX4_plainWord 37 = .ok (.iconst 2, 1) := by decide +kernel
theorem dX4_plainWord_38 : decode cX4_plainWord 38 = .ok (.if_icmp .ne 7, 3) := by decide +kernel
theorem dX4_plainWord_41 : decode cX4_plainWord 41 = .ok (.ldc2_w 77, 3) := by decide +kernel
theorem dX4_plainWord_44 : decode cX4_plainWord 44 = .ok (.lreturn, 1) := by decide +kernel
theorem dX4_plainWord_45 : decode cX4_plainWord 45 = .ok (.iload 5, 2) := by decide +kernel
theorem dX4_plainWord_47 : decode cX4_plainWord 47 = .ok (.iconst 1, 1) := by decide +kernel
theorem dX4_plainWord_48 : decode cX4_plainWord 48 = .ok (.if_icmp .ne 15, 3) := by decide +kernel
theorem dX4_plainWord_51 : decode cX4_plainWord 51 = .ok (.iload_n 3, 1) := by decide +kernel
theorem dX4_plainWord_52 : decode cX4_plainWord 52 = .ok (.iload 4, 2) := by decide +kernel
theorem dX4_plainWord_54 : decode cX4_plainWord 54 = .ok (.isub, 1) := by decide +kernel
theorem dX4_plainWord_55 : decode cX4_plainWord 55 = .ok (.iconst 2, 1) := by decide +kernel
theorem dX4_plainWord_56 : decode cX4_plainWord 56 = .ok (.if_icmp .ne 7, 3) := by decide +kernel
theorem dX4_plainWord_59 : decode cX4_plainWord 59 = .ok (.ldc2_w 79, 3) := by decide +kernel
theorem dX4_plainWord_62 : decode cX4_plainWord 62 = .ok (.lreturn, 1) := by decide +kernel
theorem dX4_plainWord_63 : decode cX4_plainWord 63 = .ok (.aload_n 0, 1) := by decide +kernel
theorem dX4_plainWord_64 : decode cX4_plainWord 64 = .ok (.getfield 40, 3) := by decide +kernel
theorem dX4_plainWord_67 : decode cX4_plainWord 67 = .ok (.iload 4, 2) := by decide +kernel
theorem dX4_plainWord_69 : decode cX4_plainWord 69 = .ok (.invokevirtual 74, 3) := by decide +kernel
theorem dX4_plainWord_72 : decode cX4_plainWord 72 = .ok (.ifCond .ne 22, 3) := by decide +kernel
theorem dX4_plainWord_75 : decode cX4_plainWord 75 = .ok (.iload 5, 2) := by decide +kernel
theorem dX4_plainWord_77 : decode cX4_plainWord 77 = .ok (.bipush 6, 2) := by decide +kernel
theorem dX4_plainWord_79 : decode cX4_plainWord 79 = .ok (.if_icmp .ne 19, 3) := by decide +kernel
theorem dX4_plainWord_82 : decode cX4_plainWord 82 = .ok (.iload 4, 2) := by decide +kernel
theorem dX4_plainWord_84 : decode cX4_plainWord 84 = .ok (.aload_n 0, 1) := by decide +kernel
theorem dX4_plainWord_85 : decode cX4_plainWord 85 = .ok (.getfield 40, 3) := by decide +kernel
theorem dX4_plainWord_88 : decode cX4_plainWord 88 = .ok (.getfield 81, 3) := by decide +kernel
theorem dX4_plainWord_91 : decode cX4_plainWord 91 = .ok (.if_icmp .ne 7, 3) := by decide +kernel
theorem dX4_plainWord_94 : decode cX4_plainWord 94 = .ok (.iconst 1, 1) := by decide +kernel
theorem dX4_plainWord_95 : decode cX4_plainWord 95 = .ok (.goto 4, 3) := by decide +kernel
theorem dX4_plainWord_98 : decode cX4_plainWord 98 = .ok (.iconst 0, 1) := by decide +kernel
theorem dX4_plainWord_99 : decode cX4_plainWord 99 = .ok (.istore 6, 2) := by decide +kernel
theorem dX4_plainWord_101 : decode cX4_plainWord 101 = .ok (.lconst 0, 1) := by decide +kernel
theorem dX4_plainWord_102 : decode cX4_plainWord 102 = .ok (.lstore 7, 2) := by decide +kernel
theorem dX4_plainWord_104 : decode cX4_plainWord 104 = .ok (.iload 5, 2) := by decide +kernel
theorem dX4_plainWord_106 : decode cX4_plainWord 106 = .ok (.bipush 6, 2) := by decide +kernel
theorem dX4_plainWord_108 : decode cX4_plainWord 108 = .ok (.if_icmp .ne 22, 3) := by decide +kernel
theorem dX4_plainWord_111 : decode cX4_plainWord 111 = .ok (.iload 6, 2) := by decide +kernel
theorem dX4_plainWord_113 : decode cX4_plainWord 113 = .ok (.ifCond .eq 11, 3) := by decide +kernel
theorem dX4_plainWord_116 : decode cX4_plainWord 116 = .ok (.aload_n 0, 1) := by decide +kernel
theorem dX4_plainWord_117 : decode cX4_plainWord 117 = .ok (.iload_n 3, 1) := by decide +kernel
theorem dX4_plainWord_118 : decode cX4_plainWord 118 = .ok (.invokevirtual 84, 3) := by decide +kernel
theorem dX4_plainWord_121 : decode cX4_plainWord 121 = .ok (.goto 4, 3) := by decide +kernel
theorem dX4_plainWord_124 : decode cX4_plainWord 124 = .ok (.lconst 0, 1) := by decide +kernel
theorem dX4_plainWord_125 : decode cX4_plainWord 125 = .ok (.lstore 7, 2) := by decide +kernel
theorem dX4_plainWord_127 : decode cX4_plainWord 127 = .ok (.goto 30, 3) := by decide +kernel
theorem dX4_plainWord_130 : decode cX4_plainWord 130 = .ok (.iload 5, 2) := by decide +kernel
theorem dX4_plainWord_132 : decode cX4_plainWord 132 = .ok (.ldc 87, 2) := by decide +kernel
theorem dX4_plainWord_134 : decode cX4_plainWord 134 = .ok (.invokevirtual 89, 3) := by decide +kernel
theorem dX4_plainWord_137 : decode cX4_plainWord 137 = .ok (.if_icmp .ge 20, 3) := by decide +kernel
theorem dX4_plainWord_140 : decode cX4_plainWord 140 = .ok (.aload_n 0, 1) := by decide +kernel
theorem dX4_plainWord_141 : decode cX4_plainWord 141 = .ok (.ldc 87, 2) := by decide +kernel
theorem dX4_plainWord_143 : decode cX4_plainWord 143 = .ok (.iload 5, 2) := by decide +kernel
theorem dX4_plainWord_145 : decode cX4_plainWord 145 = .ok (.invokevirtual 95, 3) := by decide +kernel
theorem dX4_plainWord_148 : decode cX4_plainWord 148 = .ok (.i2l, 1) := by decide +kernel
theorem dX4_plainWord_149 : decode cX4_plainWord 149 = .ok (.iload_n 2, 1) := by decide +kernel
theorem dX4_plainWord_150 : decode cX4_plainWord 150 = .ok (.iload 5, 2) := by decide +kernel
theorem dX4_plainWord_152 : decode cX4_plainWord 152 = .ok (.invokevirtual 99, 3) := by decide +kernel
theorem dX4_plainWord_155 : decode cX4_plainWord 155 = .ok (.lstore 7, 2) := by decide +kernel
theorem dX4_plainWord_157 : decode cX4_plainWord 157 = .ok (.iload 6, 2) := by decide +kernel
theorem dX4_plainWord_159 : decode cX4_plainWord 159 = .ok (.ifCond .eq 14, 3) := by decide +kernel
theorem dX4_plainWord_162 : decode cX4_plainWord 162 = .ok (.lload 7, 2) := by decide +kernel
theorem dX4_plainWord_164 : decode cX4_plainWord 164 = .ok (.bipush 8, 2) := by decide +kernel
theorem dX4_plainWord_166 : decode cX4_plainWord 166 = .ok (.lshl, 1) := by decide +kernel
theorem dX4_plainWord_167 : decode cX4_plainWord 167 = .ok (.ldc2_w 103, 3) := by decide +kernel
theorem dX4_plainWord_170 : decode cX4_plainWord 170 = .ok (.lor, 1) := by decide +kernel
theorem dX4_plainWord_171 : decode cX4_plainWord 171 = .ok (.lstore 7, 2) := by decide +kernel
theorem dX4_plainWord_173 : decode cX4_plainWord 173 = .ok (.lload 7, 2) := by decide +kernel
theorem dX4_plainWord_175 : decode cX4_plainWord 175 = .ok (.bipush 16, 2) := by decide +kernel
theorem dX4_plainWord_177 : decode cX4_plainWord 177 = .ok (.lshl, 1) := by decide +kernel
theorem dX4_plainWord_178 : decode cX4_plainWord 178 = .ok (.aload_n 0, 1) := by decide +kernel
theorem dX4_plainWord_179 : decode cX4_plainWord 179 = .ok (.iload 4, 2) := by decide +kernel
theorem dX4_plainWord_181 : decode cX4_plainWord 181 = .ok (.invokevirtual 84, 3) := by decide +kernel
theorem dX4_plainWord_184 : decode cX4_plainWord 184 = .ok (.bipush 8, 2) := by decide +kernel
theorem dX4_plainWord_186 : decode cX4_plainWord 186 = .ok (.lshl, 1) := by decide +kernel
theorem dX4_plainWord_187 : decode cX4_plainWord 187 = .ok (.lor, 1) := by decide +kernel
theorem dX4_plainWord_188 : decode cX4_plainWord 188 = .ok (.aload_n 0, 1) := by decide +kernel
theorem dX4_plainWord_189 : decode cX4_plainWord 189 = .ok (.iload 4, 2) := by decide +kernel
theorem dX4_plainWord_191 : decode cX4_plainWord 191 = .ok (.invokevirtual 105, 3) := by decide +kernel
theorem dX4_plainWord_194 : decode cX4_plainWord 194 = .ok (.lor, 1) := by decide +kernel
theorem dX4_plainWord_195 : decode cX4_plainWord 195 = .ok (.lstore 7, 2) := by decide +kernel
theorem dX4_plainWord_197 : decode cX4_plainWord 197 = .ok (.iload_n 2, 1) := by decide +kernel
theorem dX4_plainWord_198 : decode cX4_plainWord 198 = .ok (.invokestatic 108, 3) := by decide +kernel
theorem dX4_plainWord_201 : decode cX4_plainWord 201 = .ok (.istore 9, 2) := by decide +kernel
theorem dX4_plainWord_203 : decode cX4_plainWord 203 = .ok (.iload 9, 2) := by decide +kernel
theorem dX4_plainWord_205 : decode cX4_plainWord 205 = .ok (.ifCond .le 33, 3) := by decide +kernel
theorem dX4_plainWord_208 : decode cX4_plainWord 208 = .ok (.iload 9, 2) := by decide +kernel
theorem dX4_plainWord_210 : decode cX4_plainWord 210 = .ok (.ldc 87, 2) := by decide +kernel
theorem dX4_plainWord_212 : decode cX4_plainWord 212 = .ok (.invokevirtual 89, 3) := by decide +kernel
theorem dX4_plainWord_215 : decode cX4_plainWord 215 = .ok (.if_icmp .ge 23, 3) := by decide +kernel
theorem dX4_plainWord_218 : decode cX4_plainWord 218 = .ok (.lload 7, 2) := by decide +kernel
theorem dX4_plainWord_220 : decode cX4_plainWord 220 = .ok (.bipush 16, 2) := by decide +kernel
theorem dX4_plainWord_222 : decode cX4_plainWord 222 = .ok (.lshl, 1) := by decide +kernel
theorem dX4_plainWord_223 : decode cX4_plainWord 223 = .ok (.ldc2_w 111, 3) := by decide +kernel
theorem dX4_plainWord_226 : decode cX4_plainWord 226 = .ok (.lor, 1) := by decide +kernel
theorem dX4_plainWord_227 : decode cX4_plainWord 227 = .ok (.ldc 87, 2) := by decide +kernel
theorem dX4_plainWord_229 : decode cX4_plainWord 229 = .ok (.iload 9, 2) := by decide +kernel
theorem dX4_plainWord_231 : decode cX4_plainWord 231 = .ok (.invokevirtual 95, 3) := by decide +kernel
theorem dX4_plainWord_234 : decode cX4_plainWord 234 = .ok (.i2l, 1) := by decide +kernel
theorem dX4_plainWord_235 : decode cX4_plainWord 235 = .ok (.lor, 1) := by decide +kernel
theorem dX4_plainWord_236 : decode cX4_plainWord 236 = .ok (.lstore 7, 2) := by decide +kernel
theorem dX4_plainWord_238 : decode cX4_plainWord 238 = .ok (.lload 7, 2) := by decide +kernel
theorem dX4_plainWord_240 : decode cX4_plainWord 240 = .ok (.lreturn, 1) := by decide +kernel
theorem dX4_wordOf_0 : decode cX4_wordOf 0 = .ok (.aload_n 0, 1) := by decide +kernel
theorem dX4_wordOf_1 : decode cX4_wordOf 1 = .ok (.iload_n 1, 1) := by decide +kernel
theorem dX4_wordOf_2 : decode cX4_wordOf 2 = .ok (.invokevirtual 57, 3) := by decide +kernel
theorem dX4_wordOf_5 : decode cX4_wordOf 5 = .ok (.lstore_n 2, 1) := by decide +kernel
theorem dX4_wordOf_6 : decode cX4_wordOf 6 = .ok (.aload_n 0, 1) := by decide +kernel
theorem dX4_wordOf_7 : decode cX4_wordOf 7 = .ok (.iload_n 1, 1) := by decide +kernel
theorem dX4_wordOf_8 : decode cX4_wordOf 8 = .ok (.invokevirtual 61, 3) := by decide +kernel
theorem dX4_wordOf_11 : decode cX4_wordOf 11 = .ok (.istore 4, 2) := by decide +kernel
theorem dX4_wordOf_13 : decode cX4_wordOf 13 = .ok (.iload 4, 2) := by decide +kernel
theorem dX4_wordOf_15 : decode cX4_wordOf 15 = .ok (.ifCond .ne 7, 3) := by decide +kernel
theorem dX4_wordOf_18 : decode cX4_wordOf 18 = .ok (.lload_n 2, 1) := by decide +kernel
theorem dX4_wordOf_19 : decode cX4_wordOf 19 = .ok (.goto 11, 3) := by decide +kernel
theorem dX4_wordOf_22 : decode cX4_wordOf 22 = .ok (.lload_n 2, 1) := by decide +kernel
theorem dX4_wordOf_23 : decode cX4_wordOf 23 = .ok (.bipush 8, 2) := by decide +kernel
theorem dX4_wordOf_25 : decode cX4_wordOf 25 = .ok (.lshl, 1) := by decide +kernel
theorem dX4_wordOf_26 : decode cX4_wordOf 26 = .ok (.iload 4, 2) := by decide +kernel
theorem dX4_wordOf_28 : decode cX4_wordOf 28 = .ok (.i2l, 1) := by decide +kernel
theorem dX4_wordOf_29 : decode cX4_wordOf 29 = .ok (.lor, 1) := by decide +kernel
theorem dX4_wordOf_30 : decode cX4_wordOf 30 = .ok (.lreturn, 1) := by decide +kernel
theorem dX1_gather_0 : decode cX1_gather 0 = .ok (.aload_n 0, 1) := by decide +kernel
theorem dX1_gather_1 : decode cX1_gather 1 = .ok (.getfield 22, 3) := by decide +kernel
theorem dX1_gather_4 : decode cX1_gather 4 = .ok (.aload_n 2, 1) := by decide +kernel
theorem dX1_gather_5 : decode cX1_gather 5 = .ok (.invokevirtual 26, 3) := by decide +kernel
theorem dX1_gather_8 : decode cX1_gather 8 = .ok (.aload_n 0, 1) := by decide +kernel
theorem dX1_gather_9 : decode cX1_gather 9 = .ok (.getfield 9, 3) := by decide +kernel
theorem dX1_gather_12 : decode cX1_gather 12 = .ok (.iconst 0, 1) := by decide +kernel
theorem dX1_gather_13 : decode cX1_gather 13 = .ok (.invokestatic 32, 3) := by decide +kernel
theorem dX1_gather_16 : decode cX1_gather 16 = .ok (.aload_n 0, 1) := by decide +kernel
theorem dX1_gather_17 : decode cX1_gather 17 = .ok (.getfield 15, 3) := by decide +kernel
theorem dX1_gather_20 : decode cX1_gather 20 = .ok (.iconst (-1), 1) := by decide +kernel
theorem dX1_gather_21 : decode cX1_gather 21 = .ok (.invokestatic 32, 3) := by decide +kernel
theorem dX1_gather_24 : decode cX1_gather 24 = .ok (.iconst 0, 1) := by decide +kernel
theorem dX1_gather_25 : decode cX1_gather 25 = .ok (.istore_n 3, 1) := by decide +kernel
theorem dX1_gather_26 : decode cX1_gather 26 = .ok (.iload_n 3, 1) := by decide +kernel
theorem dX1_gather_27 : decode cX1_gather 27 = .ok (.aload_n 1, 1) := by decide +kernel
theorem dX1_gather_28 : decode cX1_gather 28 = .ok (.invokevirtual 38, 3) := by decide +kernel
theorem dX1_gather_31 : decode cX1_gather 31 = .ok (.if_icmp .ge 73, 3) := by decide +kernel
theorem dX1_gather_34 : decode cX1_gather 34 = .ok (.aload_n 1, 1) := by decide +kernel
theorem dX1_gather_35 : decode cX1_gather 35 = .ok (.iload_n 3, 1) := by decide +kernel
theorem dX1_gather_36 : decode cX1_gather 36 = .ok (.invokevirtual 44, 3) := by decide +kernel
theorem dX1_gather_39 : decode cX1_gather 39 = .ok (.astore 4, 2) := by decide +kernel
theorem dX1_gather_41 : decode cX1_gather 41 = .ok (.iconst 0, 1) := by decide +kernel
theorem dX1_gather_42 : decode cX1_gather 42 = .ok (.istore 5, 2) := by decide +kernel
theorem dX1_gather_44 : decode cX1_gather 44 = .ok (.aload 4, 2) := by decide +kernel
theorem dX1_gather_46 : decode cX1_gather 46 = .ok (.ifnull 52, 3) := by decide +kernel
theorem dX1_gather_49 : decode cX1_gather 49 = .ok (.iload 5, 2) := by decide +kernel
theorem dX1_gather_51 : decode cX1_gather 51 = .ok (.aload 4, 2) := by decide +kernel
theorem dX1_gather_53 : decode cX1_gather 53 = .ok (.getfield 48, 3) := by decide +kernel
theorem dX1_gather_56 : decode cX1_gather 56 = .ok (.if_icmp .ge 42, 3) := by decide +kernel
theorem dX1_gather_59 : decode cX1_gather 59 = .ok (.aload_n 2, 1) := by decide +kernel
theorem dX1_gather_60 : decode cX1_gather 60 = .ok (.aload 4, 2) := by decide +kernel
theorem dX1_gather_62 : decode cX1_gather 62 = .ok (.getfield 54, 3) := by decide +kernel
theorem dX1_gather_65 : decode cX1_gather 65 = .ok (.iload 5, 2) := by decide +kernel
theorem dX1_gather_67 : decode cX1_gather 67 = .ok (.invokevirtual 57, 3) := by decide +kernel
theorem dX1_gather_70 : decode cX1_gather 70 = .ok (.ifCond .eq 22, 3) := by decide +kernel
theorem dX1_gather_73 : decode cX1_gather 73 = .ok (.aload_n 0, 1) := by decide +kernel
theorem dX1_gather_74 : decode cX1_gather 74 = .ok (.aload_n 0, 1) := by decide +kernel
theorem dX1_gather_75 : decode cX1_gather 75 = .ok (.getfield 22, 3) := by decide +kernel
theorem dX1_gather_78 : decode cX1_gather 78 = .ok (.aload 4, 2) := by decide +kernel
theorem dX1_gather_80 : decode cX1_gather 80 = .ok (.iload 5, 2) := by decide +kernel
theorem dX1_gather_82 : decode cX1_gather 82 = .ok (.invokevirtual 63, 3) := by decide +kernel
theorem dX1_gather_85 : decode cX1_gather 85 = .ok (.invokevirtual 67, 3) := by decide +kernel
theorem dX1_gather_88 : decode cX1_gather 88 = .ok (.iload_n 3, 1) := by decide +kernel
theorem dX1_gather_89 : decode cX1_gather 89 = .ok (.invokevirtual 70, 3) := by decide +kernel
theorem dX1_gather_92 : decode cX1_gather 92 = .ok (.iinc 5 1, 3) := by decide +kernel
theorem dX1_gather_95 : decode cX1_gather 95 = .ok (.goto (-51), 3) := by decide +kernel
theorem dX1_gather_98 : decode cX1_gather 98 = .ok (.iinc 3 1, 3) := by decide +kernel
theorem dX1_gather_101 : decode cX1_gather 101 = .ok (.goto (-75), 3) := by decide +kernel
theorem dX1_gather_104 : decode cX1_gather 104 = .ok (.iconst 0, 1) := by decide +kernel
theorem dX1_gather_105 : decode cX1_gather 105 = .ok (.istore_n 3, 1) := by decide +kernel
theorem dX1_gather_106 : decode cX1_gather 106 = .ok (.iload_n 3, 1) := by decide +kernel
theorem dX1_gather_107 : decode cX1_gather 107 = .ok (.aload_n 0, 1) := by decide +kernel
theorem dX1_gather_108 : decode cX1_gather 108 = .ok (.getfield 22, 3) := by decide +kernel
theorem dX1_gather_111 : decode cX1_gather 111 = .ok (.getfield 74, 3) := by decide +kernel
theorem dX1_gather_114 : decode cX1_gather 114 = .ok (.if_icmp .ge 47, 3) := by decide +kernel
theorem dX1_gather_117 : decode cX1_gather 117 = .ok (.iload_n 3, 1) := by decide +kernel
theorem dX1_gather_118 : decode cX1_gather 118 = .ok (.aload_n 0, 1) := by decide +kernel
theorem dX1_gather_119 : decode cX1_gather 119 = .ok (.getfield 18, 3) := by decide +kernel
theorem dX1_gather_122 : decode cX1_gather 122 = .ok (.arraylength, 1) := by decide +kernel
theorem dX1_gather_123 : decode cX1_gather 123 = .ok (.if_icmp .ge 38, 3) := by decide +kernel
theorem dX1_gather_126 : decode cX1_gather 126 = .ok (.aload_n 0, 1) := by decide +kernel
theorem dX1_gather_127 : decode cX1_gather 127 = .ok (.getfield 18, 3) := by decide +kernel
theorem dX1_gather_130 : decode cX1_gather 130 = .ok (.iload_n 3, 1) := by decide +kernel
theorem dX1_gather_131 : decode cX1_gather 131 = .ok (.aload_n 0, 1) := by decide +kernel
theorem dX1_gather_132 : decode cX1_gather 132 = .ok (.iload_n 3, 1) := by decide +kernel
theorem dX1_gather_133 : decode cX1_gather 133 = .ok (.invokevirtual 76, 3) := by decide +kernel
theorem dX1_gather_136 : decode cX1_gather 136 = .ok (.ifCond .le 17, 3) := by decide +kernel
theorem dX1_gather_139 : decode cX1_gather 139 = .ok (.aload_n 0, 1) := by decide +kernel
theorem dX1_gather_140 : decode cX1_gather 140 = .ok (.getfield 22, 3) := by decide +kernel
theorem dX1_gather_143 : decode cX1_gather 143 = .ok (.iload_n 3, 1) := by decide +kernel
theorem dX1_gather_144 : decode cX1_gather 144 = .ok (.invokevirtual 79, 3) := by decide +kernel
theorem dX1_gather_147 : decode cX1_gather 147 = .ok (.invokestatic 83, 3) := by decide +kernel
theorem dX1_gather_150 : decode cX1_gather 150 = .ok (.goto 4, 3) := by decide +kernel
theorem dX1_gather_153 : decode cX1_gather 153 = .ok (.lconst 0, 1) := by decide +kernel
theorem dX1_gather_154 : decode cX1_gather 154 = .ok (.lastore, 1) := by decide +kernel
theorem dX1_gather_155 : decode cX1_gather 155 = .ok (.iinc 3 1, 3) := by decide +kernel
theorem dX1_gather_158 : decode cX1_gather 158 = .ok (.goto (-52), 3) := by decide +kernel
theorem dX1_gather_161 : decode cX1_gather 161 = .ok (.return_, 1) := by decide +kernel
theorem dX11_continuationAt_0 : decode cX11_continuationAt 0 = .ok (.aload_n 0, 1) := by decide +kernel
theorem dX11_continuationAt_1 : decode cX11_continuationAt 1 = .ok (.invokevirtual 217, 3) := by decide +kernel
theorem dX11_continuationAt_4 : decode cX11_continuationAt 4 = .ok (.aload_n 0, 1) := by decide +kernel
theorem dX11_continuationAt_5 : decode cX11_continuationAt 5 = .ok (.getfield 84, 3) := by decide +kernel
theorem dX11_continuationAt_8 : decode cX11_continuationAt 8 = .ok (.aload_n 0, 1) := by decide +kernel
theorem dX11_continuationAt_9 : decode cX11_continuationAt 9 = .ok (.iload_n 1, 1) := by decide +kernel
theorem dX11_continuationAt_10 : decode cX11_continuationAt 10 = .ok (.invokevirtual 337, 3) := by decide +kernel
theorem dX11_continuationAt_13 : decode cX11_continuationAt 13 = .ok (.aload_n 0, 1) := by decide +kernel
theorem dX11_continuationAt_14 : decode cX11_continuationAt 14 = .ok (.getfield 28, 3) := by decide +kernel
theorem dX11_continuationAt_17 : decode cX11_continuationAt 17 = .ok (.invokevirtual 384, 3) := by decide +kernel
theorem dX11_continuationAt_20 : decode cX11_continuationAt 20 = .ok (.aload_n 0, 1) := by decide +kernel
theorem dX11_continuationAt_21 : decode cX11_continuationAt 21 = .ok (.iload_n 2, 1) := by decide +kernel
theorem dX11_continuationAt_22 : decode cX11_continuationAt 22 = .ok (.invokevirtual 391, 3) := by decide +kernel
theorem dX11_continuationAt_25 : decode cX11_continuationAt 25 = .ok (.ireturn, 1) := by decide +kernel
theorem dX11_continuations_0 : decode cX11_continuations 0 = .ok (.aload_n 0, 1) := by decide +kernel
theorem dX11_continuations_1 : decode cX11_continuations 1 = .ok (.iload_n 1, 1) := by decide +kernel
theorem dX11_continuations_2 : decode cX11_continuations 2 = .ok (.invokevirtual 337, 3) := by decide +kernel
theorem dX11_continuations_5 : decode cX11_continuations 5 = .ok (.astore_n 2, 1) := by decide +kernel
theorem dX11_continuations_6 : decode cX11_continuations 6 = .ok (.aload_n 0, 1) := by decide +kernel
theorem dX11_continuations_7 : decode cX11_continuations 7 = .ok (.invokevirtual 217, 3) := by decide +kernel
theorem dX11_continuations_10 : decode cX11_continuations 10 = .ok (.aload_n 0, 1) := by decide +kernel
theorem dX11_continuations_11 : decode cX11_continuations 11 = .ok (.getfield 84, 3) := by decide +kernel
theorem dX11_continuations_14 : decode cX11_continuations 14 = .ok (.aload_n 2, 1) := by decide +kernel
theorem dX11_continuations_15 : decode cX11_continuations 15 = .ok (.aload_n 0, 1) := by decide +kernel
theorem dX11_continuations_16 : decode cX11_continuations 16 = .ok (.getfield 28, 3) := by decide +kernel
theorem dX11_continuations_19 : decode cX11_continuations 19 = .ok (.invokevirtual 384, 3) := by decide +kernel
theorem dX11_continuations_22 : decode cX11_continuations 22 = .ok (.aload_n 0, 1) := by decide +kernel
theorem dX11_continuations_23 : decode cX11_continuations 23 = .ok (.getfield 84, 3) := by decide +kernel
theorem dX11_continuations_26 : decode cX11_continuations 26 = .ok (.invokevirtual 388, 3) := by decide +kernel
theorem dX11_continuations_29 : decode cX11_continuations 29 = .ok (.ireturn, 1) := by decide +kernel
theorem dX11_count_0 : decode cX11_count 0 = .ok (.aload_n 0, 1) := by decide +kernel
theorem dX11_count_1 : decode cX11_count 1 = .ok (.iload_n 1, 1) := by decide +kernel
theorem dX11_count_2 : decode cX11_count 2 = .ok (.invokevirtual 337, 3) := by decide +kernel
theorem dX11_count_5 : decode cX11_count 5 = .ok (.aload_n 0, 1) := by decide +kernel
theorem dX11_count_6 : decode cX11_count 6 = .ok (.getfield 28, 3) := by decide +kernel
theorem dX11_count_9 : decode cX11_count 9 = .ok (.iconst (-1), 1) := by decide +kernel
theorem dX11_count_10 : decode cX11_count 10 = .ok (.invokevirtual 362, 3) := by decide +kernel
theorem dX11_count_13 : decode cX11_count 13 = .ok (.ireturn, 1) := by decide +kernel
theorem dX11_countWith_0 : decode cX11_countWith 0 = .ok (.aload_n 0, 1) := by decide +kernel
theorem dX11_countWith_1 : decode cX11_countWith 1 = .ok (.iload_n 1, 1) := by decide +kernel
theorem dX11_countWith_2 : decode cX11_countWith 2 = .ok (.invokevirtual 337, 3) := by decide +kernel
theorem dX11_countWith_5 : decode cX11_countWith 5 = .ok (.astore_n 3, 1) := by decide +kernel
theorem dX11_countWith_6 : decode cX11_countWith 6 = .ok (.iload_n 2, 1) := by decide +kernel
theorem dX11_countWith_7 : decode cX11_countWith 7 = .ok (.ifCond .lt 8, 3) := by decide +kernel
theorem dX11_countWith_10 : decode cX11_countWith 10 = .ok (.iload_n 2, 1) := by decide +kernel
theorem dX11_countWith_11 : decode cX11_countWith 11 = .ok (.iconst 2, 1) := by decide +kernel
theorem dX11_countWith_12 : decode cX11_countWith 12 = .ok (.if_icmp .le 14, 3) := by decide +kernel
theorem dX11_countWith_15 : decode cX11_countWith 15 = .ok (.new 140, 3) := by decide +kernel
theorem dX11_countWith_18 : decode cX11_countWith 18 = .ok (.dup, 1) := by decide +kernel
theorem dX11_countWith_19 : decode cX11_countWith 19 = .ok (.ldc_w 364, 3) := by decide +kernel
theorem dX11_countWith_22 : decode cX11_countWith 22 = .ok (.invokespecial 144, 3) := by decide +kernel
theorem dX11_countWith_25 : decode cX11_countWith 25 = .ok (.athrow, 1) := by decide +kernel
theorem dX11_countWith_26 : decode cX11_countWith 26 = .ok (.aload_n 3, 1) := by decide +kernel
theorem dX11_countWith_27 : decode cX11_countWith 27 = .ok (.aload_n 0, 1) := by decide +kernel
theorem dX11_countWith_28 : decode cX11_countWith 28 = .ok (.getfield 28, 3) := by decide +kernel
theorem dX11_countWith_31 : decode cX11_countWith 31 = .ok (.iload_n 2, 1) := by decide +kernel
theorem dX11_countWith_32 : decode cX11_countWith 32 = .ok (.invokevirtual 362, 3) := by decide +kernel
theorem dX11_countWith_35 : decode cX11_countWith 35 = .ok (.ireturn, 1) := by decide +kernel
theorem dX11_countYears_0 : decode cX11_countYears 0 = .ok (.aload_n 0, 1) := by decide +kernel
theorem dX11_countYears_1 : decode cX11_countYears 1 = .ok (.iload_n 1, 1) := by decide +kernel
theorem dX11_countYears_2 : decode cX11_countYears 2 = .ok (.invokevirtual 337, 3) := by decide +kernel
theorem dX11_countYears_5 : decode cX11_countYears 5 = .ok (.astore 4, 2) := by decide +kernel
theorem dX11_countYears_7 : decode cX11_countYears 7 = .ok (.iload_n 2, 1) := by decide +kernel
theorem dX11_countYears_8 : decode cX11_countYears 8 = .ok (.iload_n 3, 1) := by decide +kernel
theorem dX11_countYears_9 : decode cX11_countYears 9 = .ok (.if_icmp .le 14, 3) := by decide +kernel
theorem dX11_countYears_12 : decode cX11_countYears 12 = .ok (.new 140, 3) := by decide +kernel
theorem dX11_countYears_15 : decode cX11_countYears 15 = .ok (.dup, 1) := by decide +kernel
theorem dX11_countYears_16 : decode cX11_countYears 16 = .ok (.ldc_w 366, 3) := by decide +kernel
theorem dX11_countYears_19 : decode cX11_countYears 19 = .ok (.invokespecial 144, 3) := by decide +kernel
theorem dX11_countYears_22 : decode cX11_countYears 22 = .ok (.athrow, 1) := by decide +kernel
theorem dX11_countYears_23 : decode cX11_countYears 23 = .ok (.aload 4, 2) := by decide +kernel
theorem dX11_countYears_25 : decode cX11_countYears 25 = .ok (.aload_n 0, 1) := by decide +kernel
theorem dX11_countYears_26 : decode cX11_countYears 26 = .ok (.getfield 28, 3) := by decide +kernel
theorem dX11_countYears_29 : decode cX11_countYears 29 = .ok (.iload_n 2, 1) := by decide +kernel
theorem dX11_countYears_30 : decode cX11_countYears 30 = .ok (.iload_n 3, 1) := by decide +kernel
theorem dX11_countYears_31 : decode cX11_countYears 31 = .ok (.invokevirtual 368, 3) := by decide +kernel
theorem dX11_countYears_34 : decode cX11_countYears 34 = .ok (.ireturn, 1) := by decide +kernel
theorem dX4_numberOfWord_0 : decode cX4_numberOfWord 0 = .ok (.aload_n 0, 1) := by decide +kernel
theorem dX4_numberOfWord_1 : decode cX4_numberOfWord 1 = .ok (.getfield 19, 3) := by decide +kernel
theorem dX4_numberOfWord_4 : decode cX4_numberOfWord 4 = .ok (.ifCond .ne 44, 3) := by decide +kernel
theorem dX4_numberOfWord_7 : decode cX4_numberOfWord 7 = .ok (.iconst 0, 1) := by decide +kernel
theorem dX4_numberOfWord_8 : decode cX4_numberOfWord 8 = .ok (.istore_n 3, 1) := by decide +kernel
theorem dX4_numberOfWord_9 : decode cX4_numberOfWord 9 = .ok (.iload_n 3, 1) := by decide +kernel
theorem dX4_numberOfWord_10 : decode cX4_numberOfWord 10 = .ok (.aload_n 0, 1) := by decide +kernel
theorem dX4_numberOfWord_11 : decode cX4_numberOfWord 11 = .ok (.getfield 23, 3) := by decide +kernel
theorem dX4_numberOfWord_14 : decode cX4_numberOfWord 14 = .ok (.if_icmp .ge 29, 3) := by decide +kernel
theorem dX4_numberOfWord_17 : decode cX4_numberOfWord 17 = .ok (.iload_n 3, 1) := by decide +kernel
theorem dX4_numberOfWord_18 : decode cX4_numberOfWord 18 = .ok (.aload_n 0, 1) := by decide +kernel
theorem dX4_numberOfWord_19 : decode cX4_numberOfWord 19 = .ok (.getfield 15, 3) := by decide +kernel
theorem dX4_numberOfWord_22 : decode cX4_numberOfWord 22 = .ok (.arraylength, 1) := by decide +kernel
theorem dX4_numberOfWord_23 : decode cX4_numberOfWord 23 = .ok (.if_icmp .ge 20, 3) := by decide +kernel
theorem dX4_numberOfWord_26 : decode cX4_numberOfWord 26 = .ok (.aload_n 0, 1) := by decide +kernel
theorem dX4_numberOfWord_27 : decode cX4_numberOfWord 27 = .ok (.getfield 15, 3) := by decide +kernel
theorem dX4_numberOfWord_30 : decode cX4_numberOfWord 30 = .ok (.iload_n 3, 1) := by decide +kernel
theorem dX4_numberOfWord_31 : decode cX4_numberOfWord 31 = .ok (.aload_n 0, 1) := by decide +kernel
theorem dX4_numberOfWord_32 : decode cX4_numberOfWord 32 = .ok (.iload_n 3, 1) := by decide +kernel
theorem dX4_numberOfWord_33 : decode cX4_numberOfWord 33 = .ok (.invokevirtual 57, 3) := by decide +kernel
theorem dX4_numberOfWord_36 : decode cX4_numberOfWord 36 = .ok (.lastore, 1) := by decide +kernel
theorem dX4_numberOfWord_37 : decode cX4_numberOfWord 37 = .ok (.iinc 3 1, 3) := by decide +kernel
theorem dX4_numberOfWord_40 : decode cX4_numberOfWord 40 = .ok (.goto (-31), 3) := by decide +kernel
theorem dX4_numberOfWord_43 : decode cX4_numberOfWord 43 = .ok (.aload_n 0, 1) := by decide +kernel
theorem dX4_numberOfWord_44 : decode cX4_numberOfWord 44 = .ok (.iconst 1, 1) := by decide +kernel
theorem dX4_numberOfWord_45 : decode cX4_numberOfWord 45 = .ok (.putfield 19, 3) := by decide +kernel
theorem dX4_numberOfWord_48 : decode cX4_numberOfWord 48 = .ok (.iconst 0, 1) := by decide +kernel
theorem dX4_numberOfWord_49 : decode cX4_numberOfWord 49 = .ok (.istore_n 3, 1) := by decide +kernel
theorem dX4_numberOfWord_50 : decode cX4_numberOfWord 50 = .ok (.iload_n 3, 1) := by decide +kernel
theorem dX4_numberOfWord_51 : decode cX4_numberOfWord 51 = .ok (.aload_n 0, 1) := by decide +kernel
theorem dX4_numberOfWord_52 : decode cX4_numberOfWord 52 = .ok (.getfield 23, 3) := by decide +kernel
theorem dX4_numberOfWord_55 : decode cX4_numberOfWord 55 = .ok (.if_icmp .ge 31, 3) := by decide +kernel
theorem dX4_numberOfWord_58 : decode cX4_numberOfWord 58 = .ok (.iload_n 3, 1) := by decide +kernel
theorem dX4_numberOfWord_59 : decode cX4_numberOfWord 59 = .ok (.aload_n 0, 1) := by decide +kernel
theorem dX4_numberOfWord_60 : decode cX4_numberOfWord 60 = .ok (.getfield 15, 3) := by decide +kernel
theorem dX4_numberOfWord_63 : decode cX4_numberOfWord 63 = .ok (.arraylength, 1) := by decide +kernel
theorem dX4_numberOfWord_64 : decode cX4_numberOfWord 64 = .ok (.if_icmp .ge 22, 3) := by decide +kernel
theorem dX4_numberOfWord_67 : decode cX4_numberOfWord 67 = .ok (.aload_n 0, 1) := by decide +kernel
theorem dX4_numberOfWord_68 : decode cX4_numberOfWord 68 = .ok (.getfield 15, 3) := by decide +kernel
theorem dX4_numberOfWord_71 : decode cX4_numberOfWord 71 = .ok (.iload_n 3, 1) := by decide +kernel
theorem dX4_numberOfWord_72 : decode cX4_numberOfWord 72 = .ok (.laload, 1) := by decide +kernel
theorem dX4_numberOfWord_73 : decode cX4_numberOfWord 73 = .ok (.lload_n 1, 1) := by decide +kernel
theorem dX4_numberOfWord_74 : decode cX4_numberOfWord 74 = .ok (.lcmp, 1) := by decide +kernel
theorem dX4_numberOfWord_75 : decode cX4_numberOfWord 75 = .ok (.ifCond .ne 5, 3) := by decide +kernel
theorem dX4_numberOfWord_78 : decode cX4_numberOfWord 78 = .ok (.iload_n 3, 1) := by decide +kernel
theorem dX4_numberOfWord_79 : decode cX4_numberOfWord 79 = .ok (.ireturn, 1) := by decide +kernel
theorem dX4_numberOfWord_80 : decode cX4_numberOfWord 80 = .ok (.iinc 3 1, 3) := by decide +kernel
theorem dX4_numberOfWord_83 : decode cX4_numberOfWord 83 = .ok (.goto (-33), 3) := by decide +kernel
theorem dX4_numberOfWord_86 : decode cX4_numberOfWord 86 = .ok (.iconst (-1), 1) := by decide +kernel
theorem dX4_numberOfWord_87 : decode cX4_numberOfWord 87 = .ok (.ireturn, 1) := by decide +kernel
theorem dX11_misreadMoves_0 : decode cX11_misreadMoves 0 = .ok (.iconst 0, 1) := by decide +kernel
theorem dX11_misreadMoves_1 : decode cX11_misreadMoves 1 = .ok (.istore_n 1, 1) := by decide +kernel
theorem dX11_misreadMoves_2 : decode cX11_misreadMoves 2 = .ok (.aload_n 0, 1) := by decide +kernel
theorem dX11_misreadMoves_3 : decode cX11_misreadMoves 3 = .ok (.getfield 49, 3) := by decide +kernel
theorem dX11_misreadMoves_6 : decode cX11_misreadMoves 6 = .ok (.aload_n 0, 1) := by decide +kernel
theorem dX11_misreadMoves_7 : decode cX11_misreadMoves 7 = .ok (.getfield 28, 3) := by decide +kernel
theorem dX11_misreadMoves_10 : decode cX11_misreadMoves 10 = .ok (.invokevirtual 505, 3) := by decide +kernel
theorem dX11_misreadMoves_13 : decode cX11_misreadMoves 13 = .ok (.iconst 0, 1) := by decide +kernel
theorem dX11_misreadMoves_14 : decode cX11_misreadMoves 14 = .ok (.istore_n 2, 1) := by decide +kernel
theorem dX11_misreadMoves_15 : decode cX11_misreadMoves 15 = .ok (.iload_n 2, 1) := by decide +kernel
theorem dX11_misreadMoves_16 : decode cX11_misreadMoves 16 = .ok (.aload_n 0, 1) := by decide +kernel
theorem dX11_misreadMoves_17 : decode cX11_misreadMoves 17 = .ok (.getfield 49, 3) := by decide +kernel
theorem dX11_misreadMoves_20 : decode cX11_misreadMoves 20 = .ok (.getfield 508, 3) := by decide +kernel
theorem dX11_misreadMoves_23 : decode cX11_misreadMoves 23 = .ok (.if_icmp .ge 31, 3) := by decide +kernel
theorem dX11_misreadMoves_26 : decode cX11_misreadMoves 26 = .ok (.aload_n 0, 1) := by decide +kernel
theorem dX11_misreadMoves_27 : decode cX11_misreadMoves 27 = .ok (.getfield 49, 3) := by decide +kernel
theorem dX11_misreadMoves_30 : decode cX11_misreadMoves 30 = .ok (.aload_n 0, 1) := by decide +kernel
theorem dX11_misreadMoves_31 : decode cX11_misreadMoves 31 = .ok (.getfield 49, 3) := by decide +kernel
theorem dX11_misreadMoves_34 : decode cX11_misreadMoves 34 = .ok (.iload_n 2, 1) := by decide +kernel
theorem dX11_misreadMoves_35 : decode cX11_misreadMoves 35 = .ok (.invokevirtual 541, 3) := by decide +kernel
theorem dX11_misreadMoves_38 : decode cX11_misreadMoves 38 = .ok (.invokevirtual 544, 3) := by decide +kernel
theorem dX11_misreadMoves_41 : decode cX11_misreadMoves 41 = .ok (.iload_n 2, 1) := by decide +kernel
theorem dX11_misreadMoves_42 : decode cX11_misreadMoves 42 = .ok (.if_icmp .eq 6, 3) := by decide +kernel
theorem dX11_misreadMoves_45 : decode cX11_misreadMoves 45 = .ok (.iinc 1 1, 3) := by decide +kernel
theorem dX11_misreadMoves_48 : decode cX11_misreadMoves 48 = .ok (.iinc 2 1, 3) := by decide +kernel
theorem dX11_misreadMoves_51 : decode cX11_misreadMoves 51 = .ok (.goto (-36), 3) := by decide +kernel
theorem dX11_misreadMoves_54 : decode cX11_misreadMoves 54 = .ok (.iload_n 1, 1) := by decide +kernel
theorem dX11_misreadMoves_55 : decode cX11_misreadMoves 55 = .ok (.ireturn, 1) := by decide +kernel
theorem dX11_errors_0 : decode cX11_errors 0 = .ok (.iconst 0, 1) := by decide +kernel
theorem dX11_errors_1 : decode cX11_errors 1 = .ok (.istore_n 1, 1) := by decide +kernel
theorem dX11_errors_2 : decode cX11_errors 2 = .ok (.aload_n 0, 1) := by decide +kernel
theorem dX11_errors_3 : decode cX11_errors 3 = .ok (.getfield 72, 3) := by decide +kernel
theorem dX11_errors_6 : decode cX11_errors 6 = .ok (.aload_n 0, 1) := by decide +kernel
theorem dX11_errors_7 : decode cX11_errors 7 = .ok (.getfield 28, 3) := by decide +kernel
theorem dX11_errors_10 : decode cX11_errors 10 = .ok (.iconst (-1), 1) := by decide +kernel
theorem dX11_errors_11 : decode cX11_errors 11 = .ok (.invokevirtual 362, 3) := by decide +kernel
theorem dX11_errors_14 : decode cX11_errors 14 = .ok (.aload_n 0, 1) := by decide +kernel
theorem dX11_errors_15 : decode cX11_errors 15 = .ok (.getfield 72, 3) := by decide +kernel
theorem dX11_errors_18 : decode cX11_errors 18 = .ok (.aload_n 0, 1) := by decide +kernel
theorem dX11_errors_19 : decode cX11_errors 19 = .ok (.getfield 28, 3) := by decide +kernel
theorem dX11_errors_22 : decode cX11_errors 22 = .ok (.aload_n 0, 1) := by decide +kernel
theorem dX11_errors_23 : decode cX11_errors 23 = .ok (.getfield 32, 3) := by decide +kernel
theorem dX11_errors_26 : decode cX11_errors 26 = .ok (.invokevirtual 485, 3) := by decide +kernel
theorem dX11_errors_29 : decode cX11_errors 29 = .ok (.if_icmp .eq 6, 3) := by decide +kernel
theorem dX11_errors_32 : decode cX11_errors 32 = .ok (.iinc 1 1, 3) := by decide +kernel
theorem dX11_errors_35 : decode cX11_errors 35 = .ok (.aload_n 0, 1) := by decide +kernel
theorem dX11_errors_36 : decode cX11_errors 36 = .ok (.getfield 76, 3) := by decide +kernel
theorem dX11_errors_39 : decode cX11_errors 39 = .ok (.aload_n 0, 1) := by decide +kernel
theorem dX11_errors_40 : decode cX11_errors 40 = .ok (.getfield 28, 3) := by decide +kernel
theorem dX11_errors_43 : decode cX11_errors 43 = .ok (.iconst (-1), 1) := by decide +kernel
theorem dX11_errors_44 : decode cX11_errors 44 = .ok (.invokevirtual 362, 3) := by decide +kernel
theorem dX11_errors_47 : decode cX11_errors 47 = .ok (.aload_n 0, 1) := by decide +kernel
theorem dX11_errors_48 : decode cX11_errors 48 = .ok (.getfield 76, 3) := by decide +kernel
theorem dX11_errors_51 : decode cX11_errors 51 = .ok (.aload_n 0, 1) := by decide +kernel
theorem dX11_errors_52 : decode cX11_errors 52 = .ok (.getfield 28, 3) := by decide +kernel
theorem dX11_errors_55 : decode cX11_errors 55 = .ok (.aload_n 0, 1) := by decide +kernel
theorem dX11_errors_56 : decode cX11_errors 56 = .ok (.getfield 32, 3) := by decide +kernel
theorem dX11_errors_59 : decode cX11_errors 59 = .ok (.invokevirtual 485, 3) := by decide +kernel
theorem dX11_errors_62 : decode cX11_errors 62 = .ok (.if_icmp .eq 6, 3) := by decide +kernel
theorem dX11_errors_65 : decode cX11_errors 65 = .ok (.iinc 1 1, 3) := by decide +kernel
theorem dX11_errors_68 : decode cX11_errors 68 = .ok (.aload_n 0, 1) := by decide +kernel
theorem dX11_errors_69 : decode cX11_errors 69 = .ok (.invokevirtual 323, 3) := by decide +kernel
theorem dX11_errors_72 : decode cX11_errors 72 = .ok (.ifCond .eq 12, 3) := by decide +kernel
theorem dX11_errors_75 : decode cX11_errors 75 = .ok (.iload_n 1, 1) := by decide +kernel
theorem dX11_errors_76 : decode cX11_errors 76 = .ok (.aload_n 0, 1) := by decide +kernel
theorem dX11_errors_77 : decode cX11_errors 77 = .ok (.invokevirtual 489, 3) := by decide +kernel
theorem dX11_errors_80 : decode cX11_errors 80 = .ok (.iadd, 1) := by decide +kernel
theorem dX11_errors_81 : decode cX11_errors 81 = .ok (.goto 4, 3) := by decide +kernel
theorem dX11_errors_84 : decode cX11_errors 84 = .ok (.iload_n 1, 1) := by decide +kernel
theorem dX11_errors_85 : decode cX11_errors 85 = .ok (.ireturn, 1) := by decide +kernel
theorem dX5_endOfToken_0 : decode cX5_endOfToken 0 = .ok (.aload_n 0, 1) := by decide +kernel
theorem dX5_endOfToken_1 : decode cX5_endOfToken 1 = .ok (.invokevirtual 65, 3) := by decide +kernel
theorem dX5_endOfToken_4 : decode cX5_endOfToken 4 = .ok (.istore_n 2, 1) := by decide +kernel
theorem dX5_endOfToken_5 : decode cX5_endOfToken 5 = .ok (.iload_n 1, 1) := by decide +kernel
theorem dX5_endOfToken_6 : decode cX5_endOfToken 6 = .ok (.ifCond .lt 8, 3) := by decide +kernel
theorem dX5_endOfToken_9 : decode cX5_endOfToken 9 = .ok (.iload_n 1, 1) := by decide +kernel
theorem dX5_endOfToken_10 : decode cX5_endOfToken 10 = .ok (.iload_n 2, 1) := by decide +kernel
theorem dX5_endOfToken_11 : decode cX5_endOfToken 11 = .ok (.if_icmp .lt 5, 3) := by decide +kernel
theorem dX5_endOfToken_14 : decode cX5_endOfToken 14 = .ok (.iload_n 2, 1) := by decide +kernel
theorem dX5_endOfToken_15 : decode cX5_endOfToken 15 = .ok (.ireturn, 1) := by decide +kernel
theorem dX5_endOfToken_16 : decode cX5_endOfToken 16 = .ok (.aload_n 0, 1) := by decide +kernel
theorem dX5_endOfToken_17 : decode cX5_endOfToken 17 = .ok (.iload_n 1, 1) := by decide +kernel
theorem dX5_endOfToken_18 : decode cX5_endOfToken 18 = .ok (.invokevirtual 87, 3) := by decide +kernel
theorem dX5_endOfToken_21 : decode cX5_endOfToken 21 = .ok (.istore_n 3, 1) := by decide +kernel
theorem dX5_endOfToken_22 : decode cX5_endOfToken 22 = .ok (.iload_n 3, 1) := by decide +kernel
theorem dX5_endOfToken_23 : decode cX5_endOfToken 23 = .ok (.bipush 123, 2) := by decide +kernel
theorem dX5_endOfToken_25 : decode cX5_endOfToken 25 = .ok (.if_icmp .ne 40, 3) := by decide +kernel
theorem dX5_endOfToken_28 : decode cX5_endOfToken 28 = .ok (.iload_n 1, 1) := by decide +kernel
theorem dX5_endOfToken_29 : decode cX5_endOfToken 29 = .ok (.iconst 1, 1) := by decide +kernel
theorem dX5_endOfToken_30 : decode cX5_endOfToken 30 = .ok (.iadd, 1) := by decide +kernel
theorem dX5_endOfToken_31 : decode cX5_endOfToken 31 = .ok (.istore 4, 2) := by decide +kernel
theorem dX5_endOfToken_33 : decode cX5_endOfToken 33 = .ok (.iload 4, 2) := by decide +kernel
theorem dX5_endOfToken_35 : decode cX5_endOfToken 35 = .ok (.iload_n 2, 1) := by decide +kernel
theorem dX5_endOfToken_36 : decode cX5_endOfToken 36 = .ok (.if_icmp .ge 25, 3) := by decide +kernel
theorem dX5_endOfToken_39 : decode cX5_endOfToken 39 = .ok (.aload_n 0, 1) := by decide +kernel
theorem dX5_endOfToken_40 : decode cX5_endOfToken 40 = .ok (.iload 4, 2) := by decide +kernel
theorem dX5_endOfToken_42 : decode cX5_endOfToken 42 = .ok (.invokevirtual 87, 3) := by decide +kernel
theorem dX5_endOfToken_45 : decode cX5_endOfToken 45 = .ok (.bipush 125, 2) := by decide +kernel
theorem dX5_endOfToken_47 : decode cX5_endOfToken 47 = .ok (.if_icmp .ne 8, 3) := by decide +kernel
theorem dX5_endOfToken_50 : decode cX5_endOfToken 50 = .ok (.iload 4, 2) := by decide +kernel
theorem dX5_endOfToken_52 : decode cX5_endOfToken 52 = .ok (.iconst 1, 1) := by decide +kernel
theorem dX5_endOfToken_53 : decode cX5_endOfToken 53 = .ok (.iadd, 1) := by decide +kernel
theorem dX5_endOfToken_54 : decode cX5_endOfToken 54 = .ok (.ireturn, 1) := by decide +kernel
theorem dX5_endOfToken_55 : decode cX5_endOfToken 55 = .ok (.iinc 4 1, 3) := by decide +kernel
theorem dX5_endOfToken_58 : decode cX5_endOfToken 58 = .ok (.goto (-25), 3) := by decide +kernel
theorem dX5_endOfToken_61 : decode cX5_endOfToken 61 = .ok (.iload_n 2, 1) := by decide +kernel
theorem dX5_endOfToken_62 : decode cX5_endOfToken 62 = .ok (.iconst 1, 1) := by decide +kernel
theorem dX5_endOfToken_63 : decode cX5_endOfToken 63 = .ok (.iadd, 1) := by decide +kernel
theorem dX5_endOfToken_64 : decode cX5_endOfToken 64 = .ok (.ireturn, 1) := by decide +kernel
theorem dX5_endOfToken_65 : decode cX5_endOfToken 65 = .ok (.iload_n 3, 1) := by decide +kernel
theorem dX5_endOfToken_66 : decode cX5_endOfToken 66 = .ok (.invokestatic 91, 3) := by decide +kernel
theorem dX5_endOfToken_69 : decode cX5_endOfToken 69 = .ok (.ifCond .eq 7, 3) := by decide +kernel
theorem dX5_endOfToken_72 : decode cX5_endOfToken 72 = .ok (.iload_n 1, 1) := by decide +kernel
theorem dX5_endOfToken_73 : decode cX5_endOfToken 73 = .ok (.iconst 1, 1) := by decide +kernel
theorem dX5_endOfToken_74 : decode cX5_endOfToken 74 = .ok (.iadd, 1) := by decide +kernel
theorem dX5_endOfToken_75 : decode cX5_endOfToken 75 = .ok (.ireturn, 1) := by decide +kernel
theorem dX5_endOfToken_76 : decode cX5_endOfToken 76 = .ok (.iload_n 1, 1) := by decide +kernel
theorem dX5_endOfToken_77 : decode cX5_endOfToken 77 = .ok (.iconst 1, 1) := by decide +kernel
theorem dX5_endOfToken_78 : decode cX5_endOfToken 78 = .ok (.iadd, 1) := by decide +kernel
theorem dX5_endOfToken_79 : decode cX5_endOfToken 79 = .ok (.istore 4, 2) := by decide +kernel
theorem dX5_endOfToken_81 : decode cX5_endOfToken 81 = .ok (.iload 4, 2) := by decide +kernel
theorem dX5_endOfToken_83 : decode cX5_endOfToken 83 = .ok (.iload_n 2, 1) := by decide +kernel
theorem dX5_endOfToken_84 : decode cX5_endOfToken 84 = .ok (.if_icmp .ge 21, 3) := by decide +kernel
theorem dX5_endOfToken_87 : decode cX5_endOfToken 87 = .ok (.aload_n 0, 1) := by decide +kernel
theorem dX5_endOfToken_88 : decode cX5_endOfToken 88 = .ok (.iload 4, 2) := by decide +kernel
theorem dX5_endOfToken_90 : decode cX5_endOfToken 90 = .ok (.invokevirtual 87, 3) := by decide +kernel
theorem dX5_endOfToken_93 : decode cX5_endOfToken 93 = .ok (.invokestatic 91, 3) := by decide +kernel
theorem dX5_endOfToken_96 : decode cX5_endOfToken 96 = .ok (.ifCond .ne 9, 3) := by decide +kernel
theorem dX5_endOfToken_99 : decode cX5_endOfToken 99 = .ok (.iinc 4 1, 3) := by decide +kernel
theorem dX5_endOfToken_102 : decode cX5_endOfToken 102 = .ok (.goto (-21), 3) := by decide +kernel
theorem dX5_endOfToken_105 : decode cX5_endOfToken 105 = .ok (.iload 4, 2) := by decide +kernel
theorem dX5_endOfToken_107 : decode cX5_endOfToken 107 = .ok (.ireturn, 1) := by decide +kernel
theorem dX5_packed_0 : decode cX5_packed 0 = .ok (.iload_n 2, 1) := by decide +kernel
theorem dX5_packed_1 : decode cX5_packed 1 = .ok (.iload_n 1, 1) := by decide +kernel
theorem dX5_packed_2 : decode cX5_packed 2 = .ok (.isub, 1) := by decide +kernel
theorem dX5_packed_3 : decode cX5_packed 3 = .ok (.bipush 7, 2) := by decide +kernel
theorem dX5_packed_5 : decode cX5_packed 5 = .ok (.if_icmp .le 5, 3) := by decide +kernel
theorem dX5_packed_8 : decode cX5_packed 8 = .ok (.lconst 0, 1) := by decide +kernel
theorem dX5_packed_9 : decode cX5_packed 9 = .ok (.lreturn, 1) := by decide +kernel
theorem dX5_packed_10 : decode cX5_packed 10 = .ok (.lconst 0, 1) := by decide +kernel
theorem dX5_packed_11 : decode cX5_packed 11 = .ok (.lstore_n 3, 1) := by decide +kernel
theorem dX5_packed_12 : decode cX5_packed 12 = .ok (.iload_n 1, 1) := by decide +kernel
theorem dX5_packed_13 : decode cX5_packed 13 = .ok (.istore 5, 2) := by decide +kernel
theorem dX5_packed_15 : decode cX5_packed 15 = .ok (.iload 5, 2) := by decide +kernel
theorem dX5_packed_17 : decode cX5_packed 17 = .ok (.iload_n 2, 1) := by decide +kernel
theorem dX5_packed_18 : decode cX5_packed 18 = .ok (.if_icmp .ge 31, 3) := by decide +kernel
theorem dX5_packed_21 : decode cX5_packed 21 = .ok (.iload 5, 2) := by decide +kernel
theorem dX5_packed_23 : decode cX5_packed 23 = .ok (.aload_n 0, 1) := by decide +kernel
theorem dX5_packed_24 : decode cX5_packed 24 = .ok (.invokevirtual 65, 3) := by decide +kernel
theorem dX5_packed_27 : decode cX5_packed 27 = .ok (.if_icmp .ge 22, 3) := by decide +kernel
theorem dX5_packed_30 : decode cX5_packed 30 = .ok (.lload_n 3, 1) := by decide +kernel
theorem dX5_packed_31 : decode cX5_packed 31 = .ok (.bipush 8, 2) := by decide +kernel
theorem dX5_packed_33 : decode cX5_packed 33 = .ok (.lshl, 1) := by decide +kernel
theorem dX5_packed_34 : decode cX5_packed 34 = .ok (.aload_n 0, 1) := by decide +kernel
theorem dX5_packed_35 : decode cX5_packed 35 = .ok (.iload 5, 2) := by decide +kernel
theorem dX5_packed_37 : decode cX5_packed 37 = .ok (.invokevirtual 87, 3) := by decide +kernel
theorem dX5_packed_40 : decode cX5_packed 40 = .ok (.i2l, 1) := by decide +kernel
theorem dX5_packed_41 : decode cX5_packed 41 = .ok (.lor, 1) := by decide +kernel
theorem dX5_packed_42 : decode cX5_packed 42 = .ok (.lstore_n 3, 1) := by decide +kernel
theorem dX5_packed_43 : decode cX5_packed 43 = .ok (.iinc 5 1, 3) := by decide +kernel
theorem dX5_packed_46 : decode cX5_packed 46 = .ok (.goto (-31), 3) := by decide +kernel
theorem dX5_packed_49 : decode cX5_packed 49 = .ok (.lload_n 3, 1) := by decide +kernel
theorem dX5_packed_50 : decode cX5_packed 50 = .ok (.lreturn, 1) := by decide +kernel
theorem dX5_takesMove_0 : decode cX5_takesMove 0 = .ok (.aload_n 0, 1) := by decide +kernel
theorem dX5_takesMove_1 : decode cX5_takesMove 1 = .ok (.getfield 25, 3) := by decide +kernel
theorem dX5_takesMove_4 : decode cX5_takesMove 4 = .ok (.ifCond .ne 20, 3) := by decide +kernel
theorem dX5_takesMove_7 : decode cX5_takesMove 7 = .ok (.aload_n 0, 1) := by decide +kernel
theorem dX5_takesMove_8 : decode cX5_takesMove 8 = .ok (.getfield 18, 3) := by decide +kernel
theorem dX5_takesMove_11 : decode cX5_takesMove 11 = .ok (.iconst 0, 1) := by decide +kernel
theorem dX5_takesMove_12 : decode cX5_takesMove 12 = .ok (.iaload, 1) := by decide +kernel
theorem dX5_takesMove_13 : decode cX5_takesMove 13 = .ok (.aload_n 0, 1) := by decide +kernel
theorem dX5_takesMove_14 : decode cX5_takesMove 14 = .ok (.getfield 29, 3) := by decide +kernel
theorem dX5_takesMove_17 : decode cX5_takesMove 17 = .ok (.if_icmp .lt 7, 3) := by decide +kernel
theorem dX5_takesMove_20 : decode cX5_takesMove 20 = .ok (.iconst 1, 1) := by decide +kernel
theorem dX5_takesMove_21 : decode cX5_takesMove 21 = .ok (.goto 4, 3) := by decide +kernel
theorem dX5_takesMove_24 : decode cX5_takesMove 24 = .ok (.iconst 0, 1) := by decide +kernel
theorem dX5_takesMove_25 : decode cX5_takesMove 25 = .ok (.istore 4, 2) := by decide +kernel
theorem dX5_takesMove_27 : decode cX5_takesMove 27 = .ok (.aload_n 0, 1) := by decide +kernel
theorem dX5_takesMove_28 : decode cX5_takesMove 28 = .ok (.getfield 39, 3) := by decide +kernel
theorem dX5_takesMove_31 : decode cX5_takesMove 31 = .ok (.ifCond .ne 36, 3) := by decide +kernel
theorem dX5_takesMove_34 : decode cX5_takesMove 34 = .ok (.iload 4, 2) := by decide +kernel
theorem dX5_takesMove_36 : decode cX5_takesMove 36 = .ok (.ifCond .ne 31, 3) := by decide +kernel
theorem dX5_takesMove_39 : decode cX5_takesMove 39 = .ok (.aload_n 0, 1) := by decide +kernel
theorem dX5_takesMove_40 : decode cX5_takesMove 40 = .ok (.getfield 25, 3) := by decide +kernel
theorem dX5_takesMove_43 : decode cX5_takesMove 43 = .ok (.ifCond .lt 24, 3) := by decide +kernel
theorem dX5_takesMove_46 : decode cX5_takesMove 46 = .ok (.aload_n 0, 1) := by decide +kernel
theorem dX5_takesMove_47 : decode cX5_takesMove 47 = .ok (.getfield 25, 3) := by decide +kernel
theorem dX5_takesMove_50 : decode cX5_takesMove 50 = .ok (.iconst 5, 1) := by decide +kernel
theorem dX5_takesMove_51 : decode cX5_takesMove 51 = .ok (.if_icmp .ge 16, 3) := by decide +kernel
theorem dX5_takesMove_54 : decode cX5_takesMove 54 = .ok (.iload_n 3, 1) := by decide +kernel
theorem dX5_takesMove_55 : decode cX5_takesMove 55 = .ok (.aload_n 1, 1) := by decide +kernel
theorem dX5_takesMove_56 : decode cX5_takesMove 56 = .ok (.invokevirtual 65, 3) := by decide +kernel
theorem dX5_takesMove_59 : decode cX5_takesMove 59 = .ok (.if_icmp .gt 8, 3) := by decide +kernel
theorem dX5_takesMove_62 : decode cX5_takesMove 62 = .ok (.iload_n 3, 1) := by decide +kernel
theorem dX5_takesMove_63 : decode cX5_takesMove 63 = .ok (.iload_n 2, 1) := by decide +kernel
theorem dX5_takesMove_64 : decode cX5_takesMove 64 = .ok (.if_icmp .gt 5, 3) := by decide +kernel
theorem dX5_takesMove_67 : decode cX5_takesMove 67 = .ok (.iconst 0, 1) := by decide +kernel
theorem dX5_takesMove_68 : decode cX5_takesMove 68 = .ok (.ireturn, 1) := by decide +kernel
theorem dX5_takesMove_69 : decode cX5_takesMove 69 = .ok (.aload_n 0, 1) := by decide +kernel
theorem dX5_takesMove_70 : decode cX5_takesMove 70 = .ok (.getfield 51, 3) := by decide +kernel
theorem dX5_takesMove_73 : decode cX5_takesMove 73 = .ok (.aload_n 0, 1) := by decide +kernel
theorem dX5_takesMove_74 : decode cX5_takesMove 74 = .ok (.getfield 11, 3) := by decide +kernel
theorem dX5_takesMove_77 : decode cX5_takesMove 77 = .ok (.aload_n 0, 1) := by decide +kernel
theorem dX5_takesMove_78 : decode cX5_takesMove 78 = .ok (.getfield 25, 3) := by decide +kernel
theorem dX5_takesMove_81 : decode cX5_takesMove 81 = .ok (.invokevirtual 124, 3) := by decide +kernel
theorem dX5_takesMove_84 : decode cX5_takesMove 84 = .ok (.aload_n 0, 1) := by decide +kernel
theorem dX5_takesMove_85 : decode cX5_takesMove 85 = .ok (.getfield 42, 3) := by decide +kernel
theorem dX5_takesMove_88 : decode cX5_takesMove 88 = .ok (.aload_n 0, 1) := by decide +kernel
theorem dX5_takesMove_89 : decode cX5_takesMove 89 = .ok (.getfield 51, 3) := by decide +kernel
theorem dX5_takesMove_92 : decode cX5_takesMove 92 = .ok (.invokevirtual 127, 3) := by decide +kernel
theorem dX5_takesMove_95 : decode cX5_takesMove 95 = .ok (.aload_n 1, 1) := by decide +kernel
theorem dX5_takesMove_96 : decode cX5_takesMove 96 = .ok (.iload_n 3, 1) := by decide +kernel
theorem dX5_takesMove_97 : decode cX5_takesMove 97 = .ok (.iconst 1, 1) := by decide +kernel
theorem dX5_takesMove_98 : decode cX5_takesMove 98 = .ok (.isub, 1) := by decide +kernel
theorem dX5_takesMove_99 : decode cX5_takesMove 99 = .ok (.invokevirtual 87, 3) := by decide +kernel
theorem dX5_takesMove_102 : decode cX5_takesMove 102 = .ok (.istore 5, 2) := by decide +kernel
theorem dX5_takesMove_104 : decode cX5_takesMove 104 = .ok (.iload 5, 2) := by decide +kernel
theorem dX5_takesMove_106 : decode cX5_takesMove 106 = .ok (.bipush 43, 2) := by decide +kernel
theorem dX5_takesMove_108 : decode cX5_takesMove 108 = .ok (.if_icmp .eq 10, 3) := by decide +kernel
theorem dX5_takesMove_111 : decode cX5_takesMove 111 = .ok (.iload 5, 2) := by decide +kernel
theorem dX5_takesMove_113 : decode cX5_takesMove 113 = .ok (.bipush 35, 2) := by decide +kernel
theorem dX5_takesMove_115 : decode cX5_takesMove 115 = .ok (.if_icmp .ne 7, 3) := by decide +kernel
theorem dX5_takesMove_118 : decode cX5_takesMove 118 = .ok (.iconst 1, 1) := by decide +kernel
theorem dX5_takesMove_119 : decode cX5_takesMove 119 = .ok (.goto 4, 3) := by decide +kernel
theorem dX5_takesMove_122 : decode cX5_takesMove 122 = .ok (.iconst 0, 1) := by decide +kernel
theorem dX5_takesMove_123 : decode cX5_takesMove 123 = .ok (.istore 6, 2) := by decide +kernel
theorem dX5_takesMove_125 : decode cX5_takesMove 125 = .ok (.aload_n 0, 1) := by decide +kernel
theorem dX5_takesMove_126 : decode cX5_takesMove 126 = .ok (.getfield 42, 3) := by decide +kernel
theorem dX5_takesMove_129 : decode cX5_takesMove 129 = .ok (.aload_n 1, 1) := by decide +kernel
theorem dX5_takesMove_130 : decode cX5_takesMove 130 = .ok (.iload_n 2, 1) := by decide +kernel
theorem dX5_takesMove_131 : decode cX5_takesMove 131 = .ok (.iload 6, 2) := by decide +kernel
theorem dX5_takesMove_133 : decode cX5_takesMove 133 = .ok (.ifCond .eq 9, 3) := by decide +kernel
theorem dX5_takesMove_136 : decode cX5_takesMove 136 = .ok (.iload_n 3, 1) := by decide +kernel
theorem dX5_takesMove_137 : decode cX5_takesMove 137 = .ok (.iconst 1, 1) := by decide +kernel
theorem dX5_takesMove_138 : decode cX5_takesMove 138 = .ok (.isub, 1) := by decide +kernel
theorem dX5_takesMove_139 : decode cX5_takesMove 139 = .ok (.goto 4, 3) := by decide +kernel
theorem dX5_takesMove_142 : decode cX5_takesMove 142 = .ok (.iload_n 3, 1) := by decide +kernel
theorem dX5_takesMove_143 : decode cX5_takesMove 143 = .ok (.invokestatic 133, 3) := by decide +kernel
theorem dX5_takesMove_146 : decode cX5_takesMove 146 = .ok (.invokevirtual 137, 3) := by decide +kernel
theorem dX5_takesMove_149 : decode cX5_takesMove 149 = .ok (.istore 7, 2) := by decide +kernel
theorem dX5_takesMove_151 : decode cX5_takesMove 151 = .ok (.iload 7, 2) := by decide +kernel
theorem dX5_takesMove_153 : decode cX5_takesMove 153 = .ok (.iconst (-1), 1) := by decide +kernel
theorem dX5_takesMove_154 : decode cX5_takesMove 154 = .ok (.if_icmp .eq 22, 3) := by decide +kernel
theorem dX5_takesMove_157 : decode cX5_takesMove 157 = .ok (.iload 6, 2) := by decide +kernel
theorem dX5_takesMove_159 : decode cX5_takesMove 159 = .ok (.ifCond .eq 19, 3) := by decide +kernel
theorem dX5_takesMove_162 : decode cX5_takesMove 162 = .ok (.aload_n 0, 1) := by decide +kernel
theorem dX5_takesMove_163 : decode cX5_takesMove 163 = .ok (.getfield 42, 3) := by decide +kernel
theorem dX5_takesMove_166 : decode cX5_takesMove 166 = .ok (.iload 7, 2) := by decide +kernel
theorem dX5_takesMove_168 : decode cX5_takesMove 168 = .ok (.invokevirtual 141, 3) := by decide +kernel
theorem dX5_takesMove_171 : decode cX5_takesMove 171 = .ok (.iload 5, 2) := by decide +kernel
theorem dX5_takesMove_173 : decode cX5_takesMove 173 = .ok (.if_icmp .eq 5, 3) := by decide +kernel
theorem dX5_takesMove_176 : decode cX5_takesMove 176 = .ok (.iconst 0, 1) := by decide +kernel
theorem dX5_takesMove_177 : decode cX5_takesMove 177 = .ok (.ireturn, 1) := by decide +kernel
theorem dX5_takesMove_178 : decode cX5_takesMove 178 = .ok (.aload_n 0, 1) := by decide +kernel
theorem dX5_takesMove_179 : decode cX5_takesMove 179 = .ok (.getfield 51, 3) := by decide +kernel
theorem dX5_takesMove_182 : decode cX5_takesMove 182 = .ok (.aload_n 0, 1) := by decide +kernel
theorem dX5_takesMove_183 : decode cX5_takesMove 183 = .ok (.getfield 15, 3) := by decide +kernel
theorem dX5_takesMove_186 : decode cX5_takesMove 186 = .ok (.aload_n 0, 1) := by decide +kernel
theorem dX5_takesMove_187 : decode cX5_takesMove 187 = .ok (.getfield 25, 3) := by decide +kernel
theorem dX5_takesMove_190 : decode cX5_takesMove 190 = .ok (.invokevirtual 55, 3) := by decide +kernel
theorem dX5_takesMove_193 : decode cX5_takesMove 193 = .ok (.aload_n 0, 1) := by decide +kernel
theorem dX5_takesMove_194 : decode cX5_takesMove 194 = .ok (.getfield 51, 3) := by decide +kernel
theorem dX5_takesMove_197 : decode cX5_takesMove 197 = .ok (.aload_n 0, 1) := by decide +kernel
theorem dX5_takesMove_198 : decode cX5_takesMove 198 = .ok (.getfield 42, 3) := by decide +kernel
theorem dX5_takesMove_201 : decode cX5_takesMove 201 = .ok (.iload 7, 2) := by decide +kernel
theorem dX5_takesMove_203 : decode cX5_takesMove 203 = .ok (.invokevirtual 145, 3) := by decide +kernel
theorem dX5_takesMove_206 : decode cX5_takesMove 206 = .ok (.invokevirtual 148, 3) := by decide +kernel
theorem dX5_takesMove_209 : decode cX5_takesMove 209 = .ok (.aload_n 0, 1) := by decide +kernel
theorem dX5_takesMove_210 : decode cX5_takesMove 210 = .ok (.getfield 51, 3) := by decide +kernel
theorem dX5_takesMove_213 : decode cX5_takesMove 213 = .ok (.aload_n 0, 1) := by decide +kernel
theorem dX5_takesMove_214 : decode cX5_takesMove 214 = .ok (.getfield 11, 3) := by decide +kernel
theorem dX5_takesMove_217 : decode cX5_takesMove 217 = .ok (.aload_n 0, 1) := by decide +kernel
theorem dX5_takesMove_218 : decode cX5_takesMove 218 = .ok (.getfield 25, 3) := by decide +kernel
theorem dX5_takesMove_221 : decode cX5_takesMove 221 = .ok (.invokevirtual 55, 3) := by decide +kernel
theorem dX5_takesMove_224 : decode cX5_takesMove 224 = .ok (.aload_n 0, 1) := by decide +kernel
theorem dX5_takesMove_225 : decode cX5_takesMove 225 = .ok (.getfield 25, 3) := by decide +kernel
theorem dX5_takesMove_228 : decode cX5_takesMove 228 = .ok (.ifCond .le 16, 3) := by decide +kernel
theorem dX5_takesMove_231 : decode cX5_takesMove 231 = .ok (.aload_n 0, 1) := by decide +kernel
theorem dX5_takesMove_232 : decode cX5_takesMove 232 = .ok (.dup, 1) := by decide +kernel
theorem dX5_takesMove_233 : decode cX5_takesMove 233 = .ok (.getfield 32, 3) := by decide +kernel
theorem dX5_takesMove_236 : decode cX5_takesMove 236 = .ok (.iconst 1, 1) := by decide +kernel
theorem dX5_takesMove_237 : decode cX5_takesMove 237 = .ok (.iadd, 1) := by decide +kernel
theorem dX5_takesMove_238 : decode cX5_takesMove 238 = .ok (.putfield 32, 3) := by decide +kernel
theorem dX5_takesMove_241 : decode cX5_takesMove 241 = .ok (.goto 37, 3) := by decide +kernel
theorem dX5_takesMove_244 : decode cX5_takesMove 244 = .ok (.aload_n 0, 1) := by decide +kernel
theorem dX5_takesMove_245 : decode cX5_takesMove 245 = .ok (.getfield 18, 3) := by decide +kernel
theorem dX5_takesMove_248 : decode cX5_takesMove 248 = .ok (.iconst 0, 1) := by decide +kernel
theorem dX5_takesMove_249 : decode cX5_takesMove 249 = .ok (.iaload, 1) := by decide +kernel
theorem dX5_takesMove_250 : decode cX5_takesMove 250 = .ok (.aload_n 0, 1) := by decide +kernel
theorem dX5_takesMove_251 : decode cX5_takesMove 251 = .ok (.getfield 22, 3) := by decide +kernel
theorem dX5_takesMove_254 : decode cX5_takesMove 254 = .ok (.arraylength, 1) := by decide +kernel
theorem dX5_takesMove_255 : decode cX5_takesMove 255 = .ok (.if_icmp .ge 23, 3) := by decide +kernel
theorem dX5_takesMove_258 : decode cX5_takesMove 258 = .ok (.aload_n 0, 1) := by decide +kernel
theorem dX5_takesMove_259 : decode cX5_takesMove 259 = .ok (.getfield 22, 3) := by decide +kernel
theorem dX5_takesMove_262 : decode cX5_takesMove 262 = .ok (.aload_n 0, 1) := by decide +kernel
theorem dX5_takesMove_263 : decode cX5_takesMove 263 = .ok (.getfield 18, 3) := by decide +kernel
theorem dX5_takesMove_266 : decode cX5_takesMove 266 = .ok (.iconst 0, 1) := by decide +kernel
theorem dX5_takesMove_267 : decode cX5_takesMove 267 = .ok (.iaload, 1) := by decide +kernel
theorem dX5_takesMove_268 : decode cX5_takesMove 268 = .ok (.aload_n 0, 1) := by decide +kernel
theorem dX5_takesMove_269 : decode cX5_takesMove 269 = .ok (.getfield 42, 3) := by decide +kernel
theorem dX5_takesMove_272 : decode cX5_takesMove 272 = .ok (.iload 7, 2) := by decide +kernel
theorem dX5_takesMove_274 : decode cX5_takesMove 274 = .ok (.invokevirtual 145, 3) := by decide +kernel
theorem dX5_takesMove_277 : decode cX5_takesMove 277 = .ok (.iastore, 1) := by decide +kernel
theorem dX5_takesMove_278 : decode cX5_takesMove 278 = .ok (.aload_n 0, 1) := by decide +kernel
theorem dX5_takesMove_279 : decode cX5_takesMove 279 = .ok (.getfield 18, 3) := by decide +kernel
theorem dX5_takesMove_282 : decode cX5_takesMove 282 = .ok (.aload_n 0, 1) := by decide +kernel
theorem dX5_takesMove_283 : decode cX5_takesMove 283 = .ok (.getfield 25, 3) := by decide +kernel
theorem dX5_takesMove_286 : decode cX5_takesMove 286 = .ok (.dup2, 1) := by decide +kernel
theorem dX5_takesMove_287 : decode cX5_takesMove 287 = .ok (.iaload, 1) := by decide +kernel
theorem dX5_takesMove_288 : decode cX5_takesMove 288 = .ok (.iconst 1, 1) := by decide +kernel
theorem dX5_takesMove_289 : decode cX5_takesMove 289 = .ok (.iadd, 1) := by decide +kernel
theorem dX5_takesMove_290 : decode cX5_takesMove 290 = .ok (.iastore, 1) := by decide +kernel
theorem dX5_takesMove_291 : decode cX5_takesMove 291 = .ok (.aload_n 0, 1) := by decide +kernel
theorem dX5_takesMove_292 : decode cX5_takesMove 292 = .ok (.iconst 0, 1) := by decide +kernel
theorem dX5_takesMove_293 : decode cX5_takesMove 293 = .ok (.putfield 35, 3) := by decide +kernel
theorem dX5_takesMove_296 : decode cX5_takesMove 296 = .ok (.iconst 1, 1) := by decide +kernel
theorem dX5_takesMove_297 : decode cX5_takesMove 297 = .ok (.ireturn, 1) := by decide +kernel
theorem dX5_isNumber_0 : decode cX5_isNumber 0 = .ok (.iconst 0, 1) := by decide +kernel
theorem dX5_isNumber_1 : decode cX5_isNumber 1 = .ok (.istore_n 3, 1) := by decide +kernel
theorem dX5_isNumber_2 : decode cX5_isNumber 2 = .ok (.iconst 0, 1) := by decide +kernel
theorem dX5_isNumber_3 : decode cX5_isNumber 3 = .ok (.istore 4, 2) := by decide +kernel
theorem dX5_isNumber_5 : decode cX5_isNumber 5 = .ok (.iload_n 1, 1) := by decide +kernel
theorem dX5_isNumber_6 : decode cX5_isNumber 6 = .ok (.istore 5, 2) := by decide +kernel
theorem dX5_isNumber_8 : decode cX5_isNumber 8 = .ok (.iload 5, 2) := by decide +kernel
theorem dX5_isNumber_10 : decode cX5_isNumber 10 = .ok (.iload_n 2, 1) := by decide +kernel
theorem dX5_isNumber_11 : decode cX5_isNumber 11 = .ok (.if_icmp .ge 66, 3) := by decide +kernel
theorem dX5_isNumber_14 : decode cX5_isNumber 14 = .ok (.iload 5, 2) := by decide +kernel
theorem dX5_isNumber_16 : decode cX5_isNumber 16 = .ok (.aload_n 0, 1) := by decide +kernel
theorem dX5_isNumber_17 : decode cX5_isNumber 17 = .ok (.invokevirtual 65, 3) := by decide +kernel
theorem dX5_isNumber_20 : decode cX5_isNumber 20 = .ok (.if_icmp .ge 57, 3) := by decide +kernel
theorem dX5_isNumber_23 : decode cX5_isNumber 23 = .ok (.aload_n 0, 1) := by decide +kernel
theorem dX5_isNumber_24 : decode cX5_isNumber 24 = .ok (.iload 5, 2) := by decide +kernel
theorem dX5_isNumber_26 : decode cX5_isNumber 26 = .ok (.invokevirtual 87, 3) := by decide +kernel
theorem dX5_isNumber_29 : decode cX5_isNumber 29 = .ok (.istore 6, 2) := by decide +kernel
theorem dX5_isNumber_31 : decode cX5_isNumber 31 = .ok (.iload 6, 2) := by decide +kernel
theorem dX5_isNumber_33 : decode cX5_isNumber 33 = .ok (.bipush 46, 2) := by decide +kernel
theorem dX5_isNumber_35 : decode cX5_isNumber 35 = .ok (.if_icmp .ne 9, 3) := by decide +kernel
theorem dX5_isNumber_38 : decode cX5_isNumber 38 = .ok (.iinc 4 1, 3) := by decide +kernel
theorem dX5_isNumber_41 : decode cX5_isNumber 41 = .ok (.goto 30, 3) := by decide +kernel
theorem dX5_isNumber_44 : decode cX5_isNumber 44 = .ok (.iload 6, 2) := by decide +kernel
theorem dX5_isNumber_46 : decode cX5_isNumber 46 = .ok (.bipush 48, 2) := by decide +kernel
theorem dX5_isNumber_48 : decode cX5_isNumber 48 = .ok (.if_icmp .lt 21, 3) := by decide +kernel
theorem dX5_isNumber_51 : decode cX5_isNumber 51 = .ok (.iload 6, 2) := by decide +kernel
theorem dX5_isNumber_53 : decode cX5_isNumber 53 = .ok (.bipush 57, 2) := by decide +kernel
theorem dX5_isNumber_55 : decode cX5_isNumber 55 = .ok (.if_icmp .gt 14, 3) := by decide +kernel
theorem dX5_isNumber_58 : decode cX5_isNumber 58 = .ok (.iload 4, 2) := by decide +kernel
theorem dX5_isNumber_60 : decode cX5_isNumber 60 = .ok (.ifCond .ne 9, 3) := by decide +kernel
theorem dX5_isNumber_63 : decode cX5_isNumber 63 = .ok (.iinc 3 1, 3) := by decide +kernel
theorem dX5_isNumber_66 : decode cX5_isNumber 66 = .ok (.goto 5, 3) := by decide +kernel
theorem dX5_isNumber_69 : decode cX5_isNumber 69 = .ok (.iconst 0, 1) := by decide +kernel
theorem dX5_isNumber_70 : decode cX5_isNumber 70 = .ok (.ireturn, 1) := by decide +kernel
theorem dX5_isNumber_71 : decode cX5_isNumber 71 = .ok (.iinc 5 1, 3) := by decide +kernel
theorem dX5_isNumber_74 : decode cX5_isNumber 74 = .ok (.goto (-66), 3) := by decide +kernel
theorem dX5_isNumber_77 : decode cX5_isNumber 77 = .ok (.iload_n 3, 1) := by decide +kernel
theorem dX5_isNumber_78 : decode cX5_isNumber 78 = .ok (.iconst 1, 1) := by decide +kernel
theorem dX5_isNumber_79 : decode cX5_isNumber 79 = .ok (.if_icmp .lt 24, 3) := by decide +kernel
theorem dX5_isNumber_82 : decode cX5_isNumber 82 = .ok (.iload_n 3, 1) := by decide +kernel
theorem dX5_isNumber_83 : decode cX5_isNumber 83 = .ok (.iconst 3, 1) := by decide +kernel
theorem dX5_isNumber_84 : decode cX5_isNumber 84 = .ok (.if_icmp .gt 19, 3) := by decide +kernel
theorem dX5_isNumber_87 : decode cX5_isNumber 87 = .ok (.iload 4, 2) := by decide +kernel
theorem dX5_isNumber_89 : decode cX5_isNumber 89 = .ok (.iconst 1, 1) := by decide +kernel
theorem dX5_isNumber_90 : decode cX5_isNumber 90 = .ok (.if_icmp .eq 9, 3) := by decide +kernel
theorem dX5_isNumber_93 : decode cX5_isNumber 93 = .ok (.iload 4, 2) := by decide +kernel
theorem dX5_isNumber_95 : decode cX5_isNumber 95 = .ok (.iconst 3, 1) := by decide +kernel
theorem dX5_isNumber_96 : decode cX5_isNumber 96 = .ok (.if_icmp .ne 7, 3) := by decide +kernel
theorem dX5_isNumber_99 : decode cX5_isNumber 99 = .ok (.iconst 1, 1) := by decide +kernel
theorem dX5_isNumber_100 : decode cX5_isNumber 100 = .ok (.goto 4, 3) := by decide +kernel
theorem dX5_isNumber_103 : decode cX5_isNumber 103 = .ok (.iconst 0, 1) := by decide +kernel
theorem dX5_isNumber_104 : decode cX5_isNumber 104 = .ok (.ireturn, 1) := by decide +kernel
theorem dX5_isJust_0 : decode cX5_isJust 0 = .ok (.iload_n 1, 1) := by decide +kernel
theorem dX5_isJust_1 : decode cX5_isJust 1 = .ok (.ifCond .lt 21, 3) := by decide +kernel
theorem dX5_isJust_4 : decode cX5_isJust 4 = .ok (.iload_n 2, 1) := by decide +kernel
theorem dX5_isJust_5 : decode cX5_isJust 5 = .ok (.aload_n 0, 1) := by decide +kernel
theorem dX5_isJust_6 : decode cX5_isJust 6 = .ok (.invokevirtual 65, 3) := by decide +kernel
theorem dX5_isJust_9 : decode cX5_isJust 9 = .ok (.if_icmp .gt 13, 3) := by decide +kernel
theorem dX5_isJust_12 : decode cX5_isJust 12 = .ok (.iload_n 2, 1) := by decide +kernel
theorem dX5_isJust_13 : decode cX5_isJust 13 = .ok (.iload_n 1, 1) := by decide +kernel
theorem dX5_isJust_14 : decode cX5_isJust 14 = .ok (.isub, 1) := by decide +kernel
theorem dX5_isJust_15 : decode cX5_isJust 15 = .ok (.aload_n 3, 1) := by decide +kernel
theorem dX5_isJust_16 : decode cX5_isJust 16 = .ok (.invokevirtual 113, 3) := by decide +kernel
theorem dX5_isJust_19 : decode cX5_isJust 19 = .ok (.if_icmp .eq 5, 3) := by decide +kernel
theorem dX5_isJust_22 : decode cX5_isJust 22 = .ok (.iconst 0, 1) := by decide +kernel
theorem dX5_isJust_23 : decode cX5_isJust 23 = .ok (.ireturn, 1) := by decide +kernel
theorem dX5_isJust_24 : decode cX5_isJust 24 = .ok (.iconst 0, 1) := by decide +kernel
theorem dX5_isJust_25 : decode cX5_isJust 25 = .ok (.istore 4, 2) := by decide +kernel
theorem dX5_isJust_27 : decode cX5_isJust 27 = .ok (.iload 4, 2) := by decide +kernel
theorem dX5_isJust_29 : decode cX5_isJust 29 = .ok (.aload_n 3, 1) := by decide +kernel
theorem dX5_isJust_30 : decode cX5_isJust 30 = .ok (.invokevirtual 113, 3) := by decide +kernel
theorem dX5_isJust_33 : decode cX5_isJust 33 = .ok (.if_icmp .ge 39, 3) := by decide +kernel
theorem dX5_isJust_36 : decode cX5_isJust 36 = .ok (.iload_n 1, 1) := by decide +kernel
theorem dX5_isJust_37 : decode cX5_isJust 37 = .ok (.iload 4, 2) := by decide +kernel
theorem dX5_isJust_39 : decode cX5_isJust 39 = .ok (.iadd, 1) := by decide +kernel
theorem dX5_isJust_40 : decode cX5_isJust 40 = .ok (.aload_n 0, 1) := by decide +kernel
theorem dX5_isJust_41 : decode cX5_isJust 41 = .ok (.invokevirtual 65, 3) := by decide +kernel
theorem dX5_isJust_44 : decode cX5_isJust 44 = .ok (.if_icmp .ge 28, 3) := by decide +kernel
theorem dX5_isJust_47 : decode cX5_isJust 47 = .ok (.aload_n 0, 1) := by decide +kernel
theorem dX5_isJust_48 : decode cX5_isJust 48 = .ok (.iload_n 1, 1) := by decide +kernel
theorem dX5_isJust_49 : decode cX5_isJust 49 = .ok (.iload 4, 2) := by decide +kernel
theorem dX5_isJust_51 : decode cX5_isJust 51 = .ok (.iadd, 1) := by decide +kernel
theorem dX5_isJust_52 : decode cX5_isJust 52 = .ok (.invokevirtual 87, 3) := by decide +kernel
theorem dX5_isJust_55 : decode cX5_isJust 55 = .ok (.aload_n 3, 1) := by decide +kernel
theorem dX5_isJust_56 : decode cX5_isJust 56 = .ok (.iload 4, 2) := by decide +kernel
theorem dX5_isJust_58 : decode cX5_isJust 58 = .ok (.invokevirtual 116, 3) := by decide +kernel
theorem dX5_isJust_61 : decode cX5_isJust 61 = .ok (.if_icmp .eq 5, 3) := by decide +kernel
theorem dX5_isJust_64 : decode cX5_isJust 64 = .ok (.iconst 0, 1) := by decide +kernel
theorem dX5_isJust_65 : decode cX5_isJust 65 = .ok (.ireturn, 1) := by decide +kernel
theorem dX5_isJust_66 : decode cX5_isJust 66 = .ok (.iinc 4 1, 3) := by decide +kernel
theorem dX5_isJust_69 : decode cX5_isJust 69 = .ok (.goto (-42), 3) := by decide +kernel
theorem dX5_isJust_72 : decode cX5_isJust 72 = .ok (.iconst 1, 1) := by decide +kernel
theorem dX5_isJust_73 : decode cX5_isJust 73 = .ok (.ireturn, 1) := by decide +kernel
theorem dX5_isResult_0 : decode cX5_isResult 0 = .ok (.aload_n 0, 1) := by decide +kernel
theorem dX5_isResult_1 : decode cX5_isResult 1 = .ok (.iload_n 1, 1) := by decide +kernel
theorem dX5_isResult_2 : decode cX5_isResult 2 = .ok (.iload_n 2, 1) := by decide +kernel
theorem dX5_isResult_3 : decode cX5_isResult 3 = .ok (.ldc 101, 2) := by decide +kernel
theorem dX5_isResult_5 : decode cX5_isResult 5 = .ok (.invokestatic 103, 3) := by decide +kernel
theorem dX5_isResult_8 : decode cX5_isResult 8 = .ok (.ifCond .ne 36, 3) := by decide +kernel
theorem dX5_isResult_11 : decode cX5_isResult 11 = .ok (.aload_n 0, 1) := by decide +kernel
theorem dX5_isResult_12 : decode cX5_isResult 12 = .ok (.iload_n 1, 1) := by decide +kernel
theorem dX5_isResult_13 : decode cX5_isResult 13 = .ok (.iload_n 2, 1) := by decide +kernel
theorem dX5_isResult_14 : decode cX5_isResult 14 = .ok (.ldc 107, 2) := by decide +kernel
theorem dX5_isResult_16 : decode cX5_isResult 16 = .ok (.invokestatic 103, 3) := by decide +kernel
theorem dX5_isResult_19 : decode cX5_isResult 19 = .ok (.ifCond .ne 25, 3) := by decide +kernel
theorem dX5_isResult_22 : decode cX5_isResult 22 = .ok (.aload_n 0, 1) := by decide +kernel
theorem dX5_isResult_23 : decode cX5_isResult 23 = .ok (.iload_n 1, 1) := by decide +kernel
theorem dX5_isResult_24 : decode cX5_isResult 24 = .ok (.iload_n 2, 1) := by decide +kernel
theorem dX5_isResult_25 : decode cX5_isResult 25 = .ok (.ldc 109, 2) := by decide +kernel
theorem dX5_isResult_27 : decode cX5_isResult 27 = .ok (.invokestatic 103, 3) := by decide +kernel
theorem dX5_isResult_30 : decode cX5_isResult 30 = .ok (.ifCond .ne 14, 3) := by decide +kernel
theorem dX5_isResult_33 : decode cX5_isResult 33 = .ok (.aload_n 0, 1) := by decide +kernel
theorem dX5_isResult_34 : decode cX5_isResult 34 = .ok (.iload_n 1, 1) := by decide +kernel
theorem dX5_isResult_35 : decode cX5_isResult 35 = .ok (.iload_n 2, 1) := by decide +kernel
theorem dX5_isResult_36 : decode cX5_isResult 36 = .ok (.ldc 111, 2) := by decide +kernel
theorem dX5_isResult_38 : decode cX5_isResult 38 = .ok (.invokestatic 103, 3) := by decide +kernel
theorem dX5_isResult_41 : decode cX5_isResult 41 = .ok (.ifCond .eq 7, 3) := by decide +kernel
theorem dX5_isResult_44 : decode cX5_isResult 44 = .ok (.iconst 1, 1) := by decide +kernel
theorem dX5_isResult_45 : decode cX5_isResult 45 = .ok (.goto 4, 3) := by decide +kernel
theorem dX5_isResult_48 : decode cX5_isResult 48 = .ok (.iconst 0, 1) := by decide +kernel
theorem dX5_isResult_49 : decode cX5_isResult 49 = .ok (.ireturn, 1) := by decide +kernel
theorem dX5_tokenAt_0 : decode cX5_tokenAt 0 = .ok (.iload_n 1, 1) := by decide +kernel
theorem dX5_tokenAt_1 : decode cX5_tokenAt 1 = .ok (.ifCond .lt 11, 3) := by decide +kernel
theorem dX5_tokenAt_4 : decode cX5_tokenAt 4 = .ok (.iload_n 1, 1) := by decide +kernel
theorem dX5_tokenAt_5 : decode cX5_tokenAt 5 = .ok (.aload_n 0, 1) := by decide +kernel
theorem dX5_tokenAt_6 : decode cX5_tokenAt 6 = .ok (.invokevirtual 65, 3) := by decide +kernel
theorem dX5_tokenAt_9 : decode cX5_tokenAt 9 = .ok (.if_icmp .lt 5, 3) := by decide +kernel
theorem dX5_tokenAt_12 : decode cX5_tokenAt 12 = .ok (.iconst (-1), 1) := by decide +kernel
theorem dX5_tokenAt_13 : decode cX5_tokenAt 13 = .ok (.ireturn, 1) := by decide +kernel
theorem dX5_tokenAt_14 : decode cX5_tokenAt 14 = .ok (.aload_n 0, 1) := by decide +kernel
theorem dX5_tokenAt_15 : decode cX5_tokenAt 15 = .ok (.iload_n 1, 1) := by decide +kernel
theorem dX5_tokenAt_16 : decode cX5_tokenAt 16 = .ok (.invokevirtual 87, 3) := by decide +kernel
theorem dX5_tokenAt_19 : decode cX5_tokenAt 19 = .ok (.lookupswitch 59 #[(32, 49), (40, 51), (41, 53), (123, 55), (125, 57)], 49) := by decide +kernel
theorem dX5_tokenAt_68 : decode cX5_tokenAt 68 = .ok (.iconst 0, 1) := by decide +kernel
theorem dX5_tokenAt_69 : decode cX5_tokenAt 69 = .ok (.ireturn, 1) := by decide +kernel
theorem dX5_tokenAt_70 : decode cX5_tokenAt 70 = .ok (.iconst 1, 1) := by decide +kernel
theorem dX5_tokenAt_71 : decode cX5_tokenAt 71 = .ok (.ireturn, 1) := by decide +kernel
theorem dX5_tokenAt_72 : decode cX5_tokenAt 72 = .ok (.iconst 2, 1) := by decide +kernel
theorem dX5_tokenAt_73 : decode cX5_tokenAt 73 = .ok (.ireturn, 1) := by decide +kernel
theorem dX5_tokenAt_74 : decode cX5_tokenAt 74 = .ok (.iconst 3, 1) := by decide +kernel
theorem dX5_tokenAt_75 : decode cX5_tokenAt 75 = .ok (.ireturn, 1) := by decide +kernel
theorem dX5_tokenAt_76 : decode cX5_tokenAt 76 = .ok (.iconst (-1), 1) := by decide +kernel
theorem dX5_tokenAt_77 : decode cX5_tokenAt 77 = .ok (.ireturn, 1) := by decide +kernel
theorem dX5_tokenAt_78 : decode cX5_tokenAt 78 = .ok (.aload_n 0, 1) := by decide +kernel
theorem dX5_tokenAt_79 : decode cX5_tokenAt 79 = .ok (.iload_n 1, 1) := by decide +kernel
theorem dX5_tokenAt_80 : decode cX5_tokenAt 80 = .ok (.iload_n 2, 1) := by decide +kernel
theorem dX5_tokenAt_81 : decode cX5_tokenAt 81 = .ok (.invokestatic 95, 3) := by decide +kernel
theorem dX5_tokenAt_84 : decode cX5_tokenAt 84 = .ok (.ifCond .eq 5, 3) := by decide +kernel
theorem dX5_tokenAt_87 : decode cX5_tokenAt 87 = .ok (.iconst 4, 1) := by decide +kernel
theorem dX5_tokenAt_88 : decode cX5_tokenAt 88 = .ok (.ireturn, 1) := by decide +kernel
theorem dX5_tokenAt_89 : decode cX5_tokenAt 89 = .ok (.aload_n 0, 1) := by decide +kernel
theorem dX5_tokenAt_90 : decode cX5_tokenAt 90 = .ok (.iload_n 1, 1) := by decide +kernel
theorem dX5_tokenAt_91 : decode cX5_tokenAt 91 = .ok (.iload_n 2, 1) := by decide +kernel
theorem dX5_tokenAt_92 : decode cX5_tokenAt 92 = .ok (.invokestatic 98, 3) := by decide +kernel
theorem dX5_tokenAt_95 : decode cX5_tokenAt 95 = .ok (.ifCond .eq 7, 3) := by decide +kernel
theorem dX5_tokenAt_98 : decode cX5_tokenAt 98 = .ok (.iconst 5, 1) := by decide +kernel
theorem dX5_tokenAt_99 : decode cX5_tokenAt 99 = .ok (.goto 5, 3) := by decide +kernel
theorem dX5_tokenAt_102 : decode cX5_tokenAt 102 = .ok (.bipush 6, 2) := by decide +kernel
theorem dX5_tokenAt_104 : decode cX5_tokenAt 104 = .ok (.ireturn, 1) := by decide +kernel
theorem dX5_read_0 : decode cX5_read 0 = .ok (.aload_n 2, 1) := by decide +kernel
theorem dX5_read_1 : decode cX5_read 1 = .ok (.aload_n 0, 1) := by decide +kernel
theorem dX5_read_2 : decode cX5_read 2 = .ok (.getfield 11, 3) := by decide +kernel
theorem dX5_read_5 : decode cX5_read 5 = .ok (.iconst 0, 1) := by decide +kernel
theorem dX5_read_6 : decode cX5_read 6 = .ok (.invokevirtual 55, 3) := by decide +kernel
theorem dX5_read_9 : decode cX5_read 9 = .ok (.aload_n 0, 1) := by decide +kernel
theorem dX5_read_10 : decode cX5_read 10 = .ok (.getfield 18, 3) := by decide +kernel
theorem dX5_read_13 : decode cX5_read 13 = .ok (.iconst 0, 1) := by decide +kernel
theorem dX5_read_14 : decode cX5_read 14 = .ok (.iconst 0, 1) := by decide +kernel
theorem dX5_read_15 : decode cX5_read 15 = .ok (.iastore, 1) := by decide +kernel
theorem dX5_read_16 : decode cX5_read 16 = .ok (.aload_n 0, 1) := by decide +kernel
theorem dX5_read_17 : decode cX5_read 17 = .ok (.iconst 0, 1) := by decide +kernel
theorem dX5_read_18 : decode cX5_read 18 = .ok (.putfield 25, 3) := by decide +kernel
theorem dX5_read_21 : decode cX5_read 21 = .ok (.aload_n 0, 1) := by decide +kernel
theorem dX5_read_22 : decode cX5_read 22 = .ok (.iload_n 3, 1) := by decide +kernel
theorem dX5_read_23 : decode cX5_read 23 = .ok (.aload_n 0, 1) := by decide +kernel
theorem dX5_read_24 : decode cX5_read 24 = .ok (.getfield 22, 3) := by decide +kernel
theorem dX5_read_27 : decode cX5_read 27 = .ok (.arraylength, 1) := by decide +kernel
theorem dX5_read_28 : decode cX5_read 28 = .ok (.invokestatic 59, 3) := by decide +kernel
theorem dX5_read_31 : decode cX5_read 31 = .ok (.putfield 29, 3) := by decide +kernel
theorem dX5_read_34 : decode cX5_read 34 = .ok (.aload_n 0, 1) := by decide +kernel
theorem dX5_read_35 : decode cX5_read 35 = .ok (.iconst 0, 1) := by decide +kernel
theorem dX5_read_36 : decode cX5_read 36 = .ok (.putfield 32, 3) := by decide +kernel
theorem dX5_read_39 : decode cX5_read 39 = .ok (.aload_n 0, 1) := by decide +kernel
theorem dX5_read_40 : decode cX5_read 40 = .ok (.iconst 0, 1) := by decide +kernel
theorem dX5_read_41 : decode cX5_read 41 = .ok (.putfield 35, 3) := by decide +kernel
theorem dX5_read_44 : decode cX5_read 44 = .ok (.aload_n 0, 1) := by decide +kernel
theorem dX5_read_45 : decode cX5_read 45 = .ok (.iconst 0, 1) := by decide +kernel
theorem dX5_read_46 : decode cX5_read 46 = .ok (.putfield 39, 3) := by decide +kernel
theorem dX5_read_49 : decode cX5_read 49 = .ok (.aload_n 1, 1) := by decide +kernel
theorem dX5_read_50 : decode cX5_read 50 = .ok (.invokevirtual 65, 3) := by decide +kernel
theorem dX5_read_53 : decode cX5_read 53 = .ok (.istore 4, 2) := by decide +kernel
theorem dX5_read_55 : decode cX5_read 55 = .ok (.iconst 0, 1) := by decide +kernel
theorem dX5_read_56 : decode cX5_read 56 = .ok (.istore 5, 2) := by decide +kernel
theorem dX5_read_58 : decode cX5_read 58 = .ok (.iconst 0, 1) := by decide +kernel
theorem dX5_read_59 : decode cX5_read 59 = .ok (.istore 6, 2) := by decide +kernel
theorem dX5_read_61 : decode cX5_read 61 = .ok (.iload 6, 2) := by decide +kernel
theorem dX5_read_63 : decode cX5_read 63 = .ok (.iload 4, 2) := by decide +kernel
theorem dX5_read_65 : decode cX5_read 65 = .ok (.if_icmp .ge 73, 3) := by decide +kernel
theorem dX5_read_68 : decode cX5_read 68 = .ok (.iload 5, 2) := by decide +kernel
theorem dX5_read_70 : decode cX5_read 70 = .ok (.iload 4, 2) := by decide +kernel
theorem dX5_read_72 : decode cX5_read 72 = .ok (.if_icmp .ge 66, 3) := by decide +kernel
theorem dX5_read_75 : decode cX5_read 75 = .ok (.aload_n 1, 1) := by decide +kernel
theorem dX5_read_76 : decode cX5_read 76 = .ok (.iload 5, 2) := by decide +kernel
theorem dX5_read_78 : decode cX5_read 78 = .ok (.invokestatic 71, 3) := by decide +kernel
theorem dX5_read_81 : decode cX5_read 81 = .ok (.istore 7, 2) := by decide +kernel
theorem dX5_read_83 : decode cX5_read 83 = .ok (.aload_n 1, 1) := by decide +kernel
theorem dX5_read_84 : decode cX5_read 84 = .ok (.iload 5, 2) := by decide +kernel
theorem dX5_read_86 : decode cX5_read 86 = .ok (.iload 7, 2) := by decide +kernel
theorem dX5_read_88 : decode cX5_read 88 = .ok (.invokestatic 75, 3) := by decide +kernel
theorem dX5_read_91 : decode cX5_read 91 = .ok (.istore 8, 2) := by decide +kernel
theorem dX5_read_93 : decode cX5_read 93 = .ok (.iload 8, 2) := by decide +kernel
theorem dX5_read_95 : decode cX5_read 95 = .ok (.bipush 6, 2) := by decide +kernel
theorem dX5_read_97 : decode cX5_read 97 = .ok (.if_icmp .ne 15, 3) := by decide +kernel
theorem dX5_read_100 : decode cX5_read 100 = .ok (.aload_n 0, 1) := by decide +kernel
theorem dX5_read_101 : decode cX5_read 101 = .ok (.aload_n 1, 1) := by decide +kernel
theorem dX5_read_102 : decode cX5_read 102 = .ok (.iload 5, 2) := by decide +kernel
theorem dX5_read_104 : decode cX5_read 104 = .ok (.iload 7, 2) := by decide +kernel
theorem dX5_read_106 : decode cX5_read 106 = .ok (.invokevirtual 79, 3) := by decide +kernel
theorem dX5_read_109 : decode cX5_read 109 = .ok (.goto 9, 3) := by decide +kernel
theorem dX5_read_112 : decode cX5_read 112 = .ok (.aload_n 0, 1) := by decide +kernel
theorem dX5_read_113 : decode cX5_read 113 = .ok (.iload 8, 2) := by decide +kernel
theorem dX5_read_115 : decode cX5_read 115 = .ok (.invokevirtual 83, 3) := by decide +kernel
theorem dX5_read_118 : decode cX5_read 118 = .ok (.istore 9, 2) := by decide +kernel
theorem dX5_read_120 : decode cX5_read 120 = .ok (.iload 9, 2) := by decide +kernel
theorem dX5_read_122 : decode cX5_read 122 = .ok (.ifCond .ne 6, 3) := by decide +kernel
theorem dX5_read_125 : decode cX5_read 125 = .ok (.iload 5, 2) := by decide +kernel
theorem dX5_read_127 : decode cX5_read 127 = .ok (.ireturn, 1) := by decide +kernel
theorem dX5_read_128 : decode cX5_read 128 = .ok (.iload 7, 2) := by decide +kernel
theorem dX5_read_130 : decode cX5_read 130 = .ok (.istore 5, 2) := by decide +kernel
theorem dX5_read_132 : decode cX5_read 132 = .ok (.iinc 6 1, 3) := by decide +kernel
theorem dX5_read_135 : decode cX5_read 135 = .ok (.goto (-74), 3) := by decide +kernel
theorem dX5_read_138 : decode cX5_read 138 = .ok (.iload 5, 2) := by decide +kernel
theorem dX5_read_140 : decode cX5_read 140 = .ok (.iload 4, 2) := by decide +kernel
theorem dX5_read_142 : decode cX5_read 142 = .ok (.if_icmp .ne 21, 3) := by decide +kernel
theorem dX5_read_145 : decode cX5_read 145 = .ok (.aload_n 0, 1) := by decide +kernel
theorem dX5_read_146 : decode cX5_read 146 = .ok (.getfield 25, 3) := by decide +kernel
theorem dX5_read_149 : decode cX5_read 149 = .ok (.ifCond .ne 14, 3) := by decide +kernel
theorem dX5_read_152 : decode cX5_read 152 = .ok (.aload_n 0, 1) := by decide +kernel
theorem dX5_read_153 : decode cX5_read 153 = .ok (.getfield 35, 3) := by decide +kernel
theorem dX5_read_156 : decode cX5_read 156 = .ok (.ifCond .ne 7, 3) := by decide +kernel
theorem dX5_read_159 : decode cX5_read 159 = .ok (.iconst 1, 1) := by decide +kernel
theorem dX5_read_160 : decode cX5_read 160 = .ok (.goto 4, 3) := by decide +kernel
theorem dX5_read_163 : decode cX5_read 163 = .ok (.iconst 0, 1) := by decide +kernel
theorem dX5_read_164 : decode cX5_read 164 = .ok (.istore 6, 2) := by decide +kernel
theorem dX5_read_166 : decode cX5_read 166 = .ok (.iload 6, 2) := by decide +kernel
theorem dX5_read_168 : decode cX5_read 168 = .ok (.ifCond .eq 7, 3) := by decide +kernel
theorem dX5_read_171 : decode cX5_read 171 = .ok (.iconst (-1), 1) := by decide +kernel
theorem dX5_read_172 : decode cX5_read 172 = .ok (.goto 5, 3) := by decide +kernel
theorem dX5_read_175 : decode cX5_read 175 = .ok (.iload 4, 2) := by decide +kernel
theorem dX5_read_177 : decode cX5_read 177 = .ok (.ireturn, 1) := by decide +kernel
def wp_X11_asked_0 (D : wD) (post : Int32 → wS → Prop) (xp : String → wS → Prop)  (S : wS) (a0 : Nat) : Prop :=
wp_X11_numberAsked D (fun r_1 S_2 => 
post r_1 S_2) xp S a0
abbrev r_X11_asked : Room := { frames := 7, cells := 1, slots := 6, locals := 141 }
def wp_X11_asked (D : wD) (post : Int32 → wS → Prop) (xp : String → wS → Prop) (S : wS) (a0 : Nat) : Prop := wp_X11_asked_0 D post xp S a0
set_option maxHeartbeats 4000000 in
set_option maxRecDepth 100000 in
theorem t_X11_asked_0 {p : Program} {l : Launch} {e : Env} {s : State} {m : MethodId} {args : Array Value} {below : List Frame} {meth : Method} {c : Code} {D : wD} {cy : Nat → ClassId} {X : va_W} {A : Nat → Prop} {S0 : wS} {post : Int32 → wS → Prop} {xp : String → wS → Prop} (F : CallFix p m c cX11_asked 1 s args wz_X11_asked RX11) (hr : meth.sig.returnType = (some .int)) (hlocks : meth.locks = false) (hK : wK D cy A s) (hl0 : l.stackTraces = false) (hexc : ∀ x ∈ c.exceptionTable.toList, False) : ∀ {S : wS} {H : Heap} {locs : List Loc} {ls : Array Slot} {a0 : Nat}, wp_X11_asked_0 D post xp S a0 → wO D cy X A s.heap S H locs → wX D S0 S → lv_has ls 1 [(0, .ref a0)] → wM D S a0 → sK S a0 = 16 → W p l e r_X11_asked s m args below meth c H locs 0 0 (vx_MQ below (va_Qi (fun r S9 => wX D S0 S9 ∧ post r S9) (wB D cy X A) A) (wEx D cy X A (fun E S9 => wX D S0 S9 ∧ xp E S9)) args s 1 6 A) (F0 m 0 ls []) := by
  obtain ⟨hx, hb, hml, hown, hts⟩ := id F
  have hwg : ∀ w ∈ WG, w.before args s = true := fun w h => hts w (List.mem_cons_of_mem _ h)
  intro S H locs ls a0 hp hW hE hl hL_a0 hK_a0
  unfold wp_X11_asked_0 at hp
  refine lv_aload_n hx hb dX11_asked_0 rfl (lv_at hl 0 rfl) ?_
  refine x_callI (vx_runV (As := []) (rest := []) F (c_X11_numberAsked l hl0 hL_a0 hK_a0 hp H.size) (cwV (C := RX11) 0 hts (wg_V wm_RX11_474 wy_X11_numberAsked) rfl rfl rfl (by decide +kernel) ⟨Nat.le_of_ble_eq_true rfl, Nat.le_of_ble_eq_true rfl⟩) (w_preV hK hW hL_a0 hK_a0 (by decide) rfl) rfl rfl hl.1 rfl (lv_room (Nat.le_of_ble_eq_true rfl)) dX11_asked_1 ⟨Nat.le_of_ble_eq_true rfl, Nat.le_of_ble_eq_true rfl⟩) hW (fun E ce q9 S9 H locs hp hW h1 h2 h3 => x_out hexc hlocks ⟨hE.trans hp.1, hp.2⟩ hW h1 h2 h3 (by decide) (by decide)) (fun r_1 S_2 H locs hp hW => ?_)
  obtain ⟨hX_S_2, hp⟩ := hp
  refine W.widen (k := 1) (n := 6) (by decide) (by decide) ?_
  have hE := hE.trans hX_S_2
  have hK_a0 : sK S_2 a0 = 16 := (hX_S_2.2 a0 hL_a0).1.trans hK_a0
  have hL_a0 : wM D S_2 a0 := hX_S_2.M hL_a0
  refine vx_ret ?_
  exact w_iret hx hb hr hlocks hW ⟨hE, hp⟩ dX11_asked_4
set_option maxHeartbeats 4000000 in
set_option maxRecDepth 100000 in
theorem c_X11_asked (l : Launch) {D : wD} {cy : Nat → ClassId} {X : va_W} {S0 : wS} {post : Int32 → wS → Prop} {xp : String → wS → Prop} (hl0 : l.stackTraces = false) {a0 : Nat} (hL_a0 : wM D S0 a0) (hK_a0 : sK S0 a0 = 16) (hp : wp_X11_asked D post xp S0 a0) : xI D cy X l yX11_asked wz_X11_asked r_X11_asked [.ref a0] S0 (fun r S9 => wX D S0 S9 ∧ post r S9) (fun E S9 => wX D S0 S9 ∧ xp E S9) := by
  intro sz
  refine vx_ofW (cc := cX11_asked) (maxL := 1) (ret := (some .int)) (by decide) rfl ?_
  intro p e s m args below meth c s₁ B hml hexc hv
  obtain ⟨rfl, hsz, hP, hK, hD0, hRO⟩ := hv
  have hts := atoms_spec (ws := wz_X11_asked) B.pre
  have hown : s.vm.findClass RX11 = some m.cls := findClass_of_methodNamed B.named
  subst hsz
  have hD := hD0.self (sz := s.heap.size)
  have F : CallFix p m c cX11_asked 1 s _ wz_X11_asked RX11 := ⟨B.exec, B.bytes, hml, hown, hts⟩
  have hr := B.returns
  have hlocks := B.notSynchronized
  generalize hAe : va_A (wL cy X S0) s.heap.size = A at hD hK ⊢
  have hA : ∀ q, s.heap.size ≤ q → A q := fun q h => by rw [← hAe]; exact Or.inr h
  have hW : wO D cy X A s.heap S0 s.heap [] := ⟨hP, hD, va_S.rf, hA, hRO⟩
  have hl := lv_entry ([.ref a0]) (n := 1) (Nat.le_of_ble_eq_true rfl)
  rw [lg_entry_eq]
  generalize (lg_sl ([.ref a0]) ++ List.replicate (1 - (lg_sl ([.ref a0])).length) Slot.unset).toArray = ls at hl ⊢
  have hl : lv_has ls 1 [(0, .ref a0)] := hl
  unfold wp_X11_asked at hp
  exact t_X11_asked_0 F hr hlocks hK hl0 hexc hp hW wX.rf (lv_sub hl [0] rfl) hL_a0 hK_a0
def wp_X11_clearText_0 (D : wD) (post : Int32 → wS → Prop)  (bc bs : Nat) (S : wS) (a0 : Nat) : Prop :=
∃ y_1 : Nat, sR S a0 13 = some y_1 ∧ wM D S y_1 ∧ sK S y_1 = 1 ∧
wp_J4_length_8abf5 D (fun r_2 S_3 => 
∃ y_4 : Nat, sR S_3 a0 13 = some y_4 ∧ wM D S_3 y_4 ∧ sK S_3 y_4 = 1 ∧
∃ m_7 z_8 : Nat, m_7 ≤ bc ∧ z_8 ≤ bs ∧
wp_J4_setLength_d00df D (fun S_6 => 
post r_2 S_6) m_7 z_8 S_3 y_4 (0 : Int32)) S y_1
abbrev r_X11_clearText (rC rS : Nat) : Room := { frames := 16, cells := rC, slots := rS, locals := 354 }
def wp_X11_clearText (D : wD) (post : Int32 → wS → Prop) (bc bs : Nat) (S : wS) (a0 : Nat) : Prop := wp_X11_clearText_0 D post bc bs S a0
set_option maxHeartbeats 4000000 in
set_option maxRecDepth 100000 in
theorem t_X11_clearText_0 {p : Program} {l : Launch} {e : Env} {s : State} {m : MethodId} {args : Array Value} {below : List Frame} {meth : Method} {c : Code} {D : wD} {cy : Nat → ClassId} {X : va_W} {A : Nat → Prop} {S0 : wS} {rC rS : Nat} {post : Int32 → wS → Prop} (F : CallFix p m c cX11_clearText 2 s args wz_X11_clearText RX11) (hr : meth.sig.returnType = (some .int)) (hlocks : meth.locks = false) (hK : wK D cy A s) : ∀ {bc bs cells slots : Nat} (hbc : cells + bc ≤ rC) (hbs : slots + bs ≤ rS) {S : wS} {H : Heap} {locs : List Loc} {ls : Array Slot} {a0 : Nat}, wp_X11_clearText_0 D post bc bs S a0 → wO D cy X A s.heap S H locs → wX D S0 S → lv_has ls 2 [(0, .ref a0)] → wM D S a0 → sK S a0 = 16 → W p l e (r_X11_clearText rC rS) s m args below meth c H locs cells slots (MQ below (va_Qi (fun r S9 => wX D S0 S9 ∧ post r S9) (wB D cy X A) A) args s rC rS A) (F0 m 0 ls []) := by
  obtain ⟨hx, hb, hml, hown, hts⟩ := id F
  have hwg : ∀ w ∈ WG, w.before args s = true := fun w h => hts w (List.mem_cons_of_mem _ h)
  have i_16 : ∀ w ∈ u_ws RX11 TX11 18, w ∈ wz_X11_clearText := fun w h => List.mem_cons_of_mem _ (wu_16 w h)
  have k_105 := hwg _ wf_RX11_105
  intro bc bs cells slots hbc hbs S H locs ls a0 hp hW hE hl hL_a0 hK_a0
  unfold wp_X11_clearText_0 at hp
  refine lv_aload_n hx hb dX11_clearText_0 rfl (lv_at hl 0 rfl) ?_
  obtain ⟨y_1, ey_1, hL_y_1, hK_y_1, hp⟩ := hp
  refine w_get (k := 16) (f := 13) (T := TX11) (v := .ref y_1) F hK hW hL_a0 hK_a0 (by decide) rfl rfl (by decide) i_16 k_105 (by rw [show wv 16 13 S a0 = va_rf (sR S a0 13) from rfl, ey_1]; rfl) dX11_clearText_1 ?_
  refine w_callI (va_runV (As := []) (rest := []) F (c_J4_length_8abf5 l hL_y_1 hK_y_1 hp H.size) (cwV (C := RJ4) 0 hts (wg_V wm_RX11_232 wy_J4_length_8abf5) rfl rfl rfl (by decide +kernel) ⟨Nat.le_of_ble_eq_true rfl, Nat.le_of_ble_eq_true rfl⟩) (w_preV hK hW hL_y_1 hK_y_1 (by decide) rfl) rfl rfl hl.1 rfl (lv_room (Nat.le_of_ble_eq_true rfl)) dX11_clearText_4 ⟨by show _ ≤ rC; exact Nat.le_trans (Nat.le_add_right _ _) hbc, by show _ ≤ rS; exact Nat.le_trans (Nat.le_add_right _ _) hbs⟩) hW (fun r_2 S_3 H locs hp hW => ?_)
  obtain ⟨hX_S_3, hp⟩ := hp
  refine w_same ?_
  have hE := hE.trans hX_S_3
  have hK_a0 : sK S_3 a0 = 16 := (hX_S_3.2 a0 hL_a0).1.trans hK_a0
  have hL_a0 : wM D S_3 a0 := hX_S_3.M hL_a0
  refine lv_istore_n (lv' := [(1, .int r_2), (0, .ref a0)]) hx hb dX11_clearText_7 rfl hl (by decide) rfl (fun ls hl => ?_)
  refine lv_aload_n hx hb dX11_clearText_8 rfl (lv_at hl 1 rfl) ?_
  obtain ⟨y_4, ey_4, hL_y_4, hK_y_4, hp⟩ := hp
  refine w_get (k := 16) (f := 13) (T := TX11) (v := .ref y_4) F hK hW hL_a0 hK_a0 (by decide) rfl rfl (by decide) i_16 k_105 (by rw [show wv 16 13 S_3 a0 = va_rf (sR S_3 a0 13) from rfl, ey_4]; rfl) dX11_clearText_9 ?_
  refine lv_iconst (v := 0) hx hb dX11_clearText_12 (by decide) ?_
  obtain ⟨m_7, z_8, hm_7, hz_8, hp⟩ := hp
  refine w_callV (va_runV (As := [.int (0 : Int32)]) (rest := []) F (c_J4_setLength_d00df l hL_y_4 hK_y_4 hp H.size) (cwV (C := RJ4) 1 hts (wg_V wm_RX11_191 wy_J4_setLength_d00df) rfl rfl rfl (by decide +kernel) ⟨Nat.le_of_ble_eq_true rfl, Nat.le_of_ble_eq_true rfl⟩) (w_preV hK hW hL_y_4 hK_y_4 (by decide) rfl) rfl rfl hl.1 rfl (lv_room (Nat.le_of_ble_eq_true rfl)) dX11_clearText_13 ⟨by show _ + m_7 ≤ rC; omega, by show _ + z_8 ≤ rS; omega⟩) hW (fun S_6 H locs hp hW => ?_)
  obtain ⟨hX_S_6, hp⟩ := hp
  refine W.widen (k := _ + m_7) (n := _ + z_8) (Nat.le_refl _) (Nat.le_refl _) ?_
  replace hbc := w_spend hbc (show m_7 ≤ bc by omega)
  replace hbs := w_spend hbs (show z_8 ≤ bs by omega)
  have hE := hE.trans hX_S_6
  have hK_a0 : sK S_6 a0 = 16 := (hX_S_6.2 a0 hL_a0).1.trans hK_a0
  have hL_a0 : wM D S_6 a0 := hX_S_6.M hL_a0
  refine lv_iload_n hx hb dX11_clearText_16 rfl (lv_at hl 0 rfl) ?_
  refine W.widen (k := rC) (n := rS) (Nat.le_trans (Nat.le_add_right _ _) hbc) (Nat.le_trans (Nat.le_add_right _ _) hbs) ?_
  exact w_iret hx hb hr hlocks hW ⟨hE, hp⟩ dX11_clearText_17
set_option maxHeartbeats 4000000 in
set_option maxRecDepth 100000 in
theorem c_X11_clearText (l : Launch) {rC rS : Nat} {D : wD} {cy : Nat → ClassId} {X : va_W} {S0 : wS} {post : Int32 → wS → Prop} {a0 : Nat} (hL_a0 : wM D S0 a0) (hK_a0 : sK S0 a0 = 16) (hp : wp_X11_clearText D post rC rS S0 a0) : mI D cy X l yX11_clearText wz_X11_clearText (r_X11_clearText rC rS) [.ref a0] S0 (fun r S9 => wX D S0 S9 ∧ post r S9) := by
  intro sz
  refine Met.ofW (cc := cX11_clearText) (maxL := 2) (ret := (some .int)) (by decide) rfl ?_
  intro p e s m args below meth c s₁ B hml hv
  obtain ⟨rfl, hsz, hP, hK, hD0, hRO⟩ := hv
  have hts := atoms_spec (ws := wz_X11_clearText) B.pre
  have hown : s.vm.findClass RX11 = some m.cls := findClass_of_methodNamed B.named
  subst hsz
  have hD := hD0.self (sz := s.heap.size)
  have F : CallFix p m c cX11_clearText 2 s _ wz_X11_clearText RX11 := ⟨B.exec, B.bytes, hml, hown, hts⟩
  have hr := B.returns
  have hlocks := B.notSynchronized
  generalize hAe : va_A (wL cy X S0) s.heap.size = A at hD hK ⊢
  have hA : ∀ q, s.heap.size ≤ q → A q := fun q h => by rw [← hAe]; exact Or.inr h
  have hW : wO D cy X A s.heap S0 s.heap [] := ⟨hP, hD, va_S.rf, hA, hRO⟩
  have hl := lv_entry ([.ref a0]) (n := 2) (Nat.le_of_ble_eq_true rfl)
  rw [lg_entry_eq]
  generalize (lg_sl ([.ref a0]) ++ List.replicate (2 - (lg_sl ([.ref a0])).length) Slot.unset).toArray = ls at hl ⊢
  have hl : lv_has ls 2 [(0, .ref a0)] := hl
  unfold wp_X11_clearText at hp
  exact t_X11_clearText_0 F hr hlocks hK (Nat.le_of_eq (Nat.zero_add _)) (Nat.le_of_eq (Nat.zero_add _)) hp hW wX.rf (lv_sub hl [0] rfl) hL_a0 hK_a0
def wp_X4_plainWord_238 (D : wD) (post : Int64 → wS → Prop)  (S : wS) (x7 : Int64) : Prop :=
post x7 S
def wp_X4_plainWord_173 (D : wD) (post : Int64 → wS → Prop)  (S : wS) (a0 : Nat) (x2 : Int32) (x4 : Int32) (x7 : Int64) : Prop :=
wp_X4_fileName D (fun r_1 S_2 => 
wp_X4_rankName D (fun r_3 S_4 => 
∀ x_5 : Int64, x_5 = (((jlshl x7 (16 : Int32)) ||| (jlshl r_1 (8 : Int32))) ||| r_3) →
wp_X11_becomesOf D (fun r_6 S_7 => 
((r_6 ≤ 0 → wp_X4_plainWord_238 D post S_7 x_5) ∧
 (¬ r_6 ≤ 0 → ∀ y_9 : Nat, y_9 = D.2.2.1 1 →
wp_J0_length_8abf5 D (fun r_10 S_11 => 
((r_10 ≤ r_6 → wp_X4_plainWord_238 D post S_11 x_5) ∧
 (¬ r_10 ≤ r_6 → ∀ y_13 : Nat, y_13 = D.2.2.1 1 →
wp_J0_charAt_5068e D (fun r_14 S_15 => 
∀ x_16 : Int64, x_16 = (((jlshl x_5 (16 : Int32)) ||| (15616 : Int64)) ||| (Int32.toInt64 r_14)) →
wp_X4_plainWord_238 D post S_15 x_16) S_11 y_13 r_6))) S_7 y_9))) S_4 x2) S_2 a0 x4) S a0 x4
def wp_X4_plainWord_157 (D : wD) (post : Int64 → wS → Prop)  (S : wS) (a0 : Nat) (x2 : Int32) (x4 : Int32) (x6 : Int32) (x7 : Int64) : Prop :=
((x6 = 0 → wp_X4_plainWord_173 D post S a0 x2 x4 x7) ∧
 (¬ x6 = 0 → ∀ x_2 : Int64, x_2 = ((jlshl x7 (8 : Int32)) ||| (120 : Int64)) →
wp_X4_plainWord_173 D post S a0 x2 x4 x_2))
def wp_X4_plainWord_125 (D : wD) (post : Int64 → wS → Prop)  (S : wS) (a0 : Nat) (x2 : Int32) (x4 : Int32) (x6 : Int32) (t0 : Int64) : Prop :=
wp_X4_plainWord_157 D post S a0 x2 x4 x6 t0
def wp_X4_plainWord_99 (D : wD) (post : Int64 → wS → Prop)  (S : wS) (a0 : Nat) (x2 : Int32) (x3 : Int32) (x4 : Int32) (x5 : Int32) (t0 : Int32) : Prop :=
((¬ x5 = (6 : Int32) → ∀ y_2 : Nat, y_2 = D.2.2.1 1 →
wp_J0_length_8abf5 D (fun r_3 S_4 => 
((r_3 ≤ x5 → wp_X4_plainWord_157 D post S_4 a0 x2 x4 t0 (0 : Int64)) ∧
 (¬ r_3 ≤ x5 → ∀ y_6 : Nat, y_6 = D.2.2.1 1 →
wp_J0_charAt_5068e D (fun r_7 S_8 => 
wp_X4_withOrigin D (fun r_9 S_10 => 
wp_X4_plainWord_157 D post S_10 a0 x2 x4 t0 r_9) S_8 a0 (Int32.toInt64 r_7) x2 x5) S_4 y_6 x5))) S y_2) ∧
 (x5 = (6 : Int32) → ((t0 = 0 → wp_X4_plainWord_125 D post S a0 x2 x4 t0 (0 : Int64)) ∧
 (¬ t0 = 0 → wp_X4_fileName D (fun r_12 S_13 => 
wp_X4_plainWord_125 D post S_13 a0 x2 x4 t0 r_12) S a0 x3))))
def wp_X4_plainWord_98 (D : wD) (post : Int64 → wS → Prop)  (S : wS) (a0 : Nat) (x2 : Int32) (x3 : Int32) (x4 : Int32) (x5 : Int32) : Prop :=
wp_X4_plainWord_99 D post S a0 x2 x3 x4 x5 (0 : Int32)
def wp_X4_plainWord_94 (D : wD) (post : Int64 → wS → Prop)  (S : wS) (a0 : Nat) (x2 : Int32) (x3 : Int32) (x4 : Int32) (x5 : Int32) : Prop :=
wp_X4_plainWord_99 D post S a0 x2 x3 x4 x5 (1 : Int32)
def wp_X4_plainWord_63 (D : wD) (post : Int64 → wS → Prop)  (S : wS) (a0 : Nat) (x2 : Int32) (x3 : Int32) (x4 : Int32) (x5 : Int32) : Prop :=
∃ y_1 : Nat, sR S a0 2 = some y_1 ∧ wM D S y_1 ∧ sK S y_1 = 12 ∧
wp_X7_kindOn D (fun r_2 S_3 => 
((¬ r_2 = 0 → wp_X4_plainWord_94 D post S_3 a0 x2 x3 x4 x5) ∧
 (r_2 = 0 → ((¬ x5 = (6 : Int32) → wp_X4_plainWord_98 D post S_3 a0 x2 x3 x4 x5) ∧
 (x5 = (6 : Int32) → ∃ y_6 : Nat, sR S_3 a0 2 = some y_6 ∧ wM D S_3 y_6 ∧ sK S_3 y_6 = 12 ∧
((¬ x4 = (sI S_3 y_6 7) → wp_X4_plainWord_98 D post S_3 a0 x2 x3 x4 x5) ∧
 (x4 = (sI S_3 y_6 7) → wp_X4_plainWord_94 D post S_3 a0 x2 x3 x4 x5))))))) S y_1 x4
def wp_X4_plainWord_45 (D : wD) (post : Int64 → wS → Prop)  (S : wS) (a0 : Nat) (x2 : Int32) (x3 : Int32) (x4 : Int32) (x5 : Int32) : Prop :=
((¬ x5 = (1 : Int32) → wp_X4_plainWord_63 D post S a0 x2 x3 x4 x5) ∧
 (x5 = (1 : Int32) → ((¬ (x3 - x4) = (2 : Int32) → wp_X4_plainWord_63 D post S a0 x2 x3 x4 x5) ∧
 ((x3 - x4) = (2 : Int32) → post (340062580047 : Int64) S))))
def wp_X4_plainWord_0 (D : wD) (post : Int64 → wS → Prop)  (S : wS) (a0 : Nat) (x1 : Int32) : Prop :=
wp_X4_codeAt D (fun r_1 S_2 => 
wp_X11_fromOf D (fun r_3 S_4 => 
wp_X11_toOf D (fun r_5 S_6 => 
∃ y_7 : Nat, sR S_6 a0 2 = some y_7 ∧ wM D S_6 y_7 ∧ sK S_6 y_7 = 12 ∧
wp_X7_kindOn D (fun r_8 S_9 => 
((¬ r_8 = (1 : Int32) → wp_X4_plainWord_45 D post S_9 a0 r_1 r_3 r_5 r_8) ∧
 (r_8 = (1 : Int32) → ((¬ (r_5 - r_3) = (2 : Int32) → wp_X4_plainWord_45 D post S_9 a0 r_1 r_3 r_5 r_8) ∧
 ((r_5 - r_3) = (2 : Int32) → post (5188943 : Int64) S_9))))) S_6 y_7 r_3) S_4 r_1) S_2 r_1) S a0 x1
abbrev r_X4_plainWord : Room := { frames := 5, cells := 0, slots := 0, locals := 106 }
def wp_X4_plainWord (D : wD) (post : Int64 → wS → Prop) (S : wS) (a0 : Nat) (x1 : Int32) : Prop := wp_X4_plainWord_0 D post S a0 x1
set_option maxHeartbeats 4000000 in
set_option maxRecDepth 100000 in
theorem t_X4_plainWord_238 {p : Program} {l : Launch} {e : Env} {s : State} {m : MethodId} {args : Array Value} {below : List Frame} {meth : Method} {c : Code} {D : wD} {cy : Nat → ClassId} {X : va_W} {A : Nat → Prop} {S0 : wS} {post : Int64 → wS → Prop} (F : CallFix p m c cX4_plainWord 10 s args wz_X4_plainWord RX4) (hr : meth.sig.returnType = (some .long)) (hlocks : meth.locks = false) (hK : wK D cy A s) : ∀ {S : wS} {H : Heap} {locs : List Loc} {ls : Array Slot} {x7 : Int64}, wp_X4_plainWord_238 D post S x7 → wO D cy X A s.heap S H locs → wX D S0 S → lv_has ls 10 [(7, .long x7)] → W p l e r_X4_plainWord s m args below meth c H locs 0 0 (MQ below (va_Ql (fun r S9 => wX D S0 S9 ∧ post r S9) (wB D cy X A) A) args s 0 0 A) (F0 m 238 ls []) := by
  obtain ⟨hx, hb, hml, hown, hts⟩ := id F
  have hwg : ∀ w ∈ WG, w.before args s = true := fun w h => hts w (List.mem_cons_of_mem _ h)
  intro S H locs ls x7 hp hW hE hl
  unfold wp_X4_plainWord_238 at hp
  refine lv_lload hx hb dX4_plainWord_238 (lv_at hl 0 rfl) ?_
  exact w_lret hx hb hr hlocks hW ⟨hE, hp⟩ dX4_plainWord_240
set_option maxHeartbeats 4000000 in
set_option maxRecDepth 100000 in
theorem t_X4_plainWord_173 {p : Program} {l : Launch} {e : Env} {s : State} {m : MethodId} {args : Array Value} {below : List Frame} {meth : Method} {c : Code} {D : wD} {cy : Nat → ClassId} {X : va_W} {A : Nat → Prop} {S0 : wS} {post : Int64 → wS → Prop} (F : CallFix p m c cX4_plainWord 10 s args wz_X4_plainWord RX4) (hr : meth.sig.returnType = (some .long)) (hlocks : meth.locks = false) (hK : wK D cy A s) : ∀ {S : wS} {H : Heap} {locs : List Loc} {ls : Array Slot} {a0 : Nat} {x2 : Int32} {x4 : Int32} {x7 : Int64}, wp_X4_plainWord_173 D post S a0 x2 x4 x7 → wO D cy X A s.heap S H locs → wX D S0 S → lv_has ls 10 [(0, .ref a0), (2, .int x2), (4, .int x4), (7, .long x7)] → wM D S a0 → sK S a0 = 9 → W p l e r_X4_plainWord s m args below meth c H locs 0 0 (MQ below (va_Ql (fun r S9 => wX D S0 S9 ∧ post r S9) (wB D cy X A) A) args s 0 0 A) (F0 m 173 ls []) := by
  obtain ⟨hx, hb, hml, hown, hts⟩ := id F
  have hwg : ∀ w ∈ WG, w.before args s = true := fun w h => hts w (List.mem_cons_of_mem _ h)
  intro S H locs ls a0 x2 x4 x7 hp hW hE hl hL_a0 hK_a0
  unfold wp_X4_plainWord_173 at hp
  refine lv_lload hx hb dX4_plainWord_173 (lv_at hl 3 rfl) ?_
  refine lv_bipush (v := 16) hx hb dX4_plainWord_175 (by decide) ?_
  refine lv_lshl (v := (jlshl x7 (16 : Int32))) hx hb dX4_plainWord_177 rfl ?_
  refine lv_aload_n hx hb dX4_plainWord_178 rfl (lv_at hl 0 rfl) ?_
  refine lv_iload hx hb dX4_plainWord_179 (lv_at hl 2 rfl) ?_
  refine w_callJ (va_runV (As := [.int x4]) (rest := [.long (jlshl x7 (16 : Int32))]) F (c_X4_fileName l hL_a0 hK_a0 hp H.size) (cwV (C := RX4) 1 hts (wg_V wm_RX4_84 wy_X4_fileName) rfl rfl rfl (by decide +kernel) ⟨Nat.le_of_ble_eq_true rfl, Nat.le_of_ble_eq_true rfl⟩) (w_preV hK hW hL_a0 hK_a0 (by decide) rfl) rfl rfl hl.1 rfl (lv_room (Nat.le_of_ble_eq_true rfl)) dX4_plainWord_181 ⟨Nat.le_of_ble_eq_true rfl, Nat.le_of_ble_eq_true rfl⟩) hW (fun r_1 S_2 H locs hp hW => ?_)
  obtain ⟨hX_S_2, hp⟩ := hp
  refine W.widen (k := 0) (n := 0) (by decide) (by decide) ?_
  have hE := hE.trans hX_S_2
  have hK_a0 : sK S_2 a0 = 9 := (hX_S_2.2 a0 hL_a0).1.trans hK_a0
  have hL_a0 : wM D S_2 a0 := hX_S_2.M hL_a0
  refine lv_bipush (v := 8) hx hb dX4_plainWord_184 (by decide) ?_
  refine lv_lshl (v := (jlshl r_1 (8 : Int32))) hx hb dX4_plainWord_186 rfl ?_
  refine lv_lor hx hb dX4_plainWord_187 ?_
  refine lv_aload_n hx hb dX4_plainWord_188 rfl (lv_at hl 0 rfl) ?_
  refine lv_iload hx hb dX4_plainWord_189 (lv_at hl 2 rfl) ?_
  refine w_callJ (va_runV (As := [.int x4]) (rest := [.long ((jlshl x7 (16 : Int32)) ||| (jlshl r_1 (8 : Int32)))]) F (c_X4_rankName l hL_a0 hK_a0 hp H.size) (cwV (C := RX4) 1 hts (wg_V wm_RX4_105 wy_X4_rankName) rfl rfl rfl (by decide +kernel) ⟨Nat.le_of_ble_eq_true rfl, Nat.le_of_ble_eq_true rfl⟩) (w_preV hK hW hL_a0 hK_a0 (by decide) rfl) rfl rfl hl.1 rfl (lv_room (Nat.le_of_ble_eq_true rfl)) dX4_plainWord_191 ⟨Nat.le_of_ble_eq_true rfl, Nat.le_of_ble_eq_true rfl⟩) hW (fun r_3 S_4 H locs hp hW => ?_)
  obtain ⟨hX_S_4, hp⟩ := hp
  refine W.widen (k := 0) (n := 0) (by decide) (by decide) ?_
  have hE := hE.trans hX_S_4
  have hK_a0 : sK S_4 a0 = 9 := (hX_S_4.2 a0 hL_a0).1.trans hK_a0
  have hL_a0 : wM D S_4 a0 := hX_S_4.M hL_a0
  refine lv_lor hx hb dX4_plainWord_194 ?_
  refine lv_topl (fun x_5 ex_5 => ?_)
  replace hp := hp x_5 ex_5
  refine lv_lstore (lv' := [(7, .long x_5), (0, .ref a0), (2, .int x2), (4, .int x4)]) hx hb dX4_plainWord_195 hl (by decide) rfl (fun ls hl => ?_)
  refine lv_iload_n hx hb dX4_plainWord_197 rfl (lv_at hl 2 rfl) ?_
  refine w_callI (va_runSN (As := [.int x2]) (rest := []) F (c_X11_becomesOf l hp H.size) ⟨va_cnB (host := "OpeningsCabinet") 1 hts (wg_cons wy_X11_becomesOf.2.2) rfl rfl rfl (hK.2.1 (.methodLinkNest "OpeningsCabinet$MoveList" 108 ⟨"OpeningsCabinet", "becomesOf", "(I)I"⟩ "OpeningsCabinet") (by decide +kernel)) (hwg _ wy_X11_becomesOf.2.1) ⟨by decide, by decide, by decide +kernel⟩ ⟨Nat.le_of_ble_eq_true rfl, Nat.le_of_ble_eq_true rfl⟩, hwg _ wy_X11_becomesOf.1, trivial⟩ (w_preS hK hW) rfl rfl hl.1 rfl (lv_room (Nat.le_of_ble_eq_true rfl)) dX4_plainWord_198 ⟨Nat.le_of_ble_eq_true rfl, Nat.le_of_ble_eq_true rfl⟩) hW (fun r_6 S_7 H locs hp hW => ?_)
  obtain ⟨hX_S_7, hp⟩ := hp
  refine W.widen (k := 0) (n := 0) (by decide) (by decide) ?_
  have hE := hE.trans hX_S_7
  have hK_a0 : sK S_7 a0 = 9 := (hX_S_7.2 a0 hL_a0).1.trans hK_a0
  have hL_a0 : wM D S_7 a0 := hX_S_7.M hL_a0
  refine lv_istore (lv' := [(9, .int r_6), (7, .long x_5), (0, .ref a0), (2, .int x2), (4, .int x4)]) hx hb dX4_plainWord_201 hl (by decide) rfl (fun ls hl => ?_)
  refine lv_iload hx hb dX4_plainWord_203 (lv_at hl 0 rfl) ?_
  refine lv_if_le (tgt := 238) hx hb dX4_plainWord_205 (by decide) (fun c_8 => ?_) (fun c_8 => ?_)
  · replace hp := hp.1 c_8
    exact t_X4_plainWord_238 F hr hlocks hK hp hW hE (lv_sub hl [1] rfl)
  · replace hp := hp.2 c_8
    refine lv_iload hx hb dX4_plainWord_208 (lv_at hl 0 rfl) ?_
    refine w_str F hK (show ("OpeningsCabinet$MoveList", 87, " KQRBNPkqrbnp", 1) ∈ wStr by decide +kernel) dX4_plainWord_210 ?_
    obtain ⟨y_9, ey_9⟩ : ∃ z : Nat, z = D.2.2.1 1 := ⟨_, rfl⟩
    rw [← ey_9]
    replace hp := hp y_9 ey_9
    obtain ⟨hL_y_9, hK_y_9⟩ : wM D S_7 y_9 ∧ sK S_7 y_9 = 0 := by rw [ey_9]; exact w_strM hK hW (show ("OpeningsCabinet$MoveList", 87, " KQRBNPkqrbnp", 1) ∈ wStr by decide +kernel)
    refine w_callI (va_runV (As := []) (rest := [.int r_6]) F (c_J0_length_8abf5 l hL_y_9 hK_y_9 hp H.size) (cwV (C := RJ0) 0 hts (wg_V wm_RX4_89 wy_J0_length_8abf5) rfl rfl rfl (by decide +kernel) ⟨Nat.le_of_ble_eq_true rfl, Nat.le_of_ble_eq_true rfl⟩) (w_preV hK hW hL_y_9 hK_y_9 (by decide) rfl) rfl rfl hl.1 rfl (lv_room (Nat.le_of_ble_eq_true rfl)) dX4_plainWord_212 ⟨Nat.le_of_ble_eq_true rfl, Nat.le_of_ble_eq_true rfl⟩) hW (fun r_10 S_11 H locs hp hW => ?_)
    obtain ⟨hX_S_11, hp⟩ := hp
    refine W.widen (k := 0) (n := 0) (by decide) (by decide) ?_
    have hE := hE.trans hX_S_11
    have hK_a0 : sK S_11 a0 = 9 := (hX_S_11.2 a0 hL_a0).1.trans hK_a0
    have hL_a0 : wM D S_11 a0 := hX_S_11.M hL_a0
    refine lv_icmp_ge (tgt := 238) hx hb dX4_plainWord_215 (by decide) (fun c_12 => ?_) (fun c_12 => ?_)
    · replace hp := hp.1 c_12
      exact t_X4_plainWord_238 F hr hlocks hK hp hW hE (lv_sub hl [1] rfl)
    · replace hp := hp.2 c_12
      refine lv_lload hx hb dX4_plainWord_218 (lv_at hl 1 rfl) ?_
      refine lv_bipush (v := 16) hx hb dX4_plainWord_220 (by decide) ?_
      refine lv_lshl (v := (jlshl x_5 (16 : Int32))) hx hb dX4_plainWord_222 rfl ?_
      refine lv_ldc2 (v := 15616) hx hb hown (hwg _ wJ_RX4_111) dX4_plainWord_223 ?_
      refine lv_lor hx hb dX4_plainWord_226 ?_
      refine w_str F hK (show ("OpeningsCabinet$MoveList", 87, " KQRBNPkqrbnp", 1) ∈ wStr by decide +kernel) dX4_plainWord_227 ?_
      obtain ⟨y_13, ey_13⟩ : ∃ z : Nat, z = D.2.2.1 1 := ⟨_, rfl⟩
      rw [← ey_13]
      replace hp := hp y_13 ey_13
      obtain ⟨hL_y_13, hK_y_13⟩ : wM D S_11 y_13 ∧ sK S_11 y_13 = 0 := by rw [ey_13]; exact w_strM hK hW (show ("OpeningsCabinet$MoveList", 87, " KQRBNPkqrbnp", 1) ∈ wStr by decide +kernel)
      refine lv_iload hx hb dX4_plainWord_229 (lv_at hl 0 rfl) ?_
      refine w_callI (va_runV (As := [.int r_6]) (rest := [.long ((jlshl x_5 (16 : Int32)) ||| (15616 : Int64))]) F (c_J0_charAt_5068e l hL_y_13 hK_y_13 hp H.size) (cwV (C := RJ0) 1 hts (wg_V wm_RX4_95 wy_J0_charAt_5068e) rfl rfl rfl (by decide +kernel) ⟨Nat.le_of_ble_eq_true rfl, Nat.le_of_ble_eq_true rfl⟩) (w_preV hK hW hL_y_13 hK_y_13 (by decide) rfl) rfl rfl hl.1 rfl (lv_room (Nat.le_of_ble_eq_true rfl)) dX4_plainWord_231 ⟨Nat.le_of_ble_eq_true rfl, Nat.le_of_ble_eq_true rfl⟩) hW (fun r_14 S_15 H locs hp hW => ?_)
      obtain ⟨hX_S_15, hp⟩ := hp
      refine W.widen (k := 0) (n := 0) (by decide) (by decide) ?_
      have hE := hE.trans hX_S_15
      have hK_a0 : sK S_15 a0 = 9 := (hX_S_15.2 a0 hL_a0).1.trans hK_a0
      have hL_a0 : wM D S_15 a0 := hX_S_15.M hL_a0
      refine lv_i2l (v := (Int32.toInt64 r_14)) hx hb dX4_plainWord_234 rfl ?_
      refine lv_lor hx hb dX4_plainWord_235 ?_
      refine lv_topl (fun x_16 ex_16 => ?_)
      replace hp := hp x_16 ex_16
      refine lv_lstore (lv' := [(7, .long x_16), (9, .int r_6), (0, .ref a0), (2, .int x2), (4, .int x4)]) hx hb dX4_plainWord_236 hl (by decide) rfl (fun ls hl => ?_)
      exact t_X4_plainWord_238 F hr hlocks hK hp hW hE (lv_sub hl [0] rfl)
set_option maxHeartbeats 4000000 in
set_option maxRecDepth 100000 in
theorem t_X4_plainWord_157 {p : Program} {l : Launch} {e : Env} {s : State} {m : MethodId} {args : Array Value} {below : List Frame} {meth : Method} {c : Code} {D : wD} {cy : Nat → ClassId} {X : va_W} {A : Nat → Prop} {S0 : wS} {post : Int64 → wS → Prop} (F : CallFix p m c cX4_plainWord 10 s args wz_X4_plainWord RX4) (hr : meth.sig.returnType = (some .long)) (hlocks : meth.locks = false) (hK : wK D cy A s) : ∀ {S : wS} {H : Heap} {locs : List Loc} {ls : Array Slot} {a0 : Nat} {x2 : Int32} {x4 : Int32} {x6 : Int32} {x7 : Int64}, wp_X4_plainWord_157 D post S a0 x2 x4 x6 x7 → wO D cy X A s.heap S H locs → wX D S0 S → lv_has ls 10 [(0, .ref a0), (2, .int x2), (4, .int x4), (6, .int x6), (7, .long x7)] → wM D S a0 → sK S a0 = 9 → W p l e r_X4_plainWord s m args below meth c H locs 0 0 (MQ below (va_Ql (fun r S9 => wX D S0 S9 ∧ post r S9) (wB D cy X A) A) args s 0 0 A) (F0 m 157 ls []) := by
  obtain ⟨hx, hb, hml, hown, hts⟩ := id F
  have hwg : ∀ w ∈ WG, w.before args s = true := fun w h => hts w (List.mem_cons_of_mem _ h)
  intro S H locs ls a0 x2 x4 x6 x7 hp hW hE hl hL_a0 hK_a0
  unfold wp_X4_plainWord_157 at hp
  refine lv_iload hx hb dX4_plainWord_157 (lv_at hl 3 rfl) ?_
  refine lv_if_eq (tgt := 173) hx hb dX4_plainWord_159 (by decide) (fun c_1 => ?_) (fun c_1 => ?_)
  · replace hp := hp.1 c_1
    exact t_X4_plainWord_173 F hr hlocks hK hp hW hE (lv_sub hl [0, 1, 2, 4] rfl) hL_a0 hK_a0
  · replace hp := hp.2 c_1
    refine lv_lload hx hb dX4_plainWord_162 (lv_at hl 4 rfl) ?_
    refine lv_bipush (v := 8) hx hb dX4_plainWord_164 (by decide) ?_
    refine lv_lshl (v := (jlshl x7 (8 : Int32))) hx hb dX4_plainWord_166 rfl ?_
    refine lv_ldc2 (v := 120) hx hb hown (hwg _ wJ_RX4_103) dX4_plainWord_167 ?_
    refine lv_lor hx hb dX4_plainWord_170 ?_
    refine lv_topl (fun x_2 ex_2 => ?_)
    replace hp := hp x_2 ex_2
    refine lv_lstore (lv' := [(7, .long x_2), (0, .ref a0), (2, .int x2), (4, .int x4), (6, .int x6)]) hx hb dX4_plainWord_171 hl (by decide) rfl (fun ls hl => ?_)
    exact t_X4_plainWord_173 F hr hlocks hK hp hW hE (lv_sub hl [1, 2, 3, 0] rfl) hL_a0 hK_a0
set_option maxHeartbeats 4000000 in
set_option maxRecDepth 100000 in
theorem t_X4_plainWord_125 {p : Program} {l : Launch} {e : Env} {s : State} {m : MethodId} {args : Array Value} {below : List Frame} {meth : Method} {c : Code} {D : wD} {cy : Nat → ClassId} {X : va_W} {A : Nat → Prop} {S0 : wS} {post : Int64 → wS → Prop} (F : CallFix p m c cX4_plainWord 10 s args wz_X4_plainWord RX4) (hr : meth.sig.returnType = (some .long)) (hlocks : meth.locks = false) (hK : wK D cy A s) : ∀ {S : wS} {H : Heap} {locs : List Loc} {ls : Array Slot} {a0 : Nat} {x2 : Int32} {x4 : Int32} {x6 : Int32} {t0 : Int64}, wp_X4_plainWord_125 D post S a0 x2 x4 x6 t0 → wO D cy X A s.heap S H locs → wX D S0 S → lv_has ls 10 [(0, .ref a0), (2, .int x2), (4, .int x4), (6, .int x6)] → wM D S a0 → sK S a0 = 9 → W p l e r_X4_plainWord s m args below meth c H locs 0 0 (MQ below (va_Ql (fun r S9 => wX D S0 S9 ∧ post r S9) (wB D cy X A) A) args s 0 0 A) (F0 m 125 ls [.long t0]) := by
  obtain ⟨hx, hb, hml, hown, hts⟩ := id F
  have hwg : ∀ w ∈ WG, w.before args s = true := fun w h => hts w (List.mem_cons_of_mem _ h)
  intro S H locs ls a0 x2 x4 x6 t0 hp hW hE hl hL_a0 hK_a0
  unfold wp_X4_plainWord_125 at hp
  refine lv_lstore (lv' := [(7, .long t0), (0, .ref a0), (2, .int x2), (4, .int x4), (6, .int x6)]) hx hb dX4_plainWord_125 hl (by decide) rfl (fun ls hl => ?_)
  refine lv_goto (tgt := 157) hx hb dX4_plainWord_127 (by decide) ?_
  exact t_X4_plainWord_157 F hr hlocks hK hp hW hE (lv_sub hl [1, 2, 3, 4, 0] rfl) hL_a0 hK_a0
set_option maxHeartbeats 4000000 in
set_option maxRecDepth 100000 in
theorem t_X4_plainWord_99 {p : Program} {l : Launch} {e : Env} {s : State} {m : MethodId} {args : Array Value} {below : List Frame} {meth : Method} {c : Code} {D : wD} {cy : Nat → ClassId} {X : va_W} {A : Nat → Prop} {S0 : wS} {post : Int64 → wS → Prop} (F : CallFix p m c cX4_plainWord 10 s args wz_X4_plainWord RX4) (hr : meth.sig.returnType = (some .long)) (hlocks : meth.locks = false) (hK : wK D cy A s) : ∀ {S : wS} {H : Heap} {locs : List Loc} {ls : Array Slot} {a0 : Nat} {x2 : Int32} {x3 : Int32} {x4 : Int32} {x5 : Int32} {t0 : Int32}, wp_X4_plainWord_99 D post S a0 x2 x3 x4 x5 t0 → wO D cy X A s.heap S H locs → wX D S0 S → lv_has ls 10 [(0, .ref a0), (2, .int x2), (3, .int x3), (4, .int x4), (5, .int x5)] → wM D S a0 → sK S a0 = 9 → W p l e r_X4_plainWord s m args below meth c H locs 0 0 (MQ below (va_Ql (fun r S9 => wX D S0 S9 ∧ post r S9) (wB D cy X A) A) args s 0 0 A) (F0 m 99 ls [.int t0]) := by
  obtain ⟨hx, hb, hml, hown, hts⟩ := id F
  have hwg : ∀ w ∈ WG, w.before args s = true := fun w h => hts w (List.mem_cons_of_mem _ h)
  intro S H locs ls a0 x2 x3 x4 x5 t0 hp hW hE hl hL_a0 hK_a0
  unfold wp_X4_plainWord_99 at hp
  refine lv_istore (lv' := [(6, .int t0), (0, .ref a0), (2, .int x2), (3, .int x3), (4, .int x4), (5, .int x5)]) hx hb dX4_plainWord_99 hl (by decide) rfl (fun ls hl => ?_)
  refine lv_lconst (v := 0) hx hb dX4_plainWord_101 (by decide) ?_
  refine lv_lstore (lv' := [(7, .long (0 : Int64)), (6, .int t0), (0, .ref a0), (2, .int x2), (3, .int x3), (4, .int x4), (5, .int x5)]) hx hb dX4_plainWord_102 hl (by decide) rfl (fun ls hl => ?_)
  refine lv_iload hx hb dX4_plainWord_104 (lv_at hl 6 rfl) ?_
  refine lv_bipush (v := 6) hx hb dX4_plainWord_106 (by decide) ?_
  refine lv_icmp_ne (tgt := 130) hx hb dX4_plainWord_108 (by decide) (fun c_1 => ?_) (fun c_1 => ?_)
  · replace hp := hp.1 c_1
    refine lv_iload hx hb dX4_plainWord_130 (lv_at hl 6 rfl) ?_
    refine w_str F hK (show ("OpeningsCabinet$MoveList", 87, " KQRBNPkqrbnp", 1) ∈ wStr by decide +kernel) dX4_plainWord_132 ?_
    obtain ⟨y_2, ey_2⟩ : ∃ z : Nat, z = D.2.2.1 1 := ⟨_, rfl⟩
    rw [← ey_2]
    replace hp := hp y_2 ey_2
    obtain ⟨hL_y_2, hK_y_2⟩ : wM D S y_2 ∧ sK S y_2 = 0 := by rw [ey_2]; exact w_strM hK hW (show ("OpeningsCabinet$MoveList", 87, " KQRBNPkqrbnp", 1) ∈ wStr by decide +kernel)
    refine w_callI (va_runV (As := []) (rest := [.int x5]) F (c_J0_length_8abf5 l hL_y_2 hK_y_2 hp H.size) (cwV (C := RJ0) 0 hts (wg_V wm_RX4_89 wy_J0_length_8abf5) rfl rfl rfl (by decide +kernel) ⟨Nat.le_of_ble_eq_true rfl, Nat.le_of_ble_eq_true rfl⟩) (w_preV hK hW hL_y_2 hK_y_2 (by decide) rfl) rfl rfl hl.1 rfl (lv_room (Nat.le_of_ble_eq_true rfl)) dX4_plainWord_134 ⟨Nat.le_of_ble_eq_true rfl, Nat.le_of_ble_eq_true rfl⟩) hW (fun r_3 S_4 H locs hp hW => ?_)
    obtain ⟨hX_S_4, hp⟩ := hp
    refine W.widen (k := 0) (n := 0) (by decide) (by decide) ?_
    have hE := hE.trans hX_S_4
    have hK_a0 : sK S_4 a0 = 9 := (hX_S_4.2 a0 hL_a0).1.trans hK_a0
    have hL_a0 : wM D S_4 a0 := hX_S_4.M hL_a0
    refine lv_icmp_ge (tgt := 157) hx hb dX4_plainWord_137 (by decide) (fun c_5 => ?_) (fun c_5 => ?_)
    · replace hp := hp.1 c_5
      exact t_X4_plainWord_157 F hr hlocks hK hp hW hE (lv_sub hl [2, 3, 5, 1, 0] rfl) hL_a0 hK_a0
    · replace hp := hp.2 c_5
      refine lv_aload_n hx hb dX4_plainWord_140 rfl (lv_at hl 2 rfl) ?_
      refine w_str F hK (show ("OpeningsCabinet$MoveList", 87, " KQRBNPkqrbnp", 1) ∈ wStr by decide +kernel) dX4_plainWord_141 ?_
      obtain ⟨y_6, ey_6⟩ : ∃ z : Nat, z = D.2.2.1 1 := ⟨_, rfl⟩
      rw [← ey_6]
      replace hp := hp y_6 ey_6
      obtain ⟨hL_y_6, hK_y_6⟩ : wM D S_4 y_6 ∧ sK S_4 y_6 = 0 := by rw [ey_6]; exact w_strM hK hW (show ("OpeningsCabinet$MoveList", 87, " KQRBNPkqrbnp", 1) ∈ wStr by decide +kernel)
      refine lv_iload hx hb dX4_plainWord_143 (lv_at hl 6 rfl) ?_
      refine w_callI (va_runV (As := [.int x5]) (rest := [.ref a0]) F (c_J0_charAt_5068e l hL_y_6 hK_y_6 hp H.size) (cwV (C := RJ0) 1 hts (wg_V wm_RX4_95 wy_J0_charAt_5068e) rfl rfl rfl (by decide +kernel) ⟨Nat.le_of_ble_eq_true rfl, Nat.le_of_ble_eq_true rfl⟩) (w_preV hK hW hL_y_6 hK_y_6 (by decide) rfl) rfl rfl hl.1 rfl (lv_room (Nat.le_of_ble_eq_true rfl)) dX4_plainWord_145 ⟨Nat.le_of_ble_eq_true rfl, Nat.le_of_ble_eq_true rfl⟩) hW (fun r_7 S_8 H locs hp hW => ?_)
      obtain ⟨hX_S_8, hp⟩ := hp
      refine W.widen (k := 0) (n := 0) (by decide) (by decide) ?_
      have hE := hE.trans hX_S_8
      have hK_a0 : sK S_8 a0 = 9 := (hX_S_8.2 a0 hL_a0).1.trans hK_a0
      have hL_a0 : wM D S_8 a0 := hX_S_8.M hL_a0
      refine lv_i2l (v := (Int32.toInt64 r_7)) hx hb dX4_plainWord_148 rfl ?_
      refine lv_iload_n hx hb dX4_plainWord_149 rfl (lv_at hl 3 rfl) ?_
      refine lv_iload hx hb dX4_plainWord_150 (lv_at hl 6 rfl) ?_
      refine w_callJ (va_runV (As := [.long (Int32.toInt64 r_7), .int x2, .int x5]) (rest := []) F (c_X4_withOrigin l hL_a0 hK_a0 hp H.size) (cwV (C := RX4) 3 hts (wg_V wm_RX4_99 wy_X4_withOrigin) rfl rfl rfl (by decide +kernel) ⟨Nat.le_of_ble_eq_true rfl, Nat.le_of_ble_eq_true rfl⟩) (w_preV hK hW hL_a0 hK_a0 (by decide) rfl) rfl rfl hl.1 rfl (lv_room (Nat.le_of_ble_eq_true rfl)) dX4_plainWord_152 ⟨Nat.le_of_ble_eq_true rfl, Nat.le_of_ble_eq_true rfl⟩) hW (fun r_9 S_10 H locs hp hW => ?_)
      obtain ⟨hX_S_10, hp⟩ := hp
      refine W.widen (k := 0) (n := 0) (by decide) (by decide) ?_
      have hE := hE.trans hX_S_10
      have hK_a0 : sK S_10 a0 = 9 := (hX_S_10.2 a0 hL_a0).1.trans hK_a0
      have hL_a0 : wM D S_10 a0 := hX_S_10.M hL_a0
      refine lv_lstore (lv' := [(7, .long r_9), (6, .int t0), (0, .ref a0), (2, .int x2), (3, .int x3), (4, .int x4), (5, .int x5)]) hx hb dX4_plainWord_155 hl (by decide) rfl (fun ls hl => ?_)
      exact t_X4_plainWord_157 F hr hlocks hK hp hW hE (lv_sub hl [2, 3, 5, 1, 0] rfl) hL_a0 hK_a0
  · replace hp := hp.2 c_1
    refine lv_iload hx hb dX4_plainWord_111 (lv_at hl 1 rfl) ?_
    refine lv_if_eq (tgt := 124) hx hb dX4_plainWord_113 (by decide) (fun c_11 => ?_) (fun c_11 => ?_)
    · replace hp := hp.1 c_11
      refine lv_lconst (v := 0) hx hb dX4_plainWord_124 (by decide) ?_
      exact t_X4_plainWord_125 F hr hlocks hK hp hW hE (lv_sub hl [2, 3, 5, 1] rfl) hL_a0 hK_a0
    · replace hp := hp.2 c_11
      refine lv_aload_n hx hb dX4_plainWord_116 rfl (lv_at hl 2 rfl) ?_
      refine lv_iload_n hx hb dX4_plainWord_117 rfl (lv_at hl 4 rfl) ?_
      refine w_callJ (va_runV (As := [.int x3]) (rest := []) F (c_X4_fileName l hL_a0 hK_a0 hp H.size) (cwV (C := RX4) 1 hts (wg_V wm_RX4_84 wy_X4_fileName) rfl rfl rfl (by decide +kernel) ⟨Nat.le_of_ble_eq_true rfl, Nat.le_of_ble_eq_true rfl⟩) (w_preV hK hW hL_a0 hK_a0 (by decide) rfl) rfl rfl hl.1 rfl (lv_room (Nat.le_of_ble_eq_true rfl)) dX4_plainWord_118 ⟨Nat.le_of_ble_eq_true rfl, Nat.le_of_ble_eq_true rfl⟩) hW (fun r_12 S_13 H locs hp hW => ?_)
      obtain ⟨hX_S_13, hp⟩ := hp
      refine W.widen (k := 0) (n := 0) (by decide) (by decide) ?_
      have hE := hE.trans hX_S_13
      have hK_a0 : sK S_13 a0 = 9 := (hX_S_13.2 a0 hL_a0).1.trans hK_a0
      have hL_a0 : wM D S_13 a0 := hX_S_13.M hL_a0
      refine lv_goto (tgt := 125) hx hb dX4_plainWord_121 (by decide) ?_
      exact t_X4_plainWord_125 F hr hlocks hK hp hW hE (lv_sub hl [2, 3, 5, 1] rfl) hL_a0 hK_a0
set_option maxHeartbeats 4000000 in
set_option maxRecDepth 100000 in
theorem t_X4_plainWord_98 {p : Program} {l : Launch} {e : Env} {s : State} {m : MethodId} {args : Array Value} {below : List Frame} {meth : Method} {c : Code} {D : wD} {cy : Nat → ClassId} {X : va_W} {A : Nat → Prop} {S0 : wS} {post : Int64 → wS → Prop} (F : CallFix p m c cX4_plainWord 10 s args wz_X4_plainWord RX4) (hr : meth.sig.returnType = (some .long)) (hlocks : meth.locks = false) (hK : wK D cy A s) : ∀ {S : wS} {H : Heap} {locs : List Loc} {ls : Array Slot} {a0 : Nat} {x2 : Int32} {x3 : Int32} {x4 : Int32} {x5 : Int32}, wp_X4_plainWord_98 D post S a0 x2 x3 x4 x5 → wO D cy X A s.heap S H locs → wX D S0 S → lv_has ls 10 [(0, .ref a0), (2, .int x2), (3, .int x3), (4, .int x4), (5, .int x5)] → wM D S a0 → sK S a0 = 9 → W p l e r_X4_plainWord s m args below meth c H locs 0 0 (MQ below (va_Ql (fun r S9 => wX D S0 S9 ∧ post r S9) (wB D cy X A) A) args s 0 0 A) (F0 m 98 ls []) := by
  obtain ⟨hx, hb, hml, hown, hts⟩ := id F
  have hwg : ∀ w ∈ WG, w.before args s = true := fun w h => hts w (List.mem_cons_of_mem _ h)
  intro S H locs ls a0 x2 x3 x4 x5 hp hW hE hl hL_a0 hK_a0
  unfold wp_X4_plainWord_98 at hp
  refine lv_iconst (v := 0) hx hb dX4_plainWord_98 (by decide) ?_
  exact t_X4_plainWord_99 F hr hlocks hK hp hW hE (lv_sub hl [0, 1, 2, 3, 4] rfl) hL_a0 hK_a0
set_option maxHeartbeats 4000000 in
set_option maxRecDepth 100000 in
theorem t_X4_plainWord_94 {p : Program} {l : Launch} {e : Env} {s : State} {m : MethodId} {args : Array Value} {below : List Frame} {meth : Method} {c : Code} {D : wD} {cy : Nat → ClassId} {X : va_W} {A : Nat → Prop} {S0 : wS} {post : Int64 → wS → Prop} (F : CallFix p m c cX4_plainWord 10 s args wz_X4_plainWord RX4) (hr : meth.sig.returnType = (some .long)) (hlocks : meth.locks = false) (hK : wK D cy A s) : ∀ {S : wS} {H : Heap} {locs : List Loc} {ls : Array Slot} {a0 : Nat} {x2 : Int32} {x3 : Int32} {x4 : Int32} {x5 : Int32}, wp_X4_plainWord_94 D post S a0 x2 x3 x4 x5 → wO D cy X A s.heap S H locs → wX D S0 S → lv_has ls 10 [(0, .ref a0), (2, .int x2), (3, .int x3), (4, .int x4), (5, .int x5)] → wM D S a0 → sK S a0 = 9 → W p l e r_X4_plainWord s m args below meth c H locs 0 0 (MQ below (va_Ql (fun r S9 => wX D S0 S9 ∧ post r S9) (wB D cy X A) A) args s 0 0 A) (F0 m 94 ls []) := by
  obtain ⟨hx, hb, hml, hown, hts⟩ := id F
  have hwg : ∀ w ∈ WG, w.before args s = true := fun w h => hts w (List.mem_cons_of_mem _ h)
  intro S H locs ls a0 x2 x3 x4 x5 hp hW hE hl hL_a0 hK_a0
  unfold wp_X4_plainWord_94 at hp
  refine lv_iconst (v := 1) hx hb dX4_plainWord_94 (by decide) ?_
  refine lv_goto (tgt := 99) hx hb dX4_plainWord_95 (by decide) ?_
  exact t_X4_plainWord_99 F hr hlocks hK hp hW hE (lv_sub hl [0, 1, 2, 3, 4] rfl) hL_a0 hK_a0
set_option maxHeartbeats 4000000 in
set_option maxRecDepth 100000 in
theorem t_X4_plainWord_63 {p : Program} {l : Launch} {e : Env} {s : State} {m : MethodId} {args : Array Value} {below : List Frame} {meth : Method} {c : Code} {D : wD} {cy : Nat → ClassId} {X : va_W} {A : Nat → Prop} {S0 : wS} {post : Int64 → wS → Prop} (F : CallFix p m c cX4_plainWord 10 s args wz_X4_plainWord RX4) (hr : meth.sig.returnType = (some .long)) (hlocks : meth.locks = false) (hK : wK D cy A s) : ∀ {S : wS} {H : Heap} {locs : List Loc} {ls : Array Slot} {a0 : Nat} {x2 : Int32} {x3 : Int32} {x4 : Int32} {x5 : Int32}, wp_X4_plainWord_63 D post S a0 x2 x3 x4 x5 → wO D cy X A s.heap S H locs → wX D S0 S → lv_has ls 10 [(0, .ref a0), (2, .int x2), (3, .int x3), (4, .int x4), (5, .int x5)] → wM D S a0 → sK S a0 = 9 → W p l e r_X4_plainWord s m args below meth c H locs 0 0 (MQ below (va_Ql (fun r S9 => wX D S0 S9 ∧ post r S9) (wB D cy X A) A) args s 0 0 A) (F0 m 63 ls []) := by
  obtain ⟨hx, hb, hml, hown, hts⟩ := id F
  have hwg : ∀ w ∈ WG, w.before args s = true := fun w h => hts w (List.mem_cons_of_mem _ h)
  have i_12 : ∀ w ∈ u_ws RX7 TX7 8, w ∈ wz_X4_plainWord := fun w h => List.mem_cons_of_mem _ (wu_12 w h)
  have i_9 : ∀ w ∈ u_ws RX4 TX4 8, w ∈ wz_X4_plainWord := fun w h => List.mem_cons_of_mem _ (wu_9 w h)
  have k_40 := hwg _ wf_RX4_40
  intro S H locs ls a0 x2 x3 x4 x5 hp hW hE hl hL_a0 hK_a0
  unfold wp_X4_plainWord_63 at hp
  refine lv_aload_n hx hb dX4_plainWord_63 rfl (lv_at hl 0 rfl) ?_
  obtain ⟨y_1, ey_1, hL_y_1, hK_y_1, hp⟩ := hp
  refine w_get (k := 9) (f := 2) (T := TX4) (v := .ref y_1) F hK hW hL_a0 hK_a0 (by decide) rfl rfl (by decide) i_9 k_40 (by rw [show wv 9 2 S a0 = va_rf (sR S a0 2) from rfl, ey_1]; rfl) dX4_plainWord_64 ?_
  refine lv_iload hx hb dX4_plainWord_67 (lv_at hl 3 rfl) ?_
  refine w_callI (va_runV (As := [.int x4]) (rest := []) F (c_X7_kindOn l hL_y_1 hK_y_1 hp H.size) (cwV (C := RX7) 1 hts (wg_V wm_RX4_74 wy_X7_kindOn) rfl rfl rfl (by decide +kernel) ⟨Nat.le_of_ble_eq_true rfl, Nat.le_of_ble_eq_true rfl⟩) (w_preV hK hW hL_y_1 hK_y_1 (by decide) rfl) rfl rfl hl.1 rfl (lv_room (Nat.le_of_ble_eq_true rfl)) dX4_plainWord_69 ⟨Nat.le_of_ble_eq_true rfl, Nat.le_of_ble_eq_true rfl⟩) hW (fun r_2 S_3 H locs hp hW => ?_)
  obtain ⟨hX_S_3, hp⟩ := hp
  refine W.widen (k := 0) (n := 0) (by decide) (by decide) ?_
  have hE := hE.trans hX_S_3
  have hK_a0 : sK S_3 a0 = 9 := (hX_S_3.2 a0 hL_a0).1.trans hK_a0
  have hL_a0 : wM D S_3 a0 := hX_S_3.M hL_a0
  refine lv_if_ne (tgt := 94) hx hb dX4_plainWord_72 (by decide) (fun c_4 => ?_) (fun c_4 => ?_)
  · replace hp := hp.1 c_4
    exact t_X4_plainWord_94 F hr hlocks hK hp hW hE (lv_sub hl [0, 1, 2, 3, 4] rfl) hL_a0 hK_a0
  · replace hp := hp.2 c_4
    refine lv_iload hx hb dX4_plainWord_75 (lv_at hl 4 rfl) ?_
    refine lv_bipush (v := 6) hx hb dX4_plainWord_77 (by decide) ?_
    refine lv_icmp_ne (tgt := 98) hx hb dX4_plainWord_79 (by decide) (fun c_5 => ?_) (fun c_5 => ?_)
    · replace hp := hp.1 c_5
      exact t_X4_plainWord_98 F hr hlocks hK hp hW hE (lv_sub hl [0, 1, 2, 3, 4] rfl) hL_a0 hK_a0
    · replace hp := hp.2 c_5
      refine lv_iload hx hb dX4_plainWord_82 (lv_at hl 3 rfl) ?_
      refine lv_aload_n hx hb dX4_plainWord_84 rfl (lv_at hl 0 rfl) ?_
      obtain ⟨y_6, ey_6, hL_y_6, hK_y_6, hp⟩ := hp
      refine w_get (k := 9) (f := 2) (T := TX4) (v := .ref y_6) F hK hW hL_a0 hK_a0 (by decide) rfl rfl (by decide) i_9 k_40 (by rw [show wv 9 2 S_3 a0 = va_rf (sR S_3 a0 2) from rfl, ey_6]; rfl) dX4_plainWord_85 ?_
      refine w_getN (k := 12) (f := 7) (T := TX7) (v := .int (sI S_3 y_6 7)) F hK hW hL_y_6 hK_y_6 (by decide) rfl rfl (by decide) i_12 (hK.2.1 (.fieldLinkNest "OpeningsCabinet$MoveList" 81 "OpeningsCabinet$Position" "passing" "I" "OpeningsCabinet") (by decide +kernel)) rfl dX4_plainWord_88 ?_
      refine lv_icmp_ne (tgt := 98) hx hb dX4_plainWord_91 (by decide) (fun c_7 => ?_) (fun c_7 => ?_)
      · replace hp := hp.1 c_7
        exact t_X4_plainWord_98 F hr hlocks hK hp hW hE (lv_sub hl [0, 1, 2, 3, 4] rfl) hL_a0 hK_a0
      · replace hp := hp.2 c_7
        exact t_X4_plainWord_94 F hr hlocks hK hp hW hE (lv_sub hl [0, 1, 2, 3, 4] rfl) hL_a0 hK_a0
set_option maxHeartbeats 4000000 in
set_option maxRecDepth 100000 in
theorem t_X4_plainWord_45 {p : Program} {l : Launch} {e : Env} {s : State} {m : MethodId} {args : Array Value} {below : List Frame} {meth : Method} {c : Code} {D : wD} {cy : Nat → ClassId} {X : va_W} {A : Nat → Prop} {S0 : wS} {post : Int64 → wS → Prop} (F : CallFix p m c cX4_plainWord 10 s args wz_X4_plainWord RX4) (hr : meth.sig.returnType = (some .long)) (hlocks : meth.locks = false) (hK : wK D cy A s) : ∀ {S : wS} {H : Heap} {locs : List Loc} {ls : Array Slot} {a0 : Nat} {x2 : Int32} {x3 : Int32} {x4 : Int32} {x5 : Int32}, wp_X4_plainWord_45 D post S a0 x2 x3 x4 x5 → wO D cy X A s.heap S H locs → wX D S0 S → lv_has ls 10 [(0, .ref a0), (2, .int x2), (3, .int x3), (4, .int x4), (5, .int x5)] → wM D S a0 → sK S a0 = 9 → W p l e r_X4_plainWord s m args below meth c H locs 0 0 (MQ below (va_Ql (fun r S9 => wX D S0 S9 ∧ post r S9) (wB D cy X A) A) args s 0 0 A) (F0 m 45 ls []) := by
  obtain ⟨hx, hb, hml, hown, hts⟩ := id F
  have hwg : ∀ w ∈ WG, w.before args s = true := fun w h => hts w (List.mem_cons_of_mem _ h)
  intro S H locs ls a0 x2 x3 x4 x5 hp hW hE hl hL_a0 hK_a0
  unfold wp_X4_plainWord_45 at hp
  refine lv_iload hx hb dX4_plainWord_45 (lv_at hl 4 rfl) ?_
  refine lv_iconst (v := 1) hx hb dX4_plainWord_47 (by decide) ?_
  refine lv_icmp_ne (tgt := 63) hx hb dX4_plainWord_48 (by decide) (fun c_1 => ?_) (fun c_1 => ?_)
  · replace hp := hp.1 c_1
    exact t_X4_plainWord_63 F hr hlocks hK hp hW hE (lv_sub hl [0, 1, 2, 3, 4] rfl) hL_a0 hK_a0
  · replace hp := hp.2 c_1
    refine lv_iload_n hx hb dX4_plainWord_51 rfl (lv_at hl 2 rfl) ?_
    refine lv_iload hx hb dX4_plainWord_52 (lv_at hl 3 rfl) ?_
    refine lv_isub hx hb dX4_plainWord_54 ?_
    refine lv_iconst (v := 2) hx hb dX4_plainWord_55 (by decide) ?_
    refine lv_icmp_ne (tgt := 63) hx hb dX4_plainWord_56 (by decide) (fun c_2 => ?_) (fun c_2 => ?_)
    · replace hp := hp.1 c_2
      exact t_X4_plainWord_63 F hr hlocks hK hp hW hE (lv_sub hl [0, 1, 2, 3, 4] rfl) hL_a0 hK_a0
    · replace hp := hp.2 c_2
      refine lv_ldc2 (v := 340062580047) hx hb hown (hwg _ wJ_RX4_79) dX4_plainWord_59 ?_
      exact w_lret hx hb hr hlocks hW ⟨hE, hp⟩ dX4_plainWord_62
set_option maxHeartbeats 4000000 in
set_option maxRecDepth 100000 in
theorem t_X4_plainWord_0 {p : Program} {l : Launch} {e : Env} {s : State} {m : MethodId} {args : Array Value} {below : List Frame} {meth : Method} {c : Code} {D : wD} {cy : Nat → ClassId} {X : va_W} {A : Nat → Prop} {S0 : wS} {post : Int64 → wS → Prop} (F : CallFix p m c cX4_plainWord 10 s args wz_X4_plainWord RX4) (hr : meth.sig.returnType = (some .long)) (hlocks : meth.locks = false) (hK : wK D cy A s) : ∀ {S : wS} {H : Heap} {locs : List Loc} {ls : Array Slot} {a0 : Nat} {x1 : Int32}, wp_X4_plainWord_0 D post S a0 x1 → wO D cy X A s.heap S H locs → wX D S0 S → lv_has ls 10 [(0, .ref a0), (1, .int x1)] → wM D S a0 → sK S a0 = 9 → W p l e r_X4_plainWord s m args below meth c H locs 0 0 (MQ below (va_Ql (fun r S9 => wX D S0 S9 ∧ post r S9) (wB D cy X A) A) args s 0 0 A) (F0 m 0 ls []) := by
  obtain ⟨hx, hb, hml, hown, hts⟩ := id F
  have hwg : ∀ w ∈ WG, w.before args s = true := fun w h => hts w (List.mem_cons_of_mem _ h)
  have i_9 : ∀ w ∈ u_ws RX4 TX4 8, w ∈ wz_X4_plainWord := fun w h => List.mem_cons_of_mem _ (wu_9 w h)
  have k_40 := hwg _ wf_RX4_40
  intro S H locs ls a0 x1 hp hW hE hl hL_a0 hK_a0
  unfold wp_X4_plainWord_0 at hp
  refine lv_aload_n hx hb dX4_plainWord_0 rfl (lv_at hl 0 rfl) ?_
  refine lv_iload_n hx hb dX4_plainWord_1 rfl (lv_at hl 1 rfl) ?_
  refine w_callI (va_runV (As := [.int x1]) (rest := []) F (c_X4_codeAt l hL_a0 hK_a0 hp H.size) (cwV (C := RX4) 1 hts (wg_V wm_RX4_65 wy_X4_codeAt) rfl rfl rfl (by decide +kernel) ⟨Nat.le_of_ble_eq_true rfl, Nat.le_of_ble_eq_true rfl⟩) (w_preV hK hW hL_a0 hK_a0 (by decide) rfl) rfl rfl hl.1 rfl (lv_room (Nat.le_of_ble_eq_true rfl)) dX4_plainWord_2 ⟨Nat.le_of_ble_eq_true rfl, Nat.le_of_ble_eq_true rfl⟩) hW (fun r_1 S_2 H locs hp hW => ?_)
  obtain ⟨hX_S_2, hp⟩ := hp
  refine W.widen (k := 0) (n := 0) (by decide) (by decide) ?_
  have hE := hE.trans hX_S_2
  have hK_a0 : sK S_2 a0 = 9 := (hX_S_2.2 a0 hL_a0).1.trans hK_a0
  have hL_a0 : wM D S_2 a0 := hX_S_2.M hL_a0
  refine lv_istore_n (lv' := [(2, .int r_1), (0, .ref a0), (1, .int x1)]) hx hb dX4_plainWord_5 rfl hl (by decide) rfl (fun ls hl => ?_)
  refine lv_iload_n hx hb dX4_plainWord_6 rfl (lv_at hl 0 rfl) ?_
  refine w_callI (va_runSN (As := [.int r_1]) (rest := []) F (c_X11_fromOf l hp H.size) ⟨va_cnB (host := "OpeningsCabinet") 1 hts (wg_cons wy_X11_fromOf.2.2) rfl rfl rfl (hK.2.1 (.methodLinkNest "OpeningsCabinet$MoveList" 68 ⟨"OpeningsCabinet", "fromOf", "(I)I"⟩ "OpeningsCabinet") (by decide +kernel)) (hwg _ wy_X11_fromOf.2.1) ⟨by decide, by decide, by decide +kernel⟩ ⟨Nat.le_of_ble_eq_true rfl, Nat.le_of_ble_eq_true rfl⟩, hwg _ wy_X11_fromOf.1, trivial⟩ (w_preS hK hW) rfl rfl hl.1 rfl (lv_room (Nat.le_of_ble_eq_true rfl)) dX4_plainWord_7 ⟨Nat.le_of_ble_eq_true rfl, Nat.le_of_ble_eq_true rfl⟩) hW (fun r_3 S_4 H locs hp hW => ?_)
  obtain ⟨hX_S_4, hp⟩ := hp
  refine W.widen (k := 0) (n := 0) (by decide) (by decide) ?_
  have hE := hE.trans hX_S_4
  have hK_a0 : sK S_4 a0 = 9 := (hX_S_4.2 a0 hL_a0).1.trans hK_a0
  have hL_a0 : wM D S_4 a0 := hX_S_4.M hL_a0
  refine lv_istore_n (lv' := [(3, .int r_3), (2, .int r_1), (0, .ref a0), (1, .int x1)]) hx hb dX4_plainWord_10 rfl hl (by decide) rfl (fun ls hl => ?_)
  refine lv_iload_n hx hb dX4_plainWord_11 rfl (lv_at hl 1 rfl) ?_
  refine w_callI (va_runSN (As := [.int r_1]) (rest := []) F (c_X11_toOf l hp H.size) ⟨va_cnB (host := "OpeningsCabinet") 1 hts (wg_cons wy_X11_toOf.2.2) rfl rfl rfl (hK.2.1 (.methodLinkNest "OpeningsCabinet$MoveList" 71 ⟨"OpeningsCabinet", "toOf", "(I)I"⟩ "OpeningsCabinet") (by decide +kernel)) (hwg _ wy_X11_toOf.2.1) ⟨by decide, by decide, by decide +kernel⟩ ⟨Nat.le_of_ble_eq_true rfl, Nat.le_of_ble_eq_true rfl⟩, hwg _ wy_X11_toOf.1, trivial⟩ (w_preS hK hW) rfl rfl hl.1 rfl (lv_room (Nat.le_of_ble_eq_true rfl)) dX4_plainWord_12 ⟨Nat.le_of_ble_eq_true rfl, Nat.le_of_ble_eq_true rfl⟩) hW (fun r_5 S_6 H locs hp hW => ?_)
  obtain ⟨hX_S_6, hp⟩ := hp
  refine W.widen (k := 0) (n := 0) (by decide) (by decide) ?_
  have hE := hE.trans hX_S_6
  have hK_a0 : sK S_6 a0 = 9 := (hX_S_6.2 a0 hL_a0).1.trans hK_a0
  have hL_a0 : wM D S_6 a0 := hX_S_6.M hL_a0
  refine lv_istore (lv' := [(4, .int r_5), (3, .int r_3), (2, .int r_1), (0, .ref a0), (1, .int x1)]) hx hb dX4_plainWord_15 hl (by decide) rfl (fun ls hl => ?_)
  refine lv_aload_n hx hb dX4_plainWord_17 rfl (lv_at hl 3 rfl) ?_
  obtain ⟨y_7, ey_7, hL_y_7, hK_y_7, hp⟩ := hp
  refine w_get (k := 9) (f := 2) (T := TX4) (v := .ref y_7) F hK hW hL_a0 hK_a0 (by decide) rfl rfl (by decide) i_9 k_40 (by rw [show wv 9 2 S_6 a0 = va_rf (sR S_6 a0 2) from rfl, ey_7]; rfl) dX4_plainWord_18 ?_
  refine lv_iload_n hx hb dX4_plainWord_21 rfl (lv_at hl 1 rfl) ?_
  refine w_callI (va_runV (As := [.int r_3]) (rest := []) F (c_X7_kindOn l hL_y_7 hK_y_7 hp H.size) (cwV (C := RX7) 1 hts (wg_V wm_RX4_74 wy_X7_kindOn) rfl rfl rfl (by decide +kernel) ⟨Nat.le_of_ble_eq_true rfl, Nat.le_of_ble_eq_true rfl⟩) (w_preV hK hW hL_y_7 hK_y_7 (by decide) rfl) rfl rfl hl.1 rfl (lv_room (Nat.le_of_ble_eq_true rfl)) dX4_plainWord_22 ⟨Nat.le_of_ble_eq_true rfl, Nat.le_of_ble_eq_true rfl⟩) hW (fun r_8 S_9 H locs hp hW => ?_)
  obtain ⟨hX_S_9, hp⟩ := hp
  refine W.widen (k := 0) (n := 0) (by decide) (by decide) ?_
  have hE := hE.trans hX_S_9
  have hK_a0 : sK S_9 a0 = 9 := (hX_S_9.2 a0 hL_a0).1.trans hK_a0
  have hL_a0 : wM D S_9 a0 := hX_S_9.M hL_a0
  refine lv_istore (lv' := [(5, .int r_8), (4, .int r_5), (3, .int r_3), (2, .int r_1), (0, .ref a0), (1, .int x1)]) hx hb dX4_plainWord_25 hl (by decide) rfl (fun ls hl => ?_)
  refine lv_iload hx hb dX4_plainWord_27 (lv_at hl 0 rfl) ?_
  refine lv_iconst (v := 1) hx hb dX4_plainWord_29 (by decide) ?_
  refine lv_icmp_ne (tgt := 45) hx hb dX4_plainWord_30 (by decide) (fun c_10 => ?_) (fun c_10 => ?_)
  · replace hp := hp.1 c_10
    exact t_X4_plainWord_45 F hr hlocks hK hp hW hE (lv_sub hl [4, 3, 2, 1, 0] rfl) hL_a0 hK_a0
  · replace hp := hp.2 c_10
    refine lv_iload hx hb dX4_plainWord_33 (lv_at hl 1 rfl) ?_
    refine lv_iload_n hx hb dX4_plainWord_35 rfl (lv_at hl 2 rfl) ?_
    refine lv_isub hx hb dX4_plainWord_36 ?_
    refine lv_iconst (v := 2) hx hb dX4_plainWord_37 (by decide) ?_
    refine lv_icmp_ne (tgt := 45) hx hb dX4_plainWord_38 (by decide) (fun c_11 => ?_) (fun c_11 => ?_)
    · replace hp := hp.1 c_11
      exact t_X4_plainWord_45 F hr hlocks hK hp hW hE (lv_sub hl [4, 3, 2, 1, 0] rfl) hL_a0 hK_a0
    · replace hp := hp.2 c_11
      refine lv_ldc2 (v := 5188943) hx hb hown (hwg _ wJ_RX4_77) dX4_plainWord_41 ?_
      exact w_lret hx hb hr hlocks hW ⟨hE, hp⟩ dX4_plainWord_44
set_option maxHeartbeats 4000000 in
set_option maxRecDepth 100000 in
theorem c_X4_plainWord (l : Launch) {D : wD} {cy : Nat → ClassId} {X : va_W} {S0 : wS} {post : Int64 → wS → Prop} {a0 : Nat} {x1 : Int32} (hL_a0 : wM D S0 a0) (hK_a0 : sK S0 a0 = 9) (hp : wp_X4_plainWord D post S0 a0 x1) : mJ D cy X l yX4_plainWord wz_X4_plainWord r_X4_plainWord [.ref a0, .int x1] S0 (fun r S9 => wX D S0 S9 ∧ post r S9) := by
  intro sz
  refine Met.ofW (cc := cX4_plainWord) (maxL := 10) (ret := (some .long)) (by decide) rfl ?_
  intro p e s m args below meth c s₁ B hml hv
  obtain ⟨rfl, hsz, hP, hK, hD0, hRO⟩ := hv
  have hts := atoms_spec (ws := wz_X4_plainWord) B.pre
  have hown : s.vm.findClass RX4 = some m.cls := findClass_of_methodNamed B.named
  subst hsz
  have hD := hD0.self (sz := s.heap.size)
  have F : CallFix p m c cX4_plainWord 10 s _ wz_X4_plainWord RX4 := ⟨B.exec, B.bytes, hml, hown, hts⟩
  have hr := B.returns
  have hlocks := B.notSynchronized
  generalize hAe : va_A (wL cy X S0) s.heap.size = A at hD hK ⊢
  have hA : ∀ q, s.heap.size ≤ q → A q := fun q h => by rw [← hAe]; exact Or.inr h
  have hW : wO D cy X A s.heap S0 s.heap [] := ⟨hP, hD, va_S.rf, hA, hRO⟩
  have hl := lv_entry ([.ref a0, .int x1]) (n := 10) (Nat.le_of_ble_eq_true rfl)
  rw [lg_entry_eq]
  generalize (lg_sl ([.ref a0, .int x1]) ++ List.replicate (10 - (lg_sl ([.ref a0, .int x1])).length) Slot.unset).toArray = ls at hl ⊢
  have hl : lv_has ls 10 [(0, .ref a0), (1, .int x1)] := hl
  unfold wp_X4_plainWord at hp
  exact t_X4_plainWord_0 F hr hlocks hK hp hW wX.rf (lv_sub hl [0, 1] rfl) hL_a0 hK_a0
def wp_X4_wordOf_30 (D : wD) (post : Int64 → wS → Prop)  (S : wS) (t0 : Int64) : Prop :=
post t0 S
def wp_X4_wordOf_0 (D : wD) (post : Int64 → wS → Prop)  (S : wS) (a0 : Nat) (x1 : Int32) : Prop :=
wp_X4_plainWord D (fun r_1 S_2 => 
wp_X4_markOf D (fun r_3 S_4 => 
((¬ r_3 = 0 → wp_X4_wordOf_30 D post S_4 ((jlshl r_1 (8 : Int32)) ||| (Int32.toInt64 r_3))) ∧
 (r_3 = 0 → wp_X4_wordOf_30 D post S_4 r_1))) S_2 a0 x1) S a0 x1
abbrev r_X4_wordOf : Room := { frames := 6, cells := 0, slots := 0, locals := 141 }
def wp_X4_wordOf (D : wD) (post : Int64 → wS → Prop) (S : wS) (a0 : Nat) (x1 : Int32) : Prop := wp_X4_wordOf_0 D post S a0 x1
set_option maxHeartbeats 4000000 in
set_option maxRecDepth 100000 in
theorem t_X4_wordOf_30 {p : Program} {l : Launch} {e : Env} {s : State} {m : MethodId} {args : Array Value} {below : List Frame} {meth : Method} {c : Code} {D : wD} {cy : Nat → ClassId} {X : va_W} {A : Nat → Prop} {S0 : wS} {post : Int64 → wS → Prop} (F : CallFix p m c cX4_wordOf 5 s args wz_X4_wordOf RX4) (hr : meth.sig.returnType = (some .long)) (hlocks : meth.locks = false) (hK : wK D cy A s) : ∀ {S : wS} {H : Heap} {locs : List Loc} {ls : Array Slot} {t0 : Int64}, wp_X4_wordOf_30 D post S t0 → wO D cy X A s.heap S H locs → wX D S0 S → lv_has ls 5 [] → W p l e r_X4_wordOf s m args below meth c H locs 0 0 (MQ below (va_Ql (fun r S9 => wX D S0 S9 ∧ post r S9) (wB D cy X A) A) args s 0 0 A) (F0 m 30 ls [.long t0]) := by
  obtain ⟨hx, hb, hml, hown, hts⟩ := id F
  have hwg : ∀ w ∈ WG, w.before args s = true := fun w h => hts w (List.mem_cons_of_mem _ h)
  intro S H locs ls t0 hp hW hE hl
  unfold wp_X4_wordOf_30 at hp
  exact w_lret hx hb hr hlocks hW ⟨hE, hp⟩ dX4_wordOf_30
set_option maxHeartbeats 4000000 in
set_option maxRecDepth 100000 in
theorem t_X4_wordOf_0 {p : Program} {l : Launch} {e : Env} {s : State} {m : MethodId} {args : Array Value} {below : List Frame} {meth : Method} {c : Code} {D : wD} {cy : Nat → ClassId} {X : va_W} {A : Nat → Prop} {S0 : wS} {post : Int64 → wS → Prop} (F : CallFix p m c cX4_wordOf 5 s args wz_X4_wordOf RX4) (hr : meth.sig.returnType = (some .long)) (hlocks : meth.locks = false) (hK : wK D cy A s) : ∀ {S : wS} {H : Heap} {locs : List Loc} {ls : Array Slot} {a0 : Nat} {x1 : Int32}, wp_X4_wordOf_0 D post S a0 x1 → wO D cy X A s.heap S H locs → wX D S0 S → lv_has ls 5 [(0, .ref a0), (1, .int x1)] → wM D S a0 → sK S a0 = 9 → W p l e r_X4_wordOf s m args below meth c H locs 0 0 (MQ below (va_Ql (fun r S9 => wX D S0 S9 ∧ post r S9) (wB D cy X A) A) args s 0 0 A) (F0 m 0 ls []) := by
  obtain ⟨hx, hb, hml, hown, hts⟩ := id F
  have hwg : ∀ w ∈ WG, w.before args s = true := fun w h => hts w (List.mem_cons_of_mem _ h)
  intro S H locs ls a0 x1 hp hW hE hl hL_a0 hK_a0
  unfold wp_X4_wordOf_0 at hp
  refine lv_aload_n hx hb dX4_wordOf_0 rfl (lv_at hl 0 rfl) ?_
  refine lv_iload_n hx hb dX4_wordOf_1 rfl (lv_at hl 1 rfl) ?_
  refine w_callJ (va_runV (As := [.int x1]) (rest := []) F (c_X4_plainWord l hL_a0 hK_a0 hp H.size) (cwV (C := RX4) 1 hts (wg_V wm_RX4_57 wy_X4_plainWord) rfl rfl rfl (by decide +kernel) ⟨Nat.le_of_ble_eq_true rfl, Nat.le_of_ble_eq_true rfl⟩) (w_preV hK hW hL_a0 hK_a0 (by decide) rfl) rfl rfl hl.1 rfl (lv_room (Nat.le_of_ble_eq_true rfl)) dX4_wordOf_2 ⟨Nat.le_of_ble_eq_true rfl, Nat.le_of_ble_eq_true rfl⟩) hW (fun r_1 S_2 H locs hp hW => ?_)
  obtain ⟨hX_S_2, hp⟩ := hp
  refine W.widen (k := 0) (n := 0) (by decide) (by decide) ?_
  have hE := hE.trans hX_S_2
  have hK_a0 : sK S_2 a0 = 9 := (hX_S_2.2 a0 hL_a0).1.trans hK_a0
  have hL_a0 : wM D S_2 a0 := hX_S_2.M hL_a0
  refine lv_lstore_n (lv' := [(2, .long r_1), (0, .ref a0), (1, .int x1)]) hx hb dX4_wordOf_5 rfl hl (by decide) rfl (fun ls hl => ?_)
  refine lv_aload_n hx hb dX4_wordOf_6 rfl (lv_at hl 1 rfl) ?_
  refine lv_iload_n hx hb dX4_wordOf_7 rfl (lv_at hl 2 rfl) ?_
  refine w_callI (va_runV (As := [.int x1]) (rest := []) F (c_X4_markOf l hL_a0 hK_a0 hp H.size) (cwV (C := RX4) 1 hts (wg_V wm_RX4_61 wy_X4_markOf) rfl rfl rfl (by decide +kernel) ⟨Nat.le_of_ble_eq_true rfl, Nat.le_of_ble_eq_true rfl⟩) (w_preV hK hW hL_a0 hK_a0 (by decide) rfl) rfl rfl hl.1 rfl (lv_room (Nat.le_of_ble_eq_true rfl)) dX4_wordOf_8 ⟨Nat.le_of_ble_eq_true rfl, Nat.le_of_ble_eq_true rfl⟩) hW (fun r_3 S_4 H locs hp hW => ?_)
  obtain ⟨hX_S_4, hp⟩ := hp
  refine W.widen (k := 0) (n := 0) (by decide) (by decide) ?_
  have hE := hE.trans hX_S_4
  have hK_a0 : sK S_4 a0 = 9 := (hX_S_4.2 a0 hL_a0).1.trans hK_a0
  have hL_a0 : wM D S_4 a0 := hX_S_4.M hL_a0
  refine lv_istore (lv' := [(4, .int r_3), (2, .long r_1), (0, .ref a0), (1, .int x1)]) hx hb dX4_wordOf_11 hl (by decide) rfl (fun ls hl => ?_)
  refine lv_iload hx hb dX4_wordOf_13 (lv_at hl 0 rfl) ?_
  refine lv_if_ne (tgt := 22) hx hb dX4_wordOf_15 (by decide) (fun c_5 => ?_) (fun c_5 => ?_)
  · replace hp := hp.1 c_5
    refine lv_lload_n hx hb dX4_wordOf_22 rfl (lv_at hl 1 rfl) ?_
    refine lv_bipush (v := 8) hx hb dX4_wordOf_23 (by decide) ?_
    refine lv_lshl (v := (jlshl r_1 (8 : Int32))) hx hb dX4_wordOf_25 rfl ?_
    refine lv_iload hx hb dX4_wordOf_26 (lv_at hl 0 rfl) ?_
    refine lv_i2l (v := (Int32.toInt64 r_3)) hx hb dX4_wordOf_28 rfl ?_
    refine lv_lor hx hb dX4_wordOf_29 ?_
    exact t_X4_wordOf_30 F hr hlocks hK hp hW hE (lv_sub hl [] rfl)
  · replace hp := hp.2 c_5
    refine lv_lload_n hx hb dX4_wordOf_18 rfl (lv_at hl 1 rfl) ?_
    refine lv_goto (tgt := 30) hx hb dX4_wordOf_19 (by decide) ?_
    exact t_X4_wordOf_30 F hr hlocks hK hp hW hE (lv_sub hl [] rfl)
set_option maxHeartbeats 4000000 in
set_option maxRecDepth 100000 in
theorem c_X4_wordOf (l : Launch) {D : wD} {cy : Nat → ClassId} {X : va_W} {S0 : wS} {post : Int64 → wS → Prop} {a0 : Nat} {x1 : Int32} (hL_a0 : wM D S0 a0) (hK_a0 : sK S0 a0 = 9) (hp : wp_X4_wordOf D post S0 a0 x1) : mJ D cy X l yX4_wordOf wz_X4_wordOf r_X4_wordOf [.ref a0, .int x1] S0 (fun r S9 => wX D S0 S9 ∧ post r S9) := by
  intro sz
  refine Met.ofW (cc := cX4_wordOf) (maxL := 5) (ret := (some .long)) (by decide) rfl ?_
  intro p e s m args below meth c s₁ B hml hv
  obtain ⟨rfl, hsz, hP, hK, hD0, hRO⟩ := hv
  have hts := atoms_spec (ws := wz_X4_wordOf) B.pre
  have hown : s.vm.findClass RX4 = some m.cls := findClass_of_methodNamed B.named
  subst hsz
  have hD := hD0.self (sz := s.heap.size)
  have F : CallFix p m c cX4_wordOf 5 s _ wz_X4_wordOf RX4 := ⟨B.exec, B.bytes, hml, hown, hts⟩
  have hr := B.returns
  have hlocks := B.notSynchronized
  generalize hAe : va_A (wL cy X S0) s.heap.size = A at hD hK ⊢
  have hA : ∀ q, s.heap.size ≤ q → A q := fun q h => by rw [← hAe]; exact Or.inr h
  have hW : wO D cy X A s.heap S0 s.heap [] := ⟨hP, hD, va_S.rf, hA, hRO⟩
  have hl := lv_entry ([.ref a0, .int x1]) (n := 5) (Nat.le_of_ble_eq_true rfl)
  rw [lg_entry_eq]
  generalize (lg_sl ([.ref a0, .int x1]) ++ List.replicate (5 - (lg_sl ([.ref a0, .int x1])).length) Slot.unset).toArray = ls at hl ⊢
  have hl : lv_has ls 5 [(0, .ref a0), (1, .int x1)] := hl
  unfold wp_X4_wordOf at hp
  exact t_X4_wordOf_0 F hr hlocks hK hp hW wX.rf (lv_sub hl [0, 1] rfl) hL_a0 hK_a0
def wp_X1_gather_161 (D : wD) (post : wS → Prop)  (S : wS) : Prop :=
post S
def wp_X1_gather_154 (D : wD) (post : wS → Prop) (k_106 : wS → Nat → Int32 → Prop) (S : wS) (a0 : Nat) (x3 : Int32) (b0 : Nat) (t1 : Int32) (t2 : Int64) : Prop :=
b0 ∈ sL S ∧ vp_in t1 (sN S b0) ∧
∀ S_2 : wS, S_2 = uJ S b0 (t1).toNatClampNeg t2 →
∀ x_3 : Int32, x_3 = x3 + 1 →
k_106 S_2 a0 x_3
def wp_X1_gather_106 (D : wD) (post : wS → Prop)  : Nat → wS → Nat → Int32 → Prop
  | 0, _, _, _ => False
  | n + 1, S, a0, x3 =>
    ∃ y_1 : Nat, sR S a0 0 = some y_1 ∧ wM D S y_1 ∧ sK S y_1 = 9 ∧
    (((sI S y_1 7) ≤ x3 → wp_X1_gather_161 D post S) ∧
     (¬ (sI S y_1 7) ≤ x3 → ∃ y_3 : Nat, sR S a0 3 = some y_3 ∧ wM D S y_3 ∧ sK S y_3 = 22 ∧
    (((Int32.ofNat (sN S y_3)) ≤ x3 → wp_X1_gather_161 D post S) ∧
     (¬ (Int32.ofNat (sN S y_3)) ≤ x3 → ∃ y_5 : Nat, sR S a0 3 = some y_5 ∧ wM D S y_5 ∧ sK S y_5 = 22 ∧
    wp_X1_gamesWith D (fun r_6 S_7 => 
    ((r_6 ≤ 0 → wp_X1_gather_154 D post (wp_X1_gather_106 D post n) S_7 a0 x3 y_5 x3 (0 : Int64)) ∧
     (¬ r_6 ≤ 0 → ∃ y_9 : Nat, sR S_7 a0 0 = some y_9 ∧ wM D S_7 y_9 ∧ sK S_7 y_9 = 9 ∧
    wp_X4_wordOf D (fun r_10 S_11 => 
    wp_X1_aligned D (fun r_12 S_13 => 
    wp_X1_gather_154 D post (wp_X1_gather_106 D post n) S_13 a0 x3 y_5 x3 r_12) S_11 r_10) S_7 y_9 x3))) S a0 x3))))
def wp_X1_gather_98 (D : wD) (post : wS → Prop) (k_26 : wS → Nat → Nat → Nat → Int32 → Prop) (S : wS) (a0 : Nat) (a1 : Nat) (a2 : Nat) (x3 : Int32) : Prop :=
∀ x_1 : Int32, x_1 = x3 + 1 →
k_26 S a0 a1 a2 x_1
def wp_X1_gather_92 (D : wD) (post : wS → Prop) (k_26 : wS → Nat → Nat → Nat → Int32 → Prop) (k_44 : wS → Nat → Nat → Nat → Int32 → Option Nat → Int32 → Prop) (S : wS) (a0 : Nat) (a1 : Nat) (a2 : Nat) (x3 : Int32) (a4 : Nat) (x5 : Int32) : Prop :=
∀ x_1 : Int32, x_1 = x5 + 1 →
k_44 S a0 a1 a2 x3 (some a4) x_1
def wp_X1_gather_44 (D : wD) (post : wS → Prop) (k_26 : wS → Nat → Nat → Nat → Int32 → Prop) : Nat → wS → Nat → Nat → Nat → Int32 → Option Nat → Int32 → Prop
  | 0, _, _, _, _, _, _, _ => False
  | n + 1, S, a0, a1, a2, x3, g4, x5 =>
    ((g4 = none → wp_X1_gather_98 D post k_26 S a0 a1 a2 x3) ∧
     (∀ y_1 : Nat, g4 = some y_1 → wM D S y_1 ∧ sK S y_1 = 8 ∧ (((sI S y_1 3) ≤ x5 → wp_X1_gather_98 D post k_26 S a0 a1 a2 x3) ∧
     (¬ (sI S y_1 3) ≤ x5 → ∃ y_4 : Nat, sR S y_1 0 = some y_4 ∧ wM D S y_4 ∧ sK S y_4 = 22 ∧
    wp_X7_isSavedAt D (fun r_5 S_6 => 
    ((r_5 = 0 → wp_X1_gather_92 D post k_26 (wp_X1_gather_44 D post k_26 n) S_6 a0 a1 a2 x3 y_1 x5) ∧
     (¬ r_5 = 0 → ∃ y_8 : Nat, sR S_6 a0 0 = some y_8 ∧ wM D S_6 y_8 ∧ sK S_6 y_8 = 9 ∧
    wp_X3_moveAt D (fun r_9 S_10 => 
    wp_X4_numberOfCode D (fun r_11 S_12 => 
    wp_X1_note D (fun S_14 => 
    wp_X1_gather_92 D post k_26 (wp_X1_gather_44 D post k_26 n) S_14 a0 a1 a2 x3 y_1 x5) S_12 a0 r_11 x3) S_10 y_8 r_9) S_6 y_1 x5))) S a2 y_4 x5))))
def wp_X1_gather_26 (D : wD) (post : wS → Prop)  : Nat → wS → Nat → Nat → Nat → Int32 → Prop
  | 0, _, _, _, _, _ => False
  | n + 1, S, a0, a1, a2, x3 =>
    wp_X10_size D (fun r_1 S_2 => 
    ((r_1 ≤ x3 → ∃ n_4 : Nat, wp_X1_gather_106 D post n_4 S_2 a0 (0 : Int32)) ∧
     (¬ r_1 ≤ x3 → wp_X10_gameAt D (fun r_5 S_6 => 
    ∃ n_7 : Nat, wp_X1_gather_44 D post (wp_X1_gather_26 D post n) n_7 S_6 a0 a1 a2 x3 r_5 (0 : Int32)) S_2 a1 x3))) S a1
def wp_X1_gather_0 (D : wD) (post : wS → Prop)  (S : wS) (a0 : Nat) (a1 : Nat) (a2 : Nat) : Prop :=
∃ y_1 : Nat, sR S a0 0 = some y_1 ∧ wM D S y_1 ∧ sK S y_1 = 9 ∧
wp_X4_look D (fun S_3 => 
∃ y_4 : Nat, sR S_3 a0 1 = some y_4 ∧ wM D S_3 y_4 ∧ sK S_3 y_4 = 21 ∧
wp_J7_fill_53178 D (fun S_6 => 
∃ y_7 : Nat, sR S_6 a0 2 = some y_7 ∧ wM D S_6 y_7 ∧ sK S_6 y_7 = 21 ∧
wp_J7_fill_53178 D (fun S_9 => 
∃ n_10 : Nat, wp_X1_gather_26 D post n_10 S_9 a0 a1 a2 (0 : Int32)) S_6 y_7 (-1 : Int32)) S_3 y_4 (0 : Int32)) S y_1 a2
abbrev r_X1_gather : Room := { frames := 7, cells := 0, slots := 0, locals := 165 }
def wp_X1_gather (D : wD) (post : wS → Prop) (S : wS) (a0 : Nat) (a1 : Nat) (a2 : Nat) : Prop := wp_X1_gather_0 D post S a0 a1 a2
set_option maxHeartbeats 4000000 in
set_option maxRecDepth 100000 in
theorem t_X1_gather_161 {p : Program} {l : Launch} {e : Env} {s : State} {m : MethodId} {args : Array Value} {below : List Frame} {meth : Method} {c : Code} {D : wD} {cy : Nat → ClassId} {X : va_W} {A : Nat → Prop} {S0 : wS} {post : wS → Prop} (F : CallFix p m c cX1_gather 6 s args wz_X1_gather RX1) (hr : meth.sig.returnType = none) (hlocks : meth.locks = false) (hK : wK D cy A s) : ∀ {S : wS} {H : Heap} {locs : List Loc} {ls : Array Slot}, wp_X1_gather_161 D post S → wO D cy X A s.heap S H locs → wX D S0 S → lv_has ls 6 [] → W p l e r_X1_gather s m args below meth c H locs 0 0 (MQ below (va_Qv (fun S9 => wX D S0 S9 ∧ post S9) (wB D cy X A) A) args s 0 0 A) (F0 m 161 ls []) := by
  obtain ⟨hx, hb, hml, hown, hts⟩ := id F
  have hwg : ∀ w ∈ WG, w.before args s = true := fun w h => hts w (List.mem_cons_of_mem _ h)
  intro S H locs ls hp hW hE hl
  unfold wp_X1_gather_161 at hp
  exact w_vret hx hb hr hlocks hW ⟨hE, hp⟩ dX1_gather_161
set_option maxHeartbeats 4000000 in
set_option maxRecDepth 100000 in
theorem t_X1_gather_154 {p : Program} {l : Launch} {e : Env} {s : State} {m : MethodId} {args : Array Value} {below : List Frame} {meth : Method} {c : Code} {D : wD} {cy : Nat → ClassId} {X : va_W} {A : Nat → Prop} {S0 : wS} {post : wS → Prop} (F : CallFix p m c cX1_gather 6 s args wz_X1_gather RX1) (hr : meth.sig.returnType = none) (hlocks : meth.locks = false) (hK : wK D cy A s) {k_106 : wS → Nat → Int32 → Prop} (q_106 : ∀ {S : wS} {H : Heap} {locs : List Loc} {ls : Array Slot} {a0 : Nat} {x3 : Int32}, k_106 S a0 x3 → wO D cy X A s.heap S H locs → wX D S0 S → lv_has ls 6 [(0, .ref a0), (3, .int x3)] → wM D S a0 → sK S a0 = 6 → W p l e r_X1_gather s m args below meth c H locs 0 0 (MQ below (va_Qv (fun S9 => wX D S0 S9 ∧ post S9) (wB D cy X A) A) args s 0 0 A) (F0 m 106 ls [])) : ∀ {S : wS} {H : Heap} {locs : List Loc} {ls : Array Slot} {a0 : Nat} {x3 : Int32} {b0 : Nat} {t1 : Int32} {t2 : Int64}, wp_X1_gather_154 D post k_106 S a0 x3 b0 t1 t2 → wO D cy X A s.heap S H locs → wX D S0 S → lv_has ls 6 [(0, .ref a0), (3, .int x3)] → wM D S a0 → sK S a0 = 6 → wM D S b0 → sK S b0 = 22 → W p l e r_X1_gather s m args below meth c H locs 0 0 (MQ below (va_Qv (fun S9 => wX D S0 S9 ∧ post S9) (wB D cy X A) A) args s 0 0 A) (F0 m 154 ls [.long t2, .int t1, .ref b0]) := by
  obtain ⟨hx, hb, hml, hown, hts⟩ := id F
  have hwg : ∀ w ∈ WG, w.before args s = true := fun w h => hts w (List.mem_cons_of_mem _ h)
  intro S H locs ls a0 x3 b0 t1 t2 hp hW hE hl hL_a0 hK_a0 hL_b0 hK_b0
  unfold wp_X1_gather_154 at hp
  obtain ⟨h_1m, h_1, hp⟩ := hp
  refine w_lst F hK hW h_1m hK_b0 h_1 dX1_gather_154 (fun H locs hW => ?_)
  obtain ⟨S_2, eS_2⟩ : ∃ z : wS, z = uJ S b0 (t1).toNatClampNeg t2 := ⟨_, rfl⟩
  rw [← eS_2] at hW
  replace hp := hp S_2 eS_2
  have hX_S_2 : wX D S S_2 := by rw [eS_2]; exact wX_uJ
  have hE := hE.trans hX_S_2
  have hK_a0 : sK S_2 a0 = 6 := (hX_S_2.2 a0 hL_a0).1.trans hK_a0
  have hL_a0 : wM D S_2 a0 := hX_S_2.M hL_a0
  obtain ⟨x_3, ex_3⟩ : ∃ z : Int32, z = x3 + 1 := ⟨_, rfl⟩
  replace hp := hp x_3 ex_3
  refine lv_iinc (v := x_3) (lv' := [(3, .int x_3), (0, .ref a0)]) hx hb dX1_gather_155 hl (k := 1) rfl (by rw [ex_3]; rfl) (by decide) rfl (fun ls hl => ?_)
  refine lv_goto (tgt := 106) hx hb dX1_gather_158 (by decide) ?_
  exact q_106 hp hW hE (lv_sub hl [1, 0] rfl) hL_a0 hK_a0
set_option maxHeartbeats 4000000 in
set_option maxRecDepth 100000 in
theorem t_X1_gather_106 {p : Program} {l : Launch} {e : Env} {s : State} {m : MethodId} {args : Array Value} {below : List Frame} {meth : Method} {c : Code} {D : wD} {cy : Nat → ClassId} {X : va_W} {A : Nat → Prop} {S0 : wS} {post : wS → Prop} (F : CallFix p m c cX1_gather 6 s args wz_X1_gather RX1) (hr : meth.sig.returnType = none) (hlocks : meth.locks = false) (hK : wK D cy A s) : ∀ (n : Nat) {S : wS} {H : Heap} {locs : List Loc} {ls : Array Slot} {a0 : Nat} {x3 : Int32}, wp_X1_gather_106 D post n S a0 x3 → wO D cy X A s.heap S H locs → wX D S0 S → lv_has ls 6 [(0, .ref a0), (3, .int x3)] → wM D S a0 → sK S a0 = 6 → W p l e r_X1_gather s m args below meth c H locs 0 0 (MQ below (va_Qv (fun S9 => wX D S0 S9 ∧ post S9) (wB D cy X A) A) args s 0 0 A) (F0 m 106 ls []) := by
  obtain ⟨hx, hb, hml, hown, hts⟩ := id F
  have hwg : ∀ w ∈ WG, w.before args s = true := fun w h => hts w (List.mem_cons_of_mem _ h)
  have i_6 : ∀ w ∈ u_ws RX1 TX1 4, w ∈ wz_X1_gather := fun w h => List.mem_cons_of_mem _ (wu_6 w h)
  have i_9 : ∀ w ∈ u_ws RX4 TX4 8, w ∈ wz_X1_gather := fun w h => List.mem_cons_of_mem _ (wu_9 w h)
  have k_18 := hwg _ wf_RX1_18
  have k_22 := hwg _ wf_RX1_22
  intro n
  induction n with
  | zero =>
    intro S H locs ls a0 x3 hp
    exact hp.elim
  | succ n ih =>
    intro S H locs ls a0 x3 hp hW hE hl hL_a0 hK_a0
    unfold wp_X1_gather_106 at hp
    refine lv_iload_n hx hb dX1_gather_106 rfl (lv_at hl 1 rfl) ?_
    refine lv_aload_n hx hb dX1_gather_107 rfl (lv_at hl 0 rfl) ?_
    obtain ⟨y_1, ey_1, hL_y_1, hK_y_1, hp⟩ := hp
    refine w_get (k := 6) (f := 0) (T := TX1) (v := .ref y_1) F hK hW hL_a0 hK_a0 (by decide) rfl rfl (by decide) i_6 k_22 (by rw [show wv 6 0 S a0 = va_rf (sR S a0 0) from rfl, ey_1]; rfl) dX1_gather_108 ?_
    refine w_getN (k := 9) (f := 7) (T := TX4) (v := .int (sI S y_1 7)) F hK hW hL_y_1 hK_y_1 (by decide) rfl rfl (by decide) i_9 (hK.2.1 (.fieldLinkNest "OpeningsCabinet$Continuations" 74 "OpeningsCabinet$MoveList" "size" "I" "OpeningsCabinet") (by decide +kernel)) rfl dX1_gather_111 ?_
    refine lv_icmp_ge (tgt := 161) hx hb dX1_gather_114 (by decide) (fun c_2 => ?_) (fun c_2 => ?_)
    · replace hp := hp.1 c_2
      exact t_X1_gather_161 F hr hlocks hK hp hW hE (lv_sub hl [] rfl)
    · replace hp := hp.2 c_2
      refine lv_iload_n hx hb dX1_gather_117 rfl (lv_at hl 1 rfl) ?_
      refine lv_aload_n hx hb dX1_gather_118 rfl (lv_at hl 0 rfl) ?_
      obtain ⟨y_3, ey_3, hL_y_3, hK_y_3, hp⟩ := hp
      refine w_get (k := 6) (f := 3) (T := TX1) (v := .ref y_3) F hK hW hL_a0 hK_a0 (by decide) rfl rfl (by decide) i_6 k_18 (by rw [show wv 6 3 S a0 = va_rf (sR S a0 3) from rfl, ey_3]; rfl) dX1_gather_119 ?_
      refine w_len F hK hW hL_y_3 hK_y_3 (by decide) dX1_gather_122 ?_
      refine lv_icmp_ge (tgt := 161) hx hb dX1_gather_123 (by decide) (fun c_4 => ?_) (fun c_4 => ?_)
      · replace hp := hp.1 c_4
        exact t_X1_gather_161 F hr hlocks hK hp hW hE (lv_sub hl [] rfl)
      · replace hp := hp.2 c_4
        refine lv_aload_n hx hb dX1_gather_126 rfl (lv_at hl 0 rfl) ?_
        obtain ⟨y_5, ey_5, hL_y_5, hK_y_5, hp⟩ := hp
        refine w_get (k := 6) (f := 3) (T := TX1) (v := .ref y_5) F hK hW hL_a0 hK_a0 (by decide) rfl rfl (by decide) i_6 k_18 (by rw [show wv 6 3 S a0 = va_rf (sR S a0 3) from rfl, ey_5]; rfl) dX1_gather_127 ?_
        refine lv_iload_n hx hb dX1_gather_130 rfl (lv_at hl 1 rfl) ?_
        refine lv_aload_n hx hb dX1_gather_131 rfl (lv_at hl 0 rfl) ?_
        refine lv_iload_n hx hb dX1_gather_132 rfl (lv_at hl 1 rfl) ?_
        refine w_callI (va_runV (As := [.int x3]) (rest := [.int x3, .ref y_5]) F (c_X1_gamesWith l hL_a0 hK_a0 hp H.size) (cwV (C := RX1) 1 hts (wg_V wm_RX1_76 wy_X1_gamesWith) rfl rfl rfl (by decide +kernel) ⟨Nat.le_of_ble_eq_true rfl, Nat.le_of_ble_eq_true rfl⟩) (w_preV hK hW hL_a0 hK_a0 (by decide) rfl) rfl rfl hl.1 rfl (lv_room (Nat.le_of_ble_eq_true rfl)) dX1_gather_133 ⟨Nat.le_of_ble_eq_true rfl, Nat.le_of_ble_eq_true rfl⟩) hW (fun r_6 S_7 H locs hp hW => ?_)
        obtain ⟨hX_S_7, hp⟩ := hp
        refine W.widen (k := 0) (n := 0) (by decide) (by decide) ?_
        have hE := hE.trans hX_S_7
        have hK_a0 : sK S_7 a0 = 6 := (hX_S_7.2 a0 hL_a0).1.trans hK_a0
        have hL_a0 : wM D S_7 a0 := hX_S_7.M hL_a0
        have hK_y_5 : sK S_7 y_5 = 22 := (hX_S_7.2 y_5 hL_y_5).1.trans hK_y_5
        have hL_y_5 : wM D S_7 y_5 := hX_S_7.M hL_y_5
        refine lv_if_le (tgt := 153) hx hb dX1_gather_136 (by decide) (fun c_8 => ?_) (fun c_8 => ?_)
        · replace hp := hp.1 c_8
          refine lv_lconst (v := 0) hx hb dX1_gather_153 (by decide) ?_
          exact t_X1_gather_154 F hr hlocks hK ih hp hW hE (lv_sub hl [0, 1] rfl) hL_a0 hK_a0 hL_y_5 hK_y_5
        · replace hp := hp.2 c_8
          refine lv_aload_n hx hb dX1_gather_139 rfl (lv_at hl 0 rfl) ?_
          obtain ⟨y_9, ey_9, hL_y_9, hK_y_9, hp⟩ := hp
          refine w_get (k := 6) (f := 0) (T := TX1) (v := .ref y_9) F hK hW hL_a0 hK_a0 (by decide) rfl rfl (by decide) i_6 k_22 (by rw [show wv 6 0 S_7 a0 = va_rf (sR S_7 a0 0) from rfl, ey_9]; rfl) dX1_gather_140 ?_
          refine lv_iload_n hx hb dX1_gather_143 rfl (lv_at hl 1 rfl) ?_
          refine w_callJ (va_runV (As := [.int x3]) (rest := [.int x3, .ref y_5]) F (c_X4_wordOf l hL_y_9 hK_y_9 hp H.size) (cwV (C := RX4) 1 hts (wg_V wm_RX1_79 wy_X4_wordOf) rfl rfl rfl (by decide +kernel) ⟨Nat.le_of_ble_eq_true rfl, Nat.le_of_ble_eq_true rfl⟩) (w_preV hK hW hL_y_9 hK_y_9 (by decide) rfl) rfl rfl hl.1 rfl (lv_room (Nat.le_of_ble_eq_true rfl)) dX1_gather_144 ⟨Nat.le_of_ble_eq_true rfl, Nat.le_of_ble_eq_true rfl⟩) hW (fun r_10 S_11 H locs hp hW => ?_)
          obtain ⟨hX_S_11, hp⟩ := hp
          refine W.widen (k := 0) (n := 0) (by decide) (by decide) ?_
          have hE := hE.trans hX_S_11
          have hK_a0 : sK S_11 a0 = 6 := (hX_S_11.2 a0 hL_a0).1.trans hK_a0
          have hL_a0 : wM D S_11 a0 := hX_S_11.M hL_a0
          have hK_y_5 : sK S_11 y_5 = 22 := (hX_S_11.2 y_5 hL_y_5).1.trans hK_y_5
          have hL_y_5 : wM D S_11 y_5 := hX_S_11.M hL_y_5
          refine w_callJ (va_runS (As := [.long r_10]) (rest := [.int x3, .ref y_5]) F (c_X1_aligned l hp H.size) (va_cwS 1 hts (wg_S wm_RX1_83 wy_X1_aligned) rfl rfl rfl (by decide +kernel) ⟨Nat.le_of_ble_eq_true rfl, Nat.le_of_ble_eq_true rfl⟩) (w_preS hK hW) rfl rfl hl.1 rfl (lv_room (Nat.le_of_ble_eq_true rfl)) dX1_gather_147 ⟨Nat.le_of_ble_eq_true rfl, Nat.le_of_ble_eq_true rfl⟩) hW (fun r_12 S_13 H locs hp hW => ?_)
          obtain ⟨hX_S_13, hp⟩ := hp
          refine W.widen (k := 0) (n := 0) (by decide) (by decide) ?_
          have hE := hE.trans hX_S_13
          have hK_a0 : sK S_13 a0 = 6 := (hX_S_13.2 a0 hL_a0).1.trans hK_a0
          have hL_a0 : wM D S_13 a0 := hX_S_13.M hL_a0
          have hK_y_5 : sK S_13 y_5 = 22 := (hX_S_13.2 y_5 hL_y_5).1.trans hK_y_5
          have hL_y_5 : wM D S_13 y_5 := hX_S_13.M hL_y_5
          refine lv_goto (tgt := 154) hx hb dX1_gather_150 (by decide) ?_
          exact t_X1_gather_154 F hr hlocks hK ih hp hW hE (lv_sub hl [0, 1] rfl) hL_a0 hK_a0 hL_y_5 hK_y_5
set_option maxHeartbeats 4000000 in
set_option maxRecDepth 100000 in
theorem t_X1_gather_98 {p : Program} {l : Launch} {e : Env} {s : State} {m : MethodId} {args : Array Value} {below : List Frame} {meth : Method} {c : Code} {D : wD} {cy : Nat → ClassId} {X : va_W} {A : Nat → Prop} {S0 : wS} {post : wS → Prop} (F : CallFix p m c cX1_gather 6 s args wz_X1_gather RX1) (hr : meth.sig.returnType = none) (hlocks : meth.locks = false) (hK : wK D cy A s) {k_26 : wS → Nat → Nat → Nat → Int32 → Prop} (q_26 : ∀ {S : wS} {H : Heap} {locs : List Loc} {ls : Array Slot} {a0 : Nat} {a1 : Nat} {a2 : Nat} {x3 : Int32}, k_26 S a0 a1 a2 x3 → wO D cy X A s.heap S H locs → wX D S0 S → lv_has ls 6 [(0, .ref a0), (1, .ref a1), (2, .ref a2), (3, .int x3)] → wM D S a0 → sK S a0 = 6 → wM D S a1 → sK S a1 = 15 → wM D S a2 → sK S a2 = 12 → W p l e r_X1_gather s m args below meth c H locs 0 0 (MQ below (va_Qv (fun S9 => wX D S0 S9 ∧ post S9) (wB D cy X A) A) args s 0 0 A) (F0 m 26 ls [])) : ∀ {S : wS} {H : Heap} {locs : List Loc} {ls : Array Slot} {a0 : Nat} {a1 : Nat} {a2 : Nat} {x3 : Int32}, wp_X1_gather_98 D post k_26 S a0 a1 a2 x3 → wO D cy X A s.heap S H locs → wX D S0 S → lv_has ls 6 [(0, .ref a0), (1, .ref a1), (2, .ref a2), (3, .int x3)] → wM D S a0 → sK S a0 = 6 → wM D S a1 → sK S a1 = 15 → wM D S a2 → sK S a2 = 12 → W p l e r_X1_gather s m args below meth c H locs 0 0 (MQ below (va_Qv (fun S9 => wX D S0 S9 ∧ post S9) (wB D cy X A) A) args s 0 0 A) (F0 m 98 ls []) := by
  obtain ⟨hx, hb, hml, hown, hts⟩ := id F
  have hwg : ∀ w ∈ WG, w.before args s = true := fun w h => hts w (List.mem_cons_of_mem _ h)
  intro S H locs ls a0 a1 a2 x3 hp hW hE hl hL_a0 hK_a0 hL_a1 hK_a1 hL_a2 hK_a2
  unfold wp_X1_gather_98 at hp
  obtain ⟨x_1, ex_1⟩ : ∃ z : Int32, z = x3 + 1 := ⟨_, rfl⟩
  replace hp := hp x_1 ex_1
  refine lv_iinc (v := x_1) (lv' := [(3, .int x_1), (0, .ref a0), (1, .ref a1), (2, .ref a2)]) hx hb dX1_gather_98 hl (k := 3) rfl (by rw [ex_1]; rfl) (by decide) rfl (fun ls hl => ?_)
  refine lv_goto (tgt := 26) hx hb dX1_gather_101 (by decide) ?_
  exact q_26 hp hW hE (lv_sub hl [1, 2, 3, 0] rfl) hL_a0 hK_a0 hL_a1 hK_a1 hL_a2 hK_a2
set_option maxHeartbeats 4000000 in
set_option maxRecDepth 100000 in
theorem t_X1_gather_92 {p : Program} {l : Launch} {e : Env} {s : State} {m : MethodId} {args : Array Value} {below : List Frame} {meth : Method} {c : Code} {D : wD} {cy : Nat → ClassId} {X : va_W} {A : Nat → Prop} {S0 : wS} {post : wS → Prop} (F : CallFix p m c cX1_gather 6 s args wz_X1_gather RX1) (hr : meth.sig.returnType = none) (hlocks : meth.locks = false) (hK : wK D cy A s) {k_26 : wS → Nat → Nat → Nat → Int32 → Prop} (q_26 : ∀ {S : wS} {H : Heap} {locs : List Loc} {ls : Array Slot} {a0 : Nat} {a1 : Nat} {a2 : Nat} {x3 : Int32}, k_26 S a0 a1 a2 x3 → wO D cy X A s.heap S H locs → wX D S0 S → lv_has ls 6 [(0, .ref a0), (1, .ref a1), (2, .ref a2), (3, .int x3)] → wM D S a0 → sK S a0 = 6 → wM D S a1 → sK S a1 = 15 → wM D S a2 → sK S a2 = 12 → W p l e r_X1_gather s m args below meth c H locs 0 0 (MQ below (va_Qv (fun S9 => wX D S0 S9 ∧ post S9) (wB D cy X A) A) args s 0 0 A) (F0 m 26 ls [])) {k_44 : wS → Nat → Nat → Nat → Int32 → Option Nat → Int32 → Prop} (q_44 : ∀ {S : wS} {H : Heap} {locs : List Loc} {ls : Array Slot} {a0 : Nat} {a1 : Nat} {a2 : Nat} {x3 : Int32} {g4 : Option Nat} {x5 : Int32}, k_44 S a0 a1 a2 x3 g4 x5 → wO D cy X A s.heap S H locs → wX D S0 S → lv_has ls 6 [(0, .ref a0), (1, .ref a1), (2, .ref a2), (3, .int x3), (4, va_rf g4), (5, .int x5)] → wM D S a0 → sK S a0 = 6 → wM D S a1 → sK S a1 = 15 → wM D S a2 → sK S a2 = 12 → W p l e r_X1_gather s m args below meth c H locs 0 0 (MQ below (va_Qv (fun S9 => wX D S0 S9 ∧ post S9) (wB D cy X A) A) args s 0 0 A) (F0 m 44 ls [])) : ∀ {S : wS} {H : Heap} {locs : List Loc} {ls : Array Slot} {a0 : Nat} {a1 : Nat} {a2 : Nat} {x3 : Int32} {a4 : Nat} {x5 : Int32}, wp_X1_gather_92 D post k_26 k_44 S a0 a1 a2 x3 a4 x5 → wO D cy X A s.heap S H locs → wX D S0 S → lv_has ls 6 [(0, .ref a0), (1, .ref a1), (2, .ref a2), (3, .int x3), (4, .ref a4), (5, .int x5)] → wM D S a0 → sK S a0 = 6 → wM D S a1 → sK S a1 = 15 → wM D S a2 → sK S a2 = 12 → wM D S a4 → sK S a4 = 8 → W p l e r_X1_gather s m args below meth c H locs 0 0 (MQ below (va_Qv (fun S9 => wX D S0 S9 ∧ post S9) (wB D cy X A) A) args s 0 0 A) (F0 m 92 ls []) := by
  obtain ⟨hx, hb, hml, hown, hts⟩ := id F
  have hwg : ∀ w ∈ WG, w.before args s = true := fun w h => hts w (List.mem_cons_of_mem _ h)
  intro S H locs ls a0 a1 a2 x3 a4 x5 hp hW hE hl hL_a0 hK_a0 hL_a1 hK_a1 hL_a2 hK_a2 hL_a4 hK_a4
  unfold wp_X1_gather_92 at hp
  obtain ⟨x_1, ex_1⟩ : ∃ z : Int32, z = x5 + 1 := ⟨_, rfl⟩
  replace hp := hp x_1 ex_1
  refine lv_iinc (v := x_1) (lv' := [(5, .int x_1), (0, .ref a0), (1, .ref a1), (2, .ref a2), (3, .int x3), (4, .ref a4)]) hx hb dX1_gather_92 hl (k := 5) rfl (by rw [ex_1]; rfl) (by decide) rfl (fun ls hl => ?_)
  refine lv_goto (tgt := 44) hx hb dX1_gather_95 (by decide) ?_
  exact q_44 hp hW hE (lv_sub hl [1, 2, 3, 4, 5, 0] rfl) hL_a0 hK_a0 hL_a1 hK_a1 hL_a2 hK_a2
set_option maxHeartbeats 4000000 in
set_option maxRecDepth 100000 in
theorem t_X1_gather_44 {p : Program} {l : Launch} {e : Env} {s : State} {m : MethodId} {args : Array Value} {below : List Frame} {meth : Method} {c : Code} {D : wD} {cy : Nat → ClassId} {X : va_W} {A : Nat → Prop} {S0 : wS} {post : wS → Prop} (F : CallFix p m c cX1_gather 6 s args wz_X1_gather RX1) (hr : meth.sig.returnType = none) (hlocks : meth.locks = false) (hK : wK D cy A s) {k_26 : wS → Nat → Nat → Nat → Int32 → Prop} (q_26 : ∀ {S : wS} {H : Heap} {locs : List Loc} {ls : Array Slot} {a0 : Nat} {a1 : Nat} {a2 : Nat} {x3 : Int32}, k_26 S a0 a1 a2 x3 → wO D cy X A s.heap S H locs → wX D S0 S → lv_has ls 6 [(0, .ref a0), (1, .ref a1), (2, .ref a2), (3, .int x3)] → wM D S a0 → sK S a0 = 6 → wM D S a1 → sK S a1 = 15 → wM D S a2 → sK S a2 = 12 → W p l e r_X1_gather s m args below meth c H locs 0 0 (MQ below (va_Qv (fun S9 => wX D S0 S9 ∧ post S9) (wB D cy X A) A) args s 0 0 A) (F0 m 26 ls [])) : ∀ (n : Nat) {S : wS} {H : Heap} {locs : List Loc} {ls : Array Slot} {a0 : Nat} {a1 : Nat} {a2 : Nat} {x3 : Int32} {g4 : Option Nat} {x5 : Int32}, wp_X1_gather_44 D post k_26 n S a0 a1 a2 x3 g4 x5 → wO D cy X A s.heap S H locs → wX D S0 S → lv_has ls 6 [(0, .ref a0), (1, .ref a1), (2, .ref a2), (3, .int x3), (4, va_rf g4), (5, .int x5)] → wM D S a0 → sK S a0 = 6 → wM D S a1 → sK S a1 = 15 → wM D S a2 → sK S a2 = 12 → W p l e r_X1_gather s m args below meth c H locs 0 0 (MQ below (va_Qv (fun S9 => wX D S0 S9 ∧ post S9) (wB D cy X A) A) args s 0 0 A) (F0 m 44 ls []) := by
  obtain ⟨hx, hb, hml, hown, hts⟩ := id F
  have hwg : ∀ w ∈ WG, w.before args s = true := fun w h => hts w (List.mem_cons_of_mem _ h)
  have i_6 : ∀ w ∈ u_ws RX1 TX1 4, w ∈ wz_X1_gather := fun w h => List.mem_cons_of_mem _ (wu_6 w h)
  have i_8 : ∀ w ∈ u_ws RX3 TX3 9, w ∈ wz_X1_gather := fun w h => List.mem_cons_of_mem _ (wu_8 w h)
  have k_22 := hwg _ wf_RX1_22
  intro n
  induction n with
  | zero =>
    intro S H locs ls a0 a1 a2 x3 g4 x5 hp
    exact hp.elim
  | succ n ih =>
    intro S H locs ls a0 a1 a2 x3 g4 x5 hp hW hE hl hL_a0 hK_a0 hL_a1 hK_a1 hL_a2 hK_a2
    unfold wp_X1_gather_44 at hp
    refine w_aload hx hb dX1_gather_44 (lv_at hl 4 rfl) ?_
    refine w_ifnull (tgt := 98) hx hb dX1_gather_46 (by decide) (fun h_2 => ?_) (fun y_1 h_2 => ?_)
    · replace hp := hp.1 h_2
      revert hp; revert hl; revert hW; revert hE; subst h_2; intro hE hW hl hp
      exact t_X1_gather_98 F hr hlocks hK q_26 hp hW hE (lv_sub hl [0, 1, 2, 3] rfl) hL_a0 hK_a0 hL_a1 hK_a1 hL_a2 hK_a2
    · replace hp := hp.2 y_1 h_2
      revert hp; revert hl; revert hW; revert hE; subst h_2; intro hE hW hl hp
      obtain ⟨hL_y_1, hK_y_1, hp⟩ := hp
      refine lv_iload hx hb dX1_gather_49 (lv_at hl 5 rfl) ?_
      refine lv_aload hx hb dX1_gather_51 (lv_at hl 4 rfl) ?_
      refine w_getN (k := 8) (f := 3) (T := TX3) (v := .int (sI S y_1 3)) F hK hW hL_y_1 hK_y_1 (by decide) rfl rfl (by decide) i_8 (hK.2.1 (.fieldLinkNest "OpeningsCabinet$Continuations" 48 "OpeningsCabinet$Game" "length" "I" "OpeningsCabinet") (by decide +kernel)) rfl dX1_gather_53 ?_
      refine lv_icmp_ge (tgt := 98) hx hb dX1_gather_56 (by decide) (fun c_3 => ?_) (fun c_3 => ?_)
      · replace hp := hp.1 c_3
        exact t_X1_gather_98 F hr hlocks hK q_26 hp hW hE (lv_sub hl [0, 1, 2, 3] rfl) hL_a0 hK_a0 hL_a1 hK_a1 hL_a2 hK_a2
      · replace hp := hp.2 c_3
        refine lv_aload_n hx hb dX1_gather_59 rfl (lv_at hl 2 rfl) ?_
        refine lv_aload hx hb dX1_gather_60 (lv_at hl 4 rfl) ?_
        obtain ⟨y_4, ey_4, hL_y_4, hK_y_4, hp⟩ := hp
        refine w_getN (k := 8) (f := 0) (T := TX3) (v := .ref y_4) F hK hW hL_y_1 hK_y_1 (by decide) rfl rfl (by decide) i_8 (hK.2.1 (.fieldLinkNest "OpeningsCabinet$Continuations" 54 "OpeningsCabinet$Game" "places" "[J" "OpeningsCabinet") (by decide +kernel)) (by rw [show wv 8 0 S y_1 = va_rf (sR S y_1 0) from rfl, ey_4]; rfl) dX1_gather_62 ?_
        refine lv_iload hx hb dX1_gather_65 (lv_at hl 5 rfl) ?_
        refine w_callI (va_runV (As := [.ref y_4, .int x5]) (rest := []) F (c_X7_isSavedAt l hL_a2 hK_a2 hL_y_4 hK_y_4 hp H.size) (cwV (C := RX7) 2 hts (wg_V wm_RX1_57 wy_X7_isSavedAt) rfl rfl rfl (by decide +kernel) ⟨Nat.le_of_ble_eq_true rfl, Nat.le_of_ble_eq_true rfl⟩) (w_preV hK hW hL_a2 hK_a2 (by decide) rfl) rfl rfl hl.1 rfl (lv_room (Nat.le_of_ble_eq_true rfl)) dX1_gather_67 ⟨Nat.le_of_ble_eq_true rfl, Nat.le_of_ble_eq_true rfl⟩) hW (fun r_5 S_6 H locs hp hW => ?_)
        obtain ⟨hX_S_6, hp⟩ := hp
        refine W.widen (k := 0) (n := 0) (by decide) (by decide) ?_
        have hE := hE.trans hX_S_6
        have hK_a0 : sK S_6 a0 = 6 := (hX_S_6.2 a0 hL_a0).1.trans hK_a0
        have hL_a0 : wM D S_6 a0 := hX_S_6.M hL_a0
        have hK_a1 : sK S_6 a1 = 15 := (hX_S_6.2 a1 hL_a1).1.trans hK_a1
        have hL_a1 : wM D S_6 a1 := hX_S_6.M hL_a1
        have hK_a2 : sK S_6 a2 = 12 := (hX_S_6.2 a2 hL_a2).1.trans hK_a2
        have hL_a2 : wM D S_6 a2 := hX_S_6.M hL_a2
        have hK_y_1 : sK S_6 y_1 = 8 := (hX_S_6.2 y_1 hL_y_1).1.trans hK_y_1
        have hL_y_1 : wM D S_6 y_1 := hX_S_6.M hL_y_1
        refine lv_if_eq (tgt := 92) hx hb dX1_gather_70 (by decide) (fun c_7 => ?_) (fun c_7 => ?_)
        · replace hp := hp.1 c_7
          exact t_X1_gather_92 F hr hlocks hK q_26 ih hp hW hE (lv_sub hl [0, 1, 2, 3, 4, 5] rfl) hL_a0 hK_a0 hL_a1 hK_a1 hL_a2 hK_a2 hL_y_1 hK_y_1
        · replace hp := hp.2 c_7
          refine lv_aload_n hx hb dX1_gather_73 rfl (lv_at hl 0 rfl) ?_
          refine lv_aload_n hx hb dX1_gather_74 rfl (lv_at hl 0 rfl) ?_
          obtain ⟨y_8, ey_8, hL_y_8, hK_y_8, hp⟩ := hp
          refine w_get (k := 6) (f := 0) (T := TX1) (v := .ref y_8) F hK hW hL_a0 hK_a0 (by decide) rfl rfl (by decide) i_6 k_22 (by rw [show wv 6 0 S_6 a0 = va_rf (sR S_6 a0 0) from rfl, ey_8]; rfl) dX1_gather_75 ?_
          refine lv_aload hx hb dX1_gather_78 (lv_at hl 4 rfl) ?_
          refine lv_iload hx hb dX1_gather_80 (lv_at hl 5 rfl) ?_
          refine w_callI (va_runV (As := [.int x5]) (rest := [.ref y_8, .ref a0]) F (c_X3_moveAt l hL_y_1 hK_y_1 hp H.size) (cwV (C := RX3) 1 hts (wg_V wm_RX1_63 wy_X3_moveAt) rfl rfl rfl (by decide +kernel) ⟨Nat.le_of_ble_eq_true rfl, Nat.le_of_ble_eq_true rfl⟩) (w_preV hK hW hL_y_1 hK_y_1 (by decide) rfl) rfl rfl hl.1 rfl (lv_room (Nat.le_of_ble_eq_true rfl)) dX1_gather_82 ⟨Nat.le_of_ble_eq_true rfl, Nat.le_of_ble_eq_true rfl⟩) hW (fun r_9 S_10 H locs hp hW => ?_)
          obtain ⟨hX_S_10, hp⟩ := hp
          refine W.widen (k := 0) (n := 0) (by decide) (by decide) ?_
          have hE := hE.trans hX_S_10
          have hK_a0 : sK S_10 a0 = 6 := (hX_S_10.2 a0 hL_a0).1.trans hK_a0
          have hL_a0 : wM D S_10 a0 := hX_S_10.M hL_a0
          have hK_a1 : sK S_10 a1 = 15 := (hX_S_10.2 a1 hL_a1).1.trans hK_a1
          have hL_a1 : wM D S_10 a1 := hX_S_10.M hL_a1
          have hK_a2 : sK S_10 a2 = 12 := (hX_S_10.2 a2 hL_a2).1.trans hK_a2
          have hL_a2 : wM D S_10 a2 := hX_S_10.M hL_a2
          have hK_y_1 : sK S_10 y_1 = 8 := (hX_S_10.2 y_1 hL_y_1).1.trans hK_y_1
          have hL_y_1 : wM D S_10 y_1 := hX_S_10.M hL_y_1
          have hK_y_8 : sK S_10 y_8 = 9 := (hX_S_10.2 y_8 hL_y_8).1.trans hK_y_8
          have hL_y_8 : wM D S_10 y_8 := hX_S_10.M hL_y_8
          refine w_callI (va_runV (As := [.int r_9]) (rest := [.ref a0]) F (c_X4_numberOfCode l hL_y_8 hK_y_8 hp H.size) (cwV (C := RX4) 1 hts (wg_V wm_RX1_67 wy_X4_numberOfCode) rfl rfl rfl (by decide +kernel) ⟨Nat.le_of_ble_eq_true rfl, Nat.le_of_ble_eq_true rfl⟩) (w_preV hK hW hL_y_8 hK_y_8 (by decide) rfl) rfl rfl hl.1 rfl (lv_room (Nat.le_of_ble_eq_true rfl)) dX1_gather_85 ⟨Nat.le_of_ble_eq_true rfl, Nat.le_of_ble_eq_true rfl⟩) hW (fun r_11 S_12 H locs hp hW => ?_)
          obtain ⟨hX_S_12, hp⟩ := hp
          refine W.widen (k := 0) (n := 0) (by decide) (by decide) ?_
          have hE := hE.trans hX_S_12
          have hK_a0 : sK S_12 a0 = 6 := (hX_S_12.2 a0 hL_a0).1.trans hK_a0
          have hL_a0 : wM D S_12 a0 := hX_S_12.M hL_a0
          have hK_a1 : sK S_12 a1 = 15 := (hX_S_12.2 a1 hL_a1).1.trans hK_a1
          have hL_a1 : wM D S_12 a1 := hX_S_12.M hL_a1
          have hK_a2 : sK S_12 a2 = 12 := (hX_S_12.2 a2 hL_a2).1.trans hK_a2
          have hL_a2 : wM D S_12 a2 := hX_S_12.M hL_a2
          have hK_y_1 : sK S_12 y_1 = 8 := (hX_S_12.2 y_1 hL_y_1).1.trans hK_y_1
          have hL_y_1 : wM D S_12 y_1 := hX_S_12.M hL_y_1
          refine lv_iload_n hx hb dX1_gather_88 rfl (lv_at hl 3 rfl) ?_
          refine w_callV (va_runV (As := [.int r_11, .int x3]) (rest := []) F (c_X1_note l hL_a0 hK_a0 hp H.size) (cwV (C := RX1) 2 hts (wg_V wm_RX1_70 wy_X1_note) rfl rfl rfl (by decide +kernel) ⟨Nat.le_of_ble_eq_true rfl, Nat.le_of_ble_eq_true rfl⟩) (w_preV hK hW hL_a0 hK_a0 (by decide) rfl) rfl rfl hl.1 rfl (lv_room (Nat.le_of_ble_eq_true rfl)) dX1_gather_89 ⟨Nat.le_of_ble_eq_true rfl, Nat.le_of_ble_eq_true rfl⟩) hW (fun S_14 H locs hp hW => ?_)
          obtain ⟨hX_S_14, hp⟩ := hp
          refine W.widen (k := 0) (n := 0) (by decide) (by decide) ?_
          have hE := hE.trans hX_S_14
          have hK_a0 : sK S_14 a0 = 6 := (hX_S_14.2 a0 hL_a0).1.trans hK_a0
          have hL_a0 : wM D S_14 a0 := hX_S_14.M hL_a0
          have hK_a1 : sK S_14 a1 = 15 := (hX_S_14.2 a1 hL_a1).1.trans hK_a1
          have hL_a1 : wM D S_14 a1 := hX_S_14.M hL_a1
          have hK_a2 : sK S_14 a2 = 12 := (hX_S_14.2 a2 hL_a2).1.trans hK_a2
          have hL_a2 : wM D S_14 a2 := hX_S_14.M hL_a2
          have hK_y_1 : sK S_14 y_1 = 8 := (hX_S_14.2 y_1 hL_y_1).1.trans hK_y_1
          have hL_y_1 : wM D S_14 y_1 := hX_S_14.M hL_y_1
          exact t_X1_gather_92 F hr hlocks hK q_26 ih hp hW hE (lv_sub hl [0, 1, 2, 3, 4, 5] rfl) hL_a0 hK_a0 hL_a1 hK_a1 hL_a2 hK_a2 hL_y_1 hK_y_1
set_option maxHeartbeats 4000000 in
set_option maxRecDepth 100000 in
theorem t_X1_gather_26 {p : Program} {l : Launch} {e : Env} {s : State} {m : MethodId} {args : Array Value} {below : List Frame} {meth : Method} {c : Code} {D : wD} {cy : Nat → ClassId} {X : va_W} {A : Nat → Prop} {S0 : wS} {post : wS → Prop} (F : CallFix p m c cX1_gather 6 s args wz_X1_gather RX1) (hr : meth.sig.returnType = none) (hlocks : meth.locks = false) (hK : wK D cy A s) : ∀ (n : Nat) {S : wS} {H : Heap} {locs : List Loc} {ls : Array Slot} {a0 : Nat} {a1 : Nat} {a2 : Nat} {x3 : Int32}, wp_X1_gather_26 D post n S a0 a1 a2 x3 → wO D cy X A s.heap S H locs → wX D S0 S → lv_has ls 6 [(0, .ref a0), (1, .ref a1), (2, .ref a2), (3, .int x3)] → wM D S a0 → sK S a0 = 6 → wM D S a1 → sK S a1 = 15 → wM D S a2 → sK S a2 = 12 → W p l e r_X1_gather s m args below meth c H locs 0 0 (MQ below (va_Qv (fun S9 => wX D S0 S9 ∧ post S9) (wB D cy X A) A) args s 0 0 A) (F0 m 26 ls []) := by
  obtain ⟨hx, hb, hml, hown, hts⟩ := id F
  have hwg : ∀ w ∈ WG, w.before args s = true := fun w h => hts w (List.mem_cons_of_mem _ h)
  intro n
  induction n with
  | zero =>
    intro S H locs ls a0 a1 a2 x3 hp
    exact hp.elim
  | succ n ih =>
    intro S H locs ls a0 a1 a2 x3 hp hW hE hl hL_a0 hK_a0 hL_a1 hK_a1 hL_a2 hK_a2
    unfold wp_X1_gather_26 at hp
    refine lv_iload_n hx hb dX1_gather_26 rfl (lv_at hl 3 rfl) ?_
    refine lv_aload_n hx hb dX1_gather_27 rfl (lv_at hl 1 rfl) ?_
    refine w_callI (va_runV (As := []) (rest := [.int x3]) F (c_X10_size l hL_a1 hK_a1 hp H.size) (cwV (C := RX10) 0 hts (wg_V wm_RX1_38 wy_X10_size) rfl rfl rfl (by decide +kernel) ⟨Nat.le_of_ble_eq_true rfl, Nat.le_of_ble_eq_true rfl⟩) (w_preV hK hW hL_a1 hK_a1 (by decide) rfl) rfl rfl hl.1 rfl (lv_room (Nat.le_of_ble_eq_true rfl)) dX1_gather_28 ⟨Nat.le_of_ble_eq_true rfl, Nat.le_of_ble_eq_true rfl⟩) hW (fun r_1 S_2 H locs hp hW => ?_)
    obtain ⟨hX_S_2, hp⟩ := hp
    refine W.widen (k := 0) (n := 0) (by decide) (by decide) ?_
    have hE := hE.trans hX_S_2
    have hK_a0 : sK S_2 a0 = 6 := (hX_S_2.2 a0 hL_a0).1.trans hK_a0
    have hL_a0 : wM D S_2 a0 := hX_S_2.M hL_a0
    have hK_a1 : sK S_2 a1 = 15 := (hX_S_2.2 a1 hL_a1).1.trans hK_a1
    have hL_a1 : wM D S_2 a1 := hX_S_2.M hL_a1
    have hK_a2 : sK S_2 a2 = 12 := (hX_S_2.2 a2 hL_a2).1.trans hK_a2
    have hL_a2 : wM D S_2 a2 := hX_S_2.M hL_a2
    refine lv_icmp_ge (tgt := 104) hx hb dX1_gather_31 (by decide) (fun c_3 => ?_) (fun c_3 => ?_)
    · replace hp := hp.1 c_3
      refine lv_iconst (v := 0) hx hb dX1_gather_104 (by decide) ?_
      refine lv_istore_n (lv' := [(3, .int (0 : Int32)), (0, .ref a0), (1, .ref a1), (2, .ref a2)]) hx hb dX1_gather_105 rfl hl (by decide) rfl (fun ls hl => ?_)
      obtain ⟨n_4, hp⟩ := hp
      exact t_X1_gather_106 F hr hlocks hK n_4 hp hW hE (lv_sub hl [1, 0] rfl) hL_a0 hK_a0
    · replace hp := hp.2 c_3
      refine lv_aload_n hx hb dX1_gather_34 rfl (lv_at hl 1 rfl) ?_
      refine lv_iload_n hx hb dX1_gather_35 rfl (lv_at hl 3 rfl) ?_
      refine w_callR (va_runV (As := [.int x3]) (rest := []) F (c_X10_gameAt l hL_a1 hK_a1 hp H.size) (cwV (C := RX10) 1 hts (wg_V wm_RX1_44 wy_X10_gameAt) rfl rfl rfl (by decide +kernel) ⟨Nat.le_of_ble_eq_true rfl, Nat.le_of_ble_eq_true rfl⟩) (w_preV hK hW hL_a1 hK_a1 (by decide) rfl) rfl rfl hl.1 rfl (lv_room (Nat.le_of_ble_eq_true rfl)) dX1_gather_36 ⟨Nat.le_of_ble_eq_true rfl, Nat.le_of_ble_eq_true rfl⟩) hW (fun r_5 S_6 H locs hp hW => ?_)
      obtain ⟨hX_S_6, hp⟩ := hp
      refine W.widen (k := 0) (n := 0) (by decide) (by decide) ?_
      have hE := hE.trans hX_S_6
      have hK_a0 : sK S_6 a0 = 6 := (hX_S_6.2 a0 hL_a0).1.trans hK_a0
      have hL_a0 : wM D S_6 a0 := hX_S_6.M hL_a0
      have hK_a1 : sK S_6 a1 = 15 := (hX_S_6.2 a1 hL_a1).1.trans hK_a1
      have hL_a1 : wM D S_6 a1 := hX_S_6.M hL_a1
      have hK_a2 : sK S_6 a2 = 12 := (hX_S_6.2 a2 hL_a2).1.trans hK_a2
      have hL_a2 : wM D S_6 a2 := hX_S_6.M hL_a2
      refine w_astore (lv' := [(4, va_rf r_5), (0, .ref a0), (1, .ref a1), (2, .ref a2), (3, .int x3)]) hx hb dX1_gather_39 hl (by decide) rfl (fun ls hl => ?_)
      refine lv_iconst (v := 0) hx hb dX1_gather_41 (by decide) ?_
      refine lv_istore (lv' := [(5, .int (0 : Int32)), (4, va_rf r_5), (0, .ref a0), (1, .ref a1), (2, .ref a2), (3, .int x3)]) hx hb dX1_gather_42 hl (by decide) (by cases r_5 <;> rfl) (fun ls hl => ?_)
      obtain ⟨n_7, hp⟩ := hp
      exact t_X1_gather_44 F hr hlocks hK ih n_7 hp hW hE (lv_sub hl [2, 3, 4, 5, 1, 0] rfl) hL_a0 hK_a0 hL_a1 hK_a1 hL_a2 hK_a2
set_option maxHeartbeats 4000000 in
set_option maxRecDepth 100000 in
theorem t_X1_gather_0 {p : Program} {l : Launch} {e : Env} {s : State} {m : MethodId} {args : Array Value} {below : List Frame} {meth : Method} {c : Code} {D : wD} {cy : Nat → ClassId} {X : va_W} {A : Nat → Prop} {S0 : wS} {post : wS → Prop} (F : CallFix p m c cX1_gather 6 s args wz_X1_gather RX1) (hr : meth.sig.returnType = none) (hlocks : meth.locks = false) (hK : wK D cy A s) : ∀ {S : wS} {H : Heap} {locs : List Loc} {ls : Array Slot} {a0 : Nat} {a1 : Nat} {a2 : Nat}, wp_X1_gather_0 D post S a0 a1 a2 → wO D cy X A s.heap S H locs → wX D S0 S → lv_has ls 6 [(0, .ref a0), (1, .ref a1), (2, .ref a2)] → wM D S a0 → sK S a0 = 6 → wM D S a1 → sK S a1 = 15 → wM D S a2 → sK S a2 = 12 → W p l e r_X1_gather s m args below meth c H locs 0 0 (MQ below (va_Qv (fun S9 => wX D S0 S9 ∧ post S9) (wB D cy X A) A) args s 0 0 A) (F0 m 0 ls []) := by
  obtain ⟨hx, hb, hml, hown, hts⟩ := id F
  have hwg : ∀ w ∈ WG, w.before args s = true := fun w h => hts w (List.mem_cons_of_mem _ h)
  have i_6 : ∀ w ∈ u_ws RX1 TX1 4, w ∈ wz_X1_gather := fun w h => List.mem_cons_of_mem _ (wu_6 w h)
  have k_15 := hwg _ wf_RX1_15
  have k_22 := hwg _ wf_RX1_22
  have k_9 := hwg _ wf_RX1_9
  intro S H locs ls a0 a1 a2 hp hW hE hl hL_a0 hK_a0 hL_a1 hK_a1 hL_a2 hK_a2
  unfold wp_X1_gather_0 at hp
  refine lv_aload_n hx hb dX1_gather_0 rfl (lv_at hl 0 rfl) ?_
  obtain ⟨y_1, ey_1, hL_y_1, hK_y_1, hp⟩ := hp
  refine w_get (k := 6) (f := 0) (T := TX1) (v := .ref y_1) F hK hW hL_a0 hK_a0 (by decide) rfl rfl (by decide) i_6 k_22 (by rw [show wv 6 0 S a0 = va_rf (sR S a0 0) from rfl, ey_1]; rfl) dX1_gather_1 ?_
  refine lv_aload_n hx hb dX1_gather_4 rfl (lv_at hl 2 rfl) ?_
  refine w_callV (va_runV (As := [.ref a2]) (rest := []) F (c_X4_look l hL_y_1 hK_y_1 hL_a2 hK_a2 hp H.size) (cwV (C := RX4) 1 hts (wg_V wm_RX1_26 wy_X4_look) rfl rfl rfl (by decide +kernel) ⟨Nat.le_of_ble_eq_true rfl, Nat.le_of_ble_eq_true rfl⟩) (w_preV hK hW hL_y_1 hK_y_1 (by decide) rfl) rfl rfl hl.1 rfl (lv_room (Nat.le_of_ble_eq_true rfl)) dX1_gather_5 ⟨Nat.le_of_ble_eq_true rfl, Nat.le_of_ble_eq_true rfl⟩) hW (fun S_3 H locs hp hW => ?_)
  obtain ⟨hX_S_3, hp⟩ := hp
  refine W.widen (k := 0) (n := 0) (by decide) (by decide) ?_
  have hE := hE.trans hX_S_3
  have hK_a0 : sK S_3 a0 = 6 := (hX_S_3.2 a0 hL_a0).1.trans hK_a0
  have hL_a0 : wM D S_3 a0 := hX_S_3.M hL_a0
  have hK_a1 : sK S_3 a1 = 15 := (hX_S_3.2 a1 hL_a1).1.trans hK_a1
  have hL_a1 : wM D S_3 a1 := hX_S_3.M hL_a1
  have hK_a2 : sK S_3 a2 = 12 := (hX_S_3.2 a2 hL_a2).1.trans hK_a2
  have hL_a2 : wM D S_3 a2 := hX_S_3.M hL_a2
  refine lv_aload_n hx hb dX1_gather_8 rfl (lv_at hl 0 rfl) ?_
  obtain ⟨y_4, ey_4, hL_y_4, hK_y_4, hp⟩ := hp
  refine w_get (k := 6) (f := 1) (T := TX1) (v := .ref y_4) F hK hW hL_a0 hK_a0 (by decide) rfl rfl (by decide) i_6 k_9 (by rw [show wv 6 1 S_3 a0 = va_rf (sR S_3 a0 1) from rfl, ey_4]; rfl) dX1_gather_9 ?_
  refine lv_iconst (v := 0) hx hb dX1_gather_12 (by decide) ?_
  refine w_callV (va_runS (As := [.ref y_4, .int (0 : Int32)]) (rest := []) F (c_J7_fill_53178 l hL_y_4 hK_y_4 hp H.size) (va_cwS 2 hts (wg_S wm_RX1_32 wy_J7_fill_53178) rfl rfl rfl (by decide +kernel) ⟨Nat.le_of_ble_eq_true rfl, Nat.le_of_ble_eq_true rfl⟩) (w_preS hK hW) rfl rfl hl.1 rfl (lv_room (Nat.le_of_ble_eq_true rfl)) dX1_gather_13 ⟨Nat.le_of_ble_eq_true rfl, Nat.le_of_ble_eq_true rfl⟩) hW (fun S_6 H locs hp hW => ?_)
  obtain ⟨hX_S_6, hp⟩ := hp
  refine W.widen (k := 0) (n := 0) (by decide) (by decide) ?_
  have hE := hE.trans hX_S_6
  have hK_a0 : sK S_6 a0 = 6 := (hX_S_6.2 a0 hL_a0).1.trans hK_a0
  have hL_a0 : wM D S_6 a0 := hX_S_6.M hL_a0
  have hK_a1 : sK S_6 a1 = 15 := (hX_S_6.2 a1 hL_a1).1.trans hK_a1
  have hL_a1 : wM D S_6 a1 := hX_S_6.M hL_a1
  have hK_a2 : sK S_6 a2 = 12 := (hX_S_6.2 a2 hL_a2).1.trans hK_a2
  have hL_a2 : wM D S_6 a2 := hX_S_6.M hL_a2
  refine lv_aload_n hx hb dX1_gather_16 rfl (lv_at hl 0 rfl) ?_
  obtain ⟨y_7, ey_7, hL_y_7, hK_y_7, hp⟩ := hp
  refine w_get (k := 6) (f := 2) (T := TX1) (v := .ref y_7) F hK hW hL_a0 hK_a0 (by decide) rfl rfl (by decide) i_6 k_15 (by rw [show wv 6 2 S_6 a0 = va_rf (sR S_6 a0 2) from rfl, ey_7]; rfl) dX1_gather_17 ?_
  refine lv_iconst (v := (-1)) hx hb dX1_gather_20 (by decide) ?_
  refine w_callV (va_runS (As := [.ref y_7, .int (-1 : Int32)]) (rest := []) F (c_J7_fill_53178 l hL_y_7 hK_y_7 hp H.size) (va_cwS 2 hts (wg_S wm_RX1_32 wy_J7_fill_53178) rfl rfl rfl (by decide +kernel) ⟨Nat.le_of_ble_eq_true rfl, Nat.le_of_ble_eq_true rfl⟩) (w_preS hK hW) rfl rfl hl.1 rfl (lv_room (Nat.le_of_ble_eq_true rfl)) dX1_gather_21 ⟨Nat.le_of_ble_eq_true rfl, Nat.le_of_ble_eq_true rfl⟩) hW (fun S_9 H locs hp hW => ?_)
  obtain ⟨hX_S_9, hp⟩ := hp
  refine W.widen (k := 0) (n := 0) (by decide) (by decide) ?_
  have hE := hE.trans hX_S_9
  have hK_a0 : sK S_9 a0 = 6 := (hX_S_9.2 a0 hL_a0).1.trans hK_a0
  have hL_a0 : wM D S_9 a0 := hX_S_9.M hL_a0
  have hK_a1 : sK S_9 a1 = 15 := (hX_S_9.2 a1 hL_a1).1.trans hK_a1
  have hL_a1 : wM D S_9 a1 := hX_S_9.M hL_a1
  have hK_a2 : sK S_9 a2 = 12 := (hX_S_9.2 a2 hL_a2).1.trans hK_a2
  have hL_a2 : wM D S_9 a2 := hX_S_9.M hL_a2
  refine lv_iconst (v := 0) hx hb dX1_gather_24 (by decide) ?_
  refine lv_istore_n (lv' := [(3, .int (0 : Int32)), (0, .ref a0), (1, .ref a1), (2, .ref a2)]) hx hb dX1_gather_25 rfl hl (by decide) rfl (fun ls hl => ?_)
  obtain ⟨n_10, hp⟩ := hp
  exact t_X1_gather_26 F hr hlocks hK n_10 hp hW hE (lv_sub hl [1, 2, 3, 0] rfl) hL_a0 hK_a0 hL_a1 hK_a1 hL_a2 hK_a2
set_option maxHeartbeats 4000000 in
set_option maxRecDepth 100000 in
theorem c_X1_gather (l : Launch) {D : wD} {cy : Nat → ClassId} {X : va_W} {S0 : wS} {post : wS → Prop} {a0 : Nat} {a1 : Nat} {a2 : Nat} (hL_a0 : wM D S0 a0) (hK_a0 : sK S0 a0 = 6) (hL_a1 : wM D S0 a1) (hK_a1 : sK S0 a1 = 15) (hL_a2 : wM D S0 a2) (hK_a2 : sK S0 a2 = 12) (hp : wp_X1_gather D post S0 a0 a1 a2) : mV D cy X l yX1_gather wz_X1_gather r_X1_gather [.ref a0, .ref a1, .ref a2] S0 (fun S9 => wX D S0 S9 ∧ post S9) := by
  intro sz
  refine Met.ofW (cc := cX1_gather) (maxL := 6) (ret := none) (by decide) rfl ?_
  intro p e s m args below meth c s₁ B hml hv
  obtain ⟨rfl, hsz, hP, hK, hD0, hRO⟩ := hv
  have hts := atoms_spec (ws := wz_X1_gather) B.pre
  have hown : s.vm.findClass RX1 = some m.cls := findClass_of_methodNamed B.named
  subst hsz
  have hD := hD0.self (sz := s.heap.size)
  have F : CallFix p m c cX1_gather 6 s _ wz_X1_gather RX1 := ⟨B.exec, B.bytes, hml, hown, hts⟩
  have hr := B.returns
  have hlocks := B.notSynchronized
  generalize hAe : va_A (wL cy X S0) s.heap.size = A at hD hK ⊢
  have hA : ∀ q, s.heap.size ≤ q → A q := fun q h => by rw [← hAe]; exact Or.inr h
  have hW : wO D cy X A s.heap S0 s.heap [] := ⟨hP, hD, va_S.rf, hA, hRO⟩
  have hl := lv_entry ([.ref a0, .ref a1, .ref a2]) (n := 6) (Nat.le_of_ble_eq_true rfl)
  rw [lg_entry_eq]
  generalize (lg_sl ([.ref a0, .ref a1, .ref a2]) ++ List.replicate (6 - (lg_sl ([.ref a0, .ref a1, .ref a2])).length) Slot.unset).toArray = ls at hl ⊢
  have hl : lv_has ls 6 [(0, .ref a0), (1, .ref a1), (2, .ref a2)] := hl
  unfold wp_X1_gather at hp
  exact t_X1_gather_0 F hr hlocks hK hp hW wX.rf (lv_sub hl [0, 1, 2] rfl) hL_a0 hK_a0 hL_a1 hK_a1 hL_a2 hK_a2
def wp_X11_continuationAt_0 (D : wD) (post : Int32 → wS → Prop) (xp : String → wS → Prop)  (S : wS) (a0 : Nat) (x1 : Int32) (x2 : Int32) : Prop :=
wp_X11_mustBeLawful D (fun S_2 => 
∃ y_3 : Nat, sR S_2 a0 10 = some y_3 ∧ wM D S_2 y_3 ∧ sK S_2 y_3 = 6 ∧
wp_X11_shelfOf D (fun r_4 S_5 => 
∃ y_6 : Nat, sR S_5 a0 2 = some y_6 ∧ wM D S_5 y_6 ∧ sK S_5 y_6 = 12 ∧
∃ y_7 : Nat, r_4 = some y_7 ∧ wM D S_5 y_7 ∧ sK S_5 y_7 = 15 ∧
wp_X1_gather D (fun S_10 => 
wp_X11_followerAt D (fun r_11 S_12 => 
post r_11 S_12) xp S_10 a0 x2) S_5 y_3 y_7 y_6) xp S_2 a0 x1) xp S a0
abbrev r_X11_continuationAt : Room := { frames := 8, cells := 3, slots := 18, locals := 190 }
def wp_X11_continuationAt (D : wD) (post : Int32 → wS → Prop) (xp : String → wS → Prop) (S : wS) (a0 : Nat) (x1 : Int32) (x2 : Int32) : Prop := wp_X11_continuationAt_0 D post xp S a0 x1 x2
set_option maxHeartbeats 4000000 in
set_option maxRecDepth 100000 in
theorem t_X11_continuationAt_0 {p : Program} {l : Launch} {e : Env} {s : State} {m : MethodId} {args : Array Value} {below : List Frame} {meth : Method} {c : Code} {D : wD} {cy : Nat → ClassId} {X : va_W} {A : Nat → Prop} {S0 : wS} {post : Int32 → wS → Prop} {xp : String → wS → Prop} (F : CallFix p m c cX11_continuationAt 3 s args wz_X11_continuationAt RX11) (hr : meth.sig.returnType = (some .int)) (hlocks : meth.locks = false) (hK : wK D cy A s) (hl0 : l.stackTraces = false) (hexc : ∀ x ∈ c.exceptionTable.toList, False) : ∀ {S : wS} {H : Heap} {locs : List Loc} {ls : Array Slot} {a0 : Nat} {x1 : Int32} {x2 : Int32}, wp_X11_continuationAt_0 D post xp S a0 x1 x2 → wO D cy X A s.heap S H locs → wX D S0 S → lv_has ls 3 [(0, .ref a0), (1, .int x1), (2, .int x2)] → wM D S a0 → sK S a0 = 16 → W p l e r_X11_continuationAt s m args below meth c H locs 0 0 (vx_MQ below (va_Qi (fun r S9 => wX D S0 S9 ∧ post r S9) (wB D cy X A) A) (wEx D cy X A (fun E S9 => wX D S0 S9 ∧ xp E S9)) args s 3 18 A) (F0 m 0 ls []) := by
  obtain ⟨hx, hb, hml, hown, hts⟩ := id F
  have hwg : ∀ w ∈ WG, w.before args s = true := fun w h => hts w (List.mem_cons_of_mem _ h)
  have i_16 : ∀ w ∈ u_ws RX11 TX11 18, w ∈ wz_X11_continuationAt := fun w h => List.mem_cons_of_mem _ (wu_16 w h)
  have k_28 := hwg _ wf_RX11_28
  have k_84 := hwg _ wf_RX11_84
  intro S H locs ls a0 x1 x2 hp hW hE hl hL_a0 hK_a0
  unfold wp_X11_continuationAt_0 at hp
  refine lv_aload_n hx hb dX11_continuationAt_0 rfl (lv_at hl 0 rfl) ?_
  refine x_callV (vx_runV (As := []) (rest := []) F (c_X11_mustBeLawful l hl0 hL_a0 hK_a0 hp H.size) (cwV (C := RX11) 0 hts (wg_V wm_RX11_217 wy_X11_mustBeLawful) rfl rfl rfl (by decide +kernel) ⟨Nat.le_of_ble_eq_true rfl, Nat.le_of_ble_eq_true rfl⟩) (w_preV hK hW hL_a0 hK_a0 (by decide) rfl) rfl rfl hl.1 rfl (lv_room (Nat.le_of_ble_eq_true rfl)) dX11_continuationAt_1 ⟨Nat.le_of_ble_eq_true rfl, Nat.le_of_ble_eq_true rfl⟩) hW (fun E ce q9 S9 H locs hp hW h1 h2 h3 => x_out hexc hlocks ⟨hE.trans hp.1, hp.2⟩ hW h1 h2 h3 (by decide) (by decide)) (fun S_2 H locs hp hW => ?_)
  obtain ⟨hX_S_2, hp⟩ := hp
  refine W.widen (k := 1) (n := 6) (by decide) (by decide) ?_
  have hE := hE.trans hX_S_2
  have hK_a0 : sK S_2 a0 = 16 := (hX_S_2.2 a0 hL_a0).1.trans hK_a0
  have hL_a0 : wM D S_2 a0 := hX_S_2.M hL_a0
  refine lv_aload_n hx hb dX11_continuationAt_4 rfl (lv_at hl 0 rfl) ?_
  obtain ⟨y_3, ey_3, hL_y_3, hK_y_3, hp⟩ := hp
  refine w_get (k := 16) (f := 10) (T := TX11) (v := .ref y_3) F hK hW hL_a0 hK_a0 (by decide) rfl rfl (by decide) i_16 k_84 (by rw [show wv 16 10 S_2 a0 = va_rf (sR S_2 a0 10) from rfl, ey_3]; rfl) dX11_continuationAt_5 ?_
  refine lv_aload_n hx hb dX11_continuationAt_8 rfl (lv_at hl 0 rfl) ?_
  refine lv_iload_n hx hb dX11_continuationAt_9 rfl (lv_at hl 1 rfl) ?_
  refine x_callR (vx_runV (As := [.int x1]) (rest := [.ref y_3]) F (c_X11_shelfOf l hl0 hL_a0 hK_a0 hp H.size) (cwV (C := RX11) 1 hts (wg_V wm_RX11_337 wy_X11_shelfOf) rfl rfl rfl (by decide +kernel) ⟨Nat.le_of_ble_eq_true rfl, Nat.le_of_ble_eq_true rfl⟩) (w_preV hK hW hL_a0 hK_a0 (by decide) rfl) rfl rfl hl.1 rfl (lv_room (Nat.le_of_ble_eq_true rfl)) dX11_continuationAt_10 ⟨Nat.le_of_ble_eq_true rfl, Nat.le_of_ble_eq_true rfl⟩) hW (fun E ce q9 S9 H locs hp hW h1 h2 h3 => x_out hexc hlocks ⟨hE.trans hp.1, hp.2⟩ hW h1 h2 h3 (by decide) (by decide)) (fun r_4 S_5 H locs hp hW => ?_)
  obtain ⟨hX_S_5, hp⟩ := hp
  refine W.widen (k := 2) (n := 12) (by decide) (by decide) ?_
  have hE := hE.trans hX_S_5
  have hK_a0 : sK S_5 a0 = 16 := (hX_S_5.2 a0 hL_a0).1.trans hK_a0
  have hL_a0 : wM D S_5 a0 := hX_S_5.M hL_a0
  have hK_y_3 : sK S_5 y_3 = 6 := (hX_S_5.2 y_3 hL_y_3).1.trans hK_y_3
  have hL_y_3 : wM D S_5 y_3 := hX_S_5.M hL_y_3
  refine lv_aload_n hx hb dX11_continuationAt_13 rfl (lv_at hl 0 rfl) ?_
  obtain ⟨y_6, ey_6, hL_y_6, hK_y_6, hp⟩ := hp
  refine w_get (k := 16) (f := 2) (T := TX11) (v := .ref y_6) F hK hW hL_a0 hK_a0 (by decide) rfl rfl (by decide) i_16 k_28 (by rw [show wv 16 2 S_5 a0 = va_rf (sR S_5 a0 2) from rfl, ey_6]; rfl) dX11_continuationAt_14 ?_
  obtain ⟨y_7, h_8, hL_y_7, hK_y_7, hp⟩ := hp
  revert hp; revert hl; revert hW; revert hE; subst h_8; intro hE hW hl hp
  refine w_callV (va_runV (As := [.ref y_7, .ref y_6]) (rest := []) F (c_X1_gather l hL_y_3 hK_y_3 hL_y_7 hK_y_7 hL_y_6 hK_y_6 hp H.size) (cwV (C := RX1) 2 hts (wg_V wm_RX11_384 wy_X1_gather) rfl rfl rfl (by decide +kernel) ⟨Nat.le_of_ble_eq_true rfl, Nat.le_of_ble_eq_true rfl⟩) (w_preV hK hW hL_y_3 hK_y_3 (by decide) rfl) rfl rfl hl.1 rfl (lv_room (Nat.le_of_ble_eq_true rfl)) dX11_continuationAt_17 ⟨Nat.le_of_ble_eq_true rfl, Nat.le_of_ble_eq_true rfl⟩) hW (fun S_10 H locs hp hW => ?_)
  obtain ⟨hX_S_10, hp⟩ := hp
  refine W.widen (k := 2) (n := 12) (by decide) (by decide) ?_
  have hE := hE.trans hX_S_10
  have hK_a0 : sK S_10 a0 = 16 := (hX_S_10.2 a0 hL_a0).1.trans hK_a0
  have hL_a0 : wM D S_10 a0 := hX_S_10.M hL_a0
  refine lv_aload_n hx hb dX11_continuationAt_20 rfl (lv_at hl 0 rfl) ?_
  refine lv_iload_n hx hb dX11_continuationAt_21 rfl (lv_at hl 2 rfl) ?_
  refine x_callI (vx_runV (As := [.int x2]) (rest := []) F (c_X11_followerAt l hl0 hL_a0 hK_a0 hp H.size) (cwV (C := RX11) 1 hts (wg_V wm_RX11_391 wy_X11_followerAt) rfl rfl rfl (by decide +kernel) ⟨Nat.le_of_ble_eq_true rfl, Nat.le_of_ble_eq_true rfl⟩) (w_preV hK hW hL_a0 hK_a0 (by decide) rfl) rfl rfl hl.1 rfl (lv_room (Nat.le_of_ble_eq_true rfl)) dX11_continuationAt_22 ⟨Nat.le_of_ble_eq_true rfl, Nat.le_of_ble_eq_true rfl⟩) hW (fun E ce q9 S9 H locs hp hW h1 h2 h3 => x_out hexc hlocks ⟨hE.trans hp.1, hp.2⟩ hW h1 h2 h3 (by decide) (by decide)) (fun r_11 S_12 H locs hp hW => ?_)
  obtain ⟨hX_S_12, hp⟩ := hp
  refine W.widen (k := 3) (n := 18) (by decide) (by decide) ?_
  have hE := hE.trans hX_S_12
  have hK_a0 : sK S_12 a0 = 16 := (hX_S_12.2 a0 hL_a0).1.trans hK_a0
  have hL_a0 : wM D S_12 a0 := hX_S_12.M hL_a0
  refine vx_ret ?_
  exact w_iret hx hb hr hlocks hW ⟨hE, hp⟩ dX11_continuationAt_25
set_option maxHeartbeats 4000000 in
set_option maxRecDepth 100000 in
theorem c_X11_continuationAt (l : Launch) {D : wD} {cy : Nat → ClassId} {X : va_W} {S0 : wS} {post : Int32 → wS → Prop} {xp : String → wS → Prop} (hl0 : l.stackTraces = false) {a0 : Nat} {x1 : Int32} {x2 : Int32} (hL_a0 : wM D S0 a0) (hK_a0 : sK S0 a0 = 16) (hp : wp_X11_continuationAt D post xp S0 a0 x1 x2) : xI D cy X l yX11_continuationAt wz_X11_continuationAt r_X11_continuationAt [.ref a0, .int x1, .int x2] S0 (fun r S9 => wX D S0 S9 ∧ post r S9) (fun E S9 => wX D S0 S9 ∧ xp E S9) := by
  intro sz
  refine vx_ofW (cc := cX11_continuationAt) (maxL := 3) (ret := (some .int)) (by decide) rfl ?_
  intro p e s m args below meth c s₁ B hml hexc hv
  obtain ⟨rfl, hsz, hP, hK, hD0, hRO⟩ := hv
  have hts := atoms_spec (ws := wz_X11_continuationAt) B.pre
  have hown : s.vm.findClass RX11 = some m.cls := findClass_of_methodNamed B.named
  subst hsz
  have hD := hD0.self (sz := s.heap.size)
  have F : CallFix p m c cX11_continuationAt 3 s _ wz_X11_continuationAt RX11 := ⟨B.exec, B.bytes, hml, hown, hts⟩
  have hr := B.returns
  have hlocks := B.notSynchronized
  generalize hAe : va_A (wL cy X S0) s.heap.size = A at hD hK ⊢
  have hA : ∀ q, s.heap.size ≤ q → A q := fun q h => by rw [← hAe]; exact Or.inr h
  have hW : wO D cy X A s.heap S0 s.heap [] := ⟨hP, hD, va_S.rf, hA, hRO⟩
  have hl := lv_entry ([.ref a0, .int x1, .int x2]) (n := 3) (Nat.le_of_ble_eq_true rfl)
  rw [lg_entry_eq]
  generalize (lg_sl ([.ref a0, .int x1, .int x2]) ++ List.replicate (3 - (lg_sl ([.ref a0, .int x1, .int x2])).length) Slot.unset).toArray = ls at hl ⊢
  have hl : lv_has ls 3 [(0, .ref a0), (1, .int x1), (2, .int x2)] := hl
  unfold wp_X11_continuationAt at hp
  exact t_X11_continuationAt_0 F hr hlocks hK hl0 hexc hp hW wX.rf (lv_sub hl [0, 1, 2] rfl) hL_a0 hK_a0
def wp_X11_continuations_0 (D : wD) (post : Int32 → wS → Prop) (xp : String → wS → Prop)  (S : wS) (a0 : Nat) (x1 : Int32) : Prop :=
wp_X11_shelfOf D (fun r_1 S_2 => 
wp_X11_mustBeLawful D (fun S_4 => 
∃ y_5 : Nat, sR S_4 a0 10 = some y_5 ∧ wM D S_4 y_5 ∧ sK S_4 y_5 = 6 ∧
∃ y_6 : Nat, sR S_4 a0 2 = some y_6 ∧ wM D S_4 y_6 ∧ sK S_4 y_6 = 12 ∧
∃ y_7 : Nat, r_1 = some y_7 ∧ wM D S_4 y_7 ∧ sK S_4 y_7 = 15 ∧
wp_X1_gather D (fun S_10 => 
∃ y_11 : Nat, sR S_10 a0 10 = some y_11 ∧ wM D S_10 y_11 ∧ sK S_10 y_11 = 6 ∧
wp_X1_number D (fun r_12 S_13 => 
post r_12 S_13) S_10 y_11) S_4 y_5 y_7 y_6) xp S_2 a0) xp S a0 x1
abbrev r_X11_continuations : Room := { frames := 8, cells := 2, slots := 12, locals := 190 }
def wp_X11_continuations (D : wD) (post : Int32 → wS → Prop) (xp : String → wS → Prop) (S : wS) (a0 : Nat) (x1 : Int32) : Prop := wp_X11_continuations_0 D post xp S a0 x1
set_option maxHeartbeats 4000000 in
set_option maxRecDepth 100000 in
theorem t_X11_continuations_0 {p : Program} {l : Launch} {e : Env} {s : State} {m : MethodId} {args : Array Value} {below : List Frame} {meth : Method} {c : Code} {D : wD} {cy : Nat → ClassId} {X : va_W} {A : Nat → Prop} {S0 : wS} {post : Int32 → wS → Prop} {xp : String → wS → Prop} (F : CallFix p m c cX11_continuations 3 s args wz_X11_continuations RX11) (hr : meth.sig.returnType = (some .int)) (hlocks : meth.locks = false) (hK : wK D cy A s) (hl0 : l.stackTraces = false) (hexc : ∀ x ∈ c.exceptionTable.toList, False) : ∀ {S : wS} {H : Heap} {locs : List Loc} {ls : Array Slot} {a0 : Nat} {x1 : Int32}, wp_X11_continuations_0 D post xp S a0 x1 → wO D cy X A s.heap S H locs → wX D S0 S → lv_has ls 3 [(0, .ref a0), (1, .int x1)] → wM D S a0 → sK S a0 = 16 → W p l e r_X11_continuations s m args below meth c H locs 0 0 (vx_MQ below (va_Qi (fun r S9 => wX D S0 S9 ∧ post r S9) (wB D cy X A) A) (wEx D cy X A (fun E S9 => wX D S0 S9 ∧ xp E S9)) args s 2 12 A) (F0 m 0 ls []) := by
  obtain ⟨hx, hb, hml, hown, hts⟩ := id F
  have hwg : ∀ w ∈ WG, w.before args s = true := fun w h => hts w (List.mem_cons_of_mem _ h)
  have i_16 : ∀ w ∈ u_ws RX11 TX11 18, w ∈ wz_X11_continuations := fun w h => List.mem_cons_of_mem _ (wu_16 w h)
  have k_28 := hwg _ wf_RX11_28
  have k_84 := hwg _ wf_RX11_84
  intro S H locs ls a0 x1 hp hW hE hl hL_a0 hK_a0
  unfold wp_X11_continuations_0 at hp
  refine lv_aload_n hx hb dX11_continuations_0 rfl (lv_at hl 0 rfl) ?_
  refine lv_iload_n hx hb dX11_continuations_1 rfl (lv_at hl 1 rfl) ?_
  refine x_callR (vx_runV (As := [.int x1]) (rest := []) F (c_X11_shelfOf l hl0 hL_a0 hK_a0 hp H.size) (cwV (C := RX11) 1 hts (wg_V wm_RX11_337 wy_X11_shelfOf) rfl rfl rfl (by decide +kernel) ⟨Nat.le_of_ble_eq_true rfl, Nat.le_of_ble_eq_true rfl⟩) (w_preV hK hW hL_a0 hK_a0 (by decide) rfl) rfl rfl hl.1 rfl (lv_room (Nat.le_of_ble_eq_true rfl)) dX11_continuations_2 ⟨Nat.le_of_ble_eq_true rfl, Nat.le_of_ble_eq_true rfl⟩) hW (fun E ce q9 S9 H locs hp hW h1 h2 h3 => x_out hexc hlocks ⟨hE.trans hp.1, hp.2⟩ hW h1 h2 h3 (by decide) (by decide)) (fun r_1 S_2 H locs hp hW => ?_)
  obtain ⟨hX_S_2, hp⟩ := hp
  refine W.widen (k := 1) (n := 6) (by decide) (by decide) ?_
  have hE := hE.trans hX_S_2
  have hK_a0 : sK S_2 a0 = 16 := (hX_S_2.2 a0 hL_a0).1.trans hK_a0
  have hL_a0 : wM D S_2 a0 := hX_S_2.M hL_a0
  refine w_astore_n (lv' := [(2, va_rf r_1), (0, .ref a0), (1, .int x1)]) hx hb dX11_continuations_5 rfl hl (by decide) rfl (fun ls hl => ?_)
  refine lv_aload_n hx hb dX11_continuations_6 rfl (lv_at hl 1 rfl) ?_
  refine x_callV (vx_runV (As := []) (rest := []) F (c_X11_mustBeLawful l hl0 hL_a0 hK_a0 hp H.size) (cwV (C := RX11) 0 hts (wg_V wm_RX11_217 wy_X11_mustBeLawful) rfl rfl rfl (by decide +kernel) ⟨Nat.le_of_ble_eq_true rfl, Nat.le_of_ble_eq_true rfl⟩) (w_preV hK hW hL_a0 hK_a0 (by decide) rfl) rfl rfl hl.1 rfl (lv_room (Nat.le_of_ble_eq_true rfl)) dX11_continuations_7 ⟨Nat.le_of_ble_eq_true rfl, Nat.le_of_ble_eq_true rfl⟩) hW (fun E ce q9 S9 H locs hp hW h1 h2 h3 => x_out hexc hlocks ⟨hE.trans hp.1, hp.2⟩ hW h1 h2 h3 (by decide) (by decide)) (fun S_4 H locs hp hW => ?_)
  obtain ⟨hX_S_4, hp⟩ := hp
  refine W.widen (k := 2) (n := 12) (by decide) (by decide) ?_
  have hE := hE.trans hX_S_4
  have hK_a0 : sK S_4 a0 = 16 := (hX_S_4.2 a0 hL_a0).1.trans hK_a0
  have hL_a0 : wM D S_4 a0 := hX_S_4.M hL_a0
  refine lv_aload_n hx hb dX11_continuations_10 rfl (lv_at hl 1 rfl) ?_
  obtain ⟨y_5, ey_5, hL_y_5, hK_y_5, hp⟩ := hp
  refine w_get (k := 16) (f := 10) (T := TX11) (v := .ref y_5) F hK hW hL_a0 hK_a0 (by decide) rfl rfl (by decide) i_16 k_84 (by rw [show wv 16 10 S_4 a0 = va_rf (sR S_4 a0 10) from rfl, ey_5]; rfl) dX11_continuations_11 ?_
  refine w_aload_n hx hb dX11_continuations_14 rfl (lv_at hl 0 rfl) ?_
  refine lv_aload_n hx hb dX11_continuations_15 rfl (lv_at hl 1 rfl) ?_
  obtain ⟨y_6, ey_6, hL_y_6, hK_y_6, hp⟩ := hp
  refine w_get (k := 16) (f := 2) (T := TX11) (v := .ref y_6) F hK hW hL_a0 hK_a0 (by decide) rfl rfl (by decide) i_16 k_28 (by rw [show wv 16 2 S_4 a0 = va_rf (sR S_4 a0 2) from rfl, ey_6]; rfl) dX11_continuations_16 ?_
  obtain ⟨y_7, h_8, hL_y_7, hK_y_7, hp⟩ := hp
  revert hp; revert hl; revert hW; revert hE; subst h_8; intro hE hW hl hp
  refine w_callV (va_runV (As := [.ref y_7, .ref y_6]) (rest := []) F (c_X1_gather l hL_y_5 hK_y_5 hL_y_7 hK_y_7 hL_y_6 hK_y_6 hp H.size) (cwV (C := RX1) 2 hts (wg_V wm_RX11_384 wy_X1_gather) rfl rfl rfl (by decide +kernel) ⟨Nat.le_of_ble_eq_true rfl, Nat.le_of_ble_eq_true rfl⟩) (w_preV hK hW hL_y_5 hK_y_5 (by decide) rfl) rfl rfl hl.1 rfl (lv_room (Nat.le_of_ble_eq_true rfl)) dX11_continuations_19 ⟨Nat.le_of_ble_eq_true rfl, Nat.le_of_ble_eq_true rfl⟩) hW (fun S_10 H locs hp hW => ?_)
  obtain ⟨hX_S_10, hp⟩ := hp
  refine W.widen (k := 2) (n := 12) (by decide) (by decide) ?_
  have hE := hE.trans hX_S_10
  have hK_a0 : sK S_10 a0 = 16 := (hX_S_10.2 a0 hL_a0).1.trans hK_a0
  have hL_a0 : wM D S_10 a0 := hX_S_10.M hL_a0
  have hK_y_7 : sK S_10 y_7 = 15 := (hX_S_10.2 y_7 hL_y_7).1.trans hK_y_7
  have hL_y_7 : wM D S_10 y_7 := hX_S_10.M hL_y_7
  refine lv_aload_n hx hb dX11_continuations_22 rfl (lv_at hl 1 rfl) ?_
  obtain ⟨y_11, ey_11, hL_y_11, hK_y_11, hp⟩ := hp
  refine w_get (k := 16) (f := 10) (T := TX11) (v := .ref y_11) F hK hW hL_a0 hK_a0 (by decide) rfl rfl (by decide) i_16 k_84 (by rw [show wv 16 10 S_10 a0 = va_rf (sR S_10 a0 10) from rfl, ey_11]; rfl) dX11_continuations_23 ?_
  refine w_callI (va_runV (As := []) (rest := []) F (c_X1_number l hL_y_11 hK_y_11 hp H.size) (cwV (C := RX1) 0 hts (wg_V wm_RX11_388 wy_X1_number) rfl rfl rfl (by decide +kernel) ⟨Nat.le_of_ble_eq_true rfl, Nat.le_of_ble_eq_true rfl⟩) (w_preV hK hW hL_y_11 hK_y_11 (by decide) rfl) rfl rfl hl.1 rfl (lv_room (Nat.le_of_ble_eq_true rfl)) dX11_continuations_26 ⟨Nat.le_of_ble_eq_true rfl, Nat.le_of_ble_eq_true rfl⟩) hW (fun r_12 S_13 H locs hp hW => ?_)
  obtain ⟨hX_S_13, hp⟩ := hp
  refine W.widen (k := 2) (n := 12) (by decide) (by decide) ?_
  have hE := hE.trans hX_S_13
  have hK_a0 : sK S_13 a0 = 16 := (hX_S_13.2 a0 hL_a0).1.trans hK_a0
  have hL_a0 : wM D S_13 a0 := hX_S_13.M hL_a0
  have hK_y_7 : sK S_13 y_7 = 15 := (hX_S_13.2 y_7 hL_y_7).1.trans hK_y_7
  have hL_y_7 : wM D S_13 y_7 := hX_S_13.M hL_y_7
  refine vx_ret ?_
  exact w_iret hx hb hr hlocks hW ⟨hE, hp⟩ dX11_continuations_29
set_option maxHeartbeats 4000000 in
set_option maxRecDepth 100000 in
theorem c_X11_continuations (l : Launch) {D : wD} {cy : Nat → ClassId} {X : va_W} {S0 : wS} {post : Int32 → wS → Prop} {xp : String → wS → Prop} (hl0 : l.stackTraces = false) {a0 : Nat} {x1 : Int32} (hL_a0 : wM D S0 a0) (hK_a0 : sK S0 a0 = 16) (hp : wp_X11_continuations D post xp S0 a0 x1) : xI D cy X l yX11_continuations wz_X11_continuations r_X11_continuations [.ref a0, .int x1] S0 (fun r S9 => wX D S0 S9 ∧ post r S9) (fun E S9 => wX D S0 S9 ∧ xp E S9) := by
  intro sz
  refine vx_ofW (cc := cX11_continuations) (maxL := 3) (ret := (some .int)) (by decide) rfl ?_
  intro p e s m args below meth c s₁ B hml hexc hv
  obtain ⟨rfl, hsz, hP, hK, hD0, hRO⟩ := hv
  have hts := atoms_spec (ws := wz_X11_continuations) B.pre
  have hown : s.vm.findClass RX11 = some m.cls := findClass_of_methodNamed B.named
  subst hsz
  have hD := hD0.self (sz := s.heap.size)
  have F : CallFix p m c cX11_continuations 3 s _ wz_X11_continuations RX11 := ⟨B.exec, B.bytes, hml, hown, hts⟩
  have hr := B.returns
  have hlocks := B.notSynchronized
  generalize hAe : va_A (wL cy X S0) s.heap.size = A at hD hK ⊢
  have hA : ∀ q, s.heap.size ≤ q → A q := fun q h => by rw [← hAe]; exact Or.inr h
  have hW : wO D cy X A s.heap S0 s.heap [] := ⟨hP, hD, va_S.rf, hA, hRO⟩
  have hl := lv_entry ([.ref a0, .int x1]) (n := 3) (Nat.le_of_ble_eq_true rfl)
  rw [lg_entry_eq]
  generalize (lg_sl ([.ref a0, .int x1]) ++ List.replicate (3 - (lg_sl ([.ref a0, .int x1])).length) Slot.unset).toArray = ls at hl ⊢
  have hl : lv_has ls 3 [(0, .ref a0), (1, .int x1)] := hl
  unfold wp_X11_continuations at hp
  exact t_X11_continuations_0 F hr hlocks hK hl0 hexc hp hW wX.rf (lv_sub hl [0, 1] rfl) hL_a0 hK_a0
def wp_X11_count_0 (D : wD) (post : Int32 → wS → Prop) (xp : String → wS → Prop)  (S : wS) (a0 : Nat) (x1 : Int32) : Prop :=
wp_X11_shelfOf D (fun r_1 S_2 => 
∃ y_3 : Nat, sR S_2 a0 2 = some y_3 ∧ wM D S_2 y_3 ∧ sK S_2 y_3 = 12 ∧
∃ y_4 : Nat, r_1 = some y_4 ∧ wM D S_2 y_4 ∧ sK S_2 y_4 = 15 ∧
wp_X10_passing D (fun r_6 S_7 => 
post r_6 S_7) S_2 y_4 y_3 (-1 : Int32)) xp S a0 x1
abbrev r_X11_count : Room := { frames := 7, cells := 1, slots := 6, locals := 141 }
def wp_X11_count (D : wD) (post : Int32 → wS → Prop) (xp : String → wS → Prop) (S : wS) (a0 : Nat) (x1 : Int32) : Prop := wp_X11_count_0 D post xp S a0 x1
set_option maxHeartbeats 4000000 in
set_option maxRecDepth 100000 in
theorem t_X11_count_0 {p : Program} {l : Launch} {e : Env} {s : State} {m : MethodId} {args : Array Value} {below : List Frame} {meth : Method} {c : Code} {D : wD} {cy : Nat → ClassId} {X : va_W} {A : Nat → Prop} {S0 : wS} {post : Int32 → wS → Prop} {xp : String → wS → Prop} (F : CallFix p m c cX11_count 2 s args wz_X11_count RX11) (hr : meth.sig.returnType = (some .int)) (hlocks : meth.locks = false) (hK : wK D cy A s) (hl0 : l.stackTraces = false) (hexc : ∀ x ∈ c.exceptionTable.toList, False) : ∀ {S : wS} {H : Heap} {locs : List Loc} {ls : Array Slot} {a0 : Nat} {x1 : Int32}, wp_X11_count_0 D post xp S a0 x1 → wO D cy X A s.heap S H locs → wX D S0 S → lv_has ls 2 [(0, .ref a0), (1, .int x1)] → wM D S a0 → sK S a0 = 16 → W p l e r_X11_count s m args below meth c H locs 0 0 (vx_MQ below (va_Qi (fun r S9 => wX D S0 S9 ∧ post r S9) (wB D cy X A) A) (wEx D cy X A (fun E S9 => wX D S0 S9 ∧ xp E S9)) args s 1 6 A) (F0 m 0 ls []) := by
  obtain ⟨hx, hb, hml, hown, hts⟩ := id F
  have hwg : ∀ w ∈ WG, w.before args s = true := fun w h => hts w (List.mem_cons_of_mem _ h)
  have i_16 : ∀ w ∈ u_ws RX11 TX11 18, w ∈ wz_X11_count := fun w h => List.mem_cons_of_mem _ (wu_16 w h)
  have k_28 := hwg _ wf_RX11_28
  intro S H locs ls a0 x1 hp hW hE hl hL_a0 hK_a0
  unfold wp_X11_count_0 at hp
  refine lv_aload_n hx hb dX11_count_0 rfl (lv_at hl 0 rfl) ?_
  refine lv_iload_n hx hb dX11_count_1 rfl (lv_at hl 1 rfl) ?_
  refine x_callR (vx_runV (As := [.int x1]) (rest := []) F (c_X11_shelfOf l hl0 hL_a0 hK_a0 hp H.size) (cwV (C := RX11) 1 hts (wg_V wm_RX11_337 wy_X11_shelfOf) rfl rfl rfl (by decide +kernel) ⟨Nat.le_of_ble_eq_true rfl, Nat.le_of_ble_eq_true rfl⟩) (w_preV hK hW hL_a0 hK_a0 (by decide) rfl) rfl rfl hl.1 rfl (lv_room (Nat.le_of_ble_eq_true rfl)) dX11_count_2 ⟨Nat.le_of_ble_eq_true rfl, Nat.le_of_ble_eq_true rfl⟩) hW (fun E ce q9 S9 H locs hp hW h1 h2 h3 => x_out hexc hlocks ⟨hE.trans hp.1, hp.2⟩ hW h1 h2 h3 (by decide) (by decide)) (fun r_1 S_2 H locs hp hW => ?_)
  obtain ⟨hX_S_2, hp⟩ := hp
  refine W.widen (k := 1) (n := 6) (by decide) (by decide) ?_
  have hE := hE.trans hX_S_2
  have hK_a0 : sK S_2 a0 = 16 := (hX_S_2.2 a0 hL_a0).1.trans hK_a0
  have hL_a0 : wM D S_2 a0 := hX_S_2.M hL_a0
  refine lv_aload_n hx hb dX11_count_5 rfl (lv_at hl 0 rfl) ?_
  obtain ⟨y_3, ey_3, hL_y_3, hK_y_3, hp⟩ := hp
  refine w_get (k := 16) (f := 2) (T := TX11) (v := .ref y_3) F hK hW hL_a0 hK_a0 (by decide) rfl rfl (by decide) i_16 k_28 (by rw [show wv 16 2 S_2 a0 = va_rf (sR S_2 a0 2) from rfl, ey_3]; rfl) dX11_count_6 ?_
  refine lv_iconst (v := (-1)) hx hb dX11_count_9 (by decide) ?_
  obtain ⟨y_4, h_5, hL_y_4, hK_y_4, hp⟩ := hp
  revert hp; revert hl; revert hW; revert hE; subst h_5; intro hE hW hl hp
  refine w_callI (va_runV (As := [.ref y_3, .int (-1 : Int32)]) (rest := []) F (c_X10_passing l hL_y_4 hK_y_4 hL_y_3 hK_y_3 hp H.size) (cwV (C := RX10) 2 hts (wg_V wm_RX11_362 wy_X10_passing) rfl rfl rfl (by decide +kernel) ⟨Nat.le_of_ble_eq_true rfl, Nat.le_of_ble_eq_true rfl⟩) (w_preV hK hW hL_y_4 hK_y_4 (by decide) rfl) rfl rfl hl.1 rfl (lv_room (Nat.le_of_ble_eq_true rfl)) dX11_count_10 ⟨Nat.le_of_ble_eq_true rfl, Nat.le_of_ble_eq_true rfl⟩) hW (fun r_6 S_7 H locs hp hW => ?_)
  obtain ⟨hX_S_7, hp⟩ := hp
  refine W.widen (k := 1) (n := 6) (by decide) (by decide) ?_
  have hE := hE.trans hX_S_7
  have hK_a0 : sK S_7 a0 = 16 := (hX_S_7.2 a0 hL_a0).1.trans hK_a0
  have hL_a0 : wM D S_7 a0 := hX_S_7.M hL_a0
  refine vx_ret ?_
  exact w_iret hx hb hr hlocks hW ⟨hE, hp⟩ dX11_count_13
set_option maxHeartbeats 4000000 in
set_option maxRecDepth 100000 in
theorem c_X11_count (l : Launch) {D : wD} {cy : Nat → ClassId} {X : va_W} {S0 : wS} {post : Int32 → wS → Prop} {xp : String → wS → Prop} (hl0 : l.stackTraces = false) {a0 : Nat} {x1 : Int32} (hL_a0 : wM D S0 a0) (hK_a0 : sK S0 a0 = 16) (hp : wp_X11_count D post xp S0 a0 x1) : xI D cy X l yX11_count wz_X11_count r_X11_count [.ref a0, .int x1] S0 (fun r S9 => wX D S0 S9 ∧ post r S9) (fun E S9 => wX D S0 S9 ∧ xp E S9) := by
  intro sz
  refine vx_ofW (cc := cX11_count) (maxL := 2) (ret := (some .int)) (by decide) rfl ?_
  intro p e s m args below meth c s₁ B hml hexc hv
  obtain ⟨rfl, hsz, hP, hK, hD0, hRO⟩ := hv
  have hts := atoms_spec (ws := wz_X11_count) B.pre
  have hown : s.vm.findClass RX11 = some m.cls := findClass_of_methodNamed B.named
  subst hsz
  have hD := hD0.self (sz := s.heap.size)
  have F : CallFix p m c cX11_count 2 s _ wz_X11_count RX11 := ⟨B.exec, B.bytes, hml, hown, hts⟩
  have hr := B.returns
  have hlocks := B.notSynchronized
  generalize hAe : va_A (wL cy X S0) s.heap.size = A at hD hK ⊢
  have hA : ∀ q, s.heap.size ≤ q → A q := fun q h => by rw [← hAe]; exact Or.inr h
  have hW : wO D cy X A s.heap S0 s.heap [] := ⟨hP, hD, va_S.rf, hA, hRO⟩
  have hl := lv_entry ([.ref a0, .int x1]) (n := 2) (Nat.le_of_ble_eq_true rfl)
  rw [lg_entry_eq]
  generalize (lg_sl ([.ref a0, .int x1]) ++ List.replicate (2 - (lg_sl ([.ref a0, .int x1])).length) Slot.unset).toArray = ls at hl ⊢
  have hl : lv_has ls 2 [(0, .ref a0), (1, .int x1)] := hl
  unfold wp_X11_count at hp
  exact t_X11_count_0 F hr hlocks hK hl0 hexc hp hW wX.rf (lv_sub hl [0, 1] rfl) hL_a0 hK_a0
def wp_X11_countWith_15 (D : wD) (post : Int32 → wS → Prop) (xp : String → wS → Prop)  (S : wS) : Prop :=
xp "java/lang/IllegalArgumentException" S
def wp_X11_countWith_0 (D : wD) (post : Int32 → wS → Prop) (xp : String → wS → Prop)  (S : wS) (a0 : Nat) (x1 : Int32) (x2 : Int32) : Prop :=
wp_X11_shelfOf D (fun r_1 S_2 => 
((x2 < 0 → wp_X11_countWith_15 D post xp S_2) ∧
 (¬ x2 < 0 → ((x2 ≤ (2 : Int32) → ∃ y_5 : Nat, sR S_2 a0 2 = some y_5 ∧ wM D S_2 y_5 ∧ sK S_2 y_5 = 12 ∧
∃ y_6 : Nat, r_1 = some y_6 ∧ wM D S_2 y_6 ∧ sK S_2 y_6 = 15 ∧
wp_X10_passing D (fun r_8 S_9 => 
post r_8 S_9) S_2 y_6 y_5 x2) ∧
 (¬ x2 ≤ (2 : Int32) → wp_X11_countWith_15 D post xp S_2))))) xp S a0 x1
abbrev r_X11_countWith : Room := { frames := 7, cells := 2, slots := 12, locals := 141 }
def wp_X11_countWith (D : wD) (post : Int32 → wS → Prop) (xp : String → wS → Prop) (S : wS) (a0 : Nat) (x1 : Int32) (x2 : Int32) : Prop := wp_X11_countWith_0 D post xp S a0 x1 x2
set_option maxHeartbeats 4000000 in
set_option maxRecDepth 100000 in
theorem t_X11_countWith_15 {p : Program} {l : Launch} {e : Env} {s : State} {m : MethodId} {args : Array Value} {below : List Frame} {meth : Method} {c : Code} {D : wD} {cy : Nat → ClassId} {X : va_W} {A : Nat → Prop} {S0 : wS} {post : Int32 → wS → Prop} {xp : String → wS → Prop} (F : CallFix p m c cX11_countWith 4 s args wz_X11_countWith RX11) (hr : meth.sig.returnType = (some .int)) (hlocks : meth.locks = false) (hK : wK D cy A s) (hl0 : l.stackTraces = false) (hexc : ∀ x ∈ c.exceptionTable.toList, False) : ∀ {S : wS} {H : Heap} {locs : List Loc} {ls : Array Slot}, wp_X11_countWith_15 D post xp S → wO D cy X A s.heap S H locs → wX D S0 S → lv_has ls 4 [] → W p l e r_X11_countWith s m args below meth c H locs 1 6 (vx_MQ below (va_Qi (fun r S9 => wX D S0 S9 ∧ post r S9) (wB D cy X A) A) (wEx D cy X A (fun E S9 => wX D S0 S9 ∧ xp E S9)) args s 2 12 A) (F0 m 15 ls []) := by
  obtain ⟨hx, hb, hml, hown, hts⟩ := id F
  have hwg : ∀ w ∈ WG, w.before args s = true := fun w h => hts w (List.mem_cons_of_mem _ h)
  intro S H locs ls hp hW hE hl
  unfold wp_X11_countWith_15 at hp
  exact x_throwW (ls := ls) F hK hW hl0 (by decide) (hwg _ wc_RX11_140) (hwg _ wi_java_lang_IllegalArgumentException) (show ("OpeningsCabinet", 364, "a result is 0 to 2", 35) ∈ wStr by decide +kernel) (wa_RX11_144 hwg hK.2.1) wa_RX11_144_ok hl.1 hexc hlocks dX11_countWith_15 dX11_countWith_18 dX11_countWith_19 dX11_countWith_22 dX11_countWith_25 (Nat.le_of_ble_eq_true rfl) (Nat.le_of_ble_eq_true rfl) (Nat.le_of_ble_eq_true rfl) (Nat.le_of_ble_eq_true rfl) (by decide) (by decide) ⟨hE, hp⟩
set_option maxHeartbeats 4000000 in
set_option maxRecDepth 100000 in
theorem t_X11_countWith_0 {p : Program} {l : Launch} {e : Env} {s : State} {m : MethodId} {args : Array Value} {below : List Frame} {meth : Method} {c : Code} {D : wD} {cy : Nat → ClassId} {X : va_W} {A : Nat → Prop} {S0 : wS} {post : Int32 → wS → Prop} {xp : String → wS → Prop} (F : CallFix p m c cX11_countWith 4 s args wz_X11_countWith RX11) (hr : meth.sig.returnType = (some .int)) (hlocks : meth.locks = false) (hK : wK D cy A s) (hl0 : l.stackTraces = false) (hexc : ∀ x ∈ c.exceptionTable.toList, False) : ∀ {S : wS} {H : Heap} {locs : List Loc} {ls : Array Slot} {a0 : Nat} {x1 : Int32} {x2 : Int32}, wp_X11_countWith_0 D post xp S a0 x1 x2 → wO D cy X A s.heap S H locs → wX D S0 S → lv_has ls 4 [(0, .ref a0), (1, .int x1), (2, .int x2)] → wM D S a0 → sK S a0 = 16 → W p l e r_X11_countWith s m args below meth c H locs 0 0 (vx_MQ below (va_Qi (fun r S9 => wX D S0 S9 ∧ post r S9) (wB D cy X A) A) (wEx D cy X A (fun E S9 => wX D S0 S9 ∧ xp E S9)) args s 2 12 A) (F0 m 0 ls []) := by
  obtain ⟨hx, hb, hml, hown, hts⟩ := id F
  have hwg : ∀ w ∈ WG, w.before args s = true := fun w h => hts w (List.mem_cons_of_mem _ h)
  have i_16 : ∀ w ∈ u_ws RX11 TX11 18, w ∈ wz_X11_countWith := fun w h => List.mem_cons_of_mem _ (wu_16 w h)
  have k_28 := hwg _ wf_RX11_28
  intro S H locs ls a0 x1 x2 hp hW hE hl hL_a0 hK_a0
  unfold wp_X11_countWith_0 at hp
  refine lv_aload_n hx hb dX11_countWith_0 rfl (lv_at hl 0 rfl) ?_
  refine lv_iload_n hx hb dX11_countWith_1 rfl (lv_at hl 1 rfl) ?_
  refine x_callR (vx_runV (As := [.int x1]) (rest := []) F (c_X11_shelfOf l hl0 hL_a0 hK_a0 hp H.size) (cwV (C := RX11) 1 hts (wg_V wm_RX11_337 wy_X11_shelfOf) rfl rfl rfl (by decide +kernel) ⟨Nat.le_of_ble_eq_true rfl, Nat.le_of_ble_eq_true rfl⟩) (w_preV hK hW hL_a0 hK_a0 (by decide) rfl) rfl rfl hl.1 rfl (lv_room (Nat.le_of_ble_eq_true rfl)) dX11_countWith_2 ⟨Nat.le_of_ble_eq_true rfl, Nat.le_of_ble_eq_true rfl⟩) hW (fun E ce q9 S9 H locs hp hW h1 h2 h3 => x_out hexc hlocks ⟨hE.trans hp.1, hp.2⟩ hW h1 h2 h3 (by decide) (by decide)) (fun r_1 S_2 H locs hp hW => ?_)
  obtain ⟨hX_S_2, hp⟩ := hp
  refine W.widen (k := 1) (n := 6) (by decide) (by decide) ?_
  have hE := hE.trans hX_S_2
  have hK_a0 : sK S_2 a0 = 16 := (hX_S_2.2 a0 hL_a0).1.trans hK_a0
  have hL_a0 : wM D S_2 a0 := hX_S_2.M hL_a0
  refine w_astore_n (lv' := [(3, va_rf r_1), (0, .ref a0), (1, .int x1), (2, .int x2)]) hx hb dX11_countWith_5 rfl hl (by decide) rfl (fun ls hl => ?_)
  refine lv_iload_n hx hb dX11_countWith_6 rfl (lv_at hl 3 rfl) ?_
  refine lv_if_lt (tgt := 15) hx hb dX11_countWith_7 (by decide) (fun c_3 => ?_) (fun c_3 => ?_)
  · replace hp := hp.1 c_3
    exact t_X11_countWith_15 F hr hlocks hK hl0 hexc hp hW hE (lv_sub hl [] rfl)
  · replace hp := hp.2 c_3
    refine lv_iload_n hx hb dX11_countWith_10 rfl (lv_at hl 3 rfl) ?_
    refine lv_iconst (v := 2) hx hb dX11_countWith_11 (by decide) ?_
    refine lv_icmp_le (tgt := 26) hx hb dX11_countWith_12 (by decide) (fun c_4 => ?_) (fun c_4 => ?_)
    · replace hp := hp.1 c_4
      refine w_aload_n hx hb dX11_countWith_26 rfl (lv_at hl 0 rfl) ?_
      refine lv_aload_n hx hb dX11_countWith_27 rfl (lv_at hl 1 rfl) ?_
      obtain ⟨y_5, ey_5, hL_y_5, hK_y_5, hp⟩ := hp
      refine w_get (k := 16) (f := 2) (T := TX11) (v := .ref y_5) F hK hW hL_a0 hK_a0 (by decide) rfl rfl (by decide) i_16 k_28 (by rw [show wv 16 2 S_2 a0 = va_rf (sR S_2 a0 2) from rfl, ey_5]; rfl) dX11_countWith_28 ?_
      refine lv_iload_n hx hb dX11_countWith_31 rfl (lv_at hl 3 rfl) ?_
      obtain ⟨y_6, h_7, hL_y_6, hK_y_6, hp⟩ := hp
      revert hp; revert hl; revert hW; revert hE; subst h_7; intro hE hW hl hp
      refine w_callI (va_runV (As := [.ref y_5, .int x2]) (rest := []) F (c_X10_passing l hL_y_6 hK_y_6 hL_y_5 hK_y_5 hp H.size) (cwV (C := RX10) 2 hts (wg_V wm_RX11_362 wy_X10_passing) rfl rfl rfl (by decide +kernel) ⟨Nat.le_of_ble_eq_true rfl, Nat.le_of_ble_eq_true rfl⟩) (w_preV hK hW hL_y_6 hK_y_6 (by decide) rfl) rfl rfl hl.1 rfl (lv_room (Nat.le_of_ble_eq_true rfl)) dX11_countWith_32 ⟨Nat.le_of_ble_eq_true rfl, Nat.le_of_ble_eq_true rfl⟩) hW (fun r_8 S_9 H locs hp hW => ?_)
      obtain ⟨hX_S_9, hp⟩ := hp
      refine W.widen (k := 1) (n := 6) (by decide) (by decide) ?_
      have hE := hE.trans hX_S_9
      have hK_a0 : sK S_9 a0 = 16 := (hX_S_9.2 a0 hL_a0).1.trans hK_a0
      have hL_a0 : wM D S_9 a0 := hX_S_9.M hL_a0
      have hK_y_6 : sK S_9 y_6 = 15 := (hX_S_9.2 y_6 hL_y_6).1.trans hK_y_6
      have hL_y_6 : wM D S_9 y_6 := hX_S_9.M hL_y_6
      refine W.widen (k := 2) (n := 12) (by decide) (by decide) ?_
      refine vx_ret ?_
      exact w_iret hx hb hr hlocks hW ⟨hE, hp⟩ dX11_countWith_35
    · replace hp := hp.2 c_4
      exact t_X11_countWith_15 F hr hlocks hK hl0 hexc hp hW hE (lv_sub hl [] rfl)
set_option maxHeartbeats 4000000 in
set_option maxRecDepth 100000 in
theorem c_X11_countWith (l : Launch) {D : wD} {cy : Nat → ClassId} {X : va_W} {S0 : wS} {post : Int32 → wS → Prop} {xp : String → wS → Prop} (hl0 : l.stackTraces = false) {a0 : Nat} {x1 : Int32} {x2 : Int32} (hL_a0 : wM D S0 a0) (hK_a0 : sK S0 a0 = 16) (hp : wp_X11_countWith D post xp S0 a0 x1 x2) : xI D cy X l yX11_countWith wz_X11_countWith r_X11_countWith [.ref a0, .int x1, .int x2] S0 (fun r S9 => wX D S0 S9 ∧ post r S9) (fun E S9 => wX D S0 S9 ∧ xp E S9) := by
  intro sz
  refine vx_ofW (cc := cX11_countWith) (maxL := 4) (ret := (some .int)) (by decide) rfl ?_
  intro p e s m args below meth c s₁ B hml hexc hv
  obtain ⟨rfl, hsz, hP, hK, hD0, hRO⟩ := hv
  have hts := atoms_spec (ws := wz_X11_countWith) B.pre
  have hown : s.vm.findClass RX11 = some m.cls := findClass_of_methodNamed B.named
  subst hsz
  have hD := hD0.self (sz := s.heap.size)
  have F : CallFix p m c cX11_countWith 4 s _ wz_X11_countWith RX11 := ⟨B.exec, B.bytes, hml, hown, hts⟩
  have hr := B.returns
  have hlocks := B.notSynchronized
  generalize hAe : va_A (wL cy X S0) s.heap.size = A at hD hK ⊢
  have hA : ∀ q, s.heap.size ≤ q → A q := fun q h => by rw [← hAe]; exact Or.inr h
  have hW : wO D cy X A s.heap S0 s.heap [] := ⟨hP, hD, va_S.rf, hA, hRO⟩
  have hl := lv_entry ([.ref a0, .int x1, .int x2]) (n := 4) (Nat.le_of_ble_eq_true rfl)
  rw [lg_entry_eq]
  generalize (lg_sl ([.ref a0, .int x1, .int x2]) ++ List.replicate (4 - (lg_sl ([.ref a0, .int x1, .int x2])).length) Slot.unset).toArray = ls at hl ⊢
  have hl : lv_has ls 4 [(0, .ref a0), (1, .int x1), (2, .int x2)] := hl
  unfold wp_X11_countWith at hp
  exact t_X11_countWith_0 F hr hlocks hK hl0 hexc hp hW wX.rf (lv_sub hl [0, 1, 2] rfl) hL_a0 hK_a0
def wp_X11_countYears_0 (D : wD) (post : Int32 → wS → Prop) (xp : String → wS → Prop)  (S : wS) (a0 : Nat) (x1 : Int32) (x2 : Int32) (x3 : Int32) : Prop :=
wp_X11_shelfOf D (fun r_1 S_2 => 
((x2 ≤ x3 → ∃ y_4 : Nat, sR S_2 a0 2 = some y_4 ∧ wM D S_2 y_4 ∧ sK S_2 y_4 = 12 ∧
∃ y_5 : Nat, r_1 = some y_5 ∧ wM D S_2 y_5 ∧ sK S_2 y_5 = 15 ∧
wp_X10_passingInYears D (fun r_7 S_8 => 
post r_7 S_8) S_2 y_5 y_4 x2 x3) ∧
 (¬ x2 ≤ x3 → xp "java/lang/IllegalArgumentException" S_2))) xp S a0 x1
abbrev r_X11_countYears : Room := { frames := 7, cells := 2, slots := 12, locals := 141 }
def wp_X11_countYears (D : wD) (post : Int32 → wS → Prop) (xp : String → wS → Prop) (S : wS) (a0 : Nat) (x1 : Int32) (x2 : Int32) (x3 : Int32) : Prop := wp_X11_countYears_0 D post xp S a0 x1 x2 x3
set_option maxHeartbeats 4000000 in
set_option maxRecDepth 100000 in
theorem t_X11_countYears_0 {p : Program} {l : Launch} {e : Env} {s : State} {m : MethodId} {args : Array Value} {below : List Frame} {meth : Method} {c : Code} {D : wD} {cy : Nat → ClassId} {X : va_W} {A : Nat → Prop} {S0 : wS} {post : Int32 → wS → Prop} {xp : String → wS → Prop} (F : CallFix p m c cX11_countYears 5 s args wz_X11_countYears RX11) (hr : meth.sig.returnType = (some .int)) (hlocks : meth.locks = false) (hK : wK D cy A s) (hl0 : l.stackTraces = false) (hexc : ∀ x ∈ c.exceptionTable.toList, False) : ∀ {S : wS} {H : Heap} {locs : List Loc} {ls : Array Slot} {a0 : Nat} {x1 : Int32} {x2 : Int32} {x3 : Int32}, wp_X11_countYears_0 D post xp S a0 x1 x2 x3 → wO D cy X A s.heap S H locs → wX D S0 S → lv_has ls 5 [(0, .ref a0), (1, .int x1), (2, .int x2), (3, .int x3)] → wM D S a0 → sK S a0 = 16 → W p l e r_X11_countYears s m args below meth c H locs 0 0 (vx_MQ below (va_Qi (fun r S9 => wX D S0 S9 ∧ post r S9) (wB D cy X A) A) (wEx D cy X A (fun E S9 => wX D S0 S9 ∧ xp E S9)) args s 2 12 A) (F0 m 0 ls []) := by
  obtain ⟨hx, hb, hml, hown, hts⟩ := id F
  have hwg : ∀ w ∈ WG, w.before args s = true := fun w h => hts w (List.mem_cons_of_mem _ h)
  have i_16 : ∀ w ∈ u_ws RX11 TX11 18, w ∈ wz_X11_countYears := fun w h => List.mem_cons_of_mem _ (wu_16 w h)
  have k_28 := hwg _ wf_RX11_28
  intro S H locs ls a0 x1 x2 x3 hp hW hE hl hL_a0 hK_a0
  unfold wp_X11_countYears_0 at hp
  refine lv_aload_n hx hb dX11_countYears_0 rfl (lv_at hl 0 rfl) ?_
  refine lv_iload_n hx hb dX11_countYears_1 rfl (lv_at hl 1 rfl) ?_
  refine x_callR (vx_runV (As := [.int x1]) (rest := []) F (c_X11_shelfOf l hl0 hL_a0 hK_a0 hp H.size) (cwV (C := RX11) 1 hts (wg_V wm_RX11_337 wy_X11_shelfOf) rfl rfl rfl (by decide +kernel) ⟨Nat.le_of_ble_eq_true rfl, Nat.le_of_ble_eq_true rfl⟩) (w_preV hK hW hL_a0 hK_a0 (by decide) rfl) rfl rfl hl.1 rfl (lv_room (Nat.le_of_ble_eq_true rfl)) dX11_countYears_2 ⟨Nat.le_of_ble_eq_true rfl, Nat.le_of_ble_eq_true rfl⟩) hW (fun E ce q9 S9 H locs hp hW h1 h2 h3 => x_out hexc hlocks ⟨hE.trans hp.1, hp.2⟩ hW h1 h2 h3 (by decide) (by decide)) (fun r_1 S_2 H locs hp hW => ?_)
  obtain ⟨hX_S_2, hp⟩ := hp
  refine W.widen (k := 1) (n := 6) (by decide) (by decide) ?_
  have hE := hE.trans hX_S_2
  have hK_a0 : sK S_2 a0 = 16 := (hX_S_2.2 a0 hL_a0).1.trans hK_a0
  have hL_a0 : wM D S_2 a0 := hX_S_2.M hL_a0
  refine w_astore (lv' := [(4, va_rf r_1), (0, .ref a0), (1, .int x1), (2, .int x2), (3, .int x3)]) hx hb dX11_countYears_5 hl (by decide) rfl (fun ls hl => ?_)
  refine lv_iload_n hx hb dX11_countYears_7 rfl (lv_at hl 3 rfl) ?_
  refine lv_iload_n hx hb dX11_countYears_8 rfl (lv_at hl 4 rfl) ?_
  refine lv_icmp_le (tgt := 23) hx hb dX11_countYears_9 (by decide) (fun c_3 => ?_) (fun c_3 => ?_)
  · replace hp := hp.1 c_3
    refine w_aload hx hb dX11_countYears_23 (lv_at hl 0 rfl) ?_
    refine lv_aload_n hx hb dX11_countYears_25 rfl (lv_at hl 1 rfl) ?_
    obtain ⟨y_4, ey_4, hL_y_4, hK_y_4, hp⟩ := hp
    refine w_get (k := 16) (f := 2) (T := TX11) (v := .ref y_4) F hK hW hL_a0 hK_a0 (by decide) rfl rfl (by decide) i_16 k_28 (by rw [show wv 16 2 S_2 a0 = va_rf (sR S_2 a0 2) from rfl, ey_4]; rfl) dX11_countYears_26 ?_
    refine lv_iload_n hx hb dX11_countYears_29 rfl (lv_at hl 3 rfl) ?_
    refine lv_iload_n hx hb dX11_countYears_30 rfl (lv_at hl 4 rfl) ?_
    obtain ⟨y_5, h_6, hL_y_5, hK_y_5, hp⟩ := hp
    revert hp; revert hl; revert hW; revert hE; subst h_6; intro hE hW hl hp
    refine w_callI (va_runV (As := [.ref y_4, .int x2, .int x3]) (rest := []) F (c_X10_passingInYears l hL_y_5 hK_y_5 hL_y_4 hK_y_4 hp H.size) (cwV (C := RX10) 3 hts (wg_V wm_RX11_368 wy_X10_passingInYears) rfl rfl rfl (by decide +kernel) ⟨Nat.le_of_ble_eq_true rfl, Nat.le_of_ble_eq_true rfl⟩) (w_preV hK hW hL_y_5 hK_y_5 (by decide) rfl) rfl rfl hl.1 rfl (lv_room (Nat.le_of_ble_eq_true rfl)) dX11_countYears_31 ⟨Nat.le_of_ble_eq_true rfl, Nat.le_of_ble_eq_true rfl⟩) hW (fun r_7 S_8 H locs hp hW => ?_)
    obtain ⟨hX_S_8, hp⟩ := hp
    refine W.widen (k := 1) (n := 6) (by decide) (by decide) ?_
    have hE := hE.trans hX_S_8
    have hK_a0 : sK S_8 a0 = 16 := (hX_S_8.2 a0 hL_a0).1.trans hK_a0
    have hL_a0 : wM D S_8 a0 := hX_S_8.M hL_a0
    have hK_y_5 : sK S_8 y_5 = 15 := (hX_S_8.2 y_5 hL_y_5).1.trans hK_y_5
    have hL_y_5 : wM D S_8 y_5 := hX_S_8.M hL_y_5
    refine W.widen (k := 2) (n := 12) (by decide) (by decide) ?_
    refine vx_ret ?_
    exact w_iret hx hb hr hlocks hW ⟨hE, hp⟩ dX11_countYears_34
  · replace hp := hp.2 c_3
    exact x_throwW (ls := ls) F hK hW hl0 (by decide) (hwg _ wc_RX11_140) (hwg _ wi_java_lang_IllegalArgumentException) (show ("OpeningsCabinet", 366, "the first year is behind the last one", 36) ∈ wStr by decide +kernel) (wa_RX11_144 hwg hK.2.1) wa_RX11_144_ok hl.1 hexc hlocks dX11_countYears_12 dX11_countYears_15 dX11_countYears_16 dX11_countYears_19 dX11_countYears_22 (Nat.le_of_ble_eq_true rfl) (Nat.le_of_ble_eq_true rfl) (Nat.le_of_ble_eq_true rfl) (Nat.le_of_ble_eq_true rfl) (by decide) (by decide) ⟨hE, hp⟩
set_option maxHeartbeats 4000000 in
set_option maxRecDepth 100000 in
theorem c_X11_countYears (l : Launch) {D : wD} {cy : Nat → ClassId} {X : va_W} {S0 : wS} {post : Int32 → wS → Prop} {xp : String → wS → Prop} (hl0 : l.stackTraces = false) {a0 : Nat} {x1 : Int32} {x2 : Int32} {x3 : Int32} (hL_a0 : wM D S0 a0) (hK_a0 : sK S0 a0 = 16) (hp : wp_X11_countYears D post xp S0 a0 x1 x2 x3) : xI D cy X l yX11_countYears wz_X11_countYears r_X11_countYears [.ref a0, .int x1, .int x2, .int x3] S0 (fun r S9 => wX D S0 S9 ∧ post r S9) (fun E S9 => wX D S0 S9 ∧ xp E S9) := by
  intro sz
  refine vx_ofW (cc := cX11_countYears) (maxL := 5) (ret := (some .int)) (by decide) rfl ?_
  intro p e s m args below meth c s₁ B hml hexc hv
  obtain ⟨rfl, hsz, hP, hK, hD0, hRO⟩ := hv
  have hts := atoms_spec (ws := wz_X11_countYears) B.pre
  have hown : s.vm.findClass RX11 = some m.cls := findClass_of_methodNamed B.named
  subst hsz
  have hD := hD0.self (sz := s.heap.size)
  have F : CallFix p m c cX11_countYears 5 s _ wz_X11_countYears RX11 := ⟨B.exec, B.bytes, hml, hown, hts⟩
  have hr := B.returns
  have hlocks := B.notSynchronized
  generalize hAe : va_A (wL cy X S0) s.heap.size = A at hD hK ⊢
  have hA : ∀ q, s.heap.size ≤ q → A q := fun q h => by rw [← hAe]; exact Or.inr h
  have hW : wO D cy X A s.heap S0 s.heap [] := ⟨hP, hD, va_S.rf, hA, hRO⟩
  have hl := lv_entry ([.ref a0, .int x1, .int x2, .int x3]) (n := 5) (Nat.le_of_ble_eq_true rfl)
  rw [lg_entry_eq]
  generalize (lg_sl ([.ref a0, .int x1, .int x2, .int x3]) ++ List.replicate (5 - (lg_sl ([.ref a0, .int x1, .int x2, .int x3])).length) Slot.unset).toArray = ls at hl ⊢
  have hl : lv_has ls 5 [(0, .ref a0), (1, .int x1), (2, .int x2), (3, .int x3)] := hl
  unfold wp_X11_countYears at hp
  exact t_X11_countYears_0 F hr hlocks hK hl0 hexc hp hW wX.rf (lv_sub hl [0, 1, 2, 3] rfl) hL_a0 hK_a0
def wp_X4_numberOfWord_86 (D : wD) (post : Int32 → wS → Prop)  (S : wS) : Prop :=
post (-1 : Int32) S
def wp_X4_numberOfWord_50 (D : wD) (post : Int32 → wS → Prop)  : Nat → wS → Nat → Int64 → Int32 → Prop
  | 0, _, _, _, _ => False
  | n + 1, S, a0, x1, x3 =>
    (((sI S a0 7) ≤ x3 → wp_X4_numberOfWord_86 D post S) ∧
     (¬ (sI S a0 7) ≤ x3 → ∃ y_2 : Nat, sR S a0 5 = some y_2 ∧ wM D S y_2 ∧ sK S y_2 = 22 ∧
    (((Int32.ofNat (sN S y_2)) ≤ x3 → wp_X4_numberOfWord_86 D post S) ∧
     (¬ (Int32.ofNat (sN S y_2)) ≤ x3 → ∃ y_4 : Nat, sR S a0 5 = some y_4 ∧ wM D S y_4 ∧ sK S y_4 = 22 ∧
    vp_in x3 (sN S y_4) ∧
    ((¬ (lg_cmp (sJ S y_4 (x3).toNatClampNeg) x1) = 0 → ∀ x_7 : Int32, x_7 = x3 + 1 →
    wp_X4_numberOfWord_50 D post n S a0 x1 x_7) ∧
     ((lg_cmp (sJ S y_4 (x3).toNatClampNeg) x1) = 0 → post x3 S))))))
def wp_X4_numberOfWord_48 (D : wD) (post : Int32 → wS → Prop)  (S : wS) (a0 : Nat) (x1 : Int64) : Prop :=
∃ n_1 : Nat, wp_X4_numberOfWord_50 D post n_1 S a0 x1 (0 : Int32)
def wp_X4_numberOfWord_43 (D : wD) (post : Int32 → wS → Prop)  (S : wS) (a0 : Nat) (x1 : Int64) : Prop :=
narrow .boolean (.int (1 : Int32)) = .int (1 : Int32) ∧ fits .boolean (.int (1 : Int32)) = true ∧
∀ S_1 : wS, S_1 = uI S a0 6 (1 : Int32) →
wp_X4_numberOfWord_48 D post S_1 a0 x1
def wp_X4_numberOfWord_9 (D : wD) (post : Int32 → wS → Prop)  : Nat → wS → Nat → Int64 → Int32 → Prop
  | 0, _, _, _, _ => False
  | n + 1, S, a0, x1, x3 =>
    (((sI S a0 7) ≤ x3 → wp_X4_numberOfWord_43 D post S a0 x1) ∧
     (¬ (sI S a0 7) ≤ x3 → ∃ y_2 : Nat, sR S a0 5 = some y_2 ∧ wM D S y_2 ∧ sK S y_2 = 22 ∧
    (((Int32.ofNat (sN S y_2)) ≤ x3 → wp_X4_numberOfWord_43 D post S a0 x1) ∧
     (¬ (Int32.ofNat (sN S y_2)) ≤ x3 → ∃ y_4 : Nat, sR S a0 5 = some y_4 ∧ wM D S y_4 ∧ sK S y_4 = 22 ∧
    wp_X4_plainWord D (fun r_5 S_6 => 
    y_4 ∈ sL S_6 ∧ vp_in x3 (sN S_6 y_4) ∧
    ∀ S_8 : wS, S_8 = uJ S_6 y_4 (x3).toNatClampNeg r_5 →
    ∀ x_9 : Int32, x_9 = x3 + 1 →
    wp_X4_numberOfWord_9 D post n S_8 a0 x1 x_9) S a0 x3))))
def wp_X4_numberOfWord_0 (D : wD) (post : Int32 → wS → Prop)  (S : wS) (a0 : Nat) (x1 : Int64) : Prop :=
((¬ (sI S a0 6) = 0 → wp_X4_numberOfWord_48 D post S a0 x1) ∧
 ((sI S a0 6) = 0 → ∃ n_2 : Nat, wp_X4_numberOfWord_9 D post n_2 S a0 x1 (0 : Int32)))
abbrev r_X4_numberOfWord : Room := { frames := 6, cells := 0, slots := 0, locals := 135 }
def wp_X4_numberOfWord (D : wD) (post : Int32 → wS → Prop) (S : wS) (a0 : Nat) (x1 : Int64) : Prop := wp_X4_numberOfWord_0 D post S a0 x1
set_option maxHeartbeats 4000000 in
set_option maxRecDepth 100000 in
theorem t_X4_numberOfWord_86 {p : Program} {l : Launch} {e : Env} {s : State} {m : MethodId} {args : Array Value} {below : List Frame} {meth : Method} {c : Code} {D : wD} {cy : Nat → ClassId} {X : va_W} {A : Nat → Prop} {S0 : wS} {post : Int32 → wS → Prop} (F : CallFix p m c cX4_numberOfWord 4 s args wz_X4_numberOfWord RX4) (hr : meth.sig.returnType = (some .int)) (hlocks : meth.locks = false) (hK : wK D cy A s) : ∀ {S : wS} {H : Heap} {locs : List Loc} {ls : Array Slot}, wp_X4_numberOfWord_86 D post S → wO D cy X A s.heap S H locs → wX D S0 S → lv_has ls 4 [] → W p l e r_X4_numberOfWord s m args below meth c H locs 0 0 (MQ below (va_Qi (fun r S9 => wX D S0 S9 ∧ post r S9) (wB D cy X A) A) args s 0 0 A) (F0 m 86 ls []) := by
  obtain ⟨hx, hb, hml, hown, hts⟩ := id F
  have hwg : ∀ w ∈ WG, w.before args s = true := fun w h => hts w (List.mem_cons_of_mem _ h)
  intro S H locs ls hp hW hE hl
  unfold wp_X4_numberOfWord_86 at hp
  refine lv_iconst (v := (-1)) hx hb dX4_numberOfWord_86 (by decide) ?_
  exact w_iret hx hb hr hlocks hW ⟨hE, hp⟩ dX4_numberOfWord_87
set_option maxHeartbeats 4000000 in
set_option maxRecDepth 100000 in
theorem t_X4_numberOfWord_50 {p : Program} {l : Launch} {e : Env} {s : State} {m : MethodId} {args : Array Value} {below : List Frame} {meth : Method} {c : Code} {D : wD} {cy : Nat → ClassId} {X : va_W} {A : Nat → Prop} {S0 : wS} {post : Int32 → wS → Prop} (F : CallFix p m c cX4_numberOfWord 4 s args wz_X4_numberOfWord RX4) (hr : meth.sig.returnType = (some .int)) (hlocks : meth.locks = false) (hK : wK D cy A s) : ∀ (n : Nat) {S : wS} {H : Heap} {locs : List Loc} {ls : Array Slot} {a0 : Nat} {x1 : Int64} {x3 : Int32}, wp_X4_numberOfWord_50 D post n S a0 x1 x3 → wO D cy X A s.heap S H locs → wX D S0 S → lv_has ls 4 [(0, .ref a0), (1, .long x1), (3, .int x3)] → wM D S a0 → sK S a0 = 9 → W p l e r_X4_numberOfWord s m args below meth c H locs 0 0 (MQ below (va_Qi (fun r S9 => wX D S0 S9 ∧ post r S9) (wB D cy X A) A) args s 0 0 A) (F0 m 50 ls []) := by
  obtain ⟨hx, hb, hml, hown, hts⟩ := id F
  have hwg : ∀ w ∈ WG, w.before args s = true := fun w h => hts w (List.mem_cons_of_mem _ h)
  have i_9 : ∀ w ∈ u_ws RX4 TX4 8, w ∈ wz_X4_numberOfWord := fun w h => List.mem_cons_of_mem _ (wu_9 w h)
  have k_15 := hwg _ wf_RX4_15
  have k_23 := hwg _ wf_RX4_23
  intro n
  induction n with
  | zero =>
    intro S H locs ls a0 x1 x3 hp
    exact hp.elim
  | succ n ih =>
    intro S H locs ls a0 x1 x3 hp hW hE hl hL_a0 hK_a0
    unfold wp_X4_numberOfWord_50 at hp
    refine lv_iload_n hx hb dX4_numberOfWord_50 rfl (lv_at hl 2 rfl) ?_
    refine lv_aload_n hx hb dX4_numberOfWord_51 rfl (lv_at hl 0 rfl) ?_
    refine w_get (k := 9) (f := 7) (T := TX4) (v := .int (sI S a0 7)) F hK hW hL_a0 hK_a0 (by decide) rfl rfl (by decide) i_9 k_23 rfl dX4_numberOfWord_52 ?_
    refine lv_icmp_ge (tgt := 86) hx hb dX4_numberOfWord_55 (by decide) (fun c_1 => ?_) (fun c_1 => ?_)
    · replace hp := hp.1 c_1
      exact t_X4_numberOfWord_86 F hr hlocks hK hp hW hE (lv_sub hl [] rfl)
    · replace hp := hp.2 c_1
      refine lv_iload_n hx hb dX4_numberOfWord_58 rfl (lv_at hl 2 rfl) ?_
      refine lv_aload_n hx hb dX4_numberOfWord_59 rfl (lv_at hl 0 rfl) ?_
      obtain ⟨y_2, ey_2, hL_y_2, hK_y_2, hp⟩ := hp
      refine w_get (k := 9) (f := 5) (T := TX4) (v := .ref y_2) F hK hW hL_a0 hK_a0 (by decide) rfl rfl (by decide) i_9 k_15 (by rw [show wv 9 5 S a0 = va_rf (sR S a0 5) from rfl, ey_2]; rfl) dX4_numberOfWord_60 ?_
      refine w_len F hK hW hL_y_2 hK_y_2 (by decide) dX4_numberOfWord_63 ?_
      refine lv_icmp_ge (tgt := 86) hx hb dX4_numberOfWord_64 (by decide) (fun c_3 => ?_) (fun c_3 => ?_)
      · replace hp := hp.1 c_3
        exact t_X4_numberOfWord_86 F hr hlocks hK hp hW hE (lv_sub hl [] rfl)
      · replace hp := hp.2 c_3
        refine lv_aload_n hx hb dX4_numberOfWord_67 rfl (lv_at hl 0 rfl) ?_
        obtain ⟨y_4, ey_4, hL_y_4, hK_y_4, hp⟩ := hp
        refine w_get (k := 9) (f := 5) (T := TX4) (v := .ref y_4) F hK hW hL_a0 hK_a0 (by decide) rfl rfl (by decide) i_9 k_15 (by rw [show wv 9 5 S a0 = va_rf (sR S a0 5) from rfl, ey_4]; rfl) dX4_numberOfWord_68 ?_
        refine lv_iload_n hx hb dX4_numberOfWord_71 rfl (lv_at hl 2 rfl) ?_
        obtain ⟨h_5, hp⟩ := hp
        refine w_lld F hK hW hL_y_4 hK_y_4 h_5 dX4_numberOfWord_72 ?_
        refine lv_lload_n hx hb dX4_numberOfWord_73 rfl (lv_at hl 1 rfl) ?_
        refine W.lcmp hx hb dX4_numberOfWord_74 ?_
        refine lv_if_ne (tgt := 80) hx hb dX4_numberOfWord_75 (by decide) (fun c_6 => ?_) (fun c_6 => ?_)
        · replace hp := hp.1 c_6
          obtain ⟨x_7, ex_7⟩ : ∃ z : Int32, z = x3 + 1 := ⟨_, rfl⟩
          replace hp := hp x_7 ex_7
          refine lv_iinc (v := x_7) (lv' := [(3, .int x_7), (0, .ref a0), (1, .long x1)]) hx hb dX4_numberOfWord_80 hl (k := 2) rfl (by rw [ex_7]; rfl) (by decide) rfl (fun ls hl => ?_)
          refine lv_goto (tgt := 50) hx hb dX4_numberOfWord_83 (by decide) ?_
          exact ih hp hW hE (lv_sub hl [1, 2, 0] rfl) hL_a0 hK_a0
        · replace hp := hp.2 c_6
          refine lv_iload_n hx hb dX4_numberOfWord_78 rfl (lv_at hl 2 rfl) ?_
          exact w_iret hx hb hr hlocks hW ⟨hE, hp⟩ dX4_numberOfWord_79
set_option maxHeartbeats 4000000 in
set_option maxRecDepth 100000 in
theorem t_X4_numberOfWord_48 {p : Program} {l : Launch} {e : Env} {s : State} {m : MethodId} {args : Array Value} {below : List Frame} {meth : Method} {c : Code} {D : wD} {cy : Nat → ClassId} {X : va_W} {A : Nat → Prop} {S0 : wS} {post : Int32 → wS → Prop} (F : CallFix p m c cX4_numberOfWord 4 s args wz_X4_numberOfWord RX4) (hr : meth.sig.returnType = (some .int)) (hlocks : meth.locks = false) (hK : wK D cy A s) : ∀ {S : wS} {H : Heap} {locs : List Loc} {ls : Array Slot} {a0 : Nat} {x1 : Int64}, wp_X4_numberOfWord_48 D post S a0 x1 → wO D cy X A s.heap S H locs → wX D S0 S → lv_has ls 4 [(0, .ref a0), (1, .long x1)] → wM D S a0 → sK S a0 = 9 → W p l e r_X4_numberOfWord s m args below meth c H locs 0 0 (MQ below (va_Qi (fun r S9 => wX D S0 S9 ∧ post r S9) (wB D cy X A) A) args s 0 0 A) (F0 m 48 ls []) := by
  obtain ⟨hx, hb, hml, hown, hts⟩ := id F
  have hwg : ∀ w ∈ WG, w.before args s = true := fun w h => hts w (List.mem_cons_of_mem _ h)
  intro S H locs ls a0 x1 hp hW hE hl hL_a0 hK_a0
  unfold wp_X4_numberOfWord_48 at hp
  refine lv_iconst (v := 0) hx hb dX4_numberOfWord_48 (by decide) ?_
  refine lv_istore_n (lv' := [(3, .int (0 : Int32)), (0, .ref a0), (1, .long x1)]) hx hb dX4_numberOfWord_49 rfl hl (by decide) rfl (fun ls hl => ?_)
  obtain ⟨n_1, hp⟩ := hp
  exact t_X4_numberOfWord_50 F hr hlocks hK n_1 hp hW hE (lv_sub hl [1, 2, 0] rfl) hL_a0 hK_a0
set_option maxHeartbeats 4000000 in
set_option maxRecDepth 100000 in
theorem t_X4_numberOfWord_43 {p : Program} {l : Launch} {e : Env} {s : State} {m : MethodId} {args : Array Value} {below : List Frame} {meth : Method} {c : Code} {D : wD} {cy : Nat → ClassId} {X : va_W} {A : Nat → Prop} {S0 : wS} {post : Int32 → wS → Prop} (F : CallFix p m c cX4_numberOfWord 4 s args wz_X4_numberOfWord RX4) (hr : meth.sig.returnType = (some .int)) (hlocks : meth.locks = false) (hK : wK D cy A s) : ∀ {S : wS} {H : Heap} {locs : List Loc} {ls : Array Slot} {a0 : Nat} {x1 : Int64}, wp_X4_numberOfWord_43 D post S a0 x1 → wO D cy X A s.heap S H locs → wX D S0 S → lv_has ls 4 [(0, .ref a0), (1, .long x1)] → wM D S a0 → sK S a0 = 9 → W p l e r_X4_numberOfWord s m args below meth c H locs 0 0 (MQ below (va_Qi (fun r S9 => wX D S0 S9 ∧ post r S9) (wB D cy X A) A) args s 0 0 A) (F0 m 43 ls []) := by
  obtain ⟨hx, hb, hml, hown, hts⟩ := id F
  have hwg : ∀ w ∈ WG, w.before args s = true := fun w h => hts w (List.mem_cons_of_mem _ h)
  have i_9 : ∀ w ∈ u_ws RX4 TX4 8, w ∈ wz_X4_numberOfWord := fun w h => List.mem_cons_of_mem _ (wu_9 w h)
  have k_19 := hwg _ wf_RX4_19
  intro S H locs ls a0 x1 hp hW hE hl hL_a0 hK_a0
  unfold wp_X4_numberOfWord_43 at hp
  refine lv_aload_n hx hb dX4_numberOfWord_43 rfl (lv_at hl 0 rfl) ?_
  refine lv_iconst (v := 1) hx hb dX4_numberOfWord_44 (by decide) ?_
  obtain ⟨h_2, h_2f, hp⟩ := hp
  refine w_putI (k := 9) (f := 6) (T := TX4) F hK hW hL_a0 hK_a0 (by decide) (by decide) rfl rfl (by decide) i_9 tyX4 tyX4_ok nmX4 k_19 rfl rfl (ty := .boolean) rfl h_2 h_2f dX4_numberOfWord_45 (fun H locs hW => ?_)
  obtain ⟨S_1, eS_1⟩ : ∃ z : wS, z = uI S a0 6 (1 : Int32) := ⟨_, rfl⟩
  rw [← eS_1] at hW
  replace hp := hp S_1 eS_1
  have hX_S_1 : wX D S S_1 := by rw [eS_1]; exact wX_uI
  have hE := hE.trans hX_S_1
  have hK_a0 : sK S_1 a0 = 9 := (hX_S_1.2 a0 hL_a0).1.trans hK_a0
  have hL_a0 : wM D S_1 a0 := hX_S_1.M hL_a0
  exact t_X4_numberOfWord_48 F hr hlocks hK hp hW hE (lv_sub hl [0, 1] rfl) hL_a0 hK_a0
set_option maxHeartbeats 4000000 in
set_option maxRecDepth 100000 in
theorem t_X4_numberOfWord_9 {p : Program} {l : Launch} {e : Env} {s : State} {m : MethodId} {args : Array Value} {below : List Frame} {meth : Method} {c : Code} {D : wD} {cy : Nat → ClassId} {X : va_W} {A : Nat → Prop} {S0 : wS} {post : Int32 → wS → Prop} (F : CallFix p m c cX4_numberOfWord 4 s args wz_X4_numberOfWord RX4) (hr : meth.sig.returnType = (some .int)) (hlocks : meth.locks = false) (hK : wK D cy A s) : ∀ (n : Nat) {S : wS} {H : Heap} {locs : List Loc} {ls : Array Slot} {a0 : Nat} {x1 : Int64} {x3 : Int32}, wp_X4_numberOfWord_9 D post n S a0 x1 x3 → wO D cy X A s.heap S H locs → wX D S0 S → lv_has ls 4 [(0, .ref a0), (1, .long x1), (3, .int x3)] → wM D S a0 → sK S a0 = 9 → W p l e r_X4_numberOfWord s m args below meth c H locs 0 0 (MQ below (va_Qi (fun r S9 => wX D S0 S9 ∧ post r S9) (wB D cy X A) A) args s 0 0 A) (F0 m 9 ls []) := by
  obtain ⟨hx, hb, hml, hown, hts⟩ := id F
  have hwg : ∀ w ∈ WG, w.before args s = true := fun w h => hts w (List.mem_cons_of_mem _ h)
  have i_9 : ∀ w ∈ u_ws RX4 TX4 8, w ∈ wz_X4_numberOfWord := fun w h => List.mem_cons_of_mem _ (wu_9 w h)
  have k_15 := hwg _ wf_RX4_15
  have k_23 := hwg _ wf_RX4_23
  intro n
  induction n with
  | zero =>
    intro S H locs ls a0 x1 x3 hp
    exact hp.elim
  | succ n ih =>
    intro S H locs ls a0 x1 x3 hp hW hE hl hL_a0 hK_a0
    unfold wp_X4_numberOfWord_9 at hp
    refine lv_iload_n hx hb dX4_numberOfWord_9 rfl (lv_at hl 2 rfl) ?_
    refine lv_aload_n hx hb dX4_numberOfWord_10 rfl (lv_at hl 0 rfl) ?_
    refine w_get (k := 9) (f := 7) (T := TX4) (v := .int (sI S a0 7)) F hK hW hL_a0 hK_a0 (by decide) rfl rfl (by decide) i_9 k_23 rfl dX4_numberOfWord_11 ?_
    refine lv_icmp_ge (tgt := 43) hx hb dX4_numberOfWord_14 (by decide) (fun c_1 => ?_) (fun c_1 => ?_)
    · replace hp := hp.1 c_1
      exact t_X4_numberOfWord_43 F hr hlocks hK hp hW hE (lv_sub hl [0, 1] rfl) hL_a0 hK_a0
    · replace hp := hp.2 c_1
      refine lv_iload_n hx hb dX4_numberOfWord_17 rfl (lv_at hl 2 rfl) ?_
      refine lv_aload_n hx hb dX4_numberOfWord_18 rfl (lv_at hl 0 rfl) ?_
      obtain ⟨y_2, ey_2, hL_y_2, hK_y_2, hp⟩ := hp
      refine w_get (k := 9) (f := 5) (T := TX4) (v := .ref y_2) F hK hW hL_a0 hK_a0 (by decide) rfl rfl (by decide) i_9 k_15 (by rw [show wv 9 5 S a0 = va_rf (sR S a0 5) from rfl, ey_2]; rfl) dX4_numberOfWord_19 ?_
      refine w_len F hK hW hL_y_2 hK_y_2 (by decide) dX4_numberOfWord_22 ?_
      refine lv_icmp_ge (tgt := 43) hx hb dX4_numberOfWord_23 (by decide) (fun c_3 => ?_) (fun c_3 => ?_)
      · replace hp := hp.1 c_3
        exact t_X4_numberOfWord_43 F hr hlocks hK hp hW hE (lv_sub hl [0, 1] rfl) hL_a0 hK_a0
      · replace hp := hp.2 c_3
        refine lv_aload_n hx hb dX4_numberOfWord_26 rfl (lv_at hl 0 rfl) ?_
        obtain ⟨y_4, ey_4, hL_y_4, hK_y_4, hp⟩ := hp
        refine w_get (k := 9) (f := 5) (T := TX4) (v := .ref y_4) F hK hW hL_a0 hK_a0 (by decide) rfl rfl (by decide) i_9 k_15 (by rw [show wv 9 5 S a0 = va_rf (sR S a0 5) from rfl, ey_4]; rfl) dX4_numberOfWord_27 ?_
        refine lv_iload_n hx hb dX4_numberOfWord_30 rfl (lv_at hl 2 rfl) ?_
        refine lv_aload_n hx hb dX4_numberOfWord_31 rfl (lv_at hl 0 rfl) ?_
        refine lv_iload_n hx hb dX4_numberOfWord_32 rfl (lv_at hl 2 rfl) ?_
        refine w_callJ (va_runV (As := [.int x3]) (rest := [.int x3, .ref y_4]) F (c_X4_plainWord l hL_a0 hK_a0 hp H.size) (cwV (C := RX4) 1 hts (wg_V wm_RX4_57 wy_X4_plainWord) rfl rfl rfl (by decide +kernel) ⟨Nat.le_of_ble_eq_true rfl, Nat.le_of_ble_eq_true rfl⟩) (w_preV hK hW hL_a0 hK_a0 (by decide) rfl) rfl rfl hl.1 rfl (lv_room (Nat.le_of_ble_eq_true rfl)) dX4_numberOfWord_33 ⟨Nat.le_of_ble_eq_true rfl, Nat.le_of_ble_eq_true rfl⟩) hW (fun r_5 S_6 H locs hp hW => ?_)
        obtain ⟨hX_S_6, hp⟩ := hp
        refine W.widen (k := 0) (n := 0) (by decide) (by decide) ?_
        have hE := hE.trans hX_S_6
        have hK_a0 : sK S_6 a0 = 9 := (hX_S_6.2 a0 hL_a0).1.trans hK_a0
        have hL_a0 : wM D S_6 a0 := hX_S_6.M hL_a0
        have hK_y_4 : sK S_6 y_4 = 22 := (hX_S_6.2 y_4 hL_y_4).1.trans hK_y_4
        have hL_y_4 : wM D S_6 y_4 := hX_S_6.M hL_y_4
        obtain ⟨h_7m, h_7, hp⟩ := hp
        refine w_lst F hK hW h_7m hK_y_4 h_7 dX4_numberOfWord_36 (fun H locs hW => ?_)
        obtain ⟨S_8, eS_8⟩ : ∃ z : wS, z = uJ S_6 y_4 (x3).toNatClampNeg r_5 := ⟨_, rfl⟩
        rw [← eS_8] at hW
        replace hp := hp S_8 eS_8
        have hX_S_8 : wX D S_6 S_8 := by rw [eS_8]; exact wX_uJ
        have hE := hE.trans hX_S_8
        have hK_a0 : sK S_8 a0 = 9 := (hX_S_8.2 a0 hL_a0).1.trans hK_a0
        have hL_a0 : wM D S_8 a0 := hX_S_8.M hL_a0
        obtain ⟨x_9, ex_9⟩ : ∃ z : Int32, z = x3 + 1 := ⟨_, rfl⟩
        replace hp := hp x_9 ex_9
        refine lv_iinc (v := x_9) (lv' := [(3, .int x_9), (0, .ref a0), (1, .long x1)]) hx hb dX4_numberOfWord_37 hl (k := 2) rfl (by rw [ex_9]; rfl) (by decide) rfl (fun ls hl => ?_)
        refine lv_goto (tgt := 9) hx hb dX4_numberOfWord_40 (by decide) ?_
        exact ih hp hW hE (lv_sub hl [1, 2, 0] rfl) hL_a0 hK_a0
set_option maxHeartbeats 4000000 in
set_option maxRecDepth 100000 in
theorem t_X4_numberOfWord_0 {p : Program} {l : Launch} {e : Env} {s : State} {m : MethodId} {args : Array Value} {below : List Frame} {meth : Method} {c : Code} {D : wD} {cy : Nat → ClassId} {X : va_W} {A : Nat → Prop} {S0 : wS} {post : Int32 → wS → Prop} (F : CallFix p m c cX4_numberOfWord 4 s args wz_X4_numberOfWord RX4) (hr : meth.sig.returnType = (some .int)) (hlocks : meth.locks = false) (hK : wK D cy A s) : ∀ {S : wS} {H : Heap} {locs : List Loc} {ls : Array Slot} {a0 : Nat} {x1 : Int64}, wp_X4_numberOfWord_0 D post S a0 x1 → wO D cy X A s.heap S H locs → wX D S0 S → lv_has ls 4 [(0, .ref a0), (1, .long x1)] → wM D S a0 → sK S a0 = 9 → W p l e r_X4_numberOfWord s m args below meth c H locs 0 0 (MQ below (va_Qi (fun r S9 => wX D S0 S9 ∧ post r S9) (wB D cy X A) A) args s 0 0 A) (F0 m 0 ls []) := by
  obtain ⟨hx, hb, hml, hown, hts⟩ := id F
  have hwg : ∀ w ∈ WG, w.before args s = true := fun w h => hts w (List.mem_cons_of_mem _ h)
  have i_9 : ∀ w ∈ u_ws RX4 TX4 8, w ∈ wz_X4_numberOfWord := fun w h => List.mem_cons_of_mem _ (wu_9 w h)
  have k_19 := hwg _ wf_RX4_19
  intro S H locs ls a0 x1 hp hW hE hl hL_a0 hK_a0
  unfold wp_X4_numberOfWord_0 at hp
  refine lv_aload_n hx hb dX4_numberOfWord_0 rfl (lv_at hl 0 rfl) ?_
  refine w_get (k := 9) (f := 6) (T := TX4) (v := .int (sI S a0 6)) F hK hW hL_a0 hK_a0 (by decide) rfl rfl (by decide) i_9 k_19 rfl dX4_numberOfWord_1 ?_
  refine lv_if_ne (tgt := 48) hx hb dX4_numberOfWord_4 (by decide) (fun c_1 => ?_) (fun c_1 => ?_)
  · replace hp := hp.1 c_1
    exact t_X4_numberOfWord_48 F hr hlocks hK hp hW hE (lv_sub hl [0, 1] rfl) hL_a0 hK_a0
  · replace hp := hp.2 c_1
    refine lv_iconst (v := 0) hx hb dX4_numberOfWord_7 (by decide) ?_
    refine lv_istore_n (lv' := [(3, .int (0 : Int32)), (0, .ref a0), (1, .long x1)]) hx hb dX4_numberOfWord_8 rfl hl (by decide) rfl (fun ls hl => ?_)
    obtain ⟨n_2, hp⟩ := hp
    exact t_X4_numberOfWord_9 F hr hlocks hK n_2 hp hW hE (lv_sub hl [1, 2, 0] rfl) hL_a0 hK_a0
set_option maxHeartbeats 4000000 in
set_option maxRecDepth 100000 in
theorem c_X4_numberOfWord (l : Launch) {D : wD} {cy : Nat → ClassId} {X : va_W} {S0 : wS} {post : Int32 → wS → Prop} {a0 : Nat} {x1 : Int64} (hL_a0 : wM D S0 a0) (hK_a0 : sK S0 a0 = 9) (hp : wp_X4_numberOfWord D post S0 a0 x1) : mI D cy X l yX4_numberOfWord wz_X4_numberOfWord r_X4_numberOfWord [.ref a0, .long x1] S0 (fun r S9 => wX D S0 S9 ∧ post r S9) := by
  intro sz
  refine Met.ofW (cc := cX4_numberOfWord) (maxL := 4) (ret := (some .int)) (by decide) rfl ?_
  intro p e s m args below meth c s₁ B hml hv
  obtain ⟨rfl, hsz, hP, hK, hD0, hRO⟩ := hv
  have hts := atoms_spec (ws := wz_X4_numberOfWord) B.pre
  have hown : s.vm.findClass RX4 = some m.cls := findClass_of_methodNamed B.named
  subst hsz
  have hD := hD0.self (sz := s.heap.size)
  have F : CallFix p m c cX4_numberOfWord 4 s _ wz_X4_numberOfWord RX4 := ⟨B.exec, B.bytes, hml, hown, hts⟩
  have hr := B.returns
  have hlocks := B.notSynchronized
  generalize hAe : va_A (wL cy X S0) s.heap.size = A at hD hK ⊢
  have hA : ∀ q, s.heap.size ≤ q → A q := fun q h => by rw [← hAe]; exact Or.inr h
  have hW : wO D cy X A s.heap S0 s.heap [] := ⟨hP, hD, va_S.rf, hA, hRO⟩
  have hl := lv_entry ([.ref a0, .long x1]) (n := 4) (Nat.le_of_ble_eq_true rfl)
  rw [lg_entry_eq]
  generalize (lg_sl ([.ref a0, .long x1]) ++ List.replicate (4 - (lg_sl ([.ref a0, .long x1])).length) Slot.unset).toArray = ls at hl ⊢
  have hl : lv_has ls 4 [(0, .ref a0), (1, .long x1)] := hl
  unfold wp_X4_numberOfWord at hp
  exact t_X4_numberOfWord_0 F hr hlocks hK hp hW wX.rf (lv_sub hl [0, 1] rfl) hL_a0 hK_a0
def wp_X11_misreadMoves_48 (D : wD) (post : Int32 → wS → Prop) (k_15 : wS → Nat → Int32 → Int32 → Prop) (S : wS) (a0 : Nat) (x1 : Int32) (x2 : Int32) : Prop :=
∀ x_1 : Int32, x_1 = x2 + 1 →
k_15 S a0 x1 x_1
def wp_X11_misreadMoves_15 (D : wD) (post : Int32 → wS → Prop)  : Nat → wS → Nat → Int32 → Int32 → Prop
  | 0, _, _, _, _ => False
  | n + 1, S, a0, x1, x2 =>
    ∃ y_1 : Nat, sR S a0 5 = some y_1 ∧ wM D S y_1 ∧ sK S y_1 = 9 ∧
    (((sI S y_1 7) ≤ x2 → post x1 S) ∧
     (¬ (sI S y_1 7) ≤ x2 → ∃ y_3 : Nat, sR S a0 5 = some y_3 ∧ wM D S y_3 ∧ sK S y_3 = 9 ∧
    ∃ y_4 : Nat, sR S a0 5 = some y_4 ∧ wM D S y_4 ∧ sK S y_4 = 9 ∧
    wp_X4_plainWord D (fun r_5 S_6 => 
    wp_X4_numberOfWord D (fun r_7 S_8 => 
    ((r_7 = x2 → wp_X11_misreadMoves_48 D post (wp_X11_misreadMoves_15 D post n) S_8 a0 x1 x2) ∧
     (¬ r_7 = x2 → ∀ x_10 : Int32, x_10 = x1 + 1 →
    wp_X11_misreadMoves_48 D post (wp_X11_misreadMoves_15 D post n) S_8 a0 x_10 x2))) S_6 y_3 r_5) S y_4 x2))
def wp_X11_misreadMoves_0 (D : wD) (post : Int32 → wS → Prop)  (S : wS) (a0 : Nat) : Prop :=
∃ y_1 : Nat, sR S a0 5 = some y_1 ∧ wM D S y_1 ∧ sK S y_1 = 9 ∧
∃ y_2 : Nat, sR S a0 2 = some y_2 ∧ wM D S y_2 ∧ sK S y_2 = 12 ∧
wp_X4_look D (fun S_4 => 
∃ n_5 : Nat, wp_X11_misreadMoves_15 D post n_5 S_4 a0 (0 : Int32) (0 : Int32)) S y_1 y_2
abbrev r_X11_misreadMoves : Room := { frames := 7, cells := 0, slots := 0, locals := 158 }
def wp_X11_misreadMoves (D : wD) (post : Int32 → wS → Prop) (S : wS) (a0 : Nat) : Prop := wp_X11_misreadMoves_0 D post S a0
set_option maxHeartbeats 4000000 in
set_option maxRecDepth 100000 in
theorem t_X11_misreadMoves_48 {p : Program} {l : Launch} {e : Env} {s : State} {m : MethodId} {args : Array Value} {below : List Frame} {meth : Method} {c : Code} {D : wD} {cy : Nat → ClassId} {X : va_W} {A : Nat → Prop} {S0 : wS} {post : Int32 → wS → Prop} (F : CallFix p m c cX11_misreadMoves 3 s args wz_X11_misreadMoves RX11) (hr : meth.sig.returnType = (some .int)) (hlocks : meth.locks = false) (hK : wK D cy A s) {k_15 : wS → Nat → Int32 → Int32 → Prop} (q_15 : ∀ {S : wS} {H : Heap} {locs : List Loc} {ls : Array Slot} {a0 : Nat} {x1 : Int32} {x2 : Int32}, k_15 S a0 x1 x2 → wO D cy X A s.heap S H locs → wX D S0 S → lv_has ls 3 [(0, .ref a0), (1, .int x1), (2, .int x2)] → wM D S a0 → sK S a0 = 16 → W p l e r_X11_misreadMoves s m args below meth c H locs 0 0 (MQ below (va_Qi (fun r S9 => wX D S0 S9 ∧ post r S9) (wB D cy X A) A) args s 0 0 A) (F0 m 15 ls [])) : ∀ {S : wS} {H : Heap} {locs : List Loc} {ls : Array Slot} {a0 : Nat} {x1 : Int32} {x2 : Int32}, wp_X11_misreadMoves_48 D post k_15 S a0 x1 x2 → wO D cy X A s.heap S H locs → wX D S0 S → lv_has ls 3 [(0, .ref a0), (1, .int x1), (2, .int x2)] → wM D S a0 → sK S a0 = 16 → W p l e r_X11_misreadMoves s m args below meth c H locs 0 0 (MQ below (va_Qi (fun r S9 => wX D S0 S9 ∧ post r S9) (wB D cy X A) A) args s 0 0 A) (F0 m 48 ls []) := by
  obtain ⟨hx, hb, hml, hown, hts⟩ := id F
  have hwg : ∀ w ∈ WG, w.before args s = true := fun w h => hts w (List.mem_cons_of_mem _ h)
  intro S H locs ls a0 x1 x2 hp hW hE hl hL_a0 hK_a0
  unfold wp_X11_misreadMoves_48 at hp
  obtain ⟨x_1, ex_1⟩ : ∃ z : Int32, z = x2 + 1 := ⟨_, rfl⟩
  replace hp := hp x_1 ex_1
  refine lv_iinc (v := x_1) (lv' := [(2, .int x_1), (0, .ref a0), (1, .int x1)]) hx hb dX11_misreadMoves_48 hl (k := 2) rfl (by rw [ex_1]; rfl) (by decide) rfl (fun ls hl => ?_)
  refine lv_goto (tgt := 15) hx hb dX11_misreadMoves_51 (by decide) ?_
  exact q_15 hp hW hE (lv_sub hl [1, 2, 0] rfl) hL_a0 hK_a0
set_option maxHeartbeats 4000000 in
set_option maxRecDepth 100000 in
theorem t_X11_misreadMoves_15 {p : Program} {l : Launch} {e : Env} {s : State} {m : MethodId} {args : Array Value} {below : List Frame} {meth : Method} {c : Code} {D : wD} {cy : Nat → ClassId} {X : va_W} {A : Nat → Prop} {S0 : wS} {post : Int32 → wS → Prop} (F : CallFix p m c cX11_misreadMoves 3 s args wz_X11_misreadMoves RX11) (hr : meth.sig.returnType = (some .int)) (hlocks : meth.locks = false) (hK : wK D cy A s) : ∀ (n : Nat) {S : wS} {H : Heap} {locs : List Loc} {ls : Array Slot} {a0 : Nat} {x1 : Int32} {x2 : Int32}, wp_X11_misreadMoves_15 D post n S a0 x1 x2 → wO D cy X A s.heap S H locs → wX D S0 S → lv_has ls 3 [(0, .ref a0), (1, .int x1), (2, .int x2)] → wM D S a0 → sK S a0 = 16 → W p l e r_X11_misreadMoves s m args below meth c H locs 0 0 (MQ below (va_Qi (fun r S9 => wX D S0 S9 ∧ post r S9) (wB D cy X A) A) args s 0 0 A) (F0 m 15 ls []) := by
  obtain ⟨hx, hb, hml, hown, hts⟩ := id F
  have hwg : ∀ w ∈ WG, w.before args s = true := fun w h => hts w (List.mem_cons_of_mem _ h)
  have i_16 : ∀ w ∈ u_ws RX11 TX11 18, w ∈ wz_X11_misreadMoves := fun w h => List.mem_cons_of_mem _ (wu_16 w h)
  have i_9 : ∀ w ∈ u_ws RX4 TX4 8, w ∈ wz_X11_misreadMoves := fun w h => List.mem_cons_of_mem _ (wu_9 w h)
  have k_49 := hwg _ wf_RX11_49
  intro n
  induction n with
  | zero =>
    intro S H locs ls a0 x1 x2 hp
    exact hp.elim
  | succ n ih =>
    intro S H locs ls a0 x1 x2 hp hW hE hl hL_a0 hK_a0
    unfold wp_X11_misreadMoves_15 at hp
    refine lv_iload_n hx hb dX11_misreadMoves_15 rfl (lv_at hl 2 rfl) ?_
    refine lv_aload_n hx hb dX11_misreadMoves_16 rfl (lv_at hl 0 rfl) ?_
    obtain ⟨y_1, ey_1, hL_y_1, hK_y_1, hp⟩ := hp
    refine w_get (k := 16) (f := 5) (T := TX11) (v := .ref y_1) F hK hW hL_a0 hK_a0 (by decide) rfl rfl (by decide) i_16 k_49 (by rw [show wv 16 5 S a0 = va_rf (sR S a0 5) from rfl, ey_1]; rfl) dX11_misreadMoves_17 ?_
    refine w_getN (k := 9) (f := 7) (T := TX4) (v := .int (sI S y_1 7)) F hK hW hL_y_1 hK_y_1 (by decide) rfl rfl (by decide) i_9 (hK.2.1 (.fieldLinkNest "OpeningsCabinet" 508 "OpeningsCabinet$MoveList" "size" "I" "OpeningsCabinet") (by decide +kernel)) rfl dX11_misreadMoves_20 ?_
    refine lv_icmp_ge (tgt := 54) hx hb dX11_misreadMoves_23 (by decide) (fun c_2 => ?_) (fun c_2 => ?_)
    · replace hp := hp.1 c_2
      refine lv_iload_n hx hb dX11_misreadMoves_54 rfl (lv_at hl 1 rfl) ?_
      exact w_iret hx hb hr hlocks hW ⟨hE, hp⟩ dX11_misreadMoves_55
    · replace hp := hp.2 c_2
      refine lv_aload_n hx hb dX11_misreadMoves_26 rfl (lv_at hl 0 rfl) ?_
      obtain ⟨y_3, ey_3, hL_y_3, hK_y_3, hp⟩ := hp
      refine w_get (k := 16) (f := 5) (T := TX11) (v := .ref y_3) F hK hW hL_a0 hK_a0 (by decide) rfl rfl (by decide) i_16 k_49 (by rw [show wv 16 5 S a0 = va_rf (sR S a0 5) from rfl, ey_3]; rfl) dX11_misreadMoves_27 ?_
      refine lv_aload_n hx hb dX11_misreadMoves_30 rfl (lv_at hl 0 rfl) ?_
      obtain ⟨y_4, ey_4, hL_y_4, hK_y_4, hp⟩ := hp
      refine w_get (k := 16) (f := 5) (T := TX11) (v := .ref y_4) F hK hW hL_a0 hK_a0 (by decide) rfl rfl (by decide) i_16 k_49 (by rw [show wv 16 5 S a0 = va_rf (sR S a0 5) from rfl, ey_4]; rfl) dX11_misreadMoves_31 ?_
      refine lv_iload_n hx hb dX11_misreadMoves_34 rfl (lv_at hl 2 rfl) ?_
      refine w_callJ (va_runV (As := [.int x2]) (rest := [.ref y_3]) F (c_X4_plainWord l hL_y_4 hK_y_4 hp H.size) (cwV (C := RX4) 1 hts (wg_V wm_RX11_541 wy_X4_plainWord) rfl rfl rfl (by decide +kernel) ⟨Nat.le_of_ble_eq_true rfl, Nat.le_of_ble_eq_true rfl⟩) (w_preV hK hW hL_y_4 hK_y_4 (by decide) rfl) rfl rfl hl.1 rfl (lv_room (Nat.le_of_ble_eq_true rfl)) dX11_misreadMoves_35 ⟨Nat.le_of_ble_eq_true rfl, Nat.le_of_ble_eq_true rfl⟩) hW (fun r_5 S_6 H locs hp hW => ?_)
      obtain ⟨hX_S_6, hp⟩ := hp
      refine W.widen (k := 0) (n := 0) (by decide) (by decide) ?_
      have hE := hE.trans hX_S_6
      have hK_a0 : sK S_6 a0 = 16 := (hX_S_6.2 a0 hL_a0).1.trans hK_a0
      have hL_a0 : wM D S_6 a0 := hX_S_6.M hL_a0
      have hK_y_3 : sK S_6 y_3 = 9 := (hX_S_6.2 y_3 hL_y_3).1.trans hK_y_3
      have hL_y_3 : wM D S_6 y_3 := hX_S_6.M hL_y_3
      refine w_callI (va_runV (As := [.long r_5]) (rest := []) F (c_X4_numberOfWord l hL_y_3 hK_y_3 hp H.size) (cwV (C := RX4) 1 hts (wg_V wm_RX11_544 wy_X4_numberOfWord) rfl rfl rfl (by decide +kernel) ⟨Nat.le_of_ble_eq_true rfl, Nat.le_of_ble_eq_true rfl⟩) (w_preV hK hW hL_y_3 hK_y_3 (by decide) rfl) rfl rfl hl.1 rfl (lv_room (Nat.le_of_ble_eq_true rfl)) dX11_misreadMoves_38 ⟨Nat.le_of_ble_eq_true rfl, Nat.le_of_ble_eq_true rfl⟩) hW (fun r_7 S_8 H locs hp hW => ?_)
      obtain ⟨hX_S_8, hp⟩ := hp
      refine W.widen (k := 0) (n := 0) (by decide) (by decide) ?_
      have hE := hE.trans hX_S_8
      have hK_a0 : sK S_8 a0 = 16 := (hX_S_8.2 a0 hL_a0).1.trans hK_a0
      have hL_a0 : wM D S_8 a0 := hX_S_8.M hL_a0
      refine lv_iload_n hx hb dX11_misreadMoves_41 rfl (lv_at hl 2 rfl) ?_
      refine lv_icmp_eq (tgt := 48) hx hb dX11_misreadMoves_42 (by decide) (fun c_9 => ?_) (fun c_9 => ?_)
      · replace hp := hp.1 c_9
        exact t_X11_misreadMoves_48 F hr hlocks hK ih hp hW hE (lv_sub hl [0, 1, 2] rfl) hL_a0 hK_a0
      · replace hp := hp.2 c_9
        obtain ⟨x_10, ex_10⟩ : ∃ z : Int32, z = x1 + 1 := ⟨_, rfl⟩
        replace hp := hp x_10 ex_10
        refine lv_iinc (v := x_10) (lv' := [(1, .int x_10), (0, .ref a0), (2, .int x2)]) hx hb dX11_misreadMoves_45 hl (k := 1) rfl (by rw [ex_10]; rfl) (by decide) rfl (fun ls hl => ?_)
        exact t_X11_misreadMoves_48 F hr hlocks hK ih hp hW hE (lv_sub hl [1, 0, 2] rfl) hL_a0 hK_a0
set_option maxHeartbeats 4000000 in
set_option maxRecDepth 100000 in
theorem t_X11_misreadMoves_0 {p : Program} {l : Launch} {e : Env} {s : State} {m : MethodId} {args : Array Value} {below : List Frame} {meth : Method} {c : Code} {D : wD} {cy : Nat → ClassId} {X : va_W} {A : Nat → Prop} {S0 : wS} {post : Int32 → wS → Prop} (F : CallFix p m c cX11_misreadMoves 3 s args wz_X11_misreadMoves RX11) (hr : meth.sig.returnType = (some .int)) (hlocks : meth.locks = false) (hK : wK D cy A s) : ∀ {S : wS} {H : Heap} {locs : List Loc} {ls : Array Slot} {a0 : Nat}, wp_X11_misreadMoves_0 D post S a0 → wO D cy X A s.heap S H locs → wX D S0 S → lv_has ls 3 [(0, .ref a0)] → wM D S a0 → sK S a0 = 16 → W p l e r_X11_misreadMoves s m args below meth c H locs 0 0 (MQ below (va_Qi (fun r S9 => wX D S0 S9 ∧ post r S9) (wB D cy X A) A) args s 0 0 A) (F0 m 0 ls []) := by
  obtain ⟨hx, hb, hml, hown, hts⟩ := id F
  have hwg : ∀ w ∈ WG, w.before args s = true := fun w h => hts w (List.mem_cons_of_mem _ h)
  have i_16 : ∀ w ∈ u_ws RX11 TX11 18, w ∈ wz_X11_misreadMoves := fun w h => List.mem_cons_of_mem _ (wu_16 w h)
  have k_28 := hwg _ wf_RX11_28
  have k_49 := hwg _ wf_RX11_49
  intro S H locs ls a0 hp hW hE hl hL_a0 hK_a0
  unfold wp_X11_misreadMoves_0 at hp
  refine lv_iconst (v := 0) hx hb dX11_misreadMoves_0 (by decide) ?_
  refine lv_istore_n (lv' := [(1, .int (0 : Int32)), (0, .ref a0)]) hx hb dX11_misreadMoves_1 rfl hl (by decide) rfl (fun ls hl => ?_)
  refine lv_aload_n hx hb dX11_misreadMoves_2 rfl (lv_at hl 1 rfl) ?_
  obtain ⟨y_1, ey_1, hL_y_1, hK_y_1, hp⟩ := hp
  refine w_get (k := 16) (f := 5) (T := TX11) (v := .ref y_1) F hK hW hL_a0 hK_a0 (by decide) rfl rfl (by decide) i_16 k_49 (by rw [show wv 16 5 S a0 = va_rf (sR S a0 5) from rfl, ey_1]; rfl) dX11_misreadMoves_3 ?_
  refine lv_aload_n hx hb dX11_misreadMoves_6 rfl (lv_at hl 1 rfl) ?_
  obtain ⟨y_2, ey_2, hL_y_2, hK_y_2, hp⟩ := hp
  refine w_get (k := 16) (f := 2) (T := TX11) (v := .ref y_2) F hK hW hL_a0 hK_a0 (by decide) rfl rfl (by decide) i_16 k_28 (by rw [show wv 16 2 S a0 = va_rf (sR S a0 2) from rfl, ey_2]; rfl) dX11_misreadMoves_7 ?_
  refine w_callV (va_runV (As := [.ref y_2]) (rest := []) F (c_X4_look l hL_y_1 hK_y_1 hL_y_2 hK_y_2 hp H.size) (cwV (C := RX4) 1 hts (wg_V wm_RX11_505 wy_X4_look) rfl rfl rfl (by decide +kernel) ⟨Nat.le_of_ble_eq_true rfl, Nat.le_of_ble_eq_true rfl⟩) (w_preV hK hW hL_y_1 hK_y_1 (by decide) rfl) rfl rfl hl.1 rfl (lv_room (Nat.le_of_ble_eq_true rfl)) dX11_misreadMoves_10 ⟨Nat.le_of_ble_eq_true rfl, Nat.le_of_ble_eq_true rfl⟩) hW (fun S_4 H locs hp hW => ?_)
  obtain ⟨hX_S_4, hp⟩ := hp
  refine W.widen (k := 0) (n := 0) (by decide) (by decide) ?_
  have hE := hE.trans hX_S_4
  have hK_a0 : sK S_4 a0 = 16 := (hX_S_4.2 a0 hL_a0).1.trans hK_a0
  have hL_a0 : wM D S_4 a0 := hX_S_4.M hL_a0
  refine lv_iconst (v := 0) hx hb dX11_misreadMoves_13 (by decide) ?_
  refine lv_istore_n (lv' := [(2, .int (0 : Int32)), (1, .int (0 : Int32)), (0, .ref a0)]) hx hb dX11_misreadMoves_14 rfl hl (by decide) rfl (fun ls hl => ?_)
  obtain ⟨n_5, hp⟩ := hp
  exact t_X11_misreadMoves_15 F hr hlocks hK n_5 hp hW hE (lv_sub hl [2, 1, 0] rfl) hL_a0 hK_a0
set_option maxHeartbeats 4000000 in
set_option maxRecDepth 100000 in
theorem c_X11_misreadMoves (l : Launch) {D : wD} {cy : Nat → ClassId} {X : va_W} {S0 : wS} {post : Int32 → wS → Prop} {a0 : Nat} (hL_a0 : wM D S0 a0) (hK_a0 : sK S0 a0 = 16) (hp : wp_X11_misreadMoves D post S0 a0) : mI D cy X l yX11_misreadMoves wz_X11_misreadMoves r_X11_misreadMoves [.ref a0] S0 (fun r S9 => wX D S0 S9 ∧ post r S9) := by
  intro sz
  refine Met.ofW (cc := cX11_misreadMoves) (maxL := 3) (ret := (some .int)) (by decide) rfl ?_
  intro p e s m args below meth c s₁ B hml hv
  obtain ⟨rfl, hsz, hP, hK, hD0, hRO⟩ := hv
  have hts := atoms_spec (ws := wz_X11_misreadMoves) B.pre
  have hown : s.vm.findClass RX11 = some m.cls := findClass_of_methodNamed B.named
  subst hsz
  have hD := hD0.self (sz := s.heap.size)
  have F : CallFix p m c cX11_misreadMoves 3 s _ wz_X11_misreadMoves RX11 := ⟨B.exec, B.bytes, hml, hown, hts⟩
  have hr := B.returns
  have hlocks := B.notSynchronized
  generalize hAe : va_A (wL cy X S0) s.heap.size = A at hD hK ⊢
  have hA : ∀ q, s.heap.size ≤ q → A q := fun q h => by rw [← hAe]; exact Or.inr h
  have hW : wO D cy X A s.heap S0 s.heap [] := ⟨hP, hD, va_S.rf, hA, hRO⟩
  have hl := lv_entry ([.ref a0]) (n := 3) (Nat.le_of_ble_eq_true rfl)
  rw [lg_entry_eq]
  generalize (lg_sl ([.ref a0]) ++ List.replicate (3 - (lg_sl ([.ref a0])).length) Slot.unset).toArray = ls at hl ⊢
  have hl : lv_has ls 3 [(0, .ref a0)] := hl
  unfold wp_X11_misreadMoves at hp
  exact t_X11_misreadMoves_0 F hr hlocks hK hp hW wX.rf (lv_sub hl [0] rfl) hL_a0 hK_a0
def wp_X11_errors_85 (D : wD) (post : Int32 → wS → Prop)  (S : wS) (t0 : Int32) : Prop :=
post t0 S
def wp_X11_errors_68 (D : wD) (post : Int32 → wS → Prop)  (S : wS) (a0 : Nat) (x1 : Int32) : Prop :=
wp_X11_isFirstLawful D (fun r_1 S_2 => 
((r_1 = 0 → wp_X11_errors_85 D post S_2 x1) ∧
 (¬ r_1 = 0 → wp_X11_misreadMoves D (fun r_4 S_5 => 
wp_X11_errors_85 D post S_5 (x1 + r_4)) S_2 a0))) S a0
def wp_X11_errors_35 (D : wD) (post : Int32 → wS → Prop)  (S : wS) (a0 : Nat) (x1 : Int32) : Prop :=
∃ y_1 : Nat, sR S a0 9 = some y_1 ∧ wM D S y_1 ∧ sK S y_1 = 15 ∧
∃ y_2 : Nat, sR S a0 2 = some y_2 ∧ wM D S y_2 ∧ sK S y_2 = 12 ∧
wp_X10_passing D (fun r_3 S_4 => 
∃ y_5 : Nat, sR S_4 a0 9 = some y_5 ∧ wM D S_4 y_5 ∧ sK S_4 y_5 = 15 ∧
∃ y_6 : Nat, sR S_4 a0 2 = some y_6 ∧ wM D S_4 y_6 ∧ sK S_4 y_6 = 12 ∧
∃ y_7 : Nat, sR S_4 a0 3 = some y_7 ∧ wM D S_4 y_7 ∧ sK S_4 y_7 = 12 ∧
wp_X10_replaysPassing D (fun r_8 S_9 => 
((r_3 = r_8 → wp_X11_errors_68 D post S_9 a0 x1) ∧
 (¬ r_3 = r_8 → ∀ x_11 : Int32, x_11 = x1 + 1 →
wp_X11_errors_68 D post S_9 a0 x_11))) S_4 y_5 y_6 y_7) S y_1 y_2 (-1 : Int32)
def wp_X11_errors_0 (D : wD) (post : Int32 → wS → Prop)  (S : wS) (a0 : Nat) : Prop :=
∃ y_1 : Nat, sR S a0 8 = some y_1 ∧ wM D S y_1 ∧ sK S y_1 = 15 ∧
∃ y_2 : Nat, sR S a0 2 = some y_2 ∧ wM D S y_2 ∧ sK S y_2 = 12 ∧
wp_X10_passing D (fun r_3 S_4 => 
∃ y_5 : Nat, sR S_4 a0 8 = some y_5 ∧ wM D S_4 y_5 ∧ sK S_4 y_5 = 15 ∧
∃ y_6 : Nat, sR S_4 a0 2 = some y_6 ∧ wM D S_4 y_6 ∧ sK S_4 y_6 = 12 ∧
∃ y_7 : Nat, sR S_4 a0 3 = some y_7 ∧ wM D S_4 y_7 ∧ sK S_4 y_7 = 12 ∧
wp_X10_replaysPassing D (fun r_8 S_9 => 
((r_3 = r_8 → wp_X11_errors_35 D post S_9 a0 (0 : Int32)) ∧
 (¬ r_3 = r_8 → ∀ x_11 : Int32, x_11 = (0 : Int32) + 1 →
wp_X11_errors_35 D post S_9 a0 x_11))) S_4 y_5 y_6 y_7) S y_1 y_2 (-1 : Int32)
abbrev r_X11_errors : Room := { frames := 8, cells := 0, slots := 0, locals := 180 }
def wp_X11_errors (D : wD) (post : Int32 → wS → Prop) (S : wS) (a0 : Nat) : Prop := wp_X11_errors_0 D post S a0
set_option maxHeartbeats 4000000 in
set_option maxRecDepth 100000 in
theorem t_X11_errors_85 {p : Program} {l : Launch} {e : Env} {s : State} {m : MethodId} {args : Array Value} {below : List Frame} {meth : Method} {c : Code} {D : wD} {cy : Nat → ClassId} {X : va_W} {A : Nat → Prop} {S0 : wS} {post : Int32 → wS → Prop} (F : CallFix p m c cX11_errors 2 s args wz_X11_errors RX11) (hr : meth.sig.returnType = (some .int)) (hlocks : meth.locks = false) (hK : wK D cy A s) : ∀ {S : wS} {H : Heap} {locs : List Loc} {ls : Array Slot} {t0 : Int32}, wp_X11_errors_85 D post S t0 → wO D cy X A s.heap S H locs → wX D S0 S → lv_has ls 2 [] → W p l e r_X11_errors s m args below meth c H locs 0 0 (MQ below (va_Qi (fun r S9 => wX D S0 S9 ∧ post r S9) (wB D cy X A) A) args s 0 0 A) (F0 m 85 ls [.int t0]) := by
  obtain ⟨hx, hb, hml, hown, hts⟩ := id F
  have hwg : ∀ w ∈ WG, w.before args s = true := fun w h => hts w (List.mem_cons_of_mem _ h)
  intro S H locs ls t0 hp hW hE hl
  unfold wp_X11_errors_85 at hp
  exact w_iret hx hb hr hlocks hW ⟨hE, hp⟩ dX11_errors_85
set_option maxHeartbeats 4000000 in
set_option maxRecDepth 100000 in
theorem t_X11_errors_68 {p : Program} {l : Launch} {e : Env} {s : State} {m : MethodId} {args : Array Value} {below : List Frame} {meth : Method} {c : Code} {D : wD} {cy : Nat → ClassId} {X : va_W} {A : Nat → Prop} {S0 : wS} {post : Int32 → wS → Prop} (F : CallFix p m c cX11_errors 2 s args wz_X11_errors RX11) (hr : meth.sig.returnType = (some .int)) (hlocks : meth.locks = false) (hK : wK D cy A s) : ∀ {S : wS} {H : Heap} {locs : List Loc} {ls : Array Slot} {a0 : Nat} {x1 : Int32}, wp_X11_errors_68 D post S a0 x1 → wO D cy X A s.heap S H locs → wX D S0 S → lv_has ls 2 [(0, .ref a0), (1, .int x1)] → wM D S a0 → sK S a0 = 16 → W p l e r_X11_errors s m args below meth c H locs 0 0 (MQ below (va_Qi (fun r S9 => wX D S0 S9 ∧ post r S9) (wB D cy X A) A) args s 0 0 A) (F0 m 68 ls []) := by
  obtain ⟨hx, hb, hml, hown, hts⟩ := id F
  have hwg : ∀ w ∈ WG, w.before args s = true := fun w h => hts w (List.mem_cons_of_mem _ h)
  intro S H locs ls a0 x1 hp hW hE hl hL_a0 hK_a0
  unfold wp_X11_errors_68 at hp
  refine lv_aload_n hx hb dX11_errors_68 rfl (lv_at hl 0 rfl) ?_
  refine w_callI (va_runV (As := []) (rest := []) F (c_X11_isFirstLawful l hL_a0 hK_a0 hp H.size) (cwV (C := RX11) 0 hts (wg_V wm_RX11_323 wy_X11_isFirstLawful) rfl rfl rfl (by decide +kernel) ⟨Nat.le_of_ble_eq_true rfl, Nat.le_of_ble_eq_true rfl⟩) (w_preV hK hW hL_a0 hK_a0 (by decide) rfl) rfl rfl hl.1 rfl (lv_room (Nat.le_of_ble_eq_true rfl)) dX11_errors_69 ⟨Nat.le_of_ble_eq_true rfl, Nat.le_of_ble_eq_true rfl⟩) hW (fun r_1 S_2 H locs hp hW => ?_)
  obtain ⟨hX_S_2, hp⟩ := hp
  refine W.widen (k := 0) (n := 0) (by decide) (by decide) ?_
  have hE := hE.trans hX_S_2
  have hK_a0 : sK S_2 a0 = 16 := (hX_S_2.2 a0 hL_a0).1.trans hK_a0
  have hL_a0 : wM D S_2 a0 := hX_S_2.M hL_a0
  refine lv_if_eq (tgt := 84) hx hb dX11_errors_72 (by decide) (fun c_3 => ?_) (fun c_3 => ?_)
  · replace hp := hp.1 c_3
    refine lv_iload_n hx hb dX11_errors_84 rfl (lv_at hl 1 rfl) ?_
    exact t_X11_errors_85 F hr hlocks hK hp hW hE (lv_sub hl [] rfl)
  · replace hp := hp.2 c_3
    refine lv_iload_n hx hb dX11_errors_75 rfl (lv_at hl 1 rfl) ?_
    refine lv_aload_n hx hb dX11_errors_76 rfl (lv_at hl 0 rfl) ?_
    refine w_callI (va_runV (As := []) (rest := [.int x1]) F (c_X11_misreadMoves l hL_a0 hK_a0 hp H.size) (cwV (C := RX11) 0 hts (wg_V wm_RX11_489 wy_X11_misreadMoves) rfl rfl rfl (by decide +kernel) ⟨Nat.le_of_ble_eq_true rfl, Nat.le_of_ble_eq_true rfl⟩) (w_preV hK hW hL_a0 hK_a0 (by decide) rfl) rfl rfl hl.1 rfl (lv_room (Nat.le_of_ble_eq_true rfl)) dX11_errors_77 ⟨Nat.le_of_ble_eq_true rfl, Nat.le_of_ble_eq_true rfl⟩) hW (fun r_4 S_5 H locs hp hW => ?_)
    obtain ⟨hX_S_5, hp⟩ := hp
    refine W.widen (k := 0) (n := 0) (by decide) (by decide) ?_
    have hE := hE.trans hX_S_5
    have hK_a0 : sK S_5 a0 = 16 := (hX_S_5.2 a0 hL_a0).1.trans hK_a0
    have hL_a0 : wM D S_5 a0 := hX_S_5.M hL_a0
    refine lv_iadd hx hb dX11_errors_80 ?_
    refine lv_goto (tgt := 85) hx hb dX11_errors_81 (by decide) ?_
    exact t_X11_errors_85 F hr hlocks hK hp hW hE (lv_sub hl [] rfl)
set_option maxHeartbeats 4000000 in
set_option maxRecDepth 100000 in
theorem t_X11_errors_35 {p : Program} {l : Launch} {e : Env} {s : State} {m : MethodId} {args : Array Value} {below : List Frame} {meth : Method} {c : Code} {D : wD} {cy : Nat → ClassId} {X : va_W} {A : Nat → Prop} {S0 : wS} {post : Int32 → wS → Prop} (F : CallFix p m c cX11_errors 2 s args wz_X11_errors RX11) (hr : meth.sig.returnType = (some .int)) (hlocks : meth.locks = false) (hK : wK D cy A s) : ∀ {S : wS} {H : Heap} {locs : List Loc} {ls : Array Slot} {a0 : Nat} {x1 : Int32}, wp_X11_errors_35 D post S a0 x1 → wO D cy X A s.heap S H locs → wX D S0 S → lv_has ls 2 [(0, .ref a0), (1, .int x1)] → wM D S a0 → sK S a0 = 16 → W p l e r_X11_errors s m args below meth c H locs 0 0 (MQ below (va_Qi (fun r S9 => wX D S0 S9 ∧ post r S9) (wB D cy X A) A) args s 0 0 A) (F0 m 35 ls []) := by
  obtain ⟨hx, hb, hml, hown, hts⟩ := id F
  have hwg : ∀ w ∈ WG, w.before args s = true := fun w h => hts w (List.mem_cons_of_mem _ h)
  have i_16 : ∀ w ∈ u_ws RX11 TX11 18, w ∈ wz_X11_errors := fun w h => List.mem_cons_of_mem _ (wu_16 w h)
  have k_28 := hwg _ wf_RX11_28
  have k_32 := hwg _ wf_RX11_32
  have k_76 := hwg _ wf_RX11_76
  intro S H locs ls a0 x1 hp hW hE hl hL_a0 hK_a0
  unfold wp_X11_errors_35 at hp
  refine lv_aload_n hx hb dX11_errors_35 rfl (lv_at hl 0 rfl) ?_
  obtain ⟨y_1, ey_1, hL_y_1, hK_y_1, hp⟩ := hp
  refine w_get (k := 16) (f := 9) (T := TX11) (v := .ref y_1) F hK hW hL_a0 hK_a0 (by decide) rfl rfl (by decide) i_16 k_76 (by rw [show wv 16 9 S a0 = va_rf (sR S a0 9) from rfl, ey_1]; rfl) dX11_errors_36 ?_
  refine lv_aload_n hx hb dX11_errors_39 rfl (lv_at hl 0 rfl) ?_
  obtain ⟨y_2, ey_2, hL_y_2, hK_y_2, hp⟩ := hp
  refine w_get (k := 16) (f := 2) (T := TX11) (v := .ref y_2) F hK hW hL_a0 hK_a0 (by decide) rfl rfl (by decide) i_16 k_28 (by rw [show wv 16 2 S a0 = va_rf (sR S a0 2) from rfl, ey_2]; rfl) dX11_errors_40 ?_
  refine lv_iconst (v := (-1)) hx hb dX11_errors_43 (by decide) ?_
  refine w_callI (va_runV (As := [.ref y_2, .int (-1 : Int32)]) (rest := []) F (c_X10_passing l hL_y_1 hK_y_1 hL_y_2 hK_y_2 hp H.size) (cwV (C := RX10) 2 hts (wg_V wm_RX11_362 wy_X10_passing) rfl rfl rfl (by decide +kernel) ⟨Nat.le_of_ble_eq_true rfl, Nat.le_of_ble_eq_true rfl⟩) (w_preV hK hW hL_y_1 hK_y_1 (by decide) rfl) rfl rfl hl.1 rfl (lv_room (Nat.le_of_ble_eq_true rfl)) dX11_errors_44 ⟨Nat.le_of_ble_eq_true rfl, Nat.le_of_ble_eq_true rfl⟩) hW (fun r_3 S_4 H locs hp hW => ?_)
  obtain ⟨hX_S_4, hp⟩ := hp
  refine W.widen (k := 0) (n := 0) (by decide) (by decide) ?_
  have hE := hE.trans hX_S_4
  have hK_a0 : sK S_4 a0 = 16 := (hX_S_4.2 a0 hL_a0).1.trans hK_a0
  have hL_a0 : wM D S_4 a0 := hX_S_4.M hL_a0
  refine lv_aload_n hx hb dX11_errors_47 rfl (lv_at hl 0 rfl) ?_
  obtain ⟨y_5, ey_5, hL_y_5, hK_y_5, hp⟩ := hp
  refine w_get (k := 16) (f := 9) (T := TX11) (v := .ref y_5) F hK hW hL_a0 hK_a0 (by decide) rfl rfl (by decide) i_16 k_76 (by rw [show wv 16 9 S_4 a0 = va_rf (sR S_4 a0 9) from rfl, ey_5]; rfl) dX11_errors_48 ?_
  refine lv_aload_n hx hb dX11_errors_51 rfl (lv_at hl 0 rfl) ?_
  obtain ⟨y_6, ey_6, hL_y_6, hK_y_6, hp⟩ := hp
  refine w_get (k := 16) (f := 2) (T := TX11) (v := .ref y_6) F hK hW hL_a0 hK_a0 (by decide) rfl rfl (by decide) i_16 k_28 (by rw [show wv 16 2 S_4 a0 = va_rf (sR S_4 a0 2) from rfl, ey_6]; rfl) dX11_errors_52 ?_
  refine lv_aload_n hx hb dX11_errors_55 rfl (lv_at hl 0 rfl) ?_
  obtain ⟨y_7, ey_7, hL_y_7, hK_y_7, hp⟩ := hp
  refine w_get (k := 16) (f := 3) (T := TX11) (v := .ref y_7) F hK hW hL_a0 hK_a0 (by decide) rfl rfl (by decide) i_16 k_32 (by rw [show wv 16 3 S_4 a0 = va_rf (sR S_4 a0 3) from rfl, ey_7]; rfl) dX11_errors_56 ?_
  refine w_callI (va_runV (As := [.ref y_6, .ref y_7]) (rest := [.int r_3]) F (c_X10_replaysPassing l hL_y_5 hK_y_5 hL_y_6 hK_y_6 hL_y_7 hK_y_7 hp H.size) (cwV (C := RX10) 2 hts (wg_V wm_RX11_485 wy_X10_replaysPassing) rfl rfl rfl (by decide +kernel) ⟨Nat.le_of_ble_eq_true rfl, Nat.le_of_ble_eq_true rfl⟩) (w_preV hK hW hL_y_5 hK_y_5 (by decide) rfl) rfl rfl hl.1 rfl (lv_room (Nat.le_of_ble_eq_true rfl)) dX11_errors_59 ⟨Nat.le_of_ble_eq_true rfl, Nat.le_of_ble_eq_true rfl⟩) hW (fun r_8 S_9 H locs hp hW => ?_)
  obtain ⟨hX_S_9, hp⟩ := hp
  refine W.widen (k := 0) (n := 0) (by decide) (by decide) ?_
  have hE := hE.trans hX_S_9
  have hK_a0 : sK S_9 a0 = 16 := (hX_S_9.2 a0 hL_a0).1.trans hK_a0
  have hL_a0 : wM D S_9 a0 := hX_S_9.M hL_a0
  refine lv_icmp_eq (tgt := 68) hx hb dX11_errors_62 (by decide) (fun c_10 => ?_) (fun c_10 => ?_)
  · replace hp := hp.1 c_10
    exact t_X11_errors_68 F hr hlocks hK hp hW hE (lv_sub hl [0, 1] rfl) hL_a0 hK_a0
  · replace hp := hp.2 c_10
    obtain ⟨x_11, ex_11⟩ : ∃ z : Int32, z = x1 + 1 := ⟨_, rfl⟩
    replace hp := hp x_11 ex_11
    refine lv_iinc (v := x_11) (lv' := [(1, .int x_11), (0, .ref a0)]) hx hb dX11_errors_65 hl (k := 1) rfl (by rw [ex_11]; rfl) (by decide) rfl (fun ls hl => ?_)
    exact t_X11_errors_68 F hr hlocks hK hp hW hE (lv_sub hl [1, 0] rfl) hL_a0 hK_a0
set_option maxHeartbeats 4000000 in
set_option maxRecDepth 100000 in
theorem t_X11_errors_0 {p : Program} {l : Launch} {e : Env} {s : State} {m : MethodId} {args : Array Value} {below : List Frame} {meth : Method} {c : Code} {D : wD} {cy : Nat → ClassId} {X : va_W} {A : Nat → Prop} {S0 : wS} {post : Int32 → wS → Prop} (F : CallFix p m c cX11_errors 2 s args wz_X11_errors RX11) (hr : meth.sig.returnType = (some .int)) (hlocks : meth.locks = false) (hK : wK D cy A s) : ∀ {S : wS} {H : Heap} {locs : List Loc} {ls : Array Slot} {a0 : Nat}, wp_X11_errors_0 D post S a0 → wO D cy X A s.heap S H locs → wX D S0 S → lv_has ls 2 [(0, .ref a0)] → wM D S a0 → sK S a0 = 16 → W p l e r_X11_errors s m args below meth c H locs 0 0 (MQ below (va_Qi (fun r S9 => wX D S0 S9 ∧ post r S9) (wB D cy X A) A) args s 0 0 A) (F0 m 0 ls []) := by
  obtain ⟨hx, hb, hml, hown, hts⟩ := id F
  have hwg : ∀ w ∈ WG, w.before args s = true := fun w h => hts w (List.mem_cons_of_mem _ h)
  have i_16 : ∀ w ∈ u_ws RX11 TX11 18, w ∈ wz_X11_errors := fun w h => List.mem_cons_of_mem _ (wu_16 w h)
  have k_28 := hwg _ wf_RX11_28
  have k_32 := hwg _ wf_RX11_32
  have k_72 := hwg _ wf_RX11_72
  intro S H locs ls a0 hp hW hE hl hL_a0 hK_a0
  unfold wp_X11_errors_0 at hp
  refine lv_iconst (v := 0) hx hb dX11_errors_0 (by decide) ?_
  refine lv_istore_n (lv' := [(1, .int (0 : Int32)), (0, .ref a0)]) hx hb dX11_errors_1 rfl hl (by decide) rfl (fun ls hl => ?_)
  refine lv_aload_n hx hb dX11_errors_2 rfl (lv_at hl 1 rfl) ?_
  obtain ⟨y_1, ey_1, hL_y_1, hK_y_1, hp⟩ := hp
  refine w_get (k := 16) (f := 8) (T := TX11) (v := .ref y_1) F hK hW hL_a0 hK_a0 (by decide) rfl rfl (by decide) i_16 k_72 (by rw [show wv 16 8 S a0 = va_rf (sR S a0 8) from rfl, ey_1]; rfl) dX11_errors_3 ?_
  refine lv_aload_n hx hb dX11_errors_6 rfl (lv_at hl 1 rfl) ?_
  obtain ⟨y_2, ey_2, hL_y_2, hK_y_2, hp⟩ := hp
  refine w_get (k := 16) (f := 2) (T := TX11) (v := .ref y_2) F hK hW hL_a0 hK_a0 (by decide) rfl rfl (by decide) i_16 k_28 (by rw [show wv 16 2 S a0 = va_rf (sR S a0 2) from rfl, ey_2]; rfl) dX11_errors_7 ?_
  refine lv_iconst (v := (-1)) hx hb dX11_errors_10 (by decide) ?_
  refine w_callI (va_runV (As := [.ref y_2, .int (-1 : Int32)]) (rest := []) F (c_X10_passing l hL_y_1 hK_y_1 hL_y_2 hK_y_2 hp H.size) (cwV (C := RX10) 2 hts (wg_V wm_RX11_362 wy_X10_passing) rfl rfl rfl (by decide +kernel) ⟨Nat.le_of_ble_eq_true rfl, Nat.le_of_ble_eq_true rfl⟩) (w_preV hK hW hL_y_1 hK_y_1 (by decide) rfl) rfl rfl hl.1 rfl (lv_room (Nat.le_of_ble_eq_true rfl)) dX11_errors_11 ⟨Nat.le_of_ble_eq_true rfl, Nat.le_of_ble_eq_true rfl⟩) hW (fun r_3 S_4 H locs hp hW => ?_)
  obtain ⟨hX_S_4, hp⟩ := hp
  refine W.widen (k := 0) (n := 0) (by decide) (by decide) ?_
  have hE := hE.trans hX_S_4
  have hK_a0 : sK S_4 a0 = 16 := (hX_S_4.2 a0 hL_a0).1.trans hK_a0
  have hL_a0 : wM D S_4 a0 := hX_S_4.M hL_a0
  refine lv_aload_n hx hb dX11_errors_14 rfl (lv_at hl 1 rfl) ?_
  obtain ⟨y_5, ey_5, hL_y_5, hK_y_5, hp⟩ := hp
  refine w_get (k := 16) (f := 8) (T := TX11) (v := .ref y_5) F hK hW hL_a0 hK_a0 (by decide) rfl rfl (by decide) i_16 k_72 (by rw [show wv 16 8 S_4 a0 = va_rf (sR S_4 a0 8) from rfl, ey_5]; rfl) dX11_errors_15 ?_
  refine lv_aload_n hx hb dX11_errors_18 rfl (lv_at hl 1 rfl) ?_
  obtain ⟨y_6, ey_6, hL_y_6, hK_y_6, hp⟩ := hp
  refine w_get (k := 16) (f := 2) (T := TX11) (v := .ref y_6) F hK hW hL_a0 hK_a0 (by decide) rfl rfl (by decide) i_16 k_28 (by rw [show wv 16 2 S_4 a0 = va_rf (sR S_4 a0 2) from rfl, ey_6]; rfl) dX11_errors_19 ?_
  refine lv_aload_n hx hb dX11_errors_22 rfl (lv_at hl 1 rfl) ?_
  obtain ⟨y_7, ey_7, hL_y_7, hK_y_7, hp⟩ := hp
  refine w_get (k := 16) (f := 3) (T := TX11) (v := .ref y_7) F hK hW hL_a0 hK_a0 (by decide) rfl rfl (by decide) i_16 k_32 (by rw [show wv 16 3 S_4 a0 = va_rf (sR S_4 a0 3) from rfl, ey_7]; rfl) dX11_errors_23 ?_
  refine w_callI (va_runV (As := [.ref y_6, .ref y_7]) (rest := [.int r_3]) F (c_X10_replaysPassing l hL_y_5 hK_y_5 hL_y_6 hK_y_6 hL_y_7 hK_y_7 hp H.size) (cwV (C := RX10) 2 hts (wg_V wm_RX11_485 wy_X10_replaysPassing) rfl rfl rfl (by decide +kernel) ⟨Nat.le_of_ble_eq_true rfl, Nat.le_of_ble_eq_true rfl⟩) (w_preV hK hW hL_y_5 hK_y_5 (by decide) rfl) rfl rfl hl.1 rfl (lv_room (Nat.le_of_ble_eq_true rfl)) dX11_errors_26 ⟨Nat.le_of_ble_eq_true rfl, Nat.le_of_ble_eq_true rfl⟩) hW (fun r_8 S_9 H locs hp hW => ?_)
  obtain ⟨hX_S_9, hp⟩ := hp
  refine W.widen (k := 0) (n := 0) (by decide) (by decide) ?_
  have hE := hE.trans hX_S_9
  have hK_a0 : sK S_9 a0 = 16 := (hX_S_9.2 a0 hL_a0).1.trans hK_a0
  have hL_a0 : wM D S_9 a0 := hX_S_9.M hL_a0
  refine lv_icmp_eq (tgt := 35) hx hb dX11_errors_29 (by decide) (fun c_10 => ?_) (fun c_10 => ?_)
  · replace hp := hp.1 c_10
    exact t_X11_errors_35 F hr hlocks hK hp hW hE (lv_sub hl [1, 0] rfl) hL_a0 hK_a0
  · replace hp := hp.2 c_10
    obtain ⟨x_11, ex_11⟩ : ∃ z : Int32, z = (0 : Int32) + 1 := ⟨_, rfl⟩
    replace hp := hp x_11 ex_11
    refine lv_iinc (v := x_11) (lv' := [(1, .int x_11), (0, .ref a0)]) hx hb dX11_errors_32 hl (k := 0) rfl (by rw [ex_11]; rfl) (by decide) rfl (fun ls hl => ?_)
    exact t_X11_errors_35 F hr hlocks hK hp hW hE (lv_sub hl [1, 0] rfl) hL_a0 hK_a0
set_option maxHeartbeats 4000000 in
set_option maxRecDepth 100000 in
theorem c_X11_errors (l : Launch) {D : wD} {cy : Nat → ClassId} {X : va_W} {S0 : wS} {post : Int32 → wS → Prop} {a0 : Nat} (hL_a0 : wM D S0 a0) (hK_a0 : sK S0 a0 = 16) (hp : wp_X11_errors D post S0 a0) : mI D cy X l yX11_errors wz_X11_errors r_X11_errors [.ref a0] S0 (fun r S9 => wX D S0 S9 ∧ post r S9) := by
  intro sz
  refine Met.ofW (cc := cX11_errors) (maxL := 2) (ret := (some .int)) (by decide) rfl ?_
  intro p e s m args below meth c s₁ B hml hv
  obtain ⟨rfl, hsz, hP, hK, hD0, hRO⟩ := hv
  have hts := atoms_spec (ws := wz_X11_errors) B.pre
  have hown : s.vm.findClass RX11 = some m.cls := findClass_of_methodNamed B.named
  subst hsz
  have hD := hD0.self (sz := s.heap.size)
  have F : CallFix p m c cX11_errors 2 s _ wz_X11_errors RX11 := ⟨B.exec, B.bytes, hml, hown, hts⟩
  have hr := B.returns
  have hlocks := B.notSynchronized
  generalize hAe : va_A (wL cy X S0) s.heap.size = A at hD hK ⊢
  have hA : ∀ q, s.heap.size ≤ q → A q := fun q h => by rw [← hAe]; exact Or.inr h
  have hW : wO D cy X A s.heap S0 s.heap [] := ⟨hP, hD, va_S.rf, hA, hRO⟩
  have hl := lv_entry ([.ref a0]) (n := 2) (Nat.le_of_ble_eq_true rfl)
  rw [lg_entry_eq]
  generalize (lg_sl ([.ref a0]) ++ List.replicate (2 - (lg_sl ([.ref a0])).length) Slot.unset).toArray = ls at hl ⊢
  have hl : lv_has ls 2 [(0, .ref a0)] := hl
  unfold wp_X11_errors at hp
  exact t_X11_errors_0 F hr hlocks hK hp hW wX.rf (lv_sub hl [0] rfl) hL_a0 hK_a0
def wp_X5_endOfToken_105 (D : wD) (post : Int32 → wS → Prop)  (S : wS) (x4 : Int32) : Prop :=
post x4 S
def wp_X5_endOfToken_81 (D : wD) (post : Int32 → wS → Prop)  : Nat → wS → Nat → Int32 → Int32 → Prop
  | 0, _, _, _, _ => False
  | n + 1, S, a0, x2, x4 =>
    ((x2 ≤ x4 → wp_X5_endOfToken_105 D post S x4) ∧
     (¬ x2 ≤ x4 → wp_J4_charAt_5068e D (fun r_2 S_3 => 
    wp_X5_isBorder D (fun r_4 S_5 => 
    ((¬ r_4 = 0 → wp_X5_endOfToken_105 D post S_5 x4) ∧
     (r_4 = 0 → ∀ x_7 : Int32, x_7 = x4 + 1 →
    wp_X5_endOfToken_81 D post n S_5 a0 x2 x_7))) S_3 r_2) S a0 x4))
def wp_X5_endOfToken_33 (D : wD) (post : Int32 → wS → Prop)  : Nat → wS → Nat → Int32 → Int32 → Prop
  | 0, _, _, _, _ => False
  | n + 1, S, a0, x2, x4 =>
    ((x2 ≤ x4 → post (x2 + (1 : Int32)) S) ∧
     (¬ x2 ≤ x4 → wp_J4_charAt_5068e D (fun r_2 S_3 => 
    ((¬ r_2 = (125 : Int32) → ∀ x_5 : Int32, x_5 = x4 + 1 →
    wp_X5_endOfToken_33 D post n S_3 a0 x2 x_5) ∧
     (r_2 = (125 : Int32) → post (x4 + (1 : Int32)) S_3))) S a0 x4))
def wp_X5_endOfToken_14 (D : wD) (post : Int32 → wS → Prop)  (S : wS) (x2 : Int32) : Prop :=
post x2 S
def wp_X5_endOfToken_0 (D : wD) (post : Int32 → wS → Prop)  (S : wS) (a0 : Nat) (x1 : Int32) : Prop :=
wp_J4_length_8abf5 D (fun r_1 S_2 => 
((x1 < 0 → wp_X5_endOfToken_14 D post S_2 r_1) ∧
 (¬ x1 < 0 → ((x1 < r_1 → wp_J4_charAt_5068e D (fun r_5 S_6 => 
((¬ r_5 = (123 : Int32) → wp_X5_isBorder D (fun r_8 S_9 => 
((r_8 = 0 → ∀ x_11 : Int32, x_11 = (x1 + (1 : Int32)) →
∃ n_12 : Nat, wp_X5_endOfToken_81 D post n_12 S_9 a0 r_1 x_11) ∧
 (¬ r_8 = 0 → post (x1 + (1 : Int32)) S_9))) S_6 r_5) ∧
 (r_5 = (123 : Int32) → ∀ x_13 : Int32, x_13 = (x1 + (1 : Int32)) →
∃ n_14 : Nat, wp_X5_endOfToken_33 D post n_14 S_6 a0 r_1 x_13))) S_2 a0 x1) ∧
 (¬ x1 < r_1 → wp_X5_endOfToken_14 D post S_2 r_1))))) S a0
abbrev r_X5_endOfToken : Room := { frames := 4, cells := 0, slots := 0, locals := 88 }
def wp_X5_endOfToken (D : wD) (post : Int32 → wS → Prop) (S : wS) (a0 : Nat) (x1 : Int32) : Prop := wp_X5_endOfToken_0 D post S a0 x1
set_option maxHeartbeats 4000000 in
set_option maxRecDepth 100000 in
theorem t_X5_endOfToken_105 {p : Program} {l : Launch} {e : Env} {s : State} {m : MethodId} {args : Array Value} {below : List Frame} {meth : Method} {c : Code} {D : wD} {cy : Nat → ClassId} {X : va_W} {A : Nat → Prop} {S0 : wS} {post : Int32 → wS → Prop} (F : CallFix p m c cX5_endOfToken 5 s args wz_X5_endOfToken RX5) (hr : meth.sig.returnType = (some .int)) (hlocks : meth.locks = false) (hK : wK D cy A s) : ∀ {S : wS} {H : Heap} {locs : List Loc} {ls : Array Slot} {x4 : Int32}, wp_X5_endOfToken_105 D post S x4 → wO D cy X A s.heap S H locs → wX D S0 S → lv_has ls 5 [(4, .int x4)] → W p l e r_X5_endOfToken s m args below meth c H locs 0 0 (MQ below (va_Qi (fun r S9 => wX D S0 S9 ∧ post r S9) (wB D cy X A) A) args s 0 0 A) (F0 m 105 ls []) := by
  obtain ⟨hx, hb, hml, hown, hts⟩ := id F
  have hwg : ∀ w ∈ WG, w.before args s = true := fun w h => hts w (List.mem_cons_of_mem _ h)
  intro S H locs ls x4 hp hW hE hl
  unfold wp_X5_endOfToken_105 at hp
  refine lv_iload hx hb dX5_endOfToken_105 (lv_at hl 0 rfl) ?_
  exact w_iret hx hb hr hlocks hW ⟨hE, hp⟩ dX5_endOfToken_107
set_option maxHeartbeats 4000000 in
set_option maxRecDepth 100000 in
theorem t_X5_endOfToken_81 {p : Program} {l : Launch} {e : Env} {s : State} {m : MethodId} {args : Array Value} {below : List Frame} {meth : Method} {c : Code} {D : wD} {cy : Nat → ClassId} {X : va_W} {A : Nat → Prop} {S0 : wS} {post : Int32 → wS → Prop} (F : CallFix p m c cX5_endOfToken 5 s args wz_X5_endOfToken RX5) (hr : meth.sig.returnType = (some .int)) (hlocks : meth.locks = false) (hK : wK D cy A s) : ∀ (n : Nat) {S : wS} {H : Heap} {locs : List Loc} {ls : Array Slot} {a0 : Nat} {x2 : Int32} {x4 : Int32}, wp_X5_endOfToken_81 D post n S a0 x2 x4 → wO D cy X A s.heap S H locs → wX D S0 S → lv_has ls 5 [(0, .ref a0), (2, .int x2), (4, .int x4)] → wM D S a0 → sK S a0 = 1 → W p l e r_X5_endOfToken s m args below meth c H locs 0 0 (MQ below (va_Qi (fun r S9 => wX D S0 S9 ∧ post r S9) (wB D cy X A) A) args s 0 0 A) (F0 m 81 ls []) := by
  obtain ⟨hx, hb, hml, hown, hts⟩ := id F
  have hwg : ∀ w ∈ WG, w.before args s = true := fun w h => hts w (List.mem_cons_of_mem _ h)
  intro n
  induction n with
  | zero =>
    intro S H locs ls a0 x2 x4 hp
    exact hp.elim
  | succ n ih =>
    intro S H locs ls a0 x2 x4 hp hW hE hl hL_a0 hK_a0
    unfold wp_X5_endOfToken_81 at hp
    refine lv_iload hx hb dX5_endOfToken_81 (lv_at hl 2 rfl) ?_
    refine lv_iload_n hx hb dX5_endOfToken_83 rfl (lv_at hl 1 rfl) ?_
    refine lv_icmp_ge (tgt := 105) hx hb dX5_endOfToken_84 (by decide) (fun c_1 => ?_) (fun c_1 => ?_)
    · replace hp := hp.1 c_1
      exact t_X5_endOfToken_105 F hr hlocks hK hp hW hE (lv_sub hl [2] rfl)
    · replace hp := hp.2 c_1
      refine lv_aload_n hx hb dX5_endOfToken_87 rfl (lv_at hl 0 rfl) ?_
      refine lv_iload hx hb dX5_endOfToken_88 (lv_at hl 2 rfl) ?_
      refine w_callI (va_runV (As := [.int x4]) (rest := []) F (c_J4_charAt_5068e l hL_a0 hK_a0 hp H.size) (cwV (C := RJ4) 1 hts (wg_V wm_RX5_87 wy_J4_charAt_5068e) rfl rfl rfl (by decide +kernel) ⟨Nat.le_of_ble_eq_true rfl, Nat.le_of_ble_eq_true rfl⟩) (w_preV hK hW hL_a0 hK_a0 (by decide) rfl) rfl rfl hl.1 rfl (lv_room (Nat.le_of_ble_eq_true rfl)) dX5_endOfToken_90 ⟨Nat.le_of_ble_eq_true rfl, Nat.le_of_ble_eq_true rfl⟩) hW (fun r_2 S_3 H locs hp hW => ?_)
      obtain ⟨hX_S_3, hp⟩ := hp
      refine W.widen (k := 0) (n := 0) (by decide) (by decide) ?_
      have hE := hE.trans hX_S_3
      have hK_a0 : sK S_3 a0 = 1 := (hX_S_3.2 a0 hL_a0).1.trans hK_a0
      have hL_a0 : wM D S_3 a0 := hX_S_3.M hL_a0
      refine w_callI (va_runS (As := [.int r_2]) (rest := []) F (c_X5_isBorder l hp H.size) (va_cwS 1 hts (wg_S wm_RX5_91 wy_X5_isBorder) rfl rfl rfl (by decide +kernel) ⟨Nat.le_of_ble_eq_true rfl, Nat.le_of_ble_eq_true rfl⟩) (w_preS hK hW) rfl rfl hl.1 rfl (lv_room (Nat.le_of_ble_eq_true rfl)) dX5_endOfToken_93 ⟨Nat.le_of_ble_eq_true rfl, Nat.le_of_ble_eq_true rfl⟩) hW (fun r_4 S_5 H locs hp hW => ?_)
      obtain ⟨hX_S_5, hp⟩ := hp
      refine W.widen (k := 0) (n := 0) (by decide) (by decide) ?_
      have hE := hE.trans hX_S_5
      have hK_a0 : sK S_5 a0 = 1 := (hX_S_5.2 a0 hL_a0).1.trans hK_a0
      have hL_a0 : wM D S_5 a0 := hX_S_5.M hL_a0
      refine lv_if_ne (tgt := 105) hx hb dX5_endOfToken_96 (by decide) (fun c_6 => ?_) (fun c_6 => ?_)
      · replace hp := hp.1 c_6
        exact t_X5_endOfToken_105 F hr hlocks hK hp hW hE (lv_sub hl [2] rfl)
      · replace hp := hp.2 c_6
        obtain ⟨x_7, ex_7⟩ : ∃ z : Int32, z = x4 + 1 := ⟨_, rfl⟩
        replace hp := hp x_7 ex_7
        refine lv_iinc (v := x_7) (lv' := [(4, .int x_7), (0, .ref a0), (2, .int x2)]) hx hb dX5_endOfToken_99 hl (k := 2) rfl (by rw [ex_7]; rfl) (by decide) rfl (fun ls hl => ?_)
        refine lv_goto (tgt := 81) hx hb dX5_endOfToken_102 (by decide) ?_
        exact ih hp hW hE (lv_sub hl [1, 2, 0] rfl) hL_a0 hK_a0
set_option maxHeartbeats 4000000 in
set_option maxRecDepth 100000 in
theorem t_X5_endOfToken_33 {p : Program} {l : Launch} {e : Env} {s : State} {m : MethodId} {args : Array Value} {below : List Frame} {meth : Method} {c : Code} {D : wD} {cy : Nat → ClassId} {X : va_W} {A : Nat → Prop} {S0 : wS} {post : Int32 → wS → Prop} (F : CallFix p m c cX5_endOfToken 5 s args wz_X5_endOfToken RX5) (hr : meth.sig.returnType = (some .int)) (hlocks : meth.locks = false) (hK : wK D cy A s) : ∀ (n : Nat) {S : wS} {H : Heap} {locs : List Loc} {ls : Array Slot} {a0 : Nat} {x2 : Int32} {x4 : Int32}, wp_X5_endOfToken_33 D post n S a0 x2 x4 → wO D cy X A s.heap S H locs → wX D S0 S → lv_has ls 5 [(0, .ref a0), (2, .int x2), (4, .int x4)] → wM D S a0 → sK S a0 = 1 → W p l e r_X5_endOfToken s m args below meth c H locs 0 0 (MQ below (va_Qi (fun r S9 => wX D S0 S9 ∧ post r S9) (wB D cy X A) A) args s 0 0 A) (F0 m 33 ls []) := by
  obtain ⟨hx, hb, hml, hown, hts⟩ := id F
  have hwg : ∀ w ∈ WG, w.before args s = true := fun w h => hts w (List.mem_cons_of_mem _ h)
  intro n
  induction n with
  | zero =>
    intro S H locs ls a0 x2 x4 hp
    exact hp.elim
  | succ n ih =>
    intro S H locs ls a0 x2 x4 hp hW hE hl hL_a0 hK_a0
    unfold wp_X5_endOfToken_33 at hp
    refine lv_iload hx hb dX5_endOfToken_33 (lv_at hl 2 rfl) ?_
    refine lv_iload_n hx hb dX5_endOfToken_35 rfl (lv_at hl 1 rfl) ?_
    refine lv_icmp_ge (tgt := 61) hx hb dX5_endOfToken_36 (by decide) (fun c_1 => ?_) (fun c_1 => ?_)
    · replace hp := hp.1 c_1
      refine lv_iload_n hx hb dX5_endOfToken_61 rfl (lv_at hl 1 rfl) ?_
      refine lv_iconst (v := 1) hx hb dX5_endOfToken_62 (by decide) ?_
      refine lv_iadd hx hb dX5_endOfToken_63 ?_
      exact w_iret hx hb hr hlocks hW ⟨hE, hp⟩ dX5_endOfToken_64
    · replace hp := hp.2 c_1
      refine lv_aload_n hx hb dX5_endOfToken_39 rfl (lv_at hl 0 rfl) ?_
      refine lv_iload hx hb dX5_endOfToken_40 (lv_at hl 2 rfl) ?_
      refine w_callI (va_runV (As := [.int x4]) (rest := []) F (c_J4_charAt_5068e l hL_a0 hK_a0 hp H.size) (cwV (C := RJ4) 1 hts (wg_V wm_RX5_87 wy_J4_charAt_5068e) rfl rfl rfl (by decide +kernel) ⟨Nat.le_of_ble_eq_true rfl, Nat.le_of_ble_eq_true rfl⟩) (w_preV hK hW hL_a0 hK_a0 (by decide) rfl) rfl rfl hl.1 rfl (lv_room (Nat.le_of_ble_eq_true rfl)) dX5_endOfToken_42 ⟨Nat.le_of_ble_eq_true rfl, Nat.le_of_ble_eq_true rfl⟩) hW (fun r_2 S_3 H locs hp hW => ?_)
      obtain ⟨hX_S_3, hp⟩ := hp
      refine W.widen (k := 0) (n := 0) (by decide) (by decide) ?_
      have hE := hE.trans hX_S_3
      have hK_a0 : sK S_3 a0 = 1 := (hX_S_3.2 a0 hL_a0).1.trans hK_a0
      have hL_a0 : wM D S_3 a0 := hX_S_3.M hL_a0
      refine lv_bipush (v := 125) hx hb dX5_endOfToken_45 (by decide) ?_
      refine lv_icmp_ne (tgt := 55) hx hb dX5_endOfToken_47 (by decide) (fun c_4 => ?_) (fun c_4 => ?_)
      · replace hp := hp.1 c_4
        obtain ⟨x_5, ex_5⟩ : ∃ z : Int32, z = x4 + 1 := ⟨_, rfl⟩
        replace hp := hp x_5 ex_5
        refine lv_iinc (v := x_5) (lv' := [(4, .int x_5), (0, .ref a0), (2, .int x2)]) hx hb dX5_endOfToken_55 hl (k := 2) rfl (by rw [ex_5]; rfl) (by decide) rfl (fun ls hl => ?_)
        refine lv_goto (tgt := 33) hx hb dX5_endOfToken_58 (by decide) ?_
        exact ih hp hW hE (lv_sub hl [1, 2, 0] rfl) hL_a0 hK_a0
      · replace hp := hp.2 c_4
        refine lv_iload hx hb dX5_endOfToken_50 (lv_at hl 2 rfl) ?_
        refine lv_iconst (v := 1) hx hb dX5_endOfToken_52 (by decide) ?_
        refine lv_iadd hx hb dX5_endOfToken_53 ?_
        exact w_iret hx hb hr hlocks hW ⟨hE, hp⟩ dX5_endOfToken_54
set_option maxHeartbeats 4000000 in
set_option maxRecDepth 100000 in
theorem t_X5_endOfToken_14 {p : Program} {l : Launch} {e : Env} {s : State} {m : MethodId} {args : Array Value} {below : List Frame} {meth : Method} {c : Code} {D : wD} {cy : Nat → ClassId} {X : va_W} {A : Nat → Prop} {S0 : wS} {post : Int32 → wS → Prop} (F : CallFix p m c cX5_endOfToken 5 s args wz_X5_endOfToken RX5) (hr : meth.sig.returnType = (some .int)) (hlocks : meth.locks = false) (hK : wK D cy A s) : ∀ {S : wS} {H : Heap} {locs : List Loc} {ls : Array Slot} {x2 : Int32}, wp_X5_endOfToken_14 D post S x2 → wO D cy X A s.heap S H locs → wX D S0 S → lv_has ls 5 [(2, .int x2)] → W p l e r_X5_endOfToken s m args below meth c H locs 0 0 (MQ below (va_Qi (fun r S9 => wX D S0 S9 ∧ post r S9) (wB D cy X A) A) args s 0 0 A) (F0 m 14 ls []) := by
  obtain ⟨hx, hb, hml, hown, hts⟩ := id F
  have hwg : ∀ w ∈ WG, w.before args s = true := fun w h => hts w (List.mem_cons_of_mem _ h)
  intro S H locs ls x2 hp hW hE hl
  unfold wp_X5_endOfToken_14 at hp
  refine lv_iload_n hx hb dX5_endOfToken_14 rfl (lv_at hl 0 rfl) ?_
  exact w_iret hx hb hr hlocks hW ⟨hE, hp⟩ dX5_endOfToken_15
set_option maxHeartbeats 4000000 in
set_option maxRecDepth 100000 in
theorem t_X5_endOfToken_0 {p : Program} {l : Launch} {e : Env} {s : State} {m : MethodId} {args : Array Value} {below : List Frame} {meth : Method} {c : Code} {D : wD} {cy : Nat → ClassId} {X : va_W} {A : Nat → Prop} {S0 : wS} {post : Int32 → wS → Prop} (F : CallFix p m c cX5_endOfToken 5 s args wz_X5_endOfToken RX5) (hr : meth.sig.returnType = (some .int)) (hlocks : meth.locks = false) (hK : wK D cy A s) : ∀ {S : wS} {H : Heap} {locs : List Loc} {ls : Array Slot} {a0 : Nat} {x1 : Int32}, wp_X5_endOfToken_0 D post S a0 x1 → wO D cy X A s.heap S H locs → wX D S0 S → lv_has ls 5 [(0, .ref a0), (1, .int x1)] → wM D S a0 → sK S a0 = 1 → W p l e r_X5_endOfToken s m args below meth c H locs 0 0 (MQ below (va_Qi (fun r S9 => wX D S0 S9 ∧ post r S9) (wB D cy X A) A) args s 0 0 A) (F0 m 0 ls []) := by
  obtain ⟨hx, hb, hml, hown, hts⟩ := id F
  have hwg : ∀ w ∈ WG, w.before args s = true := fun w h => hts w (List.mem_cons_of_mem _ h)
  intro S H locs ls a0 x1 hp hW hE hl hL_a0 hK_a0
  unfold wp_X5_endOfToken_0 at hp
  refine lv_aload_n hx hb dX5_endOfToken_0 rfl (lv_at hl 0 rfl) ?_
  refine w_callI (va_runV (As := []) (rest := []) F (c_J4_length_8abf5 l hL_a0 hK_a0 hp H.size) (cwV (C := RJ4) 0 hts (wg_V wm_RX5_65 wy_J4_length_8abf5) rfl rfl rfl (by decide +kernel) ⟨Nat.le_of_ble_eq_true rfl, Nat.le_of_ble_eq_true rfl⟩) (w_preV hK hW hL_a0 hK_a0 (by decide) rfl) rfl rfl hl.1 rfl (lv_room (Nat.le_of_ble_eq_true rfl)) dX5_endOfToken_1 ⟨Nat.le_of_ble_eq_true rfl, Nat.le_of_ble_eq_true rfl⟩) hW (fun r_1 S_2 H locs hp hW => ?_)
  obtain ⟨hX_S_2, hp⟩ := hp
  refine W.widen (k := 0) (n := 0) (by decide) (by decide) ?_
  have hE := hE.trans hX_S_2
  have hK_a0 : sK S_2 a0 = 1 := (hX_S_2.2 a0 hL_a0).1.trans hK_a0
  have hL_a0 : wM D S_2 a0 := hX_S_2.M hL_a0
  refine lv_istore_n (lv' := [(2, .int r_1), (0, .ref a0), (1, .int x1)]) hx hb dX5_endOfToken_4 rfl hl (by decide) rfl (fun ls hl => ?_)
  refine lv_iload_n hx hb dX5_endOfToken_5 rfl (lv_at hl 2 rfl) ?_
  refine lv_if_lt (tgt := 14) hx hb dX5_endOfToken_6 (by decide) (fun c_3 => ?_) (fun c_3 => ?_)
  · replace hp := hp.1 c_3
    exact t_X5_endOfToken_14 F hr hlocks hK hp hW hE (lv_sub hl [0] rfl)
  · replace hp := hp.2 c_3
    refine lv_iload_n hx hb dX5_endOfToken_9 rfl (lv_at hl 2 rfl) ?_
    refine lv_iload_n hx hb dX5_endOfToken_10 rfl (lv_at hl 0 rfl) ?_
    refine lv_icmp_lt (tgt := 16) hx hb dX5_endOfToken_11 (by decide) (fun c_4 => ?_) (fun c_4 => ?_)
    · replace hp := hp.1 c_4
      refine lv_aload_n hx hb dX5_endOfToken_16 rfl (lv_at hl 1 rfl) ?_
      refine lv_iload_n hx hb dX5_endOfToken_17 rfl (lv_at hl 2 rfl) ?_
      refine w_callI (va_runV (As := [.int x1]) (rest := []) F (c_J4_charAt_5068e l hL_a0 hK_a0 hp H.size) (cwV (C := RJ4) 1 hts (wg_V wm_RX5_87 wy_J4_charAt_5068e) rfl rfl rfl (by decide +kernel) ⟨Nat.le_of_ble_eq_true rfl, Nat.le_of_ble_eq_true rfl⟩) (w_preV hK hW hL_a0 hK_a0 (by decide) rfl) rfl rfl hl.1 rfl (lv_room (Nat.le_of_ble_eq_true rfl)) dX5_endOfToken_18 ⟨Nat.le_of_ble_eq_true rfl, Nat.le_of_ble_eq_true rfl⟩) hW (fun r_5 S_6 H locs hp hW => ?_)
      obtain ⟨hX_S_6, hp⟩ := hp
      refine W.widen (k := 0) (n := 0) (by decide) (by decide) ?_
      have hE := hE.trans hX_S_6
      have hK_a0 : sK S_6 a0 = 1 := (hX_S_6.2 a0 hL_a0).1.trans hK_a0
      have hL_a0 : wM D S_6 a0 := hX_S_6.M hL_a0
      refine lv_istore_n (lv' := [(3, .int r_5), (2, .int r_1), (0, .ref a0), (1, .int x1)]) hx hb dX5_endOfToken_21 rfl hl (by decide) rfl (fun ls hl => ?_)
      refine lv_iload_n hx hb dX5_endOfToken_22 rfl (lv_at hl 0 rfl) ?_
      refine lv_bipush (v := 123) hx hb dX5_endOfToken_23 (by decide) ?_
      refine lv_icmp_ne (tgt := 65) hx hb dX5_endOfToken_25 (by decide) (fun c_7 => ?_) (fun c_7 => ?_)
      · replace hp := hp.1 c_7
        refine lv_iload_n hx hb dX5_endOfToken_65 rfl (lv_at hl 0 rfl) ?_
        refine w_callI (va_runS (As := [.int r_5]) (rest := []) F (c_X5_isBorder l hp H.size) (va_cwS 1 hts (wg_S wm_RX5_91 wy_X5_isBorder) rfl rfl rfl (by decide +kernel) ⟨Nat.le_of_ble_eq_true rfl, Nat.le_of_ble_eq_true rfl⟩) (w_preS hK hW) rfl rfl hl.1 rfl (lv_room (Nat.le_of_ble_eq_true rfl)) dX5_endOfToken_66 ⟨Nat.le_of_ble_eq_true rfl, Nat.le_of_ble_eq_true rfl⟩) hW (fun r_8 S_9 H locs hp hW => ?_)
        obtain ⟨hX_S_9, hp⟩ := hp
        refine W.widen (k := 0) (n := 0) (by decide) (by decide) ?_
        have hE := hE.trans hX_S_9
        have hK_a0 : sK S_9 a0 = 1 := (hX_S_9.2 a0 hL_a0).1.trans hK_a0
        have hL_a0 : wM D S_9 a0 := hX_S_9.M hL_a0
        refine lv_if_eq (tgt := 76) hx hb dX5_endOfToken_69 (by decide) (fun c_10 => ?_) (fun c_10 => ?_)
        · replace hp := hp.1 c_10
          refine lv_iload_n hx hb dX5_endOfToken_76 rfl (lv_at hl 3 rfl) ?_
          refine lv_iconst (v := 1) hx hb dX5_endOfToken_77 (by decide) ?_
          refine lv_iadd hx hb dX5_endOfToken_78 ?_
          refine lv_topi (fun x_11 ex_11 => ?_)
          replace hp := hp x_11 ex_11
          refine lv_istore (lv' := [(4, .int x_11), (3, .int r_5), (2, .int r_1), (0, .ref a0), (1, .int x1)]) hx hb dX5_endOfToken_79 hl (by decide) rfl (fun ls hl => ?_)
          obtain ⟨n_12, hp⟩ := hp
          exact t_X5_endOfToken_81 F hr hlocks hK n_12 hp hW hE (lv_sub hl [3, 2, 0] rfl) hL_a0 hK_a0
        · replace hp := hp.2 c_10
          refine lv_iload_n hx hb dX5_endOfToken_72 rfl (lv_at hl 3 rfl) ?_
          refine lv_iconst (v := 1) hx hb dX5_endOfToken_73 (by decide) ?_
          refine lv_iadd hx hb dX5_endOfToken_74 ?_
          exact w_iret hx hb hr hlocks hW ⟨hE, hp⟩ dX5_endOfToken_75
      · replace hp := hp.2 c_7
        refine lv_iload_n hx hb dX5_endOfToken_28 rfl (lv_at hl 3 rfl) ?_
        refine lv_iconst (v := 1) hx hb dX5_endOfToken_29 (by decide) ?_
        refine lv_iadd hx hb dX5_endOfToken_30 ?_
        refine lv_topi (fun x_13 ex_13 => ?_)
        replace hp := hp x_13 ex_13
        refine lv_istore (lv' := [(4, .int x_13), (3, .int r_5), (2, .int r_1), (0, .ref a0), (1, .int x1)]) hx hb dX5_endOfToken_31 hl (by decide) rfl (fun ls hl => ?_)
        obtain ⟨n_14, hp⟩ := hp
        exact t_X5_endOfToken_33 F hr hlocks hK n_14 hp hW hE (lv_sub hl [3, 2, 0] rfl) hL_a0 hK_a0
    · replace hp := hp.2 c_4
      exact t_X5_endOfToken_14 F hr hlocks hK hp hW hE (lv_sub hl [0] rfl)
set_option maxHeartbeats 4000000 in
set_option maxRecDepth 100000 in
theorem c_X5_endOfToken (l : Launch) {D : wD} {cy : Nat → ClassId} {X : va_W} {S0 : wS} {post : Int32 → wS → Prop} {a0 : Nat} {x1 : Int32} (hL_a0 : wM D S0 a0) (hK_a0 : sK S0 a0 = 1) (hp : wp_X5_endOfToken D post S0 a0 x1) : mI D cy X l yX5_endOfToken wz_X5_endOfToken r_X5_endOfToken [.ref a0, .int x1] S0 (fun r S9 => wX D S0 S9 ∧ post r S9) := by
  intro sz
  refine Met.ofW (cc := cX5_endOfToken) (maxL := 5) (ret := (some .int)) (by decide) rfl ?_
  intro p e s m args below meth c s₁ B hml hv
  obtain ⟨rfl, hsz, hP, hK, hD0, hRO⟩ := hv
  have hts := atoms_spec (ws := wz_X5_endOfToken) B.pre
  have hown : s.vm.findClass RX5 = some m.cls := findClass_of_methodNamed B.named
  subst hsz
  have hD := hD0.self (sz := s.heap.size)
  have F : CallFix p m c cX5_endOfToken 5 s _ wz_X5_endOfToken RX5 := ⟨B.exec, B.bytes, hml, hown, hts⟩
  have hr := B.returns
  have hlocks := B.notSynchronized
  generalize hAe : va_A (wL cy X S0) s.heap.size = A at hD hK ⊢
  have hA : ∀ q, s.heap.size ≤ q → A q := fun q h => by rw [← hAe]; exact Or.inr h
  have hW : wO D cy X A s.heap S0 s.heap [] := ⟨hP, hD, va_S.rf, hA, hRO⟩
  have hl := lv_entry ([.ref a0, .int x1]) (n := 5) (Nat.le_of_ble_eq_true rfl)
  rw [lg_entry_eq]
  generalize (lg_sl ([.ref a0, .int x1]) ++ List.replicate (5 - (lg_sl ([.ref a0, .int x1])).length) Slot.unset).toArray = ls at hl ⊢
  have hl : lv_has ls 5 [(0, .ref a0), (1, .int x1)] := hl
  unfold wp_X5_endOfToken at hp
  exact t_X5_endOfToken_0 F hr hlocks hK hp hW wX.rf (lv_sub hl [0, 1] rfl) hL_a0 hK_a0
def wp_X5_packed_49 (D : wD) (post : Int64 → wS → Prop)  (S : wS) (x3 : Int64) : Prop :=
post x3 S
def wp_X5_packed_15 (D : wD) (post : Int64 → wS → Prop)  : Nat → wS → Nat → Int32 → Int64 → Int32 → Prop
  | 0, _, _, _, _, _ => False
  | n + 1, S, a0, x2, x3, x5 =>
    ((x2 ≤ x5 → wp_X5_packed_49 D post S x3) ∧
     (¬ x2 ≤ x5 → wp_J4_length_8abf5 D (fun r_2 S_3 => 
    ((r_2 ≤ x5 → wp_X5_packed_49 D post S_3 x3) ∧
     (¬ r_2 ≤ x5 → wp_J4_charAt_5068e D (fun r_5 S_6 => 
    ∀ x_7 : Int64, x_7 = ((jlshl x3 (8 : Int32)) ||| (Int32.toInt64 r_5)) →
    ∀ x_8 : Int32, x_8 = x5 + 1 →
    wp_X5_packed_15 D post n S_6 a0 x2 x_7 x_8) S_3 a0 x5))) S a0))
def wp_X5_packed_0 (D : wD) (post : Int64 → wS → Prop)  (S : wS) (a0 : Nat) (x1 : Int32) (x2 : Int32) : Prop :=
(((x2 - x1) ≤ (7 : Int32) → ∃ n_2 : Nat, wp_X5_packed_15 D post n_2 S a0 x2 (0 : Int64) x1) ∧
 (¬ (x2 - x1) ≤ (7 : Int32) → post (0 : Int64) S))
abbrev r_X5_packed : Room := { frames := 4, cells := 0, slots := 0, locals := 88 }
def wp_X5_packed (D : wD) (post : Int64 → wS → Prop) (S : wS) (a0 : Nat) (x1 : Int32) (x2 : Int32) : Prop := wp_X5_packed_0 D post S a0 x1 x2
set_option maxHeartbeats 4000000 in
set_option maxRecDepth 100000 in
theorem t_X5_packed_49 {p : Program} {l : Launch} {e : Env} {s : State} {m : MethodId} {args : Array Value} {below : List Frame} {meth : Method} {c : Code} {D : wD} {cy : Nat → ClassId} {X : va_W} {A : Nat → Prop} {S0 : wS} {post : Int64 → wS → Prop} (F : CallFix p m c cX5_packed 6 s args wz_X5_packed RX5) (hr : meth.sig.returnType = (some .long)) (hlocks : meth.locks = false) (hK : wK D cy A s) : ∀ {S : wS} {H : Heap} {locs : List Loc} {ls : Array Slot} {x3 : Int64}, wp_X5_packed_49 D post S x3 → wO D cy X A s.heap S H locs → wX D S0 S → lv_has ls 6 [(3, .long x3)] → W p l e r_X5_packed s m args below meth c H locs 0 0 (MQ below (va_Ql (fun r S9 => wX D S0 S9 ∧ post r S9) (wB D cy X A) A) args s 0 0 A) (F0 m 49 ls []) := by
  obtain ⟨hx, hb, hml, hown, hts⟩ := id F
  have hwg : ∀ w ∈ WG, w.before args s = true := fun w h => hts w (List.mem_cons_of_mem _ h)
  intro S H locs ls x3 hp hW hE hl
  unfold wp_X5_packed_49 at hp
  refine lv_lload_n hx hb dX5_packed_49 rfl (lv_at hl 0 rfl) ?_
  exact w_lret hx hb hr hlocks hW ⟨hE, hp⟩ dX5_packed_50
set_option maxHeartbeats 4000000 in
set_option maxRecDepth 100000 in
theorem t_X5_packed_15 {p : Program} {l : Launch} {e : Env} {s : State} {m : MethodId} {args : Array Value} {below : List Frame} {meth : Method} {c : Code} {D : wD} {cy : Nat → ClassId} {X : va_W} {A : Nat → Prop} {S0 : wS} {post : Int64 → wS → Prop} (F : CallFix p m c cX5_packed 6 s args wz_X5_packed RX5) (hr : meth.sig.returnType = (some .long)) (hlocks : meth.locks = false) (hK : wK D cy A s) : ∀ (n : Nat) {S : wS} {H : Heap} {locs : List Loc} {ls : Array Slot} {a0 : Nat} {x2 : Int32} {x3 : Int64} {x5 : Int32}, wp_X5_packed_15 D post n S a0 x2 x3 x5 → wO D cy X A s.heap S H locs → wX D S0 S → lv_has ls 6 [(0, .ref a0), (2, .int x2), (3, .long x3), (5, .int x5)] → wM D S a0 → sK S a0 = 1 → W p l e r_X5_packed s m args below meth c H locs 0 0 (MQ below (va_Ql (fun r S9 => wX D S0 S9 ∧ post r S9) (wB D cy X A) A) args s 0 0 A) (F0 m 15 ls []) := by
  obtain ⟨hx, hb, hml, hown, hts⟩ := id F
  have hwg : ∀ w ∈ WG, w.before args s = true := fun w h => hts w (List.mem_cons_of_mem _ h)
  intro n
  induction n with
  | zero =>
    intro S H locs ls a0 x2 x3 x5 hp
    exact hp.elim
  | succ n ih =>
    intro S H locs ls a0 x2 x3 x5 hp hW hE hl hL_a0 hK_a0
    unfold wp_X5_packed_15 at hp
    refine lv_iload hx hb dX5_packed_15 (lv_at hl 3 rfl) ?_
    refine lv_iload_n hx hb dX5_packed_17 rfl (lv_at hl 1 rfl) ?_
    refine lv_icmp_ge (tgt := 49) hx hb dX5_packed_18 (by decide) (fun c_1 => ?_) (fun c_1 => ?_)
    · replace hp := hp.1 c_1
      exact t_X5_packed_49 F hr hlocks hK hp hW hE (lv_sub hl [2] rfl)
    · replace hp := hp.2 c_1
      refine lv_iload hx hb dX5_packed_21 (lv_at hl 3 rfl) ?_
      refine lv_aload_n hx hb dX5_packed_23 rfl (lv_at hl 0 rfl) ?_
      refine w_callI (va_runV (As := []) (rest := [.int x5]) F (c_J4_length_8abf5 l hL_a0 hK_a0 hp H.size) (cwV (C := RJ4) 0 hts (wg_V wm_RX5_65 wy_J4_length_8abf5) rfl rfl rfl (by decide +kernel) ⟨Nat.le_of_ble_eq_true rfl, Nat.le_of_ble_eq_true rfl⟩) (w_preV hK hW hL_a0 hK_a0 (by decide) rfl) rfl rfl hl.1 rfl (lv_room (Nat.le_of_ble_eq_true rfl)) dX5_packed_24 ⟨Nat.le_of_ble_eq_true rfl, Nat.le_of_ble_eq_true rfl⟩) hW (fun r_2 S_3 H locs hp hW => ?_)
      obtain ⟨hX_S_3, hp⟩ := hp
      refine W.widen (k := 0) (n := 0) (by decide) (by decide) ?_
      have hE := hE.trans hX_S_3
      have hK_a0 : sK S_3 a0 = 1 := (hX_S_3.2 a0 hL_a0).1.trans hK_a0
      have hL_a0 : wM D S_3 a0 := hX_S_3.M hL_a0
      refine lv_icmp_ge (tgt := 49) hx hb dX5_packed_27 (by decide) (fun c_4 => ?_) (fun c_4 => ?_)
      · replace hp := hp.1 c_4
        exact t_X5_packed_49 F hr hlocks hK hp hW hE (lv_sub hl [2] rfl)
      · replace hp := hp.2 c_4
        refine lv_lload_n hx hb dX5_packed_30 rfl (lv_at hl 2 rfl) ?_
        refine lv_bipush (v := 8) hx hb dX5_packed_31 (by decide) ?_
        refine lv_lshl (v := (jlshl x3 (8 : Int32))) hx hb dX5_packed_33 rfl ?_
        refine lv_aload_n hx hb dX5_packed_34 rfl (lv_at hl 0 rfl) ?_
        refine lv_iload hx hb dX5_packed_35 (lv_at hl 3 rfl) ?_
        refine w_callI (va_runV (As := [.int x5]) (rest := [.long (jlshl x3 (8 : Int32))]) F (c_J4_charAt_5068e l hL_a0 hK_a0 hp H.size) (cwV (C := RJ4) 1 hts (wg_V wm_RX5_87 wy_J4_charAt_5068e) rfl rfl rfl (by decide +kernel) ⟨Nat.le_of_ble_eq_true rfl, Nat.le_of_ble_eq_true rfl⟩) (w_preV hK hW hL_a0 hK_a0 (by decide) rfl) rfl rfl hl.1 rfl (lv_room (Nat.le_of_ble_eq_true rfl)) dX5_packed_37 ⟨Nat.le_of_ble_eq_true rfl, Nat.le_of_ble_eq_true rfl⟩) hW (fun r_5 S_6 H locs hp hW => ?_)
        obtain ⟨hX_S_6, hp⟩ := hp
        refine W.widen (k := 0) (n := 0) (by decide) (by decide) ?_
        have hE := hE.trans hX_S_6
        have hK_a0 : sK S_6 a0 = 1 := (hX_S_6.2 a0 hL_a0).1.trans hK_a0
        have hL_a0 : wM D S_6 a0 := hX_S_6.M hL_a0
        refine lv_i2l (v := (Int32.toInt64 r_5)) hx hb dX5_packed_40 rfl ?_
        refine lv_lor hx hb dX5_packed_41 ?_
        refine lv_topl (fun x_7 ex_7 => ?_)
        replace hp := hp x_7 ex_7
        refine lv_lstore_n (lv' := [(3, .long x_7), (0, .ref a0), (2, .int x2), (5, .int x5)]) hx hb dX5_packed_42 rfl hl (by decide) rfl (fun ls hl => ?_)
        obtain ⟨x_8, ex_8⟩ : ∃ z : Int32, z = x5 + 1 := ⟨_, rfl⟩
        replace hp := hp x_8 ex_8
        refine lv_iinc (v := x_8) (lv' := [(5, .int x_8), (3, .long x_7), (0, .ref a0), (2, .int x2)]) hx hb dX5_packed_43 hl (k := 3) rfl (by rw [ex_8]; rfl) (by decide) rfl (fun ls hl => ?_)
        refine lv_goto (tgt := 15) hx hb dX5_packed_46 (by decide) ?_
        exact ih hp hW hE (lv_sub hl [2, 3, 1, 0] rfl) hL_a0 hK_a0
set_option maxHeartbeats 4000000 in
set_option maxRecDepth 100000 in
theorem t_X5_packed_0 {p : Program} {l : Launch} {e : Env} {s : State} {m : MethodId} {args : Array Value} {below : List Frame} {meth : Method} {c : Code} {D : wD} {cy : Nat → ClassId} {X : va_W} {A : Nat → Prop} {S0 : wS} {post : Int64 → wS → Prop} (F : CallFix p m c cX5_packed 6 s args wz_X5_packed RX5) (hr : meth.sig.returnType = (some .long)) (hlocks : meth.locks = false) (hK : wK D cy A s) : ∀ {S : wS} {H : Heap} {locs : List Loc} {ls : Array Slot} {a0 : Nat} {x1 : Int32} {x2 : Int32}, wp_X5_packed_0 D post S a0 x1 x2 → wO D cy X A s.heap S H locs → wX D S0 S → lv_has ls 6 [(0, .ref a0), (1, .int x1), (2, .int x2)] → wM D S a0 → sK S a0 = 1 → W p l e r_X5_packed s m args below meth c H locs 0 0 (MQ below (va_Ql (fun r S9 => wX D S0 S9 ∧ post r S9) (wB D cy X A) A) args s 0 0 A) (F0 m 0 ls []) := by
  obtain ⟨hx, hb, hml, hown, hts⟩ := id F
  have hwg : ∀ w ∈ WG, w.before args s = true := fun w h => hts w (List.mem_cons_of_mem _ h)
  intro S H locs ls a0 x1 x2 hp hW hE hl hL_a0 hK_a0
  unfold wp_X5_packed_0 at hp
  refine lv_iload_n hx hb dX5_packed_0 rfl (lv_at hl 2 rfl) ?_
  refine lv_iload_n hx hb dX5_packed_1 rfl (lv_at hl 1 rfl) ?_
  refine lv_isub hx hb dX5_packed_2 ?_
  refine lv_bipush (v := 7) hx hb dX5_packed_3 (by decide) ?_
  refine lv_icmp_le (tgt := 10) hx hb dX5_packed_5 (by decide) (fun c_1 => ?_) (fun c_1 => ?_)
  · replace hp := hp.1 c_1
    refine lv_lconst (v := 0) hx hb dX5_packed_10 (by decide) ?_
    refine lv_lstore_n (lv' := [(3, .long (0 : Int64)), (0, .ref a0), (1, .int x1), (2, .int x2)]) hx hb dX5_packed_11 rfl hl (by decide) rfl (fun ls hl => ?_)
    refine lv_iload_n hx hb dX5_packed_12 rfl (lv_at hl 2 rfl) ?_
    refine lv_istore (lv' := [(5, .int x1), (3, .long (0 : Int64)), (0, .ref a0), (1, .int x1), (2, .int x2)]) hx hb dX5_packed_13 hl (by decide) rfl (fun ls hl => ?_)
    obtain ⟨n_2, hp⟩ := hp
    exact t_X5_packed_15 F hr hlocks hK n_2 hp hW hE (lv_sub hl [2, 4, 1, 0] rfl) hL_a0 hK_a0
  · replace hp := hp.2 c_1
    refine lv_lconst (v := 0) hx hb dX5_packed_8 (by decide) ?_
    exact w_lret hx hb hr hlocks hW ⟨hE, hp⟩ dX5_packed_9
set_option maxHeartbeats 4000000 in
set_option maxRecDepth 100000 in
theorem c_X5_packed (l : Launch) {D : wD} {cy : Nat → ClassId} {X : va_W} {S0 : wS} {post : Int64 → wS → Prop} {a0 : Nat} {x1 : Int32} {x2 : Int32} (hL_a0 : wM D S0 a0) (hK_a0 : sK S0 a0 = 1) (hp : wp_X5_packed D post S0 a0 x1 x2) : mJ D cy X l yX5_packed wz_X5_packed r_X5_packed [.ref a0, .int x1, .int x2] S0 (fun r S9 => wX D S0 S9 ∧ post r S9) := by
  intro sz
  refine Met.ofW (cc := cX5_packed) (maxL := 6) (ret := (some .long)) (by decide) rfl ?_
  intro p e s m args below meth c s₁ B hml hv
  obtain ⟨rfl, hsz, hP, hK, hD0, hRO⟩ := hv
  have hts := atoms_spec (ws := wz_X5_packed) B.pre
  have hown : s.vm.findClass RX5 = some m.cls := findClass_of_methodNamed B.named
  subst hsz
  have hD := hD0.self (sz := s.heap.size)
  have F : CallFix p m c cX5_packed 6 s _ wz_X5_packed RX5 := ⟨B.exec, B.bytes, hml, hown, hts⟩
  have hr := B.returns
  have hlocks := B.notSynchronized
  generalize hAe : va_A (wL cy X S0) s.heap.size = A at hD hK ⊢
  have hA : ∀ q, s.heap.size ≤ q → A q := fun q h => by rw [← hAe]; exact Or.inr h
  have hW : wO D cy X A s.heap S0 s.heap [] := ⟨hP, hD, va_S.rf, hA, hRO⟩
  have hl := lv_entry ([.ref a0, .int x1, .int x2]) (n := 6) (Nat.le_of_ble_eq_true rfl)
  rw [lg_entry_eq]
  generalize (lg_sl ([.ref a0, .int x1, .int x2]) ++ List.replicate (6 - (lg_sl ([.ref a0, .int x1, .int x2])).length) Slot.unset).toArray = ls at hl ⊢
  have hl : lv_has ls 6 [(0, .ref a0), (1, .int x1), (2, .int x2)] := hl
  unfold wp_X5_packed at hp
  exact t_X5_packed_0 F hr hlocks hK hp hW wX.rf (lv_sub hl [0, 1, 2] rfl) hL_a0 hK_a0
def wp_X5_takesMove_278 (D : wD) (post : Int32 → wS → Prop)  (S : wS) (a0 : Nat) : Prop :=
∃ y_1 : Nat, sR S a0 4 = some y_1 ∧ wM D S y_1 ∧ sK S y_1 = 21 ∧
vp_in (sI S a0 6) (sN S y_1) ∧
y_1 ∈ sL S ∧ vp_in (sI S a0 6) (sN S y_1) ∧
∀ S_4 : wS, S_4 = uI S y_1 ((sI S a0 6)).toNatClampNeg ((sI S y_1 ((sI S a0 6)).toNatClampNeg) + (1 : Int32)) →
narrow .boolean (.int (0 : Int32)) = .int (0 : Int32) ∧ fits .boolean (.int (0 : Int32)) = true ∧
∀ S_5 : wS, S_5 = uI S_4 a0 9 (0 : Int32) →
narrow .boolean (.int (1 : Int32)) = .int (1 : Int32) ∧ post (1 : Int32) S_5
def wp_X5_takesMove_178 (D : wD) (post : Int32 → wS → Prop)  (S : wS) (a0 : Nat) (x7 : Int32) : Prop :=
∃ y_1 : Nat, sR S a0 1 = some y_1 ∧ wM D S y_1 ∧ sK S y_1 = 12 ∧
∃ y_2 : Nat, sR S a0 3 = some y_2 ∧ wM D S y_2 ∧ sK S y_2 = 22 ∧
wp_X7_save D (fun S_4 => 
∃ y_5 : Nat, sR S_4 a0 1 = some y_5 ∧ wM D S_4 y_5 ∧ sK S_4 y_5 = 12 ∧
∃ y_6 : Nat, sR S_4 a0 0 = some y_6 ∧ wM D S_4 y_6 ∧ sK S_4 y_6 = 9 ∧
wp_X4_codeAt D (fun r_7 S_8 => 
wp_X7_apply D (fun S_10 => 
∃ y_11 : Nat, sR S_10 a0 1 = some y_11 ∧ wM D S_10 y_11 ∧ sK S_10 y_11 = 12 ∧
∃ y_12 : Nat, sR S_10 a0 2 = some y_12 ∧ wM D S_10 y_12 ∧ sK S_10 y_12 = 22 ∧
wp_X7_save D (fun S_14 => 
(((sI S_14 a0 6) ≤ 0 → ∃ y_16 : Nat, sR S_14 a0 4 = some y_16 ∧ wM D S_14 y_16 ∧ sK S_14 y_16 = 21 ∧
vp_in (0 : Int32) (sN S_14 y_16) ∧
∃ y_18 : Nat, sR S_14 a0 5 = some y_18 ∧ wM D S_14 y_18 ∧ sK S_14 y_18 = 21 ∧
(((Int32.ofNat (sN S_14 y_18)) ≤ (sI S_14 y_16 ((0 : Int32)).toNatClampNeg) → wp_X5_takesMove_278 D post S_14 a0) ∧
 (¬ (Int32.ofNat (sN S_14 y_18)) ≤ (sI S_14 y_16 ((0 : Int32)).toNatClampNeg) → ∃ y_20 : Nat, sR S_14 a0 5 = some y_20 ∧ wM D S_14 y_20 ∧ sK S_14 y_20 = 21 ∧
∃ y_21 : Nat, sR S_14 a0 4 = some y_21 ∧ wM D S_14 y_21 ∧ sK S_14 y_21 = 21 ∧
vp_in (0 : Int32) (sN S_14 y_21) ∧
∃ y_23 : Nat, sR S_14 a0 0 = some y_23 ∧ wM D S_14 y_23 ∧ sK S_14 y_23 = 9 ∧
wp_X4_codeAt D (fun r_24 S_25 => 
y_20 ∈ sL S_25 ∧ vp_in (sI S_14 y_21 ((0 : Int32)).toNatClampNeg) (sN S_25 y_20) ∧
∀ S_27 : wS, S_27 = uI S_25 y_20 ((sI S_14 y_21 ((0 : Int32)).toNatClampNeg)).toNatClampNeg r_24 →
wp_X5_takesMove_278 D post S_27 a0) S_14 y_23 x7))) ∧
 (¬ (sI S_14 a0 6) ≤ 0 → ∀ S_28 : wS, S_28 = uI S_14 a0 8 ((sI S_14 a0 8) + (1 : Int32)) →
wp_X5_takesMove_278 D post S_28 a0))) S_10 y_11 y_12 (sI S_10 a0 6)) S_8 y_5 r_7) S_4 y_6 x7) S y_1 y_2 (sI S a0 6)
def wp_X5_takesMove_176 (D : wD) (post : Int32 → wS → Prop)  (S : wS) : Prop :=
narrow .boolean (.int (0 : Int32)) = .int (0 : Int32) ∧ post (0 : Int32) S
def wp_X5_takesMove_143 (D : wD) (post : Int32 → wS → Prop)  (S : wS) (a0 : Nat) (x5 : Int32) (x6 : Int32) (b0 : Nat) (b1 : Nat) (t2 : Int32) (t3 : Int32) : Prop :=
wp_X5_packed D (fun r_1 S_2 => 
wp_X4_numberOfWord D (fun r_3 S_4 => 
((r_3 = (-1 : Int32) → wp_X5_takesMove_176 D post S_4) ∧
 (¬ r_3 = (-1 : Int32) → ((x6 = 0 → wp_X5_takesMove_178 D post S_4 a0 r_3) ∧
 (¬ x6 = 0 → ∃ y_7 : Nat, sR S_4 a0 0 = some y_7 ∧ wM D S_4 y_7 ∧ sK S_4 y_7 = 9 ∧
wp_X4_markOf D (fun r_8 S_9 => 
((r_8 = x5 → wp_X5_takesMove_178 D post S_9 a0 r_3) ∧
 (¬ r_8 = x5 → wp_X5_takesMove_176 D post S_9))) S_4 y_7 r_3))))) S_2 b0 r_1) S b1 t2 t3
def wp_X5_takesMove_123 (D : wD) (post : Int32 → wS → Prop)  (S : wS) (a0 : Nat) (a1 : Nat) (x2 : Int32) (x3 : Int32) (x5 : Int32) (t0 : Int32) : Prop :=
∃ y_1 : Nat, sR S a0 0 = some y_1 ∧ wM D S y_1 ∧ sK S y_1 = 9 ∧
((t0 = 0 → wp_X5_takesMove_143 D post S a0 x5 t0 y_1 a1 x2 x3) ∧
 (¬ t0 = 0 → wp_X5_takesMove_143 D post S a0 x5 t0 y_1 a1 x2 (x3 - (1 : Int32))))
def wp_X5_takesMove_118 (D : wD) (post : Int32 → wS → Prop)  (S : wS) (a0 : Nat) (a1 : Nat) (x2 : Int32) (x3 : Int32) (x5 : Int32) : Prop :=
wp_X5_takesMove_123 D post S a0 a1 x2 x3 x5 (1 : Int32)
def wp_X5_takesMove_67 (D : wD) (post : Int32 → wS → Prop)  (S : wS) : Prop :=
narrow .boolean (.int (0 : Int32)) = .int (0 : Int32) ∧ post (0 : Int32) S
def wp_X5_takesMove_25 (D : wD) (post : Int32 → wS → Prop)  (S : wS) (a0 : Nat) (a1 : Nat) (x2 : Int32) (x3 : Int32) (t0 : Int32) : Prop :=
((¬ (sI S a0 10) = 0 → wp_X5_takesMove_67 D post S) ∧
 ((sI S a0 10) = 0 → ((¬ t0 = 0 → wp_X5_takesMove_67 D post S) ∧
 (t0 = 0 → (((sI S a0 6) < 0 → wp_X5_takesMove_67 D post S) ∧
 (¬ (sI S a0 6) < 0 → (((5 : Int32) ≤ (sI S a0 6) → wp_X5_takesMove_67 D post S) ∧
 (¬ (5 : Int32) ≤ (sI S a0 6) → wp_J4_length_8abf5 D (fun r_5 S_6 => 
((r_5 < x3 → wp_X5_takesMove_67 D post S_6) ∧
 (¬ r_5 < x3 → ((x2 < x3 → ∃ y_9 : Nat, sR S_6 a0 1 = some y_9 ∧ wM D S_6 y_9 ∧ sK S_6 y_9 = 12 ∧
∃ y_10 : Nat, sR S_6 a0 2 = some y_10 ∧ wM D S_6 y_10 ∧ sK S_6 y_10 = 22 ∧
wp_X7_load D (fun S_12 => 
∃ y_13 : Nat, sR S_12 a0 0 = some y_13 ∧ wM D S_12 y_13 ∧ sK S_12 y_13 = 9 ∧
∃ y_14 : Nat, sR S_12 a0 1 = some y_14 ∧ wM D S_12 y_14 ∧ sK S_12 y_14 = 12 ∧
wp_X4_look D (fun S_16 => 
wp_J4_charAt_5068e D (fun r_17 S_18 => 
((r_17 = (43 : Int32) → wp_X5_takesMove_118 D post S_18 a0 a1 x2 x3 r_17) ∧
 (¬ r_17 = (43 : Int32) → ((¬ r_17 = (35 : Int32) → wp_X5_takesMove_123 D post S_18 a0 a1 x2 x3 r_17 (0 : Int32)) ∧
 (r_17 = (35 : Int32) → wp_X5_takesMove_118 D post S_18 a0 a1 x2 x3 r_17))))) S_16 a1 (x3 - (1 : Int32))) S_12 y_13 y_14) S_6 y_9 y_10 (sI S_6 a0 6)) ∧
 (¬ x2 < x3 → wp_X5_takesMove_67 D post S_6))))) S a1))))))))
def wp_X5_takesMove_24 (D : wD) (post : Int32 → wS → Prop)  (S : wS) (a0 : Nat) (a1 : Nat) (x2 : Int32) (x3 : Int32) : Prop :=
wp_X5_takesMove_25 D post S a0 a1 x2 x3 (0 : Int32)
def wp_X5_takesMove_0 (D : wD) (post : Int32 → wS → Prop)  (S : wS) (a0 : Nat) (a1 : Nat) (x2 : Int32) (x3 : Int32) : Prop :=
((¬ (sI S a0 6) = 0 → wp_X5_takesMove_24 D post S a0 a1 x2 x3) ∧
 ((sI S a0 6) = 0 → ∃ y_2 : Nat, sR S a0 4 = some y_2 ∧ wM D S y_2 ∧ sK S y_2 = 21 ∧
vp_in (0 : Int32) (sN S y_2) ∧
(((sI S y_2 ((0 : Int32)).toNatClampNeg) < (sI S a0 7) → wp_X5_takesMove_24 D post S a0 a1 x2 x3) ∧
 (¬ (sI S y_2 ((0 : Int32)).toNatClampNeg) < (sI S a0 7) → wp_X5_takesMove_25 D post S a0 a1 x2 x3 (1 : Int32)))))
abbrev r_X5_takesMove : Room := { frames := 7, cells := 0, slots := 0, locals := 158 }
def wp_X5_takesMove (D : wD) (post : Int32 → wS → Prop) (S : wS) (a0 : Nat) (a1 : Nat) (x2 : Int32) (x3 : Int32) : Prop := wp_X5_takesMove_0 D post S a0 a1 x2 x3
set_option maxHeartbeats 4000000 in
set_option maxRecDepth 100000 in
theorem t_X5_takesMove_278 {p : Program} {l : Launch} {e : Env} {s : State} {m : MethodId} {args : Array Value} {below : List Frame} {meth : Method} {c : Code} {D : wD} {cy : Nat → ClassId} {X : va_W} {A : Nat → Prop} {S0 : wS} {post : Int32 → wS → Prop} (F : CallFix p m c cX5_takesMove 8 s args wz_X5_takesMove RX5) (hr : meth.sig.returnType = (some .boolean)) (hlocks : meth.locks = false) (hK : wK D cy A s) : ∀ {S : wS} {H : Heap} {locs : List Loc} {ls : Array Slot} {a0 : Nat}, wp_X5_takesMove_278 D post S a0 → wO D cy X A s.heap S H locs → wX D S0 S → lv_has ls 8 [(0, .ref a0)] → wM D S a0 → sK S a0 = 10 → W p l e r_X5_takesMove s m args below meth c H locs 0 0 (MQ below (va_Qi (fun r S9 => wX D S0 S9 ∧ post r S9) (wB D cy X A) A) args s 0 0 A) (F0 m 278 ls []) := by
  obtain ⟨hx, hb, hml, hown, hts⟩ := id F
  have hwg : ∀ w ∈ WG, w.before args s = true := fun w h => hts w (List.mem_cons_of_mem _ h)
  have i_10 : ∀ w ∈ u_ws RX5 TX5 11, w ∈ wz_X5_takesMove := fun w h => List.mem_cons_of_mem _ (wu_10 w h)
  have k_18 := hwg _ wf_RX5_18
  have k_25 := hwg _ wf_RX5_25
  have k_35 := hwg _ wf_RX5_35
  intro S H locs ls a0 hp hW hE hl hL_a0 hK_a0
  unfold wp_X5_takesMove_278 at hp
  refine lv_aload_n hx hb dX5_takesMove_278 rfl (lv_at hl 0 rfl) ?_
  obtain ⟨y_1, ey_1, hL_y_1, hK_y_1, hp⟩ := hp
  refine w_get (k := 10) (f := 4) (T := TX5) (v := .ref y_1) F hK hW hL_a0 hK_a0 (by decide) rfl rfl (by decide) i_10 k_18 (by rw [show wv 10 4 S a0 = va_rf (sR S a0 4) from rfl, ey_1]; rfl) dX5_takesMove_279 ?_
  refine lv_aload_n hx hb dX5_takesMove_282 rfl (lv_at hl 0 rfl) ?_
  refine w_get (k := 10) (f := 6) (T := TX5) (v := .int (sI S a0 6)) F hK hW hL_a0 hK_a0 (by decide) rfl rfl (by decide) i_10 k_25 rfl dX5_takesMove_283 ?_
  refine lv_dup2_11 hx hb dX5_takesMove_286 rfl rfl ?_
  obtain ⟨h_2, hp⟩ := hp
  refine w_ild F hK hW hL_y_1 hK_y_1 h_2 dX5_takesMove_287 ?_
  refine lv_iconst (v := 1) hx hb dX5_takesMove_288 (by decide) ?_
  refine lv_iadd hx hb dX5_takesMove_289 ?_
  obtain ⟨h_3m, h_3, hp⟩ := hp
  refine w_ist F hK hW h_3m hK_y_1 h_3 dX5_takesMove_290 (fun H locs hW => ?_)
  obtain ⟨S_4, eS_4⟩ : ∃ z : wS, z = uI S y_1 ((sI S a0 6)).toNatClampNeg ((sI S y_1 ((sI S a0 6)).toNatClampNeg) + (1 : Int32)) := ⟨_, rfl⟩
  rw [← eS_4] at hW
  replace hp := hp S_4 eS_4
  have hX_S_4 : wX D S S_4 := by rw [eS_4]; exact wX_uI
  have hE := hE.trans hX_S_4
  have hK_a0 : sK S_4 a0 = 10 := (hX_S_4.2 a0 hL_a0).1.trans hK_a0
  have hL_a0 : wM D S_4 a0 := hX_S_4.M hL_a0
  refine lv_aload_n hx hb dX5_takesMove_291 rfl (lv_at hl 0 rfl) ?_
  refine lv_iconst (v := 0) hx hb dX5_takesMove_292 (by decide) ?_
  obtain ⟨h_6, h_6f, hp⟩ := hp
  refine w_putI (k := 10) (f := 9) (T := TX5) F hK hW hL_a0 hK_a0 (by decide) (by decide) rfl rfl (by decide) i_10 tyX5 tyX5_ok nmX5 k_35 rfl rfl (ty := .boolean) rfl h_6 h_6f dX5_takesMove_293 (fun H locs hW => ?_)
  obtain ⟨S_5, eS_5⟩ : ∃ z : wS, z = uI S_4 a0 9 (0 : Int32) := ⟨_, rfl⟩
  rw [← eS_5] at hW
  replace hp := hp S_5 eS_5
  have hX_S_5 : wX D S_4 S_5 := by rw [eS_5]; exact wX_uI
  have hE := hE.trans hX_S_5
  have hK_a0 : sK S_5 a0 = 10 := (hX_S_5.2 a0 hL_a0).1.trans hK_a0
  have hL_a0 : wM D S_5 a0 := hX_S_5.M hL_a0
  refine lv_iconst (v := 1) hx hb dX5_takesMove_296 (by decide) ?_
  exact w_zret hx hb hr hlocks hW hp.1 ⟨hE, hp.2⟩ dX5_takesMove_297
set_option maxHeartbeats 4000000 in
set_option maxRecDepth 100000 in
theorem t_X5_takesMove_178 {p : Program} {l : Launch} {e : Env} {s : State} {m : MethodId} {args : Array Value} {below : List Frame} {meth : Method} {c : Code} {D : wD} {cy : Nat → ClassId} {X : va_W} {A : Nat → Prop} {S0 : wS} {post : Int32 → wS → Prop} (F : CallFix p m c cX5_takesMove 8 s args wz_X5_takesMove RX5) (hr : meth.sig.returnType = (some .boolean)) (hlocks : meth.locks = false) (hK : wK D cy A s) : ∀ {S : wS} {H : Heap} {locs : List Loc} {ls : Array Slot} {a0 : Nat} {x7 : Int32}, wp_X5_takesMove_178 D post S a0 x7 → wO D cy X A s.heap S H locs → wX D S0 S → lv_has ls 8 [(0, .ref a0), (7, .int x7)] → wM D S a0 → sK S a0 = 10 → W p l e r_X5_takesMove s m args below meth c H locs 0 0 (MQ below (va_Qi (fun r S9 => wX D S0 S9 ∧ post r S9) (wB D cy X A) A) args s 0 0 A) (F0 m 178 ls []) := by
  obtain ⟨hx, hb, hml, hown, hts⟩ := id F
  have hwg : ∀ w ∈ WG, w.before args s = true := fun w h => hts w (List.mem_cons_of_mem _ h)
  have i_10 : ∀ w ∈ u_ws RX5 TX5 11, w ∈ wz_X5_takesMove := fun w h => List.mem_cons_of_mem _ (wu_10 w h)
  have k_11 := hwg _ wf_RX5_11
  have k_15 := hwg _ wf_RX5_15
  have k_18 := hwg _ wf_RX5_18
  have k_22 := hwg _ wf_RX5_22
  have k_25 := hwg _ wf_RX5_25
  have k_32 := hwg _ wf_RX5_32
  have k_42 := hwg _ wf_RX5_42
  have k_51 := hwg _ wf_RX5_51
  intro S H locs ls a0 x7 hp hW hE hl hL_a0 hK_a0
  unfold wp_X5_takesMove_178 at hp
  refine lv_aload_n hx hb dX5_takesMove_178 rfl (lv_at hl 0 rfl) ?_
  obtain ⟨y_1, ey_1, hL_y_1, hK_y_1, hp⟩ := hp
  refine w_get (k := 10) (f := 1) (T := TX5) (v := .ref y_1) F hK hW hL_a0 hK_a0 (by decide) rfl rfl (by decide) i_10 k_51 (by rw [show wv 10 1 S a0 = va_rf (sR S a0 1) from rfl, ey_1]; rfl) dX5_takesMove_179 ?_
  refine lv_aload_n hx hb dX5_takesMove_182 rfl (lv_at hl 0 rfl) ?_
  obtain ⟨y_2, ey_2, hL_y_2, hK_y_2, hp⟩ := hp
  refine w_get (k := 10) (f := 3) (T := TX5) (v := .ref y_2) F hK hW hL_a0 hK_a0 (by decide) rfl rfl (by decide) i_10 k_15 (by rw [show wv 10 3 S a0 = va_rf (sR S a0 3) from rfl, ey_2]; rfl) dX5_takesMove_183 ?_
  refine lv_aload_n hx hb dX5_takesMove_186 rfl (lv_at hl 0 rfl) ?_
  refine w_get (k := 10) (f := 6) (T := TX5) (v := .int (sI S a0 6)) F hK hW hL_a0 hK_a0 (by decide) rfl rfl (by decide) i_10 k_25 rfl dX5_takesMove_187 ?_
  refine w_callV (va_runV (As := [.ref y_2, .int (sI S a0 6)]) (rest := []) F (c_X7_save l hL_y_1 hK_y_1 hL_y_2 hK_y_2 hp H.size) (cwV (C := RX7) 2 hts (wg_V wm_RX5_55 wy_X7_save) rfl rfl rfl (by decide +kernel) ⟨Nat.le_of_ble_eq_true rfl, Nat.le_of_ble_eq_true rfl⟩) (w_preV hK hW hL_y_1 hK_y_1 (by decide) rfl) rfl rfl hl.1 rfl (lv_room (Nat.le_of_ble_eq_true rfl)) dX5_takesMove_190 ⟨Nat.le_of_ble_eq_true rfl, Nat.le_of_ble_eq_true rfl⟩) hW (fun S_4 H locs hp hW => ?_)
  obtain ⟨hX_S_4, hp⟩ := hp
  refine W.widen (k := 0) (n := 0) (by decide) (by decide) ?_
  have hE := hE.trans hX_S_4
  have hK_a0 : sK S_4 a0 = 10 := (hX_S_4.2 a0 hL_a0).1.trans hK_a0
  have hL_a0 : wM D S_4 a0 := hX_S_4.M hL_a0
  refine lv_aload_n hx hb dX5_takesMove_193 rfl (lv_at hl 0 rfl) ?_
  obtain ⟨y_5, ey_5, hL_y_5, hK_y_5, hp⟩ := hp
  refine w_get (k := 10) (f := 1) (T := TX5) (v := .ref y_5) F hK hW hL_a0 hK_a0 (by decide) rfl rfl (by decide) i_10 k_51 (by rw [show wv 10 1 S_4 a0 = va_rf (sR S_4 a0 1) from rfl, ey_5]; rfl) dX5_takesMove_194 ?_
  refine lv_aload_n hx hb dX5_takesMove_197 rfl (lv_at hl 0 rfl) ?_
  obtain ⟨y_6, ey_6, hL_y_6, hK_y_6, hp⟩ := hp
  refine w_get (k := 10) (f := 0) (T := TX5) (v := .ref y_6) F hK hW hL_a0 hK_a0 (by decide) rfl rfl (by decide) i_10 k_42 (by rw [show wv 10 0 S_4 a0 = va_rf (sR S_4 a0 0) from rfl, ey_6]; rfl) dX5_takesMove_198 ?_
  refine lv_iload hx hb dX5_takesMove_201 (lv_at hl 1 rfl) ?_
  refine w_callI (va_runV (As := [.int x7]) (rest := [.ref y_5]) F (c_X4_codeAt l hL_y_6 hK_y_6 hp H.size) (cwV (C := RX4) 1 hts (wg_V wm_RX5_145 wy_X4_codeAt) rfl rfl rfl (by decide +kernel) ⟨Nat.le_of_ble_eq_true rfl, Nat.le_of_ble_eq_true rfl⟩) (w_preV hK hW hL_y_6 hK_y_6 (by decide) rfl) rfl rfl hl.1 rfl (lv_room (Nat.le_of_ble_eq_true rfl)) dX5_takesMove_203 ⟨Nat.le_of_ble_eq_true rfl, Nat.le_of_ble_eq_true rfl⟩) hW (fun r_7 S_8 H locs hp hW => ?_)
  obtain ⟨hX_S_8, hp⟩ := hp
  refine W.widen (k := 0) (n := 0) (by decide) (by decide) ?_
  have hE := hE.trans hX_S_8
  have hK_a0 : sK S_8 a0 = 10 := (hX_S_8.2 a0 hL_a0).1.trans hK_a0
  have hL_a0 : wM D S_8 a0 := hX_S_8.M hL_a0
  have hK_y_5 : sK S_8 y_5 = 12 := (hX_S_8.2 y_5 hL_y_5).1.trans hK_y_5
  have hL_y_5 : wM D S_8 y_5 := hX_S_8.M hL_y_5
  refine w_callV (va_runV (As := [.int r_7]) (rest := []) F (c_X7_apply l hL_y_5 hK_y_5 hp H.size) (cwV (C := RX7) 1 hts (wg_V wm_RX5_148 wy_X7_apply) rfl rfl rfl (by decide +kernel) ⟨Nat.le_of_ble_eq_true rfl, Nat.le_of_ble_eq_true rfl⟩) (w_preV hK hW hL_y_5 hK_y_5 (by decide) rfl) rfl rfl hl.1 rfl (lv_room (Nat.le_of_ble_eq_true rfl)) dX5_takesMove_206 ⟨Nat.le_of_ble_eq_true rfl, Nat.le_of_ble_eq_true rfl⟩) hW (fun S_10 H locs hp hW => ?_)
  obtain ⟨hX_S_10, hp⟩ := hp
  refine W.widen (k := 0) (n := 0) (by decide) (by decide) ?_
  have hE := hE.trans hX_S_10
  have hK_a0 : sK S_10 a0 = 10 := (hX_S_10.2 a0 hL_a0).1.trans hK_a0
  have hL_a0 : wM D S_10 a0 := hX_S_10.M hL_a0
  refine lv_aload_n hx hb dX5_takesMove_209 rfl (lv_at hl 0 rfl) ?_
  obtain ⟨y_11, ey_11, hL_y_11, hK_y_11, hp⟩ := hp
  refine w_get (k := 10) (f := 1) (T := TX5) (v := .ref y_11) F hK hW hL_a0 hK_a0 (by decide) rfl rfl (by decide) i_10 k_51 (by rw [show wv 10 1 S_10 a0 = va_rf (sR S_10 a0 1) from rfl, ey_11]; rfl) dX5_takesMove_210 ?_
  refine lv_aload_n hx hb dX5_takesMove_213 rfl (lv_at hl 0 rfl) ?_
  obtain ⟨y_12, ey_12, hL_y_12, hK_y_12, hp⟩ := hp
  refine w_get (k := 10) (f := 2) (T := TX5) (v := .ref y_12) F hK hW hL_a0 hK_a0 (by decide) rfl rfl (by decide) i_10 k_11 (by rw [show wv 10 2 S_10 a0 = va_rf (sR S_10 a0 2) from rfl, ey_12]; rfl) dX5_takesMove_214 ?_
  refine lv_aload_n hx hb dX5_takesMove_217 rfl (lv_at hl 0 rfl) ?_
  refine w_get (k := 10) (f := 6) (T := TX5) (v := .int (sI S_10 a0 6)) F hK hW hL_a0 hK_a0 (by decide) rfl rfl (by decide) i_10 k_25 rfl dX5_takesMove_218 ?_
  refine w_callV (va_runV (As := [.ref y_12, .int (sI S_10 a0 6)]) (rest := []) F (c_X7_save l hL_y_11 hK_y_11 hL_y_12 hK_y_12 hp H.size) (cwV (C := RX7) 2 hts (wg_V wm_RX5_55 wy_X7_save) rfl rfl rfl (by decide +kernel) ⟨Nat.le_of_ble_eq_true rfl, Nat.le_of_ble_eq_true rfl⟩) (w_preV hK hW hL_y_11 hK_y_11 (by decide) rfl) rfl rfl hl.1 rfl (lv_room (Nat.le_of_ble_eq_true rfl)) dX5_takesMove_221 ⟨Nat.le_of_ble_eq_true rfl, Nat.le_of_ble_eq_true rfl⟩) hW (fun S_14 H locs hp hW => ?_)
  obtain ⟨hX_S_14, hp⟩ := hp
  refine W.widen (k := 0) (n := 0) (by decide) (by decide) ?_
  have hE := hE.trans hX_S_14
  have hK_a0 : sK S_14 a0 = 10 := (hX_S_14.2 a0 hL_a0).1.trans hK_a0
  have hL_a0 : wM D S_14 a0 := hX_S_14.M hL_a0
  refine lv_aload_n hx hb dX5_takesMove_224 rfl (lv_at hl 0 rfl) ?_
  refine w_get (k := 10) (f := 6) (T := TX5) (v := .int (sI S_14 a0 6)) F hK hW hL_a0 hK_a0 (by decide) rfl rfl (by decide) i_10 k_25 rfl dX5_takesMove_225 ?_
  refine lv_if_le (tgt := 244) hx hb dX5_takesMove_228 (by decide) (fun c_15 => ?_) (fun c_15 => ?_)
  · replace hp := hp.1 c_15
    refine lv_aload_n hx hb dX5_takesMove_244 rfl (lv_at hl 0 rfl) ?_
    obtain ⟨y_16, ey_16, hL_y_16, hK_y_16, hp⟩ := hp
    refine w_get (k := 10) (f := 4) (T := TX5) (v := .ref y_16) F hK hW hL_a0 hK_a0 (by decide) rfl rfl (by decide) i_10 k_18 (by rw [show wv 10 4 S_14 a0 = va_rf (sR S_14 a0 4) from rfl, ey_16]; rfl) dX5_takesMove_245 ?_
    refine lv_iconst (v := 0) hx hb dX5_takesMove_248 (by decide) ?_
    obtain ⟨h_17, hp⟩ := hp
    refine w_ild F hK hW hL_y_16 hK_y_16 h_17 dX5_takesMove_249 ?_
    refine lv_aload_n hx hb dX5_takesMove_250 rfl (lv_at hl 0 rfl) ?_
    obtain ⟨y_18, ey_18, hL_y_18, hK_y_18, hp⟩ := hp
    refine w_get (k := 10) (f := 5) (T := TX5) (v := .ref y_18) F hK hW hL_a0 hK_a0 (by decide) rfl rfl (by decide) i_10 k_22 (by rw [show wv 10 5 S_14 a0 = va_rf (sR S_14 a0 5) from rfl, ey_18]; rfl) dX5_takesMove_251 ?_
    refine w_len F hK hW hL_y_18 hK_y_18 (by decide) dX5_takesMove_254 ?_
    refine lv_icmp_ge (tgt := 278) hx hb dX5_takesMove_255 (by decide) (fun c_19 => ?_) (fun c_19 => ?_)
    · replace hp := hp.1 c_19
      exact t_X5_takesMove_278 F hr hlocks hK hp hW hE (lv_sub hl [0] rfl) hL_a0 hK_a0
    · replace hp := hp.2 c_19
      refine lv_aload_n hx hb dX5_takesMove_258 rfl (lv_at hl 0 rfl) ?_
      obtain ⟨y_20, ey_20, hL_y_20, hK_y_20, hp⟩ := hp
      refine w_get (k := 10) (f := 5) (T := TX5) (v := .ref y_20) F hK hW hL_a0 hK_a0 (by decide) rfl rfl (by decide) i_10 k_22 (by rw [show wv 10 5 S_14 a0 = va_rf (sR S_14 a0 5) from rfl, ey_20]; rfl) dX5_takesMove_259 ?_
      refine lv_aload_n hx hb dX5_takesMove_262 rfl (lv_at hl 0 rfl) ?_
      obtain ⟨y_21, ey_21, hL_y_21, hK_y_21, hp⟩ := hp
      refine w_get (k := 10) (f := 4) (T := TX5) (v := .ref y_21) F hK hW hL_a0 hK_a0 (by decide) rfl rfl (by decide) i_10 k_18 (by rw [show wv 10 4 S_14 a0 = va_rf (sR S_14 a0 4) from rfl, ey_21]; rfl) dX5_takesMove_263 ?_
      refine lv_iconst (v := 0) hx hb dX5_takesMove_266 (by decide) ?_
      obtain ⟨h_22, hp⟩ := hp
      refine w_ild F hK hW hL_y_21 hK_y_21 h_22 dX5_takesMove_267 ?_
      refine lv_aload_n hx hb dX5_takesMove_268 rfl (lv_at hl 0 rfl) ?_
      obtain ⟨y_23, ey_23, hL_y_23, hK_y_23, hp⟩ := hp
      refine w_get (k := 10) (f := 0) (T := TX5) (v := .ref y_23) F hK hW hL_a0 hK_a0 (by decide) rfl rfl (by decide) i_10 k_42 (by rw [show wv 10 0 S_14 a0 = va_rf (sR S_14 a0 0) from rfl, ey_23]; rfl) dX5_takesMove_269 ?_
      refine lv_iload hx hb dX5_takesMove_272 (lv_at hl 1 rfl) ?_
      refine w_callI (va_runV (As := [.int x7]) (rest := [.int (sI S_14 y_21 ((0 : Int32)).toNatClampNeg), .ref y_20]) F (c_X4_codeAt l hL_y_23 hK_y_23 hp H.size) (cwV (C := RX4) 1 hts (wg_V wm_RX5_145 wy_X4_codeAt) rfl rfl rfl (by decide +kernel) ⟨Nat.le_of_ble_eq_true rfl, Nat.le_of_ble_eq_true rfl⟩) (w_preV hK hW hL_y_23 hK_y_23 (by decide) rfl) rfl rfl hl.1 rfl (lv_room (Nat.le_of_ble_eq_true rfl)) dX5_takesMove_274 ⟨Nat.le_of_ble_eq_true rfl, Nat.le_of_ble_eq_true rfl⟩) hW (fun r_24 S_25 H locs hp hW => ?_)
      obtain ⟨hX_S_25, hp⟩ := hp
      refine W.widen (k := 0) (n := 0) (by decide) (by decide) ?_
      have hE := hE.trans hX_S_25
      have hK_a0 : sK S_25 a0 = 10 := (hX_S_25.2 a0 hL_a0).1.trans hK_a0
      have hL_a0 : wM D S_25 a0 := hX_S_25.M hL_a0
      have hK_y_20 : sK S_25 y_20 = 21 := (hX_S_25.2 y_20 hL_y_20).1.trans hK_y_20
      have hL_y_20 : wM D S_25 y_20 := hX_S_25.M hL_y_20
      obtain ⟨h_26m, h_26, hp⟩ := hp
      refine w_ist F hK hW h_26m hK_y_20 h_26 dX5_takesMove_277 (fun H locs hW => ?_)
      obtain ⟨S_27, eS_27⟩ : ∃ z : wS, z = uI S_25 y_20 ((sI S_14 y_21 ((0 : Int32)).toNatClampNeg)).toNatClampNeg r_24 := ⟨_, rfl⟩
      rw [← eS_27] at hW
      replace hp := hp S_27 eS_27
      have hX_S_27 : wX D S_25 S_27 := by rw [eS_27]; exact wX_uI
      have hE := hE.trans hX_S_27
      have hK_a0 : sK S_27 a0 = 10 := (hX_S_27.2 a0 hL_a0).1.trans hK_a0
      have hL_a0 : wM D S_27 a0 := hX_S_27.M hL_a0
      exact t_X5_takesMove_278 F hr hlocks hK hp hW hE (lv_sub hl [0] rfl) hL_a0 hK_a0
  · replace hp := hp.2 c_15
    refine lv_aload_n hx hb dX5_takesMove_231 rfl (lv_at hl 0 rfl) ?_
    refine lv_dup hx hb dX5_takesMove_232 rfl ?_
    refine w_get (k := 10) (f := 8) (T := TX5) (v := .int (sI S_14 a0 8)) F hK hW hL_a0 hK_a0 (by decide) rfl rfl (by decide) i_10 k_32 rfl dX5_takesMove_233 ?_
    refine lv_iconst (v := 1) hx hb dX5_takesMove_236 (by decide) ?_
    refine lv_iadd hx hb dX5_takesMove_237 ?_
    refine w_putI (k := 10) (f := 8) (T := TX5) F hK hW hL_a0 hK_a0 (by decide) (by decide) rfl rfl (by decide) i_10 tyX5 tyX5_ok nmX5 k_32 rfl rfl (ty := .int) rfl rfl rfl dX5_takesMove_238 (fun H locs hW => ?_)
    obtain ⟨S_28, eS_28⟩ : ∃ z : wS, z = uI S_14 a0 8 ((sI S_14 a0 8) + (1 : Int32)) := ⟨_, rfl⟩
    rw [← eS_28] at hW
    replace hp := hp S_28 eS_28
    have hX_S_28 : wX D S_14 S_28 := by rw [eS_28]; exact wX_uI
    have hE := hE.trans hX_S_28
    have hK_a0 : sK S_28 a0 = 10 := (hX_S_28.2 a0 hL_a0).1.trans hK_a0
    have hL_a0 : wM D S_28 a0 := hX_S_28.M hL_a0
    refine lv_goto (tgt := 278) hx hb dX5_takesMove_241 (by decide) ?_
    exact t_X5_takesMove_278 F hr hlocks hK hp hW hE (lv_sub hl [0] rfl) hL_a0 hK_a0
set_option maxHeartbeats 4000000 in
set_option maxRecDepth 100000 in
theorem t_X5_takesMove_176 {p : Program} {l : Launch} {e : Env} {s : State} {m : MethodId} {args : Array Value} {below : List Frame} {meth : Method} {c : Code} {D : wD} {cy : Nat → ClassId} {X : va_W} {A : Nat → Prop} {S0 : wS} {post : Int32 → wS → Prop} (F : CallFix p m c cX5_takesMove 8 s args wz_X5_takesMove RX5) (hr : meth.sig.returnType = (some .boolean)) (hlocks : meth.locks = false) (hK : wK D cy A s) : ∀ {S : wS} {H : Heap} {locs : List Loc} {ls : Array Slot}, wp_X5_takesMove_176 D post S → wO D cy X A s.heap S H locs → wX D S0 S → lv_has ls 8 [] → W p l e r_X5_takesMove s m args below meth c H locs 0 0 (MQ below (va_Qi (fun r S9 => wX D S0 S9 ∧ post r S9) (wB D cy X A) A) args s 0 0 A) (F0 m 176 ls []) := by
  obtain ⟨hx, hb, hml, hown, hts⟩ := id F
  have hwg : ∀ w ∈ WG, w.before args s = true := fun w h => hts w (List.mem_cons_of_mem _ h)
  intro S H locs ls hp hW hE hl
  unfold wp_X5_takesMove_176 at hp
  refine lv_iconst (v := 0) hx hb dX5_takesMove_176 (by decide) ?_
  exact w_zret hx hb hr hlocks hW hp.1 ⟨hE, hp.2⟩ dX5_takesMove_177
set_option maxHeartbeats 4000000 in
set_option maxRecDepth 100000 in
theorem t_X5_takesMove_143 {p : Program} {l : Launch} {e : Env} {s : State} {m : MethodId} {args : Array Value} {below : List Frame} {meth : Method} {c : Code} {D : wD} {cy : Nat → ClassId} {X : va_W} {A : Nat → Prop} {S0 : wS} {post : Int32 → wS → Prop} (F : CallFix p m c cX5_takesMove 8 s args wz_X5_takesMove RX5) (hr : meth.sig.returnType = (some .boolean)) (hlocks : meth.locks = false) (hK : wK D cy A s) : ∀ {S : wS} {H : Heap} {locs : List Loc} {ls : Array Slot} {a0 : Nat} {x5 : Int32} {x6 : Int32} {b0 : Nat} {b1 : Nat} {t2 : Int32} {t3 : Int32}, wp_X5_takesMove_143 D post S a0 x5 x6 b0 b1 t2 t3 → wO D cy X A s.heap S H locs → wX D S0 S → lv_has ls 8 [(0, .ref a0), (5, .int x5), (6, .int x6)] → wM D S a0 → sK S a0 = 10 → wM D S b0 → sK S b0 = 9 → wM D S b1 → sK S b1 = 1 → W p l e r_X5_takesMove s m args below meth c H locs 0 0 (MQ below (va_Qi (fun r S9 => wX D S0 S9 ∧ post r S9) (wB D cy X A) A) args s 0 0 A) (F0 m 143 ls [.int t3, .int t2, .ref b1, .ref b0]) := by
  obtain ⟨hx, hb, hml, hown, hts⟩ := id F
  have hwg : ∀ w ∈ WG, w.before args s = true := fun w h => hts w (List.mem_cons_of_mem _ h)
  have i_10 : ∀ w ∈ u_ws RX5 TX5 11, w ∈ wz_X5_takesMove := fun w h => List.mem_cons_of_mem _ (wu_10 w h)
  have k_42 := hwg _ wf_RX5_42
  intro S H locs ls a0 x5 x6 b0 b1 t2 t3 hp hW hE hl hL_a0 hK_a0 hL_b0 hK_b0 hL_b1 hK_b1
  unfold wp_X5_takesMove_143 at hp
  refine w_callJ (va_runS (As := [.ref b1, .int t2, .int t3]) (rest := [.ref b0]) F (c_X5_packed l hL_b1 hK_b1 hp H.size) (va_cwS 3 hts (wg_S wm_RX5_133 wy_X5_packed) rfl rfl rfl (by decide +kernel) ⟨Nat.le_of_ble_eq_true rfl, Nat.le_of_ble_eq_true rfl⟩) (w_preS hK hW) rfl rfl hl.1 rfl (lv_room (Nat.le_of_ble_eq_true rfl)) dX5_takesMove_143 ⟨Nat.le_of_ble_eq_true rfl, Nat.le_of_ble_eq_true rfl⟩) hW (fun r_1 S_2 H locs hp hW => ?_)
  obtain ⟨hX_S_2, hp⟩ := hp
  refine W.widen (k := 0) (n := 0) (by decide) (by decide) ?_
  have hE := hE.trans hX_S_2
  have hK_a0 : sK S_2 a0 = 10 := (hX_S_2.2 a0 hL_a0).1.trans hK_a0
  have hL_a0 : wM D S_2 a0 := hX_S_2.M hL_a0
  have hK_b0 : sK S_2 b0 = 9 := (hX_S_2.2 b0 hL_b0).1.trans hK_b0
  have hL_b0 : wM D S_2 b0 := hX_S_2.M hL_b0
  refine w_callI (va_runV (As := [.long r_1]) (rest := []) F (c_X4_numberOfWord l hL_b0 hK_b0 hp H.size) (cwV (C := RX4) 1 hts (wg_V wm_RX5_137 wy_X4_numberOfWord) rfl rfl rfl (by decide +kernel) ⟨Nat.le_of_ble_eq_true rfl, Nat.le_of_ble_eq_true rfl⟩) (w_preV hK hW hL_b0 hK_b0 (by decide) rfl) rfl rfl hl.1 rfl (lv_room (Nat.le_of_ble_eq_true rfl)) dX5_takesMove_146 ⟨Nat.le_of_ble_eq_true rfl, Nat.le_of_ble_eq_true rfl⟩) hW (fun r_3 S_4 H locs hp hW => ?_)
  obtain ⟨hX_S_4, hp⟩ := hp
  refine W.widen (k := 0) (n := 0) (by decide) (by decide) ?_
  have hE := hE.trans hX_S_4
  have hK_a0 : sK S_4 a0 = 10 := (hX_S_4.2 a0 hL_a0).1.trans hK_a0
  have hL_a0 : wM D S_4 a0 := hX_S_4.M hL_a0
  refine lv_istore (lv' := [(7, .int r_3), (0, .ref a0), (5, .int x5), (6, .int x6)]) hx hb dX5_takesMove_149 hl (by decide) rfl (fun ls hl => ?_)
  refine lv_iload hx hb dX5_takesMove_151 (lv_at hl 0 rfl) ?_
  refine lv_iconst (v := (-1)) hx hb dX5_takesMove_153 (by decide) ?_
  refine lv_icmp_eq (tgt := 176) hx hb dX5_takesMove_154 (by decide) (fun c_5 => ?_) (fun c_5 => ?_)
  · replace hp := hp.1 c_5
    exact t_X5_takesMove_176 F hr hlocks hK hp hW hE (lv_sub hl [] rfl)
  · replace hp := hp.2 c_5
    refine lv_iload hx hb dX5_takesMove_157 (lv_at hl 3 rfl) ?_
    refine lv_if_eq (tgt := 178) hx hb dX5_takesMove_159 (by decide) (fun c_6 => ?_) (fun c_6 => ?_)
    · replace hp := hp.1 c_6
      exact t_X5_takesMove_178 F hr hlocks hK hp hW hE (lv_sub hl [1, 0] rfl) hL_a0 hK_a0
    · replace hp := hp.2 c_6
      refine lv_aload_n hx hb dX5_takesMove_162 rfl (lv_at hl 1 rfl) ?_
      obtain ⟨y_7, ey_7, hL_y_7, hK_y_7, hp⟩ := hp
      refine w_get (k := 10) (f := 0) (T := TX5) (v := .ref y_7) F hK hW hL_a0 hK_a0 (by decide) rfl rfl (by decide) i_10 k_42 (by rw [show wv 10 0 S_4 a0 = va_rf (sR S_4 a0 0) from rfl, ey_7]; rfl) dX5_takesMove_163 ?_
      refine lv_iload hx hb dX5_takesMove_166 (lv_at hl 0 rfl) ?_
      refine w_callI (va_runV (As := [.int r_3]) (rest := []) F (c_X4_markOf l hL_y_7 hK_y_7 hp H.size) (cwV (C := RX4) 1 hts (wg_V wm_RX5_141 wy_X4_markOf) rfl rfl rfl (by decide +kernel) ⟨Nat.le_of_ble_eq_true rfl, Nat.le_of_ble_eq_true rfl⟩) (w_preV hK hW hL_y_7 hK_y_7 (by decide) rfl) rfl rfl hl.1 rfl (lv_room (Nat.le_of_ble_eq_true rfl)) dX5_takesMove_168 ⟨Nat.le_of_ble_eq_true rfl, Nat.le_of_ble_eq_true rfl⟩) hW (fun r_8 S_9 H locs hp hW => ?_)
      obtain ⟨hX_S_9, hp⟩ := hp
      refine W.widen (k := 0) (n := 0) (by decide) (by decide) ?_
      have hE := hE.trans hX_S_9
      have hK_a0 : sK S_9 a0 = 10 := (hX_S_9.2 a0 hL_a0).1.trans hK_a0
      have hL_a0 : wM D S_9 a0 := hX_S_9.M hL_a0
      refine lv_iload hx hb dX5_takesMove_171 (lv_at hl 2 rfl) ?_
      refine lv_icmp_eq (tgt := 178) hx hb dX5_takesMove_173 (by decide) (fun c_10 => ?_) (fun c_10 => ?_)
      · replace hp := hp.1 c_10
        exact t_X5_takesMove_178 F hr hlocks hK hp hW hE (lv_sub hl [1, 0] rfl) hL_a0 hK_a0
      · replace hp := hp.2 c_10
        exact t_X5_takesMove_176 F hr hlocks hK hp hW hE (lv_sub hl [] rfl)
set_option maxHeartbeats 4000000 in
set_option maxRecDepth 100000 in
theorem t_X5_takesMove_123 {p : Program} {l : Launch} {e : Env} {s : State} {m : MethodId} {args : Array Value} {below : List Frame} {meth : Method} {c : Code} {D : wD} {cy : Nat → ClassId} {X : va_W} {A : Nat → Prop} {S0 : wS} {post : Int32 → wS → Prop} (F : CallFix p m c cX5_takesMove 8 s args wz_X5_takesMove RX5) (hr : meth.sig.returnType = (some .boolean)) (hlocks : meth.locks = false) (hK : wK D cy A s) : ∀ {S : wS} {H : Heap} {locs : List Loc} {ls : Array Slot} {a0 : Nat} {a1 : Nat} {x2 : Int32} {x3 : Int32} {x5 : Int32} {t0 : Int32}, wp_X5_takesMove_123 D post S a0 a1 x2 x3 x5 t0 → wO D cy X A s.heap S H locs → wX D S0 S → lv_has ls 8 [(0, .ref a0), (1, .ref a1), (2, .int x2), (3, .int x3), (5, .int x5)] → wM D S a0 → sK S a0 = 10 → wM D S a1 → sK S a1 = 1 → W p l e r_X5_takesMove s m args below meth c H locs 0 0 (MQ below (va_Qi (fun r S9 => wX D S0 S9 ∧ post r S9) (wB D cy X A) A) args s 0 0 A) (F0 m 123 ls [.int t0]) := by
  obtain ⟨hx, hb, hml, hown, hts⟩ := id F
  have hwg : ∀ w ∈ WG, w.before args s = true := fun w h => hts w (List.mem_cons_of_mem _ h)
  have i_10 : ∀ w ∈ u_ws RX5 TX5 11, w ∈ wz_X5_takesMove := fun w h => List.mem_cons_of_mem _ (wu_10 w h)
  have k_42 := hwg _ wf_RX5_42
  intro S H locs ls a0 a1 x2 x3 x5 t0 hp hW hE hl hL_a0 hK_a0 hL_a1 hK_a1
  unfold wp_X5_takesMove_123 at hp
  refine lv_istore (lv' := [(6, .int t0), (0, .ref a0), (1, .ref a1), (2, .int x2), (3, .int x3), (5, .int x5)]) hx hb dX5_takesMove_123 hl (by decide) rfl (fun ls hl => ?_)
  refine lv_aload_n hx hb dX5_takesMove_125 rfl (lv_at hl 1 rfl) ?_
  obtain ⟨y_1, ey_1, hL_y_1, hK_y_1, hp⟩ := hp
  refine w_get (k := 10) (f := 0) (T := TX5) (v := .ref y_1) F hK hW hL_a0 hK_a0 (by decide) rfl rfl (by decide) i_10 k_42 (by rw [show wv 10 0 S a0 = va_rf (sR S a0 0) from rfl, ey_1]; rfl) dX5_takesMove_126 ?_
  refine lv_aload_n hx hb dX5_takesMove_129 rfl (lv_at hl 2 rfl) ?_
  refine lv_iload_n hx hb dX5_takesMove_130 rfl (lv_at hl 3 rfl) ?_
  refine lv_iload hx hb dX5_takesMove_131 (lv_at hl 0 rfl) ?_
  refine lv_if_eq (tgt := 142) hx hb dX5_takesMove_133 (by decide) (fun c_2 => ?_) (fun c_2 => ?_)
  · replace hp := hp.1 c_2
    refine lv_iload_n hx hb dX5_takesMove_142 rfl (lv_at hl 4 rfl) ?_
    exact t_X5_takesMove_143 F hr hlocks hK hp hW hE (lv_sub hl [1, 5, 0] rfl) hL_a0 hK_a0 hL_y_1 hK_y_1 hL_a1 hK_a1
  · replace hp := hp.2 c_2
    refine lv_iload_n hx hb dX5_takesMove_136 rfl (lv_at hl 4 rfl) ?_
    refine lv_iconst (v := 1) hx hb dX5_takesMove_137 (by decide) ?_
    refine lv_isub hx hb dX5_takesMove_138 ?_
    refine lv_goto (tgt := 143) hx hb dX5_takesMove_139 (by decide) ?_
    exact t_X5_takesMove_143 F hr hlocks hK hp hW hE (lv_sub hl [1, 5, 0] rfl) hL_a0 hK_a0 hL_y_1 hK_y_1 hL_a1 hK_a1
set_option maxHeartbeats 4000000 in
set_option maxRecDepth 100000 in
theorem t_X5_takesMove_118 {p : Program} {l : Launch} {e : Env} {s : State} {m : MethodId} {args : Array Value} {below : List Frame} {meth : Method} {c : Code} {D : wD} {cy : Nat → ClassId} {X : va_W} {A : Nat → Prop} {S0 : wS} {post : Int32 → wS → Prop} (F : CallFix p m c cX5_takesMove 8 s args wz_X5_takesMove RX5) (hr : meth.sig.returnType = (some .boolean)) (hlocks : meth.locks = false) (hK : wK D cy A s) : ∀ {S : wS} {H : Heap} {locs : List Loc} {ls : Array Slot} {a0 : Nat} {a1 : Nat} {x2 : Int32} {x3 : Int32} {x5 : Int32}, wp_X5_takesMove_118 D post S a0 a1 x2 x3 x5 → wO D cy X A s.heap S H locs → wX D S0 S → lv_has ls 8 [(0, .ref a0), (1, .ref a1), (2, .int x2), (3, .int x3), (5, .int x5)] → wM D S a0 → sK S a0 = 10 → wM D S a1 → sK S a1 = 1 → W p l e r_X5_takesMove s m args below meth c H locs 0 0 (MQ below (va_Qi (fun r S9 => wX D S0 S9 ∧ post r S9) (wB D cy X A) A) args s 0 0 A) (F0 m 118 ls []) := by
  obtain ⟨hx, hb, hml, hown, hts⟩ := id F
  have hwg : ∀ w ∈ WG, w.before args s = true := fun w h => hts w (List.mem_cons_of_mem _ h)
  intro S H locs ls a0 a1 x2 x3 x5 hp hW hE hl hL_a0 hK_a0 hL_a1 hK_a1
  unfold wp_X5_takesMove_118 at hp
  refine lv_iconst (v := 1) hx hb dX5_takesMove_118 (by decide) ?_
  refine lv_goto (tgt := 123) hx hb dX5_takesMove_119 (by decide) ?_
  exact t_X5_takesMove_123 F hr hlocks hK hp hW hE (lv_sub hl [0, 1, 2, 3, 4] rfl) hL_a0 hK_a0 hL_a1 hK_a1
set_option maxHeartbeats 4000000 in
set_option maxRecDepth 100000 in
theorem t_X5_takesMove_67 {p : Program} {l : Launch} {e : Env} {s : State} {m : MethodId} {args : Array Value} {below : List Frame} {meth : Method} {c : Code} {D : wD} {cy : Nat → ClassId} {X : va_W} {A : Nat → Prop} {S0 : wS} {post : Int32 → wS → Prop} (F : CallFix p m c cX5_takesMove 8 s args wz_X5_takesMove RX5) (hr : meth.sig.returnType = (some .boolean)) (hlocks : meth.locks = false) (hK : wK D cy A s) : ∀ {S : wS} {H : Heap} {locs : List Loc} {ls : Array Slot}, wp_X5_takesMove_67 D post S → wO D cy X A s.heap S H locs → wX D S0 S → lv_has ls 8 [] → W p l e r_X5_takesMove s m args below meth c H locs 0 0 (MQ below (va_Qi (fun r S9 => wX D S0 S9 ∧ post r S9) (wB D cy X A) A) args s 0 0 A) (F0 m 67 ls []) := by
  obtain ⟨hx, hb, hml, hown, hts⟩ := id F
  have hwg : ∀ w ∈ WG, w.before args s = true := fun w h => hts w (List.mem_cons_of_mem _ h)
  intro S H locs ls hp hW hE hl
  unfold wp_X5_takesMove_67 at hp
  refine lv_iconst (v := 0) hx hb dX5_takesMove_67 (by decide) ?_
  exact w_zret hx hb hr hlocks hW hp.1 ⟨hE, hp.2⟩ dX5_takesMove_68
set_option maxHeartbeats 4000000 in
set_option maxRecDepth 100000 in
theorem t_X5_takesMove_25 {p : Program} {l : Launch} {e : Env} {s : State} {m : MethodId} {args : Array Value} {below : List Frame} {meth : Method} {c : Code} {D : wD} {cy : Nat → ClassId} {X : va_W} {A : Nat → Prop} {S0 : wS} {post : Int32 → wS → Prop} (F : CallFix p m c cX5_takesMove 8 s args wz_X5_takesMove RX5) (hr : meth.sig.returnType = (some .boolean)) (hlocks : meth.locks = false) (hK : wK D cy A s) : ∀ {S : wS} {H : Heap} {locs : List Loc} {ls : Array Slot} {a0 : Nat} {a1 : Nat} {x2 : Int32} {x3 : Int32} {t0 : Int32}, wp_X5_takesMove_25 D post S a0 a1 x2 x3 t0 → wO D cy X A s.heap S H locs → wX D S0 S → lv_has ls 8 [(0, .ref a0), (1, .ref a1), (2, .int x2), (3, .int x3)] → wM D S a0 → sK S a0 = 10 → wM D S a1 → sK S a1 = 1 → W p l e r_X5_takesMove s m args below meth c H locs 0 0 (MQ below (va_Qi (fun r S9 => wX D S0 S9 ∧ post r S9) (wB D cy X A) A) args s 0 0 A) (F0 m 25 ls [.int t0]) := by
  obtain ⟨hx, hb, hml, hown, hts⟩ := id F
  have hwg : ∀ w ∈ WG, w.before args s = true := fun w h => hts w (List.mem_cons_of_mem _ h)
  have i_10 : ∀ w ∈ u_ws RX5 TX5 11, w ∈ wz_X5_takesMove := fun w h => List.mem_cons_of_mem _ (wu_10 w h)
  have k_11 := hwg _ wf_RX5_11
  have k_25 := hwg _ wf_RX5_25
  have k_39 := hwg _ wf_RX5_39
  have k_42 := hwg _ wf_RX5_42
  have k_51 := hwg _ wf_RX5_51
  intro S H locs ls a0 a1 x2 x3 t0 hp hW hE hl hL_a0 hK_a0 hL_a1 hK_a1
  unfold wp_X5_takesMove_25 at hp
  refine lv_istore (lv' := [(4, .int t0), (0, .ref a0), (1, .ref a1), (2, .int x2), (3, .int x3)]) hx hb dX5_takesMove_25 hl (by decide) rfl (fun ls hl => ?_)
  refine lv_aload_n hx hb dX5_takesMove_27 rfl (lv_at hl 1 rfl) ?_
  refine w_get (k := 10) (f := 10) (T := TX5) (v := .int (sI S a0 10)) F hK hW hL_a0 hK_a0 (by decide) rfl rfl (by decide) i_10 k_39 rfl dX5_takesMove_28 ?_
  refine lv_if_ne (tgt := 67) hx hb dX5_takesMove_31 (by decide) (fun c_1 => ?_) (fun c_1 => ?_)
  · replace hp := hp.1 c_1
    exact t_X5_takesMove_67 F hr hlocks hK hp hW hE (lv_sub hl [] rfl)
  · replace hp := hp.2 c_1
    refine lv_iload hx hb dX5_takesMove_34 (lv_at hl 0 rfl) ?_
    refine lv_if_ne (tgt := 67) hx hb dX5_takesMove_36 (by decide) (fun c_2 => ?_) (fun c_2 => ?_)
    · replace hp := hp.1 c_2
      exact t_X5_takesMove_67 F hr hlocks hK hp hW hE (lv_sub hl [] rfl)
    · replace hp := hp.2 c_2
      refine lv_aload_n hx hb dX5_takesMove_39 rfl (lv_at hl 1 rfl) ?_
      refine w_get (k := 10) (f := 6) (T := TX5) (v := .int (sI S a0 6)) F hK hW hL_a0 hK_a0 (by decide) rfl rfl (by decide) i_10 k_25 rfl dX5_takesMove_40 ?_
      refine lv_if_lt (tgt := 67) hx hb dX5_takesMove_43 (by decide) (fun c_3 => ?_) (fun c_3 => ?_)
      · replace hp := hp.1 c_3
        exact t_X5_takesMove_67 F hr hlocks hK hp hW hE (lv_sub hl [] rfl)
      · replace hp := hp.2 c_3
        refine lv_aload_n hx hb dX5_takesMove_46 rfl (lv_at hl 1 rfl) ?_
        refine w_get (k := 10) (f := 6) (T := TX5) (v := .int (sI S a0 6)) F hK hW hL_a0 hK_a0 (by decide) rfl rfl (by decide) i_10 k_25 rfl dX5_takesMove_47 ?_
        refine lv_iconst (v := 5) hx hb dX5_takesMove_50 (by decide) ?_
        refine lv_icmp_ge (tgt := 67) hx hb dX5_takesMove_51 (by decide) (fun c_4 => ?_) (fun c_4 => ?_)
        · replace hp := hp.1 c_4
          exact t_X5_takesMove_67 F hr hlocks hK hp hW hE (lv_sub hl [] rfl)
        · replace hp := hp.2 c_4
          refine lv_iload_n hx hb dX5_takesMove_54 rfl (lv_at hl 4 rfl) ?_
          refine lv_aload_n hx hb dX5_takesMove_55 rfl (lv_at hl 2 rfl) ?_
          refine w_callI (va_runV (As := []) (rest := [.int x3]) F (c_J4_length_8abf5 l hL_a1 hK_a1 hp H.size) (cwV (C := RJ4) 0 hts (wg_V wm_RX5_65 wy_J4_length_8abf5) rfl rfl rfl (by decide +kernel) ⟨Nat.le_of_ble_eq_true rfl, Nat.le_of_ble_eq_true rfl⟩) (w_preV hK hW hL_a1 hK_a1 (by decide) rfl) rfl rfl hl.1 rfl (lv_room (Nat.le_of_ble_eq_true rfl)) dX5_takesMove_56 ⟨Nat.le_of_ble_eq_true rfl, Nat.le_of_ble_eq_true rfl⟩) hW (fun r_5 S_6 H locs hp hW => ?_)
          obtain ⟨hX_S_6, hp⟩ := hp
          refine W.widen (k := 0) (n := 0) (by decide) (by decide) ?_
          have hE := hE.trans hX_S_6
          have hK_a0 : sK S_6 a0 = 10 := (hX_S_6.2 a0 hL_a0).1.trans hK_a0
          have hL_a0 : wM D S_6 a0 := hX_S_6.M hL_a0
          have hK_a1 : sK S_6 a1 = 1 := (hX_S_6.2 a1 hL_a1).1.trans hK_a1
          have hL_a1 : wM D S_6 a1 := hX_S_6.M hL_a1
          refine lv_icmp_gt (tgt := 67) hx hb dX5_takesMove_59 (by decide) (fun c_7 => ?_) (fun c_7 => ?_)
          · replace hp := hp.1 c_7
            exact t_X5_takesMove_67 F hr hlocks hK hp hW hE (lv_sub hl [] rfl)
          · replace hp := hp.2 c_7
            refine lv_iload_n hx hb dX5_takesMove_62 rfl (lv_at hl 4 rfl) ?_
            refine lv_iload_n hx hb dX5_takesMove_63 rfl (lv_at hl 3 rfl) ?_
            refine lv_icmp_gt (tgt := 69) hx hb dX5_takesMove_64 (by decide) (fun c_8 => ?_) (fun c_8 => ?_)
            · replace hp := hp.1 c_8
              refine lv_aload_n hx hb dX5_takesMove_69 rfl (lv_at hl 1 rfl) ?_
              obtain ⟨y_9, ey_9, hL_y_9, hK_y_9, hp⟩ := hp
              refine w_get (k := 10) (f := 1) (T := TX5) (v := .ref y_9) F hK hW hL_a0 hK_a0 (by decide) rfl rfl (by decide) i_10 k_51 (by rw [show wv 10 1 S_6 a0 = va_rf (sR S_6 a0 1) from rfl, ey_9]; rfl) dX5_takesMove_70 ?_
              refine lv_aload_n hx hb dX5_takesMove_73 rfl (lv_at hl 1 rfl) ?_
              obtain ⟨y_10, ey_10, hL_y_10, hK_y_10, hp⟩ := hp
              refine w_get (k := 10) (f := 2) (T := TX5) (v := .ref y_10) F hK hW hL_a0 hK_a0 (by decide) rfl rfl (by decide) i_10 k_11 (by rw [show wv 10 2 S_6 a0 = va_rf (sR S_6 a0 2) from rfl, ey_10]; rfl) dX5_takesMove_74 ?_
              refine lv_aload_n hx hb dX5_takesMove_77 rfl (lv_at hl 1 rfl) ?_
              refine w_get (k := 10) (f := 6) (T := TX5) (v := .int (sI S_6 a0 6)) F hK hW hL_a0 hK_a0 (by decide) rfl rfl (by decide) i_10 k_25 rfl dX5_takesMove_78 ?_
              refine w_callV (va_runV (As := [.ref y_10, .int (sI S_6 a0 6)]) (rest := []) F (c_X7_load l hL_y_9 hK_y_9 hL_y_10 hK_y_10 hp H.size) (cwV (C := RX7) 2 hts (wg_V wm_RX5_124 wy_X7_load) rfl rfl rfl (by decide +kernel) ⟨Nat.le_of_ble_eq_true rfl, Nat.le_of_ble_eq_true rfl⟩) (w_preV hK hW hL_y_9 hK_y_9 (by decide) rfl) rfl rfl hl.1 rfl (lv_room (Nat.le_of_ble_eq_true rfl)) dX5_takesMove_81 ⟨Nat.le_of_ble_eq_true rfl, Nat.le_of_ble_eq_true rfl⟩) hW (fun S_12 H locs hp hW => ?_)
              obtain ⟨hX_S_12, hp⟩ := hp
              refine W.widen (k := 0) (n := 0) (by decide) (by decide) ?_
              have hE := hE.trans hX_S_12
              have hK_a0 : sK S_12 a0 = 10 := (hX_S_12.2 a0 hL_a0).1.trans hK_a0
              have hL_a0 : wM D S_12 a0 := hX_S_12.M hL_a0
              have hK_a1 : sK S_12 a1 = 1 := (hX_S_12.2 a1 hL_a1).1.trans hK_a1
              have hL_a1 : wM D S_12 a1 := hX_S_12.M hL_a1
              refine lv_aload_n hx hb dX5_takesMove_84 rfl (lv_at hl 1 rfl) ?_
              obtain ⟨y_13, ey_13, hL_y_13, hK_y_13, hp⟩ := hp
              refine w_get (k := 10) (f := 0) (T := TX5) (v := .ref y_13) F hK hW hL_a0 hK_a0 (by decide) rfl rfl (by decide) i_10 k_42 (by rw [show wv 10 0 S_12 a0 = va_rf (sR S_12 a0 0) from rfl, ey_13]; rfl) dX5_takesMove_85 ?_
              refine lv_aload_n hx hb dX5_takesMove_88 rfl (lv_at hl 1 rfl) ?_
              obtain ⟨y_14, ey_14, hL_y_14, hK_y_14, hp⟩ := hp
              refine w_get (k := 10) (f := 1) (T := TX5) (v := .ref y_14) F hK hW hL_a0 hK_a0 (by decide) rfl rfl (by decide) i_10 k_51 (by rw [show wv 10 1 S_12 a0 = va_rf (sR S_12 a0 1) from rfl, ey_14]; rfl) dX5_takesMove_89 ?_
              refine w_callV (va_runV (As := [.ref y_14]) (rest := []) F (c_X4_look l hL_y_13 hK_y_13 hL_y_14 hK_y_14 hp H.size) (cwV (C := RX4) 1 hts (wg_V wm_RX5_127 wy_X4_look) rfl rfl rfl (by decide +kernel) ⟨Nat.le_of_ble_eq_true rfl, Nat.le_of_ble_eq_true rfl⟩) (w_preV hK hW hL_y_13 hK_y_13 (by decide) rfl) rfl rfl hl.1 rfl (lv_room (Nat.le_of_ble_eq_true rfl)) dX5_takesMove_92 ⟨Nat.le_of_ble_eq_true rfl, Nat.le_of_ble_eq_true rfl⟩) hW (fun S_16 H locs hp hW => ?_)
              obtain ⟨hX_S_16, hp⟩ := hp
              refine W.widen (k := 0) (n := 0) (by decide) (by decide) ?_
              have hE := hE.trans hX_S_16
              have hK_a0 : sK S_16 a0 = 10 := (hX_S_16.2 a0 hL_a0).1.trans hK_a0
              have hL_a0 : wM D S_16 a0 := hX_S_16.M hL_a0
              have hK_a1 : sK S_16 a1 = 1 := (hX_S_16.2 a1 hL_a1).1.trans hK_a1
              have hL_a1 : wM D S_16 a1 := hX_S_16.M hL_a1
              refine lv_aload_n hx hb dX5_takesMove_95 rfl (lv_at hl 2 rfl) ?_
              refine lv_iload_n hx hb dX5_takesMove_96 rfl (lv_at hl 4 rfl) ?_
              refine lv_iconst (v := 1) hx hb dX5_takesMove_97 (by decide) ?_
              refine lv_isub hx hb dX5_takesMove_98 ?_
              refine w_callI (va_runV (As := [.int (x3 - (1 : Int32))]) (rest := []) F (c_J4_charAt_5068e l hL_a1 hK_a1 hp H.size) (cwV (C := RJ4) 1 hts (wg_V wm_RX5_87 wy_J4_charAt_5068e) rfl rfl rfl (by decide +kernel) ⟨Nat.le_of_ble_eq_true rfl, Nat.le_of_ble_eq_true rfl⟩) (w_preV hK hW hL_a1 hK_a1 (by decide) rfl) rfl rfl hl.1 rfl (lv_room (Nat.le_of_ble_eq_true rfl)) dX5_takesMove_99 ⟨Nat.le_of_ble_eq_true rfl, Nat.le_of_ble_eq_true rfl⟩) hW (fun r_17 S_18 H locs hp hW => ?_)
              obtain ⟨hX_S_18, hp⟩ := hp
              refine W.widen (k := 0) (n := 0) (by decide) (by decide) ?_
              have hE := hE.trans hX_S_18
              have hK_a0 : sK S_18 a0 = 10 := (hX_S_18.2 a0 hL_a0).1.trans hK_a0
              have hL_a0 : wM D S_18 a0 := hX_S_18.M hL_a0
              have hK_a1 : sK S_18 a1 = 1 := (hX_S_18.2 a1 hL_a1).1.trans hK_a1
              have hL_a1 : wM D S_18 a1 := hX_S_18.M hL_a1
              refine lv_istore (lv' := [(5, .int r_17), (4, .int t0), (0, .ref a0), (1, .ref a1), (2, .int x2), (3, .int x3)]) hx hb dX5_takesMove_102 hl (by decide) rfl (fun ls hl => ?_)
              refine lv_iload hx hb dX5_takesMove_104 (lv_at hl 0 rfl) ?_
              refine lv_bipush (v := 43) hx hb dX5_takesMove_106 (by decide) ?_
              refine lv_icmp_eq (tgt := 118) hx hb dX5_takesMove_108 (by decide) (fun c_19 => ?_) (fun c_19 => ?_)
              · replace hp := hp.1 c_19
                exact t_X5_takesMove_118 F hr hlocks hK hp hW hE (lv_sub hl [2, 3, 4, 5, 0] rfl) hL_a0 hK_a0 hL_a1 hK_a1
              · replace hp := hp.2 c_19
                refine lv_iload hx hb dX5_takesMove_111 (lv_at hl 0 rfl) ?_
                refine lv_bipush (v := 35) hx hb dX5_takesMove_113 (by decide) ?_
                refine lv_icmp_ne (tgt := 122) hx hb dX5_takesMove_115 (by decide) (fun c_20 => ?_) (fun c_20 => ?_)
                · replace hp := hp.1 c_20
                  refine lv_iconst (v := 0) hx hb dX5_takesMove_122 (by decide) ?_
                  exact t_X5_takesMove_123 F hr hlocks hK hp hW hE (lv_sub hl [2, 3, 4, 5, 0] rfl) hL_a0 hK_a0 hL_a1 hK_a1
                · replace hp := hp.2 c_20
                  exact t_X5_takesMove_118 F hr hlocks hK hp hW hE (lv_sub hl [2, 3, 4, 5, 0] rfl) hL_a0 hK_a0 hL_a1 hK_a1
            · replace hp := hp.2 c_8
              exact t_X5_takesMove_67 F hr hlocks hK hp hW hE (lv_sub hl [] rfl)
set_option maxHeartbeats 4000000 in
set_option maxRecDepth 100000 in
theorem t_X5_takesMove_24 {p : Program} {l : Launch} {e : Env} {s : State} {m : MethodId} {args : Array Value} {below : List Frame} {meth : Method} {c : Code} {D : wD} {cy : Nat → ClassId} {X : va_W} {A : Nat → Prop} {S0 : wS} {post : Int32 → wS → Prop} (F : CallFix p m c cX5_takesMove 8 s args wz_X5_takesMove RX5) (hr : meth.sig.returnType = (some .boolean)) (hlocks : meth.locks = false) (hK : wK D cy A s) : ∀ {S : wS} {H : Heap} {locs : List Loc} {ls : Array Slot} {a0 : Nat} {a1 : Nat} {x2 : Int32} {x3 : Int32}, wp_X5_takesMove_24 D post S a0 a1 x2 x3 → wO D cy X A s.heap S H locs → wX D S0 S → lv_has ls 8 [(0, .ref a0), (1, .ref a1), (2, .int x2), (3, .int x3)] → wM D S a0 → sK S a0 = 10 → wM D S a1 → sK S a1 = 1 → W p l e r_X5_takesMove s m args below meth c H locs 0 0 (MQ below (va_Qi (fun r S9 => wX D S0 S9 ∧ post r S9) (wB D cy X A) A) args s 0 0 A) (F0 m 24 ls []) := by
  obtain ⟨hx, hb, hml, hown, hts⟩ := id F
  have hwg : ∀ w ∈ WG, w.before args s = true := fun w h => hts w (List.mem_cons_of_mem _ h)
  intro S H locs ls a0 a1 x2 x3 hp hW hE hl hL_a0 hK_a0 hL_a1 hK_a1
  unfold wp_X5_takesMove_24 at hp
  refine lv_iconst (v := 0) hx hb dX5_takesMove_24 (by decide) ?_
  exact t_X5_takesMove_25 F hr hlocks hK hp hW hE (lv_sub hl [0, 1, 2, 3] rfl) hL_a0 hK_a0 hL_a1 hK_a1
set_option maxHeartbeats 4000000 in
set_option maxRecDepth 100000 in
theorem t_X5_takesMove_0 {p : Program} {l : Launch} {e : Env} {s : State} {m : MethodId} {args : Array Value} {below : List Frame} {meth : Method} {c : Code} {D : wD} {cy : Nat → ClassId} {X : va_W} {A : Nat → Prop} {S0 : wS} {post : Int32 → wS → Prop} (F : CallFix p m c cX5_takesMove 8 s args wz_X5_takesMove RX5) (hr : meth.sig.returnType = (some .boolean)) (hlocks : meth.locks = false) (hK : wK D cy A s) : ∀ {S : wS} {H : Heap} {locs : List Loc} {ls : Array Slot} {a0 : Nat} {a1 : Nat} {x2 : Int32} {x3 : Int32}, wp_X5_takesMove_0 D post S a0 a1 x2 x3 → wO D cy X A s.heap S H locs → wX D S0 S → lv_has ls 8 [(0, .ref a0), (1, .ref a1), (2, .int x2), (3, .int x3)] → wM D S a0 → sK S a0 = 10 → wM D S a1 → sK S a1 = 1 → W p l e r_X5_takesMove s m args below meth c H locs 0 0 (MQ below (va_Qi (fun r S9 => wX D S0 S9 ∧ post r S9) (wB D cy X A) A) args s 0 0 A) (F0 m 0 ls []) := by
  obtain ⟨hx, hb, hml, hown, hts⟩ := id F
  have hwg : ∀ w ∈ WG, w.before args s = true := fun w h => hts w (List.mem_cons_of_mem _ h)
  have i_10 : ∀ w ∈ u_ws RX5 TX5 11, w ∈ wz_X5_takesMove := fun w h => List.mem_cons_of_mem _ (wu_10 w h)
  have k_18 := hwg _ wf_RX5_18
  have k_25 := hwg _ wf_RX5_25
  have k_29 := hwg _ wf_RX5_29
  intro S H locs ls a0 a1 x2 x3 hp hW hE hl hL_a0 hK_a0 hL_a1 hK_a1
  unfold wp_X5_takesMove_0 at hp
  refine lv_aload_n hx hb dX5_takesMove_0 rfl (lv_at hl 0 rfl) ?_
  refine w_get (k := 10) (f := 6) (T := TX5) (v := .int (sI S a0 6)) F hK hW hL_a0 hK_a0 (by decide) rfl rfl (by decide) i_10 k_25 rfl dX5_takesMove_1 ?_
  refine lv_if_ne (tgt := 24) hx hb dX5_takesMove_4 (by decide) (fun c_1 => ?_) (fun c_1 => ?_)
  · replace hp := hp.1 c_1
    exact t_X5_takesMove_24 F hr hlocks hK hp hW hE (lv_sub hl [0, 1, 2, 3] rfl) hL_a0 hK_a0 hL_a1 hK_a1
  · replace hp := hp.2 c_1
    refine lv_aload_n hx hb dX5_takesMove_7 rfl (lv_at hl 0 rfl) ?_
    obtain ⟨y_2, ey_2, hL_y_2, hK_y_2, hp⟩ := hp
    refine w_get (k := 10) (f := 4) (T := TX5) (v := .ref y_2) F hK hW hL_a0 hK_a0 (by decide) rfl rfl (by decide) i_10 k_18 (by rw [show wv 10 4 S a0 = va_rf (sR S a0 4) from rfl, ey_2]; rfl) dX5_takesMove_8 ?_
    refine lv_iconst (v := 0) hx hb dX5_takesMove_11 (by decide) ?_
    obtain ⟨h_3, hp⟩ := hp
    refine w_ild F hK hW hL_y_2 hK_y_2 h_3 dX5_takesMove_12 ?_
    refine lv_aload_n hx hb dX5_takesMove_13 rfl (lv_at hl 0 rfl) ?_
    refine w_get (k := 10) (f := 7) (T := TX5) (v := .int (sI S a0 7)) F hK hW hL_a0 hK_a0 (by decide) rfl rfl (by decide) i_10 k_29 rfl dX5_takesMove_14 ?_
    refine lv_icmp_lt (tgt := 24) hx hb dX5_takesMove_17 (by decide) (fun c_4 => ?_) (fun c_4 => ?_)
    · replace hp := hp.1 c_4
      exact t_X5_takesMove_24 F hr hlocks hK hp hW hE (lv_sub hl [0, 1, 2, 3] rfl) hL_a0 hK_a0 hL_a1 hK_a1
    · replace hp := hp.2 c_4
      refine lv_iconst (v := 1) hx hb dX5_takesMove_20 (by decide) ?_
      refine lv_goto (tgt := 25) hx hb dX5_takesMove_21 (by decide) ?_
      exact t_X5_takesMove_25 F hr hlocks hK hp hW hE (lv_sub hl [0, 1, 2, 3] rfl) hL_a0 hK_a0 hL_a1 hK_a1
set_option maxHeartbeats 4000000 in
set_option maxRecDepth 100000 in
theorem c_X5_takesMove (l : Launch) {D : wD} {cy : Nat → ClassId} {X : va_W} {S0 : wS} {post : Int32 → wS → Prop} {a0 : Nat} {a1 : Nat} {x2 : Int32} {x3 : Int32} (hL_a0 : wM D S0 a0) (hK_a0 : sK S0 a0 = 10) (hL_a1 : wM D S0 a1) (hK_a1 : sK S0 a1 = 1) (hp : wp_X5_takesMove D post S0 a0 a1 x2 x3) : mI D cy X l yX5_takesMove wz_X5_takesMove r_X5_takesMove [.ref a0, .ref a1, .int x2, .int x3] S0 (fun r S9 => wX D S0 S9 ∧ post r S9) := by
  intro sz
  refine Met.ofW (cc := cX5_takesMove) (maxL := 8) (ret := (some .boolean)) (by decide) rfl ?_
  intro p e s m args below meth c s₁ B hml hv
  obtain ⟨rfl, hsz, hP, hK, hD0, hRO⟩ := hv
  have hts := atoms_spec (ws := wz_X5_takesMove) B.pre
  have hown : s.vm.findClass RX5 = some m.cls := findClass_of_methodNamed B.named
  subst hsz
  have hD := hD0.self (sz := s.heap.size)
  have F : CallFix p m c cX5_takesMove 8 s _ wz_X5_takesMove RX5 := ⟨B.exec, B.bytes, hml, hown, hts⟩
  have hr := B.returns
  have hlocks := B.notSynchronized
  generalize hAe : va_A (wL cy X S0) s.heap.size = A at hD hK ⊢
  have hA : ∀ q, s.heap.size ≤ q → A q := fun q h => by rw [← hAe]; exact Or.inr h
  have hW : wO D cy X A s.heap S0 s.heap [] := ⟨hP, hD, va_S.rf, hA, hRO⟩
  have hl := lv_entry ([.ref a0, .ref a1, .int x2, .int x3]) (n := 8) (Nat.le_of_ble_eq_true rfl)
  rw [lg_entry_eq]
  generalize (lg_sl ([.ref a0, .ref a1, .int x2, .int x3]) ++ List.replicate (8 - (lg_sl ([.ref a0, .ref a1, .int x2, .int x3])).length) Slot.unset).toArray = ls at hl ⊢
  have hl : lv_has ls 8 [(0, .ref a0), (1, .ref a1), (2, .int x2), (3, .int x3)] := hl
  unfold wp_X5_takesMove at hp
  exact t_X5_takesMove_0 F hr hlocks hK hp hW wX.rf (lv_sub hl [0, 1, 2, 3] rfl) hL_a0 hK_a0 hL_a1 hK_a1
def wp_X5_isNumber_104 (D : wD) (post : Int32 → wS → Prop)  (S : wS) (t0 : Int32) : Prop :=
narrow .boolean (.int t0) = .int t0 ∧ post t0 S
def wp_X5_isNumber_103 (D : wD) (post : Int32 → wS → Prop)  (S : wS) : Prop :=
wp_X5_isNumber_104 D post S (0 : Int32)
def wp_X5_isNumber_99 (D : wD) (post : Int32 → wS → Prop)  (S : wS) : Prop :=
wp_X5_isNumber_104 D post S (1 : Int32)
def wp_X5_isNumber_77 (D : wD) (post : Int32 → wS → Prop)  (S : wS) (x3 : Int32) (x4 : Int32) : Prop :=
((x3 < (1 : Int32) → wp_X5_isNumber_103 D post S) ∧
 (¬ x3 < (1 : Int32) → (((3 : Int32) < x3 → wp_X5_isNumber_103 D post S) ∧
 (¬ (3 : Int32) < x3 → ((x4 = (1 : Int32) → wp_X5_isNumber_99 D post S) ∧
 (¬ x4 = (1 : Int32) → ((¬ x4 = (3 : Int32) → wp_X5_isNumber_103 D post S) ∧
 (x4 = (3 : Int32) → wp_X5_isNumber_99 D post S))))))))
def wp_X5_isNumber_71 (D : wD) (post : Int32 → wS → Prop) (k_8 : wS → Nat → Int32 → Int32 → Int32 → Int32 → Prop) (S : wS) (a0 : Nat) (x2 : Int32) (x3 : Int32) (x4 : Int32) (x5 : Int32) : Prop :=
∀ x_1 : Int32, x_1 = x5 + 1 →
k_8 S a0 x2 x3 x4 x_1
def wp_X5_isNumber_69 (D : wD) (post : Int32 → wS → Prop)  (S : wS) : Prop :=
narrow .boolean (.int (0 : Int32)) = .int (0 : Int32) ∧ post (0 : Int32) S
def wp_X5_isNumber_8 (D : wD) (post : Int32 → wS → Prop)  : Nat → wS → Nat → Int32 → Int32 → Int32 → Int32 → Prop
  | 0, _, _, _, _, _, _ => False
  | n + 1, S, a0, x2, x3, x4, x5 =>
    ((x2 ≤ x5 → wp_X5_isNumber_77 D post S x3 x4) ∧
     (¬ x2 ≤ x5 → wp_J4_length_8abf5 D (fun r_2 S_3 => 
    ((r_2 ≤ x5 → wp_X5_isNumber_77 D post S_3 x3 x4) ∧
     (¬ r_2 ≤ x5 → wp_J4_charAt_5068e D (fun r_5 S_6 => 
    ((¬ r_5 = (46 : Int32) → ((r_5 < (48 : Int32) → wp_X5_isNumber_69 D post S_6) ∧
     (¬ r_5 < (48 : Int32) → (((57 : Int32) < r_5 → wp_X5_isNumber_69 D post S_6) ∧
     (¬ (57 : Int32) < r_5 → ((¬ x4 = 0 → wp_X5_isNumber_69 D post S_6) ∧
     (x4 = 0 → ∀ x_11 : Int32, x_11 = x3 + 1 →
    wp_X5_isNumber_71 D post (wp_X5_isNumber_8 D post n) S_6 a0 x2 x_11 x4 x5))))))) ∧
     (r_5 = (46 : Int32) → ∀ x_12 : Int32, x_12 = x4 + 1 →
    wp_X5_isNumber_71 D post (wp_X5_isNumber_8 D post n) S_6 a0 x2 x3 x_12 x5))) S_3 a0 x5))) S a0))
def wp_X5_isNumber_0 (D : wD) (post : Int32 → wS → Prop)  (S : wS) (a0 : Nat) (x1 : Int32) (x2 : Int32) : Prop :=
∃ n_1 : Nat, wp_X5_isNumber_8 D post n_1 S a0 x2 (0 : Int32) (0 : Int32) x1
abbrev r_X5_isNumber : Room := { frames := 4, cells := 0, slots := 0, locals := 88 }
def wp_X5_isNumber (D : wD) (post : Int32 → wS → Prop) (S : wS) (a0 : Nat) (x1 : Int32) (x2 : Int32) : Prop := wp_X5_isNumber_0 D post S a0 x1 x2
set_option maxHeartbeats 4000000 in
set_option maxRecDepth 100000 in
theorem t_X5_isNumber_104 {p : Program} {l : Launch} {e : Env} {s : State} {m : MethodId} {args : Array Value} {below : List Frame} {meth : Method} {c : Code} {D : wD} {cy : Nat → ClassId} {X : va_W} {A : Nat → Prop} {S0 : wS} {post : Int32 → wS → Prop} (F : CallFix p m c cX5_isNumber 7 s args wz_X5_isNumber RX5) (hr : meth.sig.returnType = (some .boolean)) (hlocks : meth.locks = false) (hK : wK D cy A s) : ∀ {S : wS} {H : Heap} {locs : List Loc} {ls : Array Slot} {t0 : Int32}, wp_X5_isNumber_104 D post S t0 → wO D cy X A s.heap S H locs → wX D S0 S → lv_has ls 7 [] → W p l e r_X5_isNumber s m args below meth c H locs 0 0 (MQ below (va_Qi (fun r S9 => wX D S0 S9 ∧ post r S9) (wB D cy X A) A) args s 0 0 A) (F0 m 104 ls [.int t0]) := by
  obtain ⟨hx, hb, hml, hown, hts⟩ := id F
  have hwg : ∀ w ∈ WG, w.before args s = true := fun w h => hts w (List.mem_cons_of_mem _ h)
  intro S H locs ls t0 hp hW hE hl
  unfold wp_X5_isNumber_104 at hp
  exact w_zret hx hb hr hlocks hW hp.1 ⟨hE, hp.2⟩ dX5_isNumber_104
set_option maxHeartbeats 4000000 in
set_option maxRecDepth 100000 in
theorem t_X5_isNumber_103 {p : Program} {l : Launch} {e : Env} {s : State} {m : MethodId} {args : Array Value} {below : List Frame} {meth : Method} {c : Code} {D : wD} {cy : Nat → ClassId} {X : va_W} {A : Nat → Prop} {S0 : wS} {post : Int32 → wS → Prop} (F : CallFix p m c cX5_isNumber 7 s args wz_X5_isNumber RX5) (hr : meth.sig.returnType = (some .boolean)) (hlocks : meth.locks = false) (hK : wK D cy A s) : ∀ {S : wS} {H : Heap} {locs : List Loc} {ls : Array Slot}, wp_X5_isNumber_103 D post S → wO D cy X A s.heap S H locs → wX D S0 S → lv_has ls 7 [] → W p l e r_X5_isNumber s m args below meth c H locs 0 0 (MQ below (va_Qi (fun r S9 => wX D S0 S9 ∧ post r S9) (wB D cy X A) A) args s 0 0 A) (F0 m 103 ls []) := by
  obtain ⟨hx, hb, hml, hown, hts⟩ := id F
  have hwg : ∀ w ∈ WG, w.before args s = true := fun w h => hts w (List.mem_cons_of_mem _ h)
  intro S H locs ls hp hW hE hl
  unfold wp_X5_isNumber_103 at hp
  refine lv_iconst (v := 0) hx hb dX5_isNumber_103 (by decide) ?_
  exact t_X5_isNumber_104 F hr hlocks hK hp hW hE (lv_sub hl [] rfl)
set_option maxHeartbeats 4000000 in
set_option maxRecDepth 100000 in
theorem t_X5_isNumber_99 {p : Program} {l : Launch} {e : Env} {s : State} {m : MethodId} {args : Array Value} {below : List Frame} {meth : Method} {c : Code} {D : wD} {cy : Nat → ClassId} {X : va_W} {A : Nat → Prop} {S0 : wS} {post : Int32 → wS → Prop} (F : CallFix p m c cX5_isNumber 7 s args wz_X5_isNumber RX5) (hr : meth.sig.returnType = (some .boolean)) (hlocks : meth.locks = false) (hK : wK D cy A s) : ∀ {S : wS} {H : Heap} {locs : List Loc} {ls : Array Slot}, wp_X5_isNumber_99 D post S → wO D cy X A s.heap S H locs → wX D S0 S → lv_has ls 7 [] → W p l e r_X5_isNumber s m args below meth c H locs 0 0 (MQ below (va_Qi (fun r S9 => wX D S0 S9 ∧ post r S9) (wB D cy X A) A) args s 0 0 A) (F0 m 99 ls []) := by
  obtain ⟨hx, hb, hml, hown, hts⟩ := id F
  have hwg : ∀ w ∈ WG, w.before args s = true := fun w h => hts w (List.mem_cons_of_mem _ h)
  intro S H locs ls hp hW hE hl
  unfold wp_X5_isNumber_99 at hp
  refine lv_iconst (v := 1) hx hb dX5_isNumber_99 (by decide) ?_
  refine lv_goto (tgt := 104) hx hb dX5_isNumber_100 (by decide) ?_
  exact t_X5_isNumber_104 F hr hlocks hK hp hW hE (lv_sub hl [] rfl)
set_option maxHeartbeats 4000000 in
set_option maxRecDepth 100000 in
theorem t_X5_isNumber_77 {p : Program} {l : Launch} {e : Env} {s : State} {m : MethodId} {args : Array Value} {below : List Frame} {meth : Method} {c : Code} {D : wD} {cy : Nat → ClassId} {X : va_W} {A : Nat → Prop} {S0 : wS} {post : Int32 → wS → Prop} (F : CallFix p m c cX5_isNumber 7 s args wz_X5_isNumber RX5) (hr : meth.sig.returnType = (some .boolean)) (hlocks : meth.locks = false) (hK : wK D cy A s) : ∀ {S : wS} {H : Heap} {locs : List Loc} {ls : Array Slot} {x3 : Int32} {x4 : Int32}, wp_X5_isNumber_77 D post S x3 x4 → wO D cy X A s.heap S H locs → wX D S0 S → lv_has ls 7 [(3, .int x3), (4, .int x4)] → W p l e r_X5_isNumber s m args below meth c H locs 0 0 (MQ below (va_Qi (fun r S9 => wX D S0 S9 ∧ post r S9) (wB D cy X A) A) args s 0 0 A) (F0 m 77 ls []) := by
  obtain ⟨hx, hb, hml, hown, hts⟩ := id F
  have hwg : ∀ w ∈ WG, w.before args s = true := fun w h => hts w (List.mem_cons_of_mem _ h)
  intro S H locs ls x3 x4 hp hW hE hl
  unfold wp_X5_isNumber_77 at hp
  refine lv_iload_n hx hb dX5_isNumber_77 rfl (lv_at hl 0 rfl) ?_
  refine lv_iconst (v := 1) hx hb dX5_isNumber_78 (by decide) ?_
  refine lv_icmp_lt (tgt := 103) hx hb dX5_isNumber_79 (by decide) (fun c_1 => ?_) (fun c_1 => ?_)
  · replace hp := hp.1 c_1
    exact t_X5_isNumber_103 F hr hlocks hK hp hW hE (lv_sub hl [] rfl)
  · replace hp := hp.2 c_1
    refine lv_iload_n hx hb dX5_isNumber_82 rfl (lv_at hl 0 rfl) ?_
    refine lv_iconst (v := 3) hx hb dX5_isNumber_83 (by decide) ?_
    refine lv_icmp_gt (tgt := 103) hx hb dX5_isNumber_84 (by decide) (fun c_2 => ?_) (fun c_2 => ?_)
    · replace hp := hp.1 c_2
      exact t_X5_isNumber_103 F hr hlocks hK hp hW hE (lv_sub hl [] rfl)
    · replace hp := hp.2 c_2
      refine lv_iload hx hb dX5_isNumber_87 (lv_at hl 1 rfl) ?_
      refine lv_iconst (v := 1) hx hb dX5_isNumber_89 (by decide) ?_
      refine lv_icmp_eq (tgt := 99) hx hb dX5_isNumber_90 (by decide) (fun c_3 => ?_) (fun c_3 => ?_)
      · replace hp := hp.1 c_3
        exact t_X5_isNumber_99 F hr hlocks hK hp hW hE (lv_sub hl [] rfl)
      · replace hp := hp.2 c_3
        refine lv_iload hx hb dX5_isNumber_93 (lv_at hl 1 rfl) ?_
        refine lv_iconst (v := 3) hx hb dX5_isNumber_95 (by decide) ?_
        refine lv_icmp_ne (tgt := 103) hx hb dX5_isNumber_96 (by decide) (fun c_4 => ?_) (fun c_4 => ?_)
        · replace hp := hp.1 c_4
          exact t_X5_isNumber_103 F hr hlocks hK hp hW hE (lv_sub hl [] rfl)
        · replace hp := hp.2 c_4
          exact t_X5_isNumber_99 F hr hlocks hK hp hW hE (lv_sub hl [] rfl)
set_option maxHeartbeats 4000000 in
set_option maxRecDepth 100000 in
theorem t_X5_isNumber_71 {p : Program} {l : Launch} {e : Env} {s : State} {m : MethodId} {args : Array Value} {below : List Frame} {meth : Method} {c : Code} {D : wD} {cy : Nat → ClassId} {X : va_W} {A : Nat → Prop} {S0 : wS} {post : Int32 → wS → Prop} (F : CallFix p m c cX5_isNumber 7 s args wz_X5_isNumber RX5) (hr : meth.sig.returnType = (some .boolean)) (hlocks : meth.locks = false) (hK : wK D cy A s) {k_8 : wS → Nat → Int32 → Int32 → Int32 → Int32 → Prop} (q_8 : ∀ {S : wS} {H : Heap} {locs : List Loc} {ls : Array Slot} {a0 : Nat} {x2 : Int32} {x3 : Int32} {x4 : Int32} {x5 : Int32}, k_8 S a0 x2 x3 x4 x5 → wO D cy X A s.heap S H locs → wX D S0 S → lv_has ls 7 [(0, .ref a0), (2, .int x2), (3, .int x3), (4, .int x4), (5, .int x5)] → wM D S a0 → sK S a0 = 1 → W p l e r_X5_isNumber s m args below meth c H locs 0 0 (MQ below (va_Qi (fun r S9 => wX D S0 S9 ∧ post r S9) (wB D cy X A) A) args s 0 0 A) (F0 m 8 ls [])) : ∀ {S : wS} {H : Heap} {locs : List Loc} {ls : Array Slot} {a0 : Nat} {x2 : Int32} {x3 : Int32} {x4 : Int32} {x5 : Int32}, wp_X5_isNumber_71 D post k_8 S a0 x2 x3 x4 x5 → wO D cy X A s.heap S H locs → wX D S0 S → lv_has ls 7 [(0, .ref a0), (2, .int x2), (3, .int x3), (4, .int x4), (5, .int x5)] → wM D S a0 → sK S a0 = 1 → W p l e r_X5_isNumber s m args below meth c H locs 0 0 (MQ below (va_Qi (fun r S9 => wX D S0 S9 ∧ post r S9) (wB D cy X A) A) args s 0 0 A) (F0 m 71 ls []) := by
  obtain ⟨hx, hb, hml, hown, hts⟩ := id F
  have hwg : ∀ w ∈ WG, w.before args s = true := fun w h => hts w (List.mem_cons_of_mem _ h)
  intro S H locs ls a0 x2 x3 x4 x5 hp hW hE hl hL_a0 hK_a0
  unfold wp_X5_isNumber_71 at hp
  obtain ⟨x_1, ex_1⟩ : ∃ z : Int32, z = x5 + 1 := ⟨_, rfl⟩
  replace hp := hp x_1 ex_1
  refine lv_iinc (v := x_1) (lv' := [(5, .int x_1), (0, .ref a0), (2, .int x2), (3, .int x3), (4, .int x4)]) hx hb dX5_isNumber_71 hl (k := 4) rfl (by rw [ex_1]; rfl) (by decide) rfl (fun ls hl => ?_)
  refine lv_goto (tgt := 8) hx hb dX5_isNumber_74 (by decide) ?_
  exact q_8 hp hW hE (lv_sub hl [1, 2, 3, 4, 0] rfl) hL_a0 hK_a0
set_option maxHeartbeats 4000000 in
set_option maxRecDepth 100000 in
theorem t_X5_isNumber_69 {p : Program} {l : Launch} {e : Env} {s : State} {m : MethodId} {args : Array Value} {below : List Frame} {meth : Method} {c : Code} {D : wD} {cy : Nat → ClassId} {X : va_W} {A : Nat → Prop} {S0 : wS} {post : Int32 → wS → Prop} (F : CallFix p m c cX5_isNumber 7 s args wz_X5_isNumber RX5) (hr : meth.sig.returnType = (some .boolean)) (hlocks : meth.locks = false) (hK : wK D cy A s) : ∀ {S : wS} {H : Heap} {locs : List Loc} {ls : Array Slot}, wp_X5_isNumber_69 D post S → wO D cy X A s.heap S H locs → wX D S0 S → lv_has ls 7 [] → W p l e r_X5_isNumber s m args below meth c H locs 0 0 (MQ below (va_Qi (fun r S9 => wX D S0 S9 ∧ post r S9) (wB D cy X A) A) args s 0 0 A) (F0 m 69 ls []) := by
  obtain ⟨hx, hb, hml, hown, hts⟩ := id F
  have hwg : ∀ w ∈ WG, w.before args s = true := fun w h => hts w (List.mem_cons_of_mem _ h)
  intro S H locs ls hp hW hE hl
  unfold wp_X5_isNumber_69 at hp
  refine lv_iconst (v := 0) hx hb dX5_isNumber_69 (by decide) ?_
  exact w_zret hx hb hr hlocks hW hp.1 ⟨hE, hp.2⟩ dX5_isNumber_70
set_option maxHeartbeats 4000000 in
set_option maxRecDepth 100000 in
theorem t_X5_isNumber_8 {p : Program} {l : Launch} {e : Env} {s : State} {m : MethodId} {args : Array Value} {below : List Frame} {meth : Method} {c : Code} {D : wD} {cy : Nat → ClassId} {X : va_W} {A : Nat → Prop} {S0 : wS} {post : Int32 → wS → Prop} (F : CallFix p m c cX5_isNumber 7 s args wz_X5_isNumber RX5) (hr : meth.sig.returnType = (some .boolean)) (hlocks : meth.locks = false) (hK : wK D cy A s) : ∀ (n : Nat) {S : wS} {H : Heap} {locs : List Loc} {ls : Array Slot} {a0 : Nat} {x2 : Int32} {x3 : Int32} {x4 : Int32} {x5 : Int32}, wp_X5_isNumber_8 D post n S a0 x2 x3 x4 x5 → wO D cy X A s.heap S H locs → wX D S0 S → lv_has ls 7 [(0, .ref a0), (2, .int x2), (3, .int x3), (4, .int x4), (5, .int x5)] → wM D S a0 → sK S a0 = 1 → W p l e r_X5_isNumber s m args below meth c H locs 0 0 (MQ below (va_Qi (fun r S9 => wX D S0 S9 ∧ post r S9) (wB D cy X A) A) args s 0 0 A) (F0 m 8 ls []) := by
  obtain ⟨hx, hb, hml, hown, hts⟩ := id F
  have hwg : ∀ w ∈ WG, w.before args s = true := fun w h => hts w (List.mem_cons_of_mem _ h)
  intro n
  induction n with
  | zero =>
    intro S H locs ls a0 x2 x3 x4 x5 hp
    exact hp.elim
  | succ n ih =>
    intro S H locs ls a0 x2 x3 x4 x5 hp hW hE hl hL_a0 hK_a0
    unfold wp_X5_isNumber_8 at hp
    refine lv_iload hx hb dX5_isNumber_8 (lv_at hl 4 rfl) ?_
    refine lv_iload_n hx hb dX5_isNumber_10 rfl (lv_at hl 1 rfl) ?_
    refine lv_icmp_ge (tgt := 77) hx hb dX5_isNumber_11 (by decide) (fun c_1 => ?_) (fun c_1 => ?_)
    · replace hp := hp.1 c_1
      exact t_X5_isNumber_77 F hr hlocks hK hp hW hE (lv_sub hl [2, 3] rfl)
    · replace hp := hp.2 c_1
      refine lv_iload hx hb dX5_isNumber_14 (lv_at hl 4 rfl) ?_
      refine lv_aload_n hx hb dX5_isNumber_16 rfl (lv_at hl 0 rfl) ?_
      refine w_callI (va_runV (As := []) (rest := [.int x5]) F (c_J4_length_8abf5 l hL_a0 hK_a0 hp H.size) (cwV (C := RJ4) 0 hts (wg_V wm_RX5_65 wy_J4_length_8abf5) rfl rfl rfl (by decide +kernel) ⟨Nat.le_of_ble_eq_true rfl, Nat.le_of_ble_eq_true rfl⟩) (w_preV hK hW hL_a0 hK_a0 (by decide) rfl) rfl rfl hl.1 rfl (lv_room (Nat.le_of_ble_eq_true rfl)) dX5_isNumber_17 ⟨Nat.le_of_ble_eq_true rfl, Nat.le_of_ble_eq_true rfl⟩) hW (fun r_2 S_3 H locs hp hW => ?_)
      obtain ⟨hX_S_3, hp⟩ := hp
      refine W.widen (k := 0) (n := 0) (by decide) (by decide) ?_
      have hE := hE.trans hX_S_3
      have hK_a0 : sK S_3 a0 = 1 := (hX_S_3.2 a0 hL_a0).1.trans hK_a0
      have hL_a0 : wM D S_3 a0 := hX_S_3.M hL_a0
      refine lv_icmp_ge (tgt := 77) hx hb dX5_isNumber_20 (by decide) (fun c_4 => ?_) (fun c_4 => ?_)
      · replace hp := hp.1 c_4
        exact t_X5_isNumber_77 F hr hlocks hK hp hW hE (lv_sub hl [2, 3] rfl)
      · replace hp := hp.2 c_4
        refine lv_aload_n hx hb dX5_isNumber_23 rfl (lv_at hl 0 rfl) ?_
        refine lv_iload hx hb dX5_isNumber_24 (lv_at hl 4 rfl) ?_
        refine w_callI (va_runV (As := [.int x5]) (rest := []) F (c_J4_charAt_5068e l hL_a0 hK_a0 hp H.size) (cwV (C := RJ4) 1 hts (wg_V wm_RX5_87 wy_J4_charAt_5068e) rfl rfl rfl (by decide +kernel) ⟨Nat.le_of_ble_eq_true rfl, Nat.le_of_ble_eq_true rfl⟩) (w_preV hK hW hL_a0 hK_a0 (by decide) rfl) rfl rfl hl.1 rfl (lv_room (Nat.le_of_ble_eq_true rfl)) dX5_isNumber_26 ⟨Nat.le_of_ble_eq_true rfl, Nat.le_of_ble_eq_true rfl⟩) hW (fun r_5 S_6 H locs hp hW => ?_)
        obtain ⟨hX_S_6, hp⟩ := hp
        refine W.widen (k := 0) (n := 0) (by decide) (by decide) ?_
        have hE := hE.trans hX_S_6
        have hK_a0 : sK S_6 a0 = 1 := (hX_S_6.2 a0 hL_a0).1.trans hK_a0
        have hL_a0 : wM D S_6 a0 := hX_S_6.M hL_a0
        refine lv_istore (lv' := [(6, .int r_5), (0, .ref a0), (2, .int x2), (3, .int x3), (4, .int x4), (5, .int x5)]) hx hb dX5_isNumber_29 hl (by decide) rfl (fun ls hl => ?_)
        refine lv_iload hx hb dX5_isNumber_31 (lv_at hl 0 rfl) ?_
        refine lv_bipush (v := 46) hx hb dX5_isNumber_33 (by decide) ?_
        refine lv_icmp_ne (tgt := 44) hx hb dX5_isNumber_35 (by decide) (fun c_7 => ?_) (fun c_7 => ?_)
        · replace hp := hp.1 c_7
          refine lv_iload hx hb dX5_isNumber_44 (lv_at hl 0 rfl) ?_
          refine lv_bipush (v := 48) hx hb dX5_isNumber_46 (by decide) ?_
          refine lv_icmp_lt (tgt := 69) hx hb dX5_isNumber_48 (by decide) (fun c_8 => ?_) (fun c_8 => ?_)
          · replace hp := hp.1 c_8
            exact t_X5_isNumber_69 F hr hlocks hK hp hW hE (lv_sub hl [] rfl)
          · replace hp := hp.2 c_8
            refine lv_iload hx hb dX5_isNumber_51 (lv_at hl 0 rfl) ?_
            refine lv_bipush (v := 57) hx hb dX5_isNumber_53 (by decide) ?_
            refine lv_icmp_gt (tgt := 69) hx hb dX5_isNumber_55 (by decide) (fun c_9 => ?_) (fun c_9 => ?_)
            · replace hp := hp.1 c_9
              exact t_X5_isNumber_69 F hr hlocks hK hp hW hE (lv_sub hl [] rfl)
            · replace hp := hp.2 c_9
              refine lv_iload hx hb dX5_isNumber_58 (lv_at hl 4 rfl) ?_
              refine lv_if_ne (tgt := 69) hx hb dX5_isNumber_60 (by decide) (fun c_10 => ?_) (fun c_10 => ?_)
              · replace hp := hp.1 c_10
                exact t_X5_isNumber_69 F hr hlocks hK hp hW hE (lv_sub hl [] rfl)
              · replace hp := hp.2 c_10
                obtain ⟨x_11, ex_11⟩ : ∃ z : Int32, z = x3 + 1 := ⟨_, rfl⟩
                replace hp := hp x_11 ex_11
                refine lv_iinc (v := x_11) (lv' := [(3, .int x_11), (6, .int r_5), (0, .ref a0), (2, .int x2), (4, .int x4), (5, .int x5)]) hx hb dX5_isNumber_63 hl (k := 3) rfl (by rw [ex_11]; rfl) (by decide) rfl (fun ls hl => ?_)
                refine lv_goto (tgt := 71) hx hb dX5_isNumber_66 (by decide) ?_
                exact t_X5_isNumber_71 F hr hlocks hK ih hp hW hE (lv_sub hl [2, 3, 0, 4, 5] rfl) hL_a0 hK_a0
        · replace hp := hp.2 c_7
          obtain ⟨x_12, ex_12⟩ : ∃ z : Int32, z = x4 + 1 := ⟨_, rfl⟩
          replace hp := hp x_12 ex_12
          refine lv_iinc (v := x_12) (lv' := [(4, .int x_12), (6, .int r_5), (0, .ref a0), (2, .int x2), (3, .int x3), (5, .int x5)]) hx hb dX5_isNumber_38 hl (k := 4) rfl (by rw [ex_12]; rfl) (by decide) rfl (fun ls hl => ?_)
          refine lv_goto (tgt := 71) hx hb dX5_isNumber_41 (by decide) ?_
          exact t_X5_isNumber_71 F hr hlocks hK ih hp hW hE (lv_sub hl [2, 3, 4, 0, 5] rfl) hL_a0 hK_a0
set_option maxHeartbeats 4000000 in
set_option maxRecDepth 100000 in
theorem t_X5_isNumber_0 {p : Program} {l : Launch} {e : Env} {s : State} {m : MethodId} {args : Array Value} {below : List Frame} {meth : Method} {c : Code} {D : wD} {cy : Nat → ClassId} {X : va_W} {A : Nat → Prop} {S0 : wS} {post : Int32 → wS → Prop} (F : CallFix p m c cX5_isNumber 7 s args wz_X5_isNumber RX5) (hr : meth.sig.returnType = (some .boolean)) (hlocks : meth.locks = false) (hK : wK D cy A s) : ∀ {S : wS} {H : Heap} {locs : List Loc} {ls : Array Slot} {a0 : Nat} {x1 : Int32} {x2 : Int32}, wp_X5_isNumber_0 D post S a0 x1 x2 → wO D cy X A s.heap S H locs → wX D S0 S → lv_has ls 7 [(0, .ref a0), (1, .int x1), (2, .int x2)] → wM D S a0 → sK S a0 = 1 → W p l e r_X5_isNumber s m args below meth c H locs 0 0 (MQ below (va_Qi (fun r S9 => wX D S0 S9 ∧ post r S9) (wB D cy X A) A) args s 0 0 A) (F0 m 0 ls []) := by
  obtain ⟨hx, hb, hml, hown, hts⟩ := id F
  have hwg : ∀ w ∈ WG, w.before args s = true := fun w h => hts w (List.mem_cons_of_mem _ h)
  intro S H locs ls a0 x1 x2 hp hW hE hl hL_a0 hK_a0
  unfold wp_X5_isNumber_0 at hp
  refine lv_iconst (v := 0) hx hb dX5_isNumber_0 (by decide) ?_
  refine lv_istore_n (lv' := [(3, .int (0 : Int32)), (0, .ref a0), (1, .int x1), (2, .int x2)]) hx hb dX5_isNumber_1 rfl hl (by decide) rfl (fun ls hl => ?_)
  refine lv_iconst (v := 0) hx hb dX5_isNumber_2 (by decide) ?_
  refine lv_istore (lv' := [(4, .int (0 : Int32)), (3, .int (0 : Int32)), (0, .ref a0), (1, .int x1), (2, .int x2)]) hx hb dX5_isNumber_3 hl (by decide) rfl (fun ls hl => ?_)
  refine lv_iload_n hx hb dX5_isNumber_5 rfl (lv_at hl 3 rfl) ?_
  refine lv_istore (lv' := [(5, .int x1), (4, .int (0 : Int32)), (3, .int (0 : Int32)), (0, .ref a0), (1, .int x1), (2, .int x2)]) hx hb dX5_isNumber_6 hl (by decide) rfl (fun ls hl => ?_)
  obtain ⟨n_1, hp⟩ := hp
  exact t_X5_isNumber_8 F hr hlocks hK n_1 hp hW hE (lv_sub hl [3, 5, 2, 1, 0] rfl) hL_a0 hK_a0
set_option maxHeartbeats 4000000 in
set_option maxRecDepth 100000 in
theorem c_X5_isNumber (l : Launch) {D : wD} {cy : Nat → ClassId} {X : va_W} {S0 : wS} {post : Int32 → wS → Prop} {a0 : Nat} {x1 : Int32} {x2 : Int32} (hL_a0 : wM D S0 a0) (hK_a0 : sK S0 a0 = 1) (hp : wp_X5_isNumber D post S0 a0 x1 x2) : mI D cy X l yX5_isNumber wz_X5_isNumber r_X5_isNumber [.ref a0, .int x1, .int x2] S0 (fun r S9 => wX D S0 S9 ∧ post r S9) := by
  intro sz
  refine Met.ofW (cc := cX5_isNumber) (maxL := 7) (ret := (some .boolean)) (by decide) rfl ?_
  intro p e s m args below meth c s₁ B hml hv
  obtain ⟨rfl, hsz, hP, hK, hD0, hRO⟩ := hv
  have hts := atoms_spec (ws := wz_X5_isNumber) B.pre
  have hown : s.vm.findClass RX5 = some m.cls := findClass_of_methodNamed B.named
  subst hsz
  have hD := hD0.self (sz := s.heap.size)
  have F : CallFix p m c cX5_isNumber 7 s _ wz_X5_isNumber RX5 := ⟨B.exec, B.bytes, hml, hown, hts⟩
  have hr := B.returns
  have hlocks := B.notSynchronized
  generalize hAe : va_A (wL cy X S0) s.heap.size = A at hD hK ⊢
  have hA : ∀ q, s.heap.size ≤ q → A q := fun q h => by rw [← hAe]; exact Or.inr h
  have hW : wO D cy X A s.heap S0 s.heap [] := ⟨hP, hD, va_S.rf, hA, hRO⟩
  have hl := lv_entry ([.ref a0, .int x1, .int x2]) (n := 7) (Nat.le_of_ble_eq_true rfl)
  rw [lg_entry_eq]
  generalize (lg_sl ([.ref a0, .int x1, .int x2]) ++ List.replicate (7 - (lg_sl ([.ref a0, .int x1, .int x2])).length) Slot.unset).toArray = ls at hl ⊢
  have hl : lv_has ls 7 [(0, .ref a0), (1, .int x1), (2, .int x2)] := hl
  unfold wp_X5_isNumber at hp
  exact t_X5_isNumber_0 F hr hlocks hK hp hW wX.rf (lv_sub hl [0, 1, 2] rfl) hL_a0 hK_a0
def wp_X5_isJust_72 (D : wD) (post : Int32 → wS → Prop)  (S : wS) : Prop :=
narrow .boolean (.int (1 : Int32)) = .int (1 : Int32) ∧ post (1 : Int32) S
def wp_X5_isJust_27 (D : wD) (post : Int32 → wS → Prop)  : Nat → wS → Nat → Int32 → Nat → Int32 → Prop
  | 0, _, _, _, _, _ => False
  | n + 1, S, a0, x1, a3, x4 =>
    wp_J0_length_8abf5 D (fun r_1 S_2 => 
    ((r_1 ≤ x4 → wp_X5_isJust_72 D post S_2) ∧
     (¬ r_1 ≤ x4 → wp_J4_length_8abf5 D (fun r_4 S_5 => 
    ((r_4 ≤ (x1 + x4) → wp_X5_isJust_72 D post S_5) ∧
     (¬ r_4 ≤ (x1 + x4) → wp_J4_charAt_5068e D (fun r_7 S_8 => 
    wp_J0_charAt_5068e D (fun r_9 S_10 => 
    ((r_7 = r_9 → ∀ x_12 : Int32, x_12 = x4 + 1 →
    wp_X5_isJust_27 D post n S_10 a0 x1 a3 x_12) ∧
     (¬ r_7 = r_9 → narrow .boolean (.int (0 : Int32)) = .int (0 : Int32) ∧ post (0 : Int32) S_10))) S_8 a3 x4) S_5 a0 (x1 + x4)))) S_2 a0))) S a3
def wp_X5_isJust_22 (D : wD) (post : Int32 → wS → Prop)  (S : wS) : Prop :=
narrow .boolean (.int (0 : Int32)) = .int (0 : Int32) ∧ post (0 : Int32) S
def wp_X5_isJust_0 (D : wD) (post : Int32 → wS → Prop)  (S : wS) (a0 : Nat) (x1 : Int32) (x2 : Int32) (a3 : Nat) : Prop :=
((x1 < 0 → wp_X5_isJust_22 D post S) ∧
 (¬ x1 < 0 → wp_J4_length_8abf5 D (fun r_2 S_3 => 
((r_2 < x2 → wp_X5_isJust_22 D post S_3) ∧
 (¬ r_2 < x2 → wp_J0_length_8abf5 D (fun r_5 S_6 => 
(((x2 - x1) = r_5 → ∃ n_8 : Nat, wp_X5_isJust_27 D post n_8 S_6 a0 x1 a3 (0 : Int32)) ∧
 (¬ (x2 - x1) = r_5 → wp_X5_isJust_22 D post S_6))) S_3 a3))) S a0))
abbrev r_X5_isJust : Room := { frames := 5, cells := 0, slots := 0, locals := 106 }
def wp_X5_isJust (D : wD) (post : Int32 → wS → Prop) (S : wS) (a0 : Nat) (x1 : Int32) (x2 : Int32) (a3 : Nat) : Prop := wp_X5_isJust_0 D post S a0 x1 x2 a3
set_option maxHeartbeats 4000000 in
set_option maxRecDepth 100000 in
theorem t_X5_isJust_72 {p : Program} {l : Launch} {e : Env} {s : State} {m : MethodId} {args : Array Value} {below : List Frame} {meth : Method} {c : Code} {D : wD} {cy : Nat → ClassId} {X : va_W} {A : Nat → Prop} {S0 : wS} {post : Int32 → wS → Prop} (F : CallFix p m c cX5_isJust 5 s args wz_X5_isJust RX5) (hr : meth.sig.returnType = (some .boolean)) (hlocks : meth.locks = false) (hK : wK D cy A s) : ∀ {S : wS} {H : Heap} {locs : List Loc} {ls : Array Slot}, wp_X5_isJust_72 D post S → wO D cy X A s.heap S H locs → wX D S0 S → lv_has ls 5 [] → W p l e r_X5_isJust s m args below meth c H locs 0 0 (MQ below (va_Qi (fun r S9 => wX D S0 S9 ∧ post r S9) (wB D cy X A) A) args s 0 0 A) (F0 m 72 ls []) := by
  obtain ⟨hx, hb, hml, hown, hts⟩ := id F
  have hwg : ∀ w ∈ WG, w.before args s = true := fun w h => hts w (List.mem_cons_of_mem _ h)
  intro S H locs ls hp hW hE hl
  unfold wp_X5_isJust_72 at hp
  refine lv_iconst (v := 1) hx hb dX5_isJust_72 (by decide) ?_
  exact w_zret hx hb hr hlocks hW hp.1 ⟨hE, hp.2⟩ dX5_isJust_73
set_option maxHeartbeats 4000000 in
set_option maxRecDepth 100000 in
theorem t_X5_isJust_27 {p : Program} {l : Launch} {e : Env} {s : State} {m : MethodId} {args : Array Value} {below : List Frame} {meth : Method} {c : Code} {D : wD} {cy : Nat → ClassId} {X : va_W} {A : Nat → Prop} {S0 : wS} {post : Int32 → wS → Prop} (F : CallFix p m c cX5_isJust 5 s args wz_X5_isJust RX5) (hr : meth.sig.returnType = (some .boolean)) (hlocks : meth.locks = false) (hK : wK D cy A s) : ∀ (n : Nat) {S : wS} {H : Heap} {locs : List Loc} {ls : Array Slot} {a0 : Nat} {x1 : Int32} {a3 : Nat} {x4 : Int32}, wp_X5_isJust_27 D post n S a0 x1 a3 x4 → wO D cy X A s.heap S H locs → wX D S0 S → lv_has ls 5 [(0, .ref a0), (1, .int x1), (3, .ref a3), (4, .int x4)] → wM D S a0 → sK S a0 = 1 → wM D S a3 → sK S a3 = 0 → W p l e r_X5_isJust s m args below meth c H locs 0 0 (MQ below (va_Qi (fun r S9 => wX D S0 S9 ∧ post r S9) (wB D cy X A) A) args s 0 0 A) (F0 m 27 ls []) := by
  obtain ⟨hx, hb, hml, hown, hts⟩ := id F
  have hwg : ∀ w ∈ WG, w.before args s = true := fun w h => hts w (List.mem_cons_of_mem _ h)
  intro n
  induction n with
  | zero =>
    intro S H locs ls a0 x1 a3 x4 hp
    exact hp.elim
  | succ n ih =>
    intro S H locs ls a0 x1 a3 x4 hp hW hE hl hL_a0 hK_a0 hL_a3 hK_a3
    unfold wp_X5_isJust_27 at hp
    refine lv_iload hx hb dX5_isJust_27 (lv_at hl 3 rfl) ?_
    refine lv_aload_n hx hb dX5_isJust_29 rfl (lv_at hl 2 rfl) ?_
    refine w_callI (va_runV (As := []) (rest := [.int x4]) F (c_J0_length_8abf5 l hL_a3 hK_a3 hp H.size) (cwV (C := RJ0) 0 hts (wg_V wm_RX5_113 wy_J0_length_8abf5) rfl rfl rfl (by decide +kernel) ⟨Nat.le_of_ble_eq_true rfl, Nat.le_of_ble_eq_true rfl⟩) (w_preV hK hW hL_a3 hK_a3 (by decide) rfl) rfl rfl hl.1 rfl (lv_room (Nat.le_of_ble_eq_true rfl)) dX5_isJust_30 ⟨Nat.le_of_ble_eq_true rfl, Nat.le_of_ble_eq_true rfl⟩) hW (fun r_1 S_2 H locs hp hW => ?_)
    obtain ⟨hX_S_2, hp⟩ := hp
    refine W.widen (k := 0) (n := 0) (by decide) (by decide) ?_
    have hE := hE.trans hX_S_2
    have hK_a0 : sK S_2 a0 = 1 := (hX_S_2.2 a0 hL_a0).1.trans hK_a0
    have hL_a0 : wM D S_2 a0 := hX_S_2.M hL_a0
    have hK_a3 : sK S_2 a3 = 0 := (hX_S_2.2 a3 hL_a3).1.trans hK_a3
    have hL_a3 : wM D S_2 a3 := hX_S_2.M hL_a3
    refine lv_icmp_ge (tgt := 72) hx hb dX5_isJust_33 (by decide) (fun c_3 => ?_) (fun c_3 => ?_)
    · replace hp := hp.1 c_3
      exact t_X5_isJust_72 F hr hlocks hK hp hW hE (lv_sub hl [] rfl)
    · replace hp := hp.2 c_3
      refine lv_iload_n hx hb dX5_isJust_36 rfl (lv_at hl 1 rfl) ?_
      refine lv_iload hx hb dX5_isJust_37 (lv_at hl 3 rfl) ?_
      refine lv_iadd hx hb dX5_isJust_39 ?_
      refine lv_aload_n hx hb dX5_isJust_40 rfl (lv_at hl 0 rfl) ?_
      refine w_callI (va_runV (As := []) (rest := [.int (x1 + x4)]) F (c_J4_length_8abf5 l hL_a0 hK_a0 hp H.size) (cwV (C := RJ4) 0 hts (wg_V wm_RX5_65 wy_J4_length_8abf5) rfl rfl rfl (by decide +kernel) ⟨Nat.le_of_ble_eq_true rfl, Nat.le_of_ble_eq_true rfl⟩) (w_preV hK hW hL_a0 hK_a0 (by decide) rfl) rfl rfl hl.1 rfl (lv_room (Nat.le_of_ble_eq_true rfl)) dX5_isJust_41 ⟨Nat.le_of_ble_eq_true rfl, Nat.le_of_ble_eq_true rfl⟩) hW (fun r_4 S_5 H locs hp hW => ?_)
      obtain ⟨hX_S_5, hp⟩ := hp
      refine W.widen (k := 0) (n := 0) (by decide) (by decide) ?_
      have hE := hE.trans hX_S_5
      have hK_a0 : sK S_5 a0 = 1 := (hX_S_5.2 a0 hL_a0).1.trans hK_a0
      have hL_a0 : wM D S_5 a0 := hX_S_5.M hL_a0
      have hK_a3 : sK S_5 a3 = 0 := (hX_S_5.2 a3 hL_a3).1.trans hK_a3
      have hL_a3 : wM D S_5 a3 := hX_S_5.M hL_a3
      refine lv_icmp_ge (tgt := 72) hx hb dX5_isJust_44 (by decide) (fun c_6 => ?_) (fun c_6 => ?_)
      · replace hp := hp.1 c_6
        exact t_X5_isJust_72 F hr hlocks hK hp hW hE (lv_sub hl [] rfl)
      · replace hp := hp.2 c_6
        refine lv_aload_n hx hb dX5_isJust_47 rfl (lv_at hl 0 rfl) ?_
        refine lv_iload_n hx hb dX5_isJust_48 rfl (lv_at hl 1 rfl) ?_
        refine lv_iload hx hb dX5_isJust_49 (lv_at hl 3 rfl) ?_
        refine lv_iadd hx hb dX5_isJust_51 ?_
        refine w_callI (va_runV (As := [.int (x1 + x4)]) (rest := []) F (c_J4_charAt_5068e l hL_a0 hK_a0 hp H.size) (cwV (C := RJ4) 1 hts (wg_V wm_RX5_87 wy_J4_charAt_5068e) rfl rfl rfl (by decide +kernel) ⟨Nat.le_of_ble_eq_true rfl, Nat.le_of_ble_eq_true rfl⟩) (w_preV hK hW hL_a0 hK_a0 (by decide) rfl) rfl rfl hl.1 rfl (lv_room (Nat.le_of_ble_eq_true rfl)) dX5_isJust_52 ⟨Nat.le_of_ble_eq_true rfl, Nat.le_of_ble_eq_true rfl⟩) hW (fun r_7 S_8 H locs hp hW => ?_)
        obtain ⟨hX_S_8, hp⟩ := hp
        refine W.widen (k := 0) (n := 0) (by decide) (by decide) ?_
        have hE := hE.trans hX_S_8
        have hK_a0 : sK S_8 a0 = 1 := (hX_S_8.2 a0 hL_a0).1.trans hK_a0
        have hL_a0 : wM D S_8 a0 := hX_S_8.M hL_a0
        have hK_a3 : sK S_8 a3 = 0 := (hX_S_8.2 a3 hL_a3).1.trans hK_a3
        have hL_a3 : wM D S_8 a3 := hX_S_8.M hL_a3
        refine lv_aload_n hx hb dX5_isJust_55 rfl (lv_at hl 2 rfl) ?_
        refine lv_iload hx hb dX5_isJust_56 (lv_at hl 3 rfl) ?_
        refine w_callI (va_runV (As := [.int x4]) (rest := [.int r_7]) F (c_J0_charAt_5068e l hL_a3 hK_a3 hp H.size) (cwV (C := RJ0) 1 hts (wg_V wm_RX5_116 wy_J0_charAt_5068e) rfl rfl rfl (by decide +kernel) ⟨Nat.le_of_ble_eq_true rfl, Nat.le_of_ble_eq_true rfl⟩) (w_preV hK hW hL_a3 hK_a3 (by decide) rfl) rfl rfl hl.1 rfl (lv_room (Nat.le_of_ble_eq_true rfl)) dX5_isJust_58 ⟨Nat.le_of_ble_eq_true rfl, Nat.le_of_ble_eq_true rfl⟩) hW (fun r_9 S_10 H locs hp hW => ?_)
        obtain ⟨hX_S_10, hp⟩ := hp
        refine W.widen (k := 0) (n := 0) (by decide) (by decide) ?_
        have hE := hE.trans hX_S_10
        have hK_a0 : sK S_10 a0 = 1 := (hX_S_10.2 a0 hL_a0).1.trans hK_a0
        have hL_a0 : wM D S_10 a0 := hX_S_10.M hL_a0
        have hK_a3 : sK S_10 a3 = 0 := (hX_S_10.2 a3 hL_a3).1.trans hK_a3
        have hL_a3 : wM D S_10 a3 := hX_S_10.M hL_a3
        refine lv_icmp_eq (tgt := 66) hx hb dX5_isJust_61 (by decide) (fun c_11 => ?_) (fun c_11 => ?_)
        · replace hp := hp.1 c_11
          obtain ⟨x_12, ex_12⟩ : ∃ z : Int32, z = x4 + 1 := ⟨_, rfl⟩
          replace hp := hp x_12 ex_12
          refine lv_iinc (v := x_12) (lv' := [(4, .int x_12), (0, .ref a0), (1, .int x1), (3, .ref a3)]) hx hb dX5_isJust_66 hl (k := 3) rfl (by rw [ex_12]; rfl) (by decide) rfl (fun ls hl => ?_)
          refine lv_goto (tgt := 27) hx hb dX5_isJust_69 (by decide) ?_
          exact ih hp hW hE (lv_sub hl [1, 2, 3, 0] rfl) hL_a0 hK_a0 hL_a3 hK_a3
        · replace hp := hp.2 c_11
          refine lv_iconst (v := 0) hx hb dX5_isJust_64 (by decide) ?_
          exact w_zret hx hb hr hlocks hW hp.1 ⟨hE, hp.2⟩ dX5_isJust_65
set_option maxHeartbeats 4000000 in
set_option maxRecDepth 100000 in
theorem t_X5_isJust_22 {p : Program} {l : Launch} {e : Env} {s : State} {m : MethodId} {args : Array Value} {below : List Frame} {meth : Method} {c : Code} {D : wD} {cy : Nat → ClassId} {X : va_W} {A : Nat → Prop} {S0 : wS} {post : Int32 → wS → Prop} (F : CallFix p m c cX5_isJust 5 s args wz_X5_isJust RX5) (hr : meth.sig.returnType = (some .boolean)) (hlocks : meth.locks = false) (hK : wK D cy A s) : ∀ {S : wS} {H : Heap} {locs : List Loc} {ls : Array Slot}, wp_X5_isJust_22 D post S → wO D cy X A s.heap S H locs → wX D S0 S → lv_has ls 5 [] → W p l e r_X5_isJust s m args below meth c H locs 0 0 (MQ below (va_Qi (fun r S9 => wX D S0 S9 ∧ post r S9) (wB D cy X A) A) args s 0 0 A) (F0 m 22 ls []) := by
  obtain ⟨hx, hb, hml, hown, hts⟩ := id F
  have hwg : ∀ w ∈ WG, w.before args s = true := fun w h => hts w (List.mem_cons_of_mem _ h)
  intro S H locs ls hp hW hE hl
  unfold wp_X5_isJust_22 at hp
  refine lv_iconst (v := 0) hx hb dX5_isJust_22 (by decide) ?_
  exact w_zret hx hb hr hlocks hW hp.1 ⟨hE, hp.2⟩ dX5_isJust_23
set_option maxHeartbeats 4000000 in
set_option maxRecDepth 100000 in
theorem t_X5_isJust_0 {p : Program} {l : Launch} {e : Env} {s : State} {m : MethodId} {args : Array Value} {below : List Frame} {meth : Method} {c : Code} {D : wD} {cy : Nat → ClassId} {X : va_W} {A : Nat → Prop} {S0 : wS} {post : Int32 → wS → Prop} (F : CallFix p m c cX5_isJust 5 s args wz_X5_isJust RX5) (hr : meth.sig.returnType = (some .boolean)) (hlocks : meth.locks = false) (hK : wK D cy A s) : ∀ {S : wS} {H : Heap} {locs : List Loc} {ls : Array Slot} {a0 : Nat} {x1 : Int32} {x2 : Int32} {a3 : Nat}, wp_X5_isJust_0 D post S a0 x1 x2 a3 → wO D cy X A s.heap S H locs → wX D S0 S → lv_has ls 5 [(0, .ref a0), (1, .int x1), (2, .int x2), (3, .ref a3)] → wM D S a0 → sK S a0 = 1 → wM D S a3 → sK S a3 = 0 → W p l e r_X5_isJust s m args below meth c H locs 0 0 (MQ below (va_Qi (fun r S9 => wX D S0 S9 ∧ post r S9) (wB D cy X A) A) args s 0 0 A) (F0 m 0 ls []) := by
  obtain ⟨hx, hb, hml, hown, hts⟩ := id F
  have hwg : ∀ w ∈ WG, w.before args s = true := fun w h => hts w (List.mem_cons_of_mem _ h)
  intro S H locs ls a0 x1 x2 a3 hp hW hE hl hL_a0 hK_a0 hL_a3 hK_a3
  unfold wp_X5_isJust_0 at hp
  refine lv_iload_n hx hb dX5_isJust_0 rfl (lv_at hl 1 rfl) ?_
  refine lv_if_lt (tgt := 22) hx hb dX5_isJust_1 (by decide) (fun c_1 => ?_) (fun c_1 => ?_)
  · replace hp := hp.1 c_1
    exact t_X5_isJust_22 F hr hlocks hK hp hW hE (lv_sub hl [] rfl)
  · replace hp := hp.2 c_1
    refine lv_iload_n hx hb dX5_isJust_4 rfl (lv_at hl 2 rfl) ?_
    refine lv_aload_n hx hb dX5_isJust_5 rfl (lv_at hl 0 rfl) ?_
    refine w_callI (va_runV (As := []) (rest := [.int x2]) F (c_J4_length_8abf5 l hL_a0 hK_a0 hp H.size) (cwV (C := RJ4) 0 hts (wg_V wm_RX5_65 wy_J4_length_8abf5) rfl rfl rfl (by decide +kernel) ⟨Nat.le_of_ble_eq_true rfl, Nat.le_of_ble_eq_true rfl⟩) (w_preV hK hW hL_a0 hK_a0 (by decide) rfl) rfl rfl hl.1 rfl (lv_room (Nat.le_of_ble_eq_true rfl)) dX5_isJust_6 ⟨Nat.le_of_ble_eq_true rfl, Nat.le_of_ble_eq_true rfl⟩) hW (fun r_2 S_3 H locs hp hW => ?_)
    obtain ⟨hX_S_3, hp⟩ := hp
    refine W.widen (k := 0) (n := 0) (by decide) (by decide) ?_
    have hE := hE.trans hX_S_3
    have hK_a0 : sK S_3 a0 = 1 := (hX_S_3.2 a0 hL_a0).1.trans hK_a0
    have hL_a0 : wM D S_3 a0 := hX_S_3.M hL_a0
    have hK_a3 : sK S_3 a3 = 0 := (hX_S_3.2 a3 hL_a3).1.trans hK_a3
    have hL_a3 : wM D S_3 a3 := hX_S_3.M hL_a3
    refine lv_icmp_gt (tgt := 22) hx hb dX5_isJust_9 (by decide) (fun c_4 => ?_) (fun c_4 => ?_)
    · replace hp := hp.1 c_4
      exact t_X5_isJust_22 F hr hlocks hK hp hW hE (lv_sub hl [] rfl)
    · replace hp := hp.2 c_4
      refine lv_iload_n hx hb dX5_isJust_12 rfl (lv_at hl 2 rfl) ?_
      refine lv_iload_n hx hb dX5_isJust_13 rfl (lv_at hl 1 rfl) ?_
      refine lv_isub hx hb dX5_isJust_14 ?_
      refine lv_aload_n hx hb dX5_isJust_15 rfl (lv_at hl 3 rfl) ?_
      refine w_callI (va_runV (As := []) (rest := [.int (x2 - x1)]) F (c_J0_length_8abf5 l hL_a3 hK_a3 hp H.size) (cwV (C := RJ0) 0 hts (wg_V wm_RX5_113 wy_J0_length_8abf5) rfl rfl rfl (by decide +kernel) ⟨Nat.le_of_ble_eq_true rfl, Nat.le_of_ble_eq_true rfl⟩) (w_preV hK hW hL_a3 hK_a3 (by decide) rfl) rfl rfl hl.1 rfl (lv_room (Nat.le_of_ble_eq_true rfl)) dX5_isJust_16 ⟨Nat.le_of_ble_eq_true rfl, Nat.le_of_ble_eq_true rfl⟩) hW (fun r_5 S_6 H locs hp hW => ?_)
      obtain ⟨hX_S_6, hp⟩ := hp
      refine W.widen (k := 0) (n := 0) (by decide) (by decide) ?_
      have hE := hE.trans hX_S_6
      have hK_a0 : sK S_6 a0 = 1 := (hX_S_6.2 a0 hL_a0).1.trans hK_a0
      have hL_a0 : wM D S_6 a0 := hX_S_6.M hL_a0
      have hK_a3 : sK S_6 a3 = 0 := (hX_S_6.2 a3 hL_a3).1.trans hK_a3
      have hL_a3 : wM D S_6 a3 := hX_S_6.M hL_a3
      refine lv_icmp_eq (tgt := 24) hx hb dX5_isJust_19 (by decide) (fun c_7 => ?_) (fun c_7 => ?_)
      · replace hp := hp.1 c_7
        refine lv_iconst (v := 0) hx hb dX5_isJust_24 (by decide) ?_
        refine lv_istore (lv' := [(4, .int (0 : Int32)), (0, .ref a0), (1, .int x1), (2, .int x2), (3, .ref a3)]) hx hb dX5_isJust_25 hl (by decide) rfl (fun ls hl => ?_)
        obtain ⟨n_8, hp⟩ := hp
        exact t_X5_isJust_27 F hr hlocks hK n_8 hp hW hE (lv_sub hl [1, 2, 4, 0] rfl) hL_a0 hK_a0 hL_a3 hK_a3
      · replace hp := hp.2 c_7
        exact t_X5_isJust_22 F hr hlocks hK hp hW hE (lv_sub hl [] rfl)
set_option maxHeartbeats 4000000 in
set_option maxRecDepth 100000 in
theorem c_X5_isJust (l : Launch) {D : wD} {cy : Nat → ClassId} {X : va_W} {S0 : wS} {post : Int32 → wS → Prop} {a0 : Nat} {x1 : Int32} {x2 : Int32} {a3 : Nat} (hL_a0 : wM D S0 a0) (hK_a0 : sK S0 a0 = 1) (hL_a3 : wM D S0 a3) (hK_a3 : sK S0 a3 = 0) (hp : wp_X5_isJust D post S0 a0 x1 x2 a3) : mI D cy X l yX5_isJust wz_X5_isJust r_X5_isJust [.ref a0, .int x1, .int x2, .ref a3] S0 (fun r S9 => wX D S0 S9 ∧ post r S9) := by
  intro sz
  refine Met.ofW (cc := cX5_isJust) (maxL := 5) (ret := (some .boolean)) (by decide) rfl ?_
  intro p e s m args below meth c s₁ B hml hv
  obtain ⟨rfl, hsz, hP, hK, hD0, hRO⟩ := hv
  have hts := atoms_spec (ws := wz_X5_isJust) B.pre
  have hown : s.vm.findClass RX5 = some m.cls := findClass_of_methodNamed B.named
  subst hsz
  have hD := hD0.self (sz := s.heap.size)
  have F : CallFix p m c cX5_isJust 5 s _ wz_X5_isJust RX5 := ⟨B.exec, B.bytes, hml, hown, hts⟩
  have hr := B.returns
  have hlocks := B.notSynchronized
  generalize hAe : va_A (wL cy X S0) s.heap.size = A at hD hK ⊢
  have hA : ∀ q, s.heap.size ≤ q → A q := fun q h => by rw [← hAe]; exact Or.inr h
  have hW : wO D cy X A s.heap S0 s.heap [] := ⟨hP, hD, va_S.rf, hA, hRO⟩
  have hl := lv_entry ([.ref a0, .int x1, .int x2, .ref a3]) (n := 5) (Nat.le_of_ble_eq_true rfl)
  rw [lg_entry_eq]
  generalize (lg_sl ([.ref a0, .int x1, .int x2, .ref a3]) ++ List.replicate (5 - (lg_sl ([.ref a0, .int x1, .int x2, .ref a3])).length) Slot.unset).toArray = ls at hl ⊢
  have hl : lv_has ls 5 [(0, .ref a0), (1, .int x1), (2, .int x2), (3, .ref a3)] := hl
  unfold wp_X5_isJust at hp
  exact t_X5_isJust_0 F hr hlocks hK hp hW wX.rf (lv_sub hl [0, 1, 2, 3] rfl) hL_a0 hK_a0 hL_a3 hK_a3
def wp_X5_isResult_49 (D : wD) (post : Int32 → wS → Prop)  (S : wS) (t0 : Int32) : Prop :=
narrow .boolean (.int t0) = .int t0 ∧ post t0 S
def wp_X5_isResult_44 (D : wD) (post : Int32 → wS → Prop)  (S : wS) : Prop :=
wp_X5_isResult_49 D post S (1 : Int32)
def wp_X5_isResult_0 (D : wD) (post : Int32 → wS → Prop)  (S : wS) (a0 : Nat) (x1 : Int32) (x2 : Int32) : Prop :=
∀ y_1 : Nat, y_1 = D.2.2.1 26 →
wp_X5_isJust D (fun r_2 S_3 => 
((¬ r_2 = 0 → wp_X5_isResult_44 D post S_3) ∧
 (r_2 = 0 → ∀ y_5 : Nat, y_5 = D.2.2.1 27 →
wp_X5_isJust D (fun r_6 S_7 => 
((¬ r_6 = 0 → wp_X5_isResult_44 D post S_7) ∧
 (r_6 = 0 → ∀ y_9 : Nat, y_9 = D.2.2.1 28 →
wp_X5_isJust D (fun r_10 S_11 => 
((¬ r_10 = 0 → wp_X5_isResult_44 D post S_11) ∧
 (r_10 = 0 → ∀ y_13 : Nat, y_13 = D.2.2.1 29 →
wp_X5_isJust D (fun r_14 S_15 => 
((r_14 = 0 → wp_X5_isResult_49 D post S_15 (0 : Int32)) ∧
 (¬ r_14 = 0 → wp_X5_isResult_44 D post S_15))) S_11 a0 x1 x2 y_13))) S_7 a0 x1 x2 y_9))) S_3 a0 x1 x2 y_5))) S a0 x1 x2 y_1
abbrev r_X5_isResult : Room := { frames := 6, cells := 0, slots := 0, locals := 130 }
def wp_X5_isResult (D : wD) (post : Int32 → wS → Prop) (S : wS) (a0 : Nat) (x1 : Int32) (x2 : Int32) : Prop := wp_X5_isResult_0 D post S a0 x1 x2
set_option maxHeartbeats 4000000 in
set_option maxRecDepth 100000 in
theorem t_X5_isResult_49 {p : Program} {l : Launch} {e : Env} {s : State} {m : MethodId} {args : Array Value} {below : List Frame} {meth : Method} {c : Code} {D : wD} {cy : Nat → ClassId} {X : va_W} {A : Nat → Prop} {S0 : wS} {post : Int32 → wS → Prop} (F : CallFix p m c cX5_isResult 3 s args wz_X5_isResult RX5) (hr : meth.sig.returnType = (some .boolean)) (hlocks : meth.locks = false) (hK : wK D cy A s) : ∀ {S : wS} {H : Heap} {locs : List Loc} {ls : Array Slot} {t0 : Int32}, wp_X5_isResult_49 D post S t0 → wO D cy X A s.heap S H locs → wX D S0 S → lv_has ls 3 [] → W p l e r_X5_isResult s m args below meth c H locs 0 0 (MQ below (va_Qi (fun r S9 => wX D S0 S9 ∧ post r S9) (wB D cy X A) A) args s 0 0 A) (F0 m 49 ls [.int t0]) := by
  obtain ⟨hx, hb, hml, hown, hts⟩ := id F
  have hwg : ∀ w ∈ WG, w.before args s = true := fun w h => hts w (List.mem_cons_of_mem _ h)
  intro S H locs ls t0 hp hW hE hl
  unfold wp_X5_isResult_49 at hp
  exact w_zret hx hb hr hlocks hW hp.1 ⟨hE, hp.2⟩ dX5_isResult_49
set_option maxHeartbeats 4000000 in
set_option maxRecDepth 100000 in
theorem t_X5_isResult_44 {p : Program} {l : Launch} {e : Env} {s : State} {m : MethodId} {args : Array Value} {below : List Frame} {meth : Method} {c : Code} {D : wD} {cy : Nat → ClassId} {X : va_W} {A : Nat → Prop} {S0 : wS} {post : Int32 → wS → Prop} (F : CallFix p m c cX5_isResult 3 s args wz_X5_isResult RX5) (hr : meth.sig.returnType = (some .boolean)) (hlocks : meth.locks = false) (hK : wK D cy A s) : ∀ {S : wS} {H : Heap} {locs : List Loc} {ls : Array Slot}, wp_X5_isResult_44 D post S → wO D cy X A s.heap S H locs → wX D S0 S → lv_has ls 3 [] → W p l e r_X5_isResult s m args below meth c H locs 0 0 (MQ below (va_Qi (fun r S9 => wX D S0 S9 ∧ post r S9) (wB D cy X A) A) args s 0 0 A) (F0 m 44 ls []) := by
  obtain ⟨hx, hb, hml, hown, hts⟩ := id F
  have hwg : ∀ w ∈ WG, w.before args s = true := fun w h => hts w (List.mem_cons_of_mem _ h)
  intro S H locs ls hp hW hE hl
  unfold wp_X5_isResult_44 at hp
  refine lv_iconst (v := 1) hx hb dX5_isResult_44 (by decide) ?_
  refine lv_goto (tgt := 49) hx hb dX5_isResult_45 (by decide) ?_
  exact t_X5_isResult_49 F hr hlocks hK hp hW hE (lv_sub hl [] rfl)
set_option maxHeartbeats 4000000 in
set_option maxRecDepth 100000 in
theorem t_X5_isResult_0 {p : Program} {l : Launch} {e : Env} {s : State} {m : MethodId} {args : Array Value} {below : List Frame} {meth : Method} {c : Code} {D : wD} {cy : Nat → ClassId} {X : va_W} {A : Nat → Prop} {S0 : wS} {post : Int32 → wS → Prop} (F : CallFix p m c cX5_isResult 3 s args wz_X5_isResult RX5) (hr : meth.sig.returnType = (some .boolean)) (hlocks : meth.locks = false) (hK : wK D cy A s) : ∀ {S : wS} {H : Heap} {locs : List Loc} {ls : Array Slot} {a0 : Nat} {x1 : Int32} {x2 : Int32}, wp_X5_isResult_0 D post S a0 x1 x2 → wO D cy X A s.heap S H locs → wX D S0 S → lv_has ls 3 [(0, .ref a0), (1, .int x1), (2, .int x2)] → wM D S a0 → sK S a0 = 1 → W p l e r_X5_isResult s m args below meth c H locs 0 0 (MQ below (va_Qi (fun r S9 => wX D S0 S9 ∧ post r S9) (wB D cy X A) A) args s 0 0 A) (F0 m 0 ls []) := by
  obtain ⟨hx, hb, hml, hown, hts⟩ := id F
  have hwg : ∀ w ∈ WG, w.before args s = true := fun w h => hts w (List.mem_cons_of_mem _ h)
  intro S H locs ls a0 x1 x2 hp hW hE hl hL_a0 hK_a0
  unfold wp_X5_isResult_0 at hp
  refine lv_aload_n hx hb dX5_isResult_0 rfl (lv_at hl 0 rfl) ?_
  refine lv_iload_n hx hb dX5_isResult_1 rfl (lv_at hl 1 rfl) ?_
  refine lv_iload_n hx hb dX5_isResult_2 rfl (lv_at hl 2 rfl) ?_
  refine w_str F hK (show ("OpeningsCabinet$MovesReader", 101, "1-0", 26) ∈ wStr by decide +kernel) dX5_isResult_3 ?_
  obtain ⟨y_1, ey_1⟩ : ∃ z : Nat, z = D.2.2.1 26 := ⟨_, rfl⟩
  rw [← ey_1]
  replace hp := hp y_1 ey_1
  obtain ⟨hL_y_1, hK_y_1⟩ : wM D S y_1 ∧ sK S y_1 = 0 := by rw [ey_1]; exact w_strM hK hW (show ("OpeningsCabinet$MovesReader", 101, "1-0", 26) ∈ wStr by decide +kernel)
  refine w_callI (va_runS (As := [.ref a0, .int x1, .int x2, .ref y_1]) (rest := []) F (c_X5_isJust l hL_a0 hK_a0 hL_y_1 hK_y_1 hp H.size) (va_cwS 4 hts (wg_S wm_RX5_103 wy_X5_isJust) rfl rfl rfl (by decide +kernel) ⟨Nat.le_of_ble_eq_true rfl, Nat.le_of_ble_eq_true rfl⟩) (w_preS hK hW) rfl rfl hl.1 rfl (lv_room (Nat.le_of_ble_eq_true rfl)) dX5_isResult_5 ⟨Nat.le_of_ble_eq_true rfl, Nat.le_of_ble_eq_true rfl⟩) hW (fun r_2 S_3 H locs hp hW => ?_)
  obtain ⟨hX_S_3, hp⟩ := hp
  refine W.widen (k := 0) (n := 0) (by decide) (by decide) ?_
  have hE := hE.trans hX_S_3
  have hK_a0 : sK S_3 a0 = 1 := (hX_S_3.2 a0 hL_a0).1.trans hK_a0
  have hL_a0 : wM D S_3 a0 := hX_S_3.M hL_a0
  refine lv_if_ne (tgt := 44) hx hb dX5_isResult_8 (by decide) (fun c_4 => ?_) (fun c_4 => ?_)
  · replace hp := hp.1 c_4
    exact t_X5_isResult_44 F hr hlocks hK hp hW hE (lv_sub hl [] rfl)
  · replace hp := hp.2 c_4
    refine lv_aload_n hx hb dX5_isResult_11 rfl (lv_at hl 0 rfl) ?_
    refine lv_iload_n hx hb dX5_isResult_12 rfl (lv_at hl 1 rfl) ?_
    refine lv_iload_n hx hb dX5_isResult_13 rfl (lv_at hl 2 rfl) ?_
    refine w_str F hK (show ("OpeningsCabinet$MovesReader", 107, "0-1", 27) ∈ wStr by decide +kernel) dX5_isResult_14 ?_
    obtain ⟨y_5, ey_5⟩ : ∃ z : Nat, z = D.2.2.1 27 := ⟨_, rfl⟩
    rw [← ey_5]
    replace hp := hp y_5 ey_5
    obtain ⟨hL_y_5, hK_y_5⟩ : wM D S_3 y_5 ∧ sK S_3 y_5 = 0 := by rw [ey_5]; exact w_strM hK hW (show ("OpeningsCabinet$MovesReader", 107, "0-1", 27) ∈ wStr by decide +kernel)
    refine w_callI (va_runS (As := [.ref a0, .int x1, .int x2, .ref y_5]) (rest := []) F (c_X5_isJust l hL_a0 hK_a0 hL_y_5 hK_y_5 hp H.size) (va_cwS 4 hts (wg_S wm_RX5_103 wy_X5_isJust) rfl rfl rfl (by decide +kernel) ⟨Nat.le_of_ble_eq_true rfl, Nat.le_of_ble_eq_true rfl⟩) (w_preS hK hW) rfl rfl hl.1 rfl (lv_room (Nat.le_of_ble_eq_true rfl)) dX5_isResult_16 ⟨Nat.le_of_ble_eq_true rfl, Nat.le_of_ble_eq_true rfl⟩) hW (fun r_6 S_7 H locs hp hW => ?_)
    obtain ⟨hX_S_7, hp⟩ := hp
    refine W.widen (k := 0) (n := 0) (by decide) (by decide) ?_
    have hE := hE.trans hX_S_7
    have hK_a0 : sK S_7 a0 = 1 := (hX_S_7.2 a0 hL_a0).1.trans hK_a0
    have hL_a0 : wM D S_7 a0 := hX_S_7.M hL_a0
    refine lv_if_ne (tgt := 44) hx hb dX5_isResult_19 (by decide) (fun c_8 => ?_) (fun c_8 => ?_)
    · replace hp := hp.1 c_8
      exact t_X5_isResult_44 F hr hlocks hK hp hW hE (lv_sub hl [] rfl)
    · replace hp := hp.2 c_8
      refine lv_aload_n hx hb dX5_isResult_22 rfl (lv_at hl 0 rfl) ?_
      refine lv_iload_n hx hb dX5_isResult_23 rfl (lv_at hl 1 rfl) ?_
      refine lv_iload_n hx hb dX5_isResult_24 rfl (lv_at hl 2 rfl) ?_
      refine w_str F hK (show ("OpeningsCabinet$MovesReader", 109, "1/2-1/2", 28) ∈ wStr by decide +kernel) dX5_isResult_25 ?_
      obtain ⟨y_9, ey_9⟩ : ∃ z : Nat, z = D.2.2.1 28 := ⟨_, rfl⟩
      rw [← ey_9]
      replace hp := hp y_9 ey_9
      obtain ⟨hL_y_9, hK_y_9⟩ : wM D S_7 y_9 ∧ sK S_7 y_9 = 0 := by rw [ey_9]; exact w_strM hK hW (show ("OpeningsCabinet$MovesReader", 109, "1/2-1/2", 28) ∈ wStr by decide +kernel)
      refine w_callI (va_runS (As := [.ref a0, .int x1, .int x2, .ref y_9]) (rest := []) F (c_X5_isJust l hL_a0 hK_a0 hL_y_9 hK_y_9 hp H.size) (va_cwS 4 hts (wg_S wm_RX5_103 wy_X5_isJust) rfl rfl rfl (by decide +kernel) ⟨Nat.le_of_ble_eq_true rfl, Nat.le_of_ble_eq_true rfl⟩) (w_preS hK hW) rfl rfl hl.1 rfl (lv_room (Nat.le_of_ble_eq_true rfl)) dX5_isResult_27 ⟨Nat.le_of_ble_eq_true rfl, Nat.le_of_ble_eq_true rfl⟩) hW (fun r_10 S_11 H locs hp hW => ?_)
      obtain ⟨hX_S_11, hp⟩ := hp
      refine W.widen (k := 0) (n := 0) (by decide) (by decide) ?_
      have hE := hE.trans hX_S_11
      have hK_a0 : sK S_11 a0 = 1 := (hX_S_11.2 a0 hL_a0).1.trans hK_a0
      have hL_a0 : wM D S_11 a0 := hX_S_11.M hL_a0
      refine lv_if_ne (tgt := 44) hx hb dX5_isResult_30 (by decide) (fun c_12 => ?_) (fun c_12 => ?_)
      · replace hp := hp.1 c_12
        exact t_X5_isResult_44 F hr hlocks hK hp hW hE (lv_sub hl [] rfl)
      · replace hp := hp.2 c_12
        refine lv_aload_n hx hb dX5_isResult_33 rfl (lv_at hl 0 rfl) ?_
        refine lv_iload_n hx hb dX5_isResult_34 rfl (lv_at hl 1 rfl) ?_
        refine lv_iload_n hx hb dX5_isResult_35 rfl (lv_at hl 2 rfl) ?_
        refine w_str F hK (show ("OpeningsCabinet$MovesReader", 111, "*", 29) ∈ wStr by decide +kernel) dX5_isResult_36 ?_
        obtain ⟨y_13, ey_13⟩ : ∃ z : Nat, z = D.2.2.1 29 := ⟨_, rfl⟩
        rw [← ey_13]
        replace hp := hp y_13 ey_13
        obtain ⟨hL_y_13, hK_y_13⟩ : wM D S_11 y_13 ∧ sK S_11 y_13 = 0 := by rw [ey_13]; exact w_strM hK hW (show ("OpeningsCabinet$MovesReader", 111, "*", 29) ∈ wStr by decide +kernel)
        refine w_callI (va_runS (As := [.ref a0, .int x1, .int x2, .ref y_13]) (rest := []) F (c_X5_isJust l hL_a0 hK_a0 hL_y_13 hK_y_13 hp H.size) (va_cwS 4 hts (wg_S wm_RX5_103 wy_X5_isJust) rfl rfl rfl (by decide +kernel) ⟨Nat.le_of_ble_eq_true rfl, Nat.le_of_ble_eq_true rfl⟩) (w_preS hK hW) rfl rfl hl.1 rfl (lv_room (Nat.le_of_ble_eq_true rfl)) dX5_isResult_38 ⟨Nat.le_of_ble_eq_true rfl, Nat.le_of_ble_eq_true rfl⟩) hW (fun r_14 S_15 H locs hp hW => ?_)
        obtain ⟨hX_S_15, hp⟩ := hp
        refine W.widen (k := 0) (n := 0) (by decide) (by decide) ?_
        have hE := hE.trans hX_S_15
        have hK_a0 : sK S_15 a0 = 1 := (hX_S_15.2 a0 hL_a0).1.trans hK_a0
        have hL_a0 : wM D S_15 a0 := hX_S_15.M hL_a0
        refine lv_if_eq (tgt := 48) hx hb dX5_isResult_41 (by decide) (fun c_16 => ?_) (fun c_16 => ?_)
        · replace hp := hp.1 c_16
          refine lv_iconst (v := 0) hx hb dX5_isResult_48 (by decide) ?_
          exact t_X5_isResult_49 F hr hlocks hK hp hW hE (lv_sub hl [] rfl)
        · replace hp := hp.2 c_16
          exact t_X5_isResult_44 F hr hlocks hK hp hW hE (lv_sub hl [] rfl)
set_option maxHeartbeats 4000000 in
set_option maxRecDepth 100000 in
theorem c_X5_isResult (l : Launch) {D : wD} {cy : Nat → ClassId} {X : va_W} {S0 : wS} {post : Int32 → wS → Prop} {a0 : Nat} {x1 : Int32} {x2 : Int32} (hL_a0 : wM D S0 a0) (hK_a0 : sK S0 a0 = 1) (hp : wp_X5_isResult D post S0 a0 x1 x2) : mI D cy X l yX5_isResult wz_X5_isResult r_X5_isResult [.ref a0, .int x1, .int x2] S0 (fun r S9 => wX D S0 S9 ∧ post r S9) := by
  intro sz
  refine Met.ofW (cc := cX5_isResult) (maxL := 3) (ret := (some .boolean)) (by decide) rfl ?_
  intro p e s m args below meth c s₁ B hml hv
  obtain ⟨rfl, hsz, hP, hK, hD0, hRO⟩ := hv
  have hts := atoms_spec (ws := wz_X5_isResult) B.pre
  have hown : s.vm.findClass RX5 = some m.cls := findClass_of_methodNamed B.named
  subst hsz
  have hD := hD0.self (sz := s.heap.size)
  have F : CallFix p m c cX5_isResult 3 s _ wz_X5_isResult RX5 := ⟨B.exec, B.bytes, hml, hown, hts⟩
  have hr := B.returns
  have hlocks := B.notSynchronized
  generalize hAe : va_A (wL cy X S0) s.heap.size = A at hD hK ⊢
  have hA : ∀ q, s.heap.size ≤ q → A q := fun q h => by rw [← hAe]; exact Or.inr h
  have hW : wO D cy X A s.heap S0 s.heap [] := ⟨hP, hD, va_S.rf, hA, hRO⟩
  have hl := lv_entry ([.ref a0, .int x1, .int x2]) (n := 3) (Nat.le_of_ble_eq_true rfl)
  rw [lg_entry_eq]
  generalize (lg_sl ([.ref a0, .int x1, .int x2]) ++ List.replicate (3 - (lg_sl ([.ref a0, .int x1, .int x2])).length) Slot.unset).toArray = ls at hl ⊢
  have hl : lv_has ls 3 [(0, .ref a0), (1, .int x1), (2, .int x2)] := hl
  unfold wp_X5_isResult at hp
  exact t_X5_isResult_0 F hr hlocks hK hp hW wX.rf (lv_sub hl [0, 1, 2] rfl) hL_a0 hK_a0
def wp_X5_tokenAt_104 (D : wD) (post : Int32 → wS → Prop)  (S : wS) (t0 : Int32) : Prop :=
post t0 S
def wp_X5_tokenAt_12 (D : wD) (post : Int32 → wS → Prop)  (S : wS) : Prop :=
post (-1 : Int32) S
def wp_X5_tokenAt_0 (D : wD) (post : Int32 → wS → Prop)  (S : wS) (a0 : Nat) (x1 : Int32) (x2 : Int32) : Prop :=
((x1 < 0 → wp_X5_tokenAt_12 D post S) ∧
 (¬ x1 < 0 → wp_J4_length_8abf5 D (fun r_2 S_3 => 
((x1 < r_2 → wp_J4_charAt_5068e D (fun r_5 S_6 => 
((r_5 = 32 → post (0 : Int32) S_6) ∧
 ((r_5 = 40 → post (1 : Int32) S_6) ∧
 ((r_5 = 41 → post (2 : Int32) S_6) ∧
 ((r_5 = 123 → post (3 : Int32) S_6) ∧
 ((r_5 = 125 → post (-1 : Int32) S_6) ∧
 (¬ r_5 = 32 → ¬ r_5 = 40 → ¬ r_5 = 41 → ¬ r_5 = 123 → ¬ r_5 = 125 → wp_X5_isNumber D (fun r_12 S_13 => 
((r_12 = 0 → wp_X5_isResult D (fun r_15 S_16 => 
((r_15 = 0 → wp_X5_tokenAt_104 D post S_16 (6 : Int32)) ∧
 (¬ r_15 = 0 → wp_X5_tokenAt_104 D post S_16 (5 : Int32)))) S_13 a0 x1 x2) ∧
 (¬ r_12 = 0 → post (4 : Int32) S_13))) S_6 a0 x1 x2))))))) S_3 a0 x1) ∧
 (¬ x1 < r_2 → wp_X5_tokenAt_12 D post S_3))) S a0))
abbrev r_X5_tokenAt : Room := { frames := 7, cells := 0, slots := 0, locals := 152 }
def wp_X5_tokenAt (D : wD) (post : Int32 → wS → Prop) (S : wS) (a0 : Nat) (x1 : Int32) (x2 : Int32) : Prop := wp_X5_tokenAt_0 D post S a0 x1 x2
set_option maxHeartbeats 4000000 in
set_option maxRecDepth 100000 in
theorem t_X5_tokenAt_104 {p : Program} {l : Launch} {e : Env} {s : State} {m : MethodId} {args : Array Value} {below : List Frame} {meth : Method} {c : Code} {D : wD} {cy : Nat → ClassId} {X : va_W} {A : Nat → Prop} {S0 : wS} {post : Int32 → wS → Prop} (F : CallFix p m c cX5_tokenAt 3 s args wz_X5_tokenAt RX5) (hr : meth.sig.returnType = (some .int)) (hlocks : meth.locks = false) (hK : wK D cy A s) : ∀ {S : wS} {H : Heap} {locs : List Loc} {ls : Array Slot} {t0 : Int32}, wp_X5_tokenAt_104 D post S t0 → wO D cy X A s.heap S H locs → wX D S0 S → lv_has ls 3 [] → W p l e r_X5_tokenAt s m args below meth c H locs 0 0 (MQ below (va_Qi (fun r S9 => wX D S0 S9 ∧ post r S9) (wB D cy X A) A) args s 0 0 A) (F0 m 104 ls [.int t0]) := by
  obtain ⟨hx, hb, hml, hown, hts⟩ := id F
  have hwg : ∀ w ∈ WG, w.before args s = true := fun w h => hts w (List.mem_cons_of_mem _ h)
  intro S H locs ls t0 hp hW hE hl
  unfold wp_X5_tokenAt_104 at hp
  exact w_iret hx hb hr hlocks hW ⟨hE, hp⟩ dX5_tokenAt_104
set_option maxHeartbeats 4000000 in
set_option maxRecDepth 100000 in
theorem t_X5_tokenAt_12 {p : Program} {l : Launch} {e : Env} {s : State} {m : MethodId} {args : Array Value} {below : List Frame} {meth : Method} {c : Code} {D : wD} {cy : Nat → ClassId} {X : va_W} {A : Nat → Prop} {S0 : wS} {post : Int32 → wS → Prop} (F : CallFix p m c cX5_tokenAt 3 s args wz_X5_tokenAt RX5) (hr : meth.sig.returnType = (some .int)) (hlocks : meth.locks = false) (hK : wK D cy A s) : ∀ {S : wS} {H : Heap} {locs : List Loc} {ls : Array Slot}, wp_X5_tokenAt_12 D post S → wO D cy X A s.heap S H locs → wX D S0 S → lv_has ls 3 [] → W p l e r_X5_tokenAt s m args below meth c H locs 0 0 (MQ below (va_Qi (fun r S9 => wX D S0 S9 ∧ post r S9) (wB D cy X A) A) args s 0 0 A) (F0 m 12 ls []) := by
  obtain ⟨hx, hb, hml, hown, hts⟩ := id F
  have hwg : ∀ w ∈ WG, w.before args s = true := fun w h => hts w (List.mem_cons_of_mem _ h)
  intro S H locs ls hp hW hE hl
  unfold wp_X5_tokenAt_12 at hp
  refine lv_iconst (v := (-1)) hx hb dX5_tokenAt_12 (by decide) ?_
  exact w_iret hx hb hr hlocks hW ⟨hE, hp⟩ dX5_tokenAt_13
set_option maxHeartbeats 4000000 in
set_option maxRecDepth 100000 in
theorem t_X5_tokenAt_0 {p : Program} {l : Launch} {e : Env} {s : State} {m : MethodId} {args : Array Value} {below : List Frame} {meth : Method} {c : Code} {D : wD} {cy : Nat → ClassId} {X : va_W} {A : Nat → Prop} {S0 : wS} {post : Int32 → wS → Prop} (F : CallFix p m c cX5_tokenAt 3 s args wz_X5_tokenAt RX5) (hr : meth.sig.returnType = (some .int)) (hlocks : meth.locks = false) (hK : wK D cy A s) : ∀ {S : wS} {H : Heap} {locs : List Loc} {ls : Array Slot} {a0 : Nat} {x1 : Int32} {x2 : Int32}, wp_X5_tokenAt_0 D post S a0 x1 x2 → wO D cy X A s.heap S H locs → wX D S0 S → lv_has ls 3 [(0, .ref a0), (1, .int x1), (2, .int x2)] → wM D S a0 → sK S a0 = 1 → W p l e r_X5_tokenAt s m args below meth c H locs 0 0 (MQ below (va_Qi (fun r S9 => wX D S0 S9 ∧ post r S9) (wB D cy X A) A) args s 0 0 A) (F0 m 0 ls []) := by
  obtain ⟨hx, hb, hml, hown, hts⟩ := id F
  have hwg : ∀ w ∈ WG, w.before args s = true := fun w h => hts w (List.mem_cons_of_mem _ h)
  intro S H locs ls a0 x1 x2 hp hW hE hl hL_a0 hK_a0
  unfold wp_X5_tokenAt_0 at hp
  refine lv_iload_n hx hb dX5_tokenAt_0 rfl (lv_at hl 1 rfl) ?_
  refine lv_if_lt (tgt := 12) hx hb dX5_tokenAt_1 (by decide) (fun c_1 => ?_) (fun c_1 => ?_)
  · replace hp := hp.1 c_1
    exact t_X5_tokenAt_12 F hr hlocks hK hp hW hE (lv_sub hl [] rfl)
  · replace hp := hp.2 c_1
    refine lv_iload_n hx hb dX5_tokenAt_4 rfl (lv_at hl 1 rfl) ?_
    refine lv_aload_n hx hb dX5_tokenAt_5 rfl (lv_at hl 0 rfl) ?_
    refine w_callI (va_runV (As := []) (rest := [.int x1]) F (c_J4_length_8abf5 l hL_a0 hK_a0 hp H.size) (cwV (C := RJ4) 0 hts (wg_V wm_RX5_65 wy_J4_length_8abf5) rfl rfl rfl (by decide +kernel) ⟨Nat.le_of_ble_eq_true rfl, Nat.le_of_ble_eq_true rfl⟩) (w_preV hK hW hL_a0 hK_a0 (by decide) rfl) rfl rfl hl.1 rfl (lv_room (Nat.le_of_ble_eq_true rfl)) dX5_tokenAt_6 ⟨Nat.le_of_ble_eq_true rfl, Nat.le_of_ble_eq_true rfl⟩) hW (fun r_2 S_3 H locs hp hW => ?_)
    obtain ⟨hX_S_3, hp⟩ := hp
    refine W.widen (k := 0) (n := 0) (by decide) (by decide) ?_
    have hE := hE.trans hX_S_3
    have hK_a0 : sK S_3 a0 = 1 := (hX_S_3.2 a0 hL_a0).1.trans hK_a0
    have hL_a0 : wM D S_3 a0 := hX_S_3.M hL_a0
    refine lv_icmp_lt (tgt := 14) hx hb dX5_tokenAt_9 (by decide) (fun c_4 => ?_) (fun c_4 => ?_)
    · replace hp := hp.1 c_4
      refine lv_aload_n hx hb dX5_tokenAt_14 rfl (lv_at hl 0 rfl) ?_
      refine lv_iload_n hx hb dX5_tokenAt_15 rfl (lv_at hl 1 rfl) ?_
      refine w_callI (va_runV (As := [.int x1]) (rest := []) F (c_J4_charAt_5068e l hL_a0 hK_a0 hp H.size) (cwV (C := RJ4) 1 hts (wg_V wm_RX5_87 wy_J4_charAt_5068e) rfl rfl rfl (by decide +kernel) ⟨Nat.le_of_ble_eq_true rfl, Nat.le_of_ble_eq_true rfl⟩) (w_preV hK hW hL_a0 hK_a0 (by decide) rfl) rfl rfl hl.1 rfl (lv_room (Nat.le_of_ble_eq_true rfl)) dX5_tokenAt_16 ⟨Nat.le_of_ble_eq_true rfl, Nat.le_of_ble_eq_true rfl⟩) hW (fun r_5 S_6 H locs hp hW => ?_)
      obtain ⟨hX_S_6, hp⟩ := hp
      refine W.widen (k := 0) (n := 0) (by decide) (by decide) ?_
      have hE := hE.trans hX_S_6
      have hK_a0 : sK S_6 a0 = 1 := (hX_S_6.2 a0 hL_a0).1.trans hK_a0
      have hL_a0 : wM D S_6 a0 := hX_S_6.M hL_a0
      by_cases c_7 : r_5 = 32
      · refine lv_lookup (tgt := 68) (x := r_5) (off := 49) hx hb dX5_tokenAt_19 (by decide +kernel) (by rw [c_7]; decide +kernel) (by decide) ?_
        replace hp := hp.1 c_7
        refine lv_iconst (v := 0) hx hb dX5_tokenAt_68 (by decide) ?_
        exact w_iret hx hb hr hlocks hW ⟨hE, hp⟩ dX5_tokenAt_69
      replace hp := hp.2
      by_cases c_8 : r_5 = 40
      · refine lv_lookup (tgt := 70) (x := r_5) (off := 51) hx hb dX5_tokenAt_19 (by decide +kernel) (by rw [c_8]; decide +kernel) (by decide) ?_
        replace hp := hp.1 c_8
        refine lv_iconst (v := 1) hx hb dX5_tokenAt_70 (by decide) ?_
        exact w_iret hx hb hr hlocks hW ⟨hE, hp⟩ dX5_tokenAt_71
      replace hp := hp.2
      by_cases c_9 : r_5 = 41
      · refine lv_lookup (tgt := 72) (x := r_5) (off := 53) hx hb dX5_tokenAt_19 (by decide +kernel) (by rw [c_9]; decide +kernel) (by decide) ?_
        replace hp := hp.1 c_9
        refine lv_iconst (v := 2) hx hb dX5_tokenAt_72 (by decide) ?_
        exact w_iret hx hb hr hlocks hW ⟨hE, hp⟩ dX5_tokenAt_73
      replace hp := hp.2
      by_cases c_10 : r_5 = 123
      · refine lv_lookup (tgt := 74) (x := r_5) (off := 55) hx hb dX5_tokenAt_19 (by decide +kernel) (by rw [c_10]; decide +kernel) (by decide) ?_
        replace hp := hp.1 c_10
        refine lv_iconst (v := 3) hx hb dX5_tokenAt_74 (by decide) ?_
        exact w_iret hx hb hr hlocks hW ⟨hE, hp⟩ dX5_tokenAt_75
      replace hp := hp.2
      by_cases c_11 : r_5 = 125
      · refine lv_lookup (tgt := 76) (x := r_5) (off := 57) hx hb dX5_tokenAt_19 (by decide +kernel) (by rw [c_11]; decide +kernel) (by decide) ?_
        replace hp := hp.1 c_11
        refine lv_iconst (v := (-1)) hx hb dX5_tokenAt_76 (by decide) ?_
        exact w_iret hx hb hr hlocks hW ⟨hE, hp⟩ dX5_tokenAt_77
      replace hp := hp.2
      replace hp := hp c_7 c_8 c_9 c_10 c_11
      refine lv_lookup (tgt := 78) (x := r_5) (off := 59) hx hb dX5_tokenAt_19 (by decide +kernel) (by show Op.lookupswitch.offset [(32, 49), (40, 51), (41, 53), (123, 55), (125, 57)] 59 _ = _; rw [lv_osw c_7 (by decide), lv_osw c_8 (by decide), lv_osw c_9 (by decide), lv_osw c_10 (by decide), lv_osw c_11 (by decide)]; rfl) (by decide) ?_
      refine lv_aload_n hx hb dX5_tokenAt_78 rfl (lv_at hl 0 rfl) ?_
      refine lv_iload_n hx hb dX5_tokenAt_79 rfl (lv_at hl 1 rfl) ?_
      refine lv_iload_n hx hb dX5_tokenAt_80 rfl (lv_at hl 2 rfl) ?_
      refine w_callI (va_runS (As := [.ref a0, .int x1, .int x2]) (rest := []) F (c_X5_isNumber l hL_a0 hK_a0 hp H.size) (va_cwS 3 hts (wg_S wm_RX5_95 wy_X5_isNumber) rfl rfl rfl (by decide +kernel) ⟨Nat.le_of_ble_eq_true rfl, Nat.le_of_ble_eq_true rfl⟩) (w_preS hK hW) rfl rfl hl.1 rfl (lv_room (Nat.le_of_ble_eq_true rfl)) dX5_tokenAt_81 ⟨Nat.le_of_ble_eq_true rfl, Nat.le_of_ble_eq_true rfl⟩) hW (fun r_12 S_13 H locs hp hW => ?_)
      obtain ⟨hX_S_13, hp⟩ := hp
      refine W.widen (k := 0) (n := 0) (by decide) (by decide) ?_
      have hE := hE.trans hX_S_13
      have hK_a0 : sK S_13 a0 = 1 := (hX_S_13.2 a0 hL_a0).1.trans hK_a0
      have hL_a0 : wM D S_13 a0 := hX_S_13.M hL_a0
      refine lv_if_eq (tgt := 89) hx hb dX5_tokenAt_84 (by decide) (fun c_14 => ?_) (fun c_14 => ?_)
      · replace hp := hp.1 c_14
        refine lv_aload_n hx hb dX5_tokenAt_89 rfl (lv_at hl 0 rfl) ?_
        refine lv_iload_n hx hb dX5_tokenAt_90 rfl (lv_at hl 1 rfl) ?_
        refine lv_iload_n hx hb dX5_tokenAt_91 rfl (lv_at hl 2 rfl) ?_
        refine w_callI (va_runS (As := [.ref a0, .int x1, .int x2]) (rest := []) F (c_X5_isResult l hL_a0 hK_a0 hp H.size) (va_cwS 3 hts (wg_S wm_RX5_98 wy_X5_isResult) rfl rfl rfl (by decide +kernel) ⟨Nat.le_of_ble_eq_true rfl, Nat.le_of_ble_eq_true rfl⟩) (w_preS hK hW) rfl rfl hl.1 rfl (lv_room (Nat.le_of_ble_eq_true rfl)) dX5_tokenAt_92 ⟨Nat.le_of_ble_eq_true rfl, Nat.le_of_ble_eq_true rfl⟩) hW (fun r_15 S_16 H locs hp hW => ?_)
        obtain ⟨hX_S_16, hp⟩ := hp
        refine W.widen (k := 0) (n := 0) (by decide) (by decide) ?_
        have hE := hE.trans hX_S_16
        have hK_a0 : sK S_16 a0 = 1 := (hX_S_16.2 a0 hL_a0).1.trans hK_a0
        have hL_a0 : wM D S_16 a0 := hX_S_16.M hL_a0
        refine lv_if_eq (tgt := 102) hx hb dX5_tokenAt_95 (by decide) (fun c_17 => ?_) (fun c_17 => ?_)
        · replace hp := hp.1 c_17
          refine lv_bipush (v := 6) hx hb dX5_tokenAt_102 (by decide) ?_
          exact t_X5_tokenAt_104 F hr hlocks hK hp hW hE (lv_sub hl [] rfl)
        · replace hp := hp.2 c_17
          refine lv_iconst (v := 5) hx hb dX5_tokenAt_98 (by decide) ?_
          refine lv_goto (tgt := 104) hx hb dX5_tokenAt_99 (by decide) ?_
          exact t_X5_tokenAt_104 F hr hlocks hK hp hW hE (lv_sub hl [] rfl)
      · replace hp := hp.2 c_14
        refine lv_iconst (v := 4) hx hb dX5_tokenAt_87 (by decide) ?_
        exact w_iret hx hb hr hlocks hW ⟨hE, hp⟩ dX5_tokenAt_88
    · replace hp := hp.2 c_4
      exact t_X5_tokenAt_12 F hr hlocks hK hp hW hE (lv_sub hl [] rfl)
set_option maxHeartbeats 4000000 in
set_option maxRecDepth 100000 in
theorem c_X5_tokenAt (l : Launch) {D : wD} {cy : Nat → ClassId} {X : va_W} {S0 : wS} {post : Int32 → wS → Prop} {a0 : Nat} {x1 : Int32} {x2 : Int32} (hL_a0 : wM D S0 a0) (hK_a0 : sK S0 a0 = 1) (hp : wp_X5_tokenAt D post S0 a0 x1 x2) : mI D cy X l yX5_tokenAt wz_X5_tokenAt r_X5_tokenAt [.ref a0, .int x1, .int x2] S0 (fun r S9 => wX D S0 S9 ∧ post r S9) := by
  intro sz
  refine Met.ofW (cc := cX5_tokenAt) (maxL := 3) (ret := (some .int)) (by decide) rfl ?_
  intro p e s m args below meth c s₁ B hml hv
  obtain ⟨rfl, hsz, hP, hK, hD0, hRO⟩ := hv
  have hts := atoms_spec (ws := wz_X5_tokenAt) B.pre
  have hown : s.vm.findClass RX5 = some m.cls := findClass_of_methodNamed B.named
  subst hsz
  have hD := hD0.self (sz := s.heap.size)
  have F : CallFix p m c cX5_tokenAt 3 s _ wz_X5_tokenAt RX5 := ⟨B.exec, B.bytes, hml, hown, hts⟩
  have hr := B.returns
  have hlocks := B.notSynchronized
  generalize hAe : va_A (wL cy X S0) s.heap.size = A at hD hK ⊢
  have hA : ∀ q, s.heap.size ≤ q → A q := fun q h => by rw [← hAe]; exact Or.inr h
  have hW : wO D cy X A s.heap S0 s.heap [] := ⟨hP, hD, va_S.rf, hA, hRO⟩
  have hl := lv_entry ([.ref a0, .int x1, .int x2]) (n := 3) (Nat.le_of_ble_eq_true rfl)
  rw [lg_entry_eq]
  generalize (lg_sl ([.ref a0, .int x1, .int x2]) ++ List.replicate (3 - (lg_sl ([.ref a0, .int x1, .int x2])).length) Slot.unset).toArray = ls at hl ⊢
  have hl : lv_has ls 3 [(0, .ref a0), (1, .int x1), (2, .int x2)] := hl
  unfold wp_X5_tokenAt at hp
  exact t_X5_tokenAt_0 F hr hlocks hK hp hW wX.rf (lv_sub hl [0, 1, 2] rfl) hL_a0 hK_a0
def wp_X5_read_177 (D : wD) (post : Int32 → wS → Prop)  (S : wS) (t0 : Int32) : Prop :=
post t0 S
def wp_X5_read_164 (D : wD) (post : Int32 → wS → Prop)  (S : wS) (x4 : Int32) (t0 : Int32) : Prop :=
((t0 = 0 → wp_X5_read_177 D post S x4) ∧
 (¬ t0 = 0 → wp_X5_read_177 D post S (-1 : Int32)))
def wp_X5_read_163 (D : wD) (post : Int32 → wS → Prop)  (S : wS) (x4 : Int32) : Prop :=
wp_X5_read_164 D post S x4 (0 : Int32)
def wp_X5_read_138 (D : wD) (post : Int32 → wS → Prop)  (S : wS) (a0 : Nat) (x4 : Int32) (x5 : Int32) : Prop :=
((¬ x5 = x4 → wp_X5_read_163 D post S x4) ∧
 (x5 = x4 → ((¬ (sI S a0 6) = 0 → wp_X5_read_163 D post S x4) ∧
 ((sI S a0 6) = 0 → ((¬ (sI S a0 9) = 0 → wp_X5_read_163 D post S x4) ∧
 ((sI S a0 9) = 0 → wp_X5_read_164 D post S x4 (1 : Int32)))))))
def wp_X5_read_118 (D : wD) (post : Int32 → wS → Prop) (k_61 : wS → Nat → Nat → Int32 → Int32 → Int32 → Prop) (S : wS) (a0 : Nat) (a1 : Nat) (x4 : Int32) (x5 : Int32) (x6 : Int32) (x7 : Int32) (t0 : Int32) : Prop :=
((¬ t0 = 0 → ∀ x_2 : Int32, x_2 = x6 + 1 →
k_61 S a0 a1 x4 x7 x_2) ∧
 (t0 = 0 → post x5 S))
def wp_X5_read_61 (D : wD) (post : Int32 → wS → Prop)  : Nat → wS → Nat → Nat → Int32 → Int32 → Int32 → Prop
  | 0, _, _, _, _, _, _ => False
  | n + 1, S, a0, a1, x4, x5, x6 =>
    ((x4 ≤ x6 → wp_X5_read_138 D post S a0 x4 x5) ∧
     (¬ x4 ≤ x6 → ((x4 ≤ x5 → wp_X5_read_138 D post S a0 x4 x5) ∧
     (¬ x4 ≤ x5 → wp_X5_endOfToken D (fun r_3 S_4 => 
    wp_X5_tokenAt D (fun r_5 S_6 => 
    ((¬ r_5 = (6 : Int32) → wp_X5_takes D (fun r_8 S_9 => 
    wp_X5_read_118 D post (wp_X5_read_61 D post n) S_9 a0 a1 x4 x5 x6 r_3 r_8) S_6 a0 r_5) ∧
     (r_5 = (6 : Int32) → wp_X5_takesMove D (fun r_10 S_11 => 
    wp_X5_read_118 D post (wp_X5_read_61 D post n) S_11 a0 a1 x4 x5 x6 r_3 r_10) S_6 a0 a1 x5 r_3))) S_4 a1 x5 r_3) S a1 x5))))
def wp_X5_read_0 (D : wD) (post : Int32 → wS → Prop)  (S : wS) (a0 : Nat) (a1 : Nat) (a2 : Nat) (x3 : Int32) : Prop :=
∃ y_1 : Nat, sR S a0 2 = some y_1 ∧ wM D S y_1 ∧ sK S y_1 = 22 ∧
wp_X7_save D (fun S_3 => 
∃ y_4 : Nat, sR S_3 a0 4 = some y_4 ∧ wM D S_3 y_4 ∧ sK S_3 y_4 = 21 ∧
y_4 ∈ sL S_3 ∧ vp_in (0 : Int32) (sN S_3 y_4) ∧
∀ S_6 : wS, S_6 = uI S_3 y_4 ((0 : Int32)).toNatClampNeg (0 : Int32) →
∀ S_7 : wS, S_7 = uI S_6 a0 6 (0 : Int32) →
∃ y_8 : Nat, sR S_7 a0 5 = some y_8 ∧ wM D S_7 y_8 ∧ sK S_7 y_8 = 21 ∧
∀ S_9 : wS, S_9 = uI S_7 a0 7 (if (Int32.ofNat (sN S_7 y_8)) < x3 then (Int32.ofNat (sN S_7 y_8)) else x3) →
∀ S_10 : wS, S_10 = uI S_9 a0 8 (0 : Int32) →
narrow .boolean (.int (0 : Int32)) = .int (0 : Int32) ∧ fits .boolean (.int (0 : Int32)) = true ∧
∀ S_11 : wS, S_11 = uI S_10 a0 9 (0 : Int32) →
narrow .boolean (.int (0 : Int32)) = .int (0 : Int32) ∧ fits .boolean (.int (0 : Int32)) = true ∧
∀ S_13 : wS, S_13 = uI S_11 a0 10 (0 : Int32) →
wp_J4_length_8abf5 D (fun r_15 S_16 => 
∃ n_17 : Nat, wp_X5_read_61 D post n_17 S_16 a0 a1 r_15 (0 : Int32) (0 : Int32)) S_13 a1) S a2 y_1 (0 : Int32)
abbrev r_X5_read : Room := { frames := 8, cells := 0, slots := 0, locals := 185 }
def wp_X5_read (D : wD) (post : Int32 → wS → Prop) (S : wS) (a0 : Nat) (a1 : Nat) (a2 : Nat) (x3 : Int32) : Prop := wp_X5_read_0 D post S a0 a1 a2 x3
set_option maxHeartbeats 4000000 in
set_option maxRecDepth 100000 in
theorem t_X5_read_177 {p : Program} {l : Launch} {e : Env} {s : State} {m : MethodId} {args : Array Value} {below : List Frame} {meth : Method} {c : Code} {D : wD} {cy : Nat → ClassId} {X : va_W} {A : Nat → Prop} {S0 : wS} {post : Int32 → wS → Prop} (F : CallFix p m c cX5_read 10 s args wz_X5_read RX5) (hr : meth.sig.returnType = (some .int)) (hlocks : meth.locks = false) (hK : wK D cy A s) : ∀ {S : wS} {H : Heap} {locs : List Loc} {ls : Array Slot} {t0 : Int32}, wp_X5_read_177 D post S t0 → wO D cy X A s.heap S H locs → wX D S0 S → lv_has ls 10 [] → W p l e r_X5_read s m args below meth c H locs 0 0 (MQ below (va_Qi (fun r S9 => wX D S0 S9 ∧ post r S9) (wB D cy X A) A) args s 0 0 A) (F0 m 177 ls [.int t0]) := by
  obtain ⟨hx, hb, hml, hown, hts⟩ := id F
  have hwg : ∀ w ∈ WG, w.before args s = true := fun w h => hts w (List.mem_cons_of_mem _ h)
  intro S H locs ls t0 hp hW hE hl
  unfold wp_X5_read_177 at hp
  exact w_iret hx hb hr hlocks hW ⟨hE, hp⟩ dX5_read_177
set_option maxHeartbeats 4000000 in
set_option maxRecDepth 100000 in
theorem t_X5_read_164 {p : Program} {l : Launch} {e : Env} {s : State} {m : MethodId} {args : Array Value} {below : List Frame} {meth : Method} {c : Code} {D : wD} {cy : Nat → ClassId} {X : va_W} {A : Nat → Prop} {S0 : wS} {post : Int32 → wS → Prop} (F : CallFix p m c cX5_read 10 s args wz_X5_read RX5) (hr : meth.sig.returnType = (some .int)) (hlocks : meth.locks = false) (hK : wK D cy A s) : ∀ {S : wS} {H : Heap} {locs : List Loc} {ls : Array Slot} {x4 : Int32} {t0 : Int32}, wp_X5_read_164 D post S x4 t0 → wO D cy X A s.heap S H locs → wX D S0 S → lv_has ls 10 [(4, .int x4)] → W p l e r_X5_read s m args below meth c H locs 0 0 (MQ below (va_Qi (fun r S9 => wX D S0 S9 ∧ post r S9) (wB D cy X A) A) args s 0 0 A) (F0 m 164 ls [.int t0]) := by
  obtain ⟨hx, hb, hml, hown, hts⟩ := id F
  have hwg : ∀ w ∈ WG, w.before args s = true := fun w h => hts w (List.mem_cons_of_mem _ h)
  intro S H locs ls x4 t0 hp hW hE hl
  unfold wp_X5_read_164 at hp
  refine lv_istore (lv' := [(6, .int t0), (4, .int x4)]) hx hb dX5_read_164 hl (by decide) rfl (fun ls hl => ?_)
  refine lv_iload hx hb dX5_read_166 (lv_at hl 0 rfl) ?_
  refine lv_if_eq (tgt := 175) hx hb dX5_read_168 (by decide) (fun c_1 => ?_) (fun c_1 => ?_)
  · replace hp := hp.1 c_1
    refine lv_iload hx hb dX5_read_175 (lv_at hl 1 rfl) ?_
    exact t_X5_read_177 F hr hlocks hK hp hW hE (lv_sub hl [] rfl)
  · replace hp := hp.2 c_1
    refine lv_iconst (v := (-1)) hx hb dX5_read_171 (by decide) ?_
    refine lv_goto (tgt := 177) hx hb dX5_read_172 (by decide) ?_
    exact t_X5_read_177 F hr hlocks hK hp hW hE (lv_sub hl [] rfl)
set_option maxHeartbeats 4000000 in
set_option maxRecDepth 100000 in
theorem t_X5_read_163 {p : Program} {l : Launch} {e : Env} {s : State} {m : MethodId} {args : Array Value} {below : List Frame} {meth : Method} {c : Code} {D : wD} {cy : Nat → ClassId} {X : va_W} {A : Nat → Prop} {S0 : wS} {post : Int32 → wS → Prop} (F : CallFix p m c cX5_read 10 s args wz_X5_read RX5) (hr : meth.sig.returnType = (some .int)) (hlocks : meth.locks = false) (hK : wK D cy A s) : ∀ {S : wS} {H : Heap} {locs : List Loc} {ls : Array Slot} {x4 : Int32}, wp_X5_read_163 D post S x4 → wO D cy X A s.heap S H locs → wX D S0 S → lv_has ls 10 [(4, .int x4)] → W p l e r_X5_read s m args below meth c H locs 0 0 (MQ below (va_Qi (fun r S9 => wX D S0 S9 ∧ post r S9) (wB D cy X A) A) args s 0 0 A) (F0 m 163 ls []) := by
  obtain ⟨hx, hb, hml, hown, hts⟩ := id F
  have hwg : ∀ w ∈ WG, w.before args s = true := fun w h => hts w (List.mem_cons_of_mem _ h)
  intro S H locs ls x4 hp hW hE hl
  unfold wp_X5_read_163 at hp
  refine lv_iconst (v := 0) hx hb dX5_read_163 (by decide) ?_
  exact t_X5_read_164 F hr hlocks hK hp hW hE (lv_sub hl [0] rfl)
set_option maxHeartbeats 4000000 in
set_option maxRecDepth 100000 in
theorem t_X5_read_138 {p : Program} {l : Launch} {e : Env} {s : State} {m : MethodId} {args : Array Value} {below : List Frame} {meth : Method} {c : Code} {D : wD} {cy : Nat → ClassId} {X : va_W} {A : Nat → Prop} {S0 : wS} {post : Int32 → wS → Prop} (F : CallFix p m c cX5_read 10 s args wz_X5_read RX5) (hr : meth.sig.returnType = (some .int)) (hlocks : meth.locks = false) (hK : wK D cy A s) : ∀ {S : wS} {H : Heap} {locs : List Loc} {ls : Array Slot} {a0 : Nat} {x4 : Int32} {x5 : Int32}, wp_X5_read_138 D post S a0 x4 x5 → wO D cy X A s.heap S H locs → wX D S0 S → lv_has ls 10 [(0, .ref a0), (4, .int x4), (5, .int x5)] → wM D S a0 → sK S a0 = 10 → W p l e r_X5_read s m args below meth c H locs 0 0 (MQ below (va_Qi (fun r S9 => wX D S0 S9 ∧ post r S9) (wB D cy X A) A) args s 0 0 A) (F0 m 138 ls []) := by
  obtain ⟨hx, hb, hml, hown, hts⟩ := id F
  have hwg : ∀ w ∈ WG, w.before args s = true := fun w h => hts w (List.mem_cons_of_mem _ h)
  have i_10 : ∀ w ∈ u_ws RX5 TX5 11, w ∈ wz_X5_read := fun w h => List.mem_cons_of_mem _ (wu_10 w h)
  have k_25 := hwg _ wf_RX5_25
  have k_35 := hwg _ wf_RX5_35
  intro S H locs ls a0 x4 x5 hp hW hE hl hL_a0 hK_a0
  unfold wp_X5_read_138 at hp
  refine lv_iload hx hb dX5_read_138 (lv_at hl 2 rfl) ?_
  refine lv_iload hx hb dX5_read_140 (lv_at hl 1 rfl) ?_
  refine lv_icmp_ne (tgt := 163) hx hb dX5_read_142 (by decide) (fun c_1 => ?_) (fun c_1 => ?_)
  · replace hp := hp.1 c_1
    exact t_X5_read_163 F hr hlocks hK hp hW hE (lv_sub hl [1] rfl)
  · replace hp := hp.2 c_1
    refine lv_aload_n hx hb dX5_read_145 rfl (lv_at hl 0 rfl) ?_
    refine w_get (k := 10) (f := 6) (T := TX5) (v := .int (sI S a0 6)) F hK hW hL_a0 hK_a0 (by decide) rfl rfl (by decide) i_10 k_25 rfl dX5_read_146 ?_
    refine lv_if_ne (tgt := 163) hx hb dX5_read_149 (by decide) (fun c_2 => ?_) (fun c_2 => ?_)
    · replace hp := hp.1 c_2
      exact t_X5_read_163 F hr hlocks hK hp hW hE (lv_sub hl [1] rfl)
    · replace hp := hp.2 c_2
      refine lv_aload_n hx hb dX5_read_152 rfl (lv_at hl 0 rfl) ?_
      refine w_get (k := 10) (f := 9) (T := TX5) (v := .int (sI S a0 9)) F hK hW hL_a0 hK_a0 (by decide) rfl rfl (by decide) i_10 k_35 rfl dX5_read_153 ?_
      refine lv_if_ne (tgt := 163) hx hb dX5_read_156 (by decide) (fun c_3 => ?_) (fun c_3 => ?_)
      · replace hp := hp.1 c_3
        exact t_X5_read_163 F hr hlocks hK hp hW hE (lv_sub hl [1] rfl)
      · replace hp := hp.2 c_3
        refine lv_iconst (v := 1) hx hb dX5_read_159 (by decide) ?_
        refine lv_goto (tgt := 164) hx hb dX5_read_160 (by decide) ?_
        exact t_X5_read_164 F hr hlocks hK hp hW hE (lv_sub hl [1] rfl)
set_option maxHeartbeats 4000000 in
set_option maxRecDepth 100000 in
theorem t_X5_read_118 {p : Program} {l : Launch} {e : Env} {s : State} {m : MethodId} {args : Array Value} {below : List Frame} {meth : Method} {c : Code} {D : wD} {cy : Nat → ClassId} {X : va_W} {A : Nat → Prop} {S0 : wS} {post : Int32 → wS → Prop} (F : CallFix p m c cX5_read 10 s args wz_X5_read RX5) (hr : meth.sig.returnType = (some .int)) (hlocks : meth.locks = false) (hK : wK D cy A s) {k_61 : wS → Nat → Nat → Int32 → Int32 → Int32 → Prop} (q_61 : ∀ {S : wS} {H : Heap} {locs : List Loc} {ls : Array Slot} {a0 : Nat} {a1 : Nat} {x4 : Int32} {x5 : Int32} {x6 : Int32}, k_61 S a0 a1 x4 x5 x6 → wO D cy X A s.heap S H locs → wX D S0 S → lv_has ls 10 [(0, .ref a0), (1, .ref a1), (4, .int x4), (5, .int x5), (6, .int x6)] → wM D S a0 → sK S a0 = 10 → wM D S a1 → sK S a1 = 1 → W p l e r_X5_read s m args below meth c H locs 0 0 (MQ below (va_Qi (fun r S9 => wX D S0 S9 ∧ post r S9) (wB D cy X A) A) args s 0 0 A) (F0 m 61 ls [])) : ∀ {S : wS} {H : Heap} {locs : List Loc} {ls : Array Slot} {a0 : Nat} {a1 : Nat} {x4 : Int32} {x5 : Int32} {x6 : Int32} {x7 : Int32} {t0 : Int32}, wp_X5_read_118 D post k_61 S a0 a1 x4 x5 x6 x7 t0 → wO D cy X A s.heap S H locs → wX D S0 S → lv_has ls 10 [(0, .ref a0), (1, .ref a1), (4, .int x4), (5, .int x5), (6, .int x6), (7, .int x7)] → wM D S a0 → sK S a0 = 10 → wM D S a1 → sK S a1 = 1 → W p l e r_X5_read s m args below meth c H locs 0 0 (MQ below (va_Qi (fun r S9 => wX D S0 S9 ∧ post r S9) (wB D cy X A) A) args s 0 0 A) (F0 m 118 ls [.int t0]) := by
  obtain ⟨hx, hb, hml, hown, hts⟩ := id F
  have hwg : ∀ w ∈ WG, w.before args s = true := fun w h => hts w (List.mem_cons_of_mem _ h)
  intro S H locs ls a0 a1 x4 x5 x6 x7 t0 hp hW hE hl hL_a0 hK_a0 hL_a1 hK_a1
  unfold wp_X5_read_118 at hp
  refine lv_istore (lv' := [(9, .int t0), (0, .ref a0), (1, .ref a1), (4, .int x4), (5, .int x5), (6, .int x6), (7, .int x7)]) hx hb dX5_read_118 hl (by decide) rfl (fun ls hl => ?_)
  refine lv_iload hx hb dX5_read_120 (lv_at hl 0 rfl) ?_
  refine lv_if_ne (tgt := 128) hx hb dX5_read_122 (by decide) (fun c_1 => ?_) (fun c_1 => ?_)
  · replace hp := hp.1 c_1
    refine lv_iload hx hb dX5_read_128 (lv_at hl 6 rfl) ?_
    refine lv_istore (lv' := [(5, .int x7), (9, .int t0), (0, .ref a0), (1, .ref a1), (4, .int x4), (6, .int x6), (7, .int x7)]) hx hb dX5_read_130 hl (by decide) rfl (fun ls hl => ?_)
    obtain ⟨x_2, ex_2⟩ : ∃ z : Int32, z = x6 + 1 := ⟨_, rfl⟩
    replace hp := hp x_2 ex_2
    refine lv_iinc (v := x_2) (lv' := [(6, .int x_2), (5, .int x7), (9, .int t0), (0, .ref a0), (1, .ref a1), (4, .int x4), (7, .int x7)]) hx hb dX5_read_132 hl (k := 5) rfl (by rw [ex_2]; rfl) (by decide) rfl (fun ls hl => ?_)
    refine lv_goto (tgt := 61) hx hb dX5_read_135 (by decide) ?_
    exact q_61 hp hW hE (lv_sub hl [3, 4, 5, 1, 0] rfl) hL_a0 hK_a0 hL_a1 hK_a1
  · replace hp := hp.2 c_1
    refine lv_iload hx hb dX5_read_125 (lv_at hl 4 rfl) ?_
    exact w_iret hx hb hr hlocks hW ⟨hE, hp⟩ dX5_read_127
set_option maxHeartbeats 4000000 in
set_option maxRecDepth 100000 in
theorem t_X5_read_61 {p : Program} {l : Launch} {e : Env} {s : State} {m : MethodId} {args : Array Value} {below : List Frame} {meth : Method} {c : Code} {D : wD} {cy : Nat → ClassId} {X : va_W} {A : Nat → Prop} {S0 : wS} {post : Int32 → wS → Prop} (F : CallFix p m c cX5_read 10 s args wz_X5_read RX5) (hr : meth.sig.returnType = (some .int)) (hlocks : meth.locks = false) (hK : wK D cy A s) : ∀ (n : Nat) {S : wS} {H : Heap} {locs : List Loc} {ls : Array Slot} {a0 : Nat} {a1 : Nat} {x4 : Int32} {x5 : Int32} {x6 : Int32}, wp_X5_read_61 D post n S a0 a1 x4 x5 x6 → wO D cy X A s.heap S H locs → wX D S0 S → lv_has ls 10 [(0, .ref a0), (1, .ref a1), (4, .int x4), (5, .int x5), (6, .int x6)] → wM D S a0 → sK S a0 = 10 → wM D S a1 → sK S a1 = 1 → W p l e r_X5_read s m args below meth c H locs 0 0 (MQ below (va_Qi (fun r S9 => wX D S0 S9 ∧ post r S9) (wB D cy X A) A) args s 0 0 A) (F0 m 61 ls []) := by
  obtain ⟨hx, hb, hml, hown, hts⟩ := id F
  have hwg : ∀ w ∈ WG, w.before args s = true := fun w h => hts w (List.mem_cons_of_mem _ h)
  intro n
  induction n with
  | zero =>
    intro S H locs ls a0 a1 x4 x5 x6 hp
    exact hp.elim
  | succ n ih =>
    intro S H locs ls a0 a1 x4 x5 x6 hp hW hE hl hL_a0 hK_a0 hL_a1 hK_a1
    unfold wp_X5_read_61 at hp
    refine lv_iload hx hb dX5_read_61 (lv_at hl 4 rfl) ?_
    refine lv_iload hx hb dX5_read_63 (lv_at hl 2 rfl) ?_
    refine lv_icmp_ge (tgt := 138) hx hb dX5_read_65 (by decide) (fun c_1 => ?_) (fun c_1 => ?_)
    · replace hp := hp.1 c_1
      exact t_X5_read_138 F hr hlocks hK hp hW hE (lv_sub hl [0, 2, 3] rfl) hL_a0 hK_a0
    · replace hp := hp.2 c_1
      refine lv_iload hx hb dX5_read_68 (lv_at hl 3 rfl) ?_
      refine lv_iload hx hb dX5_read_70 (lv_at hl 2 rfl) ?_
      refine lv_icmp_ge (tgt := 138) hx hb dX5_read_72 (by decide) (fun c_2 => ?_) (fun c_2 => ?_)
      · replace hp := hp.1 c_2
        exact t_X5_read_138 F hr hlocks hK hp hW hE (lv_sub hl [0, 2, 3] rfl) hL_a0 hK_a0
      · replace hp := hp.2 c_2
        refine lv_aload_n hx hb dX5_read_75 rfl (lv_at hl 1 rfl) ?_
        refine lv_iload hx hb dX5_read_76 (lv_at hl 3 rfl) ?_
        refine w_callI (va_runS (As := [.ref a1, .int x5]) (rest := []) F (c_X5_endOfToken l hL_a1 hK_a1 hp H.size) (va_cwS 2 hts (wg_S wm_RX5_71 wy_X5_endOfToken) rfl rfl rfl (by decide +kernel) ⟨Nat.le_of_ble_eq_true rfl, Nat.le_of_ble_eq_true rfl⟩) (w_preS hK hW) rfl rfl hl.1 rfl (lv_room (Nat.le_of_ble_eq_true rfl)) dX5_read_78 ⟨Nat.le_of_ble_eq_true rfl, Nat.le_of_ble_eq_true rfl⟩) hW (fun r_3 S_4 H locs hp hW => ?_)
        obtain ⟨hX_S_4, hp⟩ := hp
        refine W.widen (k := 0) (n := 0) (by decide) (by decide) ?_
        have hE := hE.trans hX_S_4
        have hK_a0 : sK S_4 a0 = 10 := (hX_S_4.2 a0 hL_a0).1.trans hK_a0
        have hL_a0 : wM D S_4 a0 := hX_S_4.M hL_a0
        have hK_a1 : sK S_4 a1 = 1 := (hX_S_4.2 a1 hL_a1).1.trans hK_a1
        have hL_a1 : wM D S_4 a1 := hX_S_4.M hL_a1
        refine lv_istore (lv' := [(7, .int r_3), (0, .ref a0), (1, .ref a1), (4, .int x4), (5, .int x5), (6, .int x6)]) hx hb dX5_read_81 hl (by decide) rfl (fun ls hl => ?_)
        refine lv_aload_n hx hb dX5_read_83 rfl (lv_at hl 2 rfl) ?_
        refine lv_iload hx hb dX5_read_84 (lv_at hl 4 rfl) ?_
        refine lv_iload hx hb dX5_read_86 (lv_at hl 0 rfl) ?_
        refine w_callI (va_runS (As := [.ref a1, .int x5, .int r_3]) (rest := []) F (c_X5_tokenAt l hL_a1 hK_a1 hp H.size) (va_cwS 3 hts (wg_S wm_RX5_75 wy_X5_tokenAt) rfl rfl rfl (by decide +kernel) ⟨Nat.le_of_ble_eq_true rfl, Nat.le_of_ble_eq_true rfl⟩) (w_preS hK hW) rfl rfl hl.1 rfl (lv_room (Nat.le_of_ble_eq_true rfl)) dX5_read_88 ⟨Nat.le_of_ble_eq_true rfl, Nat.le_of_ble_eq_true rfl⟩) hW (fun r_5 S_6 H locs hp hW => ?_)
        obtain ⟨hX_S_6, hp⟩ := hp
        refine W.widen (k := 0) (n := 0) (by decide) (by decide) ?_
        have hE := hE.trans hX_S_6
        have hK_a0 : sK S_6 a0 = 10 := (hX_S_6.2 a0 hL_a0).1.trans hK_a0
        have hL_a0 : wM D S_6 a0 := hX_S_6.M hL_a0
        have hK_a1 : sK S_6 a1 = 1 := (hX_S_6.2 a1 hL_a1).1.trans hK_a1
        have hL_a1 : wM D S_6 a1 := hX_S_6.M hL_a1
        refine lv_istore (lv' := [(8, .int r_5), (7, .int r_3), (0, .ref a0), (1, .ref a1), (4, .int x4), (5, .int x5), (6, .int x6)]) hx hb dX5_read_91 hl (by decide) rfl (fun ls hl => ?_)
        refine lv_iload hx hb dX5_read_93 (lv_at hl 0 rfl) ?_
        refine lv_bipush (v := 6) hx hb dX5_read_95 (by decide) ?_
        refine lv_icmp_ne (tgt := 112) hx hb dX5_read_97 (by decide) (fun c_7 => ?_) (fun c_7 => ?_)
        · replace hp := hp.1 c_7
          refine lv_aload_n hx hb dX5_read_112 rfl (lv_at hl 2 rfl) ?_
          refine lv_iload hx hb dX5_read_113 (lv_at hl 0 rfl) ?_
          refine w_callI (va_runV (As := [.int r_5]) (rest := []) F (c_X5_takes l hL_a0 hK_a0 hp H.size) (cwV (C := RX5) 1 hts (wg_V wm_RX5_83 wy_X5_takes) rfl rfl rfl (by decide +kernel) ⟨Nat.le_of_ble_eq_true rfl, Nat.le_of_ble_eq_true rfl⟩) (w_preV hK hW hL_a0 hK_a0 (by decide) rfl) rfl rfl hl.1 rfl (lv_room (Nat.le_of_ble_eq_true rfl)) dX5_read_115 ⟨Nat.le_of_ble_eq_true rfl, Nat.le_of_ble_eq_true rfl⟩) hW (fun r_8 S_9 H locs hp hW => ?_)
          obtain ⟨hX_S_9, hp⟩ := hp
          refine W.widen (k := 0) (n := 0) (by decide) (by decide) ?_
          have hE := hE.trans hX_S_9
          have hK_a0 : sK S_9 a0 = 10 := (hX_S_9.2 a0 hL_a0).1.trans hK_a0
          have hL_a0 : wM D S_9 a0 := hX_S_9.M hL_a0
          have hK_a1 : sK S_9 a1 = 1 := (hX_S_9.2 a1 hL_a1).1.trans hK_a1
          have hL_a1 : wM D S_9 a1 := hX_S_9.M hL_a1
          exact t_X5_read_118 F hr hlocks hK ih hp hW hE (lv_sub hl [2, 3, 4, 5, 6, 1] rfl) hL_a0 hK_a0 hL_a1 hK_a1
        · replace hp := hp.2 c_7
          refine lv_aload_n hx hb dX5_read_100 rfl (lv_at hl 2 rfl) ?_
          refine lv_aload_n hx hb dX5_read_101 rfl (lv_at hl 3 rfl) ?_
          refine lv_iload hx hb dX5_read_102 (lv_at hl 5 rfl) ?_
          refine lv_iload hx hb dX5_read_104 (lv_at hl 1 rfl) ?_
          refine w_callI (va_runV (As := [.ref a1, .int x5, .int r_3]) (rest := []) F (c_X5_takesMove l hL_a0 hK_a0 hL_a1 hK_a1 hp H.size) (cwV (C := RX5) 3 hts (wg_V wm_RX5_79 wy_X5_takesMove) rfl rfl rfl (by decide +kernel) ⟨Nat.le_of_ble_eq_true rfl, Nat.le_of_ble_eq_true rfl⟩) (w_preV hK hW hL_a0 hK_a0 (by decide) rfl) rfl rfl hl.1 rfl (lv_room (Nat.le_of_ble_eq_true rfl)) dX5_read_106 ⟨Nat.le_of_ble_eq_true rfl, Nat.le_of_ble_eq_true rfl⟩) hW (fun r_10 S_11 H locs hp hW => ?_)
          obtain ⟨hX_S_11, hp⟩ := hp
          refine W.widen (k := 0) (n := 0) (by decide) (by decide) ?_
          have hE := hE.trans hX_S_11
          have hK_a0 : sK S_11 a0 = 10 := (hX_S_11.2 a0 hL_a0).1.trans hK_a0
          have hL_a0 : wM D S_11 a0 := hX_S_11.M hL_a0
          have hK_a1 : sK S_11 a1 = 1 := (hX_S_11.2 a1 hL_a1).1.trans hK_a1
          have hL_a1 : wM D S_11 a1 := hX_S_11.M hL_a1
          refine lv_goto (tgt := 118) hx hb dX5_read_109 (by decide) ?_
          exact t_X5_read_118 F hr hlocks hK ih hp hW hE (lv_sub hl [2, 3, 4, 5, 6, 1] rfl) hL_a0 hK_a0 hL_a1 hK_a1
set_option maxHeartbeats 4000000 in
set_option maxRecDepth 100000 in
theorem t_X5_read_0 {p : Program} {l : Launch} {e : Env} {s : State} {m : MethodId} {args : Array Value} {below : List Frame} {meth : Method} {c : Code} {D : wD} {cy : Nat → ClassId} {X : va_W} {A : Nat → Prop} {S0 : wS} {post : Int32 → wS → Prop} (F : CallFix p m c cX5_read 10 s args wz_X5_read RX5) (hr : meth.sig.returnType = (some .int)) (hlocks : meth.locks = false) (hK : wK D cy A s) : ∀ {S : wS} {H : Heap} {locs : List Loc} {ls : Array Slot} {a0 : Nat} {a1 : Nat} {a2 : Nat} {x3 : Int32}, wp_X5_read_0 D post S a0 a1 a2 x3 → wO D cy X A s.heap S H locs → wX D S0 S → lv_has ls 10 [(0, .ref a0), (1, .ref a1), (2, .ref a2), (3, .int x3)] → wM D S a0 → sK S a0 = 10 → wM D S a1 → sK S a1 = 1 → wM D S a2 → sK S a2 = 12 → W p l e r_X5_read s m args below meth c H locs 0 0 (MQ below (va_Qi (fun r S9 => wX D S0 S9 ∧ post r S9) (wB D cy X A) A) args s 0 0 A) (F0 m 0 ls []) := by
  obtain ⟨hx, hb, hml, hown, hts⟩ := id F
  have hwg : ∀ w ∈ WG, w.before args s = true := fun w h => hts w (List.mem_cons_of_mem _ h)
  have i_10 : ∀ w ∈ u_ws RX5 TX5 11, w ∈ wz_X5_read := fun w h => List.mem_cons_of_mem _ (wu_10 w h)
  have k_11 := hwg _ wf_RX5_11
  have k_18 := hwg _ wf_RX5_18
  have k_22 := hwg _ wf_RX5_22
  have k_25 := hwg _ wf_RX5_25
  have k_29 := hwg _ wf_RX5_29
  have k_32 := hwg _ wf_RX5_32
  have k_35 := hwg _ wf_RX5_35
  have k_39 := hwg _ wf_RX5_39
  intro S H locs ls a0 a1 a2 x3 hp hW hE hl hL_a0 hK_a0 hL_a1 hK_a1 hL_a2 hK_a2
  unfold wp_X5_read_0 at hp
  refine lv_aload_n hx hb dX5_read_0 rfl (lv_at hl 2 rfl) ?_
  refine lv_aload_n hx hb dX5_read_1 rfl (lv_at hl 0 rfl) ?_
  obtain ⟨y_1, ey_1, hL_y_1, hK_y_1, hp⟩ := hp
  refine w_get (k := 10) (f := 2) (T := TX5) (v := .ref y_1) F hK hW hL_a0 hK_a0 (by decide) rfl rfl (by decide) i_10 k_11 (by rw [show wv 10 2 S a0 = va_rf (sR S a0 2) from rfl, ey_1]; rfl) dX5_read_2 ?_
  refine lv_iconst (v := 0) hx hb dX5_read_5 (by decide) ?_
  refine w_callV (va_runV (As := [.ref y_1, .int (0 : Int32)]) (rest := []) F (c_X7_save l hL_a2 hK_a2 hL_y_1 hK_y_1 hp H.size) (cwV (C := RX7) 2 hts (wg_V wm_RX5_55 wy_X7_save) rfl rfl rfl (by decide +kernel) ⟨Nat.le_of_ble_eq_true rfl, Nat.le_of_ble_eq_true rfl⟩) (w_preV hK hW hL_a2 hK_a2 (by decide) rfl) rfl rfl hl.1 rfl (lv_room (Nat.le_of_ble_eq_true rfl)) dX5_read_6 ⟨Nat.le_of_ble_eq_true rfl, Nat.le_of_ble_eq_true rfl⟩) hW (fun S_3 H locs hp hW => ?_)
  obtain ⟨hX_S_3, hp⟩ := hp
  refine W.widen (k := 0) (n := 0) (by decide) (by decide) ?_
  have hE := hE.trans hX_S_3
  have hK_a0 : sK S_3 a0 = 10 := (hX_S_3.2 a0 hL_a0).1.trans hK_a0
  have hL_a0 : wM D S_3 a0 := hX_S_3.M hL_a0
  have hK_a1 : sK S_3 a1 = 1 := (hX_S_3.2 a1 hL_a1).1.trans hK_a1
  have hL_a1 : wM D S_3 a1 := hX_S_3.M hL_a1
  have hK_a2 : sK S_3 a2 = 12 := (hX_S_3.2 a2 hL_a2).1.trans hK_a2
  have hL_a2 : wM D S_3 a2 := hX_S_3.M hL_a2
  refine lv_aload_n hx hb dX5_read_9 rfl (lv_at hl 0 rfl) ?_
  obtain ⟨y_4, ey_4, hL_y_4, hK_y_4, hp⟩ := hp
  refine w_get (k := 10) (f := 4) (T := TX5) (v := .ref y_4) F hK hW hL_a0 hK_a0 (by decide) rfl rfl (by decide) i_10 k_18 (by rw [show wv 10 4 S_3 a0 = va_rf (sR S_3 a0 4) from rfl, ey_4]; rfl) dX5_read_10 ?_
  refine lv_iconst (v := 0) hx hb dX5_read_13 (by decide) ?_
  refine lv_iconst (v := 0) hx hb dX5_read_14 (by decide) ?_
  obtain ⟨h_5m, h_5, hp⟩ := hp
  refine w_ist F hK hW h_5m hK_y_4 h_5 dX5_read_15 (fun H locs hW => ?_)
  obtain ⟨S_6, eS_6⟩ : ∃ z : wS, z = uI S_3 y_4 ((0 : Int32)).toNatClampNeg (0 : Int32) := ⟨_, rfl⟩
  rw [← eS_6] at hW
  replace hp := hp S_6 eS_6
  have hX_S_6 : wX D S_3 S_6 := by rw [eS_6]; exact wX_uI
  have hE := hE.trans hX_S_6
  have hK_a0 : sK S_6 a0 = 10 := (hX_S_6.2 a0 hL_a0).1.trans hK_a0
  have hL_a0 : wM D S_6 a0 := hX_S_6.M hL_a0
  have hK_a1 : sK S_6 a1 = 1 := (hX_S_6.2 a1 hL_a1).1.trans hK_a1
  have hL_a1 : wM D S_6 a1 := hX_S_6.M hL_a1
  have hK_a2 : sK S_6 a2 = 12 := (hX_S_6.2 a2 hL_a2).1.trans hK_a2
  have hL_a2 : wM D S_6 a2 := hX_S_6.M hL_a2
  refine lv_aload_n hx hb dX5_read_16 rfl (lv_at hl 0 rfl) ?_
  refine lv_iconst (v := 0) hx hb dX5_read_17 (by decide) ?_
  refine w_putI (k := 10) (f := 6) (T := TX5) F hK hW hL_a0 hK_a0 (by decide) (by decide) rfl rfl (by decide) i_10 tyX5 tyX5_ok nmX5 k_25 rfl rfl (ty := .int) rfl rfl rfl dX5_read_18 (fun H locs hW => ?_)
  obtain ⟨S_7, eS_7⟩ : ∃ z : wS, z = uI S_6 a0 6 (0 : Int32) := ⟨_, rfl⟩
  rw [← eS_7] at hW
  replace hp := hp S_7 eS_7
  have hX_S_7 : wX D S_6 S_7 := by rw [eS_7]; exact wX_uI
  have hE := hE.trans hX_S_7
  have hK_a0 : sK S_7 a0 = 10 := (hX_S_7.2 a0 hL_a0).1.trans hK_a0
  have hL_a0 : wM D S_7 a0 := hX_S_7.M hL_a0
  have hK_a1 : sK S_7 a1 = 1 := (hX_S_7.2 a1 hL_a1).1.trans hK_a1
  have hL_a1 : wM D S_7 a1 := hX_S_7.M hL_a1
  have hK_a2 : sK S_7 a2 = 12 := (hX_S_7.2 a2 hL_a2).1.trans hK_a2
  have hL_a2 : wM D S_7 a2 := hX_S_7.M hL_a2
  refine lv_aload_n hx hb dX5_read_21 rfl (lv_at hl 0 rfl) ?_
  refine lv_iload_n hx hb dX5_read_22 rfl (lv_at hl 3 rfl) ?_
  refine lv_aload_n hx hb dX5_read_23 rfl (lv_at hl 0 rfl) ?_
  obtain ⟨y_8, ey_8, hL_y_8, hK_y_8, hp⟩ := hp
  refine w_get (k := 10) (f := 5) (T := TX5) (v := .ref y_8) F hK hW hL_a0 hK_a0 (by decide) rfl rfl (by decide) i_10 k_22 (by rw [show wv 10 5 S_7 a0 = va_rf (sR S_7 a0 5) from rfl, ey_8]; rfl) dX5_read_24 ?_
  refine w_len F hK hW hL_y_8 hK_y_8 (by decide) dX5_read_27 ?_
  refine va_mmin hx hb (hml.trans hl.1.symm) hown (hwg _ wm_RX5_59) (hwg _ wmm_min.1) (hwg _ wmm_min.2.1) (hwg _ wmm_min.2.2) (Nat.le_of_ble_eq_true rfl) (Nat.le_of_ble_eq_true rfl) (Nat.le_of_ble_eq_true rfl) (Nat.le_of_ble_eq_true rfl) dX5_read_28 ?_
  refine w_putI (k := 10) (f := 7) (T := TX5) F hK hW hL_a0 hK_a0 (by decide) (by decide) rfl rfl (by decide) i_10 tyX5 tyX5_ok nmX5 k_29 rfl rfl (ty := .int) rfl rfl rfl dX5_read_31 (fun H locs hW => ?_)
  obtain ⟨S_9, eS_9⟩ : ∃ z : wS, z = uI S_7 a0 7 (if (Int32.ofNat (sN S_7 y_8)) < x3 then (Int32.ofNat (sN S_7 y_8)) else x3) := ⟨_, rfl⟩
  rw [← eS_9] at hW
  replace hp := hp S_9 eS_9
  have hX_S_9 : wX D S_7 S_9 := by rw [eS_9]; exact wX_uI
  have hE := hE.trans hX_S_9
  have hK_a0 : sK S_9 a0 = 10 := (hX_S_9.2 a0 hL_a0).1.trans hK_a0
  have hL_a0 : wM D S_9 a0 := hX_S_9.M hL_a0
  have hK_a1 : sK S_9 a1 = 1 := (hX_S_9.2 a1 hL_a1).1.trans hK_a1
  have hL_a1 : wM D S_9 a1 := hX_S_9.M hL_a1
  have hK_a2 : sK S_9 a2 = 12 := (hX_S_9.2 a2 hL_a2).1.trans hK_a2
  have hL_a2 : wM D S_9 a2 := hX_S_9.M hL_a2
  refine lv_aload_n hx hb dX5_read_34 rfl (lv_at hl 0 rfl) ?_
  refine lv_iconst (v := 0) hx hb dX5_read_35 (by decide) ?_
  refine w_putI (k := 10) (f := 8) (T := TX5) F hK hW hL_a0 hK_a0 (by decide) (by decide) rfl rfl (by decide) i_10 tyX5 tyX5_ok nmX5 k_32 rfl rfl (ty := .int) rfl rfl rfl dX5_read_36 (fun H locs hW => ?_)
  obtain ⟨S_10, eS_10⟩ : ∃ z : wS, z = uI S_9 a0 8 (0 : Int32) := ⟨_, rfl⟩
  rw [← eS_10] at hW
  replace hp := hp S_10 eS_10
  have hX_S_10 : wX D S_9 S_10 := by rw [eS_10]; exact wX_uI
  have hE := hE.trans hX_S_10
  have hK_a0 : sK S_10 a0 = 10 := (hX_S_10.2 a0 hL_a0).1.trans hK_a0
  have hL_a0 : wM D S_10 a0 := hX_S_10.M hL_a0
  have hK_a1 : sK S_10 a1 = 1 := (hX_S_10.2 a1 hL_a1).1.trans hK_a1
  have hL_a1 : wM D S_10 a1 := hX_S_10.M hL_a1
  have hK_a2 : sK S_10 a2 = 12 := (hX_S_10.2 a2 hL_a2).1.trans hK_a2
  have hL_a2 : wM D S_10 a2 := hX_S_10.M hL_a2
  refine lv_aload_n hx hb dX5_read_39 rfl (lv_at hl 0 rfl) ?_
  refine lv_iconst (v := 0) hx hb dX5_read_40 (by decide) ?_
  obtain ⟨h_12, h_12f, hp⟩ := hp
  refine w_putI (k := 10) (f := 9) (T := TX5) F hK hW hL_a0 hK_a0 (by decide) (by decide) rfl rfl (by decide) i_10 tyX5 tyX5_ok nmX5 k_35 rfl rfl (ty := .boolean) rfl h_12 h_12f dX5_read_41 (fun H locs hW => ?_)
  obtain ⟨S_11, eS_11⟩ : ∃ z : wS, z = uI S_10 a0 9 (0 : Int32) := ⟨_, rfl⟩
  rw [← eS_11] at hW
  replace hp := hp S_11 eS_11
  have hX_S_11 : wX D S_10 S_11 := by rw [eS_11]; exact wX_uI
  have hE := hE.trans hX_S_11
  have hK_a0 : sK S_11 a0 = 10 := (hX_S_11.2 a0 hL_a0).1.trans hK_a0
  have hL_a0 : wM D S_11 a0 := hX_S_11.M hL_a0
  have hK_a1 : sK S_11 a1 = 1 := (hX_S_11.2 a1 hL_a1).1.trans hK_a1
  have hL_a1 : wM D S_11 a1 := hX_S_11.M hL_a1
  have hK_a2 : sK S_11 a2 = 12 := (hX_S_11.2 a2 hL_a2).1.trans hK_a2
  have hL_a2 : wM D S_11 a2 := hX_S_11.M hL_a2
  refine lv_aload_n hx hb dX5_read_44 rfl (lv_at hl 0 rfl) ?_
  refine lv_iconst (v := 0) hx hb dX5_read_45 (by decide) ?_
  obtain ⟨h_14, h_14f, hp⟩ := hp
  refine w_putI (k := 10) (f := 10) (T := TX5) F hK hW hL_a0 hK_a0 (by decide) (by decide) rfl rfl (by decide) i_10 tyX5 tyX5_ok nmX5 k_39 rfl rfl (ty := .boolean) rfl h_14 h_14f dX5_read_46 (fun H locs hW => ?_)
  obtain ⟨S_13, eS_13⟩ : ∃ z : wS, z = uI S_11 a0 10 (0 : Int32) := ⟨_, rfl⟩
  rw [← eS_13] at hW
  replace hp := hp S_13 eS_13
  have hX_S_13 : wX D S_11 S_13 := by rw [eS_13]; exact wX_uI
  have hE := hE.trans hX_S_13
  have hK_a0 : sK S_13 a0 = 10 := (hX_S_13.2 a0 hL_a0).1.trans hK_a0
  have hL_a0 : wM D S_13 a0 := hX_S_13.M hL_a0
  have hK_a1 : sK S_13 a1 = 1 := (hX_S_13.2 a1 hL_a1).1.trans hK_a1
  have hL_a1 : wM D S_13 a1 := hX_S_13.M hL_a1
  have hK_a2 : sK S_13 a2 = 12 := (hX_S_13.2 a2 hL_a2).1.trans hK_a2
  have hL_a2 : wM D S_13 a2 := hX_S_13.M hL_a2
  refine lv_aload_n hx hb dX5_read_49 rfl (lv_at hl 1 rfl) ?_
  refine w_callI (va_runV (As := []) (rest := []) F (c_J4_length_8abf5 l hL_a1 hK_a1 hp H.size) (cwV (C := RJ4) 0 hts (wg_V wm_RX5_65 wy_J4_length_8abf5) rfl rfl rfl (by decide +kernel) ⟨Nat.le_of_ble_eq_true rfl, Nat.le_of_ble_eq_true rfl⟩) (w_preV hK hW hL_a1 hK_a1 (by decide) rfl) rfl rfl hl.1 rfl (lv_room (Nat.le_of_ble_eq_true rfl)) dX5_read_50 ⟨Nat.le_of_ble_eq_true rfl, Nat.le_of_ble_eq_true rfl⟩) hW (fun r_15 S_16 H locs hp hW => ?_)
  obtain ⟨hX_S_16, hp⟩ := hp
  refine W.widen (k := 0) (n := 0) (by decide) (by decide) ?_
  have hE := hE.trans hX_S_16
  have hK_a0 : sK S_16 a0 = 10 := (hX_S_16.2 a0 hL_a0).1.trans hK_a0
  have hL_a0 : wM D S_16 a0 := hX_S_16.M hL_a0
  have hK_a1 : sK S_16 a1 = 1 := (hX_S_16.2 a1 hL_a1).1.trans hK_a1
  have hL_a1 : wM D S_16 a1 := hX_S_16.M hL_a1
  have hK_a2 : sK S_16 a2 = 12 := (hX_S_16.2 a2 hL_a2).1.trans hK_a2
  have hL_a2 : wM D S_16 a2 := hX_S_16.M hL_a2
  refine lv_istore (lv' := [(4, .int r_15), (0, .ref a0), (1, .ref a1), (2, .ref a2), (3, .int x3)]) hx hb dX5_read_53 hl (by decide) rfl (fun ls hl => ?_)
  refine lv_iconst (v := 0) hx hb dX5_read_55 (by decide) ?_
  refine lv_istore (lv' := [(5, .int (0 : Int32)), (4, .int r_15), (0, .ref a0), (1, .ref a1), (2, .ref a2), (3, .int x3)]) hx hb dX5_read_56 hl (by decide) rfl (fun ls hl => ?_)
  refine lv_iconst (v := 0) hx hb dX5_read_58 (by decide) ?_
  refine lv_istore (lv' := [(6, .int (0 : Int32)), (5, .int (0 : Int32)), (4, .int r_15), (0, .ref a0), (1, .ref a1), (2, .ref a2), (3, .int x3)]) hx hb dX5_read_59 hl (by decide) rfl (fun ls hl => ?_)
  obtain ⟨n_17, hp⟩ := hp
  exact t_X5_read_61 F hr hlocks hK n_17 hp hW hE (lv_sub hl [3, 4, 2, 1, 0] rfl) hL_a0 hK_a0 hL_a1 hK_a1
set_option maxHeartbeats 4000000 in
set_option maxRecDepth 100000 in
theorem c_X5_read (l : Launch) {D : wD} {cy : Nat → ClassId} {X : va_W} {S0 : wS} {post : Int32 → wS → Prop} {a0 : Nat} {a1 : Nat} {a2 : Nat} {x3 : Int32} (hL_a0 : wM D S0 a0) (hK_a0 : sK S0 a0 = 10) (hL_a1 : wM D S0 a1) (hK_a1 : sK S0 a1 = 1) (hL_a2 : wM D S0 a2) (hK_a2 : sK S0 a2 = 12) (hp : wp_X5_read D post S0 a0 a1 a2 x3) : mI D cy X l yX5_read wz_X5_read r_X5_read [.ref a0, .ref a1, .ref a2, .int x3] S0 (fun r S9 => wX D S0 S9 ∧ post r S9) := by
  intro sz
  refine Met.ofW (cc := cX5_read) (maxL := 10) (ret := (some .int)) (by decide) rfl ?_
  intro p e s m args below meth c s₁ B hml hv
  obtain ⟨rfl, hsz, hP, hK, hD0, hRO⟩ := hv
  have hts := atoms_spec (ws := wz_X5_read) B.pre
  have hown : s.vm.findClass RX5 = some m.cls := findClass_of_methodNamed B.named
  subst hsz
  have hD := hD0.self (sz := s.heap.size)
  have F : CallFix p m c cX5_read 10 s _ wz_X5_read RX5 := ⟨B.exec, B.bytes, hml, hown, hts⟩
  have hr := B.returns
  have hlocks := B.notSynchronized
  generalize hAe : va_A (wL cy X S0) s.heap.size = A at hD hK ⊢
  have hA : ∀ q, s.heap.size ≤ q → A q := fun q h => by rw [← hAe]; exact Or.inr h
  have hW : wO D cy X A s.heap S0 s.heap [] := ⟨hP, hD, va_S.rf, hA, hRO⟩
  have hl := lv_entry ([.ref a0, .ref a1, .ref a2, .int x3]) (n := 10) (Nat.le_of_ble_eq_true rfl)
  rw [lg_entry_eq]
  generalize (lg_sl ([.ref a0, .ref a1, .ref a2, .int x3]) ++ List.replicate (10 - (lg_sl ([.ref a0, .ref a1, .ref a2, .int x3])).length) Slot.unset).toArray = ls at hl ⊢
  have hl : lv_has ls 10 [(0, .ref a0), (1, .ref a1), (2, .ref a2), (3, .int x3)] := hl
  unfold wp_X5_read at hp
  exact t_X5_read_0 F hr hlocks hK hp hW wX.rf (lv_sub hl [0, 1, 2, 3] rfl) hL_a0 hK_a0 hL_a1 hK_a1 hL_a2 hK_a2
