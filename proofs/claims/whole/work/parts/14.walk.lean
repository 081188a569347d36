theorem dX12_standsWord_0 : decode cX12_standsWord 0 = .ok (.aload_n 0, 1) := by decide +kernel
theorem dX12_standsWord_1 : decode cX12_standsWord 1 = .ok (.getfield 354, 3) := by decide +kernel
theorem dX12_standsWord_4 : decode cX12_standsWord 4 = .ok (.ifCond .eq 5, 3) := by decide +kernel
theorem dX12_standsWord_7 : decode cX12_standsWord 7 = .ok (.iconst 0, 1) := by decide +kernel
theorem dX12_standsWord_8 : decode cX12_standsWord 8 = .ok (.ireturn, 1) := by decide +kernel
theorem dX12_standsWord_9 : decode cX12_standsWord 9 = .ok (.aload_n 0, 1) := by decide +kernel
theorem dX12_standsWord_10 : decode cX12_standsWord 10 = .ok (.iload_n 1, 1) := by decide +kernel
theorem dX12_standsWord_11 : decode cX12_standsWord 11 = .ok (.iload_n 2, 1) := by decide +kernel
theorem dX12_standsWord_12 : decode cX12_standsWord 12 = .ok (.invokevirtual 358, 3) := by decide +kernel
theorem dX12_standsWord_15 : decode cX12_standsWord 15 = .ok (.ifCond .eq 23, 3) := by decide +kernel
theorem dX12_standsWord_18 : decode cX12_standsWord 18 = .ok (.aload_n 0, 1) := by decide +kernel
theorem dX12_standsWord_19 : decode cX12_standsWord 19 = .ok (.getfield 361, 3) := by decide +kernel
theorem dX12_standsWord_22 : decode cX12_standsWord 22 = .ok (.ifCond .ne 7, 3) := by decide +kernel
theorem dX12_standsWord_25 : decode cX12_standsWord 25 = .ok (.iconst 1, 1) := by decide +kernel
theorem dX12_standsWord_26 : decode cX12_standsWord 26 = .ok (.goto 4, 3) := by decide +kernel
theorem dX12_standsWord_29 : decode cX12_standsWord 29 = .ok (.iconst 0, 1) := by decide +kernel
theorem dX12_standsWord_30 : decode cX12_standsWord 30 = .ok (.istore_n 3, 1) := by decide +kernel
theorem dX12_standsWord_31 : decode cX12_standsWord 31 = .ok (.aload_n 0, 1) := by decide +kernel
theorem dX12_standsWord_32 : decode cX12_standsWord 32 = .ok (.iconst 1, 1) := by decide +kernel
theorem dX12_standsWord_33 : decode cX12_standsWord 33 = .ok (.putfield 361, 3) := by decide +kernel
theorem dX12_standsWord_36 : decode cX12_standsWord 36 = .ok (.iload_n 3, 1) := by decide +kernel
theorem dX12_standsWord_37 : decode cX12_standsWord 37 = .ok (.ireturn, 1) := by decide +kernel
theorem dX12_standsWord_38 : decode cX12_standsWord 38 = .ok (.aload_n 0, 1) := by decide +kernel
theorem dX12_standsWord_39 : decode cX12_standsWord 39 = .ok (.iload_n 1, 1) := by decide +kernel
theorem dX12_standsWord_40 : decode cX12_standsWord 40 = .ok (.iload_n 2, 1) := by decide +kernel
theorem dX12_standsWord_41 : decode cX12_standsWord 41 = .ok (.invokevirtual 364, 3) := by decide +kernel
theorem dX12_standsWord_44 : decode cX12_standsWord 44 = .ok (.ifCond .eq 31, 3) := by decide +kernel
theorem dX12_standsWord_47 : decode cX12_standsWord 47 = .ok (.aload_n 0, 1) := by decide +kernel
theorem dX12_standsWord_48 : decode cX12_standsWord 48 = .ok (.aload_n 0, 1) := by decide +kernel
theorem dX12_standsWord_49 : decode cX12_standsWord 49 = .ok (.getfield 367, 3) := by decide +kernel
theorem dX12_standsWord_52 : decode cX12_standsWord 52 = .ok (.ifCond .ne 14, 3) := by decide +kernel
theorem dX12_standsWord_55 : decode cX12_standsWord 55 = .ok (.aload_n 0, 1) := by decide +kernel
theorem dX12_standsWord_56 : decode cX12_standsWord 56 = .ok (.getfield 361, 3) := by decide +kernel
theorem dX12_standsWord_59 : decode cX12_standsWord 59 = .ok (.ifCond .ne 7, 3) := by decide +kernel
theorem dX12_standsWord_62 : decode cX12_standsWord 62 = .ok (.iconst 1, 1) := by decide +kernel
theorem dX12_standsWord_63 : decode cX12_standsWord 63 = .ok (.goto 4, 3) := by decide +kernel
theorem dX12_standsWord_66 : decode cX12_standsWord 66 = .ok (.iconst 0, 1) := by decide +kernel
theorem dX12_standsWord_67 : decode cX12_standsWord 67 = .ok (.putfield 354, 3) := by decide +kernel
theorem dX12_standsWord_70 : decode cX12_standsWord 70 = .ok (.aload_n 0, 1) := by decide +kernel
theorem dX12_standsWord_71 : decode cX12_standsWord 71 = .ok (.getfield 354, 3) := by decide +kernel
theorem dX12_standsWord_74 : decode cX12_standsWord 74 = .ok (.ireturn, 1) := by decide +kernel
theorem dX12_standsWord_75 : decode cX12_standsWord 75 = .ok (.bipush 67, 2) := by decide +kernel
theorem dX12_standsWord_77 : decode cX12_standsWord 77 = .ok (.aload_n 0, 1) := by decide +kernel
theorem dX12_standsWord_78 : decode cX12_standsWord 78 = .ok (.getfield 57, 3) := by decide +kernel
theorem dX12_standsWord_81 : decode cX12_standsWord 81 = .ok (.bipush 67, 2) := by decide +kernel
theorem dX12_standsWord_83 : decode cX12_standsWord 83 = .ok (.aload_n 0, 1) := by decide +kernel
theorem dX12_standsWord_84 : decode cX12_standsWord 84 = .ok (.getfield 367, 3) := by decide +kernel
theorem dX12_standsWord_87 : decode cX12_standsWord 87 = .ok (.imul, 1) := by decide +kernel
theorem dX12_standsWord_88 : decode cX12_standsWord 88 = .ok (.aload_n 0, 1) := by decide +kernel
theorem dX12_standsWord_89 : decode cX12_standsWord 89 = .ok (.getfield 16, 3) := by decide +kernel
theorem dX12_standsWord_92 : decode cX12_standsWord 92 = .ok (.iconst 0, 1) := by decide +kernel
theorem dX12_standsWord_93 : decode cX12_standsWord 93 = .ok (.invokestatic 130, 3) := by decide +kernel
theorem dX12_standsWord_96 : decode cX12_standsWord 96 = .ok (.aload_n 0, 1) := by decide +kernel
theorem dX12_standsWord_97 : decode cX12_standsWord 97 = .ok (.getfield 367, 3) := by decide +kernel
theorem dX12_standsWord_100 : decode cX12_standsWord 100 = .ok (.ifCond .ne 23, 3) := by decide +kernel
theorem dX12_standsWord_103 : decode cX12_standsWord 103 = .ok (.aload_n 0, 1) := by decide +kernel
theorem dX12_standsWord_104 : decode cX12_standsWord 104 = .ok (.getfield 121, 3) := by decide +kernel
theorem dX12_standsWord_107 : decode cX12_standsWord 107 = .ok (.aload_n 0, 1) := by decide +kernel
theorem dX12_standsWord_108 : decode cX12_standsWord 108 = .ok (.getfield 63, 3) := by decide +kernel
theorem dX12_standsWord_111 : decode cX12_standsWord 111 = .ok (.iconst 0, 1) := by decide +kernel
theorem dX12_standsWord_112 : decode cX12_standsWord 112 = .ok (.iaload, 1) := by decide +kernel
theorem dX12_standsWord_113 : decode cX12_standsWord 113 = .ok (.iadd, 1) := by decide +kernel
theorem dX12_standsWord_114 : decode cX12_standsWord 114 = .ok (.bipush 80, 2) := by decide +kernel
theorem dX12_standsWord_116 : decode cX12_standsWord 116 = .ok (.if_icmp .lt 7, 3) := by decide +kernel
theorem dX12_standsWord_119 : decode cX12_standsWord 119 = .ok (.iconst (-1), 1) := by decide +kernel
theorem dX12_standsWord_120 : decode cX12_standsWord 120 = .ok (.goto 9, 3) := by decide +kernel
theorem dX12_standsWord_123 : decode cX12_standsWord 123 = .ok (.aload_n 0, 1) := by decide +kernel
theorem dX12_standsWord_124 : decode cX12_standsWord 124 = .ok (.iload_n 1, 1) := by decide +kernel
theorem dX12_standsWord_125 : decode cX12_standsWord 125 = .ok (.iload_n 2, 1) := by decide +kernel
theorem dX12_standsWord_126 : decode cX12_standsWord 126 = .ok (.invokevirtual 370, 3) := by decide +kernel
theorem dX12_standsWord_129 : decode cX12_standsWord 129 = .ok (.istore_n 3, 1) := by decide +kernel
theorem dX12_standsWord_130 : decode cX12_standsWord 130 = .ok (.iload_n 3, 1) := by decide +kernel
theorem dX12_standsWord_131 : decode cX12_standsWord 131 = .ok (.iconst (-1), 1) := by decide +kernel
theorem dX12_standsWord_132 : decode cX12_standsWord 132 = .ok (.if_icmp .ne 5, 3) := by decide +kernel
theorem dX12_standsWord_135 : decode cX12_standsWord 135 = .ok (.iconst 0, 1) := by decide +kernel
theorem dX12_standsWord_136 : decode cX12_standsWord 136 = .ok (.ireturn, 1) := by decide +kernel
theorem dX12_standsWord_137 : decode cX12_standsWord 137 = .ok (.aload_n 0, 1) := by decide +kernel
theorem dX12_standsWord_138 : decode cX12_standsWord 138 = .ok (.getfield 367, 3) := by decide +kernel
theorem dX12_standsWord_141 : decode cX12_standsWord 141 = .ok (.ifCond .ne 18, 3) := by decide +kernel
theorem dX12_standsWord_144 : decode cX12_standsWord 144 = .ok (.aload_n 0, 1) := by decide +kernel
theorem dX12_standsWord_145 : decode cX12_standsWord 145 = .ok (.getfield 66, 3) := by decide +kernel
theorem dX12_standsWord_148 : decode cX12_standsWord 148 = .ok (.aload_n 0, 1) := by decide +kernel
theorem dX12_standsWord_149 : decode cX12_standsWord 149 = .ok (.getfield 63, 3) := by decide +kernel
theorem dX12_standsWord_152 : decode cX12_standsWord 152 = .ok (.iconst 0, 1) := by decide +kernel
theorem dX12_standsWord_153 : decode cX12_standsWord 153 = .ok (.iaload, 1) := by decide +kernel
theorem dX12_standsWord_154 : decode cX12_standsWord 154 = .ok (.iload_n 3, 1) := by decide +kernel
theorem dX12_standsWord_155 : decode cX12_standsWord 155 = .ok (.iastore, 1) := by decide +kernel
theorem dX12_standsWord_156 : decode cX12_standsWord 156 = .ok (.goto 13, 3) := by decide +kernel
theorem dX12_standsWord_159 : decode cX12_standsWord 159 = .ok (.aload_n 0, 1) := by decide +kernel
theorem dX12_standsWord_160 : decode cX12_standsWord 160 = .ok (.dup, 1) := by decide +kernel
theorem dX12_standsWord_161 : decode cX12_standsWord 161 = .ok (.getfield 373, 3) := by decide +kernel
theorem dX12_standsWord_164 : decode cX12_standsWord 164 = .ok (.iconst 1, 1) := by decide +kernel
theorem dX12_standsWord_165 : decode cX12_standsWord 165 = .ok (.iadd, 1) := by decide +kernel
theorem dX12_standsWord_166 : decode cX12_standsWord 166 = .ok (.putfield 373, 3) := by decide +kernel
theorem dX12_standsWord_169 : decode cX12_standsWord 169 = .ok (.bipush 67, 2) := by decide +kernel
theorem dX12_standsWord_171 : decode cX12_standsWord 171 = .ok (.aload_n 0, 1) := by decide +kernel
theorem dX12_standsWord_172 : decode cX12_standsWord 172 = .ok (.getfield 16, 3) := by decide +kernel
theorem dX12_standsWord_175 : decode cX12_standsWord 175 = .ok (.iconst 0, 1) := by decide +kernel
theorem dX12_standsWord_176 : decode cX12_standsWord 176 = .ok (.aload_n 0, 1) := by decide +kernel
theorem dX12_standsWord_177 : decode cX12_standsWord 177 = .ok (.getfield 60, 3) := by decide +kernel
theorem dX12_standsWord_180 : decode cX12_standsWord 180 = .ok (.bipush 67, 2) := by decide +kernel
theorem dX12_standsWord_182 : decode cX12_standsWord 182 = .ok (.aload_n 0, 1) := by decide +kernel
theorem dX12_standsWord_183 : decode cX12_standsWord 183 = .ok (.getfield 367, 3) := by decide +kernel
theorem dX12_standsWord_186 : decode cX12_standsWord 186 = .ok (.imul, 1) := by decide +kernel
theorem dX12_standsWord_187 : decode cX12_standsWord 187 = .ok (.invokestatic 130, 3) := by decide +kernel
theorem dX12_standsWord_190 : decode cX12_standsWord 190 = .ok (.aload_n 0, 1) := by decide +kernel
theorem dX12_standsWord_191 : decode cX12_standsWord 191 = .ok (.iconst 0, 1) := by decide +kernel
theorem dX12_standsWord_192 : decode cX12_standsWord 192 = .ok (.iload_n 3, 1) := by decide +kernel
theorem dX12_standsWord_193 : decode cX12_standsWord 193 = .ok (.invokevirtual 306, 3) := by decide +kernel
theorem dX12_standsWord_196 : decode cX12_standsWord 196 = .ok (.bipush 67, 2) := by decide +kernel
theorem dX12_standsWord_198 : decode cX12_standsWord 198 = .ok (.aload_n 0, 1) := by decide +kernel
theorem dX12_standsWord_199 : decode cX12_standsWord 199 = .ok (.getfield 16, 3) := by decide +kernel
theorem dX12_standsWord_202 : decode cX12_standsWord 202 = .ok (.bipush 67, 2) := by decide +kernel
theorem dX12_standsWord_204 : decode cX12_standsWord 204 = .ok (.aload_n 0, 1) := by decide +kernel
theorem dX12_standsWord_205 : decode cX12_standsWord 205 = .ok (.getfield 57, 3) := by decide +kernel
theorem dX12_standsWord_208 : decode cX12_standsWord 208 = .ok (.bipush 67, 2) := by decide +kernel
theorem dX12_standsWord_210 : decode cX12_standsWord 210 = .ok (.aload_n 0, 1) := by decide +kernel
theorem dX12_standsWord_211 : decode cX12_standsWord 211 = .ok (.getfield 367, 3) := by decide +kernel
theorem dX12_standsWord_214 : decode cX12_standsWord 214 = .ok (.imul, 1) := by decide +kernel
theorem dX12_standsWord_215 : decode cX12_standsWord 215 = .ok (.invokestatic 130, 3) := by decide +kernel
theorem dX12_standsWord_218 : decode cX12_standsWord 218 = .ok (.aload_n 0, 1) := by decide +kernel
theorem dX12_standsWord_219 : decode cX12_standsWord 219 = .ok (.getfield 63, 3) := by decide +kernel
theorem dX12_standsWord_222 : decode cX12_standsWord 222 = .ok (.aload_n 0, 1) := by decide +kernel
theorem dX12_standsWord_223 : decode cX12_standsWord 223 = .ok (.getfield 367, 3) := by decide +kernel
theorem dX12_standsWord_226 : decode cX12_standsWord 226 = .ok (.dup2, 1) := by decide +kernel
theorem dX12_standsWord_227 : decode cX12_standsWord 227 = .ok (.iaload, 1) := by decide +kernel
theorem dX12_standsWord_228 : decode cX12_standsWord 228 = .ok (.iconst 1, 1) := by decide +kernel
theorem dX12_standsWord_229 : decode cX12_standsWord 229 = .ok (.iadd, 1) := by decide +kernel
theorem dX12_standsWord_230 : decode cX12_standsWord 230 = .ok (.iastore, 1) := by decide +kernel
theorem dX12_standsWord_231 : decode cX12_standsWord 231 = .ok (.aload_n 0, 1) := by decide +kernel
theorem dX12_standsWord_232 : decode cX12_standsWord 232 = .ok (.iconst 0, 1) := by decide +kernel
theorem dX12_standsWord_233 : decode cX12_standsWord 233 = .ok (.putfield 361, 3) := by decide +kernel
theorem dX12_standsWord_236 : decode cX12_standsWord 236 = .ok (.iconst 1, 1) := by decide +kernel
theorem dX12_standsWord_237 : decode cX12_standsWord 237 = .ok (.ireturn, 1) := by decide +kernel
theorem dX12_standsNext_0 : decode cX12_standsNext 0 = .ok (.aload_n 0, 1) := by decide +kernel
theorem dX12_standsNext_1 : decode cX12_standsNext 1 = .ok (.getfield 262, 3) := by decide +kernel
theorem dX12_standsNext_4 : decode cX12_standsNext 4 = .ok (.istore_n 1, 1) := by decide +kernel
theorem dX12_standsNext_5 : decode cX12_standsNext 5 = .ok (.aload_n 0, 1) := by decide +kernel
theorem dX12_standsNext_6 : decode cX12_standsNext 6 = .ok (.getfield 42, 3) := by decide +kernel
theorem dX12_standsNext_9 : decode cX12_standsNext 9 = .ok (.aload_n 0, 1) := by decide +kernel
theorem dX12_standsNext_10 : decode cX12_standsNext 10 = .ok (.getfield 262, 3) := by decide +kernel
theorem dX12_standsNext_13 : decode cX12_standsNext 13 = .ok (.iaload, 1) := by decide +kernel
theorem dX12_standsNext_14 : decode cX12_standsNext 14 = .ok (.istore_n 2, 1) := by decide +kernel
theorem dX12_standsNext_15 : decode cX12_standsNext 15 = .ok (.aload_n 0, 1) := by decide +kernel
theorem dX12_standsNext_16 : decode cX12_standsNext 16 = .ok (.dup, 1) := by decide +kernel
theorem dX12_standsNext_17 : decode cX12_standsNext 17 = .ok (.getfield 262, 3) := by decide +kernel
theorem dX12_standsNext_20 : decode cX12_standsNext 20 = .ok (.iconst 1, 1) := by decide +kernel
theorem dX12_standsNext_21 : decode cX12_standsNext 21 = .ok (.iadd, 1) := by decide +kernel
theorem dX12_standsNext_22 : decode cX12_standsNext 22 = .ok (.putfield 262, 3) := by decide +kernel
theorem dX12_standsNext_25 : decode cX12_standsNext 25 = .ok (.iload_n 2, 1) := by decide +kernel
theorem dX12_standsNext_26 : decode cX12_standsNext 26 = .ok (.invokestatic 382, 3) := by decide +kernel
theorem dX12_standsNext_29 : decode cX12_standsNext 29 = .ok (.ifCond .ne 56, 3) := by decide +kernel
theorem dX12_standsNext_32 : decode cX12_standsNext 32 = .ok (.aload_n 0, 1) := by decide +kernel
theorem dX12_standsNext_33 : decode cX12_standsNext 33 = .ok (.getfield 262, 3) := by decide +kernel
theorem dX12_standsNext_36 : decode cX12_standsNext 36 = .ok (.aload_n 0, 1) := by decide +kernel
theorem dX12_standsNext_37 : decode cX12_standsNext 37 = .ok (.getfield 259, 3) := by decide +kernel
theorem dX12_standsNext_40 : decode cX12_standsNext 40 = .ok (.if_icmp .ge 45, 3) := by decide +kernel
theorem dX12_standsNext_43 : decode cX12_standsNext 43 = .ok (.aload_n 0, 1) := by decide +kernel
theorem dX12_standsNext_44 : decode cX12_standsNext 44 = .ok (.getfield 42, 3) := by decide +kernel
theorem dX12_standsNext_47 : decode cX12_standsNext 47 = .ok (.aload_n 0, 1) := by decide +kernel
theorem dX12_standsNext_48 : decode cX12_standsNext 48 = .ok (.getfield 262, 3) := by decide +kernel
theorem dX12_standsNext_51 : decode cX12_standsNext 51 = .ok (.iaload, 1) := by decide +kernel
theorem dX12_standsNext_52 : decode cX12_standsNext 52 = .ok (.bipush 32, 2) := by decide +kernel
theorem dX12_standsNext_54 : decode cX12_standsNext 54 = .ok (.if_icmp .eq 31, 3) := by decide +kernel
theorem dX12_standsNext_57 : decode cX12_standsNext 57 = .ok (.aload_n 0, 1) := by decide +kernel
theorem dX12_standsNext_58 : decode cX12_standsNext 58 = .ok (.getfield 42, 3) := by decide +kernel
theorem dX12_standsNext_61 : decode cX12_standsNext 61 = .ok (.aload_n 0, 1) := by decide +kernel
theorem dX12_standsNext_62 : decode cX12_standsNext 62 = .ok (.getfield 262, 3) := by decide +kernel
theorem dX12_standsNext_65 : decode cX12_standsNext 65 = .ok (.iaload, 1) := by decide +kernel
theorem dX12_standsNext_66 : decode cX12_standsNext 66 = .ok (.invokestatic 382, 3) := by decide +kernel
theorem dX12_standsNext_69 : decode cX12_standsNext 69 = .ok (.ifCond .ne 16, 3) := by decide +kernel
theorem dX12_standsNext_72 : decode cX12_standsNext 72 = .ok (.aload_n 0, 1) := by decide +kernel
theorem dX12_standsNext_73 : decode cX12_standsNext 73 = .ok (.dup, 1) := by decide +kernel
theorem dX12_standsNext_74 : decode cX12_standsNext 74 = .ok (.getfield 262, 3) := by decide +kernel
theorem dX12_standsNext_77 : decode cX12_standsNext 77 = .ok (.iconst 1, 1) := by decide +kernel
theorem dX12_standsNext_78 : decode cX12_standsNext 78 = .ok (.iadd, 1) := by decide +kernel
theorem dX12_standsNext_79 : decode cX12_standsNext 79 = .ok (.putfield 262, 3) := by decide +kernel
theorem dX12_standsNext_82 : decode cX12_standsNext 82 = .ok (.goto (-57), 3) := by decide +kernel
theorem dX12_standsNext_85 : decode cX12_standsNext 85 = .ok (.iload_n 2, 1) := by decide +kernel
theorem dX12_standsNext_86 : decode cX12_standsNext 86 = .ok (.invokestatic 382, 3) := by decide +kernel
theorem dX12_standsNext_89 : decode cX12_standsNext 89 = .ok (.ifCond .eq 14, 3) := by decide +kernel
theorem dX12_standsNext_92 : decode cX12_standsNext 92 = .ok (.aload_n 0, 1) := by decide +kernel
theorem dX12_standsNext_93 : decode cX12_standsNext 93 = .ok (.iload_n 2, 1) := by decide +kernel
theorem dX12_standsNext_94 : decode cX12_standsNext 94 = .ok (.invokevirtual 385, 3) := by decide +kernel
theorem dX12_standsNext_97 : decode cX12_standsNext 97 = .ok (.ifCond .ne 25, 3) := by decide +kernel
theorem dX12_standsNext_100 : decode cX12_standsNext 100 = .ok (.goto 15, 3) := by decide +kernel
theorem dX12_standsNext_103 : decode cX12_standsNext 103 = .ok (.aload_n 0, 1) := by decide +kernel
theorem dX12_standsNext_104 : decode cX12_standsNext 104 = .ok (.iload_n 1, 1) := by decide +kernel
theorem dX12_standsNext_105 : decode cX12_standsNext 105 = .ok (.aload_n 0, 1) := by decide +kernel
theorem dX12_standsNext_106 : decode cX12_standsNext 106 = .ok (.getfield 262, 3) := by decide +kernel
theorem dX12_standsNext_109 : decode cX12_standsNext 109 = .ok (.invokevirtual 388, 3) := by decide +kernel
theorem dX12_standsNext_112 : decode cX12_standsNext 112 = .ok (.ifCond .ne 10, 3) := by decide +kernel
theorem dX12_standsNext_115 : decode cX12_standsNext 115 = .ok (.aload_n 0, 1) := by decide +kernel
theorem dX12_standsNext_116 : decode cX12_standsNext 116 = .ok (.iload_n 1, 1) := by decide +kernel
theorem dX12_standsNext_117 : decode cX12_standsNext 117 = .ok (.putfield 376, 3) := by decide +kernel
theorem dX12_standsNext_120 : decode cX12_standsNext 120 = .ok (.iconst 0, 1) := by decide +kernel
theorem dX12_standsNext_121 : decode cX12_standsNext 121 = .ok (.ireturn, 1) := by decide +kernel
theorem dX12_standsNext_122 : decode cX12_standsNext 122 = .ok (.iload_n 2, 1) := by decide +kernel
theorem dX12_standsNext_123 : decode cX12_standsNext 123 = .ok (.bipush 123, 2) := by decide +kernel
theorem dX12_standsNext_125 : decode cX12_standsNext 125 = .ok (.if_icmp .eq 5, 3) := by decide +kernel
theorem dX12_standsNext_128 : decode cX12_standsNext 128 = .ok (.iconst 1, 1) := by decide +kernel
theorem dX12_standsNext_129 : decode cX12_standsNext 129 = .ok (.ireturn, 1) := by decide +kernel
theorem dX12_standsNext_130 : decode cX12_standsNext 130 = .ok (.aload_n 0, 1) := by decide +kernel
theorem dX12_standsNext_131 : decode cX12_standsNext 131 = .ok (.getfield 262, 3) := by decide +kernel
theorem dX12_standsNext_134 : decode cX12_standsNext 134 = .ok (.aload_n 0, 1) := by decide +kernel
theorem dX12_standsNext_135 : decode cX12_standsNext 135 = .ok (.getfield 259, 3) := by decide +kernel
theorem dX12_standsNext_138 : decode cX12_standsNext 138 = .ok (.if_icmp .ge 30, 3) := by decide +kernel
theorem dX12_standsNext_141 : decode cX12_standsNext 141 = .ok (.aload_n 0, 1) := by decide +kernel
theorem dX12_standsNext_142 : decode cX12_standsNext 142 = .ok (.getfield 42, 3) := by decide +kernel
theorem dX12_standsNext_145 : decode cX12_standsNext 145 = .ok (.aload_n 0, 1) := by decide +kernel
theorem dX12_standsNext_146 : decode cX12_standsNext 146 = .ok (.getfield 262, 3) := by decide +kernel
theorem dX12_standsNext_149 : decode cX12_standsNext 149 = .ok (.iaload, 1) := by decide +kernel
theorem dX12_standsNext_150 : decode cX12_standsNext 150 = .ok (.bipush 125, 2) := by decide +kernel
theorem dX12_standsNext_152 : decode cX12_standsNext 152 = .ok (.if_icmp .eq 16, 3) := by decide +kernel
theorem dX12_standsNext_155 : decode cX12_standsNext 155 = .ok (.aload_n 0, 1) := by decide +kernel
theorem dX12_standsNext_156 : decode cX12_standsNext 156 = .ok (.dup, 1) := by decide +kernel
theorem dX12_standsNext_157 : decode cX12_standsNext 157 = .ok (.getfield 262, 3) := by decide +kernel
theorem dX12_standsNext_160 : decode cX12_standsNext 160 = .ok (.iconst 1, 1) := by decide +kernel
theorem dX12_standsNext_161 : decode cX12_standsNext 161 = .ok (.iadd, 1) := by decide +kernel
theorem dX12_standsNext_162 : decode cX12_standsNext 162 = .ok (.putfield 262, 3) := by decide +kernel
theorem dX12_standsNext_165 : decode cX12_standsNext 165 = .ok (.goto (-35), 3) := by decide +kernel
theorem dX12_standsNext_168 : decode cX12_standsNext 168 = .ok (.aload_n 0, 1) := by decide +kernel
theorem dX12_standsNext_169 : decode cX12_standsNext 169 = .ok (.getfield 262, 3) := by decide +kernel
theorem dX12_standsNext_172 : decode cX12_standsNext 172 = .ok (.aload_n 0, 1) := by decide +kernel
theorem dX12_standsNext_173 : decode cX12_standsNext 173 = .ok (.getfield 259, 3) := by decide +kernel
theorem dX12_standsNext_176 : decode cX12_standsNext 176 = .ok (.if_icmp .ne 13, 3) := by decide +kernel
theorem dX12_standsNext_179 : decode cX12_standsNext 179 = .ok (.aload_n 0, 1) := by decide +kernel
theorem dX12_standsNext_180 : decode cX12_standsNext 180 = .ok (.aload_n 0, 1) := by decide +kernel
theorem dX12_standsNext_181 : decode cX12_standsNext 181 = .ok (.getfield 259, 3) := by decide +kernel
theorem dX12_standsNext_184 : decode cX12_standsNext 184 = .ok (.putfield 376, 3) := by decide +kernel
theorem dX12_standsNext_187 : decode cX12_standsNext 187 = .ok (.iconst 0, 1) := by decide +kernel
theorem dX12_standsNext_188 : decode cX12_standsNext 188 = .ok (.ireturn, 1) := by decide +kernel
theorem dX12_standsNext_189 : decode cX12_standsNext 189 = .ok (.aload_n 0, 1) := by decide +kernel
theorem dX12_standsNext_190 : decode cX12_standsNext 190 = .ok (.dup, 1) := by decide +kernel
theorem dX12_standsNext_191 : decode cX12_standsNext 191 = .ok (.getfield 262, 3) := by decide +kernel
theorem dX12_standsNext_194 : decode cX12_standsNext 194 = .ok (.iconst 1, 1) := by decide +kernel
theorem dX12_standsNext_195 : decode cX12_standsNext 195 = .ok (.iadd, 1) := by decide +kernel
theorem dX12_standsNext_196 : decode cX12_standsNext 196 = .ok (.putfield 262, 3) := by decide +kernel
theorem dX12_standsNext_199 : decode cX12_standsNext 199 = .ok (.iconst 1, 1) := by decide +kernel
theorem dX12_standsNext_200 : decode cX12_standsNext 200 = .ok (.ireturn, 1) := by decide +kernel
theorem dX12_textAt_0 : decode cX12_textAt 0 = .ok (.iload_n 1, 1) := by decide +kernel
theorem dX12_textAt_1 : decode cX12_textAt 1 = .ok (.aload_n 0, 1) := by decide +kernel
theorem dX12_textAt_2 : decode cX12_textAt 2 = .ok (.getfield 259, 3) := by decide +kernel
theorem dX12_textAt_5 : decode cX12_textAt 5 = .ok (.if_icmp .ge 12, 3) := by decide +kernel
theorem dX12_textAt_8 : decode cX12_textAt 8 = .ok (.aload_n 0, 1) := by decide +kernel
theorem dX12_textAt_9 : decode cX12_textAt 9 = .ok (.getfield 42, 3) := by decide +kernel
theorem dX12_textAt_12 : decode cX12_textAt 12 = .ok (.iload_n 1, 1) := by decide +kernel
theorem dX12_textAt_13 : decode cX12_textAt 13 = .ok (.iaload, 1) := by decide +kernel
theorem dX12_textAt_14 : decode cX12_textAt 14 = .ok (.goto 4, 3) := by decide +kernel
theorem dX12_textAt_17 : decode cX12_textAt 17 = .ok (.iconst 0, 1) := by decide +kernel
theorem dX12_textAt_18 : decode cX12_textAt 18 = .ok (.ireturn, 1) := by decide +kernel
theorem dX12_reads_0 : decode cX12_reads 0 = .ok (.aload_n 0, 1) := by decide +kernel
theorem dX12_reads_1 : decode cX12_reads 1 = .ok (.iconst 0, 1) := by decide +kernel
theorem dX12_reads_2 : decode cX12_reads 2 = .ok (.putfield 367, 3) := by decide +kernel
theorem dX12_reads_5 : decode cX12_reads 5 = .ok (.aload_n 0, 1) := by decide +kernel
theorem dX12_reads_6 : decode cX12_reads 6 = .ok (.getfield 63, 3) := by decide +kernel
theorem dX12_reads_9 : decode cX12_reads 9 = .ok (.iconst 0, 1) := by decide +kernel
theorem dX12_reads_10 : decode cX12_reads 10 = .ok (.iconst 0, 1) := by decide +kernel
theorem dX12_reads_11 : decode cX12_reads 11 = .ok (.iastore, 1) := by decide +kernel
theorem dX12_reads_12 : decode cX12_reads 12 = .ok (.aload_n 0, 1) := by decide +kernel
theorem dX12_reads_13 : decode cX12_reads 13 = .ok (.iconst 0, 1) := by decide +kernel
theorem dX12_reads_14 : decode cX12_reads 14 = .ok (.putfield 373, 3) := by decide +kernel
theorem dX12_reads_17 : decode cX12_reads 17 = .ok (.aload_n 0, 1) := by decide +kernel
theorem dX12_reads_18 : decode cX12_reads 18 = .ok (.iconst 0, 1) := by decide +kernel
theorem dX12_reads_19 : decode cX12_reads 19 = .ok (.putfield 361, 3) := by decide +kernel
theorem dX12_reads_22 : decode cX12_reads 22 = .ok (.aload_n 0, 1) := by decide +kernel
theorem dX12_reads_23 : decode cX12_reads 23 = .ok (.iconst 0, 1) := by decide +kernel
theorem dX12_reads_24 : decode cX12_reads 24 = .ok (.putfield 354, 3) := by decide +kernel
theorem dX12_reads_27 : decode cX12_reads 27 = .ok (.aload_n 0, 1) := by decide +kernel
theorem dX12_reads_28 : decode cX12_reads 28 = .ok (.iconst (-1), 1) := by decide +kernel
theorem dX12_reads_29 : decode cX12_reads 29 = .ok (.putfield 376, 3) := by decide +kernel
theorem dX12_reads_32 : decode cX12_reads 32 = .ok (.aload_n 0, 1) := by decide +kernel
theorem dX12_reads_33 : decode cX12_reads 33 = .ok (.iconst 0, 1) := by decide +kernel
theorem dX12_reads_34 : decode cX12_reads 34 = .ok (.putfield 262, 3) := by decide +kernel
theorem dX12_reads_37 : decode cX12_reads 37 = .ok (.bipush 67, 2) := by decide +kernel
theorem dX12_reads_39 : decode cX12_reads 39 = .ok (.aload_n 0, 1) := by decide +kernel
theorem dX12_reads_40 : decode cX12_reads 40 = .ok (.getfield 16, 3) := by decide +kernel
theorem dX12_reads_43 : decode cX12_reads 43 = .ok (.iconst 0, 1) := by decide +kernel
theorem dX12_reads_44 : decode cX12_reads 44 = .ok (.aload_n 0, 1) := by decide +kernel
theorem dX12_reads_45 : decode cX12_reads 45 = .ok (.getfield 57, 3) := by decide +kernel
theorem dX12_reads_48 : decode cX12_reads 48 = .ok (.iconst 0, 1) := by decide +kernel
theorem dX12_reads_49 : decode cX12_reads 49 = .ok (.invokestatic 130, 3) := by decide +kernel
theorem dX12_reads_52 : decode cX12_reads 52 = .ok (.iconst 1, 1) := by decide +kernel
theorem dX12_reads_53 : decode cX12_reads 53 = .ok (.istore_n 1, 1) := by decide +kernel
theorem dX12_reads_54 : decode cX12_reads 54 = .ok (.iload_n 1, 1) := by decide +kernel
theorem dX12_reads_55 : decode cX12_reads 55 = .ok (.ifCond .eq 56, 3) := by decide +kernel
theorem dX12_reads_58 : decode cX12_reads 58 = .ok (.aload_n 0, 1) := by decide +kernel
theorem dX12_reads_59 : decode cX12_reads 59 = .ok (.aload_n 0, 1) := by decide +kernel
theorem dX12_reads_60 : decode cX12_reads 60 = .ok (.getfield 262, 3) := by decide +kernel
theorem dX12_reads_63 : decode cX12_reads 63 = .ok (.invokevirtual 265, 3) := by decide +kernel
theorem dX12_reads_66 : decode cX12_reads 66 = .ok (.bipush 32, 2) := by decide +kernel
theorem dX12_reads_68 : decode cX12_reads 68 = .ok (.if_icmp .ne 16, 3) := by decide +kernel
theorem dX12_reads_71 : decode cX12_reads 71 = .ok (.aload_n 0, 1) := by decide +kernel
theorem dX12_reads_72 : decode cX12_reads 72 = .ok (.dup, 1) := by decide +kernel
theorem dX12_reads_73 : decode cX12_reads 73 = .ok (.getfield 262, 3) := by decide +kernel
theorem dX12_reads_76 : decode cX12_reads 76 = .ok (.iconst 1, 1) := by decide +kernel
theorem dX12_reads_77 : decode cX12_reads 77 = .ok (.iadd, 1) := by decide +kernel
theorem dX12_reads_78 : decode cX12_reads 78 = .ok (.putfield 262, 3) := by decide +kernel
theorem dX12_reads_81 : decode cX12_reads 81 = .ok (.goto (-23), 3) := by decide +kernel
theorem dX12_reads_84 : decode cX12_reads 84 = .ok (.aload_n 0, 1) := by decide +kernel
theorem dX12_reads_85 : decode cX12_reads 85 = .ok (.getfield 262, 3) := by decide +kernel
theorem dX12_reads_88 : decode cX12_reads 88 = .ok (.aload_n 0, 1) := by decide +kernel
theorem dX12_reads_89 : decode cX12_reads 89 = .ok (.getfield 259, 3) := by decide +kernel
theorem dX12_reads_92 : decode cX12_reads 92 = .ok (.if_icmp .ge 14, 3) := by decide +kernel
theorem dX12_reads_95 : decode cX12_reads 95 = .ok (.aload_n 0, 1) := by decide +kernel
theorem dX12_reads_96 : decode cX12_reads 96 = .ok (.invokevirtual 379, 3) := by decide +kernel
theorem dX12_reads_99 : decode cX12_reads 99 = .ok (.ifCond .eq 7, 3) := by decide +kernel
theorem dX12_reads_102 : decode cX12_reads 102 = .ok (.iconst 1, 1) := by decide +kernel
theorem dX12_reads_103 : decode cX12_reads 103 = .ok (.goto 4, 3) := by decide +kernel
theorem dX12_reads_106 : decode cX12_reads 106 = .ok (.iconst 0, 1) := by decide +kernel
theorem dX12_reads_107 : decode cX12_reads 107 = .ok (.istore_n 1, 1) := by decide +kernel
theorem dX12_reads_108 : decode cX12_reads 108 = .ok (.goto (-54), 3) := by decide +kernel
theorem dX12_reads_111 : decode cX12_reads 111 = .ok (.aload_n 0, 1) := by decide +kernel
theorem dX12_reads_112 : decode cX12_reads 112 = .ok (.getfield 376, 3) := by decide +kernel
theorem dX12_reads_115 : decode cX12_reads 115 = .ok (.iconst (-1), 1) := by decide +kernel
theorem dX12_reads_116 : decode cX12_reads 116 = .ok (.if_icmp .ne 15, 3) := by decide +kernel
theorem dX12_reads_119 : decode cX12_reads 119 = .ok (.aload_n 0, 1) := by decide +kernel
theorem dX12_reads_120 : decode cX12_reads 120 = .ok (.getfield 262, 3) := by decide +kernel
theorem dX12_reads_123 : decode cX12_reads 123 = .ok (.aload_n 0, 1) := by decide +kernel
theorem dX12_reads_124 : decode cX12_reads 124 = .ok (.getfield 259, 3) := by decide +kernel
theorem dX12_reads_127 : decode cX12_reads 127 = .ok (.if_icmp .ge 4, 3) := by decide +kernel
theorem dX12_reads_130 : decode cX12_reads 130 = .ok (.return_, 1) := by decide +kernel
theorem dX12_reads_131 : decode cX12_reads 131 = .ok (.aload_n 0, 1) := by decide +kernel
theorem dX12_reads_132 : decode cX12_reads 132 = .ok (.getfield 376, 3) := by decide +kernel
theorem dX12_reads_135 : decode cX12_reads 135 = .ok (.iconst (-1), 1) := by decide +kernel
theorem dX12_reads_136 : decode cX12_reads 136 = .ok (.if_icmp .ne 25, 3) := by decide +kernel
theorem dX12_reads_139 : decode cX12_reads 139 = .ok (.aload_n 0, 1) := by decide +kernel
theorem dX12_reads_140 : decode cX12_reads 140 = .ok (.getfield 367, 3) := by decide +kernel
theorem dX12_reads_143 : decode cX12_reads 143 = .ok (.ifCond .gt 10, 3) := by decide +kernel
theorem dX12_reads_146 : decode cX12_reads 146 = .ok (.aload_n 0, 1) := by decide +kernel
theorem dX12_reads_147 : decode cX12_reads 147 = .ok (.getfield 361, 3) := by decide +kernel
theorem dX12_reads_150 : decode cX12_reads 150 = .ok (.ifCond .eq 11, 3) := by decide +kernel
theorem dX12_reads_153 : decode cX12_reads 153 = .ok (.aload_n 0, 1) := by decide +kernel
theorem dX12_reads_154 : decode cX12_reads 154 = .ok (.aload_n 0, 1) := by decide +kernel
theorem dX12_reads_155 : decode cX12_reads 155 = .ok (.getfield 259, 3) := by decide +kernel
theorem dX12_reads_158 : decode cX12_reads 158 = .ok (.putfield 376, 3) := by decide +kernel
theorem dX12_reads_161 : decode cX12_reads 161 = .ok (.return_, 1) := by decide +kernel
theorem dX12_fault_0 : decode cX12_fault 0 = .ok (.aload_n 0, 1) := by decide +kernel
theorem dX12_fault_1 : decode cX12_fault 1 = .ok (.aload_n 0, 1) := by decide +kernel
theorem dX12_fault_2 : decode cX12_fault 2 = .ok (.invokevirtual 284, 3) := by decide +kernel
theorem dX12_fault_5 : decode cX12_fault 5 = .ok (.iconst 1, 1) := by decide +kernel
theorem dX12_fault_6 : decode cX12_fault 6 = .ok (.invokevirtual 237, 3) := by decide +kernel
theorem dX12_fault_9 : decode cX12_fault 9 = .ok (.ifCond .ne 5, 3) := by decide +kernel
theorem dX12_fault_12 : decode cX12_fault 12 = .ok (.iconst 0, 1) := by decide +kernel
theorem dX12_fault_13 : decode cX12_fault 13 = .ok (.ireturn, 1) := by decide +kernel
theorem dX12_fault_14 : decode cX12_fault 14 = .ok (.aload_n 0, 1) := by decide +kernel
theorem dX12_fault_15 : decode cX12_fault 15 = .ok (.invokevirtual 391, 3) := by decide +kernel
theorem dX12_fault_18 : decode cX12_fault 18 = .ok (.aload_n 0, 1) := by decide +kernel
theorem dX12_fault_19 : decode cX12_fault 19 = .ok (.getfield 376, 3) := by decide +kernel
theorem dX12_fault_22 : decode cX12_fault 22 = .ok (.ireturn, 1) := by decide +kernel
theorem dX12_lasts_0 : decode cX12_lasts 0 = .ok (.iconst (-1), 1) := by decide +kernel
theorem dX12_lasts_1 : decode cX12_lasts 1 = .ok (.istore 5, 2) := by decide +kernel
theorem dX12_lasts_3 : decode cX12_lasts 3 = .ok (.iconst 0, 1) := by decide +kernel
theorem dX12_lasts_4 : decode cX12_lasts 4 = .ok (.istore 6, 2) := by decide +kernel
theorem dX12_lasts_6 : decode cX12_lasts 6 = .ok (.iconst 0, 1) := by decide +kernel
theorem dX12_lasts_7 : decode cX12_lasts 7 = .ok (.istore 7, 2) := by decide +kernel
theorem dX12_lasts_9 : decode cX12_lasts 9 = .ok (.iload 7, 2) := by decide +kernel
theorem dX12_lasts_11 : decode cX12_lasts 11 = .ok (.aload_n 0, 1) := by decide +kernel
theorem dX12_lasts_12 : decode cX12_lasts 12 = .ok (.invokevirtual 113, 3) := by decide +kernel
theorem dX12_lasts_15 : decode cX12_lasts 15 = .ok (.if_icmp .ge 103, 3) := by decide +kernel
theorem dX12_lasts_18 : decode cX12_lasts 18 = .ok (.iload 7, 2) := by decide +kernel
theorem dX12_lasts_20 : decode cX12_lasts 20 = .ok (.iload_n 3, 1) := by decide +kernel
theorem dX12_lasts_21 : decode cX12_lasts 21 = .ok (.if_icmp .eq 91, 3) := by decide +kernel
theorem dX12_lasts_24 : decode cX12_lasts 24 = .ok (.aload_n 0, 1) := by decide +kernel
theorem dX12_lasts_25 : decode cX12_lasts 25 = .ok (.iload_n 3, 1) := by decide +kernel
theorem dX12_lasts_26 : decode cX12_lasts 26 = .ok (.iload 7, 2) := by decide +kernel
theorem dX12_lasts_28 : decode cX12_lasts 28 = .ok (.invokevirtual 476, 3) := by decide +kernel
theorem dX12_lasts_31 : decode cX12_lasts 31 = .ok (.ifCond .eq 81, 3) := by decide +kernel
theorem dX12_lasts_34 : decode cX12_lasts 34 = .ok (.aload_n 0, 1) := by decide +kernel
theorem dX12_lasts_35 : decode cX12_lasts 35 = .ok (.iload_n 2, 1) := by decide +kernel
theorem dX12_lasts_36 : decode cX12_lasts 36 = .ok (.iload 7, 2) := by decide +kernel
theorem dX12_lasts_38 : decode cX12_lasts 38 = .ok (.invokevirtual 476, 3) := by decide +kernel
theorem dX12_lasts_41 : decode cX12_lasts 41 = .ok (.ifCond .eq 6, 3) := by decide +kernel
theorem dX12_lasts_44 : decode cX12_lasts 44 = .ok (.goto 68, 3) := by decide +kernel
theorem dX12_lasts_47 : decode cX12_lasts 47 = .ok (.iload 7, 2) := by decide +kernel
theorem dX12_lasts_49 : decode cX12_lasts 49 = .ok (.iload 4, 2) := by decide +kernel
theorem dX12_lasts_51 : decode cX12_lasts 51 = .ok (.if_icmp .ne 5, 3) := by decide +kernel
theorem dX12_lasts_54 : decode cX12_lasts 54 = .ok (.iconst (-1), 1) := by decide +kernel
theorem dX12_lasts_55 : decode cX12_lasts 55 = .ok (.ireturn, 1) := by decide +kernel
theorem dX12_lasts_56 : decode cX12_lasts 56 = .ok (.aload_n 0, 1) := by decide +kernel
theorem dX12_lasts_57 : decode cX12_lasts 57 = .ok (.iload_n 1, 1) := by decide +kernel
theorem dX12_lasts_58 : decode cX12_lasts 58 = .ok (.iload 4, 2) := by decide +kernel
theorem dX12_lasts_60 : decode cX12_lasts 60 = .ok (.iload 7, 2) := by decide +kernel
theorem dX12_lasts_62 : decode cX12_lasts 62 = .ok (.iload_n 2, 1) := by decide +kernel
theorem dX12_lasts_63 : decode cX12_lasts 63 = .ok (.invokevirtual 479, 3) := by decide +kernel
theorem dX12_lasts_66 : decode cX12_lasts 66 = .ok (.ifCond .ne 46, 3) := by decide +kernel
theorem dX12_lasts_69 : decode cX12_lasts 69 = .ok (.iconst 1, 1) := by decide +kernel
theorem dX12_lasts_70 : decode cX12_lasts 70 = .ok (.istore 6, 2) := by decide +kernel
theorem dX12_lasts_72 : decode cX12_lasts 72 = .ok (.aload_n 0, 1) := by decide +kernel
theorem dX12_lasts_73 : decode cX12_lasts 73 = .ok (.getfield 101, 3) := by decide +kernel
theorem dX12_lasts_76 : decode cX12_lasts 76 = .ok (.iload_n 1, 1) := by decide +kernel
theorem dX12_lasts_77 : decode cX12_lasts 77 = .ok (.iconst 0, 1) := by decide +kernel
theorem dX12_lasts_78 : decode cX12_lasts 78 = .ok (.iload_n 2, 1) := by decide +kernel
theorem dX12_lasts_79 : decode cX12_lasts 79 = .ok (.iload 7, 2) := by decide +kernel
theorem dX12_lasts_81 : decode cX12_lasts 81 = .ok (.iload 4, 2) := by decide +kernel
theorem dX12_lasts_83 : decode cX12_lasts 83 = .ok (.invokestatic 483, 3) := by decide +kernel
theorem dX12_lasts_86 : decode cX12_lasts 86 = .ok (.iaload, 1) := by decide +kernel
theorem dX12_lasts_87 : decode cX12_lasts 87 = .ok (.istore 8, 2) := by decide +kernel
theorem dX12_lasts_89 : decode cX12_lasts 89 = .ok (.iload 8, 2) := by decide +kernel
theorem dX12_lasts_91 : decode cX12_lasts 91 = .ok (.ifCond .ge 5, 3) := by decide +kernel
theorem dX12_lasts_94 : decode cX12_lasts 94 = .ok (.iconst (-1), 1) := by decide +kernel
theorem dX12_lasts_95 : decode cX12_lasts 95 = .ok (.ireturn, 1) := by decide +kernel
theorem dX12_lasts_96 : decode cX12_lasts 96 = .ok (.iload 8, 2) := by decide +kernel
theorem dX12_lasts_98 : decode cX12_lasts 98 = .ok (.iload 5, 2) := by decide +kernel
theorem dX12_lasts_100 : decode cX12_lasts 100 = .ok (.if_icmp .le 8, 3) := by decide +kernel
theorem dX12_lasts_103 : decode cX12_lasts 103 = .ok (.iload 8, 2) := by decide +kernel
theorem dX12_lasts_105 : decode cX12_lasts 105 = .ok (.goto 5, 3) := by decide +kernel
theorem dX12_lasts_108 : decode cX12_lasts 108 = .ok (.iload 5, 2) := by decide +kernel
theorem dX12_lasts_110 : decode cX12_lasts 110 = .ok (.istore 5, 2) := by decide +kernel
theorem dX12_lasts_112 : decode cX12_lasts 112 = .ok (.iinc 7 1, 3) := by decide +kernel
theorem dX12_lasts_115 : decode cX12_lasts 115 = .ok (.goto (-106), 3) := by decide +kernel
theorem dX12_lasts_118 : decode cX12_lasts 118 = .ok (.iload 6, 2) := by decide +kernel
theorem dX12_lasts_120 : decode cX12_lasts 120 = .ok (.ifCond .eq 10, 3) := by decide +kernel
theorem dX12_lasts_123 : decode cX12_lasts 123 = .ok (.iload 5, 2) := by decide +kernel
theorem dX12_lasts_125 : decode cX12_lasts 125 = .ok (.iconst 1, 1) := by decide +kernel
theorem dX12_lasts_126 : decode cX12_lasts 126 = .ok (.iadd, 1) := by decide +kernel
theorem dX12_lasts_127 : decode cX12_lasts 127 = .ok (.goto 20, 3) := by decide +kernel
theorem dX12_lasts_130 : decode cX12_lasts 130 = .ok (.aload_n 0, 1) := by decide +kernel
theorem dX12_lasts_131 : decode cX12_lasts 131 = .ok (.iload_n 1, 1) := by decide +kernel
theorem dX12_lasts_132 : decode cX12_lasts 132 = .ok (.iload 4, 2) := by decide +kernel
theorem dX12_lasts_134 : decode cX12_lasts 134 = .ok (.iload_n 3, 1) := by decide +kernel
theorem dX12_lasts_135 : decode cX12_lasts 135 = .ok (.iload_n 2, 1) := by decide +kernel
theorem dX12_lasts_136 : decode cX12_lasts 136 = .ok (.invokevirtual 479, 3) := by decide +kernel
theorem dX12_lasts_139 : decode cX12_lasts 139 = .ok (.ifCond .eq 7, 3) := by decide +kernel
theorem dX12_lasts_142 : decode cX12_lasts 142 = .ok (.iconst 0, 1) := by decide +kernel
theorem dX12_lasts_143 : decode cX12_lasts 143 = .ok (.goto 4, 3) := by decide +kernel
theorem dX12_lasts_146 : decode cX12_lasts 146 = .ok (.iconst (-1), 1) := by decide +kernel
theorem dX12_lasts_147 : decode cX12_lasts 147 = .ok (.ireturn, 1) := by decide +kernel
theorem dX12_isFreeOf_0 : decode cX12_isFreeOf 0 = .ok (.iload_n 1, 1) := by decide +kernel
theorem dX12_isFreeOf_1 : decode cX12_isFreeOf 1 = .ok (.iconst 5, 1) := by decide +kernel
theorem dX12_isFreeOf_2 : decode cX12_isFreeOf 2 = .ok (.if_icmp .eq 15, 3) := by decide +kernel
theorem dX12_isFreeOf_5 : decode cX12_isFreeOf 5 = .ok (.aload_n 0, 1) := by decide +kernel
theorem dX12_isFreeOf_6 : decode cX12_isFreeOf 6 = .ok (.iload_n 1, 1) := by decide +kernel
theorem dX12_isFreeOf_7 : decode cX12_isFreeOf 7 = .ok (.iload_n 2, 1) := by decide +kernel
theorem dX12_isFreeOf_8 : decode cX12_isFreeOf 8 = .ok (.iload_n 3, 1) := by decide +kernel
theorem dX12_isFreeOf_9 : decode cX12_isFreeOf 9 = .ok (.iload 4, 2) := by decide +kernel
theorem dX12_isFreeOf_11 : decode cX12_isFreeOf 11 = .ok (.invokevirtual 479, 3) := by decide +kernel
theorem dX12_isFreeOf_14 : decode cX12_isFreeOf 14 = .ok (.ifCond .eq 7, 3) := by decide +kernel
theorem dX12_isFreeOf_17 : decode cX12_isFreeOf 17 = .ok (.iconst 1, 1) := by decide +kernel
theorem dX12_isFreeOf_18 : decode cX12_isFreeOf 18 = .ok (.goto 4, 3) := by decide +kernel
theorem dX12_isFreeOf_21 : decode cX12_isFreeOf 21 = .ok (.iconst 0, 1) := by decide +kernel
theorem dX12_isFreeOf_22 : decode cX12_isFreeOf 22 = .ok (.ireturn, 1) := by decide +kernel
theorem dX12_reaches_0 : decode cX12_reaches 0 = .ok (.iconst 0, 1) := by decide +kernel
theorem dX12_reaches_1 : decode cX12_reaches 1 = .ok (.istore 6, 2) := by decide +kernel
theorem dX12_reaches_3 : decode cX12_reaches 3 = .ok (.iload 6, 2) := by decide +kernel
theorem dX12_reaches_5 : decode cX12_reaches 5 = .ok (.aload_n 0, 1) := by decide +kernel
theorem dX12_reaches_6 : decode cX12_reaches 6 = .ok (.invokevirtual 113, 3) := by decide +kernel
theorem dX12_reaches_9 : decode cX12_reaches 9 = .ok (.if_icmp .ge 135, 3) := by decide +kernel
theorem dX12_reaches_12 : decode cX12_reaches 12 = .ok (.aload_n 0, 1) := by decide +kernel
theorem dX12_reaches_13 : decode cX12_reaches 13 = .ok (.iload_n 2, 1) := by decide +kernel
theorem dX12_reaches_14 : decode cX12_reaches 14 = .ok (.iload 6, 2) := by decide +kernel
theorem dX12_reaches_16 : decode cX12_reaches 16 = .ok (.invokevirtual 476, 3) := by decide +kernel
theorem dX12_reaches_19 : decode cX12_reaches 19 = .ok (.ifCond .eq 40, 3) := by decide +kernel
theorem dX12_reaches_22 : decode cX12_reaches 22 = .ok (.iload 6, 2) := by decide +kernel
theorem dX12_reaches_24 : decode cX12_reaches 24 = .ok (.iload_n 2, 1) := by decide +kernel
theorem dX12_reaches_25 : decode cX12_reaches 25 = .ok (.if_icmp .eq 34, 3) := by decide +kernel
theorem dX12_reaches_28 : decode cX12_reaches 28 = .ok (.iload 6, 2) := by decide +kernel
theorem dX12_reaches_30 : decode cX12_reaches 30 = .ok (.iload 4, 2) := by decide +kernel
theorem dX12_reaches_32 : decode cX12_reaches 32 = .ok (.if_icmp .eq 27, 3) := by decide +kernel
theorem dX12_reaches_35 : decode cX12_reaches 35 = .ok (.aload_n 0, 1) := by decide +kernel
theorem dX12_reaches_36 : decode cX12_reaches 36 = .ok (.getfield 101, 3) := by decide +kernel
theorem dX12_reaches_39 : decode cX12_reaches 39 = .ok (.iload_n 1, 1) := by decide +kernel
theorem dX12_reaches_40 : decode cX12_reaches 40 = .ok (.iconst 1, 1) := by decide +kernel
theorem dX12_reaches_41 : decode cX12_reaches 41 = .ok (.iload 6, 2) := by decide +kernel
theorem dX12_reaches_43 : decode cX12_reaches 43 = .ok (.iload_n 3, 1) := by decide +kernel
theorem dX12_reaches_44 : decode cX12_reaches 44 = .ok (.iload 4, 2) := by decide +kernel
theorem dX12_reaches_46 : decode cX12_reaches 46 = .ok (.invokestatic 483, 3) := by decide +kernel
theorem dX12_reaches_49 : decode cX12_reaches 49 = .ok (.iaload, 1) := by decide +kernel
theorem dX12_reaches_50 : decode cX12_reaches 50 = .ok (.iload 5, 2) := by decide +kernel
theorem dX12_reaches_52 : decode cX12_reaches 52 = .ok (.if_icmp .ne 7, 3) := by decide +kernel
theorem dX12_reaches_55 : decode cX12_reaches 55 = .ok (.iconst 1, 1) := by decide +kernel
theorem dX12_reaches_56 : decode cX12_reaches 56 = .ok (.goto 4, 3) := by decide +kernel
theorem dX12_reaches_59 : decode cX12_reaches 59 = .ok (.iconst 0, 1) := by decide +kernel
theorem dX12_reaches_60 : decode cX12_reaches 60 = .ok (.istore 7, 2) := by decide +kernel
theorem dX12_reaches_62 : decode cX12_reaches 62 = .ok (.iload 6, 2) := by decide +kernel
theorem dX12_reaches_64 : decode cX12_reaches 64 = .ok (.iload_n 2, 1) := by decide +kernel
theorem dX12_reaches_65 : decode cX12_reaches 65 = .ok (.if_icmp .eq 58, 3) := by decide +kernel
theorem dX12_reaches_68 : decode cX12_reaches 68 = .ok (.iload 6, 2) := by decide +kernel
theorem dX12_reaches_70 : decode cX12_reaches 70 = .ok (.iload_n 3, 1) := by decide +kernel
theorem dX12_reaches_71 : decode cX12_reaches 71 = .ok (.if_icmp .eq 52, 3) := by decide +kernel
theorem dX12_reaches_74 : decode cX12_reaches 74 = .ok (.aload_n 0, 1) := by decide +kernel
theorem dX12_reaches_75 : decode cX12_reaches 75 = .ok (.iload_n 1, 1) := by decide +kernel
theorem dX12_reaches_76 : decode cX12_reaches 76 = .ok (.iload 4, 2) := by decide +kernel
theorem dX12_reaches_78 : decode cX12_reaches 78 = .ok (.iload 6, 2) := by decide +kernel
theorem dX12_reaches_80 : decode cX12_reaches 80 = .ok (.iload_n 2, 1) := by decide +kernel
theorem dX12_reaches_81 : decode cX12_reaches 81 = .ok (.invokevirtual 479, 3) := by decide +kernel
theorem dX12_reaches_84 : decode cX12_reaches 84 = .ok (.ifCond .eq 39, 3) := by decide +kernel
theorem dX12_reaches_87 : decode cX12_reaches 87 = .ok (.aload_n 0, 1) := by decide +kernel
theorem dX12_reaches_88 : decode cX12_reaches 88 = .ok (.iload_n 1, 1) := by decide +kernel
theorem dX12_reaches_89 : decode cX12_reaches 89 = .ok (.iload 4, 2) := by decide +kernel
theorem dX12_reaches_91 : decode cX12_reaches 91 = .ok (.iload 6, 2) := by decide +kernel
theorem dX12_reaches_93 : decode cX12_reaches 93 = .ok (.iload_n 3, 1) := by decide +kernel
theorem dX12_reaches_94 : decode cX12_reaches 94 = .ok (.invokevirtual 487, 3) := by decide +kernel
theorem dX12_reaches_97 : decode cX12_reaches 97 = .ok (.ifCond .eq 26, 3) := by decide +kernel
theorem dX12_reaches_100 : decode cX12_reaches 100 = .ok (.aload_n 0, 1) := by decide +kernel
theorem dX12_reaches_101 : decode cX12_reaches 101 = .ok (.getfield 101, 3) := by decide +kernel
theorem dX12_reaches_104 : decode cX12_reaches 104 = .ok (.iload_n 1, 1) := by decide +kernel
theorem dX12_reaches_105 : decode cX12_reaches 105 = .ok (.iconst 1, 1) := by decide +kernel
theorem dX12_reaches_106 : decode cX12_reaches 106 = .ok (.iload_n 2, 1) := by decide +kernel
theorem dX12_reaches_107 : decode cX12_reaches 107 = .ok (.iload_n 3, 1) := by decide +kernel
theorem dX12_reaches_108 : decode cX12_reaches 108 = .ok (.iload 6, 2) := by decide +kernel
theorem dX12_reaches_110 : decode cX12_reaches 110 = .ok (.invokestatic 483, 3) := by decide +kernel
theorem dX12_reaches_113 : decode cX12_reaches 113 = .ok (.iaload, 1) := by decide +kernel
theorem dX12_reaches_114 : decode cX12_reaches 114 = .ok (.iload 5, 2) := by decide +kernel
theorem dX12_reaches_116 : decode cX12_reaches 116 = .ok (.if_icmp .ne 7, 3) := by decide +kernel
theorem dX12_reaches_119 : decode cX12_reaches 119 = .ok (.iconst 1, 1) := by decide +kernel
theorem dX12_reaches_120 : decode cX12_reaches 120 = .ok (.goto 4, 3) := by decide +kernel
theorem dX12_reaches_123 : decode cX12_reaches 123 = .ok (.iconst 0, 1) := by decide +kernel
theorem dX12_reaches_124 : decode cX12_reaches 124 = .ok (.istore 8, 2) := by decide +kernel
theorem dX12_reaches_126 : decode cX12_reaches 126 = .ok (.iload 7, 2) := by decide +kernel
theorem dX12_reaches_128 : decode cX12_reaches 128 = .ok (.ifCond .ne 8, 3) := by decide +kernel
theorem dX12_reaches_131 : decode cX12_reaches 131 = .ok (.iload 8, 2) := by decide +kernel
theorem dX12_reaches_133 : decode cX12_reaches 133 = .ok (.ifCond .eq 5, 3) := by decide +kernel
theorem dX12_reaches_136 : decode cX12_reaches 136 = .ok (.iconst 1, 1) := by decide +kernel
theorem dX12_reaches_137 : decode cX12_reaches 137 = .ok (.ireturn, 1) := by decide +kernel
theorem dX12_reaches_138 : decode cX12_reaches 138 = .ok (.iinc 6 1, 3) := by decide +kernel
theorem dX12_reaches_141 : decode cX12_reaches 141 = .ok (.goto (-138), 3) := by decide +kernel
theorem dX12_reaches_144 : decode cX12_reaches 144 = .ok (.iconst 0, 1) := by decide +kernel
theorem dX12_reaches_145 : decode cX12_reaches 145 = .ok (.ireturn, 1) := by decide +kernel
theorem dX12_finds_0 : decode cX12_finds 0 = .ok (.iconst 0, 1) := by decide +kernel
theorem dX12_finds_1 : decode cX12_finds 1 = .ok (.istore_n 3, 1) := by decide +kernel
theorem dX12_finds_2 : decode cX12_finds 2 = .ok (.iload_n 2, 1) := by decide +kernel
theorem dX12_finds_3 : decode cX12_finds 3 = .ok (.iconst 2, 1) := by decide +kernel
theorem dX12_finds_4 : decode cX12_finds 4 = .ok (.irem, 1) := by decide +kernel
theorem dX12_finds_5 : decode cX12_finds 5 = .ok (.ifCond .ne 7, 3) := by decide +kernel
theorem dX12_finds_8 : decode cX12_finds 8 = .ok (.iconst 1, 1) := by decide +kernel
theorem dX12_finds_9 : decode cX12_finds 9 = .ok (.goto 4, 3) := by decide +kernel
theorem dX12_finds_12 : decode cX12_finds 12 = .ok (.iconst 0, 1) := by decide +kernel
theorem dX12_finds_13 : decode cX12_finds 13 = .ok (.istore 4, 2) := by decide +kernel
theorem dX12_finds_15 : decode cX12_finds 15 = .ok (.iconst 0, 1) := by decide +kernel
theorem dX12_finds_16 : decode cX12_finds 16 = .ok (.istore 5, 2) := by decide +kernel
theorem dX12_finds_18 : decode cX12_finds 18 = .ok (.iload 5, 2) := by decide +kernel
theorem dX12_finds_20 : decode cX12_finds 20 = .ok (.aload_n 0, 1) := by decide +kernel
theorem dX12_finds_21 : decode cX12_finds 21 = .ok (.invokevirtual 113, 3) := by decide +kernel
theorem dX12_finds_24 : decode cX12_finds 24 = .ok (.if_icmp .ge 120, 3) := by decide +kernel
theorem dX12_finds_27 : decode cX12_finds 27 = .ok (.iconst 0, 1) := by decide +kernel
theorem dX12_finds_28 : decode cX12_finds 28 = .ok (.istore 6, 2) := by decide +kernel
theorem dX12_finds_30 : decode cX12_finds 30 = .ok (.iload 6, 2) := by decide +kernel
theorem dX12_finds_32 : decode cX12_finds 32 = .ok (.aload_n 0, 1) := by decide +kernel
theorem dX12_finds_33 : decode cX12_finds 33 = .ok (.invokevirtual 113, 3) := by decide +kernel
theorem dX12_finds_36 : decode cX12_finds 36 = .ok (.if_icmp .ge 102, 3) := by decide +kernel
theorem dX12_finds_39 : decode cX12_finds 39 = .ok (.iconst 0, 1) := by decide +kernel
theorem dX12_finds_40 : decode cX12_finds 40 = .ok (.istore 7, 2) := by decide +kernel
theorem dX12_finds_42 : decode cX12_finds 42 = .ok (.iload 7, 2) := by decide +kernel
theorem dX12_finds_44 : decode cX12_finds 44 = .ok (.aload_n 0, 1) := by decide +kernel
theorem dX12_finds_45 : decode cX12_finds 45 = .ok (.invokevirtual 113, 3) := by decide +kernel
theorem dX12_finds_48 : decode cX12_finds 48 = .ok (.if_icmp .ge 84, 3) := by decide +kernel
theorem dX12_finds_51 : decode cX12_finds 51 = .ok (.iload_n 1, 1) := by decide +kernel
theorem dX12_finds_52 : decode cX12_finds 52 = .ok (.iload 4, 2) := by decide +kernel
theorem dX12_finds_54 : decode cX12_finds 54 = .ok (.iload 5, 2) := by decide +kernel
theorem dX12_finds_56 : decode cX12_finds 56 = .ok (.iload 6, 2) := by decide +kernel
theorem dX12_finds_58 : decode cX12_finds 58 = .ok (.iload 7, 2) := by decide +kernel
theorem dX12_finds_60 : decode cX12_finds 60 = .ok (.invokestatic 483, 3) := by decide +kernel
theorem dX12_finds_63 : decode cX12_finds 63 = .ok (.istore 8, 2) := by decide +kernel
theorem dX12_finds_65 : decode cX12_finds 65 = .ok (.aload_n 0, 1) := by decide +kernel
theorem dX12_finds_66 : decode cX12_finds 66 = .ok (.getfield 101, 3) := by decide +kernel
theorem dX12_finds_69 : decode cX12_finds 69 = .ok (.iload 8, 2) := by decide +kernel
theorem dX12_finds_71 : decode cX12_finds 71 = .ok (.iaload, 1) := by decide +kernel
theorem dX12_finds_72 : decode cX12_finds 72 = .ok (.iconst (-1), 1) := by decide +kernel
theorem dX12_finds_73 : decode cX12_finds 73 = .ok (.if_icmp .ne 53, 3) := by decide +kernel
theorem dX12_finds_76 : decode cX12_finds 76 = .ok (.iload 4, 2) := by decide +kernel
theorem dX12_finds_78 : decode cX12_finds 78 = .ok (.ifCond .ne 23, 3) := by decide +kernel
theorem dX12_finds_81 : decode cX12_finds 81 = .ok (.aload_n 0, 1) := by decide +kernel
theorem dX12_finds_82 : decode cX12_finds 82 = .ok (.iload_n 1, 1) := by decide +kernel
theorem dX12_finds_83 : decode cX12_finds 83 = .ok (.iload 5, 2) := by decide +kernel
theorem dX12_finds_85 : decode cX12_finds 85 = .ok (.iload 6, 2) := by decide +kernel
theorem dX12_finds_87 : decode cX12_finds 87 = .ok (.iload 7, 2) := by decide +kernel
theorem dX12_finds_89 : decode cX12_finds 89 = .ok (.iload_n 2, 1) := by decide +kernel
theorem dX12_finds_90 : decode cX12_finds 90 = .ok (.iconst 1, 1) := by decide +kernel
theorem dX12_finds_91 : decode cX12_finds 91 = .ok (.isub, 1) := by decide +kernel
theorem dX12_finds_92 : decode cX12_finds 92 = .ok (.invokevirtual 494, 3) := by decide +kernel
theorem dX12_finds_95 : decode cX12_finds 95 = .ok (.ifCond .eq 31, 3) := by decide +kernel
theorem dX12_finds_98 : decode cX12_finds 98 = .ok (.goto 18, 3) := by decide +kernel
theorem dX12_finds_101 : decode cX12_finds 101 = .ok (.aload_n 0, 1) := by decide +kernel
theorem dX12_finds_102 : decode cX12_finds 102 = .ok (.iload_n 1, 1) := by decide +kernel
theorem dX12_finds_103 : decode cX12_finds 103 = .ok (.iload 5, 2) := by decide +kernel
theorem dX12_finds_105 : decode cX12_finds 105 = .ok (.iload 6, 2) := by decide +kernel
theorem dX12_finds_107 : decode cX12_finds 107 = .ok (.iload 7, 2) := by decide +kernel
theorem dX12_finds_109 : decode cX12_finds 109 = .ok (.invokevirtual 497, 3) := by decide +kernel
theorem dX12_finds_112 : decode cX12_finds 112 = .ok (.iload_n 2, 1) := by decide +kernel
theorem dX12_finds_113 : decode cX12_finds 113 = .ok (.if_icmp .ne 13, 3) := by decide +kernel
theorem dX12_finds_116 : decode cX12_finds 116 = .ok (.aload_n 0, 1) := by decide +kernel
theorem dX12_finds_117 : decode cX12_finds 117 = .ok (.getfield 101, 3) := by decide +kernel
theorem dX12_finds_120 : decode cX12_finds 120 = .ok (.iload 8, 2) := by decide +kernel
theorem dX12_finds_122 : decode cX12_finds 122 = .ok (.iload_n 2, 1) := by decide +kernel
theorem dX12_finds_123 : decode cX12_finds 123 = .ok (.iastore, 1) := by decide +kernel
theorem dX12_finds_124 : decode cX12_finds 124 = .ok (.iconst 1, 1) := by decide +kernel
theorem dX12_finds_125 : decode cX12_finds 125 = .ok (.istore_n 3, 1) := by decide +kernel
theorem dX12_finds_126 : decode cX12_finds 126 = .ok (.iinc 7 1, 3) := by decide +kernel
theorem dX12_finds_129 : decode cX12_finds 129 = .ok (.goto (-87), 3) := by decide +kernel
theorem dX12_finds_132 : decode cX12_finds 132 = .ok (.iinc 6 1, 3) := by decide +kernel
theorem dX12_finds_135 : decode cX12_finds 135 = .ok (.goto (-105), 3) := by decide +kernel
theorem dX12_finds_138 : decode cX12_finds 138 = .ok (.iinc 5 1, 3) := by decide +kernel
theorem dX12_finds_141 : decode cX12_finds 141 = .ok (.goto (-123), 3) := by decide +kernel
theorem dX12_finds_144 : decode cX12_finds 144 = .ok (.iload_n 3, 1) := by decide +kernel
theorem dX12_finds_145 : decode cX12_finds 145 = .ok (.ireturn, 1) := by decide +kernel
theorem dX12_matesAtOnce_0 : decode cX12_matesAtOnce 0 = .ok (.aload_n 0, 1) := by decide +kernel
theorem dX12_matesAtOnce_1 : decode cX12_matesAtOnce 1 = .ok (.iload_n 1, 1) := by decide +kernel
theorem dX12_matesAtOnce_2 : decode cX12_matesAtOnce 2 = .ok (.invokevirtual 233, 3) := by decide +kernel
theorem dX12_matesAtOnce_5 : decode cX12_matesAtOnce 5 = .ok (.iconst 0, 1) := by decide +kernel
theorem dX12_matesAtOnce_6 : decode cX12_matesAtOnce 6 = .ok (.istore_n 2, 1) := by decide +kernel
theorem dX12_matesAtOnce_7 : decode cX12_matesAtOnce 7 = .ok (.iload_n 2, 1) := by decide +kernel
theorem dX12_matesAtOnce_8 : decode cX12_matesAtOnce 8 = .ok (.aload_n 0, 1) := by decide +kernel
theorem dX12_matesAtOnce_9 : decode cX12_matesAtOnce 9 = .ok (.getfield 29, 3) := by decide +kernel
theorem dX12_matesAtOnce_12 : decode cX12_matesAtOnce 12 = .ok (.iload_n 1, 1) := by decide +kernel
theorem dX12_matesAtOnce_13 : decode cX12_matesAtOnce 13 = .ok (.iaload, 1) := by decide +kernel
theorem dX12_matesAtOnce_14 : decode cX12_matesAtOnce 14 = .ok (.if_icmp .ge 27, 3) := by decide +kernel
theorem dX12_matesAtOnce_17 : decode cX12_matesAtOnce 17 = .ok (.aload_n 0, 1) := by decide +kernel
theorem dX12_matesAtOnce_18 : decode cX12_matesAtOnce 18 = .ok (.iload_n 1, 1) := by decide +kernel
theorem dX12_matesAtOnce_19 : decode cX12_matesAtOnce 19 = .ok (.iload_n 2, 1) := by decide +kernel
theorem dX12_matesAtOnce_20 : decode cX12_matesAtOnce 20 = .ok (.invokevirtual 306, 3) := by decide +kernel
theorem dX12_matesAtOnce_23 : decode cX12_matesAtOnce 23 = .ok (.aload_n 0, 1) := by decide +kernel
theorem dX12_matesAtOnce_24 : decode cX12_matesAtOnce 24 = .ok (.iload_n 1, 1) := by decide +kernel
theorem dX12_matesAtOnce_25 : decode cX12_matesAtOnce 25 = .ok (.iconst 1, 1) := by decide +kernel
theorem dX12_matesAtOnce_26 : decode cX12_matesAtOnce 26 = .ok (.iadd, 1) := by decide +kernel
theorem dX12_matesAtOnce_27 : decode cX12_matesAtOnce 27 = .ok (.invokevirtual 309, 3) := by decide +kernel
theorem dX12_matesAtOnce_30 : decode cX12_matesAtOnce 30 = .ok (.ifCond .eq 5, 3) := by decide +kernel
theorem dX12_matesAtOnce_33 : decode cX12_matesAtOnce 33 = .ok (.iconst 1, 1) := by decide +kernel
theorem dX12_matesAtOnce_34 : decode cX12_matesAtOnce 34 = .ok (.ireturn, 1) := by decide +kernel
theorem dX12_matesAtOnce_35 : decode cX12_matesAtOnce 35 = .ok (.iinc 2 1, 3) := by decide +kernel
theorem dX12_matesAtOnce_38 : decode cX12_matesAtOnce 38 = .ok (.goto (-31), 3) := by decide +kernel
theorem dX12_matesAtOnce_41 : decode cX12_matesAtOnce 41 = .ok (.iconst 0, 1) := by decide +kernel
theorem dX12_matesAtOnce_42 : decode cX12_matesAtOnce 42 = .ok (.ireturn, 1) := by decide +kernel
theorem dX12_isKey_0 : decode cX12_isKey 0 = .ok (.aload_n 0, 1) := by decide +kernel
theorem dX12_isKey_1 : decode cX12_isKey 1 = .ok (.iconst 0, 1) := by decide +kernel
theorem dX12_isKey_2 : decode cX12_isKey 2 = .ok (.iload_n 1, 1) := by decide +kernel
theorem dX12_isKey_3 : decode cX12_isKey 3 = .ok (.invokevirtual 306, 3) := by decide +kernel
theorem dX12_isKey_6 : decode cX12_isKey 6 = .ok (.iload_n 2, 1) := by decide +kernel
theorem dX12_isKey_7 : decode cX12_isKey 7 = .ok (.iconst 1, 1) := by decide +kernel
theorem dX12_isKey_8 : decode cX12_isKey 8 = .ok (.if_icmp .ne 9, 3) := by decide +kernel
theorem dX12_isKey_11 : decode cX12_isKey 11 = .ok (.aload_n 0, 1) := by decide +kernel
theorem dX12_isKey_12 : decode cX12_isKey 12 = .ok (.iconst 1, 1) := by decide +kernel
theorem dX12_isKey_13 : decode cX12_isKey 13 = .ok (.invokevirtual 309, 3) := by decide +kernel
theorem dX12_isKey_16 : decode cX12_isKey 16 = .ok (.ireturn, 1) := by decide +kernel
theorem dX12_isKey_17 : decode cX12_isKey 17 = .ok (.aload_n 0, 1) := by decide +kernel
theorem dX12_isKey_18 : decode cX12_isKey 18 = .ok (.iconst 1, 1) := by decide +kernel
theorem dX12_isKey_19 : decode cX12_isKey 19 = .ok (.invokevirtual 233, 3) := by decide +kernel
theorem dX12_isKey_22 : decode cX12_isKey 22 = .ok (.iconst 0, 1) := by decide +kernel
theorem dX12_isKey_23 : decode cX12_isKey 23 = .ok (.istore_n 3, 1) := by decide +kernel
theorem dX12_isKey_24 : decode cX12_isKey 24 = .ok (.iload_n 3, 1) := by decide +kernel
theorem dX12_isKey_25 : decode cX12_isKey 25 = .ok (.aload_n 0, 1) := by decide +kernel
theorem dX12_isKey_26 : decode cX12_isKey 26 = .ok (.getfield 29, 3) := by decide +kernel
theorem dX12_isKey_29 : decode cX12_isKey 29 = .ok (.iconst 1, 1) := by decide +kernel
theorem dX12_isKey_30 : decode cX12_isKey 30 = .ok (.iaload, 1) := by decide +kernel
theorem dX12_isKey_31 : decode cX12_isKey 31 = .ok (.if_icmp .ge 25, 3) := by decide +kernel
theorem dX12_isKey_34 : decode cX12_isKey 34 = .ok (.aload_n 0, 1) := by decide +kernel
theorem dX12_isKey_35 : decode cX12_isKey 35 = .ok (.iconst 1, 1) := by decide +kernel
theorem dX12_isKey_36 : decode cX12_isKey 36 = .ok (.iload_n 3, 1) := by decide +kernel
theorem dX12_isKey_37 : decode cX12_isKey 37 = .ok (.invokevirtual 306, 3) := by decide +kernel
theorem dX12_isKey_40 : decode cX12_isKey 40 = .ok (.aload_n 0, 1) := by decide +kernel
theorem dX12_isKey_41 : decode cX12_isKey 41 = .ok (.iconst 2, 1) := by decide +kernel
theorem dX12_isKey_42 : decode cX12_isKey 42 = .ok (.invokevirtual 464, 3) := by decide +kernel
theorem dX12_isKey_45 : decode cX12_isKey 45 = .ok (.ifCond .ne 5, 3) := by decide +kernel
theorem dX12_isKey_48 : decode cX12_isKey 48 = .ok (.iconst 0, 1) := by decide +kernel
theorem dX12_isKey_49 : decode cX12_isKey 49 = .ok (.ireturn, 1) := by decide +kernel
theorem dX12_isKey_50 : decode cX12_isKey 50 = .ok (.iinc 3 1, 3) := by decide +kernel
theorem dX12_isKey_53 : decode cX12_isKey 53 = .ok (.goto (-29), 3) := by decide +kernel
theorem dX12_isKey_56 : decode cX12_isKey 56 = .ok (.aload_n 0, 1) := by decide +kernel
theorem dX12_isKey_57 : decode cX12_isKey 57 = .ok (.getfield 29, 3) := by decide +kernel
theorem dX12_isKey_60 : decode cX12_isKey 60 = .ok (.iconst 1, 1) := by decide +kernel
theorem dX12_isKey_61 : decode cX12_isKey 61 = .ok (.iaload, 1) := by decide +kernel
theorem dX12_isKey_62 : decode cX12_isKey 62 = .ok (.ifCond .le 7, 3) := by decide +kernel
theorem dX12_isKey_65 : decode cX12_isKey 65 = .ok (.iconst 1, 1) := by decide +kernel
theorem dX12_isKey_66 : decode cX12_isKey 66 = .ok (.goto 4, 3) := by decide +kernel
theorem dX12_isKey_69 : decode cX12_isKey 69 = .ok (.iconst 0, 1) := by decide +kernel
theorem dX12_isKey_70 : decode cX12_isKey 70 = .ok (.ireturn, 1) := by decide +kernel
theorem dX12_keys_0 : decode cX12_keys 0 = .ok (.aload_n 0, 1) := by decide +kernel
theorem dX12_keys_1 : decode cX12_keys 1 = .ok (.iconst 0, 1) := by decide +kernel
theorem dX12_keys_2 : decode cX12_keys 2 = .ok (.invokevirtual 233, 3) := by decide +kernel
theorem dX12_keys_5 : decode cX12_keys 5 = .ok (.iconst 0, 1) := by decide +kernel
theorem dX12_keys_6 : decode cX12_keys 6 = .ok (.istore_n 2, 1) := by decide +kernel
theorem dX12_keys_7 : decode cX12_keys 7 = .ok (.iconst 0, 1) := by decide +kernel
theorem dX12_keys_8 : decode cX12_keys 8 = .ok (.istore_n 3, 1) := by decide +kernel
theorem dX12_keys_9 : decode cX12_keys 9 = .ok (.iload_n 3, 1) := by decide +kernel
theorem dX12_keys_10 : decode cX12_keys 10 = .ok (.aload_n 0, 1) := by decide +kernel
theorem dX12_keys_11 : decode cX12_keys 11 = .ok (.getfield 29, 3) := by decide +kernel
theorem dX12_keys_14 : decode cX12_keys 14 = .ok (.iconst 0, 1) := by decide +kernel
theorem dX12_keys_15 : decode cX12_keys 15 = .ok (.iaload, 1) := by decide +kernel
theorem dX12_keys_16 : decode cX12_keys 16 = .ok (.if_icmp .ge 26, 3) := by decide +kernel
theorem dX12_keys_19 : decode cX12_keys 19 = .ok (.iload_n 2, 1) := by decide +kernel
theorem dX12_keys_20 : decode cX12_keys 20 = .ok (.aload_n 0, 1) := by decide +kernel
theorem dX12_keys_21 : decode cX12_keys 21 = .ok (.iload_n 3, 1) := by decide +kernel
theorem dX12_keys_22 : decode cX12_keys 22 = .ok (.iload_n 1, 1) := by decide +kernel
theorem dX12_keys_23 : decode cX12_keys 23 = .ok (.invokevirtual 467, 3) := by decide +kernel
theorem dX12_keys_26 : decode cX12_keys 26 = .ok (.ifCond .eq 7, 3) := by decide +kernel
theorem dX12_keys_29 : decode cX12_keys 29 = .ok (.iconst 1, 1) := by decide +kernel
theorem dX12_keys_30 : decode cX12_keys 30 = .ok (.goto 4, 3) := by decide +kernel
theorem dX12_keys_33 : decode cX12_keys 33 = .ok (.iconst 0, 1) := by decide +kernel
theorem dX12_keys_34 : decode cX12_keys 34 = .ok (.iadd, 1) := by decide +kernel
theorem dX12_keys_35 : decode cX12_keys 35 = .ok (.istore_n 2, 1) := by decide +kernel
theorem dX12_keys_36 : decode cX12_keys 36 = .ok (.iinc 3 1, 3) := by decide +kernel
theorem dX12_keys_39 : decode cX12_keys 39 = .ok (.goto (-30), 3) := by decide +kernel
theorem dX12_keys_42 : decode cX12_keys 42 = .ok (.iload_n 2, 1) := by decide +kernel
theorem dX12_keys_43 : decode cX12_keys 43 = .ok (.ireturn, 1) := by decide +kernel
theorem dX12_matesIn_0 : decode cX12_matesIn 0 = .ok (.aload_n 0, 1) := by decide +kernel
theorem dX12_matesIn_1 : decode cX12_matesIn 1 = .ok (.iconst 1, 1) := by decide +kernel
theorem dX12_matesIn_2 : decode cX12_matesIn 2 = .ok (.invokevirtual 470, 3) := by decide +kernel
theorem dX12_matesIn_5 : decode cX12_matesIn 5 = .ok (.ifCond .le 7, 3) := by decide +kernel
theorem dX12_matesIn_8 : decode cX12_matesIn 8 = .ok (.iconst 1, 1) := by decide +kernel
theorem dX12_matesIn_9 : decode cX12_matesIn 9 = .ok (.goto 16, 3) := by decide +kernel
theorem dX12_matesIn_12 : decode cX12_matesIn 12 = .ok (.aload_n 0, 1) := by decide +kernel
theorem dX12_matesIn_13 : decode cX12_matesIn 13 = .ok (.iconst 3, 1) := by decide +kernel
theorem dX12_matesIn_14 : decode cX12_matesIn 14 = .ok (.invokevirtual 470, 3) := by decide +kernel
theorem dX12_matesIn_17 : decode cX12_matesIn 17 = .ok (.ifCond .le 7, 3) := by decide +kernel
theorem dX12_matesIn_20 : decode cX12_matesIn 20 = .ok (.iconst 3, 1) := by decide +kernel
theorem dX12_matesIn_21 : decode cX12_matesIn 21 = .ok (.goto 4, 3) := by decide +kernel
theorem dX12_matesIn_24 : decode cX12_matesIn 24 = .ok (.iconst (-1), 1) := by decide +kernel
theorem dX12_matesIn_25 : decode cX12_matesIn 25 = .ok (.ireturn, 1) := by decide +kernel
theorem dX12_firstKey_0 : decode cX12_firstKey 0 = .ok (.aload_n 0, 1) := by decide +kernel
theorem dX12_firstKey_1 : decode cX12_firstKey 1 = .ok (.aload_n 0, 1) := by decide +kernel
theorem dX12_firstKey_2 : decode cX12_firstKey 2 = .ok (.invokevirtual 284, 3) := by decide +kernel
theorem dX12_firstKey_5 : decode cX12_firstKey 5 = .ok (.iconst 1, 1) := by decide +kernel
theorem dX12_firstKey_6 : decode cX12_firstKey 6 = .ok (.invokevirtual 237, 3) := by decide +kernel
theorem dX12_firstKey_9 : decode cX12_firstKey 9 = .ok (.ifCond .ne 5, 3) := by decide +kernel
theorem dX12_firstKey_12 : decode cX12_firstKey 12 = .ok (.iconst 0, 1) := by decide +kernel
theorem dX12_firstKey_13 : decode cX12_firstKey 13 = .ok (.ireturn, 1) := by decide +kernel
theorem dX12_firstKey_14 : decode cX12_firstKey 14 = .ok (.aload_n 0, 1) := by decide +kernel
theorem dX12_firstKey_15 : decode cX12_firstKey 15 = .ok (.invokevirtual 473, 3) := by decide +kernel
theorem dX12_firstKey_18 : decode cX12_firstKey 18 = .ok (.istore_n 1, 1) := by decide +kernel
theorem dX12_firstKey_19 : decode cX12_firstKey 19 = .ok (.aload_n 0, 1) := by decide +kernel
theorem dX12_firstKey_20 : decode cX12_firstKey 20 = .ok (.iload_n 1, 1) := by decide +kernel
theorem dX12_firstKey_21 : decode cX12_firstKey 21 = .ok (.iconst (-1), 1) := by decide +kernel
theorem dX12_firstKey_22 : decode cX12_firstKey 22 = .ok (.if_icmp .eq 7, 3) := by decide +kernel
theorem dX12_firstKey_25 : decode cX12_firstKey 25 = .ok (.iconst 1, 1) := by decide +kernel
theorem dX12_firstKey_26 : decode cX12_firstKey 26 = .ok (.goto 4, 3) := by decide +kernel
theorem dX12_firstKey_29 : decode cX12_firstKey 29 = .ok (.iconst 0, 1) := by decide +kernel
theorem dX12_firstKey_30 : decode cX12_firstKey 30 = .ok (.iconst 2, 1) := by decide +kernel
theorem dX12_firstKey_31 : decode cX12_firstKey 31 = .ok (.invokevirtual 237, 3) := by decide +kernel
theorem dX12_firstKey_34 : decode cX12_firstKey 34 = .ok (.ifCond .ne 5, 3) := by decide +kernel
theorem dX12_firstKey_37 : decode cX12_firstKey 37 = .ok (.iconst 0, 1) := by decide +kernel
theorem dX12_firstKey_38 : decode cX12_firstKey 38 = .ok (.ireturn, 1) := by decide +kernel
theorem dX12_firstKey_39 : decode cX12_firstKey 39 = .ok (.aload_n 0, 1) := by decide +kernel
theorem dX12_firstKey_40 : decode cX12_firstKey 40 = .ok (.iconst 0, 1) := by decide +kernel
theorem dX12_firstKey_41 : decode cX12_firstKey 41 = .ok (.invokevirtual 233, 3) := by decide +kernel
theorem dX12_firstKey_44 : decode cX12_firstKey 44 = .ok (.iconst 0, 1) := by decide +kernel
theorem dX12_firstKey_45 : decode cX12_firstKey 45 = .ok (.istore_n 2, 1) := by decide +kernel
theorem dX12_firstKey_46 : decode cX12_firstKey 46 = .ok (.aload_n 0, 1) := by decide +kernel
theorem dX12_firstKey_47 : decode cX12_firstKey 47 = .ok (.iload_n 2, 1) := by decide +kernel
theorem dX12_firstKey_48 : decode cX12_firstKey 48 = .ok (.iload_n 1, 1) := by decide +kernel
theorem dX12_firstKey_49 : decode cX12_firstKey 49 = .ok (.invokevirtual 467, 3) := by decide +kernel
theorem dX12_firstKey_52 : decode cX12_firstKey 52 = .ok (.ifCond .ne 9, 3) := by decide +kernel
theorem dX12_firstKey_55 : decode cX12_firstKey 55 = .ok (.iinc 2 1, 3) := by decide +kernel
theorem dX12_firstKey_58 : decode cX12_firstKey 58 = .ok (.goto (-12), 3) := by decide +kernel
theorem dX12_firstKey_61 : decode cX12_firstKey 61 = .ok (.iload_n 2, 1) := by decide +kernel
theorem dX12_firstKey_62 : decode cX12_firstKey 62 = .ok (.ireturn, 1) := by decide +kernel
theorem dX12_isGame_0 : decode cX12_isGame 0 = .ok (.iload_n 1, 1) := by decide +kernel
theorem dX12_isGame_1 : decode cX12_isGame 1 = .ok (.invokestatic 397, 3) := by decide +kernel
theorem dX12_isGame_4 : decode cX12_isGame 4 = .ok (.ifCond .eq 23, 3) := by decide +kernel
theorem dX12_isGame_7 : decode cX12_isGame 7 = .ok (.iload_n 2, 1) := by decide +kernel
theorem dX12_isGame_8 : decode cX12_isGame 8 = .ok (.iconst 0, 1) := by decide +kernel
theorem dX12_isGame_9 : decode cX12_isGame 9 = .ok (.aload_n 0, 1) := by decide +kernel
theorem dX12_isGame_10 : decode cX12_isGame 10 = .ok (.getfield 69, 3) := by decide +kernel
theorem dX12_isGame_13 : decode cX12_isGame 13 = .ok (.iload_n 1, 1) := by decide +kernel
theorem dX12_isGame_14 : decode cX12_isGame 14 = .ok (.iaload, 1) := by decide +kernel
theorem dX12_isGame_15 : decode cX12_isGame 15 = .ok (.iconst 1, 1) := by decide +kernel
theorem dX12_isGame_16 : decode cX12_isGame 16 = .ok (.isub, 1) := by decide +kernel
theorem dX12_isGame_17 : decode cX12_isGame 17 = .ok (.invokestatic 117, 3) := by decide +kernel
theorem dX12_isGame_20 : decode cX12_isGame 20 = .ok (.ifCond .eq 7, 3) := by decide +kernel
theorem dX12_isGame_23 : decode cX12_isGame 23 = .ok (.iconst 1, 1) := by decide +kernel
theorem dX12_isGame_24 : decode cX12_isGame 24 = .ok (.goto 4, 3) := by decide +kernel
theorem dX12_isGame_27 : decode cX12_isGame 27 = .ok (.iconst 0, 1) := by decide +kernel
theorem dX12_isGame_28 : decode cX12_isGame 28 = .ok (.ireturn, 1) := by decide +kernel
theorem dX12_firstNew_0 : decode cX12_firstNew 0 = .ok (.aload_n 0, 1) := by decide +kernel
theorem dX12_firstNew_1 : decode cX12_firstNew 1 = .ok (.aload_n 0, 1) := by decide +kernel
theorem dX12_firstNew_2 : decode cX12_firstNew 2 = .ok (.iload_n 1, 1) := by decide +kernel
theorem dX12_firstNew_3 : decode cX12_firstNew 3 = .ok (.iload_n 2, 1) := by decide +kernel
theorem dX12_firstNew_4 : decode cX12_firstNew 4 = .ok (.invokevirtual 407, 3) := by decide +kernel
theorem dX12_firstNew_7 : decode cX12_firstNew 7 = .ok (.iconst 1, 1) := by decide +kernel
theorem dX12_firstNew_8 : decode cX12_firstNew 8 = .ok (.invokevirtual 237, 3) := by decide +kernel
theorem dX12_firstNew_11 : decode cX12_firstNew 11 = .ok (.ifCond .ne 5, 3) := by decide +kernel
theorem dX12_firstNew_14 : decode cX12_firstNew 14 = .ok (.iconst 0, 1) := by decide +kernel
theorem dX12_firstNew_15 : decode cX12_firstNew 15 = .ok (.ireturn, 1) := by decide +kernel
theorem dX12_firstNew_16 : decode cX12_firstNew 16 = .ok (.iconst 0, 1) := by decide +kernel
theorem dX12_firstNew_17 : decode cX12_firstNew 17 = .ok (.istore_n 3, 1) := by decide +kernel
theorem dX12_firstNew_18 : decode cX12_firstNew 18 = .ok (.iload_n 3, 1) := by decide +kernel
theorem dX12_firstNew_19 : decode cX12_firstNew 19 = .ok (.aload_n 0, 1) := by decide +kernel
theorem dX12_firstNew_20 : decode cX12_firstNew 20 = .ok (.getfield 79, 3) := by decide +kernel
theorem dX12_firstNew_23 : decode cX12_firstNew 23 = .ok (.iload_n 1, 1) := by decide +kernel
theorem dX12_firstNew_24 : decode cX12_firstNew 24 = .ok (.iload_n 2, 1) := by decide +kernel
theorem dX12_firstNew_25 : decode cX12_firstNew 25 = .ok (.invokestatic 400, 3) := by decide +kernel
theorem dX12_firstNew_28 : decode cX12_firstNew 28 = .ok (.iaload, 1) := by decide +kernel
theorem dX12_firstNew_29 : decode cX12_firstNew 29 = .ok (.if_icmp .gt 66, 3) := by decide +kernel
theorem dX12_firstNew_32 : decode cX12_firstNew 32 = .ok (.iconst 0, 1) := by decide +kernel
theorem dX12_firstNew_33 : decode cX12_firstNew 33 = .ok (.istore 4, 2) := by decide +kernel
theorem dX12_firstNew_35 : decode cX12_firstNew 35 = .ok (.iconst 0, 1) := by decide +kernel
theorem dX12_firstNew_36 : decode cX12_firstNew 36 = .ok (.istore 5, 2) := by decide +kernel
theorem dX12_firstNew_38 : decode cX12_firstNew 38 = .ok (.iload 5, 2) := by decide +kernel
theorem dX12_firstNew_40 : decode cX12_firstNew 40 = .ok (.iload_n 2, 1) := by decide +kernel
theorem dX12_firstNew_41 : decode cX12_firstNew 41 = .ok (.if_icmp .ge 41, 3) := by decide +kernel
theorem dX12_firstNew_44 : decode cX12_firstNew 44 = .ok (.iload 4, 2) := by decide +kernel
theorem dX12_firstNew_46 : decode cX12_firstNew 46 = .ok (.ifCond .ne 23, 3) := by decide +kernel
theorem dX12_firstNew_49 : decode cX12_firstNew 49 = .ok (.aload_n 0, 1) := by decide +kernel
theorem dX12_firstNew_50 : decode cX12_firstNew 50 = .ok (.iload_n 1, 1) := by decide +kernel
theorem dX12_firstNew_51 : decode cX12_firstNew 51 = .ok (.iload 5, 2) := by decide +kernel
theorem dX12_firstNew_53 : decode cX12_firstNew 53 = .ok (.aload_n 0, 1) := by decide +kernel
theorem dX12_firstNew_54 : decode cX12_firstNew 54 = .ok (.getfield 73, 3) := by decide +kernel
theorem dX12_firstNew_57 : decode cX12_firstNew 57 = .ok (.iload_n 1, 1) := by decide +kernel
theorem dX12_firstNew_58 : decode cX12_firstNew 58 = .ok (.iload_n 2, 1) := by decide +kernel
theorem dX12_firstNew_59 : decode cX12_firstNew 59 = .ok (.iload_n 3, 1) := by decide +kernel
theorem dX12_firstNew_60 : decode cX12_firstNew 60 = .ok (.invokestatic 403, 3) := by decide +kernel
theorem dX12_firstNew_63 : decode cX12_firstNew 63 = .ok (.invokevirtual 410, 3) := by decide +kernel
theorem dX12_firstNew_66 : decode cX12_firstNew 66 = .ok (.ifCond .eq 7, 3) := by decide +kernel
theorem dX12_firstNew_69 : decode cX12_firstNew 69 = .ok (.iconst 1, 1) := by decide +kernel
theorem dX12_firstNew_70 : decode cX12_firstNew 70 = .ok (.goto 4, 3) := by decide +kernel
theorem dX12_firstNew_73 : decode cX12_firstNew 73 = .ok (.iconst 0, 1) := by decide +kernel
theorem dX12_firstNew_74 : decode cX12_firstNew 74 = .ok (.istore 4, 2) := by decide +kernel
theorem dX12_firstNew_76 : decode cX12_firstNew 76 = .ok (.iinc 5 1, 3) := by decide +kernel
theorem dX12_firstNew_79 : decode cX12_firstNew 79 = .ok (.goto (-41), 3) := by decide +kernel
theorem dX12_firstNew_82 : decode cX12_firstNew 82 = .ok (.iload 4, 2) := by decide +kernel
theorem dX12_firstNew_84 : decode cX12_firstNew 84 = .ok (.ifCond .ne 5, 3) := by decide +kernel
theorem dX12_firstNew_87 : decode cX12_firstNew 87 = .ok (.iload_n 3, 1) := by decide +kernel
theorem dX12_firstNew_88 : decode cX12_firstNew 88 = .ok (.ireturn, 1) := by decide +kernel
theorem dX12_firstNew_89 : decode cX12_firstNew 89 = .ok (.iinc 3 1, 3) := by decide +kernel
theorem dX12_firstNew_92 : decode cX12_firstNew 92 = .ok (.goto (-74), 3) := by decide +kernel
theorem dX12_firstNew_95 : decode cX12_firstNew 95 = .ok (.iconst (-1), 1) := by decide +kernel
theorem dX12_firstNew_96 : decode cX12_firstNew 96 = .ok (.ireturn, 1) := by decide +kernel
theorem dX12_fits_0 : decode cX12_fits 0 = .ok (.iconst 0, 1) := by decide +kernel
theorem dX12_fits_1 : decode cX12_fits 1 = .ok (.istore_n 2, 1) := by decide +kernel
theorem dX12_fits_2 : decode cX12_fits 2 = .ok (.iload_n 2, 1) := by decide +kernel
theorem dX12_fits_3 : decode cX12_fits 3 = .ok (.aload_n 0, 1) := by decide +kernel
theorem dX12_fits_4 : decode cX12_fits 4 = .ok (.invokevirtual 113, 3) := by decide +kernel
theorem dX12_fits_7 : decode cX12_fits 7 = .ok (.if_icmp .ge 77, 3) := by decide +kernel
theorem dX12_fits_10 : decode cX12_fits 10 = .ok (.aload_n 0, 1) := by decide +kernel
theorem dX12_fits_11 : decode cX12_fits 11 = .ok (.getfield 73, 3) := by decide +kernel
theorem dX12_fits_14 : decode cX12_fits 14 = .ok (.iload_n 1, 1) := by decide +kernel
theorem dX12_fits_15 : decode cX12_fits 15 = .ok (.iload_n 2, 1) := by decide +kernel
theorem dX12_fits_16 : decode cX12_fits 16 = .ok (.iadd, 1) := by decide +kernel
theorem dX12_fits_17 : decode cX12_fits 17 = .ok (.iaload, 1) := by decide +kernel
theorem dX12_fits_18 : decode cX12_fits 18 = .ok (.istore_n 3, 1) := by decide +kernel
theorem dX12_fits_19 : decode cX12_fits 19 = .ok (.aload_n 0, 1) := by decide +kernel
theorem dX12_fits_20 : decode cX12_fits 20 = .ok (.getfield 97, 3) := by decide +kernel
theorem dX12_fits_23 : decode cX12_fits 23 = .ok (.iload_n 2, 1) := by decide +kernel
theorem dX12_fits_24 : decode cX12_fits 24 = .ok (.iaload, 1) := by decide +kernel
theorem dX12_fits_25 : decode cX12_fits 25 = .ok (.istore 4, 2) := by decide +kernel
theorem dX12_fits_27 : decode cX12_fits 27 = .ok (.iload 4, 2) := by decide +kernel
theorem dX12_fits_29 : decode cX12_fits 29 = .ok (.bipush 15, 2) := by decide +kernel
theorem dX12_fits_31 : decode cX12_fits 31 = .ok (.if_icmp .eq 47, 3) := by decide +kernel
theorem dX12_fits_34 : decode cX12_fits 34 = .ok (.iload 4, 2) := by decide +kernel
theorem dX12_fits_36 : decode cX12_fits 36 = .ok (.bipush 13, 2) := by decide +kernel
theorem dX12_fits_38 : decode cX12_fits 38 = .ok (.if_icmp .ne 14, 3) := by decide +kernel
theorem dX12_fits_41 : decode cX12_fits 41 = .ok (.iload_n 3, 1) := by decide +kernel
theorem dX12_fits_42 : decode cX12_fits 42 = .ok (.iconst 1, 1) := by decide +kernel
theorem dX12_fits_43 : decode cX12_fits 43 = .ok (.invokestatic 154, 3) := by decide +kernel
theorem dX12_fits_46 : decode cX12_fits 46 = .ok (.ifCond .eq 30, 3) := by decide +kernel
theorem dX12_fits_49 : decode cX12_fits 49 = .ok (.goto 29, 3) := by decide +kernel
theorem dX12_fits_52 : decode cX12_fits 52 = .ok (.iload 4, 2) := by decide +kernel
theorem dX12_fits_54 : decode cX12_fits 54 = .ok (.bipush 14, 2) := by decide +kernel
theorem dX12_fits_56 : decode cX12_fits 56 = .ok (.if_icmp .ne 14, 3) := by decide +kernel
theorem dX12_fits_59 : decode cX12_fits 59 = .ok (.iload_n 3, 1) := by decide +kernel
theorem dX12_fits_60 : decode cX12_fits 60 = .ok (.iconst 0, 1) := by decide +kernel
theorem dX12_fits_61 : decode cX12_fits 61 = .ok (.invokestatic 154, 3) := by decide +kernel
theorem dX12_fits_64 : decode cX12_fits 64 = .ok (.ifCond .eq 12, 3) := by decide +kernel
theorem dX12_fits_67 : decode cX12_fits 67 = .ok (.goto 11, 3) := by decide +kernel
theorem dX12_fits_70 : decode cX12_fits 70 = .ok (.iload 4, 2) := by decide +kernel
theorem dX12_fits_72 : decode cX12_fits 72 = .ok (.iload_n 3, 1) := by decide +kernel
theorem dX12_fits_73 : decode cX12_fits 73 = .ok (.if_icmp .eq 5, 3) := by decide +kernel
theorem dX12_fits_76 : decode cX12_fits 76 = .ok (.iconst 0, 1) := by decide +kernel
theorem dX12_fits_77 : decode cX12_fits 77 = .ok (.ireturn, 1) := by decide +kernel
theorem dX12_fits_78 : decode cX12_fits 78 = .ok (.iinc 2 1, 3) := by decide +kernel
theorem dX12_fits_81 : decode cX12_fits 81 = .ok (.goto (-79), 3) := by decide +kernel
theorem dX12_fits_84 : decode cX12_fits 84 = .ok (.iconst 1, 1) := by decide +kernel
theorem dX12_fits_85 : decode cX12_fits 85 = .ok (.ireturn, 1) := by decide +kernel
theorem dX12_forcesMate_0 : decode cX12_forcesMate 0 = .ok (.aload_n 0, 1) := by decide +kernel
theorem dX12_forcesMate_1 : decode cX12_forcesMate 1 = .ok (.aload_n 0, 1) := by decide +kernel
theorem dX12_forcesMate_2 : decode cX12_forcesMate 2 = .ok (.invokevirtual 284, 3) := by decide +kernel
theorem dX12_forcesMate_5 : decode cX12_forcesMate 5 = .ok (.iconst 1, 1) := by decide +kernel
theorem dX12_forcesMate_6 : decode cX12_forcesMate 6 = .ok (.invokevirtual 237, 3) := by decide +kernel
theorem dX12_forcesMate_9 : decode cX12_forcesMate 9 = .ok (.ifCond .eq 10, 3) := by decide +kernel
theorem dX12_forcesMate_12 : decode cX12_forcesMate 12 = .ok (.aload_n 0, 1) := by decide +kernel
theorem dX12_forcesMate_13 : decode cX12_forcesMate 13 = .ok (.invokevirtual 473, 3) := by decide +kernel
theorem dX12_forcesMate_16 : decode cX12_forcesMate 16 = .ok (.goto 4, 3) := by decide +kernel
theorem dX12_forcesMate_19 : decode cX12_forcesMate 19 = .ok (.iconst 0, 1) := by decide +kernel
theorem dX12_forcesMate_20 : decode cX12_forcesMate 20 = .ok (.ireturn, 1) := by decide +kernel
theorem dX12_gameCount_0 : decode cX12_gameCount 0 = .ok (.aload_n 0, 1) := by decide +kernel
theorem dX12_gameCount_1 : decode cX12_gameCount 1 = .ok (.iload_n 1, 1) := by decide +kernel
theorem dX12_gameCount_2 : decode cX12_gameCount 2 = .ok (.invokestatic 397, 3) := by decide +kernel
theorem dX12_gameCount_5 : decode cX12_gameCount 5 = .ok (.iconst 1, 1) := by decide +kernel
theorem dX12_gameCount_6 : decode cX12_gameCount 6 = .ok (.invokevirtual 237, 3) := by decide +kernel
theorem dX12_gameCount_9 : decode cX12_gameCount 9 = .ok (.ifCond .eq 12, 3) := by decide +kernel
theorem dX12_gameCount_12 : decode cX12_gameCount 12 = .ok (.aload_n 0, 1) := by decide +kernel
theorem dX12_gameCount_13 : decode cX12_gameCount 13 = .ok (.getfield 69, 3) := by decide +kernel
theorem dX12_gameCount_16 : decode cX12_gameCount 16 = .ok (.iload_n 1, 1) := by decide +kernel
theorem dX12_gameCount_17 : decode cX12_gameCount 17 = .ok (.iaload, 1) := by decide +kernel
theorem dX12_gameCount_18 : decode cX12_gameCount 18 = .ok (.goto 4, 3) := by decide +kernel
theorem dX12_gameCount_21 : decode cX12_gameCount 21 = .ok (.iconst 0, 1) := by decide +kernel
theorem dX12_gameCount_22 : decode cX12_gameCount 22 = .ok (.ireturn, 1) := by decide +kernel
theorem dX12_gameLength_0 : decode cX12_gameLength 0 = .ok (.aload_n 0, 1) := by decide +kernel
theorem dX12_gameLength_1 : decode cX12_gameLength 1 = .ok (.aload_n 0, 1) := by decide +kernel
theorem dX12_gameLength_2 : decode cX12_gameLength 2 = .ok (.iload_n 1, 1) := by decide +kernel
theorem dX12_gameLength_3 : decode cX12_gameLength 3 = .ok (.iload_n 2, 1) := by decide +kernel
theorem dX12_gameLength_4 : decode cX12_gameLength 4 = .ok (.invokevirtual 407, 3) := by decide +kernel
theorem dX12_gameLength_7 : decode cX12_gameLength 7 = .ok (.iconst 1, 1) := by decide +kernel
theorem dX12_gameLength_8 : decode cX12_gameLength 8 = .ok (.invokevirtual 237, 3) := by decide +kernel
theorem dX12_gameLength_11 : decode cX12_gameLength 11 = .ok (.ifCond .eq 16, 3) := by decide +kernel
theorem dX12_gameLength_14 : decode cX12_gameLength 14 = .ok (.aload_n 0, 1) := by decide +kernel
theorem dX12_gameLength_15 : decode cX12_gameLength 15 = .ok (.getfield 79, 3) := by decide +kernel
theorem dX12_gameLength_18 : decode cX12_gameLength 18 = .ok (.iload_n 1, 1) := by decide +kernel
theorem dX12_gameLength_19 : decode cX12_gameLength 19 = .ok (.iload_n 2, 1) := by decide +kernel
theorem dX12_gameLength_20 : decode cX12_gameLength 20 = .ok (.invokestatic 400, 3) := by decide +kernel
theorem dX12_gameLength_23 : decode cX12_gameLength 23 = .ok (.iaload, 1) := by decide +kernel
theorem dX12_gameLength_24 : decode cX12_gameLength 24 = .ok (.goto 4, 3) := by decide +kernel
theorem dX12_gameLength_27 : decode cX12_gameLength 27 = .ok (.iconst 0, 1) := by decide +kernel
theorem dX12_gameLength_28 : decode cX12_gameLength 28 = .ok (.ireturn, 1) := by decide +kernel
def wp_X12_standsWord_169 (D : wD) (post : Int32 → wS → Prop)  (S : wS) (a0 : Nat) (x3 : Int32) : Prop :=
∃ y_1 : Nat, sR S a0 3 = some y_1 ∧ wM D S y_1 ∧ sK S y_1 = 21 ∧
∃ y_2 : Nat, sR S a0 21 = some y_2 ∧ wM D S y_2 ∧ sK S y_2 = 21 ∧
wp_X12_copies D (fun S_4 => 
wp_X12_makesListed D (fun S_6 => 
∃ y_7 : Nat, sR S_6 a0 3 = some y_7 ∧ wM D S_6 y_7 ∧ sK S_6 y_7 = 21 ∧
∃ y_8 : Nat, sR S_6 a0 20 = some y_8 ∧ wM D S_6 y_8 ∧ sK S_6 y_8 = 21 ∧
wp_X12_copies D (fun S_10 => 
∃ y_11 : Nat, sR S_10 a0 22 = some y_11 ∧ wM D S_10 y_11 ∧ sK S_10 y_11 = 21 ∧
vp_in (sI S_10 a0 27) (sN S_10 y_11) ∧
y_11 ∈ sL S_10 ∧ vp_in (sI S_10 a0 27) (sN S_10 y_11) ∧
∀ S_14 : wS, S_14 = uI S_10 y_11 ((sI S_10 a0 27)).toNatClampNeg ((sI S_10 y_11 ((sI S_10 a0 27)).toNatClampNeg) + (1 : Int32)) →
narrow .boolean (.int (0 : Int32)) = .int (0 : Int32) ∧ fits .boolean (.int (0 : Int32)) = true ∧
∀ S_15 : wS, S_15 = uI S_14 a0 28 (0 : Int32) →
narrow .boolean (.int (1 : Int32)) = .int (1 : Int32) ∧ post (1 : Int32) S_15) S_6 (67 : Int32) y_7 (67 : Int32) y_8 ((67 : Int32) * (sI S_6 a0 27))) S_4 a0 (0 : Int32) x3) S (67 : Int32) y_1 (0 : Int32) y_2 ((67 : Int32) * (sI S a0 27))
def wp_X12_standsWord_129 (D : wD) (post : Int32 → wS → Prop)  (S : wS) (a0 : Nat) (t0 : Int32) : Prop :=
((¬ t0 = (-1 : Int32) → ((¬ (sI S a0 27) = 0 → ∀ S_3 : wS, S_3 = uI S a0 26 ((sI S a0 26) + (1 : Int32)) →
wp_X12_standsWord_169 D post S_3 a0 t0) ∧
 ((sI S a0 27) = 0 → ∃ y_4 : Nat, sR S a0 23 = some y_4 ∧ wM D S y_4 ∧ sK S y_4 = 21 ∧
∃ y_5 : Nat, sR S a0 22 = some y_5 ∧ wM D S y_5 ∧ sK S y_5 = 21 ∧
vp_in (0 : Int32) (sN S y_5) ∧
y_4 ∈ sL S ∧ vp_in (sI S y_5 ((0 : Int32)).toNatClampNeg) (sN S y_4) ∧
∀ S_8 : wS, S_8 = uI S y_4 ((sI S y_5 ((0 : Int32)).toNatClampNeg)).toNatClampNeg t0 →
wp_X12_standsWord_169 D post S_8 a0 t0))) ∧
 (t0 = (-1 : Int32) → narrow .boolean (.int (0 : Int32)) = .int (0 : Int32) ∧ post (0 : Int32) S))
def wp_X12_standsWord_123 (D : wD) (post : Int32 → wS → Prop)  (S : wS) (a0 : Nat) (x1 : Int32) (x2 : Int32) : Prop :=
wp_X12_namedMove D (fun r_1 S_2 => 
wp_X12_standsWord_129 D post S_2 a0 r_1) S a0 x1 x2
def wp_X12_standsWord_67 (D : wD) (post : Int32 → wS → Prop)  (S : wS) (a0 : Nat) (b0 : Nat) (t1 : Int32) : Prop :=
narrow .boolean (.int t1) = .int t1 ∧ fits .boolean (.int t1) = true ∧
∀ S_1 : wS, S_1 = uI S b0 29 t1 →
narrow .boolean (.int (sI S_1 a0 29)) = .int (sI S_1 a0 29) ∧ post (sI S_1 a0 29) S_1
def wp_X12_standsWord_66 (D : wD) (post : Int32 → wS → Prop)  (S : wS) (a0 : Nat) (b0 : Nat) : Prop :=
wp_X12_standsWord_67 D post S a0 b0 (0 : Int32)
def wp_X12_standsWord_30 (D : wD) (post : Int32 → wS → Prop)  (S : wS) (a0 : Nat) (t0 : Int32) : Prop :=
narrow .boolean (.int (1 : Int32)) = .int (1 : Int32) ∧ fits .boolean (.int (1 : Int32)) = true ∧
∀ S_1 : wS, S_1 = uI S a0 28 (1 : Int32) →
narrow .boolean (.int t0) = .int t0 ∧ post t0 S_1
def wp_X12_standsWord_0 (D : wD) (post : Int32 → wS → Prop)  (S : wS) (a0 : Nat) (x1 : Int32) (x2 : Int32) : Prop :=
(((sI S a0 29) = 0 → wp_X12_isNumber D (fun r_2 S_3 => 
((r_2 = 0 → wp_X12_isResult D (fun r_5 S_6 => 
((r_5 = 0 → ∃ y_8 : Nat, sR S_6 a0 20 = some y_8 ∧ wM D S_6 y_8 ∧ sK S_6 y_8 = 21 ∧
∃ y_9 : Nat, sR S_6 a0 3 = some y_9 ∧ wM D S_6 y_9 ∧ sK S_6 y_9 = 21 ∧
wp_X12_copies D (fun S_11 => 
((¬ (sI S_11 a0 27) = 0 → wp_X12_standsWord_123 D post S_11 a0 x1 x2) ∧
 ((sI S_11 a0 27) = 0 → ∃ y_13 : Nat, sR S_11 a0 22 = some y_13 ∧ wM D S_11 y_13 ∧ sK S_11 y_13 = 21 ∧
vp_in (0 : Int32) (sN S_11 y_13) ∧
((((sI S_11 a0 11) + (sI S_11 y_13 ((0 : Int32)).toNatClampNeg)) < (80 : Int32) → wp_X12_standsWord_123 D post S_11 a0 x1 x2) ∧
 (¬ ((sI S_11 a0 11) + (sI S_11 y_13 ((0 : Int32)).toNatClampNeg)) < (80 : Int32) → wp_X12_standsWord_129 D post S_11 a0 (-1 : Int32)))))) S_6 (67 : Int32) y_8 ((67 : Int32) * (sI S_6 a0 27)) y_9 (0 : Int32)) ∧
 (¬ r_5 = 0 → ((¬ (sI S_6 a0 27) = 0 → wp_X12_standsWord_66 D post S_6 a0 a0) ∧
 ((sI S_6 a0 27) = 0 → ((¬ (sI S_6 a0 28) = 0 → wp_X12_standsWord_66 D post S_6 a0 a0) ∧
 ((sI S_6 a0 28) = 0 → wp_X12_standsWord_67 D post S_6 a0 a0 (1 : Int32)))))))) S_3 a0 x1 x2) ∧
 (¬ r_2 = 0 → ((¬ (sI S_3 a0 28) = 0 → wp_X12_standsWord_30 D post S_3 a0 (0 : Int32)) ∧
 ((sI S_3 a0 28) = 0 → wp_X12_standsWord_30 D post S_3 a0 (1 : Int32)))))) S a0 x1 x2) ∧
 (¬ (sI S a0 29) = 0 → narrow .boolean (.int (0 : Int32)) = .int (0 : Int32) ∧ post (0 : Int32) S))
abbrev r_X12_standsWord : Room := { frames := 11, cells := 0, slots := 0, locals := 267 }
def wp_X12_standsWord (D : wD) (post : Int32 → wS → Prop) (S : wS) (a0 : Nat) (x1 : Int32) (x2 : Int32) : Prop := wp_X12_standsWord_0 D post S a0 x1 x2
set_option maxHeartbeats 4000000 in
set_option maxRecDepth 100000 in
theorem t_X12_standsWord_169 {p : Program} {l : Launch} {e : Env} {s : State} {m : MethodId} {args : Array Value} {below : List Frame} {meth : Method} {c : Code} {D : wD} {cy : Nat → ClassId} {X : va_W} {A : Nat → Prop} {S0 : wS} {post : Int32 → wS → Prop} (F : CallFix p m c cX12_standsWord 4 s args wz_X12_standsWord RX12) (hr : meth.sig.returnType = (some .boolean)) (hlocks : meth.locks = false) (hK : wK D cy A s) : ∀ {S : wS} {H : Heap} {locs : List Loc} {ls : Array Slot} {a0 : Nat} {x3 : Int32}, wp_X12_standsWord_169 D post S a0 x3 → wO D cy X A s.heap S H locs → wX D S0 S → lv_has ls 4 [(0, .ref a0), (3, .int x3)] → wM D S a0 → sK S a0 = 17 → W p l e r_X12_standsWord s m args below meth c H locs 0 0 (MQ below (va_Qi (fun r S9 => wX D S0 S9 ∧ post r S9) (wB D cy X A) A) args s 0 0 A) (F0 m 169 ls []) := by
  obtain ⟨hx, hb, hml, hown, hts⟩ := id F
  have hwg : ∀ w ∈ WG, w.before args s = true := fun w h => hts w (List.mem_cons_of_mem _ h)
  have i_17 : ∀ w ∈ u_ws RX12 TX12 43, w ∈ wz_X12_standsWord := fun w h => List.mem_cons_of_mem _ (wu_17 w h)
  have k_16 := hwg _ wf_RX12_16
  have k_361 := hwg _ wf_RX12_361
  have k_367 := hwg _ wf_RX12_367
  have k_57 := hwg _ wf_RX12_57
  have k_60 := hwg _ wf_RX12_60
  have k_63 := hwg _ wf_RX12_63
  intro S H locs ls a0 x3 hp hW hE hl hL_a0 hK_a0
  unfold wp_X12_standsWord_169 at hp
  refine lv_bipush (v := 67) hx hb dX12_standsWord_169 (by decide) ?_
  refine lv_aload_n hx hb dX12_standsWord_171 rfl (lv_at hl 0 rfl) ?_
  obtain ⟨y_1, ey_1, hL_y_1, hK_y_1, hp⟩ := hp
  refine w_get (k := 17) (f := 3) (T := TX12) (v := .ref y_1) F hK hW hL_a0 hK_a0 (by decide) rfl rfl (by decide) i_17 k_16 (by rw [show wv 17 3 S a0 = va_rf (sR S a0 3) from rfl, ey_1]; rfl) dX12_standsWord_172 ?_
  refine lv_iconst (v := 0) hx hb dX12_standsWord_175 (by decide) ?_
  refine lv_aload_n hx hb dX12_standsWord_176 rfl (lv_at hl 0 rfl) ?_
  obtain ⟨y_2, ey_2, hL_y_2, hK_y_2, hp⟩ := hp
  refine w_get (k := 17) (f := 21) (T := TX12) (v := .ref y_2) F hK hW hL_a0 hK_a0 (by decide) rfl rfl (by decide) i_17 k_60 (by rw [show wv 17 21 S a0 = va_rf (sR S a0 21) from rfl, ey_2]; rfl) dX12_standsWord_177 ?_
  refine lv_bipush (v := 67) hx hb dX12_standsWord_180 (by decide) ?_
  refine lv_aload_n hx hb dX12_standsWord_182 rfl (lv_at hl 0 rfl) ?_
  refine w_get (k := 17) (f := 27) (T := TX12) (v := .int (sI S a0 27)) F hK hW hL_a0 hK_a0 (by decide) rfl rfl (by decide) i_17 k_367 rfl dX12_standsWord_183 ?_
  refine lv_imul hx hb dX12_standsWord_186 ?_
  refine w_callV (va_runS (As := [.int (67 : Int32), .ref y_1, .int (0 : Int32), .ref y_2, .int ((67 : Int32) * (sI S a0 27))]) (rest := []) F (c_X12_copies l hL_y_1 hK_y_1 hL_y_2 hK_y_2 hp H.size) (va_cwS 5 hts (wg_S wm_RX12_130 wy_X12_copies) rfl rfl rfl (by decide +kernel) ⟨Nat.le_of_ble_eq_true rfl, Nat.le_of_ble_eq_true rfl⟩) (w_preS hK hW) rfl rfl hl.1 rfl (lv_room (Nat.le_of_ble_eq_true rfl)) dX12_standsWord_187 ⟨Nat.le_of_ble_eq_true rfl, Nat.le_of_ble_eq_true rfl⟩) hW (fun S_4 H locs hp hW => ?_)
  obtain ⟨hX_S_4, hp⟩ := hp
  refine W.widen (k := 0) (n := 0) (by decide) (by decide) ?_
  have hE := hE.trans hX_S_4
  have hK_a0 : sK S_4 a0 = 17 := (hX_S_4.2 a0 hL_a0).1.trans hK_a0
  have hL_a0 : wM D S_4 a0 := hX_S_4.M hL_a0
  refine lv_aload_n hx hb dX12_standsWord_190 rfl (lv_at hl 0 rfl) ?_
  refine lv_iconst (v := 0) hx hb dX12_standsWord_191 (by decide) ?_
  refine lv_iload_n hx hb dX12_standsWord_192 rfl (lv_at hl 1 rfl) ?_
  refine w_callV (va_runV (As := [.int (0 : Int32), .int x3]) (rest := []) F (c_X12_makesListed l hL_a0 hK_a0 hp H.size) (cwV (C := RX12) 2 hts (wg_V wm_RX12_306 wy_X12_makesListed) rfl rfl rfl (by decide +kernel) ⟨Nat.le_of_ble_eq_true rfl, Nat.le_of_ble_eq_true rfl⟩) (w_preV hK hW hL_a0 hK_a0 (by decide) rfl) rfl rfl hl.1 rfl (lv_room (Nat.le_of_ble_eq_true rfl)) dX12_standsWord_193 ⟨Nat.le_of_ble_eq_true rfl, Nat.le_of_ble_eq_true rfl⟩) hW (fun S_6 H locs hp hW => ?_)
  obtain ⟨hX_S_6, hp⟩ := hp
  refine W.widen (k := 0) (n := 0) (by decide) (by decide) ?_
  have hE := hE.trans hX_S_6
  have hK_a0 : sK S_6 a0 = 17 := (hX_S_6.2 a0 hL_a0).1.trans hK_a0
  have hL_a0 : wM D S_6 a0 := hX_S_6.M hL_a0
  refine lv_bipush (v := 67) hx hb dX12_standsWord_196 (by decide) ?_
  refine lv_aload_n hx hb dX12_standsWord_198 rfl (lv_at hl 0 rfl) ?_
  obtain ⟨y_7, ey_7, hL_y_7, hK_y_7, hp⟩ := hp
  refine w_get (k := 17) (f := 3) (T := TX12) (v := .ref y_7) F hK hW hL_a0 hK_a0 (by decide) rfl rfl (by decide) i_17 k_16 (by rw [show wv 17 3 S_6 a0 = va_rf (sR S_6 a0 3) from rfl, ey_7]; rfl) dX12_standsWord_199 ?_
  refine lv_bipush (v := 67) hx hb dX12_standsWord_202 (by decide) ?_
  refine lv_aload_n hx hb dX12_standsWord_204 rfl (lv_at hl 0 rfl) ?_
  obtain ⟨y_8, ey_8, hL_y_8, hK_y_8, hp⟩ := hp
  refine w_get (k := 17) (f := 20) (T := TX12) (v := .ref y_8) F hK hW hL_a0 hK_a0 (by decide) rfl rfl (by decide) i_17 k_57 (by rw [show wv 17 20 S_6 a0 = va_rf (sR S_6 a0 20) from rfl, ey_8]; rfl) dX12_standsWord_205 ?_
  refine lv_bipush (v := 67) hx hb dX12_standsWord_208 (by decide) ?_
  refine lv_aload_n hx hb dX12_standsWord_210 rfl (lv_at hl 0 rfl) ?_
  refine w_get (k := 17) (f := 27) (T := TX12) (v := .int (sI S_6 a0 27)) F hK hW hL_a0 hK_a0 (by decide) rfl rfl (by decide) i_17 k_367 rfl dX12_standsWord_211 ?_
  refine lv_imul hx hb dX12_standsWord_214 ?_
  refine w_callV (va_runS (As := [.int (67 : Int32), .ref y_7, .int (67 : Int32), .ref y_8, .int ((67 : Int32) * (sI S_6 a0 27))]) (rest := []) F (c_X12_copies l hL_y_7 hK_y_7 hL_y_8 hK_y_8 hp H.size) (va_cwS 5 hts (wg_S wm_RX12_130 wy_X12_copies) rfl rfl rfl (by decide +kernel) ⟨Nat.le_of_ble_eq_true rfl, Nat.le_of_ble_eq_true rfl⟩) (w_preS hK hW) rfl rfl hl.1 rfl (lv_room (Nat.le_of_ble_eq_true rfl)) dX12_standsWord_215 ⟨Nat.le_of_ble_eq_true rfl, Nat.le_of_ble_eq_true rfl⟩) hW (fun S_10 H locs hp hW => ?_)
  obtain ⟨hX_S_10, hp⟩ := hp
  refine W.widen (k := 0) (n := 0) (by decide) (by decide) ?_
  have hE := hE.trans hX_S_10
  have hK_a0 : sK S_10 a0 = 17 := (hX_S_10.2 a0 hL_a0).1.trans hK_a0
  have hL_a0 : wM D S_10 a0 := hX_S_10.M hL_a0
  refine lv_aload_n hx hb dX12_standsWord_218 rfl (lv_at hl 0 rfl) ?_
  obtain ⟨y_11, ey_11, hL_y_11, hK_y_11, hp⟩ := hp
  refine w_get (k := 17) (f := 22) (T := TX12) (v := .ref y_11) F hK hW hL_a0 hK_a0 (by decide) rfl rfl (by decide) i_17 k_63 (by rw [show wv 17 22 S_10 a0 = va_rf (sR S_10 a0 22) from rfl, ey_11]; rfl) dX12_standsWord_219 ?_
  refine lv_aload_n hx hb dX12_standsWord_222 rfl (lv_at hl 0 rfl) ?_
  refine w_get (k := 17) (f := 27) (T := TX12) (v := .int (sI S_10 a0 27)) F hK hW hL_a0 hK_a0 (by decide) rfl rfl (by decide) i_17 k_367 rfl dX12_standsWord_223 ?_
  refine lv_dup2_11 hx hb dX12_standsWord_226 rfl rfl ?_
  obtain ⟨h_12, hp⟩ := hp
  refine w_ild F hK hW hL_y_11 hK_y_11 h_12 dX12_standsWord_227 ?_
  refine lv_iconst (v := 1) hx hb dX12_standsWord_228 (by decide) ?_
  refine lv_iadd hx hb dX12_standsWord_229 ?_
  obtain ⟨h_13m, h_13, hp⟩ := hp
  refine w_ist F hK hW h_13m hK_y_11 h_13 dX12_standsWord_230 (fun H locs hW => ?_)
  obtain ⟨S_14, eS_14⟩ : ∃ z : wS, z = uI S_10 y_11 ((sI S_10 a0 27)).toNatClampNeg ((sI S_10 y_11 ((sI S_10 a0 27)).toNatClampNeg) + (1 : Int32)) := ⟨_, rfl⟩
  rw [← eS_14] at hW
  replace hp := hp S_14 eS_14
  have hX_S_14 : wX D S_10 S_14 := by rw [eS_14]; exact wX_uI
  have hE := hE.trans hX_S_14
  have hK_a0 : sK S_14 a0 = 17 := (hX_S_14.2 a0 hL_a0).1.trans hK_a0
  have hL_a0 : wM D S_14 a0 := hX_S_14.M hL_a0
  refine lv_aload_n hx hb dX12_standsWord_231 rfl (lv_at hl 0 rfl) ?_
  refine lv_iconst (v := 0) hx hb dX12_standsWord_232 (by decide) ?_
  obtain ⟨h_16, h_16f, hp⟩ := hp
  refine w_putI (k := 17) (f := 28) (T := TX12) F hK hW hL_a0 hK_a0 (by decide) (by decide) rfl rfl (by decide) i_17 tyX12 tyX12_ok nmX12 k_361 rfl rfl (ty := .boolean) rfl h_16 h_16f dX12_standsWord_233 (fun H locs hW => ?_)
  obtain ⟨S_15, eS_15⟩ : ∃ z : wS, z = uI S_14 a0 28 (0 : Int32) := ⟨_, rfl⟩
  rw [← eS_15] at hW
  replace hp := hp S_15 eS_15
  have hX_S_15 : wX D S_14 S_15 := by rw [eS_15]; exact wX_uI
  have hE := hE.trans hX_S_15
  have hK_a0 : sK S_15 a0 = 17 := (hX_S_15.2 a0 hL_a0).1.trans hK_a0
  have hL_a0 : wM D S_15 a0 := hX_S_15.M hL_a0
  refine lv_iconst (v := 1) hx hb dX12_standsWord_236 (by decide) ?_
  exact w_zret hx hb hr hlocks hW hp.1 ⟨hE, hp.2⟩ dX12_standsWord_237
set_option maxHeartbeats 4000000 in
set_option maxRecDepth 100000 in
theorem t_X12_standsWord_129 {p : Program} {l : Launch} {e : Env} {s : State} {m : MethodId} {args : Array Value} {below : List Frame} {meth : Method} {c : Code} {D : wD} {cy : Nat → ClassId} {X : va_W} {A : Nat → Prop} {S0 : wS} {post : Int32 → wS → Prop} (F : CallFix p m c cX12_standsWord 4 s args wz_X12_standsWord RX12) (hr : meth.sig.returnType = (some .boolean)) (hlocks : meth.locks = false) (hK : wK D cy A s) : ∀ {S : wS} {H : Heap} {locs : List Loc} {ls : Array Slot} {a0 : Nat} {t0 : Int32}, wp_X12_standsWord_129 D post S a0 t0 → wO D cy X A s.heap S H locs → wX D S0 S → lv_has ls 4 [(0, .ref a0)] → wM D S a0 → sK S a0 = 17 → W p l e r_X12_standsWord s m args below meth c H locs 0 0 (MQ below (va_Qi (fun r S9 => wX D S0 S9 ∧ post r S9) (wB D cy X A) A) args s 0 0 A) (F0 m 129 ls [.int t0]) := by
  obtain ⟨hx, hb, hml, hown, hts⟩ := id F
  have hwg : ∀ w ∈ WG, w.before args s = true := fun w h => hts w (List.mem_cons_of_mem _ h)
  have i_17 : ∀ w ∈ u_ws RX12 TX12 43, w ∈ wz_X12_standsWord := fun w h => List.mem_cons_of_mem _ (wu_17 w h)
  have k_367 := hwg _ wf_RX12_367
  have k_373 := hwg _ wf_RX12_373
  have k_63 := hwg _ wf_RX12_63
  have k_66 := hwg _ wf_RX12_66
  intro S H locs ls a0 t0 hp hW hE hl hL_a0 hK_a0
  unfold wp_X12_standsWord_129 at hp
  refine lv_istore_n (lv' := [(3, .int t0), (0, .ref a0)]) hx hb dX12_standsWord_129 rfl hl (by decide) rfl (fun ls hl => ?_)
  refine lv_iload_n hx hb dX12_standsWord_130 rfl (lv_at hl 0 rfl) ?_
  refine lv_iconst (v := (-1)) hx hb dX12_standsWord_131 (by decide) ?_
  refine lv_icmp_ne (tgt := 137) hx hb dX12_standsWord_132 (by decide) (fun c_1 => ?_) (fun c_1 => ?_)
  · replace hp := hp.1 c_1
    refine lv_aload_n hx hb dX12_standsWord_137 rfl (lv_at hl 1 rfl) ?_
    refine w_get (k := 17) (f := 27) (T := TX12) (v := .int (sI S a0 27)) F hK hW hL_a0 hK_a0 (by decide) rfl rfl (by decide) i_17 k_367 rfl dX12_standsWord_138 ?_
    refine lv_if_ne (tgt := 159) hx hb dX12_standsWord_141 (by decide) (fun c_2 => ?_) (fun c_2 => ?_)
    · replace hp := hp.1 c_2
      refine lv_aload_n hx hb dX12_standsWord_159 rfl (lv_at hl 1 rfl) ?_
      refine lv_dup hx hb dX12_standsWord_160 rfl ?_
      refine w_get (k := 17) (f := 26) (T := TX12) (v := .int (sI S a0 26)) F hK hW hL_a0 hK_a0 (by decide) rfl rfl (by decide) i_17 k_373 rfl dX12_standsWord_161 ?_
      refine lv_iconst (v := 1) hx hb dX12_standsWord_164 (by decide) ?_
      refine lv_iadd hx hb dX12_standsWord_165 ?_
      refine w_putI (k := 17) (f := 26) (T := TX12) F hK hW hL_a0 hK_a0 (by decide) (by decide) rfl rfl (by decide) i_17 tyX12 tyX12_ok nmX12 k_373 rfl rfl (ty := .int) rfl rfl rfl dX12_standsWord_166 (fun H locs hW => ?_)
      obtain ⟨S_3, eS_3⟩ : ∃ z : wS, z = uI S a0 26 ((sI S a0 26) + (1 : Int32)) := ⟨_, rfl⟩
      rw [← eS_3] at hW
      replace hp := hp S_3 eS_3
      have hX_S_3 : wX D S S_3 := by rw [eS_3]; exact wX_uI
      have hE := hE.trans hX_S_3
      have hK_a0 : sK S_3 a0 = 17 := (hX_S_3.2 a0 hL_a0).1.trans hK_a0
      have hL_a0 : wM D S_3 a0 := hX_S_3.M hL_a0
      exact t_X12_standsWord_169 F hr hlocks hK hp hW hE (lv_sub hl [1, 0] rfl) hL_a0 hK_a0
    · replace hp := hp.2 c_2
      refine lv_aload_n hx hb dX12_standsWord_144 rfl (lv_at hl 1 rfl) ?_
      obtain ⟨y_4, ey_4, hL_y_4, hK_y_4, hp⟩ := hp
      refine w_get (k := 17) (f := 23) (T := TX12) (v := .ref y_4) F hK hW hL_a0 hK_a0 (by decide) rfl rfl (by decide) i_17 k_66 (by rw [show wv 17 23 S a0 = va_rf (sR S a0 23) from rfl, ey_4]; rfl) dX12_standsWord_145 ?_
      refine lv_aload_n hx hb dX12_standsWord_148 rfl (lv_at hl 1 rfl) ?_
      obtain ⟨y_5, ey_5, hL_y_5, hK_y_5, hp⟩ := hp
      refine w_get (k := 17) (f := 22) (T := TX12) (v := .ref y_5) F hK hW hL_a0 hK_a0 (by decide) rfl rfl (by decide) i_17 k_63 (by rw [show wv 17 22 S a0 = va_rf (sR S a0 22) from rfl, ey_5]; rfl) dX12_standsWord_149 ?_
      refine lv_iconst (v := 0) hx hb dX12_standsWord_152 (by decide) ?_
      obtain ⟨h_6, hp⟩ := hp
      refine w_ild F hK hW hL_y_5 hK_y_5 h_6 dX12_standsWord_153 ?_
      refine lv_iload_n hx hb dX12_standsWord_154 rfl (lv_at hl 0 rfl) ?_
      obtain ⟨h_7m, h_7, hp⟩ := hp
      refine w_ist F hK hW h_7m hK_y_4 h_7 dX12_standsWord_155 (fun H locs hW => ?_)
      obtain ⟨S_8, eS_8⟩ : ∃ z : wS, z = uI S y_4 ((sI S y_5 ((0 : Int32)).toNatClampNeg)).toNatClampNeg t0 := ⟨_, rfl⟩
      rw [← eS_8] at hW
      replace hp := hp S_8 eS_8
      have hX_S_8 : wX D S S_8 := by rw [eS_8]; exact wX_uI
      have hE := hE.trans hX_S_8
      have hK_a0 : sK S_8 a0 = 17 := (hX_S_8.2 a0 hL_a0).1.trans hK_a0
      have hL_a0 : wM D S_8 a0 := hX_S_8.M hL_a0
      refine lv_goto (tgt := 169) hx hb dX12_standsWord_156 (by decide) ?_
      exact t_X12_standsWord_169 F hr hlocks hK hp hW hE (lv_sub hl [1, 0] rfl) hL_a0 hK_a0
  · replace hp := hp.2 c_1
    refine lv_iconst (v := 0) hx hb dX12_standsWord_135 (by decide) ?_
    exact w_zret hx hb hr hlocks hW hp.1 ⟨hE, hp.2⟩ dX12_standsWord_136
set_option maxHeartbeats 4000000 in
set_option maxRecDepth 100000 in
theorem t_X12_standsWord_123 {p : Program} {l : Launch} {e : Env} {s : State} {m : MethodId} {args : Array Value} {below : List Frame} {meth : Method} {c : Code} {D : wD} {cy : Nat → ClassId} {X : va_W} {A : Nat → Prop} {S0 : wS} {post : Int32 → wS → Prop} (F : CallFix p m c cX12_standsWord 4 s args wz_X12_standsWord RX12) (hr : meth.sig.returnType = (some .boolean)) (hlocks : meth.locks = false) (hK : wK D cy A s) : ∀ {S : wS} {H : Heap} {locs : List Loc} {ls : Array Slot} {a0 : Nat} {x1 : Int32} {x2 : Int32}, wp_X12_standsWord_123 D post S a0 x1 x2 → wO D cy X A s.heap S H locs → wX D S0 S → lv_has ls 4 [(0, .ref a0), (1, .int x1), (2, .int x2)] → wM D S a0 → sK S a0 = 17 → W p l e r_X12_standsWord s m args below meth c H locs 0 0 (MQ below (va_Qi (fun r S9 => wX D S0 S9 ∧ post r S9) (wB D cy X A) A) args s 0 0 A) (F0 m 123 ls []) := by
  obtain ⟨hx, hb, hml, hown, hts⟩ := id F
  have hwg : ∀ w ∈ WG, w.before args s = true := fun w h => hts w (List.mem_cons_of_mem _ h)
  intro S H locs ls a0 x1 x2 hp hW hE hl hL_a0 hK_a0
  unfold wp_X12_standsWord_123 at hp
  refine lv_aload_n hx hb dX12_standsWord_123 rfl (lv_at hl 0 rfl) ?_
  refine lv_iload_n hx hb dX12_standsWord_124 rfl (lv_at hl 1 rfl) ?_
  refine lv_iload_n hx hb dX12_standsWord_125 rfl (lv_at hl 2 rfl) ?_
  refine w_callI (va_runV (As := [.int x1, .int x2]) (rest := []) F (c_X12_namedMove l hL_a0 hK_a0 hp H.size) (cwV (C := RX12) 2 hts (wg_V wm_RX12_370 wy_X12_namedMove) rfl rfl rfl (by decide +kernel) ⟨Nat.le_of_ble_eq_true rfl, Nat.le_of_ble_eq_true rfl⟩) (w_preV hK hW hL_a0 hK_a0 (by decide) rfl) rfl rfl hl.1 rfl (lv_room (Nat.le_of_ble_eq_true rfl)) dX12_standsWord_126 ⟨Nat.le_of_ble_eq_true rfl, Nat.le_of_ble_eq_true rfl⟩) hW (fun r_1 S_2 H locs hp hW => ?_)
  obtain ⟨hX_S_2, hp⟩ := hp
  refine W.widen (k := 0) (n := 0) (by decide) (by decide) ?_
  have hE := hE.trans hX_S_2
  have hK_a0 : sK S_2 a0 = 17 := (hX_S_2.2 a0 hL_a0).1.trans hK_a0
  have hL_a0 : wM D S_2 a0 := hX_S_2.M hL_a0
  exact t_X12_standsWord_129 F hr hlocks hK hp hW hE (lv_sub hl [0] rfl) hL_a0 hK_a0
set_option maxHeartbeats 4000000 in
set_option maxRecDepth 100000 in
theorem t_X12_standsWord_67 {p : Program} {l : Launch} {e : Env} {s : State} {m : MethodId} {args : Array Value} {below : List Frame} {meth : Method} {c : Code} {D : wD} {cy : Nat → ClassId} {X : va_W} {A : Nat → Prop} {S0 : wS} {post : Int32 → wS → Prop} (F : CallFix p m c cX12_standsWord 4 s args wz_X12_standsWord RX12) (hr : meth.sig.returnType = (some .boolean)) (hlocks : meth.locks = false) (hK : wK D cy A s) : ∀ {S : wS} {H : Heap} {locs : List Loc} {ls : Array Slot} {a0 : Nat} {b0 : Nat} {t1 : Int32}, wp_X12_standsWord_67 D post S a0 b0 t1 → wO D cy X A s.heap S H locs → wX D S0 S → lv_has ls 4 [(0, .ref a0)] → wM D S a0 → sK S a0 = 17 → wM D S b0 → sK S b0 = 17 → W p l e r_X12_standsWord s m args below meth c H locs 0 0 (MQ below (va_Qi (fun r S9 => wX D S0 S9 ∧ post r S9) (wB D cy X A) A) args s 0 0 A) (F0 m 67 ls [.int t1, .ref b0]) := by
  obtain ⟨hx, hb, hml, hown, hts⟩ := id F
  have hwg : ∀ w ∈ WG, w.before args s = true := fun w h => hts w (List.mem_cons_of_mem _ h)
  have i_17 : ∀ w ∈ u_ws RX12 TX12 43, w ∈ wz_X12_standsWord := fun w h => List.mem_cons_of_mem _ (wu_17 w h)
  have k_354 := hwg _ wf_RX12_354
  intro S H locs ls a0 b0 t1 hp hW hE hl hL_a0 hK_a0 hL_b0 hK_b0
  unfold wp_X12_standsWord_67 at hp
  obtain ⟨h_2, h_2f, hp⟩ := hp
  refine w_putI (k := 17) (f := 29) (T := TX12) F hK hW hL_b0 hK_b0 (by decide) (by decide) rfl rfl (by decide) i_17 tyX12 tyX12_ok nmX12 k_354 rfl rfl (ty := .boolean) rfl h_2 h_2f dX12_standsWord_67 (fun H locs hW => ?_)
  obtain ⟨S_1, eS_1⟩ : ∃ z : wS, z = uI S b0 29 t1 := ⟨_, rfl⟩
  rw [← eS_1] at hW
  replace hp := hp S_1 eS_1
  have hX_S_1 : wX D S S_1 := by rw [eS_1]; exact wX_uI
  have hE := hE.trans hX_S_1
  have hK_a0 : sK S_1 a0 = 17 := (hX_S_1.2 a0 hL_a0).1.trans hK_a0
  have hL_a0 : wM D S_1 a0 := hX_S_1.M hL_a0
  refine lv_aload_n hx hb dX12_standsWord_70 rfl (lv_at hl 0 rfl) ?_
  refine w_get (k := 17) (f := 29) (T := TX12) (v := .int (sI S_1 a0 29)) F hK hW hL_a0 hK_a0 (by decide) rfl rfl (by decide) i_17 k_354 rfl dX12_standsWord_71 ?_
  exact w_zret hx hb hr hlocks hW hp.1 ⟨hE, hp.2⟩ dX12_standsWord_74
set_option maxHeartbeats 4000000 in
set_option maxRecDepth 100000 in
theorem t_X12_standsWord_66 {p : Program} {l : Launch} {e : Env} {s : State} {m : MethodId} {args : Array Value} {below : List Frame} {meth : Method} {c : Code} {D : wD} {cy : Nat → ClassId} {X : va_W} {A : Nat → Prop} {S0 : wS} {post : Int32 → wS → Prop} (F : CallFix p m c cX12_standsWord 4 s args wz_X12_standsWord RX12) (hr : meth.sig.returnType = (some .boolean)) (hlocks : meth.locks = false) (hK : wK D cy A s) : ∀ {S : wS} {H : Heap} {locs : List Loc} {ls : Array Slot} {a0 : Nat} {b0 : Nat}, wp_X12_standsWord_66 D post S a0 b0 → wO D cy X A s.heap S H locs → wX D S0 S → lv_has ls 4 [(0, .ref a0)] → wM D S a0 → sK S a0 = 17 → wM D S b0 → sK S b0 = 17 → W p l e r_X12_standsWord s m args below meth c H locs 0 0 (MQ below (va_Qi (fun r S9 => wX D S0 S9 ∧ post r S9) (wB D cy X A) A) args s 0 0 A) (F0 m 66 ls [.ref b0]) := by
  obtain ⟨hx, hb, hml, hown, hts⟩ := id F
  have hwg : ∀ w ∈ WG, w.before args s = true := fun w h => hts w (List.mem_cons_of_mem _ h)
  intro S H locs ls a0 b0 hp hW hE hl hL_a0 hK_a0 hL_b0 hK_b0
  unfold wp_X12_standsWord_66 at hp
  refine lv_iconst (v := 0) hx hb dX12_standsWord_66 (by decide) ?_
  exact t_X12_standsWord_67 F hr hlocks hK hp hW hE (lv_sub hl [0] rfl) hL_a0 hK_a0 hL_b0 hK_b0
set_option maxHeartbeats 4000000 in
set_option maxRecDepth 100000 in
theorem t_X12_standsWord_30 {p : Program} {l : Launch} {e : Env} {s : State} {m : MethodId} {args : Array Value} {below : List Frame} {meth : Method} {c : Code} {D : wD} {cy : Nat → ClassId} {X : va_W} {A : Nat → Prop} {S0 : wS} {post : Int32 → wS → Prop} (F : CallFix p m c cX12_standsWord 4 s args wz_X12_standsWord RX12) (hr : meth.sig.returnType = (some .boolean)) (hlocks : meth.locks = false) (hK : wK D cy A s) : ∀ {S : wS} {H : Heap} {locs : List Loc} {ls : Array Slot} {a0 : Nat} {t0 : Int32}, wp_X12_standsWord_30 D post S a0 t0 → wO D cy X A s.heap S H locs → wX D S0 S → lv_has ls 4 [(0, .ref a0)] → wM D S a0 → sK S a0 = 17 → W p l e r_X12_standsWord s m args below meth c H locs 0 0 (MQ below (va_Qi (fun r S9 => wX D S0 S9 ∧ post r S9) (wB D cy X A) A) args s 0 0 A) (F0 m 30 ls [.int t0]) := by
  obtain ⟨hx, hb, hml, hown, hts⟩ := id F
  have hwg : ∀ w ∈ WG, w.before args s = true := fun w h => hts w (List.mem_cons_of_mem _ h)
  have i_17 : ∀ w ∈ u_ws RX12 TX12 43, w ∈ wz_X12_standsWord := fun w h => List.mem_cons_of_mem _ (wu_17 w h)
  have k_361 := hwg _ wf_RX12_361
  intro S H locs ls a0 t0 hp hW hE hl hL_a0 hK_a0
  unfold wp_X12_standsWord_30 at hp
  refine lv_istore_n (lv' := [(3, .int t0), (0, .ref a0)]) hx hb dX12_standsWord_30 rfl hl (by decide) rfl (fun ls hl => ?_)
  refine lv_aload_n hx hb dX12_standsWord_31 rfl (lv_at hl 1 rfl) ?_
  refine lv_iconst (v := 1) hx hb dX12_standsWord_32 (by decide) ?_
  obtain ⟨h_2, h_2f, hp⟩ := hp
  refine w_putI (k := 17) (f := 28) (T := TX12) F hK hW hL_a0 hK_a0 (by decide) (by decide) rfl rfl (by decide) i_17 tyX12 tyX12_ok nmX12 k_361 rfl rfl (ty := .boolean) rfl h_2 h_2f dX12_standsWord_33 (fun H locs hW => ?_)
  obtain ⟨S_1, eS_1⟩ : ∃ z : wS, z = uI S a0 28 (1 : Int32) := ⟨_, rfl⟩
  rw [← eS_1] at hW
  replace hp := hp S_1 eS_1
  have hX_S_1 : wX D S S_1 := by rw [eS_1]; exact wX_uI
  have hE := hE.trans hX_S_1
  have hK_a0 : sK S_1 a0 = 17 := (hX_S_1.2 a0 hL_a0).1.trans hK_a0
  have hL_a0 : wM D S_1 a0 := hX_S_1.M hL_a0
  refine lv_iload_n hx hb dX12_standsWord_36 rfl (lv_at hl 0 rfl) ?_
  exact w_zret hx hb hr hlocks hW hp.1 ⟨hE, hp.2⟩ dX12_standsWord_37
set_option maxHeartbeats 4000000 in
set_option maxRecDepth 100000 in
theorem t_X12_standsWord_0 {p : Program} {l : Launch} {e : Env} {s : State} {m : MethodId} {args : Array Value} {below : List Frame} {meth : Method} {c : Code} {D : wD} {cy : Nat → ClassId} {X : va_W} {A : Nat → Prop} {S0 : wS} {post : Int32 → wS → Prop} (F : CallFix p m c cX12_standsWord 4 s args wz_X12_standsWord RX12) (hr : meth.sig.returnType = (some .boolean)) (hlocks : meth.locks = false) (hK : wK D cy A s) : ∀ {S : wS} {H : Heap} {locs : List Loc} {ls : Array Slot} {a0 : Nat} {x1 : Int32} {x2 : Int32}, wp_X12_standsWord_0 D post S a0 x1 x2 → wO D cy X A s.heap S H locs → wX D S0 S → lv_has ls 4 [(0, .ref a0), (1, .int x1), (2, .int x2)] → wM D S a0 → sK S a0 = 17 → W p l e r_X12_standsWord s m args below meth c H locs 0 0 (MQ below (va_Qi (fun r S9 => wX D S0 S9 ∧ post r S9) (wB D cy X A) A) args s 0 0 A) (F0 m 0 ls []) := by
  obtain ⟨hx, hb, hml, hown, hts⟩ := id F
  have hwg : ∀ w ∈ WG, w.before args s = true := fun w h => hts w (List.mem_cons_of_mem _ h)
  have i_17 : ∀ w ∈ u_ws RX12 TX12 43, w ∈ wz_X12_standsWord := fun w h => List.mem_cons_of_mem _ (wu_17 w h)
  have k_121 := hwg _ wf_RX12_121
  have k_16 := hwg _ wf_RX12_16
  have k_354 := hwg _ wf_RX12_354
  have k_361 := hwg _ wf_RX12_361
  have k_367 := hwg _ wf_RX12_367
  have k_57 := hwg _ wf_RX12_57
  have k_63 := hwg _ wf_RX12_63
  intro S H locs ls a0 x1 x2 hp hW hE hl hL_a0 hK_a0
  unfold wp_X12_standsWord_0 at hp
  refine lv_aload_n hx hb dX12_standsWord_0 rfl (lv_at hl 0 rfl) ?_
  refine w_get (k := 17) (f := 29) (T := TX12) (v := .int (sI S a0 29)) F hK hW hL_a0 hK_a0 (by decide) rfl rfl (by decide) i_17 k_354 rfl dX12_standsWord_1 ?_
  refine lv_if_eq (tgt := 9) hx hb dX12_standsWord_4 (by decide) (fun c_1 => ?_) (fun c_1 => ?_)
  · replace hp := hp.1 c_1
    refine lv_aload_n hx hb dX12_standsWord_9 rfl (lv_at hl 0 rfl) ?_
    refine lv_iload_n hx hb dX12_standsWord_10 rfl (lv_at hl 1 rfl) ?_
    refine lv_iload_n hx hb dX12_standsWord_11 rfl (lv_at hl 2 rfl) ?_
    refine w_callI (va_runV (As := [.int x1, .int x2]) (rest := []) F (c_X12_isNumber l hL_a0 hK_a0 hp H.size) (cwV (C := RX12) 2 hts (wg_V wm_RX12_358 wy_X12_isNumber) rfl rfl rfl (by decide +kernel) ⟨Nat.le_of_ble_eq_true rfl, Nat.le_of_ble_eq_true rfl⟩) (w_preV hK hW hL_a0 hK_a0 (by decide) rfl) rfl rfl hl.1 rfl (lv_room (Nat.le_of_ble_eq_true rfl)) dX12_standsWord_12 ⟨Nat.le_of_ble_eq_true rfl, Nat.le_of_ble_eq_true rfl⟩) hW (fun r_2 S_3 H locs hp hW => ?_)
    obtain ⟨hX_S_3, hp⟩ := hp
    refine W.widen (k := 0) (n := 0) (by decide) (by decide) ?_
    have hE := hE.trans hX_S_3
    have hK_a0 : sK S_3 a0 = 17 := (hX_S_3.2 a0 hL_a0).1.trans hK_a0
    have hL_a0 : wM D S_3 a0 := hX_S_3.M hL_a0
    refine lv_if_eq (tgt := 38) hx hb dX12_standsWord_15 (by decide) (fun c_4 => ?_) (fun c_4 => ?_)
    · replace hp := hp.1 c_4
      refine lv_aload_n hx hb dX12_standsWord_38 rfl (lv_at hl 0 rfl) ?_
      refine lv_iload_n hx hb dX12_standsWord_39 rfl (lv_at hl 1 rfl) ?_
      refine lv_iload_n hx hb dX12_standsWord_40 rfl (lv_at hl 2 rfl) ?_
      refine w_callI (va_runV (As := [.int x1, .int x2]) (rest := []) F (c_X12_isResult l hL_a0 hK_a0 hp H.size) (cwV (C := RX12) 2 hts (wg_V wm_RX12_364 wy_X12_isResult) rfl rfl rfl (by decide +kernel) ⟨Nat.le_of_ble_eq_true rfl, Nat.le_of_ble_eq_true rfl⟩) (w_preV hK hW hL_a0 hK_a0 (by decide) rfl) rfl rfl hl.1 rfl (lv_room (Nat.le_of_ble_eq_true rfl)) dX12_standsWord_41 ⟨Nat.le_of_ble_eq_true rfl, Nat.le_of_ble_eq_true rfl⟩) hW (fun r_5 S_6 H locs hp hW => ?_)
      obtain ⟨hX_S_6, hp⟩ := hp
      refine W.widen (k := 0) (n := 0) (by decide) (by decide) ?_
      have hE := hE.trans hX_S_6
      have hK_a0 : sK S_6 a0 = 17 := (hX_S_6.2 a0 hL_a0).1.trans hK_a0
      have hL_a0 : wM D S_6 a0 := hX_S_6.M hL_a0
      refine lv_if_eq (tgt := 75) hx hb dX12_standsWord_44 (by decide) (fun c_7 => ?_) (fun c_7 => ?_)
      · replace hp := hp.1 c_7
        refine lv_bipush (v := 67) hx hb dX12_standsWord_75 (by decide) ?_
        refine lv_aload_n hx hb dX12_standsWord_77 rfl (lv_at hl 0 rfl) ?_
        obtain ⟨y_8, ey_8, hL_y_8, hK_y_8, hp⟩ := hp
        refine w_get (k := 17) (f := 20) (T := TX12) (v := .ref y_8) F hK hW hL_a0 hK_a0 (by decide) rfl rfl (by decide) i_17 k_57 (by rw [show wv 17 20 S_6 a0 = va_rf (sR S_6 a0 20) from rfl, ey_8]; rfl) dX12_standsWord_78 ?_
        refine lv_bipush (v := 67) hx hb dX12_standsWord_81 (by decide) ?_
        refine lv_aload_n hx hb dX12_standsWord_83 rfl (lv_at hl 0 rfl) ?_
        refine w_get (k := 17) (f := 27) (T := TX12) (v := .int (sI S_6 a0 27)) F hK hW hL_a0 hK_a0 (by decide) rfl rfl (by decide) i_17 k_367 rfl dX12_standsWord_84 ?_
        refine lv_imul hx hb dX12_standsWord_87 ?_
        refine lv_aload_n hx hb dX12_standsWord_88 rfl (lv_at hl 0 rfl) ?_
        obtain ⟨y_9, ey_9, hL_y_9, hK_y_9, hp⟩ := hp
        refine w_get (k := 17) (f := 3) (T := TX12) (v := .ref y_9) F hK hW hL_a0 hK_a0 (by decide) rfl rfl (by decide) i_17 k_16 (by rw [show wv 17 3 S_6 a0 = va_rf (sR S_6 a0 3) from rfl, ey_9]; rfl) dX12_standsWord_89 ?_
        refine lv_iconst (v := 0) hx hb dX12_standsWord_92 (by decide) ?_
        refine w_callV (va_runS (As := [.int (67 : Int32), .ref y_8, .int ((67 : Int32) * (sI S_6 a0 27)), .ref y_9, .int (0 : Int32)]) (rest := []) F (c_X12_copies l hL_y_8 hK_y_8 hL_y_9 hK_y_9 hp H.size) (va_cwS 5 hts (wg_S wm_RX12_130 wy_X12_copies) rfl rfl rfl (by decide +kernel) ⟨Nat.le_of_ble_eq_true rfl, Nat.le_of_ble_eq_true rfl⟩) (w_preS hK hW) rfl rfl hl.1 rfl (lv_room (Nat.le_of_ble_eq_true rfl)) dX12_standsWord_93 ⟨Nat.le_of_ble_eq_true rfl, Nat.le_of_ble_eq_true rfl⟩) hW (fun S_11 H locs hp hW => ?_)
        obtain ⟨hX_S_11, hp⟩ := hp
        refine W.widen (k := 0) (n := 0) (by decide) (by decide) ?_
        have hE := hE.trans hX_S_11
        have hK_a0 : sK S_11 a0 = 17 := (hX_S_11.2 a0 hL_a0).1.trans hK_a0
        have hL_a0 : wM D S_11 a0 := hX_S_11.M hL_a0
        refine lv_aload_n hx hb dX12_standsWord_96 rfl (lv_at hl 0 rfl) ?_
        refine w_get (k := 17) (f := 27) (T := TX12) (v := .int (sI S_11 a0 27)) F hK hW hL_a0 hK_a0 (by decide) rfl rfl (by decide) i_17 k_367 rfl dX12_standsWord_97 ?_
        refine lv_if_ne (tgt := 123) hx hb dX12_standsWord_100 (by decide) (fun c_12 => ?_) (fun c_12 => ?_)
        · replace hp := hp.1 c_12
          exact t_X12_standsWord_123 F hr hlocks hK hp hW hE (lv_sub hl [0, 1, 2] rfl) hL_a0 hK_a0
        · replace hp := hp.2 c_12
          refine lv_aload_n hx hb dX12_standsWord_103 rfl (lv_at hl 0 rfl) ?_
          refine w_get (k := 17) (f := 11) (T := TX12) (v := .int (sI S_11 a0 11)) F hK hW hL_a0 hK_a0 (by decide) rfl rfl (by decide) i_17 k_121 rfl dX12_standsWord_104 ?_
          refine lv_aload_n hx hb dX12_standsWord_107 rfl (lv_at hl 0 rfl) ?_
          obtain ⟨y_13, ey_13, hL_y_13, hK_y_13, hp⟩ := hp
          refine w_get (k := 17) (f := 22) (T := TX12) (v := .ref y_13) F hK hW hL_a0 hK_a0 (by decide) rfl rfl (by decide) i_17 k_63 (by rw [show wv 17 22 S_11 a0 = va_rf (sR S_11 a0 22) from rfl, ey_13]; rfl) dX12_standsWord_108 ?_
          refine lv_iconst (v := 0) hx hb dX12_standsWord_111 (by decide) ?_
          obtain ⟨h_14, hp⟩ := hp
          refine w_ild F hK hW hL_y_13 hK_y_13 h_14 dX12_standsWord_112 ?_
          refine lv_iadd hx hb dX12_standsWord_113 ?_
          refine lv_bipush (v := 80) hx hb dX12_standsWord_114 (by decide) ?_
          refine lv_icmp_lt (tgt := 123) hx hb dX12_standsWord_116 (by decide) (fun c_15 => ?_) (fun c_15 => ?_)
          · replace hp := hp.1 c_15
            exact t_X12_standsWord_123 F hr hlocks hK hp hW hE (lv_sub hl [0, 1, 2] rfl) hL_a0 hK_a0
          · replace hp := hp.2 c_15
            refine lv_iconst (v := (-1)) hx hb dX12_standsWord_119 (by decide) ?_
            refine lv_goto (tgt := 129) hx hb dX12_standsWord_120 (by decide) ?_
            exact t_X12_standsWord_129 F hr hlocks hK hp hW hE (lv_sub hl [0] rfl) hL_a0 hK_a0
      · replace hp := hp.2 c_7
        refine lv_aload_n hx hb dX12_standsWord_47 rfl (lv_at hl 0 rfl) ?_
        refine lv_aload_n hx hb dX12_standsWord_48 rfl (lv_at hl 0 rfl) ?_
        refine w_get (k := 17) (f := 27) (T := TX12) (v := .int (sI S_6 a0 27)) F hK hW hL_a0 hK_a0 (by decide) rfl rfl (by decide) i_17 k_367 rfl dX12_standsWord_49 ?_
        refine lv_if_ne (tgt := 66) hx hb dX12_standsWord_52 (by decide) (fun c_16 => ?_) (fun c_16 => ?_)
        · replace hp := hp.1 c_16
          exact t_X12_standsWord_66 F hr hlocks hK hp hW hE (lv_sub hl [0] rfl) hL_a0 hK_a0 hL_a0 hK_a0
        · replace hp := hp.2 c_16
          refine lv_aload_n hx hb dX12_standsWord_55 rfl (lv_at hl 0 rfl) ?_
          refine w_get (k := 17) (f := 28) (T := TX12) (v := .int (sI S_6 a0 28)) F hK hW hL_a0 hK_a0 (by decide) rfl rfl (by decide) i_17 k_361 rfl dX12_standsWord_56 ?_
          refine lv_if_ne (tgt := 66) hx hb dX12_standsWord_59 (by decide) (fun c_17 => ?_) (fun c_17 => ?_)
          · replace hp := hp.1 c_17
            exact t_X12_standsWord_66 F hr hlocks hK hp hW hE (lv_sub hl [0] rfl) hL_a0 hK_a0 hL_a0 hK_a0
          · replace hp := hp.2 c_17
            refine lv_iconst (v := 1) hx hb dX12_standsWord_62 (by decide) ?_
            refine lv_goto (tgt := 67) hx hb dX12_standsWord_63 (by decide) ?_
            exact t_X12_standsWord_67 F hr hlocks hK hp hW hE (lv_sub hl [0] rfl) hL_a0 hK_a0 hL_a0 hK_a0
    · replace hp := hp.2 c_4
      refine lv_aload_n hx hb dX12_standsWord_18 rfl (lv_at hl 0 rfl) ?_
      refine w_get (k := 17) (f := 28) (T := TX12) (v := .int (sI S_3 a0 28)) F hK hW hL_a0 hK_a0 (by decide) rfl rfl (by decide) i_17 k_361 rfl dX12_standsWord_19 ?_
      refine lv_if_ne (tgt := 29) hx hb dX12_standsWord_22 (by decide) (fun c_18 => ?_) (fun c_18 => ?_)
      · replace hp := hp.1 c_18
        refine lv_iconst (v := 0) hx hb dX12_standsWord_29 (by decide) ?_
        exact t_X12_standsWord_30 F hr hlocks hK hp hW hE (lv_sub hl [0] rfl) hL_a0 hK_a0
      · replace hp := hp.2 c_18
        refine lv_iconst (v := 1) hx hb dX12_standsWord_25 (by decide) ?_
        refine lv_goto (tgt := 30) hx hb dX12_standsWord_26 (by decide) ?_
        exact t_X12_standsWord_30 F hr hlocks hK hp hW hE (lv_sub hl [0] rfl) hL_a0 hK_a0
  · replace hp := hp.2 c_1
    refine lv_iconst (v := 0) hx hb dX12_standsWord_7 (by decide) ?_
    exact w_zret hx hb hr hlocks hW hp.1 ⟨hE, hp.2⟩ dX12_standsWord_8
set_option maxHeartbeats 4000000 in
set_option maxRecDepth 100000 in
theorem c_X12_standsWord (l : Launch) {D : wD} {cy : Nat → ClassId} {X : va_W} {S0 : wS} {post : Int32 → wS → Prop} {a0 : Nat} {x1 : Int32} {x2 : Int32} (hL_a0 : wM D S0 a0) (hK_a0 : sK S0 a0 = 17) (hp : wp_X12_standsWord D post S0 a0 x1 x2) : mI D cy X l yX12_standsWord wz_X12_standsWord r_X12_standsWord [.ref a0, .int x1, .int x2] S0 (fun r S9 => wX D S0 S9 ∧ post r S9) := by
  intro sz
  refine Met.ofW (cc := cX12_standsWord) (maxL := 4) (ret := (some .boolean)) (by decide) rfl ?_
  intro p e s m args below meth c s₁ B hml hv
  obtain ⟨rfl, hsz, hP, hK, hD0, hRO⟩ := hv
  have hts := atoms_spec (ws := wz_X12_standsWord) B.pre
  have hown : s.vm.findClass RX12 = some m.cls := findClass_of_methodNamed B.named
  subst hsz
  have hD := hD0.self (sz := s.heap.size)
  have F : CallFix p m c cX12_standsWord 4 s _ wz_X12_standsWord RX12 := ⟨B.exec, B.bytes, hml, hown, hts⟩
  have hr := B.returns
  have hlocks := B.notSynchronized
  generalize hAe : va_A (wL cy X S0) s.heap.size = A at hD hK ⊢
  have hA : ∀ q, s.heap.size ≤ q → A q := fun q h => by rw [← hAe]; exact Or.inr h
  have hW : wO D cy X A s.heap S0 s.heap [] := ⟨hP, hD, va_S.rf, hA, hRO⟩
  have hl := lv_entry ([.ref a0, .int x1, .int x2]) (n := 4) (Nat.le_of_ble_eq_true rfl)
  rw [lg_entry_eq]
  generalize (lg_sl ([.ref a0, .int x1, .int x2]) ++ List.replicate (4 - (lg_sl ([.ref a0, .int x1, .int x2])).length) Slot.unset).toArray = ls at hl ⊢
  have hl : lv_has ls 4 [(0, .ref a0), (1, .int x1), (2, .int x2)] := hl
  unfold wp_X12_standsWord at hp
  exact t_X12_standsWord_0 F hr hlocks hK hp hW wX.rf (lv_sub hl [0, 1, 2] rfl) hL_a0 hK_a0
def wp_X12_standsNext_168 (D : wD) (post : Int32 → wS → Prop)  (S : wS) (a0 : Nat) : Prop :=
((¬ (sI S a0 24) = (sI S a0 13) → ∀ S_2 : wS, S_2 = uI S a0 24 ((sI S a0 24) + (1 : Int32)) →
narrow .boolean (.int (1 : Int32)) = .int (1 : Int32) ∧ post (1 : Int32) S_2) ∧
 ((sI S a0 24) = (sI S a0 13) → ∀ S_3 : wS, S_3 = uI S a0 25 (sI S a0 13) →
narrow .boolean (.int (0 : Int32)) = .int (0 : Int32) ∧ post (0 : Int32) S_3))
def wp_X12_standsNext_130 (D : wD) (post : Int32 → wS → Prop)  : Nat → wS → Nat → Prop
  | 0, _, _ => False
  | n + 1, S, a0 =>
    (((sI S a0 13) ≤ (sI S a0 24) → wp_X12_standsNext_168 D post S a0) ∧
     (¬ (sI S a0 13) ≤ (sI S a0 24) → ∃ y_2 : Nat, sR S a0 12 = some y_2 ∧ wM D S y_2 ∧ sK S y_2 = 21 ∧
    vp_in (sI S a0 24) (sN S y_2) ∧
    (((sI S y_2 ((sI S a0 24)).toNatClampNeg) = (125 : Int32) → wp_X12_standsNext_168 D post S a0) ∧
     (¬ (sI S y_2 ((sI S a0 24)).toNatClampNeg) = (125 : Int32) → ∀ S_5 : wS, S_5 = uI S a0 24 ((sI S a0 24) + (1 : Int32)) →
    wp_X12_standsNext_130 D post n S_5 a0))))
def wp_X12_standsNext_122 (D : wD) (post : Int32 → wS → Prop)  (S : wS) (a0 : Nat) (x2 : Int32) : Prop :=
((x2 = (123 : Int32) → ∃ n_2 : Nat, wp_X12_standsNext_130 D post n_2 S a0) ∧
 (¬ x2 = (123 : Int32) → narrow .boolean (.int (1 : Int32)) = .int (1 : Int32) ∧ post (1 : Int32) S))
def wp_X12_standsNext_115 (D : wD) (post : Int32 → wS → Prop)  (S : wS) (a0 : Nat) (x1 : Int32) : Prop :=
∀ S_1 : wS, S_1 = uI S a0 25 x1 →
narrow .boolean (.int (0 : Int32)) = .int (0 : Int32) ∧ post (0 : Int32) S_1
def wp_X12_standsNext_85 (D : wD) (post : Int32 → wS → Prop)  (S : wS) (a0 : Nat) (x1 : Int32) (x2 : Int32) : Prop :=
wp_X12_isBracket D (fun r_1 S_2 => 
((r_1 = 0 → wp_X12_standsWord D (fun r_4 S_5 => 
((¬ r_4 = 0 → wp_X12_standsNext_122 D post S_5 a0 x2) ∧
 (r_4 = 0 → wp_X12_standsNext_115 D post S_5 a0 x1))) S_2 a0 x1 (sI S_2 a0 24)) ∧
 (¬ r_1 = 0 → wp_X12_standsBracket D (fun r_7 S_8 => 
((¬ r_7 = 0 → wp_X12_standsNext_122 D post S_8 a0 x2) ∧
 (r_7 = 0 → wp_X12_standsNext_115 D post S_8 a0 x1))) S_2 a0 x2))) S x2
def wp_X12_standsNext_25 (D : wD) (post : Int32 → wS → Prop)  : Nat → wS → Nat → Int32 → Int32 → Prop
  | 0, _, _, _, _ => False
  | n + 1, S, a0, x1, x2 =>
    wp_X12_isBracket D (fun r_1 S_2 => 
    ((¬ r_1 = 0 → wp_X12_standsNext_85 D post S_2 a0 x1 x2) ∧
     (r_1 = 0 → (((sI S_2 a0 13) ≤ (sI S_2 a0 24) → wp_X12_standsNext_85 D post S_2 a0 x1 x2) ∧
     (¬ (sI S_2 a0 13) ≤ (sI S_2 a0 24) → ∃ y_5 : Nat, sR S_2 a0 12 = some y_5 ∧ wM D S_2 y_5 ∧ sK S_2 y_5 = 21 ∧
    vp_in (sI S_2 a0 24) (sN S_2 y_5) ∧
    (((sI S_2 y_5 ((sI S_2 a0 24)).toNatClampNeg) = (32 : Int32) → wp_X12_standsNext_85 D post S_2 a0 x1 x2) ∧
     (¬ (sI S_2 y_5 ((sI S_2 a0 24)).toNatClampNeg) = (32 : Int32) → ∃ y_8 : Nat, sR S_2 a0 12 = some y_8 ∧ wM D S_2 y_8 ∧ sK S_2 y_8 = 21 ∧
    vp_in (sI S_2 a0 24) (sN S_2 y_8) ∧
    wp_X12_isBracket D (fun r_10 S_11 => 
    ((¬ r_10 = 0 → wp_X12_standsNext_85 D post S_11 a0 x1 x2) ∧
     (r_10 = 0 → ∀ S_13 : wS, S_13 = uI S_11 a0 24 ((sI S_11 a0 24) + (1 : Int32)) →
    wp_X12_standsNext_25 D post n S_13 a0 x1 x2))) S_2 (sI S_2 y_8 ((sI S_2 a0 24)).toNatClampNeg)))))))) S x2
def wp_X12_standsNext_0 (D : wD) (post : Int32 → wS → Prop)  (S : wS) (a0 : Nat) : Prop :=
∀ x_1 : Int32, x_1 = (sI S a0 24) →
∃ y_2 : Nat, sR S a0 12 = some y_2 ∧ wM D S y_2 ∧ sK S y_2 = 21 ∧
vp_in (sI S a0 24) (sN S y_2) ∧
∀ x_4 : Int32, x_4 = (sI S y_2 ((sI S a0 24)).toNatClampNeg) →
∀ S_5 : wS, S_5 = uI S a0 24 ((sI S a0 24) + (1 : Int32)) →
∃ n_6 : Nat, wp_X12_standsNext_25 D post n_6 S_5 a0 x_1 x_4
abbrev r_X12_standsNext : Room := { frames := 12, cells := 0, slots := 0, locals := 290 }
def wp_X12_standsNext (D : wD) (post : Int32 → wS → Prop) (S : wS) (a0 : Nat) : Prop := wp_X12_standsNext_0 D post S a0
set_option maxHeartbeats 4000000 in
set_option maxRecDepth 100000 in
theorem t_X12_standsNext_168 {p : Program} {l : Launch} {e : Env} {s : State} {m : MethodId} {args : Array Value} {below : List Frame} {meth : Method} {c : Code} {D : wD} {cy : Nat → ClassId} {X : va_W} {A : Nat → Prop} {S0 : wS} {post : Int32 → wS → Prop} (F : CallFix p m c cX12_standsNext 3 s args wz_X12_standsNext RX12) (hr : meth.sig.returnType = (some .boolean)) (hlocks : meth.locks = false) (hK : wK D cy A s) : ∀ {S : wS} {H : Heap} {locs : List Loc} {ls : Array Slot} {a0 : Nat}, wp_X12_standsNext_168 D post S a0 → wO D cy X A s.heap S H locs → wX D S0 S → lv_has ls 3 [(0, .ref a0)] → wM D S a0 → sK S a0 = 17 → W p l e r_X12_standsNext s m args below meth c H locs 0 0 (MQ below (va_Qi (fun r S9 => wX D S0 S9 ∧ post r S9) (wB D cy X A) A) args s 0 0 A) (F0 m 168 ls []) := by
  obtain ⟨hx, hb, hml, hown, hts⟩ := id F
  have hwg : ∀ w ∈ WG, w.before args s = true := fun w h => hts w (List.mem_cons_of_mem _ h)
  have i_17 : ∀ w ∈ u_ws RX12 TX12 43, w ∈ wz_X12_standsNext := fun w h => List.mem_cons_of_mem _ (wu_17 w h)
  have k_259 := hwg _ wf_RX12_259
  have k_262 := hwg _ wf_RX12_262
  have k_376 := hwg _ wf_RX12_376
  intro S H locs ls a0 hp hW hE hl hL_a0 hK_a0
  unfold wp_X12_standsNext_168 at hp
  refine lv_aload_n hx hb dX12_standsNext_168 rfl (lv_at hl 0 rfl) ?_
  refine w_get (k := 17) (f := 24) (T := TX12) (v := .int (sI S a0 24)) F hK hW hL_a0 hK_a0 (by decide) rfl rfl (by decide) i_17 k_262 rfl dX12_standsNext_169 ?_
  refine lv_aload_n hx hb dX12_standsNext_172 rfl (lv_at hl 0 rfl) ?_
  refine w_get (k := 17) (f := 13) (T := TX12) (v := .int (sI S a0 13)) F hK hW hL_a0 hK_a0 (by decide) rfl rfl (by decide) i_17 k_259 rfl dX12_standsNext_173 ?_
  refine lv_icmp_ne (tgt := 189) hx hb dX12_standsNext_176 (by decide) (fun c_1 => ?_) (fun c_1 => ?_)
  · replace hp := hp.1 c_1
    refine lv_aload_n hx hb dX12_standsNext_189 rfl (lv_at hl 0 rfl) ?_
    refine lv_dup hx hb dX12_standsNext_190 rfl ?_
    refine w_get (k := 17) (f := 24) (T := TX12) (v := .int (sI S a0 24)) F hK hW hL_a0 hK_a0 (by decide) rfl rfl (by decide) i_17 k_262 rfl dX12_standsNext_191 ?_
    refine lv_iconst (v := 1) hx hb dX12_standsNext_194 (by decide) ?_
    refine lv_iadd hx hb dX12_standsNext_195 ?_
    refine w_putI (k := 17) (f := 24) (T := TX12) F hK hW hL_a0 hK_a0 (by decide) (by decide) rfl rfl (by decide) i_17 tyX12 tyX12_ok nmX12 k_262 rfl rfl (ty := .int) rfl rfl rfl dX12_standsNext_196 (fun H locs hW => ?_)
    obtain ⟨S_2, eS_2⟩ : ∃ z : wS, z = uI S a0 24 ((sI S a0 24) + (1 : Int32)) := ⟨_, rfl⟩
    rw [← eS_2] at hW
    replace hp := hp S_2 eS_2
    have hX_S_2 : wX D S S_2 := by rw [eS_2]; exact wX_uI
    have hE := hE.trans hX_S_2
    have hK_a0 : sK S_2 a0 = 17 := (hX_S_2.2 a0 hL_a0).1.trans hK_a0
    have hL_a0 : wM D S_2 a0 := hX_S_2.M hL_a0
    refine lv_iconst (v := 1) hx hb dX12_standsNext_199 (by decide) ?_
    exact w_zret hx hb hr hlocks hW hp.1 ⟨hE, hp.2⟩ dX12_standsNext_200
  · replace hp := hp.2 c_1
    refine lv_aload_n hx hb dX12_standsNext_179 rfl (lv_at hl 0 rfl) ?_
    refine lv_aload_n hx hb dX12_standsNext_180 rfl (lv_at hl 0 rfl) ?_
    refine w_get (k := 17) (f := 13) (T := TX12) (v := .int (sI S a0 13)) F hK hW hL_a0 hK_a0 (by decide) rfl rfl (by decide) i_17 k_259 rfl dX12_standsNext_181 ?_
    refine w_putI (k := 17) (f := 25) (T := TX12) F hK hW hL_a0 hK_a0 (by decide) (by decide) rfl rfl (by decide) i_17 tyX12 tyX12_ok nmX12 k_376 rfl rfl (ty := .int) rfl rfl rfl dX12_standsNext_184 (fun H locs hW => ?_)
    obtain ⟨S_3, eS_3⟩ : ∃ z : wS, z = uI S a0 25 (sI S a0 13) := ⟨_, rfl⟩
    rw [← eS_3] at hW
    replace hp := hp S_3 eS_3
    have hX_S_3 : wX D S S_3 := by rw [eS_3]; exact wX_uI
    have hE := hE.trans hX_S_3
    have hK_a0 : sK S_3 a0 = 17 := (hX_S_3.2 a0 hL_a0).1.trans hK_a0
    have hL_a0 : wM D S_3 a0 := hX_S_3.M hL_a0
    refine lv_iconst (v := 0) hx hb dX12_standsNext_187 (by decide) ?_
    exact w_zret hx hb hr hlocks hW hp.1 ⟨hE, hp.2⟩ dX12_standsNext_188
set_option maxHeartbeats 4000000 in
set_option maxRecDepth 100000 in
theorem t_X12_standsNext_130 {p : Program} {l : Launch} {e : Env} {s : State} {m : MethodId} {args : Array Value} {below : List Frame} {meth : Method} {c : Code} {D : wD} {cy : Nat → ClassId} {X : va_W} {A : Nat → Prop} {S0 : wS} {post : Int32 → wS → Prop} (F : CallFix p m c cX12_standsNext 3 s args wz_X12_standsNext RX12) (hr : meth.sig.returnType = (some .boolean)) (hlocks : meth.locks = false) (hK : wK D cy A s) : ∀ (n : Nat) {S : wS} {H : Heap} {locs : List Loc} {ls : Array Slot} {a0 : Nat}, wp_X12_standsNext_130 D post n S a0 → wO D cy X A s.heap S H locs → wX D S0 S → lv_has ls 3 [(0, .ref a0)] → wM D S a0 → sK S a0 = 17 → W p l e r_X12_standsNext s m args below meth c H locs 0 0 (MQ below (va_Qi (fun r S9 => wX D S0 S9 ∧ post r S9) (wB D cy X A) A) args s 0 0 A) (F0 m 130 ls []) := by
  obtain ⟨hx, hb, hml, hown, hts⟩ := id F
  have hwg : ∀ w ∈ WG, w.before args s = true := fun w h => hts w (List.mem_cons_of_mem _ h)
  have i_17 : ∀ w ∈ u_ws RX12 TX12 43, w ∈ wz_X12_standsNext := fun w h => List.mem_cons_of_mem _ (wu_17 w h)
  have k_259 := hwg _ wf_RX12_259
  have k_262 := hwg _ wf_RX12_262
  have k_42 := hwg _ wf_RX12_42
  intro n
  induction n with
  | zero =>
    intro S H locs ls a0 hp
    exact hp.elim
  | succ n ih =>
    intro S H locs ls a0 hp hW hE hl hL_a0 hK_a0
    unfold wp_X12_standsNext_130 at hp
    refine lv_aload_n hx hb dX12_standsNext_130 rfl (lv_at hl 0 rfl) ?_
    refine w_get (k := 17) (f := 24) (T := TX12) (v := .int (sI S a0 24)) F hK hW hL_a0 hK_a0 (by decide) rfl rfl (by decide) i_17 k_262 rfl dX12_standsNext_131 ?_
    refine lv_aload_n hx hb dX12_standsNext_134 rfl (lv_at hl 0 rfl) ?_
    refine w_get (k := 17) (f := 13) (T := TX12) (v := .int (sI S a0 13)) F hK hW hL_a0 hK_a0 (by decide) rfl rfl (by decide) i_17 k_259 rfl dX12_standsNext_135 ?_
    refine lv_icmp_ge (tgt := 168) hx hb dX12_standsNext_138 (by decide) (fun c_1 => ?_) (fun c_1 => ?_)
    · replace hp := hp.1 c_1
      exact t_X12_standsNext_168 F hr hlocks hK hp hW hE (lv_sub hl [0] rfl) hL_a0 hK_a0
    · replace hp := hp.2 c_1
      refine lv_aload_n hx hb dX12_standsNext_141 rfl (lv_at hl 0 rfl) ?_
      obtain ⟨y_2, ey_2, hL_y_2, hK_y_2, hp⟩ := hp
      refine w_get (k := 17) (f := 12) (T := TX12) (v := .ref y_2) F hK hW hL_a0 hK_a0 (by decide) rfl rfl (by decide) i_17 k_42 (by rw [show wv 17 12 S a0 = va_rf (sR S a0 12) from rfl, ey_2]; rfl) dX12_standsNext_142 ?_
      refine lv_aload_n hx hb dX12_standsNext_145 rfl (lv_at hl 0 rfl) ?_
      refine w_get (k := 17) (f := 24) (T := TX12) (v := .int (sI S a0 24)) F hK hW hL_a0 hK_a0 (by decide) rfl rfl (by decide) i_17 k_262 rfl dX12_standsNext_146 ?_
      obtain ⟨h_3, hp⟩ := hp
      refine w_ild F hK hW hL_y_2 hK_y_2 h_3 dX12_standsNext_149 ?_
      refine lv_bipush (v := 125) hx hb dX12_standsNext_150 (by decide) ?_
      refine lv_icmp_eq (tgt := 168) hx hb dX12_standsNext_152 (by decide) (fun c_4 => ?_) (fun c_4 => ?_)
      · replace hp := hp.1 c_4
        exact t_X12_standsNext_168 F hr hlocks hK hp hW hE (lv_sub hl [0] rfl) hL_a0 hK_a0
      · replace hp := hp.2 c_4
        refine lv_aload_n hx hb dX12_standsNext_155 rfl (lv_at hl 0 rfl) ?_
        refine lv_dup hx hb dX12_standsNext_156 rfl ?_
        refine w_get (k := 17) (f := 24) (T := TX12) (v := .int (sI S a0 24)) F hK hW hL_a0 hK_a0 (by decide) rfl rfl (by decide) i_17 k_262 rfl dX12_standsNext_157 ?_
        refine lv_iconst (v := 1) hx hb dX12_standsNext_160 (by decide) ?_
        refine lv_iadd hx hb dX12_standsNext_161 ?_
        refine w_putI (k := 17) (f := 24) (T := TX12) F hK hW hL_a0 hK_a0 (by decide) (by decide) rfl rfl (by decide) i_17 tyX12 tyX12_ok nmX12 k_262 rfl rfl (ty := .int) rfl rfl rfl dX12_standsNext_162 (fun H locs hW => ?_)
        obtain ⟨S_5, eS_5⟩ : ∃ z : wS, z = uI S a0 24 ((sI S a0 24) + (1 : Int32)) := ⟨_, rfl⟩
        rw [← eS_5] at hW
        replace hp := hp S_5 eS_5
        have hX_S_5 : wX D S S_5 := by rw [eS_5]; exact wX_uI
        have hE := hE.trans hX_S_5
        have hK_a0 : sK S_5 a0 = 17 := (hX_S_5.2 a0 hL_a0).1.trans hK_a0
        have hL_a0 : wM D S_5 a0 := hX_S_5.M hL_a0
        refine lv_goto (tgt := 130) hx hb dX12_standsNext_165 (by decide) ?_
        exact ih hp hW hE (lv_sub hl [0] rfl) hL_a0 hK_a0
set_option maxHeartbeats 4000000 in
set_option maxRecDepth 100000 in
theorem t_X12_standsNext_122 {p : Program} {l : Launch} {e : Env} {s : State} {m : MethodId} {args : Array Value} {below : List Frame} {meth : Method} {c : Code} {D : wD} {cy : Nat → ClassId} {X : va_W} {A : Nat → Prop} {S0 : wS} {post : Int32 → wS → Prop} (F : CallFix p m c cX12_standsNext 3 s args wz_X12_standsNext RX12) (hr : meth.sig.returnType = (some .boolean)) (hlocks : meth.locks = false) (hK : wK D cy A s) : ∀ {S : wS} {H : Heap} {locs : List Loc} {ls : Array Slot} {a0 : Nat} {x2 : Int32}, wp_X12_standsNext_122 D post S a0 x2 → wO D cy X A s.heap S H locs → wX D S0 S → lv_has ls 3 [(0, .ref a0), (2, .int x2)] → wM D S a0 → sK S a0 = 17 → W p l e r_X12_standsNext s m args below meth c H locs 0 0 (MQ below (va_Qi (fun r S9 => wX D S0 S9 ∧ post r S9) (wB D cy X A) A) args s 0 0 A) (F0 m 122 ls []) := by
  obtain ⟨hx, hb, hml, hown, hts⟩ := id F
  have hwg : ∀ w ∈ WG, w.before args s = true := fun w h => hts w (List.mem_cons_of_mem _ h)
  intro S H locs ls a0 x2 hp hW hE hl hL_a0 hK_a0
  unfold wp_X12_standsNext_122 at hp
  refine lv_iload_n hx hb dX12_standsNext_122 rfl (lv_at hl 1 rfl) ?_
  refine lv_bipush (v := 123) hx hb dX12_standsNext_123 (by decide) ?_
  refine lv_icmp_eq (tgt := 130) hx hb dX12_standsNext_125 (by decide) (fun c_1 => ?_) (fun c_1 => ?_)
  · replace hp := hp.1 c_1
    obtain ⟨n_2, hp⟩ := hp
    exact t_X12_standsNext_130 F hr hlocks hK n_2 hp hW hE (lv_sub hl [0] rfl) hL_a0 hK_a0
  · replace hp := hp.2 c_1
    refine lv_iconst (v := 1) hx hb dX12_standsNext_128 (by decide) ?_
    exact w_zret hx hb hr hlocks hW hp.1 ⟨hE, hp.2⟩ dX12_standsNext_129
set_option maxHeartbeats 4000000 in
set_option maxRecDepth 100000 in
theorem t_X12_standsNext_115 {p : Program} {l : Launch} {e : Env} {s : State} {m : MethodId} {args : Array Value} {below : List Frame} {meth : Method} {c : Code} {D : wD} {cy : Nat → ClassId} {X : va_W} {A : Nat → Prop} {S0 : wS} {post : Int32 → wS → Prop} (F : CallFix p m c cX12_standsNext 3 s args wz_X12_standsNext RX12) (hr : meth.sig.returnType = (some .boolean)) (hlocks : meth.locks = false) (hK : wK D cy A s) : ∀ {S : wS} {H : Heap} {locs : List Loc} {ls : Array Slot} {a0 : Nat} {x1 : Int32}, wp_X12_standsNext_115 D post S a0 x1 → wO D cy X A s.heap S H locs → wX D S0 S → lv_has ls 3 [(0, .ref a0), (1, .int x1)] → wM D S a0 → sK S a0 = 17 → W p l e r_X12_standsNext s m args below meth c H locs 0 0 (MQ below (va_Qi (fun r S9 => wX D S0 S9 ∧ post r S9) (wB D cy X A) A) args s 0 0 A) (F0 m 115 ls []) := by
  obtain ⟨hx, hb, hml, hown, hts⟩ := id F
  have hwg : ∀ w ∈ WG, w.before args s = true := fun w h => hts w (List.mem_cons_of_mem _ h)
  have i_17 : ∀ w ∈ u_ws RX12 TX12 43, w ∈ wz_X12_standsNext := fun w h => List.mem_cons_of_mem _ (wu_17 w h)
  have k_376 := hwg _ wf_RX12_376
  intro S H locs ls a0 x1 hp hW hE hl hL_a0 hK_a0
  unfold wp_X12_standsNext_115 at hp
  refine lv_aload_n hx hb dX12_standsNext_115 rfl (lv_at hl 0 rfl) ?_
  refine lv_iload_n hx hb dX12_standsNext_116 rfl (lv_at hl 1 rfl) ?_
  refine w_putI (k := 17) (f := 25) (T := TX12) F hK hW hL_a0 hK_a0 (by decide) (by decide) rfl rfl (by decide) i_17 tyX12 tyX12_ok nmX12 k_376 rfl rfl (ty := .int) rfl rfl rfl dX12_standsNext_117 (fun H locs hW => ?_)
  obtain ⟨S_1, eS_1⟩ : ∃ z : wS, z = uI S a0 25 x1 := ⟨_, rfl⟩
  rw [← eS_1] at hW
  replace hp := hp S_1 eS_1
  have hX_S_1 : wX D S S_1 := by rw [eS_1]; exact wX_uI
  have hE := hE.trans hX_S_1
  have hK_a0 : sK S_1 a0 = 17 := (hX_S_1.2 a0 hL_a0).1.trans hK_a0
  have hL_a0 : wM D S_1 a0 := hX_S_1.M hL_a0
  refine lv_iconst (v := 0) hx hb dX12_standsNext_120 (by decide) ?_
  exact w_zret hx hb hr hlocks hW hp.1 ⟨hE, hp.2⟩ dX12_standsNext_121
set_option maxHeartbeats 4000000 in
set_option maxRecDepth 100000 in
theorem t_X12_standsNext_85 {p : Program} {l : Launch} {e : Env} {s : State} {m : MethodId} {args : Array Value} {below : List Frame} {meth : Method} {c : Code} {D : wD} {cy : Nat → ClassId} {X : va_W} {A : Nat → Prop} {S0 : wS} {post : Int32 → wS → Prop} (F : CallFix p m c cX12_standsNext 3 s args wz_X12_standsNext RX12) (hr : meth.sig.returnType = (some .boolean)) (hlocks : meth.locks = false) (hK : wK D cy A s) : ∀ {S : wS} {H : Heap} {locs : List Loc} {ls : Array Slot} {a0 : Nat} {x1 : Int32} {x2 : Int32}, wp_X12_standsNext_85 D post S a0 x1 x2 → wO D cy X A s.heap S H locs → wX D S0 S → lv_has ls 3 [(0, .ref a0), (1, .int x1), (2, .int x2)] → wM D S a0 → sK S a0 = 17 → W p l e r_X12_standsNext s m args below meth c H locs 0 0 (MQ below (va_Qi (fun r S9 => wX D S0 S9 ∧ post r S9) (wB D cy X A) A) args s 0 0 A) (F0 m 85 ls []) := by
  obtain ⟨hx, hb, hml, hown, hts⟩ := id F
  have hwg : ∀ w ∈ WG, w.before args s = true := fun w h => hts w (List.mem_cons_of_mem _ h)
  have i_17 : ∀ w ∈ u_ws RX12 TX12 43, w ∈ wz_X12_standsNext := fun w h => List.mem_cons_of_mem _ (wu_17 w h)
  have k_262 := hwg _ wf_RX12_262
  intro S H locs ls a0 x1 x2 hp hW hE hl hL_a0 hK_a0
  unfold wp_X12_standsNext_85 at hp
  refine lv_iload_n hx hb dX12_standsNext_85 rfl (lv_at hl 2 rfl) ?_
  refine w_callI (va_runS (As := [.int x2]) (rest := []) F (c_X12_isBracket l hp H.size) (va_cwS 1 hts (wg_S wm_RX12_382 wy_X12_isBracket) rfl rfl rfl (by decide +kernel) ⟨Nat.le_of_ble_eq_true rfl, Nat.le_of_ble_eq_true rfl⟩) (w_preS hK hW) rfl rfl hl.1 rfl (lv_room (Nat.le_of_ble_eq_true rfl)) dX12_standsNext_86 ⟨Nat.le_of_ble_eq_true rfl, Nat.le_of_ble_eq_true rfl⟩) hW (fun r_1 S_2 H locs hp hW => ?_)
  obtain ⟨hX_S_2, hp⟩ := hp
  refine W.widen (k := 0) (n := 0) (by decide) (by decide) ?_
  have hE := hE.trans hX_S_2
  have hK_a0 : sK S_2 a0 = 17 := (hX_S_2.2 a0 hL_a0).1.trans hK_a0
  have hL_a0 : wM D S_2 a0 := hX_S_2.M hL_a0
  refine lv_if_eq (tgt := 103) hx hb dX12_standsNext_89 (by decide) (fun c_3 => ?_) (fun c_3 => ?_)
  · replace hp := hp.1 c_3
    refine lv_aload_n hx hb dX12_standsNext_103 rfl (lv_at hl 0 rfl) ?_
    refine lv_iload_n hx hb dX12_standsNext_104 rfl (lv_at hl 1 rfl) ?_
    refine lv_aload_n hx hb dX12_standsNext_105 rfl (lv_at hl 0 rfl) ?_
    refine w_get (k := 17) (f := 24) (T := TX12) (v := .int (sI S_2 a0 24)) F hK hW hL_a0 hK_a0 (by decide) rfl rfl (by decide) i_17 k_262 rfl dX12_standsNext_106 ?_
    refine w_callI (va_runV (As := [.int x1, .int (sI S_2 a0 24)]) (rest := []) F (c_X12_standsWord l hL_a0 hK_a0 hp H.size) (cwV (C := RX12) 2 hts (wg_V wm_RX12_388 wy_X12_standsWord) rfl rfl rfl (by decide +kernel) ⟨Nat.le_of_ble_eq_true rfl, Nat.le_of_ble_eq_true rfl⟩) (w_preV hK hW hL_a0 hK_a0 (by decide) rfl) rfl rfl hl.1 rfl (lv_room (Nat.le_of_ble_eq_true rfl)) dX12_standsNext_109 ⟨Nat.le_of_ble_eq_true rfl, Nat.le_of_ble_eq_true rfl⟩) hW (fun r_4 S_5 H locs hp hW => ?_)
    obtain ⟨hX_S_5, hp⟩ := hp
    refine W.widen (k := 0) (n := 0) (by decide) (by decide) ?_
    have hE := hE.trans hX_S_5
    have hK_a0 : sK S_5 a0 = 17 := (hX_S_5.2 a0 hL_a0).1.trans hK_a0
    have hL_a0 : wM D S_5 a0 := hX_S_5.M hL_a0
    refine lv_if_ne (tgt := 122) hx hb dX12_standsNext_112 (by decide) (fun c_6 => ?_) (fun c_6 => ?_)
    · replace hp := hp.1 c_6
      exact t_X12_standsNext_122 F hr hlocks hK hp hW hE (lv_sub hl [0, 2] rfl) hL_a0 hK_a0
    · replace hp := hp.2 c_6
      exact t_X12_standsNext_115 F hr hlocks hK hp hW hE (lv_sub hl [0, 1] rfl) hL_a0 hK_a0
  · replace hp := hp.2 c_3
    refine lv_aload_n hx hb dX12_standsNext_92 rfl (lv_at hl 0 rfl) ?_
    refine lv_iload_n hx hb dX12_standsNext_93 rfl (lv_at hl 2 rfl) ?_
    refine w_callI (va_runV (As := [.int x2]) (rest := []) F (c_X12_standsBracket l hL_a0 hK_a0 hp H.size) (cwV (C := RX12) 1 hts (wg_V wm_RX12_385 wy_X12_standsBracket) rfl rfl rfl (by decide +kernel) ⟨Nat.le_of_ble_eq_true rfl, Nat.le_of_ble_eq_true rfl⟩) (w_preV hK hW hL_a0 hK_a0 (by decide) rfl) rfl rfl hl.1 rfl (lv_room (Nat.le_of_ble_eq_true rfl)) dX12_standsNext_94 ⟨Nat.le_of_ble_eq_true rfl, Nat.le_of_ble_eq_true rfl⟩) hW (fun r_7 S_8 H locs hp hW => ?_)
    obtain ⟨hX_S_8, hp⟩ := hp
    refine W.widen (k := 0) (n := 0) (by decide) (by decide) ?_
    have hE := hE.trans hX_S_8
    have hK_a0 : sK S_8 a0 = 17 := (hX_S_8.2 a0 hL_a0).1.trans hK_a0
    have hL_a0 : wM D S_8 a0 := hX_S_8.M hL_a0
    refine lv_if_ne (tgt := 122) hx hb dX12_standsNext_97 (by decide) (fun c_9 => ?_) (fun c_9 => ?_)
    · replace hp := hp.1 c_9
      exact t_X12_standsNext_122 F hr hlocks hK hp hW hE (lv_sub hl [0, 2] rfl) hL_a0 hK_a0
    · replace hp := hp.2 c_9
      refine lv_goto (tgt := 115) hx hb dX12_standsNext_100 (by decide) ?_
      exact t_X12_standsNext_115 F hr hlocks hK hp hW hE (lv_sub hl [0, 1] rfl) hL_a0 hK_a0
set_option maxHeartbeats 4000000 in
set_option maxRecDepth 100000 in
theorem t_X12_standsNext_25 {p : Program} {l : Launch} {e : Env} {s : State} {m : MethodId} {args : Array Value} {below : List Frame} {meth : Method} {c : Code} {D : wD} {cy : Nat → ClassId} {X : va_W} {A : Nat → Prop} {S0 : wS} {post : Int32 → wS → Prop} (F : CallFix p m c cX12_standsNext 3 s args wz_X12_standsNext RX12) (hr : meth.sig.returnType = (some .boolean)) (hlocks : meth.locks = false) (hK : wK D cy A s) : ∀ (n : Nat) {S : wS} {H : Heap} {locs : List Loc} {ls : Array Slot} {a0 : Nat} {x1 : Int32} {x2 : Int32}, wp_X12_standsNext_25 D post n S a0 x1 x2 → wO D cy X A s.heap S H locs → wX D S0 S → lv_has ls 3 [(0, .ref a0), (1, .int x1), (2, .int x2)] → wM D S a0 → sK S a0 = 17 → W p l e r_X12_standsNext s m args below meth c H locs 0 0 (MQ below (va_Qi (fun r S9 => wX D S0 S9 ∧ post r S9) (wB D cy X A) A) args s 0 0 A) (F0 m 25 ls []) := by
  obtain ⟨hx, hb, hml, hown, hts⟩ := id F
  have hwg : ∀ w ∈ WG, w.before args s = true := fun w h => hts w (List.mem_cons_of_mem _ h)
  have i_17 : ∀ w ∈ u_ws RX12 TX12 43, w ∈ wz_X12_standsNext := fun w h => List.mem_cons_of_mem _ (wu_17 w h)
  have k_259 := hwg _ wf_RX12_259
  have k_262 := hwg _ wf_RX12_262
  have k_42 := hwg _ wf_RX12_42
  intro n
  induction n with
  | zero =>
    intro S H locs ls a0 x1 x2 hp
    exact hp.elim
  | succ n ih =>
    intro S H locs ls a0 x1 x2 hp hW hE hl hL_a0 hK_a0
    unfold wp_X12_standsNext_25 at hp
    refine lv_iload_n hx hb dX12_standsNext_25 rfl (lv_at hl 2 rfl) ?_
    refine w_callI (va_runS (As := [.int x2]) (rest := []) F (c_X12_isBracket l hp H.size) (va_cwS 1 hts (wg_S wm_RX12_382 wy_X12_isBracket) rfl rfl rfl (by decide +kernel) ⟨Nat.le_of_ble_eq_true rfl, Nat.le_of_ble_eq_true rfl⟩) (w_preS hK hW) rfl rfl hl.1 rfl (lv_room (Nat.le_of_ble_eq_true rfl)) dX12_standsNext_26 ⟨Nat.le_of_ble_eq_true rfl, Nat.le_of_ble_eq_true rfl⟩) hW (fun r_1 S_2 H locs hp hW => ?_)
    obtain ⟨hX_S_2, hp⟩ := hp
    refine W.widen (k := 0) (n := 0) (by decide) (by decide) ?_
    have hE := hE.trans hX_S_2
    have hK_a0 : sK S_2 a0 = 17 := (hX_S_2.2 a0 hL_a0).1.trans hK_a0
    have hL_a0 : wM D S_2 a0 := hX_S_2.M hL_a0
    refine lv_if_ne (tgt := 85) hx hb dX12_standsNext_29 (by decide) (fun c_3 => ?_) (fun c_3 => ?_)
    · replace hp := hp.1 c_3
      exact t_X12_standsNext_85 F hr hlocks hK hp hW hE (lv_sub hl [0, 1, 2] rfl) hL_a0 hK_a0
    · replace hp := hp.2 c_3
      refine lv_aload_n hx hb dX12_standsNext_32 rfl (lv_at hl 0 rfl) ?_
      refine w_get (k := 17) (f := 24) (T := TX12) (v := .int (sI S_2 a0 24)) F hK hW hL_a0 hK_a0 (by decide) rfl rfl (by decide) i_17 k_262 rfl dX12_standsNext_33 ?_
      refine lv_aload_n hx hb dX12_standsNext_36 rfl (lv_at hl 0 rfl) ?_
      refine w_get (k := 17) (f := 13) (T := TX12) (v := .int (sI S_2 a0 13)) F hK hW hL_a0 hK_a0 (by decide) rfl rfl (by decide) i_17 k_259 rfl dX12_standsNext_37 ?_
      refine lv_icmp_ge (tgt := 85) hx hb dX12_standsNext_40 (by decide) (fun c_4 => ?_) (fun c_4 => ?_)
      · replace hp := hp.1 c_4
        exact t_X12_standsNext_85 F hr hlocks hK hp hW hE (lv_sub hl [0, 1, 2] rfl) hL_a0 hK_a0
      · replace hp := hp.2 c_4
        refine lv_aload_n hx hb dX12_standsNext_43 rfl (lv_at hl 0 rfl) ?_
        obtain ⟨y_5, ey_5, hL_y_5, hK_y_5, hp⟩ := hp
        refine w_get (k := 17) (f := 12) (T := TX12) (v := .ref y_5) F hK hW hL_a0 hK_a0 (by decide) rfl rfl (by decide) i_17 k_42 (by rw [show wv 17 12 S_2 a0 = va_rf (sR S_2 a0 12) from rfl, ey_5]; rfl) dX12_standsNext_44 ?_
        refine lv_aload_n hx hb dX12_standsNext_47 rfl (lv_at hl 0 rfl) ?_
        refine w_get (k := 17) (f := 24) (T := TX12) (v := .int (sI S_2 a0 24)) F hK hW hL_a0 hK_a0 (by decide) rfl rfl (by decide) i_17 k_262 rfl dX12_standsNext_48 ?_
        obtain ⟨h_6, hp⟩ := hp
        refine w_ild F hK hW hL_y_5 hK_y_5 h_6 dX12_standsNext_51 ?_
        refine lv_bipush (v := 32) hx hb dX12_standsNext_52 (by decide) ?_
        refine lv_icmp_eq (tgt := 85) hx hb dX12_standsNext_54 (by decide) (fun c_7 => ?_) (fun c_7 => ?_)
        · replace hp := hp.1 c_7
          exact t_X12_standsNext_85 F hr hlocks hK hp hW hE (lv_sub hl [0, 1, 2] rfl) hL_a0 hK_a0
        · replace hp := hp.2 c_7
          refine lv_aload_n hx hb dX12_standsNext_57 rfl (lv_at hl 0 rfl) ?_
          obtain ⟨y_8, ey_8, hL_y_8, hK_y_8, hp⟩ := hp
          refine w_get (k := 17) (f := 12) (T := TX12) (v := .ref y_8) F hK hW hL_a0 hK_a0 (by decide) rfl rfl (by decide) i_17 k_42 (by rw [show wv 17 12 S_2 a0 = va_rf (sR S_2 a0 12) from rfl, ey_8]; rfl) dX12_standsNext_58 ?_
          refine lv_aload_n hx hb dX12_standsNext_61 rfl (lv_at hl 0 rfl) ?_
          refine w_get (k := 17) (f := 24) (T := TX12) (v := .int (sI S_2 a0 24)) F hK hW hL_a0 hK_a0 (by decide) rfl rfl (by decide) i_17 k_262 rfl dX12_standsNext_62 ?_
          obtain ⟨h_9, hp⟩ := hp
          refine w_ild F hK hW hL_y_8 hK_y_8 h_9 dX12_standsNext_65 ?_
          refine w_callI (va_runS (As := [.int (sI S_2 y_8 ((sI S_2 a0 24)).toNatClampNeg)]) (rest := []) F (c_X12_isBracket l hp H.size) (va_cwS 1 hts (wg_S wm_RX12_382 wy_X12_isBracket) rfl rfl rfl (by decide +kernel) ⟨Nat.le_of_ble_eq_true rfl, Nat.le_of_ble_eq_true rfl⟩) (w_preS hK hW) rfl rfl hl.1 rfl (lv_room (Nat.le_of_ble_eq_true rfl)) dX12_standsNext_66 ⟨Nat.le_of_ble_eq_true rfl, Nat.le_of_ble_eq_true rfl⟩) hW (fun r_10 S_11 H locs hp hW => ?_)
          obtain ⟨hX_S_11, hp⟩ := hp
          refine W.widen (k := 0) (n := 0) (by decide) (by decide) ?_
          have hE := hE.trans hX_S_11
          have hK_a0 : sK S_11 a0 = 17 := (hX_S_11.2 a0 hL_a0).1.trans hK_a0
          have hL_a0 : wM D S_11 a0 := hX_S_11.M hL_a0
          refine lv_if_ne (tgt := 85) hx hb dX12_standsNext_69 (by decide) (fun c_12 => ?_) (fun c_12 => ?_)
          · replace hp := hp.1 c_12
            exact t_X12_standsNext_85 F hr hlocks hK hp hW hE (lv_sub hl [0, 1, 2] rfl) hL_a0 hK_a0
          · replace hp := hp.2 c_12
            refine lv_aload_n hx hb dX12_standsNext_72 rfl (lv_at hl 0 rfl) ?_
            refine lv_dup hx hb dX12_standsNext_73 rfl ?_
            refine w_get (k := 17) (f := 24) (T := TX12) (v := .int (sI S_11 a0 24)) F hK hW hL_a0 hK_a0 (by decide) rfl rfl (by decide) i_17 k_262 rfl dX12_standsNext_74 ?_
            refine lv_iconst (v := 1) hx hb dX12_standsNext_77 (by decide) ?_
            refine lv_iadd hx hb dX12_standsNext_78 ?_
            refine w_putI (k := 17) (f := 24) (T := TX12) F hK hW hL_a0 hK_a0 (by decide) (by decide) rfl rfl (by decide) i_17 tyX12 tyX12_ok nmX12 k_262 rfl rfl (ty := .int) rfl rfl rfl dX12_standsNext_79 (fun H locs hW => ?_)
            obtain ⟨S_13, eS_13⟩ : ∃ z : wS, z = uI S_11 a0 24 ((sI S_11 a0 24) + (1 : Int32)) := ⟨_, rfl⟩
            rw [← eS_13] at hW
            replace hp := hp S_13 eS_13
            have hX_S_13 : wX D S_11 S_13 := by rw [eS_13]; exact wX_uI
            have hE := hE.trans hX_S_13
            have hK_a0 : sK S_13 a0 = 17 := (hX_S_13.2 a0 hL_a0).1.trans hK_a0
            have hL_a0 : wM D S_13 a0 := hX_S_13.M hL_a0
            refine lv_goto (tgt := 25) hx hb dX12_standsNext_82 (by decide) ?_
            exact ih hp hW hE (lv_sub hl [0, 1, 2] rfl) hL_a0 hK_a0
set_option maxHeartbeats 4000000 in
set_option maxRecDepth 100000 in
theorem t_X12_standsNext_0 {p : Program} {l : Launch} {e : Env} {s : State} {m : MethodId} {args : Array Value} {below : List Frame} {meth : Method} {c : Code} {D : wD} {cy : Nat → ClassId} {X : va_W} {A : Nat → Prop} {S0 : wS} {post : Int32 → wS → Prop} (F : CallFix p m c cX12_standsNext 3 s args wz_X12_standsNext RX12) (hr : meth.sig.returnType = (some .boolean)) (hlocks : meth.locks = false) (hK : wK D cy A s) : ∀ {S : wS} {H : Heap} {locs : List Loc} {ls : Array Slot} {a0 : Nat}, wp_X12_standsNext_0 D post S a0 → wO D cy X A s.heap S H locs → wX D S0 S → lv_has ls 3 [(0, .ref a0)] → wM D S a0 → sK S a0 = 17 → W p l e r_X12_standsNext s m args below meth c H locs 0 0 (MQ below (va_Qi (fun r S9 => wX D S0 S9 ∧ post r S9) (wB D cy X A) A) args s 0 0 A) (F0 m 0 ls []) := by
  obtain ⟨hx, hb, hml, hown, hts⟩ := id F
  have hwg : ∀ w ∈ WG, w.before args s = true := fun w h => hts w (List.mem_cons_of_mem _ h)
  have i_17 : ∀ w ∈ u_ws RX12 TX12 43, w ∈ wz_X12_standsNext := fun w h => List.mem_cons_of_mem _ (wu_17 w h)
  have k_262 := hwg _ wf_RX12_262
  have k_42 := hwg _ wf_RX12_42
  intro S H locs ls a0 hp hW hE hl hL_a0 hK_a0
  unfold wp_X12_standsNext_0 at hp
  refine lv_aload_n hx hb dX12_standsNext_0 rfl (lv_at hl 0 rfl) ?_
  refine w_get (k := 17) (f := 24) (T := TX12) (v := .int (sI S a0 24)) F hK hW hL_a0 hK_a0 (by decide) rfl rfl (by decide) i_17 k_262 rfl dX12_standsNext_1 ?_
  refine lv_topi (fun x_1 ex_1 => ?_)
  replace hp := hp x_1 ex_1
  refine lv_istore_n (lv' := [(1, .int x_1), (0, .ref a0)]) hx hb dX12_standsNext_4 rfl hl (by decide) rfl (fun ls hl => ?_)
  refine lv_aload_n hx hb dX12_standsNext_5 rfl (lv_at hl 1 rfl) ?_
  obtain ⟨y_2, ey_2, hL_y_2, hK_y_2, hp⟩ := hp
  refine w_get (k := 17) (f := 12) (T := TX12) (v := .ref y_2) F hK hW hL_a0 hK_a0 (by decide) rfl rfl (by decide) i_17 k_42 (by rw [show wv 17 12 S a0 = va_rf (sR S a0 12) from rfl, ey_2]; rfl) dX12_standsNext_6 ?_
  refine lv_aload_n hx hb dX12_standsNext_9 rfl (lv_at hl 1 rfl) ?_
  refine w_get (k := 17) (f := 24) (T := TX12) (v := .int (sI S a0 24)) F hK hW hL_a0 hK_a0 (by decide) rfl rfl (by decide) i_17 k_262 rfl dX12_standsNext_10 ?_
  obtain ⟨h_3, hp⟩ := hp
  refine w_ild F hK hW hL_y_2 hK_y_2 h_3 dX12_standsNext_13 ?_
  refine lv_topi (fun x_4 ex_4 => ?_)
  replace hp := hp x_4 ex_4
  refine lv_istore_n (lv' := [(2, .int x_4), (1, .int x_1), (0, .ref a0)]) hx hb dX12_standsNext_14 rfl hl (by decide) rfl (fun ls hl => ?_)
  refine lv_aload_n hx hb dX12_standsNext_15 rfl (lv_at hl 2 rfl) ?_
  refine lv_dup hx hb dX12_standsNext_16 rfl ?_
  refine w_get (k := 17) (f := 24) (T := TX12) (v := .int (sI S a0 24)) F hK hW hL_a0 hK_a0 (by decide) rfl rfl (by decide) i_17 k_262 rfl dX12_standsNext_17 ?_
  refine lv_iconst (v := 1) hx hb dX12_standsNext_20 (by decide) ?_
  refine lv_iadd hx hb dX12_standsNext_21 ?_
  refine w_putI (k := 17) (f := 24) (T := TX12) F hK hW hL_a0 hK_a0 (by decide) (by decide) rfl rfl (by decide) i_17 tyX12 tyX12_ok nmX12 k_262 rfl rfl (ty := .int) rfl rfl rfl dX12_standsNext_22 (fun H locs hW => ?_)
  obtain ⟨S_5, eS_5⟩ : ∃ z : wS, z = uI S a0 24 ((sI S a0 24) + (1 : Int32)) := ⟨_, rfl⟩
  rw [← eS_5] at hW
  replace hp := hp S_5 eS_5
  have hX_S_5 : wX D S S_5 := by rw [eS_5]; exact wX_uI
  have hE := hE.trans hX_S_5
  have hK_a0 : sK S_5 a0 = 17 := (hX_S_5.2 a0 hL_a0).1.trans hK_a0
  have hL_a0 : wM D S_5 a0 := hX_S_5.M hL_a0
  obtain ⟨n_6, hp⟩ := hp
  exact t_X12_standsNext_25 F hr hlocks hK n_6 hp hW hE (lv_sub hl [2, 1, 0] rfl) hL_a0 hK_a0
set_option maxHeartbeats 4000000 in
set_option maxRecDepth 100000 in
theorem c_X12_standsNext (l : Launch) {D : wD} {cy : Nat → ClassId} {X : va_W} {S0 : wS} {post : Int32 → wS → Prop} {a0 : Nat} (hL_a0 : wM D S0 a0) (hK_a0 : sK S0 a0 = 17) (hp : wp_X12_standsNext D post S0 a0) : mI D cy X l yX12_standsNext wz_X12_standsNext r_X12_standsNext [.ref a0] S0 (fun r S9 => wX D S0 S9 ∧ post r S9) := by
  intro sz
  refine Met.ofW (cc := cX12_standsNext) (maxL := 3) (ret := (some .boolean)) (by decide) rfl ?_
  intro p e s m args below meth c s₁ B hml hv
  obtain ⟨rfl, hsz, hP, hK, hD0, hRO⟩ := hv
  have hts := atoms_spec (ws := wz_X12_standsNext) B.pre
  have hown : s.vm.findClass RX12 = some m.cls := findClass_of_methodNamed B.named
  subst hsz
  have hD := hD0.self (sz := s.heap.size)
  have F : CallFix p m c cX12_standsNext 3 s _ wz_X12_standsNext RX12 := ⟨B.exec, B.bytes, hml, hown, hts⟩
  have hr := B.returns
  have hlocks := B.notSynchronized
  generalize hAe : va_A (wL cy X S0) s.heap.size = A at hD hK ⊢
  have hA : ∀ q, s.heap.size ≤ q → A q := fun q h => by rw [← hAe]; exact Or.inr h
  have hW : wO D cy X A s.heap S0 s.heap [] := ⟨hP, hD, va_S.rf, hA, hRO⟩
  have hl := lv_entry ([.ref a0]) (n := 3) (Nat.le_of_ble_eq_true rfl)
  rw [lg_entry_eq]
  generalize (lg_sl ([.ref a0]) ++ List.replicate (3 - (lg_sl ([.ref a0])).length) Slot.unset).toArray = ls at hl ⊢
  have hl : lv_has ls 3 [(0, .ref a0)] := hl
  unfold wp_X12_standsNext at hp
  exact t_X12_standsNext_0 F hr hlocks hK hp hW wX.rf (lv_sub hl [0] rfl) hL_a0 hK_a0
def wp_X12_textAt_18 (D : wD) (post : Int32 → wS → Prop)  (S : wS) (t0 : Int32) : Prop :=
post t0 S
def wp_X12_textAt_0 (D : wD) (post : Int32 → wS → Prop)  (S : wS) (a0 : Nat) (x1 : Int32) : Prop :=
(((sI S a0 13) ≤ x1 → wp_X12_textAt_18 D post S (0 : Int32)) ∧
 (¬ (sI S a0 13) ≤ x1 → ∃ y_2 : Nat, sR S a0 12 = some y_2 ∧ wM D S y_2 ∧ sK S y_2 = 21 ∧
vp_in x1 (sN S y_2) ∧
wp_X12_textAt_18 D post S (sI S y_2 (x1).toNatClampNeg)))
abbrev r_X12_textAt : Room := { frames := 0, cells := 0, slots := 0, locals := 0 }
def wp_X12_textAt (D : wD) (post : Int32 → wS → Prop) (S : wS) (a0 : Nat) (x1 : Int32) : Prop := wp_X12_textAt_0 D post S a0 x1
set_option maxHeartbeats 4000000 in
set_option maxRecDepth 100000 in
theorem t_X12_textAt_18 {p : Program} {l : Launch} {e : Env} {s : State} {m : MethodId} {args : Array Value} {below : List Frame} {meth : Method} {c : Code} {D : wD} {cy : Nat → ClassId} {X : va_W} {A : Nat → Prop} {S0 : wS} {post : Int32 → wS → Prop} (F : CallFix p m c cX12_textAt 2 s args wz_X12_textAt RX12) (hr : meth.sig.returnType = (some .int)) (hlocks : meth.locks = false) (hK : wK D cy A s) : ∀ {S : wS} {H : Heap} {locs : List Loc} {ls : Array Slot} {t0 : Int32}, wp_X12_textAt_18 D post S t0 → wO D cy X A s.heap S H locs → wX D S0 S → lv_has ls 2 [] → W p l e r_X12_textAt s m args below meth c H locs 0 0 (MQ below (va_Qi (fun r S9 => wX D S0 S9 ∧ post r S9) (wB D cy X A) A) args s 0 0 A) (F0 m 18 ls [.int t0]) := by
  obtain ⟨hx, hb, hml, hown, hts⟩ := id F
  have hwg : ∀ w ∈ WG, w.before args s = true := fun w h => hts w (List.mem_cons_of_mem _ h)
  intro S H locs ls t0 hp hW hE hl
  unfold wp_X12_textAt_18 at hp
  exact w_iret hx hb hr hlocks hW ⟨hE, hp⟩ dX12_textAt_18
set_option maxHeartbeats 4000000 in
set_option maxRecDepth 100000 in
theorem t_X12_textAt_0 {p : Program} {l : Launch} {e : Env} {s : State} {m : MethodId} {args : Array Value} {below : List Frame} {meth : Method} {c : Code} {D : wD} {cy : Nat → ClassId} {X : va_W} {A : Nat → Prop} {S0 : wS} {post : Int32 → wS → Prop} (F : CallFix p m c cX12_textAt 2 s args wz_X12_textAt RX12) (hr : meth.sig.returnType = (some .int)) (hlocks : meth.locks = false) (hK : wK D cy A s) : ∀ {S : wS} {H : Heap} {locs : List Loc} {ls : Array Slot} {a0 : Nat} {x1 : Int32}, wp_X12_textAt_0 D post S a0 x1 → wO D cy X A s.heap S H locs → wX D S0 S → lv_has ls 2 [(0, .ref a0), (1, .int x1)] → wM D S a0 → sK S a0 = 17 → W p l e r_X12_textAt s m args below meth c H locs 0 0 (MQ below (va_Qi (fun r S9 => wX D S0 S9 ∧ post r S9) (wB D cy X A) A) args s 0 0 A) (F0 m 0 ls []) := by
  obtain ⟨hx, hb, hml, hown, hts⟩ := id F
  have hwg : ∀ w ∈ WG, w.before args s = true := fun w h => hts w (List.mem_cons_of_mem _ h)
  have i_17 : ∀ w ∈ u_ws RX12 TX12 43, w ∈ wz_X12_textAt := fun w h => List.mem_cons_of_mem _ (wu_17 w h)
  have k_259 := hwg _ wf_RX12_259
  have k_42 := hwg _ wf_RX12_42
  intro S H locs ls a0 x1 hp hW hE hl hL_a0 hK_a0
  unfold wp_X12_textAt_0 at hp
  refine lv_iload_n hx hb dX12_textAt_0 rfl (lv_at hl 1 rfl) ?_
  refine lv_aload_n hx hb dX12_textAt_1 rfl (lv_at hl 0 rfl) ?_
  refine w_get (k := 17) (f := 13) (T := TX12) (v := .int (sI S a0 13)) F hK hW hL_a0 hK_a0 (by decide) rfl rfl (by decide) i_17 k_259 rfl dX12_textAt_2 ?_
  refine lv_icmp_ge (tgt := 17) hx hb dX12_textAt_5 (by decide) (fun c_1 => ?_) (fun c_1 => ?_)
  · replace hp := hp.1 c_1
    refine lv_iconst (v := 0) hx hb dX12_textAt_17 (by decide) ?_
    exact t_X12_textAt_18 F hr hlocks hK hp hW hE (lv_sub hl [] rfl)
  · replace hp := hp.2 c_1
    refine lv_aload_n hx hb dX12_textAt_8 rfl (lv_at hl 0 rfl) ?_
    obtain ⟨y_2, ey_2, hL_y_2, hK_y_2, hp⟩ := hp
    refine w_get (k := 17) (f := 12) (T := TX12) (v := .ref y_2) F hK hW hL_a0 hK_a0 (by decide) rfl rfl (by decide) i_17 k_42 (by rw [show wv 17 12 S a0 = va_rf (sR S a0 12) from rfl, ey_2]; rfl) dX12_textAt_9 ?_
    refine lv_iload_n hx hb dX12_textAt_12 rfl (lv_at hl 1 rfl) ?_
    obtain ⟨h_3, hp⟩ := hp
    refine w_ild F hK hW hL_y_2 hK_y_2 h_3 dX12_textAt_13 ?_
    refine lv_goto (tgt := 18) hx hb dX12_textAt_14 (by decide) ?_
    exact t_X12_textAt_18 F hr hlocks hK hp hW hE (lv_sub hl [] rfl)
set_option maxHeartbeats 4000000 in
set_option maxRecDepth 100000 in
theorem c_X12_textAt (l : Launch) {D : wD} {cy : Nat → ClassId} {X : va_W} {S0 : wS} {post : Int32 → wS → Prop} {a0 : Nat} {x1 : Int32} (hL_a0 : wM D S0 a0) (hK_a0 : sK S0 a0 = 17) (hp : wp_X12_textAt D post S0 a0 x1) : mI D cy X l yX12_textAt wz_X12_textAt r_X12_textAt [.ref a0, .int x1] S0 (fun r S9 => wX D S0 S9 ∧ post r S9) := by
  intro sz
  refine Met.ofW (cc := cX12_textAt) (maxL := 2) (ret := (some .int)) (by decide) rfl ?_
  intro p e s m args below meth c s₁ B hml hv
  obtain ⟨rfl, hsz, hP, hK, hD0, hRO⟩ := hv
  have hts := atoms_spec (ws := wz_X12_textAt) B.pre
  have hown : s.vm.findClass RX12 = some m.cls := findClass_of_methodNamed B.named
  subst hsz
  have hD := hD0.self (sz := s.heap.size)
  have F : CallFix p m c cX12_textAt 2 s _ wz_X12_textAt RX12 := ⟨B.exec, B.bytes, hml, hown, hts⟩
  have hr := B.returns
  have hlocks := B.notSynchronized
  generalize hAe : va_A (wL cy X S0) s.heap.size = A at hD hK ⊢
  have hA : ∀ q, s.heap.size ≤ q → A q := fun q h => by rw [← hAe]; exact Or.inr h
  have hW : wO D cy X A s.heap S0 s.heap [] := ⟨hP, hD, va_S.rf, hA, hRO⟩
  have hl := lv_entry ([.ref a0, .int x1]) (n := 2) (Nat.le_of_ble_eq_true rfl)
  rw [lg_entry_eq]
  generalize (lg_sl ([.ref a0, .int x1]) ++ List.replicate (2 - (lg_sl ([.ref a0, .int x1])).length) Slot.unset).toArray = ls at hl ⊢
  have hl : lv_has ls 2 [(0, .ref a0), (1, .int x1)] := hl
  unfold wp_X12_textAt at hp
  exact t_X12_textAt_0 F hr hlocks hK hp hW wX.rf (lv_sub hl [0, 1] rfl) hL_a0 hK_a0
def wp_X12_reads_161 (D : wD) (post : wS → Prop)  (S : wS) : Prop :=
post S
def wp_X12_reads_153 (D : wD) (post : wS → Prop)  (S : wS) (a0 : Nat) : Prop :=
∀ S_1 : wS, S_1 = uI S a0 25 (sI S a0 13) →
wp_X12_reads_161 D post S_1
def wp_X12_reads_131 (D : wD) (post : wS → Prop)  (S : wS) (a0 : Nat) : Prop :=
((¬ (sI S a0 25) = (-1 : Int32) → wp_X12_reads_161 D post S) ∧
 ((sI S a0 25) = (-1 : Int32) → ((0 < (sI S a0 27) → wp_X12_reads_153 D post S a0) ∧
 (¬ 0 < (sI S a0 27) → (((sI S a0 28) = 0 → wp_X12_reads_161 D post S) ∧
 (¬ (sI S a0 28) = 0 → wp_X12_reads_153 D post S a0))))))
def wp_X12_reads_107 (D : wD) (post : wS → Prop) (k_54 : wS → Nat → Int32 → Prop) (S : wS) (a0 : Nat) (t0 : Int32) : Prop :=
k_54 S a0 t0
def wp_X12_reads_106 (D : wD) (post : wS → Prop) (k_54 : wS → Nat → Int32 → Prop) (S : wS) (a0 : Nat) : Prop :=
wp_X12_reads_107 D post k_54 S a0 (0 : Int32)
def wp_X12_reads_58 (D : wD) (post : wS → Prop) (k_54 : wS → Nat → Int32 → Prop) : Nat → wS → Nat → Prop
  | 0, _, _ => False
  | n + 1, S, a0 =>
    wp_X12_textAt D (fun r_1 S_2 => 
    ((¬ r_1 = (32 : Int32) → (((sI S_2 a0 13) ≤ (sI S_2 a0 24) → wp_X12_reads_106 D post k_54 S_2 a0) ∧
     (¬ (sI S_2 a0 13) ≤ (sI S_2 a0 24) → wp_X12_standsNext D (fun r_5 S_6 => 
    ((r_5 = 0 → wp_X12_reads_106 D post k_54 S_6 a0) ∧
     (¬ r_5 = 0 → wp_X12_reads_107 D post k_54 S_6 a0 (1 : Int32)))) S_2 a0))) ∧
     (r_1 = (32 : Int32) → ∀ S_8 : wS, S_8 = uI S_2 a0 24 ((sI S_2 a0 24) + (1 : Int32)) →
    wp_X12_reads_58 D post k_54 n S_8 a0))) S a0 (sI S a0 24)
def wp_X12_reads_54 (D : wD) (post : wS → Prop)  : Nat → wS → Nat → Int32 → Prop
  | 0, _, _, _ => False
  | n + 1, S, a0, x1 =>
    ((x1 = 0 → ((¬ (sI S a0 25) = (-1 : Int32) → wp_X12_reads_131 D post S a0) ∧
     ((sI S a0 25) = (-1 : Int32) → (((sI S a0 13) ≤ (sI S a0 24) → wp_X12_reads_131 D post S a0) ∧
     (¬ (sI S a0 13) ≤ (sI S a0 24) → post S))))) ∧
     (¬ x1 = 0 → ∃ n_4 : Nat, wp_X12_reads_58 D post (wp_X12_reads_54 D post n) n_4 S a0))
def wp_X12_reads_0 (D : wD) (post : wS → Prop)  (S : wS) (a0 : Nat) : Prop :=
∀ S_1 : wS, S_1 = uI S a0 27 (0 : Int32) →
∃ y_2 : Nat, sR S_1 a0 22 = some y_2 ∧ wM D S_1 y_2 ∧ sK S_1 y_2 = 21 ∧
y_2 ∈ sL S_1 ∧ vp_in (0 : Int32) (sN S_1 y_2) ∧
∀ S_4 : wS, S_4 = uI S_1 y_2 ((0 : Int32)).toNatClampNeg (0 : Int32) →
∀ S_5 : wS, S_5 = uI S_4 a0 26 (0 : Int32) →
narrow .boolean (.int (0 : Int32)) = .int (0 : Int32) ∧ fits .boolean (.int (0 : Int32)) = true ∧
∀ S_6 : wS, S_6 = uI S_5 a0 28 (0 : Int32) →
narrow .boolean (.int (0 : Int32)) = .int (0 : Int32) ∧ fits .boolean (.int (0 : Int32)) = true ∧
∀ S_8 : wS, S_8 = uI S_6 a0 29 (0 : Int32) →
∀ S_10 : wS, S_10 = uI S_8 a0 25 (-1 : Int32) →
∀ S_11 : wS, S_11 = uI S_10 a0 24 (0 : Int32) →
∃ y_12 : Nat, sR S_11 a0 3 = some y_12 ∧ wM D S_11 y_12 ∧ sK S_11 y_12 = 21 ∧
∃ y_13 : Nat, sR S_11 a0 20 = some y_13 ∧ wM D S_11 y_13 ∧ sK S_11 y_13 = 21 ∧
wp_X12_copies D (fun S_15 => 
∃ n_16 : Nat, wp_X12_reads_54 D post n_16 S_15 a0 (1 : Int32)) S_11 (67 : Int32) y_12 (0 : Int32) y_13 (0 : Int32)
abbrev r_X12_reads : Room := { frames := 13, cells := 0, slots := 0, locals := 312 }
def wp_X12_reads (D : wD) (post : wS → Prop) (S : wS) (a0 : Nat) : Prop := wp_X12_reads_0 D post S a0
set_option maxHeartbeats 4000000 in
set_option maxRecDepth 100000 in
theorem t_X12_reads_161 {p : Program} {l : Launch} {e : Env} {s : State} {m : MethodId} {args : Array Value} {below : List Frame} {meth : Method} {c : Code} {D : wD} {cy : Nat → ClassId} {X : va_W} {A : Nat → Prop} {S0 : wS} {post : wS → Prop} (F : CallFix p m c cX12_reads 2 s args wz_X12_reads RX12) (hr : meth.sig.returnType = none) (hlocks : meth.locks = false) (hK : wK D cy A s) : ∀ {S : wS} {H : Heap} {locs : List Loc} {ls : Array Slot}, wp_X12_reads_161 D post S → wO D cy X A s.heap S H locs → wX D S0 S → lv_has ls 2 [] → W p l e r_X12_reads s m args below meth c H locs 0 0 (MQ below (va_Qv (fun S9 => wX D S0 S9 ∧ post S9) (wB D cy X A) A) args s 0 0 A) (F0 m 161 ls []) := by
  obtain ⟨hx, hb, hml, hown, hts⟩ := id F
  have hwg : ∀ w ∈ WG, w.before args s = true := fun w h => hts w (List.mem_cons_of_mem _ h)
  intro S H locs ls hp hW hE hl
  unfold wp_X12_reads_161 at hp
  exact w_vret hx hb hr hlocks hW ⟨hE, hp⟩ dX12_reads_161
set_option maxHeartbeats 4000000 in
set_option maxRecDepth 100000 in
theorem t_X12_reads_153 {p : Program} {l : Launch} {e : Env} {s : State} {m : MethodId} {args : Array Value} {below : List Frame} {meth : Method} {c : Code} {D : wD} {cy : Nat → ClassId} {X : va_W} {A : Nat → Prop} {S0 : wS} {post : wS → Prop} (F : CallFix p m c cX12_reads 2 s args wz_X12_reads RX12) (hr : meth.sig.returnType = none) (hlocks : meth.locks = false) (hK : wK D cy A s) : ∀ {S : wS} {H : Heap} {locs : List Loc} {ls : Array Slot} {a0 : Nat}, wp_X12_reads_153 D post S a0 → wO D cy X A s.heap S H locs → wX D S0 S → lv_has ls 2 [(0, .ref a0)] → wM D S a0 → sK S a0 = 17 → W p l e r_X12_reads s m args below meth c H locs 0 0 (MQ below (va_Qv (fun S9 => wX D S0 S9 ∧ post S9) (wB D cy X A) A) args s 0 0 A) (F0 m 153 ls []) := by
  obtain ⟨hx, hb, hml, hown, hts⟩ := id F
  have hwg : ∀ w ∈ WG, w.before args s = true := fun w h => hts w (List.mem_cons_of_mem _ h)
  have i_17 : ∀ w ∈ u_ws RX12 TX12 43, w ∈ wz_X12_reads := fun w h => List.mem_cons_of_mem _ (wu_17 w h)
  have k_259 := hwg _ wf_RX12_259
  have k_376 := hwg _ wf_RX12_376
  intro S H locs ls a0 hp hW hE hl hL_a0 hK_a0
  unfold wp_X12_reads_153 at hp
  refine lv_aload_n hx hb dX12_reads_153 rfl (lv_at hl 0 rfl) ?_
  refine lv_aload_n hx hb dX12_reads_154 rfl (lv_at hl 0 rfl) ?_
  refine w_get (k := 17) (f := 13) (T := TX12) (v := .int (sI S a0 13)) F hK hW hL_a0 hK_a0 (by decide) rfl rfl (by decide) i_17 k_259 rfl dX12_reads_155 ?_
  refine w_putI (k := 17) (f := 25) (T := TX12) F hK hW hL_a0 hK_a0 (by decide) (by decide) rfl rfl (by decide) i_17 tyX12 tyX12_ok nmX12 k_376 rfl rfl (ty := .int) rfl rfl rfl dX12_reads_158 (fun H locs hW => ?_)
  obtain ⟨S_1, eS_1⟩ : ∃ z : wS, z = uI S a0 25 (sI S a0 13) := ⟨_, rfl⟩
  rw [← eS_1] at hW
  replace hp := hp S_1 eS_1
  have hX_S_1 : wX D S S_1 := by rw [eS_1]; exact wX_uI
  have hE := hE.trans hX_S_1
  have hK_a0 : sK S_1 a0 = 17 := (hX_S_1.2 a0 hL_a0).1.trans hK_a0
  have hL_a0 : wM D S_1 a0 := hX_S_1.M hL_a0
  exact t_X12_reads_161 F hr hlocks hK hp hW hE (lv_sub hl [] rfl)
set_option maxHeartbeats 4000000 in
set_option maxRecDepth 100000 in
theorem t_X12_reads_131 {p : Program} {l : Launch} {e : Env} {s : State} {m : MethodId} {args : Array Value} {below : List Frame} {meth : Method} {c : Code} {D : wD} {cy : Nat → ClassId} {X : va_W} {A : Nat → Prop} {S0 : wS} {post : wS → Prop} (F : CallFix p m c cX12_reads 2 s args wz_X12_reads RX12) (hr : meth.sig.returnType = none) (hlocks : meth.locks = false) (hK : wK D cy A s) : ∀ {S : wS} {H : Heap} {locs : List Loc} {ls : Array Slot} {a0 : Nat}, wp_X12_reads_131 D post S a0 → wO D cy X A s.heap S H locs → wX D S0 S → lv_has ls 2 [(0, .ref a0)] → wM D S a0 → sK S a0 = 17 → W p l e r_X12_reads s m args below meth c H locs 0 0 (MQ below (va_Qv (fun S9 => wX D S0 S9 ∧ post S9) (wB D cy X A) A) args s 0 0 A) (F0 m 131 ls []) := by
  obtain ⟨hx, hb, hml, hown, hts⟩ := id F
  have hwg : ∀ w ∈ WG, w.before args s = true := fun w h => hts w (List.mem_cons_of_mem _ h)
  have i_17 : ∀ w ∈ u_ws RX12 TX12 43, w ∈ wz_X12_reads := fun w h => List.mem_cons_of_mem _ (wu_17 w h)
  have k_361 := hwg _ wf_RX12_361
  have k_367 := hwg _ wf_RX12_367
  have k_376 := hwg _ wf_RX12_376
  intro S H locs ls a0 hp hW hE hl hL_a0 hK_a0
  unfold wp_X12_reads_131 at hp
  refine lv_aload_n hx hb dX12_reads_131 rfl (lv_at hl 0 rfl) ?_
  refine w_get (k := 17) (f := 25) (T := TX12) (v := .int (sI S a0 25)) F hK hW hL_a0 hK_a0 (by decide) rfl rfl (by decide) i_17 k_376 rfl dX12_reads_132 ?_
  refine lv_iconst (v := (-1)) hx hb dX12_reads_135 (by decide) ?_
  refine lv_icmp_ne (tgt := 161) hx hb dX12_reads_136 (by decide) (fun c_1 => ?_) (fun c_1 => ?_)
  · replace hp := hp.1 c_1
    exact t_X12_reads_161 F hr hlocks hK hp hW hE (lv_sub hl [] rfl)
  · replace hp := hp.2 c_1
    refine lv_aload_n hx hb dX12_reads_139 rfl (lv_at hl 0 rfl) ?_
    refine w_get (k := 17) (f := 27) (T := TX12) (v := .int (sI S a0 27)) F hK hW hL_a0 hK_a0 (by decide) rfl rfl (by decide) i_17 k_367 rfl dX12_reads_140 ?_
    refine lv_if_gt (tgt := 153) hx hb dX12_reads_143 (by decide) (fun c_2 => ?_) (fun c_2 => ?_)
    · replace hp := hp.1 c_2
      exact t_X12_reads_153 F hr hlocks hK hp hW hE (lv_sub hl [0] rfl) hL_a0 hK_a0
    · replace hp := hp.2 c_2
      refine lv_aload_n hx hb dX12_reads_146 rfl (lv_at hl 0 rfl) ?_
      refine w_get (k := 17) (f := 28) (T := TX12) (v := .int (sI S a0 28)) F hK hW hL_a0 hK_a0 (by decide) rfl rfl (by decide) i_17 k_361 rfl dX12_reads_147 ?_
      refine lv_if_eq (tgt := 161) hx hb dX12_reads_150 (by decide) (fun c_3 => ?_) (fun c_3 => ?_)
      · replace hp := hp.1 c_3
        exact t_X12_reads_161 F hr hlocks hK hp hW hE (lv_sub hl [] rfl)
      · replace hp := hp.2 c_3
        exact t_X12_reads_153 F hr hlocks hK hp hW hE (lv_sub hl [0] rfl) hL_a0 hK_a0
set_option maxHeartbeats 4000000 in
set_option maxRecDepth 100000 in
theorem t_X12_reads_107 {p : Program} {l : Launch} {e : Env} {s : State} {m : MethodId} {args : Array Value} {below : List Frame} {meth : Method} {c : Code} {D : wD} {cy : Nat → ClassId} {X : va_W} {A : Nat → Prop} {S0 : wS} {post : wS → Prop} (F : CallFix p m c cX12_reads 2 s args wz_X12_reads RX12) (hr : meth.sig.returnType = none) (hlocks : meth.locks = false) (hK : wK D cy A s) {k_54 : wS → Nat → Int32 → Prop} (q_54 : ∀ {S : wS} {H : Heap} {locs : List Loc} {ls : Array Slot} {a0 : Nat} {x1 : Int32}, k_54 S a0 x1 → wO D cy X A s.heap S H locs → wX D S0 S → lv_has ls 2 [(0, .ref a0), (1, .int x1)] → wM D S a0 → sK S a0 = 17 → W p l e r_X12_reads s m args below meth c H locs 0 0 (MQ below (va_Qv (fun S9 => wX D S0 S9 ∧ post S9) (wB D cy X A) A) args s 0 0 A) (F0 m 54 ls [])) : ∀ {S : wS} {H : Heap} {locs : List Loc} {ls : Array Slot} {a0 : Nat} {t0 : Int32}, wp_X12_reads_107 D post k_54 S a0 t0 → wO D cy X A s.heap S H locs → wX D S0 S → lv_has ls 2 [(0, .ref a0)] → wM D S a0 → sK S a0 = 17 → W p l e r_X12_reads s m args below meth c H locs 0 0 (MQ below (va_Qv (fun S9 => wX D S0 S9 ∧ post S9) (wB D cy X A) A) args s 0 0 A) (F0 m 107 ls [.int t0]) := by
  obtain ⟨hx, hb, hml, hown, hts⟩ := id F
  have hwg : ∀ w ∈ WG, w.before args s = true := fun w h => hts w (List.mem_cons_of_mem _ h)
  intro S H locs ls a0 t0 hp hW hE hl hL_a0 hK_a0
  unfold wp_X12_reads_107 at hp
  refine lv_istore_n (lv' := [(1, .int t0), (0, .ref a0)]) hx hb dX12_reads_107 rfl hl (by decide) rfl (fun ls hl => ?_)
  refine lv_goto (tgt := 54) hx hb dX12_reads_108 (by decide) ?_
  exact q_54 hp hW hE (lv_sub hl [1, 0] rfl) hL_a0 hK_a0
set_option maxHeartbeats 4000000 in
set_option maxRecDepth 100000 in
theorem t_X12_reads_106 {p : Program} {l : Launch} {e : Env} {s : State} {m : MethodId} {args : Array Value} {below : List Frame} {meth : Method} {c : Code} {D : wD} {cy : Nat → ClassId} {X : va_W} {A : Nat → Prop} {S0 : wS} {post : wS → Prop} (F : CallFix p m c cX12_reads 2 s args wz_X12_reads RX12) (hr : meth.sig.returnType = none) (hlocks : meth.locks = false) (hK : wK D cy A s) {k_54 : wS → Nat → Int32 → Prop} (q_54 : ∀ {S : wS} {H : Heap} {locs : List Loc} {ls : Array Slot} {a0 : Nat} {x1 : Int32}, k_54 S a0 x1 → wO D cy X A s.heap S H locs → wX D S0 S → lv_has ls 2 [(0, .ref a0), (1, .int x1)] → wM D S a0 → sK S a0 = 17 → W p l e r_X12_reads s m args below meth c H locs 0 0 (MQ below (va_Qv (fun S9 => wX D S0 S9 ∧ post S9) (wB D cy X A) A) args s 0 0 A) (F0 m 54 ls [])) : ∀ {S : wS} {H : Heap} {locs : List Loc} {ls : Array Slot} {a0 : Nat}, wp_X12_reads_106 D post k_54 S a0 → wO D cy X A s.heap S H locs → wX D S0 S → lv_has ls 2 [(0, .ref a0)] → wM D S a0 → sK S a0 = 17 → W p l e r_X12_reads s m args below meth c H locs 0 0 (MQ below (va_Qv (fun S9 => wX D S0 S9 ∧ post S9) (wB D cy X A) A) args s 0 0 A) (F0 m 106 ls []) := by
  obtain ⟨hx, hb, hml, hown, hts⟩ := id F
  have hwg : ∀ w ∈ WG, w.before args s = true := fun w h => hts w (List.mem_cons_of_mem _ h)
  intro S H locs ls a0 hp hW hE hl hL_a0 hK_a0
  unfold wp_X12_reads_106 at hp
  refine lv_iconst (v := 0) hx hb dX12_reads_106 (by decide) ?_
  exact t_X12_reads_107 F hr hlocks hK q_54 hp hW hE (lv_sub hl [0] rfl) hL_a0 hK_a0
set_option maxHeartbeats 4000000 in
set_option maxRecDepth 100000 in
theorem t_X12_reads_58 {p : Program} {l : Launch} {e : Env} {s : State} {m : MethodId} {args : Array Value} {below : List Frame} {meth : Method} {c : Code} {D : wD} {cy : Nat → ClassId} {X : va_W} {A : Nat → Prop} {S0 : wS} {post : wS → Prop} (F : CallFix p m c cX12_reads 2 s args wz_X12_reads RX12) (hr : meth.sig.returnType = none) (hlocks : meth.locks = false) (hK : wK D cy A s) {k_54 : wS → Nat → Int32 → Prop} (q_54 : ∀ {S : wS} {H : Heap} {locs : List Loc} {ls : Array Slot} {a0 : Nat} {x1 : Int32}, k_54 S a0 x1 → wO D cy X A s.heap S H locs → wX D S0 S → lv_has ls 2 [(0, .ref a0), (1, .int x1)] → wM D S a0 → sK S a0 = 17 → W p l e r_X12_reads s m args below meth c H locs 0 0 (MQ below (va_Qv (fun S9 => wX D S0 S9 ∧ post S9) (wB D cy X A) A) args s 0 0 A) (F0 m 54 ls [])) : ∀ (n : Nat) {S : wS} {H : Heap} {locs : List Loc} {ls : Array Slot} {a0 : Nat}, wp_X12_reads_58 D post k_54 n S a0 → wO D cy X A s.heap S H locs → wX D S0 S → lv_has ls 2 [(0, .ref a0)] → wM D S a0 → sK S a0 = 17 → W p l e r_X12_reads s m args below meth c H locs 0 0 (MQ below (va_Qv (fun S9 => wX D S0 S9 ∧ post S9) (wB D cy X A) A) args s 0 0 A) (F0 m 58 ls []) := by
  obtain ⟨hx, hb, hml, hown, hts⟩ := id F
  have hwg : ∀ w ∈ WG, w.before args s = true := fun w h => hts w (List.mem_cons_of_mem _ h)
  have i_17 : ∀ w ∈ u_ws RX12 TX12 43, w ∈ wz_X12_reads := fun w h => List.mem_cons_of_mem _ (wu_17 w h)
  have k_259 := hwg _ wf_RX12_259
  have k_262 := hwg _ wf_RX12_262
  intro n
  induction n with
  | zero =>
    intro S H locs ls a0 hp
    exact hp.elim
  | succ n ih =>
    intro S H locs ls a0 hp hW hE hl hL_a0 hK_a0
    unfold wp_X12_reads_58 at hp
    refine lv_aload_n hx hb dX12_reads_58 rfl (lv_at hl 0 rfl) ?_
    refine lv_aload_n hx hb dX12_reads_59 rfl (lv_at hl 0 rfl) ?_
    refine w_get (k := 17) (f := 24) (T := TX12) (v := .int (sI S a0 24)) F hK hW hL_a0 hK_a0 (by decide) rfl rfl (by decide) i_17 k_262 rfl dX12_reads_60 ?_
    refine w_callI (va_runV (As := [.int (sI S a0 24)]) (rest := []) F (c_X12_textAt l hL_a0 hK_a0 hp H.size) (cwV (C := RX12) 1 hts (wg_V wm_RX12_265 wy_X12_textAt) rfl rfl rfl (by decide +kernel) ⟨Nat.le_of_ble_eq_true rfl, Nat.le_of_ble_eq_true rfl⟩) (w_preV hK hW hL_a0 hK_a0 (by decide) rfl) rfl rfl hl.1 rfl (lv_room (Nat.le_of_ble_eq_true rfl)) dX12_reads_63 ⟨Nat.le_of_ble_eq_true rfl, Nat.le_of_ble_eq_true rfl⟩) hW (fun r_1 S_2 H locs hp hW => ?_)
    obtain ⟨hX_S_2, hp⟩ := hp
    refine W.widen (k := 0) (n := 0) (by decide) (by decide) ?_
    have hE := hE.trans hX_S_2
    have hK_a0 : sK S_2 a0 = 17 := (hX_S_2.2 a0 hL_a0).1.trans hK_a0
    have hL_a0 : wM D S_2 a0 := hX_S_2.M hL_a0
    refine lv_bipush (v := 32) hx hb dX12_reads_66 (by decide) ?_
    refine lv_icmp_ne (tgt := 84) hx hb dX12_reads_68 (by decide) (fun c_3 => ?_) (fun c_3 => ?_)
    · replace hp := hp.1 c_3
      refine lv_aload_n hx hb dX12_reads_84 rfl (lv_at hl 0 rfl) ?_
      refine w_get (k := 17) (f := 24) (T := TX12) (v := .int (sI S_2 a0 24)) F hK hW hL_a0 hK_a0 (by decide) rfl rfl (by decide) i_17 k_262 rfl dX12_reads_85 ?_
      refine lv_aload_n hx hb dX12_reads_88 rfl (lv_at hl 0 rfl) ?_
      refine w_get (k := 17) (f := 13) (T := TX12) (v := .int (sI S_2 a0 13)) F hK hW hL_a0 hK_a0 (by decide) rfl rfl (by decide) i_17 k_259 rfl dX12_reads_89 ?_
      refine lv_icmp_ge (tgt := 106) hx hb dX12_reads_92 (by decide) (fun c_4 => ?_) (fun c_4 => ?_)
      · replace hp := hp.1 c_4
        exact t_X12_reads_106 F hr hlocks hK q_54 hp hW hE (lv_sub hl [0] rfl) hL_a0 hK_a0
      · replace hp := hp.2 c_4
        refine lv_aload_n hx hb dX12_reads_95 rfl (lv_at hl 0 rfl) ?_
        refine w_callI (va_runV (As := []) (rest := []) F (c_X12_standsNext l hL_a0 hK_a0 hp H.size) (cwV (C := RX12) 0 hts (wg_V wm_RX12_379 wy_X12_standsNext) rfl rfl rfl (by decide +kernel) ⟨Nat.le_of_ble_eq_true rfl, Nat.le_of_ble_eq_true rfl⟩) (w_preV hK hW hL_a0 hK_a0 (by decide) rfl) rfl rfl hl.1 rfl (lv_room (Nat.le_of_ble_eq_true rfl)) dX12_reads_96 ⟨Nat.le_of_ble_eq_true rfl, Nat.le_of_ble_eq_true rfl⟩) hW (fun r_5 S_6 H locs hp hW => ?_)
        obtain ⟨hX_S_6, hp⟩ := hp
        refine W.widen (k := 0) (n := 0) (by decide) (by decide) ?_
        have hE := hE.trans hX_S_6
        have hK_a0 : sK S_6 a0 = 17 := (hX_S_6.2 a0 hL_a0).1.trans hK_a0
        have hL_a0 : wM D S_6 a0 := hX_S_6.M hL_a0
        refine lv_if_eq (tgt := 106) hx hb dX12_reads_99 (by decide) (fun c_7 => ?_) (fun c_7 => ?_)
        · replace hp := hp.1 c_7
          exact t_X12_reads_106 F hr hlocks hK q_54 hp hW hE (lv_sub hl [0] rfl) hL_a0 hK_a0
        · replace hp := hp.2 c_7
          refine lv_iconst (v := 1) hx hb dX12_reads_102 (by decide) ?_
          refine lv_goto (tgt := 107) hx hb dX12_reads_103 (by decide) ?_
          exact t_X12_reads_107 F hr hlocks hK q_54 hp hW hE (lv_sub hl [0] rfl) hL_a0 hK_a0
    · replace hp := hp.2 c_3
      refine lv_aload_n hx hb dX12_reads_71 rfl (lv_at hl 0 rfl) ?_
      refine lv_dup hx hb dX12_reads_72 rfl ?_
      refine w_get (k := 17) (f := 24) (T := TX12) (v := .int (sI S_2 a0 24)) F hK hW hL_a0 hK_a0 (by decide) rfl rfl (by decide) i_17 k_262 rfl dX12_reads_73 ?_
      refine lv_iconst (v := 1) hx hb dX12_reads_76 (by decide) ?_
      refine lv_iadd hx hb dX12_reads_77 ?_
      refine w_putI (k := 17) (f := 24) (T := TX12) F hK hW hL_a0 hK_a0 (by decide) (by decide) rfl rfl (by decide) i_17 tyX12 tyX12_ok nmX12 k_262 rfl rfl (ty := .int) rfl rfl rfl dX12_reads_78 (fun H locs hW => ?_)
      obtain ⟨S_8, eS_8⟩ : ∃ z : wS, z = uI S_2 a0 24 ((sI S_2 a0 24) + (1 : Int32)) := ⟨_, rfl⟩
      rw [← eS_8] at hW
      replace hp := hp S_8 eS_8
      have hX_S_8 : wX D S_2 S_8 := by rw [eS_8]; exact wX_uI
      have hE := hE.trans hX_S_8
      have hK_a0 : sK S_8 a0 = 17 := (hX_S_8.2 a0 hL_a0).1.trans hK_a0
      have hL_a0 : wM D S_8 a0 := hX_S_8.M hL_a0
      refine lv_goto (tgt := 58) hx hb dX12_reads_81 (by decide) ?_
      exact ih hp hW hE (lv_sub hl [0] rfl) hL_a0 hK_a0
set_option maxHeartbeats 4000000 in
set_option maxRecDepth 100000 in
theorem t_X12_reads_54 {p : Program} {l : Launch} {e : Env} {s : State} {m : MethodId} {args : Array Value} {below : List Frame} {meth : Method} {c : Code} {D : wD} {cy : Nat → ClassId} {X : va_W} {A : Nat → Prop} {S0 : wS} {post : wS → Prop} (F : CallFix p m c cX12_reads 2 s args wz_X12_reads RX12) (hr : meth.sig.returnType = none) (hlocks : meth.locks = false) (hK : wK D cy A s) : ∀ (n : Nat) {S : wS} {H : Heap} {locs : List Loc} {ls : Array Slot} {a0 : Nat} {x1 : Int32}, wp_X12_reads_54 D post n S a0 x1 → wO D cy X A s.heap S H locs → wX D S0 S → lv_has ls 2 [(0, .ref a0), (1, .int x1)] → wM D S a0 → sK S a0 = 17 → W p l e r_X12_reads s m args below meth c H locs 0 0 (MQ below (va_Qv (fun S9 => wX D S0 S9 ∧ post S9) (wB D cy X A) A) args s 0 0 A) (F0 m 54 ls []) := by
  obtain ⟨hx, hb, hml, hown, hts⟩ := id F
  have hwg : ∀ w ∈ WG, w.before args s = true := fun w h => hts w (List.mem_cons_of_mem _ h)
  have i_17 : ∀ w ∈ u_ws RX12 TX12 43, w ∈ wz_X12_reads := fun w h => List.mem_cons_of_mem _ (wu_17 w h)
  have k_259 := hwg _ wf_RX12_259
  have k_262 := hwg _ wf_RX12_262
  have k_376 := hwg _ wf_RX12_376
  intro n
  induction n with
  | zero =>
    intro S H locs ls a0 x1 hp
    exact hp.elim
  | succ n ih =>
    intro S H locs ls a0 x1 hp hW hE hl hL_a0 hK_a0
    unfold wp_X12_reads_54 at hp
    refine lv_iload_n hx hb dX12_reads_54 rfl (lv_at hl 1 rfl) ?_
    refine lv_if_eq (tgt := 111) hx hb dX12_reads_55 (by decide) (fun c_1 => ?_) (fun c_1 => ?_)
    · replace hp := hp.1 c_1
      refine lv_aload_n hx hb dX12_reads_111 rfl (lv_at hl 0 rfl) ?_
      refine w_get (k := 17) (f := 25) (T := TX12) (v := .int (sI S a0 25)) F hK hW hL_a0 hK_a0 (by decide) rfl rfl (by decide) i_17 k_376 rfl dX12_reads_112 ?_
      refine lv_iconst (v := (-1)) hx hb dX12_reads_115 (by decide) ?_
      refine lv_icmp_ne (tgt := 131) hx hb dX12_reads_116 (by decide) (fun c_2 => ?_) (fun c_2 => ?_)
      · replace hp := hp.1 c_2
        exact t_X12_reads_131 F hr hlocks hK hp hW hE (lv_sub hl [0] rfl) hL_a0 hK_a0
      · replace hp := hp.2 c_2
        refine lv_aload_n hx hb dX12_reads_119 rfl (lv_at hl 0 rfl) ?_
        refine w_get (k := 17) (f := 24) (T := TX12) (v := .int (sI S a0 24)) F hK hW hL_a0 hK_a0 (by decide) rfl rfl (by decide) i_17 k_262 rfl dX12_reads_120 ?_
        refine lv_aload_n hx hb dX12_reads_123 rfl (lv_at hl 0 rfl) ?_
        refine w_get (k := 17) (f := 13) (T := TX12) (v := .int (sI S a0 13)) F hK hW hL_a0 hK_a0 (by decide) rfl rfl (by decide) i_17 k_259 rfl dX12_reads_124 ?_
        refine lv_icmp_ge (tgt := 131) hx hb dX12_reads_127 (by decide) (fun c_3 => ?_) (fun c_3 => ?_)
        · replace hp := hp.1 c_3
          exact t_X12_reads_131 F hr hlocks hK hp hW hE (lv_sub hl [0] rfl) hL_a0 hK_a0
        · replace hp := hp.2 c_3
          exact w_vret hx hb hr hlocks hW ⟨hE, hp⟩ dX12_reads_130
    · replace hp := hp.2 c_1
      obtain ⟨n_4, hp⟩ := hp
      exact t_X12_reads_58 F hr hlocks hK ih n_4 hp hW hE (lv_sub hl [0] rfl) hL_a0 hK_a0
set_option maxHeartbeats 4000000 in
set_option maxRecDepth 100000 in
theorem t_X12_reads_0 {p : Program} {l : Launch} {e : Env} {s : State} {m : MethodId} {args : Array Value} {below : List Frame} {meth : Method} {c : Code} {D : wD} {cy : Nat → ClassId} {X : va_W} {A : Nat → Prop} {S0 : wS} {post : wS → Prop} (F : CallFix p m c cX12_reads 2 s args wz_X12_reads RX12) (hr : meth.sig.returnType = none) (hlocks : meth.locks = false) (hK : wK D cy A s) : ∀ {S : wS} {H : Heap} {locs : List Loc} {ls : Array Slot} {a0 : Nat}, wp_X12_reads_0 D post S a0 → wO D cy X A s.heap S H locs → wX D S0 S → lv_has ls 2 [(0, .ref a0)] → wM D S a0 → sK S a0 = 17 → W p l e r_X12_reads s m args below meth c H locs 0 0 (MQ below (va_Qv (fun S9 => wX D S0 S9 ∧ post S9) (wB D cy X A) A) args s 0 0 A) (F0 m 0 ls []) := by
  obtain ⟨hx, hb, hml, hown, hts⟩ := id F
  have hwg : ∀ w ∈ WG, w.before args s = true := fun w h => hts w (List.mem_cons_of_mem _ h)
  have i_17 : ∀ w ∈ u_ws RX12 TX12 43, w ∈ wz_X12_reads := fun w h => List.mem_cons_of_mem _ (wu_17 w h)
  have k_16 := hwg _ wf_RX12_16
  have k_262 := hwg _ wf_RX12_262
  have k_354 := hwg _ wf_RX12_354
  have k_361 := hwg _ wf_RX12_361
  have k_367 := hwg _ wf_RX12_367
  have k_373 := hwg _ wf_RX12_373
  have k_376 := hwg _ wf_RX12_376
  have k_57 := hwg _ wf_RX12_57
  have k_63 := hwg _ wf_RX12_63
  intro S H locs ls a0 hp hW hE hl hL_a0 hK_a0
  unfold wp_X12_reads_0 at hp
  refine lv_aload_n hx hb dX12_reads_0 rfl (lv_at hl 0 rfl) ?_
  refine lv_iconst (v := 0) hx hb dX12_reads_1 (by decide) ?_
  refine w_putI (k := 17) (f := 27) (T := TX12) F hK hW hL_a0 hK_a0 (by decide) (by decide) rfl rfl (by decide) i_17 tyX12 tyX12_ok nmX12 k_367 rfl rfl (ty := .int) rfl rfl rfl dX12_reads_2 (fun H locs hW => ?_)
  obtain ⟨S_1, eS_1⟩ : ∃ z : wS, z = uI S a0 27 (0 : Int32) := ⟨_, rfl⟩
  rw [← eS_1] at hW
  replace hp := hp S_1 eS_1
  have hX_S_1 : wX D S S_1 := by rw [eS_1]; exact wX_uI
  have hE := hE.trans hX_S_1
  have hK_a0 : sK S_1 a0 = 17 := (hX_S_1.2 a0 hL_a0).1.trans hK_a0
  have hL_a0 : wM D S_1 a0 := hX_S_1.M hL_a0
  refine lv_aload_n hx hb dX12_reads_5 rfl (lv_at hl 0 rfl) ?_
  obtain ⟨y_2, ey_2, hL_y_2, hK_y_2, hp⟩ := hp
  refine w_get (k := 17) (f := 22) (T := TX12) (v := .ref y_2) F hK hW hL_a0 hK_a0 (by decide) rfl rfl (by decide) i_17 k_63 (by rw [show wv 17 22 S_1 a0 = va_rf (sR S_1 a0 22) from rfl, ey_2]; rfl) dX12_reads_6 ?_
  refine lv_iconst (v := 0) hx hb dX12_reads_9 (by decide) ?_
  refine lv_iconst (v := 0) hx hb dX12_reads_10 (by decide) ?_
  obtain ⟨h_3m, h_3, hp⟩ := hp
  refine w_ist F hK hW h_3m hK_y_2 h_3 dX12_reads_11 (fun H locs hW => ?_)
  obtain ⟨S_4, eS_4⟩ : ∃ z : wS, z = uI S_1 y_2 ((0 : Int32)).toNatClampNeg (0 : Int32) := ⟨_, rfl⟩
  rw [← eS_4] at hW
  replace hp := hp S_4 eS_4
  have hX_S_4 : wX D S_1 S_4 := by rw [eS_4]; exact wX_uI
  have hE := hE.trans hX_S_4
  have hK_a0 : sK S_4 a0 = 17 := (hX_S_4.2 a0 hL_a0).1.trans hK_a0
  have hL_a0 : wM D S_4 a0 := hX_S_4.M hL_a0
  refine lv_aload_n hx hb dX12_reads_12 rfl (lv_at hl 0 rfl) ?_
  refine lv_iconst (v := 0) hx hb dX12_reads_13 (by decide) ?_
  refine w_putI (k := 17) (f := 26) (T := TX12) F hK hW hL_a0 hK_a0 (by decide) (by decide) rfl rfl (by decide) i_17 tyX12 tyX12_ok nmX12 k_373 rfl rfl (ty := .int) rfl rfl rfl dX12_reads_14 (fun H locs hW => ?_)
  obtain ⟨S_5, eS_5⟩ : ∃ z : wS, z = uI S_4 a0 26 (0 : Int32) := ⟨_, rfl⟩
  rw [← eS_5] at hW
  replace hp := hp S_5 eS_5
  have hX_S_5 : wX D S_4 S_5 := by rw [eS_5]; exact wX_uI
  have hE := hE.trans hX_S_5
  have hK_a0 : sK S_5 a0 = 17 := (hX_S_5.2 a0 hL_a0).1.trans hK_a0
  have hL_a0 : wM D S_5 a0 := hX_S_5.M hL_a0
  refine lv_aload_n hx hb dX12_reads_17 rfl (lv_at hl 0 rfl) ?_
  refine lv_iconst (v := 0) hx hb dX12_reads_18 (by decide) ?_
  obtain ⟨h_7, h_7f, hp⟩ := hp
  refine w_putI (k := 17) (f := 28) (T := TX12) F hK hW hL_a0 hK_a0 (by decide) (by decide) rfl rfl (by decide) i_17 tyX12 tyX12_ok nmX12 k_361 rfl rfl (ty := .boolean) rfl h_7 h_7f dX12_reads_19 (fun H locs hW => ?_)
  obtain ⟨S_6, eS_6⟩ : ∃ z : wS, z = uI S_5 a0 28 (0 : Int32) := ⟨_, rfl⟩
  rw [← eS_6] at hW
  replace hp := hp S_6 eS_6
  have hX_S_6 : wX D S_5 S_6 := by rw [eS_6]; exact wX_uI
  have hE := hE.trans hX_S_6
  have hK_a0 : sK S_6 a0 = 17 := (hX_S_6.2 a0 hL_a0).1.trans hK_a0
  have hL_a0 : wM D S_6 a0 := hX_S_6.M hL_a0
  refine lv_aload_n hx hb dX12_reads_22 rfl (lv_at hl 0 rfl) ?_
  refine lv_iconst (v := 0) hx hb dX12_reads_23 (by decide) ?_
  obtain ⟨h_9, h_9f, hp⟩ := hp
  refine w_putI (k := 17) (f := 29) (T := TX12) F hK hW hL_a0 hK_a0 (by decide) (by decide) rfl rfl (by decide) i_17 tyX12 tyX12_ok nmX12 k_354 rfl rfl (ty := .boolean) rfl h_9 h_9f dX12_reads_24 (fun H locs hW => ?_)
  obtain ⟨S_8, eS_8⟩ : ∃ z : wS, z = uI S_6 a0 29 (0 : Int32) := ⟨_, rfl⟩
  rw [← eS_8] at hW
  replace hp := hp S_8 eS_8
  have hX_S_8 : wX D S_6 S_8 := by rw [eS_8]; exact wX_uI
  have hE := hE.trans hX_S_8
  have hK_a0 : sK S_8 a0 = 17 := (hX_S_8.2 a0 hL_a0).1.trans hK_a0
  have hL_a0 : wM D S_8 a0 := hX_S_8.M hL_a0
  refine lv_aload_n hx hb dX12_reads_27 rfl (lv_at hl 0 rfl) ?_
  refine lv_iconst (v := (-1)) hx hb dX12_reads_28 (by decide) ?_
  refine w_putI (k := 17) (f := 25) (T := TX12) F hK hW hL_a0 hK_a0 (by decide) (by decide) rfl rfl (by decide) i_17 tyX12 tyX12_ok nmX12 k_376 rfl rfl (ty := .int) rfl rfl rfl dX12_reads_29 (fun H locs hW => ?_)
  obtain ⟨S_10, eS_10⟩ : ∃ z : wS, z = uI S_8 a0 25 (-1 : Int32) := ⟨_, rfl⟩
  rw [← eS_10] at hW
  replace hp := hp S_10 eS_10
  have hX_S_10 : wX D S_8 S_10 := by rw [eS_10]; exact wX_uI
  have hE := hE.trans hX_S_10
  have hK_a0 : sK S_10 a0 = 17 := (hX_S_10.2 a0 hL_a0).1.trans hK_a0
  have hL_a0 : wM D S_10 a0 := hX_S_10.M hL_a0
  refine lv_aload_n hx hb dX12_reads_32 rfl (lv_at hl 0 rfl) ?_
  refine lv_iconst (v := 0) hx hb dX12_reads_33 (by decide) ?_
  refine w_putI (k := 17) (f := 24) (T := TX12) F hK hW hL_a0 hK_a0 (by decide) (by decide) rfl rfl (by decide) i_17 tyX12 tyX12_ok nmX12 k_262 rfl rfl (ty := .int) rfl rfl rfl dX12_reads_34 (fun H locs hW => ?_)
  obtain ⟨S_11, eS_11⟩ : ∃ z : wS, z = uI S_10 a0 24 (0 : Int32) := ⟨_, rfl⟩
  rw [← eS_11] at hW
  replace hp := hp S_11 eS_11
  have hX_S_11 : wX D S_10 S_11 := by rw [eS_11]; exact wX_uI
  have hE := hE.trans hX_S_11
  have hK_a0 : sK S_11 a0 = 17 := (hX_S_11.2 a0 hL_a0).1.trans hK_a0
  have hL_a0 : wM D S_11 a0 := hX_S_11.M hL_a0
  refine lv_bipush (v := 67) hx hb dX12_reads_37 (by decide) ?_
  refine lv_aload_n hx hb dX12_reads_39 rfl (lv_at hl 0 rfl) ?_
  obtain ⟨y_12, ey_12, hL_y_12, hK_y_12, hp⟩ := hp
  refine w_get (k := 17) (f := 3) (T := TX12) (v := .ref y_12) F hK hW hL_a0 hK_a0 (by decide) rfl rfl (by decide) i_17 k_16 (by rw [show wv 17 3 S_11 a0 = va_rf (sR S_11 a0 3) from rfl, ey_12]; rfl) dX12_reads_40 ?_
  refine lv_iconst (v := 0) hx hb dX12_reads_43 (by decide) ?_
  refine lv_aload_n hx hb dX12_reads_44 rfl (lv_at hl 0 rfl) ?_
  obtain ⟨y_13, ey_13, hL_y_13, hK_y_13, hp⟩ := hp
  refine w_get (k := 17) (f := 20) (T := TX12) (v := .ref y_13) F hK hW hL_a0 hK_a0 (by decide) rfl rfl (by decide) i_17 k_57 (by rw [show wv 17 20 S_11 a0 = va_rf (sR S_11 a0 20) from rfl, ey_13]; rfl) dX12_reads_45 ?_
  refine lv_iconst (v := 0) hx hb dX12_reads_48 (by decide) ?_
  refine w_callV (va_runS (As := [.int (67 : Int32), .ref y_12, .int (0 : Int32), .ref y_13, .int (0 : Int32)]) (rest := []) F (c_X12_copies l hL_y_12 hK_y_12 hL_y_13 hK_y_13 hp H.size) (va_cwS 5 hts (wg_S wm_RX12_130 wy_X12_copies) rfl rfl rfl (by decide +kernel) ⟨Nat.le_of_ble_eq_true rfl, Nat.le_of_ble_eq_true rfl⟩) (w_preS hK hW) rfl rfl hl.1 rfl (lv_room (Nat.le_of_ble_eq_true rfl)) dX12_reads_49 ⟨Nat.le_of_ble_eq_true rfl, Nat.le_of_ble_eq_true rfl⟩) hW (fun S_15 H locs hp hW => ?_)
  obtain ⟨hX_S_15, hp⟩ := hp
  refine W.widen (k := 0) (n := 0) (by decide) (by decide) ?_
  have hE := hE.trans hX_S_15
  have hK_a0 : sK S_15 a0 = 17 := (hX_S_15.2 a0 hL_a0).1.trans hK_a0
  have hL_a0 : wM D S_15 a0 := hX_S_15.M hL_a0
  refine lv_iconst (v := 1) hx hb dX12_reads_52 (by decide) ?_
  refine lv_istore_n (lv' := [(1, .int (1 : Int32)), (0, .ref a0)]) hx hb dX12_reads_53 rfl hl (by decide) rfl (fun ls hl => ?_)
  obtain ⟨n_16, hp⟩ := hp
  exact t_X12_reads_54 F hr hlocks hK n_16 hp hW hE (lv_sub hl [1, 0] rfl) hL_a0 hK_a0
set_option maxHeartbeats 4000000 in
set_option maxRecDepth 100000 in
theorem c_X12_reads (l : Launch) {D : wD} {cy : Nat → ClassId} {X : va_W} {S0 : wS} {post : wS → Prop} {a0 : Nat} (hL_a0 : wM D S0 a0) (hK_a0 : sK S0 a0 = 17) (hp : wp_X12_reads D post S0 a0) : mV D cy X l yX12_reads wz_X12_reads r_X12_reads [.ref a0] S0 (fun S9 => wX D S0 S9 ∧ post S9) := by
  intro sz
  refine Met.ofW (cc := cX12_reads) (maxL := 2) (ret := none) (by decide) rfl ?_
  intro p e s m args below meth c s₁ B hml hv
  obtain ⟨rfl, hsz, hP, hK, hD0, hRO⟩ := hv
  have hts := atoms_spec (ws := wz_X12_reads) B.pre
  have hown : s.vm.findClass RX12 = some m.cls := findClass_of_methodNamed B.named
  subst hsz
  have hD := hD0.self (sz := s.heap.size)
  have F : CallFix p m c cX12_reads 2 s _ wz_X12_reads RX12 := ⟨B.exec, B.bytes, hml, hown, hts⟩
  have hr := B.returns
  have hlocks := B.notSynchronized
  generalize hAe : va_A (wL cy X S0) s.heap.size = A at hD hK ⊢
  have hA : ∀ q, s.heap.size ≤ q → A q := fun q h => by rw [← hAe]; exact Or.inr h
  have hW : wO D cy X A s.heap S0 s.heap [] := ⟨hP, hD, va_S.rf, hA, hRO⟩
  have hl := lv_entry ([.ref a0]) (n := 2) (Nat.le_of_ble_eq_true rfl)
  rw [lg_entry_eq]
  generalize (lg_sl ([.ref a0]) ++ List.replicate (2 - (lg_sl ([.ref a0])).length) Slot.unset).toArray = ls at hl ⊢
  have hl : lv_has ls 2 [(0, .ref a0)] := hl
  unfold wp_X12_reads at hp
  exact t_X12_reads_0 F hr hlocks hK hp hW wX.rf (lv_sub hl [0] rfl) hL_a0 hK_a0
def wp_X12_fault_0 (D : wD) (post : Int32 → wS → Prop)  (S : wS) (a0 : Nat) : Prop :=
wp_X12_isAskable D (fun r_1 S_2 => 
wp_X12_can D (fun r_3 S_4 => 
((¬ r_3 = 0 → wp_X12_reads D (fun S_7 => 
post (sI S_7 a0 25) S_7) S_4 a0) ∧
 (r_3 = 0 → post (0 : Int32) S_4))) S_2 a0 r_1 (1 : Int32)) S a0
abbrev r_X12_fault : Room := { frames := 14, cells := 0, slots := 0, locals := 333 }
def wp_X12_fault (D : wD) (post : Int32 → wS → Prop) (S : wS) (a0 : Nat) : Prop := wp_X12_fault_0 D post S a0
set_option maxHeartbeats 4000000 in
set_option maxRecDepth 100000 in
theorem t_X12_fault_0 {p : Program} {l : Launch} {e : Env} {s : State} {m : MethodId} {args : Array Value} {below : List Frame} {meth : Method} {c : Code} {D : wD} {cy : Nat → ClassId} {X : va_W} {A : Nat → Prop} {S0 : wS} {post : Int32 → wS → Prop} (F : CallFix p m c cX12_fault 1 s args wz_X12_fault RX12) (hr : meth.sig.returnType = (some .int)) (hlocks : meth.locks = false) (hK : wK D cy A s) : ∀ {S : wS} {H : Heap} {locs : List Loc} {ls : Array Slot} {a0 : Nat}, wp_X12_fault_0 D post S a0 → wO D cy X A s.heap S H locs → wX D S0 S → lv_has ls 1 [(0, .ref a0)] → wM D S a0 → sK S a0 = 17 → W p l e r_X12_fault s m args below meth c H locs 0 0 (MQ below (va_Qi (fun r S9 => wX D S0 S9 ∧ post r S9) (wB D cy X A) A) args s 0 0 A) (F0 m 0 ls []) := by
  obtain ⟨hx, hb, hml, hown, hts⟩ := id F
  have hwg : ∀ w ∈ WG, w.before args s = true := fun w h => hts w (List.mem_cons_of_mem _ h)
  have i_17 : ∀ w ∈ u_ws RX12 TX12 43, w ∈ wz_X12_fault := fun w h => List.mem_cons_of_mem _ (wu_17 w h)
  have k_376 := hwg _ wf_RX12_376
  intro S H locs ls a0 hp hW hE hl hL_a0 hK_a0
  unfold wp_X12_fault_0 at hp
  refine lv_aload_n hx hb dX12_fault_0 rfl (lv_at hl 0 rfl) ?_
  refine lv_aload_n hx hb dX12_fault_1 rfl (lv_at hl 0 rfl) ?_
  refine w_callI (va_runV (As := []) (rest := [.ref a0]) F (c_X12_isAskable l hL_a0 hK_a0 hp H.size) (cwV (C := RX12) 0 hts (wg_V wm_RX12_284 wy_X12_isAskable) rfl rfl rfl (by decide +kernel) ⟨Nat.le_of_ble_eq_true rfl, Nat.le_of_ble_eq_true rfl⟩) (w_preV hK hW hL_a0 hK_a0 (by decide) rfl) rfl rfl hl.1 rfl (lv_room (Nat.le_of_ble_eq_true rfl)) dX12_fault_2 ⟨Nat.le_of_ble_eq_true rfl, Nat.le_of_ble_eq_true rfl⟩) hW (fun r_1 S_2 H locs hp hW => ?_)
  obtain ⟨hX_S_2, hp⟩ := hp
  refine W.widen (k := 0) (n := 0) (by decide) (by decide) ?_
  have hE := hE.trans hX_S_2
  have hK_a0 : sK S_2 a0 = 17 := (hX_S_2.2 a0 hL_a0).1.trans hK_a0
  have hL_a0 : wM D S_2 a0 := hX_S_2.M hL_a0
  refine lv_iconst (v := 1) hx hb dX12_fault_5 (by decide) ?_
  refine w_callI (va_runV (As := [.int r_1, .int (1 : Int32)]) (rest := []) F (c_X12_can l hL_a0 hK_a0 hp H.size) (cwV (C := RX12) 2 hts (wg_V wm_RX12_237 wy_X12_can) rfl rfl rfl (by decide +kernel) ⟨Nat.le_of_ble_eq_true rfl, Nat.le_of_ble_eq_true rfl⟩) (w_preV hK hW hL_a0 hK_a0 (by decide) rfl) rfl rfl hl.1 rfl (lv_room (Nat.le_of_ble_eq_true rfl)) dX12_fault_6 ⟨Nat.le_of_ble_eq_true rfl, Nat.le_of_ble_eq_true rfl⟩) hW (fun r_3 S_4 H locs hp hW => ?_)
  obtain ⟨hX_S_4, hp⟩ := hp
  refine W.widen (k := 0) (n := 0) (by decide) (by decide) ?_
  have hE := hE.trans hX_S_4
  have hK_a0 : sK S_4 a0 = 17 := (hX_S_4.2 a0 hL_a0).1.trans hK_a0
  have hL_a0 : wM D S_4 a0 := hX_S_4.M hL_a0
  refine lv_if_ne (tgt := 14) hx hb dX12_fault_9 (by decide) (fun c_5 => ?_) (fun c_5 => ?_)
  · replace hp := hp.1 c_5
    refine lv_aload_n hx hb dX12_fault_14 rfl (lv_at hl 0 rfl) ?_
    refine w_callV (va_runV (As := []) (rest := []) F (c_X12_reads l hL_a0 hK_a0 hp H.size) (cwV (C := RX12) 0 hts (wg_V wm_RX12_391 wy_X12_reads) rfl rfl rfl (by decide +kernel) ⟨Nat.le_of_ble_eq_true rfl, Nat.le_of_ble_eq_true rfl⟩) (w_preV hK hW hL_a0 hK_a0 (by decide) rfl) rfl rfl hl.1 rfl (lv_room (Nat.le_of_ble_eq_true rfl)) dX12_fault_15 ⟨Nat.le_of_ble_eq_true rfl, Nat.le_of_ble_eq_true rfl⟩) hW (fun S_7 H locs hp hW => ?_)
    obtain ⟨hX_S_7, hp⟩ := hp
    refine W.widen (k := 0) (n := 0) (by decide) (by decide) ?_
    have hE := hE.trans hX_S_7
    have hK_a0 : sK S_7 a0 = 17 := (hX_S_7.2 a0 hL_a0).1.trans hK_a0
    have hL_a0 : wM D S_7 a0 := hX_S_7.M hL_a0
    refine lv_aload_n hx hb dX12_fault_18 rfl (lv_at hl 0 rfl) ?_
    refine w_get (k := 17) (f := 25) (T := TX12) (v := .int (sI S_7 a0 25)) F hK hW hL_a0 hK_a0 (by decide) rfl rfl (by decide) i_17 k_376 rfl dX12_fault_19 ?_
    exact w_iret hx hb hr hlocks hW ⟨hE, hp⟩ dX12_fault_22
  · replace hp := hp.2 c_5
    refine lv_iconst (v := 0) hx hb dX12_fault_12 (by decide) ?_
    exact w_iret hx hb hr hlocks hW ⟨hE, hp⟩ dX12_fault_13
set_option maxHeartbeats 4000000 in
set_option maxRecDepth 100000 in
theorem c_X12_fault (l : Launch) {D : wD} {cy : Nat → ClassId} {X : va_W} {S0 : wS} {post : Int32 → wS → Prop} {a0 : Nat} (hL_a0 : wM D S0 a0) (hK_a0 : sK S0 a0 = 17) (hp : wp_X12_fault D post S0 a0) : mI D cy X l yX12_fault wz_X12_fault r_X12_fault [.ref a0] S0 (fun r S9 => wX D S0 S9 ∧ post r S9) := by
  intro sz
  refine Met.ofW (cc := cX12_fault) (maxL := 1) (ret := (some .int)) (by decide) rfl ?_
  intro p e s m args below meth c s₁ B hml hv
  obtain ⟨rfl, hsz, hP, hK, hD0, hRO⟩ := hv
  have hts := atoms_spec (ws := wz_X12_fault) B.pre
  have hown : s.vm.findClass RX12 = some m.cls := findClass_of_methodNamed B.named
  subst hsz
  have hD := hD0.self (sz := s.heap.size)
  have F : CallFix p m c cX12_fault 1 s _ wz_X12_fault RX12 := ⟨B.exec, B.bytes, hml, hown, hts⟩
  have hr := B.returns
  have hlocks := B.notSynchronized
  generalize hAe : va_A (wL cy X S0) s.heap.size = A at hD hK ⊢
  have hA : ∀ q, s.heap.size ≤ q → A q := fun q h => by rw [← hAe]; exact Or.inr h
  have hW : wO D cy X A s.heap S0 s.heap [] := ⟨hP, hD, va_S.rf, hA, hRO⟩
  have hl := lv_entry ([.ref a0]) (n := 1) (Nat.le_of_ble_eq_true rfl)
  rw [lg_entry_eq]
  generalize (lg_sl ([.ref a0]) ++ List.replicate (1 - (lg_sl ([.ref a0])).length) Slot.unset).toArray = ls at hl ⊢
  have hl : lv_has ls 1 [(0, .ref a0)] := hl
  unfold wp_X12_fault at hp
  exact t_X12_fault_0 F hr hlocks hK hp hW wX.rf (lv_sub hl [0] rfl) hL_a0 hK_a0
def wp_X12_lasts_147 (D : wD) (post : Int32 → wS → Prop)  (S : wS) (t0 : Int32) : Prop :=
post t0 S
def wp_X12_lasts_112 (D : wD) (post : Int32 → wS → Prop) (k_9 : wS → Nat → Int32 → Int32 → Int32 → Int32 → Int32 → Int32 → Int32 → Prop) (S : wS) (a0 : Nat) (x1 : Int32) (x2 : Int32) (x3 : Int32) (x4 : Int32) (x5 : Int32) (x6 : Int32) (x7 : Int32) : Prop :=
∀ x_1 : Int32, x_1 = x7 + 1 →
k_9 S a0 x1 x2 x3 x4 x5 x6 x_1
def wp_X12_lasts_110 (D : wD) (post : Int32 → wS → Prop) (k_9 : wS → Nat → Int32 → Int32 → Int32 → Int32 → Int32 → Int32 → Int32 → Prop) (S : wS) (a0 : Nat) (x1 : Int32) (x2 : Int32) (x3 : Int32) (x4 : Int32) (x6 : Int32) (x7 : Int32) (t0 : Int32) : Prop :=
wp_X12_lasts_112 D post k_9 S a0 x1 x2 x3 x4 t0 x6 x7
def wp_X12_lasts_9 (D : wD) (post : Int32 → wS → Prop)  : Nat → wS → Nat → Int32 → Int32 → Int32 → Int32 → Int32 → Int32 → Int32 → Prop
  | 0, _, _, _, _, _, _, _, _, _ => False
  | n + 1, S, a0, x1, x2, x3, x4, x5, x6, x7 =>
    wp_X12_squares D (fun r_1 S_2 => 
    ((r_1 ≤ x7 → ((x6 = 0 → wp_X12_strikes D (fun r_5 S_6 => 
    ((r_5 = 0 → wp_X12_lasts_147 D post S_6 (-1 : Int32)) ∧
     (¬ r_5 = 0 → wp_X12_lasts_147 D post S_6 (0 : Int32)))) S_2 a0 x1 x4 x3 x2) ∧
     (¬ x6 = 0 → wp_X12_lasts_147 D post S_2 (x5 + (1 : Int32))))) ∧
     (¬ r_1 ≤ x7 → ((x7 = x3 → wp_X12_lasts_112 D post (wp_X12_lasts_9 D post n) S_2 a0 x1 x2 x3 x4 x5 x6 x7) ∧
     (¬ x7 = x3 → wp_X12_isNear D (fun r_9 S_10 => 
    ((r_9 = 0 → wp_X12_lasts_112 D post (wp_X12_lasts_9 D post n) S_10 a0 x1 x2 x3 x4 x5 x6 x7) ∧
     (¬ r_9 = 0 → wp_X12_isNear D (fun r_12 S_13 => 
    ((r_12 = 0 → ((¬ x7 = x4 → wp_X12_strikes D (fun r_16 S_17 => 
    ((¬ r_16 = 0 → wp_X12_lasts_112 D post (wp_X12_lasts_9 D post n) S_17 a0 x1 x2 x3 x4 x5 x6 x7) ∧
     (r_16 = 0 → ∃ y_19 : Nat, sR S_17 a0 41 = some y_19 ∧ wM D S_17 y_19 ∧ sK S_17 y_19 = 21 ∧
    wp_X12_valueAt D (fun r_20 S_21 => 
    vp_in r_20 (sN S_21 y_19) ∧
    ∀ x_23 : Int32, x_23 = (sI S_21 y_19 (r_20).toNatClampNeg) →
    ((0 ≤ x_23 → ((x_23 ≤ x5 → wp_X12_lasts_110 D post (wp_X12_lasts_9 D post n) S_21 a0 x1 x2 x3 x4 (1 : Int32) x7 x5) ∧
     (¬ x_23 ≤ x5 → wp_X12_lasts_110 D post (wp_X12_lasts_9 D post n) S_21 a0 x1 x2 x3 x4 (1 : Int32) x7 x_23))) ∧
     (¬ 0 ≤ x_23 → post (-1 : Int32) S_21))) S_17 x1 (0 : Int32) x2 x7 x4))) S_13 a0 x1 x4 x7 x2) ∧
     (x7 = x4 → post (-1 : Int32) S_13))) ∧
     (¬ r_12 = 0 → wp_X12_lasts_112 D post (wp_X12_lasts_9 D post n) S_13 a0 x1 x2 x3 x4 x5 x6 x7))) S_10 a0 x2 x7))) S_2 a0 x3 x7))))) S a0
def wp_X12_lasts_0 (D : wD) (post : Int32 → wS → Prop)  (S : wS) (a0 : Nat) (x1 : Int32) (x2 : Int32) (x3 : Int32) (x4 : Int32) : Prop :=
∃ n_1 : Nat, wp_X12_lasts_9 D post n_1 S a0 x1 x2 x3 x4 (-1 : Int32) (0 : Int32) (0 : Int32)
abbrev r_X12_lasts : Room := { frames := 2, cells := 0, slots := 0, locals := 53 }
def wp_X12_lasts (D : wD) (post : Int32 → wS → Prop) (S : wS) (a0 : Nat) (x1 : Int32) (x2 : Int32) (x3 : Int32) (x4 : Int32) : Prop := wp_X12_lasts_0 D post S a0 x1 x2 x3 x4
set_option maxHeartbeats 4000000 in
set_option maxRecDepth 100000 in
theorem t_X12_lasts_147 {p : Program} {l : Launch} {e : Env} {s : State} {m : MethodId} {args : Array Value} {below : List Frame} {meth : Method} {c : Code} {D : wD} {cy : Nat → ClassId} {X : va_W} {A : Nat → Prop} {S0 : wS} {post : Int32 → wS → Prop} (F : CallFix p m c cX12_lasts 9 s args wz_X12_lasts RX12) (hr : meth.sig.returnType = (some .int)) (hlocks : meth.locks = false) (hK : wK D cy A s) : ∀ {S : wS} {H : Heap} {locs : List Loc} {ls : Array Slot} {t0 : Int32}, wp_X12_lasts_147 D post S t0 → wO D cy X A s.heap S H locs → wX D S0 S → lv_has ls 9 [] → W p l e r_X12_lasts s m args below meth c H locs 0 0 (MQ below (va_Qi (fun r S9 => wX D S0 S9 ∧ post r S9) (wB D cy X A) A) args s 0 0 A) (F0 m 147 ls [.int t0]) := by
  obtain ⟨hx, hb, hml, hown, hts⟩ := id F
  have hwg : ∀ w ∈ WG, w.before args s = true := fun w h => hts w (List.mem_cons_of_mem _ h)
  intro S H locs ls t0 hp hW hE hl
  unfold wp_X12_lasts_147 at hp
  exact w_iret hx hb hr hlocks hW ⟨hE, hp⟩ dX12_lasts_147
set_option maxHeartbeats 4000000 in
set_option maxRecDepth 100000 in
theorem t_X12_lasts_112 {p : Program} {l : Launch} {e : Env} {s : State} {m : MethodId} {args : Array Value} {below : List Frame} {meth : Method} {c : Code} {D : wD} {cy : Nat → ClassId} {X : va_W} {A : Nat → Prop} {S0 : wS} {post : Int32 → wS → Prop} (F : CallFix p m c cX12_lasts 9 s args wz_X12_lasts RX12) (hr : meth.sig.returnType = (some .int)) (hlocks : meth.locks = false) (hK : wK D cy A s) {k_9 : wS → Nat → Int32 → Int32 → Int32 → Int32 → Int32 → Int32 → Int32 → Prop} (q_9 : ∀ {S : wS} {H : Heap} {locs : List Loc} {ls : Array Slot} {a0 : Nat} {x1 : Int32} {x2 : Int32} {x3 : Int32} {x4 : Int32} {x5 : Int32} {x6 : Int32} {x7 : Int32}, k_9 S a0 x1 x2 x3 x4 x5 x6 x7 → wO D cy X A s.heap S H locs → wX D S0 S → lv_has ls 9 [(0, .ref a0), (1, .int x1), (2, .int x2), (3, .int x3), (4, .int x4), (5, .int x5), (6, .int x6), (7, .int x7)] → wM D S a0 → sK S a0 = 17 → W p l e r_X12_lasts s m args below meth c H locs 0 0 (MQ below (va_Qi (fun r S9 => wX D S0 S9 ∧ post r S9) (wB D cy X A) A) args s 0 0 A) (F0 m 9 ls [])) : ∀ {S : wS} {H : Heap} {locs : List Loc} {ls : Array Slot} {a0 : Nat} {x1 : Int32} {x2 : Int32} {x3 : Int32} {x4 : Int32} {x5 : Int32} {x6 : Int32} {x7 : Int32}, wp_X12_lasts_112 D post k_9 S a0 x1 x2 x3 x4 x5 x6 x7 → wO D cy X A s.heap S H locs → wX D S0 S → lv_has ls 9 [(0, .ref a0), (1, .int x1), (2, .int x2), (3, .int x3), (4, .int x4), (5, .int x5), (6, .int x6), (7, .int x7)] → wM D S a0 → sK S a0 = 17 → W p l e r_X12_lasts s m args below meth c H locs 0 0 (MQ below (va_Qi (fun r S9 => wX D S0 S9 ∧ post r S9) (wB D cy X A) A) args s 0 0 A) (F0 m 112 ls []) := by
  obtain ⟨hx, hb, hml, hown, hts⟩ := id F
  have hwg : ∀ w ∈ WG, w.before args s = true := fun w h => hts w (List.mem_cons_of_mem _ h)
  intro S H locs ls a0 x1 x2 x3 x4 x5 x6 x7 hp hW hE hl hL_a0 hK_a0
  unfold wp_X12_lasts_112 at hp
  obtain ⟨x_1, ex_1⟩ : ∃ z : Int32, z = x7 + 1 := ⟨_, rfl⟩
  replace hp := hp x_1 ex_1
  refine lv_iinc (v := x_1) (lv' := [(7, .int x_1), (0, .ref a0), (1, .int x1), (2, .int x2), (3, .int x3), (4, .int x4), (5, .int x5), (6, .int x6)]) hx hb dX12_lasts_112 hl (k := 7) rfl (by rw [ex_1]; rfl) (by decide) rfl (fun ls hl => ?_)
  refine lv_goto (tgt := 9) hx hb dX12_lasts_115 (by decide) ?_
  exact q_9 hp hW hE (lv_sub hl [1, 2, 3, 4, 5, 6, 7, 0] rfl) hL_a0 hK_a0
set_option maxHeartbeats 4000000 in
set_option maxRecDepth 100000 in
theorem t_X12_lasts_110 {p : Program} {l : Launch} {e : Env} {s : State} {m : MethodId} {args : Array Value} {below : List Frame} {meth : Method} {c : Code} {D : wD} {cy : Nat → ClassId} {X : va_W} {A : Nat → Prop} {S0 : wS} {post : Int32 → wS → Prop} (F : CallFix p m c cX12_lasts 9 s args wz_X12_lasts RX12) (hr : meth.sig.returnType = (some .int)) (hlocks : meth.locks = false) (hK : wK D cy A s) {k_9 : wS → Nat → Int32 → Int32 → Int32 → Int32 → Int32 → Int32 → Int32 → Prop} (q_9 : ∀ {S : wS} {H : Heap} {locs : List Loc} {ls : Array Slot} {a0 : Nat} {x1 : Int32} {x2 : Int32} {x3 : Int32} {x4 : Int32} {x5 : Int32} {x6 : Int32} {x7 : Int32}, k_9 S a0 x1 x2 x3 x4 x5 x6 x7 → wO D cy X A s.heap S H locs → wX D S0 S → lv_has ls 9 [(0, .ref a0), (1, .int x1), (2, .int x2), (3, .int x3), (4, .int x4), (5, .int x5), (6, .int x6), (7, .int x7)] → wM D S a0 → sK S a0 = 17 → W p l e r_X12_lasts s m args below meth c H locs 0 0 (MQ below (va_Qi (fun r S9 => wX D S0 S9 ∧ post r S9) (wB D cy X A) A) args s 0 0 A) (F0 m 9 ls [])) : ∀ {S : wS} {H : Heap} {locs : List Loc} {ls : Array Slot} {a0 : Nat} {x1 : Int32} {x2 : Int32} {x3 : Int32} {x4 : Int32} {x6 : Int32} {x7 : Int32} {t0 : Int32}, wp_X12_lasts_110 D post k_9 S a0 x1 x2 x3 x4 x6 x7 t0 → wO D cy X A s.heap S H locs → wX D S0 S → lv_has ls 9 [(0, .ref a0), (1, .int x1), (2, .int x2), (3, .int x3), (4, .int x4), (6, .int x6), (7, .int x7)] → wM D S a0 → sK S a0 = 17 → W p l e r_X12_lasts s m args below meth c H locs 0 0 (MQ below (va_Qi (fun r S9 => wX D S0 S9 ∧ post r S9) (wB D cy X A) A) args s 0 0 A) (F0 m 110 ls [.int t0]) := by
  obtain ⟨hx, hb, hml, hown, hts⟩ := id F
  have hwg : ∀ w ∈ WG, w.before args s = true := fun w h => hts w (List.mem_cons_of_mem _ h)
  intro S H locs ls a0 x1 x2 x3 x4 x6 x7 t0 hp hW hE hl hL_a0 hK_a0
  unfold wp_X12_lasts_110 at hp
  refine lv_istore (lv' := [(5, .int t0), (0, .ref a0), (1, .int x1), (2, .int x2), (3, .int x3), (4, .int x4), (6, .int x6), (7, .int x7)]) hx hb dX12_lasts_110 hl (by decide) rfl (fun ls hl => ?_)
  exact t_X12_lasts_112 F hr hlocks hK q_9 hp hW hE (lv_sub hl [1, 2, 3, 4, 5, 0, 6, 7] rfl) hL_a0 hK_a0
set_option maxHeartbeats 4000000 in
set_option maxRecDepth 100000 in
theorem t_X12_lasts_9 {p : Program} {l : Launch} {e : Env} {s : State} {m : MethodId} {args : Array Value} {below : List Frame} {meth : Method} {c : Code} {D : wD} {cy : Nat → ClassId} {X : va_W} {A : Nat → Prop} {S0 : wS} {post : Int32 → wS → Prop} (F : CallFix p m c cX12_lasts 9 s args wz_X12_lasts RX12) (hr : meth.sig.returnType = (some .int)) (hlocks : meth.locks = false) (hK : wK D cy A s) : ∀ (n : Nat) {S : wS} {H : Heap} {locs : List Loc} {ls : Array Slot} {a0 : Nat} {x1 : Int32} {x2 : Int32} {x3 : Int32} {x4 : Int32} {x5 : Int32} {x6 : Int32} {x7 : Int32}, wp_X12_lasts_9 D post n S a0 x1 x2 x3 x4 x5 x6 x7 → wO D cy X A s.heap S H locs → wX D S0 S → lv_has ls 9 [(0, .ref a0), (1, .int x1), (2, .int x2), (3, .int x3), (4, .int x4), (5, .int x5), (6, .int x6), (7, .int x7)] → wM D S a0 → sK S a0 = 17 → W p l e r_X12_lasts s m args below meth c H locs 0 0 (MQ below (va_Qi (fun r S9 => wX D S0 S9 ∧ post r S9) (wB D cy X A) A) args s 0 0 A) (F0 m 9 ls []) := by
  obtain ⟨hx, hb, hml, hown, hts⟩ := id F
  have hwg : ∀ w ∈ WG, w.before args s = true := fun w h => hts w (List.mem_cons_of_mem _ h)
  have i_17 : ∀ w ∈ u_ws RX12 TX12 43, w ∈ wz_X12_lasts := fun w h => List.mem_cons_of_mem _ (wu_17 w h)
  have k_101 := hwg _ wf_RX12_101
  intro n
  induction n with
  | zero =>
    intro S H locs ls a0 x1 x2 x3 x4 x5 x6 x7 hp
    exact hp.elim
  | succ n ih =>
    intro S H locs ls a0 x1 x2 x3 x4 x5 x6 x7 hp hW hE hl hL_a0 hK_a0
    unfold wp_X12_lasts_9 at hp
    refine lv_iload hx hb dX12_lasts_9 (lv_at hl 7 rfl) ?_
    refine lv_aload_n hx hb dX12_lasts_11 rfl (lv_at hl 0 rfl) ?_
    refine w_callI (va_runV (As := []) (rest := [.int x7]) F (c_X12_squares l hL_a0 hK_a0 hp H.size) (cwV (C := RX12) 0 hts (wg_V wm_RX12_113 wy_X12_squares) rfl rfl rfl (by decide +kernel) ⟨Nat.le_of_ble_eq_true rfl, Nat.le_of_ble_eq_true rfl⟩) (w_preV hK hW hL_a0 hK_a0 (by decide) rfl) rfl rfl hl.1 rfl (lv_room (Nat.le_of_ble_eq_true rfl)) dX12_lasts_12 ⟨Nat.le_of_ble_eq_true rfl, Nat.le_of_ble_eq_true rfl⟩) hW (fun r_1 S_2 H locs hp hW => ?_)
    obtain ⟨hX_S_2, hp⟩ := hp
    refine W.widen (k := 0) (n := 0) (by decide) (by decide) ?_
    have hE := hE.trans hX_S_2
    have hK_a0 : sK S_2 a0 = 17 := (hX_S_2.2 a0 hL_a0).1.trans hK_a0
    have hL_a0 : wM D S_2 a0 := hX_S_2.M hL_a0
    refine lv_icmp_ge (tgt := 118) hx hb dX12_lasts_15 (by decide) (fun c_3 => ?_) (fun c_3 => ?_)
    · replace hp := hp.1 c_3
      refine lv_iload hx hb dX12_lasts_118 (lv_at hl 6 rfl) ?_
      refine lv_if_eq (tgt := 130) hx hb dX12_lasts_120 (by decide) (fun c_4 => ?_) (fun c_4 => ?_)
      · replace hp := hp.1 c_4
        refine lv_aload_n hx hb dX12_lasts_130 rfl (lv_at hl 0 rfl) ?_
        refine lv_iload_n hx hb dX12_lasts_131 rfl (lv_at hl 1 rfl) ?_
        refine lv_iload hx hb dX12_lasts_132 (lv_at hl 4 rfl) ?_
        refine lv_iload_n hx hb dX12_lasts_134 rfl (lv_at hl 3 rfl) ?_
        refine lv_iload_n hx hb dX12_lasts_135 rfl (lv_at hl 2 rfl) ?_
        refine w_callI (va_runV (As := [.int x1, .int x4, .int x3, .int x2]) (rest := []) F (c_X12_strikes l hL_a0 hK_a0 hp H.size) (cwV (C := RX12) 4 hts (wg_V wm_RX12_479 wy_X12_strikes) rfl rfl rfl (by decide +kernel) ⟨Nat.le_of_ble_eq_true rfl, Nat.le_of_ble_eq_true rfl⟩) (w_preV hK hW hL_a0 hK_a0 (by decide) rfl) rfl rfl hl.1 rfl (lv_room (Nat.le_of_ble_eq_true rfl)) dX12_lasts_136 ⟨Nat.le_of_ble_eq_true rfl, Nat.le_of_ble_eq_true rfl⟩) hW (fun r_5 S_6 H locs hp hW => ?_)
        obtain ⟨hX_S_6, hp⟩ := hp
        refine W.widen (k := 0) (n := 0) (by decide) (by decide) ?_
        have hE := hE.trans hX_S_6
        have hK_a0 : sK S_6 a0 = 17 := (hX_S_6.2 a0 hL_a0).1.trans hK_a0
        have hL_a0 : wM D S_6 a0 := hX_S_6.M hL_a0
        refine lv_if_eq (tgt := 146) hx hb dX12_lasts_139 (by decide) (fun c_7 => ?_) (fun c_7 => ?_)
        · replace hp := hp.1 c_7
          refine lv_iconst (v := (-1)) hx hb dX12_lasts_146 (by decide) ?_
          exact t_X12_lasts_147 F hr hlocks hK hp hW hE (lv_sub hl [] rfl)
        · replace hp := hp.2 c_7
          refine lv_iconst (v := 0) hx hb dX12_lasts_142 (by decide) ?_
          refine lv_goto (tgt := 147) hx hb dX12_lasts_143 (by decide) ?_
          exact t_X12_lasts_147 F hr hlocks hK hp hW hE (lv_sub hl [] rfl)
      · replace hp := hp.2 c_4
        refine lv_iload hx hb dX12_lasts_123 (lv_at hl 5 rfl) ?_
        refine lv_iconst (v := 1) hx hb dX12_lasts_125 (by decide) ?_
        refine lv_iadd hx hb dX12_lasts_126 ?_
        refine lv_goto (tgt := 147) hx hb dX12_lasts_127 (by decide) ?_
        exact t_X12_lasts_147 F hr hlocks hK hp hW hE (lv_sub hl [] rfl)
    · replace hp := hp.2 c_3
      refine lv_iload hx hb dX12_lasts_18 (lv_at hl 7 rfl) ?_
      refine lv_iload_n hx hb dX12_lasts_20 rfl (lv_at hl 3 rfl) ?_
      refine lv_icmp_eq (tgt := 112) hx hb dX12_lasts_21 (by decide) (fun c_8 => ?_) (fun c_8 => ?_)
      · replace hp := hp.1 c_8
        exact t_X12_lasts_112 F hr hlocks hK ih hp hW hE (lv_sub hl [0, 1, 2, 3, 4, 5, 6, 7] rfl) hL_a0 hK_a0
      · replace hp := hp.2 c_8
        refine lv_aload_n hx hb dX12_lasts_24 rfl (lv_at hl 0 rfl) ?_
        refine lv_iload_n hx hb dX12_lasts_25 rfl (lv_at hl 3 rfl) ?_
        refine lv_iload hx hb dX12_lasts_26 (lv_at hl 7 rfl) ?_
        refine w_callI (va_runV (As := [.int x3, .int x7]) (rest := []) F (c_X12_isNear l hL_a0 hK_a0 hp H.size) (cwV (C := RX12) 2 hts (wg_V wm_RX12_476 wy_X12_isNear) rfl rfl rfl (by decide +kernel) ⟨Nat.le_of_ble_eq_true rfl, Nat.le_of_ble_eq_true rfl⟩) (w_preV hK hW hL_a0 hK_a0 (by decide) rfl) rfl rfl hl.1 rfl (lv_room (Nat.le_of_ble_eq_true rfl)) dX12_lasts_28 ⟨Nat.le_of_ble_eq_true rfl, Nat.le_of_ble_eq_true rfl⟩) hW (fun r_9 S_10 H locs hp hW => ?_)
        obtain ⟨hX_S_10, hp⟩ := hp
        refine W.widen (k := 0) (n := 0) (by decide) (by decide) ?_
        have hE := hE.trans hX_S_10
        have hK_a0 : sK S_10 a0 = 17 := (hX_S_10.2 a0 hL_a0).1.trans hK_a0
        have hL_a0 : wM D S_10 a0 := hX_S_10.M hL_a0
        refine lv_if_eq (tgt := 112) hx hb dX12_lasts_31 (by decide) (fun c_11 => ?_) (fun c_11 => ?_)
        · replace hp := hp.1 c_11
          exact t_X12_lasts_112 F hr hlocks hK ih hp hW hE (lv_sub hl [0, 1, 2, 3, 4, 5, 6, 7] rfl) hL_a0 hK_a0
        · replace hp := hp.2 c_11
          refine lv_aload_n hx hb dX12_lasts_34 rfl (lv_at hl 0 rfl) ?_
          refine lv_iload_n hx hb dX12_lasts_35 rfl (lv_at hl 2 rfl) ?_
          refine lv_iload hx hb dX12_lasts_36 (lv_at hl 7 rfl) ?_
          refine w_callI (va_runV (As := [.int x2, .int x7]) (rest := []) F (c_X12_isNear l hL_a0 hK_a0 hp H.size) (cwV (C := RX12) 2 hts (wg_V wm_RX12_476 wy_X12_isNear) rfl rfl rfl (by decide +kernel) ⟨Nat.le_of_ble_eq_true rfl, Nat.le_of_ble_eq_true rfl⟩) (w_preV hK hW hL_a0 hK_a0 (by decide) rfl) rfl rfl hl.1 rfl (lv_room (Nat.le_of_ble_eq_true rfl)) dX12_lasts_38 ⟨Nat.le_of_ble_eq_true rfl, Nat.le_of_ble_eq_true rfl⟩) hW (fun r_12 S_13 H locs hp hW => ?_)
          obtain ⟨hX_S_13, hp⟩ := hp
          refine W.widen (k := 0) (n := 0) (by decide) (by decide) ?_
          have hE := hE.trans hX_S_13
          have hK_a0 : sK S_13 a0 = 17 := (hX_S_13.2 a0 hL_a0).1.trans hK_a0
          have hL_a0 : wM D S_13 a0 := hX_S_13.M hL_a0
          refine lv_if_eq (tgt := 47) hx hb dX12_lasts_41 (by decide) (fun c_14 => ?_) (fun c_14 => ?_)
          · replace hp := hp.1 c_14
            refine lv_iload hx hb dX12_lasts_47 (lv_at hl 7 rfl) ?_
            refine lv_iload hx hb dX12_lasts_49 (lv_at hl 4 rfl) ?_
            refine lv_icmp_ne (tgt := 56) hx hb dX12_lasts_51 (by decide) (fun c_15 => ?_) (fun c_15 => ?_)
            · replace hp := hp.1 c_15
              refine lv_aload_n hx hb dX12_lasts_56 rfl (lv_at hl 0 rfl) ?_
              refine lv_iload_n hx hb dX12_lasts_57 rfl (lv_at hl 1 rfl) ?_
              refine lv_iload hx hb dX12_lasts_58 (lv_at hl 4 rfl) ?_
              refine lv_iload hx hb dX12_lasts_60 (lv_at hl 7 rfl) ?_
              refine lv_iload_n hx hb dX12_lasts_62 rfl (lv_at hl 2 rfl) ?_
              refine w_callI (va_runV (As := [.int x1, .int x4, .int x7, .int x2]) (rest := []) F (c_X12_strikes l hL_a0 hK_a0 hp H.size) (cwV (C := RX12) 4 hts (wg_V wm_RX12_479 wy_X12_strikes) rfl rfl rfl (by decide +kernel) ⟨Nat.le_of_ble_eq_true rfl, Nat.le_of_ble_eq_true rfl⟩) (w_preV hK hW hL_a0 hK_a0 (by decide) rfl) rfl rfl hl.1 rfl (lv_room (Nat.le_of_ble_eq_true rfl)) dX12_lasts_63 ⟨Nat.le_of_ble_eq_true rfl, Nat.le_of_ble_eq_true rfl⟩) hW (fun r_16 S_17 H locs hp hW => ?_)
              obtain ⟨hX_S_17, hp⟩ := hp
              refine W.widen (k := 0) (n := 0) (by decide) (by decide) ?_
              have hE := hE.trans hX_S_17
              have hK_a0 : sK S_17 a0 = 17 := (hX_S_17.2 a0 hL_a0).1.trans hK_a0
              have hL_a0 : wM D S_17 a0 := hX_S_17.M hL_a0
              refine lv_if_ne (tgt := 112) hx hb dX12_lasts_66 (by decide) (fun c_18 => ?_) (fun c_18 => ?_)
              · replace hp := hp.1 c_18
                exact t_X12_lasts_112 F hr hlocks hK ih hp hW hE (lv_sub hl [0, 1, 2, 3, 4, 5, 6, 7] rfl) hL_a0 hK_a0
              · replace hp := hp.2 c_18
                refine lv_iconst (v := 1) hx hb dX12_lasts_69 (by decide) ?_
                refine lv_istore (lv' := [(6, .int (1 : Int32)), (0, .ref a0), (1, .int x1), (2, .int x2), (3, .int x3), (4, .int x4), (5, .int x5), (7, .int x7)]) hx hb dX12_lasts_70 hl (by decide) rfl (fun ls hl => ?_)
                refine lv_aload_n hx hb dX12_lasts_72 rfl (lv_at hl 1 rfl) ?_
                obtain ⟨y_19, ey_19, hL_y_19, hK_y_19, hp⟩ := hp
                refine w_get (k := 17) (f := 41) (T := TX12) (v := .ref y_19) F hK hW hL_a0 hK_a0 (by decide) rfl rfl (by decide) i_17 k_101 (by rw [show wv 17 41 S_17 a0 = va_rf (sR S_17 a0 41) from rfl, ey_19]; rfl) dX12_lasts_73 ?_
                refine lv_iload_n hx hb dX12_lasts_76 rfl (lv_at hl 2 rfl) ?_
                refine lv_iconst (v := 0) hx hb dX12_lasts_77 (by decide) ?_
                refine lv_iload_n hx hb dX12_lasts_78 rfl (lv_at hl 3 rfl) ?_
                refine lv_iload hx hb dX12_lasts_79 (lv_at hl 7 rfl) ?_
                refine lv_iload hx hb dX12_lasts_81 (lv_at hl 5 rfl) ?_
                refine w_callI (va_runS (As := [.int x1, .int (0 : Int32), .int x2, .int x7, .int x4]) (rest := [.ref y_19]) F (c_X12_valueAt l hp H.size) (va_cwS 5 hts (wg_S wm_RX12_483 wy_X12_valueAt) rfl rfl rfl (by decide +kernel) ⟨Nat.le_of_ble_eq_true rfl, Nat.le_of_ble_eq_true rfl⟩) (w_preS hK hW) rfl rfl hl.1 rfl (lv_room (Nat.le_of_ble_eq_true rfl)) dX12_lasts_83 ⟨Nat.le_of_ble_eq_true rfl, Nat.le_of_ble_eq_true rfl⟩) hW (fun r_20 S_21 H locs hp hW => ?_)
                obtain ⟨hX_S_21, hp⟩ := hp
                refine W.widen (k := 0) (n := 0) (by decide) (by decide) ?_
                have hE := hE.trans hX_S_21
                have hK_a0 : sK S_21 a0 = 17 := (hX_S_21.2 a0 hL_a0).1.trans hK_a0
                have hL_a0 : wM D S_21 a0 := hX_S_21.M hL_a0
                have hK_y_19 : sK S_21 y_19 = 21 := (hX_S_21.2 y_19 hL_y_19).1.trans hK_y_19
                have hL_y_19 : wM D S_21 y_19 := hX_S_21.M hL_y_19
                obtain ⟨h_22, hp⟩ := hp
                refine w_ild F hK hW hL_y_19 hK_y_19 h_22 dX12_lasts_86 ?_
                refine lv_topi (fun x_23 ex_23 => ?_)
                replace hp := hp x_23 ex_23
                refine lv_istore (lv' := [(8, .int x_23), (6, .int (1 : Int32)), (0, .ref a0), (1, .int x1), (2, .int x2), (3, .int x3), (4, .int x4), (5, .int x5), (7, .int x7)]) hx hb dX12_lasts_87 hl (by decide) rfl (fun ls hl => ?_)
                refine lv_iload hx hb dX12_lasts_89 (lv_at hl 0 rfl) ?_
                refine lv_if_ge (tgt := 96) hx hb dX12_lasts_91 (by decide) (fun c_24 => ?_) (fun c_24 => ?_)
                · replace hp := hp.1 c_24
                  refine lv_iload hx hb dX12_lasts_96 (lv_at hl 0 rfl) ?_
                  refine lv_iload hx hb dX12_lasts_98 (lv_at hl 7 rfl) ?_
                  refine lv_icmp_le (tgt := 108) hx hb dX12_lasts_100 (by decide) (fun c_25 => ?_) (fun c_25 => ?_)
                  · replace hp := hp.1 c_25
                    refine lv_iload hx hb dX12_lasts_108 (lv_at hl 7 rfl) ?_
                    exact t_X12_lasts_110 F hr hlocks hK ih hp hW hE (lv_sub hl [2, 3, 4, 5, 6, 1, 8] rfl) hL_a0 hK_a0
                  · replace hp := hp.2 c_25
                    refine lv_iload hx hb dX12_lasts_103 (lv_at hl 0 rfl) ?_
                    refine lv_goto (tgt := 110) hx hb dX12_lasts_105 (by decide) ?_
                    exact t_X12_lasts_110 F hr hlocks hK ih hp hW hE (lv_sub hl [2, 3, 4, 5, 6, 1, 8] rfl) hL_a0 hK_a0
                · replace hp := hp.2 c_24
                  refine lv_iconst (v := (-1)) hx hb dX12_lasts_94 (by decide) ?_
                  exact w_iret hx hb hr hlocks hW ⟨hE, hp⟩ dX12_lasts_95
            · replace hp := hp.2 c_15
              refine lv_iconst (v := (-1)) hx hb dX12_lasts_54 (by decide) ?_
              exact w_iret hx hb hr hlocks hW ⟨hE, hp⟩ dX12_lasts_55
          · replace hp := hp.2 c_14
            refine lv_goto (tgt := 112) hx hb dX12_lasts_44 (by decide) ?_
            exact t_X12_lasts_112 F hr hlocks hK ih hp hW hE (lv_sub hl [0, 1, 2, 3, 4, 5, 6, 7] rfl) hL_a0 hK_a0
set_option maxHeartbeats 4000000 in
set_option maxRecDepth 100000 in
theorem t_X12_lasts_0 {p : Program} {l : Launch} {e : Env} {s : State} {m : MethodId} {args : Array Value} {below : List Frame} {meth : Method} {c : Code} {D : wD} {cy : Nat → ClassId} {X : va_W} {A : Nat → Prop} {S0 : wS} {post : Int32 → wS → Prop} (F : CallFix p m c cX12_lasts 9 s args wz_X12_lasts RX12) (hr : meth.sig.returnType = (some .int)) (hlocks : meth.locks = false) (hK : wK D cy A s) : ∀ {S : wS} {H : Heap} {locs : List Loc} {ls : Array Slot} {a0 : Nat} {x1 : Int32} {x2 : Int32} {x3 : Int32} {x4 : Int32}, wp_X12_lasts_0 D post S a0 x1 x2 x3 x4 → wO D cy X A s.heap S H locs → wX D S0 S → lv_has ls 9 [(0, .ref a0), (1, .int x1), (2, .int x2), (3, .int x3), (4, .int x4)] → wM D S a0 → sK S a0 = 17 → W p l e r_X12_lasts s m args below meth c H locs 0 0 (MQ below (va_Qi (fun r S9 => wX D S0 S9 ∧ post r S9) (wB D cy X A) A) args s 0 0 A) (F0 m 0 ls []) := by
  obtain ⟨hx, hb, hml, hown, hts⟩ := id F
  have hwg : ∀ w ∈ WG, w.before args s = true := fun w h => hts w (List.mem_cons_of_mem _ h)
  intro S H locs ls a0 x1 x2 x3 x4 hp hW hE hl hL_a0 hK_a0
  unfold wp_X12_lasts_0 at hp
  refine lv_iconst (v := (-1)) hx hb dX12_lasts_0 (by decide) ?_
  refine lv_istore (lv' := [(5, .int (-1 : Int32)), (0, .ref a0), (1, .int x1), (2, .int x2), (3, .int x3), (4, .int x4)]) hx hb dX12_lasts_1 hl (by decide) rfl (fun ls hl => ?_)
  refine lv_iconst (v := 0) hx hb dX12_lasts_3 (by decide) ?_
  refine lv_istore (lv' := [(6, .int (0 : Int32)), (5, .int (-1 : Int32)), (0, .ref a0), (1, .int x1), (2, .int x2), (3, .int x3), (4, .int x4)]) hx hb dX12_lasts_4 hl (by decide) rfl (fun ls hl => ?_)
  refine lv_iconst (v := 0) hx hb dX12_lasts_6 (by decide) ?_
  refine lv_istore (lv' := [(7, .int (0 : Int32)), (6, .int (0 : Int32)), (5, .int (-1 : Int32)), (0, .ref a0), (1, .int x1), (2, .int x2), (3, .int x3), (4, .int x4)]) hx hb dX12_lasts_7 hl (by decide) rfl (fun ls hl => ?_)
  obtain ⟨n_1, hp⟩ := hp
  exact t_X12_lasts_9 F hr hlocks hK n_1 hp hW hE (lv_sub hl [3, 4, 5, 6, 7, 2, 1, 0] rfl) hL_a0 hK_a0
set_option maxHeartbeats 4000000 in
set_option maxRecDepth 100000 in
theorem c_X12_lasts (l : Launch) {D : wD} {cy : Nat → ClassId} {X : va_W} {S0 : wS} {post : Int32 → wS → Prop} {a0 : Nat} {x1 : Int32} {x2 : Int32} {x3 : Int32} {x4 : Int32} (hL_a0 : wM D S0 a0) (hK_a0 : sK S0 a0 = 17) (hp : wp_X12_lasts D post S0 a0 x1 x2 x3 x4) : mI D cy X l yX12_lasts wz_X12_lasts r_X12_lasts [.ref a0, .int x1, .int x2, .int x3, .int x4] S0 (fun r S9 => wX D S0 S9 ∧ post r S9) := by
  intro sz
  refine Met.ofW (cc := cX12_lasts) (maxL := 9) (ret := (some .int)) (by decide) rfl ?_
  intro p e s m args below meth c s₁ B hml hv
  obtain ⟨rfl, hsz, hP, hK, hD0, hRO⟩ := hv
  have hts := atoms_spec (ws := wz_X12_lasts) B.pre
  have hown : s.vm.findClass RX12 = some m.cls := findClass_of_methodNamed B.named
  subst hsz
  have hD := hD0.self (sz := s.heap.size)
  have F : CallFix p m c cX12_lasts 9 s _ wz_X12_lasts RX12 := ⟨B.exec, B.bytes, hml, hown, hts⟩
  have hr := B.returns
  have hlocks := B.notSynchronized
  generalize hAe : va_A (wL cy X S0) s.heap.size = A at hD hK ⊢
  have hA : ∀ q, s.heap.size ≤ q → A q := fun q h => by rw [← hAe]; exact Or.inr h
  have hW : wO D cy X A s.heap S0 s.heap [] := ⟨hP, hD, va_S.rf, hA, hRO⟩
  have hl := lv_entry ([.ref a0, .int x1, .int x2, .int x3, .int x4]) (n := 9) (Nat.le_of_ble_eq_true rfl)
  rw [lg_entry_eq]
  generalize (lg_sl ([.ref a0, .int x1, .int x2, .int x3, .int x4]) ++ List.replicate (9 - (lg_sl ([.ref a0, .int x1, .int x2, .int x3, .int x4])).length) Slot.unset).toArray = ls at hl ⊢
  have hl : lv_has ls 9 [(0, .ref a0), (1, .int x1), (2, .int x2), (3, .int x3), (4, .int x4)] := hl
  unfold wp_X12_lasts at hp
  exact t_X12_lasts_0 F hr hlocks hK hp hW wX.rf (lv_sub hl [0, 1, 2, 3, 4] rfl) hL_a0 hK_a0
def wp_X12_isFreeOf_22 (D : wD) (post : Int32 → wS → Prop)  (S : wS) (t0 : Int32) : Prop :=
narrow .boolean (.int t0) = .int t0 ∧ post t0 S
def wp_X12_isFreeOf_17 (D : wD) (post : Int32 → wS → Prop)  (S : wS) : Prop :=
wp_X12_isFreeOf_22 D post S (1 : Int32)
def wp_X12_isFreeOf_0 (D : wD) (post : Int32 → wS → Prop)  (S : wS) (a0 : Nat) (x1 : Int32) (x2 : Int32) (x3 : Int32) (x4 : Int32) : Prop :=
((x1 = (5 : Int32) → wp_X12_isFreeOf_17 D post S) ∧
 (¬ x1 = (5 : Int32) → wp_X12_strikes D (fun r_2 S_3 => 
((r_2 = 0 → wp_X12_isFreeOf_22 D post S_3 (0 : Int32)) ∧
 (¬ r_2 = 0 → wp_X12_isFreeOf_17 D post S_3))) S a0 x1 x2 x3 x4))
abbrev r_X12_isFreeOf : Room := { frames := 2, cells := 0, slots := 0, locals := 53 }
def wp_X12_isFreeOf (D : wD) (post : Int32 → wS → Prop) (S : wS) (a0 : Nat) (x1 : Int32) (x2 : Int32) (x3 : Int32) (x4 : Int32) : Prop := wp_X12_isFreeOf_0 D post S a0 x1 x2 x3 x4
set_option maxHeartbeats 4000000 in
set_option maxRecDepth 100000 in
theorem t_X12_isFreeOf_22 {p : Program} {l : Launch} {e : Env} {s : State} {m : MethodId} {args : Array Value} {below : List Frame} {meth : Method} {c : Code} {D : wD} {cy : Nat → ClassId} {X : va_W} {A : Nat → Prop} {S0 : wS} {post : Int32 → wS → Prop} (F : CallFix p m c cX12_isFreeOf 5 s args wz_X12_isFreeOf RX12) (hr : meth.sig.returnType = (some .boolean)) (hlocks : meth.locks = false) (hK : wK D cy A s) : ∀ {S : wS} {H : Heap} {locs : List Loc} {ls : Array Slot} {t0 : Int32}, wp_X12_isFreeOf_22 D post S t0 → wO D cy X A s.heap S H locs → wX D S0 S → lv_has ls 5 [] → W p l e r_X12_isFreeOf s m args below meth c H locs 0 0 (MQ below (va_Qi (fun r S9 => wX D S0 S9 ∧ post r S9) (wB D cy X A) A) args s 0 0 A) (F0 m 22 ls [.int t0]) := by
  obtain ⟨hx, hb, hml, hown, hts⟩ := id F
  have hwg : ∀ w ∈ WG, w.before args s = true := fun w h => hts w (List.mem_cons_of_mem _ h)
  intro S H locs ls t0 hp hW hE hl
  unfold wp_X12_isFreeOf_22 at hp
  exact w_zret hx hb hr hlocks hW hp.1 ⟨hE, hp.2⟩ dX12_isFreeOf_22
set_option maxHeartbeats 4000000 in
set_option maxRecDepth 100000 in
theorem t_X12_isFreeOf_17 {p : Program} {l : Launch} {e : Env} {s : State} {m : MethodId} {args : Array Value} {below : List Frame} {meth : Method} {c : Code} {D : wD} {cy : Nat → ClassId} {X : va_W} {A : Nat → Prop} {S0 : wS} {post : Int32 → wS → Prop} (F : CallFix p m c cX12_isFreeOf 5 s args wz_X12_isFreeOf RX12) (hr : meth.sig.returnType = (some .boolean)) (hlocks : meth.locks = false) (hK : wK D cy A s) : ∀ {S : wS} {H : Heap} {locs : List Loc} {ls : Array Slot}, wp_X12_isFreeOf_17 D post S → wO D cy X A s.heap S H locs → wX D S0 S → lv_has ls 5 [] → W p l e r_X12_isFreeOf s m args below meth c H locs 0 0 (MQ below (va_Qi (fun r S9 => wX D S0 S9 ∧ post r S9) (wB D cy X A) A) args s 0 0 A) (F0 m 17 ls []) := by
  obtain ⟨hx, hb, hml, hown, hts⟩ := id F
  have hwg : ∀ w ∈ WG, w.before args s = true := fun w h => hts w (List.mem_cons_of_mem _ h)
  intro S H locs ls hp hW hE hl
  unfold wp_X12_isFreeOf_17 at hp
  refine lv_iconst (v := 1) hx hb dX12_isFreeOf_17 (by decide) ?_
  refine lv_goto (tgt := 22) hx hb dX12_isFreeOf_18 (by decide) ?_
  exact t_X12_isFreeOf_22 F hr hlocks hK hp hW hE (lv_sub hl [] rfl)
set_option maxHeartbeats 4000000 in
set_option maxRecDepth 100000 in
theorem t_X12_isFreeOf_0 {p : Program} {l : Launch} {e : Env} {s : State} {m : MethodId} {args : Array Value} {below : List Frame} {meth : Method} {c : Code} {D : wD} {cy : Nat → ClassId} {X : va_W} {A : Nat → Prop} {S0 : wS} {post : Int32 → wS → Prop} (F : CallFix p m c cX12_isFreeOf 5 s args wz_X12_isFreeOf RX12) (hr : meth.sig.returnType = (some .boolean)) (hlocks : meth.locks = false) (hK : wK D cy A s) : ∀ {S : wS} {H : Heap} {locs : List Loc} {ls : Array Slot} {a0 : Nat} {x1 : Int32} {x2 : Int32} {x3 : Int32} {x4 : Int32}, wp_X12_isFreeOf_0 D post S a0 x1 x2 x3 x4 → wO D cy X A s.heap S H locs → wX D S0 S → lv_has ls 5 [(0, .ref a0), (1, .int x1), (2, .int x2), (3, .int x3), (4, .int x4)] → wM D S a0 → sK S a0 = 17 → W p l e r_X12_isFreeOf s m args below meth c H locs 0 0 (MQ below (va_Qi (fun r S9 => wX D S0 S9 ∧ post r S9) (wB D cy X A) A) args s 0 0 A) (F0 m 0 ls []) := by
  obtain ⟨hx, hb, hml, hown, hts⟩ := id F
  have hwg : ∀ w ∈ WG, w.before args s = true := fun w h => hts w (List.mem_cons_of_mem _ h)
  intro S H locs ls a0 x1 x2 x3 x4 hp hW hE hl hL_a0 hK_a0
  unfold wp_X12_isFreeOf_0 at hp
  refine lv_iload_n hx hb dX12_isFreeOf_0 rfl (lv_at hl 1 rfl) ?_
  refine lv_iconst (v := 5) hx hb dX12_isFreeOf_1 (by decide) ?_
  refine lv_icmp_eq (tgt := 17) hx hb dX12_isFreeOf_2 (by decide) (fun c_1 => ?_) (fun c_1 => ?_)
  · replace hp := hp.1 c_1
    exact t_X12_isFreeOf_17 F hr hlocks hK hp hW hE (lv_sub hl [] rfl)
  · replace hp := hp.2 c_1
    refine lv_aload_n hx hb dX12_isFreeOf_5 rfl (lv_at hl 0 rfl) ?_
    refine lv_iload_n hx hb dX12_isFreeOf_6 rfl (lv_at hl 1 rfl) ?_
    refine lv_iload_n hx hb dX12_isFreeOf_7 rfl (lv_at hl 2 rfl) ?_
    refine lv_iload_n hx hb dX12_isFreeOf_8 rfl (lv_at hl 3 rfl) ?_
    refine lv_iload hx hb dX12_isFreeOf_9 (lv_at hl 4 rfl) ?_
    refine w_callI (va_runV (As := [.int x1, .int x2, .int x3, .int x4]) (rest := []) F (c_X12_strikes l hL_a0 hK_a0 hp H.size) (cwV (C := RX12) 4 hts (wg_V wm_RX12_479 wy_X12_strikes) rfl rfl rfl (by decide +kernel) ⟨Nat.le_of_ble_eq_true rfl, Nat.le_of_ble_eq_true rfl⟩) (w_preV hK hW hL_a0 hK_a0 (by decide) rfl) rfl rfl hl.1 rfl (lv_room (Nat.le_of_ble_eq_true rfl)) dX12_isFreeOf_11 ⟨Nat.le_of_ble_eq_true rfl, Nat.le_of_ble_eq_true rfl⟩) hW (fun r_2 S_3 H locs hp hW => ?_)
    obtain ⟨hX_S_3, hp⟩ := hp
    refine W.widen (k := 0) (n := 0) (by decide) (by decide) ?_
    have hE := hE.trans hX_S_3
    have hK_a0 : sK S_3 a0 = 17 := (hX_S_3.2 a0 hL_a0).1.trans hK_a0
    have hL_a0 : wM D S_3 a0 := hX_S_3.M hL_a0
    refine lv_if_eq (tgt := 21) hx hb dX12_isFreeOf_14 (by decide) (fun c_4 => ?_) (fun c_4 => ?_)
    · replace hp := hp.1 c_4
      refine lv_iconst (v := 0) hx hb dX12_isFreeOf_21 (by decide) ?_
      exact t_X12_isFreeOf_22 F hr hlocks hK hp hW hE (lv_sub hl [] rfl)
    · replace hp := hp.2 c_4
      exact t_X12_isFreeOf_17 F hr hlocks hK hp hW hE (lv_sub hl [] rfl)
set_option maxHeartbeats 4000000 in
set_option maxRecDepth 100000 in
theorem c_X12_isFreeOf (l : Launch) {D : wD} {cy : Nat → ClassId} {X : va_W} {S0 : wS} {post : Int32 → wS → Prop} {a0 : Nat} {x1 : Int32} {x2 : Int32} {x3 : Int32} {x4 : Int32} (hL_a0 : wM D S0 a0) (hK_a0 : sK S0 a0 = 17) (hp : wp_X12_isFreeOf D post S0 a0 x1 x2 x3 x4) : mI D cy X l yX12_isFreeOf wz_X12_isFreeOf r_X12_isFreeOf [.ref a0, .int x1, .int x2, .int x3, .int x4] S0 (fun r S9 => wX D S0 S9 ∧ post r S9) := by
  intro sz
  refine Met.ofW (cc := cX12_isFreeOf) (maxL := 5) (ret := (some .boolean)) (by decide) rfl ?_
  intro p e s m args below meth c s₁ B hml hv
  obtain ⟨rfl, hsz, hP, hK, hD0, hRO⟩ := hv
  have hts := atoms_spec (ws := wz_X12_isFreeOf) B.pre
  have hown : s.vm.findClass RX12 = some m.cls := findClass_of_methodNamed B.named
  subst hsz
  have hD := hD0.self (sz := s.heap.size)
  have F : CallFix p m c cX12_isFreeOf 5 s _ wz_X12_isFreeOf RX12 := ⟨B.exec, B.bytes, hml, hown, hts⟩
  have hr := B.returns
  have hlocks := B.notSynchronized
  generalize hAe : va_A (wL cy X S0) s.heap.size = A at hD hK ⊢
  have hA : ∀ q, s.heap.size ≤ q → A q := fun q h => by rw [← hAe]; exact Or.inr h
  have hW : wO D cy X A s.heap S0 s.heap [] := ⟨hP, hD, va_S.rf, hA, hRO⟩
  have hl := lv_entry ([.ref a0, .int x1, .int x2, .int x3, .int x4]) (n := 5) (Nat.le_of_ble_eq_true rfl)
  rw [lg_entry_eq]
  generalize (lg_sl ([.ref a0, .int x1, .int x2, .int x3, .int x4]) ++ List.replicate (5 - (lg_sl ([.ref a0, .int x1, .int x2, .int x3, .int x4])).length) Slot.unset).toArray = ls at hl ⊢
  have hl : lv_has ls 5 [(0, .ref a0), (1, .int x1), (2, .int x2), (3, .int x3), (4, .int x4)] := hl
  unfold wp_X12_isFreeOf at hp
  exact t_X12_isFreeOf_0 F hr hlocks hK hp hW wX.rf (lv_sub hl [0, 1, 2, 3, 4] rfl) hL_a0 hK_a0
def wp_X12_reaches_136 (D : wD) (post : Int32 → wS → Prop)  (S : wS) : Prop :=
narrow .boolean (.int (1 : Int32)) = .int (1 : Int32) ∧ post (1 : Int32) S
def wp_X12_reaches_124 (D : wD) (post : Int32 → wS → Prop) (k_3 : wS → Nat → Int32 → Int32 → Int32 → Int32 → Int32 → Int32 → Prop) (S : wS) (a0 : Nat) (x1 : Int32) (x2 : Int32) (x3 : Int32) (x4 : Int32) (x5 : Int32) (x6 : Int32) (x7 : Int32) (t0 : Int32) : Prop :=
((¬ x7 = 0 → wp_X12_reaches_136 D post S) ∧
 (x7 = 0 → ((t0 = 0 → ∀ x_3 : Int32, x_3 = x6 + 1 →
k_3 S a0 x1 x2 x3 x4 x5 x_3) ∧
 (¬ t0 = 0 → wp_X12_reaches_136 D post S))))
def wp_X12_reaches_123 (D : wD) (post : Int32 → wS → Prop) (k_3 : wS → Nat → Int32 → Int32 → Int32 → Int32 → Int32 → Int32 → Prop) (S : wS) (a0 : Nat) (x1 : Int32) (x2 : Int32) (x3 : Int32) (x4 : Int32) (x5 : Int32) (x6 : Int32) (x7 : Int32) : Prop :=
wp_X12_reaches_124 D post k_3 S a0 x1 x2 x3 x4 x5 x6 x7 (0 : Int32)
def wp_X12_reaches_60 (D : wD) (post : Int32 → wS → Prop) (k_3 : wS → Nat → Int32 → Int32 → Int32 → Int32 → Int32 → Int32 → Prop) (S : wS) (a0 : Nat) (x1 : Int32) (x2 : Int32) (x3 : Int32) (x4 : Int32) (x5 : Int32) (x6 : Int32) (t0 : Int32) : Prop :=
((x6 = x2 → wp_X12_reaches_123 D post k_3 S a0 x1 x2 x3 x4 x5 x6 t0) ∧
 (¬ x6 = x2 → ((x6 = x3 → wp_X12_reaches_123 D post k_3 S a0 x1 x2 x3 x4 x5 x6 t0) ∧
 (¬ x6 = x3 → wp_X12_strikes D (fun r_3 S_4 => 
((r_3 = 0 → wp_X12_reaches_123 D post k_3 S_4 a0 x1 x2 x3 x4 x5 x6 t0) ∧
 (¬ r_3 = 0 → wp_X12_isFreeOf D (fun r_6 S_7 => 
((r_6 = 0 → wp_X12_reaches_123 D post k_3 S_7 a0 x1 x2 x3 x4 x5 x6 t0) ∧
 (¬ r_6 = 0 → ∃ y_9 : Nat, sR S_7 a0 41 = some y_9 ∧ wM D S_7 y_9 ∧ sK S_7 y_9 = 21 ∧
wp_X12_valueAt D (fun r_10 S_11 => 
vp_in r_10 (sN S_11 y_9) ∧
((¬ (sI S_11 y_9 (r_10).toNatClampNeg) = x5 → wp_X12_reaches_123 D post k_3 S_11 a0 x1 x2 x3 x4 x5 x6 t0) ∧
 ((sI S_11 y_9 (r_10).toNatClampNeg) = x5 → wp_X12_reaches_124 D post k_3 S_11 a0 x1 x2 x3 x4 x5 x6 t0 (1 : Int32)))) S_7 x1 (1 : Int32) x2 x3 x6))) S_4 a0 x1 x4 x6 x3))) S a0 x1 x4 x6 x2))))
def wp_X12_reaches_59 (D : wD) (post : Int32 → wS → Prop) (k_3 : wS → Nat → Int32 → Int32 → Int32 → Int32 → Int32 → Int32 → Prop) (S : wS) (a0 : Nat) (x1 : Int32) (x2 : Int32) (x3 : Int32) (x4 : Int32) (x5 : Int32) (x6 : Int32) : Prop :=
wp_X12_reaches_60 D post k_3 S a0 x1 x2 x3 x4 x5 x6 (0 : Int32)
def wp_X12_reaches_3 (D : wD) (post : Int32 → wS → Prop)  : Nat → wS → Nat → Int32 → Int32 → Int32 → Int32 → Int32 → Int32 → Prop
  | 0, _, _, _, _, _, _, _, _ => False
  | n + 1, S, a0, x1, x2, x3, x4, x5, x6 =>
    wp_X12_squares D (fun r_1 S_2 => 
    ((r_1 ≤ x6 → narrow .boolean (.int (0 : Int32)) = .int (0 : Int32) ∧ post (0 : Int32) S_2) ∧
     (¬ r_1 ≤ x6 → wp_X12_isNear D (fun r_4 S_5 => 
    ((r_4 = 0 → wp_X12_reaches_59 D post (wp_X12_reaches_3 D post n) S_5 a0 x1 x2 x3 x4 x5 x6) ∧
     (¬ r_4 = 0 → ((x6 = x2 → wp_X12_reaches_59 D post (wp_X12_reaches_3 D post n) S_5 a0 x1 x2 x3 x4 x5 x6) ∧
     (¬ x6 = x2 → ((x6 = x4 → wp_X12_reaches_59 D post (wp_X12_reaches_3 D post n) S_5 a0 x1 x2 x3 x4 x5 x6) ∧
     (¬ x6 = x4 → ∃ y_9 : Nat, sR S_5 a0 41 = some y_9 ∧ wM D S_5 y_9 ∧ sK S_5 y_9 = 21 ∧
    wp_X12_valueAt D (fun r_10 S_11 => 
    vp_in r_10 (sN S_11 y_9) ∧
    ((¬ (sI S_11 y_9 (r_10).toNatClampNeg) = x5 → wp_X12_reaches_59 D post (wp_X12_reaches_3 D post n) S_11 a0 x1 x2 x3 x4 x5 x6) ∧
     ((sI S_11 y_9 (r_10).toNatClampNeg) = x5 → wp_X12_reaches_60 D post (wp_X12_reaches_3 D post n) S_11 a0 x1 x2 x3 x4 x5 x6 (1 : Int32)))) S_5 x1 (1 : Int32) x6 x3 x4))))))) S_2 a0 x2 x6))) S a0
def wp_X12_reaches_0 (D : wD) (post : Int32 → wS → Prop)  (S : wS) (a0 : Nat) (x1 : Int32) (x2 : Int32) (x3 : Int32) (x4 : Int32) (x5 : Int32) : Prop :=
∃ n_1 : Nat, wp_X12_reaches_3 D post n_1 S a0 x1 x2 x3 x4 x5 (0 : Int32)
abbrev r_X12_reaches : Room := { frames := 3, cells := 0, slots := 0, locals := 77 }
def wp_X12_reaches (D : wD) (post : Int32 → wS → Prop) (S : wS) (a0 : Nat) (x1 : Int32) (x2 : Int32) (x3 : Int32) (x4 : Int32) (x5 : Int32) : Prop := wp_X12_reaches_0 D post S a0 x1 x2 x3 x4 x5
set_option maxHeartbeats 4000000 in
set_option maxRecDepth 100000 in
theorem t_X12_reaches_136 {p : Program} {l : Launch} {e : Env} {s : State} {m : MethodId} {args : Array Value} {below : List Frame} {meth : Method} {c : Code} {D : wD} {cy : Nat → ClassId} {X : va_W} {A : Nat → Prop} {S0 : wS} {post : Int32 → wS → Prop} (F : CallFix p m c cX12_reaches 9 s args wz_X12_reaches RX12) (hr : meth.sig.returnType = (some .boolean)) (hlocks : meth.locks = false) (hK : wK D cy A s) : ∀ {S : wS} {H : Heap} {locs : List Loc} {ls : Array Slot}, wp_X12_reaches_136 D post S → wO D cy X A s.heap S H locs → wX D S0 S → lv_has ls 9 [] → W p l e r_X12_reaches s m args below meth c H locs 0 0 (MQ below (va_Qi (fun r S9 => wX D S0 S9 ∧ post r S9) (wB D cy X A) A) args s 0 0 A) (F0 m 136 ls []) := by
  obtain ⟨hx, hb, hml, hown, hts⟩ := id F
  have hwg : ∀ w ∈ WG, w.before args s = true := fun w h => hts w (List.mem_cons_of_mem _ h)
  intro S H locs ls hp hW hE hl
  unfold wp_X12_reaches_136 at hp
  refine lv_iconst (v := 1) hx hb dX12_reaches_136 (by decide) ?_
  exact w_zret hx hb hr hlocks hW hp.1 ⟨hE, hp.2⟩ dX12_reaches_137
set_option maxHeartbeats 4000000 in
set_option maxRecDepth 100000 in
theorem t_X12_reaches_124 {p : Program} {l : Launch} {e : Env} {s : State} {m : MethodId} {args : Array Value} {below : List Frame} {meth : Method} {c : Code} {D : wD} {cy : Nat → ClassId} {X : va_W} {A : Nat → Prop} {S0 : wS} {post : Int32 → wS → Prop} (F : CallFix p m c cX12_reaches 9 s args wz_X12_reaches RX12) (hr : meth.sig.returnType = (some .boolean)) (hlocks : meth.locks = false) (hK : wK D cy A s) {k_3 : wS → Nat → Int32 → Int32 → Int32 → Int32 → Int32 → Int32 → Prop} (q_3 : ∀ {S : wS} {H : Heap} {locs : List Loc} {ls : Array Slot} {a0 : Nat} {x1 : Int32} {x2 : Int32} {x3 : Int32} {x4 : Int32} {x5 : Int32} {x6 : Int32}, k_3 S a0 x1 x2 x3 x4 x5 x6 → wO D cy X A s.heap S H locs → wX D S0 S → lv_has ls 9 [(0, .ref a0), (1, .int x1), (2, .int x2), (3, .int x3), (4, .int x4), (5, .int x5), (6, .int x6)] → wM D S a0 → sK S a0 = 17 → W p l e r_X12_reaches s m args below meth c H locs 0 0 (MQ below (va_Qi (fun r S9 => wX D S0 S9 ∧ post r S9) (wB D cy X A) A) args s 0 0 A) (F0 m 3 ls [])) : ∀ {S : wS} {H : Heap} {locs : List Loc} {ls : Array Slot} {a0 : Nat} {x1 : Int32} {x2 : Int32} {x3 : Int32} {x4 : Int32} {x5 : Int32} {x6 : Int32} {x7 : Int32} {t0 : Int32}, wp_X12_reaches_124 D post k_3 S a0 x1 x2 x3 x4 x5 x6 x7 t0 → wO D cy X A s.heap S H locs → wX D S0 S → lv_has ls 9 [(0, .ref a0), (1, .int x1), (2, .int x2), (3, .int x3), (4, .int x4), (5, .int x5), (6, .int x6), (7, .int x7)] → wM D S a0 → sK S a0 = 17 → W p l e r_X12_reaches s m args below meth c H locs 0 0 (MQ below (va_Qi (fun r S9 => wX D S0 S9 ∧ post r S9) (wB D cy X A) A) args s 0 0 A) (F0 m 124 ls [.int t0]) := by
  obtain ⟨hx, hb, hml, hown, hts⟩ := id F
  have hwg : ∀ w ∈ WG, w.before args s = true := fun w h => hts w (List.mem_cons_of_mem _ h)
  intro S H locs ls a0 x1 x2 x3 x4 x5 x6 x7 t0 hp hW hE hl hL_a0 hK_a0
  unfold wp_X12_reaches_124 at hp
  refine lv_istore (lv' := [(8, .int t0), (0, .ref a0), (1, .int x1), (2, .int x2), (3, .int x3), (4, .int x4), (5, .int x5), (6, .int x6), (7, .int x7)]) hx hb dX12_reaches_124 hl (by decide) rfl (fun ls hl => ?_)
  refine lv_iload hx hb dX12_reaches_126 (lv_at hl 8 rfl) ?_
  refine lv_if_ne (tgt := 136) hx hb dX12_reaches_128 (by decide) (fun c_1 => ?_) (fun c_1 => ?_)
  · replace hp := hp.1 c_1
    exact t_X12_reaches_136 F hr hlocks hK hp hW hE (lv_sub hl [] rfl)
  · replace hp := hp.2 c_1
    refine lv_iload hx hb dX12_reaches_131 (lv_at hl 0 rfl) ?_
    refine lv_if_eq (tgt := 138) hx hb dX12_reaches_133 (by decide) (fun c_2 => ?_) (fun c_2 => ?_)
    · replace hp := hp.1 c_2
      obtain ⟨x_3, ex_3⟩ : ∃ z : Int32, z = x6 + 1 := ⟨_, rfl⟩
      replace hp := hp x_3 ex_3
      refine lv_iinc (v := x_3) (lv' := [(6, .int x_3), (8, .int t0), (0, .ref a0), (1, .int x1), (2, .int x2), (3, .int x3), (4, .int x4), (5, .int x5), (7, .int x7)]) hx hb dX12_reaches_138 hl (k := 7) rfl (by rw [ex_3]; rfl) (by decide) rfl (fun ls hl => ?_)
      refine lv_goto (tgt := 3) hx hb dX12_reaches_141 (by decide) ?_
      exact q_3 hp hW hE (lv_sub hl [2, 3, 4, 5, 6, 7, 0] rfl) hL_a0 hK_a0
    · replace hp := hp.2 c_2
      exact t_X12_reaches_136 F hr hlocks hK hp hW hE (lv_sub hl [] rfl)
set_option maxHeartbeats 4000000 in
set_option maxRecDepth 100000 in
theorem t_X12_reaches_123 {p : Program} {l : Launch} {e : Env} {s : State} {m : MethodId} {args : Array Value} {below : List Frame} {meth : Method} {c : Code} {D : wD} {cy : Nat → ClassId} {X : va_W} {A : Nat → Prop} {S0 : wS} {post : Int32 → wS → Prop} (F : CallFix p m c cX12_reaches 9 s args wz_X12_reaches RX12) (hr : meth.sig.returnType = (some .boolean)) (hlocks : meth.locks = false) (hK : wK D cy A s) {k_3 : wS → Nat → Int32 → Int32 → Int32 → Int32 → Int32 → Int32 → Prop} (q_3 : ∀ {S : wS} {H : Heap} {locs : List Loc} {ls : Array Slot} {a0 : Nat} {x1 : Int32} {x2 : Int32} {x3 : Int32} {x4 : Int32} {x5 : Int32} {x6 : Int32}, k_3 S a0 x1 x2 x3 x4 x5 x6 → wO D cy X A s.heap S H locs → wX D S0 S → lv_has ls 9 [(0, .ref a0), (1, .int x1), (2, .int x2), (3, .int x3), (4, .int x4), (5, .int x5), (6, .int x6)] → wM D S a0 → sK S a0 = 17 → W p l e r_X12_reaches s m args below meth c H locs 0 0 (MQ below (va_Qi (fun r S9 => wX D S0 S9 ∧ post r S9) (wB D cy X A) A) args s 0 0 A) (F0 m 3 ls [])) : ∀ {S : wS} {H : Heap} {locs : List Loc} {ls : Array Slot} {a0 : Nat} {x1 : Int32} {x2 : Int32} {x3 : Int32} {x4 : Int32} {x5 : Int32} {x6 : Int32} {x7 : Int32}, wp_X12_reaches_123 D post k_3 S a0 x1 x2 x3 x4 x5 x6 x7 → wO D cy X A s.heap S H locs → wX D S0 S → lv_has ls 9 [(0, .ref a0), (1, .int x1), (2, .int x2), (3, .int x3), (4, .int x4), (5, .int x5), (6, .int x6), (7, .int x7)] → wM D S a0 → sK S a0 = 17 → W p l e r_X12_reaches s m args below meth c H locs 0 0 (MQ below (va_Qi (fun r S9 => wX D S0 S9 ∧ post r S9) (wB D cy X A) A) args s 0 0 A) (F0 m 123 ls []) := by
  obtain ⟨hx, hb, hml, hown, hts⟩ := id F
  have hwg : ∀ w ∈ WG, w.before args s = true := fun w h => hts w (List.mem_cons_of_mem _ h)
  intro S H locs ls a0 x1 x2 x3 x4 x5 x6 x7 hp hW hE hl hL_a0 hK_a0
  unfold wp_X12_reaches_123 at hp
  refine lv_iconst (v := 0) hx hb dX12_reaches_123 (by decide) ?_
  exact t_X12_reaches_124 F hr hlocks hK q_3 hp hW hE (lv_sub hl [0, 1, 2, 3, 4, 5, 6, 7] rfl) hL_a0 hK_a0
set_option maxHeartbeats 4000000 in
set_option maxRecDepth 100000 in
theorem t_X12_reaches_60 {p : Program} {l : Launch} {e : Env} {s : State} {m : MethodId} {args : Array Value} {below : List Frame} {meth : Method} {c : Code} {D : wD} {cy : Nat → ClassId} {X : va_W} {A : Nat → Prop} {S0 : wS} {post : Int32 → wS → Prop} (F : CallFix p m c cX12_reaches 9 s args wz_X12_reaches RX12) (hr : meth.sig.returnType = (some .boolean)) (hlocks : meth.locks = false) (hK : wK D cy A s) {k_3 : wS → Nat → Int32 → Int32 → Int32 → Int32 → Int32 → Int32 → Prop} (q_3 : ∀ {S : wS} {H : Heap} {locs : List Loc} {ls : Array Slot} {a0 : Nat} {x1 : Int32} {x2 : Int32} {x3 : Int32} {x4 : Int32} {x5 : Int32} {x6 : Int32}, k_3 S a0 x1 x2 x3 x4 x5 x6 → wO D cy X A s.heap S H locs → wX D S0 S → lv_has ls 9 [(0, .ref a0), (1, .int x1), (2, .int x2), (3, .int x3), (4, .int x4), (5, .int x5), (6, .int x6)] → wM D S a0 → sK S a0 = 17 → W p l e r_X12_reaches s m args below meth c H locs 0 0 (MQ below (va_Qi (fun r S9 => wX D S0 S9 ∧ post r S9) (wB D cy X A) A) args s 0 0 A) (F0 m 3 ls [])) : ∀ {S : wS} {H : Heap} {locs : List Loc} {ls : Array Slot} {a0 : Nat} {x1 : Int32} {x2 : Int32} {x3 : Int32} {x4 : Int32} {x5 : Int32} {x6 : Int32} {t0 : Int32}, wp_X12_reaches_60 D post k_3 S a0 x1 x2 x3 x4 x5 x6 t0 → wO D cy X A s.heap S H locs → wX D S0 S → lv_has ls 9 [(0, .ref a0), (1, .int x1), (2, .int x2), (3, .int x3), (4, .int x4), (5, .int x5), (6, .int x6)] → wM D S a0 → sK S a0 = 17 → W p l e r_X12_reaches s m args below meth c H locs 0 0 (MQ below (va_Qi (fun r S9 => wX D S0 S9 ∧ post r S9) (wB D cy X A) A) args s 0 0 A) (F0 m 60 ls [.int t0]) := by
  obtain ⟨hx, hb, hml, hown, hts⟩ := id F
  have hwg : ∀ w ∈ WG, w.before args s = true := fun w h => hts w (List.mem_cons_of_mem _ h)
  have i_17 : ∀ w ∈ u_ws RX12 TX12 43, w ∈ wz_X12_reaches := fun w h => List.mem_cons_of_mem _ (wu_17 w h)
  have k_101 := hwg _ wf_RX12_101
  intro S H locs ls a0 x1 x2 x3 x4 x5 x6 t0 hp hW hE hl hL_a0 hK_a0
  unfold wp_X12_reaches_60 at hp
  refine lv_istore (lv' := [(7, .int t0), (0, .ref a0), (1, .int x1), (2, .int x2), (3, .int x3), (4, .int x4), (5, .int x5), (6, .int x6)]) hx hb dX12_reaches_60 hl (by decide) rfl (fun ls hl => ?_)
  refine lv_iload hx hb dX12_reaches_62 (lv_at hl 7 rfl) ?_
  refine lv_iload_n hx hb dX12_reaches_64 rfl (lv_at hl 3 rfl) ?_
  refine lv_icmp_eq (tgt := 123) hx hb dX12_reaches_65 (by decide) (fun c_1 => ?_) (fun c_1 => ?_)
  · replace hp := hp.1 c_1
    exact t_X12_reaches_123 F hr hlocks hK q_3 hp hW hE (lv_sub hl [1, 2, 3, 4, 5, 6, 7, 0] rfl) hL_a0 hK_a0
  · replace hp := hp.2 c_1
    refine lv_iload hx hb dX12_reaches_68 (lv_at hl 7 rfl) ?_
    refine lv_iload_n hx hb dX12_reaches_70 rfl (lv_at hl 4 rfl) ?_
    refine lv_icmp_eq (tgt := 123) hx hb dX12_reaches_71 (by decide) (fun c_2 => ?_) (fun c_2 => ?_)
    · replace hp := hp.1 c_2
      exact t_X12_reaches_123 F hr hlocks hK q_3 hp hW hE (lv_sub hl [1, 2, 3, 4, 5, 6, 7, 0] rfl) hL_a0 hK_a0
    · replace hp := hp.2 c_2
      refine lv_aload_n hx hb dX12_reaches_74 rfl (lv_at hl 1 rfl) ?_
      refine lv_iload_n hx hb dX12_reaches_75 rfl (lv_at hl 2 rfl) ?_
      refine lv_iload hx hb dX12_reaches_76 (lv_at hl 5 rfl) ?_
      refine lv_iload hx hb dX12_reaches_78 (lv_at hl 7 rfl) ?_
      refine lv_iload_n hx hb dX12_reaches_80 rfl (lv_at hl 3 rfl) ?_
      refine w_callI (va_runV (As := [.int x1, .int x4, .int x6, .int x2]) (rest := []) F (c_X12_strikes l hL_a0 hK_a0 hp H.size) (cwV (C := RX12) 4 hts (wg_V wm_RX12_479 wy_X12_strikes) rfl rfl rfl (by decide +kernel) ⟨Nat.le_of_ble_eq_true rfl, Nat.le_of_ble_eq_true rfl⟩) (w_preV hK hW hL_a0 hK_a0 (by decide) rfl) rfl rfl hl.1 rfl (lv_room (Nat.le_of_ble_eq_true rfl)) dX12_reaches_81 ⟨Nat.le_of_ble_eq_true rfl, Nat.le_of_ble_eq_true rfl⟩) hW (fun r_3 S_4 H locs hp hW => ?_)
      obtain ⟨hX_S_4, hp⟩ := hp
      refine W.widen (k := 0) (n := 0) (by decide) (by decide) ?_
      have hE := hE.trans hX_S_4
      have hK_a0 : sK S_4 a0 = 17 := (hX_S_4.2 a0 hL_a0).1.trans hK_a0
      have hL_a0 : wM D S_4 a0 := hX_S_4.M hL_a0
      refine lv_if_eq (tgt := 123) hx hb dX12_reaches_84 (by decide) (fun c_5 => ?_) (fun c_5 => ?_)
      · replace hp := hp.1 c_5
        exact t_X12_reaches_123 F hr hlocks hK q_3 hp hW hE (lv_sub hl [1, 2, 3, 4, 5, 6, 7, 0] rfl) hL_a0 hK_a0
      · replace hp := hp.2 c_5
        refine lv_aload_n hx hb dX12_reaches_87 rfl (lv_at hl 1 rfl) ?_
        refine lv_iload_n hx hb dX12_reaches_88 rfl (lv_at hl 2 rfl) ?_
        refine lv_iload hx hb dX12_reaches_89 (lv_at hl 5 rfl) ?_
        refine lv_iload hx hb dX12_reaches_91 (lv_at hl 7 rfl) ?_
        refine lv_iload_n hx hb dX12_reaches_93 rfl (lv_at hl 4 rfl) ?_
        refine w_callI (va_runV (As := [.int x1, .int x4, .int x6, .int x3]) (rest := []) F (c_X12_isFreeOf l hL_a0 hK_a0 hp H.size) (cwV (C := RX12) 4 hts (wg_V wm_RX12_487 wy_X12_isFreeOf) rfl rfl rfl (by decide +kernel) ⟨Nat.le_of_ble_eq_true rfl, Nat.le_of_ble_eq_true rfl⟩) (w_preV hK hW hL_a0 hK_a0 (by decide) rfl) rfl rfl hl.1 rfl (lv_room (Nat.le_of_ble_eq_true rfl)) dX12_reaches_94 ⟨Nat.le_of_ble_eq_true rfl, Nat.le_of_ble_eq_true rfl⟩) hW (fun r_6 S_7 H locs hp hW => ?_)
        obtain ⟨hX_S_7, hp⟩ := hp
        refine W.widen (k := 0) (n := 0) (by decide) (by decide) ?_
        have hE := hE.trans hX_S_7
        have hK_a0 : sK S_7 a0 = 17 := (hX_S_7.2 a0 hL_a0).1.trans hK_a0
        have hL_a0 : wM D S_7 a0 := hX_S_7.M hL_a0
        refine lv_if_eq (tgt := 123) hx hb dX12_reaches_97 (by decide) (fun c_8 => ?_) (fun c_8 => ?_)
        · replace hp := hp.1 c_8
          exact t_X12_reaches_123 F hr hlocks hK q_3 hp hW hE (lv_sub hl [1, 2, 3, 4, 5, 6, 7, 0] rfl) hL_a0 hK_a0
        · replace hp := hp.2 c_8
          refine lv_aload_n hx hb dX12_reaches_100 rfl (lv_at hl 1 rfl) ?_
          obtain ⟨y_9, ey_9, hL_y_9, hK_y_9, hp⟩ := hp
          refine w_get (k := 17) (f := 41) (T := TX12) (v := .ref y_9) F hK hW hL_a0 hK_a0 (by decide) rfl rfl (by decide) i_17 k_101 (by rw [show wv 17 41 S_7 a0 = va_rf (sR S_7 a0 41) from rfl, ey_9]; rfl) dX12_reaches_101 ?_
          refine lv_iload_n hx hb dX12_reaches_104 rfl (lv_at hl 2 rfl) ?_
          refine lv_iconst (v := 1) hx hb dX12_reaches_105 (by decide) ?_
          refine lv_iload_n hx hb dX12_reaches_106 rfl (lv_at hl 3 rfl) ?_
          refine lv_iload_n hx hb dX12_reaches_107 rfl (lv_at hl 4 rfl) ?_
          refine lv_iload hx hb dX12_reaches_108 (lv_at hl 7 rfl) ?_
          refine w_callI (va_runS (As := [.int x1, .int (1 : Int32), .int x2, .int x3, .int x6]) (rest := [.ref y_9]) F (c_X12_valueAt l hp H.size) (va_cwS 5 hts (wg_S wm_RX12_483 wy_X12_valueAt) rfl rfl rfl (by decide +kernel) ⟨Nat.le_of_ble_eq_true rfl, Nat.le_of_ble_eq_true rfl⟩) (w_preS hK hW) rfl rfl hl.1 rfl (lv_room (Nat.le_of_ble_eq_true rfl)) dX12_reaches_110 ⟨Nat.le_of_ble_eq_true rfl, Nat.le_of_ble_eq_true rfl⟩) hW (fun r_10 S_11 H locs hp hW => ?_)
          obtain ⟨hX_S_11, hp⟩ := hp
          refine W.widen (k := 0) (n := 0) (by decide) (by decide) ?_
          have hE := hE.trans hX_S_11
          have hK_a0 : sK S_11 a0 = 17 := (hX_S_11.2 a0 hL_a0).1.trans hK_a0
          have hL_a0 : wM D S_11 a0 := hX_S_11.M hL_a0
          have hK_y_9 : sK S_11 y_9 = 21 := (hX_S_11.2 y_9 hL_y_9).1.trans hK_y_9
          have hL_y_9 : wM D S_11 y_9 := hX_S_11.M hL_y_9
          obtain ⟨h_12, hp⟩ := hp
          refine w_ild F hK hW hL_y_9 hK_y_9 h_12 dX12_reaches_113 ?_
          refine lv_iload hx hb dX12_reaches_114 (lv_at hl 6 rfl) ?_
          refine lv_icmp_ne (tgt := 123) hx hb dX12_reaches_116 (by decide) (fun c_13 => ?_) (fun c_13 => ?_)
          · replace hp := hp.1 c_13
            exact t_X12_reaches_123 F hr hlocks hK q_3 hp hW hE (lv_sub hl [1, 2, 3, 4, 5, 6, 7, 0] rfl) hL_a0 hK_a0
          · replace hp := hp.2 c_13
            refine lv_iconst (v := 1) hx hb dX12_reaches_119 (by decide) ?_
            refine lv_goto (tgt := 124) hx hb dX12_reaches_120 (by decide) ?_
            exact t_X12_reaches_124 F hr hlocks hK q_3 hp hW hE (lv_sub hl [1, 2, 3, 4, 5, 6, 7, 0] rfl) hL_a0 hK_a0
set_option maxHeartbeats 4000000 in
set_option maxRecDepth 100000 in
theorem t_X12_reaches_59 {p : Program} {l : Launch} {e : Env} {s : State} {m : MethodId} {args : Array Value} {below : List Frame} {meth : Method} {c : Code} {D : wD} {cy : Nat → ClassId} {X : va_W} {A : Nat → Prop} {S0 : wS} {post : Int32 → wS → Prop} (F : CallFix p m c cX12_reaches 9 s args wz_X12_reaches RX12) (hr : meth.sig.returnType = (some .boolean)) (hlocks : meth.locks = false) (hK : wK D cy A s) {k_3 : wS → Nat → Int32 → Int32 → Int32 → Int32 → Int32 → Int32 → Prop} (q_3 : ∀ {S : wS} {H : Heap} {locs : List Loc} {ls : Array Slot} {a0 : Nat} {x1 : Int32} {x2 : Int32} {x3 : Int32} {x4 : Int32} {x5 : Int32} {x6 : Int32}, k_3 S a0 x1 x2 x3 x4 x5 x6 → wO D cy X A s.heap S H locs → wX D S0 S → lv_has ls 9 [(0, .ref a0), (1, .int x1), (2, .int x2), (3, .int x3), (4, .int x4), (5, .int x5), (6, .int x6)] → wM D S a0 → sK S a0 = 17 → W p l e r_X12_reaches s m args below meth c H locs 0 0 (MQ below (va_Qi (fun r S9 => wX D S0 S9 ∧ post r S9) (wB D cy X A) A) args s 0 0 A) (F0 m 3 ls [])) : ∀ {S : wS} {H : Heap} {locs : List Loc} {ls : Array Slot} {a0 : Nat} {x1 : Int32} {x2 : Int32} {x3 : Int32} {x4 : Int32} {x5 : Int32} {x6 : Int32}, wp_X12_reaches_59 D post k_3 S a0 x1 x2 x3 x4 x5 x6 → wO D cy X A s.heap S H locs → wX D S0 S → lv_has ls 9 [(0, .ref a0), (1, .int x1), (2, .int x2), (3, .int x3), (4, .int x4), (5, .int x5), (6, .int x6)] → wM D S a0 → sK S a0 = 17 → W p l e r_X12_reaches s m args below meth c H locs 0 0 (MQ below (va_Qi (fun r S9 => wX D S0 S9 ∧ post r S9) (wB D cy X A) A) args s 0 0 A) (F0 m 59 ls []) := by
  obtain ⟨hx, hb, hml, hown, hts⟩ := id F
  have hwg : ∀ w ∈ WG, w.before args s = true := fun w h => hts w (List.mem_cons_of_mem _ h)
  intro S H locs ls a0 x1 x2 x3 x4 x5 x6 hp hW hE hl hL_a0 hK_a0
  unfold wp_X12_reaches_59 at hp
  refine lv_iconst (v := 0) hx hb dX12_reaches_59 (by decide) ?_
  exact t_X12_reaches_60 F hr hlocks hK q_3 hp hW hE (lv_sub hl [0, 1, 2, 3, 4, 5, 6] rfl) hL_a0 hK_a0
set_option maxHeartbeats 4000000 in
set_option maxRecDepth 100000 in
theorem t_X12_reaches_3 {p : Program} {l : Launch} {e : Env} {s : State} {m : MethodId} {args : Array Value} {below : List Frame} {meth : Method} {c : Code} {D : wD} {cy : Nat → ClassId} {X : va_W} {A : Nat → Prop} {S0 : wS} {post : Int32 → wS → Prop} (F : CallFix p m c cX12_reaches 9 s args wz_X12_reaches RX12) (hr : meth.sig.returnType = (some .boolean)) (hlocks : meth.locks = false) (hK : wK D cy A s) : ∀ (n : Nat) {S : wS} {H : Heap} {locs : List Loc} {ls : Array Slot} {a0 : Nat} {x1 : Int32} {x2 : Int32} {x3 : Int32} {x4 : Int32} {x5 : Int32} {x6 : Int32}, wp_X12_reaches_3 D post n S a0 x1 x2 x3 x4 x5 x6 → wO D cy X A s.heap S H locs → wX D S0 S → lv_has ls 9 [(0, .ref a0), (1, .int x1), (2, .int x2), (3, .int x3), (4, .int x4), (5, .int x5), (6, .int x6)] → wM D S a0 → sK S a0 = 17 → W p l e r_X12_reaches s m args below meth c H locs 0 0 (MQ below (va_Qi (fun r S9 => wX D S0 S9 ∧ post r S9) (wB D cy X A) A) args s 0 0 A) (F0 m 3 ls []) := by
  obtain ⟨hx, hb, hml, hown, hts⟩ := id F
  have hwg : ∀ w ∈ WG, w.before args s = true := fun w h => hts w (List.mem_cons_of_mem _ h)
  have i_17 : ∀ w ∈ u_ws RX12 TX12 43, w ∈ wz_X12_reaches := fun w h => List.mem_cons_of_mem _ (wu_17 w h)
  have k_101 := hwg _ wf_RX12_101
  intro n
  induction n with
  | zero =>
    intro S H locs ls a0 x1 x2 x3 x4 x5 x6 hp
    exact hp.elim
  | succ n ih =>
    intro S H locs ls a0 x1 x2 x3 x4 x5 x6 hp hW hE hl hL_a0 hK_a0
    unfold wp_X12_reaches_3 at hp
    refine lv_iload hx hb dX12_reaches_3 (lv_at hl 6 rfl) ?_
    refine lv_aload_n hx hb dX12_reaches_5 rfl (lv_at hl 0 rfl) ?_
    refine w_callI (va_runV (As := []) (rest := [.int x6]) F (c_X12_squares l hL_a0 hK_a0 hp H.size) (cwV (C := RX12) 0 hts (wg_V wm_RX12_113 wy_X12_squares) rfl rfl rfl (by decide +kernel) ⟨Nat.le_of_ble_eq_true rfl, Nat.le_of_ble_eq_true rfl⟩) (w_preV hK hW hL_a0 hK_a0 (by decide) rfl) rfl rfl hl.1 rfl (lv_room (Nat.le_of_ble_eq_true rfl)) dX12_reaches_6 ⟨Nat.le_of_ble_eq_true rfl, Nat.le_of_ble_eq_true rfl⟩) hW (fun r_1 S_2 H locs hp hW => ?_)
    obtain ⟨hX_S_2, hp⟩ := hp
    refine W.widen (k := 0) (n := 0) (by decide) (by decide) ?_
    have hE := hE.trans hX_S_2
    have hK_a0 : sK S_2 a0 = 17 := (hX_S_2.2 a0 hL_a0).1.trans hK_a0
    have hL_a0 : wM D S_2 a0 := hX_S_2.M hL_a0
    refine lv_icmp_ge (tgt := 144) hx hb dX12_reaches_9 (by decide) (fun c_3 => ?_) (fun c_3 => ?_)
    · replace hp := hp.1 c_3
      refine lv_iconst (v := 0) hx hb dX12_reaches_144 (by decide) ?_
      exact w_zret hx hb hr hlocks hW hp.1 ⟨hE, hp.2⟩ dX12_reaches_145
    · replace hp := hp.2 c_3
      refine lv_aload_n hx hb dX12_reaches_12 rfl (lv_at hl 0 rfl) ?_
      refine lv_iload_n hx hb dX12_reaches_13 rfl (lv_at hl 2 rfl) ?_
      refine lv_iload hx hb dX12_reaches_14 (lv_at hl 6 rfl) ?_
      refine w_callI (va_runV (As := [.int x2, .int x6]) (rest := []) F (c_X12_isNear l hL_a0 hK_a0 hp H.size) (cwV (C := RX12) 2 hts (wg_V wm_RX12_476 wy_X12_isNear) rfl rfl rfl (by decide +kernel) ⟨Nat.le_of_ble_eq_true rfl, Nat.le_of_ble_eq_true rfl⟩) (w_preV hK hW hL_a0 hK_a0 (by decide) rfl) rfl rfl hl.1 rfl (lv_room (Nat.le_of_ble_eq_true rfl)) dX12_reaches_16 ⟨Nat.le_of_ble_eq_true rfl, Nat.le_of_ble_eq_true rfl⟩) hW (fun r_4 S_5 H locs hp hW => ?_)
      obtain ⟨hX_S_5, hp⟩ := hp
      refine W.widen (k := 0) (n := 0) (by decide) (by decide) ?_
      have hE := hE.trans hX_S_5
      have hK_a0 : sK S_5 a0 = 17 := (hX_S_5.2 a0 hL_a0).1.trans hK_a0
      have hL_a0 : wM D S_5 a0 := hX_S_5.M hL_a0
      refine lv_if_eq (tgt := 59) hx hb dX12_reaches_19 (by decide) (fun c_6 => ?_) (fun c_6 => ?_)
      · replace hp := hp.1 c_6
        exact t_X12_reaches_59 F hr hlocks hK ih hp hW hE (lv_sub hl [0, 1, 2, 3, 4, 5, 6] rfl) hL_a0 hK_a0
      · replace hp := hp.2 c_6
        refine lv_iload hx hb dX12_reaches_22 (lv_at hl 6 rfl) ?_
        refine lv_iload_n hx hb dX12_reaches_24 rfl (lv_at hl 2 rfl) ?_
        refine lv_icmp_eq (tgt := 59) hx hb dX12_reaches_25 (by decide) (fun c_7 => ?_) (fun c_7 => ?_)
        · replace hp := hp.1 c_7
          exact t_X12_reaches_59 F hr hlocks hK ih hp hW hE (lv_sub hl [0, 1, 2, 3, 4, 5, 6] rfl) hL_a0 hK_a0
        · replace hp := hp.2 c_7
          refine lv_iload hx hb dX12_reaches_28 (lv_at hl 6 rfl) ?_
          refine lv_iload hx hb dX12_reaches_30 (lv_at hl 4 rfl) ?_
          refine lv_icmp_eq (tgt := 59) hx hb dX12_reaches_32 (by decide) (fun c_8 => ?_) (fun c_8 => ?_)
          · replace hp := hp.1 c_8
            exact t_X12_reaches_59 F hr hlocks hK ih hp hW hE (lv_sub hl [0, 1, 2, 3, 4, 5, 6] rfl) hL_a0 hK_a0
          · replace hp := hp.2 c_8
            refine lv_aload_n hx hb dX12_reaches_35 rfl (lv_at hl 0 rfl) ?_
            obtain ⟨y_9, ey_9, hL_y_9, hK_y_9, hp⟩ := hp
            refine w_get (k := 17) (f := 41) (T := TX12) (v := .ref y_9) F hK hW hL_a0 hK_a0 (by decide) rfl rfl (by decide) i_17 k_101 (by rw [show wv 17 41 S_5 a0 = va_rf (sR S_5 a0 41) from rfl, ey_9]; rfl) dX12_reaches_36 ?_
            refine lv_iload_n hx hb dX12_reaches_39 rfl (lv_at hl 1 rfl) ?_
            refine lv_iconst (v := 1) hx hb dX12_reaches_40 (by decide) ?_
            refine lv_iload hx hb dX12_reaches_41 (lv_at hl 6 rfl) ?_
            refine lv_iload_n hx hb dX12_reaches_43 rfl (lv_at hl 3 rfl) ?_
            refine lv_iload hx hb dX12_reaches_44 (lv_at hl 4 rfl) ?_
            refine w_callI (va_runS (As := [.int x1, .int (1 : Int32), .int x6, .int x3, .int x4]) (rest := [.ref y_9]) F (c_X12_valueAt l hp H.size) (va_cwS 5 hts (wg_S wm_RX12_483 wy_X12_valueAt) rfl rfl rfl (by decide +kernel) ⟨Nat.le_of_ble_eq_true rfl, Nat.le_of_ble_eq_true rfl⟩) (w_preS hK hW) rfl rfl hl.1 rfl (lv_room (Nat.le_of_ble_eq_true rfl)) dX12_reaches_46 ⟨Nat.le_of_ble_eq_true rfl, Nat.le_of_ble_eq_true rfl⟩) hW (fun r_10 S_11 H locs hp hW => ?_)
            obtain ⟨hX_S_11, hp⟩ := hp
            refine W.widen (k := 0) (n := 0) (by decide) (by decide) ?_
            have hE := hE.trans hX_S_11
            have hK_a0 : sK S_11 a0 = 17 := (hX_S_11.2 a0 hL_a0).1.trans hK_a0
            have hL_a0 : wM D S_11 a0 := hX_S_11.M hL_a0
            have hK_y_9 : sK S_11 y_9 = 21 := (hX_S_11.2 y_9 hL_y_9).1.trans hK_y_9
            have hL_y_9 : wM D S_11 y_9 := hX_S_11.M hL_y_9
            obtain ⟨h_12, hp⟩ := hp
            refine w_ild F hK hW hL_y_9 hK_y_9 h_12 dX12_reaches_49 ?_
            refine lv_iload hx hb dX12_reaches_50 (lv_at hl 5 rfl) ?_
            refine lv_icmp_ne (tgt := 59) hx hb dX12_reaches_52 (by decide) (fun c_13 => ?_) (fun c_13 => ?_)
            · replace hp := hp.1 c_13
              exact t_X12_reaches_59 F hr hlocks hK ih hp hW hE (lv_sub hl [0, 1, 2, 3, 4, 5, 6] rfl) hL_a0 hK_a0
            · replace hp := hp.2 c_13
              refine lv_iconst (v := 1) hx hb dX12_reaches_55 (by decide) ?_
              refine lv_goto (tgt := 60) hx hb dX12_reaches_56 (by decide) ?_
              exact t_X12_reaches_60 F hr hlocks hK ih hp hW hE (lv_sub hl [0, 1, 2, 3, 4, 5, 6] rfl) hL_a0 hK_a0
set_option maxHeartbeats 4000000 in
set_option maxRecDepth 100000 in
theorem t_X12_reaches_0 {p : Program} {l : Launch} {e : Env} {s : State} {m : MethodId} {args : Array Value} {below : List Frame} {meth : Method} {c : Code} {D : wD} {cy : Nat → ClassId} {X : va_W} {A : Nat → Prop} {S0 : wS} {post : Int32 → wS → Prop} (F : CallFix p m c cX12_reaches 9 s args wz_X12_reaches RX12) (hr : meth.sig.returnType = (some .boolean)) (hlocks : meth.locks = false) (hK : wK D cy A s) : ∀ {S : wS} {H : Heap} {locs : List Loc} {ls : Array Slot} {a0 : Nat} {x1 : Int32} {x2 : Int32} {x3 : Int32} {x4 : Int32} {x5 : Int32}, wp_X12_reaches_0 D post S a0 x1 x2 x3 x4 x5 → wO D cy X A s.heap S H locs → wX D S0 S → lv_has ls 9 [(0, .ref a0), (1, .int x1), (2, .int x2), (3, .int x3), (4, .int x4), (5, .int x5)] → wM D S a0 → sK S a0 = 17 → W p l e r_X12_reaches s m args below meth c H locs 0 0 (MQ below (va_Qi (fun r S9 => wX D S0 S9 ∧ post r S9) (wB D cy X A) A) args s 0 0 A) (F0 m 0 ls []) := by
  obtain ⟨hx, hb, hml, hown, hts⟩ := id F
  have hwg : ∀ w ∈ WG, w.before args s = true := fun w h => hts w (List.mem_cons_of_mem _ h)
  intro S H locs ls a0 x1 x2 x3 x4 x5 hp hW hE hl hL_a0 hK_a0
  unfold wp_X12_reaches_0 at hp
  refine lv_iconst (v := 0) hx hb dX12_reaches_0 (by decide) ?_
  refine lv_istore (lv' := [(6, .int (0 : Int32)), (0, .ref a0), (1, .int x1), (2, .int x2), (3, .int x3), (4, .int x4), (5, .int x5)]) hx hb dX12_reaches_1 hl (by decide) rfl (fun ls hl => ?_)
  obtain ⟨n_1, hp⟩ := hp
  exact t_X12_reaches_3 F hr hlocks hK n_1 hp hW hE (lv_sub hl [1, 2, 3, 4, 5, 6, 0] rfl) hL_a0 hK_a0
set_option maxHeartbeats 4000000 in
set_option maxRecDepth 100000 in
theorem c_X12_reaches (l : Launch) {D : wD} {cy : Nat → ClassId} {X : va_W} {S0 : wS} {post : Int32 → wS → Prop} {a0 : Nat} {x1 : Int32} {x2 : Int32} {x3 : Int32} {x4 : Int32} {x5 : Int32} (hL_a0 : wM D S0 a0) (hK_a0 : sK S0 a0 = 17) (hp : wp_X12_reaches D post S0 a0 x1 x2 x3 x4 x5) : mI D cy X l yX12_reaches wz_X12_reaches r_X12_reaches [.ref a0, .int x1, .int x2, .int x3, .int x4, .int x5] S0 (fun r S9 => wX D S0 S9 ∧ post r S9) := by
  intro sz
  refine Met.ofW (cc := cX12_reaches) (maxL := 9) (ret := (some .boolean)) (by decide) rfl ?_
  intro p e s m args below meth c s₁ B hml hv
  obtain ⟨rfl, hsz, hP, hK, hD0, hRO⟩ := hv
  have hts := atoms_spec (ws := wz_X12_reaches) B.pre
  have hown : s.vm.findClass RX12 = some m.cls := findClass_of_methodNamed B.named
  subst hsz
  have hD := hD0.self (sz := s.heap.size)
  have F : CallFix p m c cX12_reaches 9 s _ wz_X12_reaches RX12 := ⟨B.exec, B.bytes, hml, hown, hts⟩
  have hr := B.returns
  have hlocks := B.notSynchronized
  generalize hAe : va_A (wL cy X S0) s.heap.size = A at hD hK ⊢
  have hA : ∀ q, s.heap.size ≤ q → A q := fun q h => by rw [← hAe]; exact Or.inr h
  have hW : wO D cy X A s.heap S0 s.heap [] := ⟨hP, hD, va_S.rf, hA, hRO⟩
  have hl := lv_entry ([.ref a0, .int x1, .int x2, .int x3, .int x4, .int x5]) (n := 9) (Nat.le_of_ble_eq_true rfl)
  rw [lg_entry_eq]
  generalize (lg_sl ([.ref a0, .int x1, .int x2, .int x3, .int x4, .int x5]) ++ List.replicate (9 - (lg_sl ([.ref a0, .int x1, .int x2, .int x3, .int x4, .int x5])).length) Slot.unset).toArray = ls at hl ⊢
  have hl : lv_has ls 9 [(0, .ref a0), (1, .int x1), (2, .int x2), (3, .int x3), (4, .int x4), (5, .int x5)] := hl
  unfold wp_X12_reaches at hp
  exact t_X12_reaches_0 F hr hlocks hK hp hW wX.rf (lv_sub hl [0, 1, 2, 3, 4, 5] rfl) hL_a0 hK_a0
def wp_X12_finds_126 (D : wD) (post : Int32 → wS → Prop) (k_18 : wS → Nat → Int32 → Int32 → Int32 → Int32 → Int32 → Prop) (k_30 : wS → Nat → Int32 → Int32 → Int32 → Int32 → Int32 → Int32 → Prop) (k_42 : wS → Nat → Int32 → Int32 → Int32 → Int32 → Int32 → Int32 → Int32 → Prop) (S : wS) (a0 : Nat) (x1 : Int32) (x2 : Int32) (x3 : Int32) (x4 : Int32) (x5 : Int32) (x6 : Int32) (x7 : Int32) : Prop :=
∀ x_1 : Int32, x_1 = x7 + 1 →
k_42 S a0 x1 x2 x3 x4 x5 x6 x_1
def wp_X12_finds_116 (D : wD) (post : Int32 → wS → Prop) (k_18 : wS → Nat → Int32 → Int32 → Int32 → Int32 → Int32 → Prop) (k_30 : wS → Nat → Int32 → Int32 → Int32 → Int32 → Int32 → Int32 → Prop) (k_42 : wS → Nat → Int32 → Int32 → Int32 → Int32 → Int32 → Int32 → Int32 → Prop) (S : wS) (a0 : Nat) (x1 : Int32) (x2 : Int32) (x4 : Int32) (x5 : Int32) (x6 : Int32) (x7 : Int32) (x8 : Int32) : Prop :=
∃ y_1 : Nat, sR S a0 41 = some y_1 ∧ wM D S y_1 ∧ sK S y_1 = 21 ∧
y_1 ∈ sL S ∧ vp_in x8 (sN S y_1) ∧
∀ S_3 : wS, S_3 = uI S y_1 (x8).toNatClampNeg x2 →
wp_X12_finds_126 D post k_18 k_30 k_42 S_3 a0 x1 x2 (1 : Int32) x4 x5 x6 x7
def wp_X12_finds_42 (D : wD) (post : Int32 → wS → Prop) (k_18 : wS → Nat → Int32 → Int32 → Int32 → Int32 → Int32 → Prop) (k_30 : wS → Nat → Int32 → Int32 → Int32 → Int32 → Int32 → Int32 → Prop) : Nat → wS → Nat → Int32 → Int32 → Int32 → Int32 → Int32 → Int32 → Int32 → Prop
  | 0, _, _, _, _, _, _, _, _, _ => False
  | n + 1, S, a0, x1, x2, x3, x4, x5, x6, x7 =>
    wp_X12_squares D (fun r_1 S_2 => 
    ((r_1 ≤ x7 → ∀ x_4 : Int32, x_4 = x6 + 1 →
    k_30 S_2 a0 x1 x2 x3 x4 x5 x_4) ∧
     (¬ r_1 ≤ x7 → wp_X12_valueAt D (fun r_5 S_6 => 
    ∃ y_7 : Nat, sR S_6 a0 41 = some y_7 ∧ wM D S_6 y_7 ∧ sK S_6 y_7 = 21 ∧
    vp_in r_5 (sN S_6 y_7) ∧
    ((¬ (sI S_6 y_7 (r_5).toNatClampNeg) = (-1 : Int32) → wp_X12_finds_126 D post k_18 k_30 (wp_X12_finds_42 D post k_18 k_30 n) S_6 a0 x1 x2 x3 x4 x5 x6 x7) ∧
     ((sI S_6 y_7 (r_5).toNatClampNeg) = (-1 : Int32) → ((¬ x4 = 0 → wp_X12_lasts D (fun r_11 S_12 => 
    ((¬ r_11 = x2 → wp_X12_finds_126 D post k_18 k_30 (wp_X12_finds_42 D post k_18 k_30 n) S_12 a0 x1 x2 x3 x4 x5 x6 x7) ∧
     (r_11 = x2 → wp_X12_finds_116 D post k_18 k_30 (wp_X12_finds_42 D post k_18 k_30 n) S_12 a0 x1 x2 x4 x5 x6 x7 r_5))) S_6 a0 x1 x5 x6 x7) ∧
     (x4 = 0 → wp_X12_reaches D (fun r_14 S_15 => 
    ((r_14 = 0 → wp_X12_finds_126 D post k_18 k_30 (wp_X12_finds_42 D post k_18 k_30 n) S_15 a0 x1 x2 x3 x4 x5 x6 x7) ∧
     (¬ r_14 = 0 → wp_X12_finds_116 D post k_18 k_30 (wp_X12_finds_42 D post k_18 k_30 n) S_15 a0 x1 x2 x4 x5 x6 x7 r_5))) S_6 a0 x1 x5 x6 x7 (x2 - (1 : Int32))))))) S_2 x1 x4 x5 x6 x7))) S a0
def wp_X12_finds_30 (D : wD) (post : Int32 → wS → Prop) (k_18 : wS → Nat → Int32 → Int32 → Int32 → Int32 → Int32 → Prop) : Nat → wS → Nat → Int32 → Int32 → Int32 → Int32 → Int32 → Int32 → Prop
  | 0, _, _, _, _, _, _, _, _ => False
  | n + 1, S, a0, x1, x2, x3, x4, x5, x6 =>
    wp_X12_squares D (fun r_1 S_2 => 
    ((r_1 ≤ x6 → ∀ x_4 : Int32, x_4 = x5 + 1 →
    k_18 S_2 a0 x1 x2 x3 x4 x_4) ∧
     (¬ r_1 ≤ x6 → ∃ n_5 : Nat, wp_X12_finds_42 D post k_18 (wp_X12_finds_30 D post k_18 n) n_5 S_2 a0 x1 x2 x3 x4 x5 x6 (0 : Int32)))) S a0
def wp_X12_finds_18 (D : wD) (post : Int32 → wS → Prop)  : Nat → wS → Nat → Int32 → Int32 → Int32 → Int32 → Int32 → Prop
  | 0, _, _, _, _, _, _, _ => False
  | n + 1, S, a0, x1, x2, x3, x4, x5 =>
    wp_X12_squares D (fun r_1 S_2 => 
    ((r_1 ≤ x5 → narrow .boolean (.int x3) = .int x3 ∧ post x3 S_2) ∧
     (¬ r_1 ≤ x5 → ∃ n_4 : Nat, wp_X12_finds_30 D post (wp_X12_finds_18 D post n) n_4 S_2 a0 x1 x2 x3 x4 x5 (0 : Int32)))) S a0
def wp_X12_finds_13 (D : wD) (post : Int32 → wS → Prop)  (S : wS) (a0 : Nat) (x1 : Int32) (x2 : Int32) (x3 : Int32) (t0 : Int32) : Prop :=
∃ n_1 : Nat, wp_X12_finds_18 D post n_1 S a0 x1 x2 x3 t0 (0 : Int32)
def wp_X12_finds_0 (D : wD) (post : Int32 → wS → Prop)  (S : wS) (a0 : Nat) (x1 : Int32) (x2 : Int32) : Prop :=
¬ (2 : Int32) = 0 ∧
((¬ (x2 - x2 / (2 : Int32) * (2 : Int32)) = 0 → wp_X12_finds_13 D post S a0 x1 x2 (0 : Int32) (0 : Int32)) ∧
 ((x2 - x2 / (2 : Int32) * (2 : Int32)) = 0 → wp_X12_finds_13 D post S a0 x1 x2 (0 : Int32) (1 : Int32)))
abbrev r_X12_finds : Room := { frames := 4, cells := 0, slots := 0, locals := 105 }
def wp_X12_finds (D : wD) (post : Int32 → wS → Prop) (S : wS) (a0 : Nat) (x1 : Int32) (x2 : Int32) : Prop := wp_X12_finds_0 D post S a0 x1 x2
set_option maxHeartbeats 4000000 in
set_option maxRecDepth 100000 in
theorem t_X12_finds_126 {p : Program} {l : Launch} {e : Env} {s : State} {m : MethodId} {args : Array Value} {below : List Frame} {meth : Method} {c : Code} {D : wD} {cy : Nat → ClassId} {X : va_W} {A : Nat → Prop} {S0 : wS} {post : Int32 → wS → Prop} (F : CallFix p m c cX12_finds 9 s args wz_X12_finds RX12) (hr : meth.sig.returnType = (some .boolean)) (hlocks : meth.locks = false) (hK : wK D cy A s) {k_18 : wS → Nat → Int32 → Int32 → Int32 → Int32 → Int32 → Prop} (q_18 : ∀ {S : wS} {H : Heap} {locs : List Loc} {ls : Array Slot} {a0 : Nat} {x1 : Int32} {x2 : Int32} {x3 : Int32} {x4 : Int32} {x5 : Int32}, k_18 S a0 x1 x2 x3 x4 x5 → wO D cy X A s.heap S H locs → wX D S0 S → lv_has ls 9 [(0, .ref a0), (1, .int x1), (2, .int x2), (3, .int x3), (4, .int x4), (5, .int x5)] → wM D S a0 → sK S a0 = 17 → W p l e r_X12_finds s m args below meth c H locs 0 0 (MQ below (va_Qi (fun r S9 => wX D S0 S9 ∧ post r S9) (wB D cy X A) A) args s 0 0 A) (F0 m 18 ls [])) {k_30 : wS → Nat → Int32 → Int32 → Int32 → Int32 → Int32 → Int32 → Prop} (q_30 : ∀ {S : wS} {H : Heap} {locs : List Loc} {ls : Array Slot} {a0 : Nat} {x1 : Int32} {x2 : Int32} {x3 : Int32} {x4 : Int32} {x5 : Int32} {x6 : Int32}, k_30 S a0 x1 x2 x3 x4 x5 x6 → wO D cy X A s.heap S H locs → wX D S0 S → lv_has ls 9 [(0, .ref a0), (1, .int x1), (2, .int x2), (3, .int x3), (4, .int x4), (5, .int x5), (6, .int x6)] → wM D S a0 → sK S a0 = 17 → W p l e r_X12_finds s m args below meth c H locs 0 0 (MQ below (va_Qi (fun r S9 => wX D S0 S9 ∧ post r S9) (wB D cy X A) A) args s 0 0 A) (F0 m 30 ls [])) {k_42 : wS → Nat → Int32 → Int32 → Int32 → Int32 → Int32 → Int32 → Int32 → Prop} (q_42 : ∀ {S : wS} {H : Heap} {locs : List Loc} {ls : Array Slot} {a0 : Nat} {x1 : Int32} {x2 : Int32} {x3 : Int32} {x4 : Int32} {x5 : Int32} {x6 : Int32} {x7 : Int32}, k_42 S a0 x1 x2 x3 x4 x5 x6 x7 → wO D cy X A s.heap S H locs → wX D S0 S → lv_has ls 9 [(0, .ref a0), (1, .int x1), (2, .int x2), (3, .int x3), (4, .int x4), (5, .int x5), (6, .int x6), (7, .int x7)] → wM D S a0 → sK S a0 = 17 → W p l e r_X12_finds s m args below meth c H locs 0 0 (MQ below (va_Qi (fun r S9 => wX D S0 S9 ∧ post r S9) (wB D cy X A) A) args s 0 0 A) (F0 m 42 ls [])) : ∀ {S : wS} {H : Heap} {locs : List Loc} {ls : Array Slot} {a0 : Nat} {x1 : Int32} {x2 : Int32} {x3 : Int32} {x4 : Int32} {x5 : Int32} {x6 : Int32} {x7 : Int32}, wp_X12_finds_126 D post k_18 k_30 k_42 S a0 x1 x2 x3 x4 x5 x6 x7 → wO D cy X A s.heap S H locs → wX D S0 S → lv_has ls 9 [(0, .ref a0), (1, .int x1), (2, .int x2), (3, .int x3), (4, .int x4), (5, .int x5), (6, .int x6), (7, .int x7)] → wM D S a0 → sK S a0 = 17 → W p l e r_X12_finds s m args below meth c H locs 0 0 (MQ below (va_Qi (fun r S9 => wX D S0 S9 ∧ post r S9) (wB D cy X A) A) args s 0 0 A) (F0 m 126 ls []) := by
  obtain ⟨hx, hb, hml, hown, hts⟩ := id F
  have hwg : ∀ w ∈ WG, w.before args s = true := fun w h => hts w (List.mem_cons_of_mem _ h)
  intro S H locs ls a0 x1 x2 x3 x4 x5 x6 x7 hp hW hE hl hL_a0 hK_a0
  unfold wp_X12_finds_126 at hp
  obtain ⟨x_1, ex_1⟩ : ∃ z : Int32, z = x7 + 1 := ⟨_, rfl⟩
  replace hp := hp x_1 ex_1
  refine lv_iinc (v := x_1) (lv' := [(7, .int x_1), (0, .ref a0), (1, .int x1), (2, .int x2), (3, .int x3), (4, .int x4), (5, .int x5), (6, .int x6)]) hx hb dX12_finds_126 hl (k := 7) rfl (by rw [ex_1]; rfl) (by decide) rfl (fun ls hl => ?_)
  refine lv_goto (tgt := 42) hx hb dX12_finds_129 (by decide) ?_
  exact q_42 hp hW hE (lv_sub hl [1, 2, 3, 4, 5, 6, 7, 0] rfl) hL_a0 hK_a0
set_option maxHeartbeats 4000000 in
set_option maxRecDepth 100000 in
theorem t_X12_finds_116 {p : Program} {l : Launch} {e : Env} {s : State} {m : MethodId} {args : Array Value} {below : List Frame} {meth : Method} {c : Code} {D : wD} {cy : Nat → ClassId} {X : va_W} {A : Nat → Prop} {S0 : wS} {post : Int32 → wS → Prop} (F : CallFix p m c cX12_finds 9 s args wz_X12_finds RX12) (hr : meth.sig.returnType = (some .boolean)) (hlocks : meth.locks = false) (hK : wK D cy A s) {k_18 : wS → Nat → Int32 → Int32 → Int32 → Int32 → Int32 → Prop} (q_18 : ∀ {S : wS} {H : Heap} {locs : List Loc} {ls : Array Slot} {a0 : Nat} {x1 : Int32} {x2 : Int32} {x3 : Int32} {x4 : Int32} {x5 : Int32}, k_18 S a0 x1 x2 x3 x4 x5 → wO D cy X A s.heap S H locs → wX D S0 S → lv_has ls 9 [(0, .ref a0), (1, .int x1), (2, .int x2), (3, .int x3), (4, .int x4), (5, .int x5)] → wM D S a0 → sK S a0 = 17 → W p l e r_X12_finds s m args below meth c H locs 0 0 (MQ below (va_Qi (fun r S9 => wX D S0 S9 ∧ post r S9) (wB D cy X A) A) args s 0 0 A) (F0 m 18 ls [])) {k_30 : wS → Nat → Int32 → Int32 → Int32 → Int32 → Int32 → Int32 → Prop} (q_30 : ∀ {S : wS} {H : Heap} {locs : List Loc} {ls : Array Slot} {a0 : Nat} {x1 : Int32} {x2 : Int32} {x3 : Int32} {x4 : Int32} {x5 : Int32} {x6 : Int32}, k_30 S a0 x1 x2 x3 x4 x5 x6 → wO D cy X A s.heap S H locs → wX D S0 S → lv_has ls 9 [(0, .ref a0), (1, .int x1), (2, .int x2), (3, .int x3), (4, .int x4), (5, .int x5), (6, .int x6)] → wM D S a0 → sK S a0 = 17 → W p l e r_X12_finds s m args below meth c H locs 0 0 (MQ below (va_Qi (fun r S9 => wX D S0 S9 ∧ post r S9) (wB D cy X A) A) args s 0 0 A) (F0 m 30 ls [])) {k_42 : wS → Nat → Int32 → Int32 → Int32 → Int32 → Int32 → Int32 → Int32 → Prop} (q_42 : ∀ {S : wS} {H : Heap} {locs : List Loc} {ls : Array Slot} {a0 : Nat} {x1 : Int32} {x2 : Int32} {x3 : Int32} {x4 : Int32} {x5 : Int32} {x6 : Int32} {x7 : Int32}, k_42 S a0 x1 x2 x3 x4 x5 x6 x7 → wO D cy X A s.heap S H locs → wX D S0 S → lv_has ls 9 [(0, .ref a0), (1, .int x1), (2, .int x2), (3, .int x3), (4, .int x4), (5, .int x5), (6, .int x6), (7, .int x7)] → wM D S a0 → sK S a0 = 17 → W p l e r_X12_finds s m args below meth c H locs 0 0 (MQ below (va_Qi (fun r S9 => wX D S0 S9 ∧ post r S9) (wB D cy X A) A) args s 0 0 A) (F0 m 42 ls [])) : ∀ {S : wS} {H : Heap} {locs : List Loc} {ls : Array Slot} {a0 : Nat} {x1 : Int32} {x2 : Int32} {x4 : Int32} {x5 : Int32} {x6 : Int32} {x7 : Int32} {x8 : Int32}, wp_X12_finds_116 D post k_18 k_30 k_42 S a0 x1 x2 x4 x5 x6 x7 x8 → wO D cy X A s.heap S H locs → wX D S0 S → lv_has ls 9 [(0, .ref a0), (1, .int x1), (2, .int x2), (4, .int x4), (5, .int x5), (6, .int x6), (7, .int x7), (8, .int x8)] → wM D S a0 → sK S a0 = 17 → W p l e r_X12_finds s m args below meth c H locs 0 0 (MQ below (va_Qi (fun r S9 => wX D S0 S9 ∧ post r S9) (wB D cy X A) A) args s 0 0 A) (F0 m 116 ls []) := by
  obtain ⟨hx, hb, hml, hown, hts⟩ := id F
  have hwg : ∀ w ∈ WG, w.before args s = true := fun w h => hts w (List.mem_cons_of_mem _ h)
  have i_17 : ∀ w ∈ u_ws RX12 TX12 43, w ∈ wz_X12_finds := fun w h => List.mem_cons_of_mem _ (wu_17 w h)
  have k_101 := hwg _ wf_RX12_101
  intro S H locs ls a0 x1 x2 x4 x5 x6 x7 x8 hp hW hE hl hL_a0 hK_a0
  unfold wp_X12_finds_116 at hp
  refine lv_aload_n hx hb dX12_finds_116 rfl (lv_at hl 0 rfl) ?_
  obtain ⟨y_1, ey_1, hL_y_1, hK_y_1, hp⟩ := hp
  refine w_get (k := 17) (f := 41) (T := TX12) (v := .ref y_1) F hK hW hL_a0 hK_a0 (by decide) rfl rfl (by decide) i_17 k_101 (by rw [show wv 17 41 S a0 = va_rf (sR S a0 41) from rfl, ey_1]; rfl) dX12_finds_117 ?_
  refine lv_iload hx hb dX12_finds_120 (lv_at hl 7 rfl) ?_
  refine lv_iload_n hx hb dX12_finds_122 rfl (lv_at hl 2 rfl) ?_
  obtain ⟨h_2m, h_2, hp⟩ := hp
  refine w_ist F hK hW h_2m hK_y_1 h_2 dX12_finds_123 (fun H locs hW => ?_)
  obtain ⟨S_3, eS_3⟩ : ∃ z : wS, z = uI S y_1 (x8).toNatClampNeg x2 := ⟨_, rfl⟩
  rw [← eS_3] at hW
  replace hp := hp S_3 eS_3
  have hX_S_3 : wX D S S_3 := by rw [eS_3]; exact wX_uI
  have hE := hE.trans hX_S_3
  have hK_a0 : sK S_3 a0 = 17 := (hX_S_3.2 a0 hL_a0).1.trans hK_a0
  have hL_a0 : wM D S_3 a0 := hX_S_3.M hL_a0
  refine lv_iconst (v := 1) hx hb dX12_finds_124 (by decide) ?_
  refine lv_istore_n (lv' := [(3, .int (1 : Int32)), (0, .ref a0), (1, .int x1), (2, .int x2), (4, .int x4), (5, .int x5), (6, .int x6), (7, .int x7), (8, .int x8)]) hx hb dX12_finds_125 rfl hl (by decide) rfl (fun ls hl => ?_)
  exact t_X12_finds_126 F hr hlocks hK q_18 q_30 q_42 hp hW hE (lv_sub hl [1, 2, 3, 0, 4, 5, 6, 7] rfl) hL_a0 hK_a0
set_option maxHeartbeats 4000000 in
set_option maxRecDepth 100000 in
theorem t_X12_finds_42 {p : Program} {l : Launch} {e : Env} {s : State} {m : MethodId} {args : Array Value} {below : List Frame} {meth : Method} {c : Code} {D : wD} {cy : Nat → ClassId} {X : va_W} {A : Nat → Prop} {S0 : wS} {post : Int32 → wS → Prop} (F : CallFix p m c cX12_finds 9 s args wz_X12_finds RX12) (hr : meth.sig.returnType = (some .boolean)) (hlocks : meth.locks = false) (hK : wK D cy A s) {k_18 : wS → Nat → Int32 → Int32 → Int32 → Int32 → Int32 → Prop} (q_18 : ∀ {S : wS} {H : Heap} {locs : List Loc} {ls : Array Slot} {a0 : Nat} {x1 : Int32} {x2 : Int32} {x3 : Int32} {x4 : Int32} {x5 : Int32}, k_18 S a0 x1 x2 x3 x4 x5 → wO D cy X A s.heap S H locs → wX D S0 S → lv_has ls 9 [(0, .ref a0), (1, .int x1), (2, .int x2), (3, .int x3), (4, .int x4), (5, .int x5)] → wM D S a0 → sK S a0 = 17 → W p l e r_X12_finds s m args below meth c H locs 0 0 (MQ below (va_Qi (fun r S9 => wX D S0 S9 ∧ post r S9) (wB D cy X A) A) args s 0 0 A) (F0 m 18 ls [])) {k_30 : wS → Nat → Int32 → Int32 → Int32 → Int32 → Int32 → Int32 → Prop} (q_30 : ∀ {S : wS} {H : Heap} {locs : List Loc} {ls : Array Slot} {a0 : Nat} {x1 : Int32} {x2 : Int32} {x3 : Int32} {x4 : Int32} {x5 : Int32} {x6 : Int32}, k_30 S a0 x1 x2 x3 x4 x5 x6 → wO D cy X A s.heap S H locs → wX D S0 S → lv_has ls 9 [(0, .ref a0), (1, .int x1), (2, .int x2), (3, .int x3), (4, .int x4), (5, .int x5), (6, .int x6)] → wM D S a0 → sK S a0 = 17 → W p l e r_X12_finds s m args below meth c H locs 0 0 (MQ below (va_Qi (fun r S9 => wX D S0 S9 ∧ post r S9) (wB D cy X A) A) args s 0 0 A) (F0 m 30 ls [])) : ∀ (n : Nat) {S : wS} {H : Heap} {locs : List Loc} {ls : Array Slot} {a0 : Nat} {x1 : Int32} {x2 : Int32} {x3 : Int32} {x4 : Int32} {x5 : Int32} {x6 : Int32} {x7 : Int32}, wp_X12_finds_42 D post k_18 k_30 n S a0 x1 x2 x3 x4 x5 x6 x7 → wO D cy X A s.heap S H locs → wX D S0 S → lv_has ls 9 [(0, .ref a0), (1, .int x1), (2, .int x2), (3, .int x3), (4, .int x4), (5, .int x5), (6, .int x6), (7, .int x7)] → wM D S a0 → sK S a0 = 17 → W p l e r_X12_finds s m args below meth c H locs 0 0 (MQ below (va_Qi (fun r S9 => wX D S0 S9 ∧ post r S9) (wB D cy X A) A) args s 0 0 A) (F0 m 42 ls []) := by
  obtain ⟨hx, hb, hml, hown, hts⟩ := id F
  have hwg : ∀ w ∈ WG, w.before args s = true := fun w h => hts w (List.mem_cons_of_mem _ h)
  have i_17 : ∀ w ∈ u_ws RX12 TX12 43, w ∈ wz_X12_finds := fun w h => List.mem_cons_of_mem _ (wu_17 w h)
  have k_101 := hwg _ wf_RX12_101
  intro n
  induction n with
  | zero =>
    intro S H locs ls a0 x1 x2 x3 x4 x5 x6 x7 hp
    exact hp.elim
  | succ n ih =>
    intro S H locs ls a0 x1 x2 x3 x4 x5 x6 x7 hp hW hE hl hL_a0 hK_a0
    unfold wp_X12_finds_42 at hp
    refine lv_iload hx hb dX12_finds_42 (lv_at hl 7 rfl) ?_
    refine lv_aload_n hx hb dX12_finds_44 rfl (lv_at hl 0 rfl) ?_
    refine w_callI (va_runV (As := []) (rest := [.int x7]) F (c_X12_squares l hL_a0 hK_a0 hp H.size) (cwV (C := RX12) 0 hts (wg_V wm_RX12_113 wy_X12_squares) rfl rfl rfl (by decide +kernel) ⟨Nat.le_of_ble_eq_true rfl, Nat.le_of_ble_eq_true rfl⟩) (w_preV hK hW hL_a0 hK_a0 (by decide) rfl) rfl rfl hl.1 rfl (lv_room (Nat.le_of_ble_eq_true rfl)) dX12_finds_45 ⟨Nat.le_of_ble_eq_true rfl, Nat.le_of_ble_eq_true rfl⟩) hW (fun r_1 S_2 H locs hp hW => ?_)
    obtain ⟨hX_S_2, hp⟩ := hp
    refine W.widen (k := 0) (n := 0) (by decide) (by decide) ?_
    have hE := hE.trans hX_S_2
    have hK_a0 : sK S_2 a0 = 17 := (hX_S_2.2 a0 hL_a0).1.trans hK_a0
    have hL_a0 : wM D S_2 a0 := hX_S_2.M hL_a0
    refine lv_icmp_ge (tgt := 132) hx hb dX12_finds_48 (by decide) (fun c_3 => ?_) (fun c_3 => ?_)
    · replace hp := hp.1 c_3
      obtain ⟨x_4, ex_4⟩ : ∃ z : Int32, z = x6 + 1 := ⟨_, rfl⟩
      replace hp := hp x_4 ex_4
      refine lv_iinc (v := x_4) (lv' := [(6, .int x_4), (0, .ref a0), (1, .int x1), (2, .int x2), (3, .int x3), (4, .int x4), (5, .int x5), (7, .int x7)]) hx hb dX12_finds_132 hl (k := 6) rfl (by rw [ex_4]; rfl) (by decide) rfl (fun ls hl => ?_)
      refine lv_goto (tgt := 30) hx hb dX12_finds_135 (by decide) ?_
      exact q_30 hp hW hE (lv_sub hl [1, 2, 3, 4, 5, 6, 0] rfl) hL_a0 hK_a0
    · replace hp := hp.2 c_3
      refine lv_iload_n hx hb dX12_finds_51 rfl (lv_at hl 1 rfl) ?_
      refine lv_iload hx hb dX12_finds_52 (lv_at hl 4 rfl) ?_
      refine lv_iload hx hb dX12_finds_54 (lv_at hl 5 rfl) ?_
      refine lv_iload hx hb dX12_finds_56 (lv_at hl 6 rfl) ?_
      refine lv_iload hx hb dX12_finds_58 (lv_at hl 7 rfl) ?_
      refine w_callI (va_runS (As := [.int x1, .int x4, .int x5, .int x6, .int x7]) (rest := []) F (c_X12_valueAt l hp H.size) (va_cwS 5 hts (wg_S wm_RX12_483 wy_X12_valueAt) rfl rfl rfl (by decide +kernel) ⟨Nat.le_of_ble_eq_true rfl, Nat.le_of_ble_eq_true rfl⟩) (w_preS hK hW) rfl rfl hl.1 rfl (lv_room (Nat.le_of_ble_eq_true rfl)) dX12_finds_60 ⟨Nat.le_of_ble_eq_true rfl, Nat.le_of_ble_eq_true rfl⟩) hW (fun r_5 S_6 H locs hp hW => ?_)
      obtain ⟨hX_S_6, hp⟩ := hp
      refine W.widen (k := 0) (n := 0) (by decide) (by decide) ?_
      have hE := hE.trans hX_S_6
      have hK_a0 : sK S_6 a0 = 17 := (hX_S_6.2 a0 hL_a0).1.trans hK_a0
      have hL_a0 : wM D S_6 a0 := hX_S_6.M hL_a0
      refine lv_istore (lv' := [(8, .int r_5), (0, .ref a0), (1, .int x1), (2, .int x2), (3, .int x3), (4, .int x4), (5, .int x5), (6, .int x6), (7, .int x7)]) hx hb dX12_finds_63 hl (by decide) rfl (fun ls hl => ?_)
      refine lv_aload_n hx hb dX12_finds_65 rfl (lv_at hl 1 rfl) ?_
      obtain ⟨y_7, ey_7, hL_y_7, hK_y_7, hp⟩ := hp
      refine w_get (k := 17) (f := 41) (T := TX12) (v := .ref y_7) F hK hW hL_a0 hK_a0 (by decide) rfl rfl (by decide) i_17 k_101 (by rw [show wv 17 41 S_6 a0 = va_rf (sR S_6 a0 41) from rfl, ey_7]; rfl) dX12_finds_66 ?_
      refine lv_iload hx hb dX12_finds_69 (lv_at hl 0 rfl) ?_
      obtain ⟨h_8, hp⟩ := hp
      refine w_ild F hK hW hL_y_7 hK_y_7 h_8 dX12_finds_71 ?_
      refine lv_iconst (v := (-1)) hx hb dX12_finds_72 (by decide) ?_
      refine lv_icmp_ne (tgt := 126) hx hb dX12_finds_73 (by decide) (fun c_9 => ?_) (fun c_9 => ?_)
      · replace hp := hp.1 c_9
        exact t_X12_finds_126 F hr hlocks hK q_18 q_30 ih hp hW hE (lv_sub hl [1, 2, 3, 4, 5, 6, 7, 8] rfl) hL_a0 hK_a0
      · replace hp := hp.2 c_9
        refine lv_iload hx hb dX12_finds_76 (lv_at hl 5 rfl) ?_
        refine lv_if_ne (tgt := 101) hx hb dX12_finds_78 (by decide) (fun c_10 => ?_) (fun c_10 => ?_)
        · replace hp := hp.1 c_10
          refine lv_aload_n hx hb dX12_finds_101 rfl (lv_at hl 1 rfl) ?_
          refine lv_iload_n hx hb dX12_finds_102 rfl (lv_at hl 2 rfl) ?_
          refine lv_iload hx hb dX12_finds_103 (lv_at hl 6 rfl) ?_
          refine lv_iload hx hb dX12_finds_105 (lv_at hl 7 rfl) ?_
          refine lv_iload hx hb dX12_finds_107 (lv_at hl 8 rfl) ?_
          refine w_callI (va_runV (As := [.int x1, .int x5, .int x6, .int x7]) (rest := []) F (c_X12_lasts l hL_a0 hK_a0 hp H.size) (cwV (C := RX12) 4 hts (wg_V wm_RX12_497 wy_X12_lasts) rfl rfl rfl (by decide +kernel) ⟨Nat.le_of_ble_eq_true rfl, Nat.le_of_ble_eq_true rfl⟩) (w_preV hK hW hL_a0 hK_a0 (by decide) rfl) rfl rfl hl.1 rfl (lv_room (Nat.le_of_ble_eq_true rfl)) dX12_finds_109 ⟨Nat.le_of_ble_eq_true rfl, Nat.le_of_ble_eq_true rfl⟩) hW (fun r_11 S_12 H locs hp hW => ?_)
          obtain ⟨hX_S_12, hp⟩ := hp
          refine W.widen (k := 0) (n := 0) (by decide) (by decide) ?_
          have hE := hE.trans hX_S_12
          have hK_a0 : sK S_12 a0 = 17 := (hX_S_12.2 a0 hL_a0).1.trans hK_a0
          have hL_a0 : wM D S_12 a0 := hX_S_12.M hL_a0
          refine lv_iload_n hx hb dX12_finds_112 rfl (lv_at hl 3 rfl) ?_
          refine lv_icmp_ne (tgt := 126) hx hb dX12_finds_113 (by decide) (fun c_13 => ?_) (fun c_13 => ?_)
          · replace hp := hp.1 c_13
            exact t_X12_finds_126 F hr hlocks hK q_18 q_30 ih hp hW hE (lv_sub hl [1, 2, 3, 4, 5, 6, 7, 8] rfl) hL_a0 hK_a0
          · replace hp := hp.2 c_13
            exact t_X12_finds_116 F hr hlocks hK q_18 q_30 ih hp hW hE (lv_sub hl [1, 2, 3, 5, 6, 7, 8, 0] rfl) hL_a0 hK_a0
        · replace hp := hp.2 c_10
          refine lv_aload_n hx hb dX12_finds_81 rfl (lv_at hl 1 rfl) ?_
          refine lv_iload_n hx hb dX12_finds_82 rfl (lv_at hl 2 rfl) ?_
          refine lv_iload hx hb dX12_finds_83 (lv_at hl 6 rfl) ?_
          refine lv_iload hx hb dX12_finds_85 (lv_at hl 7 rfl) ?_
          refine lv_iload hx hb dX12_finds_87 (lv_at hl 8 rfl) ?_
          refine lv_iload_n hx hb dX12_finds_89 rfl (lv_at hl 3 rfl) ?_
          refine lv_iconst (v := 1) hx hb dX12_finds_90 (by decide) ?_
          refine lv_isub hx hb dX12_finds_91 ?_
          refine w_callI (va_runV (As := [.int x1, .int x5, .int x6, .int x7, .int (x2 - (1 : Int32))]) (rest := []) F (c_X12_reaches l hL_a0 hK_a0 hp H.size) (cwV (C := RX12) 5 hts (wg_V wm_RX12_494 wy_X12_reaches) rfl rfl rfl (by decide +kernel) ⟨Nat.le_of_ble_eq_true rfl, Nat.le_of_ble_eq_true rfl⟩) (w_preV hK hW hL_a0 hK_a0 (by decide) rfl) rfl rfl hl.1 rfl (lv_room (Nat.le_of_ble_eq_true rfl)) dX12_finds_92 ⟨Nat.le_of_ble_eq_true rfl, Nat.le_of_ble_eq_true rfl⟩) hW (fun r_14 S_15 H locs hp hW => ?_)
          obtain ⟨hX_S_15, hp⟩ := hp
          refine W.widen (k := 0) (n := 0) (by decide) (by decide) ?_
          have hE := hE.trans hX_S_15
          have hK_a0 : sK S_15 a0 = 17 := (hX_S_15.2 a0 hL_a0).1.trans hK_a0
          have hL_a0 : wM D S_15 a0 := hX_S_15.M hL_a0
          refine lv_if_eq (tgt := 126) hx hb dX12_finds_95 (by decide) (fun c_16 => ?_) (fun c_16 => ?_)
          · replace hp := hp.1 c_16
            exact t_X12_finds_126 F hr hlocks hK q_18 q_30 ih hp hW hE (lv_sub hl [1, 2, 3, 4, 5, 6, 7, 8] rfl) hL_a0 hK_a0
          · replace hp := hp.2 c_16
            refine lv_goto (tgt := 116) hx hb dX12_finds_98 (by decide) ?_
            exact t_X12_finds_116 F hr hlocks hK q_18 q_30 ih hp hW hE (lv_sub hl [1, 2, 3, 5, 6, 7, 8, 0] rfl) hL_a0 hK_a0
set_option maxHeartbeats 4000000 in
set_option maxRecDepth 100000 in
theorem t_X12_finds_30 {p : Program} {l : Launch} {e : Env} {s : State} {m : MethodId} {args : Array Value} {below : List Frame} {meth : Method} {c : Code} {D : wD} {cy : Nat → ClassId} {X : va_W} {A : Nat → Prop} {S0 : wS} {post : Int32 → wS → Prop} (F : CallFix p m c cX12_finds 9 s args wz_X12_finds RX12) (hr : meth.sig.returnType = (some .boolean)) (hlocks : meth.locks = false) (hK : wK D cy A s) {k_18 : wS → Nat → Int32 → Int32 → Int32 → Int32 → Int32 → Prop} (q_18 : ∀ {S : wS} {H : Heap} {locs : List Loc} {ls : Array Slot} {a0 : Nat} {x1 : Int32} {x2 : Int32} {x3 : Int32} {x4 : Int32} {x5 : Int32}, k_18 S a0 x1 x2 x3 x4 x5 → wO D cy X A s.heap S H locs → wX D S0 S → lv_has ls 9 [(0, .ref a0), (1, .int x1), (2, .int x2), (3, .int x3), (4, .int x4), (5, .int x5)] → wM D S a0 → sK S a0 = 17 → W p l e r_X12_finds s m args below meth c H locs 0 0 (MQ below (va_Qi (fun r S9 => wX D S0 S9 ∧ post r S9) (wB D cy X A) A) args s 0 0 A) (F0 m 18 ls [])) : ∀ (n : Nat) {S : wS} {H : Heap} {locs : List Loc} {ls : Array Slot} {a0 : Nat} {x1 : Int32} {x2 : Int32} {x3 : Int32} {x4 : Int32} {x5 : Int32} {x6 : Int32}, wp_X12_finds_30 D post k_18 n S a0 x1 x2 x3 x4 x5 x6 → wO D cy X A s.heap S H locs → wX D S0 S → lv_has ls 9 [(0, .ref a0), (1, .int x1), (2, .int x2), (3, .int x3), (4, .int x4), (5, .int x5), (6, .int x6)] → wM D S a0 → sK S a0 = 17 → W p l e r_X12_finds s m args below meth c H locs 0 0 (MQ below (va_Qi (fun r S9 => wX D S0 S9 ∧ post r S9) (wB D cy X A) A) args s 0 0 A) (F0 m 30 ls []) := by
  obtain ⟨hx, hb, hml, hown, hts⟩ := id F
  have hwg : ∀ w ∈ WG, w.before args s = true := fun w h => hts w (List.mem_cons_of_mem _ h)
  intro n
  induction n with
  | zero =>
    intro S H locs ls a0 x1 x2 x3 x4 x5 x6 hp
    exact hp.elim
  | succ n ih =>
    intro S H locs ls a0 x1 x2 x3 x4 x5 x6 hp hW hE hl hL_a0 hK_a0
    unfold wp_X12_finds_30 at hp
    refine lv_iload hx hb dX12_finds_30 (lv_at hl 6 rfl) ?_
    refine lv_aload_n hx hb dX12_finds_32 rfl (lv_at hl 0 rfl) ?_
    refine w_callI (va_runV (As := []) (rest := [.int x6]) F (c_X12_squares l hL_a0 hK_a0 hp H.size) (cwV (C := RX12) 0 hts (wg_V wm_RX12_113 wy_X12_squares) rfl rfl rfl (by decide +kernel) ⟨Nat.le_of_ble_eq_true rfl, Nat.le_of_ble_eq_true rfl⟩) (w_preV hK hW hL_a0 hK_a0 (by decide) rfl) rfl rfl hl.1 rfl (lv_room (Nat.le_of_ble_eq_true rfl)) dX12_finds_33 ⟨Nat.le_of_ble_eq_true rfl, Nat.le_of_ble_eq_true rfl⟩) hW (fun r_1 S_2 H locs hp hW => ?_)
    obtain ⟨hX_S_2, hp⟩ := hp
    refine W.widen (k := 0) (n := 0) (by decide) (by decide) ?_
    have hE := hE.trans hX_S_2
    have hK_a0 : sK S_2 a0 = 17 := (hX_S_2.2 a0 hL_a0).1.trans hK_a0
    have hL_a0 : wM D S_2 a0 := hX_S_2.M hL_a0
    refine lv_icmp_ge (tgt := 138) hx hb dX12_finds_36 (by decide) (fun c_3 => ?_) (fun c_3 => ?_)
    · replace hp := hp.1 c_3
      obtain ⟨x_4, ex_4⟩ : ∃ z : Int32, z = x5 + 1 := ⟨_, rfl⟩
      replace hp := hp x_4 ex_4
      refine lv_iinc (v := x_4) (lv' := [(5, .int x_4), (0, .ref a0), (1, .int x1), (2, .int x2), (3, .int x3), (4, .int x4), (6, .int x6)]) hx hb dX12_finds_138 hl (k := 5) rfl (by rw [ex_4]; rfl) (by decide) rfl (fun ls hl => ?_)
      refine lv_goto (tgt := 18) hx hb dX12_finds_141 (by decide) ?_
      exact q_18 hp hW hE (lv_sub hl [1, 2, 3, 4, 5, 0] rfl) hL_a0 hK_a0
    · replace hp := hp.2 c_3
      refine lv_iconst (v := 0) hx hb dX12_finds_39 (by decide) ?_
      refine lv_istore (lv' := [(7, .int (0 : Int32)), (0, .ref a0), (1, .int x1), (2, .int x2), (3, .int x3), (4, .int x4), (5, .int x5), (6, .int x6)]) hx hb dX12_finds_40 hl (by decide) rfl (fun ls hl => ?_)
      obtain ⟨n_5, hp⟩ := hp
      exact t_X12_finds_42 F hr hlocks hK q_18 ih n_5 hp hW hE (lv_sub hl [1, 2, 3, 4, 5, 6, 7, 0] rfl) hL_a0 hK_a0
set_option maxHeartbeats 4000000 in
set_option maxRecDepth 100000 in
theorem t_X12_finds_18 {p : Program} {l : Launch} {e : Env} {s : State} {m : MethodId} {args : Array Value} {below : List Frame} {meth : Method} {c : Code} {D : wD} {cy : Nat → ClassId} {X : va_W} {A : Nat → Prop} {S0 : wS} {post : Int32 → wS → Prop} (F : CallFix p m c cX12_finds 9 s args wz_X12_finds RX12) (hr : meth.sig.returnType = (some .boolean)) (hlocks : meth.locks = false) (hK : wK D cy A s) : ∀ (n : Nat) {S : wS} {H : Heap} {locs : List Loc} {ls : Array Slot} {a0 : Nat} {x1 : Int32} {x2 : Int32} {x3 : Int32} {x4 : Int32} {x5 : Int32}, wp_X12_finds_18 D post n S a0 x1 x2 x3 x4 x5 → wO D cy X A s.heap S H locs → wX D S0 S → lv_has ls 9 [(0, .ref a0), (1, .int x1), (2, .int x2), (3, .int x3), (4, .int x4), (5, .int x5)] → wM D S a0 → sK S a0 = 17 → W p l e r_X12_finds s m args below meth c H locs 0 0 (MQ below (va_Qi (fun r S9 => wX D S0 S9 ∧ post r S9) (wB D cy X A) A) args s 0 0 A) (F0 m 18 ls []) := by
  obtain ⟨hx, hb, hml, hown, hts⟩ := id F
  have hwg : ∀ w ∈ WG, w.before args s = true := fun w h => hts w (List.mem_cons_of_mem _ h)
  intro n
  induction n with
  | zero =>
    intro S H locs ls a0 x1 x2 x3 x4 x5 hp
    exact hp.elim
  | succ n ih =>
    intro S H locs ls a0 x1 x2 x3 x4 x5 hp hW hE hl hL_a0 hK_a0
    unfold wp_X12_finds_18 at hp
    refine lv_iload hx hb dX12_finds_18 (lv_at hl 5 rfl) ?_
    refine lv_aload_n hx hb dX12_finds_20 rfl (lv_at hl 0 rfl) ?_
    refine w_callI (va_runV (As := []) (rest := [.int x5]) F (c_X12_squares l hL_a0 hK_a0 hp H.size) (cwV (C := RX12) 0 hts (wg_V wm_RX12_113 wy_X12_squares) rfl rfl rfl (by decide +kernel) ⟨Nat.le_of_ble_eq_true rfl, Nat.le_of_ble_eq_true rfl⟩) (w_preV hK hW hL_a0 hK_a0 (by decide) rfl) rfl rfl hl.1 rfl (lv_room (Nat.le_of_ble_eq_true rfl)) dX12_finds_21 ⟨Nat.le_of_ble_eq_true rfl, Nat.le_of_ble_eq_true rfl⟩) hW (fun r_1 S_2 H locs hp hW => ?_)
    obtain ⟨hX_S_2, hp⟩ := hp
    refine W.widen (k := 0) (n := 0) (by decide) (by decide) ?_
    have hE := hE.trans hX_S_2
    have hK_a0 : sK S_2 a0 = 17 := (hX_S_2.2 a0 hL_a0).1.trans hK_a0
    have hL_a0 : wM D S_2 a0 := hX_S_2.M hL_a0
    refine lv_icmp_ge (tgt := 144) hx hb dX12_finds_24 (by decide) (fun c_3 => ?_) (fun c_3 => ?_)
    · replace hp := hp.1 c_3
      refine lv_iload_n hx hb dX12_finds_144 rfl (lv_at hl 3 rfl) ?_
      exact w_zret hx hb hr hlocks hW hp.1 ⟨hE, hp.2⟩ dX12_finds_145
    · replace hp := hp.2 c_3
      refine lv_iconst (v := 0) hx hb dX12_finds_27 (by decide) ?_
      refine lv_istore (lv' := [(6, .int (0 : Int32)), (0, .ref a0), (1, .int x1), (2, .int x2), (3, .int x3), (4, .int x4), (5, .int x5)]) hx hb dX12_finds_28 hl (by decide) rfl (fun ls hl => ?_)
      obtain ⟨n_4, hp⟩ := hp
      exact t_X12_finds_30 F hr hlocks hK ih n_4 hp hW hE (lv_sub hl [1, 2, 3, 4, 5, 6, 0] rfl) hL_a0 hK_a0
set_option maxHeartbeats 4000000 in
set_option maxRecDepth 100000 in
theorem t_X12_finds_13 {p : Program} {l : Launch} {e : Env} {s : State} {m : MethodId} {args : Array Value} {below : List Frame} {meth : Method} {c : Code} {D : wD} {cy : Nat → ClassId} {X : va_W} {A : Nat → Prop} {S0 : wS} {post : Int32 → wS → Prop} (F : CallFix p m c cX12_finds 9 s args wz_X12_finds RX12) (hr : meth.sig.returnType = (some .boolean)) (hlocks : meth.locks = false) (hK : wK D cy A s) : ∀ {S : wS} {H : Heap} {locs : List Loc} {ls : Array Slot} {a0 : Nat} {x1 : Int32} {x2 : Int32} {x3 : Int32} {t0 : Int32}, wp_X12_finds_13 D post S a0 x1 x2 x3 t0 → wO D cy X A s.heap S H locs → wX D S0 S → lv_has ls 9 [(0, .ref a0), (1, .int x1), (2, .int x2), (3, .int x3)] → wM D S a0 → sK S a0 = 17 → W p l e r_X12_finds s m args below meth c H locs 0 0 (MQ below (va_Qi (fun r S9 => wX D S0 S9 ∧ post r S9) (wB D cy X A) A) args s 0 0 A) (F0 m 13 ls [.int t0]) := by
  obtain ⟨hx, hb, hml, hown, hts⟩ := id F
  have hwg : ∀ w ∈ WG, w.before args s = true := fun w h => hts w (List.mem_cons_of_mem _ h)
  intro S H locs ls a0 x1 x2 x3 t0 hp hW hE hl hL_a0 hK_a0
  unfold wp_X12_finds_13 at hp
  refine lv_istore (lv' := [(4, .int t0), (0, .ref a0), (1, .int x1), (2, .int x2), (3, .int x3)]) hx hb dX12_finds_13 hl (by decide) rfl (fun ls hl => ?_)
  refine lv_iconst (v := 0) hx hb dX12_finds_15 (by decide) ?_
  refine lv_istore (lv' := [(5, .int (0 : Int32)), (4, .int t0), (0, .ref a0), (1, .int x1), (2, .int x2), (3, .int x3)]) hx hb dX12_finds_16 hl (by decide) rfl (fun ls hl => ?_)
  obtain ⟨n_1, hp⟩ := hp
  exact t_X12_finds_18 F hr hlocks hK n_1 hp hW hE (lv_sub hl [2, 3, 4, 5, 1, 0] rfl) hL_a0 hK_a0
set_option maxHeartbeats 4000000 in
set_option maxRecDepth 100000 in
theorem t_X12_finds_0 {p : Program} {l : Launch} {e : Env} {s : State} {m : MethodId} {args : Array Value} {below : List Frame} {meth : Method} {c : Code} {D : wD} {cy : Nat → ClassId} {X : va_W} {A : Nat → Prop} {S0 : wS} {post : Int32 → wS → Prop} (F : CallFix p m c cX12_finds 9 s args wz_X12_finds RX12) (hr : meth.sig.returnType = (some .boolean)) (hlocks : meth.locks = false) (hK : wK D cy A s) : ∀ {S : wS} {H : Heap} {locs : List Loc} {ls : Array Slot} {a0 : Nat} {x1 : Int32} {x2 : Int32}, wp_X12_finds_0 D post S a0 x1 x2 → wO D cy X A s.heap S H locs → wX D S0 S → lv_has ls 9 [(0, .ref a0), (1, .int x1), (2, .int x2)] → wM D S a0 → sK S a0 = 17 → W p l e r_X12_finds s m args below meth c H locs 0 0 (MQ below (va_Qi (fun r S9 => wX D S0 S9 ∧ post r S9) (wB D cy X A) A) args s 0 0 A) (F0 m 0 ls []) := by
  obtain ⟨hx, hb, hml, hown, hts⟩ := id F
  have hwg : ∀ w ∈ WG, w.before args s = true := fun w h => hts w (List.mem_cons_of_mem _ h)
  intro S H locs ls a0 x1 x2 hp hW hE hl hL_a0 hK_a0
  unfold wp_X12_finds_0 at hp
  refine lv_iconst (v := 0) hx hb dX12_finds_0 (by decide) ?_
  refine lv_istore_n (lv' := [(3, .int (0 : Int32)), (0, .ref a0), (1, .int x1), (2, .int x2)]) hx hb dX12_finds_1 rfl hl (by decide) rfl (fun ls hl => ?_)
  refine lv_iload_n hx hb dX12_finds_2 rfl (lv_at hl 3 rfl) ?_
  refine lv_iconst (v := 2) hx hb dX12_finds_3 (by decide) ?_
  obtain ⟨h_1, hp⟩ := hp
  refine lv_irem hx hb dX12_finds_4 h_1 ?_
  refine lv_if_ne (tgt := 12) hx hb dX12_finds_5 (by decide) (fun c_2 => ?_) (fun c_2 => ?_)
  · replace hp := hp.1 c_2
    refine lv_iconst (v := 0) hx hb dX12_finds_12 (by decide) ?_
    exact t_X12_finds_13 F hr hlocks hK hp hW hE (lv_sub hl [1, 2, 3, 0] rfl) hL_a0 hK_a0
  · replace hp := hp.2 c_2
    refine lv_iconst (v := 1) hx hb dX12_finds_8 (by decide) ?_
    refine lv_goto (tgt := 13) hx hb dX12_finds_9 (by decide) ?_
    exact t_X12_finds_13 F hr hlocks hK hp hW hE (lv_sub hl [1, 2, 3, 0] rfl) hL_a0 hK_a0
set_option maxHeartbeats 4000000 in
set_option maxRecDepth 100000 in
theorem c_X12_finds (l : Launch) {D : wD} {cy : Nat → ClassId} {X : va_W} {S0 : wS} {post : Int32 → wS → Prop} {a0 : Nat} {x1 : Int32} {x2 : Int32} (hL_a0 : wM D S0 a0) (hK_a0 : sK S0 a0 = 17) (hp : wp_X12_finds D post S0 a0 x1 x2) : mI D cy X l yX12_finds wz_X12_finds r_X12_finds [.ref a0, .int x1, .int x2] S0 (fun r S9 => wX D S0 S9 ∧ post r S9) := by
  intro sz
  refine Met.ofW (cc := cX12_finds) (maxL := 9) (ret := (some .boolean)) (by decide) rfl ?_
  intro p e s m args below meth c s₁ B hml hv
  obtain ⟨rfl, hsz, hP, hK, hD0, hRO⟩ := hv
  have hts := atoms_spec (ws := wz_X12_finds) B.pre
  have hown : s.vm.findClass RX12 = some m.cls := findClass_of_methodNamed B.named
  subst hsz
  have hD := hD0.self (sz := s.heap.size)
  have F : CallFix p m c cX12_finds 9 s _ wz_X12_finds RX12 := ⟨B.exec, B.bytes, hml, hown, hts⟩
  have hr := B.returns
  have hlocks := B.notSynchronized
  generalize hAe : va_A (wL cy X S0) s.heap.size = A at hD hK ⊢
  have hA : ∀ q, s.heap.size ≤ q → A q := fun q h => by rw [← hAe]; exact Or.inr h
  have hW : wO D cy X A s.heap S0 s.heap [] := ⟨hP, hD, va_S.rf, hA, hRO⟩
  have hl := lv_entry ([.ref a0, .int x1, .int x2]) (n := 9) (Nat.le_of_ble_eq_true rfl)
  rw [lg_entry_eq]
  generalize (lg_sl ([.ref a0, .int x1, .int x2]) ++ List.replicate (9 - (lg_sl ([.ref a0, .int x1, .int x2])).length) Slot.unset).toArray = ls at hl ⊢
  have hl : lv_has ls 9 [(0, .ref a0), (1, .int x1), (2, .int x2)] := hl
  unfold wp_X12_finds at hp
  exact t_X12_finds_0 F hr hlocks hK hp hW wX.rf (lv_sub hl [0, 1, 2] rfl) hL_a0 hK_a0
def wp_X12_matesAtOnce_7 (D : wD) (post : Int32 → wS → Prop)  : Nat → wS → Nat → Int32 → Int32 → Prop
  | 0, _, _, _, _ => False
  | n + 1, S, a0, x1, x2 =>
    ∃ y_1 : Nat, sR S a0 7 = some y_1 ∧ wM D S y_1 ∧ sK S y_1 = 21 ∧
    vp_in x1 (sN S y_1) ∧
    (((sI S y_1 (x1).toNatClampNeg) ≤ x2 → narrow .boolean (.int (0 : Int32)) = .int (0 : Int32) ∧ post (0 : Int32) S) ∧
     (¬ (sI S y_1 (x1).toNatClampNeg) ≤ x2 → wp_X12_makesListed D (fun S_5 => 
    wp_X12_isMateAt D (fun r_6 S_7 => 
    ((r_6 = 0 → ∀ x_9 : Int32, x_9 = x2 + 1 →
    wp_X12_matesAtOnce_7 D post n S_7 a0 x1 x_9) ∧
     (¬ r_6 = 0 → narrow .boolean (.int (1 : Int32)) = .int (1 : Int32) ∧ post (1 : Int32) S_7))) S_5 a0 (x1 + (1 : Int32))) S a0 x1 x2))
def wp_X12_matesAtOnce_0 (D : wD) (post : Int32 → wS → Prop)  (S : wS) (a0 : Nat) (x1 : Int32) : Prop :=
wp_X12_moves D (fun S_2 => 
∃ n_3 : Nat, wp_X12_matesAtOnce_7 D post n_3 S_2 a0 x1 (0 : Int32)) S a0 x1
abbrev r_X12_matesAtOnce : Room := { frames := 8, cells := 0, slots := 0, locals := 198 }
def wp_X12_matesAtOnce (D : wD) (post : Int32 → wS → Prop) (S : wS) (a0 : Nat) (x1 : Int32) : Prop := wp_X12_matesAtOnce_0 D post S a0 x1
set_option maxHeartbeats 4000000 in
set_option maxRecDepth 100000 in
theorem t_X12_matesAtOnce_7 {p : Program} {l : Launch} {e : Env} {s : State} {m : MethodId} {args : Array Value} {below : List Frame} {meth : Method} {c : Code} {D : wD} {cy : Nat → ClassId} {X : va_W} {A : Nat → Prop} {S0 : wS} {post : Int32 → wS → Prop} (F : CallFix p m c cX12_matesAtOnce 3 s args wz_X12_matesAtOnce RX12) (hr : meth.sig.returnType = (some .boolean)) (hlocks : meth.locks = false) (hK : wK D cy A s) : ∀ (n : Nat) {S : wS} {H : Heap} {locs : List Loc} {ls : Array Slot} {a0 : Nat} {x1 : Int32} {x2 : Int32}, wp_X12_matesAtOnce_7 D post n S a0 x1 x2 → wO D cy X A s.heap S H locs → wX D S0 S → lv_has ls 3 [(0, .ref a0), (1, .int x1), (2, .int x2)] → wM D S a0 → sK S a0 = 17 → W p l e r_X12_matesAtOnce s m args below meth c H locs 0 0 (MQ below (va_Qi (fun r S9 => wX D S0 S9 ∧ post r S9) (wB D cy X A) A) args s 0 0 A) (F0 m 7 ls []) := by
  obtain ⟨hx, hb, hml, hown, hts⟩ := id F
  have hwg : ∀ w ∈ WG, w.before args s = true := fun w h => hts w (List.mem_cons_of_mem _ h)
  have i_17 : ∀ w ∈ u_ws RX12 TX12 43, w ∈ wz_X12_matesAtOnce := fun w h => List.mem_cons_of_mem _ (wu_17 w h)
  have k_29 := hwg _ wf_RX12_29
  intro n
  induction n with
  | zero =>
    intro S H locs ls a0 x1 x2 hp
    exact hp.elim
  | succ n ih =>
    intro S H locs ls a0 x1 x2 hp hW hE hl hL_a0 hK_a0
    unfold wp_X12_matesAtOnce_7 at hp
    refine lv_iload_n hx hb dX12_matesAtOnce_7 rfl (lv_at hl 2 rfl) ?_
    refine lv_aload_n hx hb dX12_matesAtOnce_8 rfl (lv_at hl 0 rfl) ?_
    obtain ⟨y_1, ey_1, hL_y_1, hK_y_1, hp⟩ := hp
    refine w_get (k := 17) (f := 7) (T := TX12) (v := .ref y_1) F hK hW hL_a0 hK_a0 (by decide) rfl rfl (by decide) i_17 k_29 (by rw [show wv 17 7 S a0 = va_rf (sR S a0 7) from rfl, ey_1]; rfl) dX12_matesAtOnce_9 ?_
    refine lv_iload_n hx hb dX12_matesAtOnce_12 rfl (lv_at hl 1 rfl) ?_
    obtain ⟨h_2, hp⟩ := hp
    refine w_ild F hK hW hL_y_1 hK_y_1 h_2 dX12_matesAtOnce_13 ?_
    refine lv_icmp_ge (tgt := 41) hx hb dX12_matesAtOnce_14 (by decide) (fun c_3 => ?_) (fun c_3 => ?_)
    · replace hp := hp.1 c_3
      refine lv_iconst (v := 0) hx hb dX12_matesAtOnce_41 (by decide) ?_
      exact w_zret hx hb hr hlocks hW hp.1 ⟨hE, hp.2⟩ dX12_matesAtOnce_42
    · replace hp := hp.2 c_3
      refine lv_aload_n hx hb dX12_matesAtOnce_17 rfl (lv_at hl 0 rfl) ?_
      refine lv_iload_n hx hb dX12_matesAtOnce_18 rfl (lv_at hl 1 rfl) ?_
      refine lv_iload_n hx hb dX12_matesAtOnce_19 rfl (lv_at hl 2 rfl) ?_
      refine w_callV (va_runV (As := [.int x1, .int x2]) (rest := []) F (c_X12_makesListed l hL_a0 hK_a0 hp H.size) (cwV (C := RX12) 2 hts (wg_V wm_RX12_306 wy_X12_makesListed) rfl rfl rfl (by decide +kernel) ⟨Nat.le_of_ble_eq_true rfl, Nat.le_of_ble_eq_true rfl⟩) (w_preV hK hW hL_a0 hK_a0 (by decide) rfl) rfl rfl hl.1 rfl (lv_room (Nat.le_of_ble_eq_true rfl)) dX12_matesAtOnce_20 ⟨Nat.le_of_ble_eq_true rfl, Nat.le_of_ble_eq_true rfl⟩) hW (fun S_5 H locs hp hW => ?_)
      obtain ⟨hX_S_5, hp⟩ := hp
      refine W.widen (k := 0) (n := 0) (by decide) (by decide) ?_
      have hE := hE.trans hX_S_5
      have hK_a0 : sK S_5 a0 = 17 := (hX_S_5.2 a0 hL_a0).1.trans hK_a0
      have hL_a0 : wM D S_5 a0 := hX_S_5.M hL_a0
      refine lv_aload_n hx hb dX12_matesAtOnce_23 rfl (lv_at hl 0 rfl) ?_
      refine lv_iload_n hx hb dX12_matesAtOnce_24 rfl (lv_at hl 1 rfl) ?_
      refine lv_iconst (v := 1) hx hb dX12_matesAtOnce_25 (by decide) ?_
      refine lv_iadd hx hb dX12_matesAtOnce_26 ?_
      refine w_callI (va_runV (As := [.int (x1 + (1 : Int32))]) (rest := []) F (c_X12_isMateAt l hL_a0 hK_a0 hp H.size) (cwV (C := RX12) 1 hts (wg_V wm_RX12_309 wy_X12_isMateAt) rfl rfl rfl (by decide +kernel) ⟨Nat.le_of_ble_eq_true rfl, Nat.le_of_ble_eq_true rfl⟩) (w_preV hK hW hL_a0 hK_a0 (by decide) rfl) rfl rfl hl.1 rfl (lv_room (Nat.le_of_ble_eq_true rfl)) dX12_matesAtOnce_27 ⟨Nat.le_of_ble_eq_true rfl, Nat.le_of_ble_eq_true rfl⟩) hW (fun r_6 S_7 H locs hp hW => ?_)
      obtain ⟨hX_S_7, hp⟩ := hp
      refine W.widen (k := 0) (n := 0) (by decide) (by decide) ?_
      have hE := hE.trans hX_S_7
      have hK_a0 : sK S_7 a0 = 17 := (hX_S_7.2 a0 hL_a0).1.trans hK_a0
      have hL_a0 : wM D S_7 a0 := hX_S_7.M hL_a0
      refine lv_if_eq (tgt := 35) hx hb dX12_matesAtOnce_30 (by decide) (fun c_8 => ?_) (fun c_8 => ?_)
      · replace hp := hp.1 c_8
        obtain ⟨x_9, ex_9⟩ : ∃ z : Int32, z = x2 + 1 := ⟨_, rfl⟩
        replace hp := hp x_9 ex_9
        refine lv_iinc (v := x_9) (lv' := [(2, .int x_9), (0, .ref a0), (1, .int x1)]) hx hb dX12_matesAtOnce_35 hl (k := 2) rfl (by rw [ex_9]; rfl) (by decide) rfl (fun ls hl => ?_)
        refine lv_goto (tgt := 7) hx hb dX12_matesAtOnce_38 (by decide) ?_
        exact ih hp hW hE (lv_sub hl [1, 2, 0] rfl) hL_a0 hK_a0
      · replace hp := hp.2 c_8
        refine lv_iconst (v := 1) hx hb dX12_matesAtOnce_33 (by decide) ?_
        exact w_zret hx hb hr hlocks hW hp.1 ⟨hE, hp.2⟩ dX12_matesAtOnce_34
set_option maxHeartbeats 4000000 in
set_option maxRecDepth 100000 in
theorem t_X12_matesAtOnce_0 {p : Program} {l : Launch} {e : Env} {s : State} {m : MethodId} {args : Array Value} {below : List Frame} {meth : Method} {c : Code} {D : wD} {cy : Nat → ClassId} {X : va_W} {A : Nat → Prop} {S0 : wS} {post : Int32 → wS → Prop} (F : CallFix p m c cX12_matesAtOnce 3 s args wz_X12_matesAtOnce RX12) (hr : meth.sig.returnType = (some .boolean)) (hlocks : meth.locks = false) (hK : wK D cy A s) : ∀ {S : wS} {H : Heap} {locs : List Loc} {ls : Array Slot} {a0 : Nat} {x1 : Int32}, wp_X12_matesAtOnce_0 D post S a0 x1 → wO D cy X A s.heap S H locs → wX D S0 S → lv_has ls 3 [(0, .ref a0), (1, .int x1)] → wM D S a0 → sK S a0 = 17 → W p l e r_X12_matesAtOnce s m args below meth c H locs 0 0 (MQ below (va_Qi (fun r S9 => wX D S0 S9 ∧ post r S9) (wB D cy X A) A) args s 0 0 A) (F0 m 0 ls []) := by
  obtain ⟨hx, hb, hml, hown, hts⟩ := id F
  have hwg : ∀ w ∈ WG, w.before args s = true := fun w h => hts w (List.mem_cons_of_mem _ h)
  intro S H locs ls a0 x1 hp hW hE hl hL_a0 hK_a0
  unfold wp_X12_matesAtOnce_0 at hp
  refine lv_aload_n hx hb dX12_matesAtOnce_0 rfl (lv_at hl 0 rfl) ?_
  refine lv_iload_n hx hb dX12_matesAtOnce_1 rfl (lv_at hl 1 rfl) ?_
  refine w_callV (va_runV (As := [.int x1]) (rest := []) F (c_X12_moves l hL_a0 hK_a0 hp H.size) (cwV (C := RX12) 1 hts (wg_V wm_RX12_233 wy_X12_moves) rfl rfl rfl (by decide +kernel) ⟨Nat.le_of_ble_eq_true rfl, Nat.le_of_ble_eq_true rfl⟩) (w_preV hK hW hL_a0 hK_a0 (by decide) rfl) rfl rfl hl.1 rfl (lv_room (Nat.le_of_ble_eq_true rfl)) dX12_matesAtOnce_2 ⟨Nat.le_of_ble_eq_true rfl, Nat.le_of_ble_eq_true rfl⟩) hW (fun S_2 H locs hp hW => ?_)
  obtain ⟨hX_S_2, hp⟩ := hp
  refine W.widen (k := 0) (n := 0) (by decide) (by decide) ?_
  have hE := hE.trans hX_S_2
  have hK_a0 : sK S_2 a0 = 17 := (hX_S_2.2 a0 hL_a0).1.trans hK_a0
  have hL_a0 : wM D S_2 a0 := hX_S_2.M hL_a0
  refine lv_iconst (v := 0) hx hb dX12_matesAtOnce_5 (by decide) ?_
  refine lv_istore_n (lv' := [(2, .int (0 : Int32)), (0, .ref a0), (1, .int x1)]) hx hb dX12_matesAtOnce_6 rfl hl (by decide) rfl (fun ls hl => ?_)
  obtain ⟨n_3, hp⟩ := hp
  exact t_X12_matesAtOnce_7 F hr hlocks hK n_3 hp hW hE (lv_sub hl [1, 2, 0] rfl) hL_a0 hK_a0
set_option maxHeartbeats 4000000 in
set_option maxRecDepth 100000 in
theorem c_X12_matesAtOnce (l : Launch) {D : wD} {cy : Nat → ClassId} {X : va_W} {S0 : wS} {post : Int32 → wS → Prop} {a0 : Nat} {x1 : Int32} (hL_a0 : wM D S0 a0) (hK_a0 : sK S0 a0 = 17) (hp : wp_X12_matesAtOnce D post S0 a0 x1) : mI D cy X l yX12_matesAtOnce wz_X12_matesAtOnce r_X12_matesAtOnce [.ref a0, .int x1] S0 (fun r S9 => wX D S0 S9 ∧ post r S9) := by
  intro sz
  refine Met.ofW (cc := cX12_matesAtOnce) (maxL := 3) (ret := (some .boolean)) (by decide) rfl ?_
  intro p e s m args below meth c s₁ B hml hv
  obtain ⟨rfl, hsz, hP, hK, hD0, hRO⟩ := hv
  have hts := atoms_spec (ws := wz_X12_matesAtOnce) B.pre
  have hown : s.vm.findClass RX12 = some m.cls := findClass_of_methodNamed B.named
  subst hsz
  have hD := hD0.self (sz := s.heap.size)
  have F : CallFix p m c cX12_matesAtOnce 3 s _ wz_X12_matesAtOnce RX12 := ⟨B.exec, B.bytes, hml, hown, hts⟩
  have hr := B.returns
  have hlocks := B.notSynchronized
  generalize hAe : va_A (wL cy X S0) s.heap.size = A at hD hK ⊢
  have hA : ∀ q, s.heap.size ≤ q → A q := fun q h => by rw [← hAe]; exact Or.inr h
  have hW : wO D cy X A s.heap S0 s.heap [] := ⟨hP, hD, va_S.rf, hA, hRO⟩
  have hl := lv_entry ([.ref a0, .int x1]) (n := 3) (Nat.le_of_ble_eq_true rfl)
  rw [lg_entry_eq]
  generalize (lg_sl ([.ref a0, .int x1]) ++ List.replicate (3 - (lg_sl ([.ref a0, .int x1])).length) Slot.unset).toArray = ls at hl ⊢
  have hl : lv_has ls 3 [(0, .ref a0), (1, .int x1)] := hl
  unfold wp_X12_matesAtOnce at hp
  exact t_X12_matesAtOnce_0 F hr hlocks hK hp hW wX.rf (lv_sub hl [0, 1] rfl) hL_a0 hK_a0
def wp_X12_isKey_70 (D : wD) (post : Int32 → wS → Prop)  (S : wS) (t0 : Int32) : Prop :=
narrow .boolean (.int t0) = .int t0 ∧ post t0 S
def wp_X12_isKey_24 (D : wD) (post : Int32 → wS → Prop)  : Nat → wS → Nat → Int32 → Prop
  | 0, _, _, _ => False
  | n + 1, S, a0, x3 =>
    ∃ y_1 : Nat, sR S a0 7 = some y_1 ∧ wM D S y_1 ∧ sK S y_1 = 21 ∧
    vp_in (1 : Int32) (sN S y_1) ∧
    (((sI S y_1 ((1 : Int32)).toNatClampNeg) ≤ x3 → ∃ y_4 : Nat, sR S a0 7 = some y_4 ∧ wM D S y_4 ∧ sK S y_4 = 21 ∧
    vp_in (1 : Int32) (sN S y_4) ∧
    (((sI S y_4 ((1 : Int32)).toNatClampNeg) ≤ 0 → wp_X12_isKey_70 D post S (0 : Int32)) ∧
     (¬ (sI S y_4 ((1 : Int32)).toNatClampNeg) ≤ 0 → wp_X12_isKey_70 D post S (1 : Int32)))) ∧
     (¬ (sI S y_1 ((1 : Int32)).toNatClampNeg) ≤ x3 → wp_X12_makesListed D (fun S_8 => 
    wp_X12_matesAtOnce D (fun r_9 S_10 => 
    ((¬ r_9 = 0 → ∀ x_12 : Int32, x_12 = x3 + 1 →
    wp_X12_isKey_24 D post n S_10 a0 x_12) ∧
     (r_9 = 0 → narrow .boolean (.int (0 : Int32)) = .int (0 : Int32) ∧ post (0 : Int32) S_10))) S_8 a0 (2 : Int32)) S a0 (1 : Int32) x3))
def wp_X12_isKey_0 (D : wD) (post : Int32 → wS → Prop)  (S : wS) (a0 : Nat) (x1 : Int32) (x2 : Int32) : Prop :=
wp_X12_makesListed D (fun S_2 => 
((¬ x2 = (1 : Int32) → wp_X12_moves D (fun S_5 => 
∃ n_6 : Nat, wp_X12_isKey_24 D post n_6 S_5 a0 (0 : Int32)) S_2 a0 (1 : Int32)) ∧
 (x2 = (1 : Int32) → wp_X12_isMateAt D (fun r_7 S_8 => 
narrow .boolean (.int r_7) = .int r_7 ∧ post r_7 S_8) S_2 a0 (1 : Int32)))) S a0 (0 : Int32) x1
abbrev r_X12_isKey : Room := { frames := 9, cells := 0, slots := 0, locals := 220 }
def wp_X12_isKey (D : wD) (post : Int32 → wS → Prop) (S : wS) (a0 : Nat) (x1 : Int32) (x2 : Int32) : Prop := wp_X12_isKey_0 D post S a0 x1 x2
set_option maxHeartbeats 4000000 in
set_option maxRecDepth 100000 in
theorem t_X12_isKey_70 {p : Program} {l : Launch} {e : Env} {s : State} {m : MethodId} {args : Array Value} {below : List Frame} {meth : Method} {c : Code} {D : wD} {cy : Nat → ClassId} {X : va_W} {A : Nat → Prop} {S0 : wS} {post : Int32 → wS → Prop} (F : CallFix p m c cX12_isKey 4 s args wz_X12_isKey RX12) (hr : meth.sig.returnType = (some .boolean)) (hlocks : meth.locks = false) (hK : wK D cy A s) : ∀ {S : wS} {H : Heap} {locs : List Loc} {ls : Array Slot} {t0 : Int32}, wp_X12_isKey_70 D post S t0 → wO D cy X A s.heap S H locs → wX D S0 S → lv_has ls 4 [] → W p l e r_X12_isKey s m args below meth c H locs 0 0 (MQ below (va_Qi (fun r S9 => wX D S0 S9 ∧ post r S9) (wB D cy X A) A) args s 0 0 A) (F0 m 70 ls [.int t0]) := by
  obtain ⟨hx, hb, hml, hown, hts⟩ := id F
  have hwg : ∀ w ∈ WG, w.before args s = true := fun w h => hts w (List.mem_cons_of_mem _ h)
  intro S H locs ls t0 hp hW hE hl
  unfold wp_X12_isKey_70 at hp
  exact w_zret hx hb hr hlocks hW hp.1 ⟨hE, hp.2⟩ dX12_isKey_70
set_option maxHeartbeats 4000000 in
set_option maxRecDepth 100000 in
theorem t_X12_isKey_24 {p : Program} {l : Launch} {e : Env} {s : State} {m : MethodId} {args : Array Value} {below : List Frame} {meth : Method} {c : Code} {D : wD} {cy : Nat → ClassId} {X : va_W} {A : Nat → Prop} {S0 : wS} {post : Int32 → wS → Prop} (F : CallFix p m c cX12_isKey 4 s args wz_X12_isKey RX12) (hr : meth.sig.returnType = (some .boolean)) (hlocks : meth.locks = false) (hK : wK D cy A s) : ∀ (n : Nat) {S : wS} {H : Heap} {locs : List Loc} {ls : Array Slot} {a0 : Nat} {x3 : Int32}, wp_X12_isKey_24 D post n S a0 x3 → wO D cy X A s.heap S H locs → wX D S0 S → lv_has ls 4 [(0, .ref a0), (3, .int x3)] → wM D S a0 → sK S a0 = 17 → W p l e r_X12_isKey s m args below meth c H locs 0 0 (MQ below (va_Qi (fun r S9 => wX D S0 S9 ∧ post r S9) (wB D cy X A) A) args s 0 0 A) (F0 m 24 ls []) := by
  obtain ⟨hx, hb, hml, hown, hts⟩ := id F
  have hwg : ∀ w ∈ WG, w.before args s = true := fun w h => hts w (List.mem_cons_of_mem _ h)
  have i_17 : ∀ w ∈ u_ws RX12 TX12 43, w ∈ wz_X12_isKey := fun w h => List.mem_cons_of_mem _ (wu_17 w h)
  have k_29 := hwg _ wf_RX12_29
  intro n
  induction n with
  | zero =>
    intro S H locs ls a0 x3 hp
    exact hp.elim
  | succ n ih =>
    intro S H locs ls a0 x3 hp hW hE hl hL_a0 hK_a0
    unfold wp_X12_isKey_24 at hp
    refine lv_iload_n hx hb dX12_isKey_24 rfl (lv_at hl 1 rfl) ?_
    refine lv_aload_n hx hb dX12_isKey_25 rfl (lv_at hl 0 rfl) ?_
    obtain ⟨y_1, ey_1, hL_y_1, hK_y_1, hp⟩ := hp
    refine w_get (k := 17) (f := 7) (T := TX12) (v := .ref y_1) F hK hW hL_a0 hK_a0 (by decide) rfl rfl (by decide) i_17 k_29 (by rw [show wv 17 7 S a0 = va_rf (sR S a0 7) from rfl, ey_1]; rfl) dX12_isKey_26 ?_
    refine lv_iconst (v := 1) hx hb dX12_isKey_29 (by decide) ?_
    obtain ⟨h_2, hp⟩ := hp
    refine w_ild F hK hW hL_y_1 hK_y_1 h_2 dX12_isKey_30 ?_
    refine lv_icmp_ge (tgt := 56) hx hb dX12_isKey_31 (by decide) (fun c_3 => ?_) (fun c_3 => ?_)
    · replace hp := hp.1 c_3
      refine lv_aload_n hx hb dX12_isKey_56 rfl (lv_at hl 0 rfl) ?_
      obtain ⟨y_4, ey_4, hL_y_4, hK_y_4, hp⟩ := hp
      refine w_get (k := 17) (f := 7) (T := TX12) (v := .ref y_4) F hK hW hL_a0 hK_a0 (by decide) rfl rfl (by decide) i_17 k_29 (by rw [show wv 17 7 S a0 = va_rf (sR S a0 7) from rfl, ey_4]; rfl) dX12_isKey_57 ?_
      refine lv_iconst (v := 1) hx hb dX12_isKey_60 (by decide) ?_
      obtain ⟨h_5, hp⟩ := hp
      refine w_ild F hK hW hL_y_4 hK_y_4 h_5 dX12_isKey_61 ?_
      refine lv_if_le (tgt := 69) hx hb dX12_isKey_62 (by decide) (fun c_6 => ?_) (fun c_6 => ?_)
      · replace hp := hp.1 c_6
        refine lv_iconst (v := 0) hx hb dX12_isKey_69 (by decide) ?_
        exact t_X12_isKey_70 F hr hlocks hK hp hW hE (lv_sub hl [] rfl)
      · replace hp := hp.2 c_6
        refine lv_iconst (v := 1) hx hb dX12_isKey_65 (by decide) ?_
        refine lv_goto (tgt := 70) hx hb dX12_isKey_66 (by decide) ?_
        exact t_X12_isKey_70 F hr hlocks hK hp hW hE (lv_sub hl [] rfl)
    · replace hp := hp.2 c_3
      refine lv_aload_n hx hb dX12_isKey_34 rfl (lv_at hl 0 rfl) ?_
      refine lv_iconst (v := 1) hx hb dX12_isKey_35 (by decide) ?_
      refine lv_iload_n hx hb dX12_isKey_36 rfl (lv_at hl 1 rfl) ?_
      refine w_callV (va_runV (As := [.int (1 : Int32), .int x3]) (rest := []) F (c_X12_makesListed l hL_a0 hK_a0 hp H.size) (cwV (C := RX12) 2 hts (wg_V wm_RX12_306 wy_X12_makesListed) rfl rfl rfl (by decide +kernel) ⟨Nat.le_of_ble_eq_true rfl, Nat.le_of_ble_eq_true rfl⟩) (w_preV hK hW hL_a0 hK_a0 (by decide) rfl) rfl rfl hl.1 rfl (lv_room (Nat.le_of_ble_eq_true rfl)) dX12_isKey_37 ⟨Nat.le_of_ble_eq_true rfl, Nat.le_of_ble_eq_true rfl⟩) hW (fun S_8 H locs hp hW => ?_)
      obtain ⟨hX_S_8, hp⟩ := hp
      refine W.widen (k := 0) (n := 0) (by decide) (by decide) ?_
      have hE := hE.trans hX_S_8
      have hK_a0 : sK S_8 a0 = 17 := (hX_S_8.2 a0 hL_a0).1.trans hK_a0
      have hL_a0 : wM D S_8 a0 := hX_S_8.M hL_a0
      refine lv_aload_n hx hb dX12_isKey_40 rfl (lv_at hl 0 rfl) ?_
      refine lv_iconst (v := 2) hx hb dX12_isKey_41 (by decide) ?_
      refine w_callI (va_runV (As := [.int (2 : Int32)]) (rest := []) F (c_X12_matesAtOnce l hL_a0 hK_a0 hp H.size) (cwV (C := RX12) 1 hts (wg_V wm_RX12_464 wy_X12_matesAtOnce) rfl rfl rfl (by decide +kernel) ⟨Nat.le_of_ble_eq_true rfl, Nat.le_of_ble_eq_true rfl⟩) (w_preV hK hW hL_a0 hK_a0 (by decide) rfl) rfl rfl hl.1 rfl (lv_room (Nat.le_of_ble_eq_true rfl)) dX12_isKey_42 ⟨Nat.le_of_ble_eq_true rfl, Nat.le_of_ble_eq_true rfl⟩) hW (fun r_9 S_10 H locs hp hW => ?_)
      obtain ⟨hX_S_10, hp⟩ := hp
      refine W.widen (k := 0) (n := 0) (by decide) (by decide) ?_
      have hE := hE.trans hX_S_10
      have hK_a0 : sK S_10 a0 = 17 := (hX_S_10.2 a0 hL_a0).1.trans hK_a0
      have hL_a0 : wM D S_10 a0 := hX_S_10.M hL_a0
      refine lv_if_ne (tgt := 50) hx hb dX12_isKey_45 (by decide) (fun c_11 => ?_) (fun c_11 => ?_)
      · replace hp := hp.1 c_11
        obtain ⟨x_12, ex_12⟩ : ∃ z : Int32, z = x3 + 1 := ⟨_, rfl⟩
        replace hp := hp x_12 ex_12
        refine lv_iinc (v := x_12) (lv' := [(3, .int x_12), (0, .ref a0)]) hx hb dX12_isKey_50 hl (k := 1) rfl (by rw [ex_12]; rfl) (by decide) rfl (fun ls hl => ?_)
        refine lv_goto (tgt := 24) hx hb dX12_isKey_53 (by decide) ?_
        exact ih hp hW hE (lv_sub hl [1, 0] rfl) hL_a0 hK_a0
      · replace hp := hp.2 c_11
        refine lv_iconst (v := 0) hx hb dX12_isKey_48 (by decide) ?_
        exact w_zret hx hb hr hlocks hW hp.1 ⟨hE, hp.2⟩ dX12_isKey_49
set_option maxHeartbeats 4000000 in
set_option maxRecDepth 100000 in
theorem t_X12_isKey_0 {p : Program} {l : Launch} {e : Env} {s : State} {m : MethodId} {args : Array Value} {below : List Frame} {meth : Method} {c : Code} {D : wD} {cy : Nat → ClassId} {X : va_W} {A : Nat → Prop} {S0 : wS} {post : Int32 → wS → Prop} (F : CallFix p m c cX12_isKey 4 s args wz_X12_isKey RX12) (hr : meth.sig.returnType = (some .boolean)) (hlocks : meth.locks = false) (hK : wK D cy A s) : ∀ {S : wS} {H : Heap} {locs : List Loc} {ls : Array Slot} {a0 : Nat} {x1 : Int32} {x2 : Int32}, wp_X12_isKey_0 D post S a0 x1 x2 → wO D cy X A s.heap S H locs → wX D S0 S → lv_has ls 4 [(0, .ref a0), (1, .int x1), (2, .int x2)] → wM D S a0 → sK S a0 = 17 → W p l e r_X12_isKey s m args below meth c H locs 0 0 (MQ below (va_Qi (fun r S9 => wX D S0 S9 ∧ post r S9) (wB D cy X A) A) args s 0 0 A) (F0 m 0 ls []) := by
  obtain ⟨hx, hb, hml, hown, hts⟩ := id F
  have hwg : ∀ w ∈ WG, w.before args s = true := fun w h => hts w (List.mem_cons_of_mem _ h)
  intro S H locs ls a0 x1 x2 hp hW hE hl hL_a0 hK_a0
  unfold wp_X12_isKey_0 at hp
  refine lv_aload_n hx hb dX12_isKey_0 rfl (lv_at hl 0 rfl) ?_
  refine lv_iconst (v := 0) hx hb dX12_isKey_1 (by decide) ?_
  refine lv_iload_n hx hb dX12_isKey_2 rfl (lv_at hl 1 rfl) ?_
  refine w_callV (va_runV (As := [.int (0 : Int32), .int x1]) (rest := []) F (c_X12_makesListed l hL_a0 hK_a0 hp H.size) (cwV (C := RX12) 2 hts (wg_V wm_RX12_306 wy_X12_makesListed) rfl rfl rfl (by decide +kernel) ⟨Nat.le_of_ble_eq_true rfl, Nat.le_of_ble_eq_true rfl⟩) (w_preV hK hW hL_a0 hK_a0 (by decide) rfl) rfl rfl hl.1 rfl (lv_room (Nat.le_of_ble_eq_true rfl)) dX12_isKey_3 ⟨Nat.le_of_ble_eq_true rfl, Nat.le_of_ble_eq_true rfl⟩) hW (fun S_2 H locs hp hW => ?_)
  obtain ⟨hX_S_2, hp⟩ := hp
  refine W.widen (k := 0) (n := 0) (by decide) (by decide) ?_
  have hE := hE.trans hX_S_2
  have hK_a0 : sK S_2 a0 = 17 := (hX_S_2.2 a0 hL_a0).1.trans hK_a0
  have hL_a0 : wM D S_2 a0 := hX_S_2.M hL_a0
  refine lv_iload_n hx hb dX12_isKey_6 rfl (lv_at hl 2 rfl) ?_
  refine lv_iconst (v := 1) hx hb dX12_isKey_7 (by decide) ?_
  refine lv_icmp_ne (tgt := 17) hx hb dX12_isKey_8 (by decide) (fun c_3 => ?_) (fun c_3 => ?_)
  · replace hp := hp.1 c_3
    refine lv_aload_n hx hb dX12_isKey_17 rfl (lv_at hl 0 rfl) ?_
    refine lv_iconst (v := 1) hx hb dX12_isKey_18 (by decide) ?_
    refine w_callV (va_runV (As := [.int (1 : Int32)]) (rest := []) F (c_X12_moves l hL_a0 hK_a0 hp H.size) (cwV (C := RX12) 1 hts (wg_V wm_RX12_233 wy_X12_moves) rfl rfl rfl (by decide +kernel) ⟨Nat.le_of_ble_eq_true rfl, Nat.le_of_ble_eq_true rfl⟩) (w_preV hK hW hL_a0 hK_a0 (by decide) rfl) rfl rfl hl.1 rfl (lv_room (Nat.le_of_ble_eq_true rfl)) dX12_isKey_19 ⟨Nat.le_of_ble_eq_true rfl, Nat.le_of_ble_eq_true rfl⟩) hW (fun S_5 H locs hp hW => ?_)
    obtain ⟨hX_S_5, hp⟩ := hp
    refine W.widen (k := 0) (n := 0) (by decide) (by decide) ?_
    have hE := hE.trans hX_S_5
    have hK_a0 : sK S_5 a0 = 17 := (hX_S_5.2 a0 hL_a0).1.trans hK_a0
    have hL_a0 : wM D S_5 a0 := hX_S_5.M hL_a0
    refine lv_iconst (v := 0) hx hb dX12_isKey_22 (by decide) ?_
    refine lv_istore_n (lv' := [(3, .int (0 : Int32)), (0, .ref a0), (1, .int x1), (2, .int x2)]) hx hb dX12_isKey_23 rfl hl (by decide) rfl (fun ls hl => ?_)
    obtain ⟨n_6, hp⟩ := hp
    exact t_X12_isKey_24 F hr hlocks hK n_6 hp hW hE (lv_sub hl [1, 0] rfl) hL_a0 hK_a0
  · replace hp := hp.2 c_3
    refine lv_aload_n hx hb dX12_isKey_11 rfl (lv_at hl 0 rfl) ?_
    refine lv_iconst (v := 1) hx hb dX12_isKey_12 (by decide) ?_
    refine w_callI (va_runV (As := [.int (1 : Int32)]) (rest := []) F (c_X12_isMateAt l hL_a0 hK_a0 hp H.size) (cwV (C := RX12) 1 hts (wg_V wm_RX12_309 wy_X12_isMateAt) rfl rfl rfl (by decide +kernel) ⟨Nat.le_of_ble_eq_true rfl, Nat.le_of_ble_eq_true rfl⟩) (w_preV hK hW hL_a0 hK_a0 (by decide) rfl) rfl rfl hl.1 rfl (lv_room (Nat.le_of_ble_eq_true rfl)) dX12_isKey_13 ⟨Nat.le_of_ble_eq_true rfl, Nat.le_of_ble_eq_true rfl⟩) hW (fun r_7 S_8 H locs hp hW => ?_)
    obtain ⟨hX_S_8, hp⟩ := hp
    refine W.widen (k := 0) (n := 0) (by decide) (by decide) ?_
    have hE := hE.trans hX_S_8
    have hK_a0 : sK S_8 a0 = 17 := (hX_S_8.2 a0 hL_a0).1.trans hK_a0
    have hL_a0 : wM D S_8 a0 := hX_S_8.M hL_a0
    exact w_zret hx hb hr hlocks hW hp.1 ⟨hE, hp.2⟩ dX12_isKey_16
set_option maxHeartbeats 4000000 in
set_option maxRecDepth 100000 in
theorem c_X12_isKey (l : Launch) {D : wD} {cy : Nat → ClassId} {X : va_W} {S0 : wS} {post : Int32 → wS → Prop} {a0 : Nat} {x1 : Int32} {x2 : Int32} (hL_a0 : wM D S0 a0) (hK_a0 : sK S0 a0 = 17) (hp : wp_X12_isKey D post S0 a0 x1 x2) : mI D cy X l yX12_isKey wz_X12_isKey r_X12_isKey [.ref a0, .int x1, .int x2] S0 (fun r S9 => wX D S0 S9 ∧ post r S9) := by
  intro sz
  refine Met.ofW (cc := cX12_isKey) (maxL := 4) (ret := (some .boolean)) (by decide) rfl ?_
  intro p e s m args below meth c s₁ B hml hv
  obtain ⟨rfl, hsz, hP, hK, hD0, hRO⟩ := hv
  have hts := atoms_spec (ws := wz_X12_isKey) B.pre
  have hown : s.vm.findClass RX12 = some m.cls := findClass_of_methodNamed B.named
  subst hsz
  have hD := hD0.self (sz := s.heap.size)
  have F : CallFix p m c cX12_isKey 4 s _ wz_X12_isKey RX12 := ⟨B.exec, B.bytes, hml, hown, hts⟩
  have hr := B.returns
  have hlocks := B.notSynchronized
  generalize hAe : va_A (wL cy X S0) s.heap.size = A at hD hK ⊢
  have hA : ∀ q, s.heap.size ≤ q → A q := fun q h => by rw [← hAe]; exact Or.inr h
  have hW : wO D cy X A s.heap S0 s.heap [] := ⟨hP, hD, va_S.rf, hA, hRO⟩
  have hl := lv_entry ([.ref a0, .int x1, .int x2]) (n := 4) (Nat.le_of_ble_eq_true rfl)
  rw [lg_entry_eq]
  generalize (lg_sl ([.ref a0, .int x1, .int x2]) ++ List.replicate (4 - (lg_sl ([.ref a0, .int x1, .int x2])).length) Slot.unset).toArray = ls at hl ⊢
  have hl : lv_has ls 4 [(0, .ref a0), (1, .int x1), (2, .int x2)] := hl
  unfold wp_X12_isKey at hp
  exact t_X12_isKey_0 F hr hlocks hK hp hW wX.rf (lv_sub hl [0, 1, 2] rfl) hL_a0 hK_a0
def wp_X12_keys_34 (D : wD) (post : Int32 → wS → Prop) (k_9 : wS → Nat → Int32 → Int32 → Int32 → Prop) (S : wS) (a0 : Nat) (x1 : Int32) (x3 : Int32) (t0 : Int32) (t1 : Int32) : Prop :=
∀ x_1 : Int32, x_1 = (t0 + t1) →
∀ x_2 : Int32, x_2 = x3 + 1 →
k_9 S a0 x1 x_1 x_2
def wp_X12_keys_9 (D : wD) (post : Int32 → wS → Prop)  : Nat → wS → Nat → Int32 → Int32 → Int32 → Prop
  | 0, _, _, _, _, _ => False
  | n + 1, S, a0, x1, x2, x3 =>
    ∃ y_1 : Nat, sR S a0 7 = some y_1 ∧ wM D S y_1 ∧ sK S y_1 = 21 ∧
    vp_in (0 : Int32) (sN S y_1) ∧
    (((sI S y_1 ((0 : Int32)).toNatClampNeg) ≤ x3 → post x2 S) ∧
     (¬ (sI S y_1 ((0 : Int32)).toNatClampNeg) ≤ x3 → wp_X12_isKey D (fun r_4 S_5 => 
    ((r_4 = 0 → wp_X12_keys_34 D post (wp_X12_keys_9 D post n) S_5 a0 x1 x3 x2 (0 : Int32)) ∧
     (¬ r_4 = 0 → wp_X12_keys_34 D post (wp_X12_keys_9 D post n) S_5 a0 x1 x3 x2 (1 : Int32)))) S a0 x3 x1))
def wp_X12_keys_0 (D : wD) (post : Int32 → wS → Prop)  (S : wS) (a0 : Nat) (x1 : Int32) : Prop :=
wp_X12_moves D (fun S_2 => 
∃ n_3 : Nat, wp_X12_keys_9 D post n_3 S_2 a0 x1 (0 : Int32) (0 : Int32)) S a0 (0 : Int32)
abbrev r_X12_keys : Room := { frames := 10, cells := 0, slots := 0, locals := 243 }
def wp_X12_keys (D : wD) (post : Int32 → wS → Prop) (S : wS) (a0 : Nat) (x1 : Int32) : Prop := wp_X12_keys_0 D post S a0 x1
set_option maxHeartbeats 4000000 in
set_option maxRecDepth 100000 in
theorem t_X12_keys_34 {p : Program} {l : Launch} {e : Env} {s : State} {m : MethodId} {args : Array Value} {below : List Frame} {meth : Method} {c : Code} {D : wD} {cy : Nat → ClassId} {X : va_W} {A : Nat → Prop} {S0 : wS} {post : Int32 → wS → Prop} (F : CallFix p m c cX12_keys 4 s args wz_X12_keys RX12) (hr : meth.sig.returnType = (some .int)) (hlocks : meth.locks = false) (hK : wK D cy A s) {k_9 : wS → Nat → Int32 → Int32 → Int32 → Prop} (q_9 : ∀ {S : wS} {H : Heap} {locs : List Loc} {ls : Array Slot} {a0 : Nat} {x1 : Int32} {x2 : Int32} {x3 : Int32}, k_9 S a0 x1 x2 x3 → wO D cy X A s.heap S H locs → wX D S0 S → lv_has ls 4 [(0, .ref a0), (1, .int x1), (2, .int x2), (3, .int x3)] → wM D S a0 → sK S a0 = 17 → W p l e r_X12_keys s m args below meth c H locs 0 0 (MQ below (va_Qi (fun r S9 => wX D S0 S9 ∧ post r S9) (wB D cy X A) A) args s 0 0 A) (F0 m 9 ls [])) : ∀ {S : wS} {H : Heap} {locs : List Loc} {ls : Array Slot} {a0 : Nat} {x1 : Int32} {x3 : Int32} {t0 : Int32} {t1 : Int32}, wp_X12_keys_34 D post k_9 S a0 x1 x3 t0 t1 → wO D cy X A s.heap S H locs → wX D S0 S → lv_has ls 4 [(0, .ref a0), (1, .int x1), (3, .int x3)] → wM D S a0 → sK S a0 = 17 → W p l e r_X12_keys s m args below meth c H locs 0 0 (MQ below (va_Qi (fun r S9 => wX D S0 S9 ∧ post r S9) (wB D cy X A) A) args s 0 0 A) (F0 m 34 ls [.int t1, .int t0]) := by
  obtain ⟨hx, hb, hml, hown, hts⟩ := id F
  have hwg : ∀ w ∈ WG, w.before args s = true := fun w h => hts w (List.mem_cons_of_mem _ h)
  intro S H locs ls a0 x1 x3 t0 t1 hp hW hE hl hL_a0 hK_a0
  unfold wp_X12_keys_34 at hp
  refine lv_iadd hx hb dX12_keys_34 ?_
  refine lv_topi (fun x_1 ex_1 => ?_)
  replace hp := hp x_1 ex_1
  refine lv_istore_n (lv' := [(2, .int x_1), (0, .ref a0), (1, .int x1), (3, .int x3)]) hx hb dX12_keys_35 rfl hl (by decide) rfl (fun ls hl => ?_)
  obtain ⟨x_2, ex_2⟩ : ∃ z : Int32, z = x3 + 1 := ⟨_, rfl⟩
  replace hp := hp x_2 ex_2
  refine lv_iinc (v := x_2) (lv' := [(3, .int x_2), (2, .int x_1), (0, .ref a0), (1, .int x1)]) hx hb dX12_keys_36 hl (k := 3) rfl (by rw [ex_2]; rfl) (by decide) rfl (fun ls hl => ?_)
  refine lv_goto (tgt := 9) hx hb dX12_keys_39 (by decide) ?_
  exact q_9 hp hW hE (lv_sub hl [2, 3, 1, 0] rfl) hL_a0 hK_a0
set_option maxHeartbeats 4000000 in
set_option maxRecDepth 100000 in
theorem t_X12_keys_9 {p : Program} {l : Launch} {e : Env} {s : State} {m : MethodId} {args : Array Value} {below : List Frame} {meth : Method} {c : Code} {D : wD} {cy : Nat → ClassId} {X : va_W} {A : Nat → Prop} {S0 : wS} {post : Int32 → wS → Prop} (F : CallFix p m c cX12_keys 4 s args wz_X12_keys RX12) (hr : meth.sig.returnType = (some .int)) (hlocks : meth.locks = false) (hK : wK D cy A s) : ∀ (n : Nat) {S : wS} {H : Heap} {locs : List Loc} {ls : Array Slot} {a0 : Nat} {x1 : Int32} {x2 : Int32} {x3 : Int32}, wp_X12_keys_9 D post n S a0 x1 x2 x3 → wO D cy X A s.heap S H locs → wX D S0 S → lv_has ls 4 [(0, .ref a0), (1, .int x1), (2, .int x2), (3, .int x3)] → wM D S a0 → sK S a0 = 17 → W p l e r_X12_keys s m args below meth c H locs 0 0 (MQ below (va_Qi (fun r S9 => wX D S0 S9 ∧ post r S9) (wB D cy X A) A) args s 0 0 A) (F0 m 9 ls []) := by
  obtain ⟨hx, hb, hml, hown, hts⟩ := id F
  have hwg : ∀ w ∈ WG, w.before args s = true := fun w h => hts w (List.mem_cons_of_mem _ h)
  have i_17 : ∀ w ∈ u_ws RX12 TX12 43, w ∈ wz_X12_keys := fun w h => List.mem_cons_of_mem _ (wu_17 w h)
  have k_29 := hwg _ wf_RX12_29
  intro n
  induction n with
  | zero =>
    intro S H locs ls a0 x1 x2 x3 hp
    exact hp.elim
  | succ n ih =>
    intro S H locs ls a0 x1 x2 x3 hp hW hE hl hL_a0 hK_a0
    unfold wp_X12_keys_9 at hp
    refine lv_iload_n hx hb dX12_keys_9 rfl (lv_at hl 3 rfl) ?_
    refine lv_aload_n hx hb dX12_keys_10 rfl (lv_at hl 0 rfl) ?_
    obtain ⟨y_1, ey_1, hL_y_1, hK_y_1, hp⟩ := hp
    refine w_get (k := 17) (f := 7) (T := TX12) (v := .ref y_1) F hK hW hL_a0 hK_a0 (by decide) rfl rfl (by decide) i_17 k_29 (by rw [show wv 17 7 S a0 = va_rf (sR S a0 7) from rfl, ey_1]; rfl) dX12_keys_11 ?_
    refine lv_iconst (v := 0) hx hb dX12_keys_14 (by decide) ?_
    obtain ⟨h_2, hp⟩ := hp
    refine w_ild F hK hW hL_y_1 hK_y_1 h_2 dX12_keys_15 ?_
    refine lv_icmp_ge (tgt := 42) hx hb dX12_keys_16 (by decide) (fun c_3 => ?_) (fun c_3 => ?_)
    · replace hp := hp.1 c_3
      refine lv_iload_n hx hb dX12_keys_42 rfl (lv_at hl 2 rfl) ?_
      exact w_iret hx hb hr hlocks hW ⟨hE, hp⟩ dX12_keys_43
    · replace hp := hp.2 c_3
      refine lv_iload_n hx hb dX12_keys_19 rfl (lv_at hl 2 rfl) ?_
      refine lv_aload_n hx hb dX12_keys_20 rfl (lv_at hl 0 rfl) ?_
      refine lv_iload_n hx hb dX12_keys_21 rfl (lv_at hl 3 rfl) ?_
      refine lv_iload_n hx hb dX12_keys_22 rfl (lv_at hl 1 rfl) ?_
      refine w_callI (va_runV (As := [.int x3, .int x1]) (rest := [.int x2]) F (c_X12_isKey l hL_a0 hK_a0 hp H.size) (cwV (C := RX12) 2 hts (wg_V wm_RX12_467 wy_X12_isKey) rfl rfl rfl (by decide +kernel) ⟨Nat.le_of_ble_eq_true rfl, Nat.le_of_ble_eq_true rfl⟩) (w_preV hK hW hL_a0 hK_a0 (by decide) rfl) rfl rfl hl.1 rfl (lv_room (Nat.le_of_ble_eq_true rfl)) dX12_keys_23 ⟨Nat.le_of_ble_eq_true rfl, Nat.le_of_ble_eq_true rfl⟩) hW (fun r_4 S_5 H locs hp hW => ?_)
      obtain ⟨hX_S_5, hp⟩ := hp
      refine W.widen (k := 0) (n := 0) (by decide) (by decide) ?_
      have hE := hE.trans hX_S_5
      have hK_a0 : sK S_5 a0 = 17 := (hX_S_5.2 a0 hL_a0).1.trans hK_a0
      have hL_a0 : wM D S_5 a0 := hX_S_5.M hL_a0
      refine lv_if_eq (tgt := 33) hx hb dX12_keys_26 (by decide) (fun c_6 => ?_) (fun c_6 => ?_)
      · replace hp := hp.1 c_6
        refine lv_iconst (v := 0) hx hb dX12_keys_33 (by decide) ?_
        exact t_X12_keys_34 F hr hlocks hK ih hp hW hE (lv_sub hl [0, 1, 3] rfl) hL_a0 hK_a0
      · replace hp := hp.2 c_6
        refine lv_iconst (v := 1) hx hb dX12_keys_29 (by decide) ?_
        refine lv_goto (tgt := 34) hx hb dX12_keys_30 (by decide) ?_
        exact t_X12_keys_34 F hr hlocks hK ih hp hW hE (lv_sub hl [0, 1, 3] rfl) hL_a0 hK_a0
set_option maxHeartbeats 4000000 in
set_option maxRecDepth 100000 in
theorem t_X12_keys_0 {p : Program} {l : Launch} {e : Env} {s : State} {m : MethodId} {args : Array Value} {below : List Frame} {meth : Method} {c : Code} {D : wD} {cy : Nat → ClassId} {X : va_W} {A : Nat → Prop} {S0 : wS} {post : Int32 → wS → Prop} (F : CallFix p m c cX12_keys 4 s args wz_X12_keys RX12) (hr : meth.sig.returnType = (some .int)) (hlocks : meth.locks = false) (hK : wK D cy A s) : ∀ {S : wS} {H : Heap} {locs : List Loc} {ls : Array Slot} {a0 : Nat} {x1 : Int32}, wp_X12_keys_0 D post S a0 x1 → wO D cy X A s.heap S H locs → wX D S0 S → lv_has ls 4 [(0, .ref a0), (1, .int x1)] → wM D S a0 → sK S a0 = 17 → W p l e r_X12_keys s m args below meth c H locs 0 0 (MQ below (va_Qi (fun r S9 => wX D S0 S9 ∧ post r S9) (wB D cy X A) A) args s 0 0 A) (F0 m 0 ls []) := by
  obtain ⟨hx, hb, hml, hown, hts⟩ := id F
  have hwg : ∀ w ∈ WG, w.before args s = true := fun w h => hts w (List.mem_cons_of_mem _ h)
  intro S H locs ls a0 x1 hp hW hE hl hL_a0 hK_a0
  unfold wp_X12_keys_0 at hp
  refine lv_aload_n hx hb dX12_keys_0 rfl (lv_at hl 0 rfl) ?_
  refine lv_iconst (v := 0) hx hb dX12_keys_1 (by decide) ?_
  refine w_callV (va_runV (As := [.int (0 : Int32)]) (rest := []) F (c_X12_moves l hL_a0 hK_a0 hp H.size) (cwV (C := RX12) 1 hts (wg_V wm_RX12_233 wy_X12_moves) rfl rfl rfl (by decide +kernel) ⟨Nat.le_of_ble_eq_true rfl, Nat.le_of_ble_eq_true rfl⟩) (w_preV hK hW hL_a0 hK_a0 (by decide) rfl) rfl rfl hl.1 rfl (lv_room (Nat.le_of_ble_eq_true rfl)) dX12_keys_2 ⟨Nat.le_of_ble_eq_true rfl, Nat.le_of_ble_eq_true rfl⟩) hW (fun S_2 H locs hp hW => ?_)
  obtain ⟨hX_S_2, hp⟩ := hp
  refine W.widen (k := 0) (n := 0) (by decide) (by decide) ?_
  have hE := hE.trans hX_S_2
  have hK_a0 : sK S_2 a0 = 17 := (hX_S_2.2 a0 hL_a0).1.trans hK_a0
  have hL_a0 : wM D S_2 a0 := hX_S_2.M hL_a0
  refine lv_iconst (v := 0) hx hb dX12_keys_5 (by decide) ?_
  refine lv_istore_n (lv' := [(2, .int (0 : Int32)), (0, .ref a0), (1, .int x1)]) hx hb dX12_keys_6 rfl hl (by decide) rfl (fun ls hl => ?_)
  refine lv_iconst (v := 0) hx hb dX12_keys_7 (by decide) ?_
  refine lv_istore_n (lv' := [(3, .int (0 : Int32)), (2, .int (0 : Int32)), (0, .ref a0), (1, .int x1)]) hx hb dX12_keys_8 rfl hl (by decide) rfl (fun ls hl => ?_)
  obtain ⟨n_3, hp⟩ := hp
  exact t_X12_keys_9 F hr hlocks hK n_3 hp hW hE (lv_sub hl [2, 3, 1, 0] rfl) hL_a0 hK_a0
set_option maxHeartbeats 4000000 in
set_option maxRecDepth 100000 in
theorem c_X12_keys (l : Launch) {D : wD} {cy : Nat → ClassId} {X : va_W} {S0 : wS} {post : Int32 → wS → Prop} {a0 : Nat} {x1 : Int32} (hL_a0 : wM D S0 a0) (hK_a0 : sK S0 a0 = 17) (hp : wp_X12_keys D post S0 a0 x1) : mI D cy X l yX12_keys wz_X12_keys r_X12_keys [.ref a0, .int x1] S0 (fun r S9 => wX D S0 S9 ∧ post r S9) := by
  intro sz
  refine Met.ofW (cc := cX12_keys) (maxL := 4) (ret := (some .int)) (by decide) rfl ?_
  intro p e s m args below meth c s₁ B hml hv
  obtain ⟨rfl, hsz, hP, hK, hD0, hRO⟩ := hv
  have hts := atoms_spec (ws := wz_X12_keys) B.pre
  have hown : s.vm.findClass RX12 = some m.cls := findClass_of_methodNamed B.named
  subst hsz
  have hD := hD0.self (sz := s.heap.size)
  have F : CallFix p m c cX12_keys 4 s _ wz_X12_keys RX12 := ⟨B.exec, B.bytes, hml, hown, hts⟩
  have hr := B.returns
  have hlocks := B.notSynchronized
  generalize hAe : va_A (wL cy X S0) s.heap.size = A at hD hK ⊢
  have hA : ∀ q, s.heap.size ≤ q → A q := fun q h => by rw [← hAe]; exact Or.inr h
  have hW : wO D cy X A s.heap S0 s.heap [] := ⟨hP, hD, va_S.rf, hA, hRO⟩
  have hl := lv_entry ([.ref a0, .int x1]) (n := 4) (Nat.le_of_ble_eq_true rfl)
  rw [lg_entry_eq]
  generalize (lg_sl ([.ref a0, .int x1]) ++ List.replicate (4 - (lg_sl ([.ref a0, .int x1])).length) Slot.unset).toArray = ls at hl ⊢
  have hl : lv_has ls 4 [(0, .ref a0), (1, .int x1)] := hl
  unfold wp_X12_keys at hp
  exact t_X12_keys_0 F hr hlocks hK hp hW wX.rf (lv_sub hl [0, 1] rfl) hL_a0 hK_a0
def wp_X12_matesIn_25 (D : wD) (post : Int32 → wS → Prop)  (S : wS) (t0 : Int32) : Prop :=
post t0 S
def wp_X12_matesIn_0 (D : wD) (post : Int32 → wS → Prop)  (S : wS) (a0 : Nat) : Prop :=
wp_X12_keys D (fun r_1 S_2 => 
((r_1 ≤ 0 → wp_X12_keys D (fun r_4 S_5 => 
((r_4 ≤ 0 → wp_X12_matesIn_25 D post S_5 (-1 : Int32)) ∧
 (¬ r_4 ≤ 0 → wp_X12_matesIn_25 D post S_5 (3 : Int32)))) S_2 a0 (3 : Int32)) ∧
 (¬ r_1 ≤ 0 → wp_X12_matesIn_25 D post S_2 (1 : Int32)))) S a0 (1 : Int32)
abbrev r_X12_matesIn : Room := { frames := 11, cells := 0, slots := 0, locals := 266 }
def wp_X12_matesIn (D : wD) (post : Int32 → wS → Prop) (S : wS) (a0 : Nat) : Prop := wp_X12_matesIn_0 D post S a0
set_option maxHeartbeats 4000000 in
set_option maxRecDepth 100000 in
theorem t_X12_matesIn_25 {p : Program} {l : Launch} {e : Env} {s : State} {m : MethodId} {args : Array Value} {below : List Frame} {meth : Method} {c : Code} {D : wD} {cy : Nat → ClassId} {X : va_W} {A : Nat → Prop} {S0 : wS} {post : Int32 → wS → Prop} (F : CallFix p m c cX12_matesIn 1 s args wz_X12_matesIn RX12) (hr : meth.sig.returnType = (some .int)) (hlocks : meth.locks = false) (hK : wK D cy A s) : ∀ {S : wS} {H : Heap} {locs : List Loc} {ls : Array Slot} {t0 : Int32}, wp_X12_matesIn_25 D post S t0 → wO D cy X A s.heap S H locs → wX D S0 S → lv_has ls 1 [] → W p l e r_X12_matesIn s m args below meth c H locs 0 0 (MQ below (va_Qi (fun r S9 => wX D S0 S9 ∧ post r S9) (wB D cy X A) A) args s 0 0 A) (F0 m 25 ls [.int t0]) := by
  obtain ⟨hx, hb, hml, hown, hts⟩ := id F
  have hwg : ∀ w ∈ WG, w.before args s = true := fun w h => hts w (List.mem_cons_of_mem _ h)
  intro S H locs ls t0 hp hW hE hl
  unfold wp_X12_matesIn_25 at hp
  exact w_iret hx hb hr hlocks hW ⟨hE, hp⟩ dX12_matesIn_25
set_option maxHeartbeats 4000000 in
set_option maxRecDepth 100000 in
theorem t_X12_matesIn_0 {p : Program} {l : Launch} {e : Env} {s : State} {m : MethodId} {args : Array Value} {below : List Frame} {meth : Method} {c : Code} {D : wD} {cy : Nat → ClassId} {X : va_W} {A : Nat → Prop} {S0 : wS} {post : Int32 → wS → Prop} (F : CallFix p m c cX12_matesIn 1 s args wz_X12_matesIn RX12) (hr : meth.sig.returnType = (some .int)) (hlocks : meth.locks = false) (hK : wK D cy A s) : ∀ {S : wS} {H : Heap} {locs : List Loc} {ls : Array Slot} {a0 : Nat}, wp_X12_matesIn_0 D post S a0 → wO D cy X A s.heap S H locs → wX D S0 S → lv_has ls 1 [(0, .ref a0)] → wM D S a0 → sK S a0 = 17 → W p l e r_X12_matesIn s m args below meth c H locs 0 0 (MQ below (va_Qi (fun r S9 => wX D S0 S9 ∧ post r S9) (wB D cy X A) A) args s 0 0 A) (F0 m 0 ls []) := by
  obtain ⟨hx, hb, hml, hown, hts⟩ := id F
  have hwg : ∀ w ∈ WG, w.before args s = true := fun w h => hts w (List.mem_cons_of_mem _ h)
  intro S H locs ls a0 hp hW hE hl hL_a0 hK_a0
  unfold wp_X12_matesIn_0 at hp
  refine lv_aload_n hx hb dX12_matesIn_0 rfl (lv_at hl 0 rfl) ?_
  refine lv_iconst (v := 1) hx hb dX12_matesIn_1 (by decide) ?_
  refine w_callI (va_runV (As := [.int (1 : Int32)]) (rest := []) F (c_X12_keys l hL_a0 hK_a0 hp H.size) (cwV (C := RX12) 1 hts (wg_V wm_RX12_470 wy_X12_keys) rfl rfl rfl (by decide +kernel) ⟨Nat.le_of_ble_eq_true rfl, Nat.le_of_ble_eq_true rfl⟩) (w_preV hK hW hL_a0 hK_a0 (by decide) rfl) rfl rfl hl.1 rfl (lv_room (Nat.le_of_ble_eq_true rfl)) dX12_matesIn_2 ⟨Nat.le_of_ble_eq_true rfl, Nat.le_of_ble_eq_true rfl⟩) hW (fun r_1 S_2 H locs hp hW => ?_)
  obtain ⟨hX_S_2, hp⟩ := hp
  refine W.widen (k := 0) (n := 0) (by decide) (by decide) ?_
  have hE := hE.trans hX_S_2
  have hK_a0 : sK S_2 a0 = 17 := (hX_S_2.2 a0 hL_a0).1.trans hK_a0
  have hL_a0 : wM D S_2 a0 := hX_S_2.M hL_a0
  refine lv_if_le (tgt := 12) hx hb dX12_matesIn_5 (by decide) (fun c_3 => ?_) (fun c_3 => ?_)
  · replace hp := hp.1 c_3
    refine lv_aload_n hx hb dX12_matesIn_12 rfl (lv_at hl 0 rfl) ?_
    refine lv_iconst (v := 3) hx hb dX12_matesIn_13 (by decide) ?_
    refine w_callI (va_runV (As := [.int (3 : Int32)]) (rest := []) F (c_X12_keys l hL_a0 hK_a0 hp H.size) (cwV (C := RX12) 1 hts (wg_V wm_RX12_470 wy_X12_keys) rfl rfl rfl (by decide +kernel) ⟨Nat.le_of_ble_eq_true rfl, Nat.le_of_ble_eq_true rfl⟩) (w_preV hK hW hL_a0 hK_a0 (by decide) rfl) rfl rfl hl.1 rfl (lv_room (Nat.le_of_ble_eq_true rfl)) dX12_matesIn_14 ⟨Nat.le_of_ble_eq_true rfl, Nat.le_of_ble_eq_true rfl⟩) hW (fun r_4 S_5 H locs hp hW => ?_)
    obtain ⟨hX_S_5, hp⟩ := hp
    refine W.widen (k := 0) (n := 0) (by decide) (by decide) ?_
    have hE := hE.trans hX_S_5
    have hK_a0 : sK S_5 a0 = 17 := (hX_S_5.2 a0 hL_a0).1.trans hK_a0
    have hL_a0 : wM D S_5 a0 := hX_S_5.M hL_a0
    refine lv_if_le (tgt := 24) hx hb dX12_matesIn_17 (by decide) (fun c_6 => ?_) (fun c_6 => ?_)
    · replace hp := hp.1 c_6
      refine lv_iconst (v := (-1)) hx hb dX12_matesIn_24 (by decide) ?_
      exact t_X12_matesIn_25 F hr hlocks hK hp hW hE (lv_sub hl [] rfl)
    · replace hp := hp.2 c_6
      refine lv_iconst (v := 3) hx hb dX12_matesIn_20 (by decide) ?_
      refine lv_goto (tgt := 25) hx hb dX12_matesIn_21 (by decide) ?_
      exact t_X12_matesIn_25 F hr hlocks hK hp hW hE (lv_sub hl [] rfl)
  · replace hp := hp.2 c_3
    refine lv_iconst (v := 1) hx hb dX12_matesIn_8 (by decide) ?_
    refine lv_goto (tgt := 25) hx hb dX12_matesIn_9 (by decide) ?_
    exact t_X12_matesIn_25 F hr hlocks hK hp hW hE (lv_sub hl [] rfl)
set_option maxHeartbeats 4000000 in
set_option maxRecDepth 100000 in
theorem c_X12_matesIn (l : Launch) {D : wD} {cy : Nat → ClassId} {X : va_W} {S0 : wS} {post : Int32 → wS → Prop} {a0 : Nat} (hL_a0 : wM D S0 a0) (hK_a0 : sK S0 a0 = 17) (hp : wp_X12_matesIn D post S0 a0) : mI D cy X l yX12_matesIn wz_X12_matesIn r_X12_matesIn [.ref a0] S0 (fun r S9 => wX D S0 S9 ∧ post r S9) := by
  intro sz
  refine Met.ofW (cc := cX12_matesIn) (maxL := 1) (ret := (some .int)) (by decide) rfl ?_
  intro p e s m args below meth c s₁ B hml hv
  obtain ⟨rfl, hsz, hP, hK, hD0, hRO⟩ := hv
  have hts := atoms_spec (ws := wz_X12_matesIn) B.pre
  have hown : s.vm.findClass RX12 = some m.cls := findClass_of_methodNamed B.named
  subst hsz
  have hD := hD0.self (sz := s.heap.size)
  have F : CallFix p m c cX12_matesIn 1 s _ wz_X12_matesIn RX12 := ⟨B.exec, B.bytes, hml, hown, hts⟩
  have hr := B.returns
  have hlocks := B.notSynchronized
  generalize hAe : va_A (wL cy X S0) s.heap.size = A at hD hK ⊢
  have hA : ∀ q, s.heap.size ≤ q → A q := fun q h => by rw [← hAe]; exact Or.inr h
  have hW : wO D cy X A s.heap S0 s.heap [] := ⟨hP, hD, va_S.rf, hA, hRO⟩
  have hl := lv_entry ([.ref a0]) (n := 1) (Nat.le_of_ble_eq_true rfl)
  rw [lg_entry_eq]
  generalize (lg_sl ([.ref a0]) ++ List.replicate (1 - (lg_sl ([.ref a0])).length) Slot.unset).toArray = ls at hl ⊢
  have hl : lv_has ls 1 [(0, .ref a0)] := hl
  unfold wp_X12_matesIn at hp
  exact t_X12_matesIn_0 F hr hlocks hK hp hW wX.rf (lv_sub hl [0] rfl) hL_a0 hK_a0
def wp_X12_firstKey_46 (D : wD) (post : Int32 → wS → Prop)  : Nat → wS → Nat → Int32 → Int32 → Prop
  | 0, _, _, _, _ => False
  | n + 1, S, a0, x1, x2 =>
    wp_X12_isKey D (fun r_1 S_2 => 
    ((¬ r_1 = 0 → post x2 S_2) ∧
     (r_1 = 0 → ∀ x_4 : Int32, x_4 = x2 + 1 →
    wp_X12_firstKey_46 D post n S_2 a0 x1 x_4))) S a0 x2 x1
def wp_X12_firstKey_30 (D : wD) (post : Int32 → wS → Prop)  (S : wS) (a0 : Nat) (x1 : Int32) (b0 : Nat) (t1 : Int32) : Prop :=
wp_X12_can D (fun r_1 S_2 => 
((¬ r_1 = 0 → wp_X12_moves D (fun S_5 => 
∃ n_6 : Nat, wp_X12_firstKey_46 D post n_6 S_5 a0 x1 (0 : Int32)) S_2 a0 (0 : Int32)) ∧
 (r_1 = 0 → post (0 : Int32) S_2))) S b0 t1 (2 : Int32)
def wp_X12_firstKey_0 (D : wD) (post : Int32 → wS → Prop)  (S : wS) (a0 : Nat) : Prop :=
wp_X12_isAskable D (fun r_1 S_2 => 
wp_X12_can D (fun r_3 S_4 => 
((¬ r_3 = 0 → wp_X12_matesIn D (fun r_6 S_7 => 
((r_6 = (-1 : Int32) → wp_X12_firstKey_30 D post S_7 a0 r_6 a0 (0 : Int32)) ∧
 (¬ r_6 = (-1 : Int32) → wp_X12_firstKey_30 D post S_7 a0 r_6 a0 (1 : Int32)))) S_4 a0) ∧
 (r_3 = 0 → post (0 : Int32) S_4))) S_2 a0 r_1 (1 : Int32)) S a0
abbrev r_X12_firstKey : Room := { frames := 12, cells := 0, slots := 0, locals := 286 }
def wp_X12_firstKey (D : wD) (post : Int32 → wS → Prop) (S : wS) (a0 : Nat) : Prop := wp_X12_firstKey_0 D post S a0
set_option maxHeartbeats 4000000 in
set_option maxRecDepth 100000 in
theorem t_X12_firstKey_46 {p : Program} {l : Launch} {e : Env} {s : State} {m : MethodId} {args : Array Value} {below : List Frame} {meth : Method} {c : Code} {D : wD} {cy : Nat → ClassId} {X : va_W} {A : Nat → Prop} {S0 : wS} {post : Int32 → wS → Prop} (F : CallFix p m c cX12_firstKey 3 s args wz_X12_firstKey RX12) (hr : meth.sig.returnType = (some .int)) (hlocks : meth.locks = false) (hK : wK D cy A s) : ∀ (n : Nat) {S : wS} {H : Heap} {locs : List Loc} {ls : Array Slot} {a0 : Nat} {x1 : Int32} {x2 : Int32}, wp_X12_firstKey_46 D post n S a0 x1 x2 → wO D cy X A s.heap S H locs → wX D S0 S → lv_has ls 3 [(0, .ref a0), (1, .int x1), (2, .int x2)] → wM D S a0 → sK S a0 = 17 → W p l e r_X12_firstKey s m args below meth c H locs 0 0 (MQ below (va_Qi (fun r S9 => wX D S0 S9 ∧ post r S9) (wB D cy X A) A) args s 0 0 A) (F0 m 46 ls []) := by
  obtain ⟨hx, hb, hml, hown, hts⟩ := id F
  have hwg : ∀ w ∈ WG, w.before args s = true := fun w h => hts w (List.mem_cons_of_mem _ h)
  intro n
  induction n with
  | zero =>
    intro S H locs ls a0 x1 x2 hp
    exact hp.elim
  | succ n ih =>
    intro S H locs ls a0 x1 x2 hp hW hE hl hL_a0 hK_a0
    unfold wp_X12_firstKey_46 at hp
    refine lv_aload_n hx hb dX12_firstKey_46 rfl (lv_at hl 0 rfl) ?_
    refine lv_iload_n hx hb dX12_firstKey_47 rfl (lv_at hl 2 rfl) ?_
    refine lv_iload_n hx hb dX12_firstKey_48 rfl (lv_at hl 1 rfl) ?_
    refine w_callI (va_runV (As := [.int x2, .int x1]) (rest := []) F (c_X12_isKey l hL_a0 hK_a0 hp H.size) (cwV (C := RX12) 2 hts (wg_V wm_RX12_467 wy_X12_isKey) rfl rfl rfl (by decide +kernel) ⟨Nat.le_of_ble_eq_true rfl, Nat.le_of_ble_eq_true rfl⟩) (w_preV hK hW hL_a0 hK_a0 (by decide) rfl) rfl rfl hl.1 rfl (lv_room (Nat.le_of_ble_eq_true rfl)) dX12_firstKey_49 ⟨Nat.le_of_ble_eq_true rfl, Nat.le_of_ble_eq_true rfl⟩) hW (fun r_1 S_2 H locs hp hW => ?_)
    obtain ⟨hX_S_2, hp⟩ := hp
    refine W.widen (k := 0) (n := 0) (by decide) (by decide) ?_
    have hE := hE.trans hX_S_2
    have hK_a0 : sK S_2 a0 = 17 := (hX_S_2.2 a0 hL_a0).1.trans hK_a0
    have hL_a0 : wM D S_2 a0 := hX_S_2.M hL_a0
    refine lv_if_ne (tgt := 61) hx hb dX12_firstKey_52 (by decide) (fun c_3 => ?_) (fun c_3 => ?_)
    · replace hp := hp.1 c_3
      refine lv_iload_n hx hb dX12_firstKey_61 rfl (lv_at hl 2 rfl) ?_
      exact w_iret hx hb hr hlocks hW ⟨hE, hp⟩ dX12_firstKey_62
    · replace hp := hp.2 c_3
      obtain ⟨x_4, ex_4⟩ : ∃ z : Int32, z = x2 + 1 := ⟨_, rfl⟩
      replace hp := hp x_4 ex_4
      refine lv_iinc (v := x_4) (lv' := [(2, .int x_4), (0, .ref a0), (1, .int x1)]) hx hb dX12_firstKey_55 hl (k := 2) rfl (by rw [ex_4]; rfl) (by decide) rfl (fun ls hl => ?_)
      refine lv_goto (tgt := 46) hx hb dX12_firstKey_58 (by decide) ?_
      exact ih hp hW hE (lv_sub hl [1, 2, 0] rfl) hL_a0 hK_a0
set_option maxHeartbeats 4000000 in
set_option maxRecDepth 100000 in
theorem t_X12_firstKey_30 {p : Program} {l : Launch} {e : Env} {s : State} {m : MethodId} {args : Array Value} {below : List Frame} {meth : Method} {c : Code} {D : wD} {cy : Nat → ClassId} {X : va_W} {A : Nat → Prop} {S0 : wS} {post : Int32 → wS → Prop} (F : CallFix p m c cX12_firstKey 3 s args wz_X12_firstKey RX12) (hr : meth.sig.returnType = (some .int)) (hlocks : meth.locks = false) (hK : wK D cy A s) : ∀ {S : wS} {H : Heap} {locs : List Loc} {ls : Array Slot} {a0 : Nat} {x1 : Int32} {b0 : Nat} {t1 : Int32}, wp_X12_firstKey_30 D post S a0 x1 b0 t1 → wO D cy X A s.heap S H locs → wX D S0 S → lv_has ls 3 [(0, .ref a0), (1, .int x1)] → wM D S a0 → sK S a0 = 17 → wM D S b0 → sK S b0 = 17 → W p l e r_X12_firstKey s m args below meth c H locs 0 0 (MQ below (va_Qi (fun r S9 => wX D S0 S9 ∧ post r S9) (wB D cy X A) A) args s 0 0 A) (F0 m 30 ls [.int t1, .ref b0]) := by
  obtain ⟨hx, hb, hml, hown, hts⟩ := id F
  have hwg : ∀ w ∈ WG, w.before args s = true := fun w h => hts w (List.mem_cons_of_mem _ h)
  intro S H locs ls a0 x1 b0 t1 hp hW hE hl hL_a0 hK_a0 hL_b0 hK_b0
  unfold wp_X12_firstKey_30 at hp
  refine lv_iconst (v := 2) hx hb dX12_firstKey_30 (by decide) ?_
  refine w_callI (va_runV (As := [.int t1, .int (2 : Int32)]) (rest := []) F (c_X12_can l hL_b0 hK_b0 hp H.size) (cwV (C := RX12) 2 hts (wg_V wm_RX12_237 wy_X12_can) rfl rfl rfl (by decide +kernel) ⟨Nat.le_of_ble_eq_true rfl, Nat.le_of_ble_eq_true rfl⟩) (w_preV hK hW hL_b0 hK_b0 (by decide) rfl) rfl rfl hl.1 rfl (lv_room (Nat.le_of_ble_eq_true rfl)) dX12_firstKey_31 ⟨Nat.le_of_ble_eq_true rfl, Nat.le_of_ble_eq_true rfl⟩) hW (fun r_1 S_2 H locs hp hW => ?_)
  obtain ⟨hX_S_2, hp⟩ := hp
  refine W.widen (k := 0) (n := 0) (by decide) (by decide) ?_
  have hE := hE.trans hX_S_2
  have hK_a0 : sK S_2 a0 = 17 := (hX_S_2.2 a0 hL_a0).1.trans hK_a0
  have hL_a0 : wM D S_2 a0 := hX_S_2.M hL_a0
  refine lv_if_ne (tgt := 39) hx hb dX12_firstKey_34 (by decide) (fun c_3 => ?_) (fun c_3 => ?_)
  · replace hp := hp.1 c_3
    refine lv_aload_n hx hb dX12_firstKey_39 rfl (lv_at hl 0 rfl) ?_
    refine lv_iconst (v := 0) hx hb dX12_firstKey_40 (by decide) ?_
    refine w_callV (va_runV (As := [.int (0 : Int32)]) (rest := []) F (c_X12_moves l hL_a0 hK_a0 hp H.size) (cwV (C := RX12) 1 hts (wg_V wm_RX12_233 wy_X12_moves) rfl rfl rfl (by decide +kernel) ⟨Nat.le_of_ble_eq_true rfl, Nat.le_of_ble_eq_true rfl⟩) (w_preV hK hW hL_a0 hK_a0 (by decide) rfl) rfl rfl hl.1 rfl (lv_room (Nat.le_of_ble_eq_true rfl)) dX12_firstKey_41 ⟨Nat.le_of_ble_eq_true rfl, Nat.le_of_ble_eq_true rfl⟩) hW (fun S_5 H locs hp hW => ?_)
    obtain ⟨hX_S_5, hp⟩ := hp
    refine W.widen (k := 0) (n := 0) (by decide) (by decide) ?_
    have hE := hE.trans hX_S_5
    have hK_a0 : sK S_5 a0 = 17 := (hX_S_5.2 a0 hL_a0).1.trans hK_a0
    have hL_a0 : wM D S_5 a0 := hX_S_5.M hL_a0
    refine lv_iconst (v := 0) hx hb dX12_firstKey_44 (by decide) ?_
    refine lv_istore_n (lv' := [(2, .int (0 : Int32)), (0, .ref a0), (1, .int x1)]) hx hb dX12_firstKey_45 rfl hl (by decide) rfl (fun ls hl => ?_)
    obtain ⟨n_6, hp⟩ := hp
    exact t_X12_firstKey_46 F hr hlocks hK n_6 hp hW hE (lv_sub hl [1, 2, 0] rfl) hL_a0 hK_a0
  · replace hp := hp.2 c_3
    refine lv_iconst (v := 0) hx hb dX12_firstKey_37 (by decide) ?_
    exact w_iret hx hb hr hlocks hW ⟨hE, hp⟩ dX12_firstKey_38
set_option maxHeartbeats 4000000 in
set_option maxRecDepth 100000 in
theorem t_X12_firstKey_0 {p : Program} {l : Launch} {e : Env} {s : State} {m : MethodId} {args : Array Value} {below : List Frame} {meth : Method} {c : Code} {D : wD} {cy : Nat → ClassId} {X : va_W} {A : Nat → Prop} {S0 : wS} {post : Int32 → wS → Prop} (F : CallFix p m c cX12_firstKey 3 s args wz_X12_firstKey RX12) (hr : meth.sig.returnType = (some .int)) (hlocks : meth.locks = false) (hK : wK D cy A s) : ∀ {S : wS} {H : Heap} {locs : List Loc} {ls : Array Slot} {a0 : Nat}, wp_X12_firstKey_0 D post S a0 → wO D cy X A s.heap S H locs → wX D S0 S → lv_has ls 3 [(0, .ref a0)] → wM D S a0 → sK S a0 = 17 → W p l e r_X12_firstKey s m args below meth c H locs 0 0 (MQ below (va_Qi (fun r S9 => wX D S0 S9 ∧ post r S9) (wB D cy X A) A) args s 0 0 A) (F0 m 0 ls []) := by
  obtain ⟨hx, hb, hml, hown, hts⟩ := id F
  have hwg : ∀ w ∈ WG, w.before args s = true := fun w h => hts w (List.mem_cons_of_mem _ h)
  intro S H locs ls a0 hp hW hE hl hL_a0 hK_a0
  unfold wp_X12_firstKey_0 at hp
  refine lv_aload_n hx hb dX12_firstKey_0 rfl (lv_at hl 0 rfl) ?_
  refine lv_aload_n hx hb dX12_firstKey_1 rfl (lv_at hl 0 rfl) ?_
  refine w_callI (va_runV (As := []) (rest := [.ref a0]) F (c_X12_isAskable l hL_a0 hK_a0 hp H.size) (cwV (C := RX12) 0 hts (wg_V wm_RX12_284 wy_X12_isAskable) rfl rfl rfl (by decide +kernel) ⟨Nat.le_of_ble_eq_true rfl, Nat.le_of_ble_eq_true rfl⟩) (w_preV hK hW hL_a0 hK_a0 (by decide) rfl) rfl rfl hl.1 rfl (lv_room (Nat.le_of_ble_eq_true rfl)) dX12_firstKey_2 ⟨Nat.le_of_ble_eq_true rfl, Nat.le_of_ble_eq_true rfl⟩) hW (fun r_1 S_2 H locs hp hW => ?_)
  obtain ⟨hX_S_2, hp⟩ := hp
  refine W.widen (k := 0) (n := 0) (by decide) (by decide) ?_
  have hE := hE.trans hX_S_2
  have hK_a0 : sK S_2 a0 = 17 := (hX_S_2.2 a0 hL_a0).1.trans hK_a0
  have hL_a0 : wM D S_2 a0 := hX_S_2.M hL_a0
  refine lv_iconst (v := 1) hx hb dX12_firstKey_5 (by decide) ?_
  refine w_callI (va_runV (As := [.int r_1, .int (1 : Int32)]) (rest := []) F (c_X12_can l hL_a0 hK_a0 hp H.size) (cwV (C := RX12) 2 hts (wg_V wm_RX12_237 wy_X12_can) rfl rfl rfl (by decide +kernel) ⟨Nat.le_of_ble_eq_true rfl, Nat.le_of_ble_eq_true rfl⟩) (w_preV hK hW hL_a0 hK_a0 (by decide) rfl) rfl rfl hl.1 rfl (lv_room (Nat.le_of_ble_eq_true rfl)) dX12_firstKey_6 ⟨Nat.le_of_ble_eq_true rfl, Nat.le_of_ble_eq_true rfl⟩) hW (fun r_3 S_4 H locs hp hW => ?_)
  obtain ⟨hX_S_4, hp⟩ := hp
  refine W.widen (k := 0) (n := 0) (by decide) (by decide) ?_
  have hE := hE.trans hX_S_4
  have hK_a0 : sK S_4 a0 = 17 := (hX_S_4.2 a0 hL_a0).1.trans hK_a0
  have hL_a0 : wM D S_4 a0 := hX_S_4.M hL_a0
  refine lv_if_ne (tgt := 14) hx hb dX12_firstKey_9 (by decide) (fun c_5 => ?_) (fun c_5 => ?_)
  · replace hp := hp.1 c_5
    refine lv_aload_n hx hb dX12_firstKey_14 rfl (lv_at hl 0 rfl) ?_
    refine w_callI (va_runV (As := []) (rest := []) F (c_X12_matesIn l hL_a0 hK_a0 hp H.size) (cwV (C := RX12) 0 hts (wg_V wm_RX12_473 wy_X12_matesIn) rfl rfl rfl (by decide +kernel) ⟨Nat.le_of_ble_eq_true rfl, Nat.le_of_ble_eq_true rfl⟩) (w_preV hK hW hL_a0 hK_a0 (by decide) rfl) rfl rfl hl.1 rfl (lv_room (Nat.le_of_ble_eq_true rfl)) dX12_firstKey_15 ⟨Nat.le_of_ble_eq_true rfl, Nat.le_of_ble_eq_true rfl⟩) hW (fun r_6 S_7 H locs hp hW => ?_)
    obtain ⟨hX_S_7, hp⟩ := hp
    refine W.widen (k := 0) (n := 0) (by decide) (by decide) ?_
    have hE := hE.trans hX_S_7
    have hK_a0 : sK S_7 a0 = 17 := (hX_S_7.2 a0 hL_a0).1.trans hK_a0
    have hL_a0 : wM D S_7 a0 := hX_S_7.M hL_a0
    refine lv_istore_n (lv' := [(1, .int r_6), (0, .ref a0)]) hx hb dX12_firstKey_18 rfl hl (by decide) rfl (fun ls hl => ?_)
    refine lv_aload_n hx hb dX12_firstKey_19 rfl (lv_at hl 1 rfl) ?_
    refine lv_iload_n hx hb dX12_firstKey_20 rfl (lv_at hl 0 rfl) ?_
    refine lv_iconst (v := (-1)) hx hb dX12_firstKey_21 (by decide) ?_
    refine lv_icmp_eq (tgt := 29) hx hb dX12_firstKey_22 (by decide) (fun c_8 => ?_) (fun c_8 => ?_)
    · replace hp := hp.1 c_8
      refine lv_iconst (v := 0) hx hb dX12_firstKey_29 (by decide) ?_
      exact t_X12_firstKey_30 F hr hlocks hK hp hW hE (lv_sub hl [1, 0] rfl) hL_a0 hK_a0 hL_a0 hK_a0
    · replace hp := hp.2 c_8
      refine lv_iconst (v := 1) hx hb dX12_firstKey_25 (by decide) ?_
      refine lv_goto (tgt := 30) hx hb dX12_firstKey_26 (by decide) ?_
      exact t_X12_firstKey_30 F hr hlocks hK hp hW hE (lv_sub hl [1, 0] rfl) hL_a0 hK_a0 hL_a0 hK_a0
  · replace hp := hp.2 c_5
    refine lv_iconst (v := 0) hx hb dX12_firstKey_12 (by decide) ?_
    exact w_iret hx hb hr hlocks hW ⟨hE, hp⟩ dX12_firstKey_13
set_option maxHeartbeats 4000000 in
set_option maxRecDepth 100000 in
theorem c_X12_firstKey (l : Launch) {D : wD} {cy : Nat → ClassId} {X : va_W} {S0 : wS} {post : Int32 → wS → Prop} {a0 : Nat} (hL_a0 : wM D S0 a0) (hK_a0 : sK S0 a0 = 17) (hp : wp_X12_firstKey D post S0 a0) : mI D cy X l yX12_firstKey wz_X12_firstKey r_X12_firstKey [.ref a0] S0 (fun r S9 => wX D S0 S9 ∧ post r S9) := by
  intro sz
  refine Met.ofW (cc := cX12_firstKey) (maxL := 3) (ret := (some .int)) (by decide) rfl ?_
  intro p e s m args below meth c s₁ B hml hv
  obtain ⟨rfl, hsz, hP, hK, hD0, hRO⟩ := hv
  have hts := atoms_spec (ws := wz_X12_firstKey) B.pre
  have hown : s.vm.findClass RX12 = some m.cls := findClass_of_methodNamed B.named
  subst hsz
  have hD := hD0.self (sz := s.heap.size)
  have F : CallFix p m c cX12_firstKey 3 s _ wz_X12_firstKey RX12 := ⟨B.exec, B.bytes, hml, hown, hts⟩
  have hr := B.returns
  have hlocks := B.notSynchronized
  generalize hAe : va_A (wL cy X S0) s.heap.size = A at hD hK ⊢
  have hA : ∀ q, s.heap.size ≤ q → A q := fun q h => by rw [← hAe]; exact Or.inr h
  have hW : wO D cy X A s.heap S0 s.heap [] := ⟨hP, hD, va_S.rf, hA, hRO⟩
  have hl := lv_entry ([.ref a0]) (n := 3) (Nat.le_of_ble_eq_true rfl)
  rw [lg_entry_eq]
  generalize (lg_sl ([.ref a0]) ++ List.replicate (3 - (lg_sl ([.ref a0])).length) Slot.unset).toArray = ls at hl ⊢
  have hl : lv_has ls 3 [(0, .ref a0)] := hl
  unfold wp_X12_firstKey at hp
  exact t_X12_firstKey_0 F hr hlocks hK hp hW wX.rf (lv_sub hl [0] rfl) hL_a0 hK_a0
def wp_X12_isGame_28 (D : wD) (post : Int32 → wS → Prop)  (S : wS) (t0 : Int32) : Prop :=
narrow .boolean (.int t0) = .int t0 ∧ post t0 S
def wp_X12_isGame_27 (D : wD) (post : Int32 → wS → Prop)  (S : wS) : Prop :=
wp_X12_isGame_28 D post S (0 : Int32)
def wp_X12_isGame_0 (D : wD) (post : Int32 → wS → Prop)  (S : wS) (a0 : Nat) (x1 : Int32) (x2 : Int32) : Prop :=
wp_X12_isShelf D (fun r_1 S_2 => 
((r_1 = 0 → wp_X12_isGame_27 D post S_2) ∧
 (¬ r_1 = 0 → ∃ y_4 : Nat, sR S_2 a0 30 = some y_4 ∧ wM D S_2 y_4 ∧ sK S_2 y_4 = 21 ∧
vp_in x1 (sN S_2 y_4) ∧
wp_X12_in D (fun r_6 S_7 => 
((r_6 = 0 → wp_X12_isGame_27 D post S_7) ∧
 (¬ r_6 = 0 → wp_X12_isGame_28 D post S_7 (1 : Int32)))) S_2 x2 (0 : Int32) ((sI S_2 y_4 (x1).toNatClampNeg) - (1 : Int32))))) S x1
abbrev r_X12_isGame : Room := { frames := 2, cells := 0, slots := 0, locals := 42 }
def wp_X12_isGame (D : wD) (post : Int32 → wS → Prop) (S : wS) (a0 : Nat) (x1 : Int32) (x2 : Int32) : Prop := wp_X12_isGame_0 D post S a0 x1 x2
set_option maxHeartbeats 4000000 in
set_option maxRecDepth 100000 in
theorem t_X12_isGame_28 {p : Program} {l : Launch} {e : Env} {s : State} {m : MethodId} {args : Array Value} {below : List Frame} {meth : Method} {c : Code} {D : wD} {cy : Nat → ClassId} {X : va_W} {A : Nat → Prop} {S0 : wS} {post : Int32 → wS → Prop} (F : CallFix p m c cX12_isGame 3 s args wz_X12_isGame RX12) (hr : meth.sig.returnType = (some .boolean)) (hlocks : meth.locks = false) (hK : wK D cy A s) : ∀ {S : wS} {H : Heap} {locs : List Loc} {ls : Array Slot} {t0 : Int32}, wp_X12_isGame_28 D post S t0 → wO D cy X A s.heap S H locs → wX D S0 S → lv_has ls 3 [] → W p l e r_X12_isGame s m args below meth c H locs 0 0 (MQ below (va_Qi (fun r S9 => wX D S0 S9 ∧ post r S9) (wB D cy X A) A) args s 0 0 A) (F0 m 28 ls [.int t0]) := by
  obtain ⟨hx, hb, hml, hown, hts⟩ := id F
  have hwg : ∀ w ∈ WG, w.before args s = true := fun w h => hts w (List.mem_cons_of_mem _ h)
  intro S H locs ls t0 hp hW hE hl
  unfold wp_X12_isGame_28 at hp
  exact w_zret hx hb hr hlocks hW hp.1 ⟨hE, hp.2⟩ dX12_isGame_28
set_option maxHeartbeats 4000000 in
set_option maxRecDepth 100000 in
theorem t_X12_isGame_27 {p : Program} {l : Launch} {e : Env} {s : State} {m : MethodId} {args : Array Value} {below : List Frame} {meth : Method} {c : Code} {D : wD} {cy : Nat → ClassId} {X : va_W} {A : Nat → Prop} {S0 : wS} {post : Int32 → wS → Prop} (F : CallFix p m c cX12_isGame 3 s args wz_X12_isGame RX12) (hr : meth.sig.returnType = (some .boolean)) (hlocks : meth.locks = false) (hK : wK D cy A s) : ∀ {S : wS} {H : Heap} {locs : List Loc} {ls : Array Slot}, wp_X12_isGame_27 D post S → wO D cy X A s.heap S H locs → wX D S0 S → lv_has ls 3 [] → W p l e r_X12_isGame s m args below meth c H locs 0 0 (MQ below (va_Qi (fun r S9 => wX D S0 S9 ∧ post r S9) (wB D cy X A) A) args s 0 0 A) (F0 m 27 ls []) := by
  obtain ⟨hx, hb, hml, hown, hts⟩ := id F
  have hwg : ∀ w ∈ WG, w.before args s = true := fun w h => hts w (List.mem_cons_of_mem _ h)
  intro S H locs ls hp hW hE hl
  unfold wp_X12_isGame_27 at hp
  refine lv_iconst (v := 0) hx hb dX12_isGame_27 (by decide) ?_
  exact t_X12_isGame_28 F hr hlocks hK hp hW hE (lv_sub hl [] rfl)
set_option maxHeartbeats 4000000 in
set_option maxRecDepth 100000 in
theorem t_X12_isGame_0 {p : Program} {l : Launch} {e : Env} {s : State} {m : MethodId} {args : Array Value} {below : List Frame} {meth : Method} {c : Code} {D : wD} {cy : Nat → ClassId} {X : va_W} {A : Nat → Prop} {S0 : wS} {post : Int32 → wS → Prop} (F : CallFix p m c cX12_isGame 3 s args wz_X12_isGame RX12) (hr : meth.sig.returnType = (some .boolean)) (hlocks : meth.locks = false) (hK : wK D cy A s) : ∀ {S : wS} {H : Heap} {locs : List Loc} {ls : Array Slot} {a0 : Nat} {x1 : Int32} {x2 : Int32}, wp_X12_isGame_0 D post S a0 x1 x2 → wO D cy X A s.heap S H locs → wX D S0 S → lv_has ls 3 [(0, .ref a0), (1, .int x1), (2, .int x2)] → wM D S a0 → sK S a0 = 17 → W p l e r_X12_isGame s m args below meth c H locs 0 0 (MQ below (va_Qi (fun r S9 => wX D S0 S9 ∧ post r S9) (wB D cy X A) A) args s 0 0 A) (F0 m 0 ls []) := by
  obtain ⟨hx, hb, hml, hown, hts⟩ := id F
  have hwg : ∀ w ∈ WG, w.before args s = true := fun w h => hts w (List.mem_cons_of_mem _ h)
  have i_17 : ∀ w ∈ u_ws RX12 TX12 43, w ∈ wz_X12_isGame := fun w h => List.mem_cons_of_mem _ (wu_17 w h)
  have k_69 := hwg _ wf_RX12_69
  intro S H locs ls a0 x1 x2 hp hW hE hl hL_a0 hK_a0
  unfold wp_X12_isGame_0 at hp
  refine lv_iload_n hx hb dX12_isGame_0 rfl (lv_at hl 1 rfl) ?_
  refine w_callI (va_runS (As := [.int x1]) (rest := []) F (c_X12_isShelf l hp H.size) (va_cwS 1 hts (wg_S wm_RX12_397 wy_X12_isShelf) rfl rfl rfl (by decide +kernel) ⟨Nat.le_of_ble_eq_true rfl, Nat.le_of_ble_eq_true rfl⟩) (w_preS hK hW) rfl rfl hl.1 rfl (lv_room (Nat.le_of_ble_eq_true rfl)) dX12_isGame_1 ⟨Nat.le_of_ble_eq_true rfl, Nat.le_of_ble_eq_true rfl⟩) hW (fun r_1 S_2 H locs hp hW => ?_)
  obtain ⟨hX_S_2, hp⟩ := hp
  refine W.widen (k := 0) (n := 0) (by decide) (by decide) ?_
  have hE := hE.trans hX_S_2
  have hK_a0 : sK S_2 a0 = 17 := (hX_S_2.2 a0 hL_a0).1.trans hK_a0
  have hL_a0 : wM D S_2 a0 := hX_S_2.M hL_a0
  refine lv_if_eq (tgt := 27) hx hb dX12_isGame_4 (by decide) (fun c_3 => ?_) (fun c_3 => ?_)
  · replace hp := hp.1 c_3
    exact t_X12_isGame_27 F hr hlocks hK hp hW hE (lv_sub hl [] rfl)
  · replace hp := hp.2 c_3
    refine lv_iload_n hx hb dX12_isGame_7 rfl (lv_at hl 2 rfl) ?_
    refine lv_iconst (v := 0) hx hb dX12_isGame_8 (by decide) ?_
    refine lv_aload_n hx hb dX12_isGame_9 rfl (lv_at hl 0 rfl) ?_
    obtain ⟨y_4, ey_4, hL_y_4, hK_y_4, hp⟩ := hp
    refine w_get (k := 17) (f := 30) (T := TX12) (v := .ref y_4) F hK hW hL_a0 hK_a0 (by decide) rfl rfl (by decide) i_17 k_69 (by rw [show wv 17 30 S_2 a0 = va_rf (sR S_2 a0 30) from rfl, ey_4]; rfl) dX12_isGame_10 ?_
    refine lv_iload_n hx hb dX12_isGame_13 rfl (lv_at hl 1 rfl) ?_
    obtain ⟨h_5, hp⟩ := hp
    refine w_ild F hK hW hL_y_4 hK_y_4 h_5 dX12_isGame_14 ?_
    refine lv_iconst (v := 1) hx hb dX12_isGame_15 (by decide) ?_
    refine lv_isub hx hb dX12_isGame_16 ?_
    refine w_callI (va_runS (As := [.int x2, .int (0 : Int32), .int ((sI S_2 y_4 (x1).toNatClampNeg) - (1 : Int32))]) (rest := []) F (c_X12_in l hp H.size) (va_cwS 3 hts (wg_S wm_RX12_117 wy_X12_in) rfl rfl rfl (by decide +kernel) ⟨Nat.le_of_ble_eq_true rfl, Nat.le_of_ble_eq_true rfl⟩) (w_preS hK hW) rfl rfl hl.1 rfl (lv_room (Nat.le_of_ble_eq_true rfl)) dX12_isGame_17 ⟨Nat.le_of_ble_eq_true rfl, Nat.le_of_ble_eq_true rfl⟩) hW (fun r_6 S_7 H locs hp hW => ?_)
    obtain ⟨hX_S_7, hp⟩ := hp
    refine W.widen (k := 0) (n := 0) (by decide) (by decide) ?_
    have hE := hE.trans hX_S_7
    have hK_a0 : sK S_7 a0 = 17 := (hX_S_7.2 a0 hL_a0).1.trans hK_a0
    have hL_a0 : wM D S_7 a0 := hX_S_7.M hL_a0
    refine lv_if_eq (tgt := 27) hx hb dX12_isGame_20 (by decide) (fun c_8 => ?_) (fun c_8 => ?_)
    · replace hp := hp.1 c_8
      exact t_X12_isGame_27 F hr hlocks hK hp hW hE (lv_sub hl [] rfl)
    · replace hp := hp.2 c_8
      refine lv_iconst (v := 1) hx hb dX12_isGame_23 (by decide) ?_
      refine lv_goto (tgt := 28) hx hb dX12_isGame_24 (by decide) ?_
      exact t_X12_isGame_28 F hr hlocks hK hp hW hE (lv_sub hl [] rfl)
set_option maxHeartbeats 4000000 in
set_option maxRecDepth 100000 in
theorem c_X12_isGame (l : Launch) {D : wD} {cy : Nat → ClassId} {X : va_W} {S0 : wS} {post : Int32 → wS → Prop} {a0 : Nat} {x1 : Int32} {x2 : Int32} (hL_a0 : wM D S0 a0) (hK_a0 : sK S0 a0 = 17) (hp : wp_X12_isGame D post S0 a0 x1 x2) : mI D cy X l yX12_isGame wz_X12_isGame r_X12_isGame [.ref a0, .int x1, .int x2] S0 (fun r S9 => wX D S0 S9 ∧ post r S9) := by
  intro sz
  refine Met.ofW (cc := cX12_isGame) (maxL := 3) (ret := (some .boolean)) (by decide) rfl ?_
  intro p e s m args below meth c s₁ B hml hv
  obtain ⟨rfl, hsz, hP, hK, hD0, hRO⟩ := hv
  have hts := atoms_spec (ws := wz_X12_isGame) B.pre
  have hown : s.vm.findClass RX12 = some m.cls := findClass_of_methodNamed B.named
  subst hsz
  have hD := hD0.self (sz := s.heap.size)
  have F : CallFix p m c cX12_isGame 3 s _ wz_X12_isGame RX12 := ⟨B.exec, B.bytes, hml, hown, hts⟩
  have hr := B.returns
  have hlocks := B.notSynchronized
  generalize hAe : va_A (wL cy X S0) s.heap.size = A at hD hK ⊢
  have hA : ∀ q, s.heap.size ≤ q → A q := fun q h => by rw [← hAe]; exact Or.inr h
  have hW : wO D cy X A s.heap S0 s.heap [] := ⟨hP, hD, va_S.rf, hA, hRO⟩
  have hl := lv_entry ([.ref a0, .int x1, .int x2]) (n := 3) (Nat.le_of_ble_eq_true rfl)
  rw [lg_entry_eq]
  generalize (lg_sl ([.ref a0, .int x1, .int x2]) ++ List.replicate (3 - (lg_sl ([.ref a0, .int x1, .int x2])).length) Slot.unset).toArray = ls at hl ⊢
  have hl : lv_has ls 3 [(0, .ref a0), (1, .int x1), (2, .int x2)] := hl
  unfold wp_X12_isGame at hp
  exact t_X12_isGame_0 F hr hlocks hK hp hW wX.rf (lv_sub hl [0, 1, 2] rfl) hL_a0 hK_a0
def wp_X12_firstNew_74 (D : wD) (post : Int32 → wS → Prop) (k_18 : wS → Nat → Int32 → Int32 → Int32 → Prop) (k_38 : wS → Nat → Int32 → Int32 → Int32 → Int32 → Int32 → Prop) (S : wS) (a0 : Nat) (x1 : Int32) (x2 : Int32) (x3 : Int32) (x5 : Int32) (t0 : Int32) : Prop :=
∀ x_1 : Int32, x_1 = x5 + 1 →
k_38 S a0 x1 x2 x3 t0 x_1
def wp_X12_firstNew_69 (D : wD) (post : Int32 → wS → Prop) (k_18 : wS → Nat → Int32 → Int32 → Int32 → Prop) (k_38 : wS → Nat → Int32 → Int32 → Int32 → Int32 → Int32 → Prop) (S : wS) (a0 : Nat) (x1 : Int32) (x2 : Int32) (x3 : Int32) (x5 : Int32) : Prop :=
wp_X12_firstNew_74 D post k_18 k_38 S a0 x1 x2 x3 x5 (1 : Int32)
def wp_X12_firstNew_38 (D : wD) (post : Int32 → wS → Prop) (k_18 : wS → Nat → Int32 → Int32 → Int32 → Prop) : Nat → wS → Nat → Int32 → Int32 → Int32 → Int32 → Int32 → Prop
  | 0, _, _, _, _, _, _, _ => False
  | n + 1, S, a0, x1, x2, x3, x4, x5 =>
    ((x2 ≤ x5 → ((¬ x4 = 0 → ∀ x_3 : Int32, x_3 = x3 + 1 →
    k_18 S a0 x1 x2 x_3) ∧
     (x4 = 0 → post x3 S))) ∧
     (¬ x2 ≤ x5 → ((¬ x4 = 0 → wp_X12_firstNew_69 D post k_18 (wp_X12_firstNew_38 D post k_18 n) S a0 x1 x2 x3 x5) ∧
     (x4 = 0 → ∃ y_5 : Nat, sR S a0 31 = some y_5 ∧ wM D S y_5 ∧ sK S y_5 = 21 ∧
    wp_X12_placeOf D (fun r_6 S_7 => 
    wp_X12_passes D (fun r_8 S_9 => 
    ((r_8 = 0 → wp_X12_firstNew_74 D post k_18 (wp_X12_firstNew_38 D post k_18 n) S_9 a0 x1 x2 x3 x5 (0 : Int32)) ∧
     (¬ r_8 = 0 → wp_X12_firstNew_69 D post k_18 (wp_X12_firstNew_38 D post k_18 n) S_9 a0 x1 x2 x3 x5))) S_7 a0 x1 x5 y_5 r_6) S x1 x2 x3))))
def wp_X12_firstNew_18 (D : wD) (post : Int32 → wS → Prop)  : Nat → wS → Nat → Int32 → Int32 → Int32 → Prop
  | 0, _, _, _, _, _ => False
  | n + 1, S, a0, x1, x2, x3 =>
    ∃ y_1 : Nat, sR S a0 33 = some y_1 ∧ wM D S y_1 ∧ sK S y_1 = 21 ∧
    wp_X12_slot D (fun r_2 S_3 => 
    vp_in r_2 (sN S_3 y_1) ∧
    (((sI S_3 y_1 (r_2).toNatClampNeg) < x3 → post (-1 : Int32) S_3) ∧
     (¬ (sI S_3 y_1 (r_2).toNatClampNeg) < x3 → ∃ n_6 : Nat, wp_X12_firstNew_38 D post (wp_X12_firstNew_18 D post n) n_6 S_3 a0 x1 x2 x3 (0 : Int32) (0 : Int32)))) S x1 x2
def wp_X12_firstNew_0 (D : wD) (post : Int32 → wS → Prop)  (S : wS) (a0 : Nat) (x1 : Int32) (x2 : Int32) : Prop :=
wp_X12_isGame D (fun r_1 S_2 => 
wp_X12_can D (fun r_3 S_4 => 
((¬ r_3 = 0 → ∃ n_6 : Nat, wp_X12_firstNew_18 D post n_6 S_4 a0 x1 x2 (0 : Int32)) ∧
 (r_3 = 0 → post (0 : Int32) S_4))) S_2 a0 r_1 (1 : Int32)) S a0 x1 x2
abbrev r_X12_firstNew : Room := { frames := 3, cells := 0, slots := 0, locals := 64 }
def wp_X12_firstNew (D : wD) (post : Int32 → wS → Prop) (S : wS) (a0 : Nat) (x1 : Int32) (x2 : Int32) : Prop := wp_X12_firstNew_0 D post S a0 x1 x2
set_option maxHeartbeats 4000000 in
set_option maxRecDepth 100000 in
theorem t_X12_firstNew_74 {p : Program} {l : Launch} {e : Env} {s : State} {m : MethodId} {args : Array Value} {below : List Frame} {meth : Method} {c : Code} {D : wD} {cy : Nat → ClassId} {X : va_W} {A : Nat → Prop} {S0 : wS} {post : Int32 → wS → Prop} (F : CallFix p m c cX12_firstNew 6 s args wz_X12_firstNew RX12) (hr : meth.sig.returnType = (some .int)) (hlocks : meth.locks = false) (hK : wK D cy A s) {k_18 : wS → Nat → Int32 → Int32 → Int32 → Prop} (q_18 : ∀ {S : wS} {H : Heap} {locs : List Loc} {ls : Array Slot} {a0 : Nat} {x1 : Int32} {x2 : Int32} {x3 : Int32}, k_18 S a0 x1 x2 x3 → wO D cy X A s.heap S H locs → wX D S0 S → lv_has ls 6 [(0, .ref a0), (1, .int x1), (2, .int x2), (3, .int x3)] → wM D S a0 → sK S a0 = 17 → W p l e r_X12_firstNew s m args below meth c H locs 0 0 (MQ below (va_Qi (fun r S9 => wX D S0 S9 ∧ post r S9) (wB D cy X A) A) args s 0 0 A) (F0 m 18 ls [])) {k_38 : wS → Nat → Int32 → Int32 → Int32 → Int32 → Int32 → Prop} (q_38 : ∀ {S : wS} {H : Heap} {locs : List Loc} {ls : Array Slot} {a0 : Nat} {x1 : Int32} {x2 : Int32} {x3 : Int32} {x4 : Int32} {x5 : Int32}, k_38 S a0 x1 x2 x3 x4 x5 → wO D cy X A s.heap S H locs → wX D S0 S → lv_has ls 6 [(0, .ref a0), (1, .int x1), (2, .int x2), (3, .int x3), (4, .int x4), (5, .int x5)] → wM D S a0 → sK S a0 = 17 → W p l e r_X12_firstNew s m args below meth c H locs 0 0 (MQ below (va_Qi (fun r S9 => wX D S0 S9 ∧ post r S9) (wB D cy X A) A) args s 0 0 A) (F0 m 38 ls [])) : ∀ {S : wS} {H : Heap} {locs : List Loc} {ls : Array Slot} {a0 : Nat} {x1 : Int32} {x2 : Int32} {x3 : Int32} {x5 : Int32} {t0 : Int32}, wp_X12_firstNew_74 D post k_18 k_38 S a0 x1 x2 x3 x5 t0 → wO D cy X A s.heap S H locs → wX D S0 S → lv_has ls 6 [(0, .ref a0), (1, .int x1), (2, .int x2), (3, .int x3), (5, .int x5)] → wM D S a0 → sK S a0 = 17 → W p l e r_X12_firstNew s m args below meth c H locs 0 0 (MQ below (va_Qi (fun r S9 => wX D S0 S9 ∧ post r S9) (wB D cy X A) A) args s 0 0 A) (F0 m 74 ls [.int t0]) := by
  obtain ⟨hx, hb, hml, hown, hts⟩ := id F
  have hwg : ∀ w ∈ WG, w.before args s = true := fun w h => hts w (List.mem_cons_of_mem _ h)
  intro S H locs ls a0 x1 x2 x3 x5 t0 hp hW hE hl hL_a0 hK_a0
  unfold wp_X12_firstNew_74 at hp
  refine lv_istore (lv' := [(4, .int t0), (0, .ref a0), (1, .int x1), (2, .int x2), (3, .int x3), (5, .int x5)]) hx hb dX12_firstNew_74 hl (by decide) rfl (fun ls hl => ?_)
  obtain ⟨x_1, ex_1⟩ : ∃ z : Int32, z = x5 + 1 := ⟨_, rfl⟩
  replace hp := hp x_1 ex_1
  refine lv_iinc (v := x_1) (lv' := [(5, .int x_1), (4, .int t0), (0, .ref a0), (1, .int x1), (2, .int x2), (3, .int x3)]) hx hb dX12_firstNew_76 hl (k := 5) rfl (by rw [ex_1]; rfl) (by decide) rfl (fun ls hl => ?_)
  refine lv_goto (tgt := 38) hx hb dX12_firstNew_79 (by decide) ?_
  exact q_38 hp hW hE (lv_sub hl [2, 3, 4, 5, 1, 0] rfl) hL_a0 hK_a0
set_option maxHeartbeats 4000000 in
set_option maxRecDepth 100000 in
theorem t_X12_firstNew_69 {p : Program} {l : Launch} {e : Env} {s : State} {m : MethodId} {args : Array Value} {below : List Frame} {meth : Method} {c : Code} {D : wD} {cy : Nat → ClassId} {X : va_W} {A : Nat → Prop} {S0 : wS} {post : Int32 → wS → Prop} (F : CallFix p m c cX12_firstNew 6 s args wz_X12_firstNew RX12) (hr : meth.sig.returnType = (some .int)) (hlocks : meth.locks = false) (hK : wK D cy A s) {k_18 : wS → Nat → Int32 → Int32 → Int32 → Prop} (q_18 : ∀ {S : wS} {H : Heap} {locs : List Loc} {ls : Array Slot} {a0 : Nat} {x1 : Int32} {x2 : Int32} {x3 : Int32}, k_18 S a0 x1 x2 x3 → wO D cy X A s.heap S H locs → wX D S0 S → lv_has ls 6 [(0, .ref a0), (1, .int x1), (2, .int x2), (3, .int x3)] → wM D S a0 → sK S a0 = 17 → W p l e r_X12_firstNew s m args below meth c H locs 0 0 (MQ below (va_Qi (fun r S9 => wX D S0 S9 ∧ post r S9) (wB D cy X A) A) args s 0 0 A) (F0 m 18 ls [])) {k_38 : wS → Nat → Int32 → Int32 → Int32 → Int32 → Int32 → Prop} (q_38 : ∀ {S : wS} {H : Heap} {locs : List Loc} {ls : Array Slot} {a0 : Nat} {x1 : Int32} {x2 : Int32} {x3 : Int32} {x4 : Int32} {x5 : Int32}, k_38 S a0 x1 x2 x3 x4 x5 → wO D cy X A s.heap S H locs → wX D S0 S → lv_has ls 6 [(0, .ref a0), (1, .int x1), (2, .int x2), (3, .int x3), (4, .int x4), (5, .int x5)] → wM D S a0 → sK S a0 = 17 → W p l e r_X12_firstNew s m args below meth c H locs 0 0 (MQ below (va_Qi (fun r S9 => wX D S0 S9 ∧ post r S9) (wB D cy X A) A) args s 0 0 A) (F0 m 38 ls [])) : ∀ {S : wS} {H : Heap} {locs : List Loc} {ls : Array Slot} {a0 : Nat} {x1 : Int32} {x2 : Int32} {x3 : Int32} {x5 : Int32}, wp_X12_firstNew_69 D post k_18 k_38 S a0 x1 x2 x3 x5 → wO D cy X A s.heap S H locs → wX D S0 S → lv_has ls 6 [(0, .ref a0), (1, .int x1), (2, .int x2), (3, .int x3), (5, .int x5)] → wM D S a0 → sK S a0 = 17 → W p l e r_X12_firstNew s m args below meth c H locs 0 0 (MQ below (va_Qi (fun r S9 => wX D S0 S9 ∧ post r S9) (wB D cy X A) A) args s 0 0 A) (F0 m 69 ls []) := by
  obtain ⟨hx, hb, hml, hown, hts⟩ := id F
  have hwg : ∀ w ∈ WG, w.before args s = true := fun w h => hts w (List.mem_cons_of_mem _ h)
  intro S H locs ls a0 x1 x2 x3 x5 hp hW hE hl hL_a0 hK_a0
  unfold wp_X12_firstNew_69 at hp
  refine lv_iconst (v := 1) hx hb dX12_firstNew_69 (by decide) ?_
  refine lv_goto (tgt := 74) hx hb dX12_firstNew_70 (by decide) ?_
  exact t_X12_firstNew_74 F hr hlocks hK q_18 q_38 hp hW hE (lv_sub hl [0, 1, 2, 3, 4] rfl) hL_a0 hK_a0
set_option maxHeartbeats 4000000 in
set_option maxRecDepth 100000 in
theorem t_X12_firstNew_38 {p : Program} {l : Launch} {e : Env} {s : State} {m : MethodId} {args : Array Value} {below : List Frame} {meth : Method} {c : Code} {D : wD} {cy : Nat → ClassId} {X : va_W} {A : Nat → Prop} {S0 : wS} {post : Int32 → wS → Prop} (F : CallFix p m c cX12_firstNew 6 s args wz_X12_firstNew RX12) (hr : meth.sig.returnType = (some .int)) (hlocks : meth.locks = false) (hK : wK D cy A s) {k_18 : wS → Nat → Int32 → Int32 → Int32 → Prop} (q_18 : ∀ {S : wS} {H : Heap} {locs : List Loc} {ls : Array Slot} {a0 : Nat} {x1 : Int32} {x2 : Int32} {x3 : Int32}, k_18 S a0 x1 x2 x3 → wO D cy X A s.heap S H locs → wX D S0 S → lv_has ls 6 [(0, .ref a0), (1, .int x1), (2, .int x2), (3, .int x3)] → wM D S a0 → sK S a0 = 17 → W p l e r_X12_firstNew s m args below meth c H locs 0 0 (MQ below (va_Qi (fun r S9 => wX D S0 S9 ∧ post r S9) (wB D cy X A) A) args s 0 0 A) (F0 m 18 ls [])) : ∀ (n : Nat) {S : wS} {H : Heap} {locs : List Loc} {ls : Array Slot} {a0 : Nat} {x1 : Int32} {x2 : Int32} {x3 : Int32} {x4 : Int32} {x5 : Int32}, wp_X12_firstNew_38 D post k_18 n S a0 x1 x2 x3 x4 x5 → wO D cy X A s.heap S H locs → wX D S0 S → lv_has ls 6 [(0, .ref a0), (1, .int x1), (2, .int x2), (3, .int x3), (4, .int x4), (5, .int x5)] → wM D S a0 → sK S a0 = 17 → W p l e r_X12_firstNew s m args below meth c H locs 0 0 (MQ below (va_Qi (fun r S9 => wX D S0 S9 ∧ post r S9) (wB D cy X A) A) args s 0 0 A) (F0 m 38 ls []) := by
  obtain ⟨hx, hb, hml, hown, hts⟩ := id F
  have hwg : ∀ w ∈ WG, w.before args s = true := fun w h => hts w (List.mem_cons_of_mem _ h)
  have i_17 : ∀ w ∈ u_ws RX12 TX12 43, w ∈ wz_X12_firstNew := fun w h => List.mem_cons_of_mem _ (wu_17 w h)
  have k_73 := hwg _ wf_RX12_73
  intro n
  induction n with
  | zero =>
    intro S H locs ls a0 x1 x2 x3 x4 x5 hp
    exact hp.elim
  | succ n ih =>
    intro S H locs ls a0 x1 x2 x3 x4 x5 hp hW hE hl hL_a0 hK_a0
    unfold wp_X12_firstNew_38 at hp
    refine lv_iload hx hb dX12_firstNew_38 (lv_at hl 5 rfl) ?_
    refine lv_iload_n hx hb dX12_firstNew_40 rfl (lv_at hl 2 rfl) ?_
    refine lv_icmp_ge (tgt := 82) hx hb dX12_firstNew_41 (by decide) (fun c_1 => ?_) (fun c_1 => ?_)
    · replace hp := hp.1 c_1
      refine lv_iload hx hb dX12_firstNew_82 (lv_at hl 4 rfl) ?_
      refine lv_if_ne (tgt := 89) hx hb dX12_firstNew_84 (by decide) (fun c_2 => ?_) (fun c_2 => ?_)
      · replace hp := hp.1 c_2
        obtain ⟨x_3, ex_3⟩ : ∃ z : Int32, z = x3 + 1 := ⟨_, rfl⟩
        replace hp := hp x_3 ex_3
        refine lv_iinc (v := x_3) (lv' := [(3, .int x_3), (0, .ref a0), (1, .int x1), (2, .int x2), (4, .int x4), (5, .int x5)]) hx hb dX12_firstNew_89 hl (k := 3) rfl (by rw [ex_3]; rfl) (by decide) rfl (fun ls hl => ?_)
        refine lv_goto (tgt := 18) hx hb dX12_firstNew_92 (by decide) ?_
        exact q_18 hp hW hE (lv_sub hl [1, 2, 3, 0] rfl) hL_a0 hK_a0
      · replace hp := hp.2 c_2
        refine lv_iload_n hx hb dX12_firstNew_87 rfl (lv_at hl 3 rfl) ?_
        exact w_iret hx hb hr hlocks hW ⟨hE, hp⟩ dX12_firstNew_88
    · replace hp := hp.2 c_1
      refine lv_iload hx hb dX12_firstNew_44 (lv_at hl 4 rfl) ?_
      refine lv_if_ne (tgt := 69) hx hb dX12_firstNew_46 (by decide) (fun c_4 => ?_) (fun c_4 => ?_)
      · replace hp := hp.1 c_4
        exact t_X12_firstNew_69 F hr hlocks hK q_18 ih hp hW hE (lv_sub hl [0, 1, 2, 3, 5] rfl) hL_a0 hK_a0
      · replace hp := hp.2 c_4
        refine lv_aload_n hx hb dX12_firstNew_49 rfl (lv_at hl 0 rfl) ?_
        refine lv_iload_n hx hb dX12_firstNew_50 rfl (lv_at hl 1 rfl) ?_
        refine lv_iload hx hb dX12_firstNew_51 (lv_at hl 5 rfl) ?_
        refine lv_aload_n hx hb dX12_firstNew_53 rfl (lv_at hl 0 rfl) ?_
        obtain ⟨y_5, ey_5, hL_y_5, hK_y_5, hp⟩ := hp
        refine w_get (k := 17) (f := 31) (T := TX12) (v := .ref y_5) F hK hW hL_a0 hK_a0 (by decide) rfl rfl (by decide) i_17 k_73 (by rw [show wv 17 31 S a0 = va_rf (sR S a0 31) from rfl, ey_5]; rfl) dX12_firstNew_54 ?_
        refine lv_iload_n hx hb dX12_firstNew_57 rfl (lv_at hl 1 rfl) ?_
        refine lv_iload_n hx hb dX12_firstNew_58 rfl (lv_at hl 2 rfl) ?_
        refine lv_iload_n hx hb dX12_firstNew_59 rfl (lv_at hl 3 rfl) ?_
        refine w_callI (va_runS (As := [.int x1, .int x2, .int x3]) (rest := [.ref y_5, .int x5, .int x1, .ref a0]) F (c_X12_placeOf l hp H.size) (va_cwS 3 hts (wg_S wm_RX12_403 wy_X12_placeOf) rfl rfl rfl (by decide +kernel) ⟨Nat.le_of_ble_eq_true rfl, Nat.le_of_ble_eq_true rfl⟩) (w_preS hK hW) rfl rfl hl.1 rfl (lv_room (Nat.le_of_ble_eq_true rfl)) dX12_firstNew_60 ⟨Nat.le_of_ble_eq_true rfl, Nat.le_of_ble_eq_true rfl⟩) hW (fun r_6 S_7 H locs hp hW => ?_)
        obtain ⟨hX_S_7, hp⟩ := hp
        refine W.widen (k := 0) (n := 0) (by decide) (by decide) ?_
        have hE := hE.trans hX_S_7
        have hK_a0 : sK S_7 a0 = 17 := (hX_S_7.2 a0 hL_a0).1.trans hK_a0
        have hL_a0 : wM D S_7 a0 := hX_S_7.M hL_a0
        have hK_y_5 : sK S_7 y_5 = 21 := (hX_S_7.2 y_5 hL_y_5).1.trans hK_y_5
        have hL_y_5 : wM D S_7 y_5 := hX_S_7.M hL_y_5
        refine w_callI (va_runV (As := [.int x1, .int x5, .ref y_5, .int r_6]) (rest := []) F (c_X12_passes l hL_a0 hK_a0 hL_y_5 hK_y_5 hp H.size) (cwV (C := RX12) 4 hts (wg_V wm_RX12_410 wy_X12_passes) rfl rfl rfl (by decide +kernel) ⟨Nat.le_of_ble_eq_true rfl, Nat.le_of_ble_eq_true rfl⟩) (w_preV hK hW hL_a0 hK_a0 (by decide) rfl) rfl rfl hl.1 rfl (lv_room (Nat.le_of_ble_eq_true rfl)) dX12_firstNew_63 ⟨Nat.le_of_ble_eq_true rfl, Nat.le_of_ble_eq_true rfl⟩) hW (fun r_8 S_9 H locs hp hW => ?_)
        obtain ⟨hX_S_9, hp⟩ := hp
        refine W.widen (k := 0) (n := 0) (by decide) (by decide) ?_
        have hE := hE.trans hX_S_9
        have hK_a0 : sK S_9 a0 = 17 := (hX_S_9.2 a0 hL_a0).1.trans hK_a0
        have hL_a0 : wM D S_9 a0 := hX_S_9.M hL_a0
        refine lv_if_eq (tgt := 73) hx hb dX12_firstNew_66 (by decide) (fun c_10 => ?_) (fun c_10 => ?_)
        · replace hp := hp.1 c_10
          refine lv_iconst (v := 0) hx hb dX12_firstNew_73 (by decide) ?_
          exact t_X12_firstNew_74 F hr hlocks hK q_18 ih hp hW hE (lv_sub hl [0, 1, 2, 3, 5] rfl) hL_a0 hK_a0
        · replace hp := hp.2 c_10
          exact t_X12_firstNew_69 F hr hlocks hK q_18 ih hp hW hE (lv_sub hl [0, 1, 2, 3, 5] rfl) hL_a0 hK_a0
set_option maxHeartbeats 4000000 in
set_option maxRecDepth 100000 in
theorem t_X12_firstNew_18 {p : Program} {l : Launch} {e : Env} {s : State} {m : MethodId} {args : Array Value} {below : List Frame} {meth : Method} {c : Code} {D : wD} {cy : Nat → ClassId} {X : va_W} {A : Nat → Prop} {S0 : wS} {post : Int32 → wS → Prop} (F : CallFix p m c cX12_firstNew 6 s args wz_X12_firstNew RX12) (hr : meth.sig.returnType = (some .int)) (hlocks : meth.locks = false) (hK : wK D cy A s) : ∀ (n : Nat) {S : wS} {H : Heap} {locs : List Loc} {ls : Array Slot} {a0 : Nat} {x1 : Int32} {x2 : Int32} {x3 : Int32}, wp_X12_firstNew_18 D post n S a0 x1 x2 x3 → wO D cy X A s.heap S H locs → wX D S0 S → lv_has ls 6 [(0, .ref a0), (1, .int x1), (2, .int x2), (3, .int x3)] → wM D S a0 → sK S a0 = 17 → W p l e r_X12_firstNew s m args below meth c H locs 0 0 (MQ below (va_Qi (fun r S9 => wX D S0 S9 ∧ post r S9) (wB D cy X A) A) args s 0 0 A) (F0 m 18 ls []) := by
  obtain ⟨hx, hb, hml, hown, hts⟩ := id F
  have hwg : ∀ w ∈ WG, w.before args s = true := fun w h => hts w (List.mem_cons_of_mem _ h)
  have i_17 : ∀ w ∈ u_ws RX12 TX12 43, w ∈ wz_X12_firstNew := fun w h => List.mem_cons_of_mem _ (wu_17 w h)
  have k_79 := hwg _ wf_RX12_79
  intro n
  induction n with
  | zero =>
    intro S H locs ls a0 x1 x2 x3 hp
    exact hp.elim
  | succ n ih =>
    intro S H locs ls a0 x1 x2 x3 hp hW hE hl hL_a0 hK_a0
    unfold wp_X12_firstNew_18 at hp
    refine lv_iload_n hx hb dX12_firstNew_18 rfl (lv_at hl 3 rfl) ?_
    refine lv_aload_n hx hb dX12_firstNew_19 rfl (lv_at hl 0 rfl) ?_
    obtain ⟨y_1, ey_1, hL_y_1, hK_y_1, hp⟩ := hp
    refine w_get (k := 17) (f := 33) (T := TX12) (v := .ref y_1) F hK hW hL_a0 hK_a0 (by decide) rfl rfl (by decide) i_17 k_79 (by rw [show wv 17 33 S a0 = va_rf (sR S a0 33) from rfl, ey_1]; rfl) dX12_firstNew_20 ?_
    refine lv_iload_n hx hb dX12_firstNew_23 rfl (lv_at hl 1 rfl) ?_
    refine lv_iload_n hx hb dX12_firstNew_24 rfl (lv_at hl 2 rfl) ?_
    refine w_callI (va_runS (As := [.int x1, .int x2]) (rest := [.ref y_1, .int x3]) F (c_X12_slot l hp H.size) (va_cwS 2 hts (wg_S wm_RX12_400 wy_X12_slot) rfl rfl rfl (by decide +kernel) ⟨Nat.le_of_ble_eq_true rfl, Nat.le_of_ble_eq_true rfl⟩) (w_preS hK hW) rfl rfl hl.1 rfl (lv_room (Nat.le_of_ble_eq_true rfl)) dX12_firstNew_25 ⟨Nat.le_of_ble_eq_true rfl, Nat.le_of_ble_eq_true rfl⟩) hW (fun r_2 S_3 H locs hp hW => ?_)
    obtain ⟨hX_S_3, hp⟩ := hp
    refine W.widen (k := 0) (n := 0) (by decide) (by decide) ?_
    have hE := hE.trans hX_S_3
    have hK_a0 : sK S_3 a0 = 17 := (hX_S_3.2 a0 hL_a0).1.trans hK_a0
    have hL_a0 : wM D S_3 a0 := hX_S_3.M hL_a0
    have hK_y_1 : sK S_3 y_1 = 21 := (hX_S_3.2 y_1 hL_y_1).1.trans hK_y_1
    have hL_y_1 : wM D S_3 y_1 := hX_S_3.M hL_y_1
    obtain ⟨h_4, hp⟩ := hp
    refine w_ild F hK hW hL_y_1 hK_y_1 h_4 dX12_firstNew_28 ?_
    refine lv_icmp_gt (tgt := 95) hx hb dX12_firstNew_29 (by decide) (fun c_5 => ?_) (fun c_5 => ?_)
    · replace hp := hp.1 c_5
      refine lv_iconst (v := (-1)) hx hb dX12_firstNew_95 (by decide) ?_
      exact w_iret hx hb hr hlocks hW ⟨hE, hp⟩ dX12_firstNew_96
    · replace hp := hp.2 c_5
      refine lv_iconst (v := 0) hx hb dX12_firstNew_32 (by decide) ?_
      refine lv_istore (lv' := [(4, .int (0 : Int32)), (0, .ref a0), (1, .int x1), (2, .int x2), (3, .int x3)]) hx hb dX12_firstNew_33 hl (by decide) rfl (fun ls hl => ?_)
      refine lv_iconst (v := 0) hx hb dX12_firstNew_35 (by decide) ?_
      refine lv_istore (lv' := [(5, .int (0 : Int32)), (4, .int (0 : Int32)), (0, .ref a0), (1, .int x1), (2, .int x2), (3, .int x3)]) hx hb dX12_firstNew_36 hl (by decide) rfl (fun ls hl => ?_)
      obtain ⟨n_6, hp⟩ := hp
      exact t_X12_firstNew_38 F hr hlocks hK ih n_6 hp hW hE (lv_sub hl [2, 3, 4, 5, 1, 0] rfl) hL_a0 hK_a0
set_option maxHeartbeats 4000000 in
set_option maxRecDepth 100000 in
theorem t_X12_firstNew_0 {p : Program} {l : Launch} {e : Env} {s : State} {m : MethodId} {args : Array Value} {below : List Frame} {meth : Method} {c : Code} {D : wD} {cy : Nat → ClassId} {X : va_W} {A : Nat → Prop} {S0 : wS} {post : Int32 → wS → Prop} (F : CallFix p m c cX12_firstNew 6 s args wz_X12_firstNew RX12) (hr : meth.sig.returnType = (some .int)) (hlocks : meth.locks = false) (hK : wK D cy A s) : ∀ {S : wS} {H : Heap} {locs : List Loc} {ls : Array Slot} {a0 : Nat} {x1 : Int32} {x2 : Int32}, wp_X12_firstNew_0 D post S a0 x1 x2 → wO D cy X A s.heap S H locs → wX D S0 S → lv_has ls 6 [(0, .ref a0), (1, .int x1), (2, .int x2)] → wM D S a0 → sK S a0 = 17 → W p l e r_X12_firstNew s m args below meth c H locs 0 0 (MQ below (va_Qi (fun r S9 => wX D S0 S9 ∧ post r S9) (wB D cy X A) A) args s 0 0 A) (F0 m 0 ls []) := by
  obtain ⟨hx, hb, hml, hown, hts⟩ := id F
  have hwg : ∀ w ∈ WG, w.before args s = true := fun w h => hts w (List.mem_cons_of_mem _ h)
  intro S H locs ls a0 x1 x2 hp hW hE hl hL_a0 hK_a0
  unfold wp_X12_firstNew_0 at hp
  refine lv_aload_n hx hb dX12_firstNew_0 rfl (lv_at hl 0 rfl) ?_
  refine lv_aload_n hx hb dX12_firstNew_1 rfl (lv_at hl 0 rfl) ?_
  refine lv_iload_n hx hb dX12_firstNew_2 rfl (lv_at hl 1 rfl) ?_
  refine lv_iload_n hx hb dX12_firstNew_3 rfl (lv_at hl 2 rfl) ?_
  refine w_callI (va_runV (As := [.int x1, .int x2]) (rest := [.ref a0]) F (c_X12_isGame l hL_a0 hK_a0 hp H.size) (cwV (C := RX12) 2 hts (wg_V wm_RX12_407 wy_X12_isGame) rfl rfl rfl (by decide +kernel) ⟨Nat.le_of_ble_eq_true rfl, Nat.le_of_ble_eq_true rfl⟩) (w_preV hK hW hL_a0 hK_a0 (by decide) rfl) rfl rfl hl.1 rfl (lv_room (Nat.le_of_ble_eq_true rfl)) dX12_firstNew_4 ⟨Nat.le_of_ble_eq_true rfl, Nat.le_of_ble_eq_true rfl⟩) hW (fun r_1 S_2 H locs hp hW => ?_)
  obtain ⟨hX_S_2, hp⟩ := hp
  refine W.widen (k := 0) (n := 0) (by decide) (by decide) ?_
  have hE := hE.trans hX_S_2
  have hK_a0 : sK S_2 a0 = 17 := (hX_S_2.2 a0 hL_a0).1.trans hK_a0
  have hL_a0 : wM D S_2 a0 := hX_S_2.M hL_a0
  refine lv_iconst (v := 1) hx hb dX12_firstNew_7 (by decide) ?_
  refine w_callI (va_runV (As := [.int r_1, .int (1 : Int32)]) (rest := []) F (c_X12_can l hL_a0 hK_a0 hp H.size) (cwV (C := RX12) 2 hts (wg_V wm_RX12_237 wy_X12_can) rfl rfl rfl (by decide +kernel) ⟨Nat.le_of_ble_eq_true rfl, Nat.le_of_ble_eq_true rfl⟩) (w_preV hK hW hL_a0 hK_a0 (by decide) rfl) rfl rfl hl.1 rfl (lv_room (Nat.le_of_ble_eq_true rfl)) dX12_firstNew_8 ⟨Nat.le_of_ble_eq_true rfl, Nat.le_of_ble_eq_true rfl⟩) hW (fun r_3 S_4 H locs hp hW => ?_)
  obtain ⟨hX_S_4, hp⟩ := hp
  refine W.widen (k := 0) (n := 0) (by decide) (by decide) ?_
  have hE := hE.trans hX_S_4
  have hK_a0 : sK S_4 a0 = 17 := (hX_S_4.2 a0 hL_a0).1.trans hK_a0
  have hL_a0 : wM D S_4 a0 := hX_S_4.M hL_a0
  refine lv_if_ne (tgt := 16) hx hb dX12_firstNew_11 (by decide) (fun c_5 => ?_) (fun c_5 => ?_)
  · replace hp := hp.1 c_5
    refine lv_iconst (v := 0) hx hb dX12_firstNew_16 (by decide) ?_
    refine lv_istore_n (lv' := [(3, .int (0 : Int32)), (0, .ref a0), (1, .int x1), (2, .int x2)]) hx hb dX12_firstNew_17 rfl hl (by decide) rfl (fun ls hl => ?_)
    obtain ⟨n_6, hp⟩ := hp
    exact t_X12_firstNew_18 F hr hlocks hK n_6 hp hW hE (lv_sub hl [1, 2, 3, 0] rfl) hL_a0 hK_a0
  · replace hp := hp.2 c_5
    refine lv_iconst (v := 0) hx hb dX12_firstNew_14 (by decide) ?_
    exact w_iret hx hb hr hlocks hW ⟨hE, hp⟩ dX12_firstNew_15
set_option maxHeartbeats 4000000 in
set_option maxRecDepth 100000 in
theorem c_X12_firstNew (l : Launch) {D : wD} {cy : Nat → ClassId} {X : va_W} {S0 : wS} {post : Int32 → wS → Prop} {a0 : Nat} {x1 : Int32} {x2 : Int32} (hL_a0 : wM D S0 a0) (hK_a0 : sK S0 a0 = 17) (hp : wp_X12_firstNew D post S0 a0 x1 x2) : mI D cy X l yX12_firstNew wz_X12_firstNew r_X12_firstNew [.ref a0, .int x1, .int x2] S0 (fun r S9 => wX D S0 S9 ∧ post r S9) := by
  intro sz
  refine Met.ofW (cc := cX12_firstNew) (maxL := 6) (ret := (some .int)) (by decide) rfl ?_
  intro p e s m args below meth c s₁ B hml hv
  obtain ⟨rfl, hsz, hP, hK, hD0, hRO⟩ := hv
  have hts := atoms_spec (ws := wz_X12_firstNew) B.pre
  have hown : s.vm.findClass RX12 = some m.cls := findClass_of_methodNamed B.named
  subst hsz
  have hD := hD0.self (sz := s.heap.size)
  have F : CallFix p m c cX12_firstNew 6 s _ wz_X12_firstNew RX12 := ⟨B.exec, B.bytes, hml, hown, hts⟩
  have hr := B.returns
  have hlocks := B.notSynchronized
  generalize hAe : va_A (wL cy X S0) s.heap.size = A at hD hK ⊢
  have hA : ∀ q, s.heap.size ≤ q → A q := fun q h => by rw [← hAe]; exact Or.inr h
  have hW : wO D cy X A s.heap S0 s.heap [] := ⟨hP, hD, va_S.rf, hA, hRO⟩
  have hl := lv_entry ([.ref a0, .int x1, .int x2]) (n := 6) (Nat.le_of_ble_eq_true rfl)
  rw [lg_entry_eq]
  generalize (lg_sl ([.ref a0, .int x1, .int x2]) ++ List.replicate (6 - (lg_sl ([.ref a0, .int x1, .int x2])).length) Slot.unset).toArray = ls at hl ⊢
  have hl : lv_has ls 6 [(0, .ref a0), (1, .int x1), (2, .int x2)] := hl
  unfold wp_X12_firstNew at hp
  exact t_X12_firstNew_0 F hr hlocks hK hp hW wX.rf (lv_sub hl [0, 1, 2] rfl) hL_a0 hK_a0
def wp_X12_fits_78 (D : wD) (post : Int32 → wS → Prop) (k_2 : wS → Nat → Int32 → Int32 → Prop) (S : wS) (a0 : Nat) (x1 : Int32) (x2 : Int32) : Prop :=
∀ x_1 : Int32, x_1 = x2 + 1 →
k_2 S a0 x1 x_1
def wp_X12_fits_76 (D : wD) (post : Int32 → wS → Prop)  (S : wS) : Prop :=
narrow .boolean (.int (0 : Int32)) = .int (0 : Int32) ∧ post (0 : Int32) S
def wp_X12_fits_2 (D : wD) (post : Int32 → wS → Prop)  : Nat → wS → Nat → Int32 → Int32 → Prop
  | 0, _, _, _, _ => False
  | n + 1, S, a0, x1, x2 =>
    wp_X12_squares D (fun r_1 S_2 => 
    ((r_1 ≤ x2 → narrow .boolean (.int (1 : Int32)) = .int (1 : Int32) ∧ post (1 : Int32) S_2) ∧
     (¬ r_1 ≤ x2 → ∃ y_4 : Nat, sR S_2 a0 31 = some y_4 ∧ wM D S_2 y_4 ∧ sK S_2 y_4 = 21 ∧
    vp_in (x1 + x2) (sN S_2 y_4) ∧
    ∀ x_6 : Int32, x_6 = (sI S_2 y_4 ((x1 + x2)).toNatClampNeg) →
    ∃ y_7 : Nat, sR S_2 a0 40 = some y_7 ∧ wM D S_2 y_7 ∧ sK S_2 y_7 = 21 ∧
    vp_in x2 (sN S_2 y_7) ∧
    ∀ x_9 : Int32, x_9 = (sI S_2 y_7 (x2).toNatClampNeg) →
    ((x_9 = (15 : Int32) → wp_X12_fits_78 D post (wp_X12_fits_2 D post n) S_2 a0 x1 x2) ∧
     (¬ x_9 = (15 : Int32) → ((¬ x_9 = (13 : Int32) → ((¬ x_9 = (14 : Int32) → ((x_9 = x_6 → wp_X12_fits_78 D post (wp_X12_fits_2 D post n) S_2 a0 x1 x2) ∧
     (¬ x_9 = x_6 → wp_X12_fits_76 D post S_2))) ∧
     (x_9 = (14 : Int32) → wp_X12_isOf D (fun r_14 S_15 => 
    ((r_14 = 0 → wp_X12_fits_76 D post S_15) ∧
     (¬ r_14 = 0 → wp_X12_fits_78 D post (wp_X12_fits_2 D post n) S_15 a0 x1 x2))) S_2 x_6 (0 : Int32)))) ∧
     (x_9 = (13 : Int32) → wp_X12_isOf D (fun r_17 S_18 => 
    ((r_17 = 0 → wp_X12_fits_76 D post S_18) ∧
     (¬ r_17 = 0 → wp_X12_fits_78 D post (wp_X12_fits_2 D post n) S_18 a0 x1 x2))) S_2 x_6 (1 : Int32)))))))) S a0
def wp_X12_fits_0 (D : wD) (post : Int32 → wS → Prop)  (S : wS) (a0 : Nat) (x1 : Int32) : Prop :=
∃ n_1 : Nat, wp_X12_fits_2 D post n_1 S a0 x1 (0 : Int32)
abbrev r_X12_fits : Room := { frames := 1, cells := 0, slots := 0, locals := 21 }
def wp_X12_fits (D : wD) (post : Int32 → wS → Prop) (S : wS) (a0 : Nat) (x1 : Int32) : Prop := wp_X12_fits_0 D post S a0 x1
set_option maxHeartbeats 4000000 in
set_option maxRecDepth 100000 in
theorem t_X12_fits_78 {p : Program} {l : Launch} {e : Env} {s : State} {m : MethodId} {args : Array Value} {below : List Frame} {meth : Method} {c : Code} {D : wD} {cy : Nat → ClassId} {X : va_W} {A : Nat → Prop} {S0 : wS} {post : Int32 → wS → Prop} (F : CallFix p m c cX12_fits 5 s args wz_X12_fits RX12) (hr : meth.sig.returnType = (some .boolean)) (hlocks : meth.locks = false) (hK : wK D cy A s) {k_2 : wS → Nat → Int32 → Int32 → Prop} (q_2 : ∀ {S : wS} {H : Heap} {locs : List Loc} {ls : Array Slot} {a0 : Nat} {x1 : Int32} {x2 : Int32}, k_2 S a0 x1 x2 → wO D cy X A s.heap S H locs → wX D S0 S → lv_has ls 5 [(0, .ref a0), (1, .int x1), (2, .int x2)] → wM D S a0 → sK S a0 = 17 → W p l e r_X12_fits s m args below meth c H locs 0 0 (MQ below (va_Qi (fun r S9 => wX D S0 S9 ∧ post r S9) (wB D cy X A) A) args s 0 0 A) (F0 m 2 ls [])) : ∀ {S : wS} {H : Heap} {locs : List Loc} {ls : Array Slot} {a0 : Nat} {x1 : Int32} {x2 : Int32}, wp_X12_fits_78 D post k_2 S a0 x1 x2 → wO D cy X A s.heap S H locs → wX D S0 S → lv_has ls 5 [(0, .ref a0), (1, .int x1), (2, .int x2)] → wM D S a0 → sK S a0 = 17 → W p l e r_X12_fits s m args below meth c H locs 0 0 (MQ below (va_Qi (fun r S9 => wX D S0 S9 ∧ post r S9) (wB D cy X A) A) args s 0 0 A) (F0 m 78 ls []) := by
  obtain ⟨hx, hb, hml, hown, hts⟩ := id F
  have hwg : ∀ w ∈ WG, w.before args s = true := fun w h => hts w (List.mem_cons_of_mem _ h)
  intro S H locs ls a0 x1 x2 hp hW hE hl hL_a0 hK_a0
  unfold wp_X12_fits_78 at hp
  obtain ⟨x_1, ex_1⟩ : ∃ z : Int32, z = x2 + 1 := ⟨_, rfl⟩
  replace hp := hp x_1 ex_1
  refine lv_iinc (v := x_1) (lv' := [(2, .int x_1), (0, .ref a0), (1, .int x1)]) hx hb dX12_fits_78 hl (k := 2) rfl (by rw [ex_1]; rfl) (by decide) rfl (fun ls hl => ?_)
  refine lv_goto (tgt := 2) hx hb dX12_fits_81 (by decide) ?_
  exact q_2 hp hW hE (lv_sub hl [1, 2, 0] rfl) hL_a0 hK_a0
set_option maxHeartbeats 4000000 in
set_option maxRecDepth 100000 in
theorem t_X12_fits_76 {p : Program} {l : Launch} {e : Env} {s : State} {m : MethodId} {args : Array Value} {below : List Frame} {meth : Method} {c : Code} {D : wD} {cy : Nat → ClassId} {X : va_W} {A : Nat → Prop} {S0 : wS} {post : Int32 → wS → Prop} (F : CallFix p m c cX12_fits 5 s args wz_X12_fits RX12) (hr : meth.sig.returnType = (some .boolean)) (hlocks : meth.locks = false) (hK : wK D cy A s) : ∀ {S : wS} {H : Heap} {locs : List Loc} {ls : Array Slot}, wp_X12_fits_76 D post S → wO D cy X A s.heap S H locs → wX D S0 S → lv_has ls 5 [] → W p l e r_X12_fits s m args below meth c H locs 0 0 (MQ below (va_Qi (fun r S9 => wX D S0 S9 ∧ post r S9) (wB D cy X A) A) args s 0 0 A) (F0 m 76 ls []) := by
  obtain ⟨hx, hb, hml, hown, hts⟩ := id F
  have hwg : ∀ w ∈ WG, w.before args s = true := fun w h => hts w (List.mem_cons_of_mem _ h)
  intro S H locs ls hp hW hE hl
  unfold wp_X12_fits_76 at hp
  refine lv_iconst (v := 0) hx hb dX12_fits_76 (by decide) ?_
  exact w_zret hx hb hr hlocks hW hp.1 ⟨hE, hp.2⟩ dX12_fits_77
set_option maxHeartbeats 4000000 in
set_option maxRecDepth 100000 in
theorem t_X12_fits_2 {p : Program} {l : Launch} {e : Env} {s : State} {m : MethodId} {args : Array Value} {below : List Frame} {meth : Method} {c : Code} {D : wD} {cy : Nat → ClassId} {X : va_W} {A : Nat → Prop} {S0 : wS} {post : Int32 → wS → Prop} (F : CallFix p m c cX12_fits 5 s args wz_X12_fits RX12) (hr : meth.sig.returnType = (some .boolean)) (hlocks : meth.locks = false) (hK : wK D cy A s) : ∀ (n : Nat) {S : wS} {H : Heap} {locs : List Loc} {ls : Array Slot} {a0 : Nat} {x1 : Int32} {x2 : Int32}, wp_X12_fits_2 D post n S a0 x1 x2 → wO D cy X A s.heap S H locs → wX D S0 S → lv_has ls 5 [(0, .ref a0), (1, .int x1), (2, .int x2)] → wM D S a0 → sK S a0 = 17 → W p l e r_X12_fits s m args below meth c H locs 0 0 (MQ below (va_Qi (fun r S9 => wX D S0 S9 ∧ post r S9) (wB D cy X A) A) args s 0 0 A) (F0 m 2 ls []) := by
  obtain ⟨hx, hb, hml, hown, hts⟩ := id F
  have hwg : ∀ w ∈ WG, w.before args s = true := fun w h => hts w (List.mem_cons_of_mem _ h)
  have i_17 : ∀ w ∈ u_ws RX12 TX12 43, w ∈ wz_X12_fits := fun w h => List.mem_cons_of_mem _ (wu_17 w h)
  have k_73 := hwg _ wf_RX12_73
  have k_97 := hwg _ wf_RX12_97
  intro n
  induction n with
  | zero =>
    intro S H locs ls a0 x1 x2 hp
    exact hp.elim
  | succ n ih =>
    intro S H locs ls a0 x1 x2 hp hW hE hl hL_a0 hK_a0
    unfold wp_X12_fits_2 at hp
    refine lv_iload_n hx hb dX12_fits_2 rfl (lv_at hl 2 rfl) ?_
    refine lv_aload_n hx hb dX12_fits_3 rfl (lv_at hl 0 rfl) ?_
    refine w_callI (va_runV (As := []) (rest := [.int x2]) F (c_X12_squares l hL_a0 hK_a0 hp H.size) (cwV (C := RX12) 0 hts (wg_V wm_RX12_113 wy_X12_squares) rfl rfl rfl (by decide +kernel) ⟨Nat.le_of_ble_eq_true rfl, Nat.le_of_ble_eq_true rfl⟩) (w_preV hK hW hL_a0 hK_a0 (by decide) rfl) rfl rfl hl.1 rfl (lv_room (Nat.le_of_ble_eq_true rfl)) dX12_fits_4 ⟨Nat.le_of_ble_eq_true rfl, Nat.le_of_ble_eq_true rfl⟩) hW (fun r_1 S_2 H locs hp hW => ?_)
    obtain ⟨hX_S_2, hp⟩ := hp
    refine W.widen (k := 0) (n := 0) (by decide) (by decide) ?_
    have hE := hE.trans hX_S_2
    have hK_a0 : sK S_2 a0 = 17 := (hX_S_2.2 a0 hL_a0).1.trans hK_a0
    have hL_a0 : wM D S_2 a0 := hX_S_2.M hL_a0
    refine lv_icmp_ge (tgt := 84) hx hb dX12_fits_7 (by decide) (fun c_3 => ?_) (fun c_3 => ?_)
    · replace hp := hp.1 c_3
      refine lv_iconst (v := 1) hx hb dX12_fits_84 (by decide) ?_
      exact w_zret hx hb hr hlocks hW hp.1 ⟨hE, hp.2⟩ dX12_fits_85
    · replace hp := hp.2 c_3
      refine lv_aload_n hx hb dX12_fits_10 rfl (lv_at hl 0 rfl) ?_
      obtain ⟨y_4, ey_4, hL_y_4, hK_y_4, hp⟩ := hp
      refine w_get (k := 17) (f := 31) (T := TX12) (v := .ref y_4) F hK hW hL_a0 hK_a0 (by decide) rfl rfl (by decide) i_17 k_73 (by rw [show wv 17 31 S_2 a0 = va_rf (sR S_2 a0 31) from rfl, ey_4]; rfl) dX12_fits_11 ?_
      refine lv_iload_n hx hb dX12_fits_14 rfl (lv_at hl 1 rfl) ?_
      refine lv_iload_n hx hb dX12_fits_15 rfl (lv_at hl 2 rfl) ?_
      refine lv_iadd hx hb dX12_fits_16 ?_
      obtain ⟨h_5, hp⟩ := hp
      refine w_ild F hK hW hL_y_4 hK_y_4 h_5 dX12_fits_17 ?_
      refine lv_topi (fun x_6 ex_6 => ?_)
      replace hp := hp x_6 ex_6
      refine lv_istore_n (lv' := [(3, .int x_6), (0, .ref a0), (1, .int x1), (2, .int x2)]) hx hb dX12_fits_18 rfl hl (by decide) rfl (fun ls hl => ?_)
      refine lv_aload_n hx hb dX12_fits_19 rfl (lv_at hl 1 rfl) ?_
      obtain ⟨y_7, ey_7, hL_y_7, hK_y_7, hp⟩ := hp
      refine w_get (k := 17) (f := 40) (T := TX12) (v := .ref y_7) F hK hW hL_a0 hK_a0 (by decide) rfl rfl (by decide) i_17 k_97 (by rw [show wv 17 40 S_2 a0 = va_rf (sR S_2 a0 40) from rfl, ey_7]; rfl) dX12_fits_20 ?_
      refine lv_iload_n hx hb dX12_fits_23 rfl (lv_at hl 3 rfl) ?_
      obtain ⟨h_8, hp⟩ := hp
      refine w_ild F hK hW hL_y_7 hK_y_7 h_8 dX12_fits_24 ?_
      refine lv_topi (fun x_9 ex_9 => ?_)
      replace hp := hp x_9 ex_9
      refine lv_istore (lv' := [(4, .int x_9), (3, .int x_6), (0, .ref a0), (1, .int x1), (2, .int x2)]) hx hb dX12_fits_25 hl (by decide) rfl (fun ls hl => ?_)
      refine lv_iload hx hb dX12_fits_27 (lv_at hl 0 rfl) ?_
      refine lv_bipush (v := 15) hx hb dX12_fits_29 (by decide) ?_
      refine lv_icmp_eq (tgt := 78) hx hb dX12_fits_31 (by decide) (fun c_10 => ?_) (fun c_10 => ?_)
      · replace hp := hp.1 c_10
        exact t_X12_fits_78 F hr hlocks hK ih hp hW hE (lv_sub hl [2, 3, 4] rfl) hL_a0 hK_a0
      · replace hp := hp.2 c_10
        refine lv_iload hx hb dX12_fits_34 (lv_at hl 0 rfl) ?_
        refine lv_bipush (v := 13) hx hb dX12_fits_36 (by decide) ?_
        refine lv_icmp_ne (tgt := 52) hx hb dX12_fits_38 (by decide) (fun c_11 => ?_) (fun c_11 => ?_)
        · replace hp := hp.1 c_11
          refine lv_iload hx hb dX12_fits_52 (lv_at hl 0 rfl) ?_
          refine lv_bipush (v := 14) hx hb dX12_fits_54 (by decide) ?_
          refine lv_icmp_ne (tgt := 70) hx hb dX12_fits_56 (by decide) (fun c_12 => ?_) (fun c_12 => ?_)
          · replace hp := hp.1 c_12
            refine lv_iload hx hb dX12_fits_70 (lv_at hl 0 rfl) ?_
            refine lv_iload_n hx hb dX12_fits_72 rfl (lv_at hl 1 rfl) ?_
            refine lv_icmp_eq (tgt := 78) hx hb dX12_fits_73 (by decide) (fun c_13 => ?_) (fun c_13 => ?_)
            · replace hp := hp.1 c_13
              exact t_X12_fits_78 F hr hlocks hK ih hp hW hE (lv_sub hl [2, 3, 4] rfl) hL_a0 hK_a0
            · replace hp := hp.2 c_13
              exact t_X12_fits_76 F hr hlocks hK hp hW hE (lv_sub hl [] rfl)
          · replace hp := hp.2 c_12
            refine lv_iload_n hx hb dX12_fits_59 rfl (lv_at hl 1 rfl) ?_
            refine lv_iconst (v := 0) hx hb dX12_fits_60 (by decide) ?_
            refine w_callI (va_runS (As := [.int x_6, .int (0 : Int32)]) (rest := []) F (c_X12_isOf l hp H.size) (va_cwS 2 hts (wg_S wm_RX12_154 wy_X12_isOf) rfl rfl rfl (by decide +kernel) ⟨Nat.le_of_ble_eq_true rfl, Nat.le_of_ble_eq_true rfl⟩) (w_preS hK hW) rfl rfl hl.1 rfl (lv_room (Nat.le_of_ble_eq_true rfl)) dX12_fits_61 ⟨Nat.le_of_ble_eq_true rfl, Nat.le_of_ble_eq_true rfl⟩) hW (fun r_14 S_15 H locs hp hW => ?_)
            obtain ⟨hX_S_15, hp⟩ := hp
            refine W.widen (k := 0) (n := 0) (by decide) (by decide) ?_
            have hE := hE.trans hX_S_15
            have hK_a0 : sK S_15 a0 = 17 := (hX_S_15.2 a0 hL_a0).1.trans hK_a0
            have hL_a0 : wM D S_15 a0 := hX_S_15.M hL_a0
            refine lv_if_eq (tgt := 76) hx hb dX12_fits_64 (by decide) (fun c_16 => ?_) (fun c_16 => ?_)
            · replace hp := hp.1 c_16
              exact t_X12_fits_76 F hr hlocks hK hp hW hE (lv_sub hl [] rfl)
            · replace hp := hp.2 c_16
              refine lv_goto (tgt := 78) hx hb dX12_fits_67 (by decide) ?_
              exact t_X12_fits_78 F hr hlocks hK ih hp hW hE (lv_sub hl [2, 3, 4] rfl) hL_a0 hK_a0
        · replace hp := hp.2 c_11
          refine lv_iload_n hx hb dX12_fits_41 rfl (lv_at hl 1 rfl) ?_
          refine lv_iconst (v := 1) hx hb dX12_fits_42 (by decide) ?_
          refine w_callI (va_runS (As := [.int x_6, .int (1 : Int32)]) (rest := []) F (c_X12_isOf l hp H.size) (va_cwS 2 hts (wg_S wm_RX12_154 wy_X12_isOf) rfl rfl rfl (by decide +kernel) ⟨Nat.le_of_ble_eq_true rfl, Nat.le_of_ble_eq_true rfl⟩) (w_preS hK hW) rfl rfl hl.1 rfl (lv_room (Nat.le_of_ble_eq_true rfl)) dX12_fits_43 ⟨Nat.le_of_ble_eq_true rfl, Nat.le_of_ble_eq_true rfl⟩) hW (fun r_17 S_18 H locs hp hW => ?_)
          obtain ⟨hX_S_18, hp⟩ := hp
          refine W.widen (k := 0) (n := 0) (by decide) (by decide) ?_
          have hE := hE.trans hX_S_18
          have hK_a0 : sK S_18 a0 = 17 := (hX_S_18.2 a0 hL_a0).1.trans hK_a0
          have hL_a0 : wM D S_18 a0 := hX_S_18.M hL_a0
          refine lv_if_eq (tgt := 76) hx hb dX12_fits_46 (by decide) (fun c_19 => ?_) (fun c_19 => ?_)
          · replace hp := hp.1 c_19
            exact t_X12_fits_76 F hr hlocks hK hp hW hE (lv_sub hl [] rfl)
          · replace hp := hp.2 c_19
            refine lv_goto (tgt := 78) hx hb dX12_fits_49 (by decide) ?_
            exact t_X12_fits_78 F hr hlocks hK ih hp hW hE (lv_sub hl [2, 3, 4] rfl) hL_a0 hK_a0
set_option maxHeartbeats 4000000 in
set_option maxRecDepth 100000 in
theorem t_X12_fits_0 {p : Program} {l : Launch} {e : Env} {s : State} {m : MethodId} {args : Array Value} {below : List Frame} {meth : Method} {c : Code} {D : wD} {cy : Nat → ClassId} {X : va_W} {A : Nat → Prop} {S0 : wS} {post : Int32 → wS → Prop} (F : CallFix p m c cX12_fits 5 s args wz_X12_fits RX12) (hr : meth.sig.returnType = (some .boolean)) (hlocks : meth.locks = false) (hK : wK D cy A s) : ∀ {S : wS} {H : Heap} {locs : List Loc} {ls : Array Slot} {a0 : Nat} {x1 : Int32}, wp_X12_fits_0 D post S a0 x1 → wO D cy X A s.heap S H locs → wX D S0 S → lv_has ls 5 [(0, .ref a0), (1, .int x1)] → wM D S a0 → sK S a0 = 17 → W p l e r_X12_fits s m args below meth c H locs 0 0 (MQ below (va_Qi (fun r S9 => wX D S0 S9 ∧ post r S9) (wB D cy X A) A) args s 0 0 A) (F0 m 0 ls []) := by
  obtain ⟨hx, hb, hml, hown, hts⟩ := id F
  have hwg : ∀ w ∈ WG, w.before args s = true := fun w h => hts w (List.mem_cons_of_mem _ h)
  intro S H locs ls a0 x1 hp hW hE hl hL_a0 hK_a0
  unfold wp_X12_fits_0 at hp
  refine lv_iconst (v := 0) hx hb dX12_fits_0 (by decide) ?_
  refine lv_istore_n (lv' := [(2, .int (0 : Int32)), (0, .ref a0), (1, .int x1)]) hx hb dX12_fits_1 rfl hl (by decide) rfl (fun ls hl => ?_)
  obtain ⟨n_1, hp⟩ := hp
  exact t_X12_fits_2 F hr hlocks hK n_1 hp hW hE (lv_sub hl [1, 2, 0] rfl) hL_a0 hK_a0
set_option maxHeartbeats 4000000 in
set_option maxRecDepth 100000 in
theorem c_X12_fits (l : Launch) {D : wD} {cy : Nat → ClassId} {X : va_W} {S0 : wS} {post : Int32 → wS → Prop} {a0 : Nat} {x1 : Int32} (hL_a0 : wM D S0 a0) (hK_a0 : sK S0 a0 = 17) (hp : wp_X12_fits D post S0 a0 x1) : mI D cy X l yX12_fits wz_X12_fits r_X12_fits [.ref a0, .int x1] S0 (fun r S9 => wX D S0 S9 ∧ post r S9) := by
  intro sz
  refine Met.ofW (cc := cX12_fits) (maxL := 5) (ret := (some .boolean)) (by decide) rfl ?_
  intro p e s m args below meth c s₁ B hml hv
  obtain ⟨rfl, hsz, hP, hK, hD0, hRO⟩ := hv
  have hts := atoms_spec (ws := wz_X12_fits) B.pre
  have hown : s.vm.findClass RX12 = some m.cls := findClass_of_methodNamed B.named
  subst hsz
  have hD := hD0.self (sz := s.heap.size)
  have F : CallFix p m c cX12_fits 5 s _ wz_X12_fits RX12 := ⟨B.exec, B.bytes, hml, hown, hts⟩
  have hr := B.returns
  have hlocks := B.notSynchronized
  generalize hAe : va_A (wL cy X S0) s.heap.size = A at hD hK ⊢
  have hA : ∀ q, s.heap.size ≤ q → A q := fun q h => by rw [← hAe]; exact Or.inr h
  have hW : wO D cy X A s.heap S0 s.heap [] := ⟨hP, hD, va_S.rf, hA, hRO⟩
  have hl := lv_entry ([.ref a0, .int x1]) (n := 5) (Nat.le_of_ble_eq_true rfl)
  rw [lg_entry_eq]
  generalize (lg_sl ([.ref a0, .int x1]) ++ List.replicate (5 - (lg_sl ([.ref a0, .int x1])).length) Slot.unset).toArray = ls at hl ⊢
  have hl : lv_has ls 5 [(0, .ref a0), (1, .int x1)] := hl
  unfold wp_X12_fits at hp
  exact t_X12_fits_0 F hr hlocks hK hp hW wX.rf (lv_sub hl [0, 1] rfl) hL_a0 hK_a0
def wp_X12_forcesMate_20 (D : wD) (post : Int32 → wS → Prop)  (S : wS) (t0 : Int32) : Prop :=
post t0 S
def wp_X12_forcesMate_0 (D : wD) (post : Int32 → wS → Prop)  (S : wS) (a0 : Nat) : Prop :=
wp_X12_isAskable D (fun r_1 S_2 => 
wp_X12_can D (fun r_3 S_4 => 
((r_3 = 0 → wp_X12_forcesMate_20 D post S_4 (0 : Int32)) ∧
 (¬ r_3 = 0 → wp_X12_matesIn D (fun r_6 S_7 => 
wp_X12_forcesMate_20 D post S_7 r_6) S_4 a0))) S_2 a0 r_1 (1 : Int32)) S a0
abbrev r_X12_forcesMate : Room := { frames := 12, cells := 0, slots := 0, locals := 286 }
def wp_X12_forcesMate (D : wD) (post : Int32 → wS → Prop) (S : wS) (a0 : Nat) : Prop := wp_X12_forcesMate_0 D post S a0
set_option maxHeartbeats 4000000 in
set_option maxRecDepth 100000 in
theorem t_X12_forcesMate_20 {p : Program} {l : Launch} {e : Env} {s : State} {m : MethodId} {args : Array Value} {below : List Frame} {meth : Method} {c : Code} {D : wD} {cy : Nat → ClassId} {X : va_W} {A : Nat → Prop} {S0 : wS} {post : Int32 → wS → Prop} (F : CallFix p m c cX12_forcesMate 1 s args wz_X12_forcesMate RX12) (hr : meth.sig.returnType = (some .int)) (hlocks : meth.locks = false) (hK : wK D cy A s) : ∀ {S : wS} {H : Heap} {locs : List Loc} {ls : Array Slot} {t0 : Int32}, wp_X12_forcesMate_20 D post S t0 → wO D cy X A s.heap S H locs → wX D S0 S → lv_has ls 1 [] → W p l e r_X12_forcesMate s m args below meth c H locs 0 0 (MQ below (va_Qi (fun r S9 => wX D S0 S9 ∧ post r S9) (wB D cy X A) A) args s 0 0 A) (F0 m 20 ls [.int t0]) := by
  obtain ⟨hx, hb, hml, hown, hts⟩ := id F
  have hwg : ∀ w ∈ WG, w.before args s = true := fun w h => hts w (List.mem_cons_of_mem _ h)
  intro S H locs ls t0 hp hW hE hl
  unfold wp_X12_forcesMate_20 at hp
  exact w_iret hx hb hr hlocks hW ⟨hE, hp⟩ dX12_forcesMate_20
set_option maxHeartbeats 4000000 in
set_option maxRecDepth 100000 in
theorem t_X12_forcesMate_0 {p : Program} {l : Launch} {e : Env} {s : State} {m : MethodId} {args : Array Value} {below : List Frame} {meth : Method} {c : Code} {D : wD} {cy : Nat → ClassId} {X : va_W} {A : Nat → Prop} {S0 : wS} {post : Int32 → wS → Prop} (F : CallFix p m c cX12_forcesMate 1 s args wz_X12_forcesMate RX12) (hr : meth.sig.returnType = (some .int)) (hlocks : meth.locks = false) (hK : wK D cy A s) : ∀ {S : wS} {H : Heap} {locs : List Loc} {ls : Array Slot} {a0 : Nat}, wp_X12_forcesMate_0 D post S a0 → wO D cy X A s.heap S H locs → wX D S0 S → lv_has ls 1 [(0, .ref a0)] → wM D S a0 → sK S a0 = 17 → W p l e r_X12_forcesMate s m args below meth c H locs 0 0 (MQ below (va_Qi (fun r S9 => wX D S0 S9 ∧ post r S9) (wB D cy X A) A) args s 0 0 A) (F0 m 0 ls []) := by
  obtain ⟨hx, hb, hml, hown, hts⟩ := id F
  have hwg : ∀ w ∈ WG, w.before args s = true := fun w h => hts w (List.mem_cons_of_mem _ h)
  intro S H locs ls a0 hp hW hE hl hL_a0 hK_a0
  unfold wp_X12_forcesMate_0 at hp
  refine lv_aload_n hx hb dX12_forcesMate_0 rfl (lv_at hl 0 rfl) ?_
  refine lv_aload_n hx hb dX12_forcesMate_1 rfl (lv_at hl 0 rfl) ?_
  refine w_callI (va_runV (As := []) (rest := [.ref a0]) F (c_X12_isAskable l hL_a0 hK_a0 hp H.size) (cwV (C := RX12) 0 hts (wg_V wm_RX12_284 wy_X12_isAskable) rfl rfl rfl (by decide +kernel) ⟨Nat.le_of_ble_eq_true rfl, Nat.le_of_ble_eq_true rfl⟩) (w_preV hK hW hL_a0 hK_a0 (by decide) rfl) rfl rfl hl.1 rfl (lv_room (Nat.le_of_ble_eq_true rfl)) dX12_forcesMate_2 ⟨Nat.le_of_ble_eq_true rfl, Nat.le_of_ble_eq_true rfl⟩) hW (fun r_1 S_2 H locs hp hW => ?_)
  obtain ⟨hX_S_2, hp⟩ := hp
  refine W.widen (k := 0) (n := 0) (by decide) (by decide) ?_
  have hE := hE.trans hX_S_2
  have hK_a0 : sK S_2 a0 = 17 := (hX_S_2.2 a0 hL_a0).1.trans hK_a0
  have hL_a0 : wM D S_2 a0 := hX_S_2.M hL_a0
  refine lv_iconst (v := 1) hx hb dX12_forcesMate_5 (by decide) ?_
  refine w_callI (va_runV (As := [.int r_1, .int (1 : Int32)]) (rest := []) F (c_X12_can l hL_a0 hK_a0 hp H.size) (cwV (C := RX12) 2 hts (wg_V wm_RX12_237 wy_X12_can) rfl rfl rfl (by decide +kernel) ⟨Nat.le_of_ble_eq_true rfl, Nat.le_of_ble_eq_true rfl⟩) (w_preV hK hW hL_a0 hK_a0 (by decide) rfl) rfl rfl hl.1 rfl (lv_room (Nat.le_of_ble_eq_true rfl)) dX12_forcesMate_6 ⟨Nat.le_of_ble_eq_true rfl, Nat.le_of_ble_eq_true rfl⟩) hW (fun r_3 S_4 H locs hp hW => ?_)
  obtain ⟨hX_S_4, hp⟩ := hp
  refine W.widen (k := 0) (n := 0) (by decide) (by decide) ?_
  have hE := hE.trans hX_S_4
  have hK_a0 : sK S_4 a0 = 17 := (hX_S_4.2 a0 hL_a0).1.trans hK_a0
  have hL_a0 : wM D S_4 a0 := hX_S_4.M hL_a0
  refine lv_if_eq (tgt := 19) hx hb dX12_forcesMate_9 (by decide) (fun c_5 => ?_) (fun c_5 => ?_)
  · replace hp := hp.1 c_5
    refine lv_iconst (v := 0) hx hb dX12_forcesMate_19 (by decide) ?_
    exact t_X12_forcesMate_20 F hr hlocks hK hp hW hE (lv_sub hl [] rfl)
  · replace hp := hp.2 c_5
    refine lv_aload_n hx hb dX12_forcesMate_12 rfl (lv_at hl 0 rfl) ?_
    refine w_callI (va_runV (As := []) (rest := []) F (c_X12_matesIn l hL_a0 hK_a0 hp H.size) (cwV (C := RX12) 0 hts (wg_V wm_RX12_473 wy_X12_matesIn) rfl rfl rfl (by decide +kernel) ⟨Nat.le_of_ble_eq_true rfl, Nat.le_of_ble_eq_true rfl⟩) (w_preV hK hW hL_a0 hK_a0 (by decide) rfl) rfl rfl hl.1 rfl (lv_room (Nat.le_of_ble_eq_true rfl)) dX12_forcesMate_13 ⟨Nat.le_of_ble_eq_true rfl, Nat.le_of_ble_eq_true rfl⟩) hW (fun r_6 S_7 H locs hp hW => ?_)
    obtain ⟨hX_S_7, hp⟩ := hp
    refine W.widen (k := 0) (n := 0) (by decide) (by decide) ?_
    have hE := hE.trans hX_S_7
    have hK_a0 : sK S_7 a0 = 17 := (hX_S_7.2 a0 hL_a0).1.trans hK_a0
    have hL_a0 : wM D S_7 a0 := hX_S_7.M hL_a0
    refine lv_goto (tgt := 20) hx hb dX12_forcesMate_16 (by decide) ?_
    exact t_X12_forcesMate_20 F hr hlocks hK hp hW hE (lv_sub hl [] rfl)
set_option maxHeartbeats 4000000 in
set_option maxRecDepth 100000 in
theorem c_X12_forcesMate (l : Launch) {D : wD} {cy : Nat → ClassId} {X : va_W} {S0 : wS} {post : Int32 → wS → Prop} {a0 : Nat} (hL_a0 : wM D S0 a0) (hK_a0 : sK S0 a0 = 17) (hp : wp_X12_forcesMate D post S0 a0) : mI D cy X l yX12_forcesMate wz_X12_forcesMate r_X12_forcesMate [.ref a0] S0 (fun r S9 => wX D S0 S9 ∧ post r S9) := by
  intro sz
  refine Met.ofW (cc := cX12_forcesMate) (maxL := 1) (ret := (some .int)) (by decide) rfl ?_
  intro p e s m args below meth c s₁ B hml hv
  obtain ⟨rfl, hsz, hP, hK, hD0, hRO⟩ := hv
  have hts := atoms_spec (ws := wz_X12_forcesMate) B.pre
  have hown : s.vm.findClass RX12 = some m.cls := findClass_of_methodNamed B.named
  subst hsz
  have hD := hD0.self (sz := s.heap.size)
  have F : CallFix p m c cX12_forcesMate 1 s _ wz_X12_forcesMate RX12 := ⟨B.exec, B.bytes, hml, hown, hts⟩
  have hr := B.returns
  have hlocks := B.notSynchronized
  generalize hAe : va_A (wL cy X S0) s.heap.size = A at hD hK ⊢
  have hA : ∀ q, s.heap.size ≤ q → A q := fun q h => by rw [← hAe]; exact Or.inr h
  have hW : wO D cy X A s.heap S0 s.heap [] := ⟨hP, hD, va_S.rf, hA, hRO⟩
  have hl := lv_entry ([.ref a0]) (n := 1) (Nat.le_of_ble_eq_true rfl)
  rw [lg_entry_eq]
  generalize (lg_sl ([.ref a0]) ++ List.replicate (1 - (lg_sl ([.ref a0])).length) Slot.unset).toArray = ls at hl ⊢
  have hl : lv_has ls 1 [(0, .ref a0)] := hl
  unfold wp_X12_forcesMate at hp
  exact t_X12_forcesMate_0 F hr hlocks hK hp hW wX.rf (lv_sub hl [0] rfl) hL_a0 hK_a0
def wp_X12_gameCount_22 (D : wD) (post : Int32 → wS → Prop)  (S : wS) (t0 : Int32) : Prop :=
post t0 S
def wp_X12_gameCount_0 (D : wD) (post : Int32 → wS → Prop)  (S : wS) (a0 : Nat) (x1 : Int32) : Prop :=
wp_X12_isShelf D (fun r_1 S_2 => 
wp_X12_can D (fun r_3 S_4 => 
((r_3 = 0 → wp_X12_gameCount_22 D post S_4 (0 : Int32)) ∧
 (¬ r_3 = 0 → ∃ y_6 : Nat, sR S_4 a0 30 = some y_6 ∧ wM D S_4 y_6 ∧ sK S_4 y_6 = 21 ∧
vp_in x1 (sN S_4 y_6) ∧
wp_X12_gameCount_22 D post S_4 (sI S_4 y_6 (x1).toNatClampNeg)))) S_2 a0 r_1 (1 : Int32)) S x1
abbrev r_X12_gameCount : Room := { frames := 2, cells := 0, slots := 0, locals := 42 }
def wp_X12_gameCount (D : wD) (post : Int32 → wS → Prop) (S : wS) (a0 : Nat) (x1 : Int32) : Prop := wp_X12_gameCount_0 D post S a0 x1
set_option maxHeartbeats 4000000 in
set_option maxRecDepth 100000 in
theorem t_X12_gameCount_22 {p : Program} {l : Launch} {e : Env} {s : State} {m : MethodId} {args : Array Value} {below : List Frame} {meth : Method} {c : Code} {D : wD} {cy : Nat → ClassId} {X : va_W} {A : Nat → Prop} {S0 : wS} {post : Int32 → wS → Prop} (F : CallFix p m c cX12_gameCount 2 s args wz_X12_gameCount RX12) (hr : meth.sig.returnType = (some .int)) (hlocks : meth.locks = false) (hK : wK D cy A s) : ∀ {S : wS} {H : Heap} {locs : List Loc} {ls : Array Slot} {t0 : Int32}, wp_X12_gameCount_22 D post S t0 → wO D cy X A s.heap S H locs → wX D S0 S → lv_has ls 2 [] → W p l e r_X12_gameCount s m args below meth c H locs 0 0 (MQ below (va_Qi (fun r S9 => wX D S0 S9 ∧ post r S9) (wB D cy X A) A) args s 0 0 A) (F0 m 22 ls [.int t0]) := by
  obtain ⟨hx, hb, hml, hown, hts⟩ := id F
  have hwg : ∀ w ∈ WG, w.before args s = true := fun w h => hts w (List.mem_cons_of_mem _ h)
  intro S H locs ls t0 hp hW hE hl
  unfold wp_X12_gameCount_22 at hp
  exact w_iret hx hb hr hlocks hW ⟨hE, hp⟩ dX12_gameCount_22
set_option maxHeartbeats 4000000 in
set_option maxRecDepth 100000 in
theorem t_X12_gameCount_0 {p : Program} {l : Launch} {e : Env} {s : State} {m : MethodId} {args : Array Value} {below : List Frame} {meth : Method} {c : Code} {D : wD} {cy : Nat → ClassId} {X : va_W} {A : Nat → Prop} {S0 : wS} {post : Int32 → wS → Prop} (F : CallFix p m c cX12_gameCount 2 s args wz_X12_gameCount RX12) (hr : meth.sig.returnType = (some .int)) (hlocks : meth.locks = false) (hK : wK D cy A s) : ∀ {S : wS} {H : Heap} {locs : List Loc} {ls : Array Slot} {a0 : Nat} {x1 : Int32}, wp_X12_gameCount_0 D post S a0 x1 → wO D cy X A s.heap S H locs → wX D S0 S → lv_has ls 2 [(0, .ref a0), (1, .int x1)] → wM D S a0 → sK S a0 = 17 → W p l e r_X12_gameCount s m args below meth c H locs 0 0 (MQ below (va_Qi (fun r S9 => wX D S0 S9 ∧ post r S9) (wB D cy X A) A) args s 0 0 A) (F0 m 0 ls []) := by
  obtain ⟨hx, hb, hml, hown, hts⟩ := id F
  have hwg : ∀ w ∈ WG, w.before args s = true := fun w h => hts w (List.mem_cons_of_mem _ h)
  have i_17 : ∀ w ∈ u_ws RX12 TX12 43, w ∈ wz_X12_gameCount := fun w h => List.mem_cons_of_mem _ (wu_17 w h)
  have k_69 := hwg _ wf_RX12_69
  intro S H locs ls a0 x1 hp hW hE hl hL_a0 hK_a0
  unfold wp_X12_gameCount_0 at hp
  refine lv_aload_n hx hb dX12_gameCount_0 rfl (lv_at hl 0 rfl) ?_
  refine lv_iload_n hx hb dX12_gameCount_1 rfl (lv_at hl 1 rfl) ?_
  refine w_callI (va_runS (As := [.int x1]) (rest := [.ref a0]) F (c_X12_isShelf l hp H.size) (va_cwS 1 hts (wg_S wm_RX12_397 wy_X12_isShelf) rfl rfl rfl (by decide +kernel) ⟨Nat.le_of_ble_eq_true rfl, Nat.le_of_ble_eq_true rfl⟩) (w_preS hK hW) rfl rfl hl.1 rfl (lv_room (Nat.le_of_ble_eq_true rfl)) dX12_gameCount_2 ⟨Nat.le_of_ble_eq_true rfl, Nat.le_of_ble_eq_true rfl⟩) hW (fun r_1 S_2 H locs hp hW => ?_)
  obtain ⟨hX_S_2, hp⟩ := hp
  refine W.widen (k := 0) (n := 0) (by decide) (by decide) ?_
  have hE := hE.trans hX_S_2
  have hK_a0 : sK S_2 a0 = 17 := (hX_S_2.2 a0 hL_a0).1.trans hK_a0
  have hL_a0 : wM D S_2 a0 := hX_S_2.M hL_a0
  refine lv_iconst (v := 1) hx hb dX12_gameCount_5 (by decide) ?_
  refine w_callI (va_runV (As := [.int r_1, .int (1 : Int32)]) (rest := []) F (c_X12_can l hL_a0 hK_a0 hp H.size) (cwV (C := RX12) 2 hts (wg_V wm_RX12_237 wy_X12_can) rfl rfl rfl (by decide +kernel) ⟨Nat.le_of_ble_eq_true rfl, Nat.le_of_ble_eq_true rfl⟩) (w_preV hK hW hL_a0 hK_a0 (by decide) rfl) rfl rfl hl.1 rfl (lv_room (Nat.le_of_ble_eq_true rfl)) dX12_gameCount_6 ⟨Nat.le_of_ble_eq_true rfl, Nat.le_of_ble_eq_true rfl⟩) hW (fun r_3 S_4 H locs hp hW => ?_)
  obtain ⟨hX_S_4, hp⟩ := hp
  refine W.widen (k := 0) (n := 0) (by decide) (by decide) ?_
  have hE := hE.trans hX_S_4
  have hK_a0 : sK S_4 a0 = 17 := (hX_S_4.2 a0 hL_a0).1.trans hK_a0
  have hL_a0 : wM D S_4 a0 := hX_S_4.M hL_a0
  refine lv_if_eq (tgt := 21) hx hb dX12_gameCount_9 (by decide) (fun c_5 => ?_) (fun c_5 => ?_)
  · replace hp := hp.1 c_5
    refine lv_iconst (v := 0) hx hb dX12_gameCount_21 (by decide) ?_
    exact t_X12_gameCount_22 F hr hlocks hK hp hW hE (lv_sub hl [] rfl)
  · replace hp := hp.2 c_5
    refine lv_aload_n hx hb dX12_gameCount_12 rfl (lv_at hl 0 rfl) ?_
    obtain ⟨y_6, ey_6, hL_y_6, hK_y_6, hp⟩ := hp
    refine w_get (k := 17) (f := 30) (T := TX12) (v := .ref y_6) F hK hW hL_a0 hK_a0 (by decide) rfl rfl (by decide) i_17 k_69 (by rw [show wv 17 30 S_4 a0 = va_rf (sR S_4 a0 30) from rfl, ey_6]; rfl) dX12_gameCount_13 ?_
    refine lv_iload_n hx hb dX12_gameCount_16 rfl (lv_at hl 1 rfl) ?_
    obtain ⟨h_7, hp⟩ := hp
    refine w_ild F hK hW hL_y_6 hK_y_6 h_7 dX12_gameCount_17 ?_
    refine lv_goto (tgt := 22) hx hb dX12_gameCount_18 (by decide) ?_
    exact t_X12_gameCount_22 F hr hlocks hK hp hW hE (lv_sub hl [] rfl)
set_option maxHeartbeats 4000000 in
set_option maxRecDepth 100000 in
theorem c_X12_gameCount (l : Launch) {D : wD} {cy : Nat → ClassId} {X : va_W} {S0 : wS} {post : Int32 → wS → Prop} {a0 : Nat} {x1 : Int32} (hL_a0 : wM D S0 a0) (hK_a0 : sK S0 a0 = 17) (hp : wp_X12_gameCount D post S0 a0 x1) : mI D cy X l yX12_gameCount wz_X12_gameCount r_X12_gameCount [.ref a0, .int x1] S0 (fun r S9 => wX D S0 S9 ∧ post r S9) := by
  intro sz
  refine Met.ofW (cc := cX12_gameCount) (maxL := 2) (ret := (some .int)) (by decide) rfl ?_
  intro p e s m args below meth c s₁ B hml hv
  obtain ⟨rfl, hsz, hP, hK, hD0, hRO⟩ := hv
  have hts := atoms_spec (ws := wz_X12_gameCount) B.pre
  have hown : s.vm.findClass RX12 = some m.cls := findClass_of_methodNamed B.named
  subst hsz
  have hD := hD0.self (sz := s.heap.size)
  have F : CallFix p m c cX12_gameCount 2 s _ wz_X12_gameCount RX12 := ⟨B.exec, B.bytes, hml, hown, hts⟩
  have hr := B.returns
  have hlocks := B.notSynchronized
  generalize hAe : va_A (wL cy X S0) s.heap.size = A at hD hK ⊢
  have hA : ∀ q, s.heap.size ≤ q → A q := fun q h => by rw [← hAe]; exact Or.inr h
  have hW : wO D cy X A s.heap S0 s.heap [] := ⟨hP, hD, va_S.rf, hA, hRO⟩
  have hl := lv_entry ([.ref a0, .int x1]) (n := 2) (Nat.le_of_ble_eq_true rfl)
  rw [lg_entry_eq]
  generalize (lg_sl ([.ref a0, .int x1]) ++ List.replicate (2 - (lg_sl ([.ref a0, .int x1])).length) Slot.unset).toArray = ls at hl ⊢
  have hl : lv_has ls 2 [(0, .ref a0), (1, .int x1)] := hl
  unfold wp_X12_gameCount at hp
  exact t_X12_gameCount_0 F hr hlocks hK hp hW wX.rf (lv_sub hl [0, 1] rfl) hL_a0 hK_a0
def wp_X12_gameLength_28 (D : wD) (post : Int32 → wS → Prop)  (S : wS) (t0 : Int32) : Prop :=
post t0 S
def wp_X12_gameLength_0 (D : wD) (post : Int32 → wS → Prop)  (S : wS) (a0 : Nat) (x1 : Int32) (x2 : Int32) : Prop :=
wp_X12_isGame D (fun r_1 S_2 => 
wp_X12_can D (fun r_3 S_4 => 
((r_3 = 0 → wp_X12_gameLength_28 D post S_4 (0 : Int32)) ∧
 (¬ r_3 = 0 → ∃ y_6 : Nat, sR S_4 a0 33 = some y_6 ∧ wM D S_4 y_6 ∧ sK S_4 y_6 = 21 ∧
wp_X12_slot D (fun r_7 S_8 => 
vp_in r_7 (sN S_8 y_6) ∧
wp_X12_gameLength_28 D post S_8 (sI S_8 y_6 (r_7).toNatClampNeg)) S_4 x1 x2))) S_2 a0 r_1 (1 : Int32)) S a0 x1 x2
abbrev r_X12_gameLength : Room := { frames := 3, cells := 0, slots := 0, locals := 64 }
def wp_X12_gameLength (D : wD) (post : Int32 → wS → Prop) (S : wS) (a0 : Nat) (x1 : Int32) (x2 : Int32) : Prop := wp_X12_gameLength_0 D post S a0 x1 x2
set_option maxHeartbeats 4000000 in
set_option maxRecDepth 100000 in
theorem t_X12_gameLength_28 {p : Program} {l : Launch} {e : Env} {s : State} {m : MethodId} {args : Array Value} {below : List Frame} {meth : Method} {c : Code} {D : wD} {cy : Nat → ClassId} {X : va_W} {A : Nat → Prop} {S0 : wS} {post : Int32 → wS → Prop} (F : CallFix p m c cX12_gameLength 3 s args wz_X12_gameLength RX12) (hr : meth.sig.returnType = (some .int)) (hlocks : meth.locks = false) (hK : wK D cy A s) : ∀ {S : wS} {H : Heap} {locs : List Loc} {ls : Array Slot} {t0 : Int32}, wp_X12_gameLength_28 D post S t0 → wO D cy X A s.heap S H locs → wX D S0 S → lv_has ls 3 [] → W p l e r_X12_gameLength s m args below meth c H locs 0 0 (MQ below (va_Qi (fun r S9 => wX D S0 S9 ∧ post r S9) (wB D cy X A) A) args s 0 0 A) (F0 m 28 ls [.int t0]) := by
  obtain ⟨hx, hb, hml, hown, hts⟩ := id F
  have hwg : ∀ w ∈ WG, w.before args s = true := fun w h => hts w (List.mem_cons_of_mem _ h)
  intro S H locs ls t0 hp hW hE hl
  unfold wp_X12_gameLength_28 at hp
  exact w_iret hx hb hr hlocks hW ⟨hE, hp⟩ dX12_gameLength_28
set_option maxHeartbeats 4000000 in
set_option maxRecDepth 100000 in
theorem t_X12_gameLength_0 {p : Program} {l : Launch} {e : Env} {s : State} {m : MethodId} {args : Array Value} {below : List Frame} {meth : Method} {c : Code} {D : wD} {cy : Nat → ClassId} {X : va_W} {A : Nat → Prop} {S0 : wS} {post : Int32 → wS → Prop} (F : CallFix p m c cX12_gameLength 3 s args wz_X12_gameLength RX12) (hr : meth.sig.returnType = (some .int)) (hlocks : meth.locks = false) (hK : wK D cy A s) : ∀ {S : wS} {H : Heap} {locs : List Loc} {ls : Array Slot} {a0 : Nat} {x1 : Int32} {x2 : Int32}, wp_X12_gameLength_0 D post S a0 x1 x2 → wO D cy X A s.heap S H locs → wX D S0 S → lv_has ls 3 [(0, .ref a0), (1, .int x1), (2, .int x2)] → wM D S a0 → sK S a0 = 17 → W p l e r_X12_gameLength s m args below meth c H locs 0 0 (MQ below (va_Qi (fun r S9 => wX D S0 S9 ∧ post r S9) (wB D cy X A) A) args s 0 0 A) (F0 m 0 ls []) := by
  obtain ⟨hx, hb, hml, hown, hts⟩ := id F
  have hwg : ∀ w ∈ WG, w.before args s = true := fun w h => hts w (List.mem_cons_of_mem _ h)
  have i_17 : ∀ w ∈ u_ws RX12 TX12 43, w ∈ wz_X12_gameLength := fun w h => List.mem_cons_of_mem _ (wu_17 w h)
  have k_79 := hwg _ wf_RX12_79
  intro S H locs ls a0 x1 x2 hp hW hE hl hL_a0 hK_a0
  unfold wp_X12_gameLength_0 at hp
  refine lv_aload_n hx hb dX12_gameLength_0 rfl (lv_at hl 0 rfl) ?_
  refine lv_aload_n hx hb dX12_gameLength_1 rfl (lv_at hl 0 rfl) ?_
  refine lv_iload_n hx hb dX12_gameLength_2 rfl (lv_at hl 1 rfl) ?_
  refine lv_iload_n hx hb dX12_gameLength_3 rfl (lv_at hl 2 rfl) ?_
  refine w_callI (va_runV (As := [.int x1, .int x2]) (rest := [.ref a0]) F (c_X12_isGame l hL_a0 hK_a0 hp H.size) (cwV (C := RX12) 2 hts (wg_V wm_RX12_407 wy_X12_isGame) rfl rfl rfl (by decide +kernel) ⟨Nat.le_of_ble_eq_true rfl, Nat.le_of_ble_eq_true rfl⟩) (w_preV hK hW hL_a0 hK_a0 (by decide) rfl) rfl rfl hl.1 rfl (lv_room (Nat.le_of_ble_eq_true rfl)) dX12_gameLength_4 ⟨Nat.le_of_ble_eq_true rfl, Nat.le_of_ble_eq_true rfl⟩) hW (fun r_1 S_2 H locs hp hW => ?_)
  obtain ⟨hX_S_2, hp⟩ := hp
  refine W.widen (k := 0) (n := 0) (by decide) (by decide) ?_
  have hE := hE.trans hX_S_2
  have hK_a0 : sK S_2 a0 = 17 := (hX_S_2.2 a0 hL_a0).1.trans hK_a0
  have hL_a0 : wM D S_2 a0 := hX_S_2.M hL_a0
  refine lv_iconst (v := 1) hx hb dX12_gameLength_7 (by decide) ?_
  refine w_callI (va_runV (As := [.int r_1, .int (1 : Int32)]) (rest := []) F (c_X12_can l hL_a0 hK_a0 hp H.size) (cwV (C := RX12) 2 hts (wg_V wm_RX12_237 wy_X12_can) rfl rfl rfl (by decide +kernel) ⟨Nat.le_of_ble_eq_true rfl, Nat.le_of_ble_eq_true rfl⟩) (w_preV hK hW hL_a0 hK_a0 (by decide) rfl) rfl rfl hl.1 rfl (lv_room (Nat.le_of_ble_eq_true rfl)) dX12_gameLength_8 ⟨Nat.le_of_ble_eq_true rfl, Nat.le_of_ble_eq_true rfl⟩) hW (fun r_3 S_4 H locs hp hW => ?_)
  obtain ⟨hX_S_4, hp⟩ := hp
  refine W.widen (k := 0) (n := 0) (by decide) (by decide) ?_
  have hE := hE.trans hX_S_4
  have hK_a0 : sK S_4 a0 = 17 := (hX_S_4.2 a0 hL_a0).1.trans hK_a0
  have hL_a0 : wM D S_4 a0 := hX_S_4.M hL_a0
  refine lv_if_eq (tgt := 27) hx hb dX12_gameLength_11 (by decide) (fun c_5 => ?_) (fun c_5 => ?_)
  · replace hp := hp.1 c_5
    refine lv_iconst (v := 0) hx hb dX12_gameLength_27 (by decide) ?_
    exact t_X12_gameLength_28 F hr hlocks hK hp hW hE (lv_sub hl [] rfl)
  · replace hp := hp.2 c_5
    refine lv_aload_n hx hb dX12_gameLength_14 rfl (lv_at hl 0 rfl) ?_
    obtain ⟨y_6, ey_6, hL_y_6, hK_y_6, hp⟩ := hp
    refine w_get (k := 17) (f := 33) (T := TX12) (v := .ref y_6) F hK hW hL_a0 hK_a0 (by decide) rfl rfl (by decide) i_17 k_79 (by rw [show wv 17 33 S_4 a0 = va_rf (sR S_4 a0 33) from rfl, ey_6]; rfl) dX12_gameLength_15 ?_
    refine lv_iload_n hx hb dX12_gameLength_18 rfl (lv_at hl 1 rfl) ?_
    refine lv_iload_n hx hb dX12_gameLength_19 rfl (lv_at hl 2 rfl) ?_
    refine w_callI (va_runS (As := [.int x1, .int x2]) (rest := [.ref y_6]) F (c_X12_slot l hp H.size) (va_cwS 2 hts (wg_S wm_RX12_400 wy_X12_slot) rfl rfl rfl (by decide +kernel) ⟨Nat.le_of_ble_eq_true rfl, Nat.le_of_ble_eq_true rfl⟩) (w_preS hK hW) rfl rfl hl.1 rfl (lv_room (Nat.le_of_ble_eq_true rfl)) dX12_gameLength_20 ⟨Nat.le_of_ble_eq_true rfl, Nat.le_of_ble_eq_true rfl⟩) hW (fun r_7 S_8 H locs hp hW => ?_)
    obtain ⟨hX_S_8, hp⟩ := hp
    refine W.widen (k := 0) (n := 0) (by decide) (by decide) ?_
    have hE := hE.trans hX_S_8
    have hK_a0 : sK S_8 a0 = 17 := (hX_S_8.2 a0 hL_a0).1.trans hK_a0
    have hL_a0 : wM D S_8 a0 := hX_S_8.M hL_a0
    have hK_y_6 : sK S_8 y_6 = 21 := (hX_S_8.2 y_6 hL_y_6).1.trans hK_y_6
    have hL_y_6 : wM D S_8 y_6 := hX_S_8.M hL_y_6
    obtain ⟨h_9, hp⟩ := hp
    refine w_ild F hK hW hL_y_6 hK_y_6 h_9 dX12_gameLength_23 ?_
    refine lv_goto (tgt := 28) hx hb dX12_gameLength_24 (by decide) ?_
    exact t_X12_gameLength_28 F hr hlocks hK hp hW hE (lv_sub hl [] rfl)
set_option maxHeartbeats 4000000 in
set_option maxRecDepth 100000 in
theorem c_X12_gameLength (l : Launch) {D : wD} {cy : Nat → ClassId} {X : va_W} {S0 : wS} {post : Int32 → wS → Prop} {a0 : Nat} {x1 : Int32} {x2 : Int32} (hL_a0 : wM D S0 a0) (hK_a0 : sK S0 a0 = 17) (hp : wp_X12_gameLength D post S0 a0 x1 x2) : mI D cy X l yX12_gameLength wz_X12_gameLength r_X12_gameLength [.ref a0, .int x1, .int x2] S0 (fun r S9 => wX D S0 S9 ∧ post r S9) := by
  intro sz
  refine Met.ofW (cc := cX12_gameLength) (maxL := 3) (ret := (some .int)) (by decide) rfl ?_
  intro p e s m args below meth c s₁ B hml hv
  obtain ⟨rfl, hsz, hP, hK, hD0, hRO⟩ := hv
  have hts := atoms_spec (ws := wz_X12_gameLength) B.pre
  have hown : s.vm.findClass RX12 = some m.cls := findClass_of_methodNamed B.named
  subst hsz
  have hD := hD0.self (sz := s.heap.size)
  have F : CallFix p m c cX12_gameLength 3 s _ wz_X12_gameLength RX12 := ⟨B.exec, B.bytes, hml, hown, hts⟩
  have hr := B.returns
  have hlocks := B.notSynchronized
  generalize hAe : va_A (wL cy X S0) s.heap.size = A at hD hK ⊢
  have hA : ∀ q, s.heap.size ≤ q → A q := fun q h => by rw [← hAe]; exact Or.inr h
  have hW : wO D cy X A s.heap S0 s.heap [] := ⟨hP, hD, va_S.rf, hA, hRO⟩
  have hl := lv_entry ([.ref a0, .int x1, .int x2]) (n := 3) (Nat.le_of_ble_eq_true rfl)
  rw [lg_entry_eq]
  generalize (lg_sl ([.ref a0, .int x1, .int x2]) ++ List.replicate (3 - (lg_sl ([.ref a0, .int x1, .int x2])).length) Slot.unset).toArray = ls at hl ⊢
  have hl : lv_has ls 3 [(0, .ref a0), (1, .int x1), (2, .int x2)] := hl
  unfold wp_X12_gameLength at hp
  exact t_X12_gameLength_0 F hr hlocks hK hp hW wX.rf (lv_sub hl [0, 1, 2] rfl) hL_a0 hK_a0
