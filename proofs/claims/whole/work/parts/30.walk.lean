theorem dX0_init_0 : decode cX0_init 0 = .ok (.aload_n 0, 1) := by decide +kernel
theorem dX0_init_1 : decode cX0_init 1 = .ok (.invokespecial 3, 3) := by decide +kernel
theorem dX0_init_4 : decode cX0_init 4 = .ok (.aload_n 0, 1) := by decide +kernel
theorem dX0_init_5 : decode cX0_init 5 = .ok (.iconst 0, 1) := by decide +kernel
theorem dX0_init_6 : decode cX0_init 6 = .ok (.putfield 9, 3) := by decide +kernel
theorem dX0_init_9 : decode cX0_init 9 = .ok (.aload_n 0, 1) := by decide +kernel
theorem dX0_init_10 : decode cX0_init 10 = .ok (.iconst 0, 1) := by decide +kernel
theorem dX0_init_11 : decode cX0_init 11 = .ok (.putfield 15, 3) := by decide +kernel
theorem dX0_init_14 : decode cX0_init 14 = .ok (.aload_n 0, 1) := by decide +kernel
theorem dX0_init_15 : decode cX0_init 15 = .ok (.iconst 0, 1) := by decide +kernel
theorem dX0_init_16 : decode cX0_init 16 = .ok (.putfield 18, 3) := by decide +kernel
theorem dX0_init_19 : decode cX0_init 19 = .ok (.aload_n 0, 1) := by decide +kernel
theorem dX0_init_20 : decode cX0_init 20 = .ok (.lconst 0, 1) := by decide +kernel
theorem dX0_init_21 : decode cX0_init 21 = .ok (.putfield 21, 3) := by decide +kernel
theorem dX0_init_24 : decode cX0_init 24 = .ok (.aload_n 0, 1) := by decide +kernel
theorem dX0_init_25 : decode cX0_init 25 = .ok (.bipush 64, 2) := by decide +kernel
theorem dX0_init_27 : decode cX0_init 27 = .ok (.newarray .int, 2) := by decide +kernel
theorem dX0_init_29 : decode cX0_init 29 = .ok (.putfield 25, 3) := by decide +kernel
theorem dX0_init_32 : decode cX0_init 32 = .ok (.aload_n 0, 1) := by decide +kernel
theorem dX0_init_33 : decode cX0_init 33 = .ok (.bipush 64, 2) := by decide +kernel
theorem dX0_init_35 : decode cX0_init 35 = .ok (.newarray .int, 2) := by decide +kernel
theorem dX0_init_37 : decode cX0_init 37 = .ok (.putfield 29, 3) := by decide +kernel
theorem dX0_init_40 : decode cX0_init 40 = .ok (.aload_n 0, 1) := by decide +kernel
theorem dX0_init_41 : decode cX0_init 41 = .ok (.sipush 512, 3) := by decide +kernel
theorem dX0_init_44 : decode cX0_init 44 = .ok (.newarray .long, 2) := by decide +kernel
theorem dX0_init_46 : decode cX0_init 46 = .ok (.putfield 32, 3) := by decide +kernel
theorem dX0_init_49 : decode cX0_init 49 = .ok (.aload_n 0, 1) := by decide +kernel
theorem dX0_init_50 : decode cX0_init 50 = .ok (.bipush 64, 2) := by decide +kernel
theorem dX0_init_52 : decode cX0_init 52 = .ok (.newarray .long, 2) := by decide +kernel
theorem dX0_init_54 : decode cX0_init 54 = .ok (.putfield 36, 3) := by decide +kernel
theorem dX0_init_57 : decode cX0_init 57 = .ok (.aload_n 0, 1) := by decide +kernel
theorem dX0_init_58 : decode cX0_init 58 = .ok (.bipush 64, 2) := by decide +kernel
theorem dX0_init_60 : decode cX0_init 60 = .ok (.newarray .long, 2) := by decide +kernel
theorem dX0_init_62 : decode cX0_init 62 = .ok (.putfield 39, 3) := by decide +kernel
theorem dX0_init_65 : decode cX0_init 65 = .ok (.aload_n 0, 1) := by decide +kernel
theorem dX0_init_66 : decode cX0_init 66 = .ok (.bipush 64, 2) := by decide +kernel
theorem dX0_init_68 : decode cX0_init 68 = .ok (.newarray .long, 2) := by decide +kernel
theorem dX0_init_70 : decode cX0_init 70 = .ok (.putfield 42, 3) := by decide +kernel
theorem dX0_init_73 : decode cX0_init 73 = .ok (.aload_n 0, 1) := by decide +kernel
theorem dX0_init_74 : decode cX0_init 74 = .ok (.bipush 64, 2) := by decide +kernel
theorem dX0_init_76 : decode cX0_init 76 = .ok (.newarray .long, 2) := by decide +kernel
theorem dX0_init_78 : decode cX0_init 78 = .ok (.putfield 45, 3) := by decide +kernel
theorem dX0_init_81 : decode cX0_init 81 = .ok (.aload_n 0, 1) := by decide +kernel
theorem dX0_init_82 : decode cX0_init 82 = .ok (.bipush 64, 2) := by decide +kernel
theorem dX0_init_84 : decode cX0_init 84 = .ok (.newarray .long, 2) := by decide +kernel
theorem dX0_init_86 : decode cX0_init 86 = .ok (.putfield 48, 3) := by decide +kernel
theorem dX0_init_89 : decode cX0_init 89 = .ok (.return_, 1) := by decide +kernel
theorem dX0_laySquare_0 : decode cX0_laySquare 0 = .ok (.aload_n 0, 1) := by decide +kernel
theorem dX0_laySquare_1 : decode cX0_laySquare 1 = .ok (.iload_n 1, 1) := by decide +kernel
theorem dX0_laySquare_2 : decode cX0_laySquare 2 = .ok (.invokevirtual 61, 3) := by decide +kernel
theorem dX0_laySquare_5 : decode cX0_laySquare 5 = .ok (.ifCond .ne 4, 3) := by decide +kernel
theorem dX0_laySquare_8 : decode cX0_laySquare 8 = .ok (.return_, 1) := by decide +kernel
theorem dX0_laySquare_9 : decode cX0_laySquare 9 = .ok (.iload_n 3, 1) := by decide +kernel
theorem dX0_laySquare_10 : decode cX0_laySquare 10 = .ok (.ifCond .eq 13, 3) := by decide +kernel
theorem dX0_laySquare_13 : decode cX0_laySquare 13 = .ok (.iload_n 3, 1) := by decide +kernel
theorem dX0_laySquare_14 : decode cX0_laySquare 14 = .ok (.aload_n 0, 1) := by decide +kernel
theorem dX0_laySquare_15 : decode cX0_laySquare 15 = .ok (.getfield 15, 3) := by decide +kernel
theorem dX0_laySquare_18 : decode cX0_laySquare 18 = .ok (.iconst 1, 1) := by decide +kernel
theorem dX0_laySquare_19 : decode cX0_laySquare 19 = .ok (.isub, 1) := by decide +kernel
theorem dX0_laySquare_20 : decode cX0_laySquare 20 = .ok (.if_icmp .ne 15, 3) := by decide +kernel
theorem dX0_laySquare_23 : decode cX0_laySquare 23 = .ok (.aload_n 0, 1) := by decide +kernel
theorem dX0_laySquare_24 : decode cX0_laySquare 24 = .ok (.dup, 1) := by decide +kernel
theorem dX0_laySquare_25 : decode cX0_laySquare 25 = .ok (.getfield 21, 3) := by decide +kernel
theorem dX0_laySquare_28 : decode cX0_laySquare 28 = .ok (.lconst 1, 1) := by decide +kernel
theorem dX0_laySquare_29 : decode cX0_laySquare 29 = .ok (.iload_n 1, 1) := by decide +kernel
theorem dX0_laySquare_30 : decode cX0_laySquare 30 = .ok (.lshl, 1) := by decide +kernel
theorem dX0_laySquare_31 : decode cX0_laySquare 31 = .ok (.lor, 1) := by decide +kernel
theorem dX0_laySquare_32 : decode cX0_laySquare 32 = .ok (.putfield 21, 3) := by decide +kernel
theorem dX0_laySquare_35 : decode cX0_laySquare 35 = .ok (.aload_n 0, 1) := by decide +kernel
theorem dX0_laySquare_36 : decode cX0_laySquare 36 = .ok (.getfield 25, 3) := by decide +kernel
theorem dX0_laySquare_39 : decode cX0_laySquare 39 = .ok (.iload_n 1, 1) := by decide +kernel
theorem dX0_laySquare_40 : decode cX0_laySquare 40 = .ok (.iload_n 2, 1) := by decide +kernel
theorem dX0_laySquare_41 : decode cX0_laySquare 41 = .ok (.iastore, 1) := by decide +kernel
theorem dX0_laySquare_42 : decode cX0_laySquare 42 = .ok (.aload_n 0, 1) := by decide +kernel
theorem dX0_laySquare_43 : decode cX0_laySquare 43 = .ok (.getfield 29, 3) := by decide +kernel
theorem dX0_laySquare_46 : decode cX0_laySquare 46 = .ok (.iload_n 1, 1) := by decide +kernel
theorem dX0_laySquare_47 : decode cX0_laySquare 47 = .ok (.iload_n 3, 1) := by decide +kernel
theorem dX0_laySquare_48 : decode cX0_laySquare 48 = .ok (.iastore, 1) := by decide +kernel
theorem dX0_laySquare_49 : decode cX0_laySquare 49 = .ok (.aload_n 0, 1) := by decide +kernel
theorem dX0_laySquare_50 : decode cX0_laySquare 50 = .ok (.getfield 36, 3) := by decide +kernel
theorem dX0_laySquare_53 : decode cX0_laySquare 53 = .ok (.iload_n 1, 1) := by decide +kernel
theorem dX0_laySquare_54 : decode cX0_laySquare 54 = .ok (.lconst 0, 1) := by decide +kernel
theorem dX0_laySquare_55 : decode cX0_laySquare 55 = .ok (.lastore, 1) := by decide +kernel
theorem dX0_laySquare_56 : decode cX0_laySquare 56 = .ok (.aload_n 0, 1) := by decide +kernel
theorem dX0_laySquare_57 : decode cX0_laySquare 57 = .ok (.getfield 39, 3) := by decide +kernel
theorem dX0_laySquare_60 : decode cX0_laySquare 60 = .ok (.iload_n 1, 1) := by decide +kernel
theorem dX0_laySquare_61 : decode cX0_laySquare 61 = .ok (.lconst 0, 1) := by decide +kernel
theorem dX0_laySquare_62 : decode cX0_laySquare 62 = .ok (.lastore, 1) := by decide +kernel
theorem dX0_laySquare_63 : decode cX0_laySquare 63 = .ok (.iconst 0, 1) := by decide +kernel
theorem dX0_laySquare_64 : decode cX0_laySquare 64 = .ok (.istore 4, 2) := by decide +kernel
theorem dX0_laySquare_66 : decode cX0_laySquare 66 = .ok (.iload 4, 2) := by decide +kernel
theorem dX0_laySquare_68 : decode cX0_laySquare 68 = .ok (.bipush 8, 2) := by decide +kernel
theorem dX0_laySquare_70 : decode cX0_laySquare 70 = .ok (.if_icmp .ge 97, 3) := by decide +kernel
theorem dX0_laySquare_73 : decode cX0_laySquare 73 = .ok (.aload_n 0, 1) := by decide +kernel
theorem dX0_laySquare_74 : decode cX0_laySquare 74 = .ok (.getfield 32, 3) := by decide +kernel
theorem dX0_laySquare_77 : decode cX0_laySquare 77 = .ok (.iload_n 1, 1) := by decide +kernel
theorem dX0_laySquare_78 : decode cX0_laySquare 78 = .ok (.bipush 8, 2) := by decide +kernel
theorem dX0_laySquare_80 : decode cX0_laySquare 80 = .ok (.imul, 1) := by decide +kernel
theorem dX0_laySquare_81 : decode cX0_laySquare 81 = .ok (.iload 4, 2) := by decide +kernel
theorem dX0_laySquare_83 : decode cX0_laySquare 83 = .ok (.iadd, 1) := by decide +kernel
theorem dX0_laySquare_84 : decode cX0_laySquare 84 = .ok (.aload_n 0, 1) := by decide +kernel
theorem dX0_laySquare_85 : decode cX0_laySquare 85 = .ok (.iload_n 2, 1) := by decide +kernel
theorem dX0_laySquare_86 : decode cX0_laySquare 86 = .ok (.iload_n 3, 1) := by decide +kernel
theorem dX0_laySquare_87 : decode cX0_laySquare 87 = .ok (.getstatic 65, 3) := by decide +kernel
theorem dX0_laySquare_90 : decode cX0_laySquare 90 = .ok (.iload 4, 2) := by decide +kernel
theorem dX0_laySquare_92 : decode cX0_laySquare 92 = .ok (.iaload, 1) := by decide +kernel
theorem dX0_laySquare_93 : decode cX0_laySquare 93 = .ok (.getstatic 68, 3) := by decide +kernel
theorem dX0_laySquare_96 : decode cX0_laySquare 96 = .ok (.iload 4, 2) := by decide +kernel
theorem dX0_laySquare_98 : decode cX0_laySquare 98 = .ok (.iaload, 1) := by decide +kernel
theorem dX0_laySquare_99 : decode cX0_laySquare 99 = .ok (.invokevirtual 71, 3) := by decide +kernel
theorem dX0_laySquare_102 : decode cX0_laySquare 102 = .ok (.lastore, 1) := by decide +kernel
theorem dX0_laySquare_103 : decode cX0_laySquare 103 = .ok (.aload_n 0, 1) := by decide +kernel
theorem dX0_laySquare_104 : decode cX0_laySquare 104 = .ok (.getfield 36, 3) := by decide +kernel
theorem dX0_laySquare_107 : decode cX0_laySquare 107 = .ok (.iload_n 1, 1) := by decide +kernel
theorem dX0_laySquare_108 : decode cX0_laySquare 108 = .ok (.dup2, 1) := by decide +kernel
theorem dX0_laySquare_109 : decode cX0_laySquare 109 = .ok (.laload, 1) := by decide +kernel
theorem dX0_laySquare_110 : decode cX0_laySquare 110 = .ok (.aload_n 0, 1) := by decide +kernel
theorem dX0_laySquare_111 : decode cX0_laySquare 111 = .ok (.iload_n 2, 1) := by decide +kernel
theorem dX0_laySquare_112 : decode cX0_laySquare 112 = .ok (.getstatic 65, 3) := by decide +kernel
theorem dX0_laySquare_115 : decode cX0_laySquare 115 = .ok (.iload 4, 2) := by decide +kernel
theorem dX0_laySquare_117 : decode cX0_laySquare 117 = .ok (.iaload, 1) := by decide +kernel
theorem dX0_laySquare_118 : decode cX0_laySquare 118 = .ok (.iadd, 1) := by decide +kernel
theorem dX0_laySquare_119 : decode cX0_laySquare 119 = .ok (.iload_n 3, 1) := by decide +kernel
theorem dX0_laySquare_120 : decode cX0_laySquare 120 = .ok (.getstatic 68, 3) := by decide +kernel
theorem dX0_laySquare_123 : decode cX0_laySquare 123 = .ok (.iload 4, 2) := by decide +kernel
theorem dX0_laySquare_125 : decode cX0_laySquare 125 = .ok (.iaload, 1) := by decide +kernel
theorem dX0_laySquare_126 : decode cX0_laySquare 126 = .ok (.iadd, 1) := by decide +kernel
theorem dX0_laySquare_127 : decode cX0_laySquare 127 = .ok (.invokevirtual 75, 3) := by decide +kernel
theorem dX0_laySquare_130 : decode cX0_laySquare 130 = .ok (.lor, 1) := by decide +kernel
theorem dX0_laySquare_131 : decode cX0_laySquare 131 = .ok (.lastore, 1) := by decide +kernel
theorem dX0_laySquare_132 : decode cX0_laySquare 132 = .ok (.aload_n 0, 1) := by decide +kernel
theorem dX0_laySquare_133 : decode cX0_laySquare 133 = .ok (.getfield 39, 3) := by decide +kernel
theorem dX0_laySquare_136 : decode cX0_laySquare 136 = .ok (.iload_n 1, 1) := by decide +kernel
theorem dX0_laySquare_137 : decode cX0_laySquare 137 = .ok (.dup2, 1) := by decide +kernel
theorem dX0_laySquare_138 : decode cX0_laySquare 138 = .ok (.laload, 1) := by decide +kernel
theorem dX0_laySquare_139 : decode cX0_laySquare 139 = .ok (.aload_n 0, 1) := by decide +kernel
theorem dX0_laySquare_140 : decode cX0_laySquare 140 = .ok (.iload_n 2, 1) := by decide +kernel
theorem dX0_laySquare_141 : decode cX0_laySquare 141 = .ok (.getstatic 79, 3) := by decide +kernel
theorem dX0_laySquare_144 : decode cX0_laySquare 144 = .ok (.iload 4, 2) := by decide +kernel
theorem dX0_laySquare_146 : decode cX0_laySquare 146 = .ok (.iaload, 1) := by decide +kernel
theorem dX0_laySquare_147 : decode cX0_laySquare 147 = .ok (.iadd, 1) := by decide +kernel
theorem dX0_laySquare_148 : decode cX0_laySquare 148 = .ok (.iload_n 3, 1) := by decide +kernel
theorem dX0_laySquare_149 : decode cX0_laySquare 149 = .ok (.getstatic 82, 3) := by decide +kernel
theorem dX0_laySquare_152 : decode cX0_laySquare 152 = .ok (.iload 4, 2) := by decide +kernel
theorem dX0_laySquare_154 : decode cX0_laySquare 154 = .ok (.iaload, 1) := by decide +kernel
theorem dX0_laySquare_155 : decode cX0_laySquare 155 = .ok (.iadd, 1) := by decide +kernel
theorem dX0_laySquare_156 : decode cX0_laySquare 156 = .ok (.invokevirtual 75, 3) := by decide +kernel
theorem dX0_laySquare_159 : decode cX0_laySquare 159 = .ok (.lor, 1) := by decide +kernel
theorem dX0_laySquare_160 : decode cX0_laySquare 160 = .ok (.lastore, 1) := by decide +kernel
theorem dX0_laySquare_161 : decode cX0_laySquare 161 = .ok (.iinc 4 1, 3) := by decide +kernel
theorem dX0_laySquare_164 : decode cX0_laySquare 164 = .ok (.goto (-98), 3) := by decide +kernel
theorem dX0_laySquare_167 : decode cX0_laySquare 167 = .ok (.aload_n 0, 1) := by decide +kernel
theorem dX0_laySquare_168 : decode cX0_laySquare 168 = .ok (.getfield 42, 3) := by decide +kernel
theorem dX0_laySquare_171 : decode cX0_laySquare 171 = .ok (.iload_n 1, 1) := by decide +kernel
theorem dX0_laySquare_172 : decode cX0_laySquare 172 = .ok (.aload_n 0, 1) := by decide +kernel
theorem dX0_laySquare_173 : decode cX0_laySquare 173 = .ok (.iload_n 2, 1) := by decide +kernel
theorem dX0_laySquare_174 : decode cX0_laySquare 174 = .ok (.iconst 1, 1) := by decide +kernel
theorem dX0_laySquare_175 : decode cX0_laySquare 175 = .ok (.isub, 1) := by decide +kernel
theorem dX0_laySquare_176 : decode cX0_laySquare 176 = .ok (.iload_n 3, 1) := by decide +kernel
theorem dX0_laySquare_177 : decode cX0_laySquare 177 = .ok (.iconst 1, 1) := by decide +kernel
theorem dX0_laySquare_178 : decode cX0_laySquare 178 = .ok (.iadd, 1) := by decide +kernel
theorem dX0_laySquare_179 : decode cX0_laySquare 179 = .ok (.invokevirtual 75, 3) := by decide +kernel
theorem dX0_laySquare_182 : decode cX0_laySquare 182 = .ok (.aload_n 0, 1) := by decide +kernel
theorem dX0_laySquare_183 : decode cX0_laySquare 183 = .ok (.iload_n 2, 1) := by decide +kernel
theorem dX0_laySquare_184 : decode cX0_laySquare 184 = .ok (.iconst 1, 1) := by decide +kernel
theorem dX0_laySquare_185 : decode cX0_laySquare 185 = .ok (.iadd, 1) := by decide +kernel
theorem dX0_laySquare_186 : decode cX0_laySquare 186 = .ok (.iload_n 3, 1) := by decide +kernel
theorem dX0_laySquare_187 : decode cX0_laySquare 187 = .ok (.iconst 1, 1) := by decide +kernel
theorem dX0_laySquare_188 : decode cX0_laySquare 188 = .ok (.iadd, 1) := by decide +kernel
theorem dX0_laySquare_189 : decode cX0_laySquare 189 = .ok (.invokevirtual 75, 3) := by decide +kernel
theorem dX0_laySquare_192 : decode cX0_laySquare 192 = .ok (.lor, 1) := by decide +kernel
theorem dX0_laySquare_193 : decode cX0_laySquare 193 = .ok (.lastore, 1) := by decide +kernel
theorem dX0_laySquare_194 : decode cX0_laySquare 194 = .ok (.aload_n 0, 1) := by decide +kernel
theorem dX0_laySquare_195 : decode cX0_laySquare 195 = .ok (.getfield 45, 3) := by decide +kernel
theorem dX0_laySquare_198 : decode cX0_laySquare 198 = .ok (.iload_n 1, 1) := by decide +kernel
theorem dX0_laySquare_199 : decode cX0_laySquare 199 = .ok (.aload_n 0, 1) := by decide +kernel
theorem dX0_laySquare_200 : decode cX0_laySquare 200 = .ok (.iload_n 2, 1) := by decide +kernel
theorem dX0_laySquare_201 : decode cX0_laySquare 201 = .ok (.iconst 1, 1) := by decide +kernel
theorem dX0_laySquare_202 : decode cX0_laySquare 202 = .ok (.isub, 1) := by decide +kernel
theorem dX0_laySquare_203 : decode cX0_laySquare 203 = .ok (.iload_n 3, 1) := by decide +kernel
theorem dX0_laySquare_204 : decode cX0_laySquare 204 = .ok (.iconst 1, 1) := by decide +kernel
theorem dX0_laySquare_205 : decode cX0_laySquare 205 = .ok (.isub, 1) := by decide +kernel
theorem dX0_laySquare_206 : decode cX0_laySquare 206 = .ok (.invokevirtual 75, 3) := by decide +kernel
theorem dX0_laySquare_209 : decode cX0_laySquare 209 = .ok (.aload_n 0, 1) := by decide +kernel
theorem dX0_laySquare_210 : decode cX0_laySquare 210 = .ok (.iload_n 2, 1) := by decide +kernel
theorem dX0_laySquare_211 : decode cX0_laySquare 211 = .ok (.iconst 1, 1) := by decide +kernel
theorem dX0_laySquare_212 : decode cX0_laySquare 212 = .ok (.iadd, 1) := by decide +kernel
theorem dX0_laySquare_213 : decode cX0_laySquare 213 = .ok (.iload_n 3, 1) := by decide +kernel
theorem dX0_laySquare_214 : decode cX0_laySquare 214 = .ok (.iconst 1, 1) := by decide +kernel
theorem dX0_laySquare_215 : decode cX0_laySquare 215 = .ok (.isub, 1) := by decide +kernel
theorem dX0_laySquare_216 : decode cX0_laySquare 216 = .ok (.invokevirtual 75, 3) := by decide +kernel
theorem dX0_laySquare_219 : decode cX0_laySquare 219 = .ok (.lor, 1) := by decide +kernel
theorem dX0_laySquare_220 : decode cX0_laySquare 220 = .ok (.lastore, 1) := by decide +kernel
theorem dX0_laySquare_221 : decode cX0_laySquare 221 = .ok (.aload_n 0, 1) := by decide +kernel
theorem dX0_laySquare_222 : decode cX0_laySquare 222 = .ok (.getfield 48, 3) := by decide +kernel
theorem dX0_laySquare_225 : decode cX0_laySquare 225 = .ok (.iload_n 1, 1) := by decide +kernel
theorem dX0_laySquare_226 : decode cX0_laySquare 226 = .ok (.aload_n 0, 1) := by decide +kernel
theorem dX0_laySquare_227 : decode cX0_laySquare 227 = .ok (.iload_n 2, 1) := by decide +kernel
theorem dX0_laySquare_228 : decode cX0_laySquare 228 = .ok (.iconst 1, 1) := by decide +kernel
theorem dX0_laySquare_229 : decode cX0_laySquare 229 = .ok (.isub, 1) := by decide +kernel
theorem dX0_laySquare_230 : decode cX0_laySquare 230 = .ok (.iload_n 3, 1) := by decide +kernel
theorem dX0_laySquare_231 : decode cX0_laySquare 231 = .ok (.invokevirtual 75, 3) := by decide +kernel
theorem dX0_laySquare_234 : decode cX0_laySquare 234 = .ok (.aload_n 0, 1) := by decide +kernel
theorem dX0_laySquare_235 : decode cX0_laySquare 235 = .ok (.iload_n 2, 1) := by decide +kernel
theorem dX0_laySquare_236 : decode cX0_laySquare 236 = .ok (.iconst 1, 1) := by decide +kernel
theorem dX0_laySquare_237 : decode cX0_laySquare 237 = .ok (.iadd, 1) := by decide +kernel
theorem dX0_laySquare_238 : decode cX0_laySquare 238 = .ok (.iload_n 3, 1) := by decide +kernel
theorem dX0_laySquare_239 : decode cX0_laySquare 239 = .ok (.invokevirtual 75, 3) := by decide +kernel
theorem dX0_laySquare_242 : decode cX0_laySquare 242 = .ok (.lor, 1) := by decide +kernel
theorem dX0_laySquare_243 : decode cX0_laySquare 243 = .ok (.lastore, 1) := by decide +kernel
theorem dX0_laySquare_244 : decode cX0_laySquare 244 = .ok (.return_, 1) := by decide +kernel
theorem dX0_lay_0 : decode cX0_lay 0 = .ok (.aload_n 0, 1) := by decide +kernel
theorem dX0_lay_1 : decode cX0_lay 1 = .ok (.iload_n 1, 1) := by decide +kernel
theorem dX0_lay_2 : decode cX0_lay 2 = .ok (.putfield 9, 3) := by decide +kernel
theorem dX0_lay_5 : decode cX0_lay 5 = .ok (.aload_n 0, 1) := by decide +kernel
theorem dX0_lay_6 : decode cX0_lay 6 = .ok (.iload_n 2, 1) := by decide +kernel
theorem dX0_lay_7 : decode cX0_lay 7 = .ok (.putfield 15, 3) := by decide +kernel
theorem dX0_lay_10 : decode cX0_lay 10 = .ok (.aload_n 0, 1) := by decide +kernel
theorem dX0_lay_11 : decode cX0_lay 11 = .ok (.iload_n 1, 1) := by decide +kernel
theorem dX0_lay_12 : decode cX0_lay 12 = .ok (.iload_n 2, 1) := by decide +kernel
theorem dX0_lay_13 : decode cX0_lay 13 = .ok (.imul, 1) := by decide +kernel
theorem dX0_lay_14 : decode cX0_lay 14 = .ok (.bipush 64, 2) := by decide +kernel
theorem dX0_lay_16 : decode cX0_lay 16 = .ok (.invokestatic 51, 3) := by decide +kernel
theorem dX0_lay_19 : decode cX0_lay 19 = .ok (.putfield 18, 3) := by decide +kernel
theorem dX0_lay_22 : decode cX0_lay 22 = .ok (.aload_n 0, 1) := by decide +kernel
theorem dX0_lay_23 : decode cX0_lay 23 = .ok (.lconst 0, 1) := by decide +kernel
theorem dX0_lay_24 : decode cX0_lay 24 = .ok (.putfield 21, 3) := by decide +kernel
theorem dX0_lay_27 : decode cX0_lay 27 = .ok (.iconst 0, 1) := by decide +kernel
theorem dX0_lay_28 : decode cX0_lay 28 = .ok (.istore_n 3, 1) := by decide +kernel
theorem dX0_lay_29 : decode cX0_lay 29 = .ok (.iload_n 3, 1) := by decide +kernel
theorem dX0_lay_30 : decode cX0_lay 30 = .ok (.aload_n 0, 1) := by decide +kernel
theorem dX0_lay_31 : decode cX0_lay 31 = .ok (.getfield 15, 3) := by decide +kernel
theorem dX0_lay_34 : decode cX0_lay 34 = .ok (.if_icmp .ge 43, 3) := by decide +kernel
theorem dX0_lay_37 : decode cX0_lay 37 = .ok (.iconst 0, 1) := by decide +kernel
theorem dX0_lay_38 : decode cX0_lay 38 = .ok (.istore 4, 2) := by decide +kernel
theorem dX0_lay_40 : decode cX0_lay 40 = .ok (.iload 4, 2) := by decide +kernel
theorem dX0_lay_42 : decode cX0_lay 42 = .ok (.aload_n 0, 1) := by decide +kernel
theorem dX0_lay_43 : decode cX0_lay 43 = .ok (.getfield 9, 3) := by decide +kernel
theorem dX0_lay_46 : decode cX0_lay 46 = .ok (.if_icmp .ge 25, 3) := by decide +kernel
theorem dX0_lay_49 : decode cX0_lay 49 = .ok (.aload_n 0, 1) := by decide +kernel
theorem dX0_lay_50 : decode cX0_lay 50 = .ok (.iload_n 3, 1) := by decide +kernel
theorem dX0_lay_51 : decode cX0_lay 51 = .ok (.aload_n 0, 1) := by decide +kernel
theorem dX0_lay_52 : decode cX0_lay 52 = .ok (.getfield 9, 3) := by decide +kernel
theorem dX0_lay_55 : decode cX0_lay 55 = .ok (.imul, 1) := by decide +kernel
theorem dX0_lay_56 : decode cX0_lay 56 = .ok (.iload 4, 2) := by decide +kernel
theorem dX0_lay_58 : decode cX0_lay 58 = .ok (.iadd, 1) := by decide +kernel
theorem dX0_lay_59 : decode cX0_lay 59 = .ok (.iload 4, 2) := by decide +kernel
theorem dX0_lay_61 : decode cX0_lay 61 = .ok (.iload_n 3, 1) := by decide +kernel
theorem dX0_lay_62 : decode cX0_lay 62 = .ok (.invokevirtual 57, 3) := by decide +kernel
theorem dX0_lay_65 : decode cX0_lay 65 = .ok (.iinc 4 1, 3) := by decide +kernel
theorem dX0_lay_68 : decode cX0_lay 68 = .ok (.goto (-28), 3) := by decide +kernel
theorem dX0_lay_71 : decode cX0_lay 71 = .ok (.iinc 3 1, 3) := by decide +kernel
theorem dX0_lay_74 : decode cX0_lay 74 = .ok (.goto (-45), 3) := by decide +kernel
theorem dX0_lay_77 : decode cX0_lay 77 = .ok (.return_, 1) := by decide +kernel
theorem dX10_gameAt_0 : decode cX10_gameAt 0 = .ok (.iload_n 1, 1) := by decide +kernel
theorem dX10_gameAt_1 : decode cX10_gameAt 1 = .ok (.ifCond .lt 28, 3) := by decide +kernel
theorem dX10_gameAt_4 : decode cX10_gameAt 4 = .ok (.iload_n 1, 1) := by decide +kernel
theorem dX10_gameAt_5 : decode cX10_gameAt 5 = .ok (.aload_n 0, 1) := by decide +kernel
theorem dX10_gameAt_6 : decode cX10_gameAt 6 = .ok (.getfield 12, 3) := by decide +kernel
theorem dX10_gameAt_9 : decode cX10_gameAt 9 = .ok (.invokevirtual 18, 3) := by decide +kernel
theorem dX10_gameAt_12 : decode cX10_gameAt 12 = .ok (.if_icmp .ge 17, 3) := by decide +kernel
theorem dX10_gameAt_15 : decode cX10_gameAt 15 = .ok (.aload_n 0, 1) := by decide +kernel
theorem dX10_gameAt_16 : decode cX10_gameAt 16 = .ok (.getfield 12, 3) := by decide +kernel
theorem dX10_gameAt_19 : decode cX10_gameAt 19 = .ok (.iload_n 1, 1) := by decide +kernel
theorem dX10_gameAt_20 : decode cX10_gameAt 20 = .ok (.invokevirtual 25, 3) := by decide +kernel
theorem dX10_gameAt_23 : decode cX10_gameAt 23 = .ok (.checkcast 29, 3) := by decide +kernel
theorem dX10_gameAt_26 : decode cX10_gameAt 26 = .ok (.goto 4, 3) := by decide +kernel
theorem dX10_gameAt_29 : decode cX10_gameAt 29 = .ok (.aconst_null, 1) := by decide +kernel
theorem dX10_gameAt_30 : decode cX10_gameAt 30 = .ok (.areturn, 1) := by decide +kernel
theorem dX10_isKnown_0 : decode cX10_isKnown 0 = .ok (.iconst 0, 1) := by decide +kernel
theorem dX10_isKnown_1 : decode cX10_isKnown 1 = .ok (.istore_n 3, 1) := by decide +kernel
theorem dX10_isKnown_2 : decode cX10_isKnown 2 = .ok (.iload_n 3, 1) := by decide +kernel
theorem dX10_isKnown_3 : decode cX10_isKnown 3 = .ok (.iload_n 2, 1) := by decide +kernel
theorem dX10_isKnown_4 : decode cX10_isKnown 4 = .ok (.if_icmp .ge 21, 3) := by decide +kernel
theorem dX10_isKnown_7 : decode cX10_isKnown 7 = .ok (.aload_n 1, 1) := by decide +kernel
theorem dX10_isKnown_8 : decode cX10_isKnown 8 = .ok (.iload_n 2, 1) := by decide +kernel
theorem dX10_isKnown_9 : decode cX10_isKnown 9 = .ok (.aload_n 1, 1) := by decide +kernel
theorem dX10_isKnown_10 : decode cX10_isKnown 10 = .ok (.iload_n 3, 1) := by decide +kernel
theorem dX10_isKnown_11 : decode cX10_isKnown 11 = .ok (.invokevirtual 47, 3) := by decide +kernel
theorem dX10_isKnown_14 : decode cX10_isKnown 14 = .ok (.ifCond .eq 5, 3) := by decide +kernel
theorem dX10_isKnown_17 : decode cX10_isKnown 17 = .ok (.iconst 1, 1) := by decide +kernel
theorem dX10_isKnown_18 : decode cX10_isKnown 18 = .ok (.ireturn, 1) := by decide +kernel
theorem dX10_isKnown_19 : decode cX10_isKnown 19 = .ok (.iinc 3 1, 3) := by decide +kernel
theorem dX10_isKnown_22 : decode cX10_isKnown 22 = .ok (.goto (-20), 3) := by decide +kernel
theorem dX10_isKnown_25 : decode cX10_isKnown 25 = .ok (.iconst 0, 1) := by decide +kernel
theorem dX10_isKnown_26 : decode cX10_isKnown 26 = .ok (.istore_n 3, 1) := by decide +kernel
theorem dX10_isKnown_27 : decode cX10_isKnown 27 = .ok (.iload_n 3, 1) := by decide +kernel
theorem dX10_isKnown_28 : decode cX10_isKnown 28 = .ok (.aload_n 0, 1) := by decide +kernel
theorem dX10_isKnown_29 : decode cX10_isKnown 29 = .ok (.getfield 12, 3) := by decide +kernel
theorem dX10_isKnown_32 : decode cX10_isKnown 32 = .ok (.invokevirtual 18, 3) := by decide +kernel
theorem dX10_isKnown_35 : decode cX10_isKnown 35 = .ok (.if_icmp .ge 54, 3) := by decide +kernel
theorem dX10_isKnown_38 : decode cX10_isKnown 38 = .ok (.aload_n 0, 1) := by decide +kernel
theorem dX10_isKnown_39 : decode cX10_isKnown 39 = .ok (.iload_n 3, 1) := by decide +kernel
theorem dX10_isKnown_40 : decode cX10_isKnown 40 = .ok (.invokevirtual 51, 3) := by decide +kernel
theorem dX10_isKnown_43 : decode cX10_isKnown 43 = .ok (.astore 4, 2) := by decide +kernel
theorem dX10_isKnown_45 : decode cX10_isKnown 45 = .ok (.iconst 0, 1) := by decide +kernel
theorem dX10_isKnown_46 : decode cX10_isKnown 46 = .ok (.istore 5, 2) := by decide +kernel
theorem dX10_isKnown_48 : decode cX10_isKnown 48 = .ok (.aload 4, 2) := by decide +kernel
theorem dX10_isKnown_50 : decode cX10_isKnown 50 = .ok (.ifnull 33, 3) := by decide +kernel
theorem dX10_isKnown_53 : decode cX10_isKnown 53 = .ok (.iload 5, 2) := by decide +kernel
theorem dX10_isKnown_55 : decode cX10_isKnown 55 = .ok (.aload 4, 2) := by decide +kernel
theorem dX10_isKnown_57 : decode cX10_isKnown 57 = .ok (.getfield 31, 3) := by decide +kernel
theorem dX10_isKnown_60 : decode cX10_isKnown 60 = .ok (.if_icmp .gt 23, 3) := by decide +kernel
theorem dX10_isKnown_63 : decode cX10_isKnown 63 = .ok (.aload_n 1, 1) := by decide +kernel
theorem dX10_isKnown_64 : decode cX10_isKnown 64 = .ok (.iload_n 2, 1) := by decide +kernel
theorem dX10_isKnown_65 : decode cX10_isKnown 65 = .ok (.aload 4, 2) := by decide +kernel
theorem dX10_isKnown_67 : decode cX10_isKnown 67 = .ok (.iload 5, 2) := by decide +kernel
theorem dX10_isKnown_69 : decode cX10_isKnown 69 = .ok (.invokevirtual 47, 3) := by decide +kernel
theorem dX10_isKnown_72 : decode cX10_isKnown 72 = .ok (.ifCond .eq 5, 3) := by decide +kernel
theorem dX10_isKnown_75 : decode cX10_isKnown 75 = .ok (.iconst 1, 1) := by decide +kernel
theorem dX10_isKnown_76 : decode cX10_isKnown 76 = .ok (.ireturn, 1) := by decide +kernel
theorem dX10_isKnown_77 : decode cX10_isKnown 77 = .ok (.iinc 5 1, 3) := by decide +kernel
theorem dX10_isKnown_80 : decode cX10_isKnown 80 = .ok (.goto (-32), 3) := by decide +kernel
theorem dX10_isKnown_83 : decode cX10_isKnown 83 = .ok (.iinc 3 1, 3) := by decide +kernel
theorem dX10_isKnown_86 : decode cX10_isKnown 86 = .ok (.goto (-59), 3) := by decide +kernel
theorem dX10_isKnown_89 : decode cX10_isKnown 89 = .ok (.iconst 0, 1) := by decide +kernel
theorem dX10_isKnown_90 : decode cX10_isKnown 90 = .ok (.ireturn, 1) := by decide +kernel
theorem dX10_add_0 : decode cX10_add 0 = .ok (.iconst 0, 1) := by decide +kernel
theorem dX10_add_1 : decode cX10_add 1 = .ok (.istore_n 2, 1) := by decide +kernel
theorem dX10_add_2 : decode cX10_add 2 = .ok (.iload_n 2, 1) := by decide +kernel
theorem dX10_add_3 : decode cX10_add 3 = .ok (.aload_n 1, 1) := by decide +kernel
theorem dX10_add_4 : decode cX10_add 4 = .ok (.getfield 31, 3) := by decide +kernel
theorem dX10_add_7 : decode cX10_add 7 = .ok (.if_icmp .gt 28, 3) := by decide +kernel
theorem dX10_add_10 : decode cX10_add 10 = .ok (.aload_n 1, 1) := by decide +kernel
theorem dX10_add_11 : decode cX10_add 11 = .ok (.iload_n 2, 1) := by decide +kernel
theorem dX10_add_12 : decode cX10_add 12 = .ok (.aload_n 0, 1) := by decide +kernel
theorem dX10_add_13 : decode cX10_add 13 = .ok (.aload_n 1, 1) := by decide +kernel
theorem dX10_add_14 : decode cX10_add 14 = .ok (.iload_n 2, 1) := by decide +kernel
theorem dX10_add_15 : decode cX10_add 15 = .ok (.invokevirtual 35, 3) := by decide +kernel
theorem dX10_add_18 : decode cX10_add 18 = .ok (.ifCond .ne 7, 3) := by decide +kernel
theorem dX10_add_21 : decode cX10_add 21 = .ok (.iconst 1, 1) := by decide +kernel
theorem dX10_add_22 : decode cX10_add 22 = .ok (.goto 4, 3) := by decide +kernel
theorem dX10_add_25 : decode cX10_add 25 = .ok (.iconst 0, 1) := by decide +kernel
theorem dX10_add_26 : decode cX10_add 26 = .ok (.invokevirtual 39, 3) := by decide +kernel
theorem dX10_add_29 : decode cX10_add 29 = .ok (.iinc 2 1, 3) := by decide +kernel
theorem dX10_add_32 : decode cX10_add 32 = .ok (.goto (-30), 3) := by decide +kernel
theorem dX10_add_35 : decode cX10_add 35 = .ok (.aload_n 0, 1) := by decide +kernel
theorem dX10_add_36 : decode cX10_add 36 = .ok (.getfield 12, 3) := by decide +kernel
theorem dX10_add_39 : decode cX10_add 39 = .ok (.aload_n 1, 1) := by decide +kernel
theorem dX10_add_40 : decode cX10_add 40 = .ok (.invokevirtual 43, 3) := by decide +kernel
theorem dX10_add_43 : decode cX10_add 43 = .ok (.pop, 1) := by decide +kernel
theorem dX10_add_44 : decode cX10_add 44 = .ok (.return_, 1) := by decide +kernel
theorem dX10_clear_0 : decode cX10_clear 0 = .ok (.aload_n 0, 1) := by decide +kernel
theorem dX10_clear_1 : decode cX10_clear 1 = .ok (.getfield 12, 3) := by decide +kernel
theorem dX10_clear_4 : decode cX10_clear 4 = .ok (.invokevirtual 22, 3) := by decide +kernel
theorem dX10_clear_7 : decode cX10_clear 7 = .ok (.return_, 1) := by decide +kernel
theorem dX10_differentPositions_0 : decode cX10_differentPositions 0 = .ok (.iconst 0, 1) := by decide +kernel
theorem dX10_differentPositions_1 : decode cX10_differentPositions 1 = .ok (.istore_n 1, 1) := by decide +kernel
theorem dX10_differentPositions_2 : decode cX10_differentPositions 2 = .ok (.iconst 0, 1) := by decide +kernel
theorem dX10_differentPositions_3 : decode cX10_differentPositions 3 = .ok (.istore_n 2, 1) := by decide +kernel
theorem dX10_differentPositions_4 : decode cX10_differentPositions 4 = .ok (.iload_n 2, 1) := by decide +kernel
theorem dX10_differentPositions_5 : decode cX10_differentPositions 5 = .ok (.aload_n 0, 1) := by decide +kernel
theorem dX10_differentPositions_6 : decode cX10_differentPositions 6 = .ok (.getfield 12, 3) := by decide +kernel
theorem dX10_differentPositions_9 : decode cX10_differentPositions 9 = .ok (.invokevirtual 18, 3) := by decide +kernel
theorem dX10_differentPositions_12 : decode cX10_differentPositions 12 = .ok (.if_icmp .ge 54, 3) := by decide +kernel
theorem dX10_differentPositions_15 : decode cX10_differentPositions 15 = .ok (.aload_n 0, 1) := by decide +kernel
theorem dX10_differentPositions_16 : decode cX10_differentPositions 16 = .ok (.iload_n 2, 1) := by decide +kernel
theorem dX10_differentPositions_17 : decode cX10_differentPositions 17 = .ok (.invokevirtual 51, 3) := by decide +kernel
theorem dX10_differentPositions_20 : decode cX10_differentPositions 20 = .ok (.astore_n 3, 1) := by decide +kernel
theorem dX10_differentPositions_21 : decode cX10_differentPositions 21 = .ok (.iconst 0, 1) := by decide +kernel
theorem dX10_differentPositions_22 : decode cX10_differentPositions 22 = .ok (.istore 4, 2) := by decide +kernel
theorem dX10_differentPositions_24 : decode cX10_differentPositions 24 = .ok (.aload_n 3, 1) := by decide +kernel
theorem dX10_differentPositions_25 : decode cX10_differentPositions 25 = .ok (.ifnull 35, 3) := by decide +kernel
theorem dX10_differentPositions_28 : decode cX10_differentPositions 28 = .ok (.iload 4, 2) := by decide +kernel
theorem dX10_differentPositions_30 : decode cX10_differentPositions 30 = .ok (.aload_n 3, 1) := by decide +kernel
theorem dX10_differentPositions_31 : decode cX10_differentPositions 31 = .ok (.getfield 31, 3) := by decide +kernel
theorem dX10_differentPositions_34 : decode cX10_differentPositions 34 = .ok (.if_icmp .gt 26, 3) := by decide +kernel
theorem dX10_differentPositions_37 : decode cX10_differentPositions 37 = .ok (.iload_n 1, 1) := by decide +kernel
theorem dX10_differentPositions_38 : decode cX10_differentPositions 38 = .ok (.aload_n 3, 1) := by decide +kernel
theorem dX10_differentPositions_39 : decode cX10_differentPositions 39 = .ok (.iload 4, 2) := by decide +kernel
theorem dX10_differentPositions_41 : decode cX10_differentPositions 41 = .ok (.invokevirtual 59, 3) := by decide +kernel
theorem dX10_differentPositions_44 : decode cX10_differentPositions 44 = .ok (.ifCond .eq 7, 3) := by decide +kernel
theorem dX10_differentPositions_47 : decode cX10_differentPositions 47 = .ok (.iconst 1, 1) := by decide +kernel
theorem dX10_differentPositions_48 : decode cX10_differentPositions 48 = .ok (.goto 4, 3) := by decide +kernel
theorem dX10_differentPositions_51 : decode cX10_differentPositions 51 = .ok (.iconst 0, 1) := by decide +kernel
theorem dX10_differentPositions_52 : decode cX10_differentPositions 52 = .ok (.iadd, 1) := by decide +kernel
theorem dX10_differentPositions_53 : decode cX10_differentPositions 53 = .ok (.istore_n 1, 1) := by decide +kernel
theorem dX10_differentPositions_54 : decode cX10_differentPositions 54 = .ok (.iinc 4 1, 3) := by decide +kernel
theorem dX10_differentPositions_57 : decode cX10_differentPositions 57 = .ok (.goto (-33), 3) := by decide +kernel
theorem dX10_differentPositions_60 : decode cX10_differentPositions 60 = .ok (.iinc 2 1, 3) := by decide +kernel
theorem dX10_differentPositions_63 : decode cX10_differentPositions 63 = .ok (.goto (-59), 3) := by decide +kernel
theorem dX10_differentPositions_66 : decode cX10_differentPositions 66 = .ok (.iload_n 1, 1) := by decide +kernel
theorem dX10_differentPositions_67 : decode cX10_differentPositions 67 = .ok (.ireturn, 1) := by decide +kernel
theorem dX10_hasLike_0 : decode cX10_hasLike 0 = .ok (.iconst 0, 1) := by decide +kernel
theorem dX10_hasLike_1 : decode cX10_hasLike 1 = .ok (.istore_n 2, 1) := by decide +kernel
theorem dX10_hasLike_2 : decode cX10_hasLike 2 = .ok (.iload_n 2, 1) := by decide +kernel
theorem dX10_hasLike_3 : decode cX10_hasLike 3 = .ok (.aload_n 0, 1) := by decide +kernel
theorem dX10_hasLike_4 : decode cX10_hasLike 4 = .ok (.getfield 12, 3) := by decide +kernel
theorem dX10_hasLike_7 : decode cX10_hasLike 7 = .ok (.invokevirtual 18, 3) := by decide +kernel
theorem dX10_hasLike_10 : decode cX10_hasLike 10 = .ok (.if_icmp .ge 29, 3) := by decide +kernel
theorem dX10_hasLike_13 : decode cX10_hasLike 13 = .ok (.aload_n 0, 1) := by decide +kernel
theorem dX10_hasLike_14 : decode cX10_hasLike 14 = .ok (.iload_n 2, 1) := by decide +kernel
theorem dX10_hasLike_15 : decode cX10_hasLike 15 = .ok (.invokevirtual 51, 3) := by decide +kernel
theorem dX10_hasLike_18 : decode cX10_hasLike 18 = .ok (.astore_n 3, 1) := by decide +kernel
theorem dX10_hasLike_19 : decode cX10_hasLike 19 = .ok (.aload_n 3, 1) := by decide +kernel
theorem dX10_hasLike_20 : decode cX10_hasLike 20 = .ok (.ifnull 13, 3) := by decide +kernel
theorem dX10_hasLike_23 : decode cX10_hasLike 23 = .ok (.aload_n 3, 1) := by decide +kernel
theorem dX10_hasLike_24 : decode cX10_hasLike 24 = .ok (.aload_n 1, 1) := by decide +kernel
theorem dX10_hasLike_25 : decode cX10_hasLike 25 = .ok (.invokevirtual 55, 3) := by decide +kernel
theorem dX10_hasLike_28 : decode cX10_hasLike 28 = .ok (.ifCond .eq 5, 3) := by decide +kernel
theorem dX10_hasLike_31 : decode cX10_hasLike 31 = .ok (.iconst 1, 1) := by decide +kernel
theorem dX10_hasLike_32 : decode cX10_hasLike 32 = .ok (.ireturn, 1) := by decide +kernel
theorem dX10_hasLike_33 : decode cX10_hasLike 33 = .ok (.iinc 2 1, 3) := by decide +kernel
theorem dX10_hasLike_36 : decode cX10_hasLike 36 = .ok (.goto (-34), 3) := by decide +kernel
theorem dX10_hasLike_39 : decode cX10_hasLike 39 = .ok (.iconst 0, 1) := by decide +kernel
theorem dX10_hasLike_40 : decode cX10_hasLike 40 = .ok (.ireturn, 1) := by decide +kernel
theorem dX10_init_0 : decode cX10_init 0 = .ok (.aload_n 0, 1) := by decide +kernel
theorem dX10_init_1 : decode cX10_init 1 = .ok (.invokespecial 3, 3) := by decide +kernel
theorem dX10_init_4 : decode cX10_init 4 = .ok (.aload_n 0, 1) := by decide +kernel
theorem dX10_init_5 : decode cX10_init 5 = .ok (.new 9, 3) := by decide +kernel
theorem dX10_init_8 : decode cX10_init 8 = .ok (.dup, 1) := by decide +kernel
theorem dX10_init_9 : decode cX10_init 9 = .ok (.invokespecial 11, 3) := by decide +kernel
theorem dX10_init_12 : decode cX10_init 12 = .ok (.putfield 12, 3) := by decide +kernel
theorem dX10_init_15 : decode cX10_init 15 = .ok (.return_, 1) := by decide +kernel
theorem dX10_movesOfAll_0 : decode cX10_movesOfAll 0 = .ok (.iconst 0, 1) := by decide +kernel
theorem dX10_movesOfAll_1 : decode cX10_movesOfAll 1 = .ok (.istore_n 1, 1) := by decide +kernel
theorem dX10_movesOfAll_2 : decode cX10_movesOfAll 2 = .ok (.iconst 0, 1) := by decide +kernel
theorem dX10_movesOfAll_3 : decode cX10_movesOfAll 3 = .ok (.istore_n 2, 1) := by decide +kernel
theorem dX10_movesOfAll_4 : decode cX10_movesOfAll 4 = .ok (.iload_n 2, 1) := by decide +kernel
theorem dX10_movesOfAll_5 : decode cX10_movesOfAll 5 = .ok (.aload_n 0, 1) := by decide +kernel
theorem dX10_movesOfAll_6 : decode cX10_movesOfAll 6 = .ok (.getfield 12, 3) := by decide +kernel
theorem dX10_movesOfAll_9 : decode cX10_movesOfAll 9 = .ok (.invokevirtual 18, 3) := by decide +kernel
theorem dX10_movesOfAll_12 : decode cX10_movesOfAll 12 = .ok (.if_icmp .ge 30, 3) := by decide +kernel
theorem dX10_movesOfAll_15 : decode cX10_movesOfAll 15 = .ok (.aload_n 0, 1) := by decide +kernel
theorem dX10_movesOfAll_16 : decode cX10_movesOfAll 16 = .ok (.iload_n 2, 1) := by decide +kernel
theorem dX10_movesOfAll_17 : decode cX10_movesOfAll 17 = .ok (.invokevirtual 51, 3) := by decide +kernel
theorem dX10_movesOfAll_20 : decode cX10_movesOfAll 20 = .ok (.astore_n 3, 1) := by decide +kernel
theorem dX10_movesOfAll_21 : decode cX10_movesOfAll 21 = .ok (.iload_n 1, 1) := by decide +kernel
theorem dX10_movesOfAll_22 : decode cX10_movesOfAll 22 = .ok (.aload_n 3, 1) := by decide +kernel
theorem dX10_movesOfAll_23 : decode cX10_movesOfAll 23 = .ok (.ifnonnull 7, 3) := by decide +kernel
theorem dX10_movesOfAll_26 : decode cX10_movesOfAll 26 = .ok (.iconst 0, 1) := by decide +kernel
theorem dX10_movesOfAll_27 : decode cX10_movesOfAll 27 = .ok (.goto 7, 3) := by decide +kernel
theorem dX10_movesOfAll_30 : decode cX10_movesOfAll 30 = .ok (.aload_n 3, 1) := by decide +kernel
theorem dX10_movesOfAll_31 : decode cX10_movesOfAll 31 = .ok (.getfield 31, 3) := by decide +kernel
theorem dX10_movesOfAll_34 : decode cX10_movesOfAll 34 = .ok (.iadd, 1) := by decide +kernel
theorem dX10_movesOfAll_35 : decode cX10_movesOfAll 35 = .ok (.istore_n 1, 1) := by decide +kernel
theorem dX10_movesOfAll_36 : decode cX10_movesOfAll 36 = .ok (.iinc 2 1, 3) := by decide +kernel
theorem dX10_movesOfAll_39 : decode cX10_movesOfAll 39 = .ok (.goto (-35), 3) := by decide +kernel
theorem dX10_movesOfAll_42 : decode cX10_movesOfAll 42 = .ok (.iload_n 1, 1) := by decide +kernel
theorem dX10_movesOfAll_43 : decode cX10_movesOfAll 43 = .ok (.ireturn, 1) := by decide +kernel
theorem dX10_numberDue_0 : decode cX10_numberDue 0 = .ok (.iconst (-1), 1) := by decide +kernel
theorem dX10_numberDue_1 : decode cX10_numberDue 1 = .ok (.istore_n 1, 1) := by decide +kernel
theorem dX10_numberDue_2 : decode cX10_numberDue 2 = .ok (.aconst_null, 1) := by decide +kernel
theorem dX10_numberDue_3 : decode cX10_numberDue 3 = .ok (.astore_n 2, 1) := by decide +kernel
theorem dX10_numberDue_4 : decode cX10_numberDue 4 = .ok (.iconst 0, 1) := by decide +kernel
theorem dX10_numberDue_5 : decode cX10_numberDue 5 = .ok (.istore_n 3, 1) := by decide +kernel
theorem dX10_numberDue_6 : decode cX10_numberDue 6 = .ok (.iload_n 3, 1) := by decide +kernel
theorem dX10_numberDue_7 : decode cX10_numberDue 7 = .ok (.aload_n 0, 1) := by decide +kernel
theorem dX10_numberDue_8 : decode cX10_numberDue 8 = .ok (.getfield 12, 3) := by decide +kernel
theorem dX10_numberDue_11 : decode cX10_numberDue 11 = .ok (.invokevirtual 18, 3) := by decide +kernel
theorem dX10_numberDue_14 : decode cX10_numberDue 14 = .ok (.if_icmp .ge 81, 3) := by decide +kernel
theorem dX10_numberDue_17 : decode cX10_numberDue 17 = .ok (.aload_n 0, 1) := by decide +kernel
theorem dX10_numberDue_18 : decode cX10_numberDue 18 = .ok (.iload_n 3, 1) := by decide +kernel
theorem dX10_numberDue_19 : decode cX10_numberDue 19 = .ok (.invokevirtual 51, 3) := by decide +kernel
theorem dX10_numberDue_22 : decode cX10_numberDue 22 = .ok (.astore 4, 2) := by decide +kernel
theorem dX10_numberDue_24 : decode cX10_numberDue 24 = .ok (.aload 4, 2) := by decide +kernel
theorem dX10_numberDue_26 : decode cX10_numberDue 26 = .ok (.ifnonnull 6, 3) := by decide +kernel
theorem dX10_numberDue_29 : decode cX10_numberDue 29 = .ok (.goto 60, 3) := by decide +kernel
theorem dX10_numberDue_32 : decode cX10_numberDue 32 = .ok (.aload_n 2, 1) := by decide +kernel
theorem dX10_numberDue_33 : decode cX10_numberDue 33 = .ok (.ifnull 39, 3) := by decide +kernel
theorem dX10_numberDue_36 : decode cX10_numberDue 36 = .ok (.aload 4, 2) := by decide +kernel
theorem dX10_numberDue_38 : decode cX10_numberDue 38 = .ok (.getfield 100, 3) := by decide +kernel
theorem dX10_numberDue_41 : decode cX10_numberDue 41 = .ok (.aload_n 2, 1) := by decide +kernel
theorem dX10_numberDue_42 : decode cX10_numberDue 42 = .ok (.getfield 100, 3) := by decide +kernel
theorem dX10_numberDue_45 : decode cX10_numberDue 45 = .ok (.if_icmp .lt 27, 3) := by decide +kernel
theorem dX10_numberDue_48 : decode cX10_numberDue 48 = .ok (.aload 4, 2) := by decide +kernel
theorem dX10_numberDue_50 : decode cX10_numberDue 50 = .ok (.getfield 100, 3) := by decide +kernel
theorem dX10_numberDue_53 : decode cX10_numberDue 53 = .ok (.aload_n 2, 1) := by decide +kernel
theorem dX10_numberDue_54 : decode cX10_numberDue 54 = .ok (.getfield 100, 3) := by decide +kernel
theorem dX10_numberDue_57 : decode cX10_numberDue 57 = .ok (.if_icmp .ne 19, 3) := by decide +kernel
theorem dX10_numberDue_60 : decode cX10_numberDue 60 = .ok (.aload 4, 2) := by decide +kernel
theorem dX10_numberDue_62 : decode cX10_numberDue 62 = .ok (.getfield 103, 3) := by decide +kernel
theorem dX10_numberDue_65 : decode cX10_numberDue 65 = .ok (.aload_n 2, 1) := by decide +kernel
theorem dX10_numberDue_66 : decode cX10_numberDue 66 = .ok (.getfield 103, 3) := by decide +kernel
theorem dX10_numberDue_69 : decode cX10_numberDue 69 = .ok (.if_icmp .ge 7, 3) := by decide +kernel
theorem dX10_numberDue_72 : decode cX10_numberDue 72 = .ok (.iconst 1, 1) := by decide +kernel
theorem dX10_numberDue_73 : decode cX10_numberDue 73 = .ok (.goto 4, 3) := by decide +kernel
theorem dX10_numberDue_76 : decode cX10_numberDue 76 = .ok (.iconst 0, 1) := by decide +kernel
theorem dX10_numberDue_77 : decode cX10_numberDue 77 = .ok (.istore 5, 2) := by decide +kernel
theorem dX10_numberDue_79 : decode cX10_numberDue 79 = .ok (.iload 5, 2) := by decide +kernel
theorem dX10_numberDue_81 : decode cX10_numberDue 81 = .ok (.ifCond .eq 8, 3) := by decide +kernel
theorem dX10_numberDue_84 : decode cX10_numberDue 84 = .ok (.iload_n 3, 1) := by decide +kernel
theorem dX10_numberDue_85 : decode cX10_numberDue 85 = .ok (.istore_n 1, 1) := by decide +kernel
theorem dX10_numberDue_86 : decode cX10_numberDue 86 = .ok (.aload 4, 2) := by decide +kernel
theorem dX10_numberDue_88 : decode cX10_numberDue 88 = .ok (.astore_n 2, 1) := by decide +kernel
theorem dX10_numberDue_89 : decode cX10_numberDue 89 = .ok (.iinc 3 1, 3) := by decide +kernel
theorem dX10_numberDue_92 : decode cX10_numberDue 92 = .ok (.goto (-86), 3) := by decide +kernel
theorem dX10_numberDue_95 : decode cX10_numberDue 95 = .ok (.iload_n 1, 1) := by decide +kernel
theorem dX10_numberDue_96 : decode cX10_numberDue 96 = .ok (.ireturn, 1) := by decide +kernel
theorem dX10_passing_0 : decode cX10_passing 0 = .ok (.iconst 0, 1) := by decide +kernel
theorem dX10_passing_1 : decode cX10_passing 1 = .ok (.istore_n 3, 1) := by decide +kernel
theorem dX10_passing_2 : decode cX10_passing 2 = .ok (.iconst 0, 1) := by decide +kernel
theorem dX10_passing_3 : decode cX10_passing 3 = .ok (.istore 4, 2) := by decide +kernel
theorem dX10_passing_5 : decode cX10_passing 5 = .ok (.iload 4, 2) := by decide +kernel
theorem dX10_passing_7 : decode cX10_passing 7 = .ok (.aload_n 0, 1) := by decide +kernel
theorem dX10_passing_8 : decode cX10_passing 8 = .ok (.getfield 12, 3) := by decide +kernel
theorem dX10_passing_11 : decode cX10_passing 11 = .ok (.invokevirtual 18, 3) := by decide +kernel
theorem dX10_passing_14 : decode cX10_passing 14 = .ok (.if_icmp .ge 48, 3) := by decide +kernel
theorem dX10_passing_17 : decode cX10_passing 17 = .ok (.aload_n 0, 1) := by decide +kernel
theorem dX10_passing_18 : decode cX10_passing 18 = .ok (.iload 4, 2) := by decide +kernel
theorem dX10_passing_20 : decode cX10_passing 20 = .ok (.invokevirtual 51, 3) := by decide +kernel
theorem dX10_passing_23 : decode cX10_passing 23 = .ok (.astore 5, 2) := by decide +kernel
theorem dX10_passing_25 : decode cX10_passing 25 = .ok (.aload 5, 2) := by decide +kernel
theorem dX10_passing_27 : decode cX10_passing 27 = .ok (.ifnull 29, 3) := by decide +kernel
theorem dX10_passing_30 : decode cX10_passing 30 = .ok (.iload_n 2, 1) := by decide +kernel
theorem dX10_passing_31 : decode cX10_passing 31 = .ok (.iconst (-1), 1) := by decide +kernel
theorem dX10_passing_32 : decode cX10_passing 32 = .ok (.if_icmp .eq 12, 3) := by decide +kernel
theorem dX10_passing_35 : decode cX10_passing 35 = .ok (.aload 5, 2) := by decide +kernel
theorem dX10_passing_37 : decode cX10_passing 37 = .ok (.getfield 77, 3) := by decide +kernel
theorem dX10_passing_40 : decode cX10_passing 40 = .ok (.iload_n 2, 1) := by decide +kernel
theorem dX10_passing_41 : decode cX10_passing 41 = .ok (.if_icmp .ne 15, 3) := by decide +kernel
theorem dX10_passing_44 : decode cX10_passing 44 = .ok (.aload 5, 2) := by decide +kernel
theorem dX10_passing_46 : decode cX10_passing 46 = .ok (.aload_n 1, 1) := by decide +kernel
theorem dX10_passing_47 : decode cX10_passing 47 = .ok (.invokevirtual 80, 3) := by decide +kernel
theorem dX10_passing_50 : decode cX10_passing 50 = .ok (.ifCond .eq 6, 3) := by decide +kernel
theorem dX10_passing_53 : decode cX10_passing 53 = .ok (.iinc 3 1, 3) := by decide +kernel
theorem dX10_passing_56 : decode cX10_passing 56 = .ok (.iinc 4 1, 3) := by decide +kernel
theorem dX10_passing_59 : decode cX10_passing 59 = .ok (.goto (-54), 3) := by decide +kernel
theorem dX10_passing_62 : decode cX10_passing 62 = .ok (.iload_n 3, 1) := by decide +kernel
theorem dX10_passing_63 : decode cX10_passing 63 = .ok (.ireturn, 1) := by decide +kernel
theorem dX10_passingInYears_0 : decode cX10_passingInYears 0 = .ok (.iconst 0, 1) := by decide +kernel
theorem dX10_passingInYears_1 : decode cX10_passingInYears 1 = .ok (.istore 4, 2) := by decide +kernel
theorem dX10_passingInYears_3 : decode cX10_passingInYears 3 = .ok (.iconst 0, 1) := by decide +kernel
theorem dX10_passingInYears_4 : decode cX10_passingInYears 4 = .ok (.istore 5, 2) := by decide +kernel
theorem dX10_passingInYears_6 : decode cX10_passingInYears 6 = .ok (.iload 5, 2) := by decide +kernel
theorem dX10_passingInYears_8 : decode cX10_passingInYears 8 = .ok (.aload_n 0, 1) := by decide +kernel
theorem dX10_passingInYears_9 : decode cX10_passingInYears 9 = .ok (.getfield 12, 3) := by decide +kernel
theorem dX10_passingInYears_12 : decode cX10_passingInYears 12 = .ok (.invokevirtual 18, 3) := by decide +kernel
theorem dX10_passingInYears_15 : decode cX10_passingInYears 15 = .ok (.if_icmp .ge 52, 3) := by decide +kernel
theorem dX10_passingInYears_18 : decode cX10_passingInYears 18 = .ok (.aload_n 0, 1) := by decide +kernel
theorem dX10_passingInYears_19 : decode cX10_passingInYears 19 = .ok (.iload 5, 2) := by decide +kernel
theorem dX10_passingInYears_21 : decode cX10_passingInYears 21 = .ok (.invokevirtual 51, 3) := by decide +kernel
theorem dX10_passingInYears_24 : decode cX10_passingInYears 24 = .ok (.astore 6, 2) := by decide +kernel
theorem dX10_passingInYears_26 : decode cX10_passingInYears 26 = .ok (.aload 6, 2) := by decide +kernel
theorem dX10_passingInYears_28 : decode cX10_passingInYears 28 = .ok (.ifnull 33, 3) := by decide +kernel
theorem dX10_passingInYears_31 : decode cX10_passingInYears 31 = .ok (.aload 6, 2) := by decide +kernel
theorem dX10_passingInYears_33 : decode cX10_passingInYears 33 = .ok (.getfield 84, 3) := by decide +kernel
theorem dX10_passingInYears_36 : decode cX10_passingInYears 36 = .ok (.iload_n 2, 1) := by decide +kernel
theorem dX10_passingInYears_37 : decode cX10_passingInYears 37 = .ok (.if_icmp .lt 24, 3) := by decide +kernel
theorem dX10_passingInYears_40 : decode cX10_passingInYears 40 = .ok (.aload 6, 2) := by decide +kernel
theorem dX10_passingInYears_42 : decode cX10_passingInYears 42 = .ok (.getfield 84, 3) := by decide +kernel
theorem dX10_passingInYears_45 : decode cX10_passingInYears 45 = .ok (.iload_n 3, 1) := by decide +kernel
theorem dX10_passingInYears_46 : decode cX10_passingInYears 46 = .ok (.if_icmp .gt 15, 3) := by decide +kernel
theorem dX10_passingInYears_49 : decode cX10_passingInYears 49 = .ok (.aload 6, 2) := by decide +kernel
theorem dX10_passingInYears_51 : decode cX10_passingInYears 51 = .ok (.aload_n 1, 1) := by decide +kernel
theorem dX10_passingInYears_52 : decode cX10_passingInYears 52 = .ok (.invokevirtual 80, 3) := by decide +kernel
theorem dX10_passingInYears_55 : decode cX10_passingInYears 55 = .ok (.ifCond .eq 6, 3) := by decide +kernel
theorem dX10_passingInYears_58 : decode cX10_passingInYears 58 = .ok (.iinc 4 1, 3) := by decide +kernel
theorem dX10_passingInYears_61 : decode cX10_passingInYears 61 = .ok (.iinc 5 1, 3) := by decide +kernel
theorem dX10_passingInYears_64 : decode cX10_passingInYears 64 = .ok (.goto (-58), 3) := by decide +kernel
theorem dX10_passingInYears_67 : decode cX10_passingInYears 67 = .ok (.iload 4, 2) := by decide +kernel
theorem dX10_passingInYears_69 : decode cX10_passingInYears 69 = .ok (.ireturn, 1) := by decide +kernel
theorem dX10_positionsFitting_0 : decode cX10_positionsFitting 0 = .ok (.iconst 0, 1) := by decide +kernel
theorem dX10_positionsFitting_1 : decode cX10_positionsFitting 1 = .ok (.istore_n 3, 1) := by decide +kernel
theorem dX10_positionsFitting_2 : decode cX10_positionsFitting 2 = .ok (.iconst 0, 1) := by decide +kernel
theorem dX10_positionsFitting_3 : decode cX10_positionsFitting 3 = .ok (.istore 4, 2) := by decide +kernel
theorem dX10_positionsFitting_5 : decode cX10_positionsFitting 5 = .ok (.iload 4, 2) := by decide +kernel
theorem dX10_positionsFitting_7 : decode cX10_positionsFitting 7 = .ok (.aload_n 0, 1) := by decide +kernel
theorem dX10_positionsFitting_8 : decode cX10_positionsFitting 8 = .ok (.getfield 12, 3) := by decide +kernel
theorem dX10_positionsFitting_11 : decode cX10_positionsFitting 11 = .ok (.invokevirtual 18, 3) := by decide +kernel
theorem dX10_positionsFitting_14 : decode cX10_positionsFitting 14 = .ok (.if_icmp .ge 78, 3) := by decide +kernel
theorem dX10_positionsFitting_17 : decode cX10_positionsFitting 17 = .ok (.aload_n 0, 1) := by decide +kernel
theorem dX10_positionsFitting_18 : decode cX10_positionsFitting 18 = .ok (.iload 4, 2) := by decide +kernel
theorem dX10_positionsFitting_20 : decode cX10_positionsFitting 20 = .ok (.invokevirtual 51, 3) := by decide +kernel
theorem dX10_positionsFitting_23 : decode cX10_positionsFitting 23 = .ok (.astore 5, 2) := by decide +kernel
theorem dX10_positionsFitting_25 : decode cX10_positionsFitting 25 = .ok (.iconst 0, 1) := by decide +kernel
theorem dX10_positionsFitting_26 : decode cX10_positionsFitting 26 = .ok (.istore 6, 2) := by decide +kernel
theorem dX10_positionsFitting_28 : decode cX10_positionsFitting 28 = .ok (.aload 5, 2) := by decide +kernel
theorem dX10_positionsFitting_30 : decode cX10_positionsFitting 30 = .ok (.ifnull 56, 3) := by decide +kernel
theorem dX10_positionsFitting_33 : decode cX10_positionsFitting 33 = .ok (.iload 6, 2) := by decide +kernel
theorem dX10_positionsFitting_35 : decode cX10_positionsFitting 35 = .ok (.aload 5, 2) := by decide +kernel
theorem dX10_positionsFitting_37 : decode cX10_positionsFitting 37 = .ok (.getfield 31, 3) := by decide +kernel
theorem dX10_positionsFitting_40 : decode cX10_positionsFitting 40 = .ok (.if_icmp .gt 46, 3) := by decide +kernel
theorem dX10_positionsFitting_43 : decode cX10_positionsFitting 43 = .ok (.aload_n 2, 1) := by decide +kernel
theorem dX10_positionsFitting_44 : decode cX10_positionsFitting 44 = .ok (.aload 5, 2) := by decide +kernel
theorem dX10_positionsFitting_46 : decode cX10_positionsFitting 46 = .ok (.getfield 63, 3) := by decide +kernel
theorem dX10_positionsFitting_49 : decode cX10_positionsFitting 49 = .ok (.iload 6, 2) := by decide +kernel
theorem dX10_positionsFitting_51 : decode cX10_positionsFitting 51 = .ok (.invokevirtual 67, 3) := by decide +kernel
theorem dX10_positionsFitting_54 : decode cX10_positionsFitting 54 = .ok (.iload_n 3, 1) := by decide +kernel
theorem dX10_positionsFitting_55 : decode cX10_positionsFitting 55 = .ok (.aload 5, 2) := by decide +kernel
theorem dX10_positionsFitting_57 : decode cX10_positionsFitting 57 = .ok (.iload 6, 2) := by decide +kernel
theorem dX10_positionsFitting_59 : decode cX10_positionsFitting 59 = .ok (.invokevirtual 59, 3) := by decide +kernel
theorem dX10_positionsFitting_62 : decode cX10_positionsFitting 62 = .ok (.ifCond .eq 15, 3) := by decide +kernel
theorem dX10_positionsFitting_65 : decode cX10_positionsFitting 65 = .ok (.aload_n 2, 1) := by decide +kernel
theorem dX10_positionsFitting_66 : decode cX10_positionsFitting 66 = .ok (.aload_n 1, 1) := by decide +kernel
theorem dX10_positionsFitting_67 : decode cX10_positionsFitting 67 = .ok (.invokevirtual 73, 3) := by decide +kernel
theorem dX10_positionsFitting_70 : decode cX10_positionsFitting 70 = .ok (.ifCond .eq 7, 3) := by decide +kernel
theorem dX10_positionsFitting_73 : decode cX10_positionsFitting 73 = .ok (.iconst 1, 1) := by decide +kernel
theorem dX10_positionsFitting_74 : decode cX10_positionsFitting 74 = .ok (.goto 4, 3) := by decide +kernel
theorem dX10_positionsFitting_77 : decode cX10_positionsFitting 77 = .ok (.iconst 0, 1) := by decide +kernel
theorem dX10_positionsFitting_78 : decode cX10_positionsFitting 78 = .ok (.iadd, 1) := by decide +kernel
theorem dX10_positionsFitting_79 : decode cX10_positionsFitting 79 = .ok (.istore_n 3, 1) := by decide +kernel
theorem dX10_positionsFitting_80 : decode cX10_positionsFitting 80 = .ok (.iinc 6 1, 3) := by decide +kernel
theorem dX10_positionsFitting_83 : decode cX10_positionsFitting 83 = .ok (.goto (-55), 3) := by decide +kernel
theorem dX10_positionsFitting_86 : decode cX10_positionsFitting 86 = .ok (.iinc 4 1, 3) := by decide +kernel
theorem dX10_positionsFitting_89 : decode cX10_positionsFitting 89 = .ok (.goto (-84), 3) := by decide +kernel
theorem dX10_positionsFitting_92 : decode cX10_positionsFitting 92 = .ok (.iload_n 3, 1) := by decide +kernel
theorem dX10_positionsFitting_93 : decode cX10_positionsFitting 93 = .ok (.ireturn, 1) := by decide +kernel
theorem dX10_replaysPassing_0 : decode cX10_replaysPassing 0 = .ok (.iconst 0, 1) := by decide +kernel
theorem dX10_replaysPassing_1 : decode cX10_replaysPassing 1 = .ok (.istore_n 3, 1) := by decide +kernel
theorem dX10_replaysPassing_2 : decode cX10_replaysPassing 2 = .ok (.iconst 0, 1) := by decide +kernel
theorem dX10_replaysPassing_3 : decode cX10_replaysPassing 3 = .ok (.istore 4, 2) := by decide +kernel
theorem dX10_replaysPassing_5 : decode cX10_replaysPassing 5 = .ok (.iload 4, 2) := by decide +kernel
theorem dX10_replaysPassing_7 : decode cX10_replaysPassing 7 = .ok (.aload_n 0, 1) := by decide +kernel
theorem dX10_replaysPassing_8 : decode cX10_replaysPassing 8 = .ok (.getfield 12, 3) := by decide +kernel
theorem dX10_replaysPassing_11 : decode cX10_replaysPassing 11 = .ok (.invokevirtual 18, 3) := by decide +kernel
theorem dX10_replaysPassing_14 : decode cX10_replaysPassing 14 = .ok (.if_icmp .ge 95, 3) := by decide +kernel
theorem dX10_replaysPassing_17 : decode cX10_replaysPassing 17 = .ok (.aload_n 0, 1) := by decide +kernel
theorem dX10_replaysPassing_18 : decode cX10_replaysPassing 18 = .ok (.iload 4, 2) := by decide +kernel
theorem dX10_replaysPassing_20 : decode cX10_replaysPassing 20 = .ok (.invokevirtual 51, 3) := by decide +kernel
theorem dX10_replaysPassing_23 : decode cX10_replaysPassing 23 = .ok (.astore 5, 2) := by decide +kernel
theorem dX10_replaysPassing_25 : decode cX10_replaysPassing 25 = .ok (.aload 5, 2) := by decide +kernel
theorem dX10_replaysPassing_27 : decode cX10_replaysPassing 27 = .ok (.ifnonnull 6, 3) := by decide +kernel
theorem dX10_replaysPassing_30 : decode cX10_replaysPassing 30 = .ok (.goto 73, 3) := by decide +kernel
theorem dX10_replaysPassing_33 : decode cX10_replaysPassing 33 = .ok (.aload_n 2, 1) := by decide +kernel
theorem dX10_replaysPassing_34 : decode cX10_replaysPassing 34 = .ok (.aload 5, 2) := by decide +kernel
theorem dX10_replaysPassing_36 : decode cX10_replaysPassing 36 = .ok (.getfield 63, 3) := by decide +kernel
theorem dX10_replaysPassing_39 : decode cX10_replaysPassing 39 = .ok (.iconst 0, 1) := by decide +kernel
theorem dX10_replaysPassing_40 : decode cX10_replaysPassing 40 = .ok (.invokevirtual 67, 3) := by decide +kernel
theorem dX10_replaysPassing_43 : decode cX10_replaysPassing 43 = .ok (.aload_n 2, 1) := by decide +kernel
theorem dX10_replaysPassing_44 : decode cX10_replaysPassing 44 = .ok (.aload_n 1, 1) := by decide +kernel
theorem dX10_replaysPassing_45 : decode cX10_replaysPassing 45 = .ok (.invokevirtual 90, 3) := by decide +kernel
theorem dX10_replaysPassing_48 : decode cX10_replaysPassing 48 = .ok (.istore 6, 2) := by decide +kernel
theorem dX10_replaysPassing_50 : decode cX10_replaysPassing 50 = .ok (.iconst 0, 1) := by decide +kernel
theorem dX10_replaysPassing_51 : decode cX10_replaysPassing 51 = .ok (.istore 7, 2) := by decide +kernel
theorem dX10_replaysPassing_53 : decode cX10_replaysPassing 53 = .ok (.iload 7, 2) := by decide +kernel
theorem dX10_replaysPassing_55 : decode cX10_replaysPassing 55 = .ok (.aload 5, 2) := by decide +kernel
theorem dX10_replaysPassing_57 : decode cX10_replaysPassing 57 = .ok (.getfield 31, 3) := by decide +kernel
theorem dX10_replaysPassing_60 : decode cX10_replaysPassing 60 = .ok (.if_icmp .ge 30, 3) := by decide +kernel
theorem dX10_replaysPassing_63 : decode cX10_replaysPassing 63 = .ok (.aload_n 2, 1) := by decide +kernel
theorem dX10_replaysPassing_64 : decode cX10_replaysPassing 64 = .ok (.aload 5, 2) := by decide +kernel
theorem dX10_replaysPassing_66 : decode cX10_replaysPassing 66 = .ok (.iload 7, 2) := by decide +kernel
theorem dX10_replaysPassing_68 : decode cX10_replaysPassing 68 = .ok (.invokevirtual 92, 3) := by decide +kernel
theorem dX10_replaysPassing_71 : decode cX10_replaysPassing 71 = .ok (.invokevirtual 96, 3) := by decide +kernel
theorem dX10_replaysPassing_74 : decode cX10_replaysPassing 74 = .ok (.iload 6, 2) := by decide +kernel
theorem dX10_replaysPassing_76 : decode cX10_replaysPassing 76 = .ok (.aload_n 2, 1) := by decide +kernel
theorem dX10_replaysPassing_77 : decode cX10_replaysPassing 77 = .ok (.aload_n 1, 1) := by decide +kernel
theorem dX10_replaysPassing_78 : decode cX10_replaysPassing 78 = .ok (.invokevirtual 90, 3) := by decide +kernel
theorem dX10_replaysPassing_81 : decode cX10_replaysPassing 81 = .ok (.ior, 1) := by decide +kernel
theorem dX10_replaysPassing_82 : decode cX10_replaysPassing 82 = .ok (.istore 6, 2) := by decide +kernel
theorem dX10_replaysPassing_84 : decode cX10_replaysPassing 84 = .ok (.iinc 7 1, 3) := by decide +kernel
theorem dX10_replaysPassing_87 : decode cX10_replaysPassing 87 = .ok (.goto (-34), 3) := by decide +kernel
theorem dX10_replaysPassing_90 : decode cX10_replaysPassing 90 = .ok (.iload_n 3, 1) := by decide +kernel
theorem dX10_replaysPassing_91 : decode cX10_replaysPassing 91 = .ok (.iload 6, 2) := by decide +kernel
theorem dX10_replaysPassing_93 : decode cX10_replaysPassing 93 = .ok (.ifCond .eq 7, 3) := by decide +kernel
theorem dX10_replaysPassing_96 : decode cX10_replaysPassing 96 = .ok (.iconst 1, 1) := by decide +kernel
theorem dX10_replaysPassing_97 : decode cX10_replaysPassing 97 = .ok (.goto 4, 3) := by decide +kernel
theorem dX10_replaysPassing_100 : decode cX10_replaysPassing 100 = .ok (.iconst 0, 1) := by decide +kernel
theorem dX10_replaysPassing_101 : decode cX10_replaysPassing 101 = .ok (.iadd, 1) := by decide +kernel
theorem dX10_replaysPassing_102 : decode cX10_replaysPassing 102 = .ok (.istore_n 3, 1) := by decide +kernel
theorem dX10_replaysPassing_103 : decode cX10_replaysPassing 103 = .ok (.iinc 4 1, 3) := by decide +kernel
theorem dX10_replaysPassing_106 : decode cX10_replaysPassing 106 = .ok (.goto (-101), 3) := by decide +kernel
theorem dX10_replaysPassing_109 : decode cX10_replaysPassing 109 = .ok (.iload_n 3, 1) := by decide +kernel
theorem dX10_replaysPassing_110 : decode cX10_replaysPassing 110 = .ok (.ireturn, 1) := by decide +kernel
theorem dX10_size_0 : decode cX10_size 0 = .ok (.aload_n 0, 1) := by decide +kernel
theorem dX10_size_1 : decode cX10_size 1 = .ok (.getfield 12, 3) := by decide +kernel
theorem dX10_size_4 : decode cX10_size 4 = .ok (.invokevirtual 18, 3) := by decide +kernel
theorem dX10_size_7 : decode cX10_size 7 = .ok (.ireturn, 1) := by decide +kernel
theorem dX10_strengthsPassing_0 : decode cX10_strengthsPassing 0 = .ok (.iconst 0, 1) := by decide +kernel
theorem dX10_strengthsPassing_1 : decode cX10_strengthsPassing 1 = .ok (.istore_n 2, 1) := by decide +kernel
theorem dX10_strengthsPassing_2 : decode cX10_strengthsPassing 2 = .ok (.iconst 0, 1) := by decide +kernel
theorem dX10_strengthsPassing_3 : decode cX10_strengthsPassing 3 = .ok (.istore_n 3, 1) := by decide +kernel
theorem dX10_strengthsPassing_4 : decode cX10_strengthsPassing 4 = .ok (.iload_n 3, 1) := by decide +kernel
theorem dX10_strengthsPassing_5 : decode cX10_strengthsPassing 5 = .ok (.aload_n 0, 1) := by decide +kernel
theorem dX10_strengthsPassing_6 : decode cX10_strengthsPassing 6 = .ok (.getfield 12, 3) := by decide +kernel
theorem dX10_strengthsPassing_9 : decode cX10_strengthsPassing 9 = .ok (.invokevirtual 18, 3) := by decide +kernel
theorem dX10_strengthsPassing_12 : decode cX10_strengthsPassing 12 = .ok (.if_icmp .ge 38, 3) := by decide +kernel
theorem dX10_strengthsPassing_15 : decode cX10_strengthsPassing 15 = .ok (.aload_n 0, 1) := by decide +kernel
theorem dX10_strengthsPassing_16 : decode cX10_strengthsPassing 16 = .ok (.iload_n 3, 1) := by decide +kernel
theorem dX10_strengthsPassing_17 : decode cX10_strengthsPassing 17 = .ok (.invokevirtual 51, 3) := by decide +kernel
theorem dX10_strengthsPassing_20 : decode cX10_strengthsPassing 20 = .ok (.astore 4, 2) := by decide +kernel
theorem dX10_strengthsPassing_22 : decode cX10_strengthsPassing 22 = .ok (.aload 4, 2) := by decide +kernel
theorem dX10_strengthsPassing_24 : decode cX10_strengthsPassing 24 = .ok (.ifnull 20, 3) := by decide +kernel
theorem dX10_strengthsPassing_27 : decode cX10_strengthsPassing 27 = .ok (.aload 4, 2) := by decide +kernel
theorem dX10_strengthsPassing_29 : decode cX10_strengthsPassing 29 = .ok (.aload_n 1, 1) := by decide +kernel
theorem dX10_strengthsPassing_30 : decode cX10_strengthsPassing 30 = .ok (.invokevirtual 80, 3) := by decide +kernel
theorem dX10_strengthsPassing_33 : decode cX10_strengthsPassing 33 = .ok (.ifCond .eq 11, 3) := by decide +kernel
theorem dX10_strengthsPassing_36 : decode cX10_strengthsPassing 36 = .ok (.iload_n 2, 1) := by decide +kernel
theorem dX10_strengthsPassing_37 : decode cX10_strengthsPassing 37 = .ok (.aload 4, 2) := by decide +kernel
theorem dX10_strengthsPassing_39 : decode cX10_strengthsPassing 39 = .ok (.getfield 87, 3) := by decide +kernel
theorem dX10_strengthsPassing_42 : decode cX10_strengthsPassing 42 = .ok (.iadd, 1) := by decide +kernel
theorem dX10_strengthsPassing_43 : decode cX10_strengthsPassing 43 = .ok (.istore_n 2, 1) := by decide +kernel
theorem dX10_strengthsPassing_44 : decode cX10_strengthsPassing 44 = .ok (.iinc 3 1, 3) := by decide +kernel
theorem dX10_strengthsPassing_47 : decode cX10_strengthsPassing 47 = .ok (.goto (-43), 3) := by decide +kernel
theorem dX10_strengthsPassing_50 : decode cX10_strengthsPassing 50 = .ok (.iload_n 2, 1) := by decide +kernel
theorem dX10_strengthsPassing_51 : decode cX10_strengthsPassing 51 = .ok (.ireturn, 1) := by decide +kernel
theorem dX3_init_0 : decode cX3_init 0 = .ok (.aload_n 0, 1) := by decide +kernel
theorem dX3_init_1 : decode cX3_init 1 = .ok (.invokespecial 3, 3) := by decide +kernel
theorem dX3_init_4 : decode cX3_init 4 = .ok (.aload_n 0, 1) := by decide +kernel
theorem dX3_init_5 : decode cX3_init 5 = .ok (.iconst 0, 1) := by decide +kernel
theorem dX3_init_6 : decode cX3_init 6 = .ok (.putfield 9, 3) := by decide +kernel
theorem dX3_init_9 : decode cX3_init 9 = .ok (.aload_n 0, 1) := by decide +kernel
theorem dX3_init_10 : decode cX3_init 10 = .ok (.iconst 0, 1) := by decide +kernel
theorem dX3_init_11 : decode cX3_init 11 = .ok (.putfield 15, 3) := by decide +kernel
theorem dX3_init_14 : decode cX3_init 14 = .ok (.aload_n 0, 1) := by decide +kernel
theorem dX3_init_15 : decode cX3_init 15 = .ok (.iconst 0, 1) := by decide +kernel
theorem dX3_init_16 : decode cX3_init 16 = .ok (.putfield 18, 3) := by decide +kernel
theorem dX3_init_19 : decode cX3_init 19 = .ok (.aload_n 0, 1) := by decide +kernel
theorem dX3_init_20 : decode cX3_init 20 = .ok (.iconst 0, 1) := by decide +kernel
theorem dX3_init_21 : decode cX3_init 21 = .ok (.putfield 21, 3) := by decide +kernel
theorem dX3_init_24 : decode cX3_init 24 = .ok (.aload_n 0, 1) := by decide +kernel
theorem dX3_init_25 : decode cX3_init 25 = .ok (.iconst 0, 1) := by decide +kernel
theorem dX3_init_26 : decode cX3_init 26 = .ok (.putfield 24, 3) := by decide +kernel
theorem dX3_init_29 : decode cX3_init 29 = .ok (.aload_n 0, 1) := by decide +kernel
theorem dX3_init_30 : decode cX3_init 30 = .ok (.iconst 0, 1) := by decide +kernel
theorem dX3_init_31 : decode cX3_init 31 = .ok (.putfield 27, 3) := by decide +kernel
theorem dX3_init_34 : decode cX3_init 34 = .ok (.iload_n 1, 1) := by decide +kernel
theorem dX3_init_35 : decode cX3_init 35 = .ok (.iconst 0, 1) := by decide +kernel
theorem dX3_init_36 : decode cX3_init 36 = .ok (.invokestatic 30, 3) := by decide +kernel
theorem dX3_init_39 : decode cX3_init 39 = .ok (.istore_n 2, 1) := by decide +kernel
theorem dX3_init_40 : decode cX3_init 40 = .ok (.aload_n 0, 1) := by decide +kernel
theorem dX3_init_41 : decode cX3_init 41 = .ok (.iload_n 2, 1) := by decide +kernel
theorem dX3_init_42 : decode cX3_init 42 = .ok (.iconst 1, 1) := by decide +kernel
theorem dX3_init_43 : decode cX3_init 43 = .ok (.iadd, 1) := by decide +kernel
theorem dX3_init_44 : decode cX3_init 44 = .ok (.iconst 5, 1) := by decide +kernel
theorem dX3_init_45 : decode cX3_init 45 = .ok (.imul, 1) := by decide +kernel
theorem dX3_init_46 : decode cX3_init 46 = .ok (.newarray .long, 2) := by decide +kernel
theorem dX3_init_48 : decode cX3_init 48 = .ok (.putfield 36, 3) := by decide +kernel
theorem dX3_init_51 : decode cX3_init 51 = .ok (.aload_n 0, 1) := by decide +kernel
theorem dX3_init_52 : decode cX3_init 52 = .ok (.iload_n 2, 1) := by decide +kernel
theorem dX3_init_53 : decode cX3_init 53 = .ok (.newarray .int, 2) := by decide +kernel
theorem dX3_init_55 : decode cX3_init 55 = .ok (.putfield 40, 3) := by decide +kernel
theorem dX3_init_58 : decode cX3_init 58 = .ok (.aload_n 0, 1) := by decide +kernel
theorem dX3_init_59 : decode cX3_init 59 = .ok (.iload_n 2, 1) := by decide +kernel
theorem dX3_init_60 : decode cX3_init 60 = .ok (.iconst 1, 1) := by decide +kernel
theorem dX3_init_61 : decode cX3_init 61 = .ok (.iadd, 1) := by decide +kernel
theorem dX3_init_62 : decode cX3_init 62 = .ok (.newarray .boolean, 2) := by decide +kernel
theorem dX3_init_64 : decode cX3_init 64 = .ok (.putfield 44, 3) := by decide +kernel
theorem dX3_init_67 : decode cX3_init 67 = .ok (.return_, 1) := by decide +kernel
theorem dX3_copyWith_0 : decode cX3_copyWith 0 = .ok (.new 10, 3) := by decide +kernel
theorem dX3_copyWith_3 : decode cX3_copyWith 3 = .ok (.dup, 1) := by decide +kernel
theorem dX3_copyWith_4 : decode cX3_copyWith 4 = .ok (.aload_n 0, 1) := by decide +kernel
theorem dX3_copyWith_5 : decode cX3_copyWith 5 = .ok (.getfield 9, 3) := by decide +kernel
theorem dX3_copyWith_8 : decode cX3_copyWith 8 = .ok (.invokespecial 54, 3) := by decide +kernel
theorem dX3_copyWith_11 : decode cX3_copyWith 11 = .ok (.astore 4, 2) := by decide +kernel
theorem dX3_copyWith_13 : decode cX3_copyWith 13 = .ok (.iconst 0, 1) := by decide +kernel
theorem dX3_copyWith_14 : decode cX3_copyWith 14 = .ok (.istore 5, 2) := by decide +kernel
theorem dX3_copyWith_16 : decode cX3_copyWith 16 = .ok (.iload 5, 2) := by decide +kernel
theorem dX3_copyWith_18 : decode cX3_copyWith 18 = .ok (.aload 4, 2) := by decide +kernel
theorem dX3_copyWith_20 : decode cX3_copyWith 20 = .ok (.getfield 36, 3) := by decide +kernel
theorem dX3_copyWith_23 : decode cX3_copyWith 23 = .ok (.arraylength, 1) := by decide +kernel
theorem dX3_copyWith_24 : decode cX3_copyWith 24 = .ok (.if_icmp .ge 34, 3) := by decide +kernel
theorem dX3_copyWith_27 : decode cX3_copyWith 27 = .ok (.iload 5, 2) := by decide +kernel
theorem dX3_copyWith_29 : decode cX3_copyWith 29 = .ok (.aload_n 0, 1) := by decide +kernel
theorem dX3_copyWith_30 : decode cX3_copyWith 30 = .ok (.getfield 36, 3) := by decide +kernel
theorem dX3_copyWith_33 : decode cX3_copyWith 33 = .ok (.arraylength, 1) := by decide +kernel
theorem dX3_copyWith_34 : decode cX3_copyWith 34 = .ok (.if_icmp .ge 24, 3) := by decide +kernel
theorem dX3_copyWith_37 : decode cX3_copyWith 37 = .ok (.aload 4, 2) := by decide +kernel
theorem dX3_copyWith_39 : decode cX3_copyWith 39 = .ok (.getfield 36, 3) := by decide +kernel
theorem dX3_copyWith_42 : decode cX3_copyWith 42 = .ok (.iload 5, 2) := by decide +kernel
theorem dX3_copyWith_44 : decode cX3_copyWith 44 = .ok (.aload_n 0, 1) := by decide +kernel
theorem dX3_copyWith_45 : decode cX3_copyWith 45 = .ok (.getfield 36, 3) := by decide +kernel
theorem dX3_copyWith_48 : decode cX3_copyWith 48 = .ok (.iload 5, 2) := by decide +kernel
theorem dX3_copyWith_50 : decode cX3_copyWith 50 = .ok (.laload, 1) := by decide +kernel
theorem dX3_copyWith_51 : decode cX3_copyWith 51 = .ok (.lastore, 1) := by decide +kernel
theorem dX3_copyWith_52 : decode cX3_copyWith 52 = .ok (.iinc 5 1, 3) := by decide +kernel
theorem dX3_copyWith_55 : decode cX3_copyWith 55 = .ok (.goto (-39), 3) := by decide +kernel
theorem dX3_copyWith_58 : decode cX3_copyWith 58 = .ok (.iconst 0, 1) := by decide +kernel
theorem dX3_copyWith_59 : decode cX3_copyWith 59 = .ok (.istore 5, 2) := by decide +kernel
theorem dX3_copyWith_61 : decode cX3_copyWith 61 = .ok (.iload 5, 2) := by decide +kernel
theorem dX3_copyWith_63 : decode cX3_copyWith 63 = .ok (.aload 4, 2) := by decide +kernel
theorem dX3_copyWith_65 : decode cX3_copyWith 65 = .ok (.getfield 40, 3) := by decide +kernel
theorem dX3_copyWith_68 : decode cX3_copyWith 68 = .ok (.arraylength, 1) := by decide +kernel
theorem dX3_copyWith_69 : decode cX3_copyWith 69 = .ok (.if_icmp .ge 34, 3) := by decide +kernel
theorem dX3_copyWith_72 : decode cX3_copyWith 72 = .ok (.iload 5, 2) := by decide +kernel
theorem dX3_copyWith_74 : decode cX3_copyWith 74 = .ok (.aload_n 0, 1) := by decide +kernel
theorem dX3_copyWith_75 : decode cX3_copyWith 75 = .ok (.getfield 40, 3) := by decide +kernel
theorem dX3_copyWith_78 : decode cX3_copyWith 78 = .ok (.arraylength, 1) := by decide +kernel
theorem dX3_copyWith_79 : decode cX3_copyWith 79 = .ok (.if_icmp .ge 24, 3) := by decide +kernel
theorem dX3_copyWith_82 : decode cX3_copyWith 82 = .ok (.aload 4, 2) := by decide +kernel
theorem dX3_copyWith_84 : decode cX3_copyWith 84 = .ok (.getfield 40, 3) := by decide +kernel
theorem dX3_copyWith_87 : decode cX3_copyWith 87 = .ok (.iload 5, 2) := by decide +kernel
theorem dX3_copyWith_89 : decode cX3_copyWith 89 = .ok (.aload_n 0, 1) := by decide +kernel
theorem dX3_copyWith_90 : decode cX3_copyWith 90 = .ok (.getfield 40, 3) := by decide +kernel
theorem dX3_copyWith_93 : decode cX3_copyWith 93 = .ok (.iload 5, 2) := by decide +kernel
theorem dX3_copyWith_95 : decode cX3_copyWith 95 = .ok (.iaload, 1) := by decide +kernel
theorem dX3_copyWith_96 : decode cX3_copyWith 96 = .ok (.iastore, 1) := by decide +kernel
theorem dX3_copyWith_97 : decode cX3_copyWith 97 = .ok (.iinc 5 1, 3) := by decide +kernel
theorem dX3_copyWith_100 : decode cX3_copyWith 100 = .ok (.goto (-39), 3) := by decide +kernel
theorem dX3_copyWith_103 : decode cX3_copyWith 103 = .ok (.aload 4, 2) := by decide +kernel
theorem dX3_copyWith_105 : decode cX3_copyWith 105 = .ok (.aload_n 0, 1) := by decide +kernel
theorem dX3_copyWith_106 : decode cX3_copyWith 106 = .ok (.getfield 9, 3) := by decide +kernel
theorem dX3_copyWith_109 : decode cX3_copyWith 109 = .ok (.putfield 9, 3) := by decide +kernel
theorem dX3_copyWith_112 : decode cX3_copyWith 112 = .ok (.aload 4, 2) := by decide +kernel
theorem dX3_copyWith_114 : decode cX3_copyWith 114 = .ok (.iload_n 1, 1) := by decide +kernel
theorem dX3_copyWith_115 : decode cX3_copyWith 115 = .ok (.putfield 15, 3) := by decide +kernel
theorem dX3_copyWith_118 : decode cX3_copyWith 118 = .ok (.aload 4, 2) := by decide +kernel
theorem dX3_copyWith_120 : decode cX3_copyWith 120 = .ok (.iload_n 2, 1) := by decide +kernel
theorem dX3_copyWith_121 : decode cX3_copyWith 121 = .ok (.putfield 18, 3) := by decide +kernel
theorem dX3_copyWith_124 : decode cX3_copyWith 124 = .ok (.aload 4, 2) := by decide +kernel
theorem dX3_copyWith_126 : decode cX3_copyWith 126 = .ok (.iload_n 3, 1) := by decide +kernel
theorem dX3_copyWith_127 : decode cX3_copyWith 127 = .ok (.putfield 21, 3) := by decide +kernel
theorem dX3_copyWith_130 : decode cX3_copyWith 130 = .ok (.aload 4, 2) := by decide +kernel
theorem dX3_copyWith_132 : decode cX3_copyWith 132 = .ok (.areturn, 1) := by decide +kernel
theorem dX11_addGame_0 : decode cX11_addGame 0 = .ok (.aload_n 0, 1) := by decide +kernel
theorem dX11_addGame_1 : decode cX11_addGame 1 = .ok (.iload_n 1, 1) := by decide +kernel
theorem dX11_addGame_2 : decode cX11_addGame 2 = .ok (.invokevirtual 337, 3) := by decide +kernel
theorem dX11_addGame_5 : decode cX11_addGame 5 = .ok (.astore 5, 2) := by decide +kernel
theorem dX11_addGame_7 : decode cX11_addGame 7 = .ok (.iload_n 2, 1) := by decide +kernel
theorem dX11_addGame_8 : decode cX11_addGame 8 = .ok (.ifCond .lt 35, 3) := by decide +kernel
theorem dX11_addGame_11 : decode cX11_addGame 11 = .ok (.iload_n 2, 1) := by decide +kernel
theorem dX11_addGame_12 : decode cX11_addGame 12 = .ok (.iconst 2, 1) := by decide +kernel
theorem dX11_addGame_13 : decode cX11_addGame 13 = .ok (.if_icmp .gt 30, 3) := by decide +kernel
theorem dX11_addGame_16 : decode cX11_addGame 16 = .ok (.iload_n 3, 1) := by decide +kernel
theorem dX11_addGame_17 : decode cX11_addGame 17 = .ok (.sipush 1800, 3) := by decide +kernel
theorem dX11_addGame_20 : decode cX11_addGame 20 = .ok (.if_icmp .lt 23, 3) := by decide +kernel
theorem dX11_addGame_23 : decode cX11_addGame 23 = .ok (.iload_n 3, 1) := by decide +kernel
theorem dX11_addGame_24 : decode cX11_addGame 24 = .ok (.sipush 2100, 3) := by decide +kernel
theorem dX11_addGame_27 : decode cX11_addGame 27 = .ok (.if_icmp .gt 16, 3) := by decide +kernel
theorem dX11_addGame_30 : decode cX11_addGame 30 = .ok (.iload 4, 2) := by decide +kernel
theorem dX11_addGame_32 : decode cX11_addGame 32 = .ok (.ifCond .lt 11, 3) := by decide +kernel
theorem dX11_addGame_35 : decode cX11_addGame 35 = .ok (.iload 4, 2) := by decide +kernel
theorem dX11_addGame_37 : decode cX11_addGame 37 = .ok (.sipush 3500, 3) := by decide +kernel
theorem dX11_addGame_40 : decode cX11_addGame 40 = .ok (.if_icmp .le 14, 3) := by decide +kernel
theorem dX11_addGame_43 : decode cX11_addGame 43 = .ok (.new 140, 3) := by decide +kernel
theorem dX11_addGame_46 : decode cX11_addGame 46 = .ok (.dup, 1) := by decide +kernel
theorem dX11_addGame_47 : decode cX11_addGame 47 = .ok (.ldc_w 341, 3) := by decide +kernel
theorem dX11_addGame_50 : decode cX11_addGame 50 = .ok (.invokespecial 144, 3) := by decide +kernel
theorem dX11_addGame_53 : decode cX11_addGame 53 = .ok (.athrow, 1) := by decide +kernel
theorem dX11_addGame_54 : decode cX11_addGame 54 = .ok (.aload_n 0, 1) := by decide +kernel
theorem dX11_addGame_55 : decode cX11_addGame 55 = .ok (.invokevirtual 217, 3) := by decide +kernel
theorem dX11_addGame_58 : decode cX11_addGame 58 = .ok (.aload 5, 2) := by decide +kernel
theorem dX11_addGame_60 : decode cX11_addGame 60 = .ok (.invokevirtual 343, 3) := by decide +kernel
theorem dX11_addGame_63 : decode cX11_addGame 63 = .ok (.bipush 40, 2) := by decide +kernel
theorem dX11_addGame_65 : decode cX11_addGame 65 = .ok (.if_icmp .lt 14, 3) := by decide +kernel
theorem dX11_addGame_68 : decode cX11_addGame 68 = .ok (.new 285, 3) := by decide +kernel
theorem dX11_addGame_71 : decode cX11_addGame 71 = .ok (.dup, 1) := by decide +kernel
theorem dX11_addGame_72 : decode cX11_addGame 72 = .ok (.ldc_w 345, 3) := by decide +kernel
theorem dX11_addGame_75 : decode cX11_addGame 75 = .ok (.invokespecial 289, 3) := by decide +kernel
theorem dX11_addGame_78 : decode cX11_addGame 78 = .ok (.athrow, 1) := by decide +kernel
theorem dX11_addGame_79 : decode cX11_addGame 79 = .ok (.aload 5, 2) := by decide +kernel
theorem dX11_addGame_81 : decode cX11_addGame 81 = .ok (.aload_n 0, 1) := by decide +kernel
theorem dX11_addGame_82 : decode cX11_addGame 82 = .ok (.getfield 40, 3) := by decide +kernel
theorem dX11_addGame_85 : decode cX11_addGame 85 = .ok (.iload_n 2, 1) := by decide +kernel
theorem dX11_addGame_86 : decode cX11_addGame 86 = .ok (.iload_n 3, 1) := by decide +kernel
theorem dX11_addGame_87 : decode cX11_addGame 87 = .ok (.iload 4, 2) := by decide +kernel
theorem dX11_addGame_89 : decode cX11_addGame 89 = .ok (.invokevirtual 347, 3) := by decide +kernel
theorem dX11_addGame_92 : decode cX11_addGame 92 = .ok (.invokevirtual 351, 3) := by decide +kernel
theorem dX11_addGame_95 : decode cX11_addGame 95 = .ok (.aload 5, 2) := by decide +kernel
theorem dX11_addGame_97 : decode cX11_addGame 97 = .ok (.invokevirtual 343, 3) := by decide +kernel
theorem dX11_addGame_100 : decode cX11_addGame 100 = .ok (.iconst 1, 1) := by decide +kernel
theorem dX11_addGame_101 : decode cX11_addGame 101 = .ok (.isub, 1) := by decide +kernel
theorem dX11_addGame_102 : decode cX11_addGame 102 = .ok (.ireturn, 1) := by decide +kernel
theorem dX11_numberAsked_0 : decode cX11_numberAsked 0 = .ok (.aload_n 0, 1) := by decide +kernel
theorem dX11_numberAsked_1 : decode cX11_numberAsked 1 = .ok (.getfield 72, 3) := by decide +kernel
theorem dX11_numberAsked_4 : decode cX11_numberAsked 4 = .ok (.invokevirtual 516, 3) := by decide +kernel
theorem dX11_numberAsked_7 : decode cX11_numberAsked 7 = .ok (.istore_n 1, 1) := by decide +kernel
theorem dX11_numberAsked_8 : decode cX11_numberAsked 8 = .ok (.iload_n 1, 1) := by decide +kernel
theorem dX11_numberAsked_9 : decode cX11_numberAsked 9 = .ok (.iconst (-1), 1) := by decide +kernel
theorem dX11_numberAsked_10 : decode cX11_numberAsked 10 = .ok (.if_icmp .ne 14, 3) := by decide +kernel
theorem dX11_numberAsked_13 : decode cX11_numberAsked 13 = .ok (.new 372, 3) := by decide +kernel
theorem dX11_numberAsked_16 : decode cX11_numberAsked 16 = .ok (.dup, 1) := by decide +kernel
theorem dX11_numberAsked_17 : decode cX11_numberAsked 17 = .ok (.ldc_w 519, 3) := by decide +kernel
theorem dX11_numberAsked_20 : decode cX11_numberAsked 20 = .ok (.invokespecial 376, 3) := by decide +kernel
theorem dX11_numberAsked_23 : decode cX11_numberAsked 23 = .ok (.athrow, 1) := by decide +kernel
theorem dX11_numberAsked_24 : decode cX11_numberAsked 24 = .ok (.iload_n 1, 1) := by decide +kernel
theorem dX11_numberAsked_25 : decode cX11_numberAsked 25 = .ok (.ireturn, 1) := by decide +kernel
theorem dX11_answer_0 : decode cX11_answer 0 = .ok (.aload_n 0, 1) := by decide +kernel
theorem dX11_answer_1 : decode cX11_answer 1 = .ok (.getfield 72, 3) := by decide +kernel
theorem dX11_answer_4 : decode cX11_answer 4 = .ok (.aload_n 0, 1) := by decide +kernel
theorem dX11_answer_5 : decode cX11_answer 5 = .ok (.invokevirtual 474, 3) := by decide +kernel
theorem dX11_answer_8 : decode cX11_answer 8 = .ok (.invokevirtual 408, 3) := by decide +kernel
theorem dX11_answer_11 : decode cX11_answer 11 = .ok (.astore_n 2, 1) := by decide +kernel
theorem dX11_answer_12 : decode cX11_answer 12 = .ok (.aload_n 2, 1) := by decide +kernel
theorem dX11_answer_13 : decode cX11_answer 13 = .ok (.ifnonnull 5, 3) := by decide +kernel
theorem dX11_answer_16 : decode cX11_answer 16 = .ok (.iconst 0, 1) := by decide +kernel
theorem dX11_answer_17 : decode cX11_answer 17 = .ok (.ireturn, 1) := by decide +kernel
theorem dX11_answer_18 : decode cX11_answer 18 = .ok (.aload_n 0, 1) := by decide +kernel
theorem dX11_answer_19 : decode cX11_answer 19 = .ok (.dup, 1) := by decide +kernel
theorem dX11_answer_20 : decode cX11_answer 20 = .ok (.getfield 120, 3) := by decide +kernel
theorem dX11_answer_23 : decode cX11_answer 23 = .ok (.iconst 1, 1) := by decide +kernel
theorem dX11_answer_24 : decode cX11_answer 24 = .ok (.iadd, 1) := by decide +kernel
theorem dX11_answer_25 : decode cX11_answer 25 = .ok (.putfield 120, 3) := by decide +kernel
theorem dX11_answer_28 : decode cX11_answer 28 = .ok (.aload_n 2, 1) := by decide +kernel
theorem dX11_answer_29 : decode cX11_answer 29 = .ok (.iload_n 1, 1) := by decide +kernel
theorem dX11_answer_30 : decode cX11_answer 30 = .ok (.ifCond .eq 16, 3) := by decide +kernel
theorem dX11_answer_33 : decode cX11_answer 33 = .ok (.aload_n 2, 1) := by decide +kernel
theorem dX11_answer_34 : decode cX11_answer 34 = .ok (.getfield 416, 3) := by decide +kernel
theorem dX11_answer_37 : decode cX11_answer 37 = .ok (.iconst 1, 1) := by decide +kernel
theorem dX11_answer_38 : decode cX11_answer 38 = .ok (.iadd, 1) := by decide +kernel
theorem dX11_answer_39 : decode cX11_answer 39 = .ok (.iconst 4, 1) := by decide +kernel
theorem dX11_answer_40 : decode cX11_answer 40 = .ok (.invokestatic 477, 3) := by decide +kernel
theorem dX11_answer_43 : decode cX11_answer 43 = .ok (.goto 4, 3) := by decide +kernel
theorem dX11_answer_46 : decode cX11_answer 46 = .ok (.iconst 0, 1) := by decide +kernel
theorem dX11_answer_47 : decode cX11_answer 47 = .ok (.putfield 416, 3) := by decide +kernel
theorem dX11_answer_50 : decode cX11_answer 50 = .ok (.aload_n 2, 1) := by decide +kernel
theorem dX11_answer_51 : decode cX11_answer 51 = .ok (.aload_n 0, 1) := by decide +kernel
theorem dX11_answer_52 : decode cX11_answer 52 = .ok (.getfield 120, 3) := by decide +kernel
theorem dX11_answer_55 : decode cX11_answer 55 = .ok (.iconst 1, 1) := by decide +kernel
theorem dX11_answer_56 : decode cX11_answer 56 = .ok (.aload_n 2, 1) := by decide +kernel
theorem dX11_answer_57 : decode cX11_answer 57 = .ok (.getfield 416, 3) := by decide +kernel
theorem dX11_answer_60 : decode cX11_answer 60 = .ok (.ishl, 1) := by decide +kernel
theorem dX11_answer_61 : decode cX11_answer 61 = .ok (.iadd, 1) := by decide +kernel
theorem dX11_answer_62 : decode cX11_answer 62 = .ok (.putfield 419, 3) := by decide +kernel
theorem dX11_answer_65 : decode cX11_answer 65 = .ok (.aload_n 2, 1) := by decide +kernel
theorem dX11_answer_66 : decode cX11_answer 66 = .ok (.getfield 416, 3) := by decide +kernel
theorem dX11_answer_69 : decode cX11_answer 69 = .ok (.ireturn, 1) := by decide +kernel
def wp_X0_init_0 (D : wD) (post : wS → Prop)  (S : wS) (a0 : Nat) : Prop :=
∀ S_1 : wS, S_1 = uI S a0 0 (0 : Int32) →
∀ S_2 : wS, S_2 = uI S_1 a0 1 (0 : Int32) →
∀ S_3 : wS, S_3 = uI S_2 a0 2 (0 : Int32) →
∀ S_4 : wS, S_4 = uJ S_3 a0 3 (0 : Int64) →
¬ (64 : Int32) < 0 ∧ ((64 : Int32)).toNatClampNeg ≤ 64 ∧ ∀ y_5 : Nat, ¬ wM D S_4 y_5 → ∀ S_6 : wS, S_6 = nA S_4 y_5 21 ((64 : Int32)).toNatClampNeg →
∀ S_8 : wS, S_8 = uR S_6 a0 4 (some y_5) →
¬ (64 : Int32) < 0 ∧ ((64 : Int32)).toNatClampNeg ≤ 64 ∧ ∀ y_9 : Nat, ¬ wM D S_8 y_9 → ∀ S_10 : wS, S_10 = nA S_8 y_9 21 ((64 : Int32)).toNatClampNeg →
∀ S_12 : wS, S_12 = uR S_10 a0 5 (some y_9) →
¬ (512 : Int32) < 0 ∧ ((512 : Int32)).toNatClampNeg ≤ 512 ∧ ∀ y_13 : Nat, ¬ wM D S_12 y_13 → ∀ S_14 : wS, S_14 = nA S_12 y_13 22 ((512 : Int32)).toNatClampNeg →
∀ S_16 : wS, S_16 = uR S_14 a0 6 (some y_13) →
¬ (64 : Int32) < 0 ∧ ((64 : Int32)).toNatClampNeg ≤ 64 ∧ ∀ y_17 : Nat, ¬ wM D S_16 y_17 → ∀ S_18 : wS, S_18 = nA S_16 y_17 22 ((64 : Int32)).toNatClampNeg →
∀ S_20 : wS, S_20 = uR S_18 a0 7 (some y_17) →
¬ (64 : Int32) < 0 ∧ ((64 : Int32)).toNatClampNeg ≤ 64 ∧ ∀ y_21 : Nat, ¬ wM D S_20 y_21 → ∀ S_22 : wS, S_22 = nA S_20 y_21 22 ((64 : Int32)).toNatClampNeg →
∀ S_24 : wS, S_24 = uR S_22 a0 8 (some y_21) →
¬ (64 : Int32) < 0 ∧ ((64 : Int32)).toNatClampNeg ≤ 64 ∧ ∀ y_25 : Nat, ¬ wM D S_24 y_25 → ∀ S_26 : wS, S_26 = nA S_24 y_25 22 ((64 : Int32)).toNatClampNeg →
∀ S_28 : wS, S_28 = uR S_26 a0 9 (some y_25) →
¬ (64 : Int32) < 0 ∧ ((64 : Int32)).toNatClampNeg ≤ 64 ∧ ∀ y_29 : Nat, ¬ wM D S_28 y_29 → ∀ S_30 : wS, S_30 = nA S_28 y_29 22 ((64 : Int32)).toNatClampNeg →
∀ S_32 : wS, S_32 = uR S_30 a0 10 (some y_29) →
¬ (64 : Int32) < 0 ∧ ((64 : Int32)).toNatClampNeg ≤ 64 ∧ ∀ y_33 : Nat, ¬ wM D S_32 y_33 → ∀ S_34 : wS, S_34 = nA S_32 y_33 22 ((64 : Int32)).toNatClampNeg →
∀ S_36 : wS, S_36 = uR S_34 a0 11 (some y_33) →
post S_36
abbrev r_X0_init : Room := { frames := 1, cells := 8, slots := 960, locals := 60 }
def wp_X0_init (D : wD) (post : wS → Prop) (S : wS) (a0 : Nat) : Prop := wp_X0_init_0 D post S a0
set_option maxHeartbeats 4000000 in
set_option maxRecDepth 100000 in
theorem t_X0_init_0 {p : Program} {l : Launch} {e : Env} {s : State} {m : MethodId} {args : Array Value} {below : List Frame} {meth : Method} {c : Code} {D : wD} {cy : Nat → ClassId} {X : va_W} {A : Nat → Prop} {S0 : wS} {post : wS → Prop} (F : CallFix p m c cX0_init 1 s args wz_X0_init RX0) (hr : meth.sig.returnType = none) (hlocks : meth.locks = false) (hK : wK D cy A s) (hin : meth.name = "<init>") : ∀ {S : wS} {H : Heap} {locs : List Loc} {ls : Array Slot} {a0 : Nat}, wp_X0_init_0 D post S a0 → wO D cy X A s.heap S H locs → wX D S0 S → lv_has ls 1 [(0, .ref a0)] → wM D S a0 → sK S a0 = 5 → W p l e r_X0_init s m args below meth c H locs 0 0 (MQ below (va_Qv (fun S9 => wX D S0 S9 ∧ post S9) (wB D cy X A) A) args s 8 960 A) (F0 m 0 ls []) := by
  obtain ⟨hx, hb, hml, hown, hts⟩ := id F
  have hwg : ∀ w ∈ WG, w.before args s = true := fun w h => hts w (List.mem_cons_of_mem _ h)
  have i_5 : ∀ w ∈ u_ws RX0 TX0 12, w ∈ wz_X0_init := fun w h => List.mem_cons_of_mem _ (wu_5 w h)
  have k_15 := hwg _ wf_RX0_15
  have k_18 := hwg _ wf_RX0_18
  have k_21 := hwg _ wf_RX0_21
  have k_25 := hwg _ wf_RX0_25
  have k_29 := hwg _ wf_RX0_29
  have k_32 := hwg _ wf_RX0_32
  have k_36 := hwg _ wf_RX0_36
  have k_39 := hwg _ wf_RX0_39
  have k_42 := hwg _ wf_RX0_42
  have k_45 := hwg _ wf_RX0_45
  have k_48 := hwg _ wf_RX0_48
  have k_9 := hwg _ wf_RX0_9
  intro S H locs ls a0 hp hW hE hl hL_a0 hK_a0
  unfold wp_X0_init_0 at hp
  refine lv_aload_n hx hb dX0_init_0 rfl (lv_at hl 0 rfl) ?_
  refine W.objInit hx hb hown (hwg _ wm_RX0_3) (hwg _ wobj.1) (hwg _ wobj.2) rfl (by rw [hml]; exact hl.1) rfl dX0_init_1 (Nat.le_of_ble_eq_true rfl) (Nat.le_of_ble_eq_true rfl) ?_
  refine W.eq (g2 := F0 m 4 ls []) rfl ?_
  refine lv_aload_n hx hb dX0_init_4 rfl (lv_at hl 0 rfl) ?_
  refine lv_iconst (v := 0) hx hb dX0_init_5 (by decide) ?_
  refine w_putI (k := 5) (f := 0) (T := TX0) F hK hW hL_a0 hK_a0 (by decide) (by decide) rfl rfl (by decide) i_5 tyX0 tyX0_ok nmX0 k_9 rfl rfl (ty := .int) rfl rfl rfl dX0_init_6 (fun H locs hW => ?_)
  obtain ⟨S_1, eS_1⟩ : ∃ z : wS, z = uI S a0 0 (0 : Int32) := ⟨_, rfl⟩
  rw [← eS_1] at hW
  replace hp := hp S_1 eS_1
  have hX_S_1 : wX D S S_1 := by rw [eS_1]; exact wX_uI
  have hE := hE.trans hX_S_1
  have hK_a0 : sK S_1 a0 = 5 := (hX_S_1.2 a0 hL_a0).1.trans hK_a0
  have hL_a0 : wM D S_1 a0 := hX_S_1.M hL_a0
  refine lv_aload_n hx hb dX0_init_9 rfl (lv_at hl 0 rfl) ?_
  refine lv_iconst (v := 0) hx hb dX0_init_10 (by decide) ?_
  refine w_putI (k := 5) (f := 1) (T := TX0) F hK hW hL_a0 hK_a0 (by decide) (by decide) rfl rfl (by decide) i_5 tyX0 tyX0_ok nmX0 k_15 rfl rfl (ty := .int) rfl rfl rfl dX0_init_11 (fun H locs hW => ?_)
  obtain ⟨S_2, eS_2⟩ : ∃ z : wS, z = uI S_1 a0 1 (0 : Int32) := ⟨_, rfl⟩
  rw [← eS_2] at hW
  replace hp := hp S_2 eS_2
  have hX_S_2 : wX D S_1 S_2 := by rw [eS_2]; exact wX_uI
  have hE := hE.trans hX_S_2
  have hK_a0 : sK S_2 a0 = 5 := (hX_S_2.2 a0 hL_a0).1.trans hK_a0
  have hL_a0 : wM D S_2 a0 := hX_S_2.M hL_a0
  refine lv_aload_n hx hb dX0_init_14 rfl (lv_at hl 0 rfl) ?_
  refine lv_iconst (v := 0) hx hb dX0_init_15 (by decide) ?_
  refine w_putI (k := 5) (f := 2) (T := TX0) F hK hW hL_a0 hK_a0 (by decide) (by decide) rfl rfl (by decide) i_5 tyX0 tyX0_ok nmX0 k_18 rfl rfl (ty := .int) rfl rfl rfl dX0_init_16 (fun H locs hW => ?_)
  obtain ⟨S_3, eS_3⟩ : ∃ z : wS, z = uI S_2 a0 2 (0 : Int32) := ⟨_, rfl⟩
  rw [← eS_3] at hW
  replace hp := hp S_3 eS_3
  have hX_S_3 : wX D S_2 S_3 := by rw [eS_3]; exact wX_uI
  have hE := hE.trans hX_S_3
  have hK_a0 : sK S_3 a0 = 5 := (hX_S_3.2 a0 hL_a0).1.trans hK_a0
  have hL_a0 : wM D S_3 a0 := hX_S_3.M hL_a0
  refine lv_aload_n hx hb dX0_init_19 rfl (lv_at hl 0 rfl) ?_
  refine lv_lconst (v := 0) hx hb dX0_init_20 (by decide) ?_
  refine w_putJ (k := 5) (f := 3) (T := TX0) F hK hW hL_a0 hK_a0 (by decide) (by decide) rfl rfl (by decide) i_5 tyX0 tyX0_ok nmX0 k_21 rfl rfl rfl dX0_init_21 (fun H locs hW => ?_)
  obtain ⟨S_4, eS_4⟩ : ∃ z : wS, z = uJ S_3 a0 3 (0 : Int64) := ⟨_, rfl⟩
  rw [← eS_4] at hW
  replace hp := hp S_4 eS_4
  have hX_S_4 : wX D S_3 S_4 := by rw [eS_4]; exact wX_uJ
  have hE := hE.trans hX_S_4
  have hK_a0 : sK S_4 a0 = 5 := (hX_S_4.2 a0 hL_a0).1.trans hK_a0
  have hL_a0 : wM D S_4 a0 := hX_S_4.M hL_a0
  refine lv_aload_n hx hb dX0_init_24 rfl (lv_at hl 0 rfl) ?_
  refine lv_bipush (v := 64) hx hb dX0_init_25 (by decide) ?_
  obtain ⟨h_7, h_7b, hp⟩ := hp
  refine w_newaI F hK hW (hwg _ wr_int) h_7 (by omega) (Nat.le_of_ble_eq_true rfl) (Nat.le_trans (Nat.add_le_add_left h_7b _) (Nat.le_of_ble_eq_true rfl)) dX0_init_27 (fun y_5 H hq_y_5 hW => ?_)
  refine W.widen (k := 1) (n := 64) (by decide) (Nat.add_le_add_left h_7b _) ?_
  obtain ⟨S_6, eS_6⟩ : ∃ z : wS, z = nA S_4 y_5 21 ((64 : Int32)).toNatClampNeg := ⟨_, rfl⟩
  rw [← eS_6] at hW
  replace hp := hp y_5 hq_y_5 S_6 eS_6
  have hX_S_6 : wX D S_4 S_6 := by rw [eS_6]; exact wX_nA hq_y_5
  have hE := hE.trans hX_S_6
  have hK_a0 : sK S_6 a0 = 5 := (hX_S_6.2 a0 hL_a0).1.trans hK_a0
  have hL_a0 : wM D S_6 a0 := hX_S_6.M hL_a0
  have hL_y_5 : wM D S_6 y_5 := by rw [eS_6]; exact Or.inl (List.mem_append_right _ List.mem_cons_self)
  have hK_y_5 : sK S_6 y_5 = 21 := by rw [eS_6]; exact va_up_self _ _ _
  refine w_putRF (k := 5) (f := 4) (T := TX0) (g := (some y_5)) F hK hW hL_a0 hK_a0 (by decide) (by decide) rfl rfl (by decide) i_5 tyX0 tyX0_ok nmX0 k_25 rfl rfl hin rfl (ty := (.array .int)) rfl (v_narrow _ _) (v_fitsA _ _) dX0_init_29 (fun H locs hW => ?_)
  obtain ⟨S_8, eS_8⟩ : ∃ z : wS, z = uR S_6 a0 4 (some y_5) := ⟨_, rfl⟩
  rw [← eS_8] at hW
  replace hp := hp S_8 eS_8
  have hX_S_8 : wX D S_6 S_8 := by rw [eS_8]; exact wX_uR
  have hE := hE.trans hX_S_8
  have hK_a0 : sK S_8 a0 = 5 := (hX_S_8.2 a0 hL_a0).1.trans hK_a0
  have hL_a0 : wM D S_8 a0 := hX_S_8.M hL_a0
  refine lv_aload_n hx hb dX0_init_32 rfl (lv_at hl 0 rfl) ?_
  refine lv_bipush (v := 64) hx hb dX0_init_33 (by decide) ?_
  obtain ⟨h_11, h_11b, hp⟩ := hp
  refine w_newaI F hK hW (hwg _ wr_int) h_11 (by omega) (Nat.le_of_ble_eq_true rfl) (Nat.le_trans (Nat.add_le_add_left h_11b _) (Nat.le_of_ble_eq_true rfl)) dX0_init_35 (fun y_9 H hq_y_9 hW => ?_)
  refine W.widen (k := 2) (n := 128) (by decide) (Nat.add_le_add_left h_11b _) ?_
  obtain ⟨S_10, eS_10⟩ : ∃ z : wS, z = nA S_8 y_9 21 ((64 : Int32)).toNatClampNeg := ⟨_, rfl⟩
  rw [← eS_10] at hW
  replace hp := hp y_9 hq_y_9 S_10 eS_10
  have hX_S_10 : wX D S_8 S_10 := by rw [eS_10]; exact wX_nA hq_y_9
  have hE := hE.trans hX_S_10
  have hK_a0 : sK S_10 a0 = 5 := (hX_S_10.2 a0 hL_a0).1.trans hK_a0
  have hL_a0 : wM D S_10 a0 := hX_S_10.M hL_a0
  have hL_y_9 : wM D S_10 y_9 := by rw [eS_10]; exact Or.inl (List.mem_append_right _ List.mem_cons_self)
  have hK_y_9 : sK S_10 y_9 = 21 := by rw [eS_10]; exact va_up_self _ _ _
  refine w_putRF (k := 5) (f := 5) (T := TX0) (g := (some y_9)) F hK hW hL_a0 hK_a0 (by decide) (by decide) rfl rfl (by decide) i_5 tyX0 tyX0_ok nmX0 k_29 rfl rfl hin rfl (ty := (.array .int)) rfl (v_narrow _ _) (v_fitsA _ _) dX0_init_37 (fun H locs hW => ?_)
  obtain ⟨S_12, eS_12⟩ : ∃ z : wS, z = uR S_10 a0 5 (some y_9) := ⟨_, rfl⟩
  rw [← eS_12] at hW
  replace hp := hp S_12 eS_12
  have hX_S_12 : wX D S_10 S_12 := by rw [eS_12]; exact wX_uR
  have hE := hE.trans hX_S_12
  have hK_a0 : sK S_12 a0 = 5 := (hX_S_12.2 a0 hL_a0).1.trans hK_a0
  have hL_a0 : wM D S_12 a0 := hX_S_12.M hL_a0
  refine lv_aload_n hx hb dX0_init_40 rfl (lv_at hl 0 rfl) ?_
  refine lv_sipush (v := 512) hx hb dX0_init_41 (by decide) ?_
  obtain ⟨h_15, h_15b, hp⟩ := hp
  refine w_newaJ F hK hW (hwg _ wr_long) h_15 (by omega) (Nat.le_of_ble_eq_true rfl) (Nat.le_trans (Nat.add_le_add_left h_15b _) (Nat.le_of_ble_eq_true rfl)) dX0_init_44 (fun y_13 H hq_y_13 hW => ?_)
  refine W.widen (k := 3) (n := 640) (by decide) (Nat.add_le_add_left h_15b _) ?_
  obtain ⟨S_14, eS_14⟩ : ∃ z : wS, z = nA S_12 y_13 22 ((512 : Int32)).toNatClampNeg := ⟨_, rfl⟩
  rw [← eS_14] at hW
  replace hp := hp y_13 hq_y_13 S_14 eS_14
  have hX_S_14 : wX D S_12 S_14 := by rw [eS_14]; exact wX_nA hq_y_13
  have hE := hE.trans hX_S_14
  have hK_a0 : sK S_14 a0 = 5 := (hX_S_14.2 a0 hL_a0).1.trans hK_a0
  have hL_a0 : wM D S_14 a0 := hX_S_14.M hL_a0
  have hL_y_13 : wM D S_14 y_13 := by rw [eS_14]; exact Or.inl (List.mem_append_right _ List.mem_cons_self)
  have hK_y_13 : sK S_14 y_13 = 22 := by rw [eS_14]; exact va_up_self _ _ _
  refine w_putRF (k := 5) (f := 6) (T := TX0) (g := (some y_13)) F hK hW hL_a0 hK_a0 (by decide) (by decide) rfl rfl (by decide) i_5 tyX0 tyX0_ok nmX0 k_32 rfl rfl hin rfl (ty := (.array .long)) rfl (v_narrow _ _) (v_fitsA _ _) dX0_init_46 (fun H locs hW => ?_)
  obtain ⟨S_16, eS_16⟩ : ∃ z : wS, z = uR S_14 a0 6 (some y_13) := ⟨_, rfl⟩
  rw [← eS_16] at hW
  replace hp := hp S_16 eS_16
  have hX_S_16 : wX D S_14 S_16 := by rw [eS_16]; exact wX_uR
  have hE := hE.trans hX_S_16
  have hK_a0 : sK S_16 a0 = 5 := (hX_S_16.2 a0 hL_a0).1.trans hK_a0
  have hL_a0 : wM D S_16 a0 := hX_S_16.M hL_a0
  refine lv_aload_n hx hb dX0_init_49 rfl (lv_at hl 0 rfl) ?_
  refine lv_bipush (v := 64) hx hb dX0_init_50 (by decide) ?_
  obtain ⟨h_19, h_19b, hp⟩ := hp
  refine w_newaJ F hK hW (hwg _ wr_long) h_19 (by omega) (Nat.le_of_ble_eq_true rfl) (Nat.le_trans (Nat.add_le_add_left h_19b _) (Nat.le_of_ble_eq_true rfl)) dX0_init_52 (fun y_17 H hq_y_17 hW => ?_)
  refine W.widen (k := 4) (n := 704) (by decide) (Nat.add_le_add_left h_19b _) ?_
  obtain ⟨S_18, eS_18⟩ : ∃ z : wS, z = nA S_16 y_17 22 ((64 : Int32)).toNatClampNeg := ⟨_, rfl⟩
  rw [← eS_18] at hW
  replace hp := hp y_17 hq_y_17 S_18 eS_18
  have hX_S_18 : wX D S_16 S_18 := by rw [eS_18]; exact wX_nA hq_y_17
  have hE := hE.trans hX_S_18
  have hK_a0 : sK S_18 a0 = 5 := (hX_S_18.2 a0 hL_a0).1.trans hK_a0
  have hL_a0 : wM D S_18 a0 := hX_S_18.M hL_a0
  have hL_y_17 : wM D S_18 y_17 := by rw [eS_18]; exact Or.inl (List.mem_append_right _ List.mem_cons_self)
  have hK_y_17 : sK S_18 y_17 = 22 := by rw [eS_18]; exact va_up_self _ _ _
  refine w_putRF (k := 5) (f := 7) (T := TX0) (g := (some y_17)) F hK hW hL_a0 hK_a0 (by decide) (by decide) rfl rfl (by decide) i_5 tyX0 tyX0_ok nmX0 k_36 rfl rfl hin rfl (ty := (.array .long)) rfl (v_narrow _ _) (v_fitsA _ _) dX0_init_54 (fun H locs hW => ?_)
  obtain ⟨S_20, eS_20⟩ : ∃ z : wS, z = uR S_18 a0 7 (some y_17) := ⟨_, rfl⟩
  rw [← eS_20] at hW
  replace hp := hp S_20 eS_20
  have hX_S_20 : wX D S_18 S_20 := by rw [eS_20]; exact wX_uR
  have hE := hE.trans hX_S_20
  have hK_a0 : sK S_20 a0 = 5 := (hX_S_20.2 a0 hL_a0).1.trans hK_a0
  have hL_a0 : wM D S_20 a0 := hX_S_20.M hL_a0
  refine lv_aload_n hx hb dX0_init_57 rfl (lv_at hl 0 rfl) ?_
  refine lv_bipush (v := 64) hx hb dX0_init_58 (by decide) ?_
  obtain ⟨h_23, h_23b, hp⟩ := hp
  refine w_newaJ F hK hW (hwg _ wr_long) h_23 (by omega) (Nat.le_of_ble_eq_true rfl) (Nat.le_trans (Nat.add_le_add_left h_23b _) (Nat.le_of_ble_eq_true rfl)) dX0_init_60 (fun y_21 H hq_y_21 hW => ?_)
  refine W.widen (k := 5) (n := 768) (by decide) (Nat.add_le_add_left h_23b _) ?_
  obtain ⟨S_22, eS_22⟩ : ∃ z : wS, z = nA S_20 y_21 22 ((64 : Int32)).toNatClampNeg := ⟨_, rfl⟩
  rw [← eS_22] at hW
  replace hp := hp y_21 hq_y_21 S_22 eS_22
  have hX_S_22 : wX D S_20 S_22 := by rw [eS_22]; exact wX_nA hq_y_21
  have hE := hE.trans hX_S_22
  have hK_a0 : sK S_22 a0 = 5 := (hX_S_22.2 a0 hL_a0).1.trans hK_a0
  have hL_a0 : wM D S_22 a0 := hX_S_22.M hL_a0
  have hL_y_21 : wM D S_22 y_21 := by rw [eS_22]; exact Or.inl (List.mem_append_right _ List.mem_cons_self)
  have hK_y_21 : sK S_22 y_21 = 22 := by rw [eS_22]; exact va_up_self _ _ _
  refine w_putRF (k := 5) (f := 8) (T := TX0) (g := (some y_21)) F hK hW hL_a0 hK_a0 (by decide) (by decide) rfl rfl (by decide) i_5 tyX0 tyX0_ok nmX0 k_39 rfl rfl hin rfl (ty := (.array .long)) rfl (v_narrow _ _) (v_fitsA _ _) dX0_init_62 (fun H locs hW => ?_)
  obtain ⟨S_24, eS_24⟩ : ∃ z : wS, z = uR S_22 a0 8 (some y_21) := ⟨_, rfl⟩
  rw [← eS_24] at hW
  replace hp := hp S_24 eS_24
  have hX_S_24 : wX D S_22 S_24 := by rw [eS_24]; exact wX_uR
  have hE := hE.trans hX_S_24
  have hK_a0 : sK S_24 a0 = 5 := (hX_S_24.2 a0 hL_a0).1.trans hK_a0
  have hL_a0 : wM D S_24 a0 := hX_S_24.M hL_a0
  refine lv_aload_n hx hb dX0_init_65 rfl (lv_at hl 0 rfl) ?_
  refine lv_bipush (v := 64) hx hb dX0_init_66 (by decide) ?_
  obtain ⟨h_27, h_27b, hp⟩ := hp
  refine w_newaJ F hK hW (hwg _ wr_long) h_27 (by omega) (Nat.le_of_ble_eq_true rfl) (Nat.le_trans (Nat.add_le_add_left h_27b _) (Nat.le_of_ble_eq_true rfl)) dX0_init_68 (fun y_25 H hq_y_25 hW => ?_)
  refine W.widen (k := 6) (n := 832) (by decide) (Nat.add_le_add_left h_27b _) ?_
  obtain ⟨S_26, eS_26⟩ : ∃ z : wS, z = nA S_24 y_25 22 ((64 : Int32)).toNatClampNeg := ⟨_, rfl⟩
  rw [← eS_26] at hW
  replace hp := hp y_25 hq_y_25 S_26 eS_26
  have hX_S_26 : wX D S_24 S_26 := by rw [eS_26]; exact wX_nA hq_y_25
  have hE := hE.trans hX_S_26
  have hK_a0 : sK S_26 a0 = 5 := (hX_S_26.2 a0 hL_a0).1.trans hK_a0
  have hL_a0 : wM D S_26 a0 := hX_S_26.M hL_a0
  have hL_y_25 : wM D S_26 y_25 := by rw [eS_26]; exact Or.inl (List.mem_append_right _ List.mem_cons_self)
  have hK_y_25 : sK S_26 y_25 = 22 := by rw [eS_26]; exact va_up_self _ _ _
  refine w_putRF (k := 5) (f := 9) (T := TX0) (g := (some y_25)) F hK hW hL_a0 hK_a0 (by decide) (by decide) rfl rfl (by decide) i_5 tyX0 tyX0_ok nmX0 k_42 rfl rfl hin rfl (ty := (.array .long)) rfl (v_narrow _ _) (v_fitsA _ _) dX0_init_70 (fun H locs hW => ?_)
  obtain ⟨S_28, eS_28⟩ : ∃ z : wS, z = uR S_26 a0 9 (some y_25) := ⟨_, rfl⟩
  rw [← eS_28] at hW
  replace hp := hp S_28 eS_28
  have hX_S_28 : wX D S_26 S_28 := by rw [eS_28]; exact wX_uR
  have hE := hE.trans hX_S_28
  have hK_a0 : sK S_28 a0 = 5 := (hX_S_28.2 a0 hL_a0).1.trans hK_a0
  have hL_a0 : wM D S_28 a0 := hX_S_28.M hL_a0
  refine lv_aload_n hx hb dX0_init_73 rfl (lv_at hl 0 rfl) ?_
  refine lv_bipush (v := 64) hx hb dX0_init_74 (by decide) ?_
  obtain ⟨h_31, h_31b, hp⟩ := hp
  refine w_newaJ F hK hW (hwg _ wr_long) h_31 (by omega) (Nat.le_of_ble_eq_true rfl) (Nat.le_trans (Nat.add_le_add_left h_31b _) (Nat.le_of_ble_eq_true rfl)) dX0_init_76 (fun y_29 H hq_y_29 hW => ?_)
  refine W.widen (k := 7) (n := 896) (by decide) (Nat.add_le_add_left h_31b _) ?_
  obtain ⟨S_30, eS_30⟩ : ∃ z : wS, z = nA S_28 y_29 22 ((64 : Int32)).toNatClampNeg := ⟨_, rfl⟩
  rw [← eS_30] at hW
  replace hp := hp y_29 hq_y_29 S_30 eS_30
  have hX_S_30 : wX D S_28 S_30 := by rw [eS_30]; exact wX_nA hq_y_29
  have hE := hE.trans hX_S_30
  have hK_a0 : sK S_30 a0 = 5 := (hX_S_30.2 a0 hL_a0).1.trans hK_a0
  have hL_a0 : wM D S_30 a0 := hX_S_30.M hL_a0
  have hL_y_29 : wM D S_30 y_29 := by rw [eS_30]; exact Or.inl (List.mem_append_right _ List.mem_cons_self)
  have hK_y_29 : sK S_30 y_29 = 22 := by rw [eS_30]; exact va_up_self _ _ _
  refine w_putRF (k := 5) (f := 10) (T := TX0) (g := (some y_29)) F hK hW hL_a0 hK_a0 (by decide) (by decide) rfl rfl (by decide) i_5 tyX0 tyX0_ok nmX0 k_45 rfl rfl hin rfl (ty := (.array .long)) rfl (v_narrow _ _) (v_fitsA _ _) dX0_init_78 (fun H locs hW => ?_)
  obtain ⟨S_32, eS_32⟩ : ∃ z : wS, z = uR S_30 a0 10 (some y_29) := ⟨_, rfl⟩
  rw [← eS_32] at hW
  replace hp := hp S_32 eS_32
  have hX_S_32 : wX D S_30 S_32 := by rw [eS_32]; exact wX_uR
  have hE := hE.trans hX_S_32
  have hK_a0 : sK S_32 a0 = 5 := (hX_S_32.2 a0 hL_a0).1.trans hK_a0
  have hL_a0 : wM D S_32 a0 := hX_S_32.M hL_a0
  refine lv_aload_n hx hb dX0_init_81 rfl (lv_at hl 0 rfl) ?_
  refine lv_bipush (v := 64) hx hb dX0_init_82 (by decide) ?_
  obtain ⟨h_35, h_35b, hp⟩ := hp
  refine w_newaJ F hK hW (hwg _ wr_long) h_35 (by omega) (Nat.le_of_ble_eq_true rfl) (Nat.le_trans (Nat.add_le_add_left h_35b _) (Nat.le_of_ble_eq_true rfl)) dX0_init_84 (fun y_33 H hq_y_33 hW => ?_)
  refine W.widen (k := 8) (n := 960) (by decide) (Nat.add_le_add_left h_35b _) ?_
  obtain ⟨S_34, eS_34⟩ : ∃ z : wS, z = nA S_32 y_33 22 ((64 : Int32)).toNatClampNeg := ⟨_, rfl⟩
  rw [← eS_34] at hW
  replace hp := hp y_33 hq_y_33 S_34 eS_34
  have hX_S_34 : wX D S_32 S_34 := by rw [eS_34]; exact wX_nA hq_y_33
  have hE := hE.trans hX_S_34
  have hK_a0 : sK S_34 a0 = 5 := (hX_S_34.2 a0 hL_a0).1.trans hK_a0
  have hL_a0 : wM D S_34 a0 := hX_S_34.M hL_a0
  have hL_y_33 : wM D S_34 y_33 := by rw [eS_34]; exact Or.inl (List.mem_append_right _ List.mem_cons_self)
  have hK_y_33 : sK S_34 y_33 = 22 := by rw [eS_34]; exact va_up_self _ _ _
  refine w_putRF (k := 5) (f := 11) (T := TX0) (g := (some y_33)) F hK hW hL_a0 hK_a0 (by decide) (by decide) rfl rfl (by decide) i_5 tyX0 tyX0_ok nmX0 k_48 rfl rfl hin rfl (ty := (.array .long)) rfl (v_narrow _ _) (v_fitsA _ _) dX0_init_86 (fun H locs hW => ?_)
  obtain ⟨S_36, eS_36⟩ : ∃ z : wS, z = uR S_34 a0 11 (some y_33) := ⟨_, rfl⟩
  rw [← eS_36] at hW
  replace hp := hp S_36 eS_36
  have hX_S_36 : wX D S_34 S_36 := by rw [eS_36]; exact wX_uR
  have hE := hE.trans hX_S_36
  have hK_a0 : sK S_36 a0 = 5 := (hX_S_36.2 a0 hL_a0).1.trans hK_a0
  have hL_a0 : wM D S_36 a0 := hX_S_36.M hL_a0
  exact w_vret hx hb hr hlocks hW ⟨hE, hp⟩ dX0_init_89
set_option maxHeartbeats 4000000 in
set_option maxRecDepth 100000 in
theorem c_X0_init (l : Launch) {D : wD} {cy : Nat → ClassId} {X : va_W} {S0 : wS} {post : wS → Prop} {a0 : Nat} (hL_a0 : wM D S0 a0) (hK_a0 : sK S0 a0 = 5) (hp : wp_X0_init D post S0 a0) : mV D cy X l yX0_init wz_X0_init r_X0_init [.ref a0] S0 (fun S9 => wX D S0 S9 ∧ post S9) := by
  intro sz
  refine Met.ofW (cc := cX0_init) (maxL := 1) (ret := none) (by decide) rfl ?_
  intro p e s m args below meth c s₁ B hml hv
  obtain ⟨rfl, hsz, hP, hK, hD0, hRO⟩ := hv
  have hts := atoms_spec (ws := wz_X0_init) B.pre
  have hown : s.vm.findClass RX0 = some m.cls := findClass_of_methodNamed B.named
  subst hsz
  have hD := hD0.self (sz := s.heap.size)
  have F : CallFix p m c cX0_init 1 s _ wz_X0_init RX0 := ⟨B.exec, B.bytes, hml, hown, hts⟩
  have hr := B.returns
  have hlocks := B.notSynchronized
  have hin : meth.name = "<init>" := (name_of_methodNamed B.named B.method).1
  generalize hAe : va_A (wL cy X S0) s.heap.size = A at hD hK ⊢
  have hA : ∀ q, s.heap.size ≤ q → A q := fun q h => by rw [← hAe]; exact Or.inr h
  have hW : wO D cy X A s.heap S0 s.heap [] := ⟨hP, hD, va_S.rf, hA, hRO⟩
  have hl := lv_entry ([.ref a0]) (n := 1) (Nat.le_of_ble_eq_true rfl)
  rw [lg_entry_eq]
  generalize (lg_sl ([.ref a0]) ++ List.replicate (1 - (lg_sl ([.ref a0])).length) Slot.unset).toArray = ls at hl ⊢
  have hl : lv_has ls 1 [(0, .ref a0)] := hl
  unfold wp_X0_init at hp
  exact t_X0_init_0 F hr hlocks hK hin hp hW wX.rf (lv_sub hl [0] rfl) hL_a0 hK_a0
def wp_X0_laySquare_66 (D : wD) (post : wS → Prop)  : Nat → wS → Nat → Int32 → Int32 → Int32 → Int32 → Prop
  | 0, _, _, _, _, _, _ => False
  | n + 1, S, a0, x1, x2, x3, x4 =>
    (((8 : Int32) ≤ x4 → ∃ y_2 : Nat, sR S a0 9 = some y_2 ∧ wM D S y_2 ∧ sK S y_2 = 22 ∧
    wp_X0_setOf D (fun r_3 S_4 => 
    wp_X0_setOf D (fun r_5 S_6 => 
    y_2 ∈ sL S_6 ∧ vp_in x1 (sN S_6 y_2) ∧
    ∀ S_8 : wS, S_8 = uJ S_6 y_2 (x1).toNatClampNeg (r_3 ||| r_5) →
    ∃ y_9 : Nat, sR S_8 a0 10 = some y_9 ∧ wM D S_8 y_9 ∧ sK S_8 y_9 = 22 ∧
    wp_X0_setOf D (fun r_10 S_11 => 
    wp_X0_setOf D (fun r_12 S_13 => 
    y_9 ∈ sL S_13 ∧ vp_in x1 (sN S_13 y_9) ∧
    ∀ S_15 : wS, S_15 = uJ S_13 y_9 (x1).toNatClampNeg (r_10 ||| r_12) →
    ∃ y_16 : Nat, sR S_15 a0 11 = some y_16 ∧ wM D S_15 y_16 ∧ sK S_15 y_16 = 22 ∧
    wp_X0_setOf D (fun r_17 S_18 => 
    wp_X0_setOf D (fun r_19 S_20 => 
    y_16 ∈ sL S_20 ∧ vp_in x1 (sN S_20 y_16) ∧
    ∀ S_22 : wS, S_22 = uJ S_20 y_16 (x1).toNatClampNeg (r_17 ||| r_19) →
    post S_22) S_18 a0 (x2 + (1 : Int32)) x3) S_15 a0 (x2 - (1 : Int32)) x3) S_11 a0 (x2 + (1 : Int32)) (x3 - (1 : Int32))) S_8 a0 (x2 - (1 : Int32)) (x3 - (1 : Int32))) S_4 a0 (x2 + (1 : Int32)) (x3 + (1 : Int32))) S a0 (x2 - (1 : Int32)) (x3 + (1 : Int32))) ∧
     (¬ (8 : Int32) ≤ x4 → ∃ y_23 : Nat, sR S a0 6 = some y_23 ∧ wM D S y_23 ∧ sK S y_23 = 22 ∧
    ∀ y_24 : Nat, y_24 = D.2.2.1 100 →
    vp_in x4 (sN S y_24) ∧
    ∀ y_26 : Nat, y_26 = D.2.2.1 101 →
    vp_in x4 (sN S y_26) ∧
    wp_X0_ray D (fun r_28 S_29 => 
    y_23 ∈ sL S_29 ∧ vp_in ((x1 * (8 : Int32)) + x4) (sN S_29 y_23) ∧
    ∀ S_31 : wS, S_31 = uJ S_29 y_23 (((x1 * (8 : Int32)) + x4)).toNatClampNeg r_28 →
    ∃ y_32 : Nat, sR S_31 a0 7 = some y_32 ∧ wM D S_31 y_32 ∧ sK S_31 y_32 = 22 ∧
    vp_in x1 (sN S_31 y_32) ∧
    ∀ y_34 : Nat, y_34 = D.2.2.1 100 →
    vp_in x4 (sN S_31 y_34) ∧
    ∀ y_36 : Nat, y_36 = D.2.2.1 101 →
    vp_in x4 (sN S_31 y_36) ∧
    wp_X0_setOf D (fun r_38 S_39 => 
    y_32 ∈ sL S_39 ∧ vp_in x1 (sN S_39 y_32) ∧
    ∀ S_41 : wS, S_41 = uJ S_39 y_32 (x1).toNatClampNeg ((sJ S_31 y_32 (x1).toNatClampNeg) ||| r_38) →
    ∃ y_42 : Nat, sR S_41 a0 8 = some y_42 ∧ wM D S_41 y_42 ∧ sK S_41 y_42 = 22 ∧
    vp_in x1 (sN S_41 y_42) ∧
    ∀ y_44 : Nat, y_44 = D.2.2.1 102 →
    vp_in x4 (sN S_41 y_44) ∧
    ∀ y_46 : Nat, y_46 = D.2.2.1 103 →
    vp_in x4 (sN S_41 y_46) ∧
    wp_X0_setOf D (fun r_48 S_49 => 
    y_42 ∈ sL S_49 ∧ vp_in x1 (sN S_49 y_42) ∧
    ∀ S_51 : wS, S_51 = uJ S_49 y_42 (x1).toNatClampNeg ((sJ S_41 y_42 (x1).toNatClampNeg) ||| r_48) →
    ∀ x_52 : Int32, x_52 = x4 + 1 →
    wp_X0_laySquare_66 D post n S_51 a0 x1 x2 x3 x_52) S_41 a0 (x2 + (sI S_41 y_44 (x4).toNatClampNeg)) (x3 + (sI S_41 y_46 (x4).toNatClampNeg))) S_31 a0 (x2 + (sI S_31 y_34 (x4).toNatClampNeg)) (x3 + (sI S_31 y_36 (x4).toNatClampNeg))) S a0 x2 x3 (sI S y_24 (x4).toNatClampNeg) (sI S y_26 (x4).toNatClampNeg)))
def wp_X0_laySquare_35 (D : wD) (post : wS → Prop)  (S : wS) (a0 : Nat) (x1 : Int32) (x2 : Int32) (x3 : Int32) : Prop :=
∃ y_1 : Nat, sR S a0 4 = some y_1 ∧ wM D S y_1 ∧ sK S y_1 = 21 ∧
y_1 ∈ sL S ∧ vp_in x1 (sN S y_1) ∧
∀ S_3 : wS, S_3 = uI S y_1 (x1).toNatClampNeg x2 →
∃ y_4 : Nat, sR S_3 a0 5 = some y_4 ∧ wM D S_3 y_4 ∧ sK S_3 y_4 = 21 ∧
y_4 ∈ sL S_3 ∧ vp_in x1 (sN S_3 y_4) ∧
∀ S_6 : wS, S_6 = uI S_3 y_4 (x1).toNatClampNeg x3 →
∃ y_7 : Nat, sR S_6 a0 7 = some y_7 ∧ wM D S_6 y_7 ∧ sK S_6 y_7 = 22 ∧
y_7 ∈ sL S_6 ∧ vp_in x1 (sN S_6 y_7) ∧
∀ S_9 : wS, S_9 = uJ S_6 y_7 (x1).toNatClampNeg (0 : Int64) →
∃ y_10 : Nat, sR S_9 a0 8 = some y_10 ∧ wM D S_9 y_10 ∧ sK S_9 y_10 = 22 ∧
y_10 ∈ sL S_9 ∧ vp_in x1 (sN S_9 y_10) ∧
∀ S_12 : wS, S_12 = uJ S_9 y_10 (x1).toNatClampNeg (0 : Int64) →
∃ n_13 : Nat, wp_X0_laySquare_66 D post n_13 S_12 a0 x1 x2 x3 (0 : Int32)
def wp_X0_laySquare_23 (D : wD) (post : wS → Prop)  (S : wS) (a0 : Nat) (x1 : Int32) (x2 : Int32) (x3 : Int32) : Prop :=
∀ S_1 : wS, S_1 = uJ S a0 3 ((sJ S a0 3) ||| (jlshl (1 : Int64) x1)) →
wp_X0_laySquare_35 D post S_1 a0 x1 x2 x3
def wp_X0_laySquare_0 (D : wD) (post : wS → Prop)  (S : wS) (a0 : Nat) (x1 : Int32) (x2 : Int32) (x3 : Int32) : Prop :=
wp_X0_has D (fun r_1 S_2 => 
((¬ r_1 = 0 → ((x3 = 0 → wp_X0_laySquare_23 D post S_2 a0 x1 x2 x3) ∧
 (¬ x3 = 0 → ((¬ x3 = ((sI S_2 a0 1) - (1 : Int32)) → wp_X0_laySquare_35 D post S_2 a0 x1 x2 x3) ∧
 (x3 = ((sI S_2 a0 1) - (1 : Int32)) → wp_X0_laySquare_23 D post S_2 a0 x1 x2 x3))))) ∧
 (r_1 = 0 → post S_2))) S a0 x1
abbrev r_X0_laySquare : Room := { frames := 2, cells := 0, slots := 0, locals := 50 }
def wp_X0_laySquare (D : wD) (post : wS → Prop) (S : wS) (a0 : Nat) (x1 : Int32) (x2 : Int32) (x3 : Int32) : Prop := wp_X0_laySquare_0 D post S a0 x1 x2 x3
set_option maxHeartbeats 4000000 in
set_option maxRecDepth 100000 in
theorem t_X0_laySquare_66 {p : Program} {l : Launch} {e : Env} {s : State} {m : MethodId} {args : Array Value} {below : List Frame} {meth : Method} {c : Code} {D : wD} {cy : Nat → ClassId} {X : va_W} {A : Nat → Prop} {S0 : wS} {post : wS → Prop} (F : CallFix p m c cX0_laySquare 5 s args wz_X0_laySquare RX0) (hr : meth.sig.returnType = none) (hlocks : meth.locks = false) (hK : wK D cy A s) : ∀ (n : Nat) {S : wS} {H : Heap} {locs : List Loc} {ls : Array Slot} {a0 : Nat} {x1 : Int32} {x2 : Int32} {x3 : Int32} {x4 : Int32}, wp_X0_laySquare_66 D post n S a0 x1 x2 x3 x4 → wO D cy X A s.heap S H locs → wX D S0 S → lv_has ls 5 [(0, .ref a0), (1, .int x1), (2, .int x2), (3, .int x3), (4, .int x4)] → wM D S a0 → sK S a0 = 5 → W p l e r_X0_laySquare s m args below meth c H locs 0 0 (MQ below (va_Qv (fun S9 => wX D S0 S9 ∧ post S9) (wB D cy X A) A) args s 0 0 A) (F0 m 66 ls []) := by
  obtain ⟨hx, hb, hml, hown, hts⟩ := id F
  have hwg : ∀ w ∈ WG, w.before args s = true := fun w h => hts w (List.mem_cons_of_mem _ h)
  have i_5 : ∀ w ∈ u_ws RX0 TX0 12, w ∈ wz_X0_laySquare := fun w h => List.mem_cons_of_mem _ (wu_5 w h)
  have k_32 := hwg _ wf_RX0_32
  have k_36 := hwg _ wf_RX0_36
  have k_39 := hwg _ wf_RX0_39
  have k_42 := hwg _ wf_RX0_42
  have k_45 := hwg _ wf_RX0_45
  have k_48 := hwg _ wf_RX0_48
  intro n
  induction n with
  | zero =>
    intro S H locs ls a0 x1 x2 x3 x4 hp
    exact hp.elim
  | succ n ih =>
    intro S H locs ls a0 x1 x2 x3 x4 hp hW hE hl hL_a0 hK_a0
    unfold wp_X0_laySquare_66 at hp
    refine lv_iload hx hb dX0_laySquare_66 (lv_at hl 4 rfl) ?_
    refine lv_bipush (v := 8) hx hb dX0_laySquare_68 (by decide) ?_
    refine lv_icmp_ge (tgt := 167) hx hb dX0_laySquare_70 (by decide) (fun c_1 => ?_) (fun c_1 => ?_)
    · replace hp := hp.1 c_1
      refine lv_aload_n hx hb dX0_laySquare_167 rfl (lv_at hl 0 rfl) ?_
      obtain ⟨y_2, ey_2, hL_y_2, hK_y_2, hp⟩ := hp
      refine w_get (k := 5) (f := 9) (T := TX0) (v := .ref y_2) F hK hW hL_a0 hK_a0 (by decide) rfl rfl (by decide) i_5 k_42 (by rw [show wv 5 9 S a0 = va_rf (sR S a0 9) from rfl, ey_2]; rfl) dX0_laySquare_168 ?_
      refine lv_iload_n hx hb dX0_laySquare_171 rfl (lv_at hl 1 rfl) ?_
      refine lv_aload_n hx hb dX0_laySquare_172 rfl (lv_at hl 0 rfl) ?_
      refine lv_iload_n hx hb dX0_laySquare_173 rfl (lv_at hl 2 rfl) ?_
      refine lv_iconst (v := 1) hx hb dX0_laySquare_174 (by decide) ?_
      refine lv_isub hx hb dX0_laySquare_175 ?_
      refine lv_iload_n hx hb dX0_laySquare_176 rfl (lv_at hl 3 rfl) ?_
      refine lv_iconst (v := 1) hx hb dX0_laySquare_177 (by decide) ?_
      refine lv_iadd hx hb dX0_laySquare_178 ?_
      refine w_callJ (va_runV (As := [.int (x2 - (1 : Int32)), .int (x3 + (1 : Int32))]) (rest := [.int x1, .ref y_2]) F (c_X0_setOf l hL_a0 hK_a0 hp H.size) (cwV (C := RX0) 2 hts (wg_V wm_RX0_75 wy_X0_setOf) rfl rfl rfl (by decide +kernel) ⟨Nat.le_of_ble_eq_true rfl, Nat.le_of_ble_eq_true rfl⟩) (w_preV hK hW hL_a0 hK_a0 (by decide) rfl) rfl rfl hl.1 rfl (lv_room (Nat.le_of_ble_eq_true rfl)) dX0_laySquare_179 ⟨Nat.le_of_ble_eq_true rfl, Nat.le_of_ble_eq_true rfl⟩) hW (fun r_3 S_4 H locs hp hW => ?_)
      obtain ⟨hX_S_4, hp⟩ := hp
      refine W.widen (k := 0) (n := 0) (by decide) (by decide) ?_
      have hE := hE.trans hX_S_4
      have hK_a0 : sK S_4 a0 = 5 := (hX_S_4.2 a0 hL_a0).1.trans hK_a0
      have hL_a0 : wM D S_4 a0 := hX_S_4.M hL_a0
      have hK_y_2 : sK S_4 y_2 = 22 := (hX_S_4.2 y_2 hL_y_2).1.trans hK_y_2
      have hL_y_2 : wM D S_4 y_2 := hX_S_4.M hL_y_2
      refine lv_aload_n hx hb dX0_laySquare_182 rfl (lv_at hl 0 rfl) ?_
      refine lv_iload_n hx hb dX0_laySquare_183 rfl (lv_at hl 2 rfl) ?_
      refine lv_iconst (v := 1) hx hb dX0_laySquare_184 (by decide) ?_
      refine lv_iadd hx hb dX0_laySquare_185 ?_
      refine lv_iload_n hx hb dX0_laySquare_186 rfl (lv_at hl 3 rfl) ?_
      refine lv_iconst (v := 1) hx hb dX0_laySquare_187 (by decide) ?_
      refine lv_iadd hx hb dX0_laySquare_188 ?_
      refine w_callJ (va_runV (As := [.int (x2 + (1 : Int32)), .int (x3 + (1 : Int32))]) (rest := [.long r_3, .int x1, .ref y_2]) F (c_X0_setOf l hL_a0 hK_a0 hp H.size) (cwV (C := RX0) 2 hts (wg_V wm_RX0_75 wy_X0_setOf) rfl rfl rfl (by decide +kernel) ⟨Nat.le_of_ble_eq_true rfl, Nat.le_of_ble_eq_true rfl⟩) (w_preV hK hW hL_a0 hK_a0 (by decide) rfl) rfl rfl hl.1 rfl (lv_room (Nat.le_of_ble_eq_true rfl)) dX0_laySquare_189 ⟨Nat.le_of_ble_eq_true rfl, Nat.le_of_ble_eq_true rfl⟩) hW (fun r_5 S_6 H locs hp hW => ?_)
      obtain ⟨hX_S_6, hp⟩ := hp
      refine W.widen (k := 0) (n := 0) (by decide) (by decide) ?_
      have hE := hE.trans hX_S_6
      have hK_a0 : sK S_6 a0 = 5 := (hX_S_6.2 a0 hL_a0).1.trans hK_a0
      have hL_a0 : wM D S_6 a0 := hX_S_6.M hL_a0
      have hK_y_2 : sK S_6 y_2 = 22 := (hX_S_6.2 y_2 hL_y_2).1.trans hK_y_2
      have hL_y_2 : wM D S_6 y_2 := hX_S_6.M hL_y_2
      refine lv_lor hx hb dX0_laySquare_192 ?_
      obtain ⟨h_7m, h_7, hp⟩ := hp
      refine w_lst F hK hW h_7m hK_y_2 h_7 dX0_laySquare_193 (fun H locs hW => ?_)
      obtain ⟨S_8, eS_8⟩ : ∃ z : wS, z = uJ S_6 y_2 (x1).toNatClampNeg (r_3 ||| r_5) := ⟨_, rfl⟩
      rw [← eS_8] at hW
      replace hp := hp S_8 eS_8
      have hX_S_8 : wX D S_6 S_8 := by rw [eS_8]; exact wX_uJ
      have hE := hE.trans hX_S_8
      have hK_a0 : sK S_8 a0 = 5 := (hX_S_8.2 a0 hL_a0).1.trans hK_a0
      have hL_a0 : wM D S_8 a0 := hX_S_8.M hL_a0
      refine lv_aload_n hx hb dX0_laySquare_194 rfl (lv_at hl 0 rfl) ?_
      obtain ⟨y_9, ey_9, hL_y_9, hK_y_9, hp⟩ := hp
      refine w_get (k := 5) (f := 10) (T := TX0) (v := .ref y_9) F hK hW hL_a0 hK_a0 (by decide) rfl rfl (by decide) i_5 k_45 (by rw [show wv 5 10 S_8 a0 = va_rf (sR S_8 a0 10) from rfl, ey_9]; rfl) dX0_laySquare_195 ?_
      refine lv_iload_n hx hb dX0_laySquare_198 rfl (lv_at hl 1 rfl) ?_
      refine lv_aload_n hx hb dX0_laySquare_199 rfl (lv_at hl 0 rfl) ?_
      refine lv_iload_n hx hb dX0_laySquare_200 rfl (lv_at hl 2 rfl) ?_
      refine lv_iconst (v := 1) hx hb dX0_laySquare_201 (by decide) ?_
      refine lv_isub hx hb dX0_laySquare_202 ?_
      refine lv_iload_n hx hb dX0_laySquare_203 rfl (lv_at hl 3 rfl) ?_
      refine lv_iconst (v := 1) hx hb dX0_laySquare_204 (by decide) ?_
      refine lv_isub hx hb dX0_laySquare_205 ?_
      refine w_callJ (va_runV (As := [.int (x2 - (1 : Int32)), .int (x3 - (1 : Int32))]) (rest := [.int x1, .ref y_9]) F (c_X0_setOf l hL_a0 hK_a0 hp H.size) (cwV (C := RX0) 2 hts (wg_V wm_RX0_75 wy_X0_setOf) rfl rfl rfl (by decide +kernel) ⟨Nat.le_of_ble_eq_true rfl, Nat.le_of_ble_eq_true rfl⟩) (w_preV hK hW hL_a0 hK_a0 (by decide) rfl) rfl rfl hl.1 rfl (lv_room (Nat.le_of_ble_eq_true rfl)) dX0_laySquare_206 ⟨Nat.le_of_ble_eq_true rfl, Nat.le_of_ble_eq_true rfl⟩) hW (fun r_10 S_11 H locs hp hW => ?_)
      obtain ⟨hX_S_11, hp⟩ := hp
      refine W.widen (k := 0) (n := 0) (by decide) (by decide) ?_
      have hE := hE.trans hX_S_11
      have hK_a0 : sK S_11 a0 = 5 := (hX_S_11.2 a0 hL_a0).1.trans hK_a0
      have hL_a0 : wM D S_11 a0 := hX_S_11.M hL_a0
      have hK_y_9 : sK S_11 y_9 = 22 := (hX_S_11.2 y_9 hL_y_9).1.trans hK_y_9
      have hL_y_9 : wM D S_11 y_9 := hX_S_11.M hL_y_9
      refine lv_aload_n hx hb dX0_laySquare_209 rfl (lv_at hl 0 rfl) ?_
      refine lv_iload_n hx hb dX0_laySquare_210 rfl (lv_at hl 2 rfl) ?_
      refine lv_iconst (v := 1) hx hb dX0_laySquare_211 (by decide) ?_
      refine lv_iadd hx hb dX0_laySquare_212 ?_
      refine lv_iload_n hx hb dX0_laySquare_213 rfl (lv_at hl 3 rfl) ?_
      refine lv_iconst (v := 1) hx hb dX0_laySquare_214 (by decide) ?_
      refine lv_isub hx hb dX0_laySquare_215 ?_
      refine w_callJ (va_runV (As := [.int (x2 + (1 : Int32)), .int (x3 - (1 : Int32))]) (rest := [.long r_10, .int x1, .ref y_9]) F (c_X0_setOf l hL_a0 hK_a0 hp H.size) (cwV (C := RX0) 2 hts (wg_V wm_RX0_75 wy_X0_setOf) rfl rfl rfl (by decide +kernel) ⟨Nat.le_of_ble_eq_true rfl, Nat.le_of_ble_eq_true rfl⟩) (w_preV hK hW hL_a0 hK_a0 (by decide) rfl) rfl rfl hl.1 rfl (lv_room (Nat.le_of_ble_eq_true rfl)) dX0_laySquare_216 ⟨Nat.le_of_ble_eq_true rfl, Nat.le_of_ble_eq_true rfl⟩) hW (fun r_12 S_13 H locs hp hW => ?_)
      obtain ⟨hX_S_13, hp⟩ := hp
      refine W.widen (k := 0) (n := 0) (by decide) (by decide) ?_
      have hE := hE.trans hX_S_13
      have hK_a0 : sK S_13 a0 = 5 := (hX_S_13.2 a0 hL_a0).1.trans hK_a0
      have hL_a0 : wM D S_13 a0 := hX_S_13.M hL_a0
      have hK_y_9 : sK S_13 y_9 = 22 := (hX_S_13.2 y_9 hL_y_9).1.trans hK_y_9
      have hL_y_9 : wM D S_13 y_9 := hX_S_13.M hL_y_9
      refine lv_lor hx hb dX0_laySquare_219 ?_
      obtain ⟨h_14m, h_14, hp⟩ := hp
      refine w_lst F hK hW h_14m hK_y_9 h_14 dX0_laySquare_220 (fun H locs hW => ?_)
      obtain ⟨S_15, eS_15⟩ : ∃ z : wS, z = uJ S_13 y_9 (x1).toNatClampNeg (r_10 ||| r_12) := ⟨_, rfl⟩
      rw [← eS_15] at hW
      replace hp := hp S_15 eS_15
      have hX_S_15 : wX D S_13 S_15 := by rw [eS_15]; exact wX_uJ
      have hE := hE.trans hX_S_15
      have hK_a0 : sK S_15 a0 = 5 := (hX_S_15.2 a0 hL_a0).1.trans hK_a0
      have hL_a0 : wM D S_15 a0 := hX_S_15.M hL_a0
      refine lv_aload_n hx hb dX0_laySquare_221 rfl (lv_at hl 0 rfl) ?_
      obtain ⟨y_16, ey_16, hL_y_16, hK_y_16, hp⟩ := hp
      refine w_get (k := 5) (f := 11) (T := TX0) (v := .ref y_16) F hK hW hL_a0 hK_a0 (by decide) rfl rfl (by decide) i_5 k_48 (by rw [show wv 5 11 S_15 a0 = va_rf (sR S_15 a0 11) from rfl, ey_16]; rfl) dX0_laySquare_222 ?_
      refine lv_iload_n hx hb dX0_laySquare_225 rfl (lv_at hl 1 rfl) ?_
      refine lv_aload_n hx hb dX0_laySquare_226 rfl (lv_at hl 0 rfl) ?_
      refine lv_iload_n hx hb dX0_laySquare_227 rfl (lv_at hl 2 rfl) ?_
      refine lv_iconst (v := 1) hx hb dX0_laySquare_228 (by decide) ?_
      refine lv_isub hx hb dX0_laySquare_229 ?_
      refine lv_iload_n hx hb dX0_laySquare_230 rfl (lv_at hl 3 rfl) ?_
      refine w_callJ (va_runV (As := [.int (x2 - (1 : Int32)), .int x3]) (rest := [.int x1, .ref y_16]) F (c_X0_setOf l hL_a0 hK_a0 hp H.size) (cwV (C := RX0) 2 hts (wg_V wm_RX0_75 wy_X0_setOf) rfl rfl rfl (by decide +kernel) ⟨Nat.le_of_ble_eq_true rfl, Nat.le_of_ble_eq_true rfl⟩) (w_preV hK hW hL_a0 hK_a0 (by decide) rfl) rfl rfl hl.1 rfl (lv_room (Nat.le_of_ble_eq_true rfl)) dX0_laySquare_231 ⟨Nat.le_of_ble_eq_true rfl, Nat.le_of_ble_eq_true rfl⟩) hW (fun r_17 S_18 H locs hp hW => ?_)
      obtain ⟨hX_S_18, hp⟩ := hp
      refine W.widen (k := 0) (n := 0) (by decide) (by decide) ?_
      have hE := hE.trans hX_S_18
      have hK_a0 : sK S_18 a0 = 5 := (hX_S_18.2 a0 hL_a0).1.trans hK_a0
      have hL_a0 : wM D S_18 a0 := hX_S_18.M hL_a0
      have hK_y_16 : sK S_18 y_16 = 22 := (hX_S_18.2 y_16 hL_y_16).1.trans hK_y_16
      have hL_y_16 : wM D S_18 y_16 := hX_S_18.M hL_y_16
      refine lv_aload_n hx hb dX0_laySquare_234 rfl (lv_at hl 0 rfl) ?_
      refine lv_iload_n hx hb dX0_laySquare_235 rfl (lv_at hl 2 rfl) ?_
      refine lv_iconst (v := 1) hx hb dX0_laySquare_236 (by decide) ?_
      refine lv_iadd hx hb dX0_laySquare_237 ?_
      refine lv_iload_n hx hb dX0_laySquare_238 rfl (lv_at hl 3 rfl) ?_
      refine w_callJ (va_runV (As := [.int (x2 + (1 : Int32)), .int x3]) (rest := [.long r_17, .int x1, .ref y_16]) F (c_X0_setOf l hL_a0 hK_a0 hp H.size) (cwV (C := RX0) 2 hts (wg_V wm_RX0_75 wy_X0_setOf) rfl rfl rfl (by decide +kernel) ⟨Nat.le_of_ble_eq_true rfl, Nat.le_of_ble_eq_true rfl⟩) (w_preV hK hW hL_a0 hK_a0 (by decide) rfl) rfl rfl hl.1 rfl (lv_room (Nat.le_of_ble_eq_true rfl)) dX0_laySquare_239 ⟨Nat.le_of_ble_eq_true rfl, Nat.le_of_ble_eq_true rfl⟩) hW (fun r_19 S_20 H locs hp hW => ?_)
      obtain ⟨hX_S_20, hp⟩ := hp
      refine W.widen (k := 0) (n := 0) (by decide) (by decide) ?_
      have hE := hE.trans hX_S_20
      have hK_a0 : sK S_20 a0 = 5 := (hX_S_20.2 a0 hL_a0).1.trans hK_a0
      have hL_a0 : wM D S_20 a0 := hX_S_20.M hL_a0
      have hK_y_16 : sK S_20 y_16 = 22 := (hX_S_20.2 y_16 hL_y_16).1.trans hK_y_16
      have hL_y_16 : wM D S_20 y_16 := hX_S_20.M hL_y_16
      refine lv_lor hx hb dX0_laySquare_242 ?_
      obtain ⟨h_21m, h_21, hp⟩ := hp
      refine w_lst F hK hW h_21m hK_y_16 h_21 dX0_laySquare_243 (fun H locs hW => ?_)
      obtain ⟨S_22, eS_22⟩ : ∃ z : wS, z = uJ S_20 y_16 (x1).toNatClampNeg (r_17 ||| r_19) := ⟨_, rfl⟩
      rw [← eS_22] at hW
      replace hp := hp S_22 eS_22
      have hX_S_22 : wX D S_20 S_22 := by rw [eS_22]; exact wX_uJ
      have hE := hE.trans hX_S_22
      have hK_a0 : sK S_22 a0 = 5 := (hX_S_22.2 a0 hL_a0).1.trans hK_a0
      have hL_a0 : wM D S_22 a0 := hX_S_22.M hL_a0
      exact w_vret hx hb hr hlocks hW ⟨hE, hp⟩ dX0_laySquare_244
    · replace hp := hp.2 c_1
      refine lv_aload_n hx hb dX0_laySquare_73 rfl (lv_at hl 0 rfl) ?_
      obtain ⟨y_23, ey_23, hL_y_23, hK_y_23, hp⟩ := hp
      refine w_get (k := 5) (f := 6) (T := TX0) (v := .ref y_23) F hK hW hL_a0 hK_a0 (by decide) rfl rfl (by decide) i_5 k_32 (by rw [show wv 5 6 S a0 = va_rf (sR S a0 6) from rfl, ey_23]; rfl) dX0_laySquare_74 ?_
      refine lv_iload_n hx hb dX0_laySquare_77 rfl (lv_at hl 1 rfl) ?_
      refine lv_bipush (v := 8) hx hb dX0_laySquare_78 (by decide) ?_
      refine lv_imul hx hb dX0_laySquare_80 ?_
      refine lv_iload hx hb dX0_laySquare_81 (lv_at hl 4 rfl) ?_
      refine lv_iadd hx hb dX0_laySquare_83 ?_
      refine lv_aload_n hx hb dX0_laySquare_84 rfl (lv_at hl 0 rfl) ?_
      refine lv_iload_n hx hb dX0_laySquare_85 rfl (lv_at hl 2 rfl) ?_
      refine lv_iload_n hx hb dX0_laySquare_86 rfl (lv_at hl 3 rfl) ?_
      refine w_stat F hK hW (show ("OpeningsCabinet$Board", "FILE_STEPS", "[I", 100, 21) ∈ wSr by decide +kernel) (hwg _ wf_RX0_65) dX0_laySquare_87 ?_
      obtain ⟨y_24, ey_24⟩ : ∃ z : Nat, z = D.2.2.1 100 := ⟨_, rfl⟩
      rw [← ey_24]
      replace hp := hp y_24 ey_24
      obtain ⟨hL_y_24, hK_y_24⟩ : wM D S y_24 ∧ sK S y_24 = 21 := by rw [ey_24]; exact w_statM hK hW (show ("OpeningsCabinet$Board", "FILE_STEPS", "[I", 100, 21) ∈ wSr by decide +kernel)
      refine lv_iload hx hb dX0_laySquare_90 (lv_at hl 4 rfl) ?_
      obtain ⟨h_25, hp⟩ := hp
      refine w_ild F hK hW hL_y_24 hK_y_24 h_25 dX0_laySquare_92 ?_
      refine w_stat F hK hW (show ("OpeningsCabinet$Board", "RANK_STEPS", "[I", 101, 21) ∈ wSr by decide +kernel) (hwg _ wf_RX0_68) dX0_laySquare_93 ?_
      obtain ⟨y_26, ey_26⟩ : ∃ z : Nat, z = D.2.2.1 101 := ⟨_, rfl⟩
      rw [← ey_26]
      replace hp := hp y_26 ey_26
      obtain ⟨hL_y_26, hK_y_26⟩ : wM D S y_26 ∧ sK S y_26 = 21 := by rw [ey_26]; exact w_statM hK hW (show ("OpeningsCabinet$Board", "RANK_STEPS", "[I", 101, 21) ∈ wSr by decide +kernel)
      refine lv_iload hx hb dX0_laySquare_96 (lv_at hl 4 rfl) ?_
      obtain ⟨h_27, hp⟩ := hp
      refine w_ild F hK hW hL_y_26 hK_y_26 h_27 dX0_laySquare_98 ?_
      refine w_callJ (va_runV (As := [.int x2, .int x3, .int (sI S y_24 (x4).toNatClampNeg), .int (sI S y_26 (x4).toNatClampNeg)]) (rest := [.int ((x1 * (8 : Int32)) + x4), .ref y_23]) F (c_X0_ray l hL_a0 hK_a0 hp H.size) (cwV (C := RX0) 4 hts (wg_V wm_RX0_71 wy_X0_ray) rfl rfl rfl (by decide +kernel) ⟨Nat.le_of_ble_eq_true rfl, Nat.le_of_ble_eq_true rfl⟩) (w_preV hK hW hL_a0 hK_a0 (by decide) rfl) rfl rfl hl.1 rfl (lv_room (Nat.le_of_ble_eq_true rfl)) dX0_laySquare_99 ⟨Nat.le_of_ble_eq_true rfl, Nat.le_of_ble_eq_true rfl⟩) hW (fun r_28 S_29 H locs hp hW => ?_)
      obtain ⟨hX_S_29, hp⟩ := hp
      refine W.widen (k := 0) (n := 0) (by decide) (by decide) ?_
      have hE := hE.trans hX_S_29
      have hK_a0 : sK S_29 a0 = 5 := (hX_S_29.2 a0 hL_a0).1.trans hK_a0
      have hL_a0 : wM D S_29 a0 := hX_S_29.M hL_a0
      have hK_y_23 : sK S_29 y_23 = 22 := (hX_S_29.2 y_23 hL_y_23).1.trans hK_y_23
      have hL_y_23 : wM D S_29 y_23 := hX_S_29.M hL_y_23
      obtain ⟨h_30m, h_30, hp⟩ := hp
      refine w_lst F hK hW h_30m hK_y_23 h_30 dX0_laySquare_102 (fun H locs hW => ?_)
      obtain ⟨S_31, eS_31⟩ : ∃ z : wS, z = uJ S_29 y_23 (((x1 * (8 : Int32)) + x4)).toNatClampNeg r_28 := ⟨_, rfl⟩
      rw [← eS_31] at hW
      replace hp := hp S_31 eS_31
      have hX_S_31 : wX D S_29 S_31 := by rw [eS_31]; exact wX_uJ
      have hE := hE.trans hX_S_31
      have hK_a0 : sK S_31 a0 = 5 := (hX_S_31.2 a0 hL_a0).1.trans hK_a0
      have hL_a0 : wM D S_31 a0 := hX_S_31.M hL_a0
      refine lv_aload_n hx hb dX0_laySquare_103 rfl (lv_at hl 0 rfl) ?_
      obtain ⟨y_32, ey_32, hL_y_32, hK_y_32, hp⟩ := hp
      refine w_get (k := 5) (f := 7) (T := TX0) (v := .ref y_32) F hK hW hL_a0 hK_a0 (by decide) rfl rfl (by decide) i_5 k_36 (by rw [show wv 5 7 S_31 a0 = va_rf (sR S_31 a0 7) from rfl, ey_32]; rfl) dX0_laySquare_104 ?_
      refine lv_iload_n hx hb dX0_laySquare_107 rfl (lv_at hl 1 rfl) ?_
      refine lv_dup2_11 hx hb dX0_laySquare_108 rfl rfl ?_
      obtain ⟨h_33, hp⟩ := hp
      refine w_lld F hK hW hL_y_32 hK_y_32 h_33 dX0_laySquare_109 ?_
      refine lv_aload_n hx hb dX0_laySquare_110 rfl (lv_at hl 0 rfl) ?_
      refine lv_iload_n hx hb dX0_laySquare_111 rfl (lv_at hl 2 rfl) ?_
      refine w_stat F hK hW (show ("OpeningsCabinet$Board", "FILE_STEPS", "[I", 100, 21) ∈ wSr by decide +kernel) (hwg _ wf_RX0_65) dX0_laySquare_112 ?_
      obtain ⟨y_34, ey_34⟩ : ∃ z : Nat, z = D.2.2.1 100 := ⟨_, rfl⟩
      rw [← ey_34]
      replace hp := hp y_34 ey_34
      obtain ⟨hL_y_34, hK_y_34⟩ : wM D S_31 y_34 ∧ sK S_31 y_34 = 21 := by rw [ey_34]; exact w_statM hK hW (show ("OpeningsCabinet$Board", "FILE_STEPS", "[I", 100, 21) ∈ wSr by decide +kernel)
      refine lv_iload hx hb dX0_laySquare_115 (lv_at hl 4 rfl) ?_
      obtain ⟨h_35, hp⟩ := hp
      refine w_ild F hK hW hL_y_34 hK_y_34 h_35 dX0_laySquare_117 ?_
      refine lv_iadd hx hb dX0_laySquare_118 ?_
      refine lv_iload_n hx hb dX0_laySquare_119 rfl (lv_at hl 3 rfl) ?_
      refine w_stat F hK hW (show ("OpeningsCabinet$Board", "RANK_STEPS", "[I", 101, 21) ∈ wSr by decide +kernel) (hwg _ wf_RX0_68) dX0_laySquare_120 ?_
      obtain ⟨y_36, ey_36⟩ : ∃ z : Nat, z = D.2.2.1 101 := ⟨_, rfl⟩
      rw [← ey_36]
      replace hp := hp y_36 ey_36
      obtain ⟨hL_y_36, hK_y_36⟩ : wM D S_31 y_36 ∧ sK S_31 y_36 = 21 := by rw [ey_36]; exact w_statM hK hW (show ("OpeningsCabinet$Board", "RANK_STEPS", "[I", 101, 21) ∈ wSr by decide +kernel)
      refine lv_iload hx hb dX0_laySquare_123 (lv_at hl 4 rfl) ?_
      obtain ⟨h_37, hp⟩ := hp
      refine w_ild F hK hW hL_y_36 hK_y_36 h_37 dX0_laySquare_125 ?_
      refine lv_iadd hx hb dX0_laySquare_126 ?_
      refine w_callJ (va_runV (As := [.int (x2 + (sI S_31 y_34 (x4).toNatClampNeg)), .int (x3 + (sI S_31 y_36 (x4).toNatClampNeg))]) (rest := [.long (sJ S_31 y_32 (x1).toNatClampNeg), .int x1, .ref y_32]) F (c_X0_setOf l hL_a0 hK_a0 hp H.size) (cwV (C := RX0) 2 hts (wg_V wm_RX0_75 wy_X0_setOf) rfl rfl rfl (by decide +kernel) ⟨Nat.le_of_ble_eq_true rfl, Nat.le_of_ble_eq_true rfl⟩) (w_preV hK hW hL_a0 hK_a0 (by decide) rfl) rfl rfl hl.1 rfl (lv_room (Nat.le_of_ble_eq_true rfl)) dX0_laySquare_127 ⟨Nat.le_of_ble_eq_true rfl, Nat.le_of_ble_eq_true rfl⟩) hW (fun r_38 S_39 H locs hp hW => ?_)
      obtain ⟨hX_S_39, hp⟩ := hp
      refine W.widen (k := 0) (n := 0) (by decide) (by decide) ?_
      have hE := hE.trans hX_S_39
      have hK_a0 : sK S_39 a0 = 5 := (hX_S_39.2 a0 hL_a0).1.trans hK_a0
      have hL_a0 : wM D S_39 a0 := hX_S_39.M hL_a0
      have hK_y_32 : sK S_39 y_32 = 22 := (hX_S_39.2 y_32 hL_y_32).1.trans hK_y_32
      have hL_y_32 : wM D S_39 y_32 := hX_S_39.M hL_y_32
      refine lv_lor hx hb dX0_laySquare_130 ?_
      obtain ⟨h_40m, h_40, hp⟩ := hp
      refine w_lst F hK hW h_40m hK_y_32 h_40 dX0_laySquare_131 (fun H locs hW => ?_)
      obtain ⟨S_41, eS_41⟩ : ∃ z : wS, z = uJ S_39 y_32 (x1).toNatClampNeg ((sJ S_31 y_32 (x1).toNatClampNeg) ||| r_38) := ⟨_, rfl⟩
      rw [← eS_41] at hW
      replace hp := hp S_41 eS_41
      have hX_S_41 : wX D S_39 S_41 := by rw [eS_41]; exact wX_uJ
      have hE := hE.trans hX_S_41
      have hK_a0 : sK S_41 a0 = 5 := (hX_S_41.2 a0 hL_a0).1.trans hK_a0
      have hL_a0 : wM D S_41 a0 := hX_S_41.M hL_a0
      refine lv_aload_n hx hb dX0_laySquare_132 rfl (lv_at hl 0 rfl) ?_
      obtain ⟨y_42, ey_42, hL_y_42, hK_y_42, hp⟩ := hp
      refine w_get (k := 5) (f := 8) (T := TX0) (v := .ref y_42) F hK hW hL_a0 hK_a0 (by decide) rfl rfl (by decide) i_5 k_39 (by rw [show wv 5 8 S_41 a0 = va_rf (sR S_41 a0 8) from rfl, ey_42]; rfl) dX0_laySquare_133 ?_
      refine lv_iload_n hx hb dX0_laySquare_136 rfl (lv_at hl 1 rfl) ?_
      refine lv_dup2_11 hx hb dX0_laySquare_137 rfl rfl ?_
      obtain ⟨h_43, hp⟩ := hp
      refine w_lld F hK hW hL_y_42 hK_y_42 h_43 dX0_laySquare_138 ?_
      refine lv_aload_n hx hb dX0_laySquare_139 rfl (lv_at hl 0 rfl) ?_
      refine lv_iload_n hx hb dX0_laySquare_140 rfl (lv_at hl 2 rfl) ?_
      refine w_stat F hK hW (show ("OpeningsCabinet$Board", "LEAP_FILES", "[I", 102, 21) ∈ wSr by decide +kernel) (hwg _ wf_RX0_79) dX0_laySquare_141 ?_
      obtain ⟨y_44, ey_44⟩ : ∃ z : Nat, z = D.2.2.1 102 := ⟨_, rfl⟩
      rw [← ey_44]
      replace hp := hp y_44 ey_44
      obtain ⟨hL_y_44, hK_y_44⟩ : wM D S_41 y_44 ∧ sK S_41 y_44 = 21 := by rw [ey_44]; exact w_statM hK hW (show ("OpeningsCabinet$Board", "LEAP_FILES", "[I", 102, 21) ∈ wSr by decide +kernel)
      refine lv_iload hx hb dX0_laySquare_144 (lv_at hl 4 rfl) ?_
      obtain ⟨h_45, hp⟩ := hp
      refine w_ild F hK hW hL_y_44 hK_y_44 h_45 dX0_laySquare_146 ?_
      refine lv_iadd hx hb dX0_laySquare_147 ?_
      refine lv_iload_n hx hb dX0_laySquare_148 rfl (lv_at hl 3 rfl) ?_
      refine w_stat F hK hW (show ("OpeningsCabinet$Board", "LEAP_RANKS", "[I", 103, 21) ∈ wSr by decide +kernel) (hwg _ wf_RX0_82) dX0_laySquare_149 ?_
      obtain ⟨y_46, ey_46⟩ : ∃ z : Nat, z = D.2.2.1 103 := ⟨_, rfl⟩
      rw [← ey_46]
      replace hp := hp y_46 ey_46
      obtain ⟨hL_y_46, hK_y_46⟩ : wM D S_41 y_46 ∧ sK S_41 y_46 = 21 := by rw [ey_46]; exact w_statM hK hW (show ("OpeningsCabinet$Board", "LEAP_RANKS", "[I", 103, 21) ∈ wSr by decide +kernel)
      refine lv_iload hx hb dX0_laySquare_152 (lv_at hl 4 rfl) ?_
      obtain ⟨h_47, hp⟩ := hp
      refine w_ild F hK hW hL_y_46 hK_y_46 h_47 dX0_laySquare_154 ?_
      refine lv_iadd hx hb dX0_laySquare_155 ?_
      refine w_callJ (va_runV (As := [.int (x2 + (sI S_41 y_44 (x4).toNatClampNeg)), .int (x3 + (sI S_41 y_46 (x4).toNatClampNeg))]) (rest := [.long (sJ S_41 y_42 (x1).toNatClampNeg), .int x1, .ref y_42]) F (c_X0_setOf l hL_a0 hK_a0 hp H.size) (cwV (C := RX0) 2 hts (wg_V wm_RX0_75 wy_X0_setOf) rfl rfl rfl (by decide +kernel) ⟨Nat.le_of_ble_eq_true rfl, Nat.le_of_ble_eq_true rfl⟩) (w_preV hK hW hL_a0 hK_a0 (by decide) rfl) rfl rfl hl.1 rfl (lv_room (Nat.le_of_ble_eq_true rfl)) dX0_laySquare_156 ⟨Nat.le_of_ble_eq_true rfl, Nat.le_of_ble_eq_true rfl⟩) hW (fun r_48 S_49 H locs hp hW => ?_)
      obtain ⟨hX_S_49, hp⟩ := hp
      refine W.widen (k := 0) (n := 0) (by decide) (by decide) ?_
      have hE := hE.trans hX_S_49
      have hK_a0 : sK S_49 a0 = 5 := (hX_S_49.2 a0 hL_a0).1.trans hK_a0
      have hL_a0 : wM D S_49 a0 := hX_S_49.M hL_a0
      have hK_y_42 : sK S_49 y_42 = 22 := (hX_S_49.2 y_42 hL_y_42).1.trans hK_y_42
      have hL_y_42 : wM D S_49 y_42 := hX_S_49.M hL_y_42
      refine lv_lor hx hb dX0_laySquare_159 ?_
      obtain ⟨h_50m, h_50, hp⟩ := hp
      refine w_lst F hK hW h_50m hK_y_42 h_50 dX0_laySquare_160 (fun H locs hW => ?_)
      obtain ⟨S_51, eS_51⟩ : ∃ z : wS, z = uJ S_49 y_42 (x1).toNatClampNeg ((sJ S_41 y_42 (x1).toNatClampNeg) ||| r_48) := ⟨_, rfl⟩
      rw [← eS_51] at hW
      replace hp := hp S_51 eS_51
      have hX_S_51 : wX D S_49 S_51 := by rw [eS_51]; exact wX_uJ
      have hE := hE.trans hX_S_51
      have hK_a0 : sK S_51 a0 = 5 := (hX_S_51.2 a0 hL_a0).1.trans hK_a0
      have hL_a0 : wM D S_51 a0 := hX_S_51.M hL_a0
      obtain ⟨x_52, ex_52⟩ : ∃ z : Int32, z = x4 + 1 := ⟨_, rfl⟩
      replace hp := hp x_52 ex_52
      refine lv_iinc (v := x_52) (lv' := [(4, .int x_52), (0, .ref a0), (1, .int x1), (2, .int x2), (3, .int x3)]) hx hb dX0_laySquare_161 hl (k := 4) rfl (by rw [ex_52]; rfl) (by decide) rfl (fun ls hl => ?_)
      refine lv_goto (tgt := 66) hx hb dX0_laySquare_164 (by decide) ?_
      exact ih hp hW hE (lv_sub hl [1, 2, 3, 4, 0] rfl) hL_a0 hK_a0
set_option maxHeartbeats 4000000 in
set_option maxRecDepth 100000 in
theorem t_X0_laySquare_35 {p : Program} {l : Launch} {e : Env} {s : State} {m : MethodId} {args : Array Value} {below : List Frame} {meth : Method} {c : Code} {D : wD} {cy : Nat → ClassId} {X : va_W} {A : Nat → Prop} {S0 : wS} {post : wS → Prop} (F : CallFix p m c cX0_laySquare 5 s args wz_X0_laySquare RX0) (hr : meth.sig.returnType = none) (hlocks : meth.locks = false) (hK : wK D cy A s) : ∀ {S : wS} {H : Heap} {locs : List Loc} {ls : Array Slot} {a0 : Nat} {x1 : Int32} {x2 : Int32} {x3 : Int32}, wp_X0_laySquare_35 D post S a0 x1 x2 x3 → wO D cy X A s.heap S H locs → wX D S0 S → lv_has ls 5 [(0, .ref a0), (1, .int x1), (2, .int x2), (3, .int x3)] → wM D S a0 → sK S a0 = 5 → W p l e r_X0_laySquare s m args below meth c H locs 0 0 (MQ below (va_Qv (fun S9 => wX D S0 S9 ∧ post S9) (wB D cy X A) A) args s 0 0 A) (F0 m 35 ls []) := by
  obtain ⟨hx, hb, hml, hown, hts⟩ := id F
  have hwg : ∀ w ∈ WG, w.before args s = true := fun w h => hts w (List.mem_cons_of_mem _ h)
  have i_5 : ∀ w ∈ u_ws RX0 TX0 12, w ∈ wz_X0_laySquare := fun w h => List.mem_cons_of_mem _ (wu_5 w h)
  have k_25 := hwg _ wf_RX0_25
  have k_29 := hwg _ wf_RX0_29
  have k_36 := hwg _ wf_RX0_36
  have k_39 := hwg _ wf_RX0_39
  intro S H locs ls a0 x1 x2 x3 hp hW hE hl hL_a0 hK_a0
  unfold wp_X0_laySquare_35 at hp
  refine lv_aload_n hx hb dX0_laySquare_35 rfl (lv_at hl 0 rfl) ?_
  obtain ⟨y_1, ey_1, hL_y_1, hK_y_1, hp⟩ := hp
  refine w_get (k := 5) (f := 4) (T := TX0) (v := .ref y_1) F hK hW hL_a0 hK_a0 (by decide) rfl rfl (by decide) i_5 k_25 (by rw [show wv 5 4 S a0 = va_rf (sR S a0 4) from rfl, ey_1]; rfl) dX0_laySquare_36 ?_
  refine lv_iload_n hx hb dX0_laySquare_39 rfl (lv_at hl 1 rfl) ?_
  refine lv_iload_n hx hb dX0_laySquare_40 rfl (lv_at hl 2 rfl) ?_
  obtain ⟨h_2m, h_2, hp⟩ := hp
  refine w_ist F hK hW h_2m hK_y_1 h_2 dX0_laySquare_41 (fun H locs hW => ?_)
  obtain ⟨S_3, eS_3⟩ : ∃ z : wS, z = uI S y_1 (x1).toNatClampNeg x2 := ⟨_, rfl⟩
  rw [← eS_3] at hW
  replace hp := hp S_3 eS_3
  have hX_S_3 : wX D S S_3 := by rw [eS_3]; exact wX_uI
  have hE := hE.trans hX_S_3
  have hK_a0 : sK S_3 a0 = 5 := (hX_S_3.2 a0 hL_a0).1.trans hK_a0
  have hL_a0 : wM D S_3 a0 := hX_S_3.M hL_a0
  refine lv_aload_n hx hb dX0_laySquare_42 rfl (lv_at hl 0 rfl) ?_
  obtain ⟨y_4, ey_4, hL_y_4, hK_y_4, hp⟩ := hp
  refine w_get (k := 5) (f := 5) (T := TX0) (v := .ref y_4) F hK hW hL_a0 hK_a0 (by decide) rfl rfl (by decide) i_5 k_29 (by rw [show wv 5 5 S_3 a0 = va_rf (sR S_3 a0 5) from rfl, ey_4]; rfl) dX0_laySquare_43 ?_
  refine lv_iload_n hx hb dX0_laySquare_46 rfl (lv_at hl 1 rfl) ?_
  refine lv_iload_n hx hb dX0_laySquare_47 rfl (lv_at hl 3 rfl) ?_
  obtain ⟨h_5m, h_5, hp⟩ := hp
  refine w_ist F hK hW h_5m hK_y_4 h_5 dX0_laySquare_48 (fun H locs hW => ?_)
  obtain ⟨S_6, eS_6⟩ : ∃ z : wS, z = uI S_3 y_4 (x1).toNatClampNeg x3 := ⟨_, rfl⟩
  rw [← eS_6] at hW
  replace hp := hp S_6 eS_6
  have hX_S_6 : wX D S_3 S_6 := by rw [eS_6]; exact wX_uI
  have hE := hE.trans hX_S_6
  have hK_a0 : sK S_6 a0 = 5 := (hX_S_6.2 a0 hL_a0).1.trans hK_a0
  have hL_a0 : wM D S_6 a0 := hX_S_6.M hL_a0
  refine lv_aload_n hx hb dX0_laySquare_49 rfl (lv_at hl 0 rfl) ?_
  obtain ⟨y_7, ey_7, hL_y_7, hK_y_7, hp⟩ := hp
  refine w_get (k := 5) (f := 7) (T := TX0) (v := .ref y_7) F hK hW hL_a0 hK_a0 (by decide) rfl rfl (by decide) i_5 k_36 (by rw [show wv 5 7 S_6 a0 = va_rf (sR S_6 a0 7) from rfl, ey_7]; rfl) dX0_laySquare_50 ?_
  refine lv_iload_n hx hb dX0_laySquare_53 rfl (lv_at hl 1 rfl) ?_
  refine lv_lconst (v := 0) hx hb dX0_laySquare_54 (by decide) ?_
  obtain ⟨h_8m, h_8, hp⟩ := hp
  refine w_lst F hK hW h_8m hK_y_7 h_8 dX0_laySquare_55 (fun H locs hW => ?_)
  obtain ⟨S_9, eS_9⟩ : ∃ z : wS, z = uJ S_6 y_7 (x1).toNatClampNeg (0 : Int64) := ⟨_, rfl⟩
  rw [← eS_9] at hW
  replace hp := hp S_9 eS_9
  have hX_S_9 : wX D S_6 S_9 := by rw [eS_9]; exact wX_uJ
  have hE := hE.trans hX_S_9
  have hK_a0 : sK S_9 a0 = 5 := (hX_S_9.2 a0 hL_a0).1.trans hK_a0
  have hL_a0 : wM D S_9 a0 := hX_S_9.M hL_a0
  refine lv_aload_n hx hb dX0_laySquare_56 rfl (lv_at hl 0 rfl) ?_
  obtain ⟨y_10, ey_10, hL_y_10, hK_y_10, hp⟩ := hp
  refine w_get (k := 5) (f := 8) (T := TX0) (v := .ref y_10) F hK hW hL_a0 hK_a0 (by decide) rfl rfl (by decide) i_5 k_39 (by rw [show wv 5 8 S_9 a0 = va_rf (sR S_9 a0 8) from rfl, ey_10]; rfl) dX0_laySquare_57 ?_
  refine lv_iload_n hx hb dX0_laySquare_60 rfl (lv_at hl 1 rfl) ?_
  refine lv_lconst (v := 0) hx hb dX0_laySquare_61 (by decide) ?_
  obtain ⟨h_11m, h_11, hp⟩ := hp
  refine w_lst F hK hW h_11m hK_y_10 h_11 dX0_laySquare_62 (fun H locs hW => ?_)
  obtain ⟨S_12, eS_12⟩ : ∃ z : wS, z = uJ S_9 y_10 (x1).toNatClampNeg (0 : Int64) := ⟨_, rfl⟩
  rw [← eS_12] at hW
  replace hp := hp S_12 eS_12
  have hX_S_12 : wX D S_9 S_12 := by rw [eS_12]; exact wX_uJ
  have hE := hE.trans hX_S_12
  have hK_a0 : sK S_12 a0 = 5 := (hX_S_12.2 a0 hL_a0).1.trans hK_a0
  have hL_a0 : wM D S_12 a0 := hX_S_12.M hL_a0
  refine lv_iconst (v := 0) hx hb dX0_laySquare_63 (by decide) ?_
  refine lv_istore (lv' := [(4, .int (0 : Int32)), (0, .ref a0), (1, .int x1), (2, .int x2), (3, .int x3)]) hx hb dX0_laySquare_64 hl (by decide) rfl (fun ls hl => ?_)
  obtain ⟨n_13, hp⟩ := hp
  exact t_X0_laySquare_66 F hr hlocks hK n_13 hp hW hE (lv_sub hl [1, 2, 3, 4, 0] rfl) hL_a0 hK_a0
set_option maxHeartbeats 4000000 in
set_option maxRecDepth 100000 in
theorem t_X0_laySquare_23 {p : Program} {l : Launch} {e : Env} {s : State} {m : MethodId} {args : Array Value} {below : List Frame} {meth : Method} {c : Code} {D : wD} {cy : Nat → ClassId} {X : va_W} {A : Nat → Prop} {S0 : wS} {post : wS → Prop} (F : CallFix p m c cX0_laySquare 5 s args wz_X0_laySquare RX0) (hr : meth.sig.returnType = none) (hlocks : meth.locks = false) (hK : wK D cy A s) : ∀ {S : wS} {H : Heap} {locs : List Loc} {ls : Array Slot} {a0 : Nat} {x1 : Int32} {x2 : Int32} {x3 : Int32}, wp_X0_laySquare_23 D post S a0 x1 x2 x3 → wO D cy X A s.heap S H locs → wX D S0 S → lv_has ls 5 [(0, .ref a0), (1, .int x1), (2, .int x2), (3, .int x3)] → wM D S a0 → sK S a0 = 5 → W p l e r_X0_laySquare s m args below meth c H locs 0 0 (MQ below (va_Qv (fun S9 => wX D S0 S9 ∧ post S9) (wB D cy X A) A) args s 0 0 A) (F0 m 23 ls []) := by
  obtain ⟨hx, hb, hml, hown, hts⟩ := id F
  have hwg : ∀ w ∈ WG, w.before args s = true := fun w h => hts w (List.mem_cons_of_mem _ h)
  have i_5 : ∀ w ∈ u_ws RX0 TX0 12, w ∈ wz_X0_laySquare := fun w h => List.mem_cons_of_mem _ (wu_5 w h)
  have k_21 := hwg _ wf_RX0_21
  intro S H locs ls a0 x1 x2 x3 hp hW hE hl hL_a0 hK_a0
  unfold wp_X0_laySquare_23 at hp
  refine lv_aload_n hx hb dX0_laySquare_23 rfl (lv_at hl 0 rfl) ?_
  refine lv_dup hx hb dX0_laySquare_24 rfl ?_
  refine w_get (k := 5) (f := 3) (T := TX0) (v := .long (sJ S a0 3)) F hK hW hL_a0 hK_a0 (by decide) rfl rfl (by decide) i_5 k_21 rfl dX0_laySquare_25 ?_
  refine lv_lconst (v := 1) hx hb dX0_laySquare_28 (by decide) ?_
  refine lv_iload_n hx hb dX0_laySquare_29 rfl (lv_at hl 1 rfl) ?_
  refine lv_lshl (v := (jlshl (1 : Int64) x1)) hx hb dX0_laySquare_30 rfl ?_
  refine lv_lor hx hb dX0_laySquare_31 ?_
  refine w_putJ (k := 5) (f := 3) (T := TX0) F hK hW hL_a0 hK_a0 (by decide) (by decide) rfl rfl (by decide) i_5 tyX0 tyX0_ok nmX0 k_21 rfl rfl rfl dX0_laySquare_32 (fun H locs hW => ?_)
  obtain ⟨S_1, eS_1⟩ : ∃ z : wS, z = uJ S a0 3 ((sJ S a0 3) ||| (jlshl (1 : Int64) x1)) := ⟨_, rfl⟩
  rw [← eS_1] at hW
  replace hp := hp S_1 eS_1
  have hX_S_1 : wX D S S_1 := by rw [eS_1]; exact wX_uJ
  have hE := hE.trans hX_S_1
  have hK_a0 : sK S_1 a0 = 5 := (hX_S_1.2 a0 hL_a0).1.trans hK_a0
  have hL_a0 : wM D S_1 a0 := hX_S_1.M hL_a0
  exact t_X0_laySquare_35 F hr hlocks hK hp hW hE (lv_sub hl [0, 1, 2, 3] rfl) hL_a0 hK_a0
set_option maxHeartbeats 4000000 in
set_option maxRecDepth 100000 in
theorem t_X0_laySquare_0 {p : Program} {l : Launch} {e : Env} {s : State} {m : MethodId} {args : Array Value} {below : List Frame} {meth : Method} {c : Code} {D : wD} {cy : Nat → ClassId} {X : va_W} {A : Nat → Prop} {S0 : wS} {post : wS → Prop} (F : CallFix p m c cX0_laySquare 5 s args wz_X0_laySquare RX0) (hr : meth.sig.returnType = none) (hlocks : meth.locks = false) (hK : wK D cy A s) : ∀ {S : wS} {H : Heap} {locs : List Loc} {ls : Array Slot} {a0 : Nat} {x1 : Int32} {x2 : Int32} {x3 : Int32}, wp_X0_laySquare_0 D post S a0 x1 x2 x3 → wO D cy X A s.heap S H locs → wX D S0 S → lv_has ls 5 [(0, .ref a0), (1, .int x1), (2, .int x2), (3, .int x3)] → wM D S a0 → sK S a0 = 5 → W p l e r_X0_laySquare s m args below meth c H locs 0 0 (MQ below (va_Qv (fun S9 => wX D S0 S9 ∧ post S9) (wB D cy X A) A) args s 0 0 A) (F0 m 0 ls []) := by
  obtain ⟨hx, hb, hml, hown, hts⟩ := id F
  have hwg : ∀ w ∈ WG, w.before args s = true := fun w h => hts w (List.mem_cons_of_mem _ h)
  have i_5 : ∀ w ∈ u_ws RX0 TX0 12, w ∈ wz_X0_laySquare := fun w h => List.mem_cons_of_mem _ (wu_5 w h)
  have k_15 := hwg _ wf_RX0_15
  intro S H locs ls a0 x1 x2 x3 hp hW hE hl hL_a0 hK_a0
  unfold wp_X0_laySquare_0 at hp
  refine lv_aload_n hx hb dX0_laySquare_0 rfl (lv_at hl 0 rfl) ?_
  refine lv_iload_n hx hb dX0_laySquare_1 rfl (lv_at hl 1 rfl) ?_
  refine w_callI (va_runV (As := [.int x1]) (rest := []) F (c_X0_has l hL_a0 hK_a0 hp H.size) (cwV (C := RX0) 1 hts (wg_V wm_RX0_61 wy_X0_has) rfl rfl rfl (by decide +kernel) ⟨Nat.le_of_ble_eq_true rfl, Nat.le_of_ble_eq_true rfl⟩) (w_preV hK hW hL_a0 hK_a0 (by decide) rfl) rfl rfl hl.1 rfl (lv_room (Nat.le_of_ble_eq_true rfl)) dX0_laySquare_2 ⟨Nat.le_of_ble_eq_true rfl, Nat.le_of_ble_eq_true rfl⟩) hW (fun r_1 S_2 H locs hp hW => ?_)
  obtain ⟨hX_S_2, hp⟩ := hp
  refine W.widen (k := 0) (n := 0) (by decide) (by decide) ?_
  have hE := hE.trans hX_S_2
  have hK_a0 : sK S_2 a0 = 5 := (hX_S_2.2 a0 hL_a0).1.trans hK_a0
  have hL_a0 : wM D S_2 a0 := hX_S_2.M hL_a0
  refine lv_if_ne (tgt := 9) hx hb dX0_laySquare_5 (by decide) (fun c_3 => ?_) (fun c_3 => ?_)
  · replace hp := hp.1 c_3
    refine lv_iload_n hx hb dX0_laySquare_9 rfl (lv_at hl 3 rfl) ?_
    refine lv_if_eq (tgt := 23) hx hb dX0_laySquare_10 (by decide) (fun c_4 => ?_) (fun c_4 => ?_)
    · replace hp := hp.1 c_4
      exact t_X0_laySquare_23 F hr hlocks hK hp hW hE (lv_sub hl [0, 1, 2, 3] rfl) hL_a0 hK_a0
    · replace hp := hp.2 c_4
      refine lv_iload_n hx hb dX0_laySquare_13 rfl (lv_at hl 3 rfl) ?_
      refine lv_aload_n hx hb dX0_laySquare_14 rfl (lv_at hl 0 rfl) ?_
      refine w_get (k := 5) (f := 1) (T := TX0) (v := .int (sI S_2 a0 1)) F hK hW hL_a0 hK_a0 (by decide) rfl rfl (by decide) i_5 k_15 rfl dX0_laySquare_15 ?_
      refine lv_iconst (v := 1) hx hb dX0_laySquare_18 (by decide) ?_
      refine lv_isub hx hb dX0_laySquare_19 ?_
      refine lv_icmp_ne (tgt := 35) hx hb dX0_laySquare_20 (by decide) (fun c_5 => ?_) (fun c_5 => ?_)
      · replace hp := hp.1 c_5
        exact t_X0_laySquare_35 F hr hlocks hK hp hW hE (lv_sub hl [0, 1, 2, 3] rfl) hL_a0 hK_a0
      · replace hp := hp.2 c_5
        exact t_X0_laySquare_23 F hr hlocks hK hp hW hE (lv_sub hl [0, 1, 2, 3] rfl) hL_a0 hK_a0
  · replace hp := hp.2 c_3
    exact w_vret hx hb hr hlocks hW ⟨hE, hp⟩ dX0_laySquare_8
set_option maxHeartbeats 4000000 in
set_option maxRecDepth 100000 in
theorem c_X0_laySquare (l : Launch) {D : wD} {cy : Nat → ClassId} {X : va_W} {S0 : wS} {post : wS → Prop} {a0 : Nat} {x1 : Int32} {x2 : Int32} {x3 : Int32} (hL_a0 : wM D S0 a0) (hK_a0 : sK S0 a0 = 5) (hp : wp_X0_laySquare D post S0 a0 x1 x2 x3) : mV D cy X l yX0_laySquare wz_X0_laySquare r_X0_laySquare [.ref a0, .int x1, .int x2, .int x3] S0 (fun S9 => wX D S0 S9 ∧ post S9) := by
  intro sz
  refine Met.ofW (cc := cX0_laySquare) (maxL := 5) (ret := none) (by decide) rfl ?_
  intro p e s m args below meth c s₁ B hml hv
  obtain ⟨rfl, hsz, hP, hK, hD0, hRO⟩ := hv
  have hts := atoms_spec (ws := wz_X0_laySquare) B.pre
  have hown : s.vm.findClass RX0 = some m.cls := findClass_of_methodNamed B.named
  subst hsz
  have hD := hD0.self (sz := s.heap.size)
  have F : CallFix p m c cX0_laySquare 5 s _ wz_X0_laySquare RX0 := ⟨B.exec, B.bytes, hml, hown, hts⟩
  have hr := B.returns
  have hlocks := B.notSynchronized
  generalize hAe : va_A (wL cy X S0) s.heap.size = A at hD hK ⊢
  have hA : ∀ q, s.heap.size ≤ q → A q := fun q h => by rw [← hAe]; exact Or.inr h
  have hW : wO D cy X A s.heap S0 s.heap [] := ⟨hP, hD, va_S.rf, hA, hRO⟩
  have hl := lv_entry ([.ref a0, .int x1, .int x2, .int x3]) (n := 5) (Nat.le_of_ble_eq_true rfl)
  rw [lg_entry_eq]
  generalize (lg_sl ([.ref a0, .int x1, .int x2, .int x3]) ++ List.replicate (5 - (lg_sl ([.ref a0, .int x1, .int x2, .int x3])).length) Slot.unset).toArray = ls at hl ⊢
  have hl : lv_has ls 5 [(0, .ref a0), (1, .int x1), (2, .int x2), (3, .int x3)] := hl
  unfold wp_X0_laySquare at hp
  exact t_X0_laySquare_0 F hr hlocks hK hp hW wX.rf (lv_sub hl [0, 1, 2, 3] rfl) hL_a0 hK_a0
def wp_X0_lay_40 (D : wD) (post : wS → Prop) (k_29 : wS → Nat → Int32 → Prop) : Nat → wS → Nat → Int32 → Int32 → Prop
  | 0, _, _, _, _ => False
  | n + 1, S, a0, x3, x4 =>
    (((sI S a0 0) ≤ x4 → ∀ x_2 : Int32, x_2 = x3 + 1 →
    k_29 S a0 x_2) ∧
     (¬ (sI S a0 0) ≤ x4 → wp_X0_laySquare D (fun S_4 => 
    ∀ x_5 : Int32, x_5 = x4 + 1 →
    wp_X0_lay_40 D post k_29 n S_4 a0 x3 x_5) S a0 ((x3 * (sI S a0 0)) + x4) x4 x3))
def wp_X0_lay_29 (D : wD) (post : wS → Prop)  : Nat → wS → Nat → Int32 → Prop
  | 0, _, _, _ => False
  | n + 1, S, a0, x3 =>
    (((sI S a0 1) ≤ x3 → post S) ∧
     (¬ (sI S a0 1) ≤ x3 → ∃ n_2 : Nat, wp_X0_lay_40 D post (wp_X0_lay_29 D post n) n_2 S a0 x3 (0 : Int32)))
def wp_X0_lay_0 (D : wD) (post : wS → Prop)  (S : wS) (a0 : Nat) (x1 : Int32) (x2 : Int32) : Prop :=
∀ S_1 : wS, S_1 = uI S a0 0 x1 →
∀ S_2 : wS, S_2 = uI S_1 a0 1 x2 →
∀ S_3 : wS, S_3 = uI S_2 a0 2 (if (64 : Int32) < (x1 * x2) then (64 : Int32) else (x1 * x2)) →
∀ S_4 : wS, S_4 = uJ S_3 a0 3 (0 : Int64) →
∃ n_5 : Nat, wp_X0_lay_29 D post n_5 S_4 a0 (0 : Int32)
abbrev r_X0_lay : Room := { frames := 3, cells := 0, slots := 0, locals := 74 }
def wp_X0_lay (D : wD) (post : wS → Prop) (S : wS) (a0 : Nat) (x1 : Int32) (x2 : Int32) : Prop := wp_X0_lay_0 D post S a0 x1 x2
set_option maxHeartbeats 4000000 in
set_option maxRecDepth 100000 in
theorem t_X0_lay_40 {p : Program} {l : Launch} {e : Env} {s : State} {m : MethodId} {args : Array Value} {below : List Frame} {meth : Method} {c : Code} {D : wD} {cy : Nat → ClassId} {X : va_W} {A : Nat → Prop} {S0 : wS} {post : wS → Prop} (F : CallFix p m c cX0_lay 5 s args wz_X0_lay RX0) (hr : meth.sig.returnType = none) (hlocks : meth.locks = false) (hK : wK D cy A s) {k_29 : wS → Nat → Int32 → Prop} (q_29 : ∀ {S : wS} {H : Heap} {locs : List Loc} {ls : Array Slot} {a0 : Nat} {x3 : Int32}, k_29 S a0 x3 → wO D cy X A s.heap S H locs → wX D S0 S → lv_has ls 5 [(0, .ref a0), (3, .int x3)] → wM D S a0 → sK S a0 = 5 → W p l e r_X0_lay s m args below meth c H locs 0 0 (MQ below (va_Qv (fun S9 => wX D S0 S9 ∧ post S9) (wB D cy X A) A) args s 0 0 A) (F0 m 29 ls [])) : ∀ (n : Nat) {S : wS} {H : Heap} {locs : List Loc} {ls : Array Slot} {a0 : Nat} {x3 : Int32} {x4 : Int32}, wp_X0_lay_40 D post k_29 n S a0 x3 x4 → wO D cy X A s.heap S H locs → wX D S0 S → lv_has ls 5 [(0, .ref a0), (3, .int x3), (4, .int x4)] → wM D S a0 → sK S a0 = 5 → W p l e r_X0_lay s m args below meth c H locs 0 0 (MQ below (va_Qv (fun S9 => wX D S0 S9 ∧ post S9) (wB D cy X A) A) args s 0 0 A) (F0 m 40 ls []) := by
  obtain ⟨hx, hb, hml, hown, hts⟩ := id F
  have hwg : ∀ w ∈ WG, w.before args s = true := fun w h => hts w (List.mem_cons_of_mem _ h)
  have i_5 : ∀ w ∈ u_ws RX0 TX0 12, w ∈ wz_X0_lay := fun w h => List.mem_cons_of_mem _ (wu_5 w h)
  have k_9 := hwg _ wf_RX0_9
  intro n
  induction n with
  | zero =>
    intro S H locs ls a0 x3 x4 hp
    exact hp.elim
  | succ n ih =>
    intro S H locs ls a0 x3 x4 hp hW hE hl hL_a0 hK_a0
    unfold wp_X0_lay_40 at hp
    refine lv_iload hx hb dX0_lay_40 (lv_at hl 2 rfl) ?_
    refine lv_aload_n hx hb dX0_lay_42 rfl (lv_at hl 0 rfl) ?_
    refine w_get (k := 5) (f := 0) (T := TX0) (v := .int (sI S a0 0)) F hK hW hL_a0 hK_a0 (by decide) rfl rfl (by decide) i_5 k_9 rfl dX0_lay_43 ?_
    refine lv_icmp_ge (tgt := 71) hx hb dX0_lay_46 (by decide) (fun c_1 => ?_) (fun c_1 => ?_)
    · replace hp := hp.1 c_1
      obtain ⟨x_2, ex_2⟩ : ∃ z : Int32, z = x3 + 1 := ⟨_, rfl⟩
      replace hp := hp x_2 ex_2
      refine lv_iinc (v := x_2) (lv' := [(3, .int x_2), (0, .ref a0), (4, .int x4)]) hx hb dX0_lay_71 hl (k := 1) rfl (by rw [ex_2]; rfl) (by decide) rfl (fun ls hl => ?_)
      refine lv_goto (tgt := 29) hx hb dX0_lay_74 (by decide) ?_
      exact q_29 hp hW hE (lv_sub hl [1, 0] rfl) hL_a0 hK_a0
    · replace hp := hp.2 c_1
      refine lv_aload_n hx hb dX0_lay_49 rfl (lv_at hl 0 rfl) ?_
      refine lv_iload_n hx hb dX0_lay_50 rfl (lv_at hl 1 rfl) ?_
      refine lv_aload_n hx hb dX0_lay_51 rfl (lv_at hl 0 rfl) ?_
      refine w_get (k := 5) (f := 0) (T := TX0) (v := .int (sI S a0 0)) F hK hW hL_a0 hK_a0 (by decide) rfl rfl (by decide) i_5 k_9 rfl dX0_lay_52 ?_
      refine lv_imul hx hb dX0_lay_55 ?_
      refine lv_iload hx hb dX0_lay_56 (lv_at hl 2 rfl) ?_
      refine lv_iadd hx hb dX0_lay_58 ?_
      refine lv_iload hx hb dX0_lay_59 (lv_at hl 2 rfl) ?_
      refine lv_iload_n hx hb dX0_lay_61 rfl (lv_at hl 1 rfl) ?_
      refine w_callV (va_runV (As := [.int ((x3 * (sI S a0 0)) + x4), .int x4, .int x3]) (rest := []) F (c_X0_laySquare l hL_a0 hK_a0 hp H.size) (cwV (C := RX0) 3 hts (wg_V wm_RX0_57 wy_X0_laySquare) rfl rfl rfl (by decide +kernel) ⟨Nat.le_of_ble_eq_true rfl, Nat.le_of_ble_eq_true rfl⟩) (w_preV hK hW hL_a0 hK_a0 (by decide) rfl) rfl rfl hl.1 rfl (lv_room (Nat.le_of_ble_eq_true rfl)) dX0_lay_62 ⟨Nat.le_of_ble_eq_true rfl, Nat.le_of_ble_eq_true rfl⟩) hW (fun S_4 H locs hp hW => ?_)
      obtain ⟨hX_S_4, hp⟩ := hp
      refine W.widen (k := 0) (n := 0) (by decide) (by decide) ?_
      have hE := hE.trans hX_S_4
      have hK_a0 : sK S_4 a0 = 5 := (hX_S_4.2 a0 hL_a0).1.trans hK_a0
      have hL_a0 : wM D S_4 a0 := hX_S_4.M hL_a0
      obtain ⟨x_5, ex_5⟩ : ∃ z : Int32, z = x4 + 1 := ⟨_, rfl⟩
      replace hp := hp x_5 ex_5
      refine lv_iinc (v := x_5) (lv' := [(4, .int x_5), (0, .ref a0), (3, .int x3)]) hx hb dX0_lay_65 hl (k := 2) rfl (by rw [ex_5]; rfl) (by decide) rfl (fun ls hl => ?_)
      refine lv_goto (tgt := 40) hx hb dX0_lay_68 (by decide) ?_
      exact ih hp hW hE (lv_sub hl [1, 2, 0] rfl) hL_a0 hK_a0
set_option maxHeartbeats 4000000 in
set_option maxRecDepth 100000 in
theorem t_X0_lay_29 {p : Program} {l : Launch} {e : Env} {s : State} {m : MethodId} {args : Array Value} {below : List Frame} {meth : Method} {c : Code} {D : wD} {cy : Nat → ClassId} {X : va_W} {A : Nat → Prop} {S0 : wS} {post : wS → Prop} (F : CallFix p m c cX0_lay 5 s args wz_X0_lay RX0) (hr : meth.sig.returnType = none) (hlocks : meth.locks = false) (hK : wK D cy A s) : ∀ (n : Nat) {S : wS} {H : Heap} {locs : List Loc} {ls : Array Slot} {a0 : Nat} {x3 : Int32}, wp_X0_lay_29 D post n S a0 x3 → wO D cy X A s.heap S H locs → wX D S0 S → lv_has ls 5 [(0, .ref a0), (3, .int x3)] → wM D S a0 → sK S a0 = 5 → W p l e r_X0_lay s m args below meth c H locs 0 0 (MQ below (va_Qv (fun S9 => wX D S0 S9 ∧ post S9) (wB D cy X A) A) args s 0 0 A) (F0 m 29 ls []) := by
  obtain ⟨hx, hb, hml, hown, hts⟩ := id F
  have hwg : ∀ w ∈ WG, w.before args s = true := fun w h => hts w (List.mem_cons_of_mem _ h)
  have i_5 : ∀ w ∈ u_ws RX0 TX0 12, w ∈ wz_X0_lay := fun w h => List.mem_cons_of_mem _ (wu_5 w h)
  have k_15 := hwg _ wf_RX0_15
  intro n
  induction n with
  | zero =>
    intro S H locs ls a0 x3 hp
    exact hp.elim
  | succ n ih =>
    intro S H locs ls a0 x3 hp hW hE hl hL_a0 hK_a0
    unfold wp_X0_lay_29 at hp
    refine lv_iload_n hx hb dX0_lay_29 rfl (lv_at hl 1 rfl) ?_
    refine lv_aload_n hx hb dX0_lay_30 rfl (lv_at hl 0 rfl) ?_
    refine w_get (k := 5) (f := 1) (T := TX0) (v := .int (sI S a0 1)) F hK hW hL_a0 hK_a0 (by decide) rfl rfl (by decide) i_5 k_15 rfl dX0_lay_31 ?_
    refine lv_icmp_ge (tgt := 77) hx hb dX0_lay_34 (by decide) (fun c_1 => ?_) (fun c_1 => ?_)
    · replace hp := hp.1 c_1
      exact w_vret hx hb hr hlocks hW ⟨hE, hp⟩ dX0_lay_77
    · replace hp := hp.2 c_1
      refine lv_iconst (v := 0) hx hb dX0_lay_37 (by decide) ?_
      refine lv_istore (lv' := [(4, .int (0 : Int32)), (0, .ref a0), (3, .int x3)]) hx hb dX0_lay_38 hl (by decide) rfl (fun ls hl => ?_)
      obtain ⟨n_2, hp⟩ := hp
      exact t_X0_lay_40 F hr hlocks hK ih n_2 hp hW hE (lv_sub hl [1, 2, 0] rfl) hL_a0 hK_a0
set_option maxHeartbeats 4000000 in
set_option maxRecDepth 100000 in
theorem t_X0_lay_0 {p : Program} {l : Launch} {e : Env} {s : State} {m : MethodId} {args : Array Value} {below : List Frame} {meth : Method} {c : Code} {D : wD} {cy : Nat → ClassId} {X : va_W} {A : Nat → Prop} {S0 : wS} {post : wS → Prop} (F : CallFix p m c cX0_lay 5 s args wz_X0_lay RX0) (hr : meth.sig.returnType = none) (hlocks : meth.locks = false) (hK : wK D cy A s) : ∀ {S : wS} {H : Heap} {locs : List Loc} {ls : Array Slot} {a0 : Nat} {x1 : Int32} {x2 : Int32}, wp_X0_lay_0 D post S a0 x1 x2 → wO D cy X A s.heap S H locs → wX D S0 S → lv_has ls 5 [(0, .ref a0), (1, .int x1), (2, .int x2)] → wM D S a0 → sK S a0 = 5 → W p l e r_X0_lay s m args below meth c H locs 0 0 (MQ below (va_Qv (fun S9 => wX D S0 S9 ∧ post S9) (wB D cy X A) A) args s 0 0 A) (F0 m 0 ls []) := by
  obtain ⟨hx, hb, hml, hown, hts⟩ := id F
  have hwg : ∀ w ∈ WG, w.before args s = true := fun w h => hts w (List.mem_cons_of_mem _ h)
  have i_5 : ∀ w ∈ u_ws RX0 TX0 12, w ∈ wz_X0_lay := fun w h => List.mem_cons_of_mem _ (wu_5 w h)
  have k_15 := hwg _ wf_RX0_15
  have k_18 := hwg _ wf_RX0_18
  have k_21 := hwg _ wf_RX0_21
  have k_9 := hwg _ wf_RX0_9
  intro S H locs ls a0 x1 x2 hp hW hE hl hL_a0 hK_a0
  unfold wp_X0_lay_0 at hp
  refine lv_aload_n hx hb dX0_lay_0 rfl (lv_at hl 0 rfl) ?_
  refine lv_iload_n hx hb dX0_lay_1 rfl (lv_at hl 1 rfl) ?_
  refine w_putI (k := 5) (f := 0) (T := TX0) F hK hW hL_a0 hK_a0 (by decide) (by decide) rfl rfl (by decide) i_5 tyX0 tyX0_ok nmX0 k_9 rfl rfl (ty := .int) rfl rfl rfl dX0_lay_2 (fun H locs hW => ?_)
  obtain ⟨S_1, eS_1⟩ : ∃ z : wS, z = uI S a0 0 x1 := ⟨_, rfl⟩
  rw [← eS_1] at hW
  replace hp := hp S_1 eS_1
  have hX_S_1 : wX D S S_1 := by rw [eS_1]; exact wX_uI
  have hE := hE.trans hX_S_1
  have hK_a0 : sK S_1 a0 = 5 := (hX_S_1.2 a0 hL_a0).1.trans hK_a0
  have hL_a0 : wM D S_1 a0 := hX_S_1.M hL_a0
  refine lv_aload_n hx hb dX0_lay_5 rfl (lv_at hl 0 rfl) ?_
  refine lv_iload_n hx hb dX0_lay_6 rfl (lv_at hl 2 rfl) ?_
  refine w_putI (k := 5) (f := 1) (T := TX0) F hK hW hL_a0 hK_a0 (by decide) (by decide) rfl rfl (by decide) i_5 tyX0 tyX0_ok nmX0 k_15 rfl rfl (ty := .int) rfl rfl rfl dX0_lay_7 (fun H locs hW => ?_)
  obtain ⟨S_2, eS_2⟩ : ∃ z : wS, z = uI S_1 a0 1 x2 := ⟨_, rfl⟩
  rw [← eS_2] at hW
  replace hp := hp S_2 eS_2
  have hX_S_2 : wX D S_1 S_2 := by rw [eS_2]; exact wX_uI
  have hE := hE.trans hX_S_2
  have hK_a0 : sK S_2 a0 = 5 := (hX_S_2.2 a0 hL_a0).1.trans hK_a0
  have hL_a0 : wM D S_2 a0 := hX_S_2.M hL_a0
  refine lv_aload_n hx hb dX0_lay_10 rfl (lv_at hl 0 rfl) ?_
  refine lv_iload_n hx hb dX0_lay_11 rfl (lv_at hl 1 rfl) ?_
  refine lv_iload_n hx hb dX0_lay_12 rfl (lv_at hl 2 rfl) ?_
  refine lv_imul hx hb dX0_lay_13 ?_
  refine lv_bipush (v := 64) hx hb dX0_lay_14 (by decide) ?_
  refine va_mmin hx hb (hml.trans hl.1.symm) hown (hwg _ wm_RX0_51) (hwg _ wmm_min.1) (hwg _ wmm_min.2.1) (hwg _ wmm_min.2.2) (Nat.le_of_ble_eq_true rfl) (Nat.le_of_ble_eq_true rfl) (Nat.le_of_ble_eq_true rfl) (Nat.le_of_ble_eq_true rfl) dX0_lay_16 ?_
  refine w_putI (k := 5) (f := 2) (T := TX0) F hK hW hL_a0 hK_a0 (by decide) (by decide) rfl rfl (by decide) i_5 tyX0 tyX0_ok nmX0 k_18 rfl rfl (ty := .int) rfl rfl rfl dX0_lay_19 (fun H locs hW => ?_)
  obtain ⟨S_3, eS_3⟩ : ∃ z : wS, z = uI S_2 a0 2 (if (64 : Int32) < (x1 * x2) then (64 : Int32) else (x1 * x2)) := ⟨_, rfl⟩
  rw [← eS_3] at hW
  replace hp := hp S_3 eS_3
  have hX_S_3 : wX D S_2 S_3 := by rw [eS_3]; exact wX_uI
  have hE := hE.trans hX_S_3
  have hK_a0 : sK S_3 a0 = 5 := (hX_S_3.2 a0 hL_a0).1.trans hK_a0
  have hL_a0 : wM D S_3 a0 := hX_S_3.M hL_a0
  refine lv_aload_n hx hb dX0_lay_22 rfl (lv_at hl 0 rfl) ?_
  refine lv_lconst (v := 0) hx hb dX0_lay_23 (by decide) ?_
  refine w_putJ (k := 5) (f := 3) (T := TX0) F hK hW hL_a0 hK_a0 (by decide) (by decide) rfl rfl (by decide) i_5 tyX0 tyX0_ok nmX0 k_21 rfl rfl rfl dX0_lay_24 (fun H locs hW => ?_)
  obtain ⟨S_4, eS_4⟩ : ∃ z : wS, z = uJ S_3 a0 3 (0 : Int64) := ⟨_, rfl⟩
  rw [← eS_4] at hW
  replace hp := hp S_4 eS_4
  have hX_S_4 : wX D S_3 S_4 := by rw [eS_4]; exact wX_uJ
  have hE := hE.trans hX_S_4
  have hK_a0 : sK S_4 a0 = 5 := (hX_S_4.2 a0 hL_a0).1.trans hK_a0
  have hL_a0 : wM D S_4 a0 := hX_S_4.M hL_a0
  refine lv_iconst (v := 0) hx hb dX0_lay_27 (by decide) ?_
  refine lv_istore_n (lv' := [(3, .int (0 : Int32)), (0, .ref a0), (1, .int x1), (2, .int x2)]) hx hb dX0_lay_28 rfl hl (by decide) rfl (fun ls hl => ?_)
  obtain ⟨n_5, hp⟩ := hp
  exact t_X0_lay_29 F hr hlocks hK n_5 hp hW hE (lv_sub hl [1, 0] rfl) hL_a0 hK_a0
set_option maxHeartbeats 4000000 in
set_option maxRecDepth 100000 in
theorem c_X0_lay (l : Launch) {D : wD} {cy : Nat → ClassId} {X : va_W} {S0 : wS} {post : wS → Prop} {a0 : Nat} {x1 : Int32} {x2 : Int32} (hL_a0 : wM D S0 a0) (hK_a0 : sK S0 a0 = 5) (hp : wp_X0_lay D post S0 a0 x1 x2) : mV D cy X l yX0_lay wz_X0_lay r_X0_lay [.ref a0, .int x1, .int x2] S0 (fun S9 => wX D S0 S9 ∧ post S9) := by
  intro sz
  refine Met.ofW (cc := cX0_lay) (maxL := 5) (ret := none) (by decide) rfl ?_
  intro p e s m args below meth c s₁ B hml hv
  obtain ⟨rfl, hsz, hP, hK, hD0, hRO⟩ := hv
  have hts := atoms_spec (ws := wz_X0_lay) B.pre
  have hown : s.vm.findClass RX0 = some m.cls := findClass_of_methodNamed B.named
  subst hsz
  have hD := hD0.self (sz := s.heap.size)
  have F : CallFix p m c cX0_lay 5 s _ wz_X0_lay RX0 := ⟨B.exec, B.bytes, hml, hown, hts⟩
  have hr := B.returns
  have hlocks := B.notSynchronized
  generalize hAe : va_A (wL cy X S0) s.heap.size = A at hD hK ⊢
  have hA : ∀ q, s.heap.size ≤ q → A q := fun q h => by rw [← hAe]; exact Or.inr h
  have hW : wO D cy X A s.heap S0 s.heap [] := ⟨hP, hD, va_S.rf, hA, hRO⟩
  have hl := lv_entry ([.ref a0, .int x1, .int x2]) (n := 5) (Nat.le_of_ble_eq_true rfl)
  rw [lg_entry_eq]
  generalize (lg_sl ([.ref a0, .int x1, .int x2]) ++ List.replicate (5 - (lg_sl ([.ref a0, .int x1, .int x2])).length) Slot.unset).toArray = ls at hl ⊢
  have hl : lv_has ls 5 [(0, .ref a0), (1, .int x1), (2, .int x2)] := hl
  unfold wp_X0_lay at hp
  exact t_X0_lay_0 F hr hlocks hK hp hW wX.rf (lv_sub hl [0, 1, 2] rfl) hL_a0 hK_a0
def wp_X10_gameAt_30 (D : wD) (post : Option Nat → wS → Prop)  (S : wS) (h0 : Option Nat) : Prop :=
post h0 S
def wp_X10_gameAt_29 (D : wD) (post : Option Nat → wS → Prop)  (S : wS) : Prop :=
wp_X10_gameAt_30 D post S none
def wp_X10_gameAt_0 (D : wD) (post : Option Nat → wS → Prop)  (S : wS) (a0 : Nat) (x1 : Int32) : Prop :=
((x1 < 0 → wp_X10_gameAt_29 D post S) ∧
 (¬ x1 < 0 → ∃ y_2 : Nat, sR S a0 0 = some y_2 ∧ wM D S y_2 ∧ sK S y_2 = 4 ∧
wp_Jx4a65c_size_8abf5 D (fun r_3 S_4 => 
((r_3 ≤ x1 → wp_X10_gameAt_29 D post S_4) ∧
 (¬ r_3 ≤ x1 → ∃ y_6 : Nat, sR S_4 a0 0 = some y_6 ∧ wM D S_4 y_6 ∧ sK S_4 y_6 = 4 ∧
wp_Jx4a65c_get_915e3 D (fun r_7 S_8 => 
(∀ y : Nat, r_7 = some y → wM D S_8 y ∧ sK S_8 y = 8) ∧
wp_X10_gameAt_30 D post S_8 r_7) S_4 y_6 x1))) S y_2))
abbrev r_X10_gameAt : Room := { frames := 3, cells := 0, slots := 0, locals := 64 }
def wp_X10_gameAt (D : wD) (post : Option Nat → wS → Prop) (S : wS) (a0 : Nat) (x1 : Int32) : Prop := wp_X10_gameAt_0 D post S a0 x1
set_option maxHeartbeats 4000000 in
set_option maxRecDepth 100000 in
theorem t_X10_gameAt_30 {p : Program} {l : Launch} {e : Env} {s : State} {m : MethodId} {args : Array Value} {below : List Frame} {meth : Method} {c : Code} {D : wD} {cy : Nat → ClassId} {X : va_W} {A : Nat → Prop} {S0 : wS} {post : Option Nat → wS → Prop} (F : CallFix p m c cX10_gameAt 2 s args wz_X10_gameAt RX10) (hr : meth.sig.returnType = (some (.object "OpeningsCabinet$Game"))) (hlocks : meth.locks = false) (hK : wK D cy A s) : ∀ {S : wS} {H : Heap} {locs : List Loc} {ls : Array Slot} {h0 : Option Nat}, wp_X10_gameAt_30 D post S h0 → wO D cy X A s.heap S H locs → wX D S0 S → lv_has ls 2 [] → W p l e r_X10_gameAt s m args below meth c H locs 0 0 (MQ below (va_Qq (fun r S9 => wX D S0 S9 ∧ post r S9) (wB D cy X A) A) args s 0 0 A) (F0 m 30 ls [va_rf h0]) := by
  obtain ⟨hx, hb, hml, hown, hts⟩ := id F
  have hwg : ∀ w ∈ WG, w.before args s = true := fun w h => hts w (List.mem_cons_of_mem _ h)
  intro S H locs ls h0 hp hW hE hl
  unfold wp_X10_gameAt_30 at hp
  exact w_aret (g := h0) hx hb hr hlocks hW ⟨hE, hp⟩ dX10_gameAt_30
set_option maxHeartbeats 4000000 in
set_option maxRecDepth 100000 in
theorem t_X10_gameAt_29 {p : Program} {l : Launch} {e : Env} {s : State} {m : MethodId} {args : Array Value} {below : List Frame} {meth : Method} {c : Code} {D : wD} {cy : Nat → ClassId} {X : va_W} {A : Nat → Prop} {S0 : wS} {post : Option Nat → wS → Prop} (F : CallFix p m c cX10_gameAt 2 s args wz_X10_gameAt RX10) (hr : meth.sig.returnType = (some (.object "OpeningsCabinet$Game"))) (hlocks : meth.locks = false) (hK : wK D cy A s) : ∀ {S : wS} {H : Heap} {locs : List Loc} {ls : Array Slot}, wp_X10_gameAt_29 D post S → wO D cy X A s.heap S H locs → wX D S0 S → lv_has ls 2 [] → W p l e r_X10_gameAt s m args below meth c H locs 0 0 (MQ below (va_Qq (fun r S9 => wX D S0 S9 ∧ post r S9) (wB D cy X A) A) args s 0 0 A) (F0 m 29 ls []) := by
  obtain ⟨hx, hb, hml, hown, hts⟩ := id F
  have hwg : ∀ w ∈ WG, w.before args s = true := fun w h => hts w (List.mem_cons_of_mem _ h)
  intro S H locs ls hp hW hE hl
  unfold wp_X10_gameAt_29 at hp
  refine lv_null hx hb dX10_gameAt_29 ?_
  exact t_X10_gameAt_30 F hr hlocks hK hp hW hE (lv_sub hl [] rfl)
set_option maxHeartbeats 4000000 in
set_option maxRecDepth 100000 in
theorem t_X10_gameAt_0 {p : Program} {l : Launch} {e : Env} {s : State} {m : MethodId} {args : Array Value} {below : List Frame} {meth : Method} {c : Code} {D : wD} {cy : Nat → ClassId} {X : va_W} {A : Nat → Prop} {S0 : wS} {post : Option Nat → wS → Prop} (F : CallFix p m c cX10_gameAt 2 s args wz_X10_gameAt RX10) (hr : meth.sig.returnType = (some (.object "OpeningsCabinet$Game"))) (hlocks : meth.locks = false) (hK : wK D cy A s) : ∀ {S : wS} {H : Heap} {locs : List Loc} {ls : Array Slot} {a0 : Nat} {x1 : Int32}, wp_X10_gameAt_0 D post S a0 x1 → wO D cy X A s.heap S H locs → wX D S0 S → lv_has ls 2 [(0, .ref a0), (1, .int x1)] → wM D S a0 → sK S a0 = 15 → W p l e r_X10_gameAt s m args below meth c H locs 0 0 (MQ below (va_Qq (fun r S9 => wX D S0 S9 ∧ post r S9) (wB D cy X A) A) args s 0 0 A) (F0 m 0 ls []) := by
  obtain ⟨hx, hb, hml, hown, hts⟩ := id F
  have hwg : ∀ w ∈ WG, w.before args s = true := fun w h => hts w (List.mem_cons_of_mem _ h)
  have i_15 : ∀ w ∈ u_ws RX10 TX10 1, w ∈ wz_X10_gameAt := fun w h => List.mem_cons_of_mem _ (wu_15 w h)
  have k_12 := hwg _ wf_RX10_12
  intro S H locs ls a0 x1 hp hW hE hl hL_a0 hK_a0
  unfold wp_X10_gameAt_0 at hp
  refine lv_iload_n hx hb dX10_gameAt_0 rfl (lv_at hl 1 rfl) ?_
  refine lv_if_lt (tgt := 29) hx hb dX10_gameAt_1 (by decide) (fun c_1 => ?_) (fun c_1 => ?_)
  · replace hp := hp.1 c_1
    exact t_X10_gameAt_29 F hr hlocks hK hp hW hE (lv_sub hl [] rfl)
  · replace hp := hp.2 c_1
    refine lv_iload_n hx hb dX10_gameAt_4 rfl (lv_at hl 1 rfl) ?_
    refine lv_aload_n hx hb dX10_gameAt_5 rfl (lv_at hl 0 rfl) ?_
    obtain ⟨y_2, ey_2, hL_y_2, hK_y_2, hp⟩ := hp
    refine w_get (k := 15) (f := 0) (T := TX10) (v := .ref y_2) F hK hW hL_a0 hK_a0 (by decide) rfl rfl (by decide) i_15 k_12 (by rw [show wv 15 0 S a0 = va_rf (sR S a0 0) from rfl, ey_2]; rfl) dX10_gameAt_6 ?_
    refine w_callI (va_runV (As := []) (rest := [.int x1]) F (c_Jx4a65c_size_8abf5 l hL_y_2 hK_y_2 hp H.size) (cwV (C := RJx4a65c) 0 hts (wg_V wm_RX10_18 wy_Jx4a65c_size_8abf5) rfl rfl rfl (by decide +kernel) ⟨Nat.le_of_ble_eq_true rfl, Nat.le_of_ble_eq_true rfl⟩) (w_preV hK hW hL_y_2 hK_y_2 (by decide) rfl) rfl rfl hl.1 rfl (lv_room (Nat.le_of_ble_eq_true rfl)) dX10_gameAt_9 ⟨Nat.le_of_ble_eq_true rfl, Nat.le_of_ble_eq_true rfl⟩) hW (fun r_3 S_4 H locs hp hW => ?_)
    obtain ⟨hX_S_4, hp⟩ := hp
    refine W.widen (k := 0) (n := 0) (by decide) (by decide) ?_
    have hE := hE.trans hX_S_4
    have hK_a0 : sK S_4 a0 = 15 := (hX_S_4.2 a0 hL_a0).1.trans hK_a0
    have hL_a0 : wM D S_4 a0 := hX_S_4.M hL_a0
    refine lv_icmp_ge (tgt := 29) hx hb dX10_gameAt_12 (by decide) (fun c_5 => ?_) (fun c_5 => ?_)
    · replace hp := hp.1 c_5
      exact t_X10_gameAt_29 F hr hlocks hK hp hW hE (lv_sub hl [] rfl)
    · replace hp := hp.2 c_5
      refine lv_aload_n hx hb dX10_gameAt_15 rfl (lv_at hl 0 rfl) ?_
      obtain ⟨y_6, ey_6, hL_y_6, hK_y_6, hp⟩ := hp
      refine w_get (k := 15) (f := 0) (T := TX10) (v := .ref y_6) F hK hW hL_a0 hK_a0 (by decide) rfl rfl (by decide) i_15 k_12 (by rw [show wv 15 0 S_4 a0 = va_rf (sR S_4 a0 0) from rfl, ey_6]; rfl) dX10_gameAt_16 ?_
      refine lv_iload_n hx hb dX10_gameAt_19 rfl (lv_at hl 1 rfl) ?_
      refine w_callR (va_runV (As := [.int x1]) (rest := []) F (c_Jx4a65c_get_915e3 l hL_y_6 hK_y_6 hp H.size) (cwV (C := RJx4a65c) 1 hts (wg_V wm_RX10_25 wy_Jx4a65c_get_915e3) rfl rfl rfl (by decide +kernel) ⟨Nat.le_of_ble_eq_true rfl, Nat.le_of_ble_eq_true rfl⟩) (w_preV hK hW hL_y_6 hK_y_6 (by decide) rfl) rfl rfl hl.1 rfl (lv_room (Nat.le_of_ble_eq_true rfl)) dX10_gameAt_20 ⟨Nat.le_of_ble_eq_true rfl, Nat.le_of_ble_eq_true rfl⟩) hW (fun r_7 S_8 H locs hp hW => ?_)
      obtain ⟨hX_S_8, hp⟩ := hp
      refine W.widen (k := 0) (n := 0) (by decide) (by decide) ?_
      have hE := hE.trans hX_S_8
      have hK_a0 : sK S_8 a0 = 15 := (hX_S_8.2 a0 hL_a0).1.trans hK_a0
      have hL_a0 : wM D S_8 a0 := hX_S_8.M hL_a0
      obtain ⟨h_9, hp⟩ := hp
      refine w_cast (C := RX3) F hK hW (hwg _ wc_RX10_29) (w_castRefl (hK.2.1 (.castable "OpeningsCabinet$Game" "java/lang/Object") (by decide +kernel))) (by decide) (k := 8) rfl h_9 dX10_gameAt_23 ?_
      refine lv_goto (tgt := 30) hx hb dX10_gameAt_26 (by decide) ?_
      exact t_X10_gameAt_30 F hr hlocks hK hp hW hE (lv_sub hl [] rfl)
set_option maxHeartbeats 4000000 in
set_option maxRecDepth 100000 in
theorem c_X10_gameAt (l : Launch) {D : wD} {cy : Nat → ClassId} {X : va_W} {S0 : wS} {post : Option Nat → wS → Prop} {a0 : Nat} {x1 : Int32} (hL_a0 : wM D S0 a0) (hK_a0 : sK S0 a0 = 15) (hp : wp_X10_gameAt D post S0 a0 x1) : mR D cy X l yX10_gameAt wz_X10_gameAt r_X10_gameAt [.ref a0, .int x1] S0 (fun r S9 => wX D S0 S9 ∧ post r S9) := by
  intro sz
  refine Met.ofW (cc := cX10_gameAt) (maxL := 2) (ret := (some (.object "OpeningsCabinet$Game"))) (by decide) rfl ?_
  intro p e s m args below meth c s₁ B hml hv
  obtain ⟨rfl, hsz, hP, hK, hD0, hRO⟩ := hv
  have hts := atoms_spec (ws := wz_X10_gameAt) B.pre
  have hown : s.vm.findClass RX10 = some m.cls := findClass_of_methodNamed B.named
  subst hsz
  have hD := hD0.self (sz := s.heap.size)
  have F : CallFix p m c cX10_gameAt 2 s _ wz_X10_gameAt RX10 := ⟨B.exec, B.bytes, hml, hown, hts⟩
  have hr := B.returns
  have hlocks := B.notSynchronized
  generalize hAe : va_A (wL cy X S0) s.heap.size = A at hD hK ⊢
  have hA : ∀ q, s.heap.size ≤ q → A q := fun q h => by rw [← hAe]; exact Or.inr h
  have hW : wO D cy X A s.heap S0 s.heap [] := ⟨hP, hD, va_S.rf, hA, hRO⟩
  have hl := lv_entry ([.ref a0, .int x1]) (n := 2) (Nat.le_of_ble_eq_true rfl)
  rw [lg_entry_eq]
  generalize (lg_sl ([.ref a0, .int x1]) ++ List.replicate (2 - (lg_sl ([.ref a0, .int x1])).length) Slot.unset).toArray = ls at hl ⊢
  have hl : lv_has ls 2 [(0, .ref a0), (1, .int x1)] := hl
  unfold wp_X10_gameAt at hp
  exact t_X10_gameAt_0 F hr hlocks hK hp hW wX.rf (lv_sub hl [0, 1] rfl) hL_a0 hK_a0
def wp_X10_isKnown_83 (D : wD) (post : Int32 → wS → Prop) (k_27 : wS → Nat → Nat → Int32 → Int32 → Prop) (S : wS) (a0 : Nat) (a1 : Nat) (x2 : Int32) (x3 : Int32) : Prop :=
∀ x_1 : Int32, x_1 = x3 + 1 →
k_27 S a0 a1 x2 x_1
def wp_X10_isKnown_48 (D : wD) (post : Int32 → wS → Prop) (k_27 : wS → Nat → Nat → Int32 → Int32 → Prop) : Nat → wS → Nat → Nat → Int32 → Int32 → Option Nat → Int32 → Prop
  | 0, _, _, _, _, _, _, _ => False
  | n + 1, S, a0, a1, x2, x3, g4, x5 =>
    ((g4 = none → wp_X10_isKnown_83 D post k_27 S a0 a1 x2 x3) ∧
     (∀ y_1 : Nat, g4 = some y_1 → wM D S y_1 ∧ sK S y_1 = 8 ∧ (((sI S y_1 3) < x5 → wp_X10_isKnown_83 D post k_27 S a0 a1 x2 x3) ∧
     (¬ (sI S y_1 3) < x5 → wp_X3_isSameAt D (fun r_4 S_5 => 
    ((r_4 = 0 → ∀ x_7 : Int32, x_7 = x5 + 1 →
    wp_X10_isKnown_48 D post k_27 n S_5 a0 a1 x2 x3 (some y_1) x_7) ∧
     (¬ r_4 = 0 → narrow .boolean (.int (1 : Int32)) = .int (1 : Int32) ∧ post (1 : Int32) S_5))) S a1 x2 y_1 x5))))
def wp_X10_isKnown_27 (D : wD) (post : Int32 → wS → Prop)  : Nat → wS → Nat → Nat → Int32 → Int32 → Prop
  | 0, _, _, _, _, _ => False
  | n + 1, S, a0, a1, x2, x3 =>
    ∃ y_1 : Nat, sR S a0 0 = some y_1 ∧ wM D S y_1 ∧ sK S y_1 = 4 ∧
    wp_Jx4a65c_size_8abf5 D (fun r_2 S_3 => 
    ((r_2 ≤ x3 → narrow .boolean (.int (0 : Int32)) = .int (0 : Int32) ∧ post (0 : Int32) S_3) ∧
     (¬ r_2 ≤ x3 → wp_X10_gameAt D (fun r_5 S_6 => 
    ∃ n_7 : Nat, wp_X10_isKnown_48 D post (wp_X10_isKnown_27 D post n) n_7 S_6 a0 a1 x2 x3 r_5 (0 : Int32)) S_3 a0 x3))) S y_1
def wp_X10_isKnown_2 (D : wD) (post : Int32 → wS → Prop)  : Nat → wS → Nat → Nat → Int32 → Int32 → Prop
  | 0, _, _, _, _, _ => False
  | n + 1, S, a0, a1, x2, x3 =>
    ((x2 ≤ x3 → ∃ n_2 : Nat, wp_X10_isKnown_27 D post n_2 S a0 a1 x2 (0 : Int32)) ∧
     (¬ x2 ≤ x3 → wp_X3_isSameAt D (fun r_3 S_4 => 
    ((r_3 = 0 → ∀ x_6 : Int32, x_6 = x3 + 1 →
    wp_X10_isKnown_2 D post n S_4 a0 a1 x2 x_6) ∧
     (¬ r_3 = 0 → narrow .boolean (.int (1 : Int32)) = .int (1 : Int32) ∧ post (1 : Int32) S_4))) S a1 x2 a1 x3))
def wp_X10_isKnown_0 (D : wD) (post : Int32 → wS → Prop)  (S : wS) (a0 : Nat) (a1 : Nat) (x2 : Int32) : Prop :=
∃ n_1 : Nat, wp_X10_isKnown_2 D post n_1 S a0 a1 x2 (0 : Int32)
abbrev r_X10_isKnown : Room := { frames := 4, cells := 0, slots := 0, locals := 85 }
def wp_X10_isKnown (D : wD) (post : Int32 → wS → Prop) (S : wS) (a0 : Nat) (a1 : Nat) (x2 : Int32) : Prop := wp_X10_isKnown_0 D post S a0 a1 x2
set_option maxHeartbeats 4000000 in
set_option maxRecDepth 100000 in
theorem t_X10_isKnown_83 {p : Program} {l : Launch} {e : Env} {s : State} {m : MethodId} {args : Array Value} {below : List Frame} {meth : Method} {c : Code} {D : wD} {cy : Nat → ClassId} {X : va_W} {A : Nat → Prop} {S0 : wS} {post : Int32 → wS → Prop} (F : CallFix p m c cX10_isKnown 6 s args wz_X10_isKnown RX10) (hr : meth.sig.returnType = (some .boolean)) (hlocks : meth.locks = false) (hK : wK D cy A s) {k_27 : wS → Nat → Nat → Int32 → Int32 → Prop} (q_27 : ∀ {S : wS} {H : Heap} {locs : List Loc} {ls : Array Slot} {a0 : Nat} {a1 : Nat} {x2 : Int32} {x3 : Int32}, k_27 S a0 a1 x2 x3 → wO D cy X A s.heap S H locs → wX D S0 S → lv_has ls 6 [(0, .ref a0), (1, .ref a1), (2, .int x2), (3, .int x3)] → wM D S a0 → sK S a0 = 15 → wM D S a1 → sK S a1 = 8 → W p l e r_X10_isKnown s m args below meth c H locs 0 0 (MQ below (va_Qi (fun r S9 => wX D S0 S9 ∧ post r S9) (wB D cy X A) A) args s 0 0 A) (F0 m 27 ls [])) : ∀ {S : wS} {H : Heap} {locs : List Loc} {ls : Array Slot} {a0 : Nat} {a1 : Nat} {x2 : Int32} {x3 : Int32}, wp_X10_isKnown_83 D post k_27 S a0 a1 x2 x3 → wO D cy X A s.heap S H locs → wX D S0 S → lv_has ls 6 [(0, .ref a0), (1, .ref a1), (2, .int x2), (3, .int x3)] → wM D S a0 → sK S a0 = 15 → wM D S a1 → sK S a1 = 8 → W p l e r_X10_isKnown s m args below meth c H locs 0 0 (MQ below (va_Qi (fun r S9 => wX D S0 S9 ∧ post r S9) (wB D cy X A) A) args s 0 0 A) (F0 m 83 ls []) := by
  obtain ⟨hx, hb, hml, hown, hts⟩ := id F
  have hwg : ∀ w ∈ WG, w.before args s = true := fun w h => hts w (List.mem_cons_of_mem _ h)
  intro S H locs ls a0 a1 x2 x3 hp hW hE hl hL_a0 hK_a0 hL_a1 hK_a1
  unfold wp_X10_isKnown_83 at hp
  obtain ⟨x_1, ex_1⟩ : ∃ z : Int32, z = x3 + 1 := ⟨_, rfl⟩
  replace hp := hp x_1 ex_1
  refine lv_iinc (v := x_1) (lv' := [(3, .int x_1), (0, .ref a0), (1, .ref a1), (2, .int x2)]) hx hb dX10_isKnown_83 hl (k := 3) rfl (by rw [ex_1]; rfl) (by decide) rfl (fun ls hl => ?_)
  refine lv_goto (tgt := 27) hx hb dX10_isKnown_86 (by decide) ?_
  exact q_27 hp hW hE (lv_sub hl [1, 2, 3, 0] rfl) hL_a0 hK_a0 hL_a1 hK_a1
set_option maxHeartbeats 4000000 in
set_option maxRecDepth 100000 in
theorem t_X10_isKnown_48 {p : Program} {l : Launch} {e : Env} {s : State} {m : MethodId} {args : Array Value} {below : List Frame} {meth : Method} {c : Code} {D : wD} {cy : Nat → ClassId} {X : va_W} {A : Nat → Prop} {S0 : wS} {post : Int32 → wS → Prop} (F : CallFix p m c cX10_isKnown 6 s args wz_X10_isKnown RX10) (hr : meth.sig.returnType = (some .boolean)) (hlocks : meth.locks = false) (hK : wK D cy A s) {k_27 : wS → Nat → Nat → Int32 → Int32 → Prop} (q_27 : ∀ {S : wS} {H : Heap} {locs : List Loc} {ls : Array Slot} {a0 : Nat} {a1 : Nat} {x2 : Int32} {x3 : Int32}, k_27 S a0 a1 x2 x3 → wO D cy X A s.heap S H locs → wX D S0 S → lv_has ls 6 [(0, .ref a0), (1, .ref a1), (2, .int x2), (3, .int x3)] → wM D S a0 → sK S a0 = 15 → wM D S a1 → sK S a1 = 8 → W p l e r_X10_isKnown s m args below meth c H locs 0 0 (MQ below (va_Qi (fun r S9 => wX D S0 S9 ∧ post r S9) (wB D cy X A) A) args s 0 0 A) (F0 m 27 ls [])) : ∀ (n : Nat) {S : wS} {H : Heap} {locs : List Loc} {ls : Array Slot} {a0 : Nat} {a1 : Nat} {x2 : Int32} {x3 : Int32} {g4 : Option Nat} {x5 : Int32}, wp_X10_isKnown_48 D post k_27 n S a0 a1 x2 x3 g4 x5 → wO D cy X A s.heap S H locs → wX D S0 S → lv_has ls 6 [(0, .ref a0), (1, .ref a1), (2, .int x2), (3, .int x3), (4, va_rf g4), (5, .int x5)] → wM D S a0 → sK S a0 = 15 → wM D S a1 → sK S a1 = 8 → W p l e r_X10_isKnown s m args below meth c H locs 0 0 (MQ below (va_Qi (fun r S9 => wX D S0 S9 ∧ post r S9) (wB D cy X A) A) args s 0 0 A) (F0 m 48 ls []) := by
  obtain ⟨hx, hb, hml, hown, hts⟩ := id F
  have hwg : ∀ w ∈ WG, w.before args s = true := fun w h => hts w (List.mem_cons_of_mem _ h)
  have i_8 : ∀ w ∈ u_ws RX3 TX3 9, w ∈ wz_X10_isKnown := fun w h => List.mem_cons_of_mem _ (wu_8 w h)
  intro n
  induction n with
  | zero =>
    intro S H locs ls a0 a1 x2 x3 g4 x5 hp
    exact hp.elim
  | succ n ih =>
    intro S H locs ls a0 a1 x2 x3 g4 x5 hp hW hE hl hL_a0 hK_a0 hL_a1 hK_a1
    unfold wp_X10_isKnown_48 at hp
    refine w_aload hx hb dX10_isKnown_48 (lv_at hl 4 rfl) ?_
    refine w_ifnull (tgt := 83) hx hb dX10_isKnown_50 (by decide) (fun h_2 => ?_) (fun y_1 h_2 => ?_)
    · replace hp := hp.1 h_2
      revert hp; revert hl; revert hW; revert hE; subst h_2; intro hE hW hl hp
      exact t_X10_isKnown_83 F hr hlocks hK q_27 hp hW hE (lv_sub hl [0, 1, 2, 3] rfl) hL_a0 hK_a0 hL_a1 hK_a1
    · replace hp := hp.2 y_1 h_2
      revert hp; revert hl; revert hW; revert hE; subst h_2; intro hE hW hl hp
      obtain ⟨hL_y_1, hK_y_1, hp⟩ := hp
      refine lv_iload hx hb dX10_isKnown_53 (lv_at hl 5 rfl) ?_
      refine lv_aload hx hb dX10_isKnown_55 (lv_at hl 4 rfl) ?_
      refine w_getN (k := 8) (f := 3) (T := TX3) (v := .int (sI S y_1 3)) F hK hW hL_y_1 hK_y_1 (by decide) rfl rfl (by decide) i_8 (hK.2.1 (.fieldLinkNest "OpeningsCabinet$Shelf" 31 "OpeningsCabinet$Game" "length" "I" "OpeningsCabinet") (by decide +kernel)) rfl dX10_isKnown_57 ?_
      refine lv_icmp_gt (tgt := 83) hx hb dX10_isKnown_60 (by decide) (fun c_3 => ?_) (fun c_3 => ?_)
      · replace hp := hp.1 c_3
        exact t_X10_isKnown_83 F hr hlocks hK q_27 hp hW hE (lv_sub hl [0, 1, 2, 3] rfl) hL_a0 hK_a0 hL_a1 hK_a1
      · replace hp := hp.2 c_3
        refine lv_aload_n hx hb dX10_isKnown_63 rfl (lv_at hl 1 rfl) ?_
        refine lv_iload_n hx hb dX10_isKnown_64 rfl (lv_at hl 2 rfl) ?_
        refine lv_aload hx hb dX10_isKnown_65 (lv_at hl 4 rfl) ?_
        refine lv_iload hx hb dX10_isKnown_67 (lv_at hl 5 rfl) ?_
        refine w_callI (va_runV (As := [.int x2, .ref y_1, .int x5]) (rest := []) F (c_X3_isSameAt l hL_a1 hK_a1 hL_y_1 hK_y_1 hp H.size) (cwV (C := RX3) 3 hts (wg_V wm_RX10_47 wy_X3_isSameAt) rfl rfl rfl (by decide +kernel) ⟨Nat.le_of_ble_eq_true rfl, Nat.le_of_ble_eq_true rfl⟩) (w_preV hK hW hL_a1 hK_a1 (by decide) rfl) rfl rfl hl.1 rfl (lv_room (Nat.le_of_ble_eq_true rfl)) dX10_isKnown_69 ⟨Nat.le_of_ble_eq_true rfl, Nat.le_of_ble_eq_true rfl⟩) hW (fun r_4 S_5 H locs hp hW => ?_)
        obtain ⟨hX_S_5, hp⟩ := hp
        refine W.widen (k := 0) (n := 0) (by decide) (by decide) ?_
        have hE := hE.trans hX_S_5
        have hK_a0 : sK S_5 a0 = 15 := (hX_S_5.2 a0 hL_a0).1.trans hK_a0
        have hL_a0 : wM D S_5 a0 := hX_S_5.M hL_a0
        have hK_a1 : sK S_5 a1 = 8 := (hX_S_5.2 a1 hL_a1).1.trans hK_a1
        have hL_a1 : wM D S_5 a1 := hX_S_5.M hL_a1
        have hK_y_1 : sK S_5 y_1 = 8 := (hX_S_5.2 y_1 hL_y_1).1.trans hK_y_1
        have hL_y_1 : wM D S_5 y_1 := hX_S_5.M hL_y_1
        refine lv_if_eq (tgt := 77) hx hb dX10_isKnown_72 (by decide) (fun c_6 => ?_) (fun c_6 => ?_)
        · replace hp := hp.1 c_6
          obtain ⟨x_7, ex_7⟩ : ∃ z : Int32, z = x5 + 1 := ⟨_, rfl⟩
          replace hp := hp x_7 ex_7
          refine lv_iinc (v := x_7) (lv' := [(5, .int x_7), (0, .ref a0), (1, .ref a1), (2, .int x2), (3, .int x3), (4, .ref y_1)]) hx hb dX10_isKnown_77 hl (k := 5) rfl (by rw [ex_7]; rfl) (by decide) rfl (fun ls hl => ?_)
          refine lv_goto (tgt := 48) hx hb dX10_isKnown_80 (by decide) ?_
          exact ih hp hW hE (lv_sub hl [1, 2, 3, 4, 5, 0] rfl) hL_a0 hK_a0 hL_a1 hK_a1
        · replace hp := hp.2 c_6
          refine lv_iconst (v := 1) hx hb dX10_isKnown_75 (by decide) ?_
          exact w_zret hx hb hr hlocks hW hp.1 ⟨hE, hp.2⟩ dX10_isKnown_76
set_option maxHeartbeats 4000000 in
set_option maxRecDepth 100000 in
theorem t_X10_isKnown_27 {p : Program} {l : Launch} {e : Env} {s : State} {m : MethodId} {args : Array Value} {below : List Frame} {meth : Method} {c : Code} {D : wD} {cy : Nat → ClassId} {X : va_W} {A : Nat → Prop} {S0 : wS} {post : Int32 → wS → Prop} (F : CallFix p m c cX10_isKnown 6 s args wz_X10_isKnown RX10) (hr : meth.sig.returnType = (some .boolean)) (hlocks : meth.locks = false) (hK : wK D cy A s) : ∀ (n : Nat) {S : wS} {H : Heap} {locs : List Loc} {ls : Array Slot} {a0 : Nat} {a1 : Nat} {x2 : Int32} {x3 : Int32}, wp_X10_isKnown_27 D post n S a0 a1 x2 x3 → wO D cy X A s.heap S H locs → wX D S0 S → lv_has ls 6 [(0, .ref a0), (1, .ref a1), (2, .int x2), (3, .int x3)] → wM D S a0 → sK S a0 = 15 → wM D S a1 → sK S a1 = 8 → W p l e r_X10_isKnown s m args below meth c H locs 0 0 (MQ below (va_Qi (fun r S9 => wX D S0 S9 ∧ post r S9) (wB D cy X A) A) args s 0 0 A) (F0 m 27 ls []) := by
  obtain ⟨hx, hb, hml, hown, hts⟩ := id F
  have hwg : ∀ w ∈ WG, w.before args s = true := fun w h => hts w (List.mem_cons_of_mem _ h)
  have i_15 : ∀ w ∈ u_ws RX10 TX10 1, w ∈ wz_X10_isKnown := fun w h => List.mem_cons_of_mem _ (wu_15 w h)
  have k_12 := hwg _ wf_RX10_12
  intro n
  induction n with
  | zero =>
    intro S H locs ls a0 a1 x2 x3 hp
    exact hp.elim
  | succ n ih =>
    intro S H locs ls a0 a1 x2 x3 hp hW hE hl hL_a0 hK_a0 hL_a1 hK_a1
    unfold wp_X10_isKnown_27 at hp
    refine lv_iload_n hx hb dX10_isKnown_27 rfl (lv_at hl 3 rfl) ?_
    refine lv_aload_n hx hb dX10_isKnown_28 rfl (lv_at hl 0 rfl) ?_
    obtain ⟨y_1, ey_1, hL_y_1, hK_y_1, hp⟩ := hp
    refine w_get (k := 15) (f := 0) (T := TX10) (v := .ref y_1) F hK hW hL_a0 hK_a0 (by decide) rfl rfl (by decide) i_15 k_12 (by rw [show wv 15 0 S a0 = va_rf (sR S a0 0) from rfl, ey_1]; rfl) dX10_isKnown_29 ?_
    refine w_callI (va_runV (As := []) (rest := [.int x3]) F (c_Jx4a65c_size_8abf5 l hL_y_1 hK_y_1 hp H.size) (cwV (C := RJx4a65c) 0 hts (wg_V wm_RX10_18 wy_Jx4a65c_size_8abf5) rfl rfl rfl (by decide +kernel) ⟨Nat.le_of_ble_eq_true rfl, Nat.le_of_ble_eq_true rfl⟩) (w_preV hK hW hL_y_1 hK_y_1 (by decide) rfl) rfl rfl hl.1 rfl (lv_room (Nat.le_of_ble_eq_true rfl)) dX10_isKnown_32 ⟨Nat.le_of_ble_eq_true rfl, Nat.le_of_ble_eq_true rfl⟩) hW (fun r_2 S_3 H locs hp hW => ?_)
    obtain ⟨hX_S_3, hp⟩ := hp
    refine W.widen (k := 0) (n := 0) (by decide) (by decide) ?_
    have hE := hE.trans hX_S_3
    have hK_a0 : sK S_3 a0 = 15 := (hX_S_3.2 a0 hL_a0).1.trans hK_a0
    have hL_a0 : wM D S_3 a0 := hX_S_3.M hL_a0
    have hK_a1 : sK S_3 a1 = 8 := (hX_S_3.2 a1 hL_a1).1.trans hK_a1
    have hL_a1 : wM D S_3 a1 := hX_S_3.M hL_a1
    refine lv_icmp_ge (tgt := 89) hx hb dX10_isKnown_35 (by decide) (fun c_4 => ?_) (fun c_4 => ?_)
    · replace hp := hp.1 c_4
      refine lv_iconst (v := 0) hx hb dX10_isKnown_89 (by decide) ?_
      exact w_zret hx hb hr hlocks hW hp.1 ⟨hE, hp.2⟩ dX10_isKnown_90
    · replace hp := hp.2 c_4
      refine lv_aload_n hx hb dX10_isKnown_38 rfl (lv_at hl 0 rfl) ?_
      refine lv_iload_n hx hb dX10_isKnown_39 rfl (lv_at hl 3 rfl) ?_
      refine w_callR (va_runV (As := [.int x3]) (rest := []) F (c_X10_gameAt l hL_a0 hK_a0 hp H.size) (cwV (C := RX10) 1 hts (wg_V wm_RX10_51 wy_X10_gameAt) rfl rfl rfl (by decide +kernel) ⟨Nat.le_of_ble_eq_true rfl, Nat.le_of_ble_eq_true rfl⟩) (w_preV hK hW hL_a0 hK_a0 (by decide) rfl) rfl rfl hl.1 rfl (lv_room (Nat.le_of_ble_eq_true rfl)) dX10_isKnown_40 ⟨Nat.le_of_ble_eq_true rfl, Nat.le_of_ble_eq_true rfl⟩) hW (fun r_5 S_6 H locs hp hW => ?_)
      obtain ⟨hX_S_6, hp⟩ := hp
      refine W.widen (k := 0) (n := 0) (by decide) (by decide) ?_
      have hE := hE.trans hX_S_6
      have hK_a0 : sK S_6 a0 = 15 := (hX_S_6.2 a0 hL_a0).1.trans hK_a0
      have hL_a0 : wM D S_6 a0 := hX_S_6.M hL_a0
      have hK_a1 : sK S_6 a1 = 8 := (hX_S_6.2 a1 hL_a1).1.trans hK_a1
      have hL_a1 : wM D S_6 a1 := hX_S_6.M hL_a1
      refine w_astore (lv' := [(4, va_rf r_5), (0, .ref a0), (1, .ref a1), (2, .int x2), (3, .int x3)]) hx hb dX10_isKnown_43 hl (by decide) rfl (fun ls hl => ?_)
      refine lv_iconst (v := 0) hx hb dX10_isKnown_45 (by decide) ?_
      refine lv_istore (lv' := [(5, .int (0 : Int32)), (4, va_rf r_5), (0, .ref a0), (1, .ref a1), (2, .int x2), (3, .int x3)]) hx hb dX10_isKnown_46 hl (by decide) (by cases r_5 <;> rfl) (fun ls hl => ?_)
      obtain ⟨n_7, hp⟩ := hp
      exact t_X10_isKnown_48 F hr hlocks hK ih n_7 hp hW hE (lv_sub hl [2, 3, 4, 5, 1, 0] rfl) hL_a0 hK_a0 hL_a1 hK_a1
set_option maxHeartbeats 4000000 in
set_option maxRecDepth 100000 in
theorem t_X10_isKnown_2 {p : Program} {l : Launch} {e : Env} {s : State} {m : MethodId} {args : Array Value} {below : List Frame} {meth : Method} {c : Code} {D : wD} {cy : Nat → ClassId} {X : va_W} {A : Nat → Prop} {S0 : wS} {post : Int32 → wS → Prop} (F : CallFix p m c cX10_isKnown 6 s args wz_X10_isKnown RX10) (hr : meth.sig.returnType = (some .boolean)) (hlocks : meth.locks = false) (hK : wK D cy A s) : ∀ (n : Nat) {S : wS} {H : Heap} {locs : List Loc} {ls : Array Slot} {a0 : Nat} {a1 : Nat} {x2 : Int32} {x3 : Int32}, wp_X10_isKnown_2 D post n S a0 a1 x2 x3 → wO D cy X A s.heap S H locs → wX D S0 S → lv_has ls 6 [(0, .ref a0), (1, .ref a1), (2, .int x2), (3, .int x3)] → wM D S a0 → sK S a0 = 15 → wM D S a1 → sK S a1 = 8 → W p l e r_X10_isKnown s m args below meth c H locs 0 0 (MQ below (va_Qi (fun r S9 => wX D S0 S9 ∧ post r S9) (wB D cy X A) A) args s 0 0 A) (F0 m 2 ls []) := by
  obtain ⟨hx, hb, hml, hown, hts⟩ := id F
  have hwg : ∀ w ∈ WG, w.before args s = true := fun w h => hts w (List.mem_cons_of_mem _ h)
  intro n
  induction n with
  | zero =>
    intro S H locs ls a0 a1 x2 x3 hp
    exact hp.elim
  | succ n ih =>
    intro S H locs ls a0 a1 x2 x3 hp hW hE hl hL_a0 hK_a0 hL_a1 hK_a1
    unfold wp_X10_isKnown_2 at hp
    refine lv_iload_n hx hb dX10_isKnown_2 rfl (lv_at hl 3 rfl) ?_
    refine lv_iload_n hx hb dX10_isKnown_3 rfl (lv_at hl 2 rfl) ?_
    refine lv_icmp_ge (tgt := 25) hx hb dX10_isKnown_4 (by decide) (fun c_1 => ?_) (fun c_1 => ?_)
    · replace hp := hp.1 c_1
      refine lv_iconst (v := 0) hx hb dX10_isKnown_25 (by decide) ?_
      refine lv_istore_n (lv' := [(3, .int (0 : Int32)), (0, .ref a0), (1, .ref a1), (2, .int x2)]) hx hb dX10_isKnown_26 rfl hl (by decide) rfl (fun ls hl => ?_)
      obtain ⟨n_2, hp⟩ := hp
      exact t_X10_isKnown_27 F hr hlocks hK n_2 hp hW hE (lv_sub hl [1, 2, 3, 0] rfl) hL_a0 hK_a0 hL_a1 hK_a1
    · replace hp := hp.2 c_1
      refine lv_aload_n hx hb dX10_isKnown_7 rfl (lv_at hl 1 rfl) ?_
      refine lv_iload_n hx hb dX10_isKnown_8 rfl (lv_at hl 2 rfl) ?_
      refine lv_aload_n hx hb dX10_isKnown_9 rfl (lv_at hl 1 rfl) ?_
      refine lv_iload_n hx hb dX10_isKnown_10 rfl (lv_at hl 3 rfl) ?_
      refine w_callI (va_runV (As := [.int x2, .ref a1, .int x3]) (rest := []) F (c_X3_isSameAt l hL_a1 hK_a1 hL_a1 hK_a1 hp H.size) (cwV (C := RX3) 3 hts (wg_V wm_RX10_47 wy_X3_isSameAt) rfl rfl rfl (by decide +kernel) ⟨Nat.le_of_ble_eq_true rfl, Nat.le_of_ble_eq_true rfl⟩) (w_preV hK hW hL_a1 hK_a1 (by decide) rfl) rfl rfl hl.1 rfl (lv_room (Nat.le_of_ble_eq_true rfl)) dX10_isKnown_11 ⟨Nat.le_of_ble_eq_true rfl, Nat.le_of_ble_eq_true rfl⟩) hW (fun r_3 S_4 H locs hp hW => ?_)
      obtain ⟨hX_S_4, hp⟩ := hp
      refine W.widen (k := 0) (n := 0) (by decide) (by decide) ?_
      have hE := hE.trans hX_S_4
      have hK_a0 : sK S_4 a0 = 15 := (hX_S_4.2 a0 hL_a0).1.trans hK_a0
      have hL_a0 : wM D S_4 a0 := hX_S_4.M hL_a0
      have hK_a1 : sK S_4 a1 = 8 := (hX_S_4.2 a1 hL_a1).1.trans hK_a1
      have hL_a1 : wM D S_4 a1 := hX_S_4.M hL_a1
      refine lv_if_eq (tgt := 19) hx hb dX10_isKnown_14 (by decide) (fun c_5 => ?_) (fun c_5 => ?_)
      · replace hp := hp.1 c_5
        obtain ⟨x_6, ex_6⟩ : ∃ z : Int32, z = x3 + 1 := ⟨_, rfl⟩
        replace hp := hp x_6 ex_6
        refine lv_iinc (v := x_6) (lv' := [(3, .int x_6), (0, .ref a0), (1, .ref a1), (2, .int x2)]) hx hb dX10_isKnown_19 hl (k := 3) rfl (by rw [ex_6]; rfl) (by decide) rfl (fun ls hl => ?_)
        refine lv_goto (tgt := 2) hx hb dX10_isKnown_22 (by decide) ?_
        exact ih hp hW hE (lv_sub hl [1, 2, 3, 0] rfl) hL_a0 hK_a0 hL_a1 hK_a1
      · replace hp := hp.2 c_5
        refine lv_iconst (v := 1) hx hb dX10_isKnown_17 (by decide) ?_
        exact w_zret hx hb hr hlocks hW hp.1 ⟨hE, hp.2⟩ dX10_isKnown_18
set_option maxHeartbeats 4000000 in
set_option maxRecDepth 100000 in
theorem t_X10_isKnown_0 {p : Program} {l : Launch} {e : Env} {s : State} {m : MethodId} {args : Array Value} {below : List Frame} {meth : Method} {c : Code} {D : wD} {cy : Nat → ClassId} {X : va_W} {A : Nat → Prop} {S0 : wS} {post : Int32 → wS → Prop} (F : CallFix p m c cX10_isKnown 6 s args wz_X10_isKnown RX10) (hr : meth.sig.returnType = (some .boolean)) (hlocks : meth.locks = false) (hK : wK D cy A s) : ∀ {S : wS} {H : Heap} {locs : List Loc} {ls : Array Slot} {a0 : Nat} {a1 : Nat} {x2 : Int32}, wp_X10_isKnown_0 D post S a0 a1 x2 → wO D cy X A s.heap S H locs → wX D S0 S → lv_has ls 6 [(0, .ref a0), (1, .ref a1), (2, .int x2)] → wM D S a0 → sK S a0 = 15 → wM D S a1 → sK S a1 = 8 → W p l e r_X10_isKnown s m args below meth c H locs 0 0 (MQ below (va_Qi (fun r S9 => wX D S0 S9 ∧ post r S9) (wB D cy X A) A) args s 0 0 A) (F0 m 0 ls []) := by
  obtain ⟨hx, hb, hml, hown, hts⟩ := id F
  have hwg : ∀ w ∈ WG, w.before args s = true := fun w h => hts w (List.mem_cons_of_mem _ h)
  intro S H locs ls a0 a1 x2 hp hW hE hl hL_a0 hK_a0 hL_a1 hK_a1
  unfold wp_X10_isKnown_0 at hp
  refine lv_iconst (v := 0) hx hb dX10_isKnown_0 (by decide) ?_
  refine lv_istore_n (lv' := [(3, .int (0 : Int32)), (0, .ref a0), (1, .ref a1), (2, .int x2)]) hx hb dX10_isKnown_1 rfl hl (by decide) rfl (fun ls hl => ?_)
  obtain ⟨n_1, hp⟩ := hp
  exact t_X10_isKnown_2 F hr hlocks hK n_1 hp hW hE (lv_sub hl [1, 2, 3, 0] rfl) hL_a0 hK_a0 hL_a1 hK_a1
set_option maxHeartbeats 4000000 in
set_option maxRecDepth 100000 in
theorem c_X10_isKnown (l : Launch) {D : wD} {cy : Nat → ClassId} {X : va_W} {S0 : wS} {post : Int32 → wS → Prop} {a0 : Nat} {a1 : Nat} {x2 : Int32} (hL_a0 : wM D S0 a0) (hK_a0 : sK S0 a0 = 15) (hL_a1 : wM D S0 a1) (hK_a1 : sK S0 a1 = 8) (hp : wp_X10_isKnown D post S0 a0 a1 x2) : mI D cy X l yX10_isKnown wz_X10_isKnown r_X10_isKnown [.ref a0, .ref a1, .int x2] S0 (fun r S9 => wX D S0 S9 ∧ post r S9) := by
  intro sz
  refine Met.ofW (cc := cX10_isKnown) (maxL := 6) (ret := (some .boolean)) (by decide) rfl ?_
  intro p e s m args below meth c s₁ B hml hv
  obtain ⟨rfl, hsz, hP, hK, hD0, hRO⟩ := hv
  have hts := atoms_spec (ws := wz_X10_isKnown) B.pre
  have hown : s.vm.findClass RX10 = some m.cls := findClass_of_methodNamed B.named
  subst hsz
  have hD := hD0.self (sz := s.heap.size)
  have F : CallFix p m c cX10_isKnown 6 s _ wz_X10_isKnown RX10 := ⟨B.exec, B.bytes, hml, hown, hts⟩
  have hr := B.returns
  have hlocks := B.notSynchronized
  generalize hAe : va_A (wL cy X S0) s.heap.size = A at hD hK ⊢
  have hA : ∀ q, s.heap.size ≤ q → A q := fun q h => by rw [← hAe]; exact Or.inr h
  have hW : wO D cy X A s.heap S0 s.heap [] := ⟨hP, hD, va_S.rf, hA, hRO⟩
  have hl := lv_entry ([.ref a0, .ref a1, .int x2]) (n := 6) (Nat.le_of_ble_eq_true rfl)
  rw [lg_entry_eq]
  generalize (lg_sl ([.ref a0, .ref a1, .int x2]) ++ List.replicate (6 - (lg_sl ([.ref a0, .ref a1, .int x2])).length) Slot.unset).toArray = ls at hl ⊢
  have hl : lv_has ls 6 [(0, .ref a0), (1, .ref a1), (2, .int x2)] := hl
  unfold wp_X10_isKnown at hp
  exact t_X10_isKnown_0 F hr hlocks hK hp hW wX.rf (lv_sub hl [0, 1, 2] rfl) hL_a0 hK_a0 hL_a1 hK_a1
def wp_X10_add_26 (D : wD) (post : wS → Prop) (k_2 : Nat → Nat → wS → Nat → Nat → Int32 → Prop) (bc bs : Nat) (S : wS) (a0 : Nat) (a1 : Nat) (x2 : Int32) (b0 : Nat) (t1 : Int32) (t2 : Int32) : Prop :=
wp_X3_setFresh D (fun S_2 => 
∀ x_3 : Int32, x_3 = x2 + 1 →
k_2 bc bs S_2 a0 a1 x_3) S b0 t1 t2
def wp_X10_add_2 (D : wD) (post : wS → Prop)  : Nat → Nat → Nat → wS → Nat → Nat → Int32 → Prop
  | 0, _, _, _, _, _, _ => False
  | n + 1, bc, bs, S, a0, a1, x2 =>
    (((sI S a1 3) < x2 → ∃ y_2 : Nat, sR S a0 0 = some y_2 ∧ wM D S y_2 ∧ sK S y_2 = 4 ∧
    ∃ m_5 z_6 : Nat, m_5 ≤ bc ∧ z_6 ≤ bs ∧
    wp_Jx4a65c_add_9ea2d D (fun r_3 S_4 => 
    post S_4) m_5 z_6 S y_2 (some a1)) ∧
     (¬ (sI S a1 3) < x2 → wp_X10_isKnown D (fun r_7 S_8 => 
    ((¬ r_7 = 0 → wp_X10_add_26 D post (wp_X10_add_2 D post n) bc bs S_8 a0 a1 x2 a1 x2 (0 : Int32)) ∧
     (r_7 = 0 → wp_X10_add_26 D post (wp_X10_add_2 D post n) bc bs S_8 a0 a1 x2 a1 x2 (1 : Int32)))) S a0 a1 x2))
def wp_X10_add_0 (D : wD) (post : wS → Prop)  (bc bs : Nat) (S : wS) (a0 : Nat) (a1 : Nat) : Prop :=
∃ n_1 : Nat, wp_X10_add_2 D post n_1 bc bs S a0 a1 (0 : Int32)
abbrev r_X10_add (rC rS : Nat) : Room := { frames := 7, cells := rC, slots := rS, locals := 191 }
def wp_X10_add (D : wD) (post : wS → Prop) (bc bs : Nat) (S : wS) (a0 : Nat) (a1 : Nat) : Prop := wp_X10_add_0 D post bc bs S a0 a1
set_option maxHeartbeats 4000000 in
set_option maxRecDepth 100000 in
theorem t_X10_add_26 {p : Program} {l : Launch} {e : Env} {s : State} {m : MethodId} {args : Array Value} {below : List Frame} {meth : Method} {c : Code} {D : wD} {cy : Nat → ClassId} {X : va_W} {A : Nat → Prop} {S0 : wS} {rC rS : Nat} {post : wS → Prop} (F : CallFix p m c cX10_add 3 s args wz_X10_add RX10) (hr : meth.sig.returnType = none) (hlocks : meth.locks = false) (hK : wK D cy A s) {k_2 : Nat → Nat → wS → Nat → Nat → Int32 → Prop} (q_2 : ∀ {bc bs cells slots : Nat} (hbc : cells + bc ≤ rC) (hbs : slots + bs ≤ rS) {S : wS} {H : Heap} {locs : List Loc} {ls : Array Slot} {a0 : Nat} {a1 : Nat} {x2 : Int32}, k_2 bc bs S a0 a1 x2 → wO D cy X A s.heap S H locs → wX D S0 S → lv_has ls 3 [(0, .ref a0), (1, .ref a1), (2, .int x2)] → wM D S a0 → sK S a0 = 15 → wM D S a1 → sK S a1 = 8 → W p l e (r_X10_add rC rS) s m args below meth c H locs cells slots (MQ below (va_Qv (fun S9 => wX D S0 S9 ∧ post S9) (wB D cy X A) A) args s rC rS A) (F0 m 2 ls [])) : ∀ {bc bs cells slots : Nat} (hbc : cells + bc ≤ rC) (hbs : slots + bs ≤ rS) {S : wS} {H : Heap} {locs : List Loc} {ls : Array Slot} {a0 : Nat} {a1 : Nat} {x2 : Int32} {b0 : Nat} {t1 : Int32} {t2 : Int32}, wp_X10_add_26 D post k_2 bc bs S a0 a1 x2 b0 t1 t2 → wO D cy X A s.heap S H locs → wX D S0 S → lv_has ls 3 [(0, .ref a0), (1, .ref a1), (2, .int x2)] → wM D S a0 → sK S a0 = 15 → wM D S a1 → sK S a1 = 8 → wM D S b0 → sK S b0 = 8 → W p l e (r_X10_add rC rS) s m args below meth c H locs cells slots (MQ below (va_Qv (fun S9 => wX D S0 S9 ∧ post S9) (wB D cy X A) A) args s rC rS A) (F0 m 26 ls [.int t2, .int t1, .ref b0]) := by
  obtain ⟨hx, hb, hml, hown, hts⟩ := id F
  have hwg : ∀ w ∈ WG, w.before args s = true := fun w h => hts w (List.mem_cons_of_mem _ h)
  intro bc bs cells slots hbc hbs S H locs ls a0 a1 x2 b0 t1 t2 hp hW hE hl hL_a0 hK_a0 hL_a1 hK_a1 hL_b0 hK_b0
  unfold wp_X10_add_26 at hp
  refine w_callV (va_runV (As := [.int t1, .int t2]) (rest := []) F (c_X3_setFresh l hL_b0 hK_b0 hp H.size) (cwV (C := RX3) 2 hts (wg_V wm_RX10_39 wy_X3_setFresh) rfl rfl rfl (by decide +kernel) ⟨Nat.le_of_ble_eq_true rfl, Nat.le_of_ble_eq_true rfl⟩) (w_preV hK hW hL_b0 hK_b0 (by decide) rfl) rfl rfl hl.1 rfl (lv_room (Nat.le_of_ble_eq_true rfl)) dX10_add_26 ⟨by show _ ≤ rC; exact Nat.le_trans (Nat.le_add_right _ _) hbc, by show _ ≤ rS; exact Nat.le_trans (Nat.le_add_right _ _) hbs⟩) hW (fun S_2 H locs hp hW => ?_)
  obtain ⟨hX_S_2, hp⟩ := hp
  refine w_same ?_
  have hE := hE.trans hX_S_2
  have hK_a0 : sK S_2 a0 = 15 := (hX_S_2.2 a0 hL_a0).1.trans hK_a0
  have hL_a0 : wM D S_2 a0 := hX_S_2.M hL_a0
  have hK_a1 : sK S_2 a1 = 8 := (hX_S_2.2 a1 hL_a1).1.trans hK_a1
  have hL_a1 : wM D S_2 a1 := hX_S_2.M hL_a1
  obtain ⟨x_3, ex_3⟩ : ∃ z : Int32, z = x2 + 1 := ⟨_, rfl⟩
  replace hp := hp x_3 ex_3
  refine lv_iinc (v := x_3) (lv' := [(2, .int x_3), (0, .ref a0), (1, .ref a1)]) hx hb dX10_add_29 hl (k := 2) rfl (by rw [ex_3]; rfl) (by decide) rfl (fun ls hl => ?_)
  refine lv_goto (tgt := 2) hx hb dX10_add_32 (by decide) ?_
  exact q_2 hbc hbs hp hW hE (lv_sub hl [1, 2, 0] rfl) hL_a0 hK_a0 hL_a1 hK_a1
set_option maxHeartbeats 4000000 in
set_option maxRecDepth 100000 in
theorem t_X10_add_2 {p : Program} {l : Launch} {e : Env} {s : State} {m : MethodId} {args : Array Value} {below : List Frame} {meth : Method} {c : Code} {D : wD} {cy : Nat → ClassId} {X : va_W} {A : Nat → Prop} {S0 : wS} {rC rS : Nat} {post : wS → Prop} (F : CallFix p m c cX10_add 3 s args wz_X10_add RX10) (hr : meth.sig.returnType = none) (hlocks : meth.locks = false) (hK : wK D cy A s) : ∀ (n : Nat) {bc bs cells slots : Nat} (hbc : cells + bc ≤ rC) (hbs : slots + bs ≤ rS) {S : wS} {H : Heap} {locs : List Loc} {ls : Array Slot} {a0 : Nat} {a1 : Nat} {x2 : Int32}, wp_X10_add_2 D post n bc bs S a0 a1 x2 → wO D cy X A s.heap S H locs → wX D S0 S → lv_has ls 3 [(0, .ref a0), (1, .ref a1), (2, .int x2)] → wM D S a0 → sK S a0 = 15 → wM D S a1 → sK S a1 = 8 → W p l e (r_X10_add rC rS) s m args below meth c H locs cells slots (MQ below (va_Qv (fun S9 => wX D S0 S9 ∧ post S9) (wB D cy X A) A) args s rC rS A) (F0 m 2 ls []) := by
  obtain ⟨hx, hb, hml, hown, hts⟩ := id F
  have hwg : ∀ w ∈ WG, w.before args s = true := fun w h => hts w (List.mem_cons_of_mem _ h)
  have i_15 : ∀ w ∈ u_ws RX10 TX10 1, w ∈ wz_X10_add := fun w h => List.mem_cons_of_mem _ (wu_15 w h)
  have i_8 : ∀ w ∈ u_ws RX3 TX3 9, w ∈ wz_X10_add := fun w h => List.mem_cons_of_mem _ (wu_8 w h)
  have k_12 := hwg _ wf_RX10_12
  intro n
  induction n with
  | zero =>
    intro bc bs cells slots hbc hbs S H locs ls a0 a1 x2 hp
    exact hp.elim
  | succ n ih =>
    intro bc bs cells slots hbc hbs S H locs ls a0 a1 x2 hp hW hE hl hL_a0 hK_a0 hL_a1 hK_a1
    unfold wp_X10_add_2 at hp
    refine lv_iload_n hx hb dX10_add_2 rfl (lv_at hl 2 rfl) ?_
    refine lv_aload_n hx hb dX10_add_3 rfl (lv_at hl 1 rfl) ?_
    refine w_getN (k := 8) (f := 3) (T := TX3) (v := .int (sI S a1 3)) F hK hW hL_a1 hK_a1 (by decide) rfl rfl (by decide) i_8 (hK.2.1 (.fieldLinkNest "OpeningsCabinet$Shelf" 31 "OpeningsCabinet$Game" "length" "I" "OpeningsCabinet") (by decide +kernel)) rfl dX10_add_4 ?_
    refine lv_icmp_gt (tgt := 35) hx hb dX10_add_7 (by decide) (fun c_1 => ?_) (fun c_1 => ?_)
    · replace hp := hp.1 c_1
      refine lv_aload_n hx hb dX10_add_35 rfl (lv_at hl 0 rfl) ?_
      obtain ⟨y_2, ey_2, hL_y_2, hK_y_2, hp⟩ := hp
      refine w_get (k := 15) (f := 0) (T := TX10) (v := .ref y_2) F hK hW hL_a0 hK_a0 (by decide) rfl rfl (by decide) i_15 k_12 (by rw [show wv 15 0 S a0 = va_rf (sR S a0 0) from rfl, ey_2]; rfl) dX10_add_36 ?_
      refine lv_aload_n hx hb dX10_add_39 rfl (lv_at hl 1 rfl) ?_
      obtain ⟨m_5, z_6, hm_5, hz_6, hp⟩ := hp
      refine w_callI (va_runV (As := [.ref a1]) (rest := []) F (c_Jx4a65c_add_9ea2d l hL_y_2 hK_y_2 hp H.size) (cwV (C := RJx4a65c) 1 hts (wg_V wm_RX10_43 wy_Jx4a65c_add_9ea2d) rfl rfl rfl (by decide +kernel) ⟨Nat.le_of_ble_eq_true rfl, Nat.le_of_ble_eq_true rfl⟩) (w_preV hK hW hL_y_2 hK_y_2 (by decide) rfl) rfl rfl hl.1 rfl (lv_room (Nat.le_of_ble_eq_true rfl)) dX10_add_40 ⟨by show _ + m_5 ≤ rC; omega, by show _ + z_6 ≤ rS; omega⟩) hW (fun r_3 S_4 H locs hp hW => ?_)
      obtain ⟨hX_S_4, hp⟩ := hp
      refine W.widen (k := _ + m_5) (n := _ + z_6) (Nat.le_refl _) (Nat.le_refl _) ?_
      replace hbc := w_spend hbc (show m_5 ≤ bc by omega)
      replace hbs := w_spend hbs (show z_6 ≤ bs by omega)
      have hE := hE.trans hX_S_4
      have hK_a0 : sK S_4 a0 = 15 := (hX_S_4.2 a0 hL_a0).1.trans hK_a0
      have hL_a0 : wM D S_4 a0 := hX_S_4.M hL_a0
      have hK_a1 : sK S_4 a1 = 8 := (hX_S_4.2 a1 hL_a1).1.trans hK_a1
      have hL_a1 : wM D S_4 a1 := hX_S_4.M hL_a1
      refine lv_pop hx hb dX10_add_43 rfl ?_
      refine W.widen (k := rC) (n := rS) (Nat.le_trans (Nat.le_add_right _ _) hbc) (Nat.le_trans (Nat.le_add_right _ _) hbs) ?_
      exact w_vret hx hb hr hlocks hW ⟨hE, hp⟩ dX10_add_44
    · replace hp := hp.2 c_1
      refine lv_aload_n hx hb dX10_add_10 rfl (lv_at hl 1 rfl) ?_
      refine lv_iload_n hx hb dX10_add_11 rfl (lv_at hl 2 rfl) ?_
      refine lv_aload_n hx hb dX10_add_12 rfl (lv_at hl 0 rfl) ?_
      refine lv_aload_n hx hb dX10_add_13 rfl (lv_at hl 1 rfl) ?_
      refine lv_iload_n hx hb dX10_add_14 rfl (lv_at hl 2 rfl) ?_
      refine w_callI (va_runV (As := [.ref a1, .int x2]) (rest := [.int x2, .ref a1]) F (c_X10_isKnown l hL_a0 hK_a0 hL_a1 hK_a1 hp H.size) (cwV (C := RX10) 2 hts (wg_V wm_RX10_35 wy_X10_isKnown) rfl rfl rfl (by decide +kernel) ⟨Nat.le_of_ble_eq_true rfl, Nat.le_of_ble_eq_true rfl⟩) (w_preV hK hW hL_a0 hK_a0 (by decide) rfl) rfl rfl hl.1 rfl (lv_room (Nat.le_of_ble_eq_true rfl)) dX10_add_15 ⟨by show _ ≤ rC; exact Nat.le_trans (Nat.le_add_right _ _) hbc, by show _ ≤ rS; exact Nat.le_trans (Nat.le_add_right _ _) hbs⟩) hW (fun r_7 S_8 H locs hp hW => ?_)
      obtain ⟨hX_S_8, hp⟩ := hp
      refine w_same ?_
      have hE := hE.trans hX_S_8
      have hK_a0 : sK S_8 a0 = 15 := (hX_S_8.2 a0 hL_a0).1.trans hK_a0
      have hL_a0 : wM D S_8 a0 := hX_S_8.M hL_a0
      have hK_a1 : sK S_8 a1 = 8 := (hX_S_8.2 a1 hL_a1).1.trans hK_a1
      have hL_a1 : wM D S_8 a1 := hX_S_8.M hL_a1
      refine lv_if_ne (tgt := 25) hx hb dX10_add_18 (by decide) (fun c_9 => ?_) (fun c_9 => ?_)
      · replace hp := hp.1 c_9
        refine lv_iconst (v := 0) hx hb dX10_add_25 (by decide) ?_
        exact t_X10_add_26 F hr hlocks hK ih hbc hbs hp hW hE (lv_sub hl [0, 1, 2] rfl) hL_a0 hK_a0 hL_a1 hK_a1 hL_a1 hK_a1
      · replace hp := hp.2 c_9
        refine lv_iconst (v := 1) hx hb dX10_add_21 (by decide) ?_
        refine lv_goto (tgt := 26) hx hb dX10_add_22 (by decide) ?_
        exact t_X10_add_26 F hr hlocks hK ih hbc hbs hp hW hE (lv_sub hl [0, 1, 2] rfl) hL_a0 hK_a0 hL_a1 hK_a1 hL_a1 hK_a1
set_option maxHeartbeats 4000000 in
set_option maxRecDepth 100000 in
theorem t_X10_add_0 {p : Program} {l : Launch} {e : Env} {s : State} {m : MethodId} {args : Array Value} {below : List Frame} {meth : Method} {c : Code} {D : wD} {cy : Nat → ClassId} {X : va_W} {A : Nat → Prop} {S0 : wS} {rC rS : Nat} {post : wS → Prop} (F : CallFix p m c cX10_add 3 s args wz_X10_add RX10) (hr : meth.sig.returnType = none) (hlocks : meth.locks = false) (hK : wK D cy A s) : ∀ {bc bs cells slots : Nat} (hbc : cells + bc ≤ rC) (hbs : slots + bs ≤ rS) {S : wS} {H : Heap} {locs : List Loc} {ls : Array Slot} {a0 : Nat} {a1 : Nat}, wp_X10_add_0 D post bc bs S a0 a1 → wO D cy X A s.heap S H locs → wX D S0 S → lv_has ls 3 [(0, .ref a0), (1, .ref a1)] → wM D S a0 → sK S a0 = 15 → wM D S a1 → sK S a1 = 8 → W p l e (r_X10_add rC rS) s m args below meth c H locs cells slots (MQ below (va_Qv (fun S9 => wX D S0 S9 ∧ post S9) (wB D cy X A) A) args s rC rS A) (F0 m 0 ls []) := by
  obtain ⟨hx, hb, hml, hown, hts⟩ := id F
  have hwg : ∀ w ∈ WG, w.before args s = true := fun w h => hts w (List.mem_cons_of_mem _ h)
  intro bc bs cells slots hbc hbs S H locs ls a0 a1 hp hW hE hl hL_a0 hK_a0 hL_a1 hK_a1
  unfold wp_X10_add_0 at hp
  refine lv_iconst (v := 0) hx hb dX10_add_0 (by decide) ?_
  refine lv_istore_n (lv' := [(2, .int (0 : Int32)), (0, .ref a0), (1, .ref a1)]) hx hb dX10_add_1 rfl hl (by decide) rfl (fun ls hl => ?_)
  obtain ⟨n_1, hp⟩ := hp
  exact t_X10_add_2 F hr hlocks hK n_1 hbc hbs hp hW hE (lv_sub hl [1, 2, 0] rfl) hL_a0 hK_a0 hL_a1 hK_a1
set_option maxHeartbeats 4000000 in
set_option maxRecDepth 100000 in
theorem c_X10_add (l : Launch) {rC rS : Nat} {D : wD} {cy : Nat → ClassId} {X : va_W} {S0 : wS} {post : wS → Prop} {a0 : Nat} {a1 : Nat} (hL_a0 : wM D S0 a0) (hK_a0 : sK S0 a0 = 15) (hL_a1 : wM D S0 a1) (hK_a1 : sK S0 a1 = 8) (hp : wp_X10_add D post rC rS S0 a0 a1) : mV D cy X l yX10_add wz_X10_add (r_X10_add rC rS) [.ref a0, .ref a1] S0 (fun S9 => wX D S0 S9 ∧ post S9) := by
  intro sz
  refine Met.ofW (cc := cX10_add) (maxL := 3) (ret := none) (by decide) rfl ?_
  intro p e s m args below meth c s₁ B hml hv
  obtain ⟨rfl, hsz, hP, hK, hD0, hRO⟩ := hv
  have hts := atoms_spec (ws := wz_X10_add) B.pre
  have hown : s.vm.findClass RX10 = some m.cls := findClass_of_methodNamed B.named
  subst hsz
  have hD := hD0.self (sz := s.heap.size)
  have F : CallFix p m c cX10_add 3 s _ wz_X10_add RX10 := ⟨B.exec, B.bytes, hml, hown, hts⟩
  have hr := B.returns
  have hlocks := B.notSynchronized
  generalize hAe : va_A (wL cy X S0) s.heap.size = A at hD hK ⊢
  have hA : ∀ q, s.heap.size ≤ q → A q := fun q h => by rw [← hAe]; exact Or.inr h
  have hW : wO D cy X A s.heap S0 s.heap [] := ⟨hP, hD, va_S.rf, hA, hRO⟩
  have hl := lv_entry ([.ref a0, .ref a1]) (n := 3) (Nat.le_of_ble_eq_true rfl)
  rw [lg_entry_eq]
  generalize (lg_sl ([.ref a0, .ref a1]) ++ List.replicate (3 - (lg_sl ([.ref a0, .ref a1])).length) Slot.unset).toArray = ls at hl ⊢
  have hl : lv_has ls 3 [(0, .ref a0), (1, .ref a1)] := hl
  unfold wp_X10_add at hp
  exact t_X10_add_0 F hr hlocks hK (Nat.le_of_eq (Nat.zero_add _)) (Nat.le_of_eq (Nat.zero_add _)) hp hW wX.rf (lv_sub hl [0, 1] rfl) hL_a0 hK_a0 hL_a1 hK_a1
def wp_X10_clear_0 (D : wD) (post : wS → Prop)  (S : wS) (a0 : Nat) : Prop :=
∃ y_1 : Nat, sR S a0 0 = some y_1 ∧ wM D S y_1 ∧ sK S y_1 = 4 ∧
wp_Jx4a65c_clear_da8c8 D (fun S_3 => 
post S_3) S y_1
abbrev r_X10_clear : Room := { frames := 1, cells := 0, slots := 0, locals := 23 }
def wp_X10_clear (D : wD) (post : wS → Prop) (S : wS) (a0 : Nat) : Prop := wp_X10_clear_0 D post S a0
set_option maxHeartbeats 4000000 in
set_option maxRecDepth 100000 in
theorem t_X10_clear_0 {p : Program} {l : Launch} {e : Env} {s : State} {m : MethodId} {args : Array Value} {below : List Frame} {meth : Method} {c : Code} {D : wD} {cy : Nat → ClassId} {X : va_W} {A : Nat → Prop} {S0 : wS} {post : wS → Prop} (F : CallFix p m c cX10_clear 1 s args wz_X10_clear RX10) (hr : meth.sig.returnType = none) (hlocks : meth.locks = false) (hK : wK D cy A s) : ∀ {S : wS} {H : Heap} {locs : List Loc} {ls : Array Slot} {a0 : Nat}, wp_X10_clear_0 D post S a0 → wO D cy X A s.heap S H locs → wX D S0 S → lv_has ls 1 [(0, .ref a0)] → wM D S a0 → sK S a0 = 15 → W p l e r_X10_clear s m args below meth c H locs 0 0 (MQ below (va_Qv (fun S9 => wX D S0 S9 ∧ post S9) (wB D cy X A) A) args s 0 0 A) (F0 m 0 ls []) := by
  obtain ⟨hx, hb, hml, hown, hts⟩ := id F
  have hwg : ∀ w ∈ WG, w.before args s = true := fun w h => hts w (List.mem_cons_of_mem _ h)
  have i_15 : ∀ w ∈ u_ws RX10 TX10 1, w ∈ wz_X10_clear := fun w h => List.mem_cons_of_mem _ (wu_15 w h)
  have k_12 := hwg _ wf_RX10_12
  intro S H locs ls a0 hp hW hE hl hL_a0 hK_a0
  unfold wp_X10_clear_0 at hp
  refine lv_aload_n hx hb dX10_clear_0 rfl (lv_at hl 0 rfl) ?_
  obtain ⟨y_1, ey_1, hL_y_1, hK_y_1, hp⟩ := hp
  refine w_get (k := 15) (f := 0) (T := TX10) (v := .ref y_1) F hK hW hL_a0 hK_a0 (by decide) rfl rfl (by decide) i_15 k_12 (by rw [show wv 15 0 S a0 = va_rf (sR S a0 0) from rfl, ey_1]; rfl) dX10_clear_1 ?_
  refine w_callV (va_runV (As := []) (rest := []) F (c_Jx4a65c_clear_da8c8 l hL_y_1 hK_y_1 hp H.size) (cwV (C := RJx4a65c) 0 hts (wg_V wm_RX10_22 wy_Jx4a65c_clear_da8c8) rfl rfl rfl (by decide +kernel) ⟨Nat.le_of_ble_eq_true rfl, Nat.le_of_ble_eq_true rfl⟩) (w_preV hK hW hL_y_1 hK_y_1 (by decide) rfl) rfl rfl hl.1 rfl (lv_room (Nat.le_of_ble_eq_true rfl)) dX10_clear_4 ⟨Nat.le_of_ble_eq_true rfl, Nat.le_of_ble_eq_true rfl⟩) hW (fun S_3 H locs hp hW => ?_)
  obtain ⟨hX_S_3, hp⟩ := hp
  refine W.widen (k := 0) (n := 0) (by decide) (by decide) ?_
  have hE := hE.trans hX_S_3
  have hK_a0 : sK S_3 a0 = 15 := (hX_S_3.2 a0 hL_a0).1.trans hK_a0
  have hL_a0 : wM D S_3 a0 := hX_S_3.M hL_a0
  exact w_vret hx hb hr hlocks hW ⟨hE, hp⟩ dX10_clear_7
set_option maxHeartbeats 4000000 in
set_option maxRecDepth 100000 in
theorem c_X10_clear (l : Launch) {D : wD} {cy : Nat → ClassId} {X : va_W} {S0 : wS} {post : wS → Prop} {a0 : Nat} (hL_a0 : wM D S0 a0) (hK_a0 : sK S0 a0 = 15) (hp : wp_X10_clear D post S0 a0) : mV D cy X l yX10_clear wz_X10_clear r_X10_clear [.ref a0] S0 (fun S9 => wX D S0 S9 ∧ post S9) := by
  intro sz
  refine Met.ofW (cc := cX10_clear) (maxL := 1) (ret := none) (by decide) rfl ?_
  intro p e s m args below meth c s₁ B hml hv
  obtain ⟨rfl, hsz, hP, hK, hD0, hRO⟩ := hv
  have hts := atoms_spec (ws := wz_X10_clear) B.pre
  have hown : s.vm.findClass RX10 = some m.cls := findClass_of_methodNamed B.named
  subst hsz
  have hD := hD0.self (sz := s.heap.size)
  have F : CallFix p m c cX10_clear 1 s _ wz_X10_clear RX10 := ⟨B.exec, B.bytes, hml, hown, hts⟩
  have hr := B.returns
  have hlocks := B.notSynchronized
  generalize hAe : va_A (wL cy X S0) s.heap.size = A at hD hK ⊢
  have hA : ∀ q, s.heap.size ≤ q → A q := fun q h => by rw [← hAe]; exact Or.inr h
  have hW : wO D cy X A s.heap S0 s.heap [] := ⟨hP, hD, va_S.rf, hA, hRO⟩
  have hl := lv_entry ([.ref a0]) (n := 1) (Nat.le_of_ble_eq_true rfl)
  rw [lg_entry_eq]
  generalize (lg_sl ([.ref a0]) ++ List.replicate (1 - (lg_sl ([.ref a0])).length) Slot.unset).toArray = ls at hl ⊢
  have hl : lv_has ls 1 [(0, .ref a0)] := hl
  unfold wp_X10_clear at hp
  exact t_X10_clear_0 F hr hlocks hK hp hW wX.rf (lv_sub hl [0] rfl) hL_a0 hK_a0
def wp_X10_differentPositions_60 (D : wD) (post : Int32 → wS → Prop) (k_4 : wS → Nat → Int32 → Int32 → Prop) (S : wS) (a0 : Nat) (x1 : Int32) (x2 : Int32) : Prop :=
∀ x_1 : Int32, x_1 = x2 + 1 →
k_4 S a0 x1 x_1
def wp_X10_differentPositions_52 (D : wD) (post : Int32 → wS → Prop) (k_4 : wS → Nat → Int32 → Int32 → Prop) (k_24 : wS → Nat → Int32 → Int32 → Option Nat → Int32 → Prop) (S : wS) (a0 : Nat) (x2 : Int32) (a3 : Nat) (x4 : Int32) (t0 : Int32) (t1 : Int32) : Prop :=
∀ x_1 : Int32, x_1 = (t0 + t1) →
∀ x_2 : Int32, x_2 = x4 + 1 →
k_24 S a0 x_1 x2 (some a3) x_2
def wp_X10_differentPositions_24 (D : wD) (post : Int32 → wS → Prop) (k_4 : wS → Nat → Int32 → Int32 → Prop) : Nat → wS → Nat → Int32 → Int32 → Option Nat → Int32 → Prop
  | 0, _, _, _, _, _, _ => False
  | n + 1, S, a0, x1, x2, g3, x4 =>
    ((g3 = none → wp_X10_differentPositions_60 D post k_4 S a0 x1 x2) ∧
     (∀ y_1 : Nat, g3 = some y_1 → wM D S y_1 ∧ sK S y_1 = 8 ∧ (((sI S y_1 3) < x4 → wp_X10_differentPositions_60 D post k_4 S a0 x1 x2) ∧
     (¬ (sI S y_1 3) < x4 → wp_X3_isFreshAt D (fun r_4 S_5 => 
    ((r_4 = 0 → wp_X10_differentPositions_52 D post k_4 (wp_X10_differentPositions_24 D post k_4 n) S_5 a0 x2 y_1 x4 x1 (0 : Int32)) ∧
     (¬ r_4 = 0 → wp_X10_differentPositions_52 D post k_4 (wp_X10_differentPositions_24 D post k_4 n) S_5 a0 x2 y_1 x4 x1 (1 : Int32)))) S y_1 x4))))
def wp_X10_differentPositions_4 (D : wD) (post : Int32 → wS → Prop)  : Nat → wS → Nat → Int32 → Int32 → Prop
  | 0, _, _, _, _ => False
  | n + 1, S, a0, x1, x2 =>
    ∃ y_1 : Nat, sR S a0 0 = some y_1 ∧ wM D S y_1 ∧ sK S y_1 = 4 ∧
    wp_Jx4a65c_size_8abf5 D (fun r_2 S_3 => 
    ((r_2 ≤ x2 → post x1 S_3) ∧
     (¬ r_2 ≤ x2 → wp_X10_gameAt D (fun r_5 S_6 => 
    ∃ n_7 : Nat, wp_X10_differentPositions_24 D post (wp_X10_differentPositions_4 D post n) n_7 S_6 a0 x1 x2 r_5 (0 : Int32)) S_3 a0 x2))) S y_1
def wp_X10_differentPositions_0 (D : wD) (post : Int32 → wS → Prop)  (S : wS) (a0 : Nat) : Prop :=
∃ n_1 : Nat, wp_X10_differentPositions_4 D post n_1 S a0 (0 : Int32) (0 : Int32)
abbrev r_X10_differentPositions : Room := { frames := 4, cells := 0, slots := 0, locals := 85 }
def wp_X10_differentPositions (D : wD) (post : Int32 → wS → Prop) (S : wS) (a0 : Nat) : Prop := wp_X10_differentPositions_0 D post S a0
set_option maxHeartbeats 4000000 in
set_option maxRecDepth 100000 in
theorem t_X10_differentPositions_60 {p : Program} {l : Launch} {e : Env} {s : State} {m : MethodId} {args : Array Value} {below : List Frame} {meth : Method} {c : Code} {D : wD} {cy : Nat → ClassId} {X : va_W} {A : Nat → Prop} {S0 : wS} {post : Int32 → wS → Prop} (F : CallFix p m c cX10_differentPositions 5 s args wz_X10_differentPositions RX10) (hr : meth.sig.returnType = (some .int)) (hlocks : meth.locks = false) (hK : wK D cy A s) {k_4 : wS → Nat → Int32 → Int32 → Prop} (q_4 : ∀ {S : wS} {H : Heap} {locs : List Loc} {ls : Array Slot} {a0 : Nat} {x1 : Int32} {x2 : Int32}, k_4 S a0 x1 x2 → wO D cy X A s.heap S H locs → wX D S0 S → lv_has ls 5 [(0, .ref a0), (1, .int x1), (2, .int x2)] → wM D S a0 → sK S a0 = 15 → W p l e r_X10_differentPositions s m args below meth c H locs 0 0 (MQ below (va_Qi (fun r S9 => wX D S0 S9 ∧ post r S9) (wB D cy X A) A) args s 0 0 A) (F0 m 4 ls [])) : ∀ {S : wS} {H : Heap} {locs : List Loc} {ls : Array Slot} {a0 : Nat} {x1 : Int32} {x2 : Int32}, wp_X10_differentPositions_60 D post k_4 S a0 x1 x2 → wO D cy X A s.heap S H locs → wX D S0 S → lv_has ls 5 [(0, .ref a0), (1, .int x1), (2, .int x2)] → wM D S a0 → sK S a0 = 15 → W p l e r_X10_differentPositions s m args below meth c H locs 0 0 (MQ below (va_Qi (fun r S9 => wX D S0 S9 ∧ post r S9) (wB D cy X A) A) args s 0 0 A) (F0 m 60 ls []) := by
  obtain ⟨hx, hb, hml, hown, hts⟩ := id F
  have hwg : ∀ w ∈ WG, w.before args s = true := fun w h => hts w (List.mem_cons_of_mem _ h)
  intro S H locs ls a0 x1 x2 hp hW hE hl hL_a0 hK_a0
  unfold wp_X10_differentPositions_60 at hp
  obtain ⟨x_1, ex_1⟩ : ∃ z : Int32, z = x2 + 1 := ⟨_, rfl⟩
  replace hp := hp x_1 ex_1
  refine lv_iinc (v := x_1) (lv' := [(2, .int x_1), (0, .ref a0), (1, .int x1)]) hx hb dX10_differentPositions_60 hl (k := 2) rfl (by rw [ex_1]; rfl) (by decide) rfl (fun ls hl => ?_)
  refine lv_goto (tgt := 4) hx hb dX10_differentPositions_63 (by decide) ?_
  exact q_4 hp hW hE (lv_sub hl [1, 2, 0] rfl) hL_a0 hK_a0
set_option maxHeartbeats 4000000 in
set_option maxRecDepth 100000 in
theorem t_X10_differentPositions_52 {p : Program} {l : Launch} {e : Env} {s : State} {m : MethodId} {args : Array Value} {below : List Frame} {meth : Method} {c : Code} {D : wD} {cy : Nat → ClassId} {X : va_W} {A : Nat → Prop} {S0 : wS} {post : Int32 → wS → Prop} (F : CallFix p m c cX10_differentPositions 5 s args wz_X10_differentPositions RX10) (hr : meth.sig.returnType = (some .int)) (hlocks : meth.locks = false) (hK : wK D cy A s) {k_4 : wS → Nat → Int32 → Int32 → Prop} (q_4 : ∀ {S : wS} {H : Heap} {locs : List Loc} {ls : Array Slot} {a0 : Nat} {x1 : Int32} {x2 : Int32}, k_4 S a0 x1 x2 → wO D cy X A s.heap S H locs → wX D S0 S → lv_has ls 5 [(0, .ref a0), (1, .int x1), (2, .int x2)] → wM D S a0 → sK S a0 = 15 → W p l e r_X10_differentPositions s m args below meth c H locs 0 0 (MQ below (va_Qi (fun r S9 => wX D S0 S9 ∧ post r S9) (wB D cy X A) A) args s 0 0 A) (F0 m 4 ls [])) {k_24 : wS → Nat → Int32 → Int32 → Option Nat → Int32 → Prop} (q_24 : ∀ {S : wS} {H : Heap} {locs : List Loc} {ls : Array Slot} {a0 : Nat} {x1 : Int32} {x2 : Int32} {g3 : Option Nat} {x4 : Int32}, k_24 S a0 x1 x2 g3 x4 → wO D cy X A s.heap S H locs → wX D S0 S → lv_has ls 5 [(0, .ref a0), (1, .int x1), (2, .int x2), (3, va_rf g3), (4, .int x4)] → wM D S a0 → sK S a0 = 15 → W p l e r_X10_differentPositions s m args below meth c H locs 0 0 (MQ below (va_Qi (fun r S9 => wX D S0 S9 ∧ post r S9) (wB D cy X A) A) args s 0 0 A) (F0 m 24 ls [])) : ∀ {S : wS} {H : Heap} {locs : List Loc} {ls : Array Slot} {a0 : Nat} {x2 : Int32} {a3 : Nat} {x4 : Int32} {t0 : Int32} {t1 : Int32}, wp_X10_differentPositions_52 D post k_4 k_24 S a0 x2 a3 x4 t0 t1 → wO D cy X A s.heap S H locs → wX D S0 S → lv_has ls 5 [(0, .ref a0), (2, .int x2), (3, .ref a3), (4, .int x4)] → wM D S a0 → sK S a0 = 15 → wM D S a3 → sK S a3 = 8 → W p l e r_X10_differentPositions s m args below meth c H locs 0 0 (MQ below (va_Qi (fun r S9 => wX D S0 S9 ∧ post r S9) (wB D cy X A) A) args s 0 0 A) (F0 m 52 ls [.int t1, .int t0]) := by
  obtain ⟨hx, hb, hml, hown, hts⟩ := id F
  have hwg : ∀ w ∈ WG, w.before args s = true := fun w h => hts w (List.mem_cons_of_mem _ h)
  intro S H locs ls a0 x2 a3 x4 t0 t1 hp hW hE hl hL_a0 hK_a0 hL_a3 hK_a3
  unfold wp_X10_differentPositions_52 at hp
  refine lv_iadd hx hb dX10_differentPositions_52 ?_
  refine lv_topi (fun x_1 ex_1 => ?_)
  replace hp := hp x_1 ex_1
  refine lv_istore_n (lv' := [(1, .int x_1), (0, .ref a0), (2, .int x2), (3, .ref a3), (4, .int x4)]) hx hb dX10_differentPositions_53 rfl hl (by decide) rfl (fun ls hl => ?_)
  obtain ⟨x_2, ex_2⟩ : ∃ z : Int32, z = x4 + 1 := ⟨_, rfl⟩
  replace hp := hp x_2 ex_2
  refine lv_iinc (v := x_2) (lv' := [(4, .int x_2), (1, .int x_1), (0, .ref a0), (2, .int x2), (3, .ref a3)]) hx hb dX10_differentPositions_54 hl (k := 4) rfl (by rw [ex_2]; rfl) (by decide) rfl (fun ls hl => ?_)
  refine lv_goto (tgt := 24) hx hb dX10_differentPositions_57 (by decide) ?_
  exact q_24 hp hW hE (lv_sub hl [2, 1, 3, 4, 0] rfl) hL_a0 hK_a0
set_option maxHeartbeats 4000000 in
set_option maxRecDepth 100000 in
theorem t_X10_differentPositions_24 {p : Program} {l : Launch} {e : Env} {s : State} {m : MethodId} {args : Array Value} {below : List Frame} {meth : Method} {c : Code} {D : wD} {cy : Nat → ClassId} {X : va_W} {A : Nat → Prop} {S0 : wS} {post : Int32 → wS → Prop} (F : CallFix p m c cX10_differentPositions 5 s args wz_X10_differentPositions RX10) (hr : meth.sig.returnType = (some .int)) (hlocks : meth.locks = false) (hK : wK D cy A s) {k_4 : wS → Nat → Int32 → Int32 → Prop} (q_4 : ∀ {S : wS} {H : Heap} {locs : List Loc} {ls : Array Slot} {a0 : Nat} {x1 : Int32} {x2 : Int32}, k_4 S a0 x1 x2 → wO D cy X A s.heap S H locs → wX D S0 S → lv_has ls 5 [(0, .ref a0), (1, .int x1), (2, .int x2)] → wM D S a0 → sK S a0 = 15 → W p l e r_X10_differentPositions s m args below meth c H locs 0 0 (MQ below (va_Qi (fun r S9 => wX D S0 S9 ∧ post r S9) (wB D cy X A) A) args s 0 0 A) (F0 m 4 ls [])) : ∀ (n : Nat) {S : wS} {H : Heap} {locs : List Loc} {ls : Array Slot} {a0 : Nat} {x1 : Int32} {x2 : Int32} {g3 : Option Nat} {x4 : Int32}, wp_X10_differentPositions_24 D post k_4 n S a0 x1 x2 g3 x4 → wO D cy X A s.heap S H locs → wX D S0 S → lv_has ls 5 [(0, .ref a0), (1, .int x1), (2, .int x2), (3, va_rf g3), (4, .int x4)] → wM D S a0 → sK S a0 = 15 → W p l e r_X10_differentPositions s m args below meth c H locs 0 0 (MQ below (va_Qi (fun r S9 => wX D S0 S9 ∧ post r S9) (wB D cy X A) A) args s 0 0 A) (F0 m 24 ls []) := by
  obtain ⟨hx, hb, hml, hown, hts⟩ := id F
  have hwg : ∀ w ∈ WG, w.before args s = true := fun w h => hts w (List.mem_cons_of_mem _ h)
  have i_8 : ∀ w ∈ u_ws RX3 TX3 9, w ∈ wz_X10_differentPositions := fun w h => List.mem_cons_of_mem _ (wu_8 w h)
  intro n
  induction n with
  | zero =>
    intro S H locs ls a0 x1 x2 g3 x4 hp
    exact hp.elim
  | succ n ih =>
    intro S H locs ls a0 x1 x2 g3 x4 hp hW hE hl hL_a0 hK_a0
    unfold wp_X10_differentPositions_24 at hp
    refine w_aload_n hx hb dX10_differentPositions_24 rfl (lv_at hl 3 rfl) ?_
    refine w_ifnull (tgt := 60) hx hb dX10_differentPositions_25 (by decide) (fun h_2 => ?_) (fun y_1 h_2 => ?_)
    · replace hp := hp.1 h_2
      revert hp; revert hl; revert hW; revert hE; subst h_2; intro hE hW hl hp
      exact t_X10_differentPositions_60 F hr hlocks hK q_4 hp hW hE (lv_sub hl [0, 1, 2] rfl) hL_a0 hK_a0
    · replace hp := hp.2 y_1 h_2
      revert hp; revert hl; revert hW; revert hE; subst h_2; intro hE hW hl hp
      obtain ⟨hL_y_1, hK_y_1, hp⟩ := hp
      refine lv_iload hx hb dX10_differentPositions_28 (lv_at hl 4 rfl) ?_
      refine lv_aload_n hx hb dX10_differentPositions_30 rfl (lv_at hl 3 rfl) ?_
      refine w_getN (k := 8) (f := 3) (T := TX3) (v := .int (sI S y_1 3)) F hK hW hL_y_1 hK_y_1 (by decide) rfl rfl (by decide) i_8 (hK.2.1 (.fieldLinkNest "OpeningsCabinet$Shelf" 31 "OpeningsCabinet$Game" "length" "I" "OpeningsCabinet") (by decide +kernel)) rfl dX10_differentPositions_31 ?_
      refine lv_icmp_gt (tgt := 60) hx hb dX10_differentPositions_34 (by decide) (fun c_3 => ?_) (fun c_3 => ?_)
      · replace hp := hp.1 c_3
        exact t_X10_differentPositions_60 F hr hlocks hK q_4 hp hW hE (lv_sub hl [0, 1, 2] rfl) hL_a0 hK_a0
      · replace hp := hp.2 c_3
        refine lv_iload_n hx hb dX10_differentPositions_37 rfl (lv_at hl 1 rfl) ?_
        refine lv_aload_n hx hb dX10_differentPositions_38 rfl (lv_at hl 3 rfl) ?_
        refine lv_iload hx hb dX10_differentPositions_39 (lv_at hl 4 rfl) ?_
        refine w_callI (va_runV (As := [.int x4]) (rest := [.int x1]) F (c_X3_isFreshAt l hL_y_1 hK_y_1 hp H.size) (cwV (C := RX3) 1 hts (wg_V wm_RX10_59 wy_X3_isFreshAt) rfl rfl rfl (by decide +kernel) ⟨Nat.le_of_ble_eq_true rfl, Nat.le_of_ble_eq_true rfl⟩) (w_preV hK hW hL_y_1 hK_y_1 (by decide) rfl) rfl rfl hl.1 rfl (lv_room (Nat.le_of_ble_eq_true rfl)) dX10_differentPositions_41 ⟨Nat.le_of_ble_eq_true rfl, Nat.le_of_ble_eq_true rfl⟩) hW (fun r_4 S_5 H locs hp hW => ?_)
        obtain ⟨hX_S_5, hp⟩ := hp
        refine W.widen (k := 0) (n := 0) (by decide) (by decide) ?_
        have hE := hE.trans hX_S_5
        have hK_a0 : sK S_5 a0 = 15 := (hX_S_5.2 a0 hL_a0).1.trans hK_a0
        have hL_a0 : wM D S_5 a0 := hX_S_5.M hL_a0
        have hK_y_1 : sK S_5 y_1 = 8 := (hX_S_5.2 y_1 hL_y_1).1.trans hK_y_1
        have hL_y_1 : wM D S_5 y_1 := hX_S_5.M hL_y_1
        refine lv_if_eq (tgt := 51) hx hb dX10_differentPositions_44 (by decide) (fun c_6 => ?_) (fun c_6 => ?_)
        · replace hp := hp.1 c_6
          refine lv_iconst (v := 0) hx hb dX10_differentPositions_51 (by decide) ?_
          exact t_X10_differentPositions_52 F hr hlocks hK q_4 ih hp hW hE (lv_sub hl [0, 2, 3, 4] rfl) hL_a0 hK_a0 hL_y_1 hK_y_1
        · replace hp := hp.2 c_6
          refine lv_iconst (v := 1) hx hb dX10_differentPositions_47 (by decide) ?_
          refine lv_goto (tgt := 52) hx hb dX10_differentPositions_48 (by decide) ?_
          exact t_X10_differentPositions_52 F hr hlocks hK q_4 ih hp hW hE (lv_sub hl [0, 2, 3, 4] rfl) hL_a0 hK_a0 hL_y_1 hK_y_1
set_option maxHeartbeats 4000000 in
set_option maxRecDepth 100000 in
theorem t_X10_differentPositions_4 {p : Program} {l : Launch} {e : Env} {s : State} {m : MethodId} {args : Array Value} {below : List Frame} {meth : Method} {c : Code} {D : wD} {cy : Nat → ClassId} {X : va_W} {A : Nat → Prop} {S0 : wS} {post : Int32 → wS → Prop} (F : CallFix p m c cX10_differentPositions 5 s args wz_X10_differentPositions RX10) (hr : meth.sig.returnType = (some .int)) (hlocks : meth.locks = false) (hK : wK D cy A s) : ∀ (n : Nat) {S : wS} {H : Heap} {locs : List Loc} {ls : Array Slot} {a0 : Nat} {x1 : Int32} {x2 : Int32}, wp_X10_differentPositions_4 D post n S a0 x1 x2 → wO D cy X A s.heap S H locs → wX D S0 S → lv_has ls 5 [(0, .ref a0), (1, .int x1), (2, .int x2)] → wM D S a0 → sK S a0 = 15 → W p l e r_X10_differentPositions s m args below meth c H locs 0 0 (MQ below (va_Qi (fun r S9 => wX D S0 S9 ∧ post r S9) (wB D cy X A) A) args s 0 0 A) (F0 m 4 ls []) := by
  obtain ⟨hx, hb, hml, hown, hts⟩ := id F
  have hwg : ∀ w ∈ WG, w.before args s = true := fun w h => hts w (List.mem_cons_of_mem _ h)
  have i_15 : ∀ w ∈ u_ws RX10 TX10 1, w ∈ wz_X10_differentPositions := fun w h => List.mem_cons_of_mem _ (wu_15 w h)
  have k_12 := hwg _ wf_RX10_12
  intro n
  induction n with
  | zero =>
    intro S H locs ls a0 x1 x2 hp
    exact hp.elim
  | succ n ih =>
    intro S H locs ls a0 x1 x2 hp hW hE hl hL_a0 hK_a0
    unfold wp_X10_differentPositions_4 at hp
    refine lv_iload_n hx hb dX10_differentPositions_4 rfl (lv_at hl 2 rfl) ?_
    refine lv_aload_n hx hb dX10_differentPositions_5 rfl (lv_at hl 0 rfl) ?_
    obtain ⟨y_1, ey_1, hL_y_1, hK_y_1, hp⟩ := hp
    refine w_get (k := 15) (f := 0) (T := TX10) (v := .ref y_1) F hK hW hL_a0 hK_a0 (by decide) rfl rfl (by decide) i_15 k_12 (by rw [show wv 15 0 S a0 = va_rf (sR S a0 0) from rfl, ey_1]; rfl) dX10_differentPositions_6 ?_
    refine w_callI (va_runV (As := []) (rest := [.int x2]) F (c_Jx4a65c_size_8abf5 l hL_y_1 hK_y_1 hp H.size) (cwV (C := RJx4a65c) 0 hts (wg_V wm_RX10_18 wy_Jx4a65c_size_8abf5) rfl rfl rfl (by decide +kernel) ⟨Nat.le_of_ble_eq_true rfl, Nat.le_of_ble_eq_true rfl⟩) (w_preV hK hW hL_y_1 hK_y_1 (by decide) rfl) rfl rfl hl.1 rfl (lv_room (Nat.le_of_ble_eq_true rfl)) dX10_differentPositions_9 ⟨Nat.le_of_ble_eq_true rfl, Nat.le_of_ble_eq_true rfl⟩) hW (fun r_2 S_3 H locs hp hW => ?_)
    obtain ⟨hX_S_3, hp⟩ := hp
    refine W.widen (k := 0) (n := 0) (by decide) (by decide) ?_
    have hE := hE.trans hX_S_3
    have hK_a0 : sK S_3 a0 = 15 := (hX_S_3.2 a0 hL_a0).1.trans hK_a0
    have hL_a0 : wM D S_3 a0 := hX_S_3.M hL_a0
    refine lv_icmp_ge (tgt := 66) hx hb dX10_differentPositions_12 (by decide) (fun c_4 => ?_) (fun c_4 => ?_)
    · replace hp := hp.1 c_4
      refine lv_iload_n hx hb dX10_differentPositions_66 rfl (lv_at hl 1 rfl) ?_
      exact w_iret hx hb hr hlocks hW ⟨hE, hp⟩ dX10_differentPositions_67
    · replace hp := hp.2 c_4
      refine lv_aload_n hx hb dX10_differentPositions_15 rfl (lv_at hl 0 rfl) ?_
      refine lv_iload_n hx hb dX10_differentPositions_16 rfl (lv_at hl 2 rfl) ?_
      refine w_callR (va_runV (As := [.int x2]) (rest := []) F (c_X10_gameAt l hL_a0 hK_a0 hp H.size) (cwV (C := RX10) 1 hts (wg_V wm_RX10_51 wy_X10_gameAt) rfl rfl rfl (by decide +kernel) ⟨Nat.le_of_ble_eq_true rfl, Nat.le_of_ble_eq_true rfl⟩) (w_preV hK hW hL_a0 hK_a0 (by decide) rfl) rfl rfl hl.1 rfl (lv_room (Nat.le_of_ble_eq_true rfl)) dX10_differentPositions_17 ⟨Nat.le_of_ble_eq_true rfl, Nat.le_of_ble_eq_true rfl⟩) hW (fun r_5 S_6 H locs hp hW => ?_)
      obtain ⟨hX_S_6, hp⟩ := hp
      refine W.widen (k := 0) (n := 0) (by decide) (by decide) ?_
      have hE := hE.trans hX_S_6
      have hK_a0 : sK S_6 a0 = 15 := (hX_S_6.2 a0 hL_a0).1.trans hK_a0
      have hL_a0 : wM D S_6 a0 := hX_S_6.M hL_a0
      refine w_astore_n (lv' := [(3, va_rf r_5), (0, .ref a0), (1, .int x1), (2, .int x2)]) hx hb dX10_differentPositions_20 rfl hl (by decide) rfl (fun ls hl => ?_)
      refine lv_iconst (v := 0) hx hb dX10_differentPositions_21 (by decide) ?_
      refine lv_istore (lv' := [(4, .int (0 : Int32)), (3, va_rf r_5), (0, .ref a0), (1, .int x1), (2, .int x2)]) hx hb dX10_differentPositions_22 hl (by decide) (by cases r_5 <;> rfl) (fun ls hl => ?_)
      obtain ⟨n_7, hp⟩ := hp
      exact t_X10_differentPositions_24 F hr hlocks hK ih n_7 hp hW hE (lv_sub hl [2, 3, 4, 1, 0] rfl) hL_a0 hK_a0
set_option maxHeartbeats 4000000 in
set_option maxRecDepth 100000 in
theorem t_X10_differentPositions_0 {p : Program} {l : Launch} {e : Env} {s : State} {m : MethodId} {args : Array Value} {below : List Frame} {meth : Method} {c : Code} {D : wD} {cy : Nat → ClassId} {X : va_W} {A : Nat → Prop} {S0 : wS} {post : Int32 → wS → Prop} (F : CallFix p m c cX10_differentPositions 5 s args wz_X10_differentPositions RX10) (hr : meth.sig.returnType = (some .int)) (hlocks : meth.locks = false) (hK : wK D cy A s) : ∀ {S : wS} {H : Heap} {locs : List Loc} {ls : Array Slot} {a0 : Nat}, wp_X10_differentPositions_0 D post S a0 → wO D cy X A s.heap S H locs → wX D S0 S → lv_has ls 5 [(0, .ref a0)] → wM D S a0 → sK S a0 = 15 → W p l e r_X10_differentPositions s m args below meth c H locs 0 0 (MQ below (va_Qi (fun r S9 => wX D S0 S9 ∧ post r S9) (wB D cy X A) A) args s 0 0 A) (F0 m 0 ls []) := by
  obtain ⟨hx, hb, hml, hown, hts⟩ := id F
  have hwg : ∀ w ∈ WG, w.before args s = true := fun w h => hts w (List.mem_cons_of_mem _ h)
  intro S H locs ls a0 hp hW hE hl hL_a0 hK_a0
  unfold wp_X10_differentPositions_0 at hp
  refine lv_iconst (v := 0) hx hb dX10_differentPositions_0 (by decide) ?_
  refine lv_istore_n (lv' := [(1, .int (0 : Int32)), (0, .ref a0)]) hx hb dX10_differentPositions_1 rfl hl (by decide) rfl (fun ls hl => ?_)
  refine lv_iconst (v := 0) hx hb dX10_differentPositions_2 (by decide) ?_
  refine lv_istore_n (lv' := [(2, .int (0 : Int32)), (1, .int (0 : Int32)), (0, .ref a0)]) hx hb dX10_differentPositions_3 rfl hl (by decide) rfl (fun ls hl => ?_)
  obtain ⟨n_1, hp⟩ := hp
  exact t_X10_differentPositions_4 F hr hlocks hK n_1 hp hW hE (lv_sub hl [2, 1, 0] rfl) hL_a0 hK_a0
set_option maxHeartbeats 4000000 in
set_option maxRecDepth 100000 in
theorem c_X10_differentPositions (l : Launch) {D : wD} {cy : Nat → ClassId} {X : va_W} {S0 : wS} {post : Int32 → wS → Prop} {a0 : Nat} (hL_a0 : wM D S0 a0) (hK_a0 : sK S0 a0 = 15) (hp : wp_X10_differentPositions D post S0 a0) : mI D cy X l yX10_differentPositions wz_X10_differentPositions r_X10_differentPositions [.ref a0] S0 (fun r S9 => wX D S0 S9 ∧ post r S9) := by
  intro sz
  refine Met.ofW (cc := cX10_differentPositions) (maxL := 5) (ret := (some .int)) (by decide) rfl ?_
  intro p e s m args below meth c s₁ B hml hv
  obtain ⟨rfl, hsz, hP, hK, hD0, hRO⟩ := hv
  have hts := atoms_spec (ws := wz_X10_differentPositions) B.pre
  have hown : s.vm.findClass RX10 = some m.cls := findClass_of_methodNamed B.named
  subst hsz
  have hD := hD0.self (sz := s.heap.size)
  have F : CallFix p m c cX10_differentPositions 5 s _ wz_X10_differentPositions RX10 := ⟨B.exec, B.bytes, hml, hown, hts⟩
  have hr := B.returns
  have hlocks := B.notSynchronized
  generalize hAe : va_A (wL cy X S0) s.heap.size = A at hD hK ⊢
  have hA : ∀ q, s.heap.size ≤ q → A q := fun q h => by rw [← hAe]; exact Or.inr h
  have hW : wO D cy X A s.heap S0 s.heap [] := ⟨hP, hD, va_S.rf, hA, hRO⟩
  have hl := lv_entry ([.ref a0]) (n := 5) (Nat.le_of_ble_eq_true rfl)
  rw [lg_entry_eq]
  generalize (lg_sl ([.ref a0]) ++ List.replicate (5 - (lg_sl ([.ref a0])).length) Slot.unset).toArray = ls at hl ⊢
  have hl : lv_has ls 5 [(0, .ref a0)] := hl
  unfold wp_X10_differentPositions at hp
  exact t_X10_differentPositions_0 F hr hlocks hK hp hW wX.rf (lv_sub hl [0] rfl) hL_a0 hK_a0
def wp_X10_hasLike_33 (D : wD) (post : Int32 → wS → Prop) (k_2 : wS → Nat → Nat → Int32 → Prop) (S : wS) (a0 : Nat) (a1 : Nat) (x2 : Int32) : Prop :=
∀ x_1 : Int32, x_1 = x2 + 1 →
k_2 S a0 a1 x_1
def wp_X10_hasLike_2 (D : wD) (post : Int32 → wS → Prop)  : Nat → wS → Nat → Nat → Int32 → Prop
  | 0, _, _, _, _ => False
  | n + 1, S, a0, a1, x2 =>
    ∃ y_1 : Nat, sR S a0 0 = some y_1 ∧ wM D S y_1 ∧ sK S y_1 = 4 ∧
    wp_Jx4a65c_size_8abf5 D (fun r_2 S_3 => 
    ((r_2 ≤ x2 → narrow .boolean (.int (0 : Int32)) = .int (0 : Int32) ∧ post (0 : Int32) S_3) ∧
     (¬ r_2 ≤ x2 → wp_X10_gameAt D (fun r_5 S_6 => 
    ((r_5 = none → wp_X10_hasLike_33 D post (wp_X10_hasLike_2 D post n) S_6 a0 a1 x2) ∧
     (∀ y_7 : Nat, r_5 = some y_7 → wM D S_6 y_7 ∧ sK S_6 y_7 = 8 ∧ wp_X3_isLike D (fun r_9 S_10 => 
    ((r_9 = 0 → wp_X10_hasLike_33 D post (wp_X10_hasLike_2 D post n) S_10 a0 a1 x2) ∧
     (¬ r_9 = 0 → narrow .boolean (.int (1 : Int32)) = .int (1 : Int32) ∧ post (1 : Int32) S_10))) S_6 y_7 a1))) S_3 a0 x2))) S y_1
def wp_X10_hasLike_0 (D : wD) (post : Int32 → wS → Prop)  (S : wS) (a0 : Nat) (a1 : Nat) : Prop :=
∃ n_1 : Nat, wp_X10_hasLike_2 D post n_1 S a0 a1 (0 : Int32)
abbrev r_X10_hasLike : Room := { frames := 4, cells := 0, slots := 0, locals := 85 }
def wp_X10_hasLike (D : wD) (post : Int32 → wS → Prop) (S : wS) (a0 : Nat) (a1 : Nat) : Prop := wp_X10_hasLike_0 D post S a0 a1
set_option maxHeartbeats 4000000 in
set_option maxRecDepth 100000 in
theorem t_X10_hasLike_33 {p : Program} {l : Launch} {e : Env} {s : State} {m : MethodId} {args : Array Value} {below : List Frame} {meth : Method} {c : Code} {D : wD} {cy : Nat → ClassId} {X : va_W} {A : Nat → Prop} {S0 : wS} {post : Int32 → wS → Prop} (F : CallFix p m c cX10_hasLike 4 s args wz_X10_hasLike RX10) (hr : meth.sig.returnType = (some .boolean)) (hlocks : meth.locks = false) (hK : wK D cy A s) {k_2 : wS → Nat → Nat → Int32 → Prop} (q_2 : ∀ {S : wS} {H : Heap} {locs : List Loc} {ls : Array Slot} {a0 : Nat} {a1 : Nat} {x2 : Int32}, k_2 S a0 a1 x2 → wO D cy X A s.heap S H locs → wX D S0 S → lv_has ls 4 [(0, .ref a0), (1, .ref a1), (2, .int x2)] → wM D S a0 → sK S a0 = 15 → wM D S a1 → sK S a1 = 8 → W p l e r_X10_hasLike s m args below meth c H locs 0 0 (MQ below (va_Qi (fun r S9 => wX D S0 S9 ∧ post r S9) (wB D cy X A) A) args s 0 0 A) (F0 m 2 ls [])) : ∀ {S : wS} {H : Heap} {locs : List Loc} {ls : Array Slot} {a0 : Nat} {a1 : Nat} {x2 : Int32}, wp_X10_hasLike_33 D post k_2 S a0 a1 x2 → wO D cy X A s.heap S H locs → wX D S0 S → lv_has ls 4 [(0, .ref a0), (1, .ref a1), (2, .int x2)] → wM D S a0 → sK S a0 = 15 → wM D S a1 → sK S a1 = 8 → W p l e r_X10_hasLike s m args below meth c H locs 0 0 (MQ below (va_Qi (fun r S9 => wX D S0 S9 ∧ post r S9) (wB D cy X A) A) args s 0 0 A) (F0 m 33 ls []) := by
  obtain ⟨hx, hb, hml, hown, hts⟩ := id F
  have hwg : ∀ w ∈ WG, w.before args s = true := fun w h => hts w (List.mem_cons_of_mem _ h)
  intro S H locs ls a0 a1 x2 hp hW hE hl hL_a0 hK_a0 hL_a1 hK_a1
  unfold wp_X10_hasLike_33 at hp
  obtain ⟨x_1, ex_1⟩ : ∃ z : Int32, z = x2 + 1 := ⟨_, rfl⟩
  replace hp := hp x_1 ex_1
  refine lv_iinc (v := x_1) (lv' := [(2, .int x_1), (0, .ref a0), (1, .ref a1)]) hx hb dX10_hasLike_33 hl (k := 2) rfl (by rw [ex_1]; rfl) (by decide) rfl (fun ls hl => ?_)
  refine lv_goto (tgt := 2) hx hb dX10_hasLike_36 (by decide) ?_
  exact q_2 hp hW hE (lv_sub hl [1, 2, 0] rfl) hL_a0 hK_a0 hL_a1 hK_a1
set_option maxHeartbeats 4000000 in
set_option maxRecDepth 100000 in
theorem t_X10_hasLike_2 {p : Program} {l : Launch} {e : Env} {s : State} {m : MethodId} {args : Array Value} {below : List Frame} {meth : Method} {c : Code} {D : wD} {cy : Nat → ClassId} {X : va_W} {A : Nat → Prop} {S0 : wS} {post : Int32 → wS → Prop} (F : CallFix p m c cX10_hasLike 4 s args wz_X10_hasLike RX10) (hr : meth.sig.returnType = (some .boolean)) (hlocks : meth.locks = false) (hK : wK D cy A s) : ∀ (n : Nat) {S : wS} {H : Heap} {locs : List Loc} {ls : Array Slot} {a0 : Nat} {a1 : Nat} {x2 : Int32}, wp_X10_hasLike_2 D post n S a0 a1 x2 → wO D cy X A s.heap S H locs → wX D S0 S → lv_has ls 4 [(0, .ref a0), (1, .ref a1), (2, .int x2)] → wM D S a0 → sK S a0 = 15 → wM D S a1 → sK S a1 = 8 → W p l e r_X10_hasLike s m args below meth c H locs 0 0 (MQ below (va_Qi (fun r S9 => wX D S0 S9 ∧ post r S9) (wB D cy X A) A) args s 0 0 A) (F0 m 2 ls []) := by
  obtain ⟨hx, hb, hml, hown, hts⟩ := id F
  have hwg : ∀ w ∈ WG, w.before args s = true := fun w h => hts w (List.mem_cons_of_mem _ h)
  have i_15 : ∀ w ∈ u_ws RX10 TX10 1, w ∈ wz_X10_hasLike := fun w h => List.mem_cons_of_mem _ (wu_15 w h)
  have k_12 := hwg _ wf_RX10_12
  intro n
  induction n with
  | zero =>
    intro S H locs ls a0 a1 x2 hp
    exact hp.elim
  | succ n ih =>
    intro S H locs ls a0 a1 x2 hp hW hE hl hL_a0 hK_a0 hL_a1 hK_a1
    unfold wp_X10_hasLike_2 at hp
    refine lv_iload_n hx hb dX10_hasLike_2 rfl (lv_at hl 2 rfl) ?_
    refine lv_aload_n hx hb dX10_hasLike_3 rfl (lv_at hl 0 rfl) ?_
    obtain ⟨y_1, ey_1, hL_y_1, hK_y_1, hp⟩ := hp
    refine w_get (k := 15) (f := 0) (T := TX10) (v := .ref y_1) F hK hW hL_a0 hK_a0 (by decide) rfl rfl (by decide) i_15 k_12 (by rw [show wv 15 0 S a0 = va_rf (sR S a0 0) from rfl, ey_1]; rfl) dX10_hasLike_4 ?_
    refine w_callI (va_runV (As := []) (rest := [.int x2]) F (c_Jx4a65c_size_8abf5 l hL_y_1 hK_y_1 hp H.size) (cwV (C := RJx4a65c) 0 hts (wg_V wm_RX10_18 wy_Jx4a65c_size_8abf5) rfl rfl rfl (by decide +kernel) ⟨Nat.le_of_ble_eq_true rfl, Nat.le_of_ble_eq_true rfl⟩) (w_preV hK hW hL_y_1 hK_y_1 (by decide) rfl) rfl rfl hl.1 rfl (lv_room (Nat.le_of_ble_eq_true rfl)) dX10_hasLike_7 ⟨Nat.le_of_ble_eq_true rfl, Nat.le_of_ble_eq_true rfl⟩) hW (fun r_2 S_3 H locs hp hW => ?_)
    obtain ⟨hX_S_3, hp⟩ := hp
    refine W.widen (k := 0) (n := 0) (by decide) (by decide) ?_
    have hE := hE.trans hX_S_3
    have hK_a0 : sK S_3 a0 = 15 := (hX_S_3.2 a0 hL_a0).1.trans hK_a0
    have hL_a0 : wM D S_3 a0 := hX_S_3.M hL_a0
    have hK_a1 : sK S_3 a1 = 8 := (hX_S_3.2 a1 hL_a1).1.trans hK_a1
    have hL_a1 : wM D S_3 a1 := hX_S_3.M hL_a1
    refine lv_icmp_ge (tgt := 39) hx hb dX10_hasLike_10 (by decide) (fun c_4 => ?_) (fun c_4 => ?_)
    · replace hp := hp.1 c_4
      refine lv_iconst (v := 0) hx hb dX10_hasLike_39 (by decide) ?_
      exact w_zret hx hb hr hlocks hW hp.1 ⟨hE, hp.2⟩ dX10_hasLike_40
    · replace hp := hp.2 c_4
      refine lv_aload_n hx hb dX10_hasLike_13 rfl (lv_at hl 0 rfl) ?_
      refine lv_iload_n hx hb dX10_hasLike_14 rfl (lv_at hl 2 rfl) ?_
      refine w_callR (va_runV (As := [.int x2]) (rest := []) F (c_X10_gameAt l hL_a0 hK_a0 hp H.size) (cwV (C := RX10) 1 hts (wg_V wm_RX10_51 wy_X10_gameAt) rfl rfl rfl (by decide +kernel) ⟨Nat.le_of_ble_eq_true rfl, Nat.le_of_ble_eq_true rfl⟩) (w_preV hK hW hL_a0 hK_a0 (by decide) rfl) rfl rfl hl.1 rfl (lv_room (Nat.le_of_ble_eq_true rfl)) dX10_hasLike_15 ⟨Nat.le_of_ble_eq_true rfl, Nat.le_of_ble_eq_true rfl⟩) hW (fun r_5 S_6 H locs hp hW => ?_)
      obtain ⟨hX_S_6, hp⟩ := hp
      refine W.widen (k := 0) (n := 0) (by decide) (by decide) ?_
      have hE := hE.trans hX_S_6
      have hK_a0 : sK S_6 a0 = 15 := (hX_S_6.2 a0 hL_a0).1.trans hK_a0
      have hL_a0 : wM D S_6 a0 := hX_S_6.M hL_a0
      have hK_a1 : sK S_6 a1 = 8 := (hX_S_6.2 a1 hL_a1).1.trans hK_a1
      have hL_a1 : wM D S_6 a1 := hX_S_6.M hL_a1
      refine w_astore_n (lv' := [(3, va_rf r_5), (0, .ref a0), (1, .ref a1), (2, .int x2)]) hx hb dX10_hasLike_18 rfl hl (by decide) rfl (fun ls hl => ?_)
      refine w_aload_n hx hb dX10_hasLike_19 rfl (lv_at hl 0 rfl) ?_
      refine w_ifnull (tgt := 33) hx hb dX10_hasLike_20 (by decide) (fun h_8 => ?_) (fun y_7 h_8 => ?_)
      · replace hp := hp.1 h_8
        revert hp; revert hl; revert hW; revert hE; subst h_8; intro hE hW hl hp
        exact t_X10_hasLike_33 F hr hlocks hK ih hp hW hE (lv_sub hl [1, 2, 3] rfl) hL_a0 hK_a0 hL_a1 hK_a1
      · replace hp := hp.2 y_7 h_8
        revert hp; revert hl; revert hW; revert hE; subst h_8; intro hE hW hl hp
        obtain ⟨hL_y_7, hK_y_7, hp⟩ := hp
        refine lv_aload_n hx hb dX10_hasLike_23 rfl (lv_at hl 0 rfl) ?_
        refine lv_aload_n hx hb dX10_hasLike_24 rfl (lv_at hl 2 rfl) ?_
        refine w_callI (va_runV (As := [.ref a1]) (rest := []) F (c_X3_isLike l hL_y_7 hK_y_7 hL_a1 hK_a1 hp H.size) (cwV (C := RX3) 1 hts (wg_V wm_RX10_55 wy_X3_isLike) rfl rfl rfl (by decide +kernel) ⟨Nat.le_of_ble_eq_true rfl, Nat.le_of_ble_eq_true rfl⟩) (w_preV hK hW hL_y_7 hK_y_7 (by decide) rfl) rfl rfl hl.1 rfl (lv_room (Nat.le_of_ble_eq_true rfl)) dX10_hasLike_25 ⟨Nat.le_of_ble_eq_true rfl, Nat.le_of_ble_eq_true rfl⟩) hW (fun r_9 S_10 H locs hp hW => ?_)
        obtain ⟨hX_S_10, hp⟩ := hp
        refine W.widen (k := 0) (n := 0) (by decide) (by decide) ?_
        have hE := hE.trans hX_S_10
        have hK_a0 : sK S_10 a0 = 15 := (hX_S_10.2 a0 hL_a0).1.trans hK_a0
        have hL_a0 : wM D S_10 a0 := hX_S_10.M hL_a0
        have hK_a1 : sK S_10 a1 = 8 := (hX_S_10.2 a1 hL_a1).1.trans hK_a1
        have hL_a1 : wM D S_10 a1 := hX_S_10.M hL_a1
        have hK_y_7 : sK S_10 y_7 = 8 := (hX_S_10.2 y_7 hL_y_7).1.trans hK_y_7
        have hL_y_7 : wM D S_10 y_7 := hX_S_10.M hL_y_7
        refine lv_if_eq (tgt := 33) hx hb dX10_hasLike_28 (by decide) (fun c_11 => ?_) (fun c_11 => ?_)
        · replace hp := hp.1 c_11
          exact t_X10_hasLike_33 F hr hlocks hK ih hp hW hE (lv_sub hl [1, 2, 3] rfl) hL_a0 hK_a0 hL_a1 hK_a1
        · replace hp := hp.2 c_11
          refine lv_iconst (v := 1) hx hb dX10_hasLike_31 (by decide) ?_
          exact w_zret hx hb hr hlocks hW hp.1 ⟨hE, hp.2⟩ dX10_hasLike_32
set_option maxHeartbeats 4000000 in
set_option maxRecDepth 100000 in
theorem t_X10_hasLike_0 {p : Program} {l : Launch} {e : Env} {s : State} {m : MethodId} {args : Array Value} {below : List Frame} {meth : Method} {c : Code} {D : wD} {cy : Nat → ClassId} {X : va_W} {A : Nat → Prop} {S0 : wS} {post : Int32 → wS → Prop} (F : CallFix p m c cX10_hasLike 4 s args wz_X10_hasLike RX10) (hr : meth.sig.returnType = (some .boolean)) (hlocks : meth.locks = false) (hK : wK D cy A s) : ∀ {S : wS} {H : Heap} {locs : List Loc} {ls : Array Slot} {a0 : Nat} {a1 : Nat}, wp_X10_hasLike_0 D post S a0 a1 → wO D cy X A s.heap S H locs → wX D S0 S → lv_has ls 4 [(0, .ref a0), (1, .ref a1)] → wM D S a0 → sK S a0 = 15 → wM D S a1 → sK S a1 = 8 → W p l e r_X10_hasLike s m args below meth c H locs 0 0 (MQ below (va_Qi (fun r S9 => wX D S0 S9 ∧ post r S9) (wB D cy X A) A) args s 0 0 A) (F0 m 0 ls []) := by
  obtain ⟨hx, hb, hml, hown, hts⟩ := id F
  have hwg : ∀ w ∈ WG, w.before args s = true := fun w h => hts w (List.mem_cons_of_mem _ h)
  intro S H locs ls a0 a1 hp hW hE hl hL_a0 hK_a0 hL_a1 hK_a1
  unfold wp_X10_hasLike_0 at hp
  refine lv_iconst (v := 0) hx hb dX10_hasLike_0 (by decide) ?_
  refine lv_istore_n (lv' := [(2, .int (0 : Int32)), (0, .ref a0), (1, .ref a1)]) hx hb dX10_hasLike_1 rfl hl (by decide) rfl (fun ls hl => ?_)
  obtain ⟨n_1, hp⟩ := hp
  exact t_X10_hasLike_2 F hr hlocks hK n_1 hp hW hE (lv_sub hl [1, 2, 0] rfl) hL_a0 hK_a0 hL_a1 hK_a1
set_option maxHeartbeats 4000000 in
set_option maxRecDepth 100000 in
theorem c_X10_hasLike (l : Launch) {D : wD} {cy : Nat → ClassId} {X : va_W} {S0 : wS} {post : Int32 → wS → Prop} {a0 : Nat} {a1 : Nat} (hL_a0 : wM D S0 a0) (hK_a0 : sK S0 a0 = 15) (hL_a1 : wM D S0 a1) (hK_a1 : sK S0 a1 = 8) (hp : wp_X10_hasLike D post S0 a0 a1) : mI D cy X l yX10_hasLike wz_X10_hasLike r_X10_hasLike [.ref a0, .ref a1] S0 (fun r S9 => wX D S0 S9 ∧ post r S9) := by
  intro sz
  refine Met.ofW (cc := cX10_hasLike) (maxL := 4) (ret := (some .boolean)) (by decide) rfl ?_
  intro p e s m args below meth c s₁ B hml hv
  obtain ⟨rfl, hsz, hP, hK, hD0, hRO⟩ := hv
  have hts := atoms_spec (ws := wz_X10_hasLike) B.pre
  have hown : s.vm.findClass RX10 = some m.cls := findClass_of_methodNamed B.named
  subst hsz
  have hD := hD0.self (sz := s.heap.size)
  have F : CallFix p m c cX10_hasLike 4 s _ wz_X10_hasLike RX10 := ⟨B.exec, B.bytes, hml, hown, hts⟩
  have hr := B.returns
  have hlocks := B.notSynchronized
  generalize hAe : va_A (wL cy X S0) s.heap.size = A at hD hK ⊢
  have hA : ∀ q, s.heap.size ≤ q → A q := fun q h => by rw [← hAe]; exact Or.inr h
  have hW : wO D cy X A s.heap S0 s.heap [] := ⟨hP, hD, va_S.rf, hA, hRO⟩
  have hl := lv_entry ([.ref a0, .ref a1]) (n := 4) (Nat.le_of_ble_eq_true rfl)
  rw [lg_entry_eq]
  generalize (lg_sl ([.ref a0, .ref a1]) ++ List.replicate (4 - (lg_sl ([.ref a0, .ref a1])).length) Slot.unset).toArray = ls at hl ⊢
  have hl : lv_has ls 4 [(0, .ref a0), (1, .ref a1)] := hl
  unfold wp_X10_hasLike at hp
  exact t_X10_hasLike_0 F hr hlocks hK hp hW wX.rf (lv_sub hl [0, 1] rfl) hL_a0 hK_a0 hL_a1 hK_a1
def wp_X10_init_0 (D : wD) (post : wS → Prop)  (S : wS) (a0 : Nat) : Prop :=
∀ y_1 : Nat, ¬ wM D S y_1 → ∀ S_2 : wS, S_2 = nA S y_1 4 0 →
wp_Jx4a65c_init_da8c8 D (fun S_4 => 
∀ S_5 : wS, S_5 = uR S_4 a0 0 (some y_1) →
post S_5) S_2 y_1
abbrev r_X10_init : Room := { frames := 4, cells := 1, slots := 3, locals := 120 }
def wp_X10_init (D : wD) (post : wS → Prop) (S : wS) (a0 : Nat) : Prop := wp_X10_init_0 D post S a0
set_option maxHeartbeats 4000000 in
set_option maxRecDepth 100000 in
theorem t_X10_init_0 {p : Program} {l : Launch} {e : Env} {s : State} {m : MethodId} {args : Array Value} {below : List Frame} {meth : Method} {c : Code} {D : wD} {cy : Nat → ClassId} {X : va_W} {A : Nat → Prop} {S0 : wS} {post : wS → Prop} (F : CallFix p m c cX10_init 1 s args wz_X10_init RX10) (hr : meth.sig.returnType = none) (hlocks : meth.locks = false) (hK : wK D cy A s) (hin : meth.name = "<init>") : ∀ {S : wS} {H : Heap} {locs : List Loc} {ls : Array Slot} {a0 : Nat}, wp_X10_init_0 D post S a0 → wO D cy X A s.heap S H locs → wX D S0 S → lv_has ls 1 [(0, .ref a0)] → wM D S a0 → sK S a0 = 15 → W p l e r_X10_init s m args below meth c H locs 0 0 (MQ below (va_Qv (fun S9 => wX D S0 S9 ∧ post S9) (wB D cy X A) A) args s 1 3 A) (F0 m 0 ls []) := by
  obtain ⟨hx, hb, hml, hown, hts⟩ := id F
  have hwg : ∀ w ∈ WG, w.before args s = true := fun w h => hts w (List.mem_cons_of_mem _ h)
  have i_15 : ∀ w ∈ u_ws RX10 TX10 1, w ∈ wz_X10_init := fun w h => List.mem_cons_of_mem _ (wu_15 w h)
  have k_12 := hwg _ wf_RX10_12
  intro S H locs ls a0 hp hW hE hl hL_a0 hK_a0
  unfold wp_X10_init_0 at hp
  refine lv_aload_n hx hb dX10_init_0 rfl (lv_at hl 0 rfl) ?_
  refine W.objInit hx hb hown (hwg _ wm_RX10_3) (hwg _ wobj.1) (hwg _ wobj.2) rfl (by rw [hml]; exact hl.1) rfl dX10_init_1 (Nat.le_of_ble_eq_true rfl) (Nat.le_of_ble_eq_true rfl) ?_
  refine W.eq (g2 := F0 m 4 ls []) rfl ?_
  refine lv_aload_n hx hb dX10_init_4 rfl (lv_at hl 0 rfl) ?_
  refine w_new (k := 4) (T := TJx4a65c) F hK hW rfl (by decide) (fun w h => List.mem_cons_of_mem _ (wu_4 w h)) tyJx4a65c tyJx4a65c_ok (hwg _ wc_RX10_9) (hwg _ wn_4) (hwg _ wi_java_util_ArrayList) wdef_4 (Nat.le_of_ble_eq_true rfl) (Nat.le_of_ble_eq_true rfl) dX10_init_5 (fun y_1 H hq_y_1 hW => ?_)
  refine W.widen (k := 1) (n := 3) (by decide) (by decide) ?_
  obtain ⟨S_2, eS_2⟩ : ∃ z : wS, z = nA S y_1 4 0 := ⟨_, rfl⟩
  rw [← eS_2] at hW
  replace hp := hp y_1 hq_y_1 S_2 eS_2
  have hX_S_2 : wX D S S_2 := by rw [eS_2]; exact wX_nA hq_y_1
  have hE := hE.trans hX_S_2
  have hK_a0 : sK S_2 a0 = 15 := (hX_S_2.2 a0 hL_a0).1.trans hK_a0
  have hL_a0 : wM D S_2 a0 := hX_S_2.M hL_a0
  have hL_y_1 : wM D S_2 y_1 := by rw [eS_2]; exact Or.inl (List.mem_append_right _ List.mem_cons_self)
  have hK_y_1 : sK S_2 y_1 = 4 := by rw [eS_2]; exact va_up_self _ _ _
  refine lv_dup hx hb dX10_init_8 rfl ?_
  refine w_callV (va_runI (As := []) (rest := [.ref y_1, .ref a0]) F (c_Jx4a65c_init_da8c8 l hL_y_1 hK_y_1 hp H.size) (cwI 0 hts (wg_cons wy_Jx4a65c_init_da8c8.2.2) rfl rfl rfl (hwg _ wy_Jx4a65c_init_da8c8.2.1) (hwg _ wm_RX10_11) (hwg _ wy_Jx4a65c_init_da8c8.1) rfl (by decide +kernel) ⟨Nat.le_of_ble_eq_true rfl, Nat.le_of_ble_eq_true rfl⟩) (w_preS hK hW) rfl rfl hl.1 rfl (lv_room (Nat.le_of_ble_eq_true rfl)) dX10_init_9 ⟨Nat.le_of_ble_eq_true rfl, Nat.le_of_ble_eq_true rfl⟩) hW (fun S_4 H locs hp hW => ?_)
  obtain ⟨hX_S_4, hp⟩ := hp
  refine W.widen (k := 1) (n := 3) (by decide) (by decide) ?_
  have hE := hE.trans hX_S_4
  have hK_a0 : sK S_4 a0 = 15 := (hX_S_4.2 a0 hL_a0).1.trans hK_a0
  have hL_a0 : wM D S_4 a0 := hX_S_4.M hL_a0
  have hK_y_1 : sK S_4 y_1 = 4 := (hX_S_4.2 y_1 hL_y_1).1.trans hK_y_1
  have hL_y_1 : wM D S_4 y_1 := hX_S_4.M hL_y_1
  refine w_putRF (k := 15) (f := 0) (T := TX10) (g := (some y_1)) F hK hW hL_a0 hK_a0 (by decide) (by decide) rfl rfl (by decide) i_15 tyX10 tyX10_ok nmX10 k_12 rfl rfl hin rfl (ty := (.object "java/util/ArrayList")) rfl (v_narrow _ _) (v_fitsO _ _) dX10_init_12 (fun H locs hW => ?_)
  obtain ⟨S_5, eS_5⟩ : ∃ z : wS, z = uR S_4 a0 0 (some y_1) := ⟨_, rfl⟩
  rw [← eS_5] at hW
  replace hp := hp S_5 eS_5
  have hX_S_5 : wX D S_4 S_5 := by rw [eS_5]; exact wX_uR
  have hE := hE.trans hX_S_5
  have hK_a0 : sK S_5 a0 = 15 := (hX_S_5.2 a0 hL_a0).1.trans hK_a0
  have hL_a0 : wM D S_5 a0 := hX_S_5.M hL_a0
  exact w_vret hx hb hr hlocks hW ⟨hE, hp⟩ dX10_init_15
set_option maxHeartbeats 4000000 in
set_option maxRecDepth 100000 in
theorem c_X10_init (l : Launch) {D : wD} {cy : Nat → ClassId} {X : va_W} {S0 : wS} {post : wS → Prop} {a0 : Nat} (hL_a0 : wM D S0 a0) (hK_a0 : sK S0 a0 = 15) (hp : wp_X10_init D post S0 a0) : mV D cy X l yX10_init wz_X10_init r_X10_init [.ref a0] S0 (fun S9 => wX D S0 S9 ∧ post S9) := by
  intro sz
  refine Met.ofW (cc := cX10_init) (maxL := 1) (ret := none) (by decide) rfl ?_
  intro p e s m args below meth c s₁ B hml hv
  obtain ⟨rfl, hsz, hP, hK, hD0, hRO⟩ := hv
  have hts := atoms_spec (ws := wz_X10_init) B.pre
  have hown : s.vm.findClass RX10 = some m.cls := findClass_of_methodNamed B.named
  subst hsz
  have hD := hD0.self (sz := s.heap.size)
  have F : CallFix p m c cX10_init 1 s _ wz_X10_init RX10 := ⟨B.exec, B.bytes, hml, hown, hts⟩
  have hr := B.returns
  have hlocks := B.notSynchronized
  have hin : meth.name = "<init>" := (name_of_methodNamed B.named B.method).1
  generalize hAe : va_A (wL cy X S0) s.heap.size = A at hD hK ⊢
  have hA : ∀ q, s.heap.size ≤ q → A q := fun q h => by rw [← hAe]; exact Or.inr h
  have hW : wO D cy X A s.heap S0 s.heap [] := ⟨hP, hD, va_S.rf, hA, hRO⟩
  have hl := lv_entry ([.ref a0]) (n := 1) (Nat.le_of_ble_eq_true rfl)
  rw [lg_entry_eq]
  generalize (lg_sl ([.ref a0]) ++ List.replicate (1 - (lg_sl ([.ref a0])).length) Slot.unset).toArray = ls at hl ⊢
  have hl : lv_has ls 1 [(0, .ref a0)] := hl
  unfold wp_X10_init at hp
  exact t_X10_init_0 F hr hlocks hK hin hp hW wX.rf (lv_sub hl [0] rfl) hL_a0 hK_a0
def wp_X10_movesOfAll_34 (D : wD) (post : Int32 → wS → Prop) (k_4 : wS → Nat → Int32 → Int32 → Prop) (S : wS) (a0 : Nat) (x2 : Int32) (t0 : Int32) (t1 : Int32) : Prop :=
∀ x_1 : Int32, x_1 = (t0 + t1) →
∀ x_2 : Int32, x_2 = x2 + 1 →
k_4 S a0 x_1 x_2
def wp_X10_movesOfAll_4 (D : wD) (post : Int32 → wS → Prop)  : Nat → wS → Nat → Int32 → Int32 → Prop
  | 0, _, _, _, _ => False
  | n + 1, S, a0, x1, x2 =>
    ∃ y_1 : Nat, sR S a0 0 = some y_1 ∧ wM D S y_1 ∧ sK S y_1 = 4 ∧
    wp_Jx4a65c_size_8abf5 D (fun r_2 S_3 => 
    ((r_2 ≤ x2 → post x1 S_3) ∧
     (¬ r_2 ≤ x2 → wp_X10_gameAt D (fun r_5 S_6 => 
    ((r_5 = none → wp_X10_movesOfAll_34 D post (wp_X10_movesOfAll_4 D post n) S_6 a0 x2 x1 (0 : Int32)) ∧
     (∀ y_7 : Nat, r_5 = some y_7 → wM D S_6 y_7 ∧ sK S_6 y_7 = 8 ∧ wp_X10_movesOfAll_34 D post (wp_X10_movesOfAll_4 D post n) S_6 a0 x2 x1 (sI S_6 y_7 3)))) S_3 a0 x2))) S y_1
def wp_X10_movesOfAll_0 (D : wD) (post : Int32 → wS → Prop)  (S : wS) (a0 : Nat) : Prop :=
∃ n_1 : Nat, wp_X10_movesOfAll_4 D post n_1 S a0 (0 : Int32) (0 : Int32)
abbrev r_X10_movesOfAll : Room := { frames := 4, cells := 0, slots := 0, locals := 85 }
def wp_X10_movesOfAll (D : wD) (post : Int32 → wS → Prop) (S : wS) (a0 : Nat) : Prop := wp_X10_movesOfAll_0 D post S a0
set_option maxHeartbeats 4000000 in
set_option maxRecDepth 100000 in
theorem t_X10_movesOfAll_34 {p : Program} {l : Launch} {e : Env} {s : State} {m : MethodId} {args : Array Value} {below : List Frame} {meth : Method} {c : Code} {D : wD} {cy : Nat → ClassId} {X : va_W} {A : Nat → Prop} {S0 : wS} {post : Int32 → wS → Prop} (F : CallFix p m c cX10_movesOfAll 4 s args wz_X10_movesOfAll RX10) (hr : meth.sig.returnType = (some .int)) (hlocks : meth.locks = false) (hK : wK D cy A s) {k_4 : wS → Nat → Int32 → Int32 → Prop} (q_4 : ∀ {S : wS} {H : Heap} {locs : List Loc} {ls : Array Slot} {a0 : Nat} {x1 : Int32} {x2 : Int32}, k_4 S a0 x1 x2 → wO D cy X A s.heap S H locs → wX D S0 S → lv_has ls 4 [(0, .ref a0), (1, .int x1), (2, .int x2)] → wM D S a0 → sK S a0 = 15 → W p l e r_X10_movesOfAll s m args below meth c H locs 0 0 (MQ below (va_Qi (fun r S9 => wX D S0 S9 ∧ post r S9) (wB D cy X A) A) args s 0 0 A) (F0 m 4 ls [])) : ∀ {S : wS} {H : Heap} {locs : List Loc} {ls : Array Slot} {a0 : Nat} {x2 : Int32} {t0 : Int32} {t1 : Int32}, wp_X10_movesOfAll_34 D post k_4 S a0 x2 t0 t1 → wO D cy X A s.heap S H locs → wX D S0 S → lv_has ls 4 [(0, .ref a0), (2, .int x2)] → wM D S a0 → sK S a0 = 15 → W p l e r_X10_movesOfAll s m args below meth c H locs 0 0 (MQ below (va_Qi (fun r S9 => wX D S0 S9 ∧ post r S9) (wB D cy X A) A) args s 0 0 A) (F0 m 34 ls [.int t1, .int t0]) := by
  obtain ⟨hx, hb, hml, hown, hts⟩ := id F
  have hwg : ∀ w ∈ WG, w.before args s = true := fun w h => hts w (List.mem_cons_of_mem _ h)
  intro S H locs ls a0 x2 t0 t1 hp hW hE hl hL_a0 hK_a0
  unfold wp_X10_movesOfAll_34 at hp
  refine lv_iadd hx hb dX10_movesOfAll_34 ?_
  refine lv_topi (fun x_1 ex_1 => ?_)
  replace hp := hp x_1 ex_1
  refine lv_istore_n (lv' := [(1, .int x_1), (0, .ref a0), (2, .int x2)]) hx hb dX10_movesOfAll_35 rfl hl (by decide) rfl (fun ls hl => ?_)
  obtain ⟨x_2, ex_2⟩ : ∃ z : Int32, z = x2 + 1 := ⟨_, rfl⟩
  replace hp := hp x_2 ex_2
  refine lv_iinc (v := x_2) (lv' := [(2, .int x_2), (1, .int x_1), (0, .ref a0)]) hx hb dX10_movesOfAll_36 hl (k := 2) rfl (by rw [ex_2]; rfl) (by decide) rfl (fun ls hl => ?_)
  refine lv_goto (tgt := 4) hx hb dX10_movesOfAll_39 (by decide) ?_
  exact q_4 hp hW hE (lv_sub hl [2, 1, 0] rfl) hL_a0 hK_a0
set_option maxHeartbeats 4000000 in
set_option maxRecDepth 100000 in
theorem t_X10_movesOfAll_4 {p : Program} {l : Launch} {e : Env} {s : State} {m : MethodId} {args : Array Value} {below : List Frame} {meth : Method} {c : Code} {D : wD} {cy : Nat → ClassId} {X : va_W} {A : Nat → Prop} {S0 : wS} {post : Int32 → wS → Prop} (F : CallFix p m c cX10_movesOfAll 4 s args wz_X10_movesOfAll RX10) (hr : meth.sig.returnType = (some .int)) (hlocks : meth.locks = false) (hK : wK D cy A s) : ∀ (n : Nat) {S : wS} {H : Heap} {locs : List Loc} {ls : Array Slot} {a0 : Nat} {x1 : Int32} {x2 : Int32}, wp_X10_movesOfAll_4 D post n S a0 x1 x2 → wO D cy X A s.heap S H locs → wX D S0 S → lv_has ls 4 [(0, .ref a0), (1, .int x1), (2, .int x2)] → wM D S a0 → sK S a0 = 15 → W p l e r_X10_movesOfAll s m args below meth c H locs 0 0 (MQ below (va_Qi (fun r S9 => wX D S0 S9 ∧ post r S9) (wB D cy X A) A) args s 0 0 A) (F0 m 4 ls []) := by
  obtain ⟨hx, hb, hml, hown, hts⟩ := id F
  have hwg : ∀ w ∈ WG, w.before args s = true := fun w h => hts w (List.mem_cons_of_mem _ h)
  have i_15 : ∀ w ∈ u_ws RX10 TX10 1, w ∈ wz_X10_movesOfAll := fun w h => List.mem_cons_of_mem _ (wu_15 w h)
  have i_8 : ∀ w ∈ u_ws RX3 TX3 9, w ∈ wz_X10_movesOfAll := fun w h => List.mem_cons_of_mem _ (wu_8 w h)
  have k_12 := hwg _ wf_RX10_12
  intro n
  induction n with
  | zero =>
    intro S H locs ls a0 x1 x2 hp
    exact hp.elim
  | succ n ih =>
    intro S H locs ls a0 x1 x2 hp hW hE hl hL_a0 hK_a0
    unfold wp_X10_movesOfAll_4 at hp
    refine lv_iload_n hx hb dX10_movesOfAll_4 rfl (lv_at hl 2 rfl) ?_
    refine lv_aload_n hx hb dX10_movesOfAll_5 rfl (lv_at hl 0 rfl) ?_
    obtain ⟨y_1, ey_1, hL_y_1, hK_y_1, hp⟩ := hp
    refine w_get (k := 15) (f := 0) (T := TX10) (v := .ref y_1) F hK hW hL_a0 hK_a0 (by decide) rfl rfl (by decide) i_15 k_12 (by rw [show wv 15 0 S a0 = va_rf (sR S a0 0) from rfl, ey_1]; rfl) dX10_movesOfAll_6 ?_
    refine w_callI (va_runV (As := []) (rest := [.int x2]) F (c_Jx4a65c_size_8abf5 l hL_y_1 hK_y_1 hp H.size) (cwV (C := RJx4a65c) 0 hts (wg_V wm_RX10_18 wy_Jx4a65c_size_8abf5) rfl rfl rfl (by decide +kernel) ⟨Nat.le_of_ble_eq_true rfl, Nat.le_of_ble_eq_true rfl⟩) (w_preV hK hW hL_y_1 hK_y_1 (by decide) rfl) rfl rfl hl.1 rfl (lv_room (Nat.le_of_ble_eq_true rfl)) dX10_movesOfAll_9 ⟨Nat.le_of_ble_eq_true rfl, Nat.le_of_ble_eq_true rfl⟩) hW (fun r_2 S_3 H locs hp hW => ?_)
    obtain ⟨hX_S_3, hp⟩ := hp
    refine W.widen (k := 0) (n := 0) (by decide) (by decide) ?_
    have hE := hE.trans hX_S_3
    have hK_a0 : sK S_3 a0 = 15 := (hX_S_3.2 a0 hL_a0).1.trans hK_a0
    have hL_a0 : wM D S_3 a0 := hX_S_3.M hL_a0
    refine lv_icmp_ge (tgt := 42) hx hb dX10_movesOfAll_12 (by decide) (fun c_4 => ?_) (fun c_4 => ?_)
    · replace hp := hp.1 c_4
      refine lv_iload_n hx hb dX10_movesOfAll_42 rfl (lv_at hl 1 rfl) ?_
      exact w_iret hx hb hr hlocks hW ⟨hE, hp⟩ dX10_movesOfAll_43
    · replace hp := hp.2 c_4
      refine lv_aload_n hx hb dX10_movesOfAll_15 rfl (lv_at hl 0 rfl) ?_
      refine lv_iload_n hx hb dX10_movesOfAll_16 rfl (lv_at hl 2 rfl) ?_
      refine w_callR (va_runV (As := [.int x2]) (rest := []) F (c_X10_gameAt l hL_a0 hK_a0 hp H.size) (cwV (C := RX10) 1 hts (wg_V wm_RX10_51 wy_X10_gameAt) rfl rfl rfl (by decide +kernel) ⟨Nat.le_of_ble_eq_true rfl, Nat.le_of_ble_eq_true rfl⟩) (w_preV hK hW hL_a0 hK_a0 (by decide) rfl) rfl rfl hl.1 rfl (lv_room (Nat.le_of_ble_eq_true rfl)) dX10_movesOfAll_17 ⟨Nat.le_of_ble_eq_true rfl, Nat.le_of_ble_eq_true rfl⟩) hW (fun r_5 S_6 H locs hp hW => ?_)
      obtain ⟨hX_S_6, hp⟩ := hp
      refine W.widen (k := 0) (n := 0) (by decide) (by decide) ?_
      have hE := hE.trans hX_S_6
      have hK_a0 : sK S_6 a0 = 15 := (hX_S_6.2 a0 hL_a0).1.trans hK_a0
      have hL_a0 : wM D S_6 a0 := hX_S_6.M hL_a0
      refine w_astore_n (lv' := [(3, va_rf r_5), (0, .ref a0), (1, .int x1), (2, .int x2)]) hx hb dX10_movesOfAll_20 rfl hl (by decide) rfl (fun ls hl => ?_)
      refine lv_iload_n hx hb dX10_movesOfAll_21 rfl (lv_at hl 2 rfl) ?_
      refine w_aload_n hx hb dX10_movesOfAll_22 rfl (lv_at hl 0 rfl) ?_
      refine w_ifnonnull (tgt := 30) hx hb dX10_movesOfAll_23 (by decide) (fun h_8 => ?_) (fun y_7 h_8 => ?_)
      · replace hp := hp.1 h_8
        revert hp; revert hl; revert hW; revert hE; subst h_8; intro hE hW hl hp
        refine lv_iconst (v := 0) hx hb dX10_movesOfAll_26 (by decide) ?_
        refine lv_goto (tgt := 34) hx hb dX10_movesOfAll_27 (by decide) ?_
        exact t_X10_movesOfAll_34 F hr hlocks hK ih hp hW hE (lv_sub hl [1, 3] rfl) hL_a0 hK_a0
      · replace hp := hp.2 y_7 h_8
        revert hp; revert hl; revert hW; revert hE; subst h_8; intro hE hW hl hp
        obtain ⟨hL_y_7, hK_y_7, hp⟩ := hp
        refine lv_aload_n hx hb dX10_movesOfAll_30 rfl (lv_at hl 0 rfl) ?_
        refine w_getN (k := 8) (f := 3) (T := TX3) (v := .int (sI S_6 y_7 3)) F hK hW hL_y_7 hK_y_7 (by decide) rfl rfl (by decide) i_8 (hK.2.1 (.fieldLinkNest "OpeningsCabinet$Shelf" 31 "OpeningsCabinet$Game" "length" "I" "OpeningsCabinet") (by decide +kernel)) rfl dX10_movesOfAll_31 ?_
        exact t_X10_movesOfAll_34 F hr hlocks hK ih hp hW hE (lv_sub hl [1, 3] rfl) hL_a0 hK_a0
set_option maxHeartbeats 4000000 in
set_option maxRecDepth 100000 in
theorem t_X10_movesOfAll_0 {p : Program} {l : Launch} {e : Env} {s : State} {m : MethodId} {args : Array Value} {below : List Frame} {meth : Method} {c : Code} {D : wD} {cy : Nat → ClassId} {X : va_W} {A : Nat → Prop} {S0 : wS} {post : Int32 → wS → Prop} (F : CallFix p m c cX10_movesOfAll 4 s args wz_X10_movesOfAll RX10) (hr : meth.sig.returnType = (some .int)) (hlocks : meth.locks = false) (hK : wK D cy A s) : ∀ {S : wS} {H : Heap} {locs : List Loc} {ls : Array Slot} {a0 : Nat}, wp_X10_movesOfAll_0 D post S a0 → wO D cy X A s.heap S H locs → wX D S0 S → lv_has ls 4 [(0, .ref a0)] → wM D S a0 → sK S a0 = 15 → W p l e r_X10_movesOfAll s m args below meth c H locs 0 0 (MQ below (va_Qi (fun r S9 => wX D S0 S9 ∧ post r S9) (wB D cy X A) A) args s 0 0 A) (F0 m 0 ls []) := by
  obtain ⟨hx, hb, hml, hown, hts⟩ := id F
  have hwg : ∀ w ∈ WG, w.before args s = true := fun w h => hts w (List.mem_cons_of_mem _ h)
  intro S H locs ls a0 hp hW hE hl hL_a0 hK_a0
  unfold wp_X10_movesOfAll_0 at hp
  refine lv_iconst (v := 0) hx hb dX10_movesOfAll_0 (by decide) ?_
  refine lv_istore_n (lv' := [(1, .int (0 : Int32)), (0, .ref a0)]) hx hb dX10_movesOfAll_1 rfl hl (by decide) rfl (fun ls hl => ?_)
  refine lv_iconst (v := 0) hx hb dX10_movesOfAll_2 (by decide) ?_
  refine lv_istore_n (lv' := [(2, .int (0 : Int32)), (1, .int (0 : Int32)), (0, .ref a0)]) hx hb dX10_movesOfAll_3 rfl hl (by decide) rfl (fun ls hl => ?_)
  obtain ⟨n_1, hp⟩ := hp
  exact t_X10_movesOfAll_4 F hr hlocks hK n_1 hp hW hE (lv_sub hl [2, 1, 0] rfl) hL_a0 hK_a0
set_option maxHeartbeats 4000000 in
set_option maxRecDepth 100000 in
theorem c_X10_movesOfAll (l : Launch) {D : wD} {cy : Nat → ClassId} {X : va_W} {S0 : wS} {post : Int32 → wS → Prop} {a0 : Nat} (hL_a0 : wM D S0 a0) (hK_a0 : sK S0 a0 = 15) (hp : wp_X10_movesOfAll D post S0 a0) : mI D cy X l yX10_movesOfAll wz_X10_movesOfAll r_X10_movesOfAll [.ref a0] S0 (fun r S9 => wX D S0 S9 ∧ post r S9) := by
  intro sz
  refine Met.ofW (cc := cX10_movesOfAll) (maxL := 4) (ret := (some .int)) (by decide) rfl ?_
  intro p e s m args below meth c s₁ B hml hv
  obtain ⟨rfl, hsz, hP, hK, hD0, hRO⟩ := hv
  have hts := atoms_spec (ws := wz_X10_movesOfAll) B.pre
  have hown : s.vm.findClass RX10 = some m.cls := findClass_of_methodNamed B.named
  subst hsz
  have hD := hD0.self (sz := s.heap.size)
  have F : CallFix p m c cX10_movesOfAll 4 s _ wz_X10_movesOfAll RX10 := ⟨B.exec, B.bytes, hml, hown, hts⟩
  have hr := B.returns
  have hlocks := B.notSynchronized
  generalize hAe : va_A (wL cy X S0) s.heap.size = A at hD hK ⊢
  have hA : ∀ q, s.heap.size ≤ q → A q := fun q h => by rw [← hAe]; exact Or.inr h
  have hW : wO D cy X A s.heap S0 s.heap [] := ⟨hP, hD, va_S.rf, hA, hRO⟩
  have hl := lv_entry ([.ref a0]) (n := 4) (Nat.le_of_ble_eq_true rfl)
  rw [lg_entry_eq]
  generalize (lg_sl ([.ref a0]) ++ List.replicate (4 - (lg_sl ([.ref a0])).length) Slot.unset).toArray = ls at hl ⊢
  have hl : lv_has ls 4 [(0, .ref a0)] := hl
  unfold wp_X10_movesOfAll at hp
  exact t_X10_movesOfAll_0 F hr hlocks hK hp hW wX.rf (lv_sub hl [0] rfl) hL_a0 hK_a0
def wp_X10_numberDue_89 (D : wD) (post : Int32 → wS → Prop) (k_6 : wS → Nat → Int32 → Option Nat → Int32 → Prop) (S : wS) (a0 : Nat) (x1 : Int32) (g2 : Option Nat) (x3 : Int32) : Prop :=
∀ x_1 : Int32, x_1 = x3 + 1 →
k_6 S a0 x1 g2 x_1
def wp_X10_numberDue_77 (D : wD) (post : Int32 → wS → Prop) (k_6 : wS → Nat → Int32 → Option Nat → Int32 → Prop) (S : wS) (a0 : Nat) (x1 : Int32) (g2 : Option Nat) (x3 : Int32) (a4 : Nat) (t0 : Int32) : Prop :=
((t0 = 0 → wp_X10_numberDue_89 D post k_6 S a0 x1 g2 x3) ∧
 (¬ t0 = 0 → wp_X10_numberDue_89 D post k_6 S a0 x3 (some a4) x3))
def wp_X10_numberDue_76 (D : wD) (post : Int32 → wS → Prop) (k_6 : wS → Nat → Int32 → Option Nat → Int32 → Prop) (S : wS) (a0 : Nat) (x1 : Int32) (g2 : Option Nat) (x3 : Int32) (a4 : Nat) : Prop :=
wp_X10_numberDue_77 D post k_6 S a0 x1 g2 x3 a4 (0 : Int32)
def wp_X10_numberDue_72 (D : wD) (post : Int32 → wS → Prop) (k_6 : wS → Nat → Int32 → Option Nat → Int32 → Prop) (S : wS) (a0 : Nat) (x1 : Int32) (g2 : Option Nat) (x3 : Int32) (a4 : Nat) : Prop :=
wp_X10_numberDue_77 D post k_6 S a0 x1 g2 x3 a4 (1 : Int32)
def wp_X10_numberDue_6 (D : wD) (post : Int32 → wS → Prop)  : Nat → wS → Nat → Int32 → Option Nat → Int32 → Prop
  | 0, _, _, _, _, _ => False
  | n + 1, S, a0, x1, g2, x3 =>
    ∃ y_1 : Nat, sR S a0 0 = some y_1 ∧ wM D S y_1 ∧ sK S y_1 = 4 ∧
    wp_Jx4a65c_size_8abf5 D (fun r_2 S_3 => 
    ((r_2 ≤ x3 → post x1 S_3) ∧
     (¬ r_2 ≤ x3 → wp_X10_gameAt D (fun r_5 S_6 => 
    ((r_5 = none → wp_X10_numberDue_89 D post (wp_X10_numberDue_6 D post n) S_6 a0 x1 g2 x3) ∧
     (∀ y_7 : Nat, r_5 = some y_7 → wM D S_6 y_7 ∧ sK S_6 y_7 = 8 ∧ ((g2 = none → wp_X10_numberDue_72 D post (wp_X10_numberDue_6 D post n) S_6 a0 x1 none x3 y_7) ∧
     (∀ y_9 : Nat, g2 = some y_9 → wM D S_6 y_9 ∧ sK S_6 y_9 = 8 ∧ (((sI S_6 y_7 8) < (sI S_6 y_9 8) → wp_X10_numberDue_72 D post (wp_X10_numberDue_6 D post n) S_6 a0 x1 (some y_9) x3 y_7) ∧
     (¬ (sI S_6 y_7 8) < (sI S_6 y_9 8) → ((¬ (sI S_6 y_7 8) = (sI S_6 y_9 8) → wp_X10_numberDue_76 D post (wp_X10_numberDue_6 D post n) S_6 a0 x1 (some y_9) x3 y_7) ∧
     ((sI S_6 y_7 8) = (sI S_6 y_9 8) → (((sI S_6 y_9 7) ≤ (sI S_6 y_7 7) → wp_X10_numberDue_76 D post (wp_X10_numberDue_6 D post n) S_6 a0 x1 (some y_9) x3 y_7) ∧
     (¬ (sI S_6 y_9 7) ≤ (sI S_6 y_7 7) → wp_X10_numberDue_72 D post (wp_X10_numberDue_6 D post n) S_6 a0 x1 (some y_9) x3 y_7))))))))))) S_3 a0 x3))) S y_1
def wp_X10_numberDue_0 (D : wD) (post : Int32 → wS → Prop)  (S : wS) (a0 : Nat) : Prop :=
∃ n_1 : Nat, wp_X10_numberDue_6 D post n_1 S a0 (-1 : Int32) none (0 : Int32)
abbrev r_X10_numberDue : Room := { frames := 4, cells := 0, slots := 0, locals := 85 }
def wp_X10_numberDue (D : wD) (post : Int32 → wS → Prop) (S : wS) (a0 : Nat) : Prop := wp_X10_numberDue_0 D post S a0
set_option maxHeartbeats 4000000 in
set_option maxRecDepth 100000 in
theorem t_X10_numberDue_89 {p : Program} {l : Launch} {e : Env} {s : State} {m : MethodId} {args : Array Value} {below : List Frame} {meth : Method} {c : Code} {D : wD} {cy : Nat → ClassId} {X : va_W} {A : Nat → Prop} {S0 : wS} {post : Int32 → wS → Prop} (F : CallFix p m c cX10_numberDue 6 s args wz_X10_numberDue RX10) (hr : meth.sig.returnType = (some .int)) (hlocks : meth.locks = false) (hK : wK D cy A s) {k_6 : wS → Nat → Int32 → Option Nat → Int32 → Prop} (q_6 : ∀ {S : wS} {H : Heap} {locs : List Loc} {ls : Array Slot} {a0 : Nat} {x1 : Int32} {g2 : Option Nat} {x3 : Int32}, k_6 S a0 x1 g2 x3 → wO D cy X A s.heap S H locs → wX D S0 S → lv_has ls 6 [(0, .ref a0), (1, .int x1), (2, va_rf g2), (3, .int x3)] → wM D S a0 → sK S a0 = 15 → W p l e r_X10_numberDue s m args below meth c H locs 0 0 (MQ below (va_Qi (fun r S9 => wX D S0 S9 ∧ post r S9) (wB D cy X A) A) args s 0 0 A) (F0 m 6 ls [])) : ∀ {S : wS} {H : Heap} {locs : List Loc} {ls : Array Slot} {a0 : Nat} {x1 : Int32} {g2 : Option Nat} {x3 : Int32}, wp_X10_numberDue_89 D post k_6 S a0 x1 g2 x3 → wO D cy X A s.heap S H locs → wX D S0 S → lv_has ls 6 [(0, .ref a0), (1, .int x1), (2, va_rf g2), (3, .int x3)] → wM D S a0 → sK S a0 = 15 → W p l e r_X10_numberDue s m args below meth c H locs 0 0 (MQ below (va_Qi (fun r S9 => wX D S0 S9 ∧ post r S9) (wB D cy X A) A) args s 0 0 A) (F0 m 89 ls []) := by
  obtain ⟨hx, hb, hml, hown, hts⟩ := id F
  have hwg : ∀ w ∈ WG, w.before args s = true := fun w h => hts w (List.mem_cons_of_mem _ h)
  intro S H locs ls a0 x1 g2 x3 hp hW hE hl hL_a0 hK_a0
  unfold wp_X10_numberDue_89 at hp
  obtain ⟨x_1, ex_1⟩ : ∃ z : Int32, z = x3 + 1 := ⟨_, rfl⟩
  replace hp := hp x_1 ex_1
  refine lv_iinc (v := x_1) (lv' := [(3, .int x_1), (0, .ref a0), (1, .int x1), (2, va_rf g2)]) hx hb dX10_numberDue_89 hl (k := 3) rfl (by rw [ex_1]; rfl) (by decide) (by cases g2 <;> rfl) (fun ls hl => ?_)
  refine lv_goto (tgt := 6) hx hb dX10_numberDue_92 (by decide) ?_
  exact q_6 hp hW hE (lv_sub hl [1, 2, 3, 0] rfl) hL_a0 hK_a0
set_option maxHeartbeats 4000000 in
set_option maxRecDepth 100000 in
theorem t_X10_numberDue_77 {p : Program} {l : Launch} {e : Env} {s : State} {m : MethodId} {args : Array Value} {below : List Frame} {meth : Method} {c : Code} {D : wD} {cy : Nat → ClassId} {X : va_W} {A : Nat → Prop} {S0 : wS} {post : Int32 → wS → Prop} (F : CallFix p m c cX10_numberDue 6 s args wz_X10_numberDue RX10) (hr : meth.sig.returnType = (some .int)) (hlocks : meth.locks = false) (hK : wK D cy A s) {k_6 : wS → Nat → Int32 → Option Nat → Int32 → Prop} (q_6 : ∀ {S : wS} {H : Heap} {locs : List Loc} {ls : Array Slot} {a0 : Nat} {x1 : Int32} {g2 : Option Nat} {x3 : Int32}, k_6 S a0 x1 g2 x3 → wO D cy X A s.heap S H locs → wX D S0 S → lv_has ls 6 [(0, .ref a0), (1, .int x1), (2, va_rf g2), (3, .int x3)] → wM D S a0 → sK S a0 = 15 → W p l e r_X10_numberDue s m args below meth c H locs 0 0 (MQ below (va_Qi (fun r S9 => wX D S0 S9 ∧ post r S9) (wB D cy X A) A) args s 0 0 A) (F0 m 6 ls [])) : ∀ {S : wS} {H : Heap} {locs : List Loc} {ls : Array Slot} {a0 : Nat} {x1 : Int32} {g2 : Option Nat} {x3 : Int32} {a4 : Nat} {t0 : Int32}, wp_X10_numberDue_77 D post k_6 S a0 x1 g2 x3 a4 t0 → wO D cy X A s.heap S H locs → wX D S0 S → lv_has ls 6 [(0, .ref a0), (1, .int x1), (2, va_rf g2), (3, .int x3), (4, .ref a4)] → wM D S a0 → sK S a0 = 15 → wM D S a4 → sK S a4 = 8 → W p l e r_X10_numberDue s m args below meth c H locs 0 0 (MQ below (va_Qi (fun r S9 => wX D S0 S9 ∧ post r S9) (wB D cy X A) A) args s 0 0 A) (F0 m 77 ls [.int t0]) := by
  obtain ⟨hx, hb, hml, hown, hts⟩ := id F
  have hwg : ∀ w ∈ WG, w.before args s = true := fun w h => hts w (List.mem_cons_of_mem _ h)
  intro S H locs ls a0 x1 g2 x3 a4 t0 hp hW hE hl hL_a0 hK_a0 hL_a4 hK_a4
  unfold wp_X10_numberDue_77 at hp
  refine lv_istore (lv' := [(5, .int t0), (0, .ref a0), (1, .int x1), (2, va_rf g2), (3, .int x3), (4, .ref a4)]) hx hb dX10_numberDue_77 hl (by decide) rfl (fun ls hl => ?_)
  refine lv_iload hx hb dX10_numberDue_79 (lv_at hl 0 rfl) ?_
  refine lv_if_eq (tgt := 89) hx hb dX10_numberDue_81 (by decide) (fun c_1 => ?_) (fun c_1 => ?_)
  · replace hp := hp.1 c_1
    exact t_X10_numberDue_89 F hr hlocks hK q_6 hp hW hE (lv_sub hl [1, 2, 3, 4] rfl) hL_a0 hK_a0
  · replace hp := hp.2 c_1
    refine lv_iload_n hx hb dX10_numberDue_84 rfl (lv_at hl 4 rfl) ?_
    refine lv_istore_n (lv' := [(1, .int x3), (5, .int t0), (0, .ref a0), (2, va_rf g2), (3, .int x3), (4, .ref a4)]) hx hb dX10_numberDue_85 rfl hl (by decide) rfl (fun ls hl => ?_)
    refine lv_aload hx hb dX10_numberDue_86 (lv_at hl 5 rfl) ?_
    refine lv_astore_n (lv' := [(2, .ref a4), (1, .int x3), (5, .int t0), (0, .ref a0), (3, .int x3), (4, .ref a4)]) hx hb dX10_numberDue_88 rfl hl (by decide) rfl (fun ls hl => ?_)
    exact t_X10_numberDue_89 F hr hlocks hK q_6 hp hW hE (lv_sub hl [3, 1, 0, 4] rfl) hL_a0 hK_a0
set_option maxHeartbeats 4000000 in
set_option maxRecDepth 100000 in
theorem t_X10_numberDue_76 {p : Program} {l : Launch} {e : Env} {s : State} {m : MethodId} {args : Array Value} {below : List Frame} {meth : Method} {c : Code} {D : wD} {cy : Nat → ClassId} {X : va_W} {A : Nat → Prop} {S0 : wS} {post : Int32 → wS → Prop} (F : CallFix p m c cX10_numberDue 6 s args wz_X10_numberDue RX10) (hr : meth.sig.returnType = (some .int)) (hlocks : meth.locks = false) (hK : wK D cy A s) {k_6 : wS → Nat → Int32 → Option Nat → Int32 → Prop} (q_6 : ∀ {S : wS} {H : Heap} {locs : List Loc} {ls : Array Slot} {a0 : Nat} {x1 : Int32} {g2 : Option Nat} {x3 : Int32}, k_6 S a0 x1 g2 x3 → wO D cy X A s.heap S H locs → wX D S0 S → lv_has ls 6 [(0, .ref a0), (1, .int x1), (2, va_rf g2), (3, .int x3)] → wM D S a0 → sK S a0 = 15 → W p l e r_X10_numberDue s m args below meth c H locs 0 0 (MQ below (va_Qi (fun r S9 => wX D S0 S9 ∧ post r S9) (wB D cy X A) A) args s 0 0 A) (F0 m 6 ls [])) : ∀ {S : wS} {H : Heap} {locs : List Loc} {ls : Array Slot} {a0 : Nat} {x1 : Int32} {g2 : Option Nat} {x3 : Int32} {a4 : Nat}, wp_X10_numberDue_76 D post k_6 S a0 x1 g2 x3 a4 → wO D cy X A s.heap S H locs → wX D S0 S → lv_has ls 6 [(0, .ref a0), (1, .int x1), (2, va_rf g2), (3, .int x3), (4, .ref a4)] → wM D S a0 → sK S a0 = 15 → wM D S a4 → sK S a4 = 8 → W p l e r_X10_numberDue s m args below meth c H locs 0 0 (MQ below (va_Qi (fun r S9 => wX D S0 S9 ∧ post r S9) (wB D cy X A) A) args s 0 0 A) (F0 m 76 ls []) := by
  obtain ⟨hx, hb, hml, hown, hts⟩ := id F
  have hwg : ∀ w ∈ WG, w.before args s = true := fun w h => hts w (List.mem_cons_of_mem _ h)
  intro S H locs ls a0 x1 g2 x3 a4 hp hW hE hl hL_a0 hK_a0 hL_a4 hK_a4
  unfold wp_X10_numberDue_76 at hp
  refine lv_iconst (v := 0) hx hb dX10_numberDue_76 (by decide) ?_
  exact t_X10_numberDue_77 F hr hlocks hK q_6 hp hW hE (lv_sub hl [0, 1, 2, 3, 4] rfl) hL_a0 hK_a0 hL_a4 hK_a4
set_option maxHeartbeats 4000000 in
set_option maxRecDepth 100000 in
theorem t_X10_numberDue_72 {p : Program} {l : Launch} {e : Env} {s : State} {m : MethodId} {args : Array Value} {below : List Frame} {meth : Method} {c : Code} {D : wD} {cy : Nat → ClassId} {X : va_W} {A : Nat → Prop} {S0 : wS} {post : Int32 → wS → Prop} (F : CallFix p m c cX10_numberDue 6 s args wz_X10_numberDue RX10) (hr : meth.sig.returnType = (some .int)) (hlocks : meth.locks = false) (hK : wK D cy A s) {k_6 : wS → Nat → Int32 → Option Nat → Int32 → Prop} (q_6 : ∀ {S : wS} {H : Heap} {locs : List Loc} {ls : Array Slot} {a0 : Nat} {x1 : Int32} {g2 : Option Nat} {x3 : Int32}, k_6 S a0 x1 g2 x3 → wO D cy X A s.heap S H locs → wX D S0 S → lv_has ls 6 [(0, .ref a0), (1, .int x1), (2, va_rf g2), (3, .int x3)] → wM D S a0 → sK S a0 = 15 → W p l e r_X10_numberDue s m args below meth c H locs 0 0 (MQ below (va_Qi (fun r S9 => wX D S0 S9 ∧ post r S9) (wB D cy X A) A) args s 0 0 A) (F0 m 6 ls [])) : ∀ {S : wS} {H : Heap} {locs : List Loc} {ls : Array Slot} {a0 : Nat} {x1 : Int32} {g2 : Option Nat} {x3 : Int32} {a4 : Nat}, wp_X10_numberDue_72 D post k_6 S a0 x1 g2 x3 a4 → wO D cy X A s.heap S H locs → wX D S0 S → lv_has ls 6 [(0, .ref a0), (1, .int x1), (2, va_rf g2), (3, .int x3), (4, .ref a4)] → wM D S a0 → sK S a0 = 15 → wM D S a4 → sK S a4 = 8 → W p l e r_X10_numberDue s m args below meth c H locs 0 0 (MQ below (va_Qi (fun r S9 => wX D S0 S9 ∧ post r S9) (wB D cy X A) A) args s 0 0 A) (F0 m 72 ls []) := by
  obtain ⟨hx, hb, hml, hown, hts⟩ := id F
  have hwg : ∀ w ∈ WG, w.before args s = true := fun w h => hts w (List.mem_cons_of_mem _ h)
  intro S H locs ls a0 x1 g2 x3 a4 hp hW hE hl hL_a0 hK_a0 hL_a4 hK_a4
  unfold wp_X10_numberDue_72 at hp
  refine lv_iconst (v := 1) hx hb dX10_numberDue_72 (by decide) ?_
  refine lv_goto (tgt := 77) hx hb dX10_numberDue_73 (by decide) ?_
  exact t_X10_numberDue_77 F hr hlocks hK q_6 hp hW hE (lv_sub hl [0, 1, 2, 3, 4] rfl) hL_a0 hK_a0 hL_a4 hK_a4
set_option maxHeartbeats 4000000 in
set_option maxRecDepth 100000 in
theorem t_X10_numberDue_6 {p : Program} {l : Launch} {e : Env} {s : State} {m : MethodId} {args : Array Value} {below : List Frame} {meth : Method} {c : Code} {D : wD} {cy : Nat → ClassId} {X : va_W} {A : Nat → Prop} {S0 : wS} {post : Int32 → wS → Prop} (F : CallFix p m c cX10_numberDue 6 s args wz_X10_numberDue RX10) (hr : meth.sig.returnType = (some .int)) (hlocks : meth.locks = false) (hK : wK D cy A s) : ∀ (n : Nat) {S : wS} {H : Heap} {locs : List Loc} {ls : Array Slot} {a0 : Nat} {x1 : Int32} {g2 : Option Nat} {x3 : Int32}, wp_X10_numberDue_6 D post n S a0 x1 g2 x3 → wO D cy X A s.heap S H locs → wX D S0 S → lv_has ls 6 [(0, .ref a0), (1, .int x1), (2, va_rf g2), (3, .int x3)] → wM D S a0 → sK S a0 = 15 → W p l e r_X10_numberDue s m args below meth c H locs 0 0 (MQ below (va_Qi (fun r S9 => wX D S0 S9 ∧ post r S9) (wB D cy X A) A) args s 0 0 A) (F0 m 6 ls []) := by
  obtain ⟨hx, hb, hml, hown, hts⟩ := id F
  have hwg : ∀ w ∈ WG, w.before args s = true := fun w h => hts w (List.mem_cons_of_mem _ h)
  have i_15 : ∀ w ∈ u_ws RX10 TX10 1, w ∈ wz_X10_numberDue := fun w h => List.mem_cons_of_mem _ (wu_15 w h)
  have i_8 : ∀ w ∈ u_ws RX3 TX3 9, w ∈ wz_X10_numberDue := fun w h => List.mem_cons_of_mem _ (wu_8 w h)
  have k_12 := hwg _ wf_RX10_12
  intro n
  induction n with
  | zero =>
    intro S H locs ls a0 x1 g2 x3 hp
    exact hp.elim
  | succ n ih =>
    intro S H locs ls a0 x1 g2 x3 hp hW hE hl hL_a0 hK_a0
    unfold wp_X10_numberDue_6 at hp
    refine lv_iload_n hx hb dX10_numberDue_6 rfl (lv_at hl 3 rfl) ?_
    refine lv_aload_n hx hb dX10_numberDue_7 rfl (lv_at hl 0 rfl) ?_
    obtain ⟨y_1, ey_1, hL_y_1, hK_y_1, hp⟩ := hp
    refine w_get (k := 15) (f := 0) (T := TX10) (v := .ref y_1) F hK hW hL_a0 hK_a0 (by decide) rfl rfl (by decide) i_15 k_12 (by rw [show wv 15 0 S a0 = va_rf (sR S a0 0) from rfl, ey_1]; rfl) dX10_numberDue_8 ?_
    refine w_callI (va_runV (As := []) (rest := [.int x3]) F (c_Jx4a65c_size_8abf5 l hL_y_1 hK_y_1 hp H.size) (cwV (C := RJx4a65c) 0 hts (wg_V wm_RX10_18 wy_Jx4a65c_size_8abf5) rfl rfl rfl (by decide +kernel) ⟨Nat.le_of_ble_eq_true rfl, Nat.le_of_ble_eq_true rfl⟩) (w_preV hK hW hL_y_1 hK_y_1 (by decide) rfl) rfl rfl hl.1 rfl (lv_room (Nat.le_of_ble_eq_true rfl)) dX10_numberDue_11 ⟨Nat.le_of_ble_eq_true rfl, Nat.le_of_ble_eq_true rfl⟩) hW (fun r_2 S_3 H locs hp hW => ?_)
    obtain ⟨hX_S_3, hp⟩ := hp
    refine W.widen (k := 0) (n := 0) (by decide) (by decide) ?_
    have hE := hE.trans hX_S_3
    have hK_a0 : sK S_3 a0 = 15 := (hX_S_3.2 a0 hL_a0).1.trans hK_a0
    have hL_a0 : wM D S_3 a0 := hX_S_3.M hL_a0
    refine lv_icmp_ge (tgt := 95) hx hb dX10_numberDue_14 (by decide) (fun c_4 => ?_) (fun c_4 => ?_)
    · replace hp := hp.1 c_4
      refine lv_iload_n hx hb dX10_numberDue_95 rfl (lv_at hl 1 rfl) ?_
      exact w_iret hx hb hr hlocks hW ⟨hE, hp⟩ dX10_numberDue_96
    · replace hp := hp.2 c_4
      refine lv_aload_n hx hb dX10_numberDue_17 rfl (lv_at hl 0 rfl) ?_
      refine lv_iload_n hx hb dX10_numberDue_18 rfl (lv_at hl 3 rfl) ?_
      refine w_callR (va_runV (As := [.int x3]) (rest := []) F (c_X10_gameAt l hL_a0 hK_a0 hp H.size) (cwV (C := RX10) 1 hts (wg_V wm_RX10_51 wy_X10_gameAt) rfl rfl rfl (by decide +kernel) ⟨Nat.le_of_ble_eq_true rfl, Nat.le_of_ble_eq_true rfl⟩) (w_preV hK hW hL_a0 hK_a0 (by decide) rfl) rfl rfl hl.1 rfl (lv_room (Nat.le_of_ble_eq_true rfl)) dX10_numberDue_19 ⟨Nat.le_of_ble_eq_true rfl, Nat.le_of_ble_eq_true rfl⟩) hW (fun r_5 S_6 H locs hp hW => ?_)
      obtain ⟨hX_S_6, hp⟩ := hp
      refine W.widen (k := 0) (n := 0) (by decide) (by decide) ?_
      have hE := hE.trans hX_S_6
      have hK_a0 : sK S_6 a0 = 15 := (hX_S_6.2 a0 hL_a0).1.trans hK_a0
      have hL_a0 : wM D S_6 a0 := hX_S_6.M hL_a0
      refine w_astore (lv' := [(4, va_rf r_5), (0, .ref a0), (1, .int x1), (2, va_rf g2), (3, .int x3)]) hx hb dX10_numberDue_22 hl (by decide) rfl (fun ls hl => ?_)
      refine w_aload hx hb dX10_numberDue_24 (lv_at hl 0 rfl) ?_
      refine w_ifnonnull (tgt := 32) hx hb dX10_numberDue_26 (by decide) (fun h_8 => ?_) (fun y_7 h_8 => ?_)
      · replace hp := hp.1 h_8
        revert hp; revert hl; revert hW; revert hE; subst h_8; intro hE hW hl hp
        refine lv_goto (tgt := 89) hx hb dX10_numberDue_29 (by decide) ?_
        exact t_X10_numberDue_89 F hr hlocks hK ih hp hW hE (lv_sub hl [1, 2, 3, 4] rfl) hL_a0 hK_a0
      · replace hp := hp.2 y_7 h_8
        revert hp; revert hl; revert hW; revert hE; subst h_8; intro hE hW hl hp
        obtain ⟨hL_y_7, hK_y_7, hp⟩ := hp
        refine w_aload_n hx hb dX10_numberDue_32 rfl (lv_at hl 3 rfl) ?_
        refine w_ifnull (tgt := 72) hx hb dX10_numberDue_33 (by decide) (fun h_10 => ?_) (fun y_9 h_10 => ?_)
        · replace hp := hp.1 h_10
          revert hp; revert hl; revert hW; revert hE; subst h_10; intro hE hW hl hp
          exact t_X10_numberDue_72 F hr hlocks hK ih hp hW hE (lv_sub hl [1, 2, 3, 4, 0] rfl) hL_a0 hK_a0 hL_y_7 hK_y_7
        · replace hp := hp.2 y_9 h_10
          revert hp; revert hl; revert hW; revert hE; subst h_10; intro hE hW hl hp
          obtain ⟨hL_y_9, hK_y_9, hp⟩ := hp
          refine lv_aload hx hb dX10_numberDue_36 (lv_at hl 0 rfl) ?_
          refine w_getN (k := 8) (f := 8) (T := TX3) (v := .int (sI S_6 y_7 8)) F hK hW hL_y_7 hK_y_7 (by decide) rfl rfl (by decide) i_8 (hK.2.1 (.fieldLinkNest "OpeningsCabinet$Shelf" 100 "OpeningsCabinet$Game" "due" "I" "OpeningsCabinet") (by decide +kernel)) rfl dX10_numberDue_38 ?_
          refine lv_aload_n hx hb dX10_numberDue_41 rfl (lv_at hl 3 rfl) ?_
          refine w_getN (k := 8) (f := 8) (T := TX3) (v := .int (sI S_6 y_9 8)) F hK hW hL_y_9 hK_y_9 (by decide) rfl rfl (by decide) i_8 (hK.2.1 (.fieldLinkNest "OpeningsCabinet$Shelf" 100 "OpeningsCabinet$Game" "due" "I" "OpeningsCabinet") (by decide +kernel)) rfl dX10_numberDue_42 ?_
          refine lv_icmp_lt (tgt := 72) hx hb dX10_numberDue_45 (by decide) (fun c_11 => ?_) (fun c_11 => ?_)
          · replace hp := hp.1 c_11
            exact t_X10_numberDue_72 F hr hlocks hK ih hp hW hE (lv_sub hl [1, 2, 3, 4, 0] rfl) hL_a0 hK_a0 hL_y_7 hK_y_7
          · replace hp := hp.2 c_11
            refine lv_aload hx hb dX10_numberDue_48 (lv_at hl 0 rfl) ?_
            refine w_getN (k := 8) (f := 8) (T := TX3) (v := .int (sI S_6 y_7 8)) F hK hW hL_y_7 hK_y_7 (by decide) rfl rfl (by decide) i_8 (hK.2.1 (.fieldLinkNest "OpeningsCabinet$Shelf" 100 "OpeningsCabinet$Game" "due" "I" "OpeningsCabinet") (by decide +kernel)) rfl dX10_numberDue_50 ?_
            refine lv_aload_n hx hb dX10_numberDue_53 rfl (lv_at hl 3 rfl) ?_
            refine w_getN (k := 8) (f := 8) (T := TX3) (v := .int (sI S_6 y_9 8)) F hK hW hL_y_9 hK_y_9 (by decide) rfl rfl (by decide) i_8 (hK.2.1 (.fieldLinkNest "OpeningsCabinet$Shelf" 100 "OpeningsCabinet$Game" "due" "I" "OpeningsCabinet") (by decide +kernel)) rfl dX10_numberDue_54 ?_
            refine lv_icmp_ne (tgt := 76) hx hb dX10_numberDue_57 (by decide) (fun c_12 => ?_) (fun c_12 => ?_)
            · replace hp := hp.1 c_12
              exact t_X10_numberDue_76 F hr hlocks hK ih hp hW hE (lv_sub hl [1, 2, 3, 4, 0] rfl) hL_a0 hK_a0 hL_y_7 hK_y_7
            · replace hp := hp.2 c_12
              refine lv_aload hx hb dX10_numberDue_60 (lv_at hl 0 rfl) ?_
              refine w_getN (k := 8) (f := 7) (T := TX3) (v := .int (sI S_6 y_7 7)) F hK hW hL_y_7 hK_y_7 (by decide) rfl rfl (by decide) i_8 (hK.2.1 (.fieldLinkNest "OpeningsCabinet$Shelf" 103 "OpeningsCabinet$Game" "box" "I" "OpeningsCabinet") (by decide +kernel)) rfl dX10_numberDue_62 ?_
              refine lv_aload_n hx hb dX10_numberDue_65 rfl (lv_at hl 3 rfl) ?_
              refine w_getN (k := 8) (f := 7) (T := TX3) (v := .int (sI S_6 y_9 7)) F hK hW hL_y_9 hK_y_9 (by decide) rfl rfl (by decide) i_8 (hK.2.1 (.fieldLinkNest "OpeningsCabinet$Shelf" 103 "OpeningsCabinet$Game" "box" "I" "OpeningsCabinet") (by decide +kernel)) rfl dX10_numberDue_66 ?_
              refine lv_icmp_ge (tgt := 76) hx hb dX10_numberDue_69 (by decide) (fun c_13 => ?_) (fun c_13 => ?_)
              · replace hp := hp.1 c_13
                exact t_X10_numberDue_76 F hr hlocks hK ih hp hW hE (lv_sub hl [1, 2, 3, 4, 0] rfl) hL_a0 hK_a0 hL_y_7 hK_y_7
              · replace hp := hp.2 c_13
                exact t_X10_numberDue_72 F hr hlocks hK ih hp hW hE (lv_sub hl [1, 2, 3, 4, 0] rfl) hL_a0 hK_a0 hL_y_7 hK_y_7
set_option maxHeartbeats 4000000 in
set_option maxRecDepth 100000 in
theorem t_X10_numberDue_0 {p : Program} {l : Launch} {e : Env} {s : State} {m : MethodId} {args : Array Value} {below : List Frame} {meth : Method} {c : Code} {D : wD} {cy : Nat → ClassId} {X : va_W} {A : Nat → Prop} {S0 : wS} {post : Int32 → wS → Prop} (F : CallFix p m c cX10_numberDue 6 s args wz_X10_numberDue RX10) (hr : meth.sig.returnType = (some .int)) (hlocks : meth.locks = false) (hK : wK D cy A s) : ∀ {S : wS} {H : Heap} {locs : List Loc} {ls : Array Slot} {a0 : Nat}, wp_X10_numberDue_0 D post S a0 → wO D cy X A s.heap S H locs → wX D S0 S → lv_has ls 6 [(0, .ref a0)] → wM D S a0 → sK S a0 = 15 → W p l e r_X10_numberDue s m args below meth c H locs 0 0 (MQ below (va_Qi (fun r S9 => wX D S0 S9 ∧ post r S9) (wB D cy X A) A) args s 0 0 A) (F0 m 0 ls []) := by
  obtain ⟨hx, hb, hml, hown, hts⟩ := id F
  have hwg : ∀ w ∈ WG, w.before args s = true := fun w h => hts w (List.mem_cons_of_mem _ h)
  intro S H locs ls a0 hp hW hE hl hL_a0 hK_a0
  unfold wp_X10_numberDue_0 at hp
  refine lv_iconst (v := (-1)) hx hb dX10_numberDue_0 (by decide) ?_
  refine lv_istore_n (lv' := [(1, .int (-1 : Int32)), (0, .ref a0)]) hx hb dX10_numberDue_1 rfl hl (by decide) rfl (fun ls hl => ?_)
  refine lv_null hx hb dX10_numberDue_2 ?_
  refine lv_astore_nN (lv' := [(2, .null), (1, .int (-1 : Int32)), (0, .ref a0)]) hx hb dX10_numberDue_3 rfl hl (by decide) rfl (fun ls hl => ?_)
  refine lv_iconst (v := 0) hx hb dX10_numberDue_4 (by decide) ?_
  refine lv_istore_n (lv' := [(3, .int (0 : Int32)), (2, .null), (1, .int (-1 : Int32)), (0, .ref a0)]) hx hb dX10_numberDue_5 rfl hl (by decide) rfl (fun ls hl => ?_)
  obtain ⟨n_1, hp⟩ := hp
  exact t_X10_numberDue_6 F hr hlocks hK n_1 hp hW hE (lv_sub hl [3, 2, 1, 0] rfl) hL_a0 hK_a0
set_option maxHeartbeats 4000000 in
set_option maxRecDepth 100000 in
theorem c_X10_numberDue (l : Launch) {D : wD} {cy : Nat → ClassId} {X : va_W} {S0 : wS} {post : Int32 → wS → Prop} {a0 : Nat} (hL_a0 : wM D S0 a0) (hK_a0 : sK S0 a0 = 15) (hp : wp_X10_numberDue D post S0 a0) : mI D cy X l yX10_numberDue wz_X10_numberDue r_X10_numberDue [.ref a0] S0 (fun r S9 => wX D S0 S9 ∧ post r S9) := by
  intro sz
  refine Met.ofW (cc := cX10_numberDue) (maxL := 6) (ret := (some .int)) (by decide) rfl ?_
  intro p e s m args below meth c s₁ B hml hv
  obtain ⟨rfl, hsz, hP, hK, hD0, hRO⟩ := hv
  have hts := atoms_spec (ws := wz_X10_numberDue) B.pre
  have hown : s.vm.findClass RX10 = some m.cls := findClass_of_methodNamed B.named
  subst hsz
  have hD := hD0.self (sz := s.heap.size)
  have F : CallFix p m c cX10_numberDue 6 s _ wz_X10_numberDue RX10 := ⟨B.exec, B.bytes, hml, hown, hts⟩
  have hr := B.returns
  have hlocks := B.notSynchronized
  generalize hAe : va_A (wL cy X S0) s.heap.size = A at hD hK ⊢
  have hA : ∀ q, s.heap.size ≤ q → A q := fun q h => by rw [← hAe]; exact Or.inr h
  have hW : wO D cy X A s.heap S0 s.heap [] := ⟨hP, hD, va_S.rf, hA, hRO⟩
  have hl := lv_entry ([.ref a0]) (n := 6) (Nat.le_of_ble_eq_true rfl)
  rw [lg_entry_eq]
  generalize (lg_sl ([.ref a0]) ++ List.replicate (6 - (lg_sl ([.ref a0])).length) Slot.unset).toArray = ls at hl ⊢
  have hl : lv_has ls 6 [(0, .ref a0)] := hl
  unfold wp_X10_numberDue at hp
  exact t_X10_numberDue_0 F hr hlocks hK hp hW wX.rf (lv_sub hl [0] rfl) hL_a0 hK_a0
def wp_X10_passing_56 (D : wD) (post : Int32 → wS → Prop) (k_5 : wS → Nat → Nat → Int32 → Int32 → Int32 → Prop) (S : wS) (a0 : Nat) (a1 : Nat) (x2 : Int32) (x3 : Int32) (x4 : Int32) : Prop :=
∀ x_1 : Int32, x_1 = x4 + 1 →
k_5 S a0 a1 x2 x3 x_1
def wp_X10_passing_44 (D : wD) (post : Int32 → wS → Prop) (k_5 : wS → Nat → Nat → Int32 → Int32 → Int32 → Prop) (S : wS) (a0 : Nat) (a1 : Nat) (x2 : Int32) (x3 : Int32) (x4 : Int32) (a5 : Nat) : Prop :=
wp_X3_passesThrough D (fun r_1 S_2 => 
((r_1 = 0 → wp_X10_passing_56 D post k_5 S_2 a0 a1 x2 x3 x4) ∧
 (¬ r_1 = 0 → ∀ x_4 : Int32, x_4 = x3 + 1 →
wp_X10_passing_56 D post k_5 S_2 a0 a1 x2 x_4 x4))) S a5 a1
def wp_X10_passing_5 (D : wD) (post : Int32 → wS → Prop)  : Nat → wS → Nat → Nat → Int32 → Int32 → Int32 → Prop
  | 0, _, _, _, _, _, _ => False
  | n + 1, S, a0, a1, x2, x3, x4 =>
    ∃ y_1 : Nat, sR S a0 0 = some y_1 ∧ wM D S y_1 ∧ sK S y_1 = 4 ∧
    wp_Jx4a65c_size_8abf5 D (fun r_2 S_3 => 
    ((r_2 ≤ x4 → post x3 S_3) ∧
     (¬ r_2 ≤ x4 → wp_X10_gameAt D (fun r_5 S_6 => 
    ((r_5 = none → wp_X10_passing_56 D post (wp_X10_passing_5 D post n) S_6 a0 a1 x2 x3 x4) ∧
     (∀ y_7 : Nat, r_5 = some y_7 → wM D S_6 y_7 ∧ sK S_6 y_7 = 8 ∧ ((x2 = (-1 : Int32) → wp_X10_passing_44 D post (wp_X10_passing_5 D post n) S_6 a0 a1 x2 x3 x4 y_7) ∧
     (¬ x2 = (-1 : Int32) → ((¬ (sI S_6 y_7 4) = x2 → wp_X10_passing_56 D post (wp_X10_passing_5 D post n) S_6 a0 a1 x2 x3 x4) ∧
     ((sI S_6 y_7 4) = x2 → wp_X10_passing_44 D post (wp_X10_passing_5 D post n) S_6 a0 a1 x2 x3 x4 y_7))))))) S_3 a0 x4))) S y_1
def wp_X10_passing_0 (D : wD) (post : Int32 → wS → Prop)  (S : wS) (a0 : Nat) (a1 : Nat) (x2 : Int32) : Prop :=
∃ n_1 : Nat, wp_X10_passing_5 D post n_1 S a0 a1 x2 (0 : Int32) (0 : Int32)
abbrev r_X10_passing : Room := { frames := 4, cells := 0, slots := 0, locals := 87 }
def wp_X10_passing (D : wD) (post : Int32 → wS → Prop) (S : wS) (a0 : Nat) (a1 : Nat) (x2 : Int32) : Prop := wp_X10_passing_0 D post S a0 a1 x2
set_option maxHeartbeats 4000000 in
set_option maxRecDepth 100000 in
theorem t_X10_passing_56 {p : Program} {l : Launch} {e : Env} {s : State} {m : MethodId} {args : Array Value} {below : List Frame} {meth : Method} {c : Code} {D : wD} {cy : Nat → ClassId} {X : va_W} {A : Nat → Prop} {S0 : wS} {post : Int32 → wS → Prop} (F : CallFix p m c cX10_passing 6 s args wz_X10_passing RX10) (hr : meth.sig.returnType = (some .int)) (hlocks : meth.locks = false) (hK : wK D cy A s) {k_5 : wS → Nat → Nat → Int32 → Int32 → Int32 → Prop} (q_5 : ∀ {S : wS} {H : Heap} {locs : List Loc} {ls : Array Slot} {a0 : Nat} {a1 : Nat} {x2 : Int32} {x3 : Int32} {x4 : Int32}, k_5 S a0 a1 x2 x3 x4 → wO D cy X A s.heap S H locs → wX D S0 S → lv_has ls 6 [(0, .ref a0), (1, .ref a1), (2, .int x2), (3, .int x3), (4, .int x4)] → wM D S a0 → sK S a0 = 15 → wM D S a1 → sK S a1 = 12 → W p l e r_X10_passing s m args below meth c H locs 0 0 (MQ below (va_Qi (fun r S9 => wX D S0 S9 ∧ post r S9) (wB D cy X A) A) args s 0 0 A) (F0 m 5 ls [])) : ∀ {S : wS} {H : Heap} {locs : List Loc} {ls : Array Slot} {a0 : Nat} {a1 : Nat} {x2 : Int32} {x3 : Int32} {x4 : Int32}, wp_X10_passing_56 D post k_5 S a0 a1 x2 x3 x4 → wO D cy X A s.heap S H locs → wX D S0 S → lv_has ls 6 [(0, .ref a0), (1, .ref a1), (2, .int x2), (3, .int x3), (4, .int x4)] → wM D S a0 → sK S a0 = 15 → wM D S a1 → sK S a1 = 12 → W p l e r_X10_passing s m args below meth c H locs 0 0 (MQ below (va_Qi (fun r S9 => wX D S0 S9 ∧ post r S9) (wB D cy X A) A) args s 0 0 A) (F0 m 56 ls []) := by
  obtain ⟨hx, hb, hml, hown, hts⟩ := id F
  have hwg : ∀ w ∈ WG, w.before args s = true := fun w h => hts w (List.mem_cons_of_mem _ h)
  intro S H locs ls a0 a1 x2 x3 x4 hp hW hE hl hL_a0 hK_a0 hL_a1 hK_a1
  unfold wp_X10_passing_56 at hp
  obtain ⟨x_1, ex_1⟩ : ∃ z : Int32, z = x4 + 1 := ⟨_, rfl⟩
  replace hp := hp x_1 ex_1
  refine lv_iinc (v := x_1) (lv' := [(4, .int x_1), (0, .ref a0), (1, .ref a1), (2, .int x2), (3, .int x3)]) hx hb dX10_passing_56 hl (k := 4) rfl (by rw [ex_1]; rfl) (by decide) rfl (fun ls hl => ?_)
  refine lv_goto (tgt := 5) hx hb dX10_passing_59 (by decide) ?_
  exact q_5 hp hW hE (lv_sub hl [1, 2, 3, 4, 0] rfl) hL_a0 hK_a0 hL_a1 hK_a1
set_option maxHeartbeats 4000000 in
set_option maxRecDepth 100000 in
theorem t_X10_passing_44 {p : Program} {l : Launch} {e : Env} {s : State} {m : MethodId} {args : Array Value} {below : List Frame} {meth : Method} {c : Code} {D : wD} {cy : Nat → ClassId} {X : va_W} {A : Nat → Prop} {S0 : wS} {post : Int32 → wS → Prop} (F : CallFix p m c cX10_passing 6 s args wz_X10_passing RX10) (hr : meth.sig.returnType = (some .int)) (hlocks : meth.locks = false) (hK : wK D cy A s) {k_5 : wS → Nat → Nat → Int32 → Int32 → Int32 → Prop} (q_5 : ∀ {S : wS} {H : Heap} {locs : List Loc} {ls : Array Slot} {a0 : Nat} {a1 : Nat} {x2 : Int32} {x3 : Int32} {x4 : Int32}, k_5 S a0 a1 x2 x3 x4 → wO D cy X A s.heap S H locs → wX D S0 S → lv_has ls 6 [(0, .ref a0), (1, .ref a1), (2, .int x2), (3, .int x3), (4, .int x4)] → wM D S a0 → sK S a0 = 15 → wM D S a1 → sK S a1 = 12 → W p l e r_X10_passing s m args below meth c H locs 0 0 (MQ below (va_Qi (fun r S9 => wX D S0 S9 ∧ post r S9) (wB D cy X A) A) args s 0 0 A) (F0 m 5 ls [])) : ∀ {S : wS} {H : Heap} {locs : List Loc} {ls : Array Slot} {a0 : Nat} {a1 : Nat} {x2 : Int32} {x3 : Int32} {x4 : Int32} {a5 : Nat}, wp_X10_passing_44 D post k_5 S a0 a1 x2 x3 x4 a5 → wO D cy X A s.heap S H locs → wX D S0 S → lv_has ls 6 [(0, .ref a0), (1, .ref a1), (2, .int x2), (3, .int x3), (4, .int x4), (5, .ref a5)] → wM D S a0 → sK S a0 = 15 → wM D S a1 → sK S a1 = 12 → wM D S a5 → sK S a5 = 8 → W p l e r_X10_passing s m args below meth c H locs 0 0 (MQ below (va_Qi (fun r S9 => wX D S0 S9 ∧ post r S9) (wB D cy X A) A) args s 0 0 A) (F0 m 44 ls []) := by
  obtain ⟨hx, hb, hml, hown, hts⟩ := id F
  have hwg : ∀ w ∈ WG, w.before args s = true := fun w h => hts w (List.mem_cons_of_mem _ h)
  intro S H locs ls a0 a1 x2 x3 x4 a5 hp hW hE hl hL_a0 hK_a0 hL_a1 hK_a1 hL_a5 hK_a5
  unfold wp_X10_passing_44 at hp
  refine lv_aload hx hb dX10_passing_44 (lv_at hl 5 rfl) ?_
  refine lv_aload_n hx hb dX10_passing_46 rfl (lv_at hl 1 rfl) ?_
  refine w_callI (va_runV (As := [.ref a1]) (rest := []) F (c_X3_passesThrough l hL_a5 hK_a5 hL_a1 hK_a1 hp H.size) (cwV (C := RX3) 1 hts (wg_V wm_RX10_80 wy_X3_passesThrough) rfl rfl rfl (by decide +kernel) ⟨Nat.le_of_ble_eq_true rfl, Nat.le_of_ble_eq_true rfl⟩) (w_preV hK hW hL_a5 hK_a5 (by decide) rfl) rfl rfl hl.1 rfl (lv_room (Nat.le_of_ble_eq_true rfl)) dX10_passing_47 ⟨Nat.le_of_ble_eq_true rfl, Nat.le_of_ble_eq_true rfl⟩) hW (fun r_1 S_2 H locs hp hW => ?_)
  obtain ⟨hX_S_2, hp⟩ := hp
  refine W.widen (k := 0) (n := 0) (by decide) (by decide) ?_
  have hE := hE.trans hX_S_2
  have hK_a0 : sK S_2 a0 = 15 := (hX_S_2.2 a0 hL_a0).1.trans hK_a0
  have hL_a0 : wM D S_2 a0 := hX_S_2.M hL_a0
  have hK_a1 : sK S_2 a1 = 12 := (hX_S_2.2 a1 hL_a1).1.trans hK_a1
  have hL_a1 : wM D S_2 a1 := hX_S_2.M hL_a1
  have hK_a5 : sK S_2 a5 = 8 := (hX_S_2.2 a5 hL_a5).1.trans hK_a5
  have hL_a5 : wM D S_2 a5 := hX_S_2.M hL_a5
  refine lv_if_eq (tgt := 56) hx hb dX10_passing_50 (by decide) (fun c_3 => ?_) (fun c_3 => ?_)
  · replace hp := hp.1 c_3
    exact t_X10_passing_56 F hr hlocks hK q_5 hp hW hE (lv_sub hl [0, 1, 2, 3, 4] rfl) hL_a0 hK_a0 hL_a1 hK_a1
  · replace hp := hp.2 c_3
    obtain ⟨x_4, ex_4⟩ : ∃ z : Int32, z = x3 + 1 := ⟨_, rfl⟩
    replace hp := hp x_4 ex_4
    refine lv_iinc (v := x_4) (lv' := [(3, .int x_4), (0, .ref a0), (1, .ref a1), (2, .int x2), (4, .int x4), (5, .ref a5)]) hx hb dX10_passing_53 hl (k := 3) rfl (by rw [ex_4]; rfl) (by decide) rfl (fun ls hl => ?_)
    exact t_X10_passing_56 F hr hlocks hK q_5 hp hW hE (lv_sub hl [1, 2, 3, 0, 4] rfl) hL_a0 hK_a0 hL_a1 hK_a1
set_option maxHeartbeats 4000000 in
set_option maxRecDepth 100000 in
theorem t_X10_passing_5 {p : Program} {l : Launch} {e : Env} {s : State} {m : MethodId} {args : Array Value} {below : List Frame} {meth : Method} {c : Code} {D : wD} {cy : Nat → ClassId} {X : va_W} {A : Nat → Prop} {S0 : wS} {post : Int32 → wS → Prop} (F : CallFix p m c cX10_passing 6 s args wz_X10_passing RX10) (hr : meth.sig.returnType = (some .int)) (hlocks : meth.locks = false) (hK : wK D cy A s) : ∀ (n : Nat) {S : wS} {H : Heap} {locs : List Loc} {ls : Array Slot} {a0 : Nat} {a1 : Nat} {x2 : Int32} {x3 : Int32} {x4 : Int32}, wp_X10_passing_5 D post n S a0 a1 x2 x3 x4 → wO D cy X A s.heap S H locs → wX D S0 S → lv_has ls 6 [(0, .ref a0), (1, .ref a1), (2, .int x2), (3, .int x3), (4, .int x4)] → wM D S a0 → sK S a0 = 15 → wM D S a1 → sK S a1 = 12 → W p l e r_X10_passing s m args below meth c H locs 0 0 (MQ below (va_Qi (fun r S9 => wX D S0 S9 ∧ post r S9) (wB D cy X A) A) args s 0 0 A) (F0 m 5 ls []) := by
  obtain ⟨hx, hb, hml, hown, hts⟩ := id F
  have hwg : ∀ w ∈ WG, w.before args s = true := fun w h => hts w (List.mem_cons_of_mem _ h)
  have i_15 : ∀ w ∈ u_ws RX10 TX10 1, w ∈ wz_X10_passing := fun w h => List.mem_cons_of_mem _ (wu_15 w h)
  have i_8 : ∀ w ∈ u_ws RX3 TX3 9, w ∈ wz_X10_passing := fun w h => List.mem_cons_of_mem _ (wu_8 w h)
  have k_12 := hwg _ wf_RX10_12
  intro n
  induction n with
  | zero =>
    intro S H locs ls a0 a1 x2 x3 x4 hp
    exact hp.elim
  | succ n ih =>
    intro S H locs ls a0 a1 x2 x3 x4 hp hW hE hl hL_a0 hK_a0 hL_a1 hK_a1
    unfold wp_X10_passing_5 at hp
    refine lv_iload hx hb dX10_passing_5 (lv_at hl 4 rfl) ?_
    refine lv_aload_n hx hb dX10_passing_7 rfl (lv_at hl 0 rfl) ?_
    obtain ⟨y_1, ey_1, hL_y_1, hK_y_1, hp⟩ := hp
    refine w_get (k := 15) (f := 0) (T := TX10) (v := .ref y_1) F hK hW hL_a0 hK_a0 (by decide) rfl rfl (by decide) i_15 k_12 (by rw [show wv 15 0 S a0 = va_rf (sR S a0 0) from rfl, ey_1]; rfl) dX10_passing_8 ?_
    refine w_callI (va_runV (As := []) (rest := [.int x4]) F (c_Jx4a65c_size_8abf5 l hL_y_1 hK_y_1 hp H.size) (cwV (C := RJx4a65c) 0 hts (wg_V wm_RX10_18 wy_Jx4a65c_size_8abf5) rfl rfl rfl (by decide +kernel) ⟨Nat.le_of_ble_eq_true rfl, Nat.le_of_ble_eq_true rfl⟩) (w_preV hK hW hL_y_1 hK_y_1 (by decide) rfl) rfl rfl hl.1 rfl (lv_room (Nat.le_of_ble_eq_true rfl)) dX10_passing_11 ⟨Nat.le_of_ble_eq_true rfl, Nat.le_of_ble_eq_true rfl⟩) hW (fun r_2 S_3 H locs hp hW => ?_)
    obtain ⟨hX_S_3, hp⟩ := hp
    refine W.widen (k := 0) (n := 0) (by decide) (by decide) ?_
    have hE := hE.trans hX_S_3
    have hK_a0 : sK S_3 a0 = 15 := (hX_S_3.2 a0 hL_a0).1.trans hK_a0
    have hL_a0 : wM D S_3 a0 := hX_S_3.M hL_a0
    have hK_a1 : sK S_3 a1 = 12 := (hX_S_3.2 a1 hL_a1).1.trans hK_a1
    have hL_a1 : wM D S_3 a1 := hX_S_3.M hL_a1
    refine lv_icmp_ge (tgt := 62) hx hb dX10_passing_14 (by decide) (fun c_4 => ?_) (fun c_4 => ?_)
    · replace hp := hp.1 c_4
      refine lv_iload_n hx hb dX10_passing_62 rfl (lv_at hl 3 rfl) ?_
      exact w_iret hx hb hr hlocks hW ⟨hE, hp⟩ dX10_passing_63
    · replace hp := hp.2 c_4
      refine lv_aload_n hx hb dX10_passing_17 rfl (lv_at hl 0 rfl) ?_
      refine lv_iload hx hb dX10_passing_18 (lv_at hl 4 rfl) ?_
      refine w_callR (va_runV (As := [.int x4]) (rest := []) F (c_X10_gameAt l hL_a0 hK_a0 hp H.size) (cwV (C := RX10) 1 hts (wg_V wm_RX10_51 wy_X10_gameAt) rfl rfl rfl (by decide +kernel) ⟨Nat.le_of_ble_eq_true rfl, Nat.le_of_ble_eq_true rfl⟩) (w_preV hK hW hL_a0 hK_a0 (by decide) rfl) rfl rfl hl.1 rfl (lv_room (Nat.le_of_ble_eq_true rfl)) dX10_passing_20 ⟨Nat.le_of_ble_eq_true rfl, Nat.le_of_ble_eq_true rfl⟩) hW (fun r_5 S_6 H locs hp hW => ?_)
      obtain ⟨hX_S_6, hp⟩ := hp
      refine W.widen (k := 0) (n := 0) (by decide) (by decide) ?_
      have hE := hE.trans hX_S_6
      have hK_a0 : sK S_6 a0 = 15 := (hX_S_6.2 a0 hL_a0).1.trans hK_a0
      have hL_a0 : wM D S_6 a0 := hX_S_6.M hL_a0
      have hK_a1 : sK S_6 a1 = 12 := (hX_S_6.2 a1 hL_a1).1.trans hK_a1
      have hL_a1 : wM D S_6 a1 := hX_S_6.M hL_a1
      refine w_astore (lv' := [(5, va_rf r_5), (0, .ref a0), (1, .ref a1), (2, .int x2), (3, .int x3), (4, .int x4)]) hx hb dX10_passing_23 hl (by decide) rfl (fun ls hl => ?_)
      refine w_aload hx hb dX10_passing_25 (lv_at hl 0 rfl) ?_
      refine w_ifnull (tgt := 56) hx hb dX10_passing_27 (by decide) (fun h_8 => ?_) (fun y_7 h_8 => ?_)
      · replace hp := hp.1 h_8
        revert hp; revert hl; revert hW; revert hE; subst h_8; intro hE hW hl hp
        exact t_X10_passing_56 F hr hlocks hK ih hp hW hE (lv_sub hl [1, 2, 3, 4, 5] rfl) hL_a0 hK_a0 hL_a1 hK_a1
      · replace hp := hp.2 y_7 h_8
        revert hp; revert hl; revert hW; revert hE; subst h_8; intro hE hW hl hp
        obtain ⟨hL_y_7, hK_y_7, hp⟩ := hp
        refine lv_iload_n hx hb dX10_passing_30 rfl (lv_at hl 3 rfl) ?_
        refine lv_iconst (v := (-1)) hx hb dX10_passing_31 (by decide) ?_
        refine lv_icmp_eq (tgt := 44) hx hb dX10_passing_32 (by decide) (fun c_9 => ?_) (fun c_9 => ?_)
        · replace hp := hp.1 c_9
          exact t_X10_passing_44 F hr hlocks hK ih hp hW hE (lv_sub hl [1, 2, 3, 4, 5, 0] rfl) hL_a0 hK_a0 hL_a1 hK_a1 hL_y_7 hK_y_7
        · replace hp := hp.2 c_9
          refine lv_aload hx hb dX10_passing_35 (lv_at hl 0 rfl) ?_
          refine w_getN (k := 8) (f := 4) (T := TX3) (v := .int (sI S_6 y_7 4)) F hK hW hL_y_7 hK_y_7 (by decide) rfl rfl (by decide) i_8 (hK.2.1 (.fieldLinkNest "OpeningsCabinet$Shelf" 77 "OpeningsCabinet$Game" "result" "I" "OpeningsCabinet") (by decide +kernel)) rfl dX10_passing_37 ?_
          refine lv_iload_n hx hb dX10_passing_40 rfl (lv_at hl 3 rfl) ?_
          refine lv_icmp_ne (tgt := 56) hx hb dX10_passing_41 (by decide) (fun c_10 => ?_) (fun c_10 => ?_)
          · replace hp := hp.1 c_10
            exact t_X10_passing_56 F hr hlocks hK ih hp hW hE (lv_sub hl [1, 2, 3, 4, 5] rfl) hL_a0 hK_a0 hL_a1 hK_a1
          · replace hp := hp.2 c_10
            exact t_X10_passing_44 F hr hlocks hK ih hp hW hE (lv_sub hl [1, 2, 3, 4, 5, 0] rfl) hL_a0 hK_a0 hL_a1 hK_a1 hL_y_7 hK_y_7
set_option maxHeartbeats 4000000 in
set_option maxRecDepth 100000 in
theorem t_X10_passing_0 {p : Program} {l : Launch} {e : Env} {s : State} {m : MethodId} {args : Array Value} {below : List Frame} {meth : Method} {c : Code} {D : wD} {cy : Nat → ClassId} {X : va_W} {A : Nat → Prop} {S0 : wS} {post : Int32 → wS → Prop} (F : CallFix p m c cX10_passing 6 s args wz_X10_passing RX10) (hr : meth.sig.returnType = (some .int)) (hlocks : meth.locks = false) (hK : wK D cy A s) : ∀ {S : wS} {H : Heap} {locs : List Loc} {ls : Array Slot} {a0 : Nat} {a1 : Nat} {x2 : Int32}, wp_X10_passing_0 D post S a0 a1 x2 → wO D cy X A s.heap S H locs → wX D S0 S → lv_has ls 6 [(0, .ref a0), (1, .ref a1), (2, .int x2)] → wM D S a0 → sK S a0 = 15 → wM D S a1 → sK S a1 = 12 → W p l e r_X10_passing s m args below meth c H locs 0 0 (MQ below (va_Qi (fun r S9 => wX D S0 S9 ∧ post r S9) (wB D cy X A) A) args s 0 0 A) (F0 m 0 ls []) := by
  obtain ⟨hx, hb, hml, hown, hts⟩ := id F
  have hwg : ∀ w ∈ WG, w.before args s = true := fun w h => hts w (List.mem_cons_of_mem _ h)
  intro S H locs ls a0 a1 x2 hp hW hE hl hL_a0 hK_a0 hL_a1 hK_a1
  unfold wp_X10_passing_0 at hp
  refine lv_iconst (v := 0) hx hb dX10_passing_0 (by decide) ?_
  refine lv_istore_n (lv' := [(3, .int (0 : Int32)), (0, .ref a0), (1, .ref a1), (2, .int x2)]) hx hb dX10_passing_1 rfl hl (by decide) rfl (fun ls hl => ?_)
  refine lv_iconst (v := 0) hx hb dX10_passing_2 (by decide) ?_
  refine lv_istore (lv' := [(4, .int (0 : Int32)), (3, .int (0 : Int32)), (0, .ref a0), (1, .ref a1), (2, .int x2)]) hx hb dX10_passing_3 hl (by decide) rfl (fun ls hl => ?_)
  obtain ⟨n_1, hp⟩ := hp
  exact t_X10_passing_5 F hr hlocks hK n_1 hp hW hE (lv_sub hl [2, 3, 4, 1, 0] rfl) hL_a0 hK_a0 hL_a1 hK_a1
set_option maxHeartbeats 4000000 in
set_option maxRecDepth 100000 in
theorem c_X10_passing (l : Launch) {D : wD} {cy : Nat → ClassId} {X : va_W} {S0 : wS} {post : Int32 → wS → Prop} {a0 : Nat} {a1 : Nat} {x2 : Int32} (hL_a0 : wM D S0 a0) (hK_a0 : sK S0 a0 = 15) (hL_a1 : wM D S0 a1) (hK_a1 : sK S0 a1 = 12) (hp : wp_X10_passing D post S0 a0 a1 x2) : mI D cy X l yX10_passing wz_X10_passing r_X10_passing [.ref a0, .ref a1, .int x2] S0 (fun r S9 => wX D S0 S9 ∧ post r S9) := by
  intro sz
  refine Met.ofW (cc := cX10_passing) (maxL := 6) (ret := (some .int)) (by decide) rfl ?_
  intro p e s m args below meth c s₁ B hml hv
  obtain ⟨rfl, hsz, hP, hK, hD0, hRO⟩ := hv
  have hts := atoms_spec (ws := wz_X10_passing) B.pre
  have hown : s.vm.findClass RX10 = some m.cls := findClass_of_methodNamed B.named
  subst hsz
  have hD := hD0.self (sz := s.heap.size)
  have F : CallFix p m c cX10_passing 6 s _ wz_X10_passing RX10 := ⟨B.exec, B.bytes, hml, hown, hts⟩
  have hr := B.returns
  have hlocks := B.notSynchronized
  generalize hAe : va_A (wL cy X S0) s.heap.size = A at hD hK ⊢
  have hA : ∀ q, s.heap.size ≤ q → A q := fun q h => by rw [← hAe]; exact Or.inr h
  have hW : wO D cy X A s.heap S0 s.heap [] := ⟨hP, hD, va_S.rf, hA, hRO⟩
  have hl := lv_entry ([.ref a0, .ref a1, .int x2]) (n := 6) (Nat.le_of_ble_eq_true rfl)
  rw [lg_entry_eq]
  generalize (lg_sl ([.ref a0, .ref a1, .int x2]) ++ List.replicate (6 - (lg_sl ([.ref a0, .ref a1, .int x2])).length) Slot.unset).toArray = ls at hl ⊢
  have hl : lv_has ls 6 [(0, .ref a0), (1, .ref a1), (2, .int x2)] := hl
  unfold wp_X10_passing at hp
  exact t_X10_passing_0 F hr hlocks hK hp hW wX.rf (lv_sub hl [0, 1, 2] rfl) hL_a0 hK_a0 hL_a1 hK_a1
def wp_X10_passingInYears_61 (D : wD) (post : Int32 → wS → Prop) (k_6 : wS → Nat → Nat → Int32 → Int32 → Int32 → Int32 → Prop) (S : wS) (a0 : Nat) (a1 : Nat) (x2 : Int32) (x3 : Int32) (x4 : Int32) (x5 : Int32) : Prop :=
∀ x_1 : Int32, x_1 = x5 + 1 →
k_6 S a0 a1 x2 x3 x4 x_1
def wp_X10_passingInYears_6 (D : wD) (post : Int32 → wS → Prop)  : Nat → wS → Nat → Nat → Int32 → Int32 → Int32 → Int32 → Prop
  | 0, _, _, _, _, _, _, _ => False
  | n + 1, S, a0, a1, x2, x3, x4, x5 =>
    ∃ y_1 : Nat, sR S a0 0 = some y_1 ∧ wM D S y_1 ∧ sK S y_1 = 4 ∧
    wp_Jx4a65c_size_8abf5 D (fun r_2 S_3 => 
    ((r_2 ≤ x5 → post x4 S_3) ∧
     (¬ r_2 ≤ x5 → wp_X10_gameAt D (fun r_5 S_6 => 
    ((r_5 = none → wp_X10_passingInYears_61 D post (wp_X10_passingInYears_6 D post n) S_6 a0 a1 x2 x3 x4 x5) ∧
     (∀ y_7 : Nat, r_5 = some y_7 → wM D S_6 y_7 ∧ sK S_6 y_7 = 8 ∧ (((sI S_6 y_7 5) < x2 → wp_X10_passingInYears_61 D post (wp_X10_passingInYears_6 D post n) S_6 a0 a1 x2 x3 x4 x5) ∧
     (¬ (sI S_6 y_7 5) < x2 → ((x3 < (sI S_6 y_7 5) → wp_X10_passingInYears_61 D post (wp_X10_passingInYears_6 D post n) S_6 a0 a1 x2 x3 x4 x5) ∧
     (¬ x3 < (sI S_6 y_7 5) → wp_X3_passesThrough D (fun r_11 S_12 => 
    ((r_11 = 0 → wp_X10_passingInYears_61 D post (wp_X10_passingInYears_6 D post n) S_12 a0 a1 x2 x3 x4 x5) ∧
     (¬ r_11 = 0 → ∀ x_14 : Int32, x_14 = x4 + 1 →
    wp_X10_passingInYears_61 D post (wp_X10_passingInYears_6 D post n) S_12 a0 a1 x2 x3 x_14 x5))) S_6 y_7 a1))))))) S_3 a0 x5))) S y_1
def wp_X10_passingInYears_0 (D : wD) (post : Int32 → wS → Prop)  (S : wS) (a0 : Nat) (a1 : Nat) (x2 : Int32) (x3 : Int32) : Prop :=
∃ n_1 : Nat, wp_X10_passingInYears_6 D post n_1 S a0 a1 x2 x3 (0 : Int32) (0 : Int32)
abbrev r_X10_passingInYears : Room := { frames := 4, cells := 0, slots := 0, locals := 87 }
def wp_X10_passingInYears (D : wD) (post : Int32 → wS → Prop) (S : wS) (a0 : Nat) (a1 : Nat) (x2 : Int32) (x3 : Int32) : Prop := wp_X10_passingInYears_0 D post S a0 a1 x2 x3
set_option maxHeartbeats 4000000 in
set_option maxRecDepth 100000 in
theorem t_X10_passingInYears_61 {p : Program} {l : Launch} {e : Env} {s : State} {m : MethodId} {args : Array Value} {below : List Frame} {meth : Method} {c : Code} {D : wD} {cy : Nat → ClassId} {X : va_W} {A : Nat → Prop} {S0 : wS} {post : Int32 → wS → Prop} (F : CallFix p m c cX10_passingInYears 7 s args wz_X10_passingInYears RX10) (hr : meth.sig.returnType = (some .int)) (hlocks : meth.locks = false) (hK : wK D cy A s) {k_6 : wS → Nat → Nat → Int32 → Int32 → Int32 → Int32 → Prop} (q_6 : ∀ {S : wS} {H : Heap} {locs : List Loc} {ls : Array Slot} {a0 : Nat} {a1 : Nat} {x2 : Int32} {x3 : Int32} {x4 : Int32} {x5 : Int32}, k_6 S a0 a1 x2 x3 x4 x5 → wO D cy X A s.heap S H locs → wX D S0 S → lv_has ls 7 [(0, .ref a0), (1, .ref a1), (2, .int x2), (3, .int x3), (4, .int x4), (5, .int x5)] → wM D S a0 → sK S a0 = 15 → wM D S a1 → sK S a1 = 12 → W p l e r_X10_passingInYears s m args below meth c H locs 0 0 (MQ below (va_Qi (fun r S9 => wX D S0 S9 ∧ post r S9) (wB D cy X A) A) args s 0 0 A) (F0 m 6 ls [])) : ∀ {S : wS} {H : Heap} {locs : List Loc} {ls : Array Slot} {a0 : Nat} {a1 : Nat} {x2 : Int32} {x3 : Int32} {x4 : Int32} {x5 : Int32}, wp_X10_passingInYears_61 D post k_6 S a0 a1 x2 x3 x4 x5 → wO D cy X A s.heap S H locs → wX D S0 S → lv_has ls 7 [(0, .ref a0), (1, .ref a1), (2, .int x2), (3, .int x3), (4, .int x4), (5, .int x5)] → wM D S a0 → sK S a0 = 15 → wM D S a1 → sK S a1 = 12 → W p l e r_X10_passingInYears s m args below meth c H locs 0 0 (MQ below (va_Qi (fun r S9 => wX D S0 S9 ∧ post r S9) (wB D cy X A) A) args s 0 0 A) (F0 m 61 ls []) := by
  obtain ⟨hx, hb, hml, hown, hts⟩ := id F
  have hwg : ∀ w ∈ WG, w.before args s = true := fun w h => hts w (List.mem_cons_of_mem _ h)
  intro S H locs ls a0 a1 x2 x3 x4 x5 hp hW hE hl hL_a0 hK_a0 hL_a1 hK_a1
  unfold wp_X10_passingInYears_61 at hp
  obtain ⟨x_1, ex_1⟩ : ∃ z : Int32, z = x5 + 1 := ⟨_, rfl⟩
  replace hp := hp x_1 ex_1
  refine lv_iinc (v := x_1) (lv' := [(5, .int x_1), (0, .ref a0), (1, .ref a1), (2, .int x2), (3, .int x3), (4, .int x4)]) hx hb dX10_passingInYears_61 hl (k := 5) rfl (by rw [ex_1]; rfl) (by decide) rfl (fun ls hl => ?_)
  refine lv_goto (tgt := 6) hx hb dX10_passingInYears_64 (by decide) ?_
  exact q_6 hp hW hE (lv_sub hl [1, 2, 3, 4, 5, 0] rfl) hL_a0 hK_a0 hL_a1 hK_a1
set_option maxHeartbeats 4000000 in
set_option maxRecDepth 100000 in
theorem t_X10_passingInYears_6 {p : Program} {l : Launch} {e : Env} {s : State} {m : MethodId} {args : Array Value} {below : List Frame} {meth : Method} {c : Code} {D : wD} {cy : Nat → ClassId} {X : va_W} {A : Nat → Prop} {S0 : wS} {post : Int32 → wS → Prop} (F : CallFix p m c cX10_passingInYears 7 s args wz_X10_passingInYears RX10) (hr : meth.sig.returnType = (some .int)) (hlocks : meth.locks = false) (hK : wK D cy A s) : ∀ (n : Nat) {S : wS} {H : Heap} {locs : List Loc} {ls : Array Slot} {a0 : Nat} {a1 : Nat} {x2 : Int32} {x3 : Int32} {x4 : Int32} {x5 : Int32}, wp_X10_passingInYears_6 D post n S a0 a1 x2 x3 x4 x5 → wO D cy X A s.heap S H locs → wX D S0 S → lv_has ls 7 [(0, .ref a0), (1, .ref a1), (2, .int x2), (3, .int x3), (4, .int x4), (5, .int x5)] → wM D S a0 → sK S a0 = 15 → wM D S a1 → sK S a1 = 12 → W p l e r_X10_passingInYears s m args below meth c H locs 0 0 (MQ below (va_Qi (fun r S9 => wX D S0 S9 ∧ post r S9) (wB D cy X A) A) args s 0 0 A) (F0 m 6 ls []) := by
  obtain ⟨hx, hb, hml, hown, hts⟩ := id F
  have hwg : ∀ w ∈ WG, w.before args s = true := fun w h => hts w (List.mem_cons_of_mem _ h)
  have i_15 : ∀ w ∈ u_ws RX10 TX10 1, w ∈ wz_X10_passingInYears := fun w h => List.mem_cons_of_mem _ (wu_15 w h)
  have i_8 : ∀ w ∈ u_ws RX3 TX3 9, w ∈ wz_X10_passingInYears := fun w h => List.mem_cons_of_mem _ (wu_8 w h)
  have k_12 := hwg _ wf_RX10_12
  intro n
  induction n with
  | zero =>
    intro S H locs ls a0 a1 x2 x3 x4 x5 hp
    exact hp.elim
  | succ n ih =>
    intro S H locs ls a0 a1 x2 x3 x4 x5 hp hW hE hl hL_a0 hK_a0 hL_a1 hK_a1
    unfold wp_X10_passingInYears_6 at hp
    refine lv_iload hx hb dX10_passingInYears_6 (lv_at hl 5 rfl) ?_
    refine lv_aload_n hx hb dX10_passingInYears_8 rfl (lv_at hl 0 rfl) ?_
    obtain ⟨y_1, ey_1, hL_y_1, hK_y_1, hp⟩ := hp
    refine w_get (k := 15) (f := 0) (T := TX10) (v := .ref y_1) F hK hW hL_a0 hK_a0 (by decide) rfl rfl (by decide) i_15 k_12 (by rw [show wv 15 0 S a0 = va_rf (sR S a0 0) from rfl, ey_1]; rfl) dX10_passingInYears_9 ?_
    refine w_callI (va_runV (As := []) (rest := [.int x5]) F (c_Jx4a65c_size_8abf5 l hL_y_1 hK_y_1 hp H.size) (cwV (C := RJx4a65c) 0 hts (wg_V wm_RX10_18 wy_Jx4a65c_size_8abf5) rfl rfl rfl (by decide +kernel) ⟨Nat.le_of_ble_eq_true rfl, Nat.le_of_ble_eq_true rfl⟩) (w_preV hK hW hL_y_1 hK_y_1 (by decide) rfl) rfl rfl hl.1 rfl (lv_room (Nat.le_of_ble_eq_true rfl)) dX10_passingInYears_12 ⟨Nat.le_of_ble_eq_true rfl, Nat.le_of_ble_eq_true rfl⟩) hW (fun r_2 S_3 H locs hp hW => ?_)
    obtain ⟨hX_S_3, hp⟩ := hp
    refine W.widen (k := 0) (n := 0) (by decide) (by decide) ?_
    have hE := hE.trans hX_S_3
    have hK_a0 : sK S_3 a0 = 15 := (hX_S_3.2 a0 hL_a0).1.trans hK_a0
    have hL_a0 : wM D S_3 a0 := hX_S_3.M hL_a0
    have hK_a1 : sK S_3 a1 = 12 := (hX_S_3.2 a1 hL_a1).1.trans hK_a1
    have hL_a1 : wM D S_3 a1 := hX_S_3.M hL_a1
    refine lv_icmp_ge (tgt := 67) hx hb dX10_passingInYears_15 (by decide) (fun c_4 => ?_) (fun c_4 => ?_)
    · replace hp := hp.1 c_4
      refine lv_iload hx hb dX10_passingInYears_67 (lv_at hl 4 rfl) ?_
      exact w_iret hx hb hr hlocks hW ⟨hE, hp⟩ dX10_passingInYears_69
    · replace hp := hp.2 c_4
      refine lv_aload_n hx hb dX10_passingInYears_18 rfl (lv_at hl 0 rfl) ?_
      refine lv_iload hx hb dX10_passingInYears_19 (lv_at hl 5 rfl) ?_
      refine w_callR (va_runV (As := [.int x5]) (rest := []) F (c_X10_gameAt l hL_a0 hK_a0 hp H.size) (cwV (C := RX10) 1 hts (wg_V wm_RX10_51 wy_X10_gameAt) rfl rfl rfl (by decide +kernel) ⟨Nat.le_of_ble_eq_true rfl, Nat.le_of_ble_eq_true rfl⟩) (w_preV hK hW hL_a0 hK_a0 (by decide) rfl) rfl rfl hl.1 rfl (lv_room (Nat.le_of_ble_eq_true rfl)) dX10_passingInYears_21 ⟨Nat.le_of_ble_eq_true rfl, Nat.le_of_ble_eq_true rfl⟩) hW (fun r_5 S_6 H locs hp hW => ?_)
      obtain ⟨hX_S_6, hp⟩ := hp
      refine W.widen (k := 0) (n := 0) (by decide) (by decide) ?_
      have hE := hE.trans hX_S_6
      have hK_a0 : sK S_6 a0 = 15 := (hX_S_6.2 a0 hL_a0).1.trans hK_a0
      have hL_a0 : wM D S_6 a0 := hX_S_6.M hL_a0
      have hK_a1 : sK S_6 a1 = 12 := (hX_S_6.2 a1 hL_a1).1.trans hK_a1
      have hL_a1 : wM D S_6 a1 := hX_S_6.M hL_a1
      refine w_astore (lv' := [(6, va_rf r_5), (0, .ref a0), (1, .ref a1), (2, .int x2), (3, .int x3), (4, .int x4), (5, .int x5)]) hx hb dX10_passingInYears_24 hl (by decide) rfl (fun ls hl => ?_)
      refine w_aload hx hb dX10_passingInYears_26 (lv_at hl 0 rfl) ?_
      refine w_ifnull (tgt := 61) hx hb dX10_passingInYears_28 (by decide) (fun h_8 => ?_) (fun y_7 h_8 => ?_)
      · replace hp := hp.1 h_8
        revert hp; revert hl; revert hW; revert hE; subst h_8; intro hE hW hl hp
        exact t_X10_passingInYears_61 F hr hlocks hK ih hp hW hE (lv_sub hl [1, 2, 3, 4, 5, 6] rfl) hL_a0 hK_a0 hL_a1 hK_a1
      · replace hp := hp.2 y_7 h_8
        revert hp; revert hl; revert hW; revert hE; subst h_8; intro hE hW hl hp
        obtain ⟨hL_y_7, hK_y_7, hp⟩ := hp
        refine lv_aload hx hb dX10_passingInYears_31 (lv_at hl 0 rfl) ?_
        refine w_getN (k := 8) (f := 5) (T := TX3) (v := .int (sI S_6 y_7 5)) F hK hW hL_y_7 hK_y_7 (by decide) rfl rfl (by decide) i_8 (hK.2.1 (.fieldLinkNest "OpeningsCabinet$Shelf" 84 "OpeningsCabinet$Game" "year" "I" "OpeningsCabinet") (by decide +kernel)) rfl dX10_passingInYears_33 ?_
        refine lv_iload_n hx hb dX10_passingInYears_36 rfl (lv_at hl 3 rfl) ?_
        refine lv_icmp_lt (tgt := 61) hx hb dX10_passingInYears_37 (by decide) (fun c_9 => ?_) (fun c_9 => ?_)
        · replace hp := hp.1 c_9
          exact t_X10_passingInYears_61 F hr hlocks hK ih hp hW hE (lv_sub hl [1, 2, 3, 4, 5, 6] rfl) hL_a0 hK_a0 hL_a1 hK_a1
        · replace hp := hp.2 c_9
          refine lv_aload hx hb dX10_passingInYears_40 (lv_at hl 0 rfl) ?_
          refine w_getN (k := 8) (f := 5) (T := TX3) (v := .int (sI S_6 y_7 5)) F hK hW hL_y_7 hK_y_7 (by decide) rfl rfl (by decide) i_8 (hK.2.1 (.fieldLinkNest "OpeningsCabinet$Shelf" 84 "OpeningsCabinet$Game" "year" "I" "OpeningsCabinet") (by decide +kernel)) rfl dX10_passingInYears_42 ?_
          refine lv_iload_n hx hb dX10_passingInYears_45 rfl (lv_at hl 4 rfl) ?_
          refine lv_icmp_gt (tgt := 61) hx hb dX10_passingInYears_46 (by decide) (fun c_10 => ?_) (fun c_10 => ?_)
          · replace hp := hp.1 c_10
            exact t_X10_passingInYears_61 F hr hlocks hK ih hp hW hE (lv_sub hl [1, 2, 3, 4, 5, 6] rfl) hL_a0 hK_a0 hL_a1 hK_a1
          · replace hp := hp.2 c_10
            refine lv_aload hx hb dX10_passingInYears_49 (lv_at hl 0 rfl) ?_
            refine lv_aload_n hx hb dX10_passingInYears_51 rfl (lv_at hl 2 rfl) ?_
            refine w_callI (va_runV (As := [.ref a1]) (rest := []) F (c_X3_passesThrough l hL_y_7 hK_y_7 hL_a1 hK_a1 hp H.size) (cwV (C := RX3) 1 hts (wg_V wm_RX10_80 wy_X3_passesThrough) rfl rfl rfl (by decide +kernel) ⟨Nat.le_of_ble_eq_true rfl, Nat.le_of_ble_eq_true rfl⟩) (w_preV hK hW hL_y_7 hK_y_7 (by decide) rfl) rfl rfl hl.1 rfl (lv_room (Nat.le_of_ble_eq_true rfl)) dX10_passingInYears_52 ⟨Nat.le_of_ble_eq_true rfl, Nat.le_of_ble_eq_true rfl⟩) hW (fun r_11 S_12 H locs hp hW => ?_)
            obtain ⟨hX_S_12, hp⟩ := hp
            refine W.widen (k := 0) (n := 0) (by decide) (by decide) ?_
            have hE := hE.trans hX_S_12
            have hK_a0 : sK S_12 a0 = 15 := (hX_S_12.2 a0 hL_a0).1.trans hK_a0
            have hL_a0 : wM D S_12 a0 := hX_S_12.M hL_a0
            have hK_a1 : sK S_12 a1 = 12 := (hX_S_12.2 a1 hL_a1).1.trans hK_a1
            have hL_a1 : wM D S_12 a1 := hX_S_12.M hL_a1
            have hK_y_7 : sK S_12 y_7 = 8 := (hX_S_12.2 y_7 hL_y_7).1.trans hK_y_7
            have hL_y_7 : wM D S_12 y_7 := hX_S_12.M hL_y_7
            refine lv_if_eq (tgt := 61) hx hb dX10_passingInYears_55 (by decide) (fun c_13 => ?_) (fun c_13 => ?_)
            · replace hp := hp.1 c_13
              exact t_X10_passingInYears_61 F hr hlocks hK ih hp hW hE (lv_sub hl [1, 2, 3, 4, 5, 6] rfl) hL_a0 hK_a0 hL_a1 hK_a1
            · replace hp := hp.2 c_13
              obtain ⟨x_14, ex_14⟩ : ∃ z : Int32, z = x4 + 1 := ⟨_, rfl⟩
              replace hp := hp x_14 ex_14
              refine lv_iinc (v := x_14) (lv' := [(4, .int x_14), (6, .ref y_7), (0, .ref a0), (1, .ref a1), (2, .int x2), (3, .int x3), (5, .int x5)]) hx hb dX10_passingInYears_58 hl (k := 5) rfl (by rw [ex_14]; rfl) (by decide) rfl (fun ls hl => ?_)
              exact t_X10_passingInYears_61 F hr hlocks hK ih hp hW hE (lv_sub hl [2, 3, 4, 5, 0, 6] rfl) hL_a0 hK_a0 hL_a1 hK_a1
set_option maxHeartbeats 4000000 in
set_option maxRecDepth 100000 in
theorem t_X10_passingInYears_0 {p : Program} {l : Launch} {e : Env} {s : State} {m : MethodId} {args : Array Value} {below : List Frame} {meth : Method} {c : Code} {D : wD} {cy : Nat → ClassId} {X : va_W} {A : Nat → Prop} {S0 : wS} {post : Int32 → wS → Prop} (F : CallFix p m c cX10_passingInYears 7 s args wz_X10_passingInYears RX10) (hr : meth.sig.returnType = (some .int)) (hlocks : meth.locks = false) (hK : wK D cy A s) : ∀ {S : wS} {H : Heap} {locs : List Loc} {ls : Array Slot} {a0 : Nat} {a1 : Nat} {x2 : Int32} {x3 : Int32}, wp_X10_passingInYears_0 D post S a0 a1 x2 x3 → wO D cy X A s.heap S H locs → wX D S0 S → lv_has ls 7 [(0, .ref a0), (1, .ref a1), (2, .int x2), (3, .int x3)] → wM D S a0 → sK S a0 = 15 → wM D S a1 → sK S a1 = 12 → W p l e r_X10_passingInYears s m args below meth c H locs 0 0 (MQ below (va_Qi (fun r S9 => wX D S0 S9 ∧ post r S9) (wB D cy X A) A) args s 0 0 A) (F0 m 0 ls []) := by
  obtain ⟨hx, hb, hml, hown, hts⟩ := id F
  have hwg : ∀ w ∈ WG, w.before args s = true := fun w h => hts w (List.mem_cons_of_mem _ h)
  intro S H locs ls a0 a1 x2 x3 hp hW hE hl hL_a0 hK_a0 hL_a1 hK_a1
  unfold wp_X10_passingInYears_0 at hp
  refine lv_iconst (v := 0) hx hb dX10_passingInYears_0 (by decide) ?_
  refine lv_istore (lv' := [(4, .int (0 : Int32)), (0, .ref a0), (1, .ref a1), (2, .int x2), (3, .int x3)]) hx hb dX10_passingInYears_1 hl (by decide) rfl (fun ls hl => ?_)
  refine lv_iconst (v := 0) hx hb dX10_passingInYears_3 (by decide) ?_
  refine lv_istore (lv' := [(5, .int (0 : Int32)), (4, .int (0 : Int32)), (0, .ref a0), (1, .ref a1), (2, .int x2), (3, .int x3)]) hx hb dX10_passingInYears_4 hl (by decide) rfl (fun ls hl => ?_)
  obtain ⟨n_1, hp⟩ := hp
  exact t_X10_passingInYears_6 F hr hlocks hK n_1 hp hW hE (lv_sub hl [2, 3, 4, 5, 1, 0] rfl) hL_a0 hK_a0 hL_a1 hK_a1
set_option maxHeartbeats 4000000 in
set_option maxRecDepth 100000 in
theorem c_X10_passingInYears (l : Launch) {D : wD} {cy : Nat → ClassId} {X : va_W} {S0 : wS} {post : Int32 → wS → Prop} {a0 : Nat} {a1 : Nat} {x2 : Int32} {x3 : Int32} (hL_a0 : wM D S0 a0) (hK_a0 : sK S0 a0 = 15) (hL_a1 : wM D S0 a1) (hK_a1 : sK S0 a1 = 12) (hp : wp_X10_passingInYears D post S0 a0 a1 x2 x3) : mI D cy X l yX10_passingInYears wz_X10_passingInYears r_X10_passingInYears [.ref a0, .ref a1, .int x2, .int x3] S0 (fun r S9 => wX D S0 S9 ∧ post r S9) := by
  intro sz
  refine Met.ofW (cc := cX10_passingInYears) (maxL := 7) (ret := (some .int)) (by decide) rfl ?_
  intro p e s m args below meth c s₁ B hml hv
  obtain ⟨rfl, hsz, hP, hK, hD0, hRO⟩ := hv
  have hts := atoms_spec (ws := wz_X10_passingInYears) B.pre
  have hown : s.vm.findClass RX10 = some m.cls := findClass_of_methodNamed B.named
  subst hsz
  have hD := hD0.self (sz := s.heap.size)
  have F : CallFix p m c cX10_passingInYears 7 s _ wz_X10_passingInYears RX10 := ⟨B.exec, B.bytes, hml, hown, hts⟩
  have hr := B.returns
  have hlocks := B.notSynchronized
  generalize hAe : va_A (wL cy X S0) s.heap.size = A at hD hK ⊢
  have hA : ∀ q, s.heap.size ≤ q → A q := fun q h => by rw [← hAe]; exact Or.inr h
  have hW : wO D cy X A s.heap S0 s.heap [] := ⟨hP, hD, va_S.rf, hA, hRO⟩
  have hl := lv_entry ([.ref a0, .ref a1, .int x2, .int x3]) (n := 7) (Nat.le_of_ble_eq_true rfl)
  rw [lg_entry_eq]
  generalize (lg_sl ([.ref a0, .ref a1, .int x2, .int x3]) ++ List.replicate (7 - (lg_sl ([.ref a0, .ref a1, .int x2, .int x3])).length) Slot.unset).toArray = ls at hl ⊢
  have hl : lv_has ls 7 [(0, .ref a0), (1, .ref a1), (2, .int x2), (3, .int x3)] := hl
  unfold wp_X10_passingInYears at hp
  exact t_X10_passingInYears_0 F hr hlocks hK hp hW wX.rf (lv_sub hl [0, 1, 2, 3] rfl) hL_a0 hK_a0 hL_a1 hK_a1
def wp_X10_positionsFitting_86 (D : wD) (post : Int32 → wS → Prop) (k_5 : wS → Nat → Nat → Nat → Int32 → Int32 → Prop) (S : wS) (a0 : Nat) (a1 : Nat) (a2 : Nat) (x3 : Int32) (x4 : Int32) : Prop :=
∀ x_1 : Int32, x_1 = x4 + 1 →
k_5 S a0 a1 a2 x3 x_1
def wp_X10_positionsFitting_78 (D : wD) (post : Int32 → wS → Prop) (k_5 : wS → Nat → Nat → Nat → Int32 → Int32 → Prop) (k_28 : wS → Nat → Nat → Nat → Int32 → Int32 → Option Nat → Int32 → Prop) (S : wS) (a0 : Nat) (a1 : Nat) (a2 : Nat) (x4 : Int32) (a5 : Nat) (x6 : Int32) (t0 : Int32) (t1 : Int32) : Prop :=
∀ x_1 : Int32, x_1 = (t0 + t1) →
∀ x_2 : Int32, x_2 = x6 + 1 →
k_28 S a0 a1 a2 x_1 x4 (some a5) x_2
def wp_X10_positionsFitting_77 (D : wD) (post : Int32 → wS → Prop) (k_5 : wS → Nat → Nat → Nat → Int32 → Int32 → Prop) (k_28 : wS → Nat → Nat → Nat → Int32 → Int32 → Option Nat → Int32 → Prop) (S : wS) (a0 : Nat) (a1 : Nat) (a2 : Nat) (x4 : Int32) (a5 : Nat) (x6 : Int32) (t0 : Int32) : Prop :=
wp_X10_positionsFitting_78 D post k_5 k_28 S a0 a1 a2 x4 a5 x6 t0 (0 : Int32)
def wp_X10_positionsFitting_28 (D : wD) (post : Int32 → wS → Prop) (k_5 : wS → Nat → Nat → Nat → Int32 → Int32 → Prop) : Nat → wS → Nat → Nat → Nat → Int32 → Int32 → Option Nat → Int32 → Prop
  | 0, _, _, _, _, _, _, _, _ => False
  | n + 1, S, a0, a1, a2, x3, x4, g5, x6 =>
    ((g5 = none → wp_X10_positionsFitting_86 D post k_5 S a0 a1 a2 x3 x4) ∧
     (∀ y_1 : Nat, g5 = some y_1 → wM D S y_1 ∧ sK S y_1 = 8 ∧ (((sI S y_1 3) < x6 → wp_X10_positionsFitting_86 D post k_5 S a0 a1 a2 x3 x4) ∧
     (¬ (sI S y_1 3) < x6 → ∃ y_4 : Nat, sR S y_1 0 = some y_4 ∧ wM D S y_4 ∧ sK S y_4 = 22 ∧
    wp_X7_load D (fun S_6 => 
    wp_X3_isFreshAt D (fun r_7 S_8 => 
    ((r_7 = 0 → wp_X10_positionsFitting_77 D post k_5 (wp_X10_positionsFitting_28 D post k_5 n) S_8 a0 a1 a2 x4 y_1 x6 x3) ∧
     (¬ r_7 = 0 → wp_X7_fits D (fun r_10 S_11 => 
    ((r_10 = 0 → wp_X10_positionsFitting_77 D post k_5 (wp_X10_positionsFitting_28 D post k_5 n) S_11 a0 a1 a2 x4 y_1 x6 x3) ∧
     (¬ r_10 = 0 → wp_X10_positionsFitting_78 D post k_5 (wp_X10_positionsFitting_28 D post k_5 n) S_11 a0 a1 a2 x4 y_1 x6 x3 (1 : Int32)))) S_8 a2 a1))) S_6 y_1 x6) S a2 y_4 x6))))
def wp_X10_positionsFitting_5 (D : wD) (post : Int32 → wS → Prop)  : Nat → wS → Nat → Nat → Nat → Int32 → Int32 → Prop
  | 0, _, _, _, _, _, _ => False
  | n + 1, S, a0, a1, a2, x3, x4 =>
    ∃ y_1 : Nat, sR S a0 0 = some y_1 ∧ wM D S y_1 ∧ sK S y_1 = 4 ∧
    wp_Jx4a65c_size_8abf5 D (fun r_2 S_3 => 
    ((r_2 ≤ x4 → post x3 S_3) ∧
     (¬ r_2 ≤ x4 → wp_X10_gameAt D (fun r_5 S_6 => 
    ∃ n_7 : Nat, wp_X10_positionsFitting_28 D post (wp_X10_positionsFitting_5 D post n) n_7 S_6 a0 a1 a2 x3 x4 r_5 (0 : Int32)) S_3 a0 x4))) S y_1
def wp_X10_positionsFitting_0 (D : wD) (post : Int32 → wS → Prop)  (S : wS) (a0 : Nat) (a1 : Nat) (a2 : Nat) : Prop :=
∃ n_1 : Nat, wp_X10_positionsFitting_5 D post n_1 S a0 a1 a2 (0 : Int32) (0 : Int32)
abbrev r_X10_positionsFitting : Room := { frames := 4, cells := 0, slots := 0, locals := 85 }
def wp_X10_positionsFitting (D : wD) (post : Int32 → wS → Prop) (S : wS) (a0 : Nat) (a1 : Nat) (a2 : Nat) : Prop := wp_X10_positionsFitting_0 D post S a0 a1 a2
set_option maxHeartbeats 4000000 in
set_option maxRecDepth 100000 in
theorem t_X10_positionsFitting_86 {p : Program} {l : Launch} {e : Env} {s : State} {m : MethodId} {args : Array Value} {below : List Frame} {meth : Method} {c : Code} {D : wD} {cy : Nat → ClassId} {X : va_W} {A : Nat → Prop} {S0 : wS} {post : Int32 → wS → Prop} (F : CallFix p m c cX10_positionsFitting 7 s args wz_X10_positionsFitting RX10) (hr : meth.sig.returnType = (some .int)) (hlocks : meth.locks = false) (hK : wK D cy A s) {k_5 : wS → Nat → Nat → Nat → Int32 → Int32 → Prop} (q_5 : ∀ {S : wS} {H : Heap} {locs : List Loc} {ls : Array Slot} {a0 : Nat} {a1 : Nat} {a2 : Nat} {x3 : Int32} {x4 : Int32}, k_5 S a0 a1 a2 x3 x4 → wO D cy X A s.heap S H locs → wX D S0 S → lv_has ls 7 [(0, .ref a0), (1, .ref a1), (2, .ref a2), (3, .int x3), (4, .int x4)] → wM D S a0 → sK S a0 = 15 → wM D S a1 → sK S a1 = 21 → wM D S a2 → sK S a2 = 12 → W p l e r_X10_positionsFitting s m args below meth c H locs 0 0 (MQ below (va_Qi (fun r S9 => wX D S0 S9 ∧ post r S9) (wB D cy X A) A) args s 0 0 A) (F0 m 5 ls [])) : ∀ {S : wS} {H : Heap} {locs : List Loc} {ls : Array Slot} {a0 : Nat} {a1 : Nat} {a2 : Nat} {x3 : Int32} {x4 : Int32}, wp_X10_positionsFitting_86 D post k_5 S a0 a1 a2 x3 x4 → wO D cy X A s.heap S H locs → wX D S0 S → lv_has ls 7 [(0, .ref a0), (1, .ref a1), (2, .ref a2), (3, .int x3), (4, .int x4)] → wM D S a0 → sK S a0 = 15 → wM D S a1 → sK S a1 = 21 → wM D S a2 → sK S a2 = 12 → W p l e r_X10_positionsFitting s m args below meth c H locs 0 0 (MQ below (va_Qi (fun r S9 => wX D S0 S9 ∧ post r S9) (wB D cy X A) A) args s 0 0 A) (F0 m 86 ls []) := by
  obtain ⟨hx, hb, hml, hown, hts⟩ := id F
  have hwg : ∀ w ∈ WG, w.before args s = true := fun w h => hts w (List.mem_cons_of_mem _ h)
  intro S H locs ls a0 a1 a2 x3 x4 hp hW hE hl hL_a0 hK_a0 hL_a1 hK_a1 hL_a2 hK_a2
  unfold wp_X10_positionsFitting_86 at hp
  obtain ⟨x_1, ex_1⟩ : ∃ z : Int32, z = x4 + 1 := ⟨_, rfl⟩
  replace hp := hp x_1 ex_1
  refine lv_iinc (v := x_1) (lv' := [(4, .int x_1), (0, .ref a0), (1, .ref a1), (2, .ref a2), (3, .int x3)]) hx hb dX10_positionsFitting_86 hl (k := 4) rfl (by rw [ex_1]; rfl) (by decide) rfl (fun ls hl => ?_)
  refine lv_goto (tgt := 5) hx hb dX10_positionsFitting_89 (by decide) ?_
  exact q_5 hp hW hE (lv_sub hl [1, 2, 3, 4, 0] rfl) hL_a0 hK_a0 hL_a1 hK_a1 hL_a2 hK_a2
set_option maxHeartbeats 4000000 in
set_option maxRecDepth 100000 in
theorem t_X10_positionsFitting_78 {p : Program} {l : Launch} {e : Env} {s : State} {m : MethodId} {args : Array Value} {below : List Frame} {meth : Method} {c : Code} {D : wD} {cy : Nat → ClassId} {X : va_W} {A : Nat → Prop} {S0 : wS} {post : Int32 → wS → Prop} (F : CallFix p m c cX10_positionsFitting 7 s args wz_X10_positionsFitting RX10) (hr : meth.sig.returnType = (some .int)) (hlocks : meth.locks = false) (hK : wK D cy A s) {k_5 : wS → Nat → Nat → Nat → Int32 → Int32 → Prop} (q_5 : ∀ {S : wS} {H : Heap} {locs : List Loc} {ls : Array Slot} {a0 : Nat} {a1 : Nat} {a2 : Nat} {x3 : Int32} {x4 : Int32}, k_5 S a0 a1 a2 x3 x4 → wO D cy X A s.heap S H locs → wX D S0 S → lv_has ls 7 [(0, .ref a0), (1, .ref a1), (2, .ref a2), (3, .int x3), (4, .int x4)] → wM D S a0 → sK S a0 = 15 → wM D S a1 → sK S a1 = 21 → wM D S a2 → sK S a2 = 12 → W p l e r_X10_positionsFitting s m args below meth c H locs 0 0 (MQ below (va_Qi (fun r S9 => wX D S0 S9 ∧ post r S9) (wB D cy X A) A) args s 0 0 A) (F0 m 5 ls [])) {k_28 : wS → Nat → Nat → Nat → Int32 → Int32 → Option Nat → Int32 → Prop} (q_28 : ∀ {S : wS} {H : Heap} {locs : List Loc} {ls : Array Slot} {a0 : Nat} {a1 : Nat} {a2 : Nat} {x3 : Int32} {x4 : Int32} {g5 : Option Nat} {x6 : Int32}, k_28 S a0 a1 a2 x3 x4 g5 x6 → wO D cy X A s.heap S H locs → wX D S0 S → lv_has ls 7 [(0, .ref a0), (1, .ref a1), (2, .ref a2), (3, .int x3), (4, .int x4), (5, va_rf g5), (6, .int x6)] → wM D S a0 → sK S a0 = 15 → wM D S a1 → sK S a1 = 21 → wM D S a2 → sK S a2 = 12 → W p l e r_X10_positionsFitting s m args below meth c H locs 0 0 (MQ below (va_Qi (fun r S9 => wX D S0 S9 ∧ post r S9) (wB D cy X A) A) args s 0 0 A) (F0 m 28 ls [])) : ∀ {S : wS} {H : Heap} {locs : List Loc} {ls : Array Slot} {a0 : Nat} {a1 : Nat} {a2 : Nat} {x4 : Int32} {a5 : Nat} {x6 : Int32} {t0 : Int32} {t1 : Int32}, wp_X10_positionsFitting_78 D post k_5 k_28 S a0 a1 a2 x4 a5 x6 t0 t1 → wO D cy X A s.heap S H locs → wX D S0 S → lv_has ls 7 [(0, .ref a0), (1, .ref a1), (2, .ref a2), (4, .int x4), (5, .ref a5), (6, .int x6)] → wM D S a0 → sK S a0 = 15 → wM D S a1 → sK S a1 = 21 → wM D S a2 → sK S a2 = 12 → wM D S a5 → sK S a5 = 8 → W p l e r_X10_positionsFitting s m args below meth c H locs 0 0 (MQ below (va_Qi (fun r S9 => wX D S0 S9 ∧ post r S9) (wB D cy X A) A) args s 0 0 A) (F0 m 78 ls [.int t1, .int t0]) := by
  obtain ⟨hx, hb, hml, hown, hts⟩ := id F
  have hwg : ∀ w ∈ WG, w.before args s = true := fun w h => hts w (List.mem_cons_of_mem _ h)
  intro S H locs ls a0 a1 a2 x4 a5 x6 t0 t1 hp hW hE hl hL_a0 hK_a0 hL_a1 hK_a1 hL_a2 hK_a2 hL_a5 hK_a5
  unfold wp_X10_positionsFitting_78 at hp
  refine lv_iadd hx hb dX10_positionsFitting_78 ?_
  refine lv_topi (fun x_1 ex_1 => ?_)
  replace hp := hp x_1 ex_1
  refine lv_istore_n (lv' := [(3, .int x_1), (0, .ref a0), (1, .ref a1), (2, .ref a2), (4, .int x4), (5, .ref a5), (6, .int x6)]) hx hb dX10_positionsFitting_79 rfl hl (by decide) rfl (fun ls hl => ?_)
  obtain ⟨x_2, ex_2⟩ : ∃ z : Int32, z = x6 + 1 := ⟨_, rfl⟩
  replace hp := hp x_2 ex_2
  refine lv_iinc (v := x_2) (lv' := [(6, .int x_2), (3, .int x_1), (0, .ref a0), (1, .ref a1), (2, .ref a2), (4, .int x4), (5, .ref a5)]) hx hb dX10_positionsFitting_80 hl (k := 6) rfl (by rw [ex_2]; rfl) (by decide) rfl (fun ls hl => ?_)
  refine lv_goto (tgt := 28) hx hb dX10_positionsFitting_83 (by decide) ?_
  exact q_28 hp hW hE (lv_sub hl [2, 3, 4, 1, 5, 6, 0] rfl) hL_a0 hK_a0 hL_a1 hK_a1 hL_a2 hK_a2
set_option maxHeartbeats 4000000 in
set_option maxRecDepth 100000 in
theorem t_X10_positionsFitting_77 {p : Program} {l : Launch} {e : Env} {s : State} {m : MethodId} {args : Array Value} {below : List Frame} {meth : Method} {c : Code} {D : wD} {cy : Nat → ClassId} {X : va_W} {A : Nat → Prop} {S0 : wS} {post : Int32 → wS → Prop} (F : CallFix p m c cX10_positionsFitting 7 s args wz_X10_positionsFitting RX10) (hr : meth.sig.returnType = (some .int)) (hlocks : meth.locks = false) (hK : wK D cy A s) {k_5 : wS → Nat → Nat → Nat → Int32 → Int32 → Prop} (q_5 : ∀ {S : wS} {H : Heap} {locs : List Loc} {ls : Array Slot} {a0 : Nat} {a1 : Nat} {a2 : Nat} {x3 : Int32} {x4 : Int32}, k_5 S a0 a1 a2 x3 x4 → wO D cy X A s.heap S H locs → wX D S0 S → lv_has ls 7 [(0, .ref a0), (1, .ref a1), (2, .ref a2), (3, .int x3), (4, .int x4)] → wM D S a0 → sK S a0 = 15 → wM D S a1 → sK S a1 = 21 → wM D S a2 → sK S a2 = 12 → W p l e r_X10_positionsFitting s m args below meth c H locs 0 0 (MQ below (va_Qi (fun r S9 => wX D S0 S9 ∧ post r S9) (wB D cy X A) A) args s 0 0 A) (F0 m 5 ls [])) {k_28 : wS → Nat → Nat → Nat → Int32 → Int32 → Option Nat → Int32 → Prop} (q_28 : ∀ {S : wS} {H : Heap} {locs : List Loc} {ls : Array Slot} {a0 : Nat} {a1 : Nat} {a2 : Nat} {x3 : Int32} {x4 : Int32} {g5 : Option Nat} {x6 : Int32}, k_28 S a0 a1 a2 x3 x4 g5 x6 → wO D cy X A s.heap S H locs → wX D S0 S → lv_has ls 7 [(0, .ref a0), (1, .ref a1), (2, .ref a2), (3, .int x3), (4, .int x4), (5, va_rf g5), (6, .int x6)] → wM D S a0 → sK S a0 = 15 → wM D S a1 → sK S a1 = 21 → wM D S a2 → sK S a2 = 12 → W p l e r_X10_positionsFitting s m args below meth c H locs 0 0 (MQ below (va_Qi (fun r S9 => wX D S0 S9 ∧ post r S9) (wB D cy X A) A) args s 0 0 A) (F0 m 28 ls [])) : ∀ {S : wS} {H : Heap} {locs : List Loc} {ls : Array Slot} {a0 : Nat} {a1 : Nat} {a2 : Nat} {x4 : Int32} {a5 : Nat} {x6 : Int32} {t0 : Int32}, wp_X10_positionsFitting_77 D post k_5 k_28 S a0 a1 a2 x4 a5 x6 t0 → wO D cy X A s.heap S H locs → wX D S0 S → lv_has ls 7 [(0, .ref a0), (1, .ref a1), (2, .ref a2), (4, .int x4), (5, .ref a5), (6, .int x6)] → wM D S a0 → sK S a0 = 15 → wM D S a1 → sK S a1 = 21 → wM D S a2 → sK S a2 = 12 → wM D S a5 → sK S a5 = 8 → W p l e r_X10_positionsFitting s m args below meth c H locs 0 0 (MQ below (va_Qi (fun r S9 => wX D S0 S9 ∧ post r S9) (wB D cy X A) A) args s 0 0 A) (F0 m 77 ls [.int t0]) := by
  obtain ⟨hx, hb, hml, hown, hts⟩ := id F
  have hwg : ∀ w ∈ WG, w.before args s = true := fun w h => hts w (List.mem_cons_of_mem _ h)
  intro S H locs ls a0 a1 a2 x4 a5 x6 t0 hp hW hE hl hL_a0 hK_a0 hL_a1 hK_a1 hL_a2 hK_a2 hL_a5 hK_a5
  unfold wp_X10_positionsFitting_77 at hp
  refine lv_iconst (v := 0) hx hb dX10_positionsFitting_77 (by decide) ?_
  exact t_X10_positionsFitting_78 F hr hlocks hK q_5 q_28 hp hW hE (lv_sub hl [0, 1, 2, 3, 4, 5] rfl) hL_a0 hK_a0 hL_a1 hK_a1 hL_a2 hK_a2 hL_a5 hK_a5
set_option maxHeartbeats 4000000 in
set_option maxRecDepth 100000 in
theorem t_X10_positionsFitting_28 {p : Program} {l : Launch} {e : Env} {s : State} {m : MethodId} {args : Array Value} {below : List Frame} {meth : Method} {c : Code} {D : wD} {cy : Nat → ClassId} {X : va_W} {A : Nat → Prop} {S0 : wS} {post : Int32 → wS → Prop} (F : CallFix p m c cX10_positionsFitting 7 s args wz_X10_positionsFitting RX10) (hr : meth.sig.returnType = (some .int)) (hlocks : meth.locks = false) (hK : wK D cy A s) {k_5 : wS → Nat → Nat → Nat → Int32 → Int32 → Prop} (q_5 : ∀ {S : wS} {H : Heap} {locs : List Loc} {ls : Array Slot} {a0 : Nat} {a1 : Nat} {a2 : Nat} {x3 : Int32} {x4 : Int32}, k_5 S a0 a1 a2 x3 x4 → wO D cy X A s.heap S H locs → wX D S0 S → lv_has ls 7 [(0, .ref a0), (1, .ref a1), (2, .ref a2), (3, .int x3), (4, .int x4)] → wM D S a0 → sK S a0 = 15 → wM D S a1 → sK S a1 = 21 → wM D S a2 → sK S a2 = 12 → W p l e r_X10_positionsFitting s m args below meth c H locs 0 0 (MQ below (va_Qi (fun r S9 => wX D S0 S9 ∧ post r S9) (wB D cy X A) A) args s 0 0 A) (F0 m 5 ls [])) : ∀ (n : Nat) {S : wS} {H : Heap} {locs : List Loc} {ls : Array Slot} {a0 : Nat} {a1 : Nat} {a2 : Nat} {x3 : Int32} {x4 : Int32} {g5 : Option Nat} {x6 : Int32}, wp_X10_positionsFitting_28 D post k_5 n S a0 a1 a2 x3 x4 g5 x6 → wO D cy X A s.heap S H locs → wX D S0 S → lv_has ls 7 [(0, .ref a0), (1, .ref a1), (2, .ref a2), (3, .int x3), (4, .int x4), (5, va_rf g5), (6, .int x6)] → wM D S a0 → sK S a0 = 15 → wM D S a1 → sK S a1 = 21 → wM D S a2 → sK S a2 = 12 → W p l e r_X10_positionsFitting s m args below meth c H locs 0 0 (MQ below (va_Qi (fun r S9 => wX D S0 S9 ∧ post r S9) (wB D cy X A) A) args s 0 0 A) (F0 m 28 ls []) := by
  obtain ⟨hx, hb, hml, hown, hts⟩ := id F
  have hwg : ∀ w ∈ WG, w.before args s = true := fun w h => hts w (List.mem_cons_of_mem _ h)
  have i_8 : ∀ w ∈ u_ws RX3 TX3 9, w ∈ wz_X10_positionsFitting := fun w h => List.mem_cons_of_mem _ (wu_8 w h)
  intro n
  induction n with
  | zero =>
    intro S H locs ls a0 a1 a2 x3 x4 g5 x6 hp
    exact hp.elim
  | succ n ih =>
    intro S H locs ls a0 a1 a2 x3 x4 g5 x6 hp hW hE hl hL_a0 hK_a0 hL_a1 hK_a1 hL_a2 hK_a2
    unfold wp_X10_positionsFitting_28 at hp
    refine w_aload hx hb dX10_positionsFitting_28 (lv_at hl 5 rfl) ?_
    refine w_ifnull (tgt := 86) hx hb dX10_positionsFitting_30 (by decide) (fun h_2 => ?_) (fun y_1 h_2 => ?_)
    · replace hp := hp.1 h_2
      revert hp; revert hl; revert hW; revert hE; subst h_2; intro hE hW hl hp
      exact t_X10_positionsFitting_86 F hr hlocks hK q_5 hp hW hE (lv_sub hl [0, 1, 2, 3, 4] rfl) hL_a0 hK_a0 hL_a1 hK_a1 hL_a2 hK_a2
    · replace hp := hp.2 y_1 h_2
      revert hp; revert hl; revert hW; revert hE; subst h_2; intro hE hW hl hp
      obtain ⟨hL_y_1, hK_y_1, hp⟩ := hp
      refine lv_iload hx hb dX10_positionsFitting_33 (lv_at hl 6 rfl) ?_
      refine lv_aload hx hb dX10_positionsFitting_35 (lv_at hl 5 rfl) ?_
      refine w_getN (k := 8) (f := 3) (T := TX3) (v := .int (sI S y_1 3)) F hK hW hL_y_1 hK_y_1 (by decide) rfl rfl (by decide) i_8 (hK.2.1 (.fieldLinkNest "OpeningsCabinet$Shelf" 31 "OpeningsCabinet$Game" "length" "I" "OpeningsCabinet") (by decide +kernel)) rfl dX10_positionsFitting_37 ?_
      refine lv_icmp_gt (tgt := 86) hx hb dX10_positionsFitting_40 (by decide) (fun c_3 => ?_) (fun c_3 => ?_)
      · replace hp := hp.1 c_3
        exact t_X10_positionsFitting_86 F hr hlocks hK q_5 hp hW hE (lv_sub hl [0, 1, 2, 3, 4] rfl) hL_a0 hK_a0 hL_a1 hK_a1 hL_a2 hK_a2
      · replace hp := hp.2 c_3
        refine lv_aload_n hx hb dX10_positionsFitting_43 rfl (lv_at hl 2 rfl) ?_
        refine lv_aload hx hb dX10_positionsFitting_44 (lv_at hl 5 rfl) ?_
        obtain ⟨y_4, ey_4, hL_y_4, hK_y_4, hp⟩ := hp
        refine w_getN (k := 8) (f := 0) (T := TX3) (v := .ref y_4) F hK hW hL_y_1 hK_y_1 (by decide) rfl rfl (by decide) i_8 (hK.2.1 (.fieldLinkNest "OpeningsCabinet$Shelf" 63 "OpeningsCabinet$Game" "places" "[J" "OpeningsCabinet") (by decide +kernel)) (by rw [show wv 8 0 S y_1 = va_rf (sR S y_1 0) from rfl, ey_4]; rfl) dX10_positionsFitting_46 ?_
        refine lv_iload hx hb dX10_positionsFitting_49 (lv_at hl 6 rfl) ?_
        refine w_callV (va_runV (As := [.ref y_4, .int x6]) (rest := []) F (c_X7_load l hL_a2 hK_a2 hL_y_4 hK_y_4 hp H.size) (cwV (C := RX7) 2 hts (wg_V wm_RX10_67 wy_X7_load) rfl rfl rfl (by decide +kernel) ⟨Nat.le_of_ble_eq_true rfl, Nat.le_of_ble_eq_true rfl⟩) (w_preV hK hW hL_a2 hK_a2 (by decide) rfl) rfl rfl hl.1 rfl (lv_room (Nat.le_of_ble_eq_true rfl)) dX10_positionsFitting_51 ⟨Nat.le_of_ble_eq_true rfl, Nat.le_of_ble_eq_true rfl⟩) hW (fun S_6 H locs hp hW => ?_)
        obtain ⟨hX_S_6, hp⟩ := hp
        refine W.widen (k := 0) (n := 0) (by decide) (by decide) ?_
        have hE := hE.trans hX_S_6
        have hK_a0 : sK S_6 a0 = 15 := (hX_S_6.2 a0 hL_a0).1.trans hK_a0
        have hL_a0 : wM D S_6 a0 := hX_S_6.M hL_a0
        have hK_a1 : sK S_6 a1 = 21 := (hX_S_6.2 a1 hL_a1).1.trans hK_a1
        have hL_a1 : wM D S_6 a1 := hX_S_6.M hL_a1
        have hK_a2 : sK S_6 a2 = 12 := (hX_S_6.2 a2 hL_a2).1.trans hK_a2
        have hL_a2 : wM D S_6 a2 := hX_S_6.M hL_a2
        have hK_y_1 : sK S_6 y_1 = 8 := (hX_S_6.2 y_1 hL_y_1).1.trans hK_y_1
        have hL_y_1 : wM D S_6 y_1 := hX_S_6.M hL_y_1
        refine lv_iload_n hx hb dX10_positionsFitting_54 rfl (lv_at hl 3 rfl) ?_
        refine lv_aload hx hb dX10_positionsFitting_55 (lv_at hl 5 rfl) ?_
        refine lv_iload hx hb dX10_positionsFitting_57 (lv_at hl 6 rfl) ?_
        refine w_callI (va_runV (As := [.int x6]) (rest := [.int x3]) F (c_X3_isFreshAt l hL_y_1 hK_y_1 hp H.size) (cwV (C := RX3) 1 hts (wg_V wm_RX10_59 wy_X3_isFreshAt) rfl rfl rfl (by decide +kernel) ⟨Nat.le_of_ble_eq_true rfl, Nat.le_of_ble_eq_true rfl⟩) (w_preV hK hW hL_y_1 hK_y_1 (by decide) rfl) rfl rfl hl.1 rfl (lv_room (Nat.le_of_ble_eq_true rfl)) dX10_positionsFitting_59 ⟨Nat.le_of_ble_eq_true rfl, Nat.le_of_ble_eq_true rfl⟩) hW (fun r_7 S_8 H locs hp hW => ?_)
        obtain ⟨hX_S_8, hp⟩ := hp
        refine W.widen (k := 0) (n := 0) (by decide) (by decide) ?_
        have hE := hE.trans hX_S_8
        have hK_a0 : sK S_8 a0 = 15 := (hX_S_8.2 a0 hL_a0).1.trans hK_a0
        have hL_a0 : wM D S_8 a0 := hX_S_8.M hL_a0
        have hK_a1 : sK S_8 a1 = 21 := (hX_S_8.2 a1 hL_a1).1.trans hK_a1
        have hL_a1 : wM D S_8 a1 := hX_S_8.M hL_a1
        have hK_a2 : sK S_8 a2 = 12 := (hX_S_8.2 a2 hL_a2).1.trans hK_a2
        have hL_a2 : wM D S_8 a2 := hX_S_8.M hL_a2
        have hK_y_1 : sK S_8 y_1 = 8 := (hX_S_8.2 y_1 hL_y_1).1.trans hK_y_1
        have hL_y_1 : wM D S_8 y_1 := hX_S_8.M hL_y_1
        refine lv_if_eq (tgt := 77) hx hb dX10_positionsFitting_62 (by decide) (fun c_9 => ?_) (fun c_9 => ?_)
        · replace hp := hp.1 c_9
          exact t_X10_positionsFitting_77 F hr hlocks hK q_5 ih hp hW hE (lv_sub hl [0, 1, 2, 4, 5, 6] rfl) hL_a0 hK_a0 hL_a1 hK_a1 hL_a2 hK_a2 hL_y_1 hK_y_1
        · replace hp := hp.2 c_9
          refine lv_aload_n hx hb dX10_positionsFitting_65 rfl (lv_at hl 2 rfl) ?_
          refine lv_aload_n hx hb dX10_positionsFitting_66 rfl (lv_at hl 1 rfl) ?_
          refine w_callI (va_runV (As := [.ref a1]) (rest := [.int x3]) F (c_X7_fits l hL_a2 hK_a2 hL_a1 hK_a1 hp H.size) (cwV (C := RX7) 1 hts (wg_V wm_RX10_73 wy_X7_fits) rfl rfl rfl (by decide +kernel) ⟨Nat.le_of_ble_eq_true rfl, Nat.le_of_ble_eq_true rfl⟩) (w_preV hK hW hL_a2 hK_a2 (by decide) rfl) rfl rfl hl.1 rfl (lv_room (Nat.le_of_ble_eq_true rfl)) dX10_positionsFitting_67 ⟨Nat.le_of_ble_eq_true rfl, Nat.le_of_ble_eq_true rfl⟩) hW (fun r_10 S_11 H locs hp hW => ?_)
          obtain ⟨hX_S_11, hp⟩ := hp
          refine W.widen (k := 0) (n := 0) (by decide) (by decide) ?_
          have hE := hE.trans hX_S_11
          have hK_a0 : sK S_11 a0 = 15 := (hX_S_11.2 a0 hL_a0).1.trans hK_a0
          have hL_a0 : wM D S_11 a0 := hX_S_11.M hL_a0
          have hK_a1 : sK S_11 a1 = 21 := (hX_S_11.2 a1 hL_a1).1.trans hK_a1
          have hL_a1 : wM D S_11 a1 := hX_S_11.M hL_a1
          have hK_a2 : sK S_11 a2 = 12 := (hX_S_11.2 a2 hL_a2).1.trans hK_a2
          have hL_a2 : wM D S_11 a2 := hX_S_11.M hL_a2
          have hK_y_1 : sK S_11 y_1 = 8 := (hX_S_11.2 y_1 hL_y_1).1.trans hK_y_1
          have hL_y_1 : wM D S_11 y_1 := hX_S_11.M hL_y_1
          refine lv_if_eq (tgt := 77) hx hb dX10_positionsFitting_70 (by decide) (fun c_12 => ?_) (fun c_12 => ?_)
          · replace hp := hp.1 c_12
            exact t_X10_positionsFitting_77 F hr hlocks hK q_5 ih hp hW hE (lv_sub hl [0, 1, 2, 4, 5, 6] rfl) hL_a0 hK_a0 hL_a1 hK_a1 hL_a2 hK_a2 hL_y_1 hK_y_1
          · replace hp := hp.2 c_12
            refine lv_iconst (v := 1) hx hb dX10_positionsFitting_73 (by decide) ?_
            refine lv_goto (tgt := 78) hx hb dX10_positionsFitting_74 (by decide) ?_
            exact t_X10_positionsFitting_78 F hr hlocks hK q_5 ih hp hW hE (lv_sub hl [0, 1, 2, 4, 5, 6] rfl) hL_a0 hK_a0 hL_a1 hK_a1 hL_a2 hK_a2 hL_y_1 hK_y_1
set_option maxHeartbeats 4000000 in
set_option maxRecDepth 100000 in
theorem t_X10_positionsFitting_5 {p : Program} {l : Launch} {e : Env} {s : State} {m : MethodId} {args : Array Value} {below : List Frame} {meth : Method} {c : Code} {D : wD} {cy : Nat → ClassId} {X : va_W} {A : Nat → Prop} {S0 : wS} {post : Int32 → wS → Prop} (F : CallFix p m c cX10_positionsFitting 7 s args wz_X10_positionsFitting RX10) (hr : meth.sig.returnType = (some .int)) (hlocks : meth.locks = false) (hK : wK D cy A s) : ∀ (n : Nat) {S : wS} {H : Heap} {locs : List Loc} {ls : Array Slot} {a0 : Nat} {a1 : Nat} {a2 : Nat} {x3 : Int32} {x4 : Int32}, wp_X10_positionsFitting_5 D post n S a0 a1 a2 x3 x4 → wO D cy X A s.heap S H locs → wX D S0 S → lv_has ls 7 [(0, .ref a0), (1, .ref a1), (2, .ref a2), (3, .int x3), (4, .int x4)] → wM D S a0 → sK S a0 = 15 → wM D S a1 → sK S a1 = 21 → wM D S a2 → sK S a2 = 12 → W p l e r_X10_positionsFitting s m args below meth c H locs 0 0 (MQ below (va_Qi (fun r S9 => wX D S0 S9 ∧ post r S9) (wB D cy X A) A) args s 0 0 A) (F0 m 5 ls []) := by
  obtain ⟨hx, hb, hml, hown, hts⟩ := id F
  have hwg : ∀ w ∈ WG, w.before args s = true := fun w h => hts w (List.mem_cons_of_mem _ h)
  have i_15 : ∀ w ∈ u_ws RX10 TX10 1, w ∈ wz_X10_positionsFitting := fun w h => List.mem_cons_of_mem _ (wu_15 w h)
  have k_12 := hwg _ wf_RX10_12
  intro n
  induction n with
  | zero =>
    intro S H locs ls a0 a1 a2 x3 x4 hp
    exact hp.elim
  | succ n ih =>
    intro S H locs ls a0 a1 a2 x3 x4 hp hW hE hl hL_a0 hK_a0 hL_a1 hK_a1 hL_a2 hK_a2
    unfold wp_X10_positionsFitting_5 at hp
    refine lv_iload hx hb dX10_positionsFitting_5 (lv_at hl 4 rfl) ?_
    refine lv_aload_n hx hb dX10_positionsFitting_7 rfl (lv_at hl 0 rfl) ?_
    obtain ⟨y_1, ey_1, hL_y_1, hK_y_1, hp⟩ := hp
    refine w_get (k := 15) (f := 0) (T := TX10) (v := .ref y_1) F hK hW hL_a0 hK_a0 (by decide) rfl rfl (by decide) i_15 k_12 (by rw [show wv 15 0 S a0 = va_rf (sR S a0 0) from rfl, ey_1]; rfl) dX10_positionsFitting_8 ?_
    refine w_callI (va_runV (As := []) (rest := [.int x4]) F (c_Jx4a65c_size_8abf5 l hL_y_1 hK_y_1 hp H.size) (cwV (C := RJx4a65c) 0 hts (wg_V wm_RX10_18 wy_Jx4a65c_size_8abf5) rfl rfl rfl (by decide +kernel) ⟨Nat.le_of_ble_eq_true rfl, Nat.le_of_ble_eq_true rfl⟩) (w_preV hK hW hL_y_1 hK_y_1 (by decide) rfl) rfl rfl hl.1 rfl (lv_room (Nat.le_of_ble_eq_true rfl)) dX10_positionsFitting_11 ⟨Nat.le_of_ble_eq_true rfl, Nat.le_of_ble_eq_true rfl⟩) hW (fun r_2 S_3 H locs hp hW => ?_)
    obtain ⟨hX_S_3, hp⟩ := hp
    refine W.widen (k := 0) (n := 0) (by decide) (by decide) ?_
    have hE := hE.trans hX_S_3
    have hK_a0 : sK S_3 a0 = 15 := (hX_S_3.2 a0 hL_a0).1.trans hK_a0
    have hL_a0 : wM D S_3 a0 := hX_S_3.M hL_a0
    have hK_a1 : sK S_3 a1 = 21 := (hX_S_3.2 a1 hL_a1).1.trans hK_a1
    have hL_a1 : wM D S_3 a1 := hX_S_3.M hL_a1
    have hK_a2 : sK S_3 a2 = 12 := (hX_S_3.2 a2 hL_a2).1.trans hK_a2
    have hL_a2 : wM D S_3 a2 := hX_S_3.M hL_a2
    refine lv_icmp_ge (tgt := 92) hx hb dX10_positionsFitting_14 (by decide) (fun c_4 => ?_) (fun c_4 => ?_)
    · replace hp := hp.1 c_4
      refine lv_iload_n hx hb dX10_positionsFitting_92 rfl (lv_at hl 3 rfl) ?_
      exact w_iret hx hb hr hlocks hW ⟨hE, hp⟩ dX10_positionsFitting_93
    · replace hp := hp.2 c_4
      refine lv_aload_n hx hb dX10_positionsFitting_17 rfl (lv_at hl 0 rfl) ?_
      refine lv_iload hx hb dX10_positionsFitting_18 (lv_at hl 4 rfl) ?_
      refine w_callR (va_runV (As := [.int x4]) (rest := []) F (c_X10_gameAt l hL_a0 hK_a0 hp H.size) (cwV (C := RX10) 1 hts (wg_V wm_RX10_51 wy_X10_gameAt) rfl rfl rfl (by decide +kernel) ⟨Nat.le_of_ble_eq_true rfl, Nat.le_of_ble_eq_true rfl⟩) (w_preV hK hW hL_a0 hK_a0 (by decide) rfl) rfl rfl hl.1 rfl (lv_room (Nat.le_of_ble_eq_true rfl)) dX10_positionsFitting_20 ⟨Nat.le_of_ble_eq_true rfl, Nat.le_of_ble_eq_true rfl⟩) hW (fun r_5 S_6 H locs hp hW => ?_)
      obtain ⟨hX_S_6, hp⟩ := hp
      refine W.widen (k := 0) (n := 0) (by decide) (by decide) ?_
      have hE := hE.trans hX_S_6
      have hK_a0 : sK S_6 a0 = 15 := (hX_S_6.2 a0 hL_a0).1.trans hK_a0
      have hL_a0 : wM D S_6 a0 := hX_S_6.M hL_a0
      have hK_a1 : sK S_6 a1 = 21 := (hX_S_6.2 a1 hL_a1).1.trans hK_a1
      have hL_a1 : wM D S_6 a1 := hX_S_6.M hL_a1
      have hK_a2 : sK S_6 a2 = 12 := (hX_S_6.2 a2 hL_a2).1.trans hK_a2
      have hL_a2 : wM D S_6 a2 := hX_S_6.M hL_a2
      refine w_astore (lv' := [(5, va_rf r_5), (0, .ref a0), (1, .ref a1), (2, .ref a2), (3, .int x3), (4, .int x4)]) hx hb dX10_positionsFitting_23 hl (by decide) rfl (fun ls hl => ?_)
      refine lv_iconst (v := 0) hx hb dX10_positionsFitting_25 (by decide) ?_
      refine lv_istore (lv' := [(6, .int (0 : Int32)), (5, va_rf r_5), (0, .ref a0), (1, .ref a1), (2, .ref a2), (3, .int x3), (4, .int x4)]) hx hb dX10_positionsFitting_26 hl (by decide) (by cases r_5 <;> rfl) (fun ls hl => ?_)
      obtain ⟨n_7, hp⟩ := hp
      exact t_X10_positionsFitting_28 F hr hlocks hK ih n_7 hp hW hE (lv_sub hl [2, 3, 4, 5, 6, 1, 0] rfl) hL_a0 hK_a0 hL_a1 hK_a1 hL_a2 hK_a2
set_option maxHeartbeats 4000000 in
set_option maxRecDepth 100000 in
theorem t_X10_positionsFitting_0 {p : Program} {l : Launch} {e : Env} {s : State} {m : MethodId} {args : Array Value} {below : List Frame} {meth : Method} {c : Code} {D : wD} {cy : Nat → ClassId} {X : va_W} {A : Nat → Prop} {S0 : wS} {post : Int32 → wS → Prop} (F : CallFix p m c cX10_positionsFitting 7 s args wz_X10_positionsFitting RX10) (hr : meth.sig.returnType = (some .int)) (hlocks : meth.locks = false) (hK : wK D cy A s) : ∀ {S : wS} {H : Heap} {locs : List Loc} {ls : Array Slot} {a0 : Nat} {a1 : Nat} {a2 : Nat}, wp_X10_positionsFitting_0 D post S a0 a1 a2 → wO D cy X A s.heap S H locs → wX D S0 S → lv_has ls 7 [(0, .ref a0), (1, .ref a1), (2, .ref a2)] → wM D S a0 → sK S a0 = 15 → wM D S a1 → sK S a1 = 21 → wM D S a2 → sK S a2 = 12 → W p l e r_X10_positionsFitting s m args below meth c H locs 0 0 (MQ below (va_Qi (fun r S9 => wX D S0 S9 ∧ post r S9) (wB D cy X A) A) args s 0 0 A) (F0 m 0 ls []) := by
  obtain ⟨hx, hb, hml, hown, hts⟩ := id F
  have hwg : ∀ w ∈ WG, w.before args s = true := fun w h => hts w (List.mem_cons_of_mem _ h)
  intro S H locs ls a0 a1 a2 hp hW hE hl hL_a0 hK_a0 hL_a1 hK_a1 hL_a2 hK_a2
  unfold wp_X10_positionsFitting_0 at hp
  refine lv_iconst (v := 0) hx hb dX10_positionsFitting_0 (by decide) ?_
  refine lv_istore_n (lv' := [(3, .int (0 : Int32)), (0, .ref a0), (1, .ref a1), (2, .ref a2)]) hx hb dX10_positionsFitting_1 rfl hl (by decide) rfl (fun ls hl => ?_)
  refine lv_iconst (v := 0) hx hb dX10_positionsFitting_2 (by decide) ?_
  refine lv_istore (lv' := [(4, .int (0 : Int32)), (3, .int (0 : Int32)), (0, .ref a0), (1, .ref a1), (2, .ref a2)]) hx hb dX10_positionsFitting_3 hl (by decide) rfl (fun ls hl => ?_)
  obtain ⟨n_1, hp⟩ := hp
  exact t_X10_positionsFitting_5 F hr hlocks hK n_1 hp hW hE (lv_sub hl [2, 3, 4, 1, 0] rfl) hL_a0 hK_a0 hL_a1 hK_a1 hL_a2 hK_a2
set_option maxHeartbeats 4000000 in
set_option maxRecDepth 100000 in
theorem c_X10_positionsFitting (l : Launch) {D : wD} {cy : Nat → ClassId} {X : va_W} {S0 : wS} {post : Int32 → wS → Prop} {a0 : Nat} {a1 : Nat} {a2 : Nat} (hL_a0 : wM D S0 a0) (hK_a0 : sK S0 a0 = 15) (hL_a1 : wM D S0 a1) (hK_a1 : sK S0 a1 = 21) (hL_a2 : wM D S0 a2) (hK_a2 : sK S0 a2 = 12) (hp : wp_X10_positionsFitting D post S0 a0 a1 a2) : mI D cy X l yX10_positionsFitting wz_X10_positionsFitting r_X10_positionsFitting [.ref a0, .ref a1, .ref a2] S0 (fun r S9 => wX D S0 S9 ∧ post r S9) := by
  intro sz
  refine Met.ofW (cc := cX10_positionsFitting) (maxL := 7) (ret := (some .int)) (by decide) rfl ?_
  intro p e s m args below meth c s₁ B hml hv
  obtain ⟨rfl, hsz, hP, hK, hD0, hRO⟩ := hv
  have hts := atoms_spec (ws := wz_X10_positionsFitting) B.pre
  have hown : s.vm.findClass RX10 = some m.cls := findClass_of_methodNamed B.named
  subst hsz
  have hD := hD0.self (sz := s.heap.size)
  have F : CallFix p m c cX10_positionsFitting 7 s _ wz_X10_positionsFitting RX10 := ⟨B.exec, B.bytes, hml, hown, hts⟩
  have hr := B.returns
  have hlocks := B.notSynchronized
  generalize hAe : va_A (wL cy X S0) s.heap.size = A at hD hK ⊢
  have hA : ∀ q, s.heap.size ≤ q → A q := fun q h => by rw [← hAe]; exact Or.inr h
  have hW : wO D cy X A s.heap S0 s.heap [] := ⟨hP, hD, va_S.rf, hA, hRO⟩
  have hl := lv_entry ([.ref a0, .ref a1, .ref a2]) (n := 7) (Nat.le_of_ble_eq_true rfl)
  rw [lg_entry_eq]
  generalize (lg_sl ([.ref a0, .ref a1, .ref a2]) ++ List.replicate (7 - (lg_sl ([.ref a0, .ref a1, .ref a2])).length) Slot.unset).toArray = ls at hl ⊢
  have hl : lv_has ls 7 [(0, .ref a0), (1, .ref a1), (2, .ref a2)] := hl
  unfold wp_X10_positionsFitting at hp
  exact t_X10_positionsFitting_0 F hr hlocks hK hp hW wX.rf (lv_sub hl [0, 1, 2] rfl) hL_a0 hK_a0 hL_a1 hK_a1 hL_a2 hK_a2
def wp_X10_replaysPassing_103 (D : wD) (post : Int32 → wS → Prop) (k_5 : wS → Nat → Nat → Nat → Int32 → Int32 → Prop) (S : wS) (a0 : Nat) (a1 : Nat) (a2 : Nat) (x3 : Int32) (x4 : Int32) : Prop :=
∀ x_1 : Int32, x_1 = x4 + 1 →
k_5 S a0 a1 a2 x3 x_1
def wp_X10_replaysPassing_101 (D : wD) (post : Int32 → wS → Prop) (k_5 : wS → Nat → Nat → Nat → Int32 → Int32 → Prop) (S : wS) (a0 : Nat) (a1 : Nat) (a2 : Nat) (x4 : Int32) (t0 : Int32) (t1 : Int32) : Prop :=
∀ x_1 : Int32, x_1 = (t0 + t1) →
wp_X10_replaysPassing_103 D post k_5 S a0 a1 a2 x_1 x4
def wp_X10_replaysPassing_53 (D : wD) (post : Int32 → wS → Prop) (k_5 : wS → Nat → Nat → Nat → Int32 → Int32 → Prop) : Nat → wS → Nat → Nat → Nat → Int32 → Int32 → Nat → Int32 → Int32 → Prop
  | 0, _, _, _, _, _, _, _, _, _ => False
  | n + 1, S, a0, a1, a2, x3, x4, a5, x6, x7 =>
    (((sI S a5 3) ≤ x7 → ((x6 = 0 → wp_X10_replaysPassing_101 D post k_5 S a0 a1 a2 x4 x3 (0 : Int32)) ∧
     (¬ x6 = 0 → wp_X10_replaysPassing_101 D post k_5 S a0 a1 a2 x4 x3 (1 : Int32)))) ∧
     (¬ (sI S a5 3) ≤ x7 → wp_X3_moveAt D (fun r_3 S_4 => 
    wp_X7_apply D (fun S_6 => 
    wp_X7_isLike D (fun r_7 S_8 => 
    ∀ x_9 : Int32, x_9 = (x6 ||| r_7) →
    ∀ x_10 : Int32, x_10 = x7 + 1 →
    wp_X10_replaysPassing_53 D post k_5 n S_8 a0 a1 a2 x3 x4 a5 x_9 x_10) S_6 a2 a1) S_4 a2 r_3) S a5 x7))
def wp_X10_replaysPassing_5 (D : wD) (post : Int32 → wS → Prop)  : Nat → wS → Nat → Nat → Nat → Int32 → Int32 → Prop
  | 0, _, _, _, _, _, _ => False
  | n + 1, S, a0, a1, a2, x3, x4 =>
    ∃ y_1 : Nat, sR S a0 0 = some y_1 ∧ wM D S y_1 ∧ sK S y_1 = 4 ∧
    wp_Jx4a65c_size_8abf5 D (fun r_2 S_3 => 
    ((r_2 ≤ x4 → post x3 S_3) ∧
     (¬ r_2 ≤ x4 → wp_X10_gameAt D (fun r_5 S_6 => 
    ((r_5 = none → wp_X10_replaysPassing_103 D post (wp_X10_replaysPassing_5 D post n) S_6 a0 a1 a2 x3 x4) ∧
     (∀ y_7 : Nat, r_5 = some y_7 → wM D S_6 y_7 ∧ sK S_6 y_7 = 8 ∧ ∃ y_9 : Nat, sR S_6 y_7 0 = some y_9 ∧ wM D S_6 y_9 ∧ sK S_6 y_9 = 22 ∧
    wp_X7_load D (fun S_11 => 
    wp_X7_isLike D (fun r_12 S_13 => 
    ∃ n_14 : Nat, wp_X10_replaysPassing_53 D post (wp_X10_replaysPassing_5 D post n) n_14 S_13 a0 a1 a2 x3 x4 y_7 r_12 (0 : Int32)) S_11 a2 a1) S_6 a2 y_9 (0 : Int32)))) S_3 a0 x4))) S y_1
def wp_X10_replaysPassing_0 (D : wD) (post : Int32 → wS → Prop)  (S : wS) (a0 : Nat) (a1 : Nat) (a2 : Nat) : Prop :=
∃ n_1 : Nat, wp_X10_replaysPassing_5 D post n_1 S a0 a1 a2 (0 : Int32) (0 : Int32)
abbrev r_X10_replaysPassing : Room := { frames := 4, cells := 0, slots := 0, locals := 85 }
def wp_X10_replaysPassing (D : wD) (post : Int32 → wS → Prop) (S : wS) (a0 : Nat) (a1 : Nat) (a2 : Nat) : Prop := wp_X10_replaysPassing_0 D post S a0 a1 a2
set_option maxHeartbeats 4000000 in
set_option maxRecDepth 100000 in
theorem t_X10_replaysPassing_103 {p : Program} {l : Launch} {e : Env} {s : State} {m : MethodId} {args : Array Value} {below : List Frame} {meth : Method} {c : Code} {D : wD} {cy : Nat → ClassId} {X : va_W} {A : Nat → Prop} {S0 : wS} {post : Int32 → wS → Prop} (F : CallFix p m c cX10_replaysPassing 8 s args wz_X10_replaysPassing RX10) (hr : meth.sig.returnType = (some .int)) (hlocks : meth.locks = false) (hK : wK D cy A s) {k_5 : wS → Nat → Nat → Nat → Int32 → Int32 → Prop} (q_5 : ∀ {S : wS} {H : Heap} {locs : List Loc} {ls : Array Slot} {a0 : Nat} {a1 : Nat} {a2 : Nat} {x3 : Int32} {x4 : Int32}, k_5 S a0 a1 a2 x3 x4 → wO D cy X A s.heap S H locs → wX D S0 S → lv_has ls 8 [(0, .ref a0), (1, .ref a1), (2, .ref a2), (3, .int x3), (4, .int x4)] → wM D S a0 → sK S a0 = 15 → wM D S a1 → sK S a1 = 12 → wM D S a2 → sK S a2 = 12 → W p l e r_X10_replaysPassing s m args below meth c H locs 0 0 (MQ below (va_Qi (fun r S9 => wX D S0 S9 ∧ post r S9) (wB D cy X A) A) args s 0 0 A) (F0 m 5 ls [])) : ∀ {S : wS} {H : Heap} {locs : List Loc} {ls : Array Slot} {a0 : Nat} {a1 : Nat} {a2 : Nat} {x3 : Int32} {x4 : Int32}, wp_X10_replaysPassing_103 D post k_5 S a0 a1 a2 x3 x4 → wO D cy X A s.heap S H locs → wX D S0 S → lv_has ls 8 [(0, .ref a0), (1, .ref a1), (2, .ref a2), (3, .int x3), (4, .int x4)] → wM D S a0 → sK S a0 = 15 → wM D S a1 → sK S a1 = 12 → wM D S a2 → sK S a2 = 12 → W p l e r_X10_replaysPassing s m args below meth c H locs 0 0 (MQ below (va_Qi (fun r S9 => wX D S0 S9 ∧ post r S9) (wB D cy X A) A) args s 0 0 A) (F0 m 103 ls []) := by
  obtain ⟨hx, hb, hml, hown, hts⟩ := id F
  have hwg : ∀ w ∈ WG, w.before args s = true := fun w h => hts w (List.mem_cons_of_mem _ h)
  intro S H locs ls a0 a1 a2 x3 x4 hp hW hE hl hL_a0 hK_a0 hL_a1 hK_a1 hL_a2 hK_a2
  unfold wp_X10_replaysPassing_103 at hp
  obtain ⟨x_1, ex_1⟩ : ∃ z : Int32, z = x4 + 1 := ⟨_, rfl⟩
  replace hp := hp x_1 ex_1
  refine lv_iinc (v := x_1) (lv' := [(4, .int x_1), (0, .ref a0), (1, .ref a1), (2, .ref a2), (3, .int x3)]) hx hb dX10_replaysPassing_103 hl (k := 4) rfl (by rw [ex_1]; rfl) (by decide) rfl (fun ls hl => ?_)
  refine lv_goto (tgt := 5) hx hb dX10_replaysPassing_106 (by decide) ?_
  exact q_5 hp hW hE (lv_sub hl [1, 2, 3, 4, 0] rfl) hL_a0 hK_a0 hL_a1 hK_a1 hL_a2 hK_a2
set_option maxHeartbeats 4000000 in
set_option maxRecDepth 100000 in
theorem t_X10_replaysPassing_101 {p : Program} {l : Launch} {e : Env} {s : State} {m : MethodId} {args : Array Value} {below : List Frame} {meth : Method} {c : Code} {D : wD} {cy : Nat → ClassId} {X : va_W} {A : Nat → Prop} {S0 : wS} {post : Int32 → wS → Prop} (F : CallFix p m c cX10_replaysPassing 8 s args wz_X10_replaysPassing RX10) (hr : meth.sig.returnType = (some .int)) (hlocks : meth.locks = false) (hK : wK D cy A s) {k_5 : wS → Nat → Nat → Nat → Int32 → Int32 → Prop} (q_5 : ∀ {S : wS} {H : Heap} {locs : List Loc} {ls : Array Slot} {a0 : Nat} {a1 : Nat} {a2 : Nat} {x3 : Int32} {x4 : Int32}, k_5 S a0 a1 a2 x3 x4 → wO D cy X A s.heap S H locs → wX D S0 S → lv_has ls 8 [(0, .ref a0), (1, .ref a1), (2, .ref a2), (3, .int x3), (4, .int x4)] → wM D S a0 → sK S a0 = 15 → wM D S a1 → sK S a1 = 12 → wM D S a2 → sK S a2 = 12 → W p l e r_X10_replaysPassing s m args below meth c H locs 0 0 (MQ below (va_Qi (fun r S9 => wX D S0 S9 ∧ post r S9) (wB D cy X A) A) args s 0 0 A) (F0 m 5 ls [])) : ∀ {S : wS} {H : Heap} {locs : List Loc} {ls : Array Slot} {a0 : Nat} {a1 : Nat} {a2 : Nat} {x4 : Int32} {t0 : Int32} {t1 : Int32}, wp_X10_replaysPassing_101 D post k_5 S a0 a1 a2 x4 t0 t1 → wO D cy X A s.heap S H locs → wX D S0 S → lv_has ls 8 [(0, .ref a0), (1, .ref a1), (2, .ref a2), (4, .int x4)] → wM D S a0 → sK S a0 = 15 → wM D S a1 → sK S a1 = 12 → wM D S a2 → sK S a2 = 12 → W p l e r_X10_replaysPassing s m args below meth c H locs 0 0 (MQ below (va_Qi (fun r S9 => wX D S0 S9 ∧ post r S9) (wB D cy X A) A) args s 0 0 A) (F0 m 101 ls [.int t1, .int t0]) := by
  obtain ⟨hx, hb, hml, hown, hts⟩ := id F
  have hwg : ∀ w ∈ WG, w.before args s = true := fun w h => hts w (List.mem_cons_of_mem _ h)
  intro S H locs ls a0 a1 a2 x4 t0 t1 hp hW hE hl hL_a0 hK_a0 hL_a1 hK_a1 hL_a2 hK_a2
  unfold wp_X10_replaysPassing_101 at hp
  refine lv_iadd hx hb dX10_replaysPassing_101 ?_
  refine lv_topi (fun x_1 ex_1 => ?_)
  replace hp := hp x_1 ex_1
  refine lv_istore_n (lv' := [(3, .int x_1), (0, .ref a0), (1, .ref a1), (2, .ref a2), (4, .int x4)]) hx hb dX10_replaysPassing_102 rfl hl (by decide) rfl (fun ls hl => ?_)
  exact t_X10_replaysPassing_103 F hr hlocks hK q_5 hp hW hE (lv_sub hl [1, 2, 3, 0, 4] rfl) hL_a0 hK_a0 hL_a1 hK_a1 hL_a2 hK_a2
set_option maxHeartbeats 4000000 in
set_option maxRecDepth 100000 in
theorem t_X10_replaysPassing_53 {p : Program} {l : Launch} {e : Env} {s : State} {m : MethodId} {args : Array Value} {below : List Frame} {meth : Method} {c : Code} {D : wD} {cy : Nat → ClassId} {X : va_W} {A : Nat → Prop} {S0 : wS} {post : Int32 → wS → Prop} (F : CallFix p m c cX10_replaysPassing 8 s args wz_X10_replaysPassing RX10) (hr : meth.sig.returnType = (some .int)) (hlocks : meth.locks = false) (hK : wK D cy A s) {k_5 : wS → Nat → Nat → Nat → Int32 → Int32 → Prop} (q_5 : ∀ {S : wS} {H : Heap} {locs : List Loc} {ls : Array Slot} {a0 : Nat} {a1 : Nat} {a2 : Nat} {x3 : Int32} {x4 : Int32}, k_5 S a0 a1 a2 x3 x4 → wO D cy X A s.heap S H locs → wX D S0 S → lv_has ls 8 [(0, .ref a0), (1, .ref a1), (2, .ref a2), (3, .int x3), (4, .int x4)] → wM D S a0 → sK S a0 = 15 → wM D S a1 → sK S a1 = 12 → wM D S a2 → sK S a2 = 12 → W p l e r_X10_replaysPassing s m args below meth c H locs 0 0 (MQ below (va_Qi (fun r S9 => wX D S0 S9 ∧ post r S9) (wB D cy X A) A) args s 0 0 A) (F0 m 5 ls [])) : ∀ (n : Nat) {S : wS} {H : Heap} {locs : List Loc} {ls : Array Slot} {a0 : Nat} {a1 : Nat} {a2 : Nat} {x3 : Int32} {x4 : Int32} {a5 : Nat} {x6 : Int32} {x7 : Int32}, wp_X10_replaysPassing_53 D post k_5 n S a0 a1 a2 x3 x4 a5 x6 x7 → wO D cy X A s.heap S H locs → wX D S0 S → lv_has ls 8 [(0, .ref a0), (1, .ref a1), (2, .ref a2), (3, .int x3), (4, .int x4), (5, .ref a5), (6, .int x6), (7, .int x7)] → wM D S a0 → sK S a0 = 15 → wM D S a1 → sK S a1 = 12 → wM D S a2 → sK S a2 = 12 → wM D S a5 → sK S a5 = 8 → W p l e r_X10_replaysPassing s m args below meth c H locs 0 0 (MQ below (va_Qi (fun r S9 => wX D S0 S9 ∧ post r S9) (wB D cy X A) A) args s 0 0 A) (F0 m 53 ls []) := by
  obtain ⟨hx, hb, hml, hown, hts⟩ := id F
  have hwg : ∀ w ∈ WG, w.before args s = true := fun w h => hts w (List.mem_cons_of_mem _ h)
  have i_8 : ∀ w ∈ u_ws RX3 TX3 9, w ∈ wz_X10_replaysPassing := fun w h => List.mem_cons_of_mem _ (wu_8 w h)
  intro n
  induction n with
  | zero =>
    intro S H locs ls a0 a1 a2 x3 x4 a5 x6 x7 hp
    exact hp.elim
  | succ n ih =>
    intro S H locs ls a0 a1 a2 x3 x4 a5 x6 x7 hp hW hE hl hL_a0 hK_a0 hL_a1 hK_a1 hL_a2 hK_a2 hL_a5 hK_a5
    unfold wp_X10_replaysPassing_53 at hp
    refine lv_iload hx hb dX10_replaysPassing_53 (lv_at hl 7 rfl) ?_
    refine lv_aload hx hb dX10_replaysPassing_55 (lv_at hl 5 rfl) ?_
    refine w_getN (k := 8) (f := 3) (T := TX3) (v := .int (sI S a5 3)) F hK hW hL_a5 hK_a5 (by decide) rfl rfl (by decide) i_8 (hK.2.1 (.fieldLinkNest "OpeningsCabinet$Shelf" 31 "OpeningsCabinet$Game" "length" "I" "OpeningsCabinet") (by decide +kernel)) rfl dX10_replaysPassing_57 ?_
    refine lv_icmp_ge (tgt := 90) hx hb dX10_replaysPassing_60 (by decide) (fun c_1 => ?_) (fun c_1 => ?_)
    · replace hp := hp.1 c_1
      refine lv_iload_n hx hb dX10_replaysPassing_90 rfl (lv_at hl 3 rfl) ?_
      refine lv_iload hx hb dX10_replaysPassing_91 (lv_at hl 6 rfl) ?_
      refine lv_if_eq (tgt := 100) hx hb dX10_replaysPassing_93 (by decide) (fun c_2 => ?_) (fun c_2 => ?_)
      · replace hp := hp.1 c_2
        refine lv_iconst (v := 0) hx hb dX10_replaysPassing_100 (by decide) ?_
        exact t_X10_replaysPassing_101 F hr hlocks hK q_5 hp hW hE (lv_sub hl [0, 1, 2, 4] rfl) hL_a0 hK_a0 hL_a1 hK_a1 hL_a2 hK_a2
      · replace hp := hp.2 c_2
        refine lv_iconst (v := 1) hx hb dX10_replaysPassing_96 (by decide) ?_
        refine lv_goto (tgt := 101) hx hb dX10_replaysPassing_97 (by decide) ?_
        exact t_X10_replaysPassing_101 F hr hlocks hK q_5 hp hW hE (lv_sub hl [0, 1, 2, 4] rfl) hL_a0 hK_a0 hL_a1 hK_a1 hL_a2 hK_a2
    · replace hp := hp.2 c_1
      refine lv_aload_n hx hb dX10_replaysPassing_63 rfl (lv_at hl 2 rfl) ?_
      refine lv_aload hx hb dX10_replaysPassing_64 (lv_at hl 5 rfl) ?_
      refine lv_iload hx hb dX10_replaysPassing_66 (lv_at hl 7 rfl) ?_
      refine w_callI (va_runV (As := [.int x7]) (rest := [.ref a2]) F (c_X3_moveAt l hL_a5 hK_a5 hp H.size) (cwV (C := RX3) 1 hts (wg_V wm_RX10_92 wy_X3_moveAt) rfl rfl rfl (by decide +kernel) ⟨Nat.le_of_ble_eq_true rfl, Nat.le_of_ble_eq_true rfl⟩) (w_preV hK hW hL_a5 hK_a5 (by decide) rfl) rfl rfl hl.1 rfl (lv_room (Nat.le_of_ble_eq_true rfl)) dX10_replaysPassing_68 ⟨Nat.le_of_ble_eq_true rfl, Nat.le_of_ble_eq_true rfl⟩) hW (fun r_3 S_4 H locs hp hW => ?_)
      obtain ⟨hX_S_4, hp⟩ := hp
      refine W.widen (k := 0) (n := 0) (by decide) (by decide) ?_
      have hE := hE.trans hX_S_4
      have hK_a0 : sK S_4 a0 = 15 := (hX_S_4.2 a0 hL_a0).1.trans hK_a0
      have hL_a0 : wM D S_4 a0 := hX_S_4.M hL_a0
      have hK_a1 : sK S_4 a1 = 12 := (hX_S_4.2 a1 hL_a1).1.trans hK_a1
      have hL_a1 : wM D S_4 a1 := hX_S_4.M hL_a1
      have hK_a2 : sK S_4 a2 = 12 := (hX_S_4.2 a2 hL_a2).1.trans hK_a2
      have hL_a2 : wM D S_4 a2 := hX_S_4.M hL_a2
      have hK_a5 : sK S_4 a5 = 8 := (hX_S_4.2 a5 hL_a5).1.trans hK_a5
      have hL_a5 : wM D S_4 a5 := hX_S_4.M hL_a5
      refine w_callV (va_runV (As := [.int r_3]) (rest := []) F (c_X7_apply l hL_a2 hK_a2 hp H.size) (cwV (C := RX7) 1 hts (wg_V wm_RX10_96 wy_X7_apply) rfl rfl rfl (by decide +kernel) ⟨Nat.le_of_ble_eq_true rfl, Nat.le_of_ble_eq_true rfl⟩) (w_preV hK hW hL_a2 hK_a2 (by decide) rfl) rfl rfl hl.1 rfl (lv_room (Nat.le_of_ble_eq_true rfl)) dX10_replaysPassing_71 ⟨Nat.le_of_ble_eq_true rfl, Nat.le_of_ble_eq_true rfl⟩) hW (fun S_6 H locs hp hW => ?_)
      obtain ⟨hX_S_6, hp⟩ := hp
      refine W.widen (k := 0) (n := 0) (by decide) (by decide) ?_
      have hE := hE.trans hX_S_6
      have hK_a0 : sK S_6 a0 = 15 := (hX_S_6.2 a0 hL_a0).1.trans hK_a0
      have hL_a0 : wM D S_6 a0 := hX_S_6.M hL_a0
      have hK_a1 : sK S_6 a1 = 12 := (hX_S_6.2 a1 hL_a1).1.trans hK_a1
      have hL_a1 : wM D S_6 a1 := hX_S_6.M hL_a1
      have hK_a2 : sK S_6 a2 = 12 := (hX_S_6.2 a2 hL_a2).1.trans hK_a2
      have hL_a2 : wM D S_6 a2 := hX_S_6.M hL_a2
      have hK_a5 : sK S_6 a5 = 8 := (hX_S_6.2 a5 hL_a5).1.trans hK_a5
      have hL_a5 : wM D S_6 a5 := hX_S_6.M hL_a5
      refine lv_iload hx hb dX10_replaysPassing_74 (lv_at hl 6 rfl) ?_
      refine lv_aload_n hx hb dX10_replaysPassing_76 rfl (lv_at hl 2 rfl) ?_
      refine lv_aload_n hx hb dX10_replaysPassing_77 rfl (lv_at hl 1 rfl) ?_
      refine w_callI (va_runV (As := [.ref a1]) (rest := [.int x6]) F (c_X7_isLike l hL_a2 hK_a2 hL_a1 hK_a1 hp H.size) (cwV (C := RX7) 1 hts (wg_V wm_RX10_90 wy_X7_isLike) rfl rfl rfl (by decide +kernel) ⟨Nat.le_of_ble_eq_true rfl, Nat.le_of_ble_eq_true rfl⟩) (w_preV hK hW hL_a2 hK_a2 (by decide) rfl) rfl rfl hl.1 rfl (lv_room (Nat.le_of_ble_eq_true rfl)) dX10_replaysPassing_78 ⟨Nat.le_of_ble_eq_true rfl, Nat.le_of_ble_eq_true rfl⟩) hW (fun r_7 S_8 H locs hp hW => ?_)
      obtain ⟨hX_S_8, hp⟩ := hp
      refine W.widen (k := 0) (n := 0) (by decide) (by decide) ?_
      have hE := hE.trans hX_S_8
      have hK_a0 : sK S_8 a0 = 15 := (hX_S_8.2 a0 hL_a0).1.trans hK_a0
      have hL_a0 : wM D S_8 a0 := hX_S_8.M hL_a0
      have hK_a1 : sK S_8 a1 = 12 := (hX_S_8.2 a1 hL_a1).1.trans hK_a1
      have hL_a1 : wM D S_8 a1 := hX_S_8.M hL_a1
      have hK_a2 : sK S_8 a2 = 12 := (hX_S_8.2 a2 hL_a2).1.trans hK_a2
      have hL_a2 : wM D S_8 a2 := hX_S_8.M hL_a2
      have hK_a5 : sK S_8 a5 = 8 := (hX_S_8.2 a5 hL_a5).1.trans hK_a5
      have hL_a5 : wM D S_8 a5 := hX_S_8.M hL_a5
      refine lv_ior hx hb dX10_replaysPassing_81 ?_
      refine lv_topi (fun x_9 ex_9 => ?_)
      replace hp := hp x_9 ex_9
      refine lv_istore (lv' := [(6, .int x_9), (0, .ref a0), (1, .ref a1), (2, .ref a2), (3, .int x3), (4, .int x4), (5, .ref a5), (7, .int x7)]) hx hb dX10_replaysPassing_82 hl (by decide) rfl (fun ls hl => ?_)
      obtain ⟨x_10, ex_10⟩ : ∃ z : Int32, z = x7 + 1 := ⟨_, rfl⟩
      replace hp := hp x_10 ex_10
      refine lv_iinc (v := x_10) (lv' := [(7, .int x_10), (6, .int x_9), (0, .ref a0), (1, .ref a1), (2, .ref a2), (3, .int x3), (4, .int x4), (5, .ref a5)]) hx hb dX10_replaysPassing_84 hl (k := 7) rfl (by rw [ex_10]; rfl) (by decide) rfl (fun ls hl => ?_)
      refine lv_goto (tgt := 53) hx hb dX10_replaysPassing_87 (by decide) ?_
      exact ih hp hW hE (lv_sub hl [2, 3, 4, 5, 6, 7, 1, 0] rfl) hL_a0 hK_a0 hL_a1 hK_a1 hL_a2 hK_a2 hL_a5 hK_a5
set_option maxHeartbeats 4000000 in
set_option maxRecDepth 100000 in
theorem t_X10_replaysPassing_5 {p : Program} {l : Launch} {e : Env} {s : State} {m : MethodId} {args : Array Value} {below : List Frame} {meth : Method} {c : Code} {D : wD} {cy : Nat → ClassId} {X : va_W} {A : Nat → Prop} {S0 : wS} {post : Int32 → wS → Prop} (F : CallFix p m c cX10_replaysPassing 8 s args wz_X10_replaysPassing RX10) (hr : meth.sig.returnType = (some .int)) (hlocks : meth.locks = false) (hK : wK D cy A s) : ∀ (n : Nat) {S : wS} {H : Heap} {locs : List Loc} {ls : Array Slot} {a0 : Nat} {a1 : Nat} {a2 : Nat} {x3 : Int32} {x4 : Int32}, wp_X10_replaysPassing_5 D post n S a0 a1 a2 x3 x4 → wO D cy X A s.heap S H locs → wX D S0 S → lv_has ls 8 [(0, .ref a0), (1, .ref a1), (2, .ref a2), (3, .int x3), (4, .int x4)] → wM D S a0 → sK S a0 = 15 → wM D S a1 → sK S a1 = 12 → wM D S a2 → sK S a2 = 12 → W p l e r_X10_replaysPassing s m args below meth c H locs 0 0 (MQ below (va_Qi (fun r S9 => wX D S0 S9 ∧ post r S9) (wB D cy X A) A) args s 0 0 A) (F0 m 5 ls []) := by
  obtain ⟨hx, hb, hml, hown, hts⟩ := id F
  have hwg : ∀ w ∈ WG, w.before args s = true := fun w h => hts w (List.mem_cons_of_mem _ h)
  have i_15 : ∀ w ∈ u_ws RX10 TX10 1, w ∈ wz_X10_replaysPassing := fun w h => List.mem_cons_of_mem _ (wu_15 w h)
  have i_8 : ∀ w ∈ u_ws RX3 TX3 9, w ∈ wz_X10_replaysPassing := fun w h => List.mem_cons_of_mem _ (wu_8 w h)
  have k_12 := hwg _ wf_RX10_12
  intro n
  induction n with
  | zero =>
    intro S H locs ls a0 a1 a2 x3 x4 hp
    exact hp.elim
  | succ n ih =>
    intro S H locs ls a0 a1 a2 x3 x4 hp hW hE hl hL_a0 hK_a0 hL_a1 hK_a1 hL_a2 hK_a2
    unfold wp_X10_replaysPassing_5 at hp
    refine lv_iload hx hb dX10_replaysPassing_5 (lv_at hl 4 rfl) ?_
    refine lv_aload_n hx hb dX10_replaysPassing_7 rfl (lv_at hl 0 rfl) ?_
    obtain ⟨y_1, ey_1, hL_y_1, hK_y_1, hp⟩ := hp
    refine w_get (k := 15) (f := 0) (T := TX10) (v := .ref y_1) F hK hW hL_a0 hK_a0 (by decide) rfl rfl (by decide) i_15 k_12 (by rw [show wv 15 0 S a0 = va_rf (sR S a0 0) from rfl, ey_1]; rfl) dX10_replaysPassing_8 ?_
    refine w_callI (va_runV (As := []) (rest := [.int x4]) F (c_Jx4a65c_size_8abf5 l hL_y_1 hK_y_1 hp H.size) (cwV (C := RJx4a65c) 0 hts (wg_V wm_RX10_18 wy_Jx4a65c_size_8abf5) rfl rfl rfl (by decide +kernel) ⟨Nat.le_of_ble_eq_true rfl, Nat.le_of_ble_eq_true rfl⟩) (w_preV hK hW hL_y_1 hK_y_1 (by decide) rfl) rfl rfl hl.1 rfl (lv_room (Nat.le_of_ble_eq_true rfl)) dX10_replaysPassing_11 ⟨Nat.le_of_ble_eq_true rfl, Nat.le_of_ble_eq_true rfl⟩) hW (fun r_2 S_3 H locs hp hW => ?_)
    obtain ⟨hX_S_3, hp⟩ := hp
    refine W.widen (k := 0) (n := 0) (by decide) (by decide) ?_
    have hE := hE.trans hX_S_3
    have hK_a0 : sK S_3 a0 = 15 := (hX_S_3.2 a0 hL_a0).1.trans hK_a0
    have hL_a0 : wM D S_3 a0 := hX_S_3.M hL_a0
    have hK_a1 : sK S_3 a1 = 12 := (hX_S_3.2 a1 hL_a1).1.trans hK_a1
    have hL_a1 : wM D S_3 a1 := hX_S_3.M hL_a1
    have hK_a2 : sK S_3 a2 = 12 := (hX_S_3.2 a2 hL_a2).1.trans hK_a2
    have hL_a2 : wM D S_3 a2 := hX_S_3.M hL_a2
    refine lv_icmp_ge (tgt := 109) hx hb dX10_replaysPassing_14 (by decide) (fun c_4 => ?_) (fun c_4 => ?_)
    · replace hp := hp.1 c_4
      refine lv_iload_n hx hb dX10_replaysPassing_109 rfl (lv_at hl 3 rfl) ?_
      exact w_iret hx hb hr hlocks hW ⟨hE, hp⟩ dX10_replaysPassing_110
    · replace hp := hp.2 c_4
      refine lv_aload_n hx hb dX10_replaysPassing_17 rfl (lv_at hl 0 rfl) ?_
      refine lv_iload hx hb dX10_replaysPassing_18 (lv_at hl 4 rfl) ?_
      refine w_callR (va_runV (As := [.int x4]) (rest := []) F (c_X10_gameAt l hL_a0 hK_a0 hp H.size) (cwV (C := RX10) 1 hts (wg_V wm_RX10_51 wy_X10_gameAt) rfl rfl rfl (by decide +kernel) ⟨Nat.le_of_ble_eq_true rfl, Nat.le_of_ble_eq_true rfl⟩) (w_preV hK hW hL_a0 hK_a0 (by decide) rfl) rfl rfl hl.1 rfl (lv_room (Nat.le_of_ble_eq_true rfl)) dX10_replaysPassing_20 ⟨Nat.le_of_ble_eq_true rfl, Nat.le_of_ble_eq_true rfl⟩) hW (fun r_5 S_6 H locs hp hW => ?_)
      obtain ⟨hX_S_6, hp⟩ := hp
      refine W.widen (k := 0) (n := 0) (by decide) (by decide) ?_
      have hE := hE.trans hX_S_6
      have hK_a0 : sK S_6 a0 = 15 := (hX_S_6.2 a0 hL_a0).1.trans hK_a0
      have hL_a0 : wM D S_6 a0 := hX_S_6.M hL_a0
      have hK_a1 : sK S_6 a1 = 12 := (hX_S_6.2 a1 hL_a1).1.trans hK_a1
      have hL_a1 : wM D S_6 a1 := hX_S_6.M hL_a1
      have hK_a2 : sK S_6 a2 = 12 := (hX_S_6.2 a2 hL_a2).1.trans hK_a2
      have hL_a2 : wM D S_6 a2 := hX_S_6.M hL_a2
      refine w_astore (lv' := [(5, va_rf r_5), (0, .ref a0), (1, .ref a1), (2, .ref a2), (3, .int x3), (4, .int x4)]) hx hb dX10_replaysPassing_23 hl (by decide) rfl (fun ls hl => ?_)
      refine w_aload hx hb dX10_replaysPassing_25 (lv_at hl 0 rfl) ?_
      refine w_ifnonnull (tgt := 33) hx hb dX10_replaysPassing_27 (by decide) (fun h_8 => ?_) (fun y_7 h_8 => ?_)
      · replace hp := hp.1 h_8
        revert hp; revert hl; revert hW; revert hE; subst h_8; intro hE hW hl hp
        refine lv_goto (tgt := 103) hx hb dX10_replaysPassing_30 (by decide) ?_
        exact t_X10_replaysPassing_103 F hr hlocks hK ih hp hW hE (lv_sub hl [1, 2, 3, 4, 5] rfl) hL_a0 hK_a0 hL_a1 hK_a1 hL_a2 hK_a2
      · replace hp := hp.2 y_7 h_8
        revert hp; revert hl; revert hW; revert hE; subst h_8; intro hE hW hl hp
        obtain ⟨hL_y_7, hK_y_7, hp⟩ := hp
        refine lv_aload_n hx hb dX10_replaysPassing_33 rfl (lv_at hl 3 rfl) ?_
        refine lv_aload hx hb dX10_replaysPassing_34 (lv_at hl 0 rfl) ?_
        obtain ⟨y_9, ey_9, hL_y_9, hK_y_9, hp⟩ := hp
        refine w_getN (k := 8) (f := 0) (T := TX3) (v := .ref y_9) F hK hW hL_y_7 hK_y_7 (by decide) rfl rfl (by decide) i_8 (hK.2.1 (.fieldLinkNest "OpeningsCabinet$Shelf" 63 "OpeningsCabinet$Game" "places" "[J" "OpeningsCabinet") (by decide +kernel)) (by rw [show wv 8 0 S_6 y_7 = va_rf (sR S_6 y_7 0) from rfl, ey_9]; rfl) dX10_replaysPassing_36 ?_
        refine lv_iconst (v := 0) hx hb dX10_replaysPassing_39 (by decide) ?_
        refine w_callV (va_runV (As := [.ref y_9, .int (0 : Int32)]) (rest := []) F (c_X7_load l hL_a2 hK_a2 hL_y_9 hK_y_9 hp H.size) (cwV (C := RX7) 2 hts (wg_V wm_RX10_67 wy_X7_load) rfl rfl rfl (by decide +kernel) ⟨Nat.le_of_ble_eq_true rfl, Nat.le_of_ble_eq_true rfl⟩) (w_preV hK hW hL_a2 hK_a2 (by decide) rfl) rfl rfl hl.1 rfl (lv_room (Nat.le_of_ble_eq_true rfl)) dX10_replaysPassing_40 ⟨Nat.le_of_ble_eq_true rfl, Nat.le_of_ble_eq_true rfl⟩) hW (fun S_11 H locs hp hW => ?_)
        obtain ⟨hX_S_11, hp⟩ := hp
        refine W.widen (k := 0) (n := 0) (by decide) (by decide) ?_
        have hE := hE.trans hX_S_11
        have hK_a0 : sK S_11 a0 = 15 := (hX_S_11.2 a0 hL_a0).1.trans hK_a0
        have hL_a0 : wM D S_11 a0 := hX_S_11.M hL_a0
        have hK_a1 : sK S_11 a1 = 12 := (hX_S_11.2 a1 hL_a1).1.trans hK_a1
        have hL_a1 : wM D S_11 a1 := hX_S_11.M hL_a1
        have hK_a2 : sK S_11 a2 = 12 := (hX_S_11.2 a2 hL_a2).1.trans hK_a2
        have hL_a2 : wM D S_11 a2 := hX_S_11.M hL_a2
        have hK_y_7 : sK S_11 y_7 = 8 := (hX_S_11.2 y_7 hL_y_7).1.trans hK_y_7
        have hL_y_7 : wM D S_11 y_7 := hX_S_11.M hL_y_7
        refine lv_aload_n hx hb dX10_replaysPassing_43 rfl (lv_at hl 3 rfl) ?_
        refine lv_aload_n hx hb dX10_replaysPassing_44 rfl (lv_at hl 2 rfl) ?_
        refine w_callI (va_runV (As := [.ref a1]) (rest := []) F (c_X7_isLike l hL_a2 hK_a2 hL_a1 hK_a1 hp H.size) (cwV (C := RX7) 1 hts (wg_V wm_RX10_90 wy_X7_isLike) rfl rfl rfl (by decide +kernel) ⟨Nat.le_of_ble_eq_true rfl, Nat.le_of_ble_eq_true rfl⟩) (w_preV hK hW hL_a2 hK_a2 (by decide) rfl) rfl rfl hl.1 rfl (lv_room (Nat.le_of_ble_eq_true rfl)) dX10_replaysPassing_45 ⟨Nat.le_of_ble_eq_true rfl, Nat.le_of_ble_eq_true rfl⟩) hW (fun r_12 S_13 H locs hp hW => ?_)
        obtain ⟨hX_S_13, hp⟩ := hp
        refine W.widen (k := 0) (n := 0) (by decide) (by decide) ?_
        have hE := hE.trans hX_S_13
        have hK_a0 : sK S_13 a0 = 15 := (hX_S_13.2 a0 hL_a0).1.trans hK_a0
        have hL_a0 : wM D S_13 a0 := hX_S_13.M hL_a0
        have hK_a1 : sK S_13 a1 = 12 := (hX_S_13.2 a1 hL_a1).1.trans hK_a1
        have hL_a1 : wM D S_13 a1 := hX_S_13.M hL_a1
        have hK_a2 : sK S_13 a2 = 12 := (hX_S_13.2 a2 hL_a2).1.trans hK_a2
        have hL_a2 : wM D S_13 a2 := hX_S_13.M hL_a2
        have hK_y_7 : sK S_13 y_7 = 8 := (hX_S_13.2 y_7 hL_y_7).1.trans hK_y_7
        have hL_y_7 : wM D S_13 y_7 := hX_S_13.M hL_y_7
        refine lv_istore (lv' := [(6, .int r_12), (5, .ref y_7), (0, .ref a0), (1, .ref a1), (2, .ref a2), (3, .int x3), (4, .int x4)]) hx hb dX10_replaysPassing_48 hl (by decide) rfl (fun ls hl => ?_)
        refine lv_iconst (v := 0) hx hb dX10_replaysPassing_50 (by decide) ?_
        refine lv_istore (lv' := [(7, .int (0 : Int32)), (6, .int r_12), (5, .ref y_7), (0, .ref a0), (1, .ref a1), (2, .ref a2), (3, .int x3), (4, .int x4)]) hx hb dX10_replaysPassing_51 hl (by decide) rfl (fun ls hl => ?_)
        obtain ⟨n_14, hp⟩ := hp
        exact t_X10_replaysPassing_53 F hr hlocks hK ih n_14 hp hW hE (lv_sub hl [3, 4, 5, 6, 7, 2, 1, 0] rfl) hL_a0 hK_a0 hL_a1 hK_a1 hL_a2 hK_a2 hL_y_7 hK_y_7
set_option maxHeartbeats 4000000 in
set_option maxRecDepth 100000 in
theorem t_X10_replaysPassing_0 {p : Program} {l : Launch} {e : Env} {s : State} {m : MethodId} {args : Array Value} {below : List Frame} {meth : Method} {c : Code} {D : wD} {cy : Nat → ClassId} {X : va_W} {A : Nat → Prop} {S0 : wS} {post : Int32 → wS → Prop} (F : CallFix p m c cX10_replaysPassing 8 s args wz_X10_replaysPassing RX10) (hr : meth.sig.returnType = (some .int)) (hlocks : meth.locks = false) (hK : wK D cy A s) : ∀ {S : wS} {H : Heap} {locs : List Loc} {ls : Array Slot} {a0 : Nat} {a1 : Nat} {a2 : Nat}, wp_X10_replaysPassing_0 D post S a0 a1 a2 → wO D cy X A s.heap S H locs → wX D S0 S → lv_has ls 8 [(0, .ref a0), (1, .ref a1), (2, .ref a2)] → wM D S a0 → sK S a0 = 15 → wM D S a1 → sK S a1 = 12 → wM D S a2 → sK S a2 = 12 → W p l e r_X10_replaysPassing s m args below meth c H locs 0 0 (MQ below (va_Qi (fun r S9 => wX D S0 S9 ∧ post r S9) (wB D cy X A) A) args s 0 0 A) (F0 m 0 ls []) := by
  obtain ⟨hx, hb, hml, hown, hts⟩ := id F
  have hwg : ∀ w ∈ WG, w.before args s = true := fun w h => hts w (List.mem_cons_of_mem _ h)
  intro S H locs ls a0 a1 a2 hp hW hE hl hL_a0 hK_a0 hL_a1 hK_a1 hL_a2 hK_a2
  unfold wp_X10_replaysPassing_0 at hp
  refine lv_iconst (v := 0) hx hb dX10_replaysPassing_0 (by decide) ?_
  refine lv_istore_n (lv' := [(3, .int (0 : Int32)), (0, .ref a0), (1, .ref a1), (2, .ref a2)]) hx hb dX10_replaysPassing_1 rfl hl (by decide) rfl (fun ls hl => ?_)
  refine lv_iconst (v := 0) hx hb dX10_replaysPassing_2 (by decide) ?_
  refine lv_istore (lv' := [(4, .int (0 : Int32)), (3, .int (0 : Int32)), (0, .ref a0), (1, .ref a1), (2, .ref a2)]) hx hb dX10_replaysPassing_3 hl (by decide) rfl (fun ls hl => ?_)
  obtain ⟨n_1, hp⟩ := hp
  exact t_X10_replaysPassing_5 F hr hlocks hK n_1 hp hW hE (lv_sub hl [2, 3, 4, 1, 0] rfl) hL_a0 hK_a0 hL_a1 hK_a1 hL_a2 hK_a2
set_option maxHeartbeats 4000000 in
set_option maxRecDepth 100000 in
theorem c_X10_replaysPassing (l : Launch) {D : wD} {cy : Nat → ClassId} {X : va_W} {S0 : wS} {post : Int32 → wS → Prop} {a0 : Nat} {a1 : Nat} {a2 : Nat} (hL_a0 : wM D S0 a0) (hK_a0 : sK S0 a0 = 15) (hL_a1 : wM D S0 a1) (hK_a1 : sK S0 a1 = 12) (hL_a2 : wM D S0 a2) (hK_a2 : sK S0 a2 = 12) (hp : wp_X10_replaysPassing D post S0 a0 a1 a2) : mI D cy X l yX10_replaysPassing wz_X10_replaysPassing r_X10_replaysPassing [.ref a0, .ref a1, .ref a2] S0 (fun r S9 => wX D S0 S9 ∧ post r S9) := by
  intro sz
  refine Met.ofW (cc := cX10_replaysPassing) (maxL := 8) (ret := (some .int)) (by decide) rfl ?_
  intro p e s m args below meth c s₁ B hml hv
  obtain ⟨rfl, hsz, hP, hK, hD0, hRO⟩ := hv
  have hts := atoms_spec (ws := wz_X10_replaysPassing) B.pre
  have hown : s.vm.findClass RX10 = some m.cls := findClass_of_methodNamed B.named
  subst hsz
  have hD := hD0.self (sz := s.heap.size)
  have F : CallFix p m c cX10_replaysPassing 8 s _ wz_X10_replaysPassing RX10 := ⟨B.exec, B.bytes, hml, hown, hts⟩
  have hr := B.returns
  have hlocks := B.notSynchronized
  generalize hAe : va_A (wL cy X S0) s.heap.size = A at hD hK ⊢
  have hA : ∀ q, s.heap.size ≤ q → A q := fun q h => by rw [← hAe]; exact Or.inr h
  have hW : wO D cy X A s.heap S0 s.heap [] := ⟨hP, hD, va_S.rf, hA, hRO⟩
  have hl := lv_entry ([.ref a0, .ref a1, .ref a2]) (n := 8) (Nat.le_of_ble_eq_true rfl)
  rw [lg_entry_eq]
  generalize (lg_sl ([.ref a0, .ref a1, .ref a2]) ++ List.replicate (8 - (lg_sl ([.ref a0, .ref a1, .ref a2])).length) Slot.unset).toArray = ls at hl ⊢
  have hl : lv_has ls 8 [(0, .ref a0), (1, .ref a1), (2, .ref a2)] := hl
  unfold wp_X10_replaysPassing at hp
  exact t_X10_replaysPassing_0 F hr hlocks hK hp hW wX.rf (lv_sub hl [0, 1, 2] rfl) hL_a0 hK_a0 hL_a1 hK_a1 hL_a2 hK_a2
def wp_X10_size_0 (D : wD) (post : Int32 → wS → Prop)  (S : wS) (a0 : Nat) : Prop :=
∃ y_1 : Nat, sR S a0 0 = some y_1 ∧ wM D S y_1 ∧ sK S y_1 = 4 ∧
wp_Jx4a65c_size_8abf5 D (fun r_2 S_3 => 
post r_2 S_3) S y_1
abbrev r_X10_size : Room := { frames := 1, cells := 0, slots := 0, locals := 20 }
def wp_X10_size (D : wD) (post : Int32 → wS → Prop) (S : wS) (a0 : Nat) : Prop := wp_X10_size_0 D post S a0
set_option maxHeartbeats 4000000 in
set_option maxRecDepth 100000 in
theorem t_X10_size_0 {p : Program} {l : Launch} {e : Env} {s : State} {m : MethodId} {args : Array Value} {below : List Frame} {meth : Method} {c : Code} {D : wD} {cy : Nat → ClassId} {X : va_W} {A : Nat → Prop} {S0 : wS} {post : Int32 → wS → Prop} (F : CallFix p m c cX10_size 1 s args wz_X10_size RX10) (hr : meth.sig.returnType = (some .int)) (hlocks : meth.locks = false) (hK : wK D cy A s) : ∀ {S : wS} {H : Heap} {locs : List Loc} {ls : Array Slot} {a0 : Nat}, wp_X10_size_0 D post S a0 → wO D cy X A s.heap S H locs → wX D S0 S → lv_has ls 1 [(0, .ref a0)] → wM D S a0 → sK S a0 = 15 → W p l e r_X10_size s m args below meth c H locs 0 0 (MQ below (va_Qi (fun r S9 => wX D S0 S9 ∧ post r S9) (wB D cy X A) A) args s 0 0 A) (F0 m 0 ls []) := by
  obtain ⟨hx, hb, hml, hown, hts⟩ := id F
  have hwg : ∀ w ∈ WG, w.before args s = true := fun w h => hts w (List.mem_cons_of_mem _ h)
  have i_15 : ∀ w ∈ u_ws RX10 TX10 1, w ∈ wz_X10_size := fun w h => List.mem_cons_of_mem _ (wu_15 w h)
  have k_12 := hwg _ wf_RX10_12
  intro S H locs ls a0 hp hW hE hl hL_a0 hK_a0
  unfold wp_X10_size_0 at hp
  refine lv_aload_n hx hb dX10_size_0 rfl (lv_at hl 0 rfl) ?_
  obtain ⟨y_1, ey_1, hL_y_1, hK_y_1, hp⟩ := hp
  refine w_get (k := 15) (f := 0) (T := TX10) (v := .ref y_1) F hK hW hL_a0 hK_a0 (by decide) rfl rfl (by decide) i_15 k_12 (by rw [show wv 15 0 S a0 = va_rf (sR S a0 0) from rfl, ey_1]; rfl) dX10_size_1 ?_
  refine w_callI (va_runV (As := []) (rest := []) F (c_Jx4a65c_size_8abf5 l hL_y_1 hK_y_1 hp H.size) (cwV (C := RJx4a65c) 0 hts (wg_V wm_RX10_18 wy_Jx4a65c_size_8abf5) rfl rfl rfl (by decide +kernel) ⟨Nat.le_of_ble_eq_true rfl, Nat.le_of_ble_eq_true rfl⟩) (w_preV hK hW hL_y_1 hK_y_1 (by decide) rfl) rfl rfl hl.1 rfl (lv_room (Nat.le_of_ble_eq_true rfl)) dX10_size_4 ⟨Nat.le_of_ble_eq_true rfl, Nat.le_of_ble_eq_true rfl⟩) hW (fun r_2 S_3 H locs hp hW => ?_)
  obtain ⟨hX_S_3, hp⟩ := hp
  refine W.widen (k := 0) (n := 0) (by decide) (by decide) ?_
  have hE := hE.trans hX_S_3
  have hK_a0 : sK S_3 a0 = 15 := (hX_S_3.2 a0 hL_a0).1.trans hK_a0
  have hL_a0 : wM D S_3 a0 := hX_S_3.M hL_a0
  exact w_iret hx hb hr hlocks hW ⟨hE, hp⟩ dX10_size_7
set_option maxHeartbeats 4000000 in
set_option maxRecDepth 100000 in
theorem c_X10_size (l : Launch) {D : wD} {cy : Nat → ClassId} {X : va_W} {S0 : wS} {post : Int32 → wS → Prop} {a0 : Nat} (hL_a0 : wM D S0 a0) (hK_a0 : sK S0 a0 = 15) (hp : wp_X10_size D post S0 a0) : mI D cy X l yX10_size wz_X10_size r_X10_size [.ref a0] S0 (fun r S9 => wX D S0 S9 ∧ post r S9) := by
  intro sz
  refine Met.ofW (cc := cX10_size) (maxL := 1) (ret := (some .int)) (by decide) rfl ?_
  intro p e s m args below meth c s₁ B hml hv
  obtain ⟨rfl, hsz, hP, hK, hD0, hRO⟩ := hv
  have hts := atoms_spec (ws := wz_X10_size) B.pre
  have hown : s.vm.findClass RX10 = some m.cls := findClass_of_methodNamed B.named
  subst hsz
  have hD := hD0.self (sz := s.heap.size)
  have F : CallFix p m c cX10_size 1 s _ wz_X10_size RX10 := ⟨B.exec, B.bytes, hml, hown, hts⟩
  have hr := B.returns
  have hlocks := B.notSynchronized
  generalize hAe : va_A (wL cy X S0) s.heap.size = A at hD hK ⊢
  have hA : ∀ q, s.heap.size ≤ q → A q := fun q h => by rw [← hAe]; exact Or.inr h
  have hW : wO D cy X A s.heap S0 s.heap [] := ⟨hP, hD, va_S.rf, hA, hRO⟩
  have hl := lv_entry ([.ref a0]) (n := 1) (Nat.le_of_ble_eq_true rfl)
  rw [lg_entry_eq]
  generalize (lg_sl ([.ref a0]) ++ List.replicate (1 - (lg_sl ([.ref a0])).length) Slot.unset).toArray = ls at hl ⊢
  have hl : lv_has ls 1 [(0, .ref a0)] := hl
  unfold wp_X10_size at hp
  exact t_X10_size_0 F hr hlocks hK hp hW wX.rf (lv_sub hl [0] rfl) hL_a0 hK_a0
def wp_X10_strengthsPassing_44 (D : wD) (post : Int32 → wS → Prop) (k_4 : wS → Nat → Nat → Int32 → Int32 → Prop) (S : wS) (a0 : Nat) (a1 : Nat) (x2 : Int32) (x3 : Int32) : Prop :=
∀ x_1 : Int32, x_1 = x3 + 1 →
k_4 S a0 a1 x2 x_1
def wp_X10_strengthsPassing_4 (D : wD) (post : Int32 → wS → Prop)  : Nat → wS → Nat → Nat → Int32 → Int32 → Prop
  | 0, _, _, _, _, _ => False
  | n + 1, S, a0, a1, x2, x3 =>
    ∃ y_1 : Nat, sR S a0 0 = some y_1 ∧ wM D S y_1 ∧ sK S y_1 = 4 ∧
    wp_Jx4a65c_size_8abf5 D (fun r_2 S_3 => 
    ((r_2 ≤ x3 → post x2 S_3) ∧
     (¬ r_2 ≤ x3 → wp_X10_gameAt D (fun r_5 S_6 => 
    ((r_5 = none → wp_X10_strengthsPassing_44 D post (wp_X10_strengthsPassing_4 D post n) S_6 a0 a1 x2 x3) ∧
     (∀ y_7 : Nat, r_5 = some y_7 → wM D S_6 y_7 ∧ sK S_6 y_7 = 8 ∧ wp_X3_passesThrough D (fun r_9 S_10 => 
    ((r_9 = 0 → wp_X10_strengthsPassing_44 D post (wp_X10_strengthsPassing_4 D post n) S_10 a0 a1 x2 x3) ∧
     (¬ r_9 = 0 → ∀ x_12 : Int32, x_12 = (x2 + (sI S_10 y_7 6)) →
    wp_X10_strengthsPassing_44 D post (wp_X10_strengthsPassing_4 D post n) S_10 a0 a1 x_12 x3))) S_6 y_7 a1))) S_3 a0 x3))) S y_1
def wp_X10_strengthsPassing_0 (D : wD) (post : Int32 → wS → Prop)  (S : wS) (a0 : Nat) (a1 : Nat) : Prop :=
∃ n_1 : Nat, wp_X10_strengthsPassing_4 D post n_1 S a0 a1 (0 : Int32) (0 : Int32)
abbrev r_X10_strengthsPassing : Room := { frames := 4, cells := 0, slots := 0, locals := 87 }
def wp_X10_strengthsPassing (D : wD) (post : Int32 → wS → Prop) (S : wS) (a0 : Nat) (a1 : Nat) : Prop := wp_X10_strengthsPassing_0 D post S a0 a1
set_option maxHeartbeats 4000000 in
set_option maxRecDepth 100000 in
theorem t_X10_strengthsPassing_44 {p : Program} {l : Launch} {e : Env} {s : State} {m : MethodId} {args : Array Value} {below : List Frame} {meth : Method} {c : Code} {D : wD} {cy : Nat → ClassId} {X : va_W} {A : Nat → Prop} {S0 : wS} {post : Int32 → wS → Prop} (F : CallFix p m c cX10_strengthsPassing 5 s args wz_X10_strengthsPassing RX10) (hr : meth.sig.returnType = (some .int)) (hlocks : meth.locks = false) (hK : wK D cy A s) {k_4 : wS → Nat → Nat → Int32 → Int32 → Prop} (q_4 : ∀ {S : wS} {H : Heap} {locs : List Loc} {ls : Array Slot} {a0 : Nat} {a1 : Nat} {x2 : Int32} {x3 : Int32}, k_4 S a0 a1 x2 x3 → wO D cy X A s.heap S H locs → wX D S0 S → lv_has ls 5 [(0, .ref a0), (1, .ref a1), (2, .int x2), (3, .int x3)] → wM D S a0 → sK S a0 = 15 → wM D S a1 → sK S a1 = 12 → W p l e r_X10_strengthsPassing s m args below meth c H locs 0 0 (MQ below (va_Qi (fun r S9 => wX D S0 S9 ∧ post r S9) (wB D cy X A) A) args s 0 0 A) (F0 m 4 ls [])) : ∀ {S : wS} {H : Heap} {locs : List Loc} {ls : Array Slot} {a0 : Nat} {a1 : Nat} {x2 : Int32} {x3 : Int32}, wp_X10_strengthsPassing_44 D post k_4 S a0 a1 x2 x3 → wO D cy X A s.heap S H locs → wX D S0 S → lv_has ls 5 [(0, .ref a0), (1, .ref a1), (2, .int x2), (3, .int x3)] → wM D S a0 → sK S a0 = 15 → wM D S a1 → sK S a1 = 12 → W p l e r_X10_strengthsPassing s m args below meth c H locs 0 0 (MQ below (va_Qi (fun r S9 => wX D S0 S9 ∧ post r S9) (wB D cy X A) A) args s 0 0 A) (F0 m 44 ls []) := by
  obtain ⟨hx, hb, hml, hown, hts⟩ := id F
  have hwg : ∀ w ∈ WG, w.before args s = true := fun w h => hts w (List.mem_cons_of_mem _ h)
  intro S H locs ls a0 a1 x2 x3 hp hW hE hl hL_a0 hK_a0 hL_a1 hK_a1
  unfold wp_X10_strengthsPassing_44 at hp
  obtain ⟨x_1, ex_1⟩ : ∃ z : Int32, z = x3 + 1 := ⟨_, rfl⟩
  replace hp := hp x_1 ex_1
  refine lv_iinc (v := x_1) (lv' := [(3, .int x_1), (0, .ref a0), (1, .ref a1), (2, .int x2)]) hx hb dX10_strengthsPassing_44 hl (k := 3) rfl (by rw [ex_1]; rfl) (by decide) rfl (fun ls hl => ?_)
  refine lv_goto (tgt := 4) hx hb dX10_strengthsPassing_47 (by decide) ?_
  exact q_4 hp hW hE (lv_sub hl [1, 2, 3, 0] rfl) hL_a0 hK_a0 hL_a1 hK_a1
set_option maxHeartbeats 4000000 in
set_option maxRecDepth 100000 in
theorem t_X10_strengthsPassing_4 {p : Program} {l : Launch} {e : Env} {s : State} {m : MethodId} {args : Array Value} {below : List Frame} {meth : Method} {c : Code} {D : wD} {cy : Nat → ClassId} {X : va_W} {A : Nat → Prop} {S0 : wS} {post : Int32 → wS → Prop} (F : CallFix p m c cX10_strengthsPassing 5 s args wz_X10_strengthsPassing RX10) (hr : meth.sig.returnType = (some .int)) (hlocks : meth.locks = false) (hK : wK D cy A s) : ∀ (n : Nat) {S : wS} {H : Heap} {locs : List Loc} {ls : Array Slot} {a0 : Nat} {a1 : Nat} {x2 : Int32} {x3 : Int32}, wp_X10_strengthsPassing_4 D post n S a0 a1 x2 x3 → wO D cy X A s.heap S H locs → wX D S0 S → lv_has ls 5 [(0, .ref a0), (1, .ref a1), (2, .int x2), (3, .int x3)] → wM D S a0 → sK S a0 = 15 → wM D S a1 → sK S a1 = 12 → W p l e r_X10_strengthsPassing s m args below meth c H locs 0 0 (MQ below (va_Qi (fun r S9 => wX D S0 S9 ∧ post r S9) (wB D cy X A) A) args s 0 0 A) (F0 m 4 ls []) := by
  obtain ⟨hx, hb, hml, hown, hts⟩ := id F
  have hwg : ∀ w ∈ WG, w.before args s = true := fun w h => hts w (List.mem_cons_of_mem _ h)
  have i_15 : ∀ w ∈ u_ws RX10 TX10 1, w ∈ wz_X10_strengthsPassing := fun w h => List.mem_cons_of_mem _ (wu_15 w h)
  have i_8 : ∀ w ∈ u_ws RX3 TX3 9, w ∈ wz_X10_strengthsPassing := fun w h => List.mem_cons_of_mem _ (wu_8 w h)
  have k_12 := hwg _ wf_RX10_12
  intro n
  induction n with
  | zero =>
    intro S H locs ls a0 a1 x2 x3 hp
    exact hp.elim
  | succ n ih =>
    intro S H locs ls a0 a1 x2 x3 hp hW hE hl hL_a0 hK_a0 hL_a1 hK_a1
    unfold wp_X10_strengthsPassing_4 at hp
    refine lv_iload_n hx hb dX10_strengthsPassing_4 rfl (lv_at hl 3 rfl) ?_
    refine lv_aload_n hx hb dX10_strengthsPassing_5 rfl (lv_at hl 0 rfl) ?_
    obtain ⟨y_1, ey_1, hL_y_1, hK_y_1, hp⟩ := hp
    refine w_get (k := 15) (f := 0) (T := TX10) (v := .ref y_1) F hK hW hL_a0 hK_a0 (by decide) rfl rfl (by decide) i_15 k_12 (by rw [show wv 15 0 S a0 = va_rf (sR S a0 0) from rfl, ey_1]; rfl) dX10_strengthsPassing_6 ?_
    refine w_callI (va_runV (As := []) (rest := [.int x3]) F (c_Jx4a65c_size_8abf5 l hL_y_1 hK_y_1 hp H.size) (cwV (C := RJx4a65c) 0 hts (wg_V wm_RX10_18 wy_Jx4a65c_size_8abf5) rfl rfl rfl (by decide +kernel) ⟨Nat.le_of_ble_eq_true rfl, Nat.le_of_ble_eq_true rfl⟩) (w_preV hK hW hL_y_1 hK_y_1 (by decide) rfl) rfl rfl hl.1 rfl (lv_room (Nat.le_of_ble_eq_true rfl)) dX10_strengthsPassing_9 ⟨Nat.le_of_ble_eq_true rfl, Nat.le_of_ble_eq_true rfl⟩) hW (fun r_2 S_3 H locs hp hW => ?_)
    obtain ⟨hX_S_3, hp⟩ := hp
    refine W.widen (k := 0) (n := 0) (by decide) (by decide) ?_
    have hE := hE.trans hX_S_3
    have hK_a0 : sK S_3 a0 = 15 := (hX_S_3.2 a0 hL_a0).1.trans hK_a0
    have hL_a0 : wM D S_3 a0 := hX_S_3.M hL_a0
    have hK_a1 : sK S_3 a1 = 12 := (hX_S_3.2 a1 hL_a1).1.trans hK_a1
    have hL_a1 : wM D S_3 a1 := hX_S_3.M hL_a1
    refine lv_icmp_ge (tgt := 50) hx hb dX10_strengthsPassing_12 (by decide) (fun c_4 => ?_) (fun c_4 => ?_)
    · replace hp := hp.1 c_4
      refine lv_iload_n hx hb dX10_strengthsPassing_50 rfl (lv_at hl 2 rfl) ?_
      exact w_iret hx hb hr hlocks hW ⟨hE, hp⟩ dX10_strengthsPassing_51
    · replace hp := hp.2 c_4
      refine lv_aload_n hx hb dX10_strengthsPassing_15 rfl (lv_at hl 0 rfl) ?_
      refine lv_iload_n hx hb dX10_strengthsPassing_16 rfl (lv_at hl 3 rfl) ?_
      refine w_callR (va_runV (As := [.int x3]) (rest := []) F (c_X10_gameAt l hL_a0 hK_a0 hp H.size) (cwV (C := RX10) 1 hts (wg_V wm_RX10_51 wy_X10_gameAt) rfl rfl rfl (by decide +kernel) ⟨Nat.le_of_ble_eq_true rfl, Nat.le_of_ble_eq_true rfl⟩) (w_preV hK hW hL_a0 hK_a0 (by decide) rfl) rfl rfl hl.1 rfl (lv_room (Nat.le_of_ble_eq_true rfl)) dX10_strengthsPassing_17 ⟨Nat.le_of_ble_eq_true rfl, Nat.le_of_ble_eq_true rfl⟩) hW (fun r_5 S_6 H locs hp hW => ?_)
      obtain ⟨hX_S_6, hp⟩ := hp
      refine W.widen (k := 0) (n := 0) (by decide) (by decide) ?_
      have hE := hE.trans hX_S_6
      have hK_a0 : sK S_6 a0 = 15 := (hX_S_6.2 a0 hL_a0).1.trans hK_a0
      have hL_a0 : wM D S_6 a0 := hX_S_6.M hL_a0
      have hK_a1 : sK S_6 a1 = 12 := (hX_S_6.2 a1 hL_a1).1.trans hK_a1
      have hL_a1 : wM D S_6 a1 := hX_S_6.M hL_a1
      refine w_astore (lv' := [(4, va_rf r_5), (0, .ref a0), (1, .ref a1), (2, .int x2), (3, .int x3)]) hx hb dX10_strengthsPassing_20 hl (by decide) rfl (fun ls hl => ?_)
      refine w_aload hx hb dX10_strengthsPassing_22 (lv_at hl 0 rfl) ?_
      refine w_ifnull (tgt := 44) hx hb dX10_strengthsPassing_24 (by decide) (fun h_8 => ?_) (fun y_7 h_8 => ?_)
      · replace hp := hp.1 h_8
        revert hp; revert hl; revert hW; revert hE; subst h_8; intro hE hW hl hp
        exact t_X10_strengthsPassing_44 F hr hlocks hK ih hp hW hE (lv_sub hl [1, 2, 3, 4] rfl) hL_a0 hK_a0 hL_a1 hK_a1
      · replace hp := hp.2 y_7 h_8
        revert hp; revert hl; revert hW; revert hE; subst h_8; intro hE hW hl hp
        obtain ⟨hL_y_7, hK_y_7, hp⟩ := hp
        refine lv_aload hx hb dX10_strengthsPassing_27 (lv_at hl 0 rfl) ?_
        refine lv_aload_n hx hb dX10_strengthsPassing_29 rfl (lv_at hl 2 rfl) ?_
        refine w_callI (va_runV (As := [.ref a1]) (rest := []) F (c_X3_passesThrough l hL_y_7 hK_y_7 hL_a1 hK_a1 hp H.size) (cwV (C := RX3) 1 hts (wg_V wm_RX10_80 wy_X3_passesThrough) rfl rfl rfl (by decide +kernel) ⟨Nat.le_of_ble_eq_true rfl, Nat.le_of_ble_eq_true rfl⟩) (w_preV hK hW hL_y_7 hK_y_7 (by decide) rfl) rfl rfl hl.1 rfl (lv_room (Nat.le_of_ble_eq_true rfl)) dX10_strengthsPassing_30 ⟨Nat.le_of_ble_eq_true rfl, Nat.le_of_ble_eq_true rfl⟩) hW (fun r_9 S_10 H locs hp hW => ?_)
        obtain ⟨hX_S_10, hp⟩ := hp
        refine W.widen (k := 0) (n := 0) (by decide) (by decide) ?_
        have hE := hE.trans hX_S_10
        have hK_a0 : sK S_10 a0 = 15 := (hX_S_10.2 a0 hL_a0).1.trans hK_a0
        have hL_a0 : wM D S_10 a0 := hX_S_10.M hL_a0
        have hK_a1 : sK S_10 a1 = 12 := (hX_S_10.2 a1 hL_a1).1.trans hK_a1
        have hL_a1 : wM D S_10 a1 := hX_S_10.M hL_a1
        have hK_y_7 : sK S_10 y_7 = 8 := (hX_S_10.2 y_7 hL_y_7).1.trans hK_y_7
        have hL_y_7 : wM D S_10 y_7 := hX_S_10.M hL_y_7
        refine lv_if_eq (tgt := 44) hx hb dX10_strengthsPassing_33 (by decide) (fun c_11 => ?_) (fun c_11 => ?_)
        · replace hp := hp.1 c_11
          exact t_X10_strengthsPassing_44 F hr hlocks hK ih hp hW hE (lv_sub hl [1, 2, 3, 4] rfl) hL_a0 hK_a0 hL_a1 hK_a1
        · replace hp := hp.2 c_11
          refine lv_iload_n hx hb dX10_strengthsPassing_36 rfl (lv_at hl 3 rfl) ?_
          refine lv_aload hx hb dX10_strengthsPassing_37 (lv_at hl 0 rfl) ?_
          refine w_getN (k := 8) (f := 6) (T := TX3) (v := .int (sI S_10 y_7 6)) F hK hW hL_y_7 hK_y_7 (by decide) rfl rfl (by decide) i_8 (hK.2.1 (.fieldLinkNest "OpeningsCabinet$Shelf" 87 "OpeningsCabinet$Game" "strength" "I" "OpeningsCabinet") (by decide +kernel)) rfl dX10_strengthsPassing_39 ?_
          refine lv_iadd hx hb dX10_strengthsPassing_42 ?_
          refine lv_topi (fun x_12 ex_12 => ?_)
          replace hp := hp x_12 ex_12
          refine lv_istore_n (lv' := [(2, .int x_12), (4, .ref y_7), (0, .ref a0), (1, .ref a1), (3, .int x3)]) hx hb dX10_strengthsPassing_43 rfl hl (by decide) rfl (fun ls hl => ?_)
          exact t_X10_strengthsPassing_44 F hr hlocks hK ih hp hW hE (lv_sub hl [2, 3, 0, 4] rfl) hL_a0 hK_a0 hL_a1 hK_a1
set_option maxHeartbeats 4000000 in
set_option maxRecDepth 100000 in
theorem t_X10_strengthsPassing_0 {p : Program} {l : Launch} {e : Env} {s : State} {m : MethodId} {args : Array Value} {below : List Frame} {meth : Method} {c : Code} {D : wD} {cy : Nat → ClassId} {X : va_W} {A : Nat → Prop} {S0 : wS} {post : Int32 → wS → Prop} (F : CallFix p m c cX10_strengthsPassing 5 s args wz_X10_strengthsPassing RX10) (hr : meth.sig.returnType = (some .int)) (hlocks : meth.locks = false) (hK : wK D cy A s) : ∀ {S : wS} {H : Heap} {locs : List Loc} {ls : Array Slot} {a0 : Nat} {a1 : Nat}, wp_X10_strengthsPassing_0 D post S a0 a1 → wO D cy X A s.heap S H locs → wX D S0 S → lv_has ls 5 [(0, .ref a0), (1, .ref a1)] → wM D S a0 → sK S a0 = 15 → wM D S a1 → sK S a1 = 12 → W p l e r_X10_strengthsPassing s m args below meth c H locs 0 0 (MQ below (va_Qi (fun r S9 => wX D S0 S9 ∧ post r S9) (wB D cy X A) A) args s 0 0 A) (F0 m 0 ls []) := by
  obtain ⟨hx, hb, hml, hown, hts⟩ := id F
  have hwg : ∀ w ∈ WG, w.before args s = true := fun w h => hts w (List.mem_cons_of_mem _ h)
  intro S H locs ls a0 a1 hp hW hE hl hL_a0 hK_a0 hL_a1 hK_a1
  unfold wp_X10_strengthsPassing_0 at hp
  refine lv_iconst (v := 0) hx hb dX10_strengthsPassing_0 (by decide) ?_
  refine lv_istore_n (lv' := [(2, .int (0 : Int32)), (0, .ref a0), (1, .ref a1)]) hx hb dX10_strengthsPassing_1 rfl hl (by decide) rfl (fun ls hl => ?_)
  refine lv_iconst (v := 0) hx hb dX10_strengthsPassing_2 (by decide) ?_
  refine lv_istore_n (lv' := [(3, .int (0 : Int32)), (2, .int (0 : Int32)), (0, .ref a0), (1, .ref a1)]) hx hb dX10_strengthsPassing_3 rfl hl (by decide) rfl (fun ls hl => ?_)
  obtain ⟨n_1, hp⟩ := hp
  exact t_X10_strengthsPassing_4 F hr hlocks hK n_1 hp hW hE (lv_sub hl [2, 3, 1, 0] rfl) hL_a0 hK_a0 hL_a1 hK_a1
set_option maxHeartbeats 4000000 in
set_option maxRecDepth 100000 in
theorem c_X10_strengthsPassing (l : Launch) {D : wD} {cy : Nat → ClassId} {X : va_W} {S0 : wS} {post : Int32 → wS → Prop} {a0 : Nat} {a1 : Nat} (hL_a0 : wM D S0 a0) (hK_a0 : sK S0 a0 = 15) (hL_a1 : wM D S0 a1) (hK_a1 : sK S0 a1 = 12) (hp : wp_X10_strengthsPassing D post S0 a0 a1) : mI D cy X l yX10_strengthsPassing wz_X10_strengthsPassing r_X10_strengthsPassing [.ref a0, .ref a1] S0 (fun r S9 => wX D S0 S9 ∧ post r S9) := by
  intro sz
  refine Met.ofW (cc := cX10_strengthsPassing) (maxL := 5) (ret := (some .int)) (by decide) rfl ?_
  intro p e s m args below meth c s₁ B hml hv
  obtain ⟨rfl, hsz, hP, hK, hD0, hRO⟩ := hv
  have hts := atoms_spec (ws := wz_X10_strengthsPassing) B.pre
  have hown : s.vm.findClass RX10 = some m.cls := findClass_of_methodNamed B.named
  subst hsz
  have hD := hD0.self (sz := s.heap.size)
  have F : CallFix p m c cX10_strengthsPassing 5 s _ wz_X10_strengthsPassing RX10 := ⟨B.exec, B.bytes, hml, hown, hts⟩
  have hr := B.returns
  have hlocks := B.notSynchronized
  generalize hAe : va_A (wL cy X S0) s.heap.size = A at hD hK ⊢
  have hA : ∀ q, s.heap.size ≤ q → A q := fun q h => by rw [← hAe]; exact Or.inr h
  have hW : wO D cy X A s.heap S0 s.heap [] := ⟨hP, hD, va_S.rf, hA, hRO⟩
  have hl := lv_entry ([.ref a0, .ref a1]) (n := 5) (Nat.le_of_ble_eq_true rfl)
  rw [lg_entry_eq]
  generalize (lg_sl ([.ref a0, .ref a1]) ++ List.replicate (5 - (lg_sl ([.ref a0, .ref a1])).length) Slot.unset).toArray = ls at hl ⊢
  have hl : lv_has ls 5 [(0, .ref a0), (1, .ref a1)] := hl
  unfold wp_X10_strengthsPassing at hp
  exact t_X10_strengthsPassing_0 F hr hlocks hK hp hW wX.rf (lv_sub hl [0, 1] rfl) hL_a0 hK_a0 hL_a1 hK_a1
def wp_X3_init_0 (D : wD) (post : wS → Prop)  (bc bs : Nat) (S : wS) (a0 : Nat) (x1 : Int32) : Prop :=
∀ S_1 : wS, S_1 = uI S a0 3 (0 : Int32) →
∀ S_2 : wS, S_2 = uI S_1 a0 4 (0 : Int32) →
∀ S_3 : wS, S_3 = uI S_2 a0 5 (0 : Int32) →
∀ S_4 : wS, S_4 = uI S_3 a0 6 (0 : Int32) →
∀ S_5 : wS, S_5 = uI S_4 a0 7 (0 : Int32) →
∀ S_6 : wS, S_6 = uI S_5 a0 8 (0 : Int32) →
∀ x_7 : Int32, x_7 = (if x1 < (0 : Int32) then (0 : Int32) else x1) →
¬ ((x_7 + (1 : Int32)) * (5 : Int32)) < 0 ∧ (((x_7 + (1 : Int32)) * (5 : Int32))).toNatClampNeg ≤ 1000000 ∧ 1 ≤ bc ∧ (((x_7 + (1 : Int32)) * (5 : Int32))).toNatClampNeg ≤ bs ∧ ∀ y_8 : Nat, ¬ wM D S_6 y_8 → ∀ S_9 : wS, S_9 = nA S_6 y_8 22 (((x_7 + (1 : Int32)) * (5 : Int32))).toNatClampNeg →
∀ S_11 : wS, S_11 = uR S_9 a0 0 (some y_8) →
¬ x_7 < 0 ∧ (x_7).toNatClampNeg ≤ 1000000 ∧ 1 ≤ (bc - 1) ∧ (x_7).toNatClampNeg ≤ (bs - (((x_7 + (1 : Int32)) * (5 : Int32))).toNatClampNeg) ∧ ∀ y_12 : Nat, ¬ wM D S_11 y_12 → ∀ S_13 : wS, S_13 = nA S_11 y_12 21 (x_7).toNatClampNeg →
∀ S_15 : wS, S_15 = uR S_13 a0 1 (some y_12) →
¬ (x_7 + (1 : Int32)) < 0 ∧ ((x_7 + (1 : Int32))).toNatClampNeg ≤ 1000000 ∧ 1 ≤ ((bc - 1) - 1) ∧ ((x_7 + (1 : Int32))).toNatClampNeg ≤ ((bs - (((x_7 + (1 : Int32)) * (5 : Int32))).toNatClampNeg) - (x_7).toNatClampNeg) ∧ ∀ y_16 : Nat, ¬ wM D S_15 y_16 → ∀ S_17 : wS, S_17 = nA S_15 y_16 23 ((x_7 + (1 : Int32))).toNatClampNeg →
∀ S_19 : wS, S_19 = uR S_17 a0 2 (some y_16) →
post S_19
abbrev r_X3_init (rC rS : Nat) : Room := { frames := 1, cells := rC, slots := rS, locals := 60 }
def wp_X3_init (D : wD) (post : wS → Prop) (bc bs : Nat) (S : wS) (a0 : Nat) (x1 : Int32) : Prop := wp_X3_init_0 D post bc bs S a0 x1
set_option maxHeartbeats 4000000 in
set_option maxRecDepth 100000 in
theorem t_X3_init_0 {p : Program} {l : Launch} {e : Env} {s : State} {m : MethodId} {args : Array Value} {below : List Frame} {meth : Method} {c : Code} {D : wD} {cy : Nat → ClassId} {X : va_W} {A : Nat → Prop} {S0 : wS} {rC rS : Nat} {post : wS → Prop} (F : CallFix p m c cX3_init 3 s args wz_X3_init RX3) (hr : meth.sig.returnType = none) (hlocks : meth.locks = false) (hK : wK D cy A s) (hin : meth.name = "<init>") : ∀ {bc bs cells slots : Nat} (hbc : cells + bc ≤ rC) (hbs : slots + bs ≤ rS) {S : wS} {H : Heap} {locs : List Loc} {ls : Array Slot} {a0 : Nat} {x1 : Int32}, wp_X3_init_0 D post bc bs S a0 x1 → wO D cy X A s.heap S H locs → wX D S0 S → lv_has ls 3 [(0, .ref a0), (1, .int x1)] → wM D S a0 → sK S a0 = 8 → W p l e (r_X3_init rC rS) s m args below meth c H locs cells slots (MQ below (va_Qv (fun S9 => wX D S0 S9 ∧ post S9) (wB D cy X A) A) args s rC rS A) (F0 m 0 ls []) := by
  obtain ⟨hx, hb, hml, hown, hts⟩ := id F
  have hwg : ∀ w ∈ WG, w.before args s = true := fun w h => hts w (List.mem_cons_of_mem _ h)
  have i_8 : ∀ w ∈ u_ws RX3 TX3 9, w ∈ wz_X3_init := fun w h => List.mem_cons_of_mem _ (wu_8 w h)
  have k_15 := hwg _ wf_RX3_15
  have k_18 := hwg _ wf_RX3_18
  have k_21 := hwg _ wf_RX3_21
  have k_24 := hwg _ wf_RX3_24
  have k_27 := hwg _ wf_RX3_27
  have k_36 := hwg _ wf_RX3_36
  have k_40 := hwg _ wf_RX3_40
  have k_44 := hwg _ wf_RX3_44
  have k_9 := hwg _ wf_RX3_9
  intro bc bs cells slots hbc hbs S H locs ls a0 x1 hp hW hE hl hL_a0 hK_a0
  unfold wp_X3_init_0 at hp
  refine lv_aload_n hx hb dX3_init_0 rfl (lv_at hl 0 rfl) ?_
  refine W.objInit hx hb hown (hwg _ wm_RX3_3) (hwg _ wobj.1) (hwg _ wobj.2) rfl (by rw [hml]; exact hl.1) rfl dX3_init_1 (Nat.le_of_ble_eq_true rfl) (Nat.le_of_ble_eq_true rfl) ?_
  refine W.eq (g2 := F0 m 4 ls []) rfl ?_
  refine lv_aload_n hx hb dX3_init_4 rfl (lv_at hl 0 rfl) ?_
  refine lv_iconst (v := 0) hx hb dX3_init_5 (by decide) ?_
  refine w_putI (k := 8) (f := 3) (T := TX3) F hK hW hL_a0 hK_a0 (by decide) (by decide) rfl rfl (by decide) i_8 tyX3 tyX3_ok nmX3 k_9 rfl rfl (ty := .int) rfl rfl rfl dX3_init_6 (fun H locs hW => ?_)
  obtain ⟨S_1, eS_1⟩ : ∃ z : wS, z = uI S a0 3 (0 : Int32) := ⟨_, rfl⟩
  rw [← eS_1] at hW
  replace hp := hp S_1 eS_1
  have hX_S_1 : wX D S S_1 := by rw [eS_1]; exact wX_uI
  have hE := hE.trans hX_S_1
  have hK_a0 : sK S_1 a0 = 8 := (hX_S_1.2 a0 hL_a0).1.trans hK_a0
  have hL_a0 : wM D S_1 a0 := hX_S_1.M hL_a0
  refine lv_aload_n hx hb dX3_init_9 rfl (lv_at hl 0 rfl) ?_
  refine lv_iconst (v := 0) hx hb dX3_init_10 (by decide) ?_
  refine w_putI (k := 8) (f := 4) (T := TX3) F hK hW hL_a0 hK_a0 (by decide) (by decide) rfl rfl (by decide) i_8 tyX3 tyX3_ok nmX3 k_15 rfl rfl (ty := .int) rfl rfl rfl dX3_init_11 (fun H locs hW => ?_)
  obtain ⟨S_2, eS_2⟩ : ∃ z : wS, z = uI S_1 a0 4 (0 : Int32) := ⟨_, rfl⟩
  rw [← eS_2] at hW
  replace hp := hp S_2 eS_2
  have hX_S_2 : wX D S_1 S_2 := by rw [eS_2]; exact wX_uI
  have hE := hE.trans hX_S_2
  have hK_a0 : sK S_2 a0 = 8 := (hX_S_2.2 a0 hL_a0).1.trans hK_a0
  have hL_a0 : wM D S_2 a0 := hX_S_2.M hL_a0
  refine lv_aload_n hx hb dX3_init_14 rfl (lv_at hl 0 rfl) ?_
  refine lv_iconst (v := 0) hx hb dX3_init_15 (by decide) ?_
  refine w_putI (k := 8) (f := 5) (T := TX3) F hK hW hL_a0 hK_a0 (by decide) (by decide) rfl rfl (by decide) i_8 tyX3 tyX3_ok nmX3 k_18 rfl rfl (ty := .int) rfl rfl rfl dX3_init_16 (fun H locs hW => ?_)
  obtain ⟨S_3, eS_3⟩ : ∃ z : wS, z = uI S_2 a0 5 (0 : Int32) := ⟨_, rfl⟩
  rw [← eS_3] at hW
  replace hp := hp S_3 eS_3
  have hX_S_3 : wX D S_2 S_3 := by rw [eS_3]; exact wX_uI
  have hE := hE.trans hX_S_3
  have hK_a0 : sK S_3 a0 = 8 := (hX_S_3.2 a0 hL_a0).1.trans hK_a0
  have hL_a0 : wM D S_3 a0 := hX_S_3.M hL_a0
  refine lv_aload_n hx hb dX3_init_19 rfl (lv_at hl 0 rfl) ?_
  refine lv_iconst (v := 0) hx hb dX3_init_20 (by decide) ?_
  refine w_putI (k := 8) (f := 6) (T := TX3) F hK hW hL_a0 hK_a0 (by decide) (by decide) rfl rfl (by decide) i_8 tyX3 tyX3_ok nmX3 k_21 rfl rfl (ty := .int) rfl rfl rfl dX3_init_21 (fun H locs hW => ?_)
  obtain ⟨S_4, eS_4⟩ : ∃ z : wS, z = uI S_3 a0 6 (0 : Int32) := ⟨_, rfl⟩
  rw [← eS_4] at hW
  replace hp := hp S_4 eS_4
  have hX_S_4 : wX D S_3 S_4 := by rw [eS_4]; exact wX_uI
  have hE := hE.trans hX_S_4
  have hK_a0 : sK S_4 a0 = 8 := (hX_S_4.2 a0 hL_a0).1.trans hK_a0
  have hL_a0 : wM D S_4 a0 := hX_S_4.M hL_a0
  refine lv_aload_n hx hb dX3_init_24 rfl (lv_at hl 0 rfl) ?_
  refine lv_iconst (v := 0) hx hb dX3_init_25 (by decide) ?_
  refine w_putI (k := 8) (f := 7) (T := TX3) F hK hW hL_a0 hK_a0 (by decide) (by decide) rfl rfl (by decide) i_8 tyX3 tyX3_ok nmX3 k_24 rfl rfl (ty := .int) rfl rfl rfl dX3_init_26 (fun H locs hW => ?_)
  obtain ⟨S_5, eS_5⟩ : ∃ z : wS, z = uI S_4 a0 7 (0 : Int32) := ⟨_, rfl⟩
  rw [← eS_5] at hW
  replace hp := hp S_5 eS_5
  have hX_S_5 : wX D S_4 S_5 := by rw [eS_5]; exact wX_uI
  have hE := hE.trans hX_S_5
  have hK_a0 : sK S_5 a0 = 8 := (hX_S_5.2 a0 hL_a0).1.trans hK_a0
  have hL_a0 : wM D S_5 a0 := hX_S_5.M hL_a0
  refine lv_aload_n hx hb dX3_init_29 rfl (lv_at hl 0 rfl) ?_
  refine lv_iconst (v := 0) hx hb dX3_init_30 (by decide) ?_
  refine w_putI (k := 8) (f := 8) (T := TX3) F hK hW hL_a0 hK_a0 (by decide) (by decide) rfl rfl (by decide) i_8 tyX3 tyX3_ok nmX3 k_27 rfl rfl (ty := .int) rfl rfl rfl dX3_init_31 (fun H locs hW => ?_)
  obtain ⟨S_6, eS_6⟩ : ∃ z : wS, z = uI S_5 a0 8 (0 : Int32) := ⟨_, rfl⟩
  rw [← eS_6] at hW
  replace hp := hp S_6 eS_6
  have hX_S_6 : wX D S_5 S_6 := by rw [eS_6]; exact wX_uI
  have hE := hE.trans hX_S_6
  have hK_a0 : sK S_6 a0 = 8 := (hX_S_6.2 a0 hL_a0).1.trans hK_a0
  have hL_a0 : wM D S_6 a0 := hX_S_6.M hL_a0
  refine lv_iload_n hx hb dX3_init_34 rfl (lv_at hl 1 rfl) ?_
  refine lv_iconst (v := 0) hx hb dX3_init_35 (by decide) ?_
  refine va_mmax hx hb (hml.trans hl.1.symm) hown (hwg _ wm_RX3_30) (hwg _ wmm_max.1) (hwg _ wmm_max.2.1) (hwg _ wmm_max.2.2) (Nat.le_of_ble_eq_true rfl) (Nat.le_of_ble_eq_true rfl) (by show _ ≤ rC; omega) (by show _ ≤ rS; omega) dX3_init_36 ?_
  refine lv_topi (fun x_7 ex_7 => ?_)
  replace hp := hp x_7 ex_7
  refine lv_istore_n (lv' := [(2, .int x_7), (0, .ref a0), (1, .int x1)]) hx hb dX3_init_39 rfl hl (by decide) rfl (fun ls hl => ?_)
  refine lv_aload_n hx hb dX3_init_40 rfl (lv_at hl 1 rfl) ?_
  refine lv_iload_n hx hb dX3_init_41 rfl (lv_at hl 0 rfl) ?_
  refine lv_iconst (v := 1) hx hb dX3_init_42 (by decide) ?_
  refine lv_iadd hx hb dX3_init_43 ?_
  refine lv_iconst (v := 5) hx hb dX3_init_44 (by decide) ?_
  refine lv_imul hx hb dX3_init_45 ?_
  obtain ⟨h_10, h_10b, h_10c, h_10d, hp⟩ := hp
  refine w_newaJ F hK hW (hwg _ wr_long) h_10 h_10b (by show _ ≤ rC; omega) (by show _ ≤ rS; omega) dX3_init_46 (fun y_8 H hq_y_8 hW => ?_)
  replace hbc := w_spend hbc (show 1 ≤ bc by omega)
  replace hbs := w_spend hbs (show (((x_7 + (1 : Int32)) * (5 : Int32))).toNatClampNeg ≤ bs by omega)
  obtain ⟨S_9, eS_9⟩ : ∃ z : wS, z = nA S_6 y_8 22 (((x_7 + (1 : Int32)) * (5 : Int32))).toNatClampNeg := ⟨_, rfl⟩
  rw [← eS_9] at hW
  replace hp := hp y_8 hq_y_8 S_9 eS_9
  have hX_S_9 : wX D S_6 S_9 := by rw [eS_9]; exact wX_nA hq_y_8
  have hE := hE.trans hX_S_9
  have hK_a0 : sK S_9 a0 = 8 := (hX_S_9.2 a0 hL_a0).1.trans hK_a0
  have hL_a0 : wM D S_9 a0 := hX_S_9.M hL_a0
  have hL_y_8 : wM D S_9 y_8 := by rw [eS_9]; exact Or.inl (List.mem_append_right _ List.mem_cons_self)
  have hK_y_8 : sK S_9 y_8 = 22 := by rw [eS_9]; exact va_up_self _ _ _
  refine w_putRF (k := 8) (f := 0) (T := TX3) (g := (some y_8)) F hK hW hL_a0 hK_a0 (by decide) (by decide) rfl rfl (by decide) i_8 tyX3 tyX3_ok nmX3 k_36 rfl rfl hin rfl (ty := (.array .long)) rfl (v_narrow _ _) (v_fitsA _ _) dX3_init_48 (fun H locs hW => ?_)
  obtain ⟨S_11, eS_11⟩ : ∃ z : wS, z = uR S_9 a0 0 (some y_8) := ⟨_, rfl⟩
  rw [← eS_11] at hW
  replace hp := hp S_11 eS_11
  have hX_S_11 : wX D S_9 S_11 := by rw [eS_11]; exact wX_uR
  have hE := hE.trans hX_S_11
  have hK_a0 : sK S_11 a0 = 8 := (hX_S_11.2 a0 hL_a0).1.trans hK_a0
  have hL_a0 : wM D S_11 a0 := hX_S_11.M hL_a0
  refine lv_aload_n hx hb dX3_init_51 rfl (lv_at hl 1 rfl) ?_
  refine lv_iload_n hx hb dX3_init_52 rfl (lv_at hl 0 rfl) ?_
  obtain ⟨h_14, h_14b, h_14c, h_14d, hp⟩ := hp
  refine w_newaI F hK hW (hwg _ wr_int) h_14 h_14b (by show _ ≤ rC; omega) (by show _ ≤ rS; omega) dX3_init_53 (fun y_12 H hq_y_12 hW => ?_)
  replace hbc := w_spend hbc (show 1 ≤ (bc - 1) by omega)
  replace hbs := w_spend hbs (show (x_7).toNatClampNeg ≤ (bs - (((x_7 + (1 : Int32)) * (5 : Int32))).toNatClampNeg) by omega)
  obtain ⟨S_13, eS_13⟩ : ∃ z : wS, z = nA S_11 y_12 21 (x_7).toNatClampNeg := ⟨_, rfl⟩
  rw [← eS_13] at hW
  replace hp := hp y_12 hq_y_12 S_13 eS_13
  have hX_S_13 : wX D S_11 S_13 := by rw [eS_13]; exact wX_nA hq_y_12
  have hE := hE.trans hX_S_13
  have hK_a0 : sK S_13 a0 = 8 := (hX_S_13.2 a0 hL_a0).1.trans hK_a0
  have hL_a0 : wM D S_13 a0 := hX_S_13.M hL_a0
  have hL_y_12 : wM D S_13 y_12 := by rw [eS_13]; exact Or.inl (List.mem_append_right _ List.mem_cons_self)
  have hK_y_12 : sK S_13 y_12 = 21 := by rw [eS_13]; exact va_up_self _ _ _
  refine w_putRF (k := 8) (f := 1) (T := TX3) (g := (some y_12)) F hK hW hL_a0 hK_a0 (by decide) (by decide) rfl rfl (by decide) i_8 tyX3 tyX3_ok nmX3 k_40 rfl rfl hin rfl (ty := (.array .int)) rfl (v_narrow _ _) (v_fitsA _ _) dX3_init_55 (fun H locs hW => ?_)
  obtain ⟨S_15, eS_15⟩ : ∃ z : wS, z = uR S_13 a0 1 (some y_12) := ⟨_, rfl⟩
  rw [← eS_15] at hW
  replace hp := hp S_15 eS_15
  have hX_S_15 : wX D S_13 S_15 := by rw [eS_15]; exact wX_uR
  have hE := hE.trans hX_S_15
  have hK_a0 : sK S_15 a0 = 8 := (hX_S_15.2 a0 hL_a0).1.trans hK_a0
  have hL_a0 : wM D S_15 a0 := hX_S_15.M hL_a0
  refine lv_aload_n hx hb dX3_init_58 rfl (lv_at hl 1 rfl) ?_
  refine lv_iload_n hx hb dX3_init_59 rfl (lv_at hl 0 rfl) ?_
  refine lv_iconst (v := 1) hx hb dX3_init_60 (by decide) ?_
  refine lv_iadd hx hb dX3_init_61 ?_
  obtain ⟨h_18, h_18b, h_18c, h_18d, hp⟩ := hp
  refine w_newaZ F hK hW (hwg _ wr_boolean) h_18 h_18b (by show _ ≤ rC; omega) (by show _ ≤ rS; omega) dX3_init_62 (fun y_16 H hq_y_16 hW => ?_)
  replace hbc := w_spend hbc (show 1 ≤ ((bc - 1) - 1) by omega)
  replace hbs := w_spend hbs (show ((x_7 + (1 : Int32))).toNatClampNeg ≤ ((bs - (((x_7 + (1 : Int32)) * (5 : Int32))).toNatClampNeg) - (x_7).toNatClampNeg) by omega)
  obtain ⟨S_17, eS_17⟩ : ∃ z : wS, z = nA S_15 y_16 23 ((x_7 + (1 : Int32))).toNatClampNeg := ⟨_, rfl⟩
  rw [← eS_17] at hW
  replace hp := hp y_16 hq_y_16 S_17 eS_17
  have hX_S_17 : wX D S_15 S_17 := by rw [eS_17]; exact wX_nA hq_y_16
  have hE := hE.trans hX_S_17
  have hK_a0 : sK S_17 a0 = 8 := (hX_S_17.2 a0 hL_a0).1.trans hK_a0
  have hL_a0 : wM D S_17 a0 := hX_S_17.M hL_a0
  have hL_y_16 : wM D S_17 y_16 := by rw [eS_17]; exact Or.inl (List.mem_append_right _ List.mem_cons_self)
  have hK_y_16 : sK S_17 y_16 = 23 := by rw [eS_17]; exact va_up_self _ _ _
  refine w_putRF (k := 8) (f := 2) (T := TX3) (g := (some y_16)) F hK hW hL_a0 hK_a0 (by decide) (by decide) rfl rfl (by decide) i_8 tyX3 tyX3_ok nmX3 k_44 rfl rfl hin rfl (ty := (.array .boolean)) rfl (v_narrow _ _) (v_fitsA _ _) dX3_init_64 (fun H locs hW => ?_)
  obtain ⟨S_19, eS_19⟩ : ∃ z : wS, z = uR S_17 a0 2 (some y_16) := ⟨_, rfl⟩
  rw [← eS_19] at hW
  replace hp := hp S_19 eS_19
  have hX_S_19 : wX D S_17 S_19 := by rw [eS_19]; exact wX_uR
  have hE := hE.trans hX_S_19
  have hK_a0 : sK S_19 a0 = 8 := (hX_S_19.2 a0 hL_a0).1.trans hK_a0
  have hL_a0 : wM D S_19 a0 := hX_S_19.M hL_a0
  refine W.widen (k := rC) (n := rS) (Nat.le_trans (Nat.le_add_right _ _) hbc) (Nat.le_trans (Nat.le_add_right _ _) hbs) ?_
  exact w_vret hx hb hr hlocks hW ⟨hE, hp⟩ dX3_init_67
set_option maxHeartbeats 4000000 in
set_option maxRecDepth 100000 in
theorem c_X3_init (l : Launch) {rC rS : Nat} {D : wD} {cy : Nat → ClassId} {X : va_W} {S0 : wS} {post : wS → Prop} {a0 : Nat} {x1 : Int32} (hL_a0 : wM D S0 a0) (hK_a0 : sK S0 a0 = 8) (hp : wp_X3_init D post rC rS S0 a0 x1) : mV D cy X l yX3_init wz_X3_init (r_X3_init rC rS) [.ref a0, .int x1] S0 (fun S9 => wX D S0 S9 ∧ post S9) := by
  intro sz
  refine Met.ofW (cc := cX3_init) (maxL := 3) (ret := none) (by decide) rfl ?_
  intro p e s m args below meth c s₁ B hml hv
  obtain ⟨rfl, hsz, hP, hK, hD0, hRO⟩ := hv
  have hts := atoms_spec (ws := wz_X3_init) B.pre
  have hown : s.vm.findClass RX3 = some m.cls := findClass_of_methodNamed B.named
  subst hsz
  have hD := hD0.self (sz := s.heap.size)
  have F : CallFix p m c cX3_init 3 s _ wz_X3_init RX3 := ⟨B.exec, B.bytes, hml, hown, hts⟩
  have hr := B.returns
  have hlocks := B.notSynchronized
  have hin : meth.name = "<init>" := (name_of_methodNamed B.named B.method).1
  generalize hAe : va_A (wL cy X S0) s.heap.size = A at hD hK ⊢
  have hA : ∀ q, s.heap.size ≤ q → A q := fun q h => by rw [← hAe]; exact Or.inr h
  have hW : wO D cy X A s.heap S0 s.heap [] := ⟨hP, hD, va_S.rf, hA, hRO⟩
  have hl := lv_entry ([.ref a0, .int x1]) (n := 3) (Nat.le_of_ble_eq_true rfl)
  rw [lg_entry_eq]
  generalize (lg_sl ([.ref a0, .int x1]) ++ List.replicate (3 - (lg_sl ([.ref a0, .int x1])).length) Slot.unset).toArray = ls at hl ⊢
  have hl : lv_has ls 3 [(0, .ref a0), (1, .int x1)] := hl
  unfold wp_X3_init at hp
  exact t_X3_init_0 F hr hlocks hK hin (Nat.le_of_eq (Nat.zero_add _)) (Nat.le_of_eq (Nat.zero_add _)) hp hW wX.rf (lv_sub hl [0, 1] rfl) hL_a0 hK_a0
def wp_X3_copyWith_103 (D : wD) (post : Option Nat → wS → Prop)  (bc bs : Nat) (S : wS) (a0 : Nat) (x1 : Int32) (x2 : Int32) (x3 : Int32) (a4 : Nat) : Prop :=
∀ S_1 : wS, S_1 = uI S a4 3 (sI S a0 3) →
∀ S_2 : wS, S_2 = uI S_1 a4 4 x1 →
∀ S_3 : wS, S_3 = uI S_2 a4 5 x2 →
∀ S_4 : wS, S_4 = uI S_3 a4 6 x3 →
post (some a4) S_4
def wp_X3_copyWith_61 (D : wD) (post : Option Nat → wS → Prop)  : Nat → Nat → Nat → wS → Nat → Int32 → Int32 → Int32 → Nat → Int32 → Prop
  | 0, _, _, _, _, _, _, _, _, _ => False
  | n + 1, bc, bs, S, a0, x1, x2, x3, a4, x5 =>
    ∃ y_1 : Nat, sR S a4 1 = some y_1 ∧ wM D S y_1 ∧ sK S y_1 = 21 ∧
    (((Int32.ofNat (sN S y_1)) ≤ x5 → wp_X3_copyWith_103 D post bc bs S a0 x1 x2 x3 a4) ∧
     (¬ (Int32.ofNat (sN S y_1)) ≤ x5 → ∃ y_3 : Nat, sR S a0 1 = some y_3 ∧ wM D S y_3 ∧ sK S y_3 = 21 ∧
    (((Int32.ofNat (sN S y_3)) ≤ x5 → wp_X3_copyWith_103 D post bc bs S a0 x1 x2 x3 a4) ∧
     (¬ (Int32.ofNat (sN S y_3)) ≤ x5 → ∃ y_5 : Nat, sR S a4 1 = some y_5 ∧ wM D S y_5 ∧ sK S y_5 = 21 ∧
    ∃ y_6 : Nat, sR S a0 1 = some y_6 ∧ wM D S y_6 ∧ sK S y_6 = 21 ∧
    vp_in x5 (sN S y_6) ∧
    y_5 ∈ sL S ∧ vp_in x5 (sN S y_5) ∧
    ∀ S_9 : wS, S_9 = uI S y_5 (x5).toNatClampNeg (sI S y_6 (x5).toNatClampNeg) →
    ∀ x_10 : Int32, x_10 = x5 + 1 →
    wp_X3_copyWith_61 D post n bc bs S_9 a0 x1 x2 x3 a4 x_10))))
def wp_X3_copyWith_58 (D : wD) (post : Option Nat → wS → Prop)  (bc bs : Nat) (S : wS) (a0 : Nat) (x1 : Int32) (x2 : Int32) (x3 : Int32) (a4 : Nat) : Prop :=
∃ n_1 : Nat, wp_X3_copyWith_61 D post n_1 bc bs S a0 x1 x2 x3 a4 (0 : Int32)
def wp_X3_copyWith_16 (D : wD) (post : Option Nat → wS → Prop)  : Nat → Nat → Nat → wS → Nat → Int32 → Int32 → Int32 → Nat → Int32 → Prop
  | 0, _, _, _, _, _, _, _, _, _ => False
  | n + 1, bc, bs, S, a0, x1, x2, x3, a4, x5 =>
    ∃ y_1 : Nat, sR S a4 0 = some y_1 ∧ wM D S y_1 ∧ sK S y_1 = 22 ∧
    (((Int32.ofNat (sN S y_1)) ≤ x5 → wp_X3_copyWith_58 D post bc bs S a0 x1 x2 x3 a4) ∧
     (¬ (Int32.ofNat (sN S y_1)) ≤ x5 → ∃ y_3 : Nat, sR S a0 0 = some y_3 ∧ wM D S y_3 ∧ sK S y_3 = 22 ∧
    (((Int32.ofNat (sN S y_3)) ≤ x5 → wp_X3_copyWith_58 D post bc bs S a0 x1 x2 x3 a4) ∧
     (¬ (Int32.ofNat (sN S y_3)) ≤ x5 → ∃ y_5 : Nat, sR S a4 0 = some y_5 ∧ wM D S y_5 ∧ sK S y_5 = 22 ∧
    ∃ y_6 : Nat, sR S a0 0 = some y_6 ∧ wM D S y_6 ∧ sK S y_6 = 22 ∧
    vp_in x5 (sN S y_6) ∧
    y_5 ∈ sL S ∧ vp_in x5 (sN S y_5) ∧
    ∀ S_9 : wS, S_9 = uJ S y_5 (x5).toNatClampNeg (sJ S y_6 (x5).toNatClampNeg) →
    ∀ x_10 : Int32, x_10 = x5 + 1 →
    wp_X3_copyWith_16 D post n bc bs S_9 a0 x1 x2 x3 a4 x_10))))
def wp_X3_copyWith_0 (D : wD) (post : Option Nat → wS → Prop)  (bc bs : Nat) (S : wS) (a0 : Nat) (x1 : Int32) (x2 : Int32) (x3 : Int32) : Prop :=
1 ≤ bc ∧ 9 ≤ bs ∧
∀ y_1 : Nat, ¬ wM D S y_1 → ∀ S_2 : wS, S_2 = nA S y_1 8 0 →
∃ m_6 z_7 : Nat, m_6 ≤ (bc - 1) ∧ z_7 ≤ (bs - 9) ∧
wp_X3_init D (fun S_5 => 
∃ n_8 : Nat, wp_X3_copyWith_16 D post n_8 ((bc - 1) - m_6) ((bs - 9) - z_7) S_5 a0 x1 x2 x3 y_1 (0 : Int32)) m_6 z_7 S_2 y_1 (sI S_2 a0 3)
abbrev r_X3_copyWith (rC rS : Nat) : Room := { frames := 2, cells := rC, slots := rS, locals := 82 }
def wp_X3_copyWith (D : wD) (post : Option Nat → wS → Prop) (bc bs : Nat) (S : wS) (a0 : Nat) (x1 : Int32) (x2 : Int32) (x3 : Int32) : Prop := wp_X3_copyWith_0 D post bc bs S a0 x1 x2 x3
set_option maxHeartbeats 4000000 in
set_option maxRecDepth 100000 in
theorem t_X3_copyWith_103 {p : Program} {l : Launch} {e : Env} {s : State} {m : MethodId} {args : Array Value} {below : List Frame} {meth : Method} {c : Code} {D : wD} {cy : Nat → ClassId} {X : va_W} {A : Nat → Prop} {S0 : wS} {rC rS : Nat} {post : Option Nat → wS → Prop} (F : CallFix p m c cX3_copyWith 6 s args wz_X3_copyWith RX3) (hr : meth.sig.returnType = (some (.object "OpeningsCabinet$Game"))) (hlocks : meth.locks = false) (hK : wK D cy A s) : ∀ {bc bs cells slots : Nat} (hbc : cells + bc ≤ rC) (hbs : slots + bs ≤ rS) {S : wS} {H : Heap} {locs : List Loc} {ls : Array Slot} {a0 : Nat} {x1 : Int32} {x2 : Int32} {x3 : Int32} {a4 : Nat}, wp_X3_copyWith_103 D post bc bs S a0 x1 x2 x3 a4 → wO D cy X A s.heap S H locs → wX D S0 S → lv_has ls 6 [(0, .ref a0), (1, .int x1), (2, .int x2), (3, .int x3), (4, .ref a4)] → wM D S a0 → sK S a0 = 8 → wM D S a4 → sK S a4 = 8 → W p l e (r_X3_copyWith rC rS) s m args below meth c H locs cells slots (MQ below (va_Qq (fun r S9 => wX D S0 S9 ∧ post r S9) (wB D cy X A) A) args s rC rS A) (F0 m 103 ls []) := by
  obtain ⟨hx, hb, hml, hown, hts⟩ := id F
  have hwg : ∀ w ∈ WG, w.before args s = true := fun w h => hts w (List.mem_cons_of_mem _ h)
  have i_8 : ∀ w ∈ u_ws RX3 TX3 9, w ∈ wz_X3_copyWith := fun w h => List.mem_cons_of_mem _ (wu_8 w h)
  have k_15 := hwg _ wf_RX3_15
  have k_18 := hwg _ wf_RX3_18
  have k_21 := hwg _ wf_RX3_21
  have k_9 := hwg _ wf_RX3_9
  intro bc bs cells slots hbc hbs S H locs ls a0 x1 x2 x3 a4 hp hW hE hl hL_a0 hK_a0 hL_a4 hK_a4
  unfold wp_X3_copyWith_103 at hp
  refine lv_aload hx hb dX3_copyWith_103 (lv_at hl 4 rfl) ?_
  refine lv_aload_n hx hb dX3_copyWith_105 rfl (lv_at hl 0 rfl) ?_
  refine w_get (k := 8) (f := 3) (T := TX3) (v := .int (sI S a0 3)) F hK hW hL_a0 hK_a0 (by decide) rfl rfl (by decide) i_8 k_9 rfl dX3_copyWith_106 ?_
  refine w_putI (k := 8) (f := 3) (T := TX3) F hK hW hL_a4 hK_a4 (by decide) (by decide) rfl rfl (by decide) i_8 tyX3 tyX3_ok nmX3 k_9 rfl rfl (ty := .int) rfl rfl rfl dX3_copyWith_109 (fun H locs hW => ?_)
  obtain ⟨S_1, eS_1⟩ : ∃ z : wS, z = uI S a4 3 (sI S a0 3) := ⟨_, rfl⟩
  rw [← eS_1] at hW
  replace hp := hp S_1 eS_1
  have hX_S_1 : wX D S S_1 := by rw [eS_1]; exact wX_uI
  have hE := hE.trans hX_S_1
  have hK_a0 : sK S_1 a0 = 8 := (hX_S_1.2 a0 hL_a0).1.trans hK_a0
  have hL_a0 : wM D S_1 a0 := hX_S_1.M hL_a0
  have hK_a4 : sK S_1 a4 = 8 := (hX_S_1.2 a4 hL_a4).1.trans hK_a4
  have hL_a4 : wM D S_1 a4 := hX_S_1.M hL_a4
  refine lv_aload hx hb dX3_copyWith_112 (lv_at hl 4 rfl) ?_
  refine lv_iload_n hx hb dX3_copyWith_114 rfl (lv_at hl 1 rfl) ?_
  refine w_putI (k := 8) (f := 4) (T := TX3) F hK hW hL_a4 hK_a4 (by decide) (by decide) rfl rfl (by decide) i_8 tyX3 tyX3_ok nmX3 k_15 rfl rfl (ty := .int) rfl rfl rfl dX3_copyWith_115 (fun H locs hW => ?_)
  obtain ⟨S_2, eS_2⟩ : ∃ z : wS, z = uI S_1 a4 4 x1 := ⟨_, rfl⟩
  rw [← eS_2] at hW
  replace hp := hp S_2 eS_2
  have hX_S_2 : wX D S_1 S_2 := by rw [eS_2]; exact wX_uI
  have hE := hE.trans hX_S_2
  have hK_a0 : sK S_2 a0 = 8 := (hX_S_2.2 a0 hL_a0).1.trans hK_a0
  have hL_a0 : wM D S_2 a0 := hX_S_2.M hL_a0
  have hK_a4 : sK S_2 a4 = 8 := (hX_S_2.2 a4 hL_a4).1.trans hK_a4
  have hL_a4 : wM D S_2 a4 := hX_S_2.M hL_a4
  refine lv_aload hx hb dX3_copyWith_118 (lv_at hl 4 rfl) ?_
  refine lv_iload_n hx hb dX3_copyWith_120 rfl (lv_at hl 2 rfl) ?_
  refine w_putI (k := 8) (f := 5) (T := TX3) F hK hW hL_a4 hK_a4 (by decide) (by decide) rfl rfl (by decide) i_8 tyX3 tyX3_ok nmX3 k_18 rfl rfl (ty := .int) rfl rfl rfl dX3_copyWith_121 (fun H locs hW => ?_)
  obtain ⟨S_3, eS_3⟩ : ∃ z : wS, z = uI S_2 a4 5 x2 := ⟨_, rfl⟩
  rw [← eS_3] at hW
  replace hp := hp S_3 eS_3
  have hX_S_3 : wX D S_2 S_3 := by rw [eS_3]; exact wX_uI
  have hE := hE.trans hX_S_3
  have hK_a0 : sK S_3 a0 = 8 := (hX_S_3.2 a0 hL_a0).1.trans hK_a0
  have hL_a0 : wM D S_3 a0 := hX_S_3.M hL_a0
  have hK_a4 : sK S_3 a4 = 8 := (hX_S_3.2 a4 hL_a4).1.trans hK_a4
  have hL_a4 : wM D S_3 a4 := hX_S_3.M hL_a4
  refine lv_aload hx hb dX3_copyWith_124 (lv_at hl 4 rfl) ?_
  refine lv_iload_n hx hb dX3_copyWith_126 rfl (lv_at hl 3 rfl) ?_
  refine w_putI (k := 8) (f := 6) (T := TX3) F hK hW hL_a4 hK_a4 (by decide) (by decide) rfl rfl (by decide) i_8 tyX3 tyX3_ok nmX3 k_21 rfl rfl (ty := .int) rfl rfl rfl dX3_copyWith_127 (fun H locs hW => ?_)
  obtain ⟨S_4, eS_4⟩ : ∃ z : wS, z = uI S_3 a4 6 x3 := ⟨_, rfl⟩
  rw [← eS_4] at hW
  replace hp := hp S_4 eS_4
  have hX_S_4 : wX D S_3 S_4 := by rw [eS_4]; exact wX_uI
  have hE := hE.trans hX_S_4
  have hK_a0 : sK S_4 a0 = 8 := (hX_S_4.2 a0 hL_a0).1.trans hK_a0
  have hL_a0 : wM D S_4 a0 := hX_S_4.M hL_a0
  have hK_a4 : sK S_4 a4 = 8 := (hX_S_4.2 a4 hL_a4).1.trans hK_a4
  have hL_a4 : wM D S_4 a4 := hX_S_4.M hL_a4
  refine lv_aload hx hb dX3_copyWith_130 (lv_at hl 4 rfl) ?_
  refine W.widen (k := rC) (n := rS) (Nat.le_trans (Nat.le_add_right _ _) hbc) (Nat.le_trans (Nat.le_add_right _ _) hbs) ?_
  exact w_aret (g := (some a4)) hx hb hr hlocks hW ⟨hE, hp⟩ dX3_copyWith_132
set_option maxHeartbeats 4000000 in
set_option maxRecDepth 100000 in
theorem t_X3_copyWith_61 {p : Program} {l : Launch} {e : Env} {s : State} {m : MethodId} {args : Array Value} {below : List Frame} {meth : Method} {c : Code} {D : wD} {cy : Nat → ClassId} {X : va_W} {A : Nat → Prop} {S0 : wS} {rC rS : Nat} {post : Option Nat → wS → Prop} (F : CallFix p m c cX3_copyWith 6 s args wz_X3_copyWith RX3) (hr : meth.sig.returnType = (some (.object "OpeningsCabinet$Game"))) (hlocks : meth.locks = false) (hK : wK D cy A s) : ∀ (n : Nat) {bc bs cells slots : Nat} (hbc : cells + bc ≤ rC) (hbs : slots + bs ≤ rS) {S : wS} {H : Heap} {locs : List Loc} {ls : Array Slot} {a0 : Nat} {x1 : Int32} {x2 : Int32} {x3 : Int32} {a4 : Nat} {x5 : Int32}, wp_X3_copyWith_61 D post n bc bs S a0 x1 x2 x3 a4 x5 → wO D cy X A s.heap S H locs → wX D S0 S → lv_has ls 6 [(0, .ref a0), (1, .int x1), (2, .int x2), (3, .int x3), (4, .ref a4), (5, .int x5)] → wM D S a0 → sK S a0 = 8 → wM D S a4 → sK S a4 = 8 → W p l e (r_X3_copyWith rC rS) s m args below meth c H locs cells slots (MQ below (va_Qq (fun r S9 => wX D S0 S9 ∧ post r S9) (wB D cy X A) A) args s rC rS A) (F0 m 61 ls []) := by
  obtain ⟨hx, hb, hml, hown, hts⟩ := id F
  have hwg : ∀ w ∈ WG, w.before args s = true := fun w h => hts w (List.mem_cons_of_mem _ h)
  have i_8 : ∀ w ∈ u_ws RX3 TX3 9, w ∈ wz_X3_copyWith := fun w h => List.mem_cons_of_mem _ (wu_8 w h)
  have k_40 := hwg _ wf_RX3_40
  intro n
  induction n with
  | zero =>
    intro bc bs cells slots hbc hbs S H locs ls a0 x1 x2 x3 a4 x5 hp
    exact hp.elim
  | succ n ih =>
    intro bc bs cells slots hbc hbs S H locs ls a0 x1 x2 x3 a4 x5 hp hW hE hl hL_a0 hK_a0 hL_a4 hK_a4
    unfold wp_X3_copyWith_61 at hp
    refine lv_iload hx hb dX3_copyWith_61 (lv_at hl 5 rfl) ?_
    refine lv_aload hx hb dX3_copyWith_63 (lv_at hl 4 rfl) ?_
    obtain ⟨y_1, ey_1, hL_y_1, hK_y_1, hp⟩ := hp
    refine w_get (k := 8) (f := 1) (T := TX3) (v := .ref y_1) F hK hW hL_a4 hK_a4 (by decide) rfl rfl (by decide) i_8 k_40 (by rw [show wv 8 1 S a4 = va_rf (sR S a4 1) from rfl, ey_1]; rfl) dX3_copyWith_65 ?_
    refine w_len F hK hW hL_y_1 hK_y_1 (by decide) dX3_copyWith_68 ?_
    refine lv_icmp_ge (tgt := 103) hx hb dX3_copyWith_69 (by decide) (fun c_2 => ?_) (fun c_2 => ?_)
    · replace hp := hp.1 c_2
      exact t_X3_copyWith_103 F hr hlocks hK hbc hbs hp hW hE (lv_sub hl [0, 1, 2, 3, 4] rfl) hL_a0 hK_a0 hL_a4 hK_a4
    · replace hp := hp.2 c_2
      refine lv_iload hx hb dX3_copyWith_72 (lv_at hl 5 rfl) ?_
      refine lv_aload_n hx hb dX3_copyWith_74 rfl (lv_at hl 0 rfl) ?_
      obtain ⟨y_3, ey_3, hL_y_3, hK_y_3, hp⟩ := hp
      refine w_get (k := 8) (f := 1) (T := TX3) (v := .ref y_3) F hK hW hL_a0 hK_a0 (by decide) rfl rfl (by decide) i_8 k_40 (by rw [show wv 8 1 S a0 = va_rf (sR S a0 1) from rfl, ey_3]; rfl) dX3_copyWith_75 ?_
      refine w_len F hK hW hL_y_3 hK_y_3 (by decide) dX3_copyWith_78 ?_
      refine lv_icmp_ge (tgt := 103) hx hb dX3_copyWith_79 (by decide) (fun c_4 => ?_) (fun c_4 => ?_)
      · replace hp := hp.1 c_4
        exact t_X3_copyWith_103 F hr hlocks hK hbc hbs hp hW hE (lv_sub hl [0, 1, 2, 3, 4] rfl) hL_a0 hK_a0 hL_a4 hK_a4
      · replace hp := hp.2 c_4
        refine lv_aload hx hb dX3_copyWith_82 (lv_at hl 4 rfl) ?_
        obtain ⟨y_5, ey_5, hL_y_5, hK_y_5, hp⟩ := hp
        refine w_get (k := 8) (f := 1) (T := TX3) (v := .ref y_5) F hK hW hL_a4 hK_a4 (by decide) rfl rfl (by decide) i_8 k_40 (by rw [show wv 8 1 S a4 = va_rf (sR S a4 1) from rfl, ey_5]; rfl) dX3_copyWith_84 ?_
        refine lv_iload hx hb dX3_copyWith_87 (lv_at hl 5 rfl) ?_
        refine lv_aload_n hx hb dX3_copyWith_89 rfl (lv_at hl 0 rfl) ?_
        obtain ⟨y_6, ey_6, hL_y_6, hK_y_6, hp⟩ := hp
        refine w_get (k := 8) (f := 1) (T := TX3) (v := .ref y_6) F hK hW hL_a0 hK_a0 (by decide) rfl rfl (by decide) i_8 k_40 (by rw [show wv 8 1 S a0 = va_rf (sR S a0 1) from rfl, ey_6]; rfl) dX3_copyWith_90 ?_
        refine lv_iload hx hb dX3_copyWith_93 (lv_at hl 5 rfl) ?_
        obtain ⟨h_7, hp⟩ := hp
        refine w_ild F hK hW hL_y_6 hK_y_6 h_7 dX3_copyWith_95 ?_
        obtain ⟨h_8m, h_8, hp⟩ := hp
        refine w_ist F hK hW h_8m hK_y_5 h_8 dX3_copyWith_96 (fun H locs hW => ?_)
        obtain ⟨S_9, eS_9⟩ : ∃ z : wS, z = uI S y_5 (x5).toNatClampNeg (sI S y_6 (x5).toNatClampNeg) := ⟨_, rfl⟩
        rw [← eS_9] at hW
        replace hp := hp S_9 eS_9
        have hX_S_9 : wX D S S_9 := by rw [eS_9]; exact wX_uI
        have hE := hE.trans hX_S_9
        have hK_a0 : sK S_9 a0 = 8 := (hX_S_9.2 a0 hL_a0).1.trans hK_a0
        have hL_a0 : wM D S_9 a0 := hX_S_9.M hL_a0
        have hK_a4 : sK S_9 a4 = 8 := (hX_S_9.2 a4 hL_a4).1.trans hK_a4
        have hL_a4 : wM D S_9 a4 := hX_S_9.M hL_a4
        obtain ⟨x_10, ex_10⟩ : ∃ z : Int32, z = x5 + 1 := ⟨_, rfl⟩
        replace hp := hp x_10 ex_10
        refine lv_iinc (v := x_10) (lv' := [(5, .int x_10), (0, .ref a0), (1, .int x1), (2, .int x2), (3, .int x3), (4, .ref a4)]) hx hb dX3_copyWith_97 hl (k := 5) rfl (by rw [ex_10]; rfl) (by decide) rfl (fun ls hl => ?_)
        refine lv_goto (tgt := 61) hx hb dX3_copyWith_100 (by decide) ?_
        exact ih hbc hbs hp hW hE (lv_sub hl [1, 2, 3, 4, 5, 0] rfl) hL_a0 hK_a0 hL_a4 hK_a4
set_option maxHeartbeats 4000000 in
set_option maxRecDepth 100000 in
theorem t_X3_copyWith_58 {p : Program} {l : Launch} {e : Env} {s : State} {m : MethodId} {args : Array Value} {below : List Frame} {meth : Method} {c : Code} {D : wD} {cy : Nat → ClassId} {X : va_W} {A : Nat → Prop} {S0 : wS} {rC rS : Nat} {post : Option Nat → wS → Prop} (F : CallFix p m c cX3_copyWith 6 s args wz_X3_copyWith RX3) (hr : meth.sig.returnType = (some (.object "OpeningsCabinet$Game"))) (hlocks : meth.locks = false) (hK : wK D cy A s) : ∀ {bc bs cells slots : Nat} (hbc : cells + bc ≤ rC) (hbs : slots + bs ≤ rS) {S : wS} {H : Heap} {locs : List Loc} {ls : Array Slot} {a0 : Nat} {x1 : Int32} {x2 : Int32} {x3 : Int32} {a4 : Nat}, wp_X3_copyWith_58 D post bc bs S a0 x1 x2 x3 a4 → wO D cy X A s.heap S H locs → wX D S0 S → lv_has ls 6 [(0, .ref a0), (1, .int x1), (2, .int x2), (3, .int x3), (4, .ref a4)] → wM D S a0 → sK S a0 = 8 → wM D S a4 → sK S a4 = 8 → W p l e (r_X3_copyWith rC rS) s m args below meth c H locs cells slots (MQ below (va_Qq (fun r S9 => wX D S0 S9 ∧ post r S9) (wB D cy X A) A) args s rC rS A) (F0 m 58 ls []) := by
  obtain ⟨hx, hb, hml, hown, hts⟩ := id F
  have hwg : ∀ w ∈ WG, w.before args s = true := fun w h => hts w (List.mem_cons_of_mem _ h)
  intro bc bs cells slots hbc hbs S H locs ls a0 x1 x2 x3 a4 hp hW hE hl hL_a0 hK_a0 hL_a4 hK_a4
  unfold wp_X3_copyWith_58 at hp
  refine lv_iconst (v := 0) hx hb dX3_copyWith_58 (by decide) ?_
  refine lv_istore (lv' := [(5, .int (0 : Int32)), (0, .ref a0), (1, .int x1), (2, .int x2), (3, .int x3), (4, .ref a4)]) hx hb dX3_copyWith_59 hl (by decide) rfl (fun ls hl => ?_)
  obtain ⟨n_1, hp⟩ := hp
  exact t_X3_copyWith_61 F hr hlocks hK n_1 hbc hbs hp hW hE (lv_sub hl [1, 2, 3, 4, 5, 0] rfl) hL_a0 hK_a0 hL_a4 hK_a4
set_option maxHeartbeats 4000000 in
set_option maxRecDepth 100000 in
theorem t_X3_copyWith_16 {p : Program} {l : Launch} {e : Env} {s : State} {m : MethodId} {args : Array Value} {below : List Frame} {meth : Method} {c : Code} {D : wD} {cy : Nat → ClassId} {X : va_W} {A : Nat → Prop} {S0 : wS} {rC rS : Nat} {post : Option Nat → wS → Prop} (F : CallFix p m c cX3_copyWith 6 s args wz_X3_copyWith RX3) (hr : meth.sig.returnType = (some (.object "OpeningsCabinet$Game"))) (hlocks : meth.locks = false) (hK : wK D cy A s) : ∀ (n : Nat) {bc bs cells slots : Nat} (hbc : cells + bc ≤ rC) (hbs : slots + bs ≤ rS) {S : wS} {H : Heap} {locs : List Loc} {ls : Array Slot} {a0 : Nat} {x1 : Int32} {x2 : Int32} {x3 : Int32} {a4 : Nat} {x5 : Int32}, wp_X3_copyWith_16 D post n bc bs S a0 x1 x2 x3 a4 x5 → wO D cy X A s.heap S H locs → wX D S0 S → lv_has ls 6 [(0, .ref a0), (1, .int x1), (2, .int x2), (3, .int x3), (4, .ref a4), (5, .int x5)] → wM D S a0 → sK S a0 = 8 → wM D S a4 → sK S a4 = 8 → W p l e (r_X3_copyWith rC rS) s m args below meth c H locs cells slots (MQ below (va_Qq (fun r S9 => wX D S0 S9 ∧ post r S9) (wB D cy X A) A) args s rC rS A) (F0 m 16 ls []) := by
  obtain ⟨hx, hb, hml, hown, hts⟩ := id F
  have hwg : ∀ w ∈ WG, w.before args s = true := fun w h => hts w (List.mem_cons_of_mem _ h)
  have i_8 : ∀ w ∈ u_ws RX3 TX3 9, w ∈ wz_X3_copyWith := fun w h => List.mem_cons_of_mem _ (wu_8 w h)
  have k_36 := hwg _ wf_RX3_36
  intro n
  induction n with
  | zero =>
    intro bc bs cells slots hbc hbs S H locs ls a0 x1 x2 x3 a4 x5 hp
    exact hp.elim
  | succ n ih =>
    intro bc bs cells slots hbc hbs S H locs ls a0 x1 x2 x3 a4 x5 hp hW hE hl hL_a0 hK_a0 hL_a4 hK_a4
    unfold wp_X3_copyWith_16 at hp
    refine lv_iload hx hb dX3_copyWith_16 (lv_at hl 5 rfl) ?_
    refine lv_aload hx hb dX3_copyWith_18 (lv_at hl 4 rfl) ?_
    obtain ⟨y_1, ey_1, hL_y_1, hK_y_1, hp⟩ := hp
    refine w_get (k := 8) (f := 0) (T := TX3) (v := .ref y_1) F hK hW hL_a4 hK_a4 (by decide) rfl rfl (by decide) i_8 k_36 (by rw [show wv 8 0 S a4 = va_rf (sR S a4 0) from rfl, ey_1]; rfl) dX3_copyWith_20 ?_
    refine w_len F hK hW hL_y_1 hK_y_1 (by decide) dX3_copyWith_23 ?_
    refine lv_icmp_ge (tgt := 58) hx hb dX3_copyWith_24 (by decide) (fun c_2 => ?_) (fun c_2 => ?_)
    · replace hp := hp.1 c_2
      exact t_X3_copyWith_58 F hr hlocks hK hbc hbs hp hW hE (lv_sub hl [0, 1, 2, 3, 4] rfl) hL_a0 hK_a0 hL_a4 hK_a4
    · replace hp := hp.2 c_2
      refine lv_iload hx hb dX3_copyWith_27 (lv_at hl 5 rfl) ?_
      refine lv_aload_n hx hb dX3_copyWith_29 rfl (lv_at hl 0 rfl) ?_
      obtain ⟨y_3, ey_3, hL_y_3, hK_y_3, hp⟩ := hp
      refine w_get (k := 8) (f := 0) (T := TX3) (v := .ref y_3) F hK hW hL_a0 hK_a0 (by decide) rfl rfl (by decide) i_8 k_36 (by rw [show wv 8 0 S a0 = va_rf (sR S a0 0) from rfl, ey_3]; rfl) dX3_copyWith_30 ?_
      refine w_len F hK hW hL_y_3 hK_y_3 (by decide) dX3_copyWith_33 ?_
      refine lv_icmp_ge (tgt := 58) hx hb dX3_copyWith_34 (by decide) (fun c_4 => ?_) (fun c_4 => ?_)
      · replace hp := hp.1 c_4
        exact t_X3_copyWith_58 F hr hlocks hK hbc hbs hp hW hE (lv_sub hl [0, 1, 2, 3, 4] rfl) hL_a0 hK_a0 hL_a4 hK_a4
      · replace hp := hp.2 c_4
        refine lv_aload hx hb dX3_copyWith_37 (lv_at hl 4 rfl) ?_
        obtain ⟨y_5, ey_5, hL_y_5, hK_y_5, hp⟩ := hp
        refine w_get (k := 8) (f := 0) (T := TX3) (v := .ref y_5) F hK hW hL_a4 hK_a4 (by decide) rfl rfl (by decide) i_8 k_36 (by rw [show wv 8 0 S a4 = va_rf (sR S a4 0) from rfl, ey_5]; rfl) dX3_copyWith_39 ?_
        refine lv_iload hx hb dX3_copyWith_42 (lv_at hl 5 rfl) ?_
        refine lv_aload_n hx hb dX3_copyWith_44 rfl (lv_at hl 0 rfl) ?_
        obtain ⟨y_6, ey_6, hL_y_6, hK_y_6, hp⟩ := hp
        refine w_get (k := 8) (f := 0) (T := TX3) (v := .ref y_6) F hK hW hL_a0 hK_a0 (by decide) rfl rfl (by decide) i_8 k_36 (by rw [show wv 8 0 S a0 = va_rf (sR S a0 0) from rfl, ey_6]; rfl) dX3_copyWith_45 ?_
        refine lv_iload hx hb dX3_copyWith_48 (lv_at hl 5 rfl) ?_
        obtain ⟨h_7, hp⟩ := hp
        refine w_lld F hK hW hL_y_6 hK_y_6 h_7 dX3_copyWith_50 ?_
        obtain ⟨h_8m, h_8, hp⟩ := hp
        refine w_lst F hK hW h_8m hK_y_5 h_8 dX3_copyWith_51 (fun H locs hW => ?_)
        obtain ⟨S_9, eS_9⟩ : ∃ z : wS, z = uJ S y_5 (x5).toNatClampNeg (sJ S y_6 (x5).toNatClampNeg) := ⟨_, rfl⟩
        rw [← eS_9] at hW
        replace hp := hp S_9 eS_9
        have hX_S_9 : wX D S S_9 := by rw [eS_9]; exact wX_uJ
        have hE := hE.trans hX_S_9
        have hK_a0 : sK S_9 a0 = 8 := (hX_S_9.2 a0 hL_a0).1.trans hK_a0
        have hL_a0 : wM D S_9 a0 := hX_S_9.M hL_a0
        have hK_a4 : sK S_9 a4 = 8 := (hX_S_9.2 a4 hL_a4).1.trans hK_a4
        have hL_a4 : wM D S_9 a4 := hX_S_9.M hL_a4
        obtain ⟨x_10, ex_10⟩ : ∃ z : Int32, z = x5 + 1 := ⟨_, rfl⟩
        replace hp := hp x_10 ex_10
        refine lv_iinc (v := x_10) (lv' := [(5, .int x_10), (0, .ref a0), (1, .int x1), (2, .int x2), (3, .int x3), (4, .ref a4)]) hx hb dX3_copyWith_52 hl (k := 5) rfl (by rw [ex_10]; rfl) (by decide) rfl (fun ls hl => ?_)
        refine lv_goto (tgt := 16) hx hb dX3_copyWith_55 (by decide) ?_
        exact ih hbc hbs hp hW hE (lv_sub hl [1, 2, 3, 4, 5, 0] rfl) hL_a0 hK_a0 hL_a4 hK_a4
set_option maxHeartbeats 4000000 in
set_option maxRecDepth 100000 in
theorem t_X3_copyWith_0 {p : Program} {l : Launch} {e : Env} {s : State} {m : MethodId} {args : Array Value} {below : List Frame} {meth : Method} {c : Code} {D : wD} {cy : Nat → ClassId} {X : va_W} {A : Nat → Prop} {S0 : wS} {rC rS : Nat} {post : Option Nat → wS → Prop} (F : CallFix p m c cX3_copyWith 6 s args wz_X3_copyWith RX3) (hr : meth.sig.returnType = (some (.object "OpeningsCabinet$Game"))) (hlocks : meth.locks = false) (hK : wK D cy A s) : ∀ {bc bs cells slots : Nat} (hbc : cells + bc ≤ rC) (hbs : slots + bs ≤ rS) {S : wS} {H : Heap} {locs : List Loc} {ls : Array Slot} {a0 : Nat} {x1 : Int32} {x2 : Int32} {x3 : Int32}, wp_X3_copyWith_0 D post bc bs S a0 x1 x2 x3 → wO D cy X A s.heap S H locs → wX D S0 S → lv_has ls 6 [(0, .ref a0), (1, .int x1), (2, .int x2), (3, .int x3)] → wM D S a0 → sK S a0 = 8 → W p l e (r_X3_copyWith rC rS) s m args below meth c H locs cells slots (MQ below (va_Qq (fun r S9 => wX D S0 S9 ∧ post r S9) (wB D cy X A) A) args s rC rS A) (F0 m 0 ls []) := by
  obtain ⟨hx, hb, hml, hown, hts⟩ := id F
  have hwg : ∀ w ∈ WG, w.before args s = true := fun w h => hts w (List.mem_cons_of_mem _ h)
  have i_8 : ∀ w ∈ u_ws RX3 TX3 9, w ∈ wz_X3_copyWith := fun w h => List.mem_cons_of_mem _ (wu_8 w h)
  have k_9 := hwg _ wf_RX3_9
  intro bc bs cells slots hbc hbs S H locs ls a0 x1 x2 x3 hp hW hE hl hL_a0 hK_a0
  unfold wp_X3_copyWith_0 at hp
  obtain ⟨h_3, h_3b, hp⟩ := hp
  refine w_new (k := 8) (T := TX3) F hK hW rfl (by decide) (fun w h => List.mem_cons_of_mem _ (wu_8 w h)) tyX3 tyX3_ok (hwg _ wc_RX3_10) (hwg _ wn_8) (hwg _ wi_OpeningsCabinet_Game) wdef_8 (by show _ ≤ rC; omega) (by show _ ≤ rS; omega) dX3_copyWith_0 (fun y_1 H hq_y_1 hW => ?_)
  replace hbc := w_spend hbc (show 1 ≤ bc by omega)
  replace hbs := w_spend hbs (show 9 ≤ bs by omega)
  obtain ⟨S_2, eS_2⟩ : ∃ z : wS, z = nA S y_1 8 0 := ⟨_, rfl⟩
  rw [← eS_2] at hW
  replace hp := hp y_1 hq_y_1 S_2 eS_2
  have hX_S_2 : wX D S S_2 := by rw [eS_2]; exact wX_nA hq_y_1
  have hE := hE.trans hX_S_2
  have hK_a0 : sK S_2 a0 = 8 := (hX_S_2.2 a0 hL_a0).1.trans hK_a0
  have hL_a0 : wM D S_2 a0 := hX_S_2.M hL_a0
  have hL_y_1 : wM D S_2 y_1 := by rw [eS_2]; exact Or.inl (List.mem_append_right _ List.mem_cons_self)
  have hK_y_1 : sK S_2 y_1 = 8 := by rw [eS_2]; exact va_up_self _ _ _
  refine lv_dup hx hb dX3_copyWith_3 rfl ?_
  refine lv_aload_n hx hb dX3_copyWith_4 rfl (lv_at hl 0 rfl) ?_
  refine w_get (k := 8) (f := 3) (T := TX3) (v := .int (sI S_2 a0 3)) F hK hW hL_a0 hK_a0 (by decide) rfl rfl (by decide) i_8 k_9 rfl dX3_copyWith_5 ?_
  obtain ⟨m_6, z_7, hm_6, hz_7, hp⟩ := hp
  refine w_callV (va_runI (As := [.int (sI S_2 a0 3)]) (rest := [.ref y_1]) F (c_X3_init l hL_y_1 hK_y_1 hp H.size) (cwI 1 hts (wg_cons wy_X3_init.2.2) rfl rfl rfl (hwg _ wy_X3_init.2.1) (hwg _ wm_RX3_54) (hwg _ wy_X3_init.1) rfl (by decide +kernel) ⟨Nat.le_of_ble_eq_true rfl, Nat.le_of_ble_eq_true rfl⟩) (w_preS hK hW) rfl rfl hl.1 rfl (lv_room (Nat.le_of_ble_eq_true rfl)) dX3_copyWith_8 ⟨by show _ + m_6 ≤ rC; omega, by show _ + z_7 ≤ rS; omega⟩) hW (fun S_5 H locs hp hW => ?_)
  obtain ⟨hX_S_5, hp⟩ := hp
  refine W.widen (k := _ + m_6) (n := _ + z_7) (Nat.le_refl _) (Nat.le_refl _) ?_
  replace hbc := w_spend hbc (show m_6 ≤ (bc - 1) by omega)
  replace hbs := w_spend hbs (show z_7 ≤ (bs - 9) by omega)
  have hE := hE.trans hX_S_5
  have hK_a0 : sK S_5 a0 = 8 := (hX_S_5.2 a0 hL_a0).1.trans hK_a0
  have hL_a0 : wM D S_5 a0 := hX_S_5.M hL_a0
  have hK_y_1 : sK S_5 y_1 = 8 := (hX_S_5.2 y_1 hL_y_1).1.trans hK_y_1
  have hL_y_1 : wM D S_5 y_1 := hX_S_5.M hL_y_1
  refine lv_astore (lv' := [(4, .ref y_1), (0, .ref a0), (1, .int x1), (2, .int x2), (3, .int x3)]) hx hb dX3_copyWith_11 hl (by decide) rfl (fun ls hl => ?_)
  refine lv_iconst (v := 0) hx hb dX3_copyWith_13 (by decide) ?_
  refine lv_istore (lv' := [(5, .int (0 : Int32)), (4, .ref y_1), (0, .ref a0), (1, .int x1), (2, .int x2), (3, .int x3)]) hx hb dX3_copyWith_14 hl (by decide) rfl (fun ls hl => ?_)
  obtain ⟨n_8, hp⟩ := hp
  exact t_X3_copyWith_16 F hr hlocks hK n_8 hbc hbs hp hW hE (lv_sub hl [2, 3, 4, 5, 1, 0] rfl) hL_a0 hK_a0 hL_y_1 hK_y_1
set_option maxHeartbeats 4000000 in
set_option maxRecDepth 100000 in
theorem c_X3_copyWith (l : Launch) {rC rS : Nat} {D : wD} {cy : Nat → ClassId} {X : va_W} {S0 : wS} {post : Option Nat → wS → Prop} {a0 : Nat} {x1 : Int32} {x2 : Int32} {x3 : Int32} (hL_a0 : wM D S0 a0) (hK_a0 : sK S0 a0 = 8) (hp : wp_X3_copyWith D post rC rS S0 a0 x1 x2 x3) : mR D cy X l yX3_copyWith wz_X3_copyWith (r_X3_copyWith rC rS) [.ref a0, .int x1, .int x2, .int x3] S0 (fun r S9 => wX D S0 S9 ∧ post r S9) := by
  intro sz
  refine Met.ofW (cc := cX3_copyWith) (maxL := 6) (ret := (some (.object "OpeningsCabinet$Game"))) (by decide) rfl ?_
  intro p e s m args below meth c s₁ B hml hv
  obtain ⟨rfl, hsz, hP, hK, hD0, hRO⟩ := hv
  have hts := atoms_spec (ws := wz_X3_copyWith) B.pre
  have hown : s.vm.findClass RX3 = some m.cls := findClass_of_methodNamed B.named
  subst hsz
  have hD := hD0.self (sz := s.heap.size)
  have F : CallFix p m c cX3_copyWith 6 s _ wz_X3_copyWith RX3 := ⟨B.exec, B.bytes, hml, hown, hts⟩
  have hr := B.returns
  have hlocks := B.notSynchronized
  generalize hAe : va_A (wL cy X S0) s.heap.size = A at hD hK ⊢
  have hA : ∀ q, s.heap.size ≤ q → A q := fun q h => by rw [← hAe]; exact Or.inr h
  have hW : wO D cy X A s.heap S0 s.heap [] := ⟨hP, hD, va_S.rf, hA, hRO⟩
  have hl := lv_entry ([.ref a0, .int x1, .int x2, .int x3]) (n := 6) (Nat.le_of_ble_eq_true rfl)
  rw [lg_entry_eq]
  generalize (lg_sl ([.ref a0, .int x1, .int x2, .int x3]) ++ List.replicate (6 - (lg_sl ([.ref a0, .int x1, .int x2, .int x3])).length) Slot.unset).toArray = ls at hl ⊢
  have hl : lv_has ls 6 [(0, .ref a0), (1, .int x1), (2, .int x2), (3, .int x3)] := hl
  unfold wp_X3_copyWith at hp
  exact t_X3_copyWith_0 F hr hlocks hK (Nat.le_of_eq (Nat.zero_add _)) (Nat.le_of_eq (Nat.zero_add _)) hp hW wX.rf (lv_sub hl [0, 1, 2, 3] rfl) hL_a0 hK_a0
def wp_X11_addGame_43 (D : wD) (post : Int32 → wS → Prop) (xp : String → wS → Prop)  (bc bs : Nat) (S : wS) : Prop :=
1 ≤ bc ∧ 6 ≤ bs ∧
xp "java/lang/IllegalArgumentException" S
def wp_X11_addGame_0 (D : wD) (post : Int32 → wS → Prop) (xp : String → wS → Prop)  (bc bs : Nat) (S : wS) (a0 : Nat) (x1 : Int32) (x2 : Int32) (x3 : Int32) (x4 : Int32) : Prop :=
1 ≤ bc ∧ 6 ≤ bs ∧
wp_X11_shelfOf D (fun r_1 S_2 => 
((x2 < 0 → wp_X11_addGame_43 D post xp (bc - 1) (bs - 6) S_2) ∧
 (¬ x2 < 0 → (((2 : Int32) < x2 → wp_X11_addGame_43 D post xp (bc - 1) (bs - 6) S_2) ∧
 (¬ (2 : Int32) < x2 → ((x3 < (1800 : Int32) → wp_X11_addGame_43 D post xp (bc - 1) (bs - 6) S_2) ∧
 (¬ x3 < (1800 : Int32) → (((2100 : Int32) < x3 → wp_X11_addGame_43 D post xp (bc - 1) (bs - 6) S_2) ∧
 (¬ (2100 : Int32) < x3 → ((x4 < 0 → wp_X11_addGame_43 D post xp (bc - 1) (bs - 6) S_2) ∧
 (¬ x4 < 0 → ((x4 ≤ (3500 : Int32) → 1 ≤ (bc - 1) ∧ 6 ≤ (bs - 6) ∧
wp_X11_mustBeLawful D (fun S_11 => 
∃ y_13 : Nat, r_1 = some y_13 ∧ wM D S_11 y_13 ∧ sK S_11 y_13 = 15 ∧
wp_X10_size D (fun r_15 S_16 => 
((r_15 < (40 : Int32) → ∃ y_18 : Nat, sR S_16 a0 4 = some y_18 ∧ wM D S_16 y_18 ∧ sK S_16 y_18 = 8 ∧
∃ m_21 z_22 : Nat, m_21 ≤ ((bc - 1) - 1) ∧ z_22 ≤ ((bs - 6) - 6) ∧
wp_X3_copyWith D (fun r_19 S_20 => 
∃ y_23 : Nat, r_19 = some y_23 ∧ wM D S_20 y_23 ∧ sK S_20 y_23 = 8 ∧
∃ m_27 z_28 : Nat, m_27 ≤ (((bc - 1) - 1) - m_21) ∧ z_28 ≤ (((bs - 6) - 6) - z_22) ∧
wp_X10_add D (fun S_26 => 
wp_X10_size D (fun r_29 S_30 => 
post (r_29 - (1 : Int32)) S_30) S_26 y_13) m_27 z_28 S_20 y_13 y_23) m_21 z_22 S_16 y_18 x2 x3 x4) ∧
 (¬ r_15 < (40 : Int32) → 1 ≤ ((bc - 1) - 1) ∧ 6 ≤ ((bs - 6) - 6) ∧
xp "java/lang/IllegalStateException" S_16))) S_11 y_13) xp S_2 a0) ∧
 (¬ x4 ≤ (3500 : Int32) → wp_X11_addGame_43 D post xp (bc - 1) (bs - 6) S_2))))))))))))) xp S a0 x1
abbrev r_X11_addGame (rC rS : Nat) : Room := { frames := 8, cells := rC, slots := rS, locals := 213 }
def wp_X11_addGame (D : wD) (post : Int32 → wS → Prop) (xp : String → wS → Prop) (bc bs : Nat) (S : wS) (a0 : Nat) (x1 : Int32) (x2 : Int32) (x3 : Int32) (x4 : Int32) : Prop := wp_X11_addGame_0 D post xp bc bs S a0 x1 x2 x3 x4
set_option maxHeartbeats 4000000 in
set_option maxRecDepth 100000 in
theorem t_X11_addGame_43 {p : Program} {l : Launch} {e : Env} {s : State} {m : MethodId} {args : Array Value} {below : List Frame} {meth : Method} {c : Code} {D : wD} {cy : Nat → ClassId} {X : va_W} {A : Nat → Prop} {S0 : wS} {rC rS : Nat} {post : Int32 → wS → Prop} {xp : String → wS → Prop} (F : CallFix p m c cX11_addGame 6 s args wz_X11_addGame RX11) (hr : meth.sig.returnType = (some .int)) (hlocks : meth.locks = false) (hK : wK D cy A s) (hl0 : l.stackTraces = false) (hexc : ∀ x ∈ c.exceptionTable.toList, False) : ∀ {bc bs cells slots : Nat} (hbc : cells + bc ≤ rC) (hbs : slots + bs ≤ rS) {S : wS} {H : Heap} {locs : List Loc} {ls : Array Slot}, wp_X11_addGame_43 D post xp bc bs S → wO D cy X A s.heap S H locs → wX D S0 S → lv_has ls 6 [] → W p l e (r_X11_addGame rC rS) s m args below meth c H locs cells slots (vx_MQ below (va_Qi (fun r S9 => wX D S0 S9 ∧ post r S9) (wB D cy X A) A) (wEx D cy X A (fun E S9 => wX D S0 S9 ∧ xp E S9)) args s rC rS A) (F0 m 43 ls []) := by
  obtain ⟨hx, hb, hml, hown, hts⟩ := id F
  have hwg : ∀ w ∈ WG, w.before args s = true := fun w h => hts w (List.mem_cons_of_mem _ h)
  intro bc bs cells slots hbc hbs S H locs ls hp hW hE hl
  unfold wp_X11_addGame_43 at hp
  obtain ⟨hm1, hm2, hp⟩ := hp
  exact x_throwW (ls := ls) F hK hW hl0 (by decide) (hwg _ wc_RX11_140) (hwg _ wi_java_lang_IllegalArgumentException) (show ("OpeningsCabinet", 341, "the result, the year or the strength is out of range", 32) ∈ wStr by decide +kernel) (wa_RX11_144 hwg hK.2.1) wa_RX11_144_ok hl.1 hexc hlocks dX11_addGame_43 dX11_addGame_46 dX11_addGame_47 dX11_addGame_50 dX11_addGame_53 (Nat.le_of_ble_eq_true rfl) (Nat.le_of_ble_eq_true rfl) (by show _ ≤ rC; omega) (by show _ ≤ rS; omega) (by omega) (by omega) ⟨hE, hp⟩
set_option maxHeartbeats 4000000 in
set_option maxRecDepth 100000 in
theorem t_X11_addGame_0 {p : Program} {l : Launch} {e : Env} {s : State} {m : MethodId} {args : Array Value} {below : List Frame} {meth : Method} {c : Code} {D : wD} {cy : Nat → ClassId} {X : va_W} {A : Nat → Prop} {S0 : wS} {rC rS : Nat} {post : Int32 → wS → Prop} {xp : String → wS → Prop} (F : CallFix p m c cX11_addGame 6 s args wz_X11_addGame RX11) (hr : meth.sig.returnType = (some .int)) (hlocks : meth.locks = false) (hK : wK D cy A s) (hl0 : l.stackTraces = false) (hexc : ∀ x ∈ c.exceptionTable.toList, False) : ∀ {bc bs cells slots : Nat} (hbc : cells + bc ≤ rC) (hbs : slots + bs ≤ rS) {S : wS} {H : Heap} {locs : List Loc} {ls : Array Slot} {a0 : Nat} {x1 : Int32} {x2 : Int32} {x3 : Int32} {x4 : Int32}, wp_X11_addGame_0 D post xp bc bs S a0 x1 x2 x3 x4 → wO D cy X A s.heap S H locs → wX D S0 S → lv_has ls 6 [(0, .ref a0), (1, .int x1), (2, .int x2), (3, .int x3), (4, .int x4)] → wM D S a0 → sK S a0 = 16 → W p l e (r_X11_addGame rC rS) s m args below meth c H locs cells slots (vx_MQ below (va_Qi (fun r S9 => wX D S0 S9 ∧ post r S9) (wB D cy X A) A) (wEx D cy X A (fun E S9 => wX D S0 S9 ∧ xp E S9)) args s rC rS A) (F0 m 0 ls []) := by
  obtain ⟨hx, hb, hml, hown, hts⟩ := id F
  have hwg : ∀ w ∈ WG, w.before args s = true := fun w h => hts w (List.mem_cons_of_mem _ h)
  have i_16 : ∀ w ∈ u_ws RX11 TX11 18, w ∈ wz_X11_addGame := fun w h => List.mem_cons_of_mem _ (wu_16 w h)
  have k_40 := hwg _ wf_RX11_40
  intro bc bs cells slots hbc hbs S H locs ls a0 x1 x2 x3 x4 hp hW hE hl hL_a0 hK_a0
  unfold wp_X11_addGame_0 at hp
  refine lv_aload_n hx hb dX11_addGame_0 rfl (lv_at hl 0 rfl) ?_
  refine lv_iload_n hx hb dX11_addGame_1 rfl (lv_at hl 1 rfl) ?_
  obtain ⟨h_3, h_3z, hp⟩ := hp
  refine x_callR (vx_runV (As := [.int x1]) (rest := []) F (c_X11_shelfOf l hl0 hL_a0 hK_a0 hp H.size) (cwV (C := RX11) 1 hts (wg_V wm_RX11_337 wy_X11_shelfOf) rfl rfl rfl (by decide +kernel) ⟨Nat.le_of_ble_eq_true rfl, Nat.le_of_ble_eq_true rfl⟩) (w_preV hK hW hL_a0 hK_a0 (by decide) rfl) rfl rfl hl.1 rfl (lv_room (Nat.le_of_ble_eq_true rfl)) dX11_addGame_2 ⟨by show _ + 1 ≤ rC; omega, by show _ + 6 ≤ rS; omega⟩) hW (fun E ce q9 S9 H locs hp hW h1 h2 h3 => x_out hexc hlocks ⟨hE.trans hp.1, hp.2⟩ hW h1 h2 h3 (by show _ + 1 ≤ rC; omega) (by show _ + 6 ≤ rS; omega)) (fun r_1 S_2 H locs hp hW => ?_)
  obtain ⟨hX_S_2, hp⟩ := hp
  refine W.widen (k := _ + 1) (n := _ + 6) (Nat.le_refl _) (Nat.le_refl _) ?_
  replace hbc := w_spend hbc (show 1 ≤ bc by omega)
  replace hbs := w_spend hbs (show 6 ≤ bs by omega)
  have hE := hE.trans hX_S_2
  have hK_a0 : sK S_2 a0 = 16 := (hX_S_2.2 a0 hL_a0).1.trans hK_a0
  have hL_a0 : wM D S_2 a0 := hX_S_2.M hL_a0
  refine w_astore (lv' := [(5, va_rf r_1), (0, .ref a0), (1, .int x1), (2, .int x2), (3, .int x3), (4, .int x4)]) hx hb dX11_addGame_5 hl (by decide) rfl (fun ls hl => ?_)
  refine lv_iload_n hx hb dX11_addGame_7 rfl (lv_at hl 3 rfl) ?_
  refine lv_if_lt (tgt := 43) hx hb dX11_addGame_8 (by decide) (fun c_4 => ?_) (fun c_4 => ?_)
  · replace hp := hp.1 c_4
    exact t_X11_addGame_43 F hr hlocks hK hl0 hexc hbc hbs hp hW hE (lv_sub hl [] rfl)
  · replace hp := hp.2 c_4
    refine lv_iload_n hx hb dX11_addGame_11 rfl (lv_at hl 3 rfl) ?_
    refine lv_iconst (v := 2) hx hb dX11_addGame_12 (by decide) ?_
    refine lv_icmp_gt (tgt := 43) hx hb dX11_addGame_13 (by decide) (fun c_5 => ?_) (fun c_5 => ?_)
    · replace hp := hp.1 c_5
      exact t_X11_addGame_43 F hr hlocks hK hl0 hexc hbc hbs hp hW hE (lv_sub hl [] rfl)
    · replace hp := hp.2 c_5
      refine lv_iload_n hx hb dX11_addGame_16 rfl (lv_at hl 4 rfl) ?_
      refine lv_sipush (v := 1800) hx hb dX11_addGame_17 (by decide) ?_
      refine lv_icmp_lt (tgt := 43) hx hb dX11_addGame_20 (by decide) (fun c_6 => ?_) (fun c_6 => ?_)
      · replace hp := hp.1 c_6
        exact t_X11_addGame_43 F hr hlocks hK hl0 hexc hbc hbs hp hW hE (lv_sub hl [] rfl)
      · replace hp := hp.2 c_6
        refine lv_iload_n hx hb dX11_addGame_23 rfl (lv_at hl 4 rfl) ?_
        refine lv_sipush (v := 2100) hx hb dX11_addGame_24 (by decide) ?_
        refine lv_icmp_gt (tgt := 43) hx hb dX11_addGame_27 (by decide) (fun c_7 => ?_) (fun c_7 => ?_)
        · replace hp := hp.1 c_7
          exact t_X11_addGame_43 F hr hlocks hK hl0 hexc hbc hbs hp hW hE (lv_sub hl [] rfl)
        · replace hp := hp.2 c_7
          refine lv_iload hx hb dX11_addGame_30 (lv_at hl 5 rfl) ?_
          refine lv_if_lt (tgt := 43) hx hb dX11_addGame_32 (by decide) (fun c_8 => ?_) (fun c_8 => ?_)
          · replace hp := hp.1 c_8
            exact t_X11_addGame_43 F hr hlocks hK hl0 hexc hbc hbs hp hW hE (lv_sub hl [] rfl)
          · replace hp := hp.2 c_8
            refine lv_iload hx hb dX11_addGame_35 (lv_at hl 5 rfl) ?_
            refine lv_sipush (v := 3500) hx hb dX11_addGame_37 (by decide) ?_
            refine lv_icmp_le (tgt := 54) hx hb dX11_addGame_40 (by decide) (fun c_9 => ?_) (fun c_9 => ?_)
            · replace hp := hp.1 c_9
              refine lv_aload_n hx hb dX11_addGame_54 rfl (lv_at hl 1 rfl) ?_
              obtain ⟨h_12, h_12z, hp⟩ := hp
              refine x_callV (vx_runV (As := []) (rest := []) F (c_X11_mustBeLawful l hl0 hL_a0 hK_a0 hp H.size) (cwV (C := RX11) 0 hts (wg_V wm_RX11_217 wy_X11_mustBeLawful) rfl rfl rfl (by decide +kernel) ⟨Nat.le_of_ble_eq_true rfl, Nat.le_of_ble_eq_true rfl⟩) (w_preV hK hW hL_a0 hK_a0 (by decide) rfl) rfl rfl hl.1 rfl (lv_room (Nat.le_of_ble_eq_true rfl)) dX11_addGame_55 ⟨by show _ + 1 ≤ rC; omega, by show _ + 6 ≤ rS; omega⟩) hW (fun E ce q9 S9 H locs hp hW h1 h2 h3 => x_out hexc hlocks ⟨hE.trans hp.1, hp.2⟩ hW h1 h2 h3 (by show _ + 1 ≤ rC; omega) (by show _ + 6 ≤ rS; omega)) (fun S_11 H locs hp hW => ?_)
              obtain ⟨hX_S_11, hp⟩ := hp
              refine W.widen (k := _ + 1) (n := _ + 6) (Nat.le_refl _) (Nat.le_refl _) ?_
              replace hbc := w_spend hbc (show 1 ≤ (bc - 1) by omega)
              replace hbs := w_spend hbs (show 6 ≤ (bs - 6) by omega)
              have hE := hE.trans hX_S_11
              have hK_a0 : sK S_11 a0 = 16 := (hX_S_11.2 a0 hL_a0).1.trans hK_a0
              have hL_a0 : wM D S_11 a0 := hX_S_11.M hL_a0
              refine w_aload hx hb dX11_addGame_58 (lv_at hl 0 rfl) ?_
              obtain ⟨y_13, h_14, hL_y_13, hK_y_13, hp⟩ := hp
              revert hp; revert hl; revert hW; revert hE; subst h_14; intro hE hW hl hp
              refine w_callI (va_runV (As := []) (rest := []) F (c_X10_size l hL_y_13 hK_y_13 hp H.size) (cwV (C := RX10) 0 hts (wg_V wm_RX11_343 wy_X10_size) rfl rfl rfl (by decide +kernel) ⟨Nat.le_of_ble_eq_true rfl, Nat.le_of_ble_eq_true rfl⟩) (w_preV hK hW hL_y_13 hK_y_13 (by decide) rfl) rfl rfl hl.1 rfl (lv_room (Nat.le_of_ble_eq_true rfl)) dX11_addGame_60 ⟨by show _ ≤ rC; exact Nat.le_trans (Nat.le_add_right _ _) hbc, by show _ ≤ rS; exact Nat.le_trans (Nat.le_add_right _ _) hbs⟩) hW (fun r_15 S_16 H locs hp hW => ?_)
              obtain ⟨hX_S_16, hp⟩ := hp
              refine w_same ?_
              have hE := hE.trans hX_S_16
              have hK_a0 : sK S_16 a0 = 16 := (hX_S_16.2 a0 hL_a0).1.trans hK_a0
              have hL_a0 : wM D S_16 a0 := hX_S_16.M hL_a0
              have hK_y_13 : sK S_16 y_13 = 15 := (hX_S_16.2 y_13 hL_y_13).1.trans hK_y_13
              have hL_y_13 : wM D S_16 y_13 := hX_S_16.M hL_y_13
              refine lv_bipush (v := 40) hx hb dX11_addGame_63 (by decide) ?_
              refine lv_icmp_lt (tgt := 79) hx hb dX11_addGame_65 (by decide) (fun c_17 => ?_) (fun c_17 => ?_)
              · replace hp := hp.1 c_17
                refine lv_aload hx hb dX11_addGame_79 (lv_at hl 0 rfl) ?_
                refine lv_aload_n hx hb dX11_addGame_81 rfl (lv_at hl 1 rfl) ?_
                obtain ⟨y_18, ey_18, hL_y_18, hK_y_18, hp⟩ := hp
                refine w_get (k := 16) (f := 4) (T := TX11) (v := .ref y_18) F hK hW hL_a0 hK_a0 (by decide) rfl rfl (by decide) i_16 k_40 (by rw [show wv 16 4 S_16 a0 = va_rf (sR S_16 a0 4) from rfl, ey_18]; rfl) dX11_addGame_82 ?_
                refine lv_iload_n hx hb dX11_addGame_85 rfl (lv_at hl 3 rfl) ?_
                refine lv_iload_n hx hb dX11_addGame_86 rfl (lv_at hl 4 rfl) ?_
                refine lv_iload hx hb dX11_addGame_87 (lv_at hl 5 rfl) ?_
                obtain ⟨m_21, z_22, hm_21, hz_22, hp⟩ := hp
                refine w_callR (va_runV (As := [.int x2, .int x3, .int x4]) (rest := [.ref y_13]) F (c_X3_copyWith l hL_y_18 hK_y_18 hp H.size) (cwV (C := RX3) 3 hts (wg_V wm_RX11_347 wy_X3_copyWith) rfl rfl rfl (by decide +kernel) ⟨Nat.le_of_ble_eq_true rfl, Nat.le_of_ble_eq_true rfl⟩) (w_preV hK hW hL_y_18 hK_y_18 (by decide) rfl) rfl rfl hl.1 rfl (lv_room (Nat.le_of_ble_eq_true rfl)) dX11_addGame_89 ⟨by show _ + m_21 ≤ rC; omega, by show _ + z_22 ≤ rS; omega⟩) hW (fun r_19 S_20 H locs hp hW => ?_)
                obtain ⟨hX_S_20, hp⟩ := hp
                refine W.widen (k := _ + m_21) (n := _ + z_22) (Nat.le_refl _) (Nat.le_refl _) ?_
                replace hbc := w_spend hbc (show m_21 ≤ ((bc - 1) - 1) by omega)
                replace hbs := w_spend hbs (show z_22 ≤ ((bs - 6) - 6) by omega)
                have hE := hE.trans hX_S_20
                have hK_a0 : sK S_20 a0 = 16 := (hX_S_20.2 a0 hL_a0).1.trans hK_a0
                have hL_a0 : wM D S_20 a0 := hX_S_20.M hL_a0
                have hK_y_13 : sK S_20 y_13 = 15 := (hX_S_20.2 y_13 hL_y_13).1.trans hK_y_13
                have hL_y_13 : wM D S_20 y_13 := hX_S_20.M hL_y_13
                obtain ⟨y_23, h_24, hL_y_23, hK_y_23, hp⟩ := hp
                revert hp; revert hl; revert hW; revert hE; subst h_24; intro hE hW hl hp
                obtain ⟨m_27, z_28, hm_27, hz_28, hp⟩ := hp
                refine w_callV (va_runV (As := [.ref y_23]) (rest := []) F (c_X10_add l hL_y_13 hK_y_13 hL_y_23 hK_y_23 hp H.size) (cwV (C := RX10) 1 hts (wg_V wm_RX11_351 wy_X10_add) rfl rfl rfl (by decide +kernel) ⟨Nat.le_of_ble_eq_true rfl, Nat.le_of_ble_eq_true rfl⟩) (w_preV hK hW hL_y_13 hK_y_13 (by decide) rfl) rfl rfl hl.1 rfl (lv_room (Nat.le_of_ble_eq_true rfl)) dX11_addGame_92 ⟨by show _ + m_27 ≤ rC; omega, by show _ + z_28 ≤ rS; omega⟩) hW (fun S_26 H locs hp hW => ?_)
                obtain ⟨hX_S_26, hp⟩ := hp
                refine W.widen (k := _ + m_27) (n := _ + z_28) (Nat.le_refl _) (Nat.le_refl _) ?_
                replace hbc := w_spend hbc (show m_27 ≤ (((bc - 1) - 1) - m_21) by omega)
                replace hbs := w_spend hbs (show z_28 ≤ (((bs - 6) - 6) - z_22) by omega)
                have hE := hE.trans hX_S_26
                have hK_a0 : sK S_26 a0 = 16 := (hX_S_26.2 a0 hL_a0).1.trans hK_a0
                have hL_a0 : wM D S_26 a0 := hX_S_26.M hL_a0
                have hK_y_13 : sK S_26 y_13 = 15 := (hX_S_26.2 y_13 hL_y_13).1.trans hK_y_13
                have hL_y_13 : wM D S_26 y_13 := hX_S_26.M hL_y_13
                refine lv_aload hx hb dX11_addGame_95 (lv_at hl 0 rfl) ?_
                refine w_callI (va_runV (As := []) (rest := []) F (c_X10_size l hL_y_13 hK_y_13 hp H.size) (cwV (C := RX10) 0 hts (wg_V wm_RX11_343 wy_X10_size) rfl rfl rfl (by decide +kernel) ⟨Nat.le_of_ble_eq_true rfl, Nat.le_of_ble_eq_true rfl⟩) (w_preV hK hW hL_y_13 hK_y_13 (by decide) rfl) rfl rfl hl.1 rfl (lv_room (Nat.le_of_ble_eq_true rfl)) dX11_addGame_97 ⟨by show _ ≤ rC; exact Nat.le_trans (Nat.le_add_right _ _) hbc, by show _ ≤ rS; exact Nat.le_trans (Nat.le_add_right _ _) hbs⟩) hW (fun r_29 S_30 H locs hp hW => ?_)
                obtain ⟨hX_S_30, hp⟩ := hp
                refine w_same ?_
                have hE := hE.trans hX_S_30
                have hK_a0 : sK S_30 a0 = 16 := (hX_S_30.2 a0 hL_a0).1.trans hK_a0
                have hL_a0 : wM D S_30 a0 := hX_S_30.M hL_a0
                have hK_y_13 : sK S_30 y_13 = 15 := (hX_S_30.2 y_13 hL_y_13).1.trans hK_y_13
                have hL_y_13 : wM D S_30 y_13 := hX_S_30.M hL_y_13
                refine lv_iconst (v := 1) hx hb dX11_addGame_100 (by decide) ?_
                refine lv_isub hx hb dX11_addGame_101 ?_
                refine W.widen (k := rC) (n := rS) (Nat.le_trans (Nat.le_add_right _ _) hbc) (Nat.le_trans (Nat.le_add_right _ _) hbs) ?_
                refine vx_ret ?_
                exact w_iret hx hb hr hlocks hW ⟨hE, hp⟩ dX11_addGame_102
              · replace hp := hp.2 c_17
                obtain ⟨hm1, hm2, hp⟩ := hp
                exact x_throwW (ls := ls) F hK hW hl0 (by decide) (hwg _ wc_RX11_285) (hwg _ wi_java_lang_IllegalStateException) (show ("OpeningsCabinet", 345, "the shelf has 40 games", 33) ∈ wStr by decide +kernel) (wa_RX11_289 hwg hK.2.1) wa_RX11_289_ok hl.1 hexc hlocks dX11_addGame_68 dX11_addGame_71 dX11_addGame_72 dX11_addGame_75 dX11_addGame_78 (Nat.le_of_ble_eq_true rfl) (Nat.le_of_ble_eq_true rfl) (by show _ ≤ rC; omega) (by show _ ≤ rS; omega) (by omega) (by omega) ⟨hE, hp⟩
            · replace hp := hp.2 c_9
              exact t_X11_addGame_43 F hr hlocks hK hl0 hexc hbc hbs hp hW hE (lv_sub hl [] rfl)
set_option maxHeartbeats 4000000 in
set_option maxRecDepth 100000 in
theorem c_X11_addGame (l : Launch) {rC rS : Nat} {D : wD} {cy : Nat → ClassId} {X : va_W} {S0 : wS} {post : Int32 → wS → Prop} {xp : String → wS → Prop} (hl0 : l.stackTraces = false) {a0 : Nat} {x1 : Int32} {x2 : Int32} {x3 : Int32} {x4 : Int32} (hL_a0 : wM D S0 a0) (hK_a0 : sK S0 a0 = 16) (hp : wp_X11_addGame D post xp rC rS S0 a0 x1 x2 x3 x4) : xI D cy X l yX11_addGame wz_X11_addGame (r_X11_addGame rC rS) [.ref a0, .int x1, .int x2, .int x3, .int x4] S0 (fun r S9 => wX D S0 S9 ∧ post r S9) (fun E S9 => wX D S0 S9 ∧ xp E S9) := by
  intro sz
  refine vx_ofW (cc := cX11_addGame) (maxL := 6) (ret := (some .int)) (by decide) rfl ?_
  intro p e s m args below meth c s₁ B hml hexc hv
  obtain ⟨rfl, hsz, hP, hK, hD0, hRO⟩ := hv
  have hts := atoms_spec (ws := wz_X11_addGame) B.pre
  have hown : s.vm.findClass RX11 = some m.cls := findClass_of_methodNamed B.named
  subst hsz
  have hD := hD0.self (sz := s.heap.size)
  have F : CallFix p m c cX11_addGame 6 s _ wz_X11_addGame RX11 := ⟨B.exec, B.bytes, hml, hown, hts⟩
  have hr := B.returns
  have hlocks := B.notSynchronized
  generalize hAe : va_A (wL cy X S0) s.heap.size = A at hD hK ⊢
  have hA : ∀ q, s.heap.size ≤ q → A q := fun q h => by rw [← hAe]; exact Or.inr h
  have hW : wO D cy X A s.heap S0 s.heap [] := ⟨hP, hD, va_S.rf, hA, hRO⟩
  have hl := lv_entry ([.ref a0, .int x1, .int x2, .int x3, .int x4]) (n := 6) (Nat.le_of_ble_eq_true rfl)
  rw [lg_entry_eq]
  generalize (lg_sl ([.ref a0, .int x1, .int x2, .int x3, .int x4]) ++ List.replicate (6 - (lg_sl ([.ref a0, .int x1, .int x2, .int x3, .int x4])).length) Slot.unset).toArray = ls at hl ⊢
  have hl : lv_has ls 6 [(0, .ref a0), (1, .int x1), (2, .int x2), (3, .int x3), (4, .int x4)] := hl
  unfold wp_X11_addGame at hp
  exact t_X11_addGame_0 F hr hlocks hK hl0 hexc (Nat.le_of_eq (Nat.zero_add _)) (Nat.le_of_eq (Nat.zero_add _)) hp hW wX.rf (lv_sub hl [0, 1, 2, 3, 4] rfl) hL_a0 hK_a0
def wp_X11_numberAsked_0 (D : wD) (post : Int32 → wS → Prop) (xp : String → wS → Prop)  (S : wS) (a0 : Nat) : Prop :=
∃ y_1 : Nat, sR S a0 8 = some y_1 ∧ wM D S y_1 ∧ sK S y_1 = 15 ∧
wp_X10_numberDue D (fun r_2 S_3 => 
((¬ r_2 = (-1 : Int32) → post r_2 S_3) ∧
 (r_2 = (-1 : Int32) → xp "java/util/NoSuchElementException" S_3))) S y_1
abbrev r_X11_numberAsked : Room := { frames := 6, cells := 1, slots := 6, locals := 120 }
def wp_X11_numberAsked (D : wD) (post : Int32 → wS → Prop) (xp : String → wS → Prop) (S : wS) (a0 : Nat) : Prop := wp_X11_numberAsked_0 D post xp S a0
set_option maxHeartbeats 4000000 in
set_option maxRecDepth 100000 in
theorem t_X11_numberAsked_0 {p : Program} {l : Launch} {e : Env} {s : State} {m : MethodId} {args : Array Value} {below : List Frame} {meth : Method} {c : Code} {D : wD} {cy : Nat → ClassId} {X : va_W} {A : Nat → Prop} {S0 : wS} {post : Int32 → wS → Prop} {xp : String → wS → Prop} (F : CallFix p m c cX11_numberAsked 2 s args wz_X11_numberAsked RX11) (hr : meth.sig.returnType = (some .int)) (hlocks : meth.locks = false) (hK : wK D cy A s) (hl0 : l.stackTraces = false) (hexc : ∀ x ∈ c.exceptionTable.toList, False) : ∀ {S : wS} {H : Heap} {locs : List Loc} {ls : Array Slot} {a0 : Nat}, wp_X11_numberAsked_0 D post xp S a0 → wO D cy X A s.heap S H locs → wX D S0 S → lv_has ls 2 [(0, .ref a0)] → wM D S a0 → sK S a0 = 16 → W p l e r_X11_numberAsked s m args below meth c H locs 0 0 (vx_MQ below (va_Qi (fun r S9 => wX D S0 S9 ∧ post r S9) (wB D cy X A) A) (wEx D cy X A (fun E S9 => wX D S0 S9 ∧ xp E S9)) args s 1 6 A) (F0 m 0 ls []) := by
  obtain ⟨hx, hb, hml, hown, hts⟩ := id F
  have hwg : ∀ w ∈ WG, w.before args s = true := fun w h => hts w (List.mem_cons_of_mem _ h)
  have i_16 : ∀ w ∈ u_ws RX11 TX11 18, w ∈ wz_X11_numberAsked := fun w h => List.mem_cons_of_mem _ (wu_16 w h)
  have k_72 := hwg _ wf_RX11_72
  intro S H locs ls a0 hp hW hE hl hL_a0 hK_a0
  unfold wp_X11_numberAsked_0 at hp
  refine lv_aload_n hx hb dX11_numberAsked_0 rfl (lv_at hl 0 rfl) ?_
  obtain ⟨y_1, ey_1, hL_y_1, hK_y_1, hp⟩ := hp
  refine w_get (k := 16) (f := 8) (T := TX11) (v := .ref y_1) F hK hW hL_a0 hK_a0 (by decide) rfl rfl (by decide) i_16 k_72 (by rw [show wv 16 8 S a0 = va_rf (sR S a0 8) from rfl, ey_1]; rfl) dX11_numberAsked_1 ?_
  refine w_callI (va_runV (As := []) (rest := []) F (c_X10_numberDue l hL_y_1 hK_y_1 hp H.size) (cwV (C := RX10) 0 hts (wg_V wm_RX11_516 wy_X10_numberDue) rfl rfl rfl (by decide +kernel) ⟨Nat.le_of_ble_eq_true rfl, Nat.le_of_ble_eq_true rfl⟩) (w_preV hK hW hL_y_1 hK_y_1 (by decide) rfl) rfl rfl hl.1 rfl (lv_room (Nat.le_of_ble_eq_true rfl)) dX11_numberAsked_4 ⟨Nat.le_of_ble_eq_true rfl, Nat.le_of_ble_eq_true rfl⟩) hW (fun r_2 S_3 H locs hp hW => ?_)
  obtain ⟨hX_S_3, hp⟩ := hp
  refine W.widen (k := 0) (n := 0) (by decide) (by decide) ?_
  have hE := hE.trans hX_S_3
  have hK_a0 : sK S_3 a0 = 16 := (hX_S_3.2 a0 hL_a0).1.trans hK_a0
  have hL_a0 : wM D S_3 a0 := hX_S_3.M hL_a0
  refine lv_istore_n (lv' := [(1, .int r_2), (0, .ref a0)]) hx hb dX11_numberAsked_7 rfl hl (by decide) rfl (fun ls hl => ?_)
  refine lv_iload_n hx hb dX11_numberAsked_8 rfl (lv_at hl 0 rfl) ?_
  refine lv_iconst (v := (-1)) hx hb dX11_numberAsked_9 (by decide) ?_
  refine lv_icmp_ne (tgt := 24) hx hb dX11_numberAsked_10 (by decide) (fun c_4 => ?_) (fun c_4 => ?_)
  · replace hp := hp.1 c_4
    refine lv_iload_n hx hb dX11_numberAsked_24 rfl (lv_at hl 0 rfl) ?_
    refine W.widen (k := 1) (n := 6) (by decide) (by decide) ?_
    refine vx_ret ?_
    exact w_iret hx hb hr hlocks hW ⟨hE, hp⟩ dX11_numberAsked_25
  · replace hp := hp.2 c_4
    exact x_throwNW (ls := ls) F hK hW hl0 (hwg _ wc_RX11_372) (hwg _ wi_java_util_NoSuchElementException) (show ("OpeningsCabinet", 519, "the shelf 0 is empty", 46) ∈ wStr by decide +kernel) (wan_RX11_376 hwg hK.2.1) wan_RX11_376_ok hl.1 hexc hlocks dX11_numberAsked_13 dX11_numberAsked_16 dX11_numberAsked_17 dX11_numberAsked_20 dX11_numberAsked_23 (Nat.le_of_ble_eq_true rfl) (Nat.le_of_ble_eq_true rfl) (Nat.le_of_ble_eq_true rfl) (Nat.le_of_ble_eq_true rfl) (by decide) (by decide) ⟨hE, hp⟩
set_option maxHeartbeats 4000000 in
set_option maxRecDepth 100000 in
theorem c_X11_numberAsked (l : Launch) {D : wD} {cy : Nat → ClassId} {X : va_W} {S0 : wS} {post : Int32 → wS → Prop} {xp : String → wS → Prop} (hl0 : l.stackTraces = false) {a0 : Nat} (hL_a0 : wM D S0 a0) (hK_a0 : sK S0 a0 = 16) (hp : wp_X11_numberAsked D post xp S0 a0) : xI D cy X l yX11_numberAsked wz_X11_numberAsked r_X11_numberAsked [.ref a0] S0 (fun r S9 => wX D S0 S9 ∧ post r S9) (fun E S9 => wX D S0 S9 ∧ xp E S9) := by
  intro sz
  refine vx_ofW (cc := cX11_numberAsked) (maxL := 2) (ret := (some .int)) (by decide) rfl ?_
  intro p e s m args below meth c s₁ B hml hexc hv
  obtain ⟨rfl, hsz, hP, hK, hD0, hRO⟩ := hv
  have hts := atoms_spec (ws := wz_X11_numberAsked) B.pre
  have hown : s.vm.findClass RX11 = some m.cls := findClass_of_methodNamed B.named
  subst hsz
  have hD := hD0.self (sz := s.heap.size)
  have F : CallFix p m c cX11_numberAsked 2 s _ wz_X11_numberAsked RX11 := ⟨B.exec, B.bytes, hml, hown, hts⟩
  have hr := B.returns
  have hlocks := B.notSynchronized
  generalize hAe : va_A (wL cy X S0) s.heap.size = A at hD hK ⊢
  have hA : ∀ q, s.heap.size ≤ q → A q := fun q h => by rw [← hAe]; exact Or.inr h
  have hW : wO D cy X A s.heap S0 s.heap [] := ⟨hP, hD, va_S.rf, hA, hRO⟩
  have hl := lv_entry ([.ref a0]) (n := 2) (Nat.le_of_ble_eq_true rfl)
  rw [lg_entry_eq]
  generalize (lg_sl ([.ref a0]) ++ List.replicate (2 - (lg_sl ([.ref a0])).length) Slot.unset).toArray = ls at hl ⊢
  have hl : lv_has ls 2 [(0, .ref a0)] := hl
  unfold wp_X11_numberAsked at hp
  exact t_X11_numberAsked_0 F hr hlocks hK hl0 hexc hp hW wX.rf (lv_sub hl [0] rfl) hL_a0 hK_a0
def wp_X11_answer_47 (D : wD) (post : Int32 → wS → Prop) (xp : String → wS → Prop)  (S : wS) (a0 : Nat) (a2 : Nat) (b0 : Nat) (t1 : Int32) : Prop :=
∀ S_1 : wS, S_1 = uI S b0 7 t1 →
∀ S_2 : wS, S_2 = uI S_1 a2 8 ((sI S_1 a0 17) + ((1 : Int32) <<< ((sI S_1 a2 7) &&& 31))) →
post (sI S_2 a2 7) S_2
def wp_X11_answer_0 (D : wD) (post : Int32 → wS → Prop) (xp : String → wS → Prop)  (S : wS) (a0 : Nat) (x1 : Int32) : Prop :=
∃ y_1 : Nat, sR S a0 8 = some y_1 ∧ wM D S y_1 ∧ sK S y_1 = 15 ∧
wp_X11_numberAsked D (fun r_2 S_3 => 
wp_X10_gameAt D (fun r_4 S_5 => 
((r_4 = none → post (0 : Int32) S_5) ∧
 (∀ y_6 : Nat, r_4 = some y_6 → wM D S_5 y_6 ∧ sK S_5 y_6 = 8 ∧ ∀ S_8 : wS, S_8 = uI S_5 a0 17 ((sI S_5 a0 17) + (1 : Int32)) →
((x1 = 0 → wp_X11_answer_47 D post xp S_8 a0 y_6 y_6 (0 : Int32)) ∧
 (¬ x1 = 0 → wp_X11_answer_47 D post xp S_8 a0 y_6 y_6 (if (4 : Int32) < ((sI S_8 y_6 7) + (1 : Int32)) then (4 : Int32) else ((sI S_8 y_6 7) + (1 : Int32)))))))) S_3 y_1 r_2) xp S a0
abbrev r_X11_answer : Room := { frames := 7, cells := 1, slots := 6, locals := 141 }
def wp_X11_answer (D : wD) (post : Int32 → wS → Prop) (xp : String → wS → Prop) (S : wS) (a0 : Nat) (x1 : Int32) : Prop := wp_X11_answer_0 D post xp S a0 x1
set_option maxHeartbeats 4000000 in
set_option maxRecDepth 100000 in
theorem t_X11_answer_47 {p : Program} {l : Launch} {e : Env} {s : State} {m : MethodId} {args : Array Value} {below : List Frame} {meth : Method} {c : Code} {D : wD} {cy : Nat → ClassId} {X : va_W} {A : Nat → Prop} {S0 : wS} {post : Int32 → wS → Prop} {xp : String → wS → Prop} (F : CallFix p m c cX11_answer 3 s args wz_X11_answer RX11) (hr : meth.sig.returnType = (some .int)) (hlocks : meth.locks = false) (hK : wK D cy A s) (hl0 : l.stackTraces = false) (hexc : ∀ x ∈ c.exceptionTable.toList, False) : ∀ {S : wS} {H : Heap} {locs : List Loc} {ls : Array Slot} {a0 : Nat} {a2 : Nat} {b0 : Nat} {t1 : Int32}, wp_X11_answer_47 D post xp S a0 a2 b0 t1 → wO D cy X A s.heap S H locs → wX D S0 S → lv_has ls 3 [(0, .ref a0), (2, .ref a2)] → wM D S a0 → sK S a0 = 16 → wM D S a2 → sK S a2 = 8 → wM D S b0 → sK S b0 = 8 → W p l e r_X11_answer s m args below meth c H locs 1 6 (vx_MQ below (va_Qi (fun r S9 => wX D S0 S9 ∧ post r S9) (wB D cy X A) A) (wEx D cy X A (fun E S9 => wX D S0 S9 ∧ xp E S9)) args s 1 6 A) (F0 m 47 ls [.int t1, .ref b0]) := by
  obtain ⟨hx, hb, hml, hown, hts⟩ := id F
  have hwg : ∀ w ∈ WG, w.before args s = true := fun w h => hts w (List.mem_cons_of_mem _ h)
  have i_16 : ∀ w ∈ u_ws RX11 TX11 18, w ∈ wz_X11_answer := fun w h => List.mem_cons_of_mem _ (wu_16 w h)
  have i_8 : ∀ w ∈ u_ws RX3 TX3 9, w ∈ wz_X11_answer := fun w h => List.mem_cons_of_mem _ (wu_8 w h)
  have k_120 := hwg _ wf_RX11_120
  intro S H locs ls a0 a2 b0 t1 hp hW hE hl hL_a0 hK_a0 hL_a2 hK_a2 hL_b0 hK_b0
  unfold wp_X11_answer_47 at hp
  refine w_putIN (k := 8) (f := 7) (T := TX3) F hK hW hL_b0 hK_b0 (by decide) (by decide) rfl rfl (by decide) i_8 tyX3 tyX3_ok nmX3 (hK.2.1 (.fieldLinkNest "OpeningsCabinet" 416 "OpeningsCabinet$Game" "box" "I" "OpeningsCabinet") (by decide +kernel)) rfl rfl (ty := .int) rfl rfl rfl dX11_answer_47 (fun H locs hW => ?_)
  obtain ⟨S_1, eS_1⟩ : ∃ z : wS, z = uI S b0 7 t1 := ⟨_, rfl⟩
  rw [← eS_1] at hW
  replace hp := hp S_1 eS_1
  have hX_S_1 : wX D S S_1 := by rw [eS_1]; exact wX_uI
  have hE := hE.trans hX_S_1
  have hK_a0 : sK S_1 a0 = 16 := (hX_S_1.2 a0 hL_a0).1.trans hK_a0
  have hL_a0 : wM D S_1 a0 := hX_S_1.M hL_a0
  have hK_a2 : sK S_1 a2 = 8 := (hX_S_1.2 a2 hL_a2).1.trans hK_a2
  have hL_a2 : wM D S_1 a2 := hX_S_1.M hL_a2
  refine lv_aload_n hx hb dX11_answer_50 rfl (lv_at hl 1 rfl) ?_
  refine lv_aload_n hx hb dX11_answer_51 rfl (lv_at hl 0 rfl) ?_
  refine w_get (k := 16) (f := 17) (T := TX11) (v := .int (sI S_1 a0 17)) F hK hW hL_a0 hK_a0 (by decide) rfl rfl (by decide) i_16 k_120 rfl dX11_answer_52 ?_
  refine lv_iconst (v := 1) hx hb dX11_answer_55 (by decide) ?_
  refine lv_aload_n hx hb dX11_answer_56 rfl (lv_at hl 1 rfl) ?_
  refine w_getN (k := 8) (f := 7) (T := TX3) (v := .int (sI S_1 a2 7)) F hK hW hL_a2 hK_a2 (by decide) rfl rfl (by decide) i_8 (hK.2.1 (.fieldLinkNest "OpeningsCabinet" 416 "OpeningsCabinet$Game" "box" "I" "OpeningsCabinet") (by decide +kernel)) rfl dX11_answer_57 ?_
  refine lv_ishl hx hb dX11_answer_60 ?_
  refine lv_iadd hx hb dX11_answer_61 ?_
  refine w_putIN (k := 8) (f := 8) (T := TX3) F hK hW hL_a2 hK_a2 (by decide) (by decide) rfl rfl (by decide) i_8 tyX3 tyX3_ok nmX3 (hK.2.1 (.fieldLinkNest "OpeningsCabinet" 419 "OpeningsCabinet$Game" "due" "I" "OpeningsCabinet") (by decide +kernel)) rfl rfl (ty := .int) rfl rfl rfl dX11_answer_62 (fun H locs hW => ?_)
  obtain ⟨S_2, eS_2⟩ : ∃ z : wS, z = uI S_1 a2 8 ((sI S_1 a0 17) + ((1 : Int32) <<< ((sI S_1 a2 7) &&& 31))) := ⟨_, rfl⟩
  rw [← eS_2] at hW
  replace hp := hp S_2 eS_2
  have hX_S_2 : wX D S_1 S_2 := by rw [eS_2]; exact wX_uI
  have hE := hE.trans hX_S_2
  have hK_a0 : sK S_2 a0 = 16 := (hX_S_2.2 a0 hL_a0).1.trans hK_a0
  have hL_a0 : wM D S_2 a0 := hX_S_2.M hL_a0
  have hK_a2 : sK S_2 a2 = 8 := (hX_S_2.2 a2 hL_a2).1.trans hK_a2
  have hL_a2 : wM D S_2 a2 := hX_S_2.M hL_a2
  refine lv_aload_n hx hb dX11_answer_65 rfl (lv_at hl 1 rfl) ?_
  refine w_getN (k := 8) (f := 7) (T := TX3) (v := .int (sI S_2 a2 7)) F hK hW hL_a2 hK_a2 (by decide) rfl rfl (by decide) i_8 (hK.2.1 (.fieldLinkNest "OpeningsCabinet" 416 "OpeningsCabinet$Game" "box" "I" "OpeningsCabinet") (by decide +kernel)) rfl dX11_answer_66 ?_
  refine vx_ret ?_
  exact w_iret hx hb hr hlocks hW ⟨hE, hp⟩ dX11_answer_69
set_option maxHeartbeats 4000000 in
set_option maxRecDepth 100000 in
theorem t_X11_answer_0 {p : Program} {l : Launch} {e : Env} {s : State} {m : MethodId} {args : Array Value} {below : List Frame} {meth : Method} {c : Code} {D : wD} {cy : Nat → ClassId} {X : va_W} {A : Nat → Prop} {S0 : wS} {post : Int32 → wS → Prop} {xp : String → wS → Prop} (F : CallFix p m c cX11_answer 3 s args wz_X11_answer RX11) (hr : meth.sig.returnType = (some .int)) (hlocks : meth.locks = false) (hK : wK D cy A s) (hl0 : l.stackTraces = false) (hexc : ∀ x ∈ c.exceptionTable.toList, False) : ∀ {S : wS} {H : Heap} {locs : List Loc} {ls : Array Slot} {a0 : Nat} {x1 : Int32}, wp_X11_answer_0 D post xp S a0 x1 → wO D cy X A s.heap S H locs → wX D S0 S → lv_has ls 3 [(0, .ref a0), (1, .int x1)] → wM D S a0 → sK S a0 = 16 → W p l e r_X11_answer s m args below meth c H locs 0 0 (vx_MQ below (va_Qi (fun r S9 => wX D S0 S9 ∧ post r S9) (wB D cy X A) A) (wEx D cy X A (fun E S9 => wX D S0 S9 ∧ xp E S9)) args s 1 6 A) (F0 m 0 ls []) := by
  obtain ⟨hx, hb, hml, hown, hts⟩ := id F
  have hwg : ∀ w ∈ WG, w.before args s = true := fun w h => hts w (List.mem_cons_of_mem _ h)
  have i_16 : ∀ w ∈ u_ws RX11 TX11 18, w ∈ wz_X11_answer := fun w h => List.mem_cons_of_mem _ (wu_16 w h)
  have i_8 : ∀ w ∈ u_ws RX3 TX3 9, w ∈ wz_X11_answer := fun w h => List.mem_cons_of_mem _ (wu_8 w h)
  have k_120 := hwg _ wf_RX11_120
  have k_72 := hwg _ wf_RX11_72
  intro S H locs ls a0 x1 hp hW hE hl hL_a0 hK_a0
  unfold wp_X11_answer_0 at hp
  refine lv_aload_n hx hb dX11_answer_0 rfl (lv_at hl 0 rfl) ?_
  obtain ⟨y_1, ey_1, hL_y_1, hK_y_1, hp⟩ := hp
  refine w_get (k := 16) (f := 8) (T := TX11) (v := .ref y_1) F hK hW hL_a0 hK_a0 (by decide) rfl rfl (by decide) i_16 k_72 (by rw [show wv 16 8 S a0 = va_rf (sR S a0 8) from rfl, ey_1]; rfl) dX11_answer_1 ?_
  refine lv_aload_n hx hb dX11_answer_4 rfl (lv_at hl 0 rfl) ?_
  refine x_callI (vx_runV (As := []) (rest := [.ref y_1]) F (c_X11_numberAsked l hl0 hL_a0 hK_a0 hp H.size) (cwV (C := RX11) 0 hts (wg_V wm_RX11_474 wy_X11_numberAsked) rfl rfl rfl (by decide +kernel) ⟨Nat.le_of_ble_eq_true rfl, Nat.le_of_ble_eq_true rfl⟩) (w_preV hK hW hL_a0 hK_a0 (by decide) rfl) rfl rfl hl.1 rfl (lv_room (Nat.le_of_ble_eq_true rfl)) dX11_answer_5 ⟨Nat.le_of_ble_eq_true rfl, Nat.le_of_ble_eq_true rfl⟩) hW (fun E ce q9 S9 H locs hp hW h1 h2 h3 => x_out hexc hlocks ⟨hE.trans hp.1, hp.2⟩ hW h1 h2 h3 (by decide) (by decide)) (fun r_2 S_3 H locs hp hW => ?_)
  obtain ⟨hX_S_3, hp⟩ := hp
  refine W.widen (k := 1) (n := 6) (by decide) (by decide) ?_
  have hE := hE.trans hX_S_3
  have hK_a0 : sK S_3 a0 = 16 := (hX_S_3.2 a0 hL_a0).1.trans hK_a0
  have hL_a0 : wM D S_3 a0 := hX_S_3.M hL_a0
  have hK_y_1 : sK S_3 y_1 = 15 := (hX_S_3.2 y_1 hL_y_1).1.trans hK_y_1
  have hL_y_1 : wM D S_3 y_1 := hX_S_3.M hL_y_1
  refine w_callR (va_runV (As := [.int r_2]) (rest := []) F (c_X10_gameAt l hL_y_1 hK_y_1 hp H.size) (cwV (C := RX10) 1 hts (wg_V wm_RX11_408 wy_X10_gameAt) rfl rfl rfl (by decide +kernel) ⟨Nat.le_of_ble_eq_true rfl, Nat.le_of_ble_eq_true rfl⟩) (w_preV hK hW hL_y_1 hK_y_1 (by decide) rfl) rfl rfl hl.1 rfl (lv_room (Nat.le_of_ble_eq_true rfl)) dX11_answer_8 ⟨Nat.le_of_ble_eq_true rfl, Nat.le_of_ble_eq_true rfl⟩) hW (fun r_4 S_5 H locs hp hW => ?_)
  obtain ⟨hX_S_5, hp⟩ := hp
  refine W.widen (k := 1) (n := 6) (by decide) (by decide) ?_
  have hE := hE.trans hX_S_5
  have hK_a0 : sK S_5 a0 = 16 := (hX_S_5.2 a0 hL_a0).1.trans hK_a0
  have hL_a0 : wM D S_5 a0 := hX_S_5.M hL_a0
  refine w_astore_n (lv' := [(2, va_rf r_4), (0, .ref a0), (1, .int x1)]) hx hb dX11_answer_11 rfl hl (by decide) rfl (fun ls hl => ?_)
  refine w_aload_n hx hb dX11_answer_12 rfl (lv_at hl 0 rfl) ?_
  refine w_ifnonnull (tgt := 18) hx hb dX11_answer_13 (by decide) (fun h_7 => ?_) (fun y_6 h_7 => ?_)
  · replace hp := hp.1 h_7
    revert hp; revert hl; revert hW; revert hE; subst h_7; intro hE hW hl hp
    refine lv_iconst (v := 0) hx hb dX11_answer_16 (by decide) ?_
    refine vx_ret ?_
    exact w_iret hx hb hr hlocks hW ⟨hE, hp⟩ dX11_answer_17
  · replace hp := hp.2 y_6 h_7
    revert hp; revert hl; revert hW; revert hE; subst h_7; intro hE hW hl hp
    obtain ⟨hL_y_6, hK_y_6, hp⟩ := hp
    refine lv_aload_n hx hb dX11_answer_18 rfl (lv_at hl 1 rfl) ?_
    refine lv_dup hx hb dX11_answer_19 rfl ?_
    refine w_get (k := 16) (f := 17) (T := TX11) (v := .int (sI S_5 a0 17)) F hK hW hL_a0 hK_a0 (by decide) rfl rfl (by decide) i_16 k_120 rfl dX11_answer_20 ?_
    refine lv_iconst (v := 1) hx hb dX11_answer_23 (by decide) ?_
    refine lv_iadd hx hb dX11_answer_24 ?_
    refine w_putI (k := 16) (f := 17) (T := TX11) F hK hW hL_a0 hK_a0 (by decide) (by decide) rfl rfl (by decide) i_16 tyX11 tyX11_ok nmX11 k_120 rfl rfl (ty := .int) rfl rfl rfl dX11_answer_25 (fun H locs hW => ?_)
    obtain ⟨S_8, eS_8⟩ : ∃ z : wS, z = uI S_5 a0 17 ((sI S_5 a0 17) + (1 : Int32)) := ⟨_, rfl⟩
    rw [← eS_8] at hW
    replace hp := hp S_8 eS_8
    have hX_S_8 : wX D S_5 S_8 := by rw [eS_8]; exact wX_uI
    have hE := hE.trans hX_S_8
    have hK_a0 : sK S_8 a0 = 16 := (hX_S_8.2 a0 hL_a0).1.trans hK_a0
    have hL_a0 : wM D S_8 a0 := hX_S_8.M hL_a0
    have hK_y_6 : sK S_8 y_6 = 8 := (hX_S_8.2 y_6 hL_y_6).1.trans hK_y_6
    have hL_y_6 : wM D S_8 y_6 := hX_S_8.M hL_y_6
    refine lv_aload_n hx hb dX11_answer_28 rfl (lv_at hl 0 rfl) ?_
    refine lv_iload_n hx hb dX11_answer_29 rfl (lv_at hl 2 rfl) ?_
    refine lv_if_eq (tgt := 46) hx hb dX11_answer_30 (by decide) (fun c_9 => ?_) (fun c_9 => ?_)
    · replace hp := hp.1 c_9
      refine lv_iconst (v := 0) hx hb dX11_answer_46 (by decide) ?_
      exact t_X11_answer_47 F hr hlocks hK hl0 hexc hp hW hE (lv_sub hl [1, 0] rfl) hL_a0 hK_a0 hL_y_6 hK_y_6 hL_y_6 hK_y_6
    · replace hp := hp.2 c_9
      refine lv_aload_n hx hb dX11_answer_33 rfl (lv_at hl 0 rfl) ?_
      refine w_getN (k := 8) (f := 7) (T := TX3) (v := .int (sI S_8 y_6 7)) F hK hW hL_y_6 hK_y_6 (by decide) rfl rfl (by decide) i_8 (hK.2.1 (.fieldLinkNest "OpeningsCabinet" 416 "OpeningsCabinet$Game" "box" "I" "OpeningsCabinet") (by decide +kernel)) rfl dX11_answer_34 ?_
      refine lv_iconst (v := 1) hx hb dX11_answer_37 (by decide) ?_
      refine lv_iadd hx hb dX11_answer_38 ?_
      refine lv_iconst (v := 4) hx hb dX11_answer_39 (by decide) ?_
      refine va_mmin hx hb (hml.trans hl.1.symm) hown (hwg _ wm_RX11_477) (hwg _ wmm_min.1) (hwg _ wmm_min.2.1) (hwg _ wmm_min.2.2) (Nat.le_of_ble_eq_true rfl) (Nat.le_of_ble_eq_true rfl) (Nat.le_of_ble_eq_true rfl) (Nat.le_of_ble_eq_true rfl) dX11_answer_40 ?_
      refine lv_goto (tgt := 47) hx hb dX11_answer_43 (by decide) ?_
      exact t_X11_answer_47 F hr hlocks hK hl0 hexc hp hW hE (lv_sub hl [1, 0] rfl) hL_a0 hK_a0 hL_y_6 hK_y_6 hL_y_6 hK_y_6
set_option maxHeartbeats 4000000 in
set_option maxRecDepth 100000 in
theorem c_X11_answer (l : Launch) {D : wD} {cy : Nat → ClassId} {X : va_W} {S0 : wS} {post : Int32 → wS → Prop} {xp : String → wS → Prop} (hl0 : l.stackTraces = false) {a0 : Nat} {x1 : Int32} (hL_a0 : wM D S0 a0) (hK_a0 : sK S0 a0 = 16) (hp : wp_X11_answer D post xp S0 a0 x1) : xI D cy X l yX11_answer wz_X11_answer r_X11_answer [.ref a0, .int x1] S0 (fun r S9 => wX D S0 S9 ∧ post r S9) (fun E S9 => wX D S0 S9 ∧ xp E S9) := by
  intro sz
  refine vx_ofW (cc := cX11_answer) (maxL := 3) (ret := (some .int)) (by decide) rfl ?_
  intro p e s m args below meth c s₁ B hml hexc hv
  obtain ⟨rfl, hsz, hP, hK, hD0, hRO⟩ := hv
  have hts := atoms_spec (ws := wz_X11_answer) B.pre
  have hown : s.vm.findClass RX11 = some m.cls := findClass_of_methodNamed B.named
  subst hsz
  have hD := hD0.self (sz := s.heap.size)
  have F : CallFix p m c cX11_answer 3 s _ wz_X11_answer RX11 := ⟨B.exec, B.bytes, hml, hown, hts⟩
  have hr := B.returns
  have hlocks := B.notSynchronized
  generalize hAe : va_A (wL cy X S0) s.heap.size = A at hD hK ⊢
  have hA : ∀ q, s.heap.size ≤ q → A q := fun q h => by rw [← hAe]; exact Or.inr h
  have hW : wO D cy X A s.heap S0 s.heap [] := ⟨hP, hD, va_S.rf, hA, hRO⟩
  have hl := lv_entry ([.ref a0, .int x1]) (n := 3) (Nat.le_of_ble_eq_true rfl)
  rw [lg_entry_eq]
  generalize (lg_sl ([.ref a0, .int x1]) ++ List.replicate (3 - (lg_sl ([.ref a0, .int x1])).length) Slot.unset).toArray = ls at hl ⊢
  have hl : lv_has ls 3 [(0, .ref a0), (1, .int x1)] := hl
  unfold wp_X11_answer at hp
  exact t_X11_answer_0 F hr hlocks hK hl0 hexc hp hW wX.rf (lv_sub hl [0, 1] rfl) hL_a0 hK_a0
