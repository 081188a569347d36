theorem dX12_spells_0 : decode cX12_spells 0 = .ok (.aload_n 0, 1) := by decide +kernel
theorem dX12_spells_1 : decode cX12_spells 1 = .ok (.getfield 48, 3) := by decide +kernel
theorem dX12_spells_4 : decode cX12_spells 4 = .ok (.bipush 12, 2) := by decide +kernel
theorem dX12_spells_6 : decode cX12_spells 6 = .ok (.iload_n 1, 1) := by decide +kernel
theorem dX12_spells_7 : decode cX12_spells 7 = .ok (.imul, 1) := by decide +kernel
theorem dX12_spells_8 : decode cX12_spells 8 = .ok (.aload_n 0, 1) := by decide +kernel
theorem dX12_spells_9 : decode cX12_spells 9 = .ok (.getfield 51, 3) := by decide +kernel
theorem dX12_spells_12 : decode cX12_spells 12 = .ok (.iload_n 1, 1) := by decide +kernel
theorem dX12_spells_13 : decode cX12_spells 13 = .ok (.iaload, 1) := by decide +kernel
theorem dX12_spells_14 : decode cX12_spells 14 = .ok (.iadd, 1) := by decide +kernel
theorem dX12_spells_15 : decode cX12_spells 15 = .ok (.iload_n 2, 1) := by decide +kernel
theorem dX12_spells_16 : decode cX12_spells 16 = .ok (.iastore, 1) := by decide +kernel
theorem dX12_spells_17 : decode cX12_spells 17 = .ok (.aload_n 0, 1) := by decide +kernel
theorem dX12_spells_18 : decode cX12_spells 18 = .ok (.getfield 51, 3) := by decide +kernel
theorem dX12_spells_21 : decode cX12_spells 21 = .ok (.iload_n 1, 1) := by decide +kernel
theorem dX12_spells_22 : decode cX12_spells 22 = .ok (.dup2, 1) := by decide +kernel
theorem dX12_spells_23 : decode cX12_spells 23 = .ok (.iaload, 1) := by decide +kernel
theorem dX12_spells_24 : decode cX12_spells 24 = .ok (.iconst 1, 1) := by decide +kernel
theorem dX12_spells_25 : decode cX12_spells 25 = .ok (.iadd, 1) := by decide +kernel
theorem dX12_spells_26 : decode cX12_spells 26 = .ok (.iastore, 1) := by decide +kernel
theorem dX12_spells_27 : decode cX12_spells 27 = .ok (.return_, 1) := by decide +kernel
theorem dX12_spellsFrom_0 : decode cX12_spellsFrom 0 = .ok (.iconst 0, 1) := by decide +kernel
theorem dX12_spellsFrom_1 : decode cX12_spellsFrom 1 = .ok (.istore_n 2, 1) := by decide +kernel
theorem dX12_spellsFrom_2 : decode cX12_spellsFrom 2 = .ok (.iconst 0, 1) := by decide +kernel
theorem dX12_spellsFrom_3 : decode cX12_spellsFrom 3 = .ok (.istore_n 3, 1) := by decide +kernel
theorem dX12_spellsFrom_4 : decode cX12_spellsFrom 4 = .ok (.iconst 0, 1) := by decide +kernel
theorem dX12_spellsFrom_5 : decode cX12_spellsFrom 5 = .ok (.istore 4, 2) := by decide +kernel
theorem dX12_spellsFrom_7 : decode cX12_spellsFrom 7 = .ok (.aload_n 0, 1) := by decide +kernel
theorem dX12_spellsFrom_8 : decode cX12_spellsFrom 8 = .ok (.getfield 20, 3) := by decide +kernel
theorem dX12_spellsFrom_11 : decode cX12_spellsFrom 11 = .ok (.iload_n 1, 1) := by decide +kernel
theorem dX12_spellsFrom_12 : decode cX12_spellsFrom 12 = .ok (.iaload, 1) := by decide +kernel
theorem dX12_spellsFrom_13 : decode cX12_spellsFrom 13 = .ok (.istore 5, 2) := by decide +kernel
theorem dX12_spellsFrom_15 : decode cX12_spellsFrom 15 = .ok (.iconst 0, 1) := by decide +kernel
theorem dX12_spellsFrom_16 : decode cX12_spellsFrom 16 = .ok (.istore 6, 2) := by decide +kernel
theorem dX12_spellsFrom_18 : decode cX12_spellsFrom 18 = .ok (.iload 6, 2) := by decide +kernel
theorem dX12_spellsFrom_20 : decode cX12_spellsFrom 20 = .ok (.aload_n 0, 1) := by decide +kernel
theorem dX12_spellsFrom_21 : decode cX12_spellsFrom 21 = .ok (.getfield 29, 3) := by decide +kernel
theorem dX12_spellsFrom_24 : decode cX12_spellsFrom 24 = .ok (.iconst 0, 1) := by decide +kernel
theorem dX12_spellsFrom_25 : decode cX12_spellsFrom 25 = .ok (.iaload, 1) := by decide +kernel
theorem dX12_spellsFrom_26 : decode cX12_spellsFrom 26 = .ok (.if_icmp .ge 123, 3) := by decide +kernel
theorem dX12_spellsFrom_29 : decode cX12_spellsFrom 29 = .ok (.aload_n 0, 1) := by decide +kernel
theorem dX12_spellsFrom_30 : decode cX12_spellsFrom 30 = .ok (.getfield 20, 3) := by decide +kernel
theorem dX12_spellsFrom_33 : decode cX12_spellsFrom 33 = .ok (.iload 6, 2) := by decide +kernel
theorem dX12_spellsFrom_35 : decode cX12_spellsFrom 35 = .ok (.iaload, 1) := by decide +kernel
theorem dX12_spellsFrom_36 : decode cX12_spellsFrom 36 = .ok (.iload 5, 2) := by decide +kernel
theorem dX12_spellsFrom_38 : decode cX12_spellsFrom 38 = .ok (.if_icmp .eq 105, 3) := by decide +kernel
theorem dX12_spellsFrom_41 : decode cX12_spellsFrom 41 = .ok (.aload_n 0, 1) := by decide +kernel
theorem dX12_spellsFrom_42 : decode cX12_spellsFrom 42 = .ok (.getfield 23, 3) := by decide +kernel
theorem dX12_spellsFrom_45 : decode cX12_spellsFrom 45 = .ok (.iload 6, 2) := by decide +kernel
theorem dX12_spellsFrom_47 : decode cX12_spellsFrom 47 = .ok (.iaload, 1) := by decide +kernel
theorem dX12_spellsFrom_48 : decode cX12_spellsFrom 48 = .ok (.aload_n 0, 1) := by decide +kernel
theorem dX12_spellsFrom_49 : decode cX12_spellsFrom 49 = .ok (.getfield 23, 3) := by decide +kernel
theorem dX12_spellsFrom_52 : decode cX12_spellsFrom 52 = .ok (.iload_n 1, 1) := by decide +kernel
theorem dX12_spellsFrom_53 : decode cX12_spellsFrom 53 = .ok (.iaload, 1) := by decide +kernel
theorem dX12_spellsFrom_54 : decode cX12_spellsFrom 54 = .ok (.if_icmp .ne 89, 3) := by decide +kernel
theorem dX12_spellsFrom_57 : decode cX12_spellsFrom 57 = .ok (.aload_n 0, 1) := by decide +kernel
theorem dX12_spellsFrom_58 : decode cX12_spellsFrom 58 = .ok (.iconst 0, 1) := by decide +kernel
theorem dX12_spellsFrom_59 : decode cX12_spellsFrom 59 = .ok (.aload_n 0, 1) := by decide +kernel
theorem dX12_spellsFrom_60 : decode cX12_spellsFrom 60 = .ok (.getfield 20, 3) := by decide +kernel
theorem dX12_spellsFrom_63 : decode cX12_spellsFrom 63 = .ok (.iload 6, 2) := by decide +kernel
theorem dX12_spellsFrom_65 : decode cX12_spellsFrom 65 = .ok (.iaload, 1) := by decide +kernel
theorem dX12_spellsFrom_66 : decode cX12_spellsFrom 66 = .ok (.invokevirtual 141, 3) := by decide +kernel
theorem dX12_spellsFrom_69 : decode cX12_spellsFrom 69 = .ok (.aload_n 0, 1) := by decide +kernel
theorem dX12_spellsFrom_70 : decode cX12_spellsFrom 70 = .ok (.iconst 0, 1) := by decide +kernel
theorem dX12_spellsFrom_71 : decode cX12_spellsFrom 71 = .ok (.iload 5, 2) := by decide +kernel
theorem dX12_spellsFrom_73 : decode cX12_spellsFrom 73 = .ok (.invokevirtual 141, 3) := by decide +kernel
theorem dX12_spellsFrom_76 : decode cX12_spellsFrom 76 = .ok (.if_icmp .ne 67, 3) := by decide +kernel
theorem dX12_spellsFrom_79 : decode cX12_spellsFrom 79 = .ok (.iconst 1, 1) := by decide +kernel
theorem dX12_spellsFrom_80 : decode cX12_spellsFrom 80 = .ok (.istore_n 2, 1) := by decide +kernel
theorem dX12_spellsFrom_81 : decode cX12_spellsFrom 81 = .ok (.iload_n 3, 1) := by decide +kernel
theorem dX12_spellsFrom_82 : decode cX12_spellsFrom 82 = .ok (.ifCond .ne 23, 3) := by decide +kernel
theorem dX12_spellsFrom_85 : decode cX12_spellsFrom 85 = .ok (.aload_n 0, 1) := by decide +kernel
theorem dX12_spellsFrom_86 : decode cX12_spellsFrom 86 = .ok (.aload_n 0, 1) := by decide +kernel
theorem dX12_spellsFrom_87 : decode cX12_spellsFrom 87 = .ok (.getfield 20, 3) := by decide +kernel
theorem dX12_spellsFrom_90 : decode cX12_spellsFrom 90 = .ok (.iload 6, 2) := by decide +kernel
theorem dX12_spellsFrom_92 : decode cX12_spellsFrom 92 = .ok (.iaload, 1) := by decide +kernel
theorem dX12_spellsFrom_93 : decode cX12_spellsFrom 93 = .ok (.invokevirtual 134, 3) := by decide +kernel
theorem dX12_spellsFrom_96 : decode cX12_spellsFrom 96 = .ok (.aload_n 0, 1) := by decide +kernel
theorem dX12_spellsFrom_97 : decode cX12_spellsFrom 97 = .ok (.iload 5, 2) := by decide +kernel
theorem dX12_spellsFrom_99 : decode cX12_spellsFrom 99 = .ok (.invokevirtual 134, 3) := by decide +kernel
theorem dX12_spellsFrom_102 : decode cX12_spellsFrom 102 = .ok (.if_icmp .ne 7, 3) := by decide +kernel
theorem dX12_spellsFrom_105 : decode cX12_spellsFrom 105 = .ok (.iconst 1, 1) := by decide +kernel
theorem dX12_spellsFrom_106 : decode cX12_spellsFrom 106 = .ok (.goto 4, 3) := by decide +kernel
theorem dX12_spellsFrom_109 : decode cX12_spellsFrom 109 = .ok (.iconst 0, 1) := by decide +kernel
theorem dX12_spellsFrom_110 : decode cX12_spellsFrom 110 = .ok (.istore_n 3, 1) := by decide +kernel
theorem dX12_spellsFrom_111 : decode cX12_spellsFrom 111 = .ok (.iload 4, 2) := by decide +kernel
theorem dX12_spellsFrom_113 : decode cX12_spellsFrom 113 = .ok (.ifCond .ne 23, 3) := by decide +kernel
theorem dX12_spellsFrom_116 : decode cX12_spellsFrom 116 = .ok (.aload_n 0, 1) := by decide +kernel
theorem dX12_spellsFrom_117 : decode cX12_spellsFrom 117 = .ok (.aload_n 0, 1) := by decide +kernel
theorem dX12_spellsFrom_118 : decode cX12_spellsFrom 118 = .ok (.getfield 20, 3) := by decide +kernel
theorem dX12_spellsFrom_121 : decode cX12_spellsFrom 121 = .ok (.iload 6, 2) := by decide +kernel
theorem dX12_spellsFrom_123 : decode cX12_spellsFrom 123 = .ok (.iaload, 1) := by decide +kernel
theorem dX12_spellsFrom_124 : decode cX12_spellsFrom 124 = .ok (.invokevirtual 138, 3) := by decide +kernel
theorem dX12_spellsFrom_127 : decode cX12_spellsFrom 127 = .ok (.aload_n 0, 1) := by decide +kernel
theorem dX12_spellsFrom_128 : decode cX12_spellsFrom 128 = .ok (.iload 5, 2) := by decide +kernel
theorem dX12_spellsFrom_130 : decode cX12_spellsFrom 130 = .ok (.invokevirtual 138, 3) := by decide +kernel
theorem dX12_spellsFrom_133 : decode cX12_spellsFrom 133 = .ok (.if_icmp .ne 7, 3) := by decide +kernel
theorem dX12_spellsFrom_136 : decode cX12_spellsFrom 136 = .ok (.iconst 1, 1) := by decide +kernel
theorem dX12_spellsFrom_137 : decode cX12_spellsFrom 137 = .ok (.goto 4, 3) := by decide +kernel
theorem dX12_spellsFrom_140 : decode cX12_spellsFrom 140 = .ok (.iconst 0, 1) := by decide +kernel
theorem dX12_spellsFrom_141 : decode cX12_spellsFrom 141 = .ok (.istore 4, 2) := by decide +kernel
theorem dX12_spellsFrom_143 : decode cX12_spellsFrom 143 = .ok (.iinc 6 1, 3) := by decide +kernel
theorem dX12_spellsFrom_146 : decode cX12_spellsFrom 146 = .ok (.goto (-128), 3) := by decide +kernel
theorem dX12_spellsFrom_149 : decode cX12_spellsFrom 149 = .ok (.iload_n 2, 1) := by decide +kernel
theorem dX12_spellsFrom_150 : decode cX12_spellsFrom 150 = .ok (.ifCond .eq 26, 3) := by decide +kernel
theorem dX12_spellsFrom_153 : decode cX12_spellsFrom 153 = .ok (.iload_n 3, 1) := by decide +kernel
theorem dX12_spellsFrom_154 : decode cX12_spellsFrom 154 = .ok (.ifCond .eq 8, 3) := by decide +kernel
theorem dX12_spellsFrom_157 : decode cX12_spellsFrom 157 = .ok (.iload 4, 2) := by decide +kernel
theorem dX12_spellsFrom_159 : decode cX12_spellsFrom 159 = .ok (.ifCond .eq 17, 3) := by decide +kernel
theorem dX12_spellsFrom_162 : decode cX12_spellsFrom 162 = .ok (.aload_n 0, 1) := by decide +kernel
theorem dX12_spellsFrom_163 : decode cX12_spellsFrom 163 = .ok (.iload_n 1, 1) := by decide +kernel
theorem dX12_spellsFrom_164 : decode cX12_spellsFrom 164 = .ok (.bipush 97, 2) := by decide +kernel
theorem dX12_spellsFrom_166 : decode cX12_spellsFrom 166 = .ok (.aload_n 0, 1) := by decide +kernel
theorem dX12_spellsFrom_167 : decode cX12_spellsFrom 167 = .ok (.iload 5, 2) := by decide +kernel
theorem dX12_spellsFrom_169 : decode cX12_spellsFrom 169 = .ok (.invokevirtual 134, 3) := by decide +kernel
theorem dX12_spellsFrom_172 : decode cX12_spellsFrom 172 = .ok (.iadd, 1) := by decide +kernel
theorem dX12_spellsFrom_173 : decode cX12_spellsFrom 173 = .ok (.invokevirtual 296, 3) := by decide +kernel
theorem dX12_spellsFrom_176 : decode cX12_spellsFrom 176 = .ok (.iload_n 2, 1) := by decide +kernel
theorem dX12_spellsFrom_177 : decode cX12_spellsFrom 177 = .ok (.ifCond .eq 21, 3) := by decide +kernel
theorem dX12_spellsFrom_180 : decode cX12_spellsFrom 180 = .ok (.iload_n 3, 1) := by decide +kernel
theorem dX12_spellsFrom_181 : decode cX12_spellsFrom 181 = .ok (.ifCond .eq 17, 3) := by decide +kernel
theorem dX12_spellsFrom_184 : decode cX12_spellsFrom 184 = .ok (.aload_n 0, 1) := by decide +kernel
theorem dX12_spellsFrom_185 : decode cX12_spellsFrom 185 = .ok (.iload_n 1, 1) := by decide +kernel
theorem dX12_spellsFrom_186 : decode cX12_spellsFrom 186 = .ok (.bipush 49, 2) := by decide +kernel
theorem dX12_spellsFrom_188 : decode cX12_spellsFrom 188 = .ok (.aload_n 0, 1) := by decide +kernel
theorem dX12_spellsFrom_189 : decode cX12_spellsFrom 189 = .ok (.iload 5, 2) := by decide +kernel
theorem dX12_spellsFrom_191 : decode cX12_spellsFrom 191 = .ok (.invokevirtual 138, 3) := by decide +kernel
theorem dX12_spellsFrom_194 : decode cX12_spellsFrom 194 = .ok (.iadd, 1) := by decide +kernel
theorem dX12_spellsFrom_195 : decode cX12_spellsFrom 195 = .ok (.invokevirtual 296, 3) := by decide +kernel
theorem dX12_spellsFrom_198 : decode cX12_spellsFrom 198 = .ok (.return_, 1) := by decide +kernel
theorem dX12_spellsSquare_0 : decode cX12_spellsSquare 0 = .ok (.aload_n 0, 1) := by decide +kernel
theorem dX12_spellsSquare_1 : decode cX12_spellsSquare 1 = .ok (.iload_n 1, 1) := by decide +kernel
theorem dX12_spellsSquare_2 : decode cX12_spellsSquare 2 = .ok (.bipush 97, 2) := by decide +kernel
theorem dX12_spellsSquare_4 : decode cX12_spellsSquare 4 = .ok (.aload_n 0, 1) := by decide +kernel
theorem dX12_spellsSquare_5 : decode cX12_spellsSquare 5 = .ok (.iload_n 2, 1) := by decide +kernel
theorem dX12_spellsSquare_6 : decode cX12_spellsSquare 6 = .ok (.invokevirtual 134, 3) := by decide +kernel
theorem dX12_spellsSquare_9 : decode cX12_spellsSquare 9 = .ok (.iadd, 1) := by decide +kernel
theorem dX12_spellsSquare_10 : decode cX12_spellsSquare 10 = .ok (.invokevirtual 296, 3) := by decide +kernel
theorem dX12_spellsSquare_13 : decode cX12_spellsSquare 13 = .ok (.aload_n 0, 1) := by decide +kernel
theorem dX12_spellsSquare_14 : decode cX12_spellsSquare 14 = .ok (.iload_n 1, 1) := by decide +kernel
theorem dX12_spellsSquare_15 : decode cX12_spellsSquare 15 = .ok (.bipush 49, 2) := by decide +kernel
theorem dX12_spellsSquare_17 : decode cX12_spellsSquare 17 = .ok (.aload_n 0, 1) := by decide +kernel
theorem dX12_spellsSquare_18 : decode cX12_spellsSquare 18 = .ok (.iload_n 2, 1) := by decide +kernel
theorem dX12_spellsSquare_19 : decode cX12_spellsSquare 19 = .ok (.invokevirtual 138, 3) := by decide +kernel
theorem dX12_spellsSquare_22 : decode cX12_spellsSquare 22 = .ok (.iadd, 1) := by decide +kernel
theorem dX12_spellsSquare_23 : decode cX12_spellsSquare 23 = .ok (.invokevirtual 296, 3) := by decide +kernel
theorem dX12_spellsSquare_26 : decode cX12_spellsSquare 26 = .ok (.return_, 1) := by decide +kernel
theorem dX12_spellsAhead_0 : decode cX12_spellsAhead 0 = .ok (.aload_n 0, 1) := by decide +kernel
theorem dX12_spellsAhead_1 : decode cX12_spellsAhead 1 = .ok (.getfield 51, 3) := by decide +kernel
theorem dX12_spellsAhead_4 : decode cX12_spellsAhead 4 = .ok (.iload_n 1, 1) := by decide +kernel
theorem dX12_spellsAhead_5 : decode cX12_spellsAhead 5 = .ok (.iconst 0, 1) := by decide +kernel
theorem dX12_spellsAhead_6 : decode cX12_spellsAhead 6 = .ok (.iastore, 1) := by decide +kernel
theorem dX12_spellsAhead_7 : decode cX12_spellsAhead 7 = .ok (.aload_n 0, 1) := by decide +kernel
theorem dX12_spellsAhead_8 : decode cX12_spellsAhead 8 = .ok (.getfield 20, 3) := by decide +kernel
theorem dX12_spellsAhead_11 : decode cX12_spellsAhead 11 = .ok (.iload_n 1, 1) := by decide +kernel
theorem dX12_spellsAhead_12 : decode cX12_spellsAhead 12 = .ok (.iaload, 1) := by decide +kernel
theorem dX12_spellsAhead_13 : decode cX12_spellsAhead 13 = .ok (.istore_n 2, 1) := by decide +kernel
theorem dX12_spellsAhead_14 : decode cX12_spellsAhead 14 = .ok (.aload_n 0, 1) := by decide +kernel
theorem dX12_spellsAhead_15 : decode cX12_spellsAhead 15 = .ok (.getfield 23, 3) := by decide +kernel
theorem dX12_spellsAhead_18 : decode cX12_spellsAhead 18 = .ok (.iload_n 1, 1) := by decide +kernel
theorem dX12_spellsAhead_19 : decode cX12_spellsAhead 19 = .ok (.iaload, 1) := by decide +kernel
theorem dX12_spellsAhead_20 : decode cX12_spellsAhead 20 = .ok (.istore_n 3, 1) := by decide +kernel
theorem dX12_spellsAhead_21 : decode cX12_spellsAhead 21 = .ok (.aload_n 0, 1) := by decide +kernel
theorem dX12_spellsAhead_22 : decode cX12_spellsAhead 22 = .ok (.iconst 0, 1) := by decide +kernel
theorem dX12_spellsAhead_23 : decode cX12_spellsAhead 23 = .ok (.iload_n 2, 1) := by decide +kernel
theorem dX12_spellsAhead_24 : decode cX12_spellsAhead 24 = .ok (.invokevirtual 141, 3) := by decide +kernel
theorem dX12_spellsAhead_27 : decode cX12_spellsAhead 27 = .ok (.invokestatic 148, 3) := by decide +kernel
theorem dX12_spellsAhead_30 : decode cX12_spellsAhead 30 = .ok (.istore 4, 2) := by decide +kernel
theorem dX12_spellsAhead_32 : decode cX12_spellsAhead 32 = .ok (.aload_n 0, 1) := by decide +kernel
theorem dX12_spellsAhead_33 : decode cX12_spellsAhead 33 = .ok (.iconst 0, 1) := by decide +kernel
theorem dX12_spellsAhead_34 : decode cX12_spellsAhead 34 = .ok (.iload_n 2, 1) := by decide +kernel
theorem dX12_spellsAhead_35 : decode cX12_spellsAhead 35 = .ok (.iload_n 3, 1) := by decide +kernel
theorem dX12_spellsAhead_36 : decode cX12_spellsAhead 36 = .ok (.invokevirtual 211, 3) := by decide +kernel
theorem dX12_spellsAhead_39 : decode cX12_spellsAhead 39 = .ok (.ifCond .eq 47, 3) := by decide +kernel
theorem dX12_spellsAhead_42 : decode cX12_spellsAhead 42 = .ok (.iconst 0, 1) := by decide +kernel
theorem dX12_spellsAhead_43 : decode cX12_spellsAhead 43 = .ok (.istore 5, 2) := by decide +kernel
theorem dX12_spellsAhead_45 : decode cX12_spellsAhead 45 = .ok (.iload 5, 2) := by decide +kernel
theorem dX12_spellsAhead_47 : decode cX12_spellsAhead 47 = .ok (.iload_n 3, 1) := by decide +kernel
theorem dX12_spellsAhead_48 : decode cX12_spellsAhead 48 = .ok (.iload_n 2, 1) := by decide +kernel
theorem dX12_spellsAhead_49 : decode cX12_spellsAhead 49 = .ok (.if_icmp .le 7, 3) := by decide +kernel
theorem dX12_spellsAhead_52 : decode cX12_spellsAhead 52 = .ok (.iconst 3, 1) := by decide +kernel
theorem dX12_spellsAhead_53 : decode cX12_spellsAhead 53 = .ok (.goto 4, 3) := by decide +kernel
theorem dX12_spellsAhead_56 : decode cX12_spellsAhead 56 = .ok (.iconst 5, 1) := by decide +kernel
theorem dX12_spellsAhead_57 : decode cX12_spellsAhead 57 = .ok (.if_icmp .ge 28, 3) := by decide +kernel
theorem dX12_spellsAhead_60 : decode cX12_spellsAhead 60 = .ok (.aload_n 0, 1) := by decide +kernel
theorem dX12_spellsAhead_61 : decode cX12_spellsAhead 61 = .ok (.iload_n 1, 1) := by decide +kernel
theorem dX12_spellsAhead_62 : decode cX12_spellsAhead 62 = .ok (.iload 5, 2) := by decide +kernel
theorem dX12_spellsAhead_64 : decode cX12_spellsAhead 64 = .ok (.iconst 2, 1) := by decide +kernel
theorem dX12_spellsAhead_65 : decode cX12_spellsAhead 65 = .ok (.irem, 1) := by decide +kernel
theorem dX12_spellsAhead_66 : decode cX12_spellsAhead 66 = .ok (.ifCond .ne 8, 3) := by decide +kernel
theorem dX12_spellsAhead_69 : decode cX12_spellsAhead 69 = .ok (.bipush 79, 2) := by decide +kernel
theorem dX12_spellsAhead_71 : decode cX12_spellsAhead 71 = .ok (.goto 5, 3) := by decide +kernel
theorem dX12_spellsAhead_74 : decode cX12_spellsAhead 74 = .ok (.bipush 45, 2) := by decide +kernel
theorem dX12_spellsAhead_76 : decode cX12_spellsAhead 76 = .ok (.invokevirtual 296, 3) := by decide +kernel
theorem dX12_spellsAhead_79 : decode cX12_spellsAhead 79 = .ok (.iinc 5 1, 3) := by decide +kernel
theorem dX12_spellsAhead_82 : decode cX12_spellsAhead 82 = .ok (.goto (-37), 3) := by decide +kernel
theorem dX12_spellsAhead_85 : decode cX12_spellsAhead 85 = .ok (.return_, 1) := by decide +kernel
theorem dX12_spellsAhead_86 : decode cX12_spellsAhead 86 = .ok (.iload 4, 2) := by decide +kernel
theorem dX12_spellsAhead_88 : decode cX12_spellsAhead 88 = .ok (.bipush 6, 2) := by decide +kernel
theorem dX12_spellsAhead_90 : decode cX12_spellsAhead 90 = .ok (.if_icmp .ne 26, 3) := by decide +kernel
theorem dX12_spellsAhead_93 : decode cX12_spellsAhead 93 = .ok (.aload_n 0, 1) := by decide +kernel
theorem dX12_spellsAhead_94 : decode cX12_spellsAhead 94 = .ok (.iconst 0, 1) := by decide +kernel
theorem dX12_spellsAhead_95 : decode cX12_spellsAhead 95 = .ok (.iload_n 2, 1) := by decide +kernel
theorem dX12_spellsAhead_96 : decode cX12_spellsAhead 96 = .ok (.iload_n 3, 1) := by decide +kernel
theorem dX12_spellsAhead_97 : decode cX12_spellsAhead 97 = .ok (.invokevirtual 204, 3) := by decide +kernel
theorem dX12_spellsAhead_100 : decode cX12_spellsAhead 100 = .ok (.ifCond .eq 16, 3) := by decide +kernel
theorem dX12_spellsAhead_103 : decode cX12_spellsAhead 103 = .ok (.aload_n 0, 1) := by decide +kernel
theorem dX12_spellsAhead_104 : decode cX12_spellsAhead 104 = .ok (.iload_n 1, 1) := by decide +kernel
theorem dX12_spellsAhead_105 : decode cX12_spellsAhead 105 = .ok (.bipush 97, 2) := by decide +kernel
theorem dX12_spellsAhead_107 : decode cX12_spellsAhead 107 = .ok (.aload_n 0, 1) := by decide +kernel
theorem dX12_spellsAhead_108 : decode cX12_spellsAhead 108 = .ok (.iload_n 2, 1) := by decide +kernel
theorem dX12_spellsAhead_109 : decode cX12_spellsAhead 109 = .ok (.invokevirtual 134, 3) := by decide +kernel
theorem dX12_spellsAhead_112 : decode cX12_spellsAhead 112 = .ok (.iadd, 1) := by decide +kernel
theorem dX12_spellsAhead_113 : decode cX12_spellsAhead 113 = .ok (.invokevirtual 296, 3) := by decide +kernel
theorem dX12_spellsAhead_116 : decode cX12_spellsAhead 116 = .ok (.iload 4, 2) := by decide +kernel
theorem dX12_spellsAhead_118 : decode cX12_spellsAhead 118 = .ok (.bipush 6, 2) := by decide +kernel
theorem dX12_spellsAhead_120 : decode cX12_spellsAhead 120 = .ok (.if_icmp .eq 18, 3) := by decide +kernel
theorem dX12_spellsAhead_123 : decode cX12_spellsAhead 123 = .ok (.aload_n 0, 1) := by decide +kernel
theorem dX12_spellsAhead_124 : decode cX12_spellsAhead 124 = .ok (.iload_n 1, 1) := by decide +kernel
theorem dX12_spellsAhead_125 : decode cX12_spellsAhead 125 = .ok (.iload 4, 2) := by decide +kernel
theorem dX12_spellsAhead_127 : decode cX12_spellsAhead 127 = .ok (.invokestatic 250, 3) := by decide +kernel
theorem dX12_spellsAhead_130 : decode cX12_spellsAhead 130 = .ok (.invokevirtual 296, 3) := by decide +kernel
theorem dX12_spellsAhead_133 : decode cX12_spellsAhead 133 = .ok (.aload_n 0, 1) := by decide +kernel
theorem dX12_spellsAhead_134 : decode cX12_spellsAhead 134 = .ok (.iload_n 1, 1) := by decide +kernel
theorem dX12_spellsAhead_135 : decode cX12_spellsAhead 135 = .ok (.invokevirtual 300, 3) := by decide +kernel
theorem dX12_spellsAhead_138 : decode cX12_spellsAhead 138 = .ok (.aload_n 0, 1) := by decide +kernel
theorem dX12_spellsAhead_139 : decode cX12_spellsAhead 139 = .ok (.iconst 0, 1) := by decide +kernel
theorem dX12_spellsAhead_140 : decode cX12_spellsAhead 140 = .ok (.iload_n 2, 1) := by decide +kernel
theorem dX12_spellsAhead_141 : decode cX12_spellsAhead 141 = .ok (.iload_n 3, 1) := by decide +kernel
theorem dX12_spellsAhead_142 : decode cX12_spellsAhead 142 = .ok (.invokevirtual 204, 3) := by decide +kernel
theorem dX12_spellsAhead_145 : decode cX12_spellsAhead 145 = .ok (.ifCond .eq 10, 3) := by decide +kernel
theorem dX12_spellsAhead_148 : decode cX12_spellsAhead 148 = .ok (.aload_n 0, 1) := by decide +kernel
theorem dX12_spellsAhead_149 : decode cX12_spellsAhead 149 = .ok (.iload_n 1, 1) := by decide +kernel
theorem dX12_spellsAhead_150 : decode cX12_spellsAhead 150 = .ok (.bipush 120, 2) := by decide +kernel
theorem dX12_spellsAhead_152 : decode cX12_spellsAhead 152 = .ok (.invokevirtual 296, 3) := by decide +kernel
theorem dX12_spellsAhead_155 : decode cX12_spellsAhead 155 = .ok (.aload_n 0, 1) := by decide +kernel
theorem dX12_spellsAhead_156 : decode cX12_spellsAhead 156 = .ok (.iload_n 1, 1) := by decide +kernel
theorem dX12_spellsAhead_157 : decode cX12_spellsAhead 157 = .ok (.iload_n 3, 1) := by decide +kernel
theorem dX12_spellsAhead_158 : decode cX12_spellsAhead 158 = .ok (.invokevirtual 303, 3) := by decide +kernel
theorem dX12_spellsAhead_161 : decode cX12_spellsAhead 161 = .ok (.aload_n 0, 1) := by decide +kernel
theorem dX12_spellsAhead_162 : decode cX12_spellsAhead 162 = .ok (.getfield 26, 3) := by decide +kernel
theorem dX12_spellsAhead_165 : decode cX12_spellsAhead 165 = .ok (.iload_n 1, 1) := by decide +kernel
theorem dX12_spellsAhead_166 : decode cX12_spellsAhead 166 = .ok (.iaload, 1) := by decide +kernel
theorem dX12_spellsAhead_167 : decode cX12_spellsAhead 167 = .ok (.ifCond .eq 24, 3) := by decide +kernel
theorem dX12_spellsAhead_170 : decode cX12_spellsAhead 170 = .ok (.aload_n 0, 1) := by decide +kernel
theorem dX12_spellsAhead_171 : decode cX12_spellsAhead 171 = .ok (.iload_n 1, 1) := by decide +kernel
theorem dX12_spellsAhead_172 : decode cX12_spellsAhead 172 = .ok (.bipush 61, 2) := by decide +kernel
theorem dX12_spellsAhead_174 : decode cX12_spellsAhead 174 = .ok (.invokevirtual 296, 3) := by decide +kernel
theorem dX12_spellsAhead_177 : decode cX12_spellsAhead 177 = .ok (.aload_n 0, 1) := by decide +kernel
theorem dX12_spellsAhead_178 : decode cX12_spellsAhead 178 = .ok (.iload_n 1, 1) := by decide +kernel
theorem dX12_spellsAhead_179 : decode cX12_spellsAhead 179 = .ok (.aload_n 0, 1) := by decide +kernel
theorem dX12_spellsAhead_180 : decode cX12_spellsAhead 180 = .ok (.getfield 26, 3) := by decide +kernel
theorem dX12_spellsAhead_183 : decode cX12_spellsAhead 183 = .ok (.iload_n 1, 1) := by decide +kernel
theorem dX12_spellsAhead_184 : decode cX12_spellsAhead 184 = .ok (.iaload, 1) := by decide +kernel
theorem dX12_spellsAhead_185 : decode cX12_spellsAhead 185 = .ok (.invokestatic 250, 3) := by decide +kernel
theorem dX12_spellsAhead_188 : decode cX12_spellsAhead 188 = .ok (.invokevirtual 296, 3) := by decide +kernel
theorem dX12_spellsAhead_191 : decode cX12_spellsAhead 191 = .ok (.return_, 1) := by decide +kernel
theorem dX12_areLetters_0 : decode cX12_areLetters 0 = .ok (.aload_n 0, 1) := by decide +kernel
theorem dX12_areLetters_1 : decode cX12_areLetters 1 = .ok (.iload_n 1, 1) := by decide +kernel
theorem dX12_areLetters_2 : decode cX12_areLetters 2 = .ok (.invokevirtual 312, 3) := by decide +kernel
theorem dX12_areLetters_5 : decode cX12_areLetters 5 = .ok (.aload_n 0, 1) := by decide +kernel
theorem dX12_areLetters_6 : decode cX12_areLetters 6 = .ok (.getfield 51, 3) := by decide +kernel
theorem dX12_areLetters_9 : decode cX12_areLetters 9 = .ok (.iload_n 1, 1) := by decide +kernel
theorem dX12_areLetters_10 : decode cX12_areLetters 10 = .ok (.iaload, 1) := by decide +kernel
theorem dX12_areLetters_11 : decode cX12_areLetters 11 = .ok (.istore 4, 2) := by decide +kernel
theorem dX12_areLetters_13 : decode cX12_areLetters 13 = .ok (.iload_n 3, 1) := by decide +kernel
theorem dX12_areLetters_14 : decode cX12_areLetters 14 = .ok (.iload_n 2, 1) := by decide +kernel
theorem dX12_areLetters_15 : decode cX12_areLetters 15 = .ok (.isub, 1) := by decide +kernel
theorem dX12_areLetters_16 : decode cX12_areLetters 16 = .ok (.iload 4, 2) := by decide +kernel
theorem dX12_areLetters_18 : decode cX12_areLetters 18 = .ok (.if_icmp .eq 15, 3) := by decide +kernel
theorem dX12_areLetters_21 : decode cX12_areLetters 21 = .ok (.iload_n 3, 1) := by decide +kernel
theorem dX12_areLetters_22 : decode cX12_areLetters 22 = .ok (.iload_n 2, 1) := by decide +kernel
theorem dX12_areLetters_23 : decode cX12_areLetters 23 = .ok (.isub, 1) := by decide +kernel
theorem dX12_areLetters_24 : decode cX12_areLetters 24 = .ok (.iload 4, 2) := by decide +kernel
theorem dX12_areLetters_26 : decode cX12_areLetters 26 = .ok (.iconst 1, 1) := by decide +kernel
theorem dX12_areLetters_27 : decode cX12_areLetters 27 = .ok (.iadd, 1) := by decide +kernel
theorem dX12_areLetters_28 : decode cX12_areLetters 28 = .ok (.if_icmp .eq 5, 3) := by decide +kernel
theorem dX12_areLetters_31 : decode cX12_areLetters 31 = .ok (.iconst 0, 1) := by decide +kernel
theorem dX12_areLetters_32 : decode cX12_areLetters 32 = .ok (.ireturn, 1) := by decide +kernel
theorem dX12_areLetters_33 : decode cX12_areLetters 33 = .ok (.iconst 0, 1) := by decide +kernel
theorem dX12_areLetters_34 : decode cX12_areLetters 34 = .ok (.istore 5, 2) := by decide +kernel
theorem dX12_areLetters_36 : decode cX12_areLetters 36 = .ok (.iload 5, 2) := by decide +kernel
theorem dX12_areLetters_38 : decode cX12_areLetters 38 = .ok (.iload 4, 2) := by decide +kernel
theorem dX12_areLetters_40 : decode cX12_areLetters 40 = .ok (.if_icmp .ge 35, 3) := by decide +kernel
theorem dX12_areLetters_43 : decode cX12_areLetters 43 = .ok (.aload_n 0, 1) := by decide +kernel
theorem dX12_areLetters_44 : decode cX12_areLetters 44 = .ok (.getfield 48, 3) := by decide +kernel
theorem dX12_areLetters_47 : decode cX12_areLetters 47 = .ok (.bipush 12, 2) := by decide +kernel
theorem dX12_areLetters_49 : decode cX12_areLetters 49 = .ok (.iload_n 1, 1) := by decide +kernel
theorem dX12_areLetters_50 : decode cX12_areLetters 50 = .ok (.imul, 1) := by decide +kernel
theorem dX12_areLetters_51 : decode cX12_areLetters 51 = .ok (.iload 5, 2) := by decide +kernel
theorem dX12_areLetters_53 : decode cX12_areLetters 53 = .ok (.iadd, 1) := by decide +kernel
theorem dX12_areLetters_54 : decode cX12_areLetters 54 = .ok (.iaload, 1) := by decide +kernel
theorem dX12_areLetters_55 : decode cX12_areLetters 55 = .ok (.aload_n 0, 1) := by decide +kernel
theorem dX12_areLetters_56 : decode cX12_areLetters 56 = .ok (.getfield 42, 3) := by decide +kernel
theorem dX12_areLetters_59 : decode cX12_areLetters 59 = .ok (.iload_n 2, 1) := by decide +kernel
theorem dX12_areLetters_60 : decode cX12_areLetters 60 = .ok (.iload 5, 2) := by decide +kernel
theorem dX12_areLetters_62 : decode cX12_areLetters 62 = .ok (.iadd, 1) := by decide +kernel
theorem dX12_areLetters_63 : decode cX12_areLetters 63 = .ok (.iaload, 1) := by decide +kernel
theorem dX12_areLetters_64 : decode cX12_areLetters 64 = .ok (.if_icmp .eq 5, 3) := by decide +kernel
theorem dX12_areLetters_67 : decode cX12_areLetters 67 = .ok (.iconst 0, 1) := by decide +kernel
theorem dX12_areLetters_68 : decode cX12_areLetters 68 = .ok (.ireturn, 1) := by decide +kernel
theorem dX12_areLetters_69 : decode cX12_areLetters 69 = .ok (.iinc 5 1, 3) := by decide +kernel
theorem dX12_areLetters_72 : decode cX12_areLetters 72 = .ok (.goto (-36), 3) := by decide +kernel
theorem dX12_areLetters_75 : decode cX12_areLetters 75 = .ok (.iload_n 3, 1) := by decide +kernel
theorem dX12_areLetters_76 : decode cX12_areLetters 76 = .ok (.iload_n 2, 1) := by decide +kernel
theorem dX12_areLetters_77 : decode cX12_areLetters 77 = .ok (.isub, 1) := by decide +kernel
theorem dX12_areLetters_78 : decode cX12_areLetters 78 = .ok (.iload 4, 2) := by decide +kernel
theorem dX12_areLetters_80 : decode cX12_areLetters 80 = .ok (.if_icmp .eq 20, 3) := by decide +kernel
theorem dX12_areLetters_83 : decode cX12_areLetters 83 = .ok (.aload_n 0, 1) := by decide +kernel
theorem dX12_areLetters_84 : decode cX12_areLetters 84 = .ok (.iload_n 1, 1) := by decide +kernel
theorem dX12_areLetters_85 : decode cX12_areLetters 85 = .ok (.invokevirtual 315, 3) := by decide +kernel
theorem dX12_areLetters_88 : decode cX12_areLetters 88 = .ok (.aload_n 0, 1) := by decide +kernel
theorem dX12_areLetters_89 : decode cX12_areLetters 89 = .ok (.getfield 42, 3) := by decide +kernel
theorem dX12_areLetters_92 : decode cX12_areLetters 92 = .ok (.iload_n 2, 1) := by decide +kernel
theorem dX12_areLetters_93 : decode cX12_areLetters 93 = .ok (.iload 4, 2) := by decide +kernel
theorem dX12_areLetters_95 : decode cX12_areLetters 95 = .ok (.iadd, 1) := by decide +kernel
theorem dX12_areLetters_96 : decode cX12_areLetters 96 = .ok (.iaload, 1) := by decide +kernel
theorem dX12_areLetters_97 : decode cX12_areLetters 97 = .ok (.if_icmp .ne 7, 3) := by decide +kernel
theorem dX12_areLetters_100 : decode cX12_areLetters 100 = .ok (.iconst 1, 1) := by decide +kernel
theorem dX12_areLetters_101 : decode cX12_areLetters 101 = .ok (.goto 4, 3) := by decide +kernel
theorem dX12_areLetters_104 : decode cX12_areLetters 104 = .ok (.iconst 0, 1) := by decide +kernel
theorem dX12_areLetters_105 : decode cX12_areLetters 105 = .ok (.ireturn, 1) := by decide +kernel
theorem dX12_isSquare_0 : decode cX12_isSquare 0 = .ok (.iload_n 1, 1) := by decide +kernel
theorem dX12_isSquare_1 : decode cX12_isSquare 1 = .ok (.iconst 0, 1) := by decide +kernel
theorem dX12_isSquare_2 : decode cX12_isSquare 2 = .ok (.aload_n 0, 1) := by decide +kernel
theorem dX12_isSquare_3 : decode cX12_isSquare 3 = .ok (.invokevirtual 113, 3) := by decide +kernel
theorem dX12_isSquare_6 : decode cX12_isSquare 6 = .ok (.iconst 1, 1) := by decide +kernel
theorem dX12_isSquare_7 : decode cX12_isSquare 7 = .ok (.isub, 1) := by decide +kernel
theorem dX12_isSquare_8 : decode cX12_isSquare 8 = .ok (.invokestatic 117, 3) := by decide +kernel
theorem dX12_isSquare_11 : decode cX12_isSquare 11 = .ok (.ireturn, 1) := by decide +kernel
theorem dX12_ask_0 : decode cX12_ask 0 = .ok (.aload_n 0, 1) := by decide +kernel
theorem dX12_ask_1 : decode cX12_ask 1 = .ok (.aload_n 0, 1) := by decide +kernel
theorem dX12_ask_2 : decode cX12_ask 2 = .ok (.iload_n 1, 1) := by decide +kernel
theorem dX12_ask_3 : decode cX12_ask 3 = .ok (.invokevirtual 241, 3) := by decide +kernel
theorem dX12_ask_6 : decode cX12_ask 6 = .ok (.iconst 1, 1) := by decide +kernel
theorem dX12_ask_7 : decode cX12_ask 7 = .ok (.invokevirtual 237, 3) := by decide +kernel
theorem dX12_ask_10 : decode cX12_ask 10 = .ok (.ifCond .eq 18, 3) := by decide +kernel
theorem dX12_ask_13 : decode cX12_ask 13 = .ok (.aload_n 0, 1) := by decide +kernel
theorem dX12_ask_14 : decode cX12_ask 14 = .ok (.iload_n 2, 1) := by decide +kernel
theorem dX12_ask_15 : decode cX12_ask 15 = .ok (.iconst 0, 1) := by decide +kernel
theorem dX12_ask_16 : decode cX12_ask 16 = .ok (.bipush 15, 2) := by decide +kernel
theorem dX12_ask_18 : decode cX12_ask 18 = .ok (.invokestatic 117, 3) := by decide +kernel
theorem dX12_ask_21 : decode cX12_ask 21 = .ok (.iconst 2, 1) := by decide +kernel
theorem dX12_ask_22 : decode cX12_ask 22 = .ok (.invokevirtual 237, 3) := by decide +kernel
theorem dX12_ask_25 : decode cX12_ask 25 = .ok (.ifCond .ne 5, 3) := by decide +kernel
theorem dX12_ask_28 : decode cX12_ask 28 = .ok (.iconst 0, 1) := by decide +kernel
theorem dX12_ask_29 : decode cX12_ask 29 = .ok (.ireturn, 1) := by decide +kernel
theorem dX12_ask_30 : decode cX12_ask 30 = .ok (.aload_n 0, 1) := by decide +kernel
theorem dX12_ask_31 : decode cX12_ask 31 = .ok (.getfield 97, 3) := by decide +kernel
theorem dX12_ask_34 : decode cX12_ask 34 = .ok (.iload_n 1, 1) := by decide +kernel
theorem dX12_ask_35 : decode cX12_ask 35 = .ok (.iaload, 1) := by decide +kernel
theorem dX12_ask_36 : decode cX12_ask 36 = .ok (.istore_n 3, 1) := by decide +kernel
theorem dX12_ask_37 : decode cX12_ask 37 = .ok (.aload_n 0, 1) := by decide +kernel
theorem dX12_ask_38 : decode cX12_ask 38 = .ok (.getfield 97, 3) := by decide +kernel
theorem dX12_ask_41 : decode cX12_ask 41 = .ok (.iload_n 1, 1) := by decide +kernel
theorem dX12_ask_42 : decode cX12_ask 42 = .ok (.iload_n 2, 1) := by decide +kernel
theorem dX12_ask_43 : decode cX12_ask 43 = .ok (.iastore, 1) := by decide +kernel
theorem dX12_ask_44 : decode cX12_ask 44 = .ok (.iload_n 3, 1) := by decide +kernel
theorem dX12_ask_45 : decode cX12_ask 45 = .ok (.ireturn, 1) := by decide +kernel
theorem dX12_asked_0 : decode cX12_asked 0 = .ok (.aload_n 0, 1) := by decide +kernel
theorem dX12_asked_1 : decode cX12_asked 1 = .ok (.aload_n 0, 1) := by decide +kernel
theorem dX12_asked_2 : decode cX12_asked 2 = .ok (.getfield 69, 3) := by decide +kernel
theorem dX12_asked_5 : decode cX12_asked 5 = .ok (.iconst 0, 1) := by decide +kernel
theorem dX12_asked_6 : decode cX12_asked 6 = .ok (.iaload, 1) := by decide +kernel
theorem dX12_asked_7 : decode cX12_asked 7 = .ok (.ifCond .le 7, 3) := by decide +kernel
theorem dX12_asked_10 : decode cX12_asked 10 = .ok (.iconst 1, 1) := by decide +kernel
theorem dX12_asked_11 : decode cX12_asked 11 = .ok (.goto 4, 3) := by decide +kernel
theorem dX12_asked_14 : decode cX12_asked 14 = .ok (.iconst 0, 1) := by decide +kernel
theorem dX12_asked_15 : decode cX12_asked 15 = .ok (.iconst 1, 1) := by decide +kernel
theorem dX12_asked_16 : decode cX12_asked 16 = .ok (.invokevirtual 237, 3) := by decide +kernel
theorem dX12_asked_19 : decode cX12_asked 19 = .ok (.ifCond .eq 10, 3) := by decide +kernel
theorem dX12_asked_22 : decode cX12_asked 22 = .ok (.aload_n 0, 1) := by decide +kernel
theorem dX12_asked_23 : decode cX12_asked 23 = .ok (.invokevirtual 515, 3) := by decide +kernel
theorem dX12_asked_26 : decode cX12_asked 26 = .ok (.goto 4, 3) := by decide +kernel
theorem dX12_asked_29 : decode cX12_asked 29 = .ok (.iconst 0, 1) := by decide +kernel
theorem dX12_asked_30 : decode cX12_asked 30 = .ok (.ireturn, 1) := by decide +kernel
theorem dX12_isAhead_0 : decode cX12_isAhead 0 = .ok (.iconst 0, 1) := by decide +kernel
theorem dX12_isAhead_1 : decode cX12_isAhead 1 = .ok (.istore_n 3, 1) := by decide +kernel
theorem dX12_isAhead_2 : decode cX12_isAhead 2 = .ok (.iload_n 3, 1) := by decide +kernel
theorem dX12_isAhead_3 : decode cX12_isAhead 3 = .ok (.aload_n 0, 1) := by decide +kernel
theorem dX12_isAhead_4 : decode cX12_isAhead 4 = .ok (.getfield 51, 3) := by decide +kernel
theorem dX12_isAhead_7 : decode cX12_isAhead 7 = .ok (.iload_n 1, 1) := by decide +kernel
theorem dX12_isAhead_8 : decode cX12_isAhead 8 = .ok (.iaload, 1) := by decide +kernel
theorem dX12_isAhead_9 : decode cX12_isAhead 9 = .ok (.if_icmp .ge 44, 3) := by decide +kernel
theorem dX12_isAhead_12 : decode cX12_isAhead 12 = .ok (.iload_n 3, 1) := by decide +kernel
theorem dX12_isAhead_13 : decode cX12_isAhead 13 = .ok (.aload_n 0, 1) := by decide +kernel
theorem dX12_isAhead_14 : decode cX12_isAhead 14 = .ok (.getfield 51, 3) := by decide +kernel
theorem dX12_isAhead_17 : decode cX12_isAhead 17 = .ok (.iload_n 2, 1) := by decide +kernel
theorem dX12_isAhead_18 : decode cX12_isAhead 18 = .ok (.iaload, 1) := by decide +kernel
theorem dX12_isAhead_19 : decode cX12_isAhead 19 = .ok (.if_icmp .ge 34, 3) := by decide +kernel
theorem dX12_isAhead_22 : decode cX12_isAhead 22 = .ok (.aload_n 0, 1) := by decide +kernel
theorem dX12_isAhead_23 : decode cX12_isAhead 23 = .ok (.getfield 48, 3) := by decide +kernel
theorem dX12_isAhead_26 : decode cX12_isAhead 26 = .ok (.bipush 12, 2) := by decide +kernel
theorem dX12_isAhead_28 : decode cX12_isAhead 28 = .ok (.iload_n 1, 1) := by decide +kernel
theorem dX12_isAhead_29 : decode cX12_isAhead 29 = .ok (.imul, 1) := by decide +kernel
theorem dX12_isAhead_30 : decode cX12_isAhead 30 = .ok (.iload_n 3, 1) := by decide +kernel
theorem dX12_isAhead_31 : decode cX12_isAhead 31 = .ok (.iadd, 1) := by decide +kernel
theorem dX12_isAhead_32 : decode cX12_isAhead 32 = .ok (.iaload, 1) := by decide +kernel
theorem dX12_isAhead_33 : decode cX12_isAhead 33 = .ok (.aload_n 0, 1) := by decide +kernel
theorem dX12_isAhead_34 : decode cX12_isAhead 34 = .ok (.getfield 48, 3) := by decide +kernel
theorem dX12_isAhead_37 : decode cX12_isAhead 37 = .ok (.bipush 12, 2) := by decide +kernel
theorem dX12_isAhead_39 : decode cX12_isAhead 39 = .ok (.iload_n 2, 1) := by decide +kernel
theorem dX12_isAhead_40 : decode cX12_isAhead 40 = .ok (.imul, 1) := by decide +kernel
theorem dX12_isAhead_41 : decode cX12_isAhead 41 = .ok (.iload_n 3, 1) := by decide +kernel
theorem dX12_isAhead_42 : decode cX12_isAhead 42 = .ok (.iadd, 1) := by decide +kernel
theorem dX12_isAhead_43 : decode cX12_isAhead 43 = .ok (.iaload, 1) := by decide +kernel
theorem dX12_isAhead_44 : decode cX12_isAhead 44 = .ok (.if_icmp .ne 9, 3) := by decide +kernel
theorem dX12_isAhead_47 : decode cX12_isAhead 47 = .ok (.iinc 3 1, 3) := by decide +kernel
theorem dX12_isAhead_50 : decode cX12_isAhead 50 = .ok (.goto (-48), 3) := by decide +kernel
theorem dX12_isAhead_53 : decode cX12_isAhead 53 = .ok (.iload_n 3, 1) := by decide +kernel
theorem dX12_isAhead_54 : decode cX12_isAhead 54 = .ok (.aload_n 0, 1) := by decide +kernel
theorem dX12_isAhead_55 : decode cX12_isAhead 55 = .ok (.getfield 51, 3) := by decide +kernel
theorem dX12_isAhead_58 : decode cX12_isAhead 58 = .ok (.iload_n 1, 1) := by decide +kernel
theorem dX12_isAhead_59 : decode cX12_isAhead 59 = .ok (.iaload, 1) := by decide +kernel
theorem dX12_isAhead_60 : decode cX12_isAhead 60 = .ok (.if_icmp .eq 13, 3) := by decide +kernel
theorem dX12_isAhead_63 : decode cX12_isAhead 63 = .ok (.iload_n 3, 1) := by decide +kernel
theorem dX12_isAhead_64 : decode cX12_isAhead 64 = .ok (.aload_n 0, 1) := by decide +kernel
theorem dX12_isAhead_65 : decode cX12_isAhead 65 = .ok (.getfield 51, 3) := by decide +kernel
theorem dX12_isAhead_68 : decode cX12_isAhead 68 = .ok (.iload_n 2, 1) := by decide +kernel
theorem dX12_isAhead_69 : decode cX12_isAhead 69 = .ok (.iaload, 1) := by decide +kernel
theorem dX12_isAhead_70 : decode cX12_isAhead 70 = .ok (.if_icmp .ne 24, 3) := by decide +kernel
theorem dX12_isAhead_73 : decode cX12_isAhead 73 = .ok (.aload_n 0, 1) := by decide +kernel
theorem dX12_isAhead_74 : decode cX12_isAhead 74 = .ok (.getfield 51, 3) := by decide +kernel
theorem dX12_isAhead_77 : decode cX12_isAhead 77 = .ok (.iload_n 1, 1) := by decide +kernel
theorem dX12_isAhead_78 : decode cX12_isAhead 78 = .ok (.iaload, 1) := by decide +kernel
theorem dX12_isAhead_79 : decode cX12_isAhead 79 = .ok (.aload_n 0, 1) := by decide +kernel
theorem dX12_isAhead_80 : decode cX12_isAhead 80 = .ok (.getfield 51, 3) := by decide +kernel
theorem dX12_isAhead_83 : decode cX12_isAhead 83 = .ok (.iload_n 2, 1) := by decide +kernel
theorem dX12_isAhead_84 : decode cX12_isAhead 84 = .ok (.iaload, 1) := by decide +kernel
theorem dX12_isAhead_85 : decode cX12_isAhead 85 = .ok (.if_icmp .ge 7, 3) := by decide +kernel
theorem dX12_isAhead_88 : decode cX12_isAhead 88 = .ok (.iconst 1, 1) := by decide +kernel
theorem dX12_isAhead_89 : decode cX12_isAhead 89 = .ok (.goto 4, 3) := by decide +kernel
theorem dX12_isAhead_92 : decode cX12_isAhead 92 = .ok (.iconst 0, 1) := by decide +kernel
theorem dX12_isAhead_93 : decode cX12_isAhead 93 = .ok (.ireturn, 1) := by decide +kernel
theorem dX12_isAhead_94 : decode cX12_isAhead 94 = .ok (.aload_n 0, 1) := by decide +kernel
theorem dX12_isAhead_95 : decode cX12_isAhead 95 = .ok (.getfield 48, 3) := by decide +kernel
theorem dX12_isAhead_98 : decode cX12_isAhead 98 = .ok (.bipush 12, 2) := by decide +kernel
theorem dX12_isAhead_100 : decode cX12_isAhead 100 = .ok (.iload_n 1, 1) := by decide +kernel
theorem dX12_isAhead_101 : decode cX12_isAhead 101 = .ok (.imul, 1) := by decide +kernel
theorem dX12_isAhead_102 : decode cX12_isAhead 102 = .ok (.iload_n 3, 1) := by decide +kernel
theorem dX12_isAhead_103 : decode cX12_isAhead 103 = .ok (.iadd, 1) := by decide +kernel
theorem dX12_isAhead_104 : decode cX12_isAhead 104 = .ok (.iaload, 1) := by decide +kernel
theorem dX12_isAhead_105 : decode cX12_isAhead 105 = .ok (.aload_n 0, 1) := by decide +kernel
theorem dX12_isAhead_106 : decode cX12_isAhead 106 = .ok (.getfield 48, 3) := by decide +kernel
theorem dX12_isAhead_109 : decode cX12_isAhead 109 = .ok (.bipush 12, 2) := by decide +kernel
theorem dX12_isAhead_111 : decode cX12_isAhead 111 = .ok (.iload_n 2, 1) := by decide +kernel
theorem dX12_isAhead_112 : decode cX12_isAhead 112 = .ok (.imul, 1) := by decide +kernel
theorem dX12_isAhead_113 : decode cX12_isAhead 113 = .ok (.iload_n 3, 1) := by decide +kernel
theorem dX12_isAhead_114 : decode cX12_isAhead 114 = .ok (.iadd, 1) := by decide +kernel
theorem dX12_isAhead_115 : decode cX12_isAhead 115 = .ok (.iaload, 1) := by decide +kernel
theorem dX12_isAhead_116 : decode cX12_isAhead 116 = .ok (.if_icmp .ge 7, 3) := by decide +kernel
theorem dX12_isAhead_119 : decode cX12_isAhead 119 = .ok (.iconst 1, 1) := by decide +kernel
theorem dX12_isAhead_120 : decode cX12_isAhead 120 = .ok (.goto 4, 3) := by decide +kernel
theorem dX12_isAhead_123 : decode cX12_isAhead 123 = .ok (.iconst 0, 1) := by decide +kernel
theorem dX12_isAhead_124 : decode cX12_isAhead 124 = .ok (.ireturn, 1) := by decide +kernel
theorem dX12_placeInOrder_0 : decode cX12_placeInOrder 0 = .ok (.iconst 0, 1) := by decide +kernel
theorem dX12_placeInOrder_1 : decode cX12_placeInOrder 1 = .ok (.istore_n 2, 1) := by decide +kernel
theorem dX12_placeInOrder_2 : decode cX12_placeInOrder 2 = .ok (.iconst 0, 1) := by decide +kernel
theorem dX12_placeInOrder_3 : decode cX12_placeInOrder 3 = .ok (.istore_n 3, 1) := by decide +kernel
theorem dX12_placeInOrder_4 : decode cX12_placeInOrder 4 = .ok (.iload_n 3, 1) := by decide +kernel
theorem dX12_placeInOrder_5 : decode cX12_placeInOrder 5 = .ok (.aload_n 0, 1) := by decide +kernel
theorem dX12_placeInOrder_6 : decode cX12_placeInOrder 6 = .ok (.getfield 29, 3) := by decide +kernel
theorem dX12_placeInOrder_9 : decode cX12_placeInOrder 9 = .ok (.iconst 0, 1) := by decide +kernel
theorem dX12_placeInOrder_10 : decode cX12_placeInOrder 10 = .ok (.iaload, 1) := by decide +kernel
theorem dX12_placeInOrder_11 : decode cX12_placeInOrder 11 = .ok (.if_icmp .ge 40, 3) := by decide +kernel
theorem dX12_placeInOrder_14 : decode cX12_placeInOrder 14 = .ok (.iload_n 2, 1) := by decide +kernel
theorem dX12_placeInOrder_15 : decode cX12_placeInOrder 15 = .ok (.iload_n 3, 1) := by decide +kernel
theorem dX12_placeInOrder_16 : decode cX12_placeInOrder 16 = .ok (.iload_n 1, 1) := by decide +kernel
theorem dX12_placeInOrder_17 : decode cX12_placeInOrder 17 = .ok (.if_icmp .eq 25, 3) := by decide +kernel
theorem dX12_placeInOrder_20 : decode cX12_placeInOrder 20 = .ok (.aload_n 0, 1) := by decide +kernel
theorem dX12_placeInOrder_21 : decode cX12_placeInOrder 21 = .ok (.getfield 54, 3) := by decide +kernel
theorem dX12_placeInOrder_24 : decode cX12_placeInOrder 24 = .ok (.iload_n 3, 1) := by decide +kernel
theorem dX12_placeInOrder_25 : decode cX12_placeInOrder 25 = .ok (.iaload, 1) := by decide +kernel
theorem dX12_placeInOrder_26 : decode cX12_placeInOrder 26 = .ok (.ifCond .le 16, 3) := by decide +kernel
theorem dX12_placeInOrder_29 : decode cX12_placeInOrder 29 = .ok (.aload_n 0, 1) := by decide +kernel
theorem dX12_placeInOrder_30 : decode cX12_placeInOrder 30 = .ok (.iload_n 3, 1) := by decide +kernel
theorem dX12_placeInOrder_31 : decode cX12_placeInOrder 31 = .ok (.iload_n 1, 1) := by decide +kernel
theorem dX12_placeInOrder_32 : decode cX12_placeInOrder 32 = .ok (.invokevirtual 437, 3) := by decide +kernel
theorem dX12_placeInOrder_35 : decode cX12_placeInOrder 35 = .ok (.ifCond .eq 7, 3) := by decide +kernel
theorem dX12_placeInOrder_38 : decode cX12_placeInOrder 38 = .ok (.iconst 1, 1) := by decide +kernel
theorem dX12_placeInOrder_39 : decode cX12_placeInOrder 39 = .ok (.goto 4, 3) := by decide +kernel
theorem dX12_placeInOrder_42 : decode cX12_placeInOrder 42 = .ok (.iconst 0, 1) := by decide +kernel
theorem dX12_placeInOrder_43 : decode cX12_placeInOrder 43 = .ok (.iadd, 1) := by decide +kernel
theorem dX12_placeInOrder_44 : decode cX12_placeInOrder 44 = .ok (.istore_n 2, 1) := by decide +kernel
theorem dX12_placeInOrder_45 : decode cX12_placeInOrder 45 = .ok (.iinc 3 1, 3) := by decide +kernel
theorem dX12_placeInOrder_48 : decode cX12_placeInOrder 48 = .ok (.goto (-44), 3) := by decide +kernel
theorem dX12_placeInOrder_51 : decode cX12_placeInOrder 51 = .ok (.iload_n 2, 1) := by decide +kernel
theorem dX12_placeInOrder_52 : decode cX12_placeInOrder 52 = .ok (.ireturn, 1) := by decide +kernel
theorem dX12_continuation_0 : decode cX12_continuation 0 = .ok (.iconst 0, 1) := by decide +kernel
theorem dX12_continuation_1 : decode cX12_continuation 1 = .ok (.istore_n 2, 1) := by decide +kernel
theorem dX12_continuation_2 : decode cX12_continuation 2 = .ok (.iload_n 2, 1) := by decide +kernel
theorem dX12_continuation_3 : decode cX12_continuation 3 = .ok (.aload_n 0, 1) := by decide +kernel
theorem dX12_continuation_4 : decode cX12_continuation 4 = .ok (.getfield 29, 3) := by decide +kernel
theorem dX12_continuation_7 : decode cX12_continuation 7 = .ok (.iconst 0, 1) := by decide +kernel
theorem dX12_continuation_8 : decode cX12_continuation 8 = .ok (.iaload, 1) := by decide +kernel
theorem dX12_continuation_9 : decode cX12_continuation 9 = .ok (.if_icmp .ge 29, 3) := by decide +kernel
theorem dX12_continuation_12 : decode cX12_continuation 12 = .ok (.aload_n 0, 1) := by decide +kernel
theorem dX12_continuation_13 : decode cX12_continuation 13 = .ok (.getfield 54, 3) := by decide +kernel
theorem dX12_continuation_16 : decode cX12_continuation 16 = .ok (.iload_n 2, 1) := by decide +kernel
theorem dX12_continuation_17 : decode cX12_continuation 17 = .ok (.iaload, 1) := by decide +kernel
theorem dX12_continuation_18 : decode cX12_continuation 18 = .ok (.ifCond .le 14, 3) := by decide +kernel
theorem dX12_continuation_21 : decode cX12_continuation 21 = .ok (.aload_n 0, 1) := by decide +kernel
theorem dX12_continuation_22 : decode cX12_continuation 22 = .ok (.iload_n 2, 1) := by decide +kernel
theorem dX12_continuation_23 : decode cX12_continuation 23 = .ok (.invokevirtual 440, 3) := by decide +kernel
theorem dX12_continuation_26 : decode cX12_continuation 26 = .ok (.iload_n 1, 1) := by decide +kernel
theorem dX12_continuation_27 : decode cX12_continuation 27 = .ok (.if_icmp .ne 5, 3) := by decide +kernel
theorem dX12_continuation_30 : decode cX12_continuation 30 = .ok (.iload_n 2, 1) := by decide +kernel
theorem dX12_continuation_31 : decode cX12_continuation 31 = .ok (.ireturn, 1) := by decide +kernel
theorem dX12_continuation_32 : decode cX12_continuation 32 = .ok (.iinc 2 1, 3) := by decide +kernel
theorem dX12_continuation_35 : decode cX12_continuation 35 = .ok (.goto (-33), 3) := by decide +kernel
theorem dX12_continuation_38 : decode cX12_continuation 38 = .ok (.iconst (-1), 1) := by decide +kernel
theorem dX12_continuation_39 : decode cX12_continuation 39 = .ok (.ireturn, 1) := by decide +kernel
theorem dX12_codeOf_0 : decode cX12_codeOf 0 = .ok (.sipush 4096, 3) := by decide +kernel
theorem dX12_codeOf_3 : decode cX12_codeOf 3 = .ok (.aload_n 0, 1) := by decide +kernel
theorem dX12_codeOf_4 : decode cX12_codeOf 4 = .ok (.getfield 26, 3) := by decide +kernel
theorem dX12_codeOf_7 : decode cX12_codeOf 7 = .ok (.iload_n 1, 1) := by decide +kernel
theorem dX12_codeOf_8 : decode cX12_codeOf 8 = .ok (.iaload, 1) := by decide +kernel
theorem dX12_codeOf_9 : decode cX12_codeOf 9 = .ok (.imul, 1) := by decide +kernel
theorem dX12_codeOf_10 : decode cX12_codeOf 10 = .ok (.bipush 64, 2) := by decide +kernel
theorem dX12_codeOf_12 : decode cX12_codeOf 12 = .ok (.aload_n 0, 1) := by decide +kernel
theorem dX12_codeOf_13 : decode cX12_codeOf 13 = .ok (.getfield 20, 3) := by decide +kernel
theorem dX12_codeOf_16 : decode cX12_codeOf 16 = .ok (.iload_n 1, 1) := by decide +kernel
theorem dX12_codeOf_17 : decode cX12_codeOf 17 = .ok (.iaload, 1) := by decide +kernel
theorem dX12_codeOf_18 : decode cX12_codeOf 18 = .ok (.imul, 1) := by decide +kernel
theorem dX12_codeOf_19 : decode cX12_codeOf 19 = .ok (.iadd, 1) := by decide +kernel
theorem dX12_codeOf_20 : decode cX12_codeOf 20 = .ok (.aload_n 0, 1) := by decide +kernel
theorem dX12_codeOf_21 : decode cX12_codeOf 21 = .ok (.getfield 23, 3) := by decide +kernel
theorem dX12_codeOf_24 : decode cX12_codeOf 24 = .ok (.iload_n 1, 1) := by decide +kernel
theorem dX12_codeOf_25 : decode cX12_codeOf 25 = .ok (.iaload, 1) := by decide +kernel
theorem dX12_codeOf_26 : decode cX12_codeOf 26 = .ok (.iadd, 1) := by decide +kernel
theorem dX12_codeOf_27 : decode cX12_codeOf 27 = .ok (.ireturn, 1) := by decide +kernel
theorem dX12_madeHere_0 : decode cX12_madeHere 0 = .ok (.iconst 0, 1) := by decide +kernel
theorem dX12_madeHere_1 : decode cX12_madeHere 1 = .ok (.istore 4, 2) := by decide +kernel
theorem dX12_madeHere_3 : decode cX12_madeHere 3 = .ok (.iload 4, 2) := by decide +kernel
theorem dX12_madeHere_5 : decode cX12_madeHere 5 = .ok (.aload_n 0, 1) := by decide +kernel
theorem dX12_madeHere_6 : decode cX12_madeHere 6 = .ok (.getfield 79, 3) := by decide +kernel
theorem dX12_madeHere_9 : decode cX12_madeHere 9 = .ok (.iload_n 1, 1) := by decide +kernel
theorem dX12_madeHere_10 : decode cX12_madeHere 10 = .ok (.iload_n 2, 1) := by decide +kernel
theorem dX12_madeHere_11 : decode cX12_madeHere 11 = .ok (.invokestatic 400, 3) := by decide +kernel
theorem dX12_madeHere_14 : decode cX12_madeHere 14 = .ok (.iaload, 1) := by decide +kernel
theorem dX12_madeHere_15 : decode cX12_madeHere 15 = .ok (.if_icmp .ge 56, 3) := by decide +kernel
theorem dX12_madeHere_18 : decode cX12_madeHere 18 = .ok (.aload_n 0, 1) := by decide +kernel
theorem dX12_madeHere_19 : decode cX12_madeHere 19 = .ok (.getfield 76, 3) := by decide +kernel
theorem dX12_madeHere_22 : decode cX12_madeHere 22 = .ok (.bipush 80, 2) := by decide +kernel
theorem dX12_madeHere_24 : decode cX12_madeHere 24 = .ok (.iload_n 1, 1) := by decide +kernel
theorem dX12_madeHere_25 : decode cX12_madeHere 25 = .ok (.iload_n 2, 1) := by decide +kernel
theorem dX12_madeHere_26 : decode cX12_madeHere 26 = .ok (.invokestatic 400, 3) := by decide +kernel
theorem dX12_madeHere_29 : decode cX12_madeHere 29 = .ok (.imul, 1) := by decide +kernel
theorem dX12_madeHere_30 : decode cX12_madeHere 30 = .ok (.iload 4, 2) := by decide +kernel
theorem dX12_madeHere_32 : decode cX12_madeHere 32 = .ok (.iadd, 1) := by decide +kernel
theorem dX12_madeHere_33 : decode cX12_madeHere 33 = .ok (.iaload, 1) := by decide +kernel
theorem dX12_madeHere_34 : decode cX12_madeHere 34 = .ok (.iload_n 3, 1) := by decide +kernel
theorem dX12_madeHere_35 : decode cX12_madeHere 35 = .ok (.if_icmp .ne 30, 3) := by decide +kernel
theorem dX12_madeHere_38 : decode cX12_madeHere 38 = .ok (.aload_n 0, 1) := by decide +kernel
theorem dX12_madeHere_39 : decode cX12_madeHere 39 = .ok (.getfield 73, 3) := by decide +kernel
theorem dX12_madeHere_42 : decode cX12_madeHere 42 = .ok (.iload_n 1, 1) := by decide +kernel
theorem dX12_madeHere_43 : decode cX12_madeHere 43 = .ok (.iload_n 2, 1) := by decide +kernel
theorem dX12_madeHere_44 : decode cX12_madeHere 44 = .ok (.iload 4, 2) := by decide +kernel
theorem dX12_madeHere_46 : decode cX12_madeHere 46 = .ok (.invokestatic 403, 3) := by decide +kernel
theorem dX12_madeHere_49 : decode cX12_madeHere 49 = .ok (.aload_n 0, 1) := by decide +kernel
theorem dX12_madeHere_50 : decode cX12_madeHere 50 = .ok (.getfield 32, 3) := by decide +kernel
theorem dX12_madeHere_53 : decode cX12_madeHere 53 = .ok (.aload_n 0, 1) := by decide +kernel
theorem dX12_madeHere_54 : decode cX12_madeHere 54 = .ok (.invokevirtual 127, 3) := by decide +kernel
theorem dX12_madeHere_57 : decode cX12_madeHere 57 = .ok (.invokestatic 330, 3) := by decide +kernel
theorem dX12_madeHere_60 : decode cX12_madeHere 60 = .ok (.ifCond .eq 5, 3) := by decide +kernel
theorem dX12_madeHere_63 : decode cX12_madeHere 63 = .ok (.iconst 1, 1) := by decide +kernel
theorem dX12_madeHere_64 : decode cX12_madeHere 64 = .ok (.ireturn, 1) := by decide +kernel
theorem dX12_madeHere_65 : decode cX12_madeHere 65 = .ok (.iinc 4 1, 3) := by decide +kernel
theorem dX12_madeHere_68 : decode cX12_madeHere 68 = .ok (.goto (-65), 3) := by decide +kernel
theorem dX12_madeHere_71 : decode cX12_madeHere 71 = .ok (.iconst 0, 1) := by decide +kernel
theorem dX12_madeHere_72 : decode cX12_madeHere 72 = .ok (.ireturn, 1) := by decide +kernel
theorem dX12_spellsWhole_0 : decode cX12_spellsWhole 0 = .ok (.aload_n 0, 1) := by decide +kernel
theorem dX12_spellsWhole_1 : decode cX12_spellsWhole 1 = .ok (.iload_n 1, 1) := by decide +kernel
theorem dX12_spellsWhole_2 : decode cX12_spellsWhole 2 = .ok (.invokevirtual 312, 3) := by decide +kernel
theorem dX12_spellsWhole_5 : decode cX12_spellsWhole 5 = .ok (.aload_n 0, 1) := by decide +kernel
theorem dX12_spellsWhole_6 : decode cX12_spellsWhole 6 = .ok (.iload_n 1, 1) := by decide +kernel
theorem dX12_spellsWhole_7 : decode cX12_spellsWhole 7 = .ok (.invokevirtual 315, 3) := by decide +kernel
theorem dX12_spellsWhole_10 : decode cX12_spellsWhole 10 = .ok (.istore_n 2, 1) := by decide +kernel
theorem dX12_spellsWhole_11 : decode cX12_spellsWhole 11 = .ok (.iload_n 2, 1) := by decide +kernel
theorem dX12_spellsWhole_12 : decode cX12_spellsWhole 12 = .ok (.ifCond .eq 9, 3) := by decide +kernel
theorem dX12_spellsWhole_15 : decode cX12_spellsWhole 15 = .ok (.aload_n 0, 1) := by decide +kernel
theorem dX12_spellsWhole_16 : decode cX12_spellsWhole 16 = .ok (.iload_n 1, 1) := by decide +kernel
theorem dX12_spellsWhole_17 : decode cX12_spellsWhole 17 = .ok (.iload_n 2, 1) := by decide +kernel
theorem dX12_spellsWhole_18 : decode cX12_spellsWhole 18 = .ok (.invokevirtual 296, 3) := by decide +kernel
theorem dX12_spellsWhole_21 : decode cX12_spellsWhole 21 = .ok (.return_, 1) := by decide +kernel
theorem dX12_laysContinuations_0 : decode cX12_laysContinuations 0 = .ok (.aload_n 0, 1) := by decide +kernel
theorem dX12_laysContinuations_1 : decode cX12_laysContinuations 1 = .ok (.invokevirtual 192, 3) := by decide +kernel
theorem dX12_laysContinuations_4 : decode cX12_laysContinuations 4 = .ok (.aload_n 0, 1) := by decide +kernel
theorem dX12_laysContinuations_5 : decode cX12_laysContinuations 5 = .ok (.iconst 0, 1) := by decide +kernel
theorem dX12_laysContinuations_6 : decode cX12_laysContinuations 6 = .ok (.invokevirtual 233, 3) := by decide +kernel
theorem dX12_laysContinuations_9 : decode cX12_laysContinuations 9 = .ok (.iconst 0, 1) := by decide +kernel
theorem dX12_laysContinuations_10 : decode cX12_laysContinuations 10 = .ok (.istore_n 2, 1) := by decide +kernel
theorem dX12_laysContinuations_11 : decode cX12_laysContinuations 11 = .ok (.iload_n 2, 1) := by decide +kernel
theorem dX12_laysContinuations_12 : decode cX12_laysContinuations 12 = .ok (.aload_n 0, 1) := by decide +kernel
theorem dX12_laysContinuations_13 : decode cX12_laysContinuations 13 = .ok (.getfield 29, 3) := by decide +kernel
theorem dX12_laysContinuations_16 : decode cX12_laysContinuations 16 = .ok (.iconst 0, 1) := by decide +kernel
theorem dX12_laysContinuations_17 : decode cX12_laysContinuations 17 = .ok (.iaload, 1) := by decide +kernel
theorem dX12_laysContinuations_18 : decode cX12_laysContinuations 18 = .ok (.if_icmp .ge 76, 3) := by decide +kernel
theorem dX12_laysContinuations_21 : decode cX12_laysContinuations 21 = .ok (.aload_n 0, 1) := by decide +kernel
theorem dX12_laysContinuations_22 : decode cX12_laysContinuations 22 = .ok (.getfield 54, 3) := by decide +kernel
theorem dX12_laysContinuations_25 : decode cX12_laysContinuations 25 = .ok (.iload_n 2, 1) := by decide +kernel
theorem dX12_laysContinuations_26 : decode cX12_laysContinuations 26 = .ok (.iconst 0, 1) := by decide +kernel
theorem dX12_laysContinuations_27 : decode cX12_laysContinuations 27 = .ok (.iastore, 1) := by decide +kernel
theorem dX12_laysContinuations_28 : decode cX12_laysContinuations 28 = .ok (.iconst 0, 1) := by decide +kernel
theorem dX12_laysContinuations_29 : decode cX12_laysContinuations 29 = .ok (.istore_n 3, 1) := by decide +kernel
theorem dX12_laysContinuations_30 : decode cX12_laysContinuations 30 = .ok (.iload_n 3, 1) := by decide +kernel
theorem dX12_laysContinuations_31 : decode cX12_laysContinuations 31 = .ok (.aload_n 0, 1) := by decide +kernel
theorem dX12_laysContinuations_32 : decode cX12_laysContinuations 32 = .ok (.getfield 69, 3) := by decide +kernel
theorem dX12_laysContinuations_35 : decode cX12_laysContinuations 35 = .ok (.iload_n 1, 1) := by decide +kernel
theorem dX12_laysContinuations_36 : decode cX12_laysContinuations 36 = .ok (.iaload, 1) := by decide +kernel
theorem dX12_laysContinuations_37 : decode cX12_laysContinuations 37 = .ok (.if_icmp .ge 37, 3) := by decide +kernel
theorem dX12_laysContinuations_40 : decode cX12_laysContinuations 40 = .ok (.aload_n 0, 1) := by decide +kernel
theorem dX12_laysContinuations_41 : decode cX12_laysContinuations 41 = .ok (.getfield 54, 3) := by decide +kernel
theorem dX12_laysContinuations_44 : decode cX12_laysContinuations 44 = .ok (.iload_n 2, 1) := by decide +kernel
theorem dX12_laysContinuations_45 : decode cX12_laysContinuations 45 = .ok (.dup2, 1) := by decide +kernel
theorem dX12_laysContinuations_46 : decode cX12_laysContinuations 46 = .ok (.iaload, 1) := by decide +kernel
theorem dX12_laysContinuations_47 : decode cX12_laysContinuations 47 = .ok (.aload_n 0, 1) := by decide +kernel
theorem dX12_laysContinuations_48 : decode cX12_laysContinuations 48 = .ok (.iload_n 1, 1) := by decide +kernel
theorem dX12_laysContinuations_49 : decode cX12_laysContinuations 49 = .ok (.iload_n 3, 1) := by decide +kernel
theorem dX12_laysContinuations_50 : decode cX12_laysContinuations 50 = .ok (.aload_n 0, 1) := by decide +kernel
theorem dX12_laysContinuations_51 : decode cX12_laysContinuations 51 = .ok (.iload_n 2, 1) := by decide +kernel
theorem dX12_laysContinuations_52 : decode cX12_laysContinuations 52 = .ok (.invokevirtual 321, 3) := by decide +kernel
theorem dX12_laysContinuations_55 : decode cX12_laysContinuations 55 = .ok (.invokevirtual 434, 3) := by decide +kernel
theorem dX12_laysContinuations_58 : decode cX12_laysContinuations 58 = .ok (.ifCond .eq 7, 3) := by decide +kernel
theorem dX12_laysContinuations_61 : decode cX12_laysContinuations 61 = .ok (.iconst 1, 1) := by decide +kernel
theorem dX12_laysContinuations_62 : decode cX12_laysContinuations 62 = .ok (.goto 4, 3) := by decide +kernel
theorem dX12_laysContinuations_65 : decode cX12_laysContinuations 65 = .ok (.iconst 0, 1) := by decide +kernel
theorem dX12_laysContinuations_66 : decode cX12_laysContinuations 66 = .ok (.iadd, 1) := by decide +kernel
theorem dX12_laysContinuations_67 : decode cX12_laysContinuations 67 = .ok (.iastore, 1) := by decide +kernel
theorem dX12_laysContinuations_68 : decode cX12_laysContinuations 68 = .ok (.iinc 3 1, 3) := by decide +kernel
theorem dX12_laysContinuations_71 : decode cX12_laysContinuations 71 = .ok (.goto (-41), 3) := by decide +kernel
theorem dX12_laysContinuations_74 : decode cX12_laysContinuations 74 = .ok (.aload_n 0, 1) := by decide +kernel
theorem dX12_laysContinuations_75 : decode cX12_laysContinuations 75 = .ok (.getfield 54, 3) := by decide +kernel
theorem dX12_laysContinuations_78 : decode cX12_laysContinuations 78 = .ok (.iload_n 2, 1) := by decide +kernel
theorem dX12_laysContinuations_79 : decode cX12_laysContinuations 79 = .ok (.iaload, 1) := by decide +kernel
theorem dX12_laysContinuations_80 : decode cX12_laysContinuations 80 = .ok (.ifCond .le 8, 3) := by decide +kernel
theorem dX12_laysContinuations_83 : decode cX12_laysContinuations 83 = .ok (.aload_n 0, 1) := by decide +kernel
theorem dX12_laysContinuations_84 : decode cX12_laysContinuations 84 = .ok (.iload_n 2, 1) := by decide +kernel
theorem dX12_laysContinuations_85 : decode cX12_laysContinuations 85 = .ok (.invokevirtual 318, 3) := by decide +kernel
theorem dX12_laysContinuations_88 : decode cX12_laysContinuations 88 = .ok (.iinc 2 1, 3) := by decide +kernel
theorem dX12_laysContinuations_91 : decode cX12_laysContinuations 91 = .ok (.goto (-80), 3) := by decide +kernel
theorem dX12_laysContinuations_94 : decode cX12_laysContinuations 94 = .ok (.return_, 1) := by decide +kernel
theorem dX12_asksContinuation_0 : decode cX12_asksContinuation 0 = .ok (.aload_n 0, 1) := by decide +kernel
theorem dX12_asksContinuation_1 : decode cX12_asksContinuation 1 = .ok (.aload_n 0, 1) := by decide +kernel
theorem dX12_asksContinuation_2 : decode cX12_asksContinuation 2 = .ok (.invokevirtual 284, 3) := by decide +kernel
theorem dX12_asksContinuation_5 : decode cX12_asksContinuation 5 = .ok (.iconst 1, 1) := by decide +kernel
theorem dX12_asksContinuation_6 : decode cX12_asksContinuation 6 = .ok (.invokevirtual 237, 3) := by decide +kernel
theorem dX12_asksContinuation_9 : decode cX12_asksContinuation 9 = .ok (.ifCond .eq 15, 3) := by decide +kernel
theorem dX12_asksContinuation_12 : decode cX12_asksContinuation 12 = .ok (.aload_n 0, 1) := by decide +kernel
theorem dX12_asksContinuation_13 : decode cX12_asksContinuation 13 = .ok (.iload_n 1, 1) := by decide +kernel
theorem dX12_asksContinuation_14 : decode cX12_asksContinuation 14 = .ok (.invokestatic 397, 3) := by decide +kernel
theorem dX12_asksContinuation_17 : decode cX12_asksContinuation 17 = .ok (.iconst 2, 1) := by decide +kernel
theorem dX12_asksContinuation_18 : decode cX12_asksContinuation 18 = .ok (.invokevirtual 237, 3) := by decide +kernel
theorem dX12_asksContinuation_21 : decode cX12_asksContinuation 21 = .ok (.ifCond .ne 5, 3) := by decide +kernel
theorem dX12_asksContinuation_24 : decode cX12_asksContinuation 24 = .ok (.iconst (-1), 1) := by decide +kernel
theorem dX12_asksContinuation_25 : decode cX12_asksContinuation 25 = .ok (.ireturn, 1) := by decide +kernel
theorem dX12_asksContinuation_26 : decode cX12_asksContinuation 26 = .ok (.aload_n 0, 1) := by decide +kernel
theorem dX12_asksContinuation_27 : decode cX12_asksContinuation 27 = .ok (.iload_n 1, 1) := by decide +kernel
theorem dX12_asksContinuation_28 : decode cX12_asksContinuation 28 = .ok (.invokevirtual 443, 3) := by decide +kernel
theorem dX12_asksContinuation_31 : decode cX12_asksContinuation 31 = .ok (.aload_n 0, 1) := by decide +kernel
theorem dX12_asksContinuation_32 : decode cX12_asksContinuation 32 = .ok (.iload_n 2, 1) := by decide +kernel
theorem dX12_asksContinuation_33 : decode cX12_asksContinuation 33 = .ok (.invokevirtual 449, 3) := by decide +kernel
theorem dX12_asksContinuation_36 : decode cX12_asksContinuation 36 = .ok (.istore_n 3, 1) := by decide +kernel
theorem dX12_asksContinuation_37 : decode cX12_asksContinuation 37 = .ok (.aload_n 0, 1) := by decide +kernel
theorem dX12_asksContinuation_38 : decode cX12_asksContinuation 38 = .ok (.iload_n 3, 1) := by decide +kernel
theorem dX12_asksContinuation_39 : decode cX12_asksContinuation 39 = .ok (.iconst (-1), 1) := by decide +kernel
theorem dX12_asksContinuation_40 : decode cX12_asksContinuation 40 = .ok (.if_icmp .eq 7, 3) := by decide +kernel
theorem dX12_asksContinuation_43 : decode cX12_asksContinuation 43 = .ok (.iconst 1, 1) := by decide +kernel
theorem dX12_asksContinuation_44 : decode cX12_asksContinuation 44 = .ok (.goto 4, 3) := by decide +kernel
theorem dX12_asksContinuation_47 : decode cX12_asksContinuation 47 = .ok (.iconst 0, 1) := by decide +kernel
theorem dX12_asksContinuation_48 : decode cX12_asksContinuation 48 = .ok (.iconst 2, 1) := by decide +kernel
theorem dX12_asksContinuation_49 : decode cX12_asksContinuation 49 = .ok (.invokevirtual 237, 3) := by decide +kernel
theorem dX12_asksContinuation_52 : decode cX12_asksContinuation 52 = .ok (.ifCond .eq 7, 3) := by decide +kernel
theorem dX12_asksContinuation_55 : decode cX12_asksContinuation 55 = .ok (.iload_n 3, 1) := by decide +kernel
theorem dX12_asksContinuation_56 : decode cX12_asksContinuation 56 = .ok (.goto 4, 3) := by decide +kernel
theorem dX12_asksContinuation_59 : decode cX12_asksContinuation 59 = .ok (.iconst (-1), 1) := by decide +kernel
theorem dX12_asksContinuation_60 : decode cX12_asksContinuation 60 = .ok (.ireturn, 1) := by decide +kernel
theorem dX12_checkers_0 : decode cX12_checkers 0 = .ok (.aload_n 0, 1) := by decide +kernel
theorem dX12_checkers_1 : decode cX12_checkers 1 = .ok (.aload_n 0, 1) := by decide +kernel
theorem dX12_checkers_2 : decode cX12_checkers 2 = .ok (.invokevirtual 284, 3) := by decide +kernel
theorem dX12_checkers_5 : decode cX12_checkers 5 = .ok (.iconst 1, 1) := by decide +kernel
theorem dX12_checkers_6 : decode cX12_checkers 6 = .ok (.invokevirtual 237, 3) := by decide +kernel
theorem dX12_checkers_9 : decode cX12_checkers 9 = .ok (.ifCond .ne 5, 3) := by decide +kernel
theorem dX12_checkers_12 : decode cX12_checkers 12 = .ok (.iconst 0, 1) := by decide +kernel
theorem dX12_checkers_13 : decode cX12_checkers 13 = .ok (.ireturn, 1) := by decide +kernel
theorem dX12_checkers_14 : decode cX12_checkers 14 = .ok (.aload_n 0, 1) := by decide +kernel
theorem dX12_checkers_15 : decode cX12_checkers 15 = .ok (.iconst 0, 1) := by decide +kernel
theorem dX12_checkers_16 : decode cX12_checkers 16 = .ok (.invokevirtual 183, 3) := by decide +kernel
theorem dX12_checkers_19 : decode cX12_checkers 19 = .ok (.istore_n 1, 1) := by decide +kernel
theorem dX12_checkers_20 : decode cX12_checkers 20 = .ok (.aload_n 0, 1) := by decide +kernel
theorem dX12_checkers_21 : decode cX12_checkers 21 = .ok (.iconst 0, 1) := by decide +kernel
theorem dX12_checkers_22 : decode cX12_checkers 22 = .ok (.iload_n 1, 1) := by decide +kernel
theorem dX12_checkers_23 : decode cX12_checkers 23 = .ok (.invokevirtual 164, 3) := by decide +kernel
theorem dX12_checkers_26 : decode cX12_checkers 26 = .ok (.istore_n 2, 1) := by decide +kernel
theorem dX12_checkers_27 : decode cX12_checkers 27 = .ok (.iconst 0, 1) := by decide +kernel
theorem dX12_checkers_28 : decode cX12_checkers 28 = .ok (.istore_n 3, 1) := by decide +kernel
theorem dX12_checkers_29 : decode cX12_checkers 29 = .ok (.iconst 0, 1) := by decide +kernel
theorem dX12_checkers_30 : decode cX12_checkers 30 = .ok (.istore 4, 2) := by decide +kernel
theorem dX12_checkers_32 : decode cX12_checkers 32 = .ok (.iload 4, 2) := by decide +kernel
theorem dX12_checkers_34 : decode cX12_checkers 34 = .ok (.aload_n 0, 1) := by decide +kernel
theorem dX12_checkers_35 : decode cX12_checkers 35 = .ok (.invokevirtual 113, 3) := by decide +kernel
theorem dX12_checkers_38 : decode cX12_checkers 38 = .ok (.if_icmp .ge 44, 3) := by decide +kernel
theorem dX12_checkers_41 : decode cX12_checkers 41 = .ok (.iload_n 3, 1) := by decide +kernel
theorem dX12_checkers_42 : decode cX12_checkers 42 = .ok (.aload_n 0, 1) := by decide +kernel
theorem dX12_checkers_43 : decode cX12_checkers 43 = .ok (.iconst 0, 1) := by decide +kernel
theorem dX12_checkers_44 : decode cX12_checkers 44 = .ok (.iload 4, 2) := by decide +kernel
theorem dX12_checkers_46 : decode cX12_checkers 46 = .ok (.invokevirtual 141, 3) := by decide +kernel
theorem dX12_checkers_49 : decode cX12_checkers 49 = .ok (.iconst 1, 1) := by decide +kernel
theorem dX12_checkers_50 : decode cX12_checkers 50 = .ok (.iload_n 1, 1) := by decide +kernel
theorem dX12_checkers_51 : decode cX12_checkers 51 = .ok (.isub, 1) := by decide +kernel
theorem dX12_checkers_52 : decode cX12_checkers 52 = .ok (.invokestatic 154, 3) := by decide +kernel
theorem dX12_checkers_55 : decode cX12_checkers 55 = .ok (.ifCond .eq 18, 3) := by decide +kernel
theorem dX12_checkers_58 : decode cX12_checkers 58 = .ok (.aload_n 0, 1) := by decide +kernel
theorem dX12_checkers_59 : decode cX12_checkers 59 = .ok (.iconst 0, 1) := by decide +kernel
theorem dX12_checkers_60 : decode cX12_checkers 60 = .ok (.iload 4, 2) := by decide +kernel
theorem dX12_checkers_62 : decode cX12_checkers 62 = .ok (.iload_n 2, 1) := by decide +kernel
theorem dX12_checkers_63 : decode cX12_checkers 63 = .ok (.invokevirtual 158, 3) := by decide +kernel
theorem dX12_checkers_66 : decode cX12_checkers 66 = .ok (.ifCond .eq 7, 3) := by decide +kernel
theorem dX12_checkers_69 : decode cX12_checkers 69 = .ok (.iconst 1, 1) := by decide +kernel
theorem dX12_checkers_70 : decode cX12_checkers 70 = .ok (.goto 4, 3) := by decide +kernel
theorem dX12_checkers_73 : decode cX12_checkers 73 = .ok (.iconst 0, 1) := by decide +kernel
theorem dX12_checkers_74 : decode cX12_checkers 74 = .ok (.iadd, 1) := by decide +kernel
theorem dX12_checkers_75 : decode cX12_checkers 75 = .ok (.istore_n 3, 1) := by decide +kernel
theorem dX12_checkers_76 : decode cX12_checkers 76 = .ok (.iinc 4 1, 3) := by decide +kernel
theorem dX12_checkers_79 : decode cX12_checkers 79 = .ok (.goto (-47), 3) := by decide +kernel
theorem dX12_checkers_82 : decode cX12_checkers 82 = .ok (.iload_n 3, 1) := by decide +kernel
theorem dX12_checkers_83 : decode cX12_checkers 83 = .ok (.ireturn, 1) := by decide +kernel
theorem dX12_clearText_0 : decode cX12_clearText 0 = .ok (.aload_n 0, 1) := by decide +kernel
theorem dX12_clearText_1 : decode cX12_clearText 1 = .ok (.iconst 0, 1) := by decide +kernel
theorem dX12_clearText_2 : decode cX12_clearText 2 = .ok (.putfield 110, 3) := by decide +kernel
theorem dX12_clearText_5 : decode cX12_clearText 5 = .ok (.aload_n 0, 1) := by decide +kernel
theorem dX12_clearText_6 : decode cX12_clearText 6 = .ok (.getfield 259, 3) := by decide +kernel
theorem dX12_clearText_9 : decode cX12_clearText 9 = .ok (.istore_n 1, 1) := by decide +kernel
theorem dX12_clearText_10 : decode cX12_clearText 10 = .ok (.aload_n 0, 1) := by decide +kernel
theorem dX12_clearText_11 : decode cX12_clearText 11 = .ok (.iconst 0, 1) := by decide +kernel
theorem dX12_clearText_12 : decode cX12_clearText 12 = .ok (.putfield 259, 3) := by decide +kernel
theorem dX12_clearText_15 : decode cX12_clearText 15 = .ok (.iload_n 1, 1) := by decide +kernel
theorem dX12_clearText_16 : decode cX12_clearText 16 = .ok (.ireturn, 1) := by decide +kernel
theorem dX12_isNear_0 : decode cX12_isNear 0 = .ok (.aload_n 0, 1) := by decide +kernel
theorem dX12_isNear_1 : decode cX12_isNear 1 = .ok (.iload_n 1, 1) := by decide +kernel
theorem dX12_isNear_2 : decode cX12_isNear 2 = .ok (.invokevirtual 134, 3) := by decide +kernel
theorem dX12_isNear_5 : decode cX12_isNear 5 = .ok (.aload_n 0, 1) := by decide +kernel
theorem dX12_isNear_6 : decode cX12_isNear 6 = .ok (.iload_n 2, 1) := by decide +kernel
theorem dX12_isNear_7 : decode cX12_isNear 7 = .ok (.invokevirtual 134, 3) := by decide +kernel
theorem dX12_isNear_10 : decode cX12_isNear 10 = .ok (.invokestatic 145, 3) := by decide +kernel
theorem dX12_isNear_13 : decode cX12_isNear 13 = .ok (.iconst 1, 1) := by decide +kernel
theorem dX12_isNear_14 : decode cX12_isNear 14 = .ok (.if_icmp .gt 24, 3) := by decide +kernel
theorem dX12_isNear_17 : decode cX12_isNear 17 = .ok (.aload_n 0, 1) := by decide +kernel
theorem dX12_isNear_18 : decode cX12_isNear 18 = .ok (.iload_n 1, 1) := by decide +kernel
theorem dX12_isNear_19 : decode cX12_isNear 19 = .ok (.invokevirtual 138, 3) := by decide +kernel
theorem dX12_isNear_22 : decode cX12_isNear 22 = .ok (.aload_n 0, 1) := by decide +kernel
theorem dX12_isNear_23 : decode cX12_isNear 23 = .ok (.iload_n 2, 1) := by decide +kernel
theorem dX12_isNear_24 : decode cX12_isNear 24 = .ok (.invokevirtual 138, 3) := by decide +kernel
theorem dX12_isNear_27 : decode cX12_isNear 27 = .ok (.invokestatic 145, 3) := by decide +kernel
theorem dX12_isNear_30 : decode cX12_isNear 30 = .ok (.iconst 1, 1) := by decide +kernel
theorem dX12_isNear_31 : decode cX12_isNear 31 = .ok (.if_icmp .gt 7, 3) := by decide +kernel
theorem dX12_isNear_34 : decode cX12_isNear 34 = .ok (.iconst 1, 1) := by decide +kernel
theorem dX12_isNear_35 : decode cX12_isNear 35 = .ok (.goto 4, 3) := by decide +kernel
theorem dX12_isNear_38 : decode cX12_isNear 38 = .ok (.iconst 0, 1) := by decide +kernel
theorem dX12_isNear_39 : decode cX12_isNear 39 = .ok (.ireturn, 1) := by decide +kernel
theorem dX12_strikes_0 : decode cX12_strikes 0 = .ok (.aload_n 0, 1) := by decide +kernel
theorem dX12_strikes_1 : decode cX12_strikes 1 = .ok (.iload_n 2, 1) := by decide +kernel
theorem dX12_strikes_2 : decode cX12_strikes 2 = .ok (.invokevirtual 134, 3) := by decide +kernel
theorem dX12_strikes_5 : decode cX12_strikes 5 = .ok (.aload_n 0, 1) := by decide +kernel
theorem dX12_strikes_6 : decode cX12_strikes 6 = .ok (.iload_n 3, 1) := by decide +kernel
theorem dX12_strikes_7 : decode cX12_strikes 7 = .ok (.invokevirtual 134, 3) := by decide +kernel
theorem dX12_strikes_10 : decode cX12_strikes 10 = .ok (.invokestatic 145, 3) := by decide +kernel
theorem dX12_strikes_13 : decode cX12_strikes 13 = .ok (.istore 5, 2) := by decide +kernel
theorem dX12_strikes_15 : decode cX12_strikes 15 = .ok (.aload_n 0, 1) := by decide +kernel
theorem dX12_strikes_16 : decode cX12_strikes 16 = .ok (.iload_n 2, 1) := by decide +kernel
theorem dX12_strikes_17 : decode cX12_strikes 17 = .ok (.invokevirtual 138, 3) := by decide +kernel
theorem dX12_strikes_20 : decode cX12_strikes 20 = .ok (.aload_n 0, 1) := by decide +kernel
theorem dX12_strikes_21 : decode cX12_strikes 21 = .ok (.iload_n 3, 1) := by decide +kernel
theorem dX12_strikes_22 : decode cX12_strikes 22 = .ok (.invokevirtual 138, 3) := by decide +kernel
theorem dX12_strikes_25 : decode cX12_strikes 25 = .ok (.invokestatic 145, 3) := by decide +kernel
theorem dX12_strikes_28 : decode cX12_strikes 28 = .ok (.istore 6, 2) := by decide +kernel
theorem dX12_strikes_30 : decode cX12_strikes 30 = .ok (.iload_n 1, 1) := by decide +kernel
theorem dX12_strikes_31 : decode cX12_strikes 31 = .ok (.iconst 5, 1) := by decide +kernel
theorem dX12_strikes_32 : decode cX12_strikes 32 = .ok (.if_icmp .ne 18, 3) := by decide +kernel
theorem dX12_strikes_35 : decode cX12_strikes 35 = .ok (.iload 5, 2) := by decide +kernel
theorem dX12_strikes_37 : decode cX12_strikes 37 = .ok (.iload 6, 2) := by decide +kernel
theorem dX12_strikes_39 : decode cX12_strikes 39 = .ok (.imul, 1) := by decide +kernel
theorem dX12_strikes_40 : decode cX12_strikes 40 = .ok (.iconst 2, 1) := by decide +kernel
theorem dX12_strikes_41 : decode cX12_strikes 41 = .ok (.if_icmp .ne 7, 3) := by decide +kernel
theorem dX12_strikes_44 : decode cX12_strikes 44 = .ok (.iconst 1, 1) := by decide +kernel
theorem dX12_strikes_45 : decode cX12_strikes 45 = .ok (.goto 4, 3) := by decide +kernel
theorem dX12_strikes_48 : decode cX12_strikes 48 = .ok (.iconst 0, 1) := by decide +kernel
theorem dX12_strikes_49 : decode cX12_strikes 49 = .ok (.ireturn, 1) := by decide +kernel
theorem dX12_strikes_50 : decode cX12_strikes 50 = .ok (.iload 5, 2) := by decide +kernel
theorem dX12_strikes_52 : decode cX12_strikes 52 = .ok (.iload 6, 2) := by decide +kernel
theorem dX12_strikes_54 : decode cX12_strikes 54 = .ok (.imul, 1) := by decide +kernel
theorem dX12_strikes_55 : decode cX12_strikes 55 = .ok (.ifCond .ne 15, 3) := by decide +kernel
theorem dX12_strikes_58 : decode cX12_strikes 58 = .ok (.iload 5, 2) := by decide +kernel
theorem dX12_strikes_60 : decode cX12_strikes 60 = .ok (.iload 6, 2) := by decide +kernel
theorem dX12_strikes_62 : decode cX12_strikes 62 = .ok (.iadd, 1) := by decide +kernel
theorem dX12_strikes_63 : decode cX12_strikes 63 = .ok (.ifCond .le 7, 3) := by decide +kernel
theorem dX12_strikes_66 : decode cX12_strikes 66 = .ok (.iconst 1, 1) := by decide +kernel
theorem dX12_strikes_67 : decode cX12_strikes 67 = .ok (.goto 4, 3) := by decide +kernel
theorem dX12_strikes_70 : decode cX12_strikes 70 = .ok (.iconst 0, 1) := by decide +kernel
theorem dX12_strikes_71 : decode cX12_strikes 71 = .ok (.istore 7, 2) := by decide +kernel
theorem dX12_strikes_73 : decode cX12_strikes 73 = .ok (.iload 5, 2) := by decide +kernel
theorem dX12_strikes_75 : decode cX12_strikes 75 = .ok (.iload 6, 2) := by decide +kernel
theorem dX12_strikes_77 : decode cX12_strikes 77 = .ok (.if_icmp .ne 12, 3) := by decide +kernel
theorem dX12_strikes_80 : decode cX12_strikes 80 = .ok (.iload 5, 2) := by decide +kernel
theorem dX12_strikes_82 : decode cX12_strikes 82 = .ok (.ifCond .le 7, 3) := by decide +kernel
theorem dX12_strikes_85 : decode cX12_strikes 85 = .ok (.iconst 1, 1) := by decide +kernel
theorem dX12_strikes_86 : decode cX12_strikes 86 = .ok (.goto 4, 3) := by decide +kernel
theorem dX12_strikes_89 : decode cX12_strikes 89 = .ok (.iconst 0, 1) := by decide +kernel
theorem dX12_strikes_90 : decode cX12_strikes 90 = .ok (.istore 8, 2) := by decide +kernel
theorem dX12_strikes_92 : decode cX12_strikes 92 = .ok (.iload_n 1, 1) := by decide +kernel
theorem dX12_strikes_93 : decode cX12_strikes 93 = .ok (.iconst 2, 1) := by decide +kernel
theorem dX12_strikes_94 : decode cX12_strikes 94 = .ok (.if_icmp .ne 13, 3) := by decide +kernel
theorem dX12_strikes_97 : decode cX12_strikes 97 = .ok (.iload 7, 2) := by decide +kernel
theorem dX12_strikes_99 : decode cX12_strikes 99 = .ok (.ifCond .ne 30, 3) := by decide +kernel
theorem dX12_strikes_102 : decode cX12_strikes 102 = .ok (.iload 8, 2) := by decide +kernel
theorem dX12_strikes_104 : decode cX12_strikes 104 = .ok (.ifCond .ne 25, 3) := by decide +kernel
theorem dX12_strikes_107 : decode cX12_strikes 107 = .ok (.iload_n 1, 1) := by decide +kernel
theorem dX12_strikes_108 : decode cX12_strikes 108 = .ok (.iconst 3, 1) := by decide +kernel
theorem dX12_strikes_109 : decode cX12_strikes 109 = .ok (.if_icmp .ne 8, 3) := by decide +kernel
theorem dX12_strikes_112 : decode cX12_strikes 112 = .ok (.iload 7, 2) := by decide +kernel
theorem dX12_strikes_114 : decode cX12_strikes 114 = .ok (.ifCond .ne 15, 3) := by decide +kernel
theorem dX12_strikes_117 : decode cX12_strikes 117 = .ok (.iload_n 1, 1) := by decide +kernel
theorem dX12_strikes_118 : decode cX12_strikes 118 = .ok (.iconst 4, 1) := by decide +kernel
theorem dX12_strikes_119 : decode cX12_strikes 119 = .ok (.if_icmp .ne 8, 3) := by decide +kernel
theorem dX12_strikes_122 : decode cX12_strikes 122 = .ok (.iload 8, 2) := by decide +kernel
theorem dX12_strikes_124 : decode cX12_strikes 124 = .ok (.ifCond .ne 5, 3) := by decide +kernel
theorem dX12_strikes_127 : decode cX12_strikes 127 = .ok (.iconst 0, 1) := by decide +kernel
theorem dX12_strikes_128 : decode cX12_strikes 128 = .ok (.ireturn, 1) := by decide +kernel
theorem dX12_strikes_129 : decode cX12_strikes 129 = .ok (.aload_n 0, 1) := by decide +kernel
theorem dX12_strikes_130 : decode cX12_strikes 130 = .ok (.iload_n 3, 1) := by decide +kernel
theorem dX12_strikes_131 : decode cX12_strikes 131 = .ok (.invokevirtual 134, 3) := by decide +kernel
theorem dX12_strikes_134 : decode cX12_strikes 134 = .ok (.aload_n 0, 1) := by decide +kernel
theorem dX12_strikes_135 : decode cX12_strikes 135 = .ok (.iload_n 2, 1) := by decide +kernel
theorem dX12_strikes_136 : decode cX12_strikes 136 = .ok (.invokevirtual 134, 3) := by decide +kernel
theorem dX12_strikes_139 : decode cX12_strikes 139 = .ok (.if_icmp .le 7, 3) := by decide +kernel
theorem dX12_strikes_142 : decode cX12_strikes 142 = .ok (.iconst 1, 1) := by decide +kernel
theorem dX12_strikes_143 : decode cX12_strikes 143 = .ok (.goto 21, 3) := by decide +kernel
theorem dX12_strikes_146 : decode cX12_strikes 146 = .ok (.aload_n 0, 1) := by decide +kernel
theorem dX12_strikes_147 : decode cX12_strikes 147 = .ok (.iload_n 3, 1) := by decide +kernel
theorem dX12_strikes_148 : decode cX12_strikes 148 = .ok (.invokevirtual 134, 3) := by decide +kernel
theorem dX12_strikes_151 : decode cX12_strikes 151 = .ok (.aload_n 0, 1) := by decide +kernel
theorem dX12_strikes_152 : decode cX12_strikes 152 = .ok (.iload_n 2, 1) := by decide +kernel
theorem dX12_strikes_153 : decode cX12_strikes 153 = .ok (.invokevirtual 134, 3) := by decide +kernel
theorem dX12_strikes_156 : decode cX12_strikes 156 = .ok (.if_icmp .ge 7, 3) := by decide +kernel
theorem dX12_strikes_159 : decode cX12_strikes 159 = .ok (.iconst (-1), 1) := by decide +kernel
theorem dX12_strikes_160 : decode cX12_strikes 160 = .ok (.goto 4, 3) := by decide +kernel
theorem dX12_strikes_163 : decode cX12_strikes 163 = .ok (.iconst 0, 1) := by decide +kernel
theorem dX12_strikes_164 : decode cX12_strikes 164 = .ok (.istore 9, 2) := by decide +kernel
theorem dX12_strikes_166 : decode cX12_strikes 166 = .ok (.aload_n 0, 1) := by decide +kernel
theorem dX12_strikes_167 : decode cX12_strikes 167 = .ok (.iload_n 3, 1) := by decide +kernel
theorem dX12_strikes_168 : decode cX12_strikes 168 = .ok (.invokevirtual 138, 3) := by decide +kernel
theorem dX12_strikes_171 : decode cX12_strikes 171 = .ok (.aload_n 0, 1) := by decide +kernel
theorem dX12_strikes_172 : decode cX12_strikes 172 = .ok (.iload_n 2, 1) := by decide +kernel
theorem dX12_strikes_173 : decode cX12_strikes 173 = .ok (.invokevirtual 138, 3) := by decide +kernel
theorem dX12_strikes_176 : decode cX12_strikes 176 = .ok (.if_icmp .le 7, 3) := by decide +kernel
theorem dX12_strikes_179 : decode cX12_strikes 179 = .ok (.iconst 1, 1) := by decide +kernel
theorem dX12_strikes_180 : decode cX12_strikes 180 = .ok (.goto 21, 3) := by decide +kernel
theorem dX12_strikes_183 : decode cX12_strikes 183 = .ok (.aload_n 0, 1) := by decide +kernel
theorem dX12_strikes_184 : decode cX12_strikes 184 = .ok (.iload_n 3, 1) := by decide +kernel
theorem dX12_strikes_185 : decode cX12_strikes 185 = .ok (.invokevirtual 138, 3) := by decide +kernel
theorem dX12_strikes_188 : decode cX12_strikes 188 = .ok (.aload_n 0, 1) := by decide +kernel
theorem dX12_strikes_189 : decode cX12_strikes 189 = .ok (.iload_n 2, 1) := by decide +kernel
theorem dX12_strikes_190 : decode cX12_strikes 190 = .ok (.invokevirtual 138, 3) := by decide +kernel
theorem dX12_strikes_193 : decode cX12_strikes 193 = .ok (.if_icmp .ge 7, 3) := by decide +kernel
theorem dX12_strikes_196 : decode cX12_strikes 196 = .ok (.iconst (-1), 1) := by decide +kernel
theorem dX12_strikes_197 : decode cX12_strikes 197 = .ok (.goto 4, 3) := by decide +kernel
theorem dX12_strikes_200 : decode cX12_strikes 200 = .ok (.iconst 0, 1) := by decide +kernel
theorem dX12_strikes_201 : decode cX12_strikes 201 = .ok (.istore 10, 2) := by decide +kernel
theorem dX12_strikes_203 : decode cX12_strikes 203 = .ok (.aload_n 0, 1) := by decide +kernel
theorem dX12_strikes_204 : decode cX12_strikes 204 = .ok (.getfield 9, 3) := by decide +kernel
theorem dX12_strikes_207 : decode cX12_strikes 207 = .ok (.iload 10, 2) := by decide +kernel
theorem dX12_strikes_209 : decode cX12_strikes 209 = .ok (.imul, 1) := by decide +kernel
theorem dX12_strikes_210 : decode cX12_strikes 210 = .ok (.iload 9, 2) := by decide +kernel
theorem dX12_strikes_212 : decode cX12_strikes 212 = .ok (.iadd, 1) := by decide +kernel
theorem dX12_strikes_213 : decode cX12_strikes 213 = .ok (.istore 11, 2) := by decide +kernel
theorem dX12_strikes_215 : decode cX12_strikes 215 = .ok (.iload_n 2, 1) := by decide +kernel
theorem dX12_strikes_216 : decode cX12_strikes 216 = .ok (.iload 11, 2) := by decide +kernel
theorem dX12_strikes_218 : decode cX12_strikes 218 = .ok (.iadd, 1) := by decide +kernel
theorem dX12_strikes_219 : decode cX12_strikes 219 = .ok (.istore 12, 2) := by decide +kernel
theorem dX12_strikes_221 : decode cX12_strikes 221 = .ok (.iload 12, 2) := by decide +kernel
theorem dX12_strikes_223 : decode cX12_strikes 223 = .ok (.iload_n 3, 1) := by decide +kernel
theorem dX12_strikes_224 : decode cX12_strikes 224 = .ok (.if_icmp .eq 22, 3) := by decide +kernel
theorem dX12_strikes_227 : decode cX12_strikes 227 = .ok (.iload 12, 2) := by decide +kernel
theorem dX12_strikes_229 : decode cX12_strikes 229 = .ok (.iload 4, 2) := by decide +kernel
theorem dX12_strikes_231 : decode cX12_strikes 231 = .ok (.if_icmp .ne 5, 3) := by decide +kernel
theorem dX12_strikes_234 : decode cX12_strikes 234 = .ok (.iconst 0, 1) := by decide +kernel
theorem dX12_strikes_235 : decode cX12_strikes 235 = .ok (.ireturn, 1) := by decide +kernel
theorem dX12_strikes_236 : decode cX12_strikes 236 = .ok (.iload 12, 2) := by decide +kernel
theorem dX12_strikes_238 : decode cX12_strikes 238 = .ok (.iload 11, 2) := by decide +kernel
theorem dX12_strikes_240 : decode cX12_strikes 240 = .ok (.iadd, 1) := by decide +kernel
theorem dX12_strikes_241 : decode cX12_strikes 241 = .ok (.istore 12, 2) := by decide +kernel
theorem dX12_strikes_243 : decode cX12_strikes 243 = .ok (.goto (-22), 3) := by decide +kernel
theorem dX12_strikes_246 : decode cX12_strikes 246 = .ok (.iconst 1, 1) := by decide +kernel
theorem dX12_strikes_247 : decode cX12_strikes 247 = .ok (.ireturn, 1) := by decide +kernel
theorem dX12_isOfEnding_0 : decode cX12_isOfEnding 0 = .ok (.iload_n 3, 1) := by decide +kernel
theorem dX12_isOfEnding_1 : decode cX12_isOfEnding 1 = .ok (.iload 4, 2) := by decide +kernel
theorem dX12_isOfEnding_3 : decode cX12_isOfEnding 3 = .ok (.if_icmp .eq 26, 3) := by decide +kernel
theorem dX12_isOfEnding_6 : decode cX12_isOfEnding 6 = .ok (.iload_n 3, 1) := by decide +kernel
theorem dX12_isOfEnding_7 : decode cX12_isOfEnding 7 = .ok (.iload 5, 2) := by decide +kernel
theorem dX12_isOfEnding_9 : decode cX12_isOfEnding 9 = .ok (.if_icmp .eq 20, 3) := by decide +kernel
theorem dX12_isOfEnding_12 : decode cX12_isOfEnding 12 = .ok (.iload 4, 2) := by decide +kernel
theorem dX12_isOfEnding_14 : decode cX12_isOfEnding 14 = .ok (.iload 5, 2) := by decide +kernel
theorem dX12_isOfEnding_16 : decode cX12_isOfEnding 16 = .ok (.if_icmp .eq 13, 3) := by decide +kernel
theorem dX12_isOfEnding_19 : decode cX12_isOfEnding 19 = .ok (.aload_n 0, 1) := by decide +kernel
theorem dX12_isOfEnding_20 : decode cX12_isOfEnding 20 = .ok (.iload_n 3, 1) := by decide +kernel
theorem dX12_isOfEnding_21 : decode cX12_isOfEnding 21 = .ok (.iload 4, 2) := by decide +kernel
theorem dX12_isOfEnding_23 : decode cX12_isOfEnding 23 = .ok (.invokevirtual 476, 3) := by decide +kernel
theorem dX12_isOfEnding_26 : decode cX12_isOfEnding 26 = .ok (.ifCond .eq 5, 3) := by decide +kernel
theorem dX12_isOfEnding_29 : decode cX12_isOfEnding 29 = .ok (.iconst 0, 1) := by decide +kernel
theorem dX12_isOfEnding_30 : decode cX12_isOfEnding 30 = .ok (.ireturn, 1) := by decide +kernel
theorem dX12_isOfEnding_31 : decode cX12_isOfEnding 31 = .ok (.iload_n 2, 1) := by decide +kernel
theorem dX12_isOfEnding_32 : decode cX12_isOfEnding 32 = .ok (.iconst 1, 1) := by decide +kernel
theorem dX12_isOfEnding_33 : decode cX12_isOfEnding 33 = .ok (.if_icmp .eq 16, 3) := by decide +kernel
theorem dX12_isOfEnding_36 : decode cX12_isOfEnding 36 = .ok (.aload_n 0, 1) := by decide +kernel
theorem dX12_isOfEnding_37 : decode cX12_isOfEnding 37 = .ok (.iload_n 1, 1) := by decide +kernel
theorem dX12_isOfEnding_38 : decode cX12_isOfEnding 38 = .ok (.iload 5, 2) := by decide +kernel
theorem dX12_isOfEnding_40 : decode cX12_isOfEnding 40 = .ok (.iload 4, 2) := by decide +kernel
theorem dX12_isOfEnding_42 : decode cX12_isOfEnding 42 = .ok (.iload_n 3, 1) := by decide +kernel
theorem dX12_isOfEnding_43 : decode cX12_isOfEnding 43 = .ok (.invokevirtual 479, 3) := by decide +kernel
theorem dX12_isOfEnding_46 : decode cX12_isOfEnding 46 = .ok (.ifCond .ne 7, 3) := by decide +kernel
theorem dX12_isOfEnding_49 : decode cX12_isOfEnding 49 = .ok (.iconst 1, 1) := by decide +kernel
theorem dX12_isOfEnding_50 : decode cX12_isOfEnding 50 = .ok (.goto 4, 3) := by decide +kernel
theorem dX12_isOfEnding_53 : decode cX12_isOfEnding 53 = .ok (.iconst 0, 1) := by decide +kernel
theorem dX12_isOfEnding_54 : decode cX12_isOfEnding 54 = .ok (.ireturn, 1) := by decide +kernel
def wp_X12_spells_0 (D : wD) (post : wS → Prop)  (S : wS) (a0 : Nat) (x1 : Int32) (x2 : Int32) : Prop :=
∃ y_1 : Nat, sR S a0 17 = some y_1 ∧ wM D S y_1 ∧ sK S y_1 = 21 ∧
∃ y_2 : Nat, sR S a0 18 = some y_2 ∧ wM D S y_2 ∧ sK S y_2 = 21 ∧
vp_in x1 (sN S y_2) ∧
y_1 ∈ sL S ∧ vp_in (((12 : Int32) * x1) + (sI S y_2 (x1).toNatClampNeg)) (sN S y_1) ∧
∀ S_5 : wS, S_5 = uI S y_1 ((((12 : Int32) * x1) + (sI S y_2 (x1).toNatClampNeg))).toNatClampNeg x2 →
∃ y_6 : Nat, sR S_5 a0 18 = some y_6 ∧ wM D S_5 y_6 ∧ sK S_5 y_6 = 21 ∧
vp_in x1 (sN S_5 y_6) ∧
y_6 ∈ sL S_5 ∧ vp_in x1 (sN S_5 y_6) ∧
∀ S_9 : wS, S_9 = uI S_5 y_6 (x1).toNatClampNeg ((sI S_5 y_6 (x1).toNatClampNeg) + (1 : Int32)) →
post S_9
abbrev r_X12_spells : Room := { frames := 0, cells := 0, slots := 0, locals := 0 }
def wp_X12_spells (D : wD) (post : wS → Prop) (S : wS) (a0 : Nat) (x1 : Int32) (x2 : Int32) : Prop := wp_X12_spells_0 D post S a0 x1 x2
set_option maxHeartbeats 4000000 in
set_option maxRecDepth 100000 in
theorem t_X12_spells_0 {p : Program} {l : Launch} {e : Env} {s : State} {m : MethodId} {args : Array Value} {below : List Frame} {meth : Method} {c : Code} {D : wD} {cy : Nat → ClassId} {X : va_W} {A : Nat → Prop} {S0 : wS} {post : wS → Prop} (F : CallFix p m c cX12_spells 3 s args wz_X12_spells RX12) (hr : meth.sig.returnType = none) (hlocks : meth.locks = false) (hK : wK D cy A s) : ∀ {S : wS} {H : Heap} {locs : List Loc} {ls : Array Slot} {a0 : Nat} {x1 : Int32} {x2 : Int32}, wp_X12_spells_0 D post S a0 x1 x2 → wO D cy X A s.heap S H locs → wX D S0 S → lv_has ls 3 [(0, .ref a0), (1, .int x1), (2, .int x2)] → wM D S a0 → sK S a0 = 17 → W p l e r_X12_spells s m args below meth c H locs 0 0 (MQ below (va_Qv (fun S9 => wX D S0 S9 ∧ post S9) (wB D cy X A) A) args s 0 0 A) (F0 m 0 ls []) := by
  obtain ⟨hx, hb, hml, hown, hts⟩ := id F
  have hwg : ∀ w ∈ WG, w.before args s = true := fun w h => hts w (List.mem_cons_of_mem _ h)
  have i_17 : ∀ w ∈ u_ws RX12 TX12 43, w ∈ wz_X12_spells := fun w h => List.mem_cons_of_mem _ (wu_17 w h)
  have k_48 := hwg _ wf_RX12_48
  have k_51 := hwg _ wf_RX12_51
  intro S H locs ls a0 x1 x2 hp hW hE hl hL_a0 hK_a0
  unfold wp_X12_spells_0 at hp
  refine lv_aload_n hx hb dX12_spells_0 rfl (lv_at hl 0 rfl) ?_
  obtain ⟨y_1, ey_1, hL_y_1, hK_y_1, hp⟩ := hp
  refine w_get (k := 17) (f := 17) (T := TX12) (v := .ref y_1) F hK hW hL_a0 hK_a0 (by decide) rfl rfl (by decide) i_17 k_48 (by rw [show wv 17 17 S a0 = va_rf (sR S a0 17) from rfl, ey_1]; rfl) dX12_spells_1 ?_
  refine lv_bipush (v := 12) hx hb dX12_spells_4 (by decide) ?_
  refine lv_iload_n hx hb dX12_spells_6 rfl (lv_at hl 1 rfl) ?_
  refine lv_imul hx hb dX12_spells_7 ?_
  refine lv_aload_n hx hb dX12_spells_8 rfl (lv_at hl 0 rfl) ?_
  obtain ⟨y_2, ey_2, hL_y_2, hK_y_2, hp⟩ := hp
  refine w_get (k := 17) (f := 18) (T := TX12) (v := .ref y_2) F hK hW hL_a0 hK_a0 (by decide) rfl rfl (by decide) i_17 k_51 (by rw [show wv 17 18 S a0 = va_rf (sR S a0 18) from rfl, ey_2]; rfl) dX12_spells_9 ?_
  refine lv_iload_n hx hb dX12_spells_12 rfl (lv_at hl 1 rfl) ?_
  obtain ⟨h_3, hp⟩ := hp
  refine w_ild F hK hW hL_y_2 hK_y_2 h_3 dX12_spells_13 ?_
  refine lv_iadd hx hb dX12_spells_14 ?_
  refine lv_iload_n hx hb dX12_spells_15 rfl (lv_at hl 2 rfl) ?_
  obtain ⟨h_4m, h_4, hp⟩ := hp
  refine w_ist F hK hW h_4m hK_y_1 h_4 dX12_spells_16 (fun H locs hW => ?_)
  obtain ⟨S_5, eS_5⟩ : ∃ z : wS, z = uI S y_1 ((((12 : Int32) * x1) + (sI S y_2 (x1).toNatClampNeg))).toNatClampNeg x2 := ⟨_, rfl⟩
  rw [← eS_5] at hW
  replace hp := hp S_5 eS_5
  have hX_S_5 : wX D S S_5 := by rw [eS_5]; exact wX_uI
  have hE := hE.trans hX_S_5
  have hK_a0 : sK S_5 a0 = 17 := (hX_S_5.2 a0 hL_a0).1.trans hK_a0
  have hL_a0 : wM D S_5 a0 := hX_S_5.M hL_a0
  refine lv_aload_n hx hb dX12_spells_17 rfl (lv_at hl 0 rfl) ?_
  obtain ⟨y_6, ey_6, hL_y_6, hK_y_6, hp⟩ := hp
  refine w_get (k := 17) (f := 18) (T := TX12) (v := .ref y_6) F hK hW hL_a0 hK_a0 (by decide) rfl rfl (by decide) i_17 k_51 (by rw [show wv 17 18 S_5 a0 = va_rf (sR S_5 a0 18) from rfl, ey_6]; rfl) dX12_spells_18 ?_
  refine lv_iload_n hx hb dX12_spells_21 rfl (lv_at hl 1 rfl) ?_
  refine lv_dup2_11 hx hb dX12_spells_22 rfl rfl ?_
  obtain ⟨h_7, hp⟩ := hp
  refine w_ild F hK hW hL_y_6 hK_y_6 h_7 dX12_spells_23 ?_
  refine lv_iconst (v := 1) hx hb dX12_spells_24 (by decide) ?_
  refine lv_iadd hx hb dX12_spells_25 ?_
  obtain ⟨h_8m, h_8, hp⟩ := hp
  refine w_ist F hK hW h_8m hK_y_6 h_8 dX12_spells_26 (fun H locs hW => ?_)
  obtain ⟨S_9, eS_9⟩ : ∃ z : wS, z = uI S_5 y_6 (x1).toNatClampNeg ((sI S_5 y_6 (x1).toNatClampNeg) + (1 : Int32)) := ⟨_, rfl⟩
  rw [← eS_9] at hW
  replace hp := hp S_9 eS_9
  have hX_S_9 : wX D S_5 S_9 := by rw [eS_9]; exact wX_uI
  have hE := hE.trans hX_S_9
  have hK_a0 : sK S_9 a0 = 17 := (hX_S_9.2 a0 hL_a0).1.trans hK_a0
  have hL_a0 : wM D S_9 a0 := hX_S_9.M hL_a0
  exact w_vret hx hb hr hlocks hW ⟨hE, hp⟩ dX12_spells_27
set_option maxHeartbeats 4000000 in
set_option maxRecDepth 100000 in
theorem c_X12_spells (l : Launch) {D : wD} {cy : Nat → ClassId} {X : va_W} {S0 : wS} {post : wS → Prop} {a0 : Nat} {x1 : Int32} {x2 : Int32} (hL_a0 : wM D S0 a0) (hK_a0 : sK S0 a0 = 17) (hp : wp_X12_spells D post S0 a0 x1 x2) : mV D cy X l yX12_spells wz_X12_spells r_X12_spells [.ref a0, .int x1, .int x2] S0 (fun S9 => wX D S0 S9 ∧ post S9) := by
  intro sz
  refine Met.ofW (cc := cX12_spells) (maxL := 3) (ret := none) (by decide) rfl ?_
  intro p e s m args below meth c s₁ B hml hv
  obtain ⟨rfl, hsz, hP, hK, hD0, hRO⟩ := hv
  have hts := atoms_spec (ws := wz_X12_spells) B.pre
  have hown : s.vm.findClass RX12 = some m.cls := findClass_of_methodNamed B.named
  subst hsz
  have hD := hD0.self (sz := s.heap.size)
  have F : CallFix p m c cX12_spells 3 s _ wz_X12_spells RX12 := ⟨B.exec, B.bytes, hml, hown, hts⟩
  have hr := B.returns
  have hlocks := B.notSynchronized
  generalize hAe : va_A (wL cy X S0) s.heap.size = A at hD hK ⊢
  have hA : ∀ q, s.heap.size ≤ q → A q := fun q h => by rw [← hAe]; exact Or.inr h
  have hW : wO D cy X A s.heap S0 s.heap [] := ⟨hP, hD, va_S.rf, hA, hRO⟩
  have hl := lv_entry ([.ref a0, .int x1, .int x2]) (n := 3) (Nat.le_of_ble_eq_true rfl)
  rw [lg_entry_eq]
  generalize (lg_sl ([.ref a0, .int x1, .int x2]) ++ List.replicate (3 - (lg_sl ([.ref a0, .int x1, .int x2])).length) Slot.unset).toArray = ls at hl ⊢
  have hl : lv_has ls 3 [(0, .ref a0), (1, .int x1), (2, .int x2)] := hl
  unfold wp_X12_spells at hp
  exact t_X12_spells_0 F hr hlocks hK hp hW wX.rf (lv_sub hl [0, 1, 2] rfl) hL_a0 hK_a0
def wp_X12_spellsFrom_198 (D : wD) (post : wS → Prop)  (S : wS) : Prop :=
post S
def wp_X12_spellsFrom_176 (D : wD) (post : wS → Prop)  (S : wS) (a0 : Nat) (x1 : Int32) (x2 : Int32) (x3 : Int32) (x5 : Int32) : Prop :=
((x2 = 0 → wp_X12_spellsFrom_198 D post S) ∧
 (¬ x2 = 0 → ((x3 = 0 → wp_X12_spellsFrom_198 D post S) ∧
 (¬ x3 = 0 → wp_X12_rankOf D (fun r_3 S_4 => 
wp_X12_spells D (fun S_6 => 
wp_X12_spellsFrom_198 D post S_6) S_4 a0 x1 ((49 : Int32) + r_3)) S a0 x5))))
def wp_X12_spellsFrom_162 (D : wD) (post : wS → Prop)  (S : wS) (a0 : Nat) (x1 : Int32) (x2 : Int32) (x3 : Int32) (x5 : Int32) : Prop :=
wp_X12_fileOf D (fun r_1 S_2 => 
wp_X12_spells D (fun S_4 => 
wp_X12_spellsFrom_176 D post S_4 a0 x1 x2 x3 x5) S_2 a0 x1 ((97 : Int32) + r_1)) S a0 x5
def wp_X12_spellsFrom_143 (D : wD) (post : wS → Prop) (k_18 : wS → Nat → Int32 → Int32 → Int32 → Int32 → Int32 → Int32 → Prop) (S : wS) (a0 : Nat) (x1 : Int32) (x2 : Int32) (x3 : Int32) (x4 : Int32) (x5 : Int32) (x6 : Int32) : Prop :=
∀ x_1 : Int32, x_1 = x6 + 1 →
k_18 S a0 x1 x2 x3 x4 x5 x_1
def wp_X12_spellsFrom_141 (D : wD) (post : wS → Prop) (k_18 : wS → Nat → Int32 → Int32 → Int32 → Int32 → Int32 → Int32 → Prop) (S : wS) (a0 : Nat) (x1 : Int32) (x2 : Int32) (x3 : Int32) (x5 : Int32) (x6 : Int32) (t0 : Int32) : Prop :=
wp_X12_spellsFrom_143 D post k_18 S a0 x1 x2 x3 t0 x5 x6
def wp_X12_spellsFrom_136 (D : wD) (post : wS → Prop) (k_18 : wS → Nat → Int32 → Int32 → Int32 → Int32 → Int32 → Int32 → Prop) (S : wS) (a0 : Nat) (x1 : Int32) (x2 : Int32) (x3 : Int32) (x5 : Int32) (x6 : Int32) : Prop :=
wp_X12_spellsFrom_141 D post k_18 S a0 x1 x2 x3 x5 x6 (1 : Int32)
def wp_X12_spellsFrom_110 (D : wD) (post : wS → Prop) (k_18 : wS → Nat → Int32 → Int32 → Int32 → Int32 → Int32 → Int32 → Prop) (S : wS) (a0 : Nat) (x1 : Int32) (x2 : Int32) (x4 : Int32) (x5 : Int32) (x6 : Int32) (t0 : Int32) : Prop :=
((¬ x4 = 0 → wp_X12_spellsFrom_136 D post k_18 S a0 x1 x2 t0 x5 x6) ∧
 (x4 = 0 → ∃ y_2 : Nat, sR S a0 4 = some y_2 ∧ wM D S y_2 ∧ sK S y_2 = 21 ∧
vp_in x6 (sN S y_2) ∧
wp_X12_rankOf D (fun r_4 S_5 => 
wp_X12_rankOf D (fun r_6 S_7 => 
((¬ r_4 = r_6 → wp_X12_spellsFrom_141 D post k_18 S_7 a0 x1 x2 t0 x5 x6 (0 : Int32)) ∧
 (r_4 = r_6 → wp_X12_spellsFrom_136 D post k_18 S_7 a0 x1 x2 t0 x5 x6))) S_5 a0 x5) S a0 (sI S y_2 (x6).toNatClampNeg)))
def wp_X12_spellsFrom_105 (D : wD) (post : wS → Prop) (k_18 : wS → Nat → Int32 → Int32 → Int32 → Int32 → Int32 → Int32 → Prop) (S : wS) (a0 : Nat) (x1 : Int32) (x2 : Int32) (x4 : Int32) (x5 : Int32) (x6 : Int32) : Prop :=
wp_X12_spellsFrom_110 D post k_18 S a0 x1 x2 x4 x5 x6 (1 : Int32)
def wp_X12_spellsFrom_18 (D : wD) (post : wS → Prop)  : Nat → wS → Nat → Int32 → Int32 → Int32 → Int32 → Int32 → Int32 → Prop
  | 0, _, _, _, _, _, _, _, _ => False
  | n + 1, S, a0, x1, x2, x3, x4, x5, x6 =>
    ∃ y_1 : Nat, sR S a0 7 = some y_1 ∧ wM D S y_1 ∧ sK S y_1 = 21 ∧
    vp_in (0 : Int32) (sN S y_1) ∧
    (((sI S y_1 ((0 : Int32)).toNatClampNeg) ≤ x6 → ((x2 = 0 → wp_X12_spellsFrom_176 D post S a0 x1 x2 x3 x5) ∧
     (¬ x2 = 0 → ((x3 = 0 → wp_X12_spellsFrom_162 D post S a0 x1 x2 x3 x5) ∧
     (¬ x3 = 0 → ((x4 = 0 → wp_X12_spellsFrom_176 D post S a0 x1 x2 x3 x5) ∧
     (¬ x4 = 0 → wp_X12_spellsFrom_162 D post S a0 x1 x2 x3 x5))))))) ∧
     (¬ (sI S y_1 ((0 : Int32)).toNatClampNeg) ≤ x6 → ∃ y_7 : Nat, sR S a0 4 = some y_7 ∧ wM D S y_7 ∧ sK S y_7 = 21 ∧
    vp_in x6 (sN S y_7) ∧
    (((sI S y_7 (x6).toNatClampNeg) = x5 → wp_X12_spellsFrom_143 D post (wp_X12_spellsFrom_18 D post n) S a0 x1 x2 x3 x4 x5 x6) ∧
     (¬ (sI S y_7 (x6).toNatClampNeg) = x5 → ∃ y_10 : Nat, sR S a0 5 = some y_10 ∧ wM D S y_10 ∧ sK S y_10 = 21 ∧
    vp_in x6 (sN S y_10) ∧
    ∃ y_12 : Nat, sR S a0 5 = some y_12 ∧ wM D S y_12 ∧ sK S y_12 = 21 ∧
    vp_in x1 (sN S y_12) ∧
    ((¬ (sI S y_10 (x6).toNatClampNeg) = (sI S y_12 (x1).toNatClampNeg) → wp_X12_spellsFrom_143 D post (wp_X12_spellsFrom_18 D post n) S a0 x1 x2 x3 x4 x5 x6) ∧
     ((sI S y_10 (x6).toNatClampNeg) = (sI S y_12 (x1).toNatClampNeg) → ∃ y_15 : Nat, sR S a0 4 = some y_15 ∧ wM D S y_15 ∧ sK S y_15 = 21 ∧
    vp_in x6 (sN S y_15) ∧
    wp_X12_on D (fun r_17 S_18 => 
    wp_X12_on D (fun r_19 S_20 => 
    ((¬ r_17 = r_19 → wp_X12_spellsFrom_143 D post (wp_X12_spellsFrom_18 D post n) S_20 a0 x1 x2 x3 x4 x5 x6) ∧
     (r_17 = r_19 → ((¬ x3 = 0 → wp_X12_spellsFrom_105 D post (wp_X12_spellsFrom_18 D post n) S_20 a0 x1 (1 : Int32) x4 x5 x6) ∧
     (x3 = 0 → ∃ y_23 : Nat, sR S_20 a0 4 = some y_23 ∧ wM D S_20 y_23 ∧ sK S_20 y_23 = 21 ∧
    vp_in x6 (sN S_20 y_23) ∧
    wp_X12_fileOf D (fun r_25 S_26 => 
    wp_X12_fileOf D (fun r_27 S_28 => 
    ((¬ r_25 = r_27 → wp_X12_spellsFrom_110 D post (wp_X12_spellsFrom_18 D post n) S_28 a0 x1 (1 : Int32) x4 x5 x6 (0 : Int32)) ∧
     (r_25 = r_27 → wp_X12_spellsFrom_105 D post (wp_X12_spellsFrom_18 D post n) S_28 a0 x1 (1 : Int32) x4 x5 x6))) S_26 a0 x5) S_20 a0 (sI S_20 y_23 (x6).toNatClampNeg)))))) S_18 a0 (0 : Int32) x5) S a0 (0 : Int32) (sI S y_15 (x6).toNatClampNeg)))))))
def wp_X12_spellsFrom_0 (D : wD) (post : wS → Prop)  (S : wS) (a0 : Nat) (x1 : Int32) : Prop :=
∃ y_1 : Nat, sR S a0 4 = some y_1 ∧ wM D S y_1 ∧ sK S y_1 = 21 ∧
vp_in x1 (sN S y_1) ∧
∀ x_3 : Int32, x_3 = (sI S y_1 (x1).toNatClampNeg) →
∃ n_4 : Nat, wp_X12_spellsFrom_18 D post n_4 S a0 x1 (0 : Int32) (0 : Int32) (0 : Int32) x_3 (0 : Int32)
abbrev r_X12_spellsFrom : Room := { frames := 1, cells := 0, slots := 0, locals := 22 }
def wp_X12_spellsFrom (D : wD) (post : wS → Prop) (S : wS) (a0 : Nat) (x1 : Int32) : Prop := wp_X12_spellsFrom_0 D post S a0 x1
set_option maxHeartbeats 4000000 in
set_option maxRecDepth 100000 in
theorem t_X12_spellsFrom_198 {p : Program} {l : Launch} {e : Env} {s : State} {m : MethodId} {args : Array Value} {below : List Frame} {meth : Method} {c : Code} {D : wD} {cy : Nat → ClassId} {X : va_W} {A : Nat → Prop} {S0 : wS} {post : wS → Prop} (F : CallFix p m c cX12_spellsFrom 7 s args wz_X12_spellsFrom RX12) (hr : meth.sig.returnType = none) (hlocks : meth.locks = false) (hK : wK D cy A s) : ∀ {S : wS} {H : Heap} {locs : List Loc} {ls : Array Slot}, wp_X12_spellsFrom_198 D post S → wO D cy X A s.heap S H locs → wX D S0 S → lv_has ls 7 [] → W p l e r_X12_spellsFrom s m args below meth c H locs 0 0 (MQ below (va_Qv (fun S9 => wX D S0 S9 ∧ post S9) (wB D cy X A) A) args s 0 0 A) (F0 m 198 ls []) := by
  obtain ⟨hx, hb, hml, hown, hts⟩ := id F
  have hwg : ∀ w ∈ WG, w.before args s = true := fun w h => hts w (List.mem_cons_of_mem _ h)
  intro S H locs ls hp hW hE hl
  unfold wp_X12_spellsFrom_198 at hp
  exact w_vret hx hb hr hlocks hW ⟨hE, hp⟩ dX12_spellsFrom_198
set_option maxHeartbeats 4000000 in
set_option maxRecDepth 100000 in
theorem t_X12_spellsFrom_176 {p : Program} {l : Launch} {e : Env} {s : State} {m : MethodId} {args : Array Value} {below : List Frame} {meth : Method} {c : Code} {D : wD} {cy : Nat → ClassId} {X : va_W} {A : Nat → Prop} {S0 : wS} {post : wS → Prop} (F : CallFix p m c cX12_spellsFrom 7 s args wz_X12_spellsFrom RX12) (hr : meth.sig.returnType = none) (hlocks : meth.locks = false) (hK : wK D cy A s) : ∀ {S : wS} {H : Heap} {locs : List Loc} {ls : Array Slot} {a0 : Nat} {x1 : Int32} {x2 : Int32} {x3 : Int32} {x5 : Int32}, wp_X12_spellsFrom_176 D post S a0 x1 x2 x3 x5 → wO D cy X A s.heap S H locs → wX D S0 S → lv_has ls 7 [(0, .ref a0), (1, .int x1), (2, .int x2), (3, .int x3), (5, .int x5)] → wM D S a0 → sK S a0 = 17 → W p l e r_X12_spellsFrom s m args below meth c H locs 0 0 (MQ below (va_Qv (fun S9 => wX D S0 S9 ∧ post S9) (wB D cy X A) A) args s 0 0 A) (F0 m 176 ls []) := by
  obtain ⟨hx, hb, hml, hown, hts⟩ := id F
  have hwg : ∀ w ∈ WG, w.before args s = true := fun w h => hts w (List.mem_cons_of_mem _ h)
  intro S H locs ls a0 x1 x2 x3 x5 hp hW hE hl hL_a0 hK_a0
  unfold wp_X12_spellsFrom_176 at hp
  refine lv_iload_n hx hb dX12_spellsFrom_176 rfl (lv_at hl 2 rfl) ?_
  refine lv_if_eq (tgt := 198) hx hb dX12_spellsFrom_177 (by decide) (fun c_1 => ?_) (fun c_1 => ?_)
  · replace hp := hp.1 c_1
    exact t_X12_spellsFrom_198 F hr hlocks hK hp hW hE (lv_sub hl [] rfl)
  · replace hp := hp.2 c_1
    refine lv_iload_n hx hb dX12_spellsFrom_180 rfl (lv_at hl 3 rfl) ?_
    refine lv_if_eq (tgt := 198) hx hb dX12_spellsFrom_181 (by decide) (fun c_2 => ?_) (fun c_2 => ?_)
    · replace hp := hp.1 c_2
      exact t_X12_spellsFrom_198 F hr hlocks hK hp hW hE (lv_sub hl [] rfl)
    · replace hp := hp.2 c_2
      refine lv_aload_n hx hb dX12_spellsFrom_184 rfl (lv_at hl 0 rfl) ?_
      refine lv_iload_n hx hb dX12_spellsFrom_185 rfl (lv_at hl 1 rfl) ?_
      refine lv_bipush (v := 49) hx hb dX12_spellsFrom_186 (by decide) ?_
      refine lv_aload_n hx hb dX12_spellsFrom_188 rfl (lv_at hl 0 rfl) ?_
      refine lv_iload hx hb dX12_spellsFrom_189 (lv_at hl 4 rfl) ?_
      refine w_callI (va_runV (As := [.int x5]) (rest := [.int (49 : Int32), .int x1, .ref a0]) F (c_X12_rankOf l hL_a0 hK_a0 hp H.size) (cwV (C := RX12) 1 hts (wg_V wm_RX12_138 wy_X12_rankOf) rfl rfl rfl (by decide +kernel) ⟨Nat.le_of_ble_eq_true rfl, Nat.le_of_ble_eq_true rfl⟩) (w_preV hK hW hL_a0 hK_a0 (by decide) rfl) rfl rfl hl.1 rfl (lv_room (Nat.le_of_ble_eq_true rfl)) dX12_spellsFrom_191 ⟨Nat.le_of_ble_eq_true rfl, Nat.le_of_ble_eq_true rfl⟩) hW (fun r_3 S_4 H locs hp hW => ?_)
      obtain ⟨hX_S_4, hp⟩ := hp
      refine W.widen (k := 0) (n := 0) (by decide) (by decide) ?_
      have hE := hE.trans hX_S_4
      have hK_a0 : sK S_4 a0 = 17 := (hX_S_4.2 a0 hL_a0).1.trans hK_a0
      have hL_a0 : wM D S_4 a0 := hX_S_4.M hL_a0
      refine lv_iadd hx hb dX12_spellsFrom_194 ?_
      refine w_callV (va_runV (As := [.int x1, .int ((49 : Int32) + r_3)]) (rest := []) F (c_X12_spells l hL_a0 hK_a0 hp H.size) (cwV (C := RX12) 2 hts (wg_V wm_RX12_296 wy_X12_spells) rfl rfl rfl (by decide +kernel) ⟨Nat.le_of_ble_eq_true rfl, Nat.le_of_ble_eq_true rfl⟩) (w_preV hK hW hL_a0 hK_a0 (by decide) rfl) rfl rfl hl.1 rfl (lv_room (Nat.le_of_ble_eq_true rfl)) dX12_spellsFrom_195 ⟨Nat.le_of_ble_eq_true rfl, Nat.le_of_ble_eq_true rfl⟩) hW (fun S_6 H locs hp hW => ?_)
      obtain ⟨hX_S_6, hp⟩ := hp
      refine W.widen (k := 0) (n := 0) (by decide) (by decide) ?_
      have hE := hE.trans hX_S_6
      have hK_a0 : sK S_6 a0 = 17 := (hX_S_6.2 a0 hL_a0).1.trans hK_a0
      have hL_a0 : wM D S_6 a0 := hX_S_6.M hL_a0
      exact t_X12_spellsFrom_198 F hr hlocks hK hp hW hE (lv_sub hl [] rfl)
set_option maxHeartbeats 4000000 in
set_option maxRecDepth 100000 in
theorem t_X12_spellsFrom_162 {p : Program} {l : Launch} {e : Env} {s : State} {m : MethodId} {args : Array Value} {below : List Frame} {meth : Method} {c : Code} {D : wD} {cy : Nat → ClassId} {X : va_W} {A : Nat → Prop} {S0 : wS} {post : wS → Prop} (F : CallFix p m c cX12_spellsFrom 7 s args wz_X12_spellsFrom RX12) (hr : meth.sig.returnType = none) (hlocks : meth.locks = false) (hK : wK D cy A s) : ∀ {S : wS} {H : Heap} {locs : List Loc} {ls : Array Slot} {a0 : Nat} {x1 : Int32} {x2 : Int32} {x3 : Int32} {x5 : Int32}, wp_X12_spellsFrom_162 D post S a0 x1 x2 x3 x5 → wO D cy X A s.heap S H locs → wX D S0 S → lv_has ls 7 [(0, .ref a0), (1, .int x1), (2, .int x2), (3, .int x3), (5, .int x5)] → wM D S a0 → sK S a0 = 17 → W p l e r_X12_spellsFrom s m args below meth c H locs 0 0 (MQ below (va_Qv (fun S9 => wX D S0 S9 ∧ post S9) (wB D cy X A) A) args s 0 0 A) (F0 m 162 ls []) := by
  obtain ⟨hx, hb, hml, hown, hts⟩ := id F
  have hwg : ∀ w ∈ WG, w.before args s = true := fun w h => hts w (List.mem_cons_of_mem _ h)
  intro S H locs ls a0 x1 x2 x3 x5 hp hW hE hl hL_a0 hK_a0
  unfold wp_X12_spellsFrom_162 at hp
  refine lv_aload_n hx hb dX12_spellsFrom_162 rfl (lv_at hl 0 rfl) ?_
  refine lv_iload_n hx hb dX12_spellsFrom_163 rfl (lv_at hl 1 rfl) ?_
  refine lv_bipush (v := 97) hx hb dX12_spellsFrom_164 (by decide) ?_
  refine lv_aload_n hx hb dX12_spellsFrom_166 rfl (lv_at hl 0 rfl) ?_
  refine lv_iload hx hb dX12_spellsFrom_167 (lv_at hl 4 rfl) ?_
  refine w_callI (va_runV (As := [.int x5]) (rest := [.int (97 : Int32), .int x1, .ref a0]) F (c_X12_fileOf l hL_a0 hK_a0 hp H.size) (cwV (C := RX12) 1 hts (wg_V wm_RX12_134 wy_X12_fileOf) rfl rfl rfl (by decide +kernel) ⟨Nat.le_of_ble_eq_true rfl, Nat.le_of_ble_eq_true rfl⟩) (w_preV hK hW hL_a0 hK_a0 (by decide) rfl) rfl rfl hl.1 rfl (lv_room (Nat.le_of_ble_eq_true rfl)) dX12_spellsFrom_169 ⟨Nat.le_of_ble_eq_true rfl, Nat.le_of_ble_eq_true rfl⟩) hW (fun r_1 S_2 H locs hp hW => ?_)
  obtain ⟨hX_S_2, hp⟩ := hp
  refine W.widen (k := 0) (n := 0) (by decide) (by decide) ?_
  have hE := hE.trans hX_S_2
  have hK_a0 : sK S_2 a0 = 17 := (hX_S_2.2 a0 hL_a0).1.trans hK_a0
  have hL_a0 : wM D S_2 a0 := hX_S_2.M hL_a0
  refine lv_iadd hx hb dX12_spellsFrom_172 ?_
  refine w_callV (va_runV (As := [.int x1, .int ((97 : Int32) + r_1)]) (rest := []) F (c_X12_spells l hL_a0 hK_a0 hp H.size) (cwV (C := RX12) 2 hts (wg_V wm_RX12_296 wy_X12_spells) rfl rfl rfl (by decide +kernel) ⟨Nat.le_of_ble_eq_true rfl, Nat.le_of_ble_eq_true rfl⟩) (w_preV hK hW hL_a0 hK_a0 (by decide) rfl) rfl rfl hl.1 rfl (lv_room (Nat.le_of_ble_eq_true rfl)) dX12_spellsFrom_173 ⟨Nat.le_of_ble_eq_true rfl, Nat.le_of_ble_eq_true rfl⟩) hW (fun S_4 H locs hp hW => ?_)
  obtain ⟨hX_S_4, hp⟩ := hp
  refine W.widen (k := 0) (n := 0) (by decide) (by decide) ?_
  have hE := hE.trans hX_S_4
  have hK_a0 : sK S_4 a0 = 17 := (hX_S_4.2 a0 hL_a0).1.trans hK_a0
  have hL_a0 : wM D S_4 a0 := hX_S_4.M hL_a0
  exact t_X12_spellsFrom_176 F hr hlocks hK hp hW hE (lv_sub hl [0, 1, 2, 3, 4] rfl) hL_a0 hK_a0
set_option maxHeartbeats 4000000 in
set_option maxRecDepth 100000 in
theorem t_X12_spellsFrom_143 {p : Program} {l : Launch} {e : Env} {s : State} {m : MethodId} {args : Array Value} {below : List Frame} {meth : Method} {c : Code} {D : wD} {cy : Nat → ClassId} {X : va_W} {A : Nat → Prop} {S0 : wS} {post : wS → Prop} (F : CallFix p m c cX12_spellsFrom 7 s args wz_X12_spellsFrom RX12) (hr : meth.sig.returnType = none) (hlocks : meth.locks = false) (hK : wK D cy A s) {k_18 : wS → Nat → Int32 → Int32 → Int32 → Int32 → Int32 → Int32 → Prop} (q_18 : ∀ {S : wS} {H : Heap} {locs : List Loc} {ls : Array Slot} {a0 : Nat} {x1 : Int32} {x2 : Int32} {x3 : Int32} {x4 : Int32} {x5 : Int32} {x6 : Int32}, k_18 S a0 x1 x2 x3 x4 x5 x6 → wO D cy X A s.heap S H locs → wX D S0 S → lv_has ls 7 [(0, .ref a0), (1, .int x1), (2, .int x2), (3, .int x3), (4, .int x4), (5, .int x5), (6, .int x6)] → wM D S a0 → sK S a0 = 17 → W p l e r_X12_spellsFrom s m args below meth c H locs 0 0 (MQ below (va_Qv (fun S9 => wX D S0 S9 ∧ post S9) (wB D cy X A) A) args s 0 0 A) (F0 m 18 ls [])) : ∀ {S : wS} {H : Heap} {locs : List Loc} {ls : Array Slot} {a0 : Nat} {x1 : Int32} {x2 : Int32} {x3 : Int32} {x4 : Int32} {x5 : Int32} {x6 : Int32}, wp_X12_spellsFrom_143 D post k_18 S a0 x1 x2 x3 x4 x5 x6 → wO D cy X A s.heap S H locs → wX D S0 S → lv_has ls 7 [(0, .ref a0), (1, .int x1), (2, .int x2), (3, .int x3), (4, .int x4), (5, .int x5), (6, .int x6)] → wM D S a0 → sK S a0 = 17 → W p l e r_X12_spellsFrom s m args below meth c H locs 0 0 (MQ below (va_Qv (fun S9 => wX D S0 S9 ∧ post S9) (wB D cy X A) A) args s 0 0 A) (F0 m 143 ls []) := by
  obtain ⟨hx, hb, hml, hown, hts⟩ := id F
  have hwg : ∀ w ∈ WG, w.before args s = true := fun w h => hts w (List.mem_cons_of_mem _ h)
  intro S H locs ls a0 x1 x2 x3 x4 x5 x6 hp hW hE hl hL_a0 hK_a0
  unfold wp_X12_spellsFrom_143 at hp
  obtain ⟨x_1, ex_1⟩ : ∃ z : Int32, z = x6 + 1 := ⟨_, rfl⟩
  replace hp := hp x_1 ex_1
  refine lv_iinc (v := x_1) (lv' := [(6, .int x_1), (0, .ref a0), (1, .int x1), (2, .int x2), (3, .int x3), (4, .int x4), (5, .int x5)]) hx hb dX12_spellsFrom_143 hl (k := 6) rfl (by rw [ex_1]; rfl) (by decide) rfl (fun ls hl => ?_)
  refine lv_goto (tgt := 18) hx hb dX12_spellsFrom_146 (by decide) ?_
  exact q_18 hp hW hE (lv_sub hl [1, 2, 3, 4, 5, 6, 0] rfl) hL_a0 hK_a0
set_option maxHeartbeats 4000000 in
set_option maxRecDepth 100000 in
theorem t_X12_spellsFrom_141 {p : Program} {l : Launch} {e : Env} {s : State} {m : MethodId} {args : Array Value} {below : List Frame} {meth : Method} {c : Code} {D : wD} {cy : Nat → ClassId} {X : va_W} {A : Nat → Prop} {S0 : wS} {post : wS → Prop} (F : CallFix p m c cX12_spellsFrom 7 s args wz_X12_spellsFrom RX12) (hr : meth.sig.returnType = none) (hlocks : meth.locks = false) (hK : wK D cy A s) {k_18 : wS → Nat → Int32 → Int32 → Int32 → Int32 → Int32 → Int32 → Prop} (q_18 : ∀ {S : wS} {H : Heap} {locs : List Loc} {ls : Array Slot} {a0 : Nat} {x1 : Int32} {x2 : Int32} {x3 : Int32} {x4 : Int32} {x5 : Int32} {x6 : Int32}, k_18 S a0 x1 x2 x3 x4 x5 x6 → wO D cy X A s.heap S H locs → wX D S0 S → lv_has ls 7 [(0, .ref a0), (1, .int x1), (2, .int x2), (3, .int x3), (4, .int x4), (5, .int x5), (6, .int x6)] → wM D S a0 → sK S a0 = 17 → W p l e r_X12_spellsFrom s m args below meth c H locs 0 0 (MQ below (va_Qv (fun S9 => wX D S0 S9 ∧ post S9) (wB D cy X A) A) args s 0 0 A) (F0 m 18 ls [])) : ∀ {S : wS} {H : Heap} {locs : List Loc} {ls : Array Slot} {a0 : Nat} {x1 : Int32} {x2 : Int32} {x3 : Int32} {x5 : Int32} {x6 : Int32} {t0 : Int32}, wp_X12_spellsFrom_141 D post k_18 S a0 x1 x2 x3 x5 x6 t0 → wO D cy X A s.heap S H locs → wX D S0 S → lv_has ls 7 [(0, .ref a0), (1, .int x1), (2, .int x2), (3, .int x3), (5, .int x5), (6, .int x6)] → wM D S a0 → sK S a0 = 17 → W p l e r_X12_spellsFrom s m args below meth c H locs 0 0 (MQ below (va_Qv (fun S9 => wX D S0 S9 ∧ post S9) (wB D cy X A) A) args s 0 0 A) (F0 m 141 ls [.int t0]) := by
  obtain ⟨hx, hb, hml, hown, hts⟩ := id F
  have hwg : ∀ w ∈ WG, w.before args s = true := fun w h => hts w (List.mem_cons_of_mem _ h)
  intro S H locs ls a0 x1 x2 x3 x5 x6 t0 hp hW hE hl hL_a0 hK_a0
  unfold wp_X12_spellsFrom_141 at hp
  refine lv_istore (lv' := [(4, .int t0), (0, .ref a0), (1, .int x1), (2, .int x2), (3, .int x3), (5, .int x5), (6, .int x6)]) hx hb dX12_spellsFrom_141 hl (by decide) rfl (fun ls hl => ?_)
  exact t_X12_spellsFrom_143 F hr hlocks hK q_18 hp hW hE (lv_sub hl [1, 2, 3, 4, 0, 5, 6] rfl) hL_a0 hK_a0
set_option maxHeartbeats 4000000 in
set_option maxRecDepth 100000 in
theorem t_X12_spellsFrom_136 {p : Program} {l : Launch} {e : Env} {s : State} {m : MethodId} {args : Array Value} {below : List Frame} {meth : Method} {c : Code} {D : wD} {cy : Nat → ClassId} {X : va_W} {A : Nat → Prop} {S0 : wS} {post : wS → Prop} (F : CallFix p m c cX12_spellsFrom 7 s args wz_X12_spellsFrom RX12) (hr : meth.sig.returnType = none) (hlocks : meth.locks = false) (hK : wK D cy A s) {k_18 : wS → Nat → Int32 → Int32 → Int32 → Int32 → Int32 → Int32 → Prop} (q_18 : ∀ {S : wS} {H : Heap} {locs : List Loc} {ls : Array Slot} {a0 : Nat} {x1 : Int32} {x2 : Int32} {x3 : Int32} {x4 : Int32} {x5 : Int32} {x6 : Int32}, k_18 S a0 x1 x2 x3 x4 x5 x6 → wO D cy X A s.heap S H locs → wX D S0 S → lv_has ls 7 [(0, .ref a0), (1, .int x1), (2, .int x2), (3, .int x3), (4, .int x4), (5, .int x5), (6, .int x6)] → wM D S a0 → sK S a0 = 17 → W p l e r_X12_spellsFrom s m args below meth c H locs 0 0 (MQ below (va_Qv (fun S9 => wX D S0 S9 ∧ post S9) (wB D cy X A) A) args s 0 0 A) (F0 m 18 ls [])) : ∀ {S : wS} {H : Heap} {locs : List Loc} {ls : Array Slot} {a0 : Nat} {x1 : Int32} {x2 : Int32} {x3 : Int32} {x5 : Int32} {x6 : Int32}, wp_X12_spellsFrom_136 D post k_18 S a0 x1 x2 x3 x5 x6 → wO D cy X A s.heap S H locs → wX D S0 S → lv_has ls 7 [(0, .ref a0), (1, .int x1), (2, .int x2), (3, .int x3), (5, .int x5), (6, .int x6)] → wM D S a0 → sK S a0 = 17 → W p l e r_X12_spellsFrom s m args below meth c H locs 0 0 (MQ below (va_Qv (fun S9 => wX D S0 S9 ∧ post S9) (wB D cy X A) A) args s 0 0 A) (F0 m 136 ls []) := by
  obtain ⟨hx, hb, hml, hown, hts⟩ := id F
  have hwg : ∀ w ∈ WG, w.before args s = true := fun w h => hts w (List.mem_cons_of_mem _ h)
  intro S H locs ls a0 x1 x2 x3 x5 x6 hp hW hE hl hL_a0 hK_a0
  unfold wp_X12_spellsFrom_136 at hp
  refine lv_iconst (v := 1) hx hb dX12_spellsFrom_136 (by decide) ?_
  refine lv_goto (tgt := 141) hx hb dX12_spellsFrom_137 (by decide) ?_
  exact t_X12_spellsFrom_141 F hr hlocks hK q_18 hp hW hE (lv_sub hl [0, 1, 2, 3, 4, 5] rfl) hL_a0 hK_a0
set_option maxHeartbeats 4000000 in
set_option maxRecDepth 100000 in
theorem t_X12_spellsFrom_110 {p : Program} {l : Launch} {e : Env} {s : State} {m : MethodId} {args : Array Value} {below : List Frame} {meth : Method} {c : Code} {D : wD} {cy : Nat → ClassId} {X : va_W} {A : Nat → Prop} {S0 : wS} {post : wS → Prop} (F : CallFix p m c cX12_spellsFrom 7 s args wz_X12_spellsFrom RX12) (hr : meth.sig.returnType = none) (hlocks : meth.locks = false) (hK : wK D cy A s) {k_18 : wS → Nat → Int32 → Int32 → Int32 → Int32 → Int32 → Int32 → Prop} (q_18 : ∀ {S : wS} {H : Heap} {locs : List Loc} {ls : Array Slot} {a0 : Nat} {x1 : Int32} {x2 : Int32} {x3 : Int32} {x4 : Int32} {x5 : Int32} {x6 : Int32}, k_18 S a0 x1 x2 x3 x4 x5 x6 → wO D cy X A s.heap S H locs → wX D S0 S → lv_has ls 7 [(0, .ref a0), (1, .int x1), (2, .int x2), (3, .int x3), (4, .int x4), (5, .int x5), (6, .int x6)] → wM D S a0 → sK S a0 = 17 → W p l e r_X12_spellsFrom s m args below meth c H locs 0 0 (MQ below (va_Qv (fun S9 => wX D S0 S9 ∧ post S9) (wB D cy X A) A) args s 0 0 A) (F0 m 18 ls [])) : ∀ {S : wS} {H : Heap} {locs : List Loc} {ls : Array Slot} {a0 : Nat} {x1 : Int32} {x2 : Int32} {x4 : Int32} {x5 : Int32} {x6 : Int32} {t0 : Int32}, wp_X12_spellsFrom_110 D post k_18 S a0 x1 x2 x4 x5 x6 t0 → wO D cy X A s.heap S H locs → wX D S0 S → lv_has ls 7 [(0, .ref a0), (1, .int x1), (2, .int x2), (4, .int x4), (5, .int x5), (6, .int x6)] → wM D S a0 → sK S a0 = 17 → W p l e r_X12_spellsFrom s m args below meth c H locs 0 0 (MQ below (va_Qv (fun S9 => wX D S0 S9 ∧ post S9) (wB D cy X A) A) args s 0 0 A) (F0 m 110 ls [.int t0]) := by
  obtain ⟨hx, hb, hml, hown, hts⟩ := id F
  have hwg : ∀ w ∈ WG, w.before args s = true := fun w h => hts w (List.mem_cons_of_mem _ h)
  have i_17 : ∀ w ∈ u_ws RX12 TX12 43, w ∈ wz_X12_spellsFrom := fun w h => List.mem_cons_of_mem _ (wu_17 w h)
  have k_20 := hwg _ wf_RX12_20
  intro S H locs ls a0 x1 x2 x4 x5 x6 t0 hp hW hE hl hL_a0 hK_a0
  unfold wp_X12_spellsFrom_110 at hp
  refine lv_istore_n (lv' := [(3, .int t0), (0, .ref a0), (1, .int x1), (2, .int x2), (4, .int x4), (5, .int x5), (6, .int x6)]) hx hb dX12_spellsFrom_110 rfl hl (by decide) rfl (fun ls hl => ?_)
  refine lv_iload hx hb dX12_spellsFrom_111 (lv_at hl 4 rfl) ?_
  refine lv_if_ne (tgt := 136) hx hb dX12_spellsFrom_113 (by decide) (fun c_1 => ?_) (fun c_1 => ?_)
  · replace hp := hp.1 c_1
    exact t_X12_spellsFrom_136 F hr hlocks hK q_18 hp hW hE (lv_sub hl [1, 2, 3, 0, 5, 6] rfl) hL_a0 hK_a0
  · replace hp := hp.2 c_1
    refine lv_aload_n hx hb dX12_spellsFrom_116 rfl (lv_at hl 1 rfl) ?_
    refine lv_aload_n hx hb dX12_spellsFrom_117 rfl (lv_at hl 1 rfl) ?_
    obtain ⟨y_2, ey_2, hL_y_2, hK_y_2, hp⟩ := hp
    refine w_get (k := 17) (f := 4) (T := TX12) (v := .ref y_2) F hK hW hL_a0 hK_a0 (by decide) rfl rfl (by decide) i_17 k_20 (by rw [show wv 17 4 S a0 = va_rf (sR S a0 4) from rfl, ey_2]; rfl) dX12_spellsFrom_118 ?_
    refine lv_iload hx hb dX12_spellsFrom_121 (lv_at hl 6 rfl) ?_
    obtain ⟨h_3, hp⟩ := hp
    refine w_ild F hK hW hL_y_2 hK_y_2 h_3 dX12_spellsFrom_123 ?_
    refine w_callI (va_runV (As := [.int (sI S y_2 (x6).toNatClampNeg)]) (rest := []) F (c_X12_rankOf l hL_a0 hK_a0 hp H.size) (cwV (C := RX12) 1 hts (wg_V wm_RX12_138 wy_X12_rankOf) rfl rfl rfl (by decide +kernel) ⟨Nat.le_of_ble_eq_true rfl, Nat.le_of_ble_eq_true rfl⟩) (w_preV hK hW hL_a0 hK_a0 (by decide) rfl) rfl rfl hl.1 rfl (lv_room (Nat.le_of_ble_eq_true rfl)) dX12_spellsFrom_124 ⟨Nat.le_of_ble_eq_true rfl, Nat.le_of_ble_eq_true rfl⟩) hW (fun r_4 S_5 H locs hp hW => ?_)
    obtain ⟨hX_S_5, hp⟩ := hp
    refine W.widen (k := 0) (n := 0) (by decide) (by decide) ?_
    have hE := hE.trans hX_S_5
    have hK_a0 : sK S_5 a0 = 17 := (hX_S_5.2 a0 hL_a0).1.trans hK_a0
    have hL_a0 : wM D S_5 a0 := hX_S_5.M hL_a0
    refine lv_aload_n hx hb dX12_spellsFrom_127 rfl (lv_at hl 1 rfl) ?_
    refine lv_iload hx hb dX12_spellsFrom_128 (lv_at hl 5 rfl) ?_
    refine w_callI (va_runV (As := [.int x5]) (rest := [.int r_4]) F (c_X12_rankOf l hL_a0 hK_a0 hp H.size) (cwV (C := RX12) 1 hts (wg_V wm_RX12_138 wy_X12_rankOf) rfl rfl rfl (by decide +kernel) ⟨Nat.le_of_ble_eq_true rfl, Nat.le_of_ble_eq_true rfl⟩) (w_preV hK hW hL_a0 hK_a0 (by decide) rfl) rfl rfl hl.1 rfl (lv_room (Nat.le_of_ble_eq_true rfl)) dX12_spellsFrom_130 ⟨Nat.le_of_ble_eq_true rfl, Nat.le_of_ble_eq_true rfl⟩) hW (fun r_6 S_7 H locs hp hW => ?_)
    obtain ⟨hX_S_7, hp⟩ := hp
    refine W.widen (k := 0) (n := 0) (by decide) (by decide) ?_
    have hE := hE.trans hX_S_7
    have hK_a0 : sK S_7 a0 = 17 := (hX_S_7.2 a0 hL_a0).1.trans hK_a0
    have hL_a0 : wM D S_7 a0 := hX_S_7.M hL_a0
    refine lv_icmp_ne (tgt := 140) hx hb dX12_spellsFrom_133 (by decide) (fun c_8 => ?_) (fun c_8 => ?_)
    · replace hp := hp.1 c_8
      refine lv_iconst (v := 0) hx hb dX12_spellsFrom_140 (by decide) ?_
      exact t_X12_spellsFrom_141 F hr hlocks hK q_18 hp hW hE (lv_sub hl [1, 2, 3, 0, 5, 6] rfl) hL_a0 hK_a0
    · replace hp := hp.2 c_8
      exact t_X12_spellsFrom_136 F hr hlocks hK q_18 hp hW hE (lv_sub hl [1, 2, 3, 0, 5, 6] rfl) hL_a0 hK_a0
set_option maxHeartbeats 4000000 in
set_option maxRecDepth 100000 in
theorem t_X12_spellsFrom_105 {p : Program} {l : Launch} {e : Env} {s : State} {m : MethodId} {args : Array Value} {below : List Frame} {meth : Method} {c : Code} {D : wD} {cy : Nat → ClassId} {X : va_W} {A : Nat → Prop} {S0 : wS} {post : wS → Prop} (F : CallFix p m c cX12_spellsFrom 7 s args wz_X12_spellsFrom RX12) (hr : meth.sig.returnType = none) (hlocks : meth.locks = false) (hK : wK D cy A s) {k_18 : wS → Nat → Int32 → Int32 → Int32 → Int32 → Int32 → Int32 → Prop} (q_18 : ∀ {S : wS} {H : Heap} {locs : List Loc} {ls : Array Slot} {a0 : Nat} {x1 : Int32} {x2 : Int32} {x3 : Int32} {x4 : Int32} {x5 : Int32} {x6 : Int32}, k_18 S a0 x1 x2 x3 x4 x5 x6 → wO D cy X A s.heap S H locs → wX D S0 S → lv_has ls 7 [(0, .ref a0), (1, .int x1), (2, .int x2), (3, .int x3), (4, .int x4), (5, .int x5), (6, .int x6)] → wM D S a0 → sK S a0 = 17 → W p l e r_X12_spellsFrom s m args below meth c H locs 0 0 (MQ below (va_Qv (fun S9 => wX D S0 S9 ∧ post S9) (wB D cy X A) A) args s 0 0 A) (F0 m 18 ls [])) : ∀ {S : wS} {H : Heap} {locs : List Loc} {ls : Array Slot} {a0 : Nat} {x1 : Int32} {x2 : Int32} {x4 : Int32} {x5 : Int32} {x6 : Int32}, wp_X12_spellsFrom_105 D post k_18 S a0 x1 x2 x4 x5 x6 → wO D cy X A s.heap S H locs → wX D S0 S → lv_has ls 7 [(0, .ref a0), (1, .int x1), (2, .int x2), (4, .int x4), (5, .int x5), (6, .int x6)] → wM D S a0 → sK S a0 = 17 → W p l e r_X12_spellsFrom s m args below meth c H locs 0 0 (MQ below (va_Qv (fun S9 => wX D S0 S9 ∧ post S9) (wB D cy X A) A) args s 0 0 A) (F0 m 105 ls []) := by
  obtain ⟨hx, hb, hml, hown, hts⟩ := id F
  have hwg : ∀ w ∈ WG, w.before args s = true := fun w h => hts w (List.mem_cons_of_mem _ h)
  intro S H locs ls a0 x1 x2 x4 x5 x6 hp hW hE hl hL_a0 hK_a0
  unfold wp_X12_spellsFrom_105 at hp
  refine lv_iconst (v := 1) hx hb dX12_spellsFrom_105 (by decide) ?_
  refine lv_goto (tgt := 110) hx hb dX12_spellsFrom_106 (by decide) ?_
  exact t_X12_spellsFrom_110 F hr hlocks hK q_18 hp hW hE (lv_sub hl [0, 1, 2, 3, 4, 5] rfl) hL_a0 hK_a0
set_option maxHeartbeats 4000000 in
set_option maxRecDepth 100000 in
theorem t_X12_spellsFrom_18 {p : Program} {l : Launch} {e : Env} {s : State} {m : MethodId} {args : Array Value} {below : List Frame} {meth : Method} {c : Code} {D : wD} {cy : Nat → ClassId} {X : va_W} {A : Nat → Prop} {S0 : wS} {post : wS → Prop} (F : CallFix p m c cX12_spellsFrom 7 s args wz_X12_spellsFrom RX12) (hr : meth.sig.returnType = none) (hlocks : meth.locks = false) (hK : wK D cy A s) : ∀ (n : Nat) {S : wS} {H : Heap} {locs : List Loc} {ls : Array Slot} {a0 : Nat} {x1 : Int32} {x2 : Int32} {x3 : Int32} {x4 : Int32} {x5 : Int32} {x6 : Int32}, wp_X12_spellsFrom_18 D post n S a0 x1 x2 x3 x4 x5 x6 → wO D cy X A s.heap S H locs → wX D S0 S → lv_has ls 7 [(0, .ref a0), (1, .int x1), (2, .int x2), (3, .int x3), (4, .int x4), (5, .int x5), (6, .int x6)] → wM D S a0 → sK S a0 = 17 → W p l e r_X12_spellsFrom s m args below meth c H locs 0 0 (MQ below (va_Qv (fun S9 => wX D S0 S9 ∧ post S9) (wB D cy X A) A) args s 0 0 A) (F0 m 18 ls []) := by
  obtain ⟨hx, hb, hml, hown, hts⟩ := id F
  have hwg : ∀ w ∈ WG, w.before args s = true := fun w h => hts w (List.mem_cons_of_mem _ h)
  have i_17 : ∀ w ∈ u_ws RX12 TX12 43, w ∈ wz_X12_spellsFrom := fun w h => List.mem_cons_of_mem _ (wu_17 w h)
  have k_20 := hwg _ wf_RX12_20
  have k_23 := hwg _ wf_RX12_23
  have k_29 := hwg _ wf_RX12_29
  intro n
  induction n with
  | zero =>
    intro S H locs ls a0 x1 x2 x3 x4 x5 x6 hp
    exact hp.elim
  | succ n ih =>
    intro S H locs ls a0 x1 x2 x3 x4 x5 x6 hp hW hE hl hL_a0 hK_a0
    unfold wp_X12_spellsFrom_18 at hp
    refine lv_iload hx hb dX12_spellsFrom_18 (lv_at hl 6 rfl) ?_
    refine lv_aload_n hx hb dX12_spellsFrom_20 rfl (lv_at hl 0 rfl) ?_
    obtain ⟨y_1, ey_1, hL_y_1, hK_y_1, hp⟩ := hp
    refine w_get (k := 17) (f := 7) (T := TX12) (v := .ref y_1) F hK hW hL_a0 hK_a0 (by decide) rfl rfl (by decide) i_17 k_29 (by rw [show wv 17 7 S a0 = va_rf (sR S a0 7) from rfl, ey_1]; rfl) dX12_spellsFrom_21 ?_
    refine lv_iconst (v := 0) hx hb dX12_spellsFrom_24 (by decide) ?_
    obtain ⟨h_2, hp⟩ := hp
    refine w_ild F hK hW hL_y_1 hK_y_1 h_2 dX12_spellsFrom_25 ?_
    refine lv_icmp_ge (tgt := 149) hx hb dX12_spellsFrom_26 (by decide) (fun c_3 => ?_) (fun c_3 => ?_)
    · replace hp := hp.1 c_3
      refine lv_iload_n hx hb dX12_spellsFrom_149 rfl (lv_at hl 2 rfl) ?_
      refine lv_if_eq (tgt := 176) hx hb dX12_spellsFrom_150 (by decide) (fun c_4 => ?_) (fun c_4 => ?_)
      · replace hp := hp.1 c_4
        exact t_X12_spellsFrom_176 F hr hlocks hK hp hW hE (lv_sub hl [0, 1, 2, 3, 5] rfl) hL_a0 hK_a0
      · replace hp := hp.2 c_4
        refine lv_iload_n hx hb dX12_spellsFrom_153 rfl (lv_at hl 3 rfl) ?_
        refine lv_if_eq (tgt := 162) hx hb dX12_spellsFrom_154 (by decide) (fun c_5 => ?_) (fun c_5 => ?_)
        · replace hp := hp.1 c_5
          exact t_X12_spellsFrom_162 F hr hlocks hK hp hW hE (lv_sub hl [0, 1, 2, 3, 5] rfl) hL_a0 hK_a0
        · replace hp := hp.2 c_5
          refine lv_iload hx hb dX12_spellsFrom_157 (lv_at hl 4 rfl) ?_
          refine lv_if_eq (tgt := 176) hx hb dX12_spellsFrom_159 (by decide) (fun c_6 => ?_) (fun c_6 => ?_)
          · replace hp := hp.1 c_6
            exact t_X12_spellsFrom_176 F hr hlocks hK hp hW hE (lv_sub hl [0, 1, 2, 3, 5] rfl) hL_a0 hK_a0
          · replace hp := hp.2 c_6
            exact t_X12_spellsFrom_162 F hr hlocks hK hp hW hE (lv_sub hl [0, 1, 2, 3, 5] rfl) hL_a0 hK_a0
    · replace hp := hp.2 c_3
      refine lv_aload_n hx hb dX12_spellsFrom_29 rfl (lv_at hl 0 rfl) ?_
      obtain ⟨y_7, ey_7, hL_y_7, hK_y_7, hp⟩ := hp
      refine w_get (k := 17) (f := 4) (T := TX12) (v := .ref y_7) F hK hW hL_a0 hK_a0 (by decide) rfl rfl (by decide) i_17 k_20 (by rw [show wv 17 4 S a0 = va_rf (sR S a0 4) from rfl, ey_7]; rfl) dX12_spellsFrom_30 ?_
      refine lv_iload hx hb dX12_spellsFrom_33 (lv_at hl 6 rfl) ?_
      obtain ⟨h_8, hp⟩ := hp
      refine w_ild F hK hW hL_y_7 hK_y_7 h_8 dX12_spellsFrom_35 ?_
      refine lv_iload hx hb dX12_spellsFrom_36 (lv_at hl 5 rfl) ?_
      refine lv_icmp_eq (tgt := 143) hx hb dX12_spellsFrom_38 (by decide) (fun c_9 => ?_) (fun c_9 => ?_)
      · replace hp := hp.1 c_9
        exact t_X12_spellsFrom_143 F hr hlocks hK ih hp hW hE (lv_sub hl [0, 1, 2, 3, 4, 5, 6] rfl) hL_a0 hK_a0
      · replace hp := hp.2 c_9
        refine lv_aload_n hx hb dX12_spellsFrom_41 rfl (lv_at hl 0 rfl) ?_
        obtain ⟨y_10, ey_10, hL_y_10, hK_y_10, hp⟩ := hp
        refine w_get (k := 17) (f := 5) (T := TX12) (v := .ref y_10) F hK hW hL_a0 hK_a0 (by decide) rfl rfl (by decide) i_17 k_23 (by rw [show wv 17 5 S a0 = va_rf (sR S a0 5) from rfl, ey_10]; rfl) dX12_spellsFrom_42 ?_
        refine lv_iload hx hb dX12_spellsFrom_45 (lv_at hl 6 rfl) ?_
        obtain ⟨h_11, hp⟩ := hp
        refine w_ild F hK hW hL_y_10 hK_y_10 h_11 dX12_spellsFrom_47 ?_
        refine lv_aload_n hx hb dX12_spellsFrom_48 rfl (lv_at hl 0 rfl) ?_
        obtain ⟨y_12, ey_12, hL_y_12, hK_y_12, hp⟩ := hp
        refine w_get (k := 17) (f := 5) (T := TX12) (v := .ref y_12) F hK hW hL_a0 hK_a0 (by decide) rfl rfl (by decide) i_17 k_23 (by rw [show wv 17 5 S a0 = va_rf (sR S a0 5) from rfl, ey_12]; rfl) dX12_spellsFrom_49 ?_
        refine lv_iload_n hx hb dX12_spellsFrom_52 rfl (lv_at hl 1 rfl) ?_
        obtain ⟨h_13, hp⟩ := hp
        refine w_ild F hK hW hL_y_12 hK_y_12 h_13 dX12_spellsFrom_53 ?_
        refine lv_icmp_ne (tgt := 143) hx hb dX12_spellsFrom_54 (by decide) (fun c_14 => ?_) (fun c_14 => ?_)
        · replace hp := hp.1 c_14
          exact t_X12_spellsFrom_143 F hr hlocks hK ih hp hW hE (lv_sub hl [0, 1, 2, 3, 4, 5, 6] rfl) hL_a0 hK_a0
        · replace hp := hp.2 c_14
          refine lv_aload_n hx hb dX12_spellsFrom_57 rfl (lv_at hl 0 rfl) ?_
          refine lv_iconst (v := 0) hx hb dX12_spellsFrom_58 (by decide) ?_
          refine lv_aload_n hx hb dX12_spellsFrom_59 rfl (lv_at hl 0 rfl) ?_
          obtain ⟨y_15, ey_15, hL_y_15, hK_y_15, hp⟩ := hp
          refine w_get (k := 17) (f := 4) (T := TX12) (v := .ref y_15) F hK hW hL_a0 hK_a0 (by decide) rfl rfl (by decide) i_17 k_20 (by rw [show wv 17 4 S a0 = va_rf (sR S a0 4) from rfl, ey_15]; rfl) dX12_spellsFrom_60 ?_
          refine lv_iload hx hb dX12_spellsFrom_63 (lv_at hl 6 rfl) ?_
          obtain ⟨h_16, hp⟩ := hp
          refine w_ild F hK hW hL_y_15 hK_y_15 h_16 dX12_spellsFrom_65 ?_
          refine w_callI (va_runV (As := [.int (0 : Int32), .int (sI S y_15 (x6).toNatClampNeg)]) (rest := []) F (c_X12_on l hL_a0 hK_a0 hp H.size) (cwV (C := RX12) 2 hts (wg_V wm_RX12_141 wy_X12_on) rfl rfl rfl (by decide +kernel) ⟨Nat.le_of_ble_eq_true rfl, Nat.le_of_ble_eq_true rfl⟩) (w_preV hK hW hL_a0 hK_a0 (by decide) rfl) rfl rfl hl.1 rfl (lv_room (Nat.le_of_ble_eq_true rfl)) dX12_spellsFrom_66 ⟨Nat.le_of_ble_eq_true rfl, Nat.le_of_ble_eq_true rfl⟩) hW (fun r_17 S_18 H locs hp hW => ?_)
          obtain ⟨hX_S_18, hp⟩ := hp
          refine W.widen (k := 0) (n := 0) (by decide) (by decide) ?_
          have hE := hE.trans hX_S_18
          have hK_a0 : sK S_18 a0 = 17 := (hX_S_18.2 a0 hL_a0).1.trans hK_a0
          have hL_a0 : wM D S_18 a0 := hX_S_18.M hL_a0
          refine lv_aload_n hx hb dX12_spellsFrom_69 rfl (lv_at hl 0 rfl) ?_
          refine lv_iconst (v := 0) hx hb dX12_spellsFrom_70 (by decide) ?_
          refine lv_iload hx hb dX12_spellsFrom_71 (lv_at hl 5 rfl) ?_
          refine w_callI (va_runV (As := [.int (0 : Int32), .int x5]) (rest := [.int r_17]) F (c_X12_on l hL_a0 hK_a0 hp H.size) (cwV (C := RX12) 2 hts (wg_V wm_RX12_141 wy_X12_on) rfl rfl rfl (by decide +kernel) ⟨Nat.le_of_ble_eq_true rfl, Nat.le_of_ble_eq_true rfl⟩) (w_preV hK hW hL_a0 hK_a0 (by decide) rfl) rfl rfl hl.1 rfl (lv_room (Nat.le_of_ble_eq_true rfl)) dX12_spellsFrom_73 ⟨Nat.le_of_ble_eq_true rfl, Nat.le_of_ble_eq_true rfl⟩) hW (fun r_19 S_20 H locs hp hW => ?_)
          obtain ⟨hX_S_20, hp⟩ := hp
          refine W.widen (k := 0) (n := 0) (by decide) (by decide) ?_
          have hE := hE.trans hX_S_20
          have hK_a0 : sK S_20 a0 = 17 := (hX_S_20.2 a0 hL_a0).1.trans hK_a0
          have hL_a0 : wM D S_20 a0 := hX_S_20.M hL_a0
          refine lv_icmp_ne (tgt := 143) hx hb dX12_spellsFrom_76 (by decide) (fun c_21 => ?_) (fun c_21 => ?_)
          · replace hp := hp.1 c_21
            exact t_X12_spellsFrom_143 F hr hlocks hK ih hp hW hE (lv_sub hl [0, 1, 2, 3, 4, 5, 6] rfl) hL_a0 hK_a0
          · replace hp := hp.2 c_21
            refine lv_iconst (v := 1) hx hb dX12_spellsFrom_79 (by decide) ?_
            refine lv_istore_n (lv' := [(2, .int (1 : Int32)), (0, .ref a0), (1, .int x1), (3, .int x3), (4, .int x4), (5, .int x5), (6, .int x6)]) hx hb dX12_spellsFrom_80 rfl hl (by decide) rfl (fun ls hl => ?_)
            refine lv_iload_n hx hb dX12_spellsFrom_81 rfl (lv_at hl 3 rfl) ?_
            refine lv_if_ne (tgt := 105) hx hb dX12_spellsFrom_82 (by decide) (fun c_22 => ?_) (fun c_22 => ?_)
            · replace hp := hp.1 c_22
              exact t_X12_spellsFrom_105 F hr hlocks hK ih hp hW hE (lv_sub hl [1, 2, 0, 4, 5, 6] rfl) hL_a0 hK_a0
            · replace hp := hp.2 c_22
              refine lv_aload_n hx hb dX12_spellsFrom_85 rfl (lv_at hl 1 rfl) ?_
              refine lv_aload_n hx hb dX12_spellsFrom_86 rfl (lv_at hl 1 rfl) ?_
              obtain ⟨y_23, ey_23, hL_y_23, hK_y_23, hp⟩ := hp
              refine w_get (k := 17) (f := 4) (T := TX12) (v := .ref y_23) F hK hW hL_a0 hK_a0 (by decide) rfl rfl (by decide) i_17 k_20 (by rw [show wv 17 4 S_20 a0 = va_rf (sR S_20 a0 4) from rfl, ey_23]; rfl) dX12_spellsFrom_87 ?_
              refine lv_iload hx hb dX12_spellsFrom_90 (lv_at hl 6 rfl) ?_
              obtain ⟨h_24, hp⟩ := hp
              refine w_ild F hK hW hL_y_23 hK_y_23 h_24 dX12_spellsFrom_92 ?_
              refine w_callI (va_runV (As := [.int (sI S_20 y_23 (x6).toNatClampNeg)]) (rest := []) F (c_X12_fileOf l hL_a0 hK_a0 hp H.size) (cwV (C := RX12) 1 hts (wg_V wm_RX12_134 wy_X12_fileOf) rfl rfl rfl (by decide +kernel) ⟨Nat.le_of_ble_eq_true rfl, Nat.le_of_ble_eq_true rfl⟩) (w_preV hK hW hL_a0 hK_a0 (by decide) rfl) rfl rfl hl.1 rfl (lv_room (Nat.le_of_ble_eq_true rfl)) dX12_spellsFrom_93 ⟨Nat.le_of_ble_eq_true rfl, Nat.le_of_ble_eq_true rfl⟩) hW (fun r_25 S_26 H locs hp hW => ?_)
              obtain ⟨hX_S_26, hp⟩ := hp
              refine W.widen (k := 0) (n := 0) (by decide) (by decide) ?_
              have hE := hE.trans hX_S_26
              have hK_a0 : sK S_26 a0 = 17 := (hX_S_26.2 a0 hL_a0).1.trans hK_a0
              have hL_a0 : wM D S_26 a0 := hX_S_26.M hL_a0
              refine lv_aload_n hx hb dX12_spellsFrom_96 rfl (lv_at hl 1 rfl) ?_
              refine lv_iload hx hb dX12_spellsFrom_97 (lv_at hl 5 rfl) ?_
              refine w_callI (va_runV (As := [.int x5]) (rest := [.int r_25]) F (c_X12_fileOf l hL_a0 hK_a0 hp H.size) (cwV (C := RX12) 1 hts (wg_V wm_RX12_134 wy_X12_fileOf) rfl rfl rfl (by decide +kernel) ⟨Nat.le_of_ble_eq_true rfl, Nat.le_of_ble_eq_true rfl⟩) (w_preV hK hW hL_a0 hK_a0 (by decide) rfl) rfl rfl hl.1 rfl (lv_room (Nat.le_of_ble_eq_true rfl)) dX12_spellsFrom_99 ⟨Nat.le_of_ble_eq_true rfl, Nat.le_of_ble_eq_true rfl⟩) hW (fun r_27 S_28 H locs hp hW => ?_)
              obtain ⟨hX_S_28, hp⟩ := hp
              refine W.widen (k := 0) (n := 0) (by decide) (by decide) ?_
              have hE := hE.trans hX_S_28
              have hK_a0 : sK S_28 a0 = 17 := (hX_S_28.2 a0 hL_a0).1.trans hK_a0
              have hL_a0 : wM D S_28 a0 := hX_S_28.M hL_a0
              refine lv_icmp_ne (tgt := 109) hx hb dX12_spellsFrom_102 (by decide) (fun c_29 => ?_) (fun c_29 => ?_)
              · replace hp := hp.1 c_29
                refine lv_iconst (v := 0) hx hb dX12_spellsFrom_109 (by decide) ?_
                exact t_X12_spellsFrom_110 F hr hlocks hK ih hp hW hE (lv_sub hl [1, 2, 0, 4, 5, 6] rfl) hL_a0 hK_a0
              · replace hp := hp.2 c_29
                exact t_X12_spellsFrom_105 F hr hlocks hK ih hp hW hE (lv_sub hl [1, 2, 0, 4, 5, 6] rfl) hL_a0 hK_a0
set_option maxHeartbeats 4000000 in
set_option maxRecDepth 100000 in
theorem t_X12_spellsFrom_0 {p : Program} {l : Launch} {e : Env} {s : State} {m : MethodId} {args : Array Value} {below : List Frame} {meth : Method} {c : Code} {D : wD} {cy : Nat → ClassId} {X : va_W} {A : Nat → Prop} {S0 : wS} {post : wS → Prop} (F : CallFix p m c cX12_spellsFrom 7 s args wz_X12_spellsFrom RX12) (hr : meth.sig.returnType = none) (hlocks : meth.locks = false) (hK : wK D cy A s) : ∀ {S : wS} {H : Heap} {locs : List Loc} {ls : Array Slot} {a0 : Nat} {x1 : Int32}, wp_X12_spellsFrom_0 D post S a0 x1 → wO D cy X A s.heap S H locs → wX D S0 S → lv_has ls 7 [(0, .ref a0), (1, .int x1)] → wM D S a0 → sK S a0 = 17 → W p l e r_X12_spellsFrom s m args below meth c H locs 0 0 (MQ below (va_Qv (fun S9 => wX D S0 S9 ∧ post S9) (wB D cy X A) A) args s 0 0 A) (F0 m 0 ls []) := by
  obtain ⟨hx, hb, hml, hown, hts⟩ := id F
  have hwg : ∀ w ∈ WG, w.before args s = true := fun w h => hts w (List.mem_cons_of_mem _ h)
  have i_17 : ∀ w ∈ u_ws RX12 TX12 43, w ∈ wz_X12_spellsFrom := fun w h => List.mem_cons_of_mem _ (wu_17 w h)
  have k_20 := hwg _ wf_RX12_20
  intro S H locs ls a0 x1 hp hW hE hl hL_a0 hK_a0
  unfold wp_X12_spellsFrom_0 at hp
  refine lv_iconst (v := 0) hx hb dX12_spellsFrom_0 (by decide) ?_
  refine lv_istore_n (lv' := [(2, .int (0 : Int32)), (0, .ref a0), (1, .int x1)]) hx hb dX12_spellsFrom_1 rfl hl (by decide) rfl (fun ls hl => ?_)
  refine lv_iconst (v := 0) hx hb dX12_spellsFrom_2 (by decide) ?_
  refine lv_istore_n (lv' := [(3, .int (0 : Int32)), (2, .int (0 : Int32)), (0, .ref a0), (1, .int x1)]) hx hb dX12_spellsFrom_3 rfl hl (by decide) rfl (fun ls hl => ?_)
  refine lv_iconst (v := 0) hx hb dX12_spellsFrom_4 (by decide) ?_
  refine lv_istore (lv' := [(4, .int (0 : Int32)), (3, .int (0 : Int32)), (2, .int (0 : Int32)), (0, .ref a0), (1, .int x1)]) hx hb dX12_spellsFrom_5 hl (by decide) rfl (fun ls hl => ?_)
  refine lv_aload_n hx hb dX12_spellsFrom_7 rfl (lv_at hl 3 rfl) ?_
  obtain ⟨y_1, ey_1, hL_y_1, hK_y_1, hp⟩ := hp
  refine w_get (k := 17) (f := 4) (T := TX12) (v := .ref y_1) F hK hW hL_a0 hK_a0 (by decide) rfl rfl (by decide) i_17 k_20 (by rw [show wv 17 4 S a0 = va_rf (sR S a0 4) from rfl, ey_1]; rfl) dX12_spellsFrom_8 ?_
  refine lv_iload_n hx hb dX12_spellsFrom_11 rfl (lv_at hl 4 rfl) ?_
  obtain ⟨h_2, hp⟩ := hp
  refine w_ild F hK hW hL_y_1 hK_y_1 h_2 dX12_spellsFrom_12 ?_
  refine lv_topi (fun x_3 ex_3 => ?_)
  replace hp := hp x_3 ex_3
  refine lv_istore (lv' := [(5, .int x_3), (4, .int (0 : Int32)), (3, .int (0 : Int32)), (2, .int (0 : Int32)), (0, .ref a0), (1, .int x1)]) hx hb dX12_spellsFrom_13 hl (by decide) rfl (fun ls hl => ?_)
  refine lv_iconst (v := 0) hx hb dX12_spellsFrom_15 (by decide) ?_
  refine lv_istore (lv' := [(6, .int (0 : Int32)), (5, .int x_3), (4, .int (0 : Int32)), (3, .int (0 : Int32)), (2, .int (0 : Int32)), (0, .ref a0), (1, .int x1)]) hx hb dX12_spellsFrom_16 hl (by decide) rfl (fun ls hl => ?_)
  obtain ⟨n_4, hp⟩ := hp
  exact t_X12_spellsFrom_18 F hr hlocks hK n_4 hp hW hE (lv_sub hl [5, 6, 4, 3, 2, 1, 0] rfl) hL_a0 hK_a0
set_option maxHeartbeats 4000000 in
set_option maxRecDepth 100000 in
theorem c_X12_spellsFrom (l : Launch) {D : wD} {cy : Nat → ClassId} {X : va_W} {S0 : wS} {post : wS → Prop} {a0 : Nat} {x1 : Int32} (hL_a0 : wM D S0 a0) (hK_a0 : sK S0 a0 = 17) (hp : wp_X12_spellsFrom D post S0 a0 x1) : mV D cy X l yX12_spellsFrom wz_X12_spellsFrom r_X12_spellsFrom [.ref a0, .int x1] S0 (fun S9 => wX D S0 S9 ∧ post S9) := by
  intro sz
  refine Met.ofW (cc := cX12_spellsFrom) (maxL := 7) (ret := none) (by decide) rfl ?_
  intro p e s m args below meth c s₁ B hml hv
  obtain ⟨rfl, hsz, hP, hK, hD0, hRO⟩ := hv
  have hts := atoms_spec (ws := wz_X12_spellsFrom) B.pre
  have hown : s.vm.findClass RX12 = some m.cls := findClass_of_methodNamed B.named
  subst hsz
  have hD := hD0.self (sz := s.heap.size)
  have F : CallFix p m c cX12_spellsFrom 7 s _ wz_X12_spellsFrom RX12 := ⟨B.exec, B.bytes, hml, hown, hts⟩
  have hr := B.returns
  have hlocks := B.notSynchronized
  generalize hAe : va_A (wL cy X S0) s.heap.size = A at hD hK ⊢
  have hA : ∀ q, s.heap.size ≤ q → A q := fun q h => by rw [← hAe]; exact Or.inr h
  have hW : wO D cy X A s.heap S0 s.heap [] := ⟨hP, hD, va_S.rf, hA, hRO⟩
  have hl := lv_entry ([.ref a0, .int x1]) (n := 7) (Nat.le_of_ble_eq_true rfl)
  rw [lg_entry_eq]
  generalize (lg_sl ([.ref a0, .int x1]) ++ List.replicate (7 - (lg_sl ([.ref a0, .int x1])).length) Slot.unset).toArray = ls at hl ⊢
  have hl : lv_has ls 7 [(0, .ref a0), (1, .int x1)] := hl
  unfold wp_X12_spellsFrom at hp
  exact t_X12_spellsFrom_0 F hr hlocks hK hp hW wX.rf (lv_sub hl [0, 1] rfl) hL_a0 hK_a0
def wp_X12_spellsSquare_0 (D : wD) (post : wS → Prop)  (S : wS) (a0 : Nat) (x1 : Int32) (x2 : Int32) : Prop :=
wp_X12_fileOf D (fun r_1 S_2 => 
wp_X12_spells D (fun S_4 => 
wp_X12_rankOf D (fun r_5 S_6 => 
wp_X12_spells D (fun S_8 => 
post S_8) S_6 a0 x1 ((49 : Int32) + r_5)) S_4 a0 x2) S_2 a0 x1 ((97 : Int32) + r_1)) S a0 x2
abbrev r_X12_spellsSquare : Room := { frames := 1, cells := 0, slots := 0, locals := 22 }
def wp_X12_spellsSquare (D : wD) (post : wS → Prop) (S : wS) (a0 : Nat) (x1 : Int32) (x2 : Int32) : Prop := wp_X12_spellsSquare_0 D post S a0 x1 x2
set_option maxHeartbeats 4000000 in
set_option maxRecDepth 100000 in
theorem t_X12_spellsSquare_0 {p : Program} {l : Launch} {e : Env} {s : State} {m : MethodId} {args : Array Value} {below : List Frame} {meth : Method} {c : Code} {D : wD} {cy : Nat → ClassId} {X : va_W} {A : Nat → Prop} {S0 : wS} {post : wS → Prop} (F : CallFix p m c cX12_spellsSquare 3 s args wz_X12_spellsSquare RX12) (hr : meth.sig.returnType = none) (hlocks : meth.locks = false) (hK : wK D cy A s) : ∀ {S : wS} {H : Heap} {locs : List Loc} {ls : Array Slot} {a0 : Nat} {x1 : Int32} {x2 : Int32}, wp_X12_spellsSquare_0 D post S a0 x1 x2 → wO D cy X A s.heap S H locs → wX D S0 S → lv_has ls 3 [(0, .ref a0), (1, .int x1), (2, .int x2)] → wM D S a0 → sK S a0 = 17 → W p l e r_X12_spellsSquare s m args below meth c H locs 0 0 (MQ below (va_Qv (fun S9 => wX D S0 S9 ∧ post S9) (wB D cy X A) A) args s 0 0 A) (F0 m 0 ls []) := by
  obtain ⟨hx, hb, hml, hown, hts⟩ := id F
  have hwg : ∀ w ∈ WG, w.before args s = true := fun w h => hts w (List.mem_cons_of_mem _ h)
  intro S H locs ls a0 x1 x2 hp hW hE hl hL_a0 hK_a0
  unfold wp_X12_spellsSquare_0 at hp
  refine lv_aload_n hx hb dX12_spellsSquare_0 rfl (lv_at hl 0 rfl) ?_
  refine lv_iload_n hx hb dX12_spellsSquare_1 rfl (lv_at hl 1 rfl) ?_
  refine lv_bipush (v := 97) hx hb dX12_spellsSquare_2 (by decide) ?_
  refine lv_aload_n hx hb dX12_spellsSquare_4 rfl (lv_at hl 0 rfl) ?_
  refine lv_iload_n hx hb dX12_spellsSquare_5 rfl (lv_at hl 2 rfl) ?_
  refine w_callI (va_runV (As := [.int x2]) (rest := [.int (97 : Int32), .int x1, .ref a0]) F (c_X12_fileOf l hL_a0 hK_a0 hp H.size) (cwV (C := RX12) 1 hts (wg_V wm_RX12_134 wy_X12_fileOf) rfl rfl rfl (by decide +kernel) ⟨Nat.le_of_ble_eq_true rfl, Nat.le_of_ble_eq_true rfl⟩) (w_preV hK hW hL_a0 hK_a0 (by decide) rfl) rfl rfl hl.1 rfl (lv_room (Nat.le_of_ble_eq_true rfl)) dX12_spellsSquare_6 ⟨Nat.le_of_ble_eq_true rfl, Nat.le_of_ble_eq_true rfl⟩) hW (fun r_1 S_2 H locs hp hW => ?_)
  obtain ⟨hX_S_2, hp⟩ := hp
  refine W.widen (k := 0) (n := 0) (by decide) (by decide) ?_
  have hE := hE.trans hX_S_2
  have hK_a0 : sK S_2 a0 = 17 := (hX_S_2.2 a0 hL_a0).1.trans hK_a0
  have hL_a0 : wM D S_2 a0 := hX_S_2.M hL_a0
  refine lv_iadd hx hb dX12_spellsSquare_9 ?_
  refine w_callV (va_runV (As := [.int x1, .int ((97 : Int32) + r_1)]) (rest := []) F (c_X12_spells l hL_a0 hK_a0 hp H.size) (cwV (C := RX12) 2 hts (wg_V wm_RX12_296 wy_X12_spells) rfl rfl rfl (by decide +kernel) ⟨Nat.le_of_ble_eq_true rfl, Nat.le_of_ble_eq_true rfl⟩) (w_preV hK hW hL_a0 hK_a0 (by decide) rfl) rfl rfl hl.1 rfl (lv_room (Nat.le_of_ble_eq_true rfl)) dX12_spellsSquare_10 ⟨Nat.le_of_ble_eq_true rfl, Nat.le_of_ble_eq_true rfl⟩) hW (fun S_4 H locs hp hW => ?_)
  obtain ⟨hX_S_4, hp⟩ := hp
  refine W.widen (k := 0) (n := 0) (by decide) (by decide) ?_
  have hE := hE.trans hX_S_4
  have hK_a0 : sK S_4 a0 = 17 := (hX_S_4.2 a0 hL_a0).1.trans hK_a0
  have hL_a0 : wM D S_4 a0 := hX_S_4.M hL_a0
  refine lv_aload_n hx hb dX12_spellsSquare_13 rfl (lv_at hl 0 rfl) ?_
  refine lv_iload_n hx hb dX12_spellsSquare_14 rfl (lv_at hl 1 rfl) ?_
  refine lv_bipush (v := 49) hx hb dX12_spellsSquare_15 (by decide) ?_
  refine lv_aload_n hx hb dX12_spellsSquare_17 rfl (lv_at hl 0 rfl) ?_
  refine lv_iload_n hx hb dX12_spellsSquare_18 rfl (lv_at hl 2 rfl) ?_
  refine w_callI (va_runV (As := [.int x2]) (rest := [.int (49 : Int32), .int x1, .ref a0]) F (c_X12_rankOf l hL_a0 hK_a0 hp H.size) (cwV (C := RX12) 1 hts (wg_V wm_RX12_138 wy_X12_rankOf) rfl rfl rfl (by decide +kernel) ⟨Nat.le_of_ble_eq_true rfl, Nat.le_of_ble_eq_true rfl⟩) (w_preV hK hW hL_a0 hK_a0 (by decide) rfl) rfl rfl hl.1 rfl (lv_room (Nat.le_of_ble_eq_true rfl)) dX12_spellsSquare_19 ⟨Nat.le_of_ble_eq_true rfl, Nat.le_of_ble_eq_true rfl⟩) hW (fun r_5 S_6 H locs hp hW => ?_)
  obtain ⟨hX_S_6, hp⟩ := hp
  refine W.widen (k := 0) (n := 0) (by decide) (by decide) ?_
  have hE := hE.trans hX_S_6
  have hK_a0 : sK S_6 a0 = 17 := (hX_S_6.2 a0 hL_a0).1.trans hK_a0
  have hL_a0 : wM D S_6 a0 := hX_S_6.M hL_a0
  refine lv_iadd hx hb dX12_spellsSquare_22 ?_
  refine w_callV (va_runV (As := [.int x1, .int ((49 : Int32) + r_5)]) (rest := []) F (c_X12_spells l hL_a0 hK_a0 hp H.size) (cwV (C := RX12) 2 hts (wg_V wm_RX12_296 wy_X12_spells) rfl rfl rfl (by decide +kernel) ⟨Nat.le_of_ble_eq_true rfl, Nat.le_of_ble_eq_true rfl⟩) (w_preV hK hW hL_a0 hK_a0 (by decide) rfl) rfl rfl hl.1 rfl (lv_room (Nat.le_of_ble_eq_true rfl)) dX12_spellsSquare_23 ⟨Nat.le_of_ble_eq_true rfl, Nat.le_of_ble_eq_true rfl⟩) hW (fun S_8 H locs hp hW => ?_)
  obtain ⟨hX_S_8, hp⟩ := hp
  refine W.widen (k := 0) (n := 0) (by decide) (by decide) ?_
  have hE := hE.trans hX_S_8
  have hK_a0 : sK S_8 a0 = 17 := (hX_S_8.2 a0 hL_a0).1.trans hK_a0
  have hL_a0 : wM D S_8 a0 := hX_S_8.M hL_a0
  exact w_vret hx hb hr hlocks hW ⟨hE, hp⟩ dX12_spellsSquare_26
set_option maxHeartbeats 4000000 in
set_option maxRecDepth 100000 in
theorem c_X12_spellsSquare (l : Launch) {D : wD} {cy : Nat → ClassId} {X : va_W} {S0 : wS} {post : wS → Prop} {a0 : Nat} {x1 : Int32} {x2 : Int32} (hL_a0 : wM D S0 a0) (hK_a0 : sK S0 a0 = 17) (hp : wp_X12_spellsSquare D post S0 a0 x1 x2) : mV D cy X l yX12_spellsSquare wz_X12_spellsSquare r_X12_spellsSquare [.ref a0, .int x1, .int x2] S0 (fun S9 => wX D S0 S9 ∧ post S9) := by
  intro sz
  refine Met.ofW (cc := cX12_spellsSquare) (maxL := 3) (ret := none) (by decide) rfl ?_
  intro p e s m args below meth c s₁ B hml hv
  obtain ⟨rfl, hsz, hP, hK, hD0, hRO⟩ := hv
  have hts := atoms_spec (ws := wz_X12_spellsSquare) B.pre
  have hown : s.vm.findClass RX12 = some m.cls := findClass_of_methodNamed B.named
  subst hsz
  have hD := hD0.self (sz := s.heap.size)
  have F : CallFix p m c cX12_spellsSquare 3 s _ wz_X12_spellsSquare RX12 := ⟨B.exec, B.bytes, hml, hown, hts⟩
  have hr := B.returns
  have hlocks := B.notSynchronized
  generalize hAe : va_A (wL cy X S0) s.heap.size = A at hD hK ⊢
  have hA : ∀ q, s.heap.size ≤ q → A q := fun q h => by rw [← hAe]; exact Or.inr h
  have hW : wO D cy X A s.heap S0 s.heap [] := ⟨hP, hD, va_S.rf, hA, hRO⟩
  have hl := lv_entry ([.ref a0, .int x1, .int x2]) (n := 3) (Nat.le_of_ble_eq_true rfl)
  rw [lg_entry_eq]
  generalize (lg_sl ([.ref a0, .int x1, .int x2]) ++ List.replicate (3 - (lg_sl ([.ref a0, .int x1, .int x2])).length) Slot.unset).toArray = ls at hl ⊢
  have hl : lv_has ls 3 [(0, .ref a0), (1, .int x1), (2, .int x2)] := hl
  unfold wp_X12_spellsSquare at hp
  exact t_X12_spellsSquare_0 F hr hlocks hK hp hW wX.rf (lv_sub hl [0, 1, 2] rfl) hL_a0 hK_a0
def wp_X12_spellsAhead_191 (D : wD) (post : wS → Prop)  (S : wS) : Prop :=
post S
def wp_X12_spellsAhead_155 (D : wD) (post : wS → Prop)  (S : wS) (a0 : Nat) (x1 : Int32) (x3 : Int32) : Prop :=
wp_X12_spellsSquare D (fun S_2 => 
∃ y_3 : Nat, sR S_2 a0 6 = some y_3 ∧ wM D S_2 y_3 ∧ sK S_2 y_3 = 21 ∧
vp_in x1 (sN S_2 y_3) ∧
(((sI S_2 y_3 (x1).toNatClampNeg) = 0 → wp_X12_spellsAhead_191 D post S_2) ∧
 (¬ (sI S_2 y_3 (x1).toNatClampNeg) = 0 → wp_X12_spells D (fun S_7 => 
∃ y_8 : Nat, sR S_7 a0 6 = some y_8 ∧ wM D S_7 y_8 ∧ sK S_7 y_8 = 21 ∧
vp_in x1 (sN S_7 y_8) ∧
wp_X12_letterOf D (fun r_10 S_11 => 
wp_X12_spells D (fun S_13 => 
wp_X12_spellsAhead_191 D post S_13) S_11 a0 x1 r_10) S_7 (sI S_7 y_8 (x1).toNatClampNeg)) S_2 a0 x1 (61 : Int32)))) S a0 x1 x3
def wp_X12_spellsAhead_138 (D : wD) (post : wS → Prop)  (S : wS) (a0 : Nat) (x1 : Int32) (x2 : Int32) (x3 : Int32) : Prop :=
wp_X12_takes D (fun r_1 S_2 => 
((r_1 = 0 → wp_X12_spellsAhead_155 D post S_2 a0 x1 x3) ∧
 (¬ r_1 = 0 → wp_X12_spells D (fun S_5 => 
wp_X12_spellsAhead_155 D post S_5 a0 x1 x3) S_2 a0 x1 (120 : Int32)))) S a0 (0 : Int32) x2 x3
def wp_X12_spellsAhead_116 (D : wD) (post : wS → Prop)  (S : wS) (a0 : Nat) (x1 : Int32) (x2 : Int32) (x3 : Int32) (x4 : Int32) : Prop :=
((x4 = (6 : Int32) → wp_X12_spellsAhead_138 D post S a0 x1 x2 x3) ∧
 (¬ x4 = (6 : Int32) → wp_X12_letterOf D (fun r_2 S_3 => 
wp_X12_spells D (fun S_5 => 
wp_X12_spellsFrom D (fun S_7 => 
wp_X12_spellsAhead_138 D post S_7 a0 x1 x2 x3) S_5 a0 x1) S_3 a0 x1 r_2) S x4))
def wp_X12_spellsAhead_76 (D : wD) (post : wS → Prop) (k_45 : wS → Nat → Int32 → Int32 → Int32 → Int32 → Prop) (S : wS) (a0 : Nat) (x1 : Int32) (x2 : Int32) (x3 : Int32) (x5 : Int32) (b0 : Nat) (t1 : Int32) (t2 : Int32) : Prop :=
wp_X12_spells D (fun S_2 => 
∀ x_3 : Int32, x_3 = x5 + 1 →
k_45 S_2 a0 x1 x2 x3 x_3) S b0 t1 t2
def wp_X12_spellsAhead_57 (D : wD) (post : wS → Prop) (k_45 : wS → Nat → Int32 → Int32 → Int32 → Int32 → Prop) (S : wS) (a0 : Nat) (x1 : Int32) (x2 : Int32) (x3 : Int32) (x5 : Int32) (t0 : Int32) (t1 : Int32) : Prop :=
((t1 ≤ t0 → post S) ∧
 (¬ t1 ≤ t0 → ¬ (2 : Int32) = 0 ∧
((¬ (x5 - x5 / (2 : Int32) * (2 : Int32)) = 0 → wp_X12_spellsAhead_76 D post k_45 S a0 x1 x2 x3 x5 a0 x1 (45 : Int32)) ∧
 ((x5 - x5 / (2 : Int32) * (2 : Int32)) = 0 → wp_X12_spellsAhead_76 D post k_45 S a0 x1 x2 x3 x5 a0 x1 (79 : Int32)))))
def wp_X12_spellsAhead_45 (D : wD) (post : wS → Prop)  : Nat → wS → Nat → Int32 → Int32 → Int32 → Int32 → Prop
  | 0, _, _, _, _, _, _ => False
  | n + 1, S, a0, x1, x2, x3, x5 =>
    ((x3 ≤ x2 → wp_X12_spellsAhead_57 D post (wp_X12_spellsAhead_45 D post n) S a0 x1 x2 x3 x5 x5 (5 : Int32)) ∧
     (¬ x3 ≤ x2 → wp_X12_spellsAhead_57 D post (wp_X12_spellsAhead_45 D post n) S a0 x1 x2 x3 x5 x5 (3 : Int32)))
def wp_X12_spellsAhead_0 (D : wD) (post : wS → Prop)  (S : wS) (a0 : Nat) (x1 : Int32) : Prop :=
∃ y_1 : Nat, sR S a0 18 = some y_1 ∧ wM D S y_1 ∧ sK S y_1 = 21 ∧
y_1 ∈ sL S ∧ vp_in x1 (sN S y_1) ∧
∀ S_3 : wS, S_3 = uI S y_1 (x1).toNatClampNeg (0 : Int32) →
∃ y_4 : Nat, sR S_3 a0 4 = some y_4 ∧ wM D S_3 y_4 ∧ sK S_3 y_4 = 21 ∧
vp_in x1 (sN S_3 y_4) ∧
∀ x_6 : Int32, x_6 = (sI S_3 y_4 (x1).toNatClampNeg) →
∃ y_7 : Nat, sR S_3 a0 5 = some y_7 ∧ wM D S_3 y_7 ∧ sK S_3 y_7 = 21 ∧
vp_in x1 (sN S_3 y_7) ∧
∀ x_9 : Int32, x_9 = (sI S_3 y_7 (x1).toNatClampNeg) →
wp_X12_on D (fun r_10 S_11 => 
wp_X12_kindOf D (fun r_12 S_13 => 
wp_X12_isCastling D (fun r_14 S_15 => 
((r_14 = 0 → ((¬ r_12 = (6 : Int32) → wp_X12_spellsAhead_116 D post S_15 a0 x1 x_6 x_9 r_12) ∧
 (r_12 = (6 : Int32) → wp_X12_takes D (fun r_18 S_19 => 
((r_18 = 0 → wp_X12_spellsAhead_116 D post S_19 a0 x1 x_6 x_9 r_12) ∧
 (¬ r_18 = 0 → wp_X12_fileOf D (fun r_21 S_22 => 
wp_X12_spells D (fun S_24 => 
wp_X12_spellsAhead_116 D post S_24 a0 x1 x_6 x_9 r_12) S_22 a0 x1 ((97 : Int32) + r_21)) S_19 a0 x_6))) S_15 a0 (0 : Int32) x_6 x_9))) ∧
 (¬ r_14 = 0 → ∃ n_25 : Nat, wp_X12_spellsAhead_45 D post n_25 S_15 a0 x1 x_6 x_9 (0 : Int32)))) S_13 a0 (0 : Int32) x_6 x_9) S_11 r_10) S_3 a0 (0 : Int32) x_6
abbrev r_X12_spellsAhead : Room := { frames := 2, cells := 0, slots := 0, locals := 48 }
def wp_X12_spellsAhead (D : wD) (post : wS → Prop) (S : wS) (a0 : Nat) (x1 : Int32) : Prop := wp_X12_spellsAhead_0 D post S a0 x1
set_option maxHeartbeats 4000000 in
set_option maxRecDepth 100000 in
theorem t_X12_spellsAhead_191 {p : Program} {l : Launch} {e : Env} {s : State} {m : MethodId} {args : Array Value} {below : List Frame} {meth : Method} {c : Code} {D : wD} {cy : Nat → ClassId} {X : va_W} {A : Nat → Prop} {S0 : wS} {post : wS → Prop} (F : CallFix p m c cX12_spellsAhead 6 s args wz_X12_spellsAhead RX12) (hr : meth.sig.returnType = none) (hlocks : meth.locks = false) (hK : wK D cy A s) : ∀ {S : wS} {H : Heap} {locs : List Loc} {ls : Array Slot}, wp_X12_spellsAhead_191 D post S → wO D cy X A s.heap S H locs → wX D S0 S → lv_has ls 6 [] → W p l e r_X12_spellsAhead s m args below meth c H locs 0 0 (MQ below (va_Qv (fun S9 => wX D S0 S9 ∧ post S9) (wB D cy X A) A) args s 0 0 A) (F0 m 191 ls []) := by
  obtain ⟨hx, hb, hml, hown, hts⟩ := id F
  have hwg : ∀ w ∈ WG, w.before args s = true := fun w h => hts w (List.mem_cons_of_mem _ h)
  intro S H locs ls hp hW hE hl
  unfold wp_X12_spellsAhead_191 at hp
  exact w_vret hx hb hr hlocks hW ⟨hE, hp⟩ dX12_spellsAhead_191
set_option maxHeartbeats 4000000 in
set_option maxRecDepth 100000 in
theorem t_X12_spellsAhead_155 {p : Program} {l : Launch} {e : Env} {s : State} {m : MethodId} {args : Array Value} {below : List Frame} {meth : Method} {c : Code} {D : wD} {cy : Nat → ClassId} {X : va_W} {A : Nat → Prop} {S0 : wS} {post : wS → Prop} (F : CallFix p m c cX12_spellsAhead 6 s args wz_X12_spellsAhead RX12) (hr : meth.sig.returnType = none) (hlocks : meth.locks = false) (hK : wK D cy A s) : ∀ {S : wS} {H : Heap} {locs : List Loc} {ls : Array Slot} {a0 : Nat} {x1 : Int32} {x3 : Int32}, wp_X12_spellsAhead_155 D post S a0 x1 x3 → wO D cy X A s.heap S H locs → wX D S0 S → lv_has ls 6 [(0, .ref a0), (1, .int x1), (3, .int x3)] → wM D S a0 → sK S a0 = 17 → W p l e r_X12_spellsAhead s m args below meth c H locs 0 0 (MQ below (va_Qv (fun S9 => wX D S0 S9 ∧ post S9) (wB D cy X A) A) args s 0 0 A) (F0 m 155 ls []) := by
  obtain ⟨hx, hb, hml, hown, hts⟩ := id F
  have hwg : ∀ w ∈ WG, w.before args s = true := fun w h => hts w (List.mem_cons_of_mem _ h)
  have i_17 : ∀ w ∈ u_ws RX12 TX12 43, w ∈ wz_X12_spellsAhead := fun w h => List.mem_cons_of_mem _ (wu_17 w h)
  have k_26 := hwg _ wf_RX12_26
  intro S H locs ls a0 x1 x3 hp hW hE hl hL_a0 hK_a0
  unfold wp_X12_spellsAhead_155 at hp
  refine lv_aload_n hx hb dX12_spellsAhead_155 rfl (lv_at hl 0 rfl) ?_
  refine lv_iload_n hx hb dX12_spellsAhead_156 rfl (lv_at hl 1 rfl) ?_
  refine lv_iload_n hx hb dX12_spellsAhead_157 rfl (lv_at hl 2 rfl) ?_
  refine w_callV (va_runV (As := [.int x1, .int x3]) (rest := []) F (c_X12_spellsSquare l hL_a0 hK_a0 hp H.size) (cwV (C := RX12) 2 hts (wg_V wm_RX12_303 wy_X12_spellsSquare) rfl rfl rfl (by decide +kernel) ⟨Nat.le_of_ble_eq_true rfl, Nat.le_of_ble_eq_true rfl⟩) (w_preV hK hW hL_a0 hK_a0 (by decide) rfl) rfl rfl hl.1 rfl (lv_room (Nat.le_of_ble_eq_true rfl)) dX12_spellsAhead_158 ⟨Nat.le_of_ble_eq_true rfl, Nat.le_of_ble_eq_true rfl⟩) hW (fun S_2 H locs hp hW => ?_)
  obtain ⟨hX_S_2, hp⟩ := hp
  refine W.widen (k := 0) (n := 0) (by decide) (by decide) ?_
  have hE := hE.trans hX_S_2
  have hK_a0 : sK S_2 a0 = 17 := (hX_S_2.2 a0 hL_a0).1.trans hK_a0
  have hL_a0 : wM D S_2 a0 := hX_S_2.M hL_a0
  refine lv_aload_n hx hb dX12_spellsAhead_161 rfl (lv_at hl 0 rfl) ?_
  obtain ⟨y_3, ey_3, hL_y_3, hK_y_3, hp⟩ := hp
  refine w_get (k := 17) (f := 6) (T := TX12) (v := .ref y_3) F hK hW hL_a0 hK_a0 (by decide) rfl rfl (by decide) i_17 k_26 (by rw [show wv 17 6 S_2 a0 = va_rf (sR S_2 a0 6) from rfl, ey_3]; rfl) dX12_spellsAhead_162 ?_
  refine lv_iload_n hx hb dX12_spellsAhead_165 rfl (lv_at hl 1 rfl) ?_
  obtain ⟨h_4, hp⟩ := hp
  refine w_ild F hK hW hL_y_3 hK_y_3 h_4 dX12_spellsAhead_166 ?_
  refine lv_if_eq (tgt := 191) hx hb dX12_spellsAhead_167 (by decide) (fun c_5 => ?_) (fun c_5 => ?_)
  · replace hp := hp.1 c_5
    exact t_X12_spellsAhead_191 F hr hlocks hK hp hW hE (lv_sub hl [] rfl)
  · replace hp := hp.2 c_5
    refine lv_aload_n hx hb dX12_spellsAhead_170 rfl (lv_at hl 0 rfl) ?_
    refine lv_iload_n hx hb dX12_spellsAhead_171 rfl (lv_at hl 1 rfl) ?_
    refine lv_bipush (v := 61) hx hb dX12_spellsAhead_172 (by decide) ?_
    refine w_callV (va_runV (As := [.int x1, .int (61 : Int32)]) (rest := []) F (c_X12_spells l hL_a0 hK_a0 hp H.size) (cwV (C := RX12) 2 hts (wg_V wm_RX12_296 wy_X12_spells) rfl rfl rfl (by decide +kernel) ⟨Nat.le_of_ble_eq_true rfl, Nat.le_of_ble_eq_true rfl⟩) (w_preV hK hW hL_a0 hK_a0 (by decide) rfl) rfl rfl hl.1 rfl (lv_room (Nat.le_of_ble_eq_true rfl)) dX12_spellsAhead_174 ⟨Nat.le_of_ble_eq_true rfl, Nat.le_of_ble_eq_true rfl⟩) hW (fun S_7 H locs hp hW => ?_)
    obtain ⟨hX_S_7, hp⟩ := hp
    refine W.widen (k := 0) (n := 0) (by decide) (by decide) ?_
    have hE := hE.trans hX_S_7
    have hK_a0 : sK S_7 a0 = 17 := (hX_S_7.2 a0 hL_a0).1.trans hK_a0
    have hL_a0 : wM D S_7 a0 := hX_S_7.M hL_a0
    refine lv_aload_n hx hb dX12_spellsAhead_177 rfl (lv_at hl 0 rfl) ?_
    refine lv_iload_n hx hb dX12_spellsAhead_178 rfl (lv_at hl 1 rfl) ?_
    refine lv_aload_n hx hb dX12_spellsAhead_179 rfl (lv_at hl 0 rfl) ?_
    obtain ⟨y_8, ey_8, hL_y_8, hK_y_8, hp⟩ := hp
    refine w_get (k := 17) (f := 6) (T := TX12) (v := .ref y_8) F hK hW hL_a0 hK_a0 (by decide) rfl rfl (by decide) i_17 k_26 (by rw [show wv 17 6 S_7 a0 = va_rf (sR S_7 a0 6) from rfl, ey_8]; rfl) dX12_spellsAhead_180 ?_
    refine lv_iload_n hx hb dX12_spellsAhead_183 rfl (lv_at hl 1 rfl) ?_
    obtain ⟨h_9, hp⟩ := hp
    refine w_ild F hK hW hL_y_8 hK_y_8 h_9 dX12_spellsAhead_184 ?_
    refine w_callI (va_runS (As := [.int (sI S_7 y_8 (x1).toNatClampNeg)]) (rest := [.int x1, .ref a0]) F (c_X12_letterOf l hp H.size) (va_cwS 1 hts (wg_S wm_RX12_250 wy_X12_letterOf) rfl rfl rfl (by decide +kernel) ⟨Nat.le_of_ble_eq_true rfl, Nat.le_of_ble_eq_true rfl⟩) (w_preS hK hW) rfl rfl hl.1 rfl (lv_room (Nat.le_of_ble_eq_true rfl)) dX12_spellsAhead_185 ⟨Nat.le_of_ble_eq_true rfl, Nat.le_of_ble_eq_true rfl⟩) hW (fun r_10 S_11 H locs hp hW => ?_)
    obtain ⟨hX_S_11, hp⟩ := hp
    refine W.widen (k := 0) (n := 0) (by decide) (by decide) ?_
    have hE := hE.trans hX_S_11
    have hK_a0 : sK S_11 a0 = 17 := (hX_S_11.2 a0 hL_a0).1.trans hK_a0
    have hL_a0 : wM D S_11 a0 := hX_S_11.M hL_a0
    refine w_callV (va_runV (As := [.int x1, .int r_10]) (rest := []) F (c_X12_spells l hL_a0 hK_a0 hp H.size) (cwV (C := RX12) 2 hts (wg_V wm_RX12_296 wy_X12_spells) rfl rfl rfl (by decide +kernel) ⟨Nat.le_of_ble_eq_true rfl, Nat.le_of_ble_eq_true rfl⟩) (w_preV hK hW hL_a0 hK_a0 (by decide) rfl) rfl rfl hl.1 rfl (lv_room (Nat.le_of_ble_eq_true rfl)) dX12_spellsAhead_188 ⟨Nat.le_of_ble_eq_true rfl, Nat.le_of_ble_eq_true rfl⟩) hW (fun S_13 H locs hp hW => ?_)
    obtain ⟨hX_S_13, hp⟩ := hp
    refine W.widen (k := 0) (n := 0) (by decide) (by decide) ?_
    have hE := hE.trans hX_S_13
    have hK_a0 : sK S_13 a0 = 17 := (hX_S_13.2 a0 hL_a0).1.trans hK_a0
    have hL_a0 : wM D S_13 a0 := hX_S_13.M hL_a0
    exact t_X12_spellsAhead_191 F hr hlocks hK hp hW hE (lv_sub hl [] rfl)
set_option maxHeartbeats 4000000 in
set_option maxRecDepth 100000 in
theorem t_X12_spellsAhead_138 {p : Program} {l : Launch} {e : Env} {s : State} {m : MethodId} {args : Array Value} {below : List Frame} {meth : Method} {c : Code} {D : wD} {cy : Nat → ClassId} {X : va_W} {A : Nat → Prop} {S0 : wS} {post : wS → Prop} (F : CallFix p m c cX12_spellsAhead 6 s args wz_X12_spellsAhead RX12) (hr : meth.sig.returnType = none) (hlocks : meth.locks = false) (hK : wK D cy A s) : ∀ {S : wS} {H : Heap} {locs : List Loc} {ls : Array Slot} {a0 : Nat} {x1 : Int32} {x2 : Int32} {x3 : Int32}, wp_X12_spellsAhead_138 D post S a0 x1 x2 x3 → wO D cy X A s.heap S H locs → wX D S0 S → lv_has ls 6 [(0, .ref a0), (1, .int x1), (2, .int x2), (3, .int x3)] → wM D S a0 → sK S a0 = 17 → W p l e r_X12_spellsAhead s m args below meth c H locs 0 0 (MQ below (va_Qv (fun S9 => wX D S0 S9 ∧ post S9) (wB D cy X A) A) args s 0 0 A) (F0 m 138 ls []) := by
  obtain ⟨hx, hb, hml, hown, hts⟩ := id F
  have hwg : ∀ w ∈ WG, w.before args s = true := fun w h => hts w (List.mem_cons_of_mem _ h)
  intro S H locs ls a0 x1 x2 x3 hp hW hE hl hL_a0 hK_a0
  unfold wp_X12_spellsAhead_138 at hp
  refine lv_aload_n hx hb dX12_spellsAhead_138 rfl (lv_at hl 0 rfl) ?_
  refine lv_iconst (v := 0) hx hb dX12_spellsAhead_139 (by decide) ?_
  refine lv_iload_n hx hb dX12_spellsAhead_140 rfl (lv_at hl 2 rfl) ?_
  refine lv_iload_n hx hb dX12_spellsAhead_141 rfl (lv_at hl 3 rfl) ?_
  refine w_callI (va_runV (As := [.int (0 : Int32), .int x2, .int x3]) (rest := []) F (c_X12_takes l hL_a0 hK_a0 hp H.size) (cwV (C := RX12) 3 hts (wg_V wm_RX12_204 wy_X12_takes) rfl rfl rfl (by decide +kernel) ⟨Nat.le_of_ble_eq_true rfl, Nat.le_of_ble_eq_true rfl⟩) (w_preV hK hW hL_a0 hK_a0 (by decide) rfl) rfl rfl hl.1 rfl (lv_room (Nat.le_of_ble_eq_true rfl)) dX12_spellsAhead_142 ⟨Nat.le_of_ble_eq_true rfl, Nat.le_of_ble_eq_true rfl⟩) hW (fun r_1 S_2 H locs hp hW => ?_)
  obtain ⟨hX_S_2, hp⟩ := hp
  refine W.widen (k := 0) (n := 0) (by decide) (by decide) ?_
  have hE := hE.trans hX_S_2
  have hK_a0 : sK S_2 a0 = 17 := (hX_S_2.2 a0 hL_a0).1.trans hK_a0
  have hL_a0 : wM D S_2 a0 := hX_S_2.M hL_a0
  refine lv_if_eq (tgt := 155) hx hb dX12_spellsAhead_145 (by decide) (fun c_3 => ?_) (fun c_3 => ?_)
  · replace hp := hp.1 c_3
    exact t_X12_spellsAhead_155 F hr hlocks hK hp hW hE (lv_sub hl [0, 1, 3] rfl) hL_a0 hK_a0
  · replace hp := hp.2 c_3
    refine lv_aload_n hx hb dX12_spellsAhead_148 rfl (lv_at hl 0 rfl) ?_
    refine lv_iload_n hx hb dX12_spellsAhead_149 rfl (lv_at hl 1 rfl) ?_
    refine lv_bipush (v := 120) hx hb dX12_spellsAhead_150 (by decide) ?_
    refine w_callV (va_runV (As := [.int x1, .int (120 : Int32)]) (rest := []) F (c_X12_spells l hL_a0 hK_a0 hp H.size) (cwV (C := RX12) 2 hts (wg_V wm_RX12_296 wy_X12_spells) rfl rfl rfl (by decide +kernel) ⟨Nat.le_of_ble_eq_true rfl, Nat.le_of_ble_eq_true rfl⟩) (w_preV hK hW hL_a0 hK_a0 (by decide) rfl) rfl rfl hl.1 rfl (lv_room (Nat.le_of_ble_eq_true rfl)) dX12_spellsAhead_152 ⟨Nat.le_of_ble_eq_true rfl, Nat.le_of_ble_eq_true rfl⟩) hW (fun S_5 H locs hp hW => ?_)
    obtain ⟨hX_S_5, hp⟩ := hp
    refine W.widen (k := 0) (n := 0) (by decide) (by decide) ?_
    have hE := hE.trans hX_S_5
    have hK_a0 : sK S_5 a0 = 17 := (hX_S_5.2 a0 hL_a0).1.trans hK_a0
    have hL_a0 : wM D S_5 a0 := hX_S_5.M hL_a0
    exact t_X12_spellsAhead_155 F hr hlocks hK hp hW hE (lv_sub hl [0, 1, 3] rfl) hL_a0 hK_a0
set_option maxHeartbeats 4000000 in
set_option maxRecDepth 100000 in
theorem t_X12_spellsAhead_116 {p : Program} {l : Launch} {e : Env} {s : State} {m : MethodId} {args : Array Value} {below : List Frame} {meth : Method} {c : Code} {D : wD} {cy : Nat → ClassId} {X : va_W} {A : Nat → Prop} {S0 : wS} {post : wS → Prop} (F : CallFix p m c cX12_spellsAhead 6 s args wz_X12_spellsAhead RX12) (hr : meth.sig.returnType = none) (hlocks : meth.locks = false) (hK : wK D cy A s) : ∀ {S : wS} {H : Heap} {locs : List Loc} {ls : Array Slot} {a0 : Nat} {x1 : Int32} {x2 : Int32} {x3 : Int32} {x4 : Int32}, wp_X12_spellsAhead_116 D post S a0 x1 x2 x3 x4 → wO D cy X A s.heap S H locs → wX D S0 S → lv_has ls 6 [(0, .ref a0), (1, .int x1), (2, .int x2), (3, .int x3), (4, .int x4)] → wM D S a0 → sK S a0 = 17 → W p l e r_X12_spellsAhead s m args below meth c H locs 0 0 (MQ below (va_Qv (fun S9 => wX D S0 S9 ∧ post S9) (wB D cy X A) A) args s 0 0 A) (F0 m 116 ls []) := by
  obtain ⟨hx, hb, hml, hown, hts⟩ := id F
  have hwg : ∀ w ∈ WG, w.before args s = true := fun w h => hts w (List.mem_cons_of_mem _ h)
  intro S H locs ls a0 x1 x2 x3 x4 hp hW hE hl hL_a0 hK_a0
  unfold wp_X12_spellsAhead_116 at hp
  refine lv_iload hx hb dX12_spellsAhead_116 (lv_at hl 4 rfl) ?_
  refine lv_bipush (v := 6) hx hb dX12_spellsAhead_118 (by decide) ?_
  refine lv_icmp_eq (tgt := 138) hx hb dX12_spellsAhead_120 (by decide) (fun c_1 => ?_) (fun c_1 => ?_)
  · replace hp := hp.1 c_1
    exact t_X12_spellsAhead_138 F hr hlocks hK hp hW hE (lv_sub hl [0, 1, 2, 3] rfl) hL_a0 hK_a0
  · replace hp := hp.2 c_1
    refine lv_aload_n hx hb dX12_spellsAhead_123 rfl (lv_at hl 0 rfl) ?_
    refine lv_iload_n hx hb dX12_spellsAhead_124 rfl (lv_at hl 1 rfl) ?_
    refine lv_iload hx hb dX12_spellsAhead_125 (lv_at hl 4 rfl) ?_
    refine w_callI (va_runS (As := [.int x4]) (rest := [.int x1, .ref a0]) F (c_X12_letterOf l hp H.size) (va_cwS 1 hts (wg_S wm_RX12_250 wy_X12_letterOf) rfl rfl rfl (by decide +kernel) ⟨Nat.le_of_ble_eq_true rfl, Nat.le_of_ble_eq_true rfl⟩) (w_preS hK hW) rfl rfl hl.1 rfl (lv_room (Nat.le_of_ble_eq_true rfl)) dX12_spellsAhead_127 ⟨Nat.le_of_ble_eq_true rfl, Nat.le_of_ble_eq_true rfl⟩) hW (fun r_2 S_3 H locs hp hW => ?_)
    obtain ⟨hX_S_3, hp⟩ := hp
    refine W.widen (k := 0) (n := 0) (by decide) (by decide) ?_
    have hE := hE.trans hX_S_3
    have hK_a0 : sK S_3 a0 = 17 := (hX_S_3.2 a0 hL_a0).1.trans hK_a0
    have hL_a0 : wM D S_3 a0 := hX_S_3.M hL_a0
    refine w_callV (va_runV (As := [.int x1, .int r_2]) (rest := []) F (c_X12_spells l hL_a0 hK_a0 hp H.size) (cwV (C := RX12) 2 hts (wg_V wm_RX12_296 wy_X12_spells) rfl rfl rfl (by decide +kernel) ⟨Nat.le_of_ble_eq_true rfl, Nat.le_of_ble_eq_true rfl⟩) (w_preV hK hW hL_a0 hK_a0 (by decide) rfl) rfl rfl hl.1 rfl (lv_room (Nat.le_of_ble_eq_true rfl)) dX12_spellsAhead_130 ⟨Nat.le_of_ble_eq_true rfl, Nat.le_of_ble_eq_true rfl⟩) hW (fun S_5 H locs hp hW => ?_)
    obtain ⟨hX_S_5, hp⟩ := hp
    refine W.widen (k := 0) (n := 0) (by decide) (by decide) ?_
    have hE := hE.trans hX_S_5
    have hK_a0 : sK S_5 a0 = 17 := (hX_S_5.2 a0 hL_a0).1.trans hK_a0
    have hL_a0 : wM D S_5 a0 := hX_S_5.M hL_a0
    refine lv_aload_n hx hb dX12_spellsAhead_133 rfl (lv_at hl 0 rfl) ?_
    refine lv_iload_n hx hb dX12_spellsAhead_134 rfl (lv_at hl 1 rfl) ?_
    refine w_callV (va_runV (As := [.int x1]) (rest := []) F (c_X12_spellsFrom l hL_a0 hK_a0 hp H.size) (cwV (C := RX12) 1 hts (wg_V wm_RX12_300 wy_X12_spellsFrom) rfl rfl rfl (by decide +kernel) ⟨Nat.le_of_ble_eq_true rfl, Nat.le_of_ble_eq_true rfl⟩) (w_preV hK hW hL_a0 hK_a0 (by decide) rfl) rfl rfl hl.1 rfl (lv_room (Nat.le_of_ble_eq_true rfl)) dX12_spellsAhead_135 ⟨Nat.le_of_ble_eq_true rfl, Nat.le_of_ble_eq_true rfl⟩) hW (fun S_7 H locs hp hW => ?_)
    obtain ⟨hX_S_7, hp⟩ := hp
    refine W.widen (k := 0) (n := 0) (by decide) (by decide) ?_
    have hE := hE.trans hX_S_7
    have hK_a0 : sK S_7 a0 = 17 := (hX_S_7.2 a0 hL_a0).1.trans hK_a0
    have hL_a0 : wM D S_7 a0 := hX_S_7.M hL_a0
    exact t_X12_spellsAhead_138 F hr hlocks hK hp hW hE (lv_sub hl [0, 1, 2, 3] rfl) hL_a0 hK_a0
set_option maxHeartbeats 4000000 in
set_option maxRecDepth 100000 in
theorem t_X12_spellsAhead_76 {p : Program} {l : Launch} {e : Env} {s : State} {m : MethodId} {args : Array Value} {below : List Frame} {meth : Method} {c : Code} {D : wD} {cy : Nat → ClassId} {X : va_W} {A : Nat → Prop} {S0 : wS} {post : wS → Prop} (F : CallFix p m c cX12_spellsAhead 6 s args wz_X12_spellsAhead RX12) (hr : meth.sig.returnType = none) (hlocks : meth.locks = false) (hK : wK D cy A s) {k_45 : wS → Nat → Int32 → Int32 → Int32 → Int32 → Prop} (q_45 : ∀ {S : wS} {H : Heap} {locs : List Loc} {ls : Array Slot} {a0 : Nat} {x1 : Int32} {x2 : Int32} {x3 : Int32} {x5 : Int32}, k_45 S a0 x1 x2 x3 x5 → wO D cy X A s.heap S H locs → wX D S0 S → lv_has ls 6 [(0, .ref a0), (1, .int x1), (2, .int x2), (3, .int x3), (5, .int x5)] → wM D S a0 → sK S a0 = 17 → W p l e r_X12_spellsAhead s m args below meth c H locs 0 0 (MQ below (va_Qv (fun S9 => wX D S0 S9 ∧ post S9) (wB D cy X A) A) args s 0 0 A) (F0 m 45 ls [])) : ∀ {S : wS} {H : Heap} {locs : List Loc} {ls : Array Slot} {a0 : Nat} {x1 : Int32} {x2 : Int32} {x3 : Int32} {x5 : Int32} {b0 : Nat} {t1 : Int32} {t2 : Int32}, wp_X12_spellsAhead_76 D post k_45 S a0 x1 x2 x3 x5 b0 t1 t2 → wO D cy X A s.heap S H locs → wX D S0 S → lv_has ls 6 [(0, .ref a0), (1, .int x1), (2, .int x2), (3, .int x3), (5, .int x5)] → wM D S a0 → sK S a0 = 17 → wM D S b0 → sK S b0 = 17 → W p l e r_X12_spellsAhead s m args below meth c H locs 0 0 (MQ below (va_Qv (fun S9 => wX D S0 S9 ∧ post S9) (wB D cy X A) A) args s 0 0 A) (F0 m 76 ls [.int t2, .int t1, .ref b0]) := by
  obtain ⟨hx, hb, hml, hown, hts⟩ := id F
  have hwg : ∀ w ∈ WG, w.before args s = true := fun w h => hts w (List.mem_cons_of_mem _ h)
  intro S H locs ls a0 x1 x2 x3 x5 b0 t1 t2 hp hW hE hl hL_a0 hK_a0 hL_b0 hK_b0
  unfold wp_X12_spellsAhead_76 at hp
  refine w_callV (va_runV (As := [.int t1, .int t2]) (rest := []) F (c_X12_spells l hL_b0 hK_b0 hp H.size) (cwV (C := RX12) 2 hts (wg_V wm_RX12_296 wy_X12_spells) rfl rfl rfl (by decide +kernel) ⟨Nat.le_of_ble_eq_true rfl, Nat.le_of_ble_eq_true rfl⟩) (w_preV hK hW hL_b0 hK_b0 (by decide) rfl) rfl rfl hl.1 rfl (lv_room (Nat.le_of_ble_eq_true rfl)) dX12_spellsAhead_76 ⟨Nat.le_of_ble_eq_true rfl, Nat.le_of_ble_eq_true rfl⟩) hW (fun S_2 H locs hp hW => ?_)
  obtain ⟨hX_S_2, hp⟩ := hp
  refine W.widen (k := 0) (n := 0) (by decide) (by decide) ?_
  have hE := hE.trans hX_S_2
  have hK_a0 : sK S_2 a0 = 17 := (hX_S_2.2 a0 hL_a0).1.trans hK_a0
  have hL_a0 : wM D S_2 a0 := hX_S_2.M hL_a0
  obtain ⟨x_3, ex_3⟩ : ∃ z : Int32, z = x5 + 1 := ⟨_, rfl⟩
  replace hp := hp x_3 ex_3
  refine lv_iinc (v := x_3) (lv' := [(5, .int x_3), (0, .ref a0), (1, .int x1), (2, .int x2), (3, .int x3)]) hx hb dX12_spellsAhead_79 hl (k := 4) rfl (by rw [ex_3]; rfl) (by decide) rfl (fun ls hl => ?_)
  refine lv_goto (tgt := 45) hx hb dX12_spellsAhead_82 (by decide) ?_
  exact q_45 hp hW hE (lv_sub hl [1, 2, 3, 4, 0] rfl) hL_a0 hK_a0
set_option maxHeartbeats 4000000 in
set_option maxRecDepth 100000 in
theorem t_X12_spellsAhead_57 {p : Program} {l : Launch} {e : Env} {s : State} {m : MethodId} {args : Array Value} {below : List Frame} {meth : Method} {c : Code} {D : wD} {cy : Nat → ClassId} {X : va_W} {A : Nat → Prop} {S0 : wS} {post : wS → Prop} (F : CallFix p m c cX12_spellsAhead 6 s args wz_X12_spellsAhead RX12) (hr : meth.sig.returnType = none) (hlocks : meth.locks = false) (hK : wK D cy A s) {k_45 : wS → Nat → Int32 → Int32 → Int32 → Int32 → Prop} (q_45 : ∀ {S : wS} {H : Heap} {locs : List Loc} {ls : Array Slot} {a0 : Nat} {x1 : Int32} {x2 : Int32} {x3 : Int32} {x5 : Int32}, k_45 S a0 x1 x2 x3 x5 → wO D cy X A s.heap S H locs → wX D S0 S → lv_has ls 6 [(0, .ref a0), (1, .int x1), (2, .int x2), (3, .int x3), (5, .int x5)] → wM D S a0 → sK S a0 = 17 → W p l e r_X12_spellsAhead s m args below meth c H locs 0 0 (MQ below (va_Qv (fun S9 => wX D S0 S9 ∧ post S9) (wB D cy X A) A) args s 0 0 A) (F0 m 45 ls [])) : ∀ {S : wS} {H : Heap} {locs : List Loc} {ls : Array Slot} {a0 : Nat} {x1 : Int32} {x2 : Int32} {x3 : Int32} {x5 : Int32} {t0 : Int32} {t1 : Int32}, wp_X12_spellsAhead_57 D post k_45 S a0 x1 x2 x3 x5 t0 t1 → wO D cy X A s.heap S H locs → wX D S0 S → lv_has ls 6 [(0, .ref a0), (1, .int x1), (2, .int x2), (3, .int x3), (5, .int x5)] → wM D S a0 → sK S a0 = 17 → W p l e r_X12_spellsAhead s m args below meth c H locs 0 0 (MQ below (va_Qv (fun S9 => wX D S0 S9 ∧ post S9) (wB D cy X A) A) args s 0 0 A) (F0 m 57 ls [.int t1, .int t0]) := by
  obtain ⟨hx, hb, hml, hown, hts⟩ := id F
  have hwg : ∀ w ∈ WG, w.before args s = true := fun w h => hts w (List.mem_cons_of_mem _ h)
  intro S H locs ls a0 x1 x2 x3 x5 t0 t1 hp hW hE hl hL_a0 hK_a0
  unfold wp_X12_spellsAhead_57 at hp
  refine lv_icmp_ge (tgt := 85) hx hb dX12_spellsAhead_57 (by decide) (fun c_1 => ?_) (fun c_1 => ?_)
  · replace hp := hp.1 c_1
    exact w_vret hx hb hr hlocks hW ⟨hE, hp⟩ dX12_spellsAhead_85
  · replace hp := hp.2 c_1
    refine lv_aload_n hx hb dX12_spellsAhead_60 rfl (lv_at hl 0 rfl) ?_
    refine lv_iload_n hx hb dX12_spellsAhead_61 rfl (lv_at hl 1 rfl) ?_
    refine lv_iload hx hb dX12_spellsAhead_62 (lv_at hl 4 rfl) ?_
    refine lv_iconst (v := 2) hx hb dX12_spellsAhead_64 (by decide) ?_
    obtain ⟨h_2, hp⟩ := hp
    refine lv_irem hx hb dX12_spellsAhead_65 h_2 ?_
    refine lv_if_ne (tgt := 74) hx hb dX12_spellsAhead_66 (by decide) (fun c_3 => ?_) (fun c_3 => ?_)
    · replace hp := hp.1 c_3
      refine lv_bipush (v := 45) hx hb dX12_spellsAhead_74 (by decide) ?_
      exact t_X12_spellsAhead_76 F hr hlocks hK q_45 hp hW hE (lv_sub hl [0, 1, 2, 3, 4] rfl) hL_a0 hK_a0 hL_a0 hK_a0
    · replace hp := hp.2 c_3
      refine lv_bipush (v := 79) hx hb dX12_spellsAhead_69 (by decide) ?_
      refine lv_goto (tgt := 76) hx hb dX12_spellsAhead_71 (by decide) ?_
      exact t_X12_spellsAhead_76 F hr hlocks hK q_45 hp hW hE (lv_sub hl [0, 1, 2, 3, 4] rfl) hL_a0 hK_a0 hL_a0 hK_a0
set_option maxHeartbeats 4000000 in
set_option maxRecDepth 100000 in
theorem t_X12_spellsAhead_45 {p : Program} {l : Launch} {e : Env} {s : State} {m : MethodId} {args : Array Value} {below : List Frame} {meth : Method} {c : Code} {D : wD} {cy : Nat → ClassId} {X : va_W} {A : Nat → Prop} {S0 : wS} {post : wS → Prop} (F : CallFix p m c cX12_spellsAhead 6 s args wz_X12_spellsAhead RX12) (hr : meth.sig.returnType = none) (hlocks : meth.locks = false) (hK : wK D cy A s) : ∀ (n : Nat) {S : wS} {H : Heap} {locs : List Loc} {ls : Array Slot} {a0 : Nat} {x1 : Int32} {x2 : Int32} {x3 : Int32} {x5 : Int32}, wp_X12_spellsAhead_45 D post n S a0 x1 x2 x3 x5 → wO D cy X A s.heap S H locs → wX D S0 S → lv_has ls 6 [(0, .ref a0), (1, .int x1), (2, .int x2), (3, .int x3), (5, .int x5)] → wM D S a0 → sK S a0 = 17 → W p l e r_X12_spellsAhead s m args below meth c H locs 0 0 (MQ below (va_Qv (fun S9 => wX D S0 S9 ∧ post S9) (wB D cy X A) A) args s 0 0 A) (F0 m 45 ls []) := by
  obtain ⟨hx, hb, hml, hown, hts⟩ := id F
  have hwg : ∀ w ∈ WG, w.before args s = true := fun w h => hts w (List.mem_cons_of_mem _ h)
  intro n
  induction n with
  | zero =>
    intro S H locs ls a0 x1 x2 x3 x5 hp
    exact hp.elim
  | succ n ih =>
    intro S H locs ls a0 x1 x2 x3 x5 hp hW hE hl hL_a0 hK_a0
    unfold wp_X12_spellsAhead_45 at hp
    refine lv_iload hx hb dX12_spellsAhead_45 (lv_at hl 4 rfl) ?_
    refine lv_iload_n hx hb dX12_spellsAhead_47 rfl (lv_at hl 3 rfl) ?_
    refine lv_iload_n hx hb dX12_spellsAhead_48 rfl (lv_at hl 2 rfl) ?_
    refine lv_icmp_le (tgt := 56) hx hb dX12_spellsAhead_49 (by decide) (fun c_1 => ?_) (fun c_1 => ?_)
    · replace hp := hp.1 c_1
      refine lv_iconst (v := 5) hx hb dX12_spellsAhead_56 (by decide) ?_
      exact t_X12_spellsAhead_57 F hr hlocks hK ih hp hW hE (lv_sub hl [0, 1, 2, 3, 4] rfl) hL_a0 hK_a0
    · replace hp := hp.2 c_1
      refine lv_iconst (v := 3) hx hb dX12_spellsAhead_52 (by decide) ?_
      refine lv_goto (tgt := 57) hx hb dX12_spellsAhead_53 (by decide) ?_
      exact t_X12_spellsAhead_57 F hr hlocks hK ih hp hW hE (lv_sub hl [0, 1, 2, 3, 4] rfl) hL_a0 hK_a0
set_option maxHeartbeats 4000000 in
set_option maxRecDepth 100000 in
theorem t_X12_spellsAhead_0 {p : Program} {l : Launch} {e : Env} {s : State} {m : MethodId} {args : Array Value} {below : List Frame} {meth : Method} {c : Code} {D : wD} {cy : Nat → ClassId} {X : va_W} {A : Nat → Prop} {S0 : wS} {post : wS → Prop} (F : CallFix p m c cX12_spellsAhead 6 s args wz_X12_spellsAhead RX12) (hr : meth.sig.returnType = none) (hlocks : meth.locks = false) (hK : wK D cy A s) : ∀ {S : wS} {H : Heap} {locs : List Loc} {ls : Array Slot} {a0 : Nat} {x1 : Int32}, wp_X12_spellsAhead_0 D post S a0 x1 → wO D cy X A s.heap S H locs → wX D S0 S → lv_has ls 6 [(0, .ref a0), (1, .int x1)] → wM D S a0 → sK S a0 = 17 → W p l e r_X12_spellsAhead s m args below meth c H locs 0 0 (MQ below (va_Qv (fun S9 => wX D S0 S9 ∧ post S9) (wB D cy X A) A) args s 0 0 A) (F0 m 0 ls []) := by
  obtain ⟨hx, hb, hml, hown, hts⟩ := id F
  have hwg : ∀ w ∈ WG, w.before args s = true := fun w h => hts w (List.mem_cons_of_mem _ h)
  have i_17 : ∀ w ∈ u_ws RX12 TX12 43, w ∈ wz_X12_spellsAhead := fun w h => List.mem_cons_of_mem _ (wu_17 w h)
  have k_20 := hwg _ wf_RX12_20
  have k_23 := hwg _ wf_RX12_23
  have k_51 := hwg _ wf_RX12_51
  intro S H locs ls a0 x1 hp hW hE hl hL_a0 hK_a0
  unfold wp_X12_spellsAhead_0 at hp
  refine lv_aload_n hx hb dX12_spellsAhead_0 rfl (lv_at hl 0 rfl) ?_
  obtain ⟨y_1, ey_1, hL_y_1, hK_y_1, hp⟩ := hp
  refine w_get (k := 17) (f := 18) (T := TX12) (v := .ref y_1) F hK hW hL_a0 hK_a0 (by decide) rfl rfl (by decide) i_17 k_51 (by rw [show wv 17 18 S a0 = va_rf (sR S a0 18) from rfl, ey_1]; rfl) dX12_spellsAhead_1 ?_
  refine lv_iload_n hx hb dX12_spellsAhead_4 rfl (lv_at hl 1 rfl) ?_
  refine lv_iconst (v := 0) hx hb dX12_spellsAhead_5 (by decide) ?_
  obtain ⟨h_2m, h_2, hp⟩ := hp
  refine w_ist F hK hW h_2m hK_y_1 h_2 dX12_spellsAhead_6 (fun H locs hW => ?_)
  obtain ⟨S_3, eS_3⟩ : ∃ z : wS, z = uI S y_1 (x1).toNatClampNeg (0 : Int32) := ⟨_, rfl⟩
  rw [← eS_3] at hW
  replace hp := hp S_3 eS_3
  have hX_S_3 : wX D S S_3 := by rw [eS_3]; exact wX_uI
  have hE := hE.trans hX_S_3
  have hK_a0 : sK S_3 a0 = 17 := (hX_S_3.2 a0 hL_a0).1.trans hK_a0
  have hL_a0 : wM D S_3 a0 := hX_S_3.M hL_a0
  refine lv_aload_n hx hb dX12_spellsAhead_7 rfl (lv_at hl 0 rfl) ?_
  obtain ⟨y_4, ey_4, hL_y_4, hK_y_4, hp⟩ := hp
  refine w_get (k := 17) (f := 4) (T := TX12) (v := .ref y_4) F hK hW hL_a0 hK_a0 (by decide) rfl rfl (by decide) i_17 k_20 (by rw [show wv 17 4 S_3 a0 = va_rf (sR S_3 a0 4) from rfl, ey_4]; rfl) dX12_spellsAhead_8 ?_
  refine lv_iload_n hx hb dX12_spellsAhead_11 rfl (lv_at hl 1 rfl) ?_
  obtain ⟨h_5, hp⟩ := hp
  refine w_ild F hK hW hL_y_4 hK_y_4 h_5 dX12_spellsAhead_12 ?_
  refine lv_topi (fun x_6 ex_6 => ?_)
  replace hp := hp x_6 ex_6
  refine lv_istore_n (lv' := [(2, .int x_6), (0, .ref a0), (1, .int x1)]) hx hb dX12_spellsAhead_13 rfl hl (by decide) rfl (fun ls hl => ?_)
  refine lv_aload_n hx hb dX12_spellsAhead_14 rfl (lv_at hl 1 rfl) ?_
  obtain ⟨y_7, ey_7, hL_y_7, hK_y_7, hp⟩ := hp
  refine w_get (k := 17) (f := 5) (T := TX12) (v := .ref y_7) F hK hW hL_a0 hK_a0 (by decide) rfl rfl (by decide) i_17 k_23 (by rw [show wv 17 5 S_3 a0 = va_rf (sR S_3 a0 5) from rfl, ey_7]; rfl) dX12_spellsAhead_15 ?_
  refine lv_iload_n hx hb dX12_spellsAhead_18 rfl (lv_at hl 2 rfl) ?_
  obtain ⟨h_8, hp⟩ := hp
  refine w_ild F hK hW hL_y_7 hK_y_7 h_8 dX12_spellsAhead_19 ?_
  refine lv_topi (fun x_9 ex_9 => ?_)
  replace hp := hp x_9 ex_9
  refine lv_istore_n (lv' := [(3, .int x_9), (2, .int x_6), (0, .ref a0), (1, .int x1)]) hx hb dX12_spellsAhead_20 rfl hl (by decide) rfl (fun ls hl => ?_)
  refine lv_aload_n hx hb dX12_spellsAhead_21 rfl (lv_at hl 2 rfl) ?_
  refine lv_iconst (v := 0) hx hb dX12_spellsAhead_22 (by decide) ?_
  refine lv_iload_n hx hb dX12_spellsAhead_23 rfl (lv_at hl 1 rfl) ?_
  refine w_callI (va_runV (As := [.int (0 : Int32), .int x_6]) (rest := []) F (c_X12_on l hL_a0 hK_a0 hp H.size) (cwV (C := RX12) 2 hts (wg_V wm_RX12_141 wy_X12_on) rfl rfl rfl (by decide +kernel) ⟨Nat.le_of_ble_eq_true rfl, Nat.le_of_ble_eq_true rfl⟩) (w_preV hK hW hL_a0 hK_a0 (by decide) rfl) rfl rfl hl.1 rfl (lv_room (Nat.le_of_ble_eq_true rfl)) dX12_spellsAhead_24 ⟨Nat.le_of_ble_eq_true rfl, Nat.le_of_ble_eq_true rfl⟩) hW (fun r_10 S_11 H locs hp hW => ?_)
  obtain ⟨hX_S_11, hp⟩ := hp
  refine W.widen (k := 0) (n := 0) (by decide) (by decide) ?_
  have hE := hE.trans hX_S_11
  have hK_a0 : sK S_11 a0 = 17 := (hX_S_11.2 a0 hL_a0).1.trans hK_a0
  have hL_a0 : wM D S_11 a0 := hX_S_11.M hL_a0
  refine w_callI (va_runS (As := [.int r_10]) (rest := []) F (c_X12_kindOf l hp H.size) (va_cwS 1 hts (wg_S wm_RX12_148 wy_X12_kindOf) rfl rfl rfl (by decide +kernel) ⟨Nat.le_of_ble_eq_true rfl, Nat.le_of_ble_eq_true rfl⟩) (w_preS hK hW) rfl rfl hl.1 rfl (lv_room (Nat.le_of_ble_eq_true rfl)) dX12_spellsAhead_27 ⟨Nat.le_of_ble_eq_true rfl, Nat.le_of_ble_eq_true rfl⟩) hW (fun r_12 S_13 H locs hp hW => ?_)
  obtain ⟨hX_S_13, hp⟩ := hp
  refine W.widen (k := 0) (n := 0) (by decide) (by decide) ?_
  have hE := hE.trans hX_S_13
  have hK_a0 : sK S_13 a0 = 17 := (hX_S_13.2 a0 hL_a0).1.trans hK_a0
  have hL_a0 : wM D S_13 a0 := hX_S_13.M hL_a0
  refine lv_istore (lv' := [(4, .int r_12), (3, .int x_9), (2, .int x_6), (0, .ref a0), (1, .int x1)]) hx hb dX12_spellsAhead_30 hl (by decide) rfl (fun ls hl => ?_)
  refine lv_aload_n hx hb dX12_spellsAhead_32 rfl (lv_at hl 3 rfl) ?_
  refine lv_iconst (v := 0) hx hb dX12_spellsAhead_33 (by decide) ?_
  refine lv_iload_n hx hb dX12_spellsAhead_34 rfl (lv_at hl 2 rfl) ?_
  refine lv_iload_n hx hb dX12_spellsAhead_35 rfl (lv_at hl 1 rfl) ?_
  refine w_callI (va_runV (As := [.int (0 : Int32), .int x_6, .int x_9]) (rest := []) F (c_X12_isCastling l hL_a0 hK_a0 hp H.size) (cwV (C := RX12) 3 hts (wg_V wm_RX12_211 wy_X12_isCastling) rfl rfl rfl (by decide +kernel) ⟨Nat.le_of_ble_eq_true rfl, Nat.le_of_ble_eq_true rfl⟩) (w_preV hK hW hL_a0 hK_a0 (by decide) rfl) rfl rfl hl.1 rfl (lv_room (Nat.le_of_ble_eq_true rfl)) dX12_spellsAhead_36 ⟨Nat.le_of_ble_eq_true rfl, Nat.le_of_ble_eq_true rfl⟩) hW (fun r_14 S_15 H locs hp hW => ?_)
  obtain ⟨hX_S_15, hp⟩ := hp
  refine W.widen (k := 0) (n := 0) (by decide) (by decide) ?_
  have hE := hE.trans hX_S_15
  have hK_a0 : sK S_15 a0 = 17 := (hX_S_15.2 a0 hL_a0).1.trans hK_a0
  have hL_a0 : wM D S_15 a0 := hX_S_15.M hL_a0
  refine lv_if_eq (tgt := 86) hx hb dX12_spellsAhead_39 (by decide) (fun c_16 => ?_) (fun c_16 => ?_)
  · replace hp := hp.1 c_16
    refine lv_iload hx hb dX12_spellsAhead_86 (lv_at hl 0 rfl) ?_
    refine lv_bipush (v := 6) hx hb dX12_spellsAhead_88 (by decide) ?_
    refine lv_icmp_ne (tgt := 116) hx hb dX12_spellsAhead_90 (by decide) (fun c_17 => ?_) (fun c_17 => ?_)
    · replace hp := hp.1 c_17
      exact t_X12_spellsAhead_116 F hr hlocks hK hp hW hE (lv_sub hl [3, 4, 2, 1, 0] rfl) hL_a0 hK_a0
    · replace hp := hp.2 c_17
      refine lv_aload_n hx hb dX12_spellsAhead_93 rfl (lv_at hl 3 rfl) ?_
      refine lv_iconst (v := 0) hx hb dX12_spellsAhead_94 (by decide) ?_
      refine lv_iload_n hx hb dX12_spellsAhead_95 rfl (lv_at hl 2 rfl) ?_
      refine lv_iload_n hx hb dX12_spellsAhead_96 rfl (lv_at hl 1 rfl) ?_
      refine w_callI (va_runV (As := [.int (0 : Int32), .int x_6, .int x_9]) (rest := []) F (c_X12_takes l hL_a0 hK_a0 hp H.size) (cwV (C := RX12) 3 hts (wg_V wm_RX12_204 wy_X12_takes) rfl rfl rfl (by decide +kernel) ⟨Nat.le_of_ble_eq_true rfl, Nat.le_of_ble_eq_true rfl⟩) (w_preV hK hW hL_a0 hK_a0 (by decide) rfl) rfl rfl hl.1 rfl (lv_room (Nat.le_of_ble_eq_true rfl)) dX12_spellsAhead_97 ⟨Nat.le_of_ble_eq_true rfl, Nat.le_of_ble_eq_true rfl⟩) hW (fun r_18 S_19 H locs hp hW => ?_)
      obtain ⟨hX_S_19, hp⟩ := hp
      refine W.widen (k := 0) (n := 0) (by decide) (by decide) ?_
      have hE := hE.trans hX_S_19
      have hK_a0 : sK S_19 a0 = 17 := (hX_S_19.2 a0 hL_a0).1.trans hK_a0
      have hL_a0 : wM D S_19 a0 := hX_S_19.M hL_a0
      refine lv_if_eq (tgt := 116) hx hb dX12_spellsAhead_100 (by decide) (fun c_20 => ?_) (fun c_20 => ?_)
      · replace hp := hp.1 c_20
        exact t_X12_spellsAhead_116 F hr hlocks hK hp hW hE (lv_sub hl [3, 4, 2, 1, 0] rfl) hL_a0 hK_a0
      · replace hp := hp.2 c_20
        refine lv_aload_n hx hb dX12_spellsAhead_103 rfl (lv_at hl 3 rfl) ?_
        refine lv_iload_n hx hb dX12_spellsAhead_104 rfl (lv_at hl 4 rfl) ?_
        refine lv_bipush (v := 97) hx hb dX12_spellsAhead_105 (by decide) ?_
        refine lv_aload_n hx hb dX12_spellsAhead_107 rfl (lv_at hl 3 rfl) ?_
        refine lv_iload_n hx hb dX12_spellsAhead_108 rfl (lv_at hl 2 rfl) ?_
        refine w_callI (va_runV (As := [.int x_6]) (rest := [.int (97 : Int32), .int x1, .ref a0]) F (c_X12_fileOf l hL_a0 hK_a0 hp H.size) (cwV (C := RX12) 1 hts (wg_V wm_RX12_134 wy_X12_fileOf) rfl rfl rfl (by decide +kernel) ⟨Nat.le_of_ble_eq_true rfl, Nat.le_of_ble_eq_true rfl⟩) (w_preV hK hW hL_a0 hK_a0 (by decide) rfl) rfl rfl hl.1 rfl (lv_room (Nat.le_of_ble_eq_true rfl)) dX12_spellsAhead_109 ⟨Nat.le_of_ble_eq_true rfl, Nat.le_of_ble_eq_true rfl⟩) hW (fun r_21 S_22 H locs hp hW => ?_)
        obtain ⟨hX_S_22, hp⟩ := hp
        refine W.widen (k := 0) (n := 0) (by decide) (by decide) ?_
        have hE := hE.trans hX_S_22
        have hK_a0 : sK S_22 a0 = 17 := (hX_S_22.2 a0 hL_a0).1.trans hK_a0
        have hL_a0 : wM D S_22 a0 := hX_S_22.M hL_a0
        refine lv_iadd hx hb dX12_spellsAhead_112 ?_
        refine w_callV (va_runV (As := [.int x1, .int ((97 : Int32) + r_21)]) (rest := []) F (c_X12_spells l hL_a0 hK_a0 hp H.size) (cwV (C := RX12) 2 hts (wg_V wm_RX12_296 wy_X12_spells) rfl rfl rfl (by decide +kernel) ⟨Nat.le_of_ble_eq_true rfl, Nat.le_of_ble_eq_true rfl⟩) (w_preV hK hW hL_a0 hK_a0 (by decide) rfl) rfl rfl hl.1 rfl (lv_room (Nat.le_of_ble_eq_true rfl)) dX12_spellsAhead_113 ⟨Nat.le_of_ble_eq_true rfl, Nat.le_of_ble_eq_true rfl⟩) hW (fun S_24 H locs hp hW => ?_)
        obtain ⟨hX_S_24, hp⟩ := hp
        refine W.widen (k := 0) (n := 0) (by decide) (by decide) ?_
        have hE := hE.trans hX_S_24
        have hK_a0 : sK S_24 a0 = 17 := (hX_S_24.2 a0 hL_a0).1.trans hK_a0
        have hL_a0 : wM D S_24 a0 := hX_S_24.M hL_a0
        exact t_X12_spellsAhead_116 F hr hlocks hK hp hW hE (lv_sub hl [3, 4, 2, 1, 0] rfl) hL_a0 hK_a0
  · replace hp := hp.2 c_16
    refine lv_iconst (v := 0) hx hb dX12_spellsAhead_42 (by decide) ?_
    refine lv_istore (lv' := [(5, .int (0 : Int32)), (4, .int r_12), (3, .int x_9), (2, .int x_6), (0, .ref a0), (1, .int x1)]) hx hb dX12_spellsAhead_43 hl (by decide) rfl (fun ls hl => ?_)
    obtain ⟨n_25, hp⟩ := hp
    exact t_X12_spellsAhead_45 F hr hlocks hK n_25 hp hW hE (lv_sub hl [4, 5, 3, 2, 0] rfl) hL_a0 hK_a0
set_option maxHeartbeats 4000000 in
set_option maxRecDepth 100000 in
theorem c_X12_spellsAhead (l : Launch) {D : wD} {cy : Nat → ClassId} {X : va_W} {S0 : wS} {post : wS → Prop} {a0 : Nat} {x1 : Int32} (hL_a0 : wM D S0 a0) (hK_a0 : sK S0 a0 = 17) (hp : wp_X12_spellsAhead D post S0 a0 x1) : mV D cy X l yX12_spellsAhead wz_X12_spellsAhead r_X12_spellsAhead [.ref a0, .int x1] S0 (fun S9 => wX D S0 S9 ∧ post S9) := by
  intro sz
  refine Met.ofW (cc := cX12_spellsAhead) (maxL := 6) (ret := none) (by decide) rfl ?_
  intro p e s m args below meth c s₁ B hml hv
  obtain ⟨rfl, hsz, hP, hK, hD0, hRO⟩ := hv
  have hts := atoms_spec (ws := wz_X12_spellsAhead) B.pre
  have hown : s.vm.findClass RX12 = some m.cls := findClass_of_methodNamed B.named
  subst hsz
  have hD := hD0.self (sz := s.heap.size)
  have F : CallFix p m c cX12_spellsAhead 6 s _ wz_X12_spellsAhead RX12 := ⟨B.exec, B.bytes, hml, hown, hts⟩
  have hr := B.returns
  have hlocks := B.notSynchronized
  generalize hAe : va_A (wL cy X S0) s.heap.size = A at hD hK ⊢
  have hA : ∀ q, s.heap.size ≤ q → A q := fun q h => by rw [← hAe]; exact Or.inr h
  have hW : wO D cy X A s.heap S0 s.heap [] := ⟨hP, hD, va_S.rf, hA, hRO⟩
  have hl := lv_entry ([.ref a0, .int x1]) (n := 6) (Nat.le_of_ble_eq_true rfl)
  rw [lg_entry_eq]
  generalize (lg_sl ([.ref a0, .int x1]) ++ List.replicate (6 - (lg_sl ([.ref a0, .int x1])).length) Slot.unset).toArray = ls at hl ⊢
  have hl : lv_has ls 6 [(0, .ref a0), (1, .int x1)] := hl
  unfold wp_X12_spellsAhead at hp
  exact t_X12_spellsAhead_0 F hr hlocks hK hp hW wX.rf (lv_sub hl [0, 1] rfl) hL_a0 hK_a0
def wp_X12_areLetters_105 (D : wD) (post : Int32 → wS → Prop)  (S : wS) (t0 : Int32) : Prop :=
narrow .boolean (.int t0) = .int t0 ∧ post t0 S
def wp_X12_areLetters_100 (D : wD) (post : Int32 → wS → Prop)  (S : wS) : Prop :=
wp_X12_areLetters_105 D post S (1 : Int32)
def wp_X12_areLetters_36 (D : wD) (post : Int32 → wS → Prop)  : Nat → wS → Nat → Int32 → Int32 → Int32 → Int32 → Int32 → Prop
  | 0, _, _, _, _, _, _, _ => False
  | n + 1, S, a0, x1, x2, x3, x4, x5 =>
    ((x4 ≤ x5 → (((x3 - x2) = x4 → wp_X12_areLetters_100 D post S) ∧
     (¬ (x3 - x2) = x4 → wp_X12_endOf D (fun r_3 S_4 => 
    ∃ y_5 : Nat, sR S_4 a0 12 = some y_5 ∧ wM D S_4 y_5 ∧ sK S_4 y_5 = 21 ∧
    vp_in (x2 + x4) (sN S_4 y_5) ∧
    ((¬ r_3 = (sI S_4 y_5 ((x2 + x4)).toNatClampNeg) → wp_X12_areLetters_105 D post S_4 (0 : Int32)) ∧
     (r_3 = (sI S_4 y_5 ((x2 + x4)).toNatClampNeg) → wp_X12_areLetters_100 D post S_4))) S a0 x1))) ∧
     (¬ x4 ≤ x5 → ∃ y_8 : Nat, sR S a0 17 = some y_8 ∧ wM D S y_8 ∧ sK S y_8 = 21 ∧
    vp_in (((12 : Int32) * x1) + x5) (sN S y_8) ∧
    ∃ y_10 : Nat, sR S a0 12 = some y_10 ∧ wM D S y_10 ∧ sK S y_10 = 21 ∧
    vp_in (x2 + x5) (sN S y_10) ∧
    (((sI S y_8 ((((12 : Int32) * x1) + x5)).toNatClampNeg) = (sI S y_10 ((x2 + x5)).toNatClampNeg) → ∀ x_13 : Int32, x_13 = x5 + 1 →
    wp_X12_areLetters_36 D post n S a0 x1 x2 x3 x4 x_13) ∧
     (¬ (sI S y_8 ((((12 : Int32) * x1) + x5)).toNatClampNeg) = (sI S y_10 ((x2 + x5)).toNatClampNeg) → narrow .boolean (.int (0 : Int32)) = .int (0 : Int32) ∧ post (0 : Int32) S))))
def wp_X12_areLetters_33 (D : wD) (post : Int32 → wS → Prop)  (S : wS) (a0 : Nat) (x1 : Int32) (x2 : Int32) (x3 : Int32) (x4 : Int32) : Prop :=
∃ n_1 : Nat, wp_X12_areLetters_36 D post n_1 S a0 x1 x2 x3 x4 (0 : Int32)
def wp_X12_areLetters_0 (D : wD) (post : Int32 → wS → Prop)  (S : wS) (a0 : Nat) (x1 : Int32) (x2 : Int32) (x3 : Int32) : Prop :=
wp_X12_spellsAhead D (fun S_2 => 
∃ y_3 : Nat, sR S_2 a0 18 = some y_3 ∧ wM D S_2 y_3 ∧ sK S_2 y_3 = 21 ∧
vp_in x1 (sN S_2 y_3) ∧
∀ x_5 : Int32, x_5 = (sI S_2 y_3 (x1).toNatClampNeg) →
(((x3 - x2) = x_5 → wp_X12_areLetters_33 D post S_2 a0 x1 x2 x3 x_5) ∧
 (¬ (x3 - x2) = x_5 → (((x3 - x2) = (x_5 + (1 : Int32)) → wp_X12_areLetters_33 D post S_2 a0 x1 x2 x3 x_5) ∧
 (¬ (x3 - x2) = (x_5 + (1 : Int32)) → narrow .boolean (.int (0 : Int32)) = .int (0 : Int32) ∧ post (0 : Int32) S_2))))) S a0 x1
abbrev r_X12_areLetters : Room := { frames := 9, cells := 0, slots := 0, locals := 219 }
def wp_X12_areLetters (D : wD) (post : Int32 → wS → Prop) (S : wS) (a0 : Nat) (x1 : Int32) (x2 : Int32) (x3 : Int32) : Prop := wp_X12_areLetters_0 D post S a0 x1 x2 x3
set_option maxHeartbeats 4000000 in
set_option maxRecDepth 100000 in
theorem t_X12_areLetters_105 {p : Program} {l : Launch} {e : Env} {s : State} {m : MethodId} {args : Array Value} {below : List Frame} {meth : Method} {c : Code} {D : wD} {cy : Nat → ClassId} {X : va_W} {A : Nat → Prop} {S0 : wS} {post : Int32 → wS → Prop} (F : CallFix p m c cX12_areLetters 6 s args wz_X12_areLetters RX12) (hr : meth.sig.returnType = (some .boolean)) (hlocks : meth.locks = false) (hK : wK D cy A s) : ∀ {S : wS} {H : Heap} {locs : List Loc} {ls : Array Slot} {t0 : Int32}, wp_X12_areLetters_105 D post S t0 → wO D cy X A s.heap S H locs → wX D S0 S → lv_has ls 6 [] → W p l e r_X12_areLetters s m args below meth c H locs 0 0 (MQ below (va_Qi (fun r S9 => wX D S0 S9 ∧ post r S9) (wB D cy X A) A) args s 0 0 A) (F0 m 105 ls [.int t0]) := by
  obtain ⟨hx, hb, hml, hown, hts⟩ := id F
  have hwg : ∀ w ∈ WG, w.before args s = true := fun w h => hts w (List.mem_cons_of_mem _ h)
  intro S H locs ls t0 hp hW hE hl
  unfold wp_X12_areLetters_105 at hp
  exact w_zret hx hb hr hlocks hW hp.1 ⟨hE, hp.2⟩ dX12_areLetters_105
set_option maxHeartbeats 4000000 in
set_option maxRecDepth 100000 in
theorem t_X12_areLetters_100 {p : Program} {l : Launch} {e : Env} {s : State} {m : MethodId} {args : Array Value} {below : List Frame} {meth : Method} {c : Code} {D : wD} {cy : Nat → ClassId} {X : va_W} {A : Nat → Prop} {S0 : wS} {post : Int32 → wS → Prop} (F : CallFix p m c cX12_areLetters 6 s args wz_X12_areLetters RX12) (hr : meth.sig.returnType = (some .boolean)) (hlocks : meth.locks = false) (hK : wK D cy A s) : ∀ {S : wS} {H : Heap} {locs : List Loc} {ls : Array Slot}, wp_X12_areLetters_100 D post S → wO D cy X A s.heap S H locs → wX D S0 S → lv_has ls 6 [] → W p l e r_X12_areLetters s m args below meth c H locs 0 0 (MQ below (va_Qi (fun r S9 => wX D S0 S9 ∧ post r S9) (wB D cy X A) A) args s 0 0 A) (F0 m 100 ls []) := by
  obtain ⟨hx, hb, hml, hown, hts⟩ := id F
  have hwg : ∀ w ∈ WG, w.before args s = true := fun w h => hts w (List.mem_cons_of_mem _ h)
  intro S H locs ls hp hW hE hl
  unfold wp_X12_areLetters_100 at hp
  refine lv_iconst (v := 1) hx hb dX12_areLetters_100 (by decide) ?_
  refine lv_goto (tgt := 105) hx hb dX12_areLetters_101 (by decide) ?_
  exact t_X12_areLetters_105 F hr hlocks hK hp hW hE (lv_sub hl [] rfl)
set_option maxHeartbeats 4000000 in
set_option maxRecDepth 100000 in
theorem t_X12_areLetters_36 {p : Program} {l : Launch} {e : Env} {s : State} {m : MethodId} {args : Array Value} {below : List Frame} {meth : Method} {c : Code} {D : wD} {cy : Nat → ClassId} {X : va_W} {A : Nat → Prop} {S0 : wS} {post : Int32 → wS → Prop} (F : CallFix p m c cX12_areLetters 6 s args wz_X12_areLetters RX12) (hr : meth.sig.returnType = (some .boolean)) (hlocks : meth.locks = false) (hK : wK D cy A s) : ∀ (n : Nat) {S : wS} {H : Heap} {locs : List Loc} {ls : Array Slot} {a0 : Nat} {x1 : Int32} {x2 : Int32} {x3 : Int32} {x4 : Int32} {x5 : Int32}, wp_X12_areLetters_36 D post n S a0 x1 x2 x3 x4 x5 → wO D cy X A s.heap S H locs → wX D S0 S → lv_has ls 6 [(0, .ref a0), (1, .int x1), (2, .int x2), (3, .int x3), (4, .int x4), (5, .int x5)] → wM D S a0 → sK S a0 = 17 → W p l e r_X12_areLetters s m args below meth c H locs 0 0 (MQ below (va_Qi (fun r S9 => wX D S0 S9 ∧ post r S9) (wB D cy X A) A) args s 0 0 A) (F0 m 36 ls []) := by
  obtain ⟨hx, hb, hml, hown, hts⟩ := id F
  have hwg : ∀ w ∈ WG, w.before args s = true := fun w h => hts w (List.mem_cons_of_mem _ h)
  have i_17 : ∀ w ∈ u_ws RX12 TX12 43, w ∈ wz_X12_areLetters := fun w h => List.mem_cons_of_mem _ (wu_17 w h)
  have k_42 := hwg _ wf_RX12_42
  have k_48 := hwg _ wf_RX12_48
  intro n
  induction n with
  | zero =>
    intro S H locs ls a0 x1 x2 x3 x4 x5 hp
    exact hp.elim
  | succ n ih =>
    intro S H locs ls a0 x1 x2 x3 x4 x5 hp hW hE hl hL_a0 hK_a0
    unfold wp_X12_areLetters_36 at hp
    refine lv_iload hx hb dX12_areLetters_36 (lv_at hl 5 rfl) ?_
    refine lv_iload hx hb dX12_areLetters_38 (lv_at hl 4 rfl) ?_
    refine lv_icmp_ge (tgt := 75) hx hb dX12_areLetters_40 (by decide) (fun c_1 => ?_) (fun c_1 => ?_)
    · replace hp := hp.1 c_1
      refine lv_iload_n hx hb dX12_areLetters_75 rfl (lv_at hl 3 rfl) ?_
      refine lv_iload_n hx hb dX12_areLetters_76 rfl (lv_at hl 2 rfl) ?_
      refine lv_isub hx hb dX12_areLetters_77 ?_
      refine lv_iload hx hb dX12_areLetters_78 (lv_at hl 4 rfl) ?_
      refine lv_icmp_eq (tgt := 100) hx hb dX12_areLetters_80 (by decide) (fun c_2 => ?_) (fun c_2 => ?_)
      · replace hp := hp.1 c_2
        exact t_X12_areLetters_100 F hr hlocks hK hp hW hE (lv_sub hl [] rfl)
      · replace hp := hp.2 c_2
        refine lv_aload_n hx hb dX12_areLetters_83 rfl (lv_at hl 0 rfl) ?_
        refine lv_iload_n hx hb dX12_areLetters_84 rfl (lv_at hl 1 rfl) ?_
        refine w_callI (va_runV (As := [.int x1]) (rest := []) F (c_X12_endOf l hL_a0 hK_a0 hp H.size) (cwV (C := RX12) 1 hts (wg_V wm_RX12_315 wy_X12_endOf) rfl rfl rfl (by decide +kernel) ⟨Nat.le_of_ble_eq_true rfl, Nat.le_of_ble_eq_true rfl⟩) (w_preV hK hW hL_a0 hK_a0 (by decide) rfl) rfl rfl hl.1 rfl (lv_room (Nat.le_of_ble_eq_true rfl)) dX12_areLetters_85 ⟨Nat.le_of_ble_eq_true rfl, Nat.le_of_ble_eq_true rfl⟩) hW (fun r_3 S_4 H locs hp hW => ?_)
        obtain ⟨hX_S_4, hp⟩ := hp
        refine W.widen (k := 0) (n := 0) (by decide) (by decide) ?_
        have hE := hE.trans hX_S_4
        have hK_a0 : sK S_4 a0 = 17 := (hX_S_4.2 a0 hL_a0).1.trans hK_a0
        have hL_a0 : wM D S_4 a0 := hX_S_4.M hL_a0
        refine lv_aload_n hx hb dX12_areLetters_88 rfl (lv_at hl 0 rfl) ?_
        obtain ⟨y_5, ey_5, hL_y_5, hK_y_5, hp⟩ := hp
        refine w_get (k := 17) (f := 12) (T := TX12) (v := .ref y_5) F hK hW hL_a0 hK_a0 (by decide) rfl rfl (by decide) i_17 k_42 (by rw [show wv 17 12 S_4 a0 = va_rf (sR S_4 a0 12) from rfl, ey_5]; rfl) dX12_areLetters_89 ?_
        refine lv_iload_n hx hb dX12_areLetters_92 rfl (lv_at hl 2 rfl) ?_
        refine lv_iload hx hb dX12_areLetters_93 (lv_at hl 4 rfl) ?_
        refine lv_iadd hx hb dX12_areLetters_95 ?_
        obtain ⟨h_6, hp⟩ := hp
        refine w_ild F hK hW hL_y_5 hK_y_5 h_6 dX12_areLetters_96 ?_
        refine lv_icmp_ne (tgt := 104) hx hb dX12_areLetters_97 (by decide) (fun c_7 => ?_) (fun c_7 => ?_)
        · replace hp := hp.1 c_7
          refine lv_iconst (v := 0) hx hb dX12_areLetters_104 (by decide) ?_
          exact t_X12_areLetters_105 F hr hlocks hK hp hW hE (lv_sub hl [] rfl)
        · replace hp := hp.2 c_7
          exact t_X12_areLetters_100 F hr hlocks hK hp hW hE (lv_sub hl [] rfl)
    · replace hp := hp.2 c_1
      refine lv_aload_n hx hb dX12_areLetters_43 rfl (lv_at hl 0 rfl) ?_
      obtain ⟨y_8, ey_8, hL_y_8, hK_y_8, hp⟩ := hp
      refine w_get (k := 17) (f := 17) (T := TX12) (v := .ref y_8) F hK hW hL_a0 hK_a0 (by decide) rfl rfl (by decide) i_17 k_48 (by rw [show wv 17 17 S a0 = va_rf (sR S a0 17) from rfl, ey_8]; rfl) dX12_areLetters_44 ?_
      refine lv_bipush (v := 12) hx hb dX12_areLetters_47 (by decide) ?_
      refine lv_iload_n hx hb dX12_areLetters_49 rfl (lv_at hl 1 rfl) ?_
      refine lv_imul hx hb dX12_areLetters_50 ?_
      refine lv_iload hx hb dX12_areLetters_51 (lv_at hl 5 rfl) ?_
      refine lv_iadd hx hb dX12_areLetters_53 ?_
      obtain ⟨h_9, hp⟩ := hp
      refine w_ild F hK hW hL_y_8 hK_y_8 h_9 dX12_areLetters_54 ?_
      refine lv_aload_n hx hb dX12_areLetters_55 rfl (lv_at hl 0 rfl) ?_
      obtain ⟨y_10, ey_10, hL_y_10, hK_y_10, hp⟩ := hp
      refine w_get (k := 17) (f := 12) (T := TX12) (v := .ref y_10) F hK hW hL_a0 hK_a0 (by decide) rfl rfl (by decide) i_17 k_42 (by rw [show wv 17 12 S a0 = va_rf (sR S a0 12) from rfl, ey_10]; rfl) dX12_areLetters_56 ?_
      refine lv_iload_n hx hb dX12_areLetters_59 rfl (lv_at hl 2 rfl) ?_
      refine lv_iload hx hb dX12_areLetters_60 (lv_at hl 5 rfl) ?_
      refine lv_iadd hx hb dX12_areLetters_62 ?_
      obtain ⟨h_11, hp⟩ := hp
      refine w_ild F hK hW hL_y_10 hK_y_10 h_11 dX12_areLetters_63 ?_
      refine lv_icmp_eq (tgt := 69) hx hb dX12_areLetters_64 (by decide) (fun c_12 => ?_) (fun c_12 => ?_)
      · replace hp := hp.1 c_12
        obtain ⟨x_13, ex_13⟩ : ∃ z : Int32, z = x5 + 1 := ⟨_, rfl⟩
        replace hp := hp x_13 ex_13
        refine lv_iinc (v := x_13) (lv' := [(5, .int x_13), (0, .ref a0), (1, .int x1), (2, .int x2), (3, .int x3), (4, .int x4)]) hx hb dX12_areLetters_69 hl (k := 5) rfl (by rw [ex_13]; rfl) (by decide) rfl (fun ls hl => ?_)
        refine lv_goto (tgt := 36) hx hb dX12_areLetters_72 (by decide) ?_
        exact ih hp hW hE (lv_sub hl [1, 2, 3, 4, 5, 0] rfl) hL_a0 hK_a0
      · replace hp := hp.2 c_12
        refine lv_iconst (v := 0) hx hb dX12_areLetters_67 (by decide) ?_
        exact w_zret hx hb hr hlocks hW hp.1 ⟨hE, hp.2⟩ dX12_areLetters_68
set_option maxHeartbeats 4000000 in
set_option maxRecDepth 100000 in
theorem t_X12_areLetters_33 {p : Program} {l : Launch} {e : Env} {s : State} {m : MethodId} {args : Array Value} {below : List Frame} {meth : Method} {c : Code} {D : wD} {cy : Nat → ClassId} {X : va_W} {A : Nat → Prop} {S0 : wS} {post : Int32 → wS → Prop} (F : CallFix p m c cX12_areLetters 6 s args wz_X12_areLetters RX12) (hr : meth.sig.returnType = (some .boolean)) (hlocks : meth.locks = false) (hK : wK D cy A s) : ∀ {S : wS} {H : Heap} {locs : List Loc} {ls : Array Slot} {a0 : Nat} {x1 : Int32} {x2 : Int32} {x3 : Int32} {x4 : Int32}, wp_X12_areLetters_33 D post S a0 x1 x2 x3 x4 → wO D cy X A s.heap S H locs → wX D S0 S → lv_has ls 6 [(0, .ref a0), (1, .int x1), (2, .int x2), (3, .int x3), (4, .int x4)] → wM D S a0 → sK S a0 = 17 → W p l e r_X12_areLetters s m args below meth c H locs 0 0 (MQ below (va_Qi (fun r S9 => wX D S0 S9 ∧ post r S9) (wB D cy X A) A) args s 0 0 A) (F0 m 33 ls []) := by
  obtain ⟨hx, hb, hml, hown, hts⟩ := id F
  have hwg : ∀ w ∈ WG, w.before args s = true := fun w h => hts w (List.mem_cons_of_mem _ h)
  intro S H locs ls a0 x1 x2 x3 x4 hp hW hE hl hL_a0 hK_a0
  unfold wp_X12_areLetters_33 at hp
  refine lv_iconst (v := 0) hx hb dX12_areLetters_33 (by decide) ?_
  refine lv_istore (lv' := [(5, .int (0 : Int32)), (0, .ref a0), (1, .int x1), (2, .int x2), (3, .int x3), (4, .int x4)]) hx hb dX12_areLetters_34 hl (by decide) rfl (fun ls hl => ?_)
  obtain ⟨n_1, hp⟩ := hp
  exact t_X12_areLetters_36 F hr hlocks hK n_1 hp hW hE (lv_sub hl [1, 2, 3, 4, 5, 0] rfl) hL_a0 hK_a0
set_option maxHeartbeats 4000000 in
set_option maxRecDepth 100000 in
theorem t_X12_areLetters_0 {p : Program} {l : Launch} {e : Env} {s : State} {m : MethodId} {args : Array Value} {below : List Frame} {meth : Method} {c : Code} {D : wD} {cy : Nat → ClassId} {X : va_W} {A : Nat → Prop} {S0 : wS} {post : Int32 → wS → Prop} (F : CallFix p m c cX12_areLetters 6 s args wz_X12_areLetters RX12) (hr : meth.sig.returnType = (some .boolean)) (hlocks : meth.locks = false) (hK : wK D cy A s) : ∀ {S : wS} {H : Heap} {locs : List Loc} {ls : Array Slot} {a0 : Nat} {x1 : Int32} {x2 : Int32} {x3 : Int32}, wp_X12_areLetters_0 D post S a0 x1 x2 x3 → wO D cy X A s.heap S H locs → wX D S0 S → lv_has ls 6 [(0, .ref a0), (1, .int x1), (2, .int x2), (3, .int x3)] → wM D S a0 → sK S a0 = 17 → W p l e r_X12_areLetters s m args below meth c H locs 0 0 (MQ below (va_Qi (fun r S9 => wX D S0 S9 ∧ post r S9) (wB D cy X A) A) args s 0 0 A) (F0 m 0 ls []) := by
  obtain ⟨hx, hb, hml, hown, hts⟩ := id F
  have hwg : ∀ w ∈ WG, w.before args s = true := fun w h => hts w (List.mem_cons_of_mem _ h)
  have i_17 : ∀ w ∈ u_ws RX12 TX12 43, w ∈ wz_X12_areLetters := fun w h => List.mem_cons_of_mem _ (wu_17 w h)
  have k_51 := hwg _ wf_RX12_51
  intro S H locs ls a0 x1 x2 x3 hp hW hE hl hL_a0 hK_a0
  unfold wp_X12_areLetters_0 at hp
  refine lv_aload_n hx hb dX12_areLetters_0 rfl (lv_at hl 0 rfl) ?_
  refine lv_iload_n hx hb dX12_areLetters_1 rfl (lv_at hl 1 rfl) ?_
  refine w_callV (va_runV (As := [.int x1]) (rest := []) F (c_X12_spellsAhead l hL_a0 hK_a0 hp H.size) (cwV (C := RX12) 1 hts (wg_V wm_RX12_312 wy_X12_spellsAhead) rfl rfl rfl (by decide +kernel) ⟨Nat.le_of_ble_eq_true rfl, Nat.le_of_ble_eq_true rfl⟩) (w_preV hK hW hL_a0 hK_a0 (by decide) rfl) rfl rfl hl.1 rfl (lv_room (Nat.le_of_ble_eq_true rfl)) dX12_areLetters_2 ⟨Nat.le_of_ble_eq_true rfl, Nat.le_of_ble_eq_true rfl⟩) hW (fun S_2 H locs hp hW => ?_)
  obtain ⟨hX_S_2, hp⟩ := hp
  refine W.widen (k := 0) (n := 0) (by decide) (by decide) ?_
  have hE := hE.trans hX_S_2
  have hK_a0 : sK S_2 a0 = 17 := (hX_S_2.2 a0 hL_a0).1.trans hK_a0
  have hL_a0 : wM D S_2 a0 := hX_S_2.M hL_a0
  refine lv_aload_n hx hb dX12_areLetters_5 rfl (lv_at hl 0 rfl) ?_
  obtain ⟨y_3, ey_3, hL_y_3, hK_y_3, hp⟩ := hp
  refine w_get (k := 17) (f := 18) (T := TX12) (v := .ref y_3) F hK hW hL_a0 hK_a0 (by decide) rfl rfl (by decide) i_17 k_51 (by rw [show wv 17 18 S_2 a0 = va_rf (sR S_2 a0 18) from rfl, ey_3]; rfl) dX12_areLetters_6 ?_
  refine lv_iload_n hx hb dX12_areLetters_9 rfl (lv_at hl 1 rfl) ?_
  obtain ⟨h_4, hp⟩ := hp
  refine w_ild F hK hW hL_y_3 hK_y_3 h_4 dX12_areLetters_10 ?_
  refine lv_topi (fun x_5 ex_5 => ?_)
  replace hp := hp x_5 ex_5
  refine lv_istore (lv' := [(4, .int x_5), (0, .ref a0), (1, .int x1), (2, .int x2), (3, .int x3)]) hx hb dX12_areLetters_11 hl (by decide) rfl (fun ls hl => ?_)
  refine lv_iload_n hx hb dX12_areLetters_13 rfl (lv_at hl 4 rfl) ?_
  refine lv_iload_n hx hb dX12_areLetters_14 rfl (lv_at hl 3 rfl) ?_
  refine lv_isub hx hb dX12_areLetters_15 ?_
  refine lv_iload hx hb dX12_areLetters_16 (lv_at hl 0 rfl) ?_
  refine lv_icmp_eq (tgt := 33) hx hb dX12_areLetters_18 (by decide) (fun c_6 => ?_) (fun c_6 => ?_)
  · replace hp := hp.1 c_6
    exact t_X12_areLetters_33 F hr hlocks hK hp hW hE (lv_sub hl [1, 2, 3, 4, 0] rfl) hL_a0 hK_a0
  · replace hp := hp.2 c_6
    refine lv_iload_n hx hb dX12_areLetters_21 rfl (lv_at hl 4 rfl) ?_
    refine lv_iload_n hx hb dX12_areLetters_22 rfl (lv_at hl 3 rfl) ?_
    refine lv_isub hx hb dX12_areLetters_23 ?_
    refine lv_iload hx hb dX12_areLetters_24 (lv_at hl 0 rfl) ?_
    refine lv_iconst (v := 1) hx hb dX12_areLetters_26 (by decide) ?_
    refine lv_iadd hx hb dX12_areLetters_27 ?_
    refine lv_icmp_eq (tgt := 33) hx hb dX12_areLetters_28 (by decide) (fun c_7 => ?_) (fun c_7 => ?_)
    · replace hp := hp.1 c_7
      exact t_X12_areLetters_33 F hr hlocks hK hp hW hE (lv_sub hl [1, 2, 3, 4, 0] rfl) hL_a0 hK_a0
    · replace hp := hp.2 c_7
      refine lv_iconst (v := 0) hx hb dX12_areLetters_31 (by decide) ?_
      exact w_zret hx hb hr hlocks hW hp.1 ⟨hE, hp.2⟩ dX12_areLetters_32
set_option maxHeartbeats 4000000 in
set_option maxRecDepth 100000 in
theorem c_X12_areLetters (l : Launch) {D : wD} {cy : Nat → ClassId} {X : va_W} {S0 : wS} {post : Int32 → wS → Prop} {a0 : Nat} {x1 : Int32} {x2 : Int32} {x3 : Int32} (hL_a0 : wM D S0 a0) (hK_a0 : sK S0 a0 = 17) (hp : wp_X12_areLetters D post S0 a0 x1 x2 x3) : mI D cy X l yX12_areLetters wz_X12_areLetters r_X12_areLetters [.ref a0, .int x1, .int x2, .int x3] S0 (fun r S9 => wX D S0 S9 ∧ post r S9) := by
  intro sz
  refine Met.ofW (cc := cX12_areLetters) (maxL := 6) (ret := (some .boolean)) (by decide) rfl ?_
  intro p e s m args below meth c s₁ B hml hv
  obtain ⟨rfl, hsz, hP, hK, hD0, hRO⟩ := hv
  have hts := atoms_spec (ws := wz_X12_areLetters) B.pre
  have hown : s.vm.findClass RX12 = some m.cls := findClass_of_methodNamed B.named
  subst hsz
  have hD := hD0.self (sz := s.heap.size)
  have F : CallFix p m c cX12_areLetters 6 s _ wz_X12_areLetters RX12 := ⟨B.exec, B.bytes, hml, hown, hts⟩
  have hr := B.returns
  have hlocks := B.notSynchronized
  generalize hAe : va_A (wL cy X S0) s.heap.size = A at hD hK ⊢
  have hA : ∀ q, s.heap.size ≤ q → A q := fun q h => by rw [← hAe]; exact Or.inr h
  have hW : wO D cy X A s.heap S0 s.heap [] := ⟨hP, hD, va_S.rf, hA, hRO⟩
  have hl := lv_entry ([.ref a0, .int x1, .int x2, .int x3]) (n := 6) (Nat.le_of_ble_eq_true rfl)
  rw [lg_entry_eq]
  generalize (lg_sl ([.ref a0, .int x1, .int x2, .int x3]) ++ List.replicate (6 - (lg_sl ([.ref a0, .int x1, .int x2, .int x3])).length) Slot.unset).toArray = ls at hl ⊢
  have hl : lv_has ls 6 [(0, .ref a0), (1, .int x1), (2, .int x2), (3, .int x3)] := hl
  unfold wp_X12_areLetters at hp
  exact t_X12_areLetters_0 F hr hlocks hK hp hW wX.rf (lv_sub hl [0, 1, 2, 3] rfl) hL_a0 hK_a0
def wp_X12_isSquare_0 (D : wD) (post : Int32 → wS → Prop)  (S : wS) (a0 : Nat) (x1 : Int32) : Prop :=
wp_X12_squares D (fun r_1 S_2 => 
wp_X12_in D (fun r_3 S_4 => 
narrow .boolean (.int r_3) = .int r_3 ∧ post r_3 S_4) S_2 x1 (0 : Int32) (r_1 - (1 : Int32))) S a0
abbrev r_X12_isSquare : Room := { frames := 1, cells := 0, slots := 0, locals := 22 }
def wp_X12_isSquare (D : wD) (post : Int32 → wS → Prop) (S : wS) (a0 : Nat) (x1 : Int32) : Prop := wp_X12_isSquare_0 D post S a0 x1
set_option maxHeartbeats 4000000 in
set_option maxRecDepth 100000 in
theorem t_X12_isSquare_0 {p : Program} {l : Launch} {e : Env} {s : State} {m : MethodId} {args : Array Value} {below : List Frame} {meth : Method} {c : Code} {D : wD} {cy : Nat → ClassId} {X : va_W} {A : Nat → Prop} {S0 : wS} {post : Int32 → wS → Prop} (F : CallFix p m c cX12_isSquare 2 s args wz_X12_isSquare RX12) (hr : meth.sig.returnType = (some .boolean)) (hlocks : meth.locks = false) (hK : wK D cy A s) : ∀ {S : wS} {H : Heap} {locs : List Loc} {ls : Array Slot} {a0 : Nat} {x1 : Int32}, wp_X12_isSquare_0 D post S a0 x1 → wO D cy X A s.heap S H locs → wX D S0 S → lv_has ls 2 [(0, .ref a0), (1, .int x1)] → wM D S a0 → sK S a0 = 17 → W p l e r_X12_isSquare s m args below meth c H locs 0 0 (MQ below (va_Qi (fun r S9 => wX D S0 S9 ∧ post r S9) (wB D cy X A) A) args s 0 0 A) (F0 m 0 ls []) := by
  obtain ⟨hx, hb, hml, hown, hts⟩ := id F
  have hwg : ∀ w ∈ WG, w.before args s = true := fun w h => hts w (List.mem_cons_of_mem _ h)
  intro S H locs ls a0 x1 hp hW hE hl hL_a0 hK_a0
  unfold wp_X12_isSquare_0 at hp
  refine lv_iload_n hx hb dX12_isSquare_0 rfl (lv_at hl 1 rfl) ?_
  refine lv_iconst (v := 0) hx hb dX12_isSquare_1 (by decide) ?_
  refine lv_aload_n hx hb dX12_isSquare_2 rfl (lv_at hl 0 rfl) ?_
  refine w_callI (va_runV (As := []) (rest := [.int (0 : Int32), .int x1]) F (c_X12_squares l hL_a0 hK_a0 hp H.size) (cwV (C := RX12) 0 hts (wg_V wm_RX12_113 wy_X12_squares) rfl rfl rfl (by decide +kernel) ⟨Nat.le_of_ble_eq_true rfl, Nat.le_of_ble_eq_true rfl⟩) (w_preV hK hW hL_a0 hK_a0 (by decide) rfl) rfl rfl hl.1 rfl (lv_room (Nat.le_of_ble_eq_true rfl)) dX12_isSquare_3 ⟨Nat.le_of_ble_eq_true rfl, Nat.le_of_ble_eq_true rfl⟩) hW (fun r_1 S_2 H locs hp hW => ?_)
  obtain ⟨hX_S_2, hp⟩ := hp
  refine W.widen (k := 0) (n := 0) (by decide) (by decide) ?_
  have hE := hE.trans hX_S_2
  have hK_a0 : sK S_2 a0 = 17 := (hX_S_2.2 a0 hL_a0).1.trans hK_a0
  have hL_a0 : wM D S_2 a0 := hX_S_2.M hL_a0
  refine lv_iconst (v := 1) hx hb dX12_isSquare_6 (by decide) ?_
  refine lv_isub hx hb dX12_isSquare_7 ?_
  refine w_callI (va_runS (As := [.int x1, .int (0 : Int32), .int (r_1 - (1 : Int32))]) (rest := []) F (c_X12_in l hp H.size) (va_cwS 3 hts (wg_S wm_RX12_117 wy_X12_in) rfl rfl rfl (by decide +kernel) ⟨Nat.le_of_ble_eq_true rfl, Nat.le_of_ble_eq_true rfl⟩) (w_preS hK hW) rfl rfl hl.1 rfl (lv_room (Nat.le_of_ble_eq_true rfl)) dX12_isSquare_8 ⟨Nat.le_of_ble_eq_true rfl, Nat.le_of_ble_eq_true rfl⟩) hW (fun r_3 S_4 H locs hp hW => ?_)
  obtain ⟨hX_S_4, hp⟩ := hp
  refine W.widen (k := 0) (n := 0) (by decide) (by decide) ?_
  have hE := hE.trans hX_S_4
  have hK_a0 : sK S_4 a0 = 17 := (hX_S_4.2 a0 hL_a0).1.trans hK_a0
  have hL_a0 : wM D S_4 a0 := hX_S_4.M hL_a0
  exact w_zret hx hb hr hlocks hW hp.1 ⟨hE, hp.2⟩ dX12_isSquare_11
set_option maxHeartbeats 4000000 in
set_option maxRecDepth 100000 in
theorem c_X12_isSquare (l : Launch) {D : wD} {cy : Nat → ClassId} {X : va_W} {S0 : wS} {post : Int32 → wS → Prop} {a0 : Nat} {x1 : Int32} (hL_a0 : wM D S0 a0) (hK_a0 : sK S0 a0 = 17) (hp : wp_X12_isSquare D post S0 a0 x1) : mI D cy X l yX12_isSquare wz_X12_isSquare r_X12_isSquare [.ref a0, .int x1] S0 (fun r S9 => wX D S0 S9 ∧ post r S9) := by
  intro sz
  refine Met.ofW (cc := cX12_isSquare) (maxL := 2) (ret := (some .boolean)) (by decide) rfl ?_
  intro p e s m args below meth c s₁ B hml hv
  obtain ⟨rfl, hsz, hP, hK, hD0, hRO⟩ := hv
  have hts := atoms_spec (ws := wz_X12_isSquare) B.pre
  have hown : s.vm.findClass RX12 = some m.cls := findClass_of_methodNamed B.named
  subst hsz
  have hD := hD0.self (sz := s.heap.size)
  have F : CallFix p m c cX12_isSquare 2 s _ wz_X12_isSquare RX12 := ⟨B.exec, B.bytes, hml, hown, hts⟩
  have hr := B.returns
  have hlocks := B.notSynchronized
  generalize hAe : va_A (wL cy X S0) s.heap.size = A at hD hK ⊢
  have hA : ∀ q, s.heap.size ≤ q → A q := fun q h => by rw [← hAe]; exact Or.inr h
  have hW : wO D cy X A s.heap S0 s.heap [] := ⟨hP, hD, va_S.rf, hA, hRO⟩
  have hl := lv_entry ([.ref a0, .int x1]) (n := 2) (Nat.le_of_ble_eq_true rfl)
  rw [lg_entry_eq]
  generalize (lg_sl ([.ref a0, .int x1]) ++ List.replicate (2 - (lg_sl ([.ref a0, .int x1])).length) Slot.unset).toArray = ls at hl ⊢
  have hl : lv_has ls 2 [(0, .ref a0), (1, .int x1)] := hl
  unfold wp_X12_isSquare at hp
  exact t_X12_isSquare_0 F hr hlocks hK hp hW wX.rf (lv_sub hl [0, 1] rfl) hL_a0 hK_a0
def wp_X12_ask_28 (D : wD) (post : Int32 → wS → Prop)  (S : wS) : Prop :=
post (0 : Int32) S
def wp_X12_ask_0 (D : wD) (post : Int32 → wS → Prop)  (S : wS) (a0 : Nat) (x1 : Int32) (x2 : Int32) : Prop :=
wp_X12_isSquare D (fun r_1 S_2 => 
wp_X12_can D (fun r_3 S_4 => 
((r_3 = 0 → wp_X12_ask_28 D post S_4) ∧
 (¬ r_3 = 0 → wp_X12_in D (fun r_6 S_7 => 
wp_X12_can D (fun r_8 S_9 => 
((¬ r_8 = 0 → ∃ y_11 : Nat, sR S_9 a0 40 = some y_11 ∧ wM D S_9 y_11 ∧ sK S_9 y_11 = 21 ∧
vp_in x1 (sN S_9 y_11) ∧
∀ x_13 : Int32, x_13 = (sI S_9 y_11 (x1).toNatClampNeg) →
∃ y_14 : Nat, sR S_9 a0 40 = some y_14 ∧ wM D S_9 y_14 ∧ sK S_9 y_14 = 21 ∧
y_14 ∈ sL S_9 ∧ vp_in x1 (sN S_9 y_14) ∧
∀ S_16 : wS, S_16 = uI S_9 y_14 (x1).toNatClampNeg x2 →
post x_13 S_16) ∧
 (r_8 = 0 → wp_X12_ask_28 D post S_9))) S_7 a0 r_6 (2 : Int32)) S_4 x2 (0 : Int32) (15 : Int32)))) S_2 a0 r_1 (1 : Int32)) S a0 x1
abbrev r_X12_ask : Room := { frames := 2, cells := 0, slots := 0, locals := 43 }
def wp_X12_ask (D : wD) (post : Int32 → wS → Prop) (S : wS) (a0 : Nat) (x1 : Int32) (x2 : Int32) : Prop := wp_X12_ask_0 D post S a0 x1 x2
set_option maxHeartbeats 4000000 in
set_option maxRecDepth 100000 in
theorem t_X12_ask_28 {p : Program} {l : Launch} {e : Env} {s : State} {m : MethodId} {args : Array Value} {below : List Frame} {meth : Method} {c : Code} {D : wD} {cy : Nat → ClassId} {X : va_W} {A : Nat → Prop} {S0 : wS} {post : Int32 → wS → Prop} (F : CallFix p m c cX12_ask 4 s args wz_X12_ask RX12) (hr : meth.sig.returnType = (some .int)) (hlocks : meth.locks = false) (hK : wK D cy A s) : ∀ {S : wS} {H : Heap} {locs : List Loc} {ls : Array Slot}, wp_X12_ask_28 D post S → wO D cy X A s.heap S H locs → wX D S0 S → lv_has ls 4 [] → W p l e r_X12_ask s m args below meth c H locs 0 0 (MQ below (va_Qi (fun r S9 => wX D S0 S9 ∧ post r S9) (wB D cy X A) A) args s 0 0 A) (F0 m 28 ls []) := by
  obtain ⟨hx, hb, hml, hown, hts⟩ := id F
  have hwg : ∀ w ∈ WG, w.before args s = true := fun w h => hts w (List.mem_cons_of_mem _ h)
  intro S H locs ls hp hW hE hl
  unfold wp_X12_ask_28 at hp
  refine lv_iconst (v := 0) hx hb dX12_ask_28 (by decide) ?_
  exact w_iret hx hb hr hlocks hW ⟨hE, hp⟩ dX12_ask_29
set_option maxHeartbeats 4000000 in
set_option maxRecDepth 100000 in
theorem t_X12_ask_0 {p : Program} {l : Launch} {e : Env} {s : State} {m : MethodId} {args : Array Value} {below : List Frame} {meth : Method} {c : Code} {D : wD} {cy : Nat → ClassId} {X : va_W} {A : Nat → Prop} {S0 : wS} {post : Int32 → wS → Prop} (F : CallFix p m c cX12_ask 4 s args wz_X12_ask RX12) (hr : meth.sig.returnType = (some .int)) (hlocks : meth.locks = false) (hK : wK D cy A s) : ∀ {S : wS} {H : Heap} {locs : List Loc} {ls : Array Slot} {a0 : Nat} {x1 : Int32} {x2 : Int32}, wp_X12_ask_0 D post S a0 x1 x2 → wO D cy X A s.heap S H locs → wX D S0 S → lv_has ls 4 [(0, .ref a0), (1, .int x1), (2, .int x2)] → wM D S a0 → sK S a0 = 17 → W p l e r_X12_ask s m args below meth c H locs 0 0 (MQ below (va_Qi (fun r S9 => wX D S0 S9 ∧ post r S9) (wB D cy X A) A) args s 0 0 A) (F0 m 0 ls []) := by
  obtain ⟨hx, hb, hml, hown, hts⟩ := id F
  have hwg : ∀ w ∈ WG, w.before args s = true := fun w h => hts w (List.mem_cons_of_mem _ h)
  have i_17 : ∀ w ∈ u_ws RX12 TX12 43, w ∈ wz_X12_ask := fun w h => List.mem_cons_of_mem _ (wu_17 w h)
  have k_97 := hwg _ wf_RX12_97
  intro S H locs ls a0 x1 x2 hp hW hE hl hL_a0 hK_a0
  unfold wp_X12_ask_0 at hp
  refine lv_aload_n hx hb dX12_ask_0 rfl (lv_at hl 0 rfl) ?_
  refine lv_aload_n hx hb dX12_ask_1 rfl (lv_at hl 0 rfl) ?_
  refine lv_iload_n hx hb dX12_ask_2 rfl (lv_at hl 1 rfl) ?_
  refine w_callI (va_runV (As := [.int x1]) (rest := [.ref a0]) F (c_X12_isSquare l hL_a0 hK_a0 hp H.size) (cwV (C := RX12) 1 hts (wg_V wm_RX12_241 wy_X12_isSquare) rfl rfl rfl (by decide +kernel) ⟨Nat.le_of_ble_eq_true rfl, Nat.le_of_ble_eq_true rfl⟩) (w_preV hK hW hL_a0 hK_a0 (by decide) rfl) rfl rfl hl.1 rfl (lv_room (Nat.le_of_ble_eq_true rfl)) dX12_ask_3 ⟨Nat.le_of_ble_eq_true rfl, Nat.le_of_ble_eq_true rfl⟩) hW (fun r_1 S_2 H locs hp hW => ?_)
  obtain ⟨hX_S_2, hp⟩ := hp
  refine W.widen (k := 0) (n := 0) (by decide) (by decide) ?_
  have hE := hE.trans hX_S_2
  have hK_a0 : sK S_2 a0 = 17 := (hX_S_2.2 a0 hL_a0).1.trans hK_a0
  have hL_a0 : wM D S_2 a0 := hX_S_2.M hL_a0
  refine lv_iconst (v := 1) hx hb dX12_ask_6 (by decide) ?_
  refine w_callI (va_runV (As := [.int r_1, .int (1 : Int32)]) (rest := []) F (c_X12_can l hL_a0 hK_a0 hp H.size) (cwV (C := RX12) 2 hts (wg_V wm_RX12_237 wy_X12_can) rfl rfl rfl (by decide +kernel) ⟨Nat.le_of_ble_eq_true rfl, Nat.le_of_ble_eq_true rfl⟩) (w_preV hK hW hL_a0 hK_a0 (by decide) rfl) rfl rfl hl.1 rfl (lv_room (Nat.le_of_ble_eq_true rfl)) dX12_ask_7 ⟨Nat.le_of_ble_eq_true rfl, Nat.le_of_ble_eq_true rfl⟩) hW (fun r_3 S_4 H locs hp hW => ?_)
  obtain ⟨hX_S_4, hp⟩ := hp
  refine W.widen (k := 0) (n := 0) (by decide) (by decide) ?_
  have hE := hE.trans hX_S_4
  have hK_a0 : sK S_4 a0 = 17 := (hX_S_4.2 a0 hL_a0).1.trans hK_a0
  have hL_a0 : wM D S_4 a0 := hX_S_4.M hL_a0
  refine lv_if_eq (tgt := 28) hx hb dX12_ask_10 (by decide) (fun c_5 => ?_) (fun c_5 => ?_)
  · replace hp := hp.1 c_5
    exact t_X12_ask_28 F hr hlocks hK hp hW hE (lv_sub hl [] rfl)
  · replace hp := hp.2 c_5
    refine lv_aload_n hx hb dX12_ask_13 rfl (lv_at hl 0 rfl) ?_
    refine lv_iload_n hx hb dX12_ask_14 rfl (lv_at hl 2 rfl) ?_
    refine lv_iconst (v := 0) hx hb dX12_ask_15 (by decide) ?_
    refine lv_bipush (v := 15) hx hb dX12_ask_16 (by decide) ?_
    refine w_callI (va_runS (As := [.int x2, .int (0 : Int32), .int (15 : Int32)]) (rest := [.ref a0]) F (c_X12_in l hp H.size) (va_cwS 3 hts (wg_S wm_RX12_117 wy_X12_in) rfl rfl rfl (by decide +kernel) ⟨Nat.le_of_ble_eq_true rfl, Nat.le_of_ble_eq_true rfl⟩) (w_preS hK hW) rfl rfl hl.1 rfl (lv_room (Nat.le_of_ble_eq_true rfl)) dX12_ask_18 ⟨Nat.le_of_ble_eq_true rfl, Nat.le_of_ble_eq_true rfl⟩) hW (fun r_6 S_7 H locs hp hW => ?_)
    obtain ⟨hX_S_7, hp⟩ := hp
    refine W.widen (k := 0) (n := 0) (by decide) (by decide) ?_
    have hE := hE.trans hX_S_7
    have hK_a0 : sK S_7 a0 = 17 := (hX_S_7.2 a0 hL_a0).1.trans hK_a0
    have hL_a0 : wM D S_7 a0 := hX_S_7.M hL_a0
    refine lv_iconst (v := 2) hx hb dX12_ask_21 (by decide) ?_
    refine w_callI (va_runV (As := [.int r_6, .int (2 : Int32)]) (rest := []) F (c_X12_can l hL_a0 hK_a0 hp H.size) (cwV (C := RX12) 2 hts (wg_V wm_RX12_237 wy_X12_can) rfl rfl rfl (by decide +kernel) ⟨Nat.le_of_ble_eq_true rfl, Nat.le_of_ble_eq_true rfl⟩) (w_preV hK hW hL_a0 hK_a0 (by decide) rfl) rfl rfl hl.1 rfl (lv_room (Nat.le_of_ble_eq_true rfl)) dX12_ask_22 ⟨Nat.le_of_ble_eq_true rfl, Nat.le_of_ble_eq_true rfl⟩) hW (fun r_8 S_9 H locs hp hW => ?_)
    obtain ⟨hX_S_9, hp⟩ := hp
    refine W.widen (k := 0) (n := 0) (by decide) (by decide) ?_
    have hE := hE.trans hX_S_9
    have hK_a0 : sK S_9 a0 = 17 := (hX_S_9.2 a0 hL_a0).1.trans hK_a0
    have hL_a0 : wM D S_9 a0 := hX_S_9.M hL_a0
    refine lv_if_ne (tgt := 30) hx hb dX12_ask_25 (by decide) (fun c_10 => ?_) (fun c_10 => ?_)
    · replace hp := hp.1 c_10
      refine lv_aload_n hx hb dX12_ask_30 rfl (lv_at hl 0 rfl) ?_
      obtain ⟨y_11, ey_11, hL_y_11, hK_y_11, hp⟩ := hp
      refine w_get (k := 17) (f := 40) (T := TX12) (v := .ref y_11) F hK hW hL_a0 hK_a0 (by decide) rfl rfl (by decide) i_17 k_97 (by rw [show wv 17 40 S_9 a0 = va_rf (sR S_9 a0 40) from rfl, ey_11]; rfl) dX12_ask_31 ?_
      refine lv_iload_n hx hb dX12_ask_34 rfl (lv_at hl 1 rfl) ?_
      obtain ⟨h_12, hp⟩ := hp
      refine w_ild F hK hW hL_y_11 hK_y_11 h_12 dX12_ask_35 ?_
      refine lv_topi (fun x_13 ex_13 => ?_)
      replace hp := hp x_13 ex_13
      refine lv_istore_n (lv' := [(3, .int x_13), (0, .ref a0), (1, .int x1), (2, .int x2)]) hx hb dX12_ask_36 rfl hl (by decide) rfl (fun ls hl => ?_)
      refine lv_aload_n hx hb dX12_ask_37 rfl (lv_at hl 1 rfl) ?_
      obtain ⟨y_14, ey_14, hL_y_14, hK_y_14, hp⟩ := hp
      refine w_get (k := 17) (f := 40) (T := TX12) (v := .ref y_14) F hK hW hL_a0 hK_a0 (by decide) rfl rfl (by decide) i_17 k_97 (by rw [show wv 17 40 S_9 a0 = va_rf (sR S_9 a0 40) from rfl, ey_14]; rfl) dX12_ask_38 ?_
      refine lv_iload_n hx hb dX12_ask_41 rfl (lv_at hl 2 rfl) ?_
      refine lv_iload_n hx hb dX12_ask_42 rfl (lv_at hl 3 rfl) ?_
      obtain ⟨h_15m, h_15, hp⟩ := hp
      refine w_ist F hK hW h_15m hK_y_14 h_15 dX12_ask_43 (fun H locs hW => ?_)
      obtain ⟨S_16, eS_16⟩ : ∃ z : wS, z = uI S_9 y_14 (x1).toNatClampNeg x2 := ⟨_, rfl⟩
      rw [← eS_16] at hW
      replace hp := hp S_16 eS_16
      have hX_S_16 : wX D S_9 S_16 := by rw [eS_16]; exact wX_uI
      have hE := hE.trans hX_S_16
      have hK_a0 : sK S_16 a0 = 17 := (hX_S_16.2 a0 hL_a0).1.trans hK_a0
      have hL_a0 : wM D S_16 a0 := hX_S_16.M hL_a0
      refine lv_iload_n hx hb dX12_ask_44 rfl (lv_at hl 0 rfl) ?_
      exact w_iret hx hb hr hlocks hW ⟨hE, hp⟩ dX12_ask_45
    · replace hp := hp.2 c_10
      exact t_X12_ask_28 F hr hlocks hK hp hW hE (lv_sub hl [] rfl)
set_option maxHeartbeats 4000000 in
set_option maxRecDepth 100000 in
theorem c_X12_ask (l : Launch) {D : wD} {cy : Nat → ClassId} {X : va_W} {S0 : wS} {post : Int32 → wS → Prop} {a0 : Nat} {x1 : Int32} {x2 : Int32} (hL_a0 : wM D S0 a0) (hK_a0 : sK S0 a0 = 17) (hp : wp_X12_ask D post S0 a0 x1 x2) : mI D cy X l yX12_ask wz_X12_ask r_X12_ask [.ref a0, .int x1, .int x2] S0 (fun r S9 => wX D S0 S9 ∧ post r S9) := by
  intro sz
  refine Met.ofW (cc := cX12_ask) (maxL := 4) (ret := (some .int)) (by decide) rfl ?_
  intro p e s m args below meth c s₁ B hml hv
  obtain ⟨rfl, hsz, hP, hK, hD0, hRO⟩ := hv
  have hts := atoms_spec (ws := wz_X12_ask) B.pre
  have hown : s.vm.findClass RX12 = some m.cls := findClass_of_methodNamed B.named
  subst hsz
  have hD := hD0.self (sz := s.heap.size)
  have F : CallFix p m c cX12_ask 4 s _ wz_X12_ask RX12 := ⟨B.exec, B.bytes, hml, hown, hts⟩
  have hr := B.returns
  have hlocks := B.notSynchronized
  generalize hAe : va_A (wL cy X S0) s.heap.size = A at hD hK ⊢
  have hA : ∀ q, s.heap.size ≤ q → A q := fun q h => by rw [← hAe]; exact Or.inr h
  have hW : wO D cy X A s.heap S0 s.heap [] := ⟨hP, hD, va_S.rf, hA, hRO⟩
  have hl := lv_entry ([.ref a0, .int x1, .int x2]) (n := 4) (Nat.le_of_ble_eq_true rfl)
  rw [lg_entry_eq]
  generalize (lg_sl ([.ref a0, .int x1, .int x2]) ++ List.replicate (4 - (lg_sl ([.ref a0, .int x1, .int x2])).length) Slot.unset).toArray = ls at hl ⊢
  have hl : lv_has ls 4 [(0, .ref a0), (1, .int x1), (2, .int x2)] := hl
  unfold wp_X12_ask at hp
  exact t_X12_ask_0 F hr hlocks hK hp hW wX.rf (lv_sub hl [0, 1, 2] rfl) hL_a0 hK_a0
def wp_X12_asked_30 (D : wD) (post : Int32 → wS → Prop)  (S : wS) (t0 : Int32) : Prop :=
post t0 S
def wp_X12_asked_15 (D : wD) (post : Int32 → wS → Prop)  (S : wS) (a0 : Nat) (b0 : Nat) (t1 : Int32) : Prop :=
wp_X12_can D (fun r_1 S_2 => 
((r_1 = 0 → wp_X12_asked_30 D post S_2 (0 : Int32)) ∧
 (¬ r_1 = 0 → wp_X12_askedNow D (fun r_4 S_5 => 
wp_X12_asked_30 D post S_5 r_4) S_2 a0))) S b0 t1 (1 : Int32)
def wp_X12_asked_0 (D : wD) (post : Int32 → wS → Prop)  (S : wS) (a0 : Nat) : Prop :=
∃ y_1 : Nat, sR S a0 30 = some y_1 ∧ wM D S y_1 ∧ sK S y_1 = 21 ∧
vp_in (0 : Int32) (sN S y_1) ∧
(((sI S y_1 ((0 : Int32)).toNatClampNeg) ≤ 0 → wp_X12_asked_15 D post S a0 a0 (0 : Int32)) ∧
 (¬ (sI S y_1 ((0 : Int32)).toNatClampNeg) ≤ 0 → wp_X12_asked_15 D post S a0 a0 (1 : Int32)))
abbrev r_X12_asked : Room := { frames := 1, cells := 0, slots := 0, locals := 22 }
def wp_X12_asked (D : wD) (post : Int32 → wS → Prop) (S : wS) (a0 : Nat) : Prop := wp_X12_asked_0 D post S a0
set_option maxHeartbeats 4000000 in
set_option maxRecDepth 100000 in
theorem t_X12_asked_30 {p : Program} {l : Launch} {e : Env} {s : State} {m : MethodId} {args : Array Value} {below : List Frame} {meth : Method} {c : Code} {D : wD} {cy : Nat → ClassId} {X : va_W} {A : Nat → Prop} {S0 : wS} {post : Int32 → wS → Prop} (F : CallFix p m c cX12_asked 1 s args wz_X12_asked RX12) (hr : meth.sig.returnType = (some .int)) (hlocks : meth.locks = false) (hK : wK D cy A s) : ∀ {S : wS} {H : Heap} {locs : List Loc} {ls : Array Slot} {t0 : Int32}, wp_X12_asked_30 D post S t0 → wO D cy X A s.heap S H locs → wX D S0 S → lv_has ls 1 [] → W p l e r_X12_asked s m args below meth c H locs 0 0 (MQ below (va_Qi (fun r S9 => wX D S0 S9 ∧ post r S9) (wB D cy X A) A) args s 0 0 A) (F0 m 30 ls [.int t0]) := by
  obtain ⟨hx, hb, hml, hown, hts⟩ := id F
  have hwg : ∀ w ∈ WG, w.before args s = true := fun w h => hts w (List.mem_cons_of_mem _ h)
  intro S H locs ls t0 hp hW hE hl
  unfold wp_X12_asked_30 at hp
  exact w_iret hx hb hr hlocks hW ⟨hE, hp⟩ dX12_asked_30
set_option maxHeartbeats 4000000 in
set_option maxRecDepth 100000 in
theorem t_X12_asked_15 {p : Program} {l : Launch} {e : Env} {s : State} {m : MethodId} {args : Array Value} {below : List Frame} {meth : Method} {c : Code} {D : wD} {cy : Nat → ClassId} {X : va_W} {A : Nat → Prop} {S0 : wS} {post : Int32 → wS → Prop} (F : CallFix p m c cX12_asked 1 s args wz_X12_asked RX12) (hr : meth.sig.returnType = (some .int)) (hlocks : meth.locks = false) (hK : wK D cy A s) : ∀ {S : wS} {H : Heap} {locs : List Loc} {ls : Array Slot} {a0 : Nat} {b0 : Nat} {t1 : Int32}, wp_X12_asked_15 D post S a0 b0 t1 → wO D cy X A s.heap S H locs → wX D S0 S → lv_has ls 1 [(0, .ref a0)] → wM D S a0 → sK S a0 = 17 → wM D S b0 → sK S b0 = 17 → W p l e r_X12_asked s m args below meth c H locs 0 0 (MQ below (va_Qi (fun r S9 => wX D S0 S9 ∧ post r S9) (wB D cy X A) A) args s 0 0 A) (F0 m 15 ls [.int t1, .ref b0]) := by
  obtain ⟨hx, hb, hml, hown, hts⟩ := id F
  have hwg : ∀ w ∈ WG, w.before args s = true := fun w h => hts w (List.mem_cons_of_mem _ h)
  intro S H locs ls a0 b0 t1 hp hW hE hl hL_a0 hK_a0 hL_b0 hK_b0
  unfold wp_X12_asked_15 at hp
  refine lv_iconst (v := 1) hx hb dX12_asked_15 (by decide) ?_
  refine w_callI (va_runV (As := [.int t1, .int (1 : Int32)]) (rest := []) F (c_X12_can l hL_b0 hK_b0 hp H.size) (cwV (C := RX12) 2 hts (wg_V wm_RX12_237 wy_X12_can) rfl rfl rfl (by decide +kernel) ⟨Nat.le_of_ble_eq_true rfl, Nat.le_of_ble_eq_true rfl⟩) (w_preV hK hW hL_b0 hK_b0 (by decide) rfl) rfl rfl hl.1 rfl (lv_room (Nat.le_of_ble_eq_true rfl)) dX12_asked_16 ⟨Nat.le_of_ble_eq_true rfl, Nat.le_of_ble_eq_true rfl⟩) hW (fun r_1 S_2 H locs hp hW => ?_)
  obtain ⟨hX_S_2, hp⟩ := hp
  refine W.widen (k := 0) (n := 0) (by decide) (by decide) ?_
  have hE := hE.trans hX_S_2
  have hK_a0 : sK S_2 a0 = 17 := (hX_S_2.2 a0 hL_a0).1.trans hK_a0
  have hL_a0 : wM D S_2 a0 := hX_S_2.M hL_a0
  refine lv_if_eq (tgt := 29) hx hb dX12_asked_19 (by decide) (fun c_3 => ?_) (fun c_3 => ?_)
  · replace hp := hp.1 c_3
    refine lv_iconst (v := 0) hx hb dX12_asked_29 (by decide) ?_
    exact t_X12_asked_30 F hr hlocks hK hp hW hE (lv_sub hl [] rfl)
  · replace hp := hp.2 c_3
    refine lv_aload_n hx hb dX12_asked_22 rfl (lv_at hl 0 rfl) ?_
    refine w_callI (va_runV (As := []) (rest := []) F (c_X12_askedNow l hL_a0 hK_a0 hp H.size) (cwV (C := RX12) 0 hts (wg_V wm_RX12_515 wy_X12_askedNow) rfl rfl rfl (by decide +kernel) ⟨Nat.le_of_ble_eq_true rfl, Nat.le_of_ble_eq_true rfl⟩) (w_preV hK hW hL_a0 hK_a0 (by decide) rfl) rfl rfl hl.1 rfl (lv_room (Nat.le_of_ble_eq_true rfl)) dX12_asked_23 ⟨Nat.le_of_ble_eq_true rfl, Nat.le_of_ble_eq_true rfl⟩) hW (fun r_4 S_5 H locs hp hW => ?_)
    obtain ⟨hX_S_5, hp⟩ := hp
    refine W.widen (k := 0) (n := 0) (by decide) (by decide) ?_
    have hE := hE.trans hX_S_5
    have hK_a0 : sK S_5 a0 = 17 := (hX_S_5.2 a0 hL_a0).1.trans hK_a0
    have hL_a0 : wM D S_5 a0 := hX_S_5.M hL_a0
    refine lv_goto (tgt := 30) hx hb dX12_asked_26 (by decide) ?_
    exact t_X12_asked_30 F hr hlocks hK hp hW hE (lv_sub hl [] rfl)
set_option maxHeartbeats 4000000 in
set_option maxRecDepth 100000 in
theorem t_X12_asked_0 {p : Program} {l : Launch} {e : Env} {s : State} {m : MethodId} {args : Array Value} {below : List Frame} {meth : Method} {c : Code} {D : wD} {cy : Nat → ClassId} {X : va_W} {A : Nat → Prop} {S0 : wS} {post : Int32 → wS → Prop} (F : CallFix p m c cX12_asked 1 s args wz_X12_asked RX12) (hr : meth.sig.returnType = (some .int)) (hlocks : meth.locks = false) (hK : wK D cy A s) : ∀ {S : wS} {H : Heap} {locs : List Loc} {ls : Array Slot} {a0 : Nat}, wp_X12_asked_0 D post S a0 → wO D cy X A s.heap S H locs → wX D S0 S → lv_has ls 1 [(0, .ref a0)] → wM D S a0 → sK S a0 = 17 → W p l e r_X12_asked s m args below meth c H locs 0 0 (MQ below (va_Qi (fun r S9 => wX D S0 S9 ∧ post r S9) (wB D cy X A) A) args s 0 0 A) (F0 m 0 ls []) := by
  obtain ⟨hx, hb, hml, hown, hts⟩ := id F
  have hwg : ∀ w ∈ WG, w.before args s = true := fun w h => hts w (List.mem_cons_of_mem _ h)
  have i_17 : ∀ w ∈ u_ws RX12 TX12 43, w ∈ wz_X12_asked := fun w h => List.mem_cons_of_mem _ (wu_17 w h)
  have k_69 := hwg _ wf_RX12_69
  intro S H locs ls a0 hp hW hE hl hL_a0 hK_a0
  unfold wp_X12_asked_0 at hp
  refine lv_aload_n hx hb dX12_asked_0 rfl (lv_at hl 0 rfl) ?_
  refine lv_aload_n hx hb dX12_asked_1 rfl (lv_at hl 0 rfl) ?_
  obtain ⟨y_1, ey_1, hL_y_1, hK_y_1, hp⟩ := hp
  refine w_get (k := 17) (f := 30) (T := TX12) (v := .ref y_1) F hK hW hL_a0 hK_a0 (by decide) rfl rfl (by decide) i_17 k_69 (by rw [show wv 17 30 S a0 = va_rf (sR S a0 30) from rfl, ey_1]; rfl) dX12_asked_2 ?_
  refine lv_iconst (v := 0) hx hb dX12_asked_5 (by decide) ?_
  obtain ⟨h_2, hp⟩ := hp
  refine w_ild F hK hW hL_y_1 hK_y_1 h_2 dX12_asked_6 ?_
  refine lv_if_le (tgt := 14) hx hb dX12_asked_7 (by decide) (fun c_3 => ?_) (fun c_3 => ?_)
  · replace hp := hp.1 c_3
    refine lv_iconst (v := 0) hx hb dX12_asked_14 (by decide) ?_
    exact t_X12_asked_15 F hr hlocks hK hp hW hE (lv_sub hl [0] rfl) hL_a0 hK_a0 hL_a0 hK_a0
  · replace hp := hp.2 c_3
    refine lv_iconst (v := 1) hx hb dX12_asked_10 (by decide) ?_
    refine lv_goto (tgt := 15) hx hb dX12_asked_11 (by decide) ?_
    exact t_X12_asked_15 F hr hlocks hK hp hW hE (lv_sub hl [0] rfl) hL_a0 hK_a0 hL_a0 hK_a0
set_option maxHeartbeats 4000000 in
set_option maxRecDepth 100000 in
theorem c_X12_asked (l : Launch) {D : wD} {cy : Nat → ClassId} {X : va_W} {S0 : wS} {post : Int32 → wS → Prop} {a0 : Nat} (hL_a0 : wM D S0 a0) (hK_a0 : sK S0 a0 = 17) (hp : wp_X12_asked D post S0 a0) : mI D cy X l yX12_asked wz_X12_asked r_X12_asked [.ref a0] S0 (fun r S9 => wX D S0 S9 ∧ post r S9) := by
  intro sz
  refine Met.ofW (cc := cX12_asked) (maxL := 1) (ret := (some .int)) (by decide) rfl ?_
  intro p e s m args below meth c s₁ B hml hv
  obtain ⟨rfl, hsz, hP, hK, hD0, hRO⟩ := hv
  have hts := atoms_spec (ws := wz_X12_asked) B.pre
  have hown : s.vm.findClass RX12 = some m.cls := findClass_of_methodNamed B.named
  subst hsz
  have hD := hD0.self (sz := s.heap.size)
  have F : CallFix p m c cX12_asked 1 s _ wz_X12_asked RX12 := ⟨B.exec, B.bytes, hml, hown, hts⟩
  have hr := B.returns
  have hlocks := B.notSynchronized
  generalize hAe : va_A (wL cy X S0) s.heap.size = A at hD hK ⊢
  have hA : ∀ q, s.heap.size ≤ q → A q := fun q h => by rw [← hAe]; exact Or.inr h
  have hW : wO D cy X A s.heap S0 s.heap [] := ⟨hP, hD, va_S.rf, hA, hRO⟩
  have hl := lv_entry ([.ref a0]) (n := 1) (Nat.le_of_ble_eq_true rfl)
  rw [lg_entry_eq]
  generalize (lg_sl ([.ref a0]) ++ List.replicate (1 - (lg_sl ([.ref a0])).length) Slot.unset).toArray = ls at hl ⊢
  have hl : lv_has ls 1 [(0, .ref a0)] := hl
  unfold wp_X12_asked at hp
  exact t_X12_asked_0 F hr hlocks hK hp hW wX.rf (lv_sub hl [0] rfl) hL_a0 hK_a0
def wp_X12_isAhead_124 (D : wD) (post : Int32 → wS → Prop)  (S : wS) (t0 : Int32) : Prop :=
narrow .boolean (.int t0) = .int t0 ∧ post t0 S
def wp_X12_isAhead_93 (D : wD) (post : Int32 → wS → Prop)  (S : wS) (t0 : Int32) : Prop :=
narrow .boolean (.int t0) = .int t0 ∧ post t0 S
def wp_X12_isAhead_73 (D : wD) (post : Int32 → wS → Prop)  (S : wS) (a0 : Nat) (x1 : Int32) (x2 : Int32) : Prop :=
∃ y_1 : Nat, sR S a0 18 = some y_1 ∧ wM D S y_1 ∧ sK S y_1 = 21 ∧
vp_in x1 (sN S y_1) ∧
∃ y_3 : Nat, sR S a0 18 = some y_3 ∧ wM D S y_3 ∧ sK S y_3 = 21 ∧
vp_in x2 (sN S y_3) ∧
(((sI S y_3 (x2).toNatClampNeg) ≤ (sI S y_1 (x1).toNatClampNeg) → wp_X12_isAhead_93 D post S (0 : Int32)) ∧
 (¬ (sI S y_3 (x2).toNatClampNeg) ≤ (sI S y_1 (x1).toNatClampNeg) → wp_X12_isAhead_93 D post S (1 : Int32)))
def wp_X12_isAhead_53 (D : wD) (post : Int32 → wS → Prop)  (S : wS) (a0 : Nat) (x1 : Int32) (x2 : Int32) (x3 : Int32) : Prop :=
∃ y_1 : Nat, sR S a0 18 = some y_1 ∧ wM D S y_1 ∧ sK S y_1 = 21 ∧
vp_in x1 (sN S y_1) ∧
((x3 = (sI S y_1 (x1).toNatClampNeg) → wp_X12_isAhead_73 D post S a0 x1 x2) ∧
 (¬ x3 = (sI S y_1 (x1).toNatClampNeg) → ∃ y_4 : Nat, sR S a0 18 = some y_4 ∧ wM D S y_4 ∧ sK S y_4 = 21 ∧
vp_in x2 (sN S y_4) ∧
((¬ x3 = (sI S y_4 (x2).toNatClampNeg) → ∃ y_7 : Nat, sR S a0 17 = some y_7 ∧ wM D S y_7 ∧ sK S y_7 = 21 ∧
vp_in (((12 : Int32) * x1) + x3) (sN S y_7) ∧
∃ y_9 : Nat, sR S a0 17 = some y_9 ∧ wM D S y_9 ∧ sK S y_9 = 21 ∧
vp_in (((12 : Int32) * x2) + x3) (sN S y_9) ∧
(((sI S y_9 ((((12 : Int32) * x2) + x3)).toNatClampNeg) ≤ (sI S y_7 ((((12 : Int32) * x1) + x3)).toNatClampNeg) → wp_X12_isAhead_124 D post S (0 : Int32)) ∧
 (¬ (sI S y_9 ((((12 : Int32) * x2) + x3)).toNatClampNeg) ≤ (sI S y_7 ((((12 : Int32) * x1) + x3)).toNatClampNeg) → wp_X12_isAhead_124 D post S (1 : Int32)))) ∧
 (x3 = (sI S y_4 (x2).toNatClampNeg) → wp_X12_isAhead_73 D post S a0 x1 x2))))
def wp_X12_isAhead_2 (D : wD) (post : Int32 → wS → Prop)  : Nat → wS → Nat → Int32 → Int32 → Int32 → Prop
  | 0, _, _, _, _, _ => False
  | n + 1, S, a0, x1, x2, x3 =>
    ∃ y_1 : Nat, sR S a0 18 = some y_1 ∧ wM D S y_1 ∧ sK S y_1 = 21 ∧
    vp_in x1 (sN S y_1) ∧
    (((sI S y_1 (x1).toNatClampNeg) ≤ x3 → wp_X12_isAhead_53 D post S a0 x1 x2 x3) ∧
     (¬ (sI S y_1 (x1).toNatClampNeg) ≤ x3 → ∃ y_4 : Nat, sR S a0 18 = some y_4 ∧ wM D S y_4 ∧ sK S y_4 = 21 ∧
    vp_in x2 (sN S y_4) ∧
    (((sI S y_4 (x2).toNatClampNeg) ≤ x3 → wp_X12_isAhead_53 D post S a0 x1 x2 x3) ∧
     (¬ (sI S y_4 (x2).toNatClampNeg) ≤ x3 → ∃ y_7 : Nat, sR S a0 17 = some y_7 ∧ wM D S y_7 ∧ sK S y_7 = 21 ∧
    vp_in (((12 : Int32) * x1) + x3) (sN S y_7) ∧
    ∃ y_9 : Nat, sR S a0 17 = some y_9 ∧ wM D S y_9 ∧ sK S y_9 = 21 ∧
    vp_in (((12 : Int32) * x2) + x3) (sN S y_9) ∧
    ((¬ (sI S y_7 ((((12 : Int32) * x1) + x3)).toNatClampNeg) = (sI S y_9 ((((12 : Int32) * x2) + x3)).toNatClampNeg) → wp_X12_isAhead_53 D post S a0 x1 x2 x3) ∧
     ((sI S y_7 ((((12 : Int32) * x1) + x3)).toNatClampNeg) = (sI S y_9 ((((12 : Int32) * x2) + x3)).toNatClampNeg) → ∀ x_12 : Int32, x_12 = x3 + 1 →
    wp_X12_isAhead_2 D post n S a0 x1 x2 x_12))))))
def wp_X12_isAhead_0 (D : wD) (post : Int32 → wS → Prop)  (S : wS) (a0 : Nat) (x1 : Int32) (x2 : Int32) : Prop :=
∃ n_1 : Nat, wp_X12_isAhead_2 D post n_1 S a0 x1 x2 (0 : Int32)
abbrev r_X12_isAhead : Room := { frames := 0, cells := 0, slots := 0, locals := 0 }
def wp_X12_isAhead (D : wD) (post : Int32 → wS → Prop) (S : wS) (a0 : Nat) (x1 : Int32) (x2 : Int32) : Prop := wp_X12_isAhead_0 D post S a0 x1 x2
set_option maxHeartbeats 4000000 in
set_option maxRecDepth 100000 in
theorem t_X12_isAhead_124 {p : Program} {l : Launch} {e : Env} {s : State} {m : MethodId} {args : Array Value} {below : List Frame} {meth : Method} {c : Code} {D : wD} {cy : Nat → ClassId} {X : va_W} {A : Nat → Prop} {S0 : wS} {post : Int32 → wS → Prop} (F : CallFix p m c cX12_isAhead 4 s args wz_X12_isAhead RX12) (hr : meth.sig.returnType = (some .boolean)) (hlocks : meth.locks = false) (hK : wK D cy A s) : ∀ {S : wS} {H : Heap} {locs : List Loc} {ls : Array Slot} {t0 : Int32}, wp_X12_isAhead_124 D post S t0 → wO D cy X A s.heap S H locs → wX D S0 S → lv_has ls 4 [] → W p l e r_X12_isAhead s m args below meth c H locs 0 0 (MQ below (va_Qi (fun r S9 => wX D S0 S9 ∧ post r S9) (wB D cy X A) A) args s 0 0 A) (F0 m 124 ls [.int t0]) := by
  obtain ⟨hx, hb, hml, hown, hts⟩ := id F
  have hwg : ∀ w ∈ WG, w.before args s = true := fun w h => hts w (List.mem_cons_of_mem _ h)
  intro S H locs ls t0 hp hW hE hl
  unfold wp_X12_isAhead_124 at hp
  exact w_zret hx hb hr hlocks hW hp.1 ⟨hE, hp.2⟩ dX12_isAhead_124
set_option maxHeartbeats 4000000 in
set_option maxRecDepth 100000 in
theorem t_X12_isAhead_93 {p : Program} {l : Launch} {e : Env} {s : State} {m : MethodId} {args : Array Value} {below : List Frame} {meth : Method} {c : Code} {D : wD} {cy : Nat → ClassId} {X : va_W} {A : Nat → Prop} {S0 : wS} {post : Int32 → wS → Prop} (F : CallFix p m c cX12_isAhead 4 s args wz_X12_isAhead RX12) (hr : meth.sig.returnType = (some .boolean)) (hlocks : meth.locks = false) (hK : wK D cy A s) : ∀ {S : wS} {H : Heap} {locs : List Loc} {ls : Array Slot} {t0 : Int32}, wp_X12_isAhead_93 D post S t0 → wO D cy X A s.heap S H locs → wX D S0 S → lv_has ls 4 [] → W p l e r_X12_isAhead s m args below meth c H locs 0 0 (MQ below (va_Qi (fun r S9 => wX D S0 S9 ∧ post r S9) (wB D cy X A) A) args s 0 0 A) (F0 m 93 ls [.int t0]) := by
  obtain ⟨hx, hb, hml, hown, hts⟩ := id F
  have hwg : ∀ w ∈ WG, w.before args s = true := fun w h => hts w (List.mem_cons_of_mem _ h)
  intro S H locs ls t0 hp hW hE hl
  unfold wp_X12_isAhead_93 at hp
  exact w_zret hx hb hr hlocks hW hp.1 ⟨hE, hp.2⟩ dX12_isAhead_93
set_option maxHeartbeats 4000000 in
set_option maxRecDepth 100000 in
theorem t_X12_isAhead_73 {p : Program} {l : Launch} {e : Env} {s : State} {m : MethodId} {args : Array Value} {below : List Frame} {meth : Method} {c : Code} {D : wD} {cy : Nat → ClassId} {X : va_W} {A : Nat → Prop} {S0 : wS} {post : Int32 → wS → Prop} (F : CallFix p m c cX12_isAhead 4 s args wz_X12_isAhead RX12) (hr : meth.sig.returnType = (some .boolean)) (hlocks : meth.locks = false) (hK : wK D cy A s) : ∀ {S : wS} {H : Heap} {locs : List Loc} {ls : Array Slot} {a0 : Nat} {x1 : Int32} {x2 : Int32}, wp_X12_isAhead_73 D post S a0 x1 x2 → wO D cy X A s.heap S H locs → wX D S0 S → lv_has ls 4 [(0, .ref a0), (1, .int x1), (2, .int x2)] → wM D S a0 → sK S a0 = 17 → W p l e r_X12_isAhead s m args below meth c H locs 0 0 (MQ below (va_Qi (fun r S9 => wX D S0 S9 ∧ post r S9) (wB D cy X A) A) args s 0 0 A) (F0 m 73 ls []) := by
  obtain ⟨hx, hb, hml, hown, hts⟩ := id F
  have hwg : ∀ w ∈ WG, w.before args s = true := fun w h => hts w (List.mem_cons_of_mem _ h)
  have i_17 : ∀ w ∈ u_ws RX12 TX12 43, w ∈ wz_X12_isAhead := fun w h => List.mem_cons_of_mem _ (wu_17 w h)
  have k_51 := hwg _ wf_RX12_51
  intro S H locs ls a0 x1 x2 hp hW hE hl hL_a0 hK_a0
  unfold wp_X12_isAhead_73 at hp
  refine lv_aload_n hx hb dX12_isAhead_73 rfl (lv_at hl 0 rfl) ?_
  obtain ⟨y_1, ey_1, hL_y_1, hK_y_1, hp⟩ := hp
  refine w_get (k := 17) (f := 18) (T := TX12) (v := .ref y_1) F hK hW hL_a0 hK_a0 (by decide) rfl rfl (by decide) i_17 k_51 (by rw [show wv 17 18 S a0 = va_rf (sR S a0 18) from rfl, ey_1]; rfl) dX12_isAhead_74 ?_
  refine lv_iload_n hx hb dX12_isAhead_77 rfl (lv_at hl 1 rfl) ?_
  obtain ⟨h_2, hp⟩ := hp
  refine w_ild F hK hW hL_y_1 hK_y_1 h_2 dX12_isAhead_78 ?_
  refine lv_aload_n hx hb dX12_isAhead_79 rfl (lv_at hl 0 rfl) ?_
  obtain ⟨y_3, ey_3, hL_y_3, hK_y_3, hp⟩ := hp
  refine w_get (k := 17) (f := 18) (T := TX12) (v := .ref y_3) F hK hW hL_a0 hK_a0 (by decide) rfl rfl (by decide) i_17 k_51 (by rw [show wv 17 18 S a0 = va_rf (sR S a0 18) from rfl, ey_3]; rfl) dX12_isAhead_80 ?_
  refine lv_iload_n hx hb dX12_isAhead_83 rfl (lv_at hl 2 rfl) ?_
  obtain ⟨h_4, hp⟩ := hp
  refine w_ild F hK hW hL_y_3 hK_y_3 h_4 dX12_isAhead_84 ?_
  refine lv_icmp_ge (tgt := 92) hx hb dX12_isAhead_85 (by decide) (fun c_5 => ?_) (fun c_5 => ?_)
  · replace hp := hp.1 c_5
    refine lv_iconst (v := 0) hx hb dX12_isAhead_92 (by decide) ?_
    exact t_X12_isAhead_93 F hr hlocks hK hp hW hE (lv_sub hl [] rfl)
  · replace hp := hp.2 c_5
    refine lv_iconst (v := 1) hx hb dX12_isAhead_88 (by decide) ?_
    refine lv_goto (tgt := 93) hx hb dX12_isAhead_89 (by decide) ?_
    exact t_X12_isAhead_93 F hr hlocks hK hp hW hE (lv_sub hl [] rfl)
set_option maxHeartbeats 4000000 in
set_option maxRecDepth 100000 in
theorem t_X12_isAhead_53 {p : Program} {l : Launch} {e : Env} {s : State} {m : MethodId} {args : Array Value} {below : List Frame} {meth : Method} {c : Code} {D : wD} {cy : Nat → ClassId} {X : va_W} {A : Nat → Prop} {S0 : wS} {post : Int32 → wS → Prop} (F : CallFix p m c cX12_isAhead 4 s args wz_X12_isAhead RX12) (hr : meth.sig.returnType = (some .boolean)) (hlocks : meth.locks = false) (hK : wK D cy A s) : ∀ {S : wS} {H : Heap} {locs : List Loc} {ls : Array Slot} {a0 : Nat} {x1 : Int32} {x2 : Int32} {x3 : Int32}, wp_X12_isAhead_53 D post S a0 x1 x2 x3 → wO D cy X A s.heap S H locs → wX D S0 S → lv_has ls 4 [(0, .ref a0), (1, .int x1), (2, .int x2), (3, .int x3)] → wM D S a0 → sK S a0 = 17 → W p l e r_X12_isAhead s m args below meth c H locs 0 0 (MQ below (va_Qi (fun r S9 => wX D S0 S9 ∧ post r S9) (wB D cy X A) A) args s 0 0 A) (F0 m 53 ls []) := by
  obtain ⟨hx, hb, hml, hown, hts⟩ := id F
  have hwg : ∀ w ∈ WG, w.before args s = true := fun w h => hts w (List.mem_cons_of_mem _ h)
  have i_17 : ∀ w ∈ u_ws RX12 TX12 43, w ∈ wz_X12_isAhead := fun w h => List.mem_cons_of_mem _ (wu_17 w h)
  have k_48 := hwg _ wf_RX12_48
  have k_51 := hwg _ wf_RX12_51
  intro S H locs ls a0 x1 x2 x3 hp hW hE hl hL_a0 hK_a0
  unfold wp_X12_isAhead_53 at hp
  refine lv_iload_n hx hb dX12_isAhead_53 rfl (lv_at hl 3 rfl) ?_
  refine lv_aload_n hx hb dX12_isAhead_54 rfl (lv_at hl 0 rfl) ?_
  obtain ⟨y_1, ey_1, hL_y_1, hK_y_1, hp⟩ := hp
  refine w_get (k := 17) (f := 18) (T := TX12) (v := .ref y_1) F hK hW hL_a0 hK_a0 (by decide) rfl rfl (by decide) i_17 k_51 (by rw [show wv 17 18 S a0 = va_rf (sR S a0 18) from rfl, ey_1]; rfl) dX12_isAhead_55 ?_
  refine lv_iload_n hx hb dX12_isAhead_58 rfl (lv_at hl 1 rfl) ?_
  obtain ⟨h_2, hp⟩ := hp
  refine w_ild F hK hW hL_y_1 hK_y_1 h_2 dX12_isAhead_59 ?_
  refine lv_icmp_eq (tgt := 73) hx hb dX12_isAhead_60 (by decide) (fun c_3 => ?_) (fun c_3 => ?_)
  · replace hp := hp.1 c_3
    exact t_X12_isAhead_73 F hr hlocks hK hp hW hE (lv_sub hl [0, 1, 2] rfl) hL_a0 hK_a0
  · replace hp := hp.2 c_3
    refine lv_iload_n hx hb dX12_isAhead_63 rfl (lv_at hl 3 rfl) ?_
    refine lv_aload_n hx hb dX12_isAhead_64 rfl (lv_at hl 0 rfl) ?_
    obtain ⟨y_4, ey_4, hL_y_4, hK_y_4, hp⟩ := hp
    refine w_get (k := 17) (f := 18) (T := TX12) (v := .ref y_4) F hK hW hL_a0 hK_a0 (by decide) rfl rfl (by decide) i_17 k_51 (by rw [show wv 17 18 S a0 = va_rf (sR S a0 18) from rfl, ey_4]; rfl) dX12_isAhead_65 ?_
    refine lv_iload_n hx hb dX12_isAhead_68 rfl (lv_at hl 2 rfl) ?_
    obtain ⟨h_5, hp⟩ := hp
    refine w_ild F hK hW hL_y_4 hK_y_4 h_5 dX12_isAhead_69 ?_
    refine lv_icmp_ne (tgt := 94) hx hb dX12_isAhead_70 (by decide) (fun c_6 => ?_) (fun c_6 => ?_)
    · replace hp := hp.1 c_6
      refine lv_aload_n hx hb dX12_isAhead_94 rfl (lv_at hl 0 rfl) ?_
      obtain ⟨y_7, ey_7, hL_y_7, hK_y_7, hp⟩ := hp
      refine w_get (k := 17) (f := 17) (T := TX12) (v := .ref y_7) F hK hW hL_a0 hK_a0 (by decide) rfl rfl (by decide) i_17 k_48 (by rw [show wv 17 17 S a0 = va_rf (sR S a0 17) from rfl, ey_7]; rfl) dX12_isAhead_95 ?_
      refine lv_bipush (v := 12) hx hb dX12_isAhead_98 (by decide) ?_
      refine lv_iload_n hx hb dX12_isAhead_100 rfl (lv_at hl 1 rfl) ?_
      refine lv_imul hx hb dX12_isAhead_101 ?_
      refine lv_iload_n hx hb dX12_isAhead_102 rfl (lv_at hl 3 rfl) ?_
      refine lv_iadd hx hb dX12_isAhead_103 ?_
      obtain ⟨h_8, hp⟩ := hp
      refine w_ild F hK hW hL_y_7 hK_y_7 h_8 dX12_isAhead_104 ?_
      refine lv_aload_n hx hb dX12_isAhead_105 rfl (lv_at hl 0 rfl) ?_
      obtain ⟨y_9, ey_9, hL_y_9, hK_y_9, hp⟩ := hp
      refine w_get (k := 17) (f := 17) (T := TX12) (v := .ref y_9) F hK hW hL_a0 hK_a0 (by decide) rfl rfl (by decide) i_17 k_48 (by rw [show wv 17 17 S a0 = va_rf (sR S a0 17) from rfl, ey_9]; rfl) dX12_isAhead_106 ?_
      refine lv_bipush (v := 12) hx hb dX12_isAhead_109 (by decide) ?_
      refine lv_iload_n hx hb dX12_isAhead_111 rfl (lv_at hl 2 rfl) ?_
      refine lv_imul hx hb dX12_isAhead_112 ?_
      refine lv_iload_n hx hb dX12_isAhead_113 rfl (lv_at hl 3 rfl) ?_
      refine lv_iadd hx hb dX12_isAhead_114 ?_
      obtain ⟨h_10, hp⟩ := hp
      refine w_ild F hK hW hL_y_9 hK_y_9 h_10 dX12_isAhead_115 ?_
      refine lv_icmp_ge (tgt := 123) hx hb dX12_isAhead_116 (by decide) (fun c_11 => ?_) (fun c_11 => ?_)
      · replace hp := hp.1 c_11
        refine lv_iconst (v := 0) hx hb dX12_isAhead_123 (by decide) ?_
        exact t_X12_isAhead_124 F hr hlocks hK hp hW hE (lv_sub hl [] rfl)
      · replace hp := hp.2 c_11
        refine lv_iconst (v := 1) hx hb dX12_isAhead_119 (by decide) ?_
        refine lv_goto (tgt := 124) hx hb dX12_isAhead_120 (by decide) ?_
        exact t_X12_isAhead_124 F hr hlocks hK hp hW hE (lv_sub hl [] rfl)
    · replace hp := hp.2 c_6
      exact t_X12_isAhead_73 F hr hlocks hK hp hW hE (lv_sub hl [0, 1, 2] rfl) hL_a0 hK_a0
set_option maxHeartbeats 4000000 in
set_option maxRecDepth 100000 in
theorem t_X12_isAhead_2 {p : Program} {l : Launch} {e : Env} {s : State} {m : MethodId} {args : Array Value} {below : List Frame} {meth : Method} {c : Code} {D : wD} {cy : Nat → ClassId} {X : va_W} {A : Nat → Prop} {S0 : wS} {post : Int32 → wS → Prop} (F : CallFix p m c cX12_isAhead 4 s args wz_X12_isAhead RX12) (hr : meth.sig.returnType = (some .boolean)) (hlocks : meth.locks = false) (hK : wK D cy A s) : ∀ (n : Nat) {S : wS} {H : Heap} {locs : List Loc} {ls : Array Slot} {a0 : Nat} {x1 : Int32} {x2 : Int32} {x3 : Int32}, wp_X12_isAhead_2 D post n S a0 x1 x2 x3 → wO D cy X A s.heap S H locs → wX D S0 S → lv_has ls 4 [(0, .ref a0), (1, .int x1), (2, .int x2), (3, .int x3)] → wM D S a0 → sK S a0 = 17 → W p l e r_X12_isAhead s m args below meth c H locs 0 0 (MQ below (va_Qi (fun r S9 => wX D S0 S9 ∧ post r S9) (wB D cy X A) A) args s 0 0 A) (F0 m 2 ls []) := by
  obtain ⟨hx, hb, hml, hown, hts⟩ := id F
  have hwg : ∀ w ∈ WG, w.before args s = true := fun w h => hts w (List.mem_cons_of_mem _ h)
  have i_17 : ∀ w ∈ u_ws RX12 TX12 43, w ∈ wz_X12_isAhead := fun w h => List.mem_cons_of_mem _ (wu_17 w h)
  have k_48 := hwg _ wf_RX12_48
  have k_51 := hwg _ wf_RX12_51
  intro n
  induction n with
  | zero =>
    intro S H locs ls a0 x1 x2 x3 hp
    exact hp.elim
  | succ n ih =>
    intro S H locs ls a0 x1 x2 x3 hp hW hE hl hL_a0 hK_a0
    unfold wp_X12_isAhead_2 at hp
    refine lv_iload_n hx hb dX12_isAhead_2 rfl (lv_at hl 3 rfl) ?_
    refine lv_aload_n hx hb dX12_isAhead_3 rfl (lv_at hl 0 rfl) ?_
    obtain ⟨y_1, ey_1, hL_y_1, hK_y_1, hp⟩ := hp
    refine w_get (k := 17) (f := 18) (T := TX12) (v := .ref y_1) F hK hW hL_a0 hK_a0 (by decide) rfl rfl (by decide) i_17 k_51 (by rw [show wv 17 18 S a0 = va_rf (sR S a0 18) from rfl, ey_1]; rfl) dX12_isAhead_4 ?_
    refine lv_iload_n hx hb dX12_isAhead_7 rfl (lv_at hl 1 rfl) ?_
    obtain ⟨h_2, hp⟩ := hp
    refine w_ild F hK hW hL_y_1 hK_y_1 h_2 dX12_isAhead_8 ?_
    refine lv_icmp_ge (tgt := 53) hx hb dX12_isAhead_9 (by decide) (fun c_3 => ?_) (fun c_3 => ?_)
    · replace hp := hp.1 c_3
      exact t_X12_isAhead_53 F hr hlocks hK hp hW hE (lv_sub hl [0, 1, 2, 3] rfl) hL_a0 hK_a0
    · replace hp := hp.2 c_3
      refine lv_iload_n hx hb dX12_isAhead_12 rfl (lv_at hl 3 rfl) ?_
      refine lv_aload_n hx hb dX12_isAhead_13 rfl (lv_at hl 0 rfl) ?_
      obtain ⟨y_4, ey_4, hL_y_4, hK_y_4, hp⟩ := hp
      refine w_get (k := 17) (f := 18) (T := TX12) (v := .ref y_4) F hK hW hL_a0 hK_a0 (by decide) rfl rfl (by decide) i_17 k_51 (by rw [show wv 17 18 S a0 = va_rf (sR S a0 18) from rfl, ey_4]; rfl) dX12_isAhead_14 ?_
      refine lv_iload_n hx hb dX12_isAhead_17 rfl (lv_at hl 2 rfl) ?_
      obtain ⟨h_5, hp⟩ := hp
      refine w_ild F hK hW hL_y_4 hK_y_4 h_5 dX12_isAhead_18 ?_
      refine lv_icmp_ge (tgt := 53) hx hb dX12_isAhead_19 (by decide) (fun c_6 => ?_) (fun c_6 => ?_)
      · replace hp := hp.1 c_6
        exact t_X12_isAhead_53 F hr hlocks hK hp hW hE (lv_sub hl [0, 1, 2, 3] rfl) hL_a0 hK_a0
      · replace hp := hp.2 c_6
        refine lv_aload_n hx hb dX12_isAhead_22 rfl (lv_at hl 0 rfl) ?_
        obtain ⟨y_7, ey_7, hL_y_7, hK_y_7, hp⟩ := hp
        refine w_get (k := 17) (f := 17) (T := TX12) (v := .ref y_7) F hK hW hL_a0 hK_a0 (by decide) rfl rfl (by decide) i_17 k_48 (by rw [show wv 17 17 S a0 = va_rf (sR S a0 17) from rfl, ey_7]; rfl) dX12_isAhead_23 ?_
        refine lv_bipush (v := 12) hx hb dX12_isAhead_26 (by decide) ?_
        refine lv_iload_n hx hb dX12_isAhead_28 rfl (lv_at hl 1 rfl) ?_
        refine lv_imul hx hb dX12_isAhead_29 ?_
        refine lv_iload_n hx hb dX12_isAhead_30 rfl (lv_at hl 3 rfl) ?_
        refine lv_iadd hx hb dX12_isAhead_31 ?_
        obtain ⟨h_8, hp⟩ := hp
        refine w_ild F hK hW hL_y_7 hK_y_7 h_8 dX12_isAhead_32 ?_
        refine lv_aload_n hx hb dX12_isAhead_33 rfl (lv_at hl 0 rfl) ?_
        obtain ⟨y_9, ey_9, hL_y_9, hK_y_9, hp⟩ := hp
        refine w_get (k := 17) (f := 17) (T := TX12) (v := .ref y_9) F hK hW hL_a0 hK_a0 (by decide) rfl rfl (by decide) i_17 k_48 (by rw [show wv 17 17 S a0 = va_rf (sR S a0 17) from rfl, ey_9]; rfl) dX12_isAhead_34 ?_
        refine lv_bipush (v := 12) hx hb dX12_isAhead_37 (by decide) ?_
        refine lv_iload_n hx hb dX12_isAhead_39 rfl (lv_at hl 2 rfl) ?_
        refine lv_imul hx hb dX12_isAhead_40 ?_
        refine lv_iload_n hx hb dX12_isAhead_41 rfl (lv_at hl 3 rfl) ?_
        refine lv_iadd hx hb dX12_isAhead_42 ?_
        obtain ⟨h_10, hp⟩ := hp
        refine w_ild F hK hW hL_y_9 hK_y_9 h_10 dX12_isAhead_43 ?_
        refine lv_icmp_ne (tgt := 53) hx hb dX12_isAhead_44 (by decide) (fun c_11 => ?_) (fun c_11 => ?_)
        · replace hp := hp.1 c_11
          exact t_X12_isAhead_53 F hr hlocks hK hp hW hE (lv_sub hl [0, 1, 2, 3] rfl) hL_a0 hK_a0
        · replace hp := hp.2 c_11
          obtain ⟨x_12, ex_12⟩ : ∃ z : Int32, z = x3 + 1 := ⟨_, rfl⟩
          replace hp := hp x_12 ex_12
          refine lv_iinc (v := x_12) (lv' := [(3, .int x_12), (0, .ref a0), (1, .int x1), (2, .int x2)]) hx hb dX12_isAhead_47 hl (k := 3) rfl (by rw [ex_12]; rfl) (by decide) rfl (fun ls hl => ?_)
          refine lv_goto (tgt := 2) hx hb dX12_isAhead_50 (by decide) ?_
          exact ih hp hW hE (lv_sub hl [1, 2, 3, 0] rfl) hL_a0 hK_a0
set_option maxHeartbeats 4000000 in
set_option maxRecDepth 100000 in
theorem t_X12_isAhead_0 {p : Program} {l : Launch} {e : Env} {s : State} {m : MethodId} {args : Array Value} {below : List Frame} {meth : Method} {c : Code} {D : wD} {cy : Nat → ClassId} {X : va_W} {A : Nat → Prop} {S0 : wS} {post : Int32 → wS → Prop} (F : CallFix p m c cX12_isAhead 4 s args wz_X12_isAhead RX12) (hr : meth.sig.returnType = (some .boolean)) (hlocks : meth.locks = false) (hK : wK D cy A s) : ∀ {S : wS} {H : Heap} {locs : List Loc} {ls : Array Slot} {a0 : Nat} {x1 : Int32} {x2 : Int32}, wp_X12_isAhead_0 D post S a0 x1 x2 → wO D cy X A s.heap S H locs → wX D S0 S → lv_has ls 4 [(0, .ref a0), (1, .int x1), (2, .int x2)] → wM D S a0 → sK S a0 = 17 → W p l e r_X12_isAhead s m args below meth c H locs 0 0 (MQ below (va_Qi (fun r S9 => wX D S0 S9 ∧ post r S9) (wB D cy X A) A) args s 0 0 A) (F0 m 0 ls []) := by
  obtain ⟨hx, hb, hml, hown, hts⟩ := id F
  have hwg : ∀ w ∈ WG, w.before args s = true := fun w h => hts w (List.mem_cons_of_mem _ h)
  intro S H locs ls a0 x1 x2 hp hW hE hl hL_a0 hK_a0
  unfold wp_X12_isAhead_0 at hp
  refine lv_iconst (v := 0) hx hb dX12_isAhead_0 (by decide) ?_
  refine lv_istore_n (lv' := [(3, .int (0 : Int32)), (0, .ref a0), (1, .int x1), (2, .int x2)]) hx hb dX12_isAhead_1 rfl hl (by decide) rfl (fun ls hl => ?_)
  obtain ⟨n_1, hp⟩ := hp
  exact t_X12_isAhead_2 F hr hlocks hK n_1 hp hW hE (lv_sub hl [1, 2, 3, 0] rfl) hL_a0 hK_a0
set_option maxHeartbeats 4000000 in
set_option maxRecDepth 100000 in
theorem c_X12_isAhead (l : Launch) {D : wD} {cy : Nat → ClassId} {X : va_W} {S0 : wS} {post : Int32 → wS → Prop} {a0 : Nat} {x1 : Int32} {x2 : Int32} (hL_a0 : wM D S0 a0) (hK_a0 : sK S0 a0 = 17) (hp : wp_X12_isAhead D post S0 a0 x1 x2) : mI D cy X l yX12_isAhead wz_X12_isAhead r_X12_isAhead [.ref a0, .int x1, .int x2] S0 (fun r S9 => wX D S0 S9 ∧ post r S9) := by
  intro sz
  refine Met.ofW (cc := cX12_isAhead) (maxL := 4) (ret := (some .boolean)) (by decide) rfl ?_
  intro p e s m args below meth c s₁ B hml hv
  obtain ⟨rfl, hsz, hP, hK, hD0, hRO⟩ := hv
  have hts := atoms_spec (ws := wz_X12_isAhead) B.pre
  have hown : s.vm.findClass RX12 = some m.cls := findClass_of_methodNamed B.named
  subst hsz
  have hD := hD0.self (sz := s.heap.size)
  have F : CallFix p m c cX12_isAhead 4 s _ wz_X12_isAhead RX12 := ⟨B.exec, B.bytes, hml, hown, hts⟩
  have hr := B.returns
  have hlocks := B.notSynchronized
  generalize hAe : va_A (wL cy X S0) s.heap.size = A at hD hK ⊢
  have hA : ∀ q, s.heap.size ≤ q → A q := fun q h => by rw [← hAe]; exact Or.inr h
  have hW : wO D cy X A s.heap S0 s.heap [] := ⟨hP, hD, va_S.rf, hA, hRO⟩
  have hl := lv_entry ([.ref a0, .int x1, .int x2]) (n := 4) (Nat.le_of_ble_eq_true rfl)
  rw [lg_entry_eq]
  generalize (lg_sl ([.ref a0, .int x1, .int x2]) ++ List.replicate (4 - (lg_sl ([.ref a0, .int x1, .int x2])).length) Slot.unset).toArray = ls at hl ⊢
  have hl : lv_has ls 4 [(0, .ref a0), (1, .int x1), (2, .int x2)] := hl
  unfold wp_X12_isAhead at hp
  exact t_X12_isAhead_0 F hr hlocks hK hp hW wX.rf (lv_sub hl [0, 1, 2] rfl) hL_a0 hK_a0
def wp_X12_placeInOrder_43 (D : wD) (post : Int32 → wS → Prop) (k_4 : wS → Nat → Int32 → Int32 → Int32 → Prop) (S : wS) (a0 : Nat) (x1 : Int32) (x3 : Int32) (t0 : Int32) (t1 : Int32) : Prop :=
∀ x_1 : Int32, x_1 = (t0 + t1) →
∀ x_2 : Int32, x_2 = x3 + 1 →
k_4 S a0 x1 x_1 x_2
def wp_X12_placeInOrder_42 (D : wD) (post : Int32 → wS → Prop) (k_4 : wS → Nat → Int32 → Int32 → Int32 → Prop) (S : wS) (a0 : Nat) (x1 : Int32) (x3 : Int32) (t0 : Int32) : Prop :=
wp_X12_placeInOrder_43 D post k_4 S a0 x1 x3 t0 (0 : Int32)
def wp_X12_placeInOrder_4 (D : wD) (post : Int32 → wS → Prop)  : Nat → wS → Nat → Int32 → Int32 → Int32 → Prop
  | 0, _, _, _, _, _ => False
  | n + 1, S, a0, x1, x2, x3 =>
    ∃ y_1 : Nat, sR S a0 7 = some y_1 ∧ wM D S y_1 ∧ sK S y_1 = 21 ∧
    vp_in (0 : Int32) (sN S y_1) ∧
    (((sI S y_1 ((0 : Int32)).toNatClampNeg) ≤ x3 → post x2 S) ∧
     (¬ (sI S y_1 ((0 : Int32)).toNatClampNeg) ≤ x3 → ((x3 = x1 → wp_X12_placeInOrder_42 D post (wp_X12_placeInOrder_4 D post n) S a0 x1 x3 x2) ∧
     (¬ x3 = x1 → ∃ y_5 : Nat, sR S a0 19 = some y_5 ∧ wM D S y_5 ∧ sK S y_5 = 21 ∧
    vp_in x3 (sN S y_5) ∧
    (((sI S y_5 (x3).toNatClampNeg) ≤ 0 → wp_X12_placeInOrder_42 D post (wp_X12_placeInOrder_4 D post n) S a0 x1 x3 x2) ∧
     (¬ (sI S y_5 (x3).toNatClampNeg) ≤ 0 → wp_X12_isAhead D (fun r_8 S_9 => 
    ((r_8 = 0 → wp_X12_placeInOrder_42 D post (wp_X12_placeInOrder_4 D post n) S_9 a0 x1 x3 x2) ∧
     (¬ r_8 = 0 → wp_X12_placeInOrder_43 D post (wp_X12_placeInOrder_4 D post n) S_9 a0 x1 x3 x2 (1 : Int32)))) S a0 x3 x1))))))
def wp_X12_placeInOrder_0 (D : wD) (post : Int32 → wS → Prop)  (S : wS) (a0 : Nat) (x1 : Int32) : Prop :=
∃ n_1 : Nat, wp_X12_placeInOrder_4 D post n_1 S a0 x1 (0 : Int32) (0 : Int32)
abbrev r_X12_placeInOrder : Room := { frames := 1, cells := 0, slots := 0, locals := 23 }
def wp_X12_placeInOrder (D : wD) (post : Int32 → wS → Prop) (S : wS) (a0 : Nat) (x1 : Int32) : Prop := wp_X12_placeInOrder_0 D post S a0 x1
set_option maxHeartbeats 4000000 in
set_option maxRecDepth 100000 in
theorem t_X12_placeInOrder_43 {p : Program} {l : Launch} {e : Env} {s : State} {m : MethodId} {args : Array Value} {below : List Frame} {meth : Method} {c : Code} {D : wD} {cy : Nat → ClassId} {X : va_W} {A : Nat → Prop} {S0 : wS} {post : Int32 → wS → Prop} (F : CallFix p m c cX12_placeInOrder 4 s args wz_X12_placeInOrder RX12) (hr : meth.sig.returnType = (some .int)) (hlocks : meth.locks = false) (hK : wK D cy A s) {k_4 : wS → Nat → Int32 → Int32 → Int32 → Prop} (q_4 : ∀ {S : wS} {H : Heap} {locs : List Loc} {ls : Array Slot} {a0 : Nat} {x1 : Int32} {x2 : Int32} {x3 : Int32}, k_4 S a0 x1 x2 x3 → wO D cy X A s.heap S H locs → wX D S0 S → lv_has ls 4 [(0, .ref a0), (1, .int x1), (2, .int x2), (3, .int x3)] → wM D S a0 → sK S a0 = 17 → W p l e r_X12_placeInOrder s m args below meth c H locs 0 0 (MQ below (va_Qi (fun r S9 => wX D S0 S9 ∧ post r S9) (wB D cy X A) A) args s 0 0 A) (F0 m 4 ls [])) : ∀ {S : wS} {H : Heap} {locs : List Loc} {ls : Array Slot} {a0 : Nat} {x1 : Int32} {x3 : Int32} {t0 : Int32} {t1 : Int32}, wp_X12_placeInOrder_43 D post k_4 S a0 x1 x3 t0 t1 → wO D cy X A s.heap S H locs → wX D S0 S → lv_has ls 4 [(0, .ref a0), (1, .int x1), (3, .int x3)] → wM D S a0 → sK S a0 = 17 → W p l e r_X12_placeInOrder s m args below meth c H locs 0 0 (MQ below (va_Qi (fun r S9 => wX D S0 S9 ∧ post r S9) (wB D cy X A) A) args s 0 0 A) (F0 m 43 ls [.int t1, .int t0]) := by
  obtain ⟨hx, hb, hml, hown, hts⟩ := id F
  have hwg : ∀ w ∈ WG, w.before args s = true := fun w h => hts w (List.mem_cons_of_mem _ h)
  intro S H locs ls a0 x1 x3 t0 t1 hp hW hE hl hL_a0 hK_a0
  unfold wp_X12_placeInOrder_43 at hp
  refine lv_iadd hx hb dX12_placeInOrder_43 ?_
  refine lv_topi (fun x_1 ex_1 => ?_)
  replace hp := hp x_1 ex_1
  refine lv_istore_n (lv' := [(2, .int x_1), (0, .ref a0), (1, .int x1), (3, .int x3)]) hx hb dX12_placeInOrder_44 rfl hl (by decide) rfl (fun ls hl => ?_)
  obtain ⟨x_2, ex_2⟩ : ∃ z : Int32, z = x3 + 1 := ⟨_, rfl⟩
  replace hp := hp x_2 ex_2
  refine lv_iinc (v := x_2) (lv' := [(3, .int x_2), (2, .int x_1), (0, .ref a0), (1, .int x1)]) hx hb dX12_placeInOrder_45 hl (k := 3) rfl (by rw [ex_2]; rfl) (by decide) rfl (fun ls hl => ?_)
  refine lv_goto (tgt := 4) hx hb dX12_placeInOrder_48 (by decide) ?_
  exact q_4 hp hW hE (lv_sub hl [2, 3, 1, 0] rfl) hL_a0 hK_a0
set_option maxHeartbeats 4000000 in
set_option maxRecDepth 100000 in
theorem t_X12_placeInOrder_42 {p : Program} {l : Launch} {e : Env} {s : State} {m : MethodId} {args : Array Value} {below : List Frame} {meth : Method} {c : Code} {D : wD} {cy : Nat → ClassId} {X : va_W} {A : Nat → Prop} {S0 : wS} {post : Int32 → wS → Prop} (F : CallFix p m c cX12_placeInOrder 4 s args wz_X12_placeInOrder RX12) (hr : meth.sig.returnType = (some .int)) (hlocks : meth.locks = false) (hK : wK D cy A s) {k_4 : wS → Nat → Int32 → Int32 → Int32 → Prop} (q_4 : ∀ {S : wS} {H : Heap} {locs : List Loc} {ls : Array Slot} {a0 : Nat} {x1 : Int32} {x2 : Int32} {x3 : Int32}, k_4 S a0 x1 x2 x3 → wO D cy X A s.heap S H locs → wX D S0 S → lv_has ls 4 [(0, .ref a0), (1, .int x1), (2, .int x2), (3, .int x3)] → wM D S a0 → sK S a0 = 17 → W p l e r_X12_placeInOrder s m args below meth c H locs 0 0 (MQ below (va_Qi (fun r S9 => wX D S0 S9 ∧ post r S9) (wB D cy X A) A) args s 0 0 A) (F0 m 4 ls [])) : ∀ {S : wS} {H : Heap} {locs : List Loc} {ls : Array Slot} {a0 : Nat} {x1 : Int32} {x3 : Int32} {t0 : Int32}, wp_X12_placeInOrder_42 D post k_4 S a0 x1 x3 t0 → wO D cy X A s.heap S H locs → wX D S0 S → lv_has ls 4 [(0, .ref a0), (1, .int x1), (3, .int x3)] → wM D S a0 → sK S a0 = 17 → W p l e r_X12_placeInOrder s m args below meth c H locs 0 0 (MQ below (va_Qi (fun r S9 => wX D S0 S9 ∧ post r S9) (wB D cy X A) A) args s 0 0 A) (F0 m 42 ls [.int t0]) := by
  obtain ⟨hx, hb, hml, hown, hts⟩ := id F
  have hwg : ∀ w ∈ WG, w.before args s = true := fun w h => hts w (List.mem_cons_of_mem _ h)
  intro S H locs ls a0 x1 x3 t0 hp hW hE hl hL_a0 hK_a0
  unfold wp_X12_placeInOrder_42 at hp
  refine lv_iconst (v := 0) hx hb dX12_placeInOrder_42 (by decide) ?_
  exact t_X12_placeInOrder_43 F hr hlocks hK q_4 hp hW hE (lv_sub hl [0, 1, 2] rfl) hL_a0 hK_a0
set_option maxHeartbeats 4000000 in
set_option maxRecDepth 100000 in
theorem t_X12_placeInOrder_4 {p : Program} {l : Launch} {e : Env} {s : State} {m : MethodId} {args : Array Value} {below : List Frame} {meth : Method} {c : Code} {D : wD} {cy : Nat → ClassId} {X : va_W} {A : Nat → Prop} {S0 : wS} {post : Int32 → wS → Prop} (F : CallFix p m c cX12_placeInOrder 4 s args wz_X12_placeInOrder RX12) (hr : meth.sig.returnType = (some .int)) (hlocks : meth.locks = false) (hK : wK D cy A s) : ∀ (n : Nat) {S : wS} {H : Heap} {locs : List Loc} {ls : Array Slot} {a0 : Nat} {x1 : Int32} {x2 : Int32} {x3 : Int32}, wp_X12_placeInOrder_4 D post n S a0 x1 x2 x3 → wO D cy X A s.heap S H locs → wX D S0 S → lv_has ls 4 [(0, .ref a0), (1, .int x1), (2, .int x2), (3, .int x3)] → wM D S a0 → sK S a0 = 17 → W p l e r_X12_placeInOrder s m args below meth c H locs 0 0 (MQ below (va_Qi (fun r S9 => wX D S0 S9 ∧ post r S9) (wB D cy X A) A) args s 0 0 A) (F0 m 4 ls []) := by
  obtain ⟨hx, hb, hml, hown, hts⟩ := id F
  have hwg : ∀ w ∈ WG, w.before args s = true := fun w h => hts w (List.mem_cons_of_mem _ h)
  have i_17 : ∀ w ∈ u_ws RX12 TX12 43, w ∈ wz_X12_placeInOrder := fun w h => List.mem_cons_of_mem _ (wu_17 w h)
  have k_29 := hwg _ wf_RX12_29
  have k_54 := hwg _ wf_RX12_54
  intro n
  induction n with
  | zero =>
    intro S H locs ls a0 x1 x2 x3 hp
    exact hp.elim
  | succ n ih =>
    intro S H locs ls a0 x1 x2 x3 hp hW hE hl hL_a0 hK_a0
    unfold wp_X12_placeInOrder_4 at hp
    refine lv_iload_n hx hb dX12_placeInOrder_4 rfl (lv_at hl 3 rfl) ?_
    refine lv_aload_n hx hb dX12_placeInOrder_5 rfl (lv_at hl 0 rfl) ?_
    obtain ⟨y_1, ey_1, hL_y_1, hK_y_1, hp⟩ := hp
    refine w_get (k := 17) (f := 7) (T := TX12) (v := .ref y_1) F hK hW hL_a0 hK_a0 (by decide) rfl rfl (by decide) i_17 k_29 (by rw [show wv 17 7 S a0 = va_rf (sR S a0 7) from rfl, ey_1]; rfl) dX12_placeInOrder_6 ?_
    refine lv_iconst (v := 0) hx hb dX12_placeInOrder_9 (by decide) ?_
    obtain ⟨h_2, hp⟩ := hp
    refine w_ild F hK hW hL_y_1 hK_y_1 h_2 dX12_placeInOrder_10 ?_
    refine lv_icmp_ge (tgt := 51) hx hb dX12_placeInOrder_11 (by decide) (fun c_3 => ?_) (fun c_3 => ?_)
    · replace hp := hp.1 c_3
      refine lv_iload_n hx hb dX12_placeInOrder_51 rfl (lv_at hl 2 rfl) ?_
      exact w_iret hx hb hr hlocks hW ⟨hE, hp⟩ dX12_placeInOrder_52
    · replace hp := hp.2 c_3
      refine lv_iload_n hx hb dX12_placeInOrder_14 rfl (lv_at hl 2 rfl) ?_
      refine lv_iload_n hx hb dX12_placeInOrder_15 rfl (lv_at hl 3 rfl) ?_
      refine lv_iload_n hx hb dX12_placeInOrder_16 rfl (lv_at hl 1 rfl) ?_
      refine lv_icmp_eq (tgt := 42) hx hb dX12_placeInOrder_17 (by decide) (fun c_4 => ?_) (fun c_4 => ?_)
      · replace hp := hp.1 c_4
        exact t_X12_placeInOrder_42 F hr hlocks hK ih hp hW hE (lv_sub hl [0, 1, 3] rfl) hL_a0 hK_a0
      · replace hp := hp.2 c_4
        refine lv_aload_n hx hb dX12_placeInOrder_20 rfl (lv_at hl 0 rfl) ?_
        obtain ⟨y_5, ey_5, hL_y_5, hK_y_5, hp⟩ := hp
        refine w_get (k := 17) (f := 19) (T := TX12) (v := .ref y_5) F hK hW hL_a0 hK_a0 (by decide) rfl rfl (by decide) i_17 k_54 (by rw [show wv 17 19 S a0 = va_rf (sR S a0 19) from rfl, ey_5]; rfl) dX12_placeInOrder_21 ?_
        refine lv_iload_n hx hb dX12_placeInOrder_24 rfl (lv_at hl 3 rfl) ?_
        obtain ⟨h_6, hp⟩ := hp
        refine w_ild F hK hW hL_y_5 hK_y_5 h_6 dX12_placeInOrder_25 ?_
        refine lv_if_le (tgt := 42) hx hb dX12_placeInOrder_26 (by decide) (fun c_7 => ?_) (fun c_7 => ?_)
        · replace hp := hp.1 c_7
          exact t_X12_placeInOrder_42 F hr hlocks hK ih hp hW hE (lv_sub hl [0, 1, 3] rfl) hL_a0 hK_a0
        · replace hp := hp.2 c_7
          refine lv_aload_n hx hb dX12_placeInOrder_29 rfl (lv_at hl 0 rfl) ?_
          refine lv_iload_n hx hb dX12_placeInOrder_30 rfl (lv_at hl 3 rfl) ?_
          refine lv_iload_n hx hb dX12_placeInOrder_31 rfl (lv_at hl 1 rfl) ?_
          refine w_callI (va_runV (As := [.int x3, .int x1]) (rest := [.int x2]) F (c_X12_isAhead l hL_a0 hK_a0 hp H.size) (cwV (C := RX12) 2 hts (wg_V wm_RX12_437 wy_X12_isAhead) rfl rfl rfl (by decide +kernel) ⟨Nat.le_of_ble_eq_true rfl, Nat.le_of_ble_eq_true rfl⟩) (w_preV hK hW hL_a0 hK_a0 (by decide) rfl) rfl rfl hl.1 rfl (lv_room (Nat.le_of_ble_eq_true rfl)) dX12_placeInOrder_32 ⟨Nat.le_of_ble_eq_true rfl, Nat.le_of_ble_eq_true rfl⟩) hW (fun r_8 S_9 H locs hp hW => ?_)
          obtain ⟨hX_S_9, hp⟩ := hp
          refine W.widen (k := 0) (n := 0) (by decide) (by decide) ?_
          have hE := hE.trans hX_S_9
          have hK_a0 : sK S_9 a0 = 17 := (hX_S_9.2 a0 hL_a0).1.trans hK_a0
          have hL_a0 : wM D S_9 a0 := hX_S_9.M hL_a0
          refine lv_if_eq (tgt := 42) hx hb dX12_placeInOrder_35 (by decide) (fun c_10 => ?_) (fun c_10 => ?_)
          · replace hp := hp.1 c_10
            exact t_X12_placeInOrder_42 F hr hlocks hK ih hp hW hE (lv_sub hl [0, 1, 3] rfl) hL_a0 hK_a0
          · replace hp := hp.2 c_10
            refine lv_iconst (v := 1) hx hb dX12_placeInOrder_38 (by decide) ?_
            refine lv_goto (tgt := 43) hx hb dX12_placeInOrder_39 (by decide) ?_
            exact t_X12_placeInOrder_43 F hr hlocks hK ih hp hW hE (lv_sub hl [0, 1, 3] rfl) hL_a0 hK_a0
set_option maxHeartbeats 4000000 in
set_option maxRecDepth 100000 in
theorem t_X12_placeInOrder_0 {p : Program} {l : Launch} {e : Env} {s : State} {m : MethodId} {args : Array Value} {below : List Frame} {meth : Method} {c : Code} {D : wD} {cy : Nat → ClassId} {X : va_W} {A : Nat → Prop} {S0 : wS} {post : Int32 → wS → Prop} (F : CallFix p m c cX12_placeInOrder 4 s args wz_X12_placeInOrder RX12) (hr : meth.sig.returnType = (some .int)) (hlocks : meth.locks = false) (hK : wK D cy A s) : ∀ {S : wS} {H : Heap} {locs : List Loc} {ls : Array Slot} {a0 : Nat} {x1 : Int32}, wp_X12_placeInOrder_0 D post S a0 x1 → wO D cy X A s.heap S H locs → wX D S0 S → lv_has ls 4 [(0, .ref a0), (1, .int x1)] → wM D S a0 → sK S a0 = 17 → W p l e r_X12_placeInOrder s m args below meth c H locs 0 0 (MQ below (va_Qi (fun r S9 => wX D S0 S9 ∧ post r S9) (wB D cy X A) A) args s 0 0 A) (F0 m 0 ls []) := by
  obtain ⟨hx, hb, hml, hown, hts⟩ := id F
  have hwg : ∀ w ∈ WG, w.before args s = true := fun w h => hts w (List.mem_cons_of_mem _ h)
  intro S H locs ls a0 x1 hp hW hE hl hL_a0 hK_a0
  unfold wp_X12_placeInOrder_0 at hp
  refine lv_iconst (v := 0) hx hb dX12_placeInOrder_0 (by decide) ?_
  refine lv_istore_n (lv' := [(2, .int (0 : Int32)), (0, .ref a0), (1, .int x1)]) hx hb dX12_placeInOrder_1 rfl hl (by decide) rfl (fun ls hl => ?_)
  refine lv_iconst (v := 0) hx hb dX12_placeInOrder_2 (by decide) ?_
  refine lv_istore_n (lv' := [(3, .int (0 : Int32)), (2, .int (0 : Int32)), (0, .ref a0), (1, .int x1)]) hx hb dX12_placeInOrder_3 rfl hl (by decide) rfl (fun ls hl => ?_)
  obtain ⟨n_1, hp⟩ := hp
  exact t_X12_placeInOrder_4 F hr hlocks hK n_1 hp hW hE (lv_sub hl [2, 3, 1, 0] rfl) hL_a0 hK_a0
set_option maxHeartbeats 4000000 in
set_option maxRecDepth 100000 in
theorem c_X12_placeInOrder (l : Launch) {D : wD} {cy : Nat → ClassId} {X : va_W} {S0 : wS} {post : Int32 → wS → Prop} {a0 : Nat} {x1 : Int32} (hL_a0 : wM D S0 a0) (hK_a0 : sK S0 a0 = 17) (hp : wp_X12_placeInOrder D post S0 a0 x1) : mI D cy X l yX12_placeInOrder wz_X12_placeInOrder r_X12_placeInOrder [.ref a0, .int x1] S0 (fun r S9 => wX D S0 S9 ∧ post r S9) := by
  intro sz
  refine Met.ofW (cc := cX12_placeInOrder) (maxL := 4) (ret := (some .int)) (by decide) rfl ?_
  intro p e s m args below meth c s₁ B hml hv
  obtain ⟨rfl, hsz, hP, hK, hD0, hRO⟩ := hv
  have hts := atoms_spec (ws := wz_X12_placeInOrder) B.pre
  have hown : s.vm.findClass RX12 = some m.cls := findClass_of_methodNamed B.named
  subst hsz
  have hD := hD0.self (sz := s.heap.size)
  have F : CallFix p m c cX12_placeInOrder 4 s _ wz_X12_placeInOrder RX12 := ⟨B.exec, B.bytes, hml, hown, hts⟩
  have hr := B.returns
  have hlocks := B.notSynchronized
  generalize hAe : va_A (wL cy X S0) s.heap.size = A at hD hK ⊢
  have hA : ∀ q, s.heap.size ≤ q → A q := fun q h => by rw [← hAe]; exact Or.inr h
  have hW : wO D cy X A s.heap S0 s.heap [] := ⟨hP, hD, va_S.rf, hA, hRO⟩
  have hl := lv_entry ([.ref a0, .int x1]) (n := 4) (Nat.le_of_ble_eq_true rfl)
  rw [lg_entry_eq]
  generalize (lg_sl ([.ref a0, .int x1]) ++ List.replicate (4 - (lg_sl ([.ref a0, .int x1])).length) Slot.unset).toArray = ls at hl ⊢
  have hl : lv_has ls 4 [(0, .ref a0), (1, .int x1)] := hl
  unfold wp_X12_placeInOrder at hp
  exact t_X12_placeInOrder_0 F hr hlocks hK hp hW wX.rf (lv_sub hl [0, 1] rfl) hL_a0 hK_a0
def wp_X12_continuation_32 (D : wD) (post : Int32 → wS → Prop) (k_2 : wS → Nat → Int32 → Int32 → Prop) (S : wS) (a0 : Nat) (x1 : Int32) (x2 : Int32) : Prop :=
∀ x_1 : Int32, x_1 = x2 + 1 →
k_2 S a0 x1 x_1
def wp_X12_continuation_2 (D : wD) (post : Int32 → wS → Prop)  : Nat → wS → Nat → Int32 → Int32 → Prop
  | 0, _, _, _, _ => False
  | n + 1, S, a0, x1, x2 =>
    ∃ y_1 : Nat, sR S a0 7 = some y_1 ∧ wM D S y_1 ∧ sK S y_1 = 21 ∧
    vp_in (0 : Int32) (sN S y_1) ∧
    (((sI S y_1 ((0 : Int32)).toNatClampNeg) ≤ x2 → post (-1 : Int32) S) ∧
     (¬ (sI S y_1 ((0 : Int32)).toNatClampNeg) ≤ x2 → ∃ y_4 : Nat, sR S a0 19 = some y_4 ∧ wM D S y_4 ∧ sK S y_4 = 21 ∧
    vp_in x2 (sN S y_4) ∧
    (((sI S y_4 (x2).toNatClampNeg) ≤ 0 → wp_X12_continuation_32 D post (wp_X12_continuation_2 D post n) S a0 x1 x2) ∧
     (¬ (sI S y_4 (x2).toNatClampNeg) ≤ 0 → wp_X12_placeInOrder D (fun r_7 S_8 => 
    ((¬ r_7 = x1 → wp_X12_continuation_32 D post (wp_X12_continuation_2 D post n) S_8 a0 x1 x2) ∧
     (r_7 = x1 → post x2 S_8))) S a0 x2))))
def wp_X12_continuation_0 (D : wD) (post : Int32 → wS → Prop)  (S : wS) (a0 : Nat) (x1 : Int32) : Prop :=
∃ n_1 : Nat, wp_X12_continuation_2 D post n_1 S a0 x1 (0 : Int32)
abbrev r_X12_continuation : Room := { frames := 2, cells := 0, slots := 0, locals := 46 }
def wp_X12_continuation (D : wD) (post : Int32 → wS → Prop) (S : wS) (a0 : Nat) (x1 : Int32) : Prop := wp_X12_continuation_0 D post S a0 x1
set_option maxHeartbeats 4000000 in
set_option maxRecDepth 100000 in
theorem t_X12_continuation_32 {p : Program} {l : Launch} {e : Env} {s : State} {m : MethodId} {args : Array Value} {below : List Frame} {meth : Method} {c : Code} {D : wD} {cy : Nat → ClassId} {X : va_W} {A : Nat → Prop} {S0 : wS} {post : Int32 → wS → Prop} (F : CallFix p m c cX12_continuation 3 s args wz_X12_continuation RX12) (hr : meth.sig.returnType = (some .int)) (hlocks : meth.locks = false) (hK : wK D cy A s) {k_2 : wS → Nat → Int32 → Int32 → Prop} (q_2 : ∀ {S : wS} {H : Heap} {locs : List Loc} {ls : Array Slot} {a0 : Nat} {x1 : Int32} {x2 : Int32}, k_2 S a0 x1 x2 → wO D cy X A s.heap S H locs → wX D S0 S → lv_has ls 3 [(0, .ref a0), (1, .int x1), (2, .int x2)] → wM D S a0 → sK S a0 = 17 → W p l e r_X12_continuation s m args below meth c H locs 0 0 (MQ below (va_Qi (fun r S9 => wX D S0 S9 ∧ post r S9) (wB D cy X A) A) args s 0 0 A) (F0 m 2 ls [])) : ∀ {S : wS} {H : Heap} {locs : List Loc} {ls : Array Slot} {a0 : Nat} {x1 : Int32} {x2 : Int32}, wp_X12_continuation_32 D post k_2 S a0 x1 x2 → wO D cy X A s.heap S H locs → wX D S0 S → lv_has ls 3 [(0, .ref a0), (1, .int x1), (2, .int x2)] → wM D S a0 → sK S a0 = 17 → W p l e r_X12_continuation s m args below meth c H locs 0 0 (MQ below (va_Qi (fun r S9 => wX D S0 S9 ∧ post r S9) (wB D cy X A) A) args s 0 0 A) (F0 m 32 ls []) := by
  obtain ⟨hx, hb, hml, hown, hts⟩ := id F
  have hwg : ∀ w ∈ WG, w.before args s = true := fun w h => hts w (List.mem_cons_of_mem _ h)
  intro S H locs ls a0 x1 x2 hp hW hE hl hL_a0 hK_a0
  unfold wp_X12_continuation_32 at hp
  obtain ⟨x_1, ex_1⟩ : ∃ z : Int32, z = x2 + 1 := ⟨_, rfl⟩
  replace hp := hp x_1 ex_1
  refine lv_iinc (v := x_1) (lv' := [(2, .int x_1), (0, .ref a0), (1, .int x1)]) hx hb dX12_continuation_32 hl (k := 2) rfl (by rw [ex_1]; rfl) (by decide) rfl (fun ls hl => ?_)
  refine lv_goto (tgt := 2) hx hb dX12_continuation_35 (by decide) ?_
  exact q_2 hp hW hE (lv_sub hl [1, 2, 0] rfl) hL_a0 hK_a0
set_option maxHeartbeats 4000000 in
set_option maxRecDepth 100000 in
theorem t_X12_continuation_2 {p : Program} {l : Launch} {e : Env} {s : State} {m : MethodId} {args : Array Value} {below : List Frame} {meth : Method} {c : Code} {D : wD} {cy : Nat → ClassId} {X : va_W} {A : Nat → Prop} {S0 : wS} {post : Int32 → wS → Prop} (F : CallFix p m c cX12_continuation 3 s args wz_X12_continuation RX12) (hr : meth.sig.returnType = (some .int)) (hlocks : meth.locks = false) (hK : wK D cy A s) : ∀ (n : Nat) {S : wS} {H : Heap} {locs : List Loc} {ls : Array Slot} {a0 : Nat} {x1 : Int32} {x2 : Int32}, wp_X12_continuation_2 D post n S a0 x1 x2 → wO D cy X A s.heap S H locs → wX D S0 S → lv_has ls 3 [(0, .ref a0), (1, .int x1), (2, .int x2)] → wM D S a0 → sK S a0 = 17 → W p l e r_X12_continuation s m args below meth c H locs 0 0 (MQ below (va_Qi (fun r S9 => wX D S0 S9 ∧ post r S9) (wB D cy X A) A) args s 0 0 A) (F0 m 2 ls []) := by
  obtain ⟨hx, hb, hml, hown, hts⟩ := id F
  have hwg : ∀ w ∈ WG, w.before args s = true := fun w h => hts w (List.mem_cons_of_mem _ h)
  have i_17 : ∀ w ∈ u_ws RX12 TX12 43, w ∈ wz_X12_continuation := fun w h => List.mem_cons_of_mem _ (wu_17 w h)
  have k_29 := hwg _ wf_RX12_29
  have k_54 := hwg _ wf_RX12_54
  intro n
  induction n with
  | zero =>
    intro S H locs ls a0 x1 x2 hp
    exact hp.elim
  | succ n ih =>
    intro S H locs ls a0 x1 x2 hp hW hE hl hL_a0 hK_a0
    unfold wp_X12_continuation_2 at hp
    refine lv_iload_n hx hb dX12_continuation_2 rfl (lv_at hl 2 rfl) ?_
    refine lv_aload_n hx hb dX12_continuation_3 rfl (lv_at hl 0 rfl) ?_
    obtain ⟨y_1, ey_1, hL_y_1, hK_y_1, hp⟩ := hp
    refine w_get (k := 17) (f := 7) (T := TX12) (v := .ref y_1) F hK hW hL_a0 hK_a0 (by decide) rfl rfl (by decide) i_17 k_29 (by rw [show wv 17 7 S a0 = va_rf (sR S a0 7) from rfl, ey_1]; rfl) dX12_continuation_4 ?_
    refine lv_iconst (v := 0) hx hb dX12_continuation_7 (by decide) ?_
    obtain ⟨h_2, hp⟩ := hp
    refine w_ild F hK hW hL_y_1 hK_y_1 h_2 dX12_continuation_8 ?_
    refine lv_icmp_ge (tgt := 38) hx hb dX12_continuation_9 (by decide) (fun c_3 => ?_) (fun c_3 => ?_)
    · replace hp := hp.1 c_3
      refine lv_iconst (v := (-1)) hx hb dX12_continuation_38 (by decide) ?_
      exact w_iret hx hb hr hlocks hW ⟨hE, hp⟩ dX12_continuation_39
    · replace hp := hp.2 c_3
      refine lv_aload_n hx hb dX12_continuation_12 rfl (lv_at hl 0 rfl) ?_
      obtain ⟨y_4, ey_4, hL_y_4, hK_y_4, hp⟩ := hp
      refine w_get (k := 17) (f := 19) (T := TX12) (v := .ref y_4) F hK hW hL_a0 hK_a0 (by decide) rfl rfl (by decide) i_17 k_54 (by rw [show wv 17 19 S a0 = va_rf (sR S a0 19) from rfl, ey_4]; rfl) dX12_continuation_13 ?_
      refine lv_iload_n hx hb dX12_continuation_16 rfl (lv_at hl 2 rfl) ?_
      obtain ⟨h_5, hp⟩ := hp
      refine w_ild F hK hW hL_y_4 hK_y_4 h_5 dX12_continuation_17 ?_
      refine lv_if_le (tgt := 32) hx hb dX12_continuation_18 (by decide) (fun c_6 => ?_) (fun c_6 => ?_)
      · replace hp := hp.1 c_6
        exact t_X12_continuation_32 F hr hlocks hK ih hp hW hE (lv_sub hl [0, 1, 2] rfl) hL_a0 hK_a0
      · replace hp := hp.2 c_6
        refine lv_aload_n hx hb dX12_continuation_21 rfl (lv_at hl 0 rfl) ?_
        refine lv_iload_n hx hb dX12_continuation_22 rfl (lv_at hl 2 rfl) ?_
        refine w_callI (va_runV (As := [.int x2]) (rest := []) F (c_X12_placeInOrder l hL_a0 hK_a0 hp H.size) (cwV (C := RX12) 1 hts (wg_V wm_RX12_440 wy_X12_placeInOrder) rfl rfl rfl (by decide +kernel) ⟨Nat.le_of_ble_eq_true rfl, Nat.le_of_ble_eq_true rfl⟩) (w_preV hK hW hL_a0 hK_a0 (by decide) rfl) rfl rfl hl.1 rfl (lv_room (Nat.le_of_ble_eq_true rfl)) dX12_continuation_23 ⟨Nat.le_of_ble_eq_true rfl, Nat.le_of_ble_eq_true rfl⟩) hW (fun r_7 S_8 H locs hp hW => ?_)
        obtain ⟨hX_S_8, hp⟩ := hp
        refine W.widen (k := 0) (n := 0) (by decide) (by decide) ?_
        have hE := hE.trans hX_S_8
        have hK_a0 : sK S_8 a0 = 17 := (hX_S_8.2 a0 hL_a0).1.trans hK_a0
        have hL_a0 : wM D S_8 a0 := hX_S_8.M hL_a0
        refine lv_iload_n hx hb dX12_continuation_26 rfl (lv_at hl 1 rfl) ?_
        refine lv_icmp_ne (tgt := 32) hx hb dX12_continuation_27 (by decide) (fun c_9 => ?_) (fun c_9 => ?_)
        · replace hp := hp.1 c_9
          exact t_X12_continuation_32 F hr hlocks hK ih hp hW hE (lv_sub hl [0, 1, 2] rfl) hL_a0 hK_a0
        · replace hp := hp.2 c_9
          refine lv_iload_n hx hb dX12_continuation_30 rfl (lv_at hl 2 rfl) ?_
          exact w_iret hx hb hr hlocks hW ⟨hE, hp⟩ dX12_continuation_31
set_option maxHeartbeats 4000000 in
set_option maxRecDepth 100000 in
theorem t_X12_continuation_0 {p : Program} {l : Launch} {e : Env} {s : State} {m : MethodId} {args : Array Value} {below : List Frame} {meth : Method} {c : Code} {D : wD} {cy : Nat → ClassId} {X : va_W} {A : Nat → Prop} {S0 : wS} {post : Int32 → wS → Prop} (F : CallFix p m c cX12_continuation 3 s args wz_X12_continuation RX12) (hr : meth.sig.returnType = (some .int)) (hlocks : meth.locks = false) (hK : wK D cy A s) : ∀ {S : wS} {H : Heap} {locs : List Loc} {ls : Array Slot} {a0 : Nat} {x1 : Int32}, wp_X12_continuation_0 D post S a0 x1 → wO D cy X A s.heap S H locs → wX D S0 S → lv_has ls 3 [(0, .ref a0), (1, .int x1)] → wM D S a0 → sK S a0 = 17 → W p l e r_X12_continuation s m args below meth c H locs 0 0 (MQ below (va_Qi (fun r S9 => wX D S0 S9 ∧ post r S9) (wB D cy X A) A) args s 0 0 A) (F0 m 0 ls []) := by
  obtain ⟨hx, hb, hml, hown, hts⟩ := id F
  have hwg : ∀ w ∈ WG, w.before args s = true := fun w h => hts w (List.mem_cons_of_mem _ h)
  intro S H locs ls a0 x1 hp hW hE hl hL_a0 hK_a0
  unfold wp_X12_continuation_0 at hp
  refine lv_iconst (v := 0) hx hb dX12_continuation_0 (by decide) ?_
  refine lv_istore_n (lv' := [(2, .int (0 : Int32)), (0, .ref a0), (1, .int x1)]) hx hb dX12_continuation_1 rfl hl (by decide) rfl (fun ls hl => ?_)
  obtain ⟨n_1, hp⟩ := hp
  exact t_X12_continuation_2 F hr hlocks hK n_1 hp hW hE (lv_sub hl [1, 2, 0] rfl) hL_a0 hK_a0
set_option maxHeartbeats 4000000 in
set_option maxRecDepth 100000 in
theorem c_X12_continuation (l : Launch) {D : wD} {cy : Nat → ClassId} {X : va_W} {S0 : wS} {post : Int32 → wS → Prop} {a0 : Nat} {x1 : Int32} (hL_a0 : wM D S0 a0) (hK_a0 : sK S0 a0 = 17) (hp : wp_X12_continuation D post S0 a0 x1) : mI D cy X l yX12_continuation wz_X12_continuation r_X12_continuation [.ref a0, .int x1] S0 (fun r S9 => wX D S0 S9 ∧ post r S9) := by
  intro sz
  refine Met.ofW (cc := cX12_continuation) (maxL := 3) (ret := (some .int)) (by decide) rfl ?_
  intro p e s m args below meth c s₁ B hml hv
  obtain ⟨rfl, hsz, hP, hK, hD0, hRO⟩ := hv
  have hts := atoms_spec (ws := wz_X12_continuation) B.pre
  have hown : s.vm.findClass RX12 = some m.cls := findClass_of_methodNamed B.named
  subst hsz
  have hD := hD0.self (sz := s.heap.size)
  have F : CallFix p m c cX12_continuation 3 s _ wz_X12_continuation RX12 := ⟨B.exec, B.bytes, hml, hown, hts⟩
  have hr := B.returns
  have hlocks := B.notSynchronized
  generalize hAe : va_A (wL cy X S0) s.heap.size = A at hD hK ⊢
  have hA : ∀ q, s.heap.size ≤ q → A q := fun q h => by rw [← hAe]; exact Or.inr h
  have hW : wO D cy X A s.heap S0 s.heap [] := ⟨hP, hD, va_S.rf, hA, hRO⟩
  have hl := lv_entry ([.ref a0, .int x1]) (n := 3) (Nat.le_of_ble_eq_true rfl)
  rw [lg_entry_eq]
  generalize (lg_sl ([.ref a0, .int x1]) ++ List.replicate (3 - (lg_sl ([.ref a0, .int x1])).length) Slot.unset).toArray = ls at hl ⊢
  have hl : lv_has ls 3 [(0, .ref a0), (1, .int x1)] := hl
  unfold wp_X12_continuation at hp
  exact t_X12_continuation_0 F hr hlocks hK hp hW wX.rf (lv_sub hl [0, 1] rfl) hL_a0 hK_a0
def wp_X12_codeOf_0 (D : wD) (post : Int32 → wS → Prop)  (S : wS) (a0 : Nat) (x1 : Int32) : Prop :=
∃ y_1 : Nat, sR S a0 6 = some y_1 ∧ wM D S y_1 ∧ sK S y_1 = 21 ∧
vp_in x1 (sN S y_1) ∧
∃ y_3 : Nat, sR S a0 4 = some y_3 ∧ wM D S y_3 ∧ sK S y_3 = 21 ∧
vp_in x1 (sN S y_3) ∧
∃ y_5 : Nat, sR S a0 5 = some y_5 ∧ wM D S y_5 ∧ sK S y_5 = 21 ∧
vp_in x1 (sN S y_5) ∧
post ((((4096 : Int32) * (sI S y_1 (x1).toNatClampNeg)) + ((64 : Int32) * (sI S y_3 (x1).toNatClampNeg))) + (sI S y_5 (x1).toNatClampNeg)) S
abbrev r_X12_codeOf : Room := { frames := 0, cells := 0, slots := 0, locals := 0 }
def wp_X12_codeOf (D : wD) (post : Int32 → wS → Prop) (S : wS) (a0 : Nat) (x1 : Int32) : Prop := wp_X12_codeOf_0 D post S a0 x1
set_option maxHeartbeats 4000000 in
set_option maxRecDepth 100000 in
theorem t_X12_codeOf_0 {p : Program} {l : Launch} {e : Env} {s : State} {m : MethodId} {args : Array Value} {below : List Frame} {meth : Method} {c : Code} {D : wD} {cy : Nat → ClassId} {X : va_W} {A : Nat → Prop} {S0 : wS} {post : Int32 → wS → Prop} (F : CallFix p m c cX12_codeOf 2 s args wz_X12_codeOf RX12) (hr : meth.sig.returnType = (some .int)) (hlocks : meth.locks = false) (hK : wK D cy A s) : ∀ {S : wS} {H : Heap} {locs : List Loc} {ls : Array Slot} {a0 : Nat} {x1 : Int32}, wp_X12_codeOf_0 D post S a0 x1 → wO D cy X A s.heap S H locs → wX D S0 S → lv_has ls 2 [(0, .ref a0), (1, .int x1)] → wM D S a0 → sK S a0 = 17 → W p l e r_X12_codeOf s m args below meth c H locs 0 0 (MQ below (va_Qi (fun r S9 => wX D S0 S9 ∧ post r S9) (wB D cy X A) A) args s 0 0 A) (F0 m 0 ls []) := by
  obtain ⟨hx, hb, hml, hown, hts⟩ := id F
  have hwg : ∀ w ∈ WG, w.before args s = true := fun w h => hts w (List.mem_cons_of_mem _ h)
  have i_17 : ∀ w ∈ u_ws RX12 TX12 43, w ∈ wz_X12_codeOf := fun w h => List.mem_cons_of_mem _ (wu_17 w h)
  have k_20 := hwg _ wf_RX12_20
  have k_23 := hwg _ wf_RX12_23
  have k_26 := hwg _ wf_RX12_26
  intro S H locs ls a0 x1 hp hW hE hl hL_a0 hK_a0
  unfold wp_X12_codeOf_0 at hp
  refine lv_sipush (v := 4096) hx hb dX12_codeOf_0 (by decide) ?_
  refine lv_aload_n hx hb dX12_codeOf_3 rfl (lv_at hl 0 rfl) ?_
  obtain ⟨y_1, ey_1, hL_y_1, hK_y_1, hp⟩ := hp
  refine w_get (k := 17) (f := 6) (T := TX12) (v := .ref y_1) F hK hW hL_a0 hK_a0 (by decide) rfl rfl (by decide) i_17 k_26 (by rw [show wv 17 6 S a0 = va_rf (sR S a0 6) from rfl, ey_1]; rfl) dX12_codeOf_4 ?_
  refine lv_iload_n hx hb dX12_codeOf_7 rfl (lv_at hl 1 rfl) ?_
  obtain ⟨h_2, hp⟩ := hp
  refine w_ild F hK hW hL_y_1 hK_y_1 h_2 dX12_codeOf_8 ?_
  refine lv_imul hx hb dX12_codeOf_9 ?_
  refine lv_bipush (v := 64) hx hb dX12_codeOf_10 (by decide) ?_
  refine lv_aload_n hx hb dX12_codeOf_12 rfl (lv_at hl 0 rfl) ?_
  obtain ⟨y_3, ey_3, hL_y_3, hK_y_3, hp⟩ := hp
  refine w_get (k := 17) (f := 4) (T := TX12) (v := .ref y_3) F hK hW hL_a0 hK_a0 (by decide) rfl rfl (by decide) i_17 k_20 (by rw [show wv 17 4 S a0 = va_rf (sR S a0 4) from rfl, ey_3]; rfl) dX12_codeOf_13 ?_
  refine lv_iload_n hx hb dX12_codeOf_16 rfl (lv_at hl 1 rfl) ?_
  obtain ⟨h_4, hp⟩ := hp
  refine w_ild F hK hW hL_y_3 hK_y_3 h_4 dX12_codeOf_17 ?_
  refine lv_imul hx hb dX12_codeOf_18 ?_
  refine lv_iadd hx hb dX12_codeOf_19 ?_
  refine lv_aload_n hx hb dX12_codeOf_20 rfl (lv_at hl 0 rfl) ?_
  obtain ⟨y_5, ey_5, hL_y_5, hK_y_5, hp⟩ := hp
  refine w_get (k := 17) (f := 5) (T := TX12) (v := .ref y_5) F hK hW hL_a0 hK_a0 (by decide) rfl rfl (by decide) i_17 k_23 (by rw [show wv 17 5 S a0 = va_rf (sR S a0 5) from rfl, ey_5]; rfl) dX12_codeOf_21 ?_
  refine lv_iload_n hx hb dX12_codeOf_24 rfl (lv_at hl 1 rfl) ?_
  obtain ⟨h_6, hp⟩ := hp
  refine w_ild F hK hW hL_y_5 hK_y_5 h_6 dX12_codeOf_25 ?_
  refine lv_iadd hx hb dX12_codeOf_26 ?_
  exact w_iret hx hb hr hlocks hW ⟨hE, hp⟩ dX12_codeOf_27
set_option maxHeartbeats 4000000 in
set_option maxRecDepth 100000 in
theorem c_X12_codeOf (l : Launch) {D : wD} {cy : Nat → ClassId} {X : va_W} {S0 : wS} {post : Int32 → wS → Prop} {a0 : Nat} {x1 : Int32} (hL_a0 : wM D S0 a0) (hK_a0 : sK S0 a0 = 17) (hp : wp_X12_codeOf D post S0 a0 x1) : mI D cy X l yX12_codeOf wz_X12_codeOf r_X12_codeOf [.ref a0, .int x1] S0 (fun r S9 => wX D S0 S9 ∧ post r S9) := by
  intro sz
  refine Met.ofW (cc := cX12_codeOf) (maxL := 2) (ret := (some .int)) (by decide) rfl ?_
  intro p e s m args below meth c s₁ B hml hv
  obtain ⟨rfl, hsz, hP, hK, hD0, hRO⟩ := hv
  have hts := atoms_spec (ws := wz_X12_codeOf) B.pre
  have hown : s.vm.findClass RX12 = some m.cls := findClass_of_methodNamed B.named
  subst hsz
  have hD := hD0.self (sz := s.heap.size)
  have F : CallFix p m c cX12_codeOf 2 s _ wz_X12_codeOf RX12 := ⟨B.exec, B.bytes, hml, hown, hts⟩
  have hr := B.returns
  have hlocks := B.notSynchronized
  generalize hAe : va_A (wL cy X S0) s.heap.size = A at hD hK ⊢
  have hA : ∀ q, s.heap.size ≤ q → A q := fun q h => by rw [← hAe]; exact Or.inr h
  have hW : wO D cy X A s.heap S0 s.heap [] := ⟨hP, hD, va_S.rf, hA, hRO⟩
  have hl := lv_entry ([.ref a0, .int x1]) (n := 2) (Nat.le_of_ble_eq_true rfl)
  rw [lg_entry_eq]
  generalize (lg_sl ([.ref a0, .int x1]) ++ List.replicate (2 - (lg_sl ([.ref a0, .int x1])).length) Slot.unset).toArray = ls at hl ⊢
  have hl : lv_has ls 2 [(0, .ref a0), (1, .int x1)] := hl
  unfold wp_X12_codeOf at hp
  exact t_X12_codeOf_0 F hr hlocks hK hp hW wX.rf (lv_sub hl [0, 1] rfl) hL_a0 hK_a0
def wp_X12_madeHere_65 (D : wD) (post : Int32 → wS → Prop) (k_3 : wS → Nat → Int32 → Int32 → Int32 → Int32 → Prop) (S : wS) (a0 : Nat) (x1 : Int32) (x2 : Int32) (x3 : Int32) (x4 : Int32) : Prop :=
∀ x_1 : Int32, x_1 = x4 + 1 →
k_3 S a0 x1 x2 x3 x_1
def wp_X12_madeHere_3 (D : wD) (post : Int32 → wS → Prop)  : Nat → wS → Nat → Int32 → Int32 → Int32 → Int32 → Prop
  | 0, _, _, _, _, _, _ => False
  | n + 1, S, a0, x1, x2, x3, x4 =>
    ∃ y_1 : Nat, sR S a0 33 = some y_1 ∧ wM D S y_1 ∧ sK S y_1 = 21 ∧
    wp_X12_slot D (fun r_2 S_3 => 
    vp_in r_2 (sN S_3 y_1) ∧
    (((sI S_3 y_1 (r_2).toNatClampNeg) ≤ x4 → narrow .boolean (.int (0 : Int32)) = .int (0 : Int32) ∧ post (0 : Int32) S_3) ∧
     (¬ (sI S_3 y_1 (r_2).toNatClampNeg) ≤ x4 → ∃ y_6 : Nat, sR S_3 a0 32 = some y_6 ∧ wM D S_3 y_6 ∧ sK S_3 y_6 = 21 ∧
    wp_X12_slot D (fun r_7 S_8 => 
    vp_in (((80 : Int32) * r_7) + x4) (sN S_8 y_6) ∧
    ((¬ (sI S_8 y_6 ((((80 : Int32) * r_7) + x4)).toNatClampNeg) = x3 → wp_X12_madeHere_65 D post (wp_X12_madeHere_3 D post n) S_8 a0 x1 x2 x3 x4) ∧
     ((sI S_8 y_6 ((((80 : Int32) * r_7) + x4)).toNatClampNeg) = x3 → ∃ y_11 : Nat, sR S_8 a0 31 = some y_11 ∧ wM D S_8 y_11 ∧ sK S_8 y_11 = 21 ∧
    wp_X12_placeOf D (fun r_12 S_13 => 
    ∃ y_14 : Nat, sR S_13 a0 8 = some y_14 ∧ wM D S_13 y_14 ∧ sK S_13 y_14 = 21 ∧
    wp_X12_presentAt D (fun r_15 S_16 => 
    wp_X12_isSame D (fun r_17 S_18 => 
    ((r_17 = 0 → wp_X12_madeHere_65 D post (wp_X12_madeHere_3 D post n) S_18 a0 x1 x2 x3 x4) ∧
     (¬ r_17 = 0 → narrow .boolean (.int (1 : Int32)) = .int (1 : Int32) ∧ post (1 : Int32) S_18))) S_16 y_11 r_12 y_14 r_15) S_13 a0) S_8 x1 x2 x4))) S_3 x1 x2))) S x1 x2
def wp_X12_madeHere_0 (D : wD) (post : Int32 → wS → Prop)  (S : wS) (a0 : Nat) (x1 : Int32) (x2 : Int32) (x3 : Int32) : Prop :=
∃ n_1 : Nat, wp_X12_madeHere_3 D post n_1 S a0 x1 x2 x3 (0 : Int32)
abbrev r_X12_madeHere : Room := { frames := 1, cells := 0, slots := 0, locals := 24 }
def wp_X12_madeHere (D : wD) (post : Int32 → wS → Prop) (S : wS) (a0 : Nat) (x1 : Int32) (x2 : Int32) (x3 : Int32) : Prop := wp_X12_madeHere_0 D post S a0 x1 x2 x3
set_option maxHeartbeats 4000000 in
set_option maxRecDepth 100000 in
theorem t_X12_madeHere_65 {p : Program} {l : Launch} {e : Env} {s : State} {m : MethodId} {args : Array Value} {below : List Frame} {meth : Method} {c : Code} {D : wD} {cy : Nat → ClassId} {X : va_W} {A : Nat → Prop} {S0 : wS} {post : Int32 → wS → Prop} (F : CallFix p m c cX12_madeHere 5 s args wz_X12_madeHere RX12) (hr : meth.sig.returnType = (some .boolean)) (hlocks : meth.locks = false) (hK : wK D cy A s) {k_3 : wS → Nat → Int32 → Int32 → Int32 → Int32 → Prop} (q_3 : ∀ {S : wS} {H : Heap} {locs : List Loc} {ls : Array Slot} {a0 : Nat} {x1 : Int32} {x2 : Int32} {x3 : Int32} {x4 : Int32}, k_3 S a0 x1 x2 x3 x4 → wO D cy X A s.heap S H locs → wX D S0 S → lv_has ls 5 [(0, .ref a0), (1, .int x1), (2, .int x2), (3, .int x3), (4, .int x4)] → wM D S a0 → sK S a0 = 17 → W p l e r_X12_madeHere s m args below meth c H locs 0 0 (MQ below (va_Qi (fun r S9 => wX D S0 S9 ∧ post r S9) (wB D cy X A) A) args s 0 0 A) (F0 m 3 ls [])) : ∀ {S : wS} {H : Heap} {locs : List Loc} {ls : Array Slot} {a0 : Nat} {x1 : Int32} {x2 : Int32} {x3 : Int32} {x4 : Int32}, wp_X12_madeHere_65 D post k_3 S a0 x1 x2 x3 x4 → wO D cy X A s.heap S H locs → wX D S0 S → lv_has ls 5 [(0, .ref a0), (1, .int x1), (2, .int x2), (3, .int x3), (4, .int x4)] → wM D S a0 → sK S a0 = 17 → W p l e r_X12_madeHere s m args below meth c H locs 0 0 (MQ below (va_Qi (fun r S9 => wX D S0 S9 ∧ post r S9) (wB D cy X A) A) args s 0 0 A) (F0 m 65 ls []) := by
  obtain ⟨hx, hb, hml, hown, hts⟩ := id F
  have hwg : ∀ w ∈ WG, w.before args s = true := fun w h => hts w (List.mem_cons_of_mem _ h)
  intro S H locs ls a0 x1 x2 x3 x4 hp hW hE hl hL_a0 hK_a0
  unfold wp_X12_madeHere_65 at hp
  obtain ⟨x_1, ex_1⟩ : ∃ z : Int32, z = x4 + 1 := ⟨_, rfl⟩
  replace hp := hp x_1 ex_1
  refine lv_iinc (v := x_1) (lv' := [(4, .int x_1), (0, .ref a0), (1, .int x1), (2, .int x2), (3, .int x3)]) hx hb dX12_madeHere_65 hl (k := 4) rfl (by rw [ex_1]; rfl) (by decide) rfl (fun ls hl => ?_)
  refine lv_goto (tgt := 3) hx hb dX12_madeHere_68 (by decide) ?_
  exact q_3 hp hW hE (lv_sub hl [1, 2, 3, 4, 0] rfl) hL_a0 hK_a0
set_option maxHeartbeats 4000000 in
set_option maxRecDepth 100000 in
theorem t_X12_madeHere_3 {p : Program} {l : Launch} {e : Env} {s : State} {m : MethodId} {args : Array Value} {below : List Frame} {meth : Method} {c : Code} {D : wD} {cy : Nat → ClassId} {X : va_W} {A : Nat → Prop} {S0 : wS} {post : Int32 → wS → Prop} (F : CallFix p m c cX12_madeHere 5 s args wz_X12_madeHere RX12) (hr : meth.sig.returnType = (some .boolean)) (hlocks : meth.locks = false) (hK : wK D cy A s) : ∀ (n : Nat) {S : wS} {H : Heap} {locs : List Loc} {ls : Array Slot} {a0 : Nat} {x1 : Int32} {x2 : Int32} {x3 : Int32} {x4 : Int32}, wp_X12_madeHere_3 D post n S a0 x1 x2 x3 x4 → wO D cy X A s.heap S H locs → wX D S0 S → lv_has ls 5 [(0, .ref a0), (1, .int x1), (2, .int x2), (3, .int x3), (4, .int x4)] → wM D S a0 → sK S a0 = 17 → W p l e r_X12_madeHere s m args below meth c H locs 0 0 (MQ below (va_Qi (fun r S9 => wX D S0 S9 ∧ post r S9) (wB D cy X A) A) args s 0 0 A) (F0 m 3 ls []) := by
  obtain ⟨hx, hb, hml, hown, hts⟩ := id F
  have hwg : ∀ w ∈ WG, w.before args s = true := fun w h => hts w (List.mem_cons_of_mem _ h)
  have i_17 : ∀ w ∈ u_ws RX12 TX12 43, w ∈ wz_X12_madeHere := fun w h => List.mem_cons_of_mem _ (wu_17 w h)
  have k_32 := hwg _ wf_RX12_32
  have k_73 := hwg _ wf_RX12_73
  have k_76 := hwg _ wf_RX12_76
  have k_79 := hwg _ wf_RX12_79
  intro n
  induction n with
  | zero =>
    intro S H locs ls a0 x1 x2 x3 x4 hp
    exact hp.elim
  | succ n ih =>
    intro S H locs ls a0 x1 x2 x3 x4 hp hW hE hl hL_a0 hK_a0
    unfold wp_X12_madeHere_3 at hp
    refine lv_iload hx hb dX12_madeHere_3 (lv_at hl 4 rfl) ?_
    refine lv_aload_n hx hb dX12_madeHere_5 rfl (lv_at hl 0 rfl) ?_
    obtain ⟨y_1, ey_1, hL_y_1, hK_y_1, hp⟩ := hp
    refine w_get (k := 17) (f := 33) (T := TX12) (v := .ref y_1) F hK hW hL_a0 hK_a0 (by decide) rfl rfl (by decide) i_17 k_79 (by rw [show wv 17 33 S a0 = va_rf (sR S a0 33) from rfl, ey_1]; rfl) dX12_madeHere_6 ?_
    refine lv_iload_n hx hb dX12_madeHere_9 rfl (lv_at hl 1 rfl) ?_
    refine lv_iload_n hx hb dX12_madeHere_10 rfl (lv_at hl 2 rfl) ?_
    refine w_callI (va_runS (As := [.int x1, .int x2]) (rest := [.ref y_1, .int x4]) F (c_X12_slot l hp H.size) (va_cwS 2 hts (wg_S wm_RX12_400 wy_X12_slot) rfl rfl rfl (by decide +kernel) ⟨Nat.le_of_ble_eq_true rfl, Nat.le_of_ble_eq_true rfl⟩) (w_preS hK hW) rfl rfl hl.1 rfl (lv_room (Nat.le_of_ble_eq_true rfl)) dX12_madeHere_11 ⟨Nat.le_of_ble_eq_true rfl, Nat.le_of_ble_eq_true rfl⟩) hW (fun r_2 S_3 H locs hp hW => ?_)
    obtain ⟨hX_S_3, hp⟩ := hp
    refine W.widen (k := 0) (n := 0) (by decide) (by decide) ?_
    have hE := hE.trans hX_S_3
    have hK_a0 : sK S_3 a0 = 17 := (hX_S_3.2 a0 hL_a0).1.trans hK_a0
    have hL_a0 : wM D S_3 a0 := hX_S_3.M hL_a0
    have hK_y_1 : sK S_3 y_1 = 21 := (hX_S_3.2 y_1 hL_y_1).1.trans hK_y_1
    have hL_y_1 : wM D S_3 y_1 := hX_S_3.M hL_y_1
    obtain ⟨h_4, hp⟩ := hp
    refine w_ild F hK hW hL_y_1 hK_y_1 h_4 dX12_madeHere_14 ?_
    refine lv_icmp_ge (tgt := 71) hx hb dX12_madeHere_15 (by decide) (fun c_5 => ?_) (fun c_5 => ?_)
    · replace hp := hp.1 c_5
      refine lv_iconst (v := 0) hx hb dX12_madeHere_71 (by decide) ?_
      exact w_zret hx hb hr hlocks hW hp.1 ⟨hE, hp.2⟩ dX12_madeHere_72
    · replace hp := hp.2 c_5
      refine lv_aload_n hx hb dX12_madeHere_18 rfl (lv_at hl 0 rfl) ?_
      obtain ⟨y_6, ey_6, hL_y_6, hK_y_6, hp⟩ := hp
      refine w_get (k := 17) (f := 32) (T := TX12) (v := .ref y_6) F hK hW hL_a0 hK_a0 (by decide) rfl rfl (by decide) i_17 k_76 (by rw [show wv 17 32 S_3 a0 = va_rf (sR S_3 a0 32) from rfl, ey_6]; rfl) dX12_madeHere_19 ?_
      refine lv_bipush (v := 80) hx hb dX12_madeHere_22 (by decide) ?_
      refine lv_iload_n hx hb dX12_madeHere_24 rfl (lv_at hl 1 rfl) ?_
      refine lv_iload_n hx hb dX12_madeHere_25 rfl (lv_at hl 2 rfl) ?_
      refine w_callI (va_runS (As := [.int x1, .int x2]) (rest := [.int (80 : Int32), .ref y_6]) F (c_X12_slot l hp H.size) (va_cwS 2 hts (wg_S wm_RX12_400 wy_X12_slot) rfl rfl rfl (by decide +kernel) ⟨Nat.le_of_ble_eq_true rfl, Nat.le_of_ble_eq_true rfl⟩) (w_preS hK hW) rfl rfl hl.1 rfl (lv_room (Nat.le_of_ble_eq_true rfl)) dX12_madeHere_26 ⟨Nat.le_of_ble_eq_true rfl, Nat.le_of_ble_eq_true rfl⟩) hW (fun r_7 S_8 H locs hp hW => ?_)
      obtain ⟨hX_S_8, hp⟩ := hp
      refine W.widen (k := 0) (n := 0) (by decide) (by decide) ?_
      have hE := hE.trans hX_S_8
      have hK_a0 : sK S_8 a0 = 17 := (hX_S_8.2 a0 hL_a0).1.trans hK_a0
      have hL_a0 : wM D S_8 a0 := hX_S_8.M hL_a0
      have hK_y_6 : sK S_8 y_6 = 21 := (hX_S_8.2 y_6 hL_y_6).1.trans hK_y_6
      have hL_y_6 : wM D S_8 y_6 := hX_S_8.M hL_y_6
      refine lv_imul hx hb dX12_madeHere_29 ?_
      refine lv_iload hx hb dX12_madeHere_30 (lv_at hl 4 rfl) ?_
      refine lv_iadd hx hb dX12_madeHere_32 ?_
      obtain ⟨h_9, hp⟩ := hp
      refine w_ild F hK hW hL_y_6 hK_y_6 h_9 dX12_madeHere_33 ?_
      refine lv_iload_n hx hb dX12_madeHere_34 rfl (lv_at hl 3 rfl) ?_
      refine lv_icmp_ne (tgt := 65) hx hb dX12_madeHere_35 (by decide) (fun c_10 => ?_) (fun c_10 => ?_)
      · replace hp := hp.1 c_10
        exact t_X12_madeHere_65 F hr hlocks hK ih hp hW hE (lv_sub hl [0, 1, 2, 3, 4] rfl) hL_a0 hK_a0
      · replace hp := hp.2 c_10
        refine lv_aload_n hx hb dX12_madeHere_38 rfl (lv_at hl 0 rfl) ?_
        obtain ⟨y_11, ey_11, hL_y_11, hK_y_11, hp⟩ := hp
        refine w_get (k := 17) (f := 31) (T := TX12) (v := .ref y_11) F hK hW hL_a0 hK_a0 (by decide) rfl rfl (by decide) i_17 k_73 (by rw [show wv 17 31 S_8 a0 = va_rf (sR S_8 a0 31) from rfl, ey_11]; rfl) dX12_madeHere_39 ?_
        refine lv_iload_n hx hb dX12_madeHere_42 rfl (lv_at hl 1 rfl) ?_
        refine lv_iload_n hx hb dX12_madeHere_43 rfl (lv_at hl 2 rfl) ?_
        refine lv_iload hx hb dX12_madeHere_44 (lv_at hl 4 rfl) ?_
        refine w_callI (va_runS (As := [.int x1, .int x2, .int x4]) (rest := [.ref y_11]) F (c_X12_placeOf l hp H.size) (va_cwS 3 hts (wg_S wm_RX12_403 wy_X12_placeOf) rfl rfl rfl (by decide +kernel) ⟨Nat.le_of_ble_eq_true rfl, Nat.le_of_ble_eq_true rfl⟩) (w_preS hK hW) rfl rfl hl.1 rfl (lv_room (Nat.le_of_ble_eq_true rfl)) dX12_madeHere_46 ⟨Nat.le_of_ble_eq_true rfl, Nat.le_of_ble_eq_true rfl⟩) hW (fun r_12 S_13 H locs hp hW => ?_)
        obtain ⟨hX_S_13, hp⟩ := hp
        refine W.widen (k := 0) (n := 0) (by decide) (by decide) ?_
        have hE := hE.trans hX_S_13
        have hK_a0 : sK S_13 a0 = 17 := (hX_S_13.2 a0 hL_a0).1.trans hK_a0
        have hL_a0 : wM D S_13 a0 := hX_S_13.M hL_a0
        have hK_y_11 : sK S_13 y_11 = 21 := (hX_S_13.2 y_11 hL_y_11).1.trans hK_y_11
        have hL_y_11 : wM D S_13 y_11 := hX_S_13.M hL_y_11
        refine lv_aload_n hx hb dX12_madeHere_49 rfl (lv_at hl 0 rfl) ?_
        obtain ⟨y_14, ey_14, hL_y_14, hK_y_14, hp⟩ := hp
        refine w_get (k := 17) (f := 8) (T := TX12) (v := .ref y_14) F hK hW hL_a0 hK_a0 (by decide) rfl rfl (by decide) i_17 k_32 (by rw [show wv 17 8 S_13 a0 = va_rf (sR S_13 a0 8) from rfl, ey_14]; rfl) dX12_madeHere_50 ?_
        refine lv_aload_n hx hb dX12_madeHere_53 rfl (lv_at hl 0 rfl) ?_
        refine w_callI (va_runV (As := []) (rest := [.ref y_14, .int r_12, .ref y_11]) F (c_X12_presentAt l hL_a0 hK_a0 hp H.size) (cwV (C := RX12) 0 hts (wg_V wm_RX12_127 wy_X12_presentAt) rfl rfl rfl (by decide +kernel) ⟨Nat.le_of_ble_eq_true rfl, Nat.le_of_ble_eq_true rfl⟩) (w_preV hK hW hL_a0 hK_a0 (by decide) rfl) rfl rfl hl.1 rfl (lv_room (Nat.le_of_ble_eq_true rfl)) dX12_madeHere_54 ⟨Nat.le_of_ble_eq_true rfl, Nat.le_of_ble_eq_true rfl⟩) hW (fun r_15 S_16 H locs hp hW => ?_)
        obtain ⟨hX_S_16, hp⟩ := hp
        refine W.widen (k := 0) (n := 0) (by decide) (by decide) ?_
        have hE := hE.trans hX_S_16
        have hK_a0 : sK S_16 a0 = 17 := (hX_S_16.2 a0 hL_a0).1.trans hK_a0
        have hL_a0 : wM D S_16 a0 := hX_S_16.M hL_a0
        have hK_y_11 : sK S_16 y_11 = 21 := (hX_S_16.2 y_11 hL_y_11).1.trans hK_y_11
        have hL_y_11 : wM D S_16 y_11 := hX_S_16.M hL_y_11
        have hK_y_14 : sK S_16 y_14 = 21 := (hX_S_16.2 y_14 hL_y_14).1.trans hK_y_14
        have hL_y_14 : wM D S_16 y_14 := hX_S_16.M hL_y_14
        refine w_callI (va_runS (As := [.ref y_11, .int r_12, .ref y_14, .int r_15]) (rest := []) F (c_X12_isSame l hL_y_11 hK_y_11 hL_y_14 hK_y_14 hp H.size) (va_cwS 4 hts (wg_S wm_RX12_330 wy_X12_isSame) rfl rfl rfl (by decide +kernel) ⟨Nat.le_of_ble_eq_true rfl, Nat.le_of_ble_eq_true rfl⟩) (w_preS hK hW) rfl rfl hl.1 rfl (lv_room (Nat.le_of_ble_eq_true rfl)) dX12_madeHere_57 ⟨Nat.le_of_ble_eq_true rfl, Nat.le_of_ble_eq_true rfl⟩) hW (fun r_17 S_18 H locs hp hW => ?_)
        obtain ⟨hX_S_18, hp⟩ := hp
        refine W.widen (k := 0) (n := 0) (by decide) (by decide) ?_
        have hE := hE.trans hX_S_18
        have hK_a0 : sK S_18 a0 = 17 := (hX_S_18.2 a0 hL_a0).1.trans hK_a0
        have hL_a0 : wM D S_18 a0 := hX_S_18.M hL_a0
        refine lv_if_eq (tgt := 65) hx hb dX12_madeHere_60 (by decide) (fun c_19 => ?_) (fun c_19 => ?_)
        · replace hp := hp.1 c_19
          exact t_X12_madeHere_65 F hr hlocks hK ih hp hW hE (lv_sub hl [0, 1, 2, 3, 4] rfl) hL_a0 hK_a0
        · replace hp := hp.2 c_19
          refine lv_iconst (v := 1) hx hb dX12_madeHere_63 (by decide) ?_
          exact w_zret hx hb hr hlocks hW hp.1 ⟨hE, hp.2⟩ dX12_madeHere_64
set_option maxHeartbeats 4000000 in
set_option maxRecDepth 100000 in
theorem t_X12_madeHere_0 {p : Program} {l : Launch} {e : Env} {s : State} {m : MethodId} {args : Array Value} {below : List Frame} {meth : Method} {c : Code} {D : wD} {cy : Nat → ClassId} {X : va_W} {A : Nat → Prop} {S0 : wS} {post : Int32 → wS → Prop} (F : CallFix p m c cX12_madeHere 5 s args wz_X12_madeHere RX12) (hr : meth.sig.returnType = (some .boolean)) (hlocks : meth.locks = false) (hK : wK D cy A s) : ∀ {S : wS} {H : Heap} {locs : List Loc} {ls : Array Slot} {a0 : Nat} {x1 : Int32} {x2 : Int32} {x3 : Int32}, wp_X12_madeHere_0 D post S a0 x1 x2 x3 → wO D cy X A s.heap S H locs → wX D S0 S → lv_has ls 5 [(0, .ref a0), (1, .int x1), (2, .int x2), (3, .int x3)] → wM D S a0 → sK S a0 = 17 → W p l e r_X12_madeHere s m args below meth c H locs 0 0 (MQ below (va_Qi (fun r S9 => wX D S0 S9 ∧ post r S9) (wB D cy X A) A) args s 0 0 A) (F0 m 0 ls []) := by
  obtain ⟨hx, hb, hml, hown, hts⟩ := id F
  have hwg : ∀ w ∈ WG, w.before args s = true := fun w h => hts w (List.mem_cons_of_mem _ h)
  intro S H locs ls a0 x1 x2 x3 hp hW hE hl hL_a0 hK_a0
  unfold wp_X12_madeHere_0 at hp
  refine lv_iconst (v := 0) hx hb dX12_madeHere_0 (by decide) ?_
  refine lv_istore (lv' := [(4, .int (0 : Int32)), (0, .ref a0), (1, .int x1), (2, .int x2), (3, .int x3)]) hx hb dX12_madeHere_1 hl (by decide) rfl (fun ls hl => ?_)
  obtain ⟨n_1, hp⟩ := hp
  exact t_X12_madeHere_3 F hr hlocks hK n_1 hp hW hE (lv_sub hl [1, 2, 3, 4, 0] rfl) hL_a0 hK_a0
set_option maxHeartbeats 4000000 in
set_option maxRecDepth 100000 in
theorem c_X12_madeHere (l : Launch) {D : wD} {cy : Nat → ClassId} {X : va_W} {S0 : wS} {post : Int32 → wS → Prop} {a0 : Nat} {x1 : Int32} {x2 : Int32} {x3 : Int32} (hL_a0 : wM D S0 a0) (hK_a0 : sK S0 a0 = 17) (hp : wp_X12_madeHere D post S0 a0 x1 x2 x3) : mI D cy X l yX12_madeHere wz_X12_madeHere r_X12_madeHere [.ref a0, .int x1, .int x2, .int x3] S0 (fun r S9 => wX D S0 S9 ∧ post r S9) := by
  intro sz
  refine Met.ofW (cc := cX12_madeHere) (maxL := 5) (ret := (some .boolean)) (by decide) rfl ?_
  intro p e s m args below meth c s₁ B hml hv
  obtain ⟨rfl, hsz, hP, hK, hD0, hRO⟩ := hv
  have hts := atoms_spec (ws := wz_X12_madeHere) B.pre
  have hown : s.vm.findClass RX12 = some m.cls := findClass_of_methodNamed B.named
  subst hsz
  have hD := hD0.self (sz := s.heap.size)
  have F : CallFix p m c cX12_madeHere 5 s _ wz_X12_madeHere RX12 := ⟨B.exec, B.bytes, hml, hown, hts⟩
  have hr := B.returns
  have hlocks := B.notSynchronized
  generalize hAe : va_A (wL cy X S0) s.heap.size = A at hD hK ⊢
  have hA : ∀ q, s.heap.size ≤ q → A q := fun q h => by rw [← hAe]; exact Or.inr h
  have hW : wO D cy X A s.heap S0 s.heap [] := ⟨hP, hD, va_S.rf, hA, hRO⟩
  have hl := lv_entry ([.ref a0, .int x1, .int x2, .int x3]) (n := 5) (Nat.le_of_ble_eq_true rfl)
  rw [lg_entry_eq]
  generalize (lg_sl ([.ref a0, .int x1, .int x2, .int x3]) ++ List.replicate (5 - (lg_sl ([.ref a0, .int x1, .int x2, .int x3])).length) Slot.unset).toArray = ls at hl ⊢
  have hl : lv_has ls 5 [(0, .ref a0), (1, .int x1), (2, .int x2), (3, .int x3)] := hl
  unfold wp_X12_madeHere at hp
  exact t_X12_madeHere_0 F hr hlocks hK hp hW wX.rf (lv_sub hl [0, 1, 2, 3] rfl) hL_a0 hK_a0
def wp_X12_spellsWhole_21 (D : wD) (post : wS → Prop)  (S : wS) : Prop :=
post S
def wp_X12_spellsWhole_0 (D : wD) (post : wS → Prop)  (S : wS) (a0 : Nat) (x1 : Int32) : Prop :=
wp_X12_spellsAhead D (fun S_2 => 
wp_X12_endOf D (fun r_3 S_4 => 
((r_3 = 0 → wp_X12_spellsWhole_21 D post S_4) ∧
 (¬ r_3 = 0 → wp_X12_spells D (fun S_7 => 
wp_X12_spellsWhole_21 D post S_7) S_4 a0 x1 r_3))) S_2 a0 x1) S a0 x1
abbrev r_X12_spellsWhole : Room := { frames := 9, cells := 0, slots := 0, locals := 219 }
def wp_X12_spellsWhole (D : wD) (post : wS → Prop) (S : wS) (a0 : Nat) (x1 : Int32) : Prop := wp_X12_spellsWhole_0 D post S a0 x1
set_option maxHeartbeats 4000000 in
set_option maxRecDepth 100000 in
theorem t_X12_spellsWhole_21 {p : Program} {l : Launch} {e : Env} {s : State} {m : MethodId} {args : Array Value} {below : List Frame} {meth : Method} {c : Code} {D : wD} {cy : Nat → ClassId} {X : va_W} {A : Nat → Prop} {S0 : wS} {post : wS → Prop} (F : CallFix p m c cX12_spellsWhole 3 s args wz_X12_spellsWhole RX12) (hr : meth.sig.returnType = none) (hlocks : meth.locks = false) (hK : wK D cy A s) : ∀ {S : wS} {H : Heap} {locs : List Loc} {ls : Array Slot}, wp_X12_spellsWhole_21 D post S → wO D cy X A s.heap S H locs → wX D S0 S → lv_has ls 3 [] → W p l e r_X12_spellsWhole s m args below meth c H locs 0 0 (MQ below (va_Qv (fun S9 => wX D S0 S9 ∧ post S9) (wB D cy X A) A) args s 0 0 A) (F0 m 21 ls []) := by
  obtain ⟨hx, hb, hml, hown, hts⟩ := id F
  have hwg : ∀ w ∈ WG, w.before args s = true := fun w h => hts w (List.mem_cons_of_mem _ h)
  intro S H locs ls hp hW hE hl
  unfold wp_X12_spellsWhole_21 at hp
  exact w_vret hx hb hr hlocks hW ⟨hE, hp⟩ dX12_spellsWhole_21
set_option maxHeartbeats 4000000 in
set_option maxRecDepth 100000 in
theorem t_X12_spellsWhole_0 {p : Program} {l : Launch} {e : Env} {s : State} {m : MethodId} {args : Array Value} {below : List Frame} {meth : Method} {c : Code} {D : wD} {cy : Nat → ClassId} {X : va_W} {A : Nat → Prop} {S0 : wS} {post : wS → Prop} (F : CallFix p m c cX12_spellsWhole 3 s args wz_X12_spellsWhole RX12) (hr : meth.sig.returnType = none) (hlocks : meth.locks = false) (hK : wK D cy A s) : ∀ {S : wS} {H : Heap} {locs : List Loc} {ls : Array Slot} {a0 : Nat} {x1 : Int32}, wp_X12_spellsWhole_0 D post S a0 x1 → wO D cy X A s.heap S H locs → wX D S0 S → lv_has ls 3 [(0, .ref a0), (1, .int x1)] → wM D S a0 → sK S a0 = 17 → W p l e r_X12_spellsWhole s m args below meth c H locs 0 0 (MQ below (va_Qv (fun S9 => wX D S0 S9 ∧ post S9) (wB D cy X A) A) args s 0 0 A) (F0 m 0 ls []) := by
  obtain ⟨hx, hb, hml, hown, hts⟩ := id F
  have hwg : ∀ w ∈ WG, w.before args s = true := fun w h => hts w (List.mem_cons_of_mem _ h)
  intro S H locs ls a0 x1 hp hW hE hl hL_a0 hK_a0
  unfold wp_X12_spellsWhole_0 at hp
  refine lv_aload_n hx hb dX12_spellsWhole_0 rfl (lv_at hl 0 rfl) ?_
  refine lv_iload_n hx hb dX12_spellsWhole_1 rfl (lv_at hl 1 rfl) ?_
  refine w_callV (va_runV (As := [.int x1]) (rest := []) F (c_X12_spellsAhead l hL_a0 hK_a0 hp H.size) (cwV (C := RX12) 1 hts (wg_V wm_RX12_312 wy_X12_spellsAhead) rfl rfl rfl (by decide +kernel) ⟨Nat.le_of_ble_eq_true rfl, Nat.le_of_ble_eq_true rfl⟩) (w_preV hK hW hL_a0 hK_a0 (by decide) rfl) rfl rfl hl.1 rfl (lv_room (Nat.le_of_ble_eq_true rfl)) dX12_spellsWhole_2 ⟨Nat.le_of_ble_eq_true rfl, Nat.le_of_ble_eq_true rfl⟩) hW (fun S_2 H locs hp hW => ?_)
  obtain ⟨hX_S_2, hp⟩ := hp
  refine W.widen (k := 0) (n := 0) (by decide) (by decide) ?_
  have hE := hE.trans hX_S_2
  have hK_a0 : sK S_2 a0 = 17 := (hX_S_2.2 a0 hL_a0).1.trans hK_a0
  have hL_a0 : wM D S_2 a0 := hX_S_2.M hL_a0
  refine lv_aload_n hx hb dX12_spellsWhole_5 rfl (lv_at hl 0 rfl) ?_
  refine lv_iload_n hx hb dX12_spellsWhole_6 rfl (lv_at hl 1 rfl) ?_
  refine w_callI (va_runV (As := [.int x1]) (rest := []) F (c_X12_endOf l hL_a0 hK_a0 hp H.size) (cwV (C := RX12) 1 hts (wg_V wm_RX12_315 wy_X12_endOf) rfl rfl rfl (by decide +kernel) ⟨Nat.le_of_ble_eq_true rfl, Nat.le_of_ble_eq_true rfl⟩) (w_preV hK hW hL_a0 hK_a0 (by decide) rfl) rfl rfl hl.1 rfl (lv_room (Nat.le_of_ble_eq_true rfl)) dX12_spellsWhole_7 ⟨Nat.le_of_ble_eq_true rfl, Nat.le_of_ble_eq_true rfl⟩) hW (fun r_3 S_4 H locs hp hW => ?_)
  obtain ⟨hX_S_4, hp⟩ := hp
  refine W.widen (k := 0) (n := 0) (by decide) (by decide) ?_
  have hE := hE.trans hX_S_4
  have hK_a0 : sK S_4 a0 = 17 := (hX_S_4.2 a0 hL_a0).1.trans hK_a0
  have hL_a0 : wM D S_4 a0 := hX_S_4.M hL_a0
  refine lv_istore_n (lv' := [(2, .int r_3), (0, .ref a0), (1, .int x1)]) hx hb dX12_spellsWhole_10 rfl hl (by decide) rfl (fun ls hl => ?_)
  refine lv_iload_n hx hb dX12_spellsWhole_11 rfl (lv_at hl 0 rfl) ?_
  refine lv_if_eq (tgt := 21) hx hb dX12_spellsWhole_12 (by decide) (fun c_5 => ?_) (fun c_5 => ?_)
  · replace hp := hp.1 c_5
    exact t_X12_spellsWhole_21 F hr hlocks hK hp hW hE (lv_sub hl [] rfl)
  · replace hp := hp.2 c_5
    refine lv_aload_n hx hb dX12_spellsWhole_15 rfl (lv_at hl 1 rfl) ?_
    refine lv_iload_n hx hb dX12_spellsWhole_16 rfl (lv_at hl 2 rfl) ?_
    refine lv_iload_n hx hb dX12_spellsWhole_17 rfl (lv_at hl 0 rfl) ?_
    refine w_callV (va_runV (As := [.int x1, .int r_3]) (rest := []) F (c_X12_spells l hL_a0 hK_a0 hp H.size) (cwV (C := RX12) 2 hts (wg_V wm_RX12_296 wy_X12_spells) rfl rfl rfl (by decide +kernel) ⟨Nat.le_of_ble_eq_true rfl, Nat.le_of_ble_eq_true rfl⟩) (w_preV hK hW hL_a0 hK_a0 (by decide) rfl) rfl rfl hl.1 rfl (lv_room (Nat.le_of_ble_eq_true rfl)) dX12_spellsWhole_18 ⟨Nat.le_of_ble_eq_true rfl, Nat.le_of_ble_eq_true rfl⟩) hW (fun S_7 H locs hp hW => ?_)
    obtain ⟨hX_S_7, hp⟩ := hp
    refine W.widen (k := 0) (n := 0) (by decide) (by decide) ?_
    have hE := hE.trans hX_S_7
    have hK_a0 : sK S_7 a0 = 17 := (hX_S_7.2 a0 hL_a0).1.trans hK_a0
    have hL_a0 : wM D S_7 a0 := hX_S_7.M hL_a0
    exact t_X12_spellsWhole_21 F hr hlocks hK hp hW hE (lv_sub hl [] rfl)
set_option maxHeartbeats 4000000 in
set_option maxRecDepth 100000 in
theorem c_X12_spellsWhole (l : Launch) {D : wD} {cy : Nat → ClassId} {X : va_W} {S0 : wS} {post : wS → Prop} {a0 : Nat} {x1 : Int32} (hL_a0 : wM D S0 a0) (hK_a0 : sK S0 a0 = 17) (hp : wp_X12_spellsWhole D post S0 a0 x1) : mV D cy X l yX12_spellsWhole wz_X12_spellsWhole r_X12_spellsWhole [.ref a0, .int x1] S0 (fun S9 => wX D S0 S9 ∧ post S9) := by
  intro sz
  refine Met.ofW (cc := cX12_spellsWhole) (maxL := 3) (ret := none) (by decide) rfl ?_
  intro p e s m args below meth c s₁ B hml hv
  obtain ⟨rfl, hsz, hP, hK, hD0, hRO⟩ := hv
  have hts := atoms_spec (ws := wz_X12_spellsWhole) B.pre
  have hown : s.vm.findClass RX12 = some m.cls := findClass_of_methodNamed B.named
  subst hsz
  have hD := hD0.self (sz := s.heap.size)
  have F : CallFix p m c cX12_spellsWhole 3 s _ wz_X12_spellsWhole RX12 := ⟨B.exec, B.bytes, hml, hown, hts⟩
  have hr := B.returns
  have hlocks := B.notSynchronized
  generalize hAe : va_A (wL cy X S0) s.heap.size = A at hD hK ⊢
  have hA : ∀ q, s.heap.size ≤ q → A q := fun q h => by rw [← hAe]; exact Or.inr h
  have hW : wO D cy X A s.heap S0 s.heap [] := ⟨hP, hD, va_S.rf, hA, hRO⟩
  have hl := lv_entry ([.ref a0, .int x1]) (n := 3) (Nat.le_of_ble_eq_true rfl)
  rw [lg_entry_eq]
  generalize (lg_sl ([.ref a0, .int x1]) ++ List.replicate (3 - (lg_sl ([.ref a0, .int x1])).length) Slot.unset).toArray = ls at hl ⊢
  have hl : lv_has ls 3 [(0, .ref a0), (1, .int x1)] := hl
  unfold wp_X12_spellsWhole at hp
  exact t_X12_spellsWhole_0 F hr hlocks hK hp hW wX.rf (lv_sub hl [0, 1] rfl) hL_a0 hK_a0
def wp_X12_laysContinuations_88 (D : wD) (post : wS → Prop) (k_11 : wS → Nat → Int32 → Int32 → Prop) (S : wS) (a0 : Nat) (x1 : Int32) (x2 : Int32) : Prop :=
∀ x_1 : Int32, x_1 = x2 + 1 →
k_11 S a0 x1 x_1
def wp_X12_laysContinuations_66 (D : wD) (post : wS → Prop) (k_11 : wS → Nat → Int32 → Int32 → Prop) (k_30 : wS → Nat → Int32 → Int32 → Int32 → Prop) (S : wS) (a0 : Nat) (x1 : Int32) (x2 : Int32) (x3 : Int32) (b0 : Nat) (t1 : Int32) (t2 : Int32) (t3 : Int32) : Prop :=
b0 ∈ sL S ∧ vp_in t1 (sN S b0) ∧
∀ S_2 : wS, S_2 = uI S b0 (t1).toNatClampNeg (t2 + t3) →
∀ x_3 : Int32, x_3 = x3 + 1 →
k_30 S_2 a0 x1 x2 x_3
def wp_X12_laysContinuations_30 (D : wD) (post : wS → Prop) (k_11 : wS → Nat → Int32 → Int32 → Prop) : Nat → wS → Nat → Int32 → Int32 → Int32 → Prop
  | 0, _, _, _, _, _ => False
  | n + 1, S, a0, x1, x2, x3 =>
    ∃ y_1 : Nat, sR S a0 30 = some y_1 ∧ wM D S y_1 ∧ sK S y_1 = 21 ∧
    vp_in x1 (sN S y_1) ∧
    (((sI S y_1 (x1).toNatClampNeg) ≤ x3 → ∃ y_4 : Nat, sR S a0 19 = some y_4 ∧ wM D S y_4 ∧ sK S y_4 = 21 ∧
    vp_in x2 (sN S y_4) ∧
    (((sI S y_4 (x2).toNatClampNeg) ≤ 0 → wp_X12_laysContinuations_88 D post k_11 S a0 x1 x2) ∧
     (¬ (sI S y_4 (x2).toNatClampNeg) ≤ 0 → wp_X12_spellsWhole D (fun S_8 => 
    wp_X12_laysContinuations_88 D post k_11 S_8 a0 x1 x2) S a0 x2))) ∧
     (¬ (sI S y_1 (x1).toNatClampNeg) ≤ x3 → ∃ y_9 : Nat, sR S a0 19 = some y_9 ∧ wM D S y_9 ∧ sK S y_9 = 21 ∧
    vp_in x2 (sN S y_9) ∧
    wp_X12_codeOf D (fun r_11 S_12 => 
    wp_X12_madeHere D (fun r_13 S_14 => 
    ((r_13 = 0 → wp_X12_laysContinuations_66 D post k_11 (wp_X12_laysContinuations_30 D post k_11 n) S_14 a0 x1 x2 x3 y_9 x2 (sI S y_9 (x2).toNatClampNeg) (0 : Int32)) ∧
     (¬ r_13 = 0 → wp_X12_laysContinuations_66 D post k_11 (wp_X12_laysContinuations_30 D post k_11 n) S_14 a0 x1 x2 x3 y_9 x2 (sI S y_9 (x2).toNatClampNeg) (1 : Int32)))) S_12 a0 x1 x3 r_11) S a0 x2))
def wp_X12_laysContinuations_11 (D : wD) (post : wS → Prop)  : Nat → wS → Nat → Int32 → Int32 → Prop
  | 0, _, _, _, _ => False
  | n + 1, S, a0, x1, x2 =>
    ∃ y_1 : Nat, sR S a0 7 = some y_1 ∧ wM D S y_1 ∧ sK S y_1 = 21 ∧
    vp_in (0 : Int32) (sN S y_1) ∧
    (((sI S y_1 ((0 : Int32)).toNatClampNeg) ≤ x2 → post S) ∧
     (¬ (sI S y_1 ((0 : Int32)).toNatClampNeg) ≤ x2 → ∃ y_4 : Nat, sR S a0 19 = some y_4 ∧ wM D S y_4 ∧ sK S y_4 = 21 ∧
    y_4 ∈ sL S ∧ vp_in x2 (sN S y_4) ∧
    ∀ S_6 : wS, S_6 = uI S y_4 (x2).toNatClampNeg (0 : Int32) →
    ∃ n_7 : Nat, wp_X12_laysContinuations_30 D post (wp_X12_laysContinuations_11 D post n) n_7 S_6 a0 x1 x2 (0 : Int32)))
def wp_X12_laysContinuations_0 (D : wD) (post : wS → Prop)  (S : wS) (a0 : Nat) (x1 : Int32) : Prop :=
wp_X12_loads D (fun S_2 => 
wp_X12_moves D (fun S_4 => 
∃ n_5 : Nat, wp_X12_laysContinuations_11 D post n_5 S_4 a0 x1 (0 : Int32)) S_2 a0 (0 : Int32)) S a0
abbrev r_X12_laysContinuations : Room := { frames := 10, cells := 0, slots := 0, locals := 241 }
def wp_X12_laysContinuations (D : wD) (post : wS → Prop) (S : wS) (a0 : Nat) (x1 : Int32) : Prop := wp_X12_laysContinuations_0 D post S a0 x1
set_option maxHeartbeats 4000000 in
set_option maxRecDepth 100000 in
theorem t_X12_laysContinuations_88 {p : Program} {l : Launch} {e : Env} {s : State} {m : MethodId} {args : Array Value} {below : List Frame} {meth : Method} {c : Code} {D : wD} {cy : Nat → ClassId} {X : va_W} {A : Nat → Prop} {S0 : wS} {post : wS → Prop} (F : CallFix p m c cX12_laysContinuations 4 s args wz_X12_laysContinuations RX12) (hr : meth.sig.returnType = none) (hlocks : meth.locks = false) (hK : wK D cy A s) {k_11 : wS → Nat → Int32 → Int32 → Prop} (q_11 : ∀ {S : wS} {H : Heap} {locs : List Loc} {ls : Array Slot} {a0 : Nat} {x1 : Int32} {x2 : Int32}, k_11 S a0 x1 x2 → wO D cy X A s.heap S H locs → wX D S0 S → lv_has ls 4 [(0, .ref a0), (1, .int x1), (2, .int x2)] → wM D S a0 → sK S a0 = 17 → W p l e r_X12_laysContinuations s m args below meth c H locs 0 0 (MQ below (va_Qv (fun S9 => wX D S0 S9 ∧ post S9) (wB D cy X A) A) args s 0 0 A) (F0 m 11 ls [])) : ∀ {S : wS} {H : Heap} {locs : List Loc} {ls : Array Slot} {a0 : Nat} {x1 : Int32} {x2 : Int32}, wp_X12_laysContinuations_88 D post k_11 S a0 x1 x2 → wO D cy X A s.heap S H locs → wX D S0 S → lv_has ls 4 [(0, .ref a0), (1, .int x1), (2, .int x2)] → wM D S a0 → sK S a0 = 17 → W p l e r_X12_laysContinuations s m args below meth c H locs 0 0 (MQ below (va_Qv (fun S9 => wX D S0 S9 ∧ post S9) (wB D cy X A) A) args s 0 0 A) (F0 m 88 ls []) := by
  obtain ⟨hx, hb, hml, hown, hts⟩ := id F
  have hwg : ∀ w ∈ WG, w.before args s = true := fun w h => hts w (List.mem_cons_of_mem _ h)
  intro S H locs ls a0 x1 x2 hp hW hE hl hL_a0 hK_a0
  unfold wp_X12_laysContinuations_88 at hp
  obtain ⟨x_1, ex_1⟩ : ∃ z : Int32, z = x2 + 1 := ⟨_, rfl⟩
  replace hp := hp x_1 ex_1
  refine lv_iinc (v := x_1) (lv' := [(2, .int x_1), (0, .ref a0), (1, .int x1)]) hx hb dX12_laysContinuations_88 hl (k := 2) rfl (by rw [ex_1]; rfl) (by decide) rfl (fun ls hl => ?_)
  refine lv_goto (tgt := 11) hx hb dX12_laysContinuations_91 (by decide) ?_
  exact q_11 hp hW hE (lv_sub hl [1, 2, 0] rfl) hL_a0 hK_a0
set_option maxHeartbeats 4000000 in
set_option maxRecDepth 100000 in
theorem t_X12_laysContinuations_66 {p : Program} {l : Launch} {e : Env} {s : State} {m : MethodId} {args : Array Value} {below : List Frame} {meth : Method} {c : Code} {D : wD} {cy : Nat → ClassId} {X : va_W} {A : Nat → Prop} {S0 : wS} {post : wS → Prop} (F : CallFix p m c cX12_laysContinuations 4 s args wz_X12_laysContinuations RX12) (hr : meth.sig.returnType = none) (hlocks : meth.locks = false) (hK : wK D cy A s) {k_11 : wS → Nat → Int32 → Int32 → Prop} (q_11 : ∀ {S : wS} {H : Heap} {locs : List Loc} {ls : Array Slot} {a0 : Nat} {x1 : Int32} {x2 : Int32}, k_11 S a0 x1 x2 → wO D cy X A s.heap S H locs → wX D S0 S → lv_has ls 4 [(0, .ref a0), (1, .int x1), (2, .int x2)] → wM D S a0 → sK S a0 = 17 → W p l e r_X12_laysContinuations s m args below meth c H locs 0 0 (MQ below (va_Qv (fun S9 => wX D S0 S9 ∧ post S9) (wB D cy X A) A) args s 0 0 A) (F0 m 11 ls [])) {k_30 : wS → Nat → Int32 → Int32 → Int32 → Prop} (q_30 : ∀ {S : wS} {H : Heap} {locs : List Loc} {ls : Array Slot} {a0 : Nat} {x1 : Int32} {x2 : Int32} {x3 : Int32}, k_30 S a0 x1 x2 x3 → wO D cy X A s.heap S H locs → wX D S0 S → lv_has ls 4 [(0, .ref a0), (1, .int x1), (2, .int x2), (3, .int x3)] → wM D S a0 → sK S a0 = 17 → W p l e r_X12_laysContinuations s m args below meth c H locs 0 0 (MQ below (va_Qv (fun S9 => wX D S0 S9 ∧ post S9) (wB D cy X A) A) args s 0 0 A) (F0 m 30 ls [])) : ∀ {S : wS} {H : Heap} {locs : List Loc} {ls : Array Slot} {a0 : Nat} {x1 : Int32} {x2 : Int32} {x3 : Int32} {b0 : Nat} {t1 : Int32} {t2 : Int32} {t3 : Int32}, wp_X12_laysContinuations_66 D post k_11 k_30 S a0 x1 x2 x3 b0 t1 t2 t3 → wO D cy X A s.heap S H locs → wX D S0 S → lv_has ls 4 [(0, .ref a0), (1, .int x1), (2, .int x2), (3, .int x3)] → wM D S a0 → sK S a0 = 17 → wM D S b0 → sK S b0 = 21 → W p l e r_X12_laysContinuations s m args below meth c H locs 0 0 (MQ below (va_Qv (fun S9 => wX D S0 S9 ∧ post S9) (wB D cy X A) A) args s 0 0 A) (F0 m 66 ls [.int t3, .int t2, .int t1, .ref b0]) := by
  obtain ⟨hx, hb, hml, hown, hts⟩ := id F
  have hwg : ∀ w ∈ WG, w.before args s = true := fun w h => hts w (List.mem_cons_of_mem _ h)
  intro S H locs ls a0 x1 x2 x3 b0 t1 t2 t3 hp hW hE hl hL_a0 hK_a0 hL_b0 hK_b0
  unfold wp_X12_laysContinuations_66 at hp
  refine lv_iadd hx hb dX12_laysContinuations_66 ?_
  obtain ⟨h_1m, h_1, hp⟩ := hp
  refine w_ist F hK hW h_1m hK_b0 h_1 dX12_laysContinuations_67 (fun H locs hW => ?_)
  obtain ⟨S_2, eS_2⟩ : ∃ z : wS, z = uI S b0 (t1).toNatClampNeg (t2 + t3) := ⟨_, rfl⟩
  rw [← eS_2] at hW
  replace hp := hp S_2 eS_2
  have hX_S_2 : wX D S S_2 := by rw [eS_2]; exact wX_uI
  have hE := hE.trans hX_S_2
  have hK_a0 : sK S_2 a0 = 17 := (hX_S_2.2 a0 hL_a0).1.trans hK_a0
  have hL_a0 : wM D S_2 a0 := hX_S_2.M hL_a0
  obtain ⟨x_3, ex_3⟩ : ∃ z : Int32, z = x3 + 1 := ⟨_, rfl⟩
  replace hp := hp x_3 ex_3
  refine lv_iinc (v := x_3) (lv' := [(3, .int x_3), (0, .ref a0), (1, .int x1), (2, .int x2)]) hx hb dX12_laysContinuations_68 hl (k := 3) rfl (by rw [ex_3]; rfl) (by decide) rfl (fun ls hl => ?_)
  refine lv_goto (tgt := 30) hx hb dX12_laysContinuations_71 (by decide) ?_
  exact q_30 hp hW hE (lv_sub hl [1, 2, 3, 0] rfl) hL_a0 hK_a0
set_option maxHeartbeats 4000000 in
set_option maxRecDepth 100000 in
theorem t_X12_laysContinuations_30 {p : Program} {l : Launch} {e : Env} {s : State} {m : MethodId} {args : Array Value} {below : List Frame} {meth : Method} {c : Code} {D : wD} {cy : Nat → ClassId} {X : va_W} {A : Nat → Prop} {S0 : wS} {post : wS → Prop} (F : CallFix p m c cX12_laysContinuations 4 s args wz_X12_laysContinuations RX12) (hr : meth.sig.returnType = none) (hlocks : meth.locks = false) (hK : wK D cy A s) {k_11 : wS → Nat → Int32 → Int32 → Prop} (q_11 : ∀ {S : wS} {H : Heap} {locs : List Loc} {ls : Array Slot} {a0 : Nat} {x1 : Int32} {x2 : Int32}, k_11 S a0 x1 x2 → wO D cy X A s.heap S H locs → wX D S0 S → lv_has ls 4 [(0, .ref a0), (1, .int x1), (2, .int x2)] → wM D S a0 → sK S a0 = 17 → W p l e r_X12_laysContinuations s m args below meth c H locs 0 0 (MQ below (va_Qv (fun S9 => wX D S0 S9 ∧ post S9) (wB D cy X A) A) args s 0 0 A) (F0 m 11 ls [])) : ∀ (n : Nat) {S : wS} {H : Heap} {locs : List Loc} {ls : Array Slot} {a0 : Nat} {x1 : Int32} {x2 : Int32} {x3 : Int32}, wp_X12_laysContinuations_30 D post k_11 n S a0 x1 x2 x3 → wO D cy X A s.heap S H locs → wX D S0 S → lv_has ls 4 [(0, .ref a0), (1, .int x1), (2, .int x2), (3, .int x3)] → wM D S a0 → sK S a0 = 17 → W p l e r_X12_laysContinuations s m args below meth c H locs 0 0 (MQ below (va_Qv (fun S9 => wX D S0 S9 ∧ post S9) (wB D cy X A) A) args s 0 0 A) (F0 m 30 ls []) := by
  obtain ⟨hx, hb, hml, hown, hts⟩ := id F
  have hwg : ∀ w ∈ WG, w.before args s = true := fun w h => hts w (List.mem_cons_of_mem _ h)
  have i_17 : ∀ w ∈ u_ws RX12 TX12 43, w ∈ wz_X12_laysContinuations := fun w h => List.mem_cons_of_mem _ (wu_17 w h)
  have k_54 := hwg _ wf_RX12_54
  have k_69 := hwg _ wf_RX12_69
  intro n
  induction n with
  | zero =>
    intro S H locs ls a0 x1 x2 x3 hp
    exact hp.elim
  | succ n ih =>
    intro S H locs ls a0 x1 x2 x3 hp hW hE hl hL_a0 hK_a0
    unfold wp_X12_laysContinuations_30 at hp
    refine lv_iload_n hx hb dX12_laysContinuations_30 rfl (lv_at hl 3 rfl) ?_
    refine lv_aload_n hx hb dX12_laysContinuations_31 rfl (lv_at hl 0 rfl) ?_
    obtain ⟨y_1, ey_1, hL_y_1, hK_y_1, hp⟩ := hp
    refine w_get (k := 17) (f := 30) (T := TX12) (v := .ref y_1) F hK hW hL_a0 hK_a0 (by decide) rfl rfl (by decide) i_17 k_69 (by rw [show wv 17 30 S a0 = va_rf (sR S a0 30) from rfl, ey_1]; rfl) dX12_laysContinuations_32 ?_
    refine lv_iload_n hx hb dX12_laysContinuations_35 rfl (lv_at hl 1 rfl) ?_
    obtain ⟨h_2, hp⟩ := hp
    refine w_ild F hK hW hL_y_1 hK_y_1 h_2 dX12_laysContinuations_36 ?_
    refine lv_icmp_ge (tgt := 74) hx hb dX12_laysContinuations_37 (by decide) (fun c_3 => ?_) (fun c_3 => ?_)
    · replace hp := hp.1 c_3
      refine lv_aload_n hx hb dX12_laysContinuations_74 rfl (lv_at hl 0 rfl) ?_
      obtain ⟨y_4, ey_4, hL_y_4, hK_y_4, hp⟩ := hp
      refine w_get (k := 17) (f := 19) (T := TX12) (v := .ref y_4) F hK hW hL_a0 hK_a0 (by decide) rfl rfl (by decide) i_17 k_54 (by rw [show wv 17 19 S a0 = va_rf (sR S a0 19) from rfl, ey_4]; rfl) dX12_laysContinuations_75 ?_
      refine lv_iload_n hx hb dX12_laysContinuations_78 rfl (lv_at hl 2 rfl) ?_
      obtain ⟨h_5, hp⟩ := hp
      refine w_ild F hK hW hL_y_4 hK_y_4 h_5 dX12_laysContinuations_79 ?_
      refine lv_if_le (tgt := 88) hx hb dX12_laysContinuations_80 (by decide) (fun c_6 => ?_) (fun c_6 => ?_)
      · replace hp := hp.1 c_6
        exact t_X12_laysContinuations_88 F hr hlocks hK q_11 hp hW hE (lv_sub hl [0, 1, 2] rfl) hL_a0 hK_a0
      · replace hp := hp.2 c_6
        refine lv_aload_n hx hb dX12_laysContinuations_83 rfl (lv_at hl 0 rfl) ?_
        refine lv_iload_n hx hb dX12_laysContinuations_84 rfl (lv_at hl 2 rfl) ?_
        refine w_callV (va_runV (As := [.int x2]) (rest := []) F (c_X12_spellsWhole l hL_a0 hK_a0 hp H.size) (cwV (C := RX12) 1 hts (wg_V wm_RX12_318 wy_X12_spellsWhole) rfl rfl rfl (by decide +kernel) ⟨Nat.le_of_ble_eq_true rfl, Nat.le_of_ble_eq_true rfl⟩) (w_preV hK hW hL_a0 hK_a0 (by decide) rfl) rfl rfl hl.1 rfl (lv_room (Nat.le_of_ble_eq_true rfl)) dX12_laysContinuations_85 ⟨Nat.le_of_ble_eq_true rfl, Nat.le_of_ble_eq_true rfl⟩) hW (fun S_8 H locs hp hW => ?_)
        obtain ⟨hX_S_8, hp⟩ := hp
        refine W.widen (k := 0) (n := 0) (by decide) (by decide) ?_
        have hE := hE.trans hX_S_8
        have hK_a0 : sK S_8 a0 = 17 := (hX_S_8.2 a0 hL_a0).1.trans hK_a0
        have hL_a0 : wM D S_8 a0 := hX_S_8.M hL_a0
        exact t_X12_laysContinuations_88 F hr hlocks hK q_11 hp hW hE (lv_sub hl [0, 1, 2] rfl) hL_a0 hK_a0
    · replace hp := hp.2 c_3
      refine lv_aload_n hx hb dX12_laysContinuations_40 rfl (lv_at hl 0 rfl) ?_
      obtain ⟨y_9, ey_9, hL_y_9, hK_y_9, hp⟩ := hp
      refine w_get (k := 17) (f := 19) (T := TX12) (v := .ref y_9) F hK hW hL_a0 hK_a0 (by decide) rfl rfl (by decide) i_17 k_54 (by rw [show wv 17 19 S a0 = va_rf (sR S a0 19) from rfl, ey_9]; rfl) dX12_laysContinuations_41 ?_
      refine lv_iload_n hx hb dX12_laysContinuations_44 rfl (lv_at hl 2 rfl) ?_
      refine lv_dup2_11 hx hb dX12_laysContinuations_45 rfl rfl ?_
      obtain ⟨h_10, hp⟩ := hp
      refine w_ild F hK hW hL_y_9 hK_y_9 h_10 dX12_laysContinuations_46 ?_
      refine lv_aload_n hx hb dX12_laysContinuations_47 rfl (lv_at hl 0 rfl) ?_
      refine lv_iload_n hx hb dX12_laysContinuations_48 rfl (lv_at hl 1 rfl) ?_
      refine lv_iload_n hx hb dX12_laysContinuations_49 rfl (lv_at hl 3 rfl) ?_
      refine lv_aload_n hx hb dX12_laysContinuations_50 rfl (lv_at hl 0 rfl) ?_
      refine lv_iload_n hx hb dX12_laysContinuations_51 rfl (lv_at hl 2 rfl) ?_
      refine w_callI (va_runV (As := [.int x2]) (rest := [.int x3, .int x1, .ref a0, .int (sI S y_9 (x2).toNatClampNeg), .int x2, .ref y_9]) F (c_X12_codeOf l hL_a0 hK_a0 hp H.size) (cwV (C := RX12) 1 hts (wg_V wm_RX12_321 wy_X12_codeOf) rfl rfl rfl (by decide +kernel) ⟨Nat.le_of_ble_eq_true rfl, Nat.le_of_ble_eq_true rfl⟩) (w_preV hK hW hL_a0 hK_a0 (by decide) rfl) rfl rfl hl.1 rfl (lv_room (Nat.le_of_ble_eq_true rfl)) dX12_laysContinuations_52 ⟨Nat.le_of_ble_eq_true rfl, Nat.le_of_ble_eq_true rfl⟩) hW (fun r_11 S_12 H locs hp hW => ?_)
      obtain ⟨hX_S_12, hp⟩ := hp
      refine W.widen (k := 0) (n := 0) (by decide) (by decide) ?_
      have hE := hE.trans hX_S_12
      have hK_a0 : sK S_12 a0 = 17 := (hX_S_12.2 a0 hL_a0).1.trans hK_a0
      have hL_a0 : wM D S_12 a0 := hX_S_12.M hL_a0
      have hK_y_9 : sK S_12 y_9 = 21 := (hX_S_12.2 y_9 hL_y_9).1.trans hK_y_9
      have hL_y_9 : wM D S_12 y_9 := hX_S_12.M hL_y_9
      refine w_callI (va_runV (As := [.int x1, .int x3, .int r_11]) (rest := [.int (sI S y_9 (x2).toNatClampNeg), .int x2, .ref y_9]) F (c_X12_madeHere l hL_a0 hK_a0 hp H.size) (cwV (C := RX12) 3 hts (wg_V wm_RX12_434 wy_X12_madeHere) rfl rfl rfl (by decide +kernel) ⟨Nat.le_of_ble_eq_true rfl, Nat.le_of_ble_eq_true rfl⟩) (w_preV hK hW hL_a0 hK_a0 (by decide) rfl) rfl rfl hl.1 rfl (lv_room (Nat.le_of_ble_eq_true rfl)) dX12_laysContinuations_55 ⟨Nat.le_of_ble_eq_true rfl, Nat.le_of_ble_eq_true rfl⟩) hW (fun r_13 S_14 H locs hp hW => ?_)
      obtain ⟨hX_S_14, hp⟩ := hp
      refine W.widen (k := 0) (n := 0) (by decide) (by decide) ?_
      have hE := hE.trans hX_S_14
      have hK_a0 : sK S_14 a0 = 17 := (hX_S_14.2 a0 hL_a0).1.trans hK_a0
      have hL_a0 : wM D S_14 a0 := hX_S_14.M hL_a0
      have hK_y_9 : sK S_14 y_9 = 21 := (hX_S_14.2 y_9 hL_y_9).1.trans hK_y_9
      have hL_y_9 : wM D S_14 y_9 := hX_S_14.M hL_y_9
      refine lv_if_eq (tgt := 65) hx hb dX12_laysContinuations_58 (by decide) (fun c_15 => ?_) (fun c_15 => ?_)
      · replace hp := hp.1 c_15
        refine lv_iconst (v := 0) hx hb dX12_laysContinuations_65 (by decide) ?_
        exact t_X12_laysContinuations_66 F hr hlocks hK q_11 ih hp hW hE (lv_sub hl [0, 1, 2, 3] rfl) hL_a0 hK_a0 hL_y_9 hK_y_9
      · replace hp := hp.2 c_15
        refine lv_iconst (v := 1) hx hb dX12_laysContinuations_61 (by decide) ?_
        refine lv_goto (tgt := 66) hx hb dX12_laysContinuations_62 (by decide) ?_
        exact t_X12_laysContinuations_66 F hr hlocks hK q_11 ih hp hW hE (lv_sub hl [0, 1, 2, 3] rfl) hL_a0 hK_a0 hL_y_9 hK_y_9
set_option maxHeartbeats 4000000 in
set_option maxRecDepth 100000 in
theorem t_X12_laysContinuations_11 {p : Program} {l : Launch} {e : Env} {s : State} {m : MethodId} {args : Array Value} {below : List Frame} {meth : Method} {c : Code} {D : wD} {cy : Nat → ClassId} {X : va_W} {A : Nat → Prop} {S0 : wS} {post : wS → Prop} (F : CallFix p m c cX12_laysContinuations 4 s args wz_X12_laysContinuations RX12) (hr : meth.sig.returnType = none) (hlocks : meth.locks = false) (hK : wK D cy A s) : ∀ (n : Nat) {S : wS} {H : Heap} {locs : List Loc} {ls : Array Slot} {a0 : Nat} {x1 : Int32} {x2 : Int32}, wp_X12_laysContinuations_11 D post n S a0 x1 x2 → wO D cy X A s.heap S H locs → wX D S0 S → lv_has ls 4 [(0, .ref a0), (1, .int x1), (2, .int x2)] → wM D S a0 → sK S a0 = 17 → W p l e r_X12_laysContinuations s m args below meth c H locs 0 0 (MQ below (va_Qv (fun S9 => wX D S0 S9 ∧ post S9) (wB D cy X A) A) args s 0 0 A) (F0 m 11 ls []) := by
  obtain ⟨hx, hb, hml, hown, hts⟩ := id F
  have hwg : ∀ w ∈ WG, w.before args s = true := fun w h => hts w (List.mem_cons_of_mem _ h)
  have i_17 : ∀ w ∈ u_ws RX12 TX12 43, w ∈ wz_X12_laysContinuations := fun w h => List.mem_cons_of_mem _ (wu_17 w h)
  have k_29 := hwg _ wf_RX12_29
  have k_54 := hwg _ wf_RX12_54
  intro n
  induction n with
  | zero =>
    intro S H locs ls a0 x1 x2 hp
    exact hp.elim
  | succ n ih =>
    intro S H locs ls a0 x1 x2 hp hW hE hl hL_a0 hK_a0
    unfold wp_X12_laysContinuations_11 at hp
    refine lv_iload_n hx hb dX12_laysContinuations_11 rfl (lv_at hl 2 rfl) ?_
    refine lv_aload_n hx hb dX12_laysContinuations_12 rfl (lv_at hl 0 rfl) ?_
    obtain ⟨y_1, ey_1, hL_y_1, hK_y_1, hp⟩ := hp
    refine w_get (k := 17) (f := 7) (T := TX12) (v := .ref y_1) F hK hW hL_a0 hK_a0 (by decide) rfl rfl (by decide) i_17 k_29 (by rw [show wv 17 7 S a0 = va_rf (sR S a0 7) from rfl, ey_1]; rfl) dX12_laysContinuations_13 ?_
    refine lv_iconst (v := 0) hx hb dX12_laysContinuations_16 (by decide) ?_
    obtain ⟨h_2, hp⟩ := hp
    refine w_ild F hK hW hL_y_1 hK_y_1 h_2 dX12_laysContinuations_17 ?_
    refine lv_icmp_ge (tgt := 94) hx hb dX12_laysContinuations_18 (by decide) (fun c_3 => ?_) (fun c_3 => ?_)
    · replace hp := hp.1 c_3
      exact w_vret hx hb hr hlocks hW ⟨hE, hp⟩ dX12_laysContinuations_94
    · replace hp := hp.2 c_3
      refine lv_aload_n hx hb dX12_laysContinuations_21 rfl (lv_at hl 0 rfl) ?_
      obtain ⟨y_4, ey_4, hL_y_4, hK_y_4, hp⟩ := hp
      refine w_get (k := 17) (f := 19) (T := TX12) (v := .ref y_4) F hK hW hL_a0 hK_a0 (by decide) rfl rfl (by decide) i_17 k_54 (by rw [show wv 17 19 S a0 = va_rf (sR S a0 19) from rfl, ey_4]; rfl) dX12_laysContinuations_22 ?_
      refine lv_iload_n hx hb dX12_laysContinuations_25 rfl (lv_at hl 2 rfl) ?_
      refine lv_iconst (v := 0) hx hb dX12_laysContinuations_26 (by decide) ?_
      obtain ⟨h_5m, h_5, hp⟩ := hp
      refine w_ist F hK hW h_5m hK_y_4 h_5 dX12_laysContinuations_27 (fun H locs hW => ?_)
      obtain ⟨S_6, eS_6⟩ : ∃ z : wS, z = uI S y_4 (x2).toNatClampNeg (0 : Int32) := ⟨_, rfl⟩
      rw [← eS_6] at hW
      replace hp := hp S_6 eS_6
      have hX_S_6 : wX D S S_6 := by rw [eS_6]; exact wX_uI
      have hE := hE.trans hX_S_6
      have hK_a0 : sK S_6 a0 = 17 := (hX_S_6.2 a0 hL_a0).1.trans hK_a0
      have hL_a0 : wM D S_6 a0 := hX_S_6.M hL_a0
      refine lv_iconst (v := 0) hx hb dX12_laysContinuations_28 (by decide) ?_
      refine lv_istore_n (lv' := [(3, .int (0 : Int32)), (0, .ref a0), (1, .int x1), (2, .int x2)]) hx hb dX12_laysContinuations_29 rfl hl (by decide) rfl (fun ls hl => ?_)
      obtain ⟨n_7, hp⟩ := hp
      exact t_X12_laysContinuations_30 F hr hlocks hK ih n_7 hp hW hE (lv_sub hl [1, 2, 3, 0] rfl) hL_a0 hK_a0
set_option maxHeartbeats 4000000 in
set_option maxRecDepth 100000 in
theorem t_X12_laysContinuations_0 {p : Program} {l : Launch} {e : Env} {s : State} {m : MethodId} {args : Array Value} {below : List Frame} {meth : Method} {c : Code} {D : wD} {cy : Nat → ClassId} {X : va_W} {A : Nat → Prop} {S0 : wS} {post : wS → Prop} (F : CallFix p m c cX12_laysContinuations 4 s args wz_X12_laysContinuations RX12) (hr : meth.sig.returnType = none) (hlocks : meth.locks = false) (hK : wK D cy A s) : ∀ {S : wS} {H : Heap} {locs : List Loc} {ls : Array Slot} {a0 : Nat} {x1 : Int32}, wp_X12_laysContinuations_0 D post S a0 x1 → wO D cy X A s.heap S H locs → wX D S0 S → lv_has ls 4 [(0, .ref a0), (1, .int x1)] → wM D S a0 → sK S a0 = 17 → W p l e r_X12_laysContinuations s m args below meth c H locs 0 0 (MQ below (va_Qv (fun S9 => wX D S0 S9 ∧ post S9) (wB D cy X A) A) args s 0 0 A) (F0 m 0 ls []) := by
  obtain ⟨hx, hb, hml, hown, hts⟩ := id F
  have hwg : ∀ w ∈ WG, w.before args s = true := fun w h => hts w (List.mem_cons_of_mem _ h)
  intro S H locs ls a0 x1 hp hW hE hl hL_a0 hK_a0
  unfold wp_X12_laysContinuations_0 at hp
  refine lv_aload_n hx hb dX12_laysContinuations_0 rfl (lv_at hl 0 rfl) ?_
  refine w_callV (va_runV (As := []) (rest := []) F (c_X12_loads l hL_a0 hK_a0 hp H.size) (cwV (C := RX12) 0 hts (wg_V wm_RX12_192 wy_X12_loads) rfl rfl rfl (by decide +kernel) ⟨Nat.le_of_ble_eq_true rfl, Nat.le_of_ble_eq_true rfl⟩) (w_preV hK hW hL_a0 hK_a0 (by decide) rfl) rfl rfl hl.1 rfl (lv_room (Nat.le_of_ble_eq_true rfl)) dX12_laysContinuations_1 ⟨Nat.le_of_ble_eq_true rfl, Nat.le_of_ble_eq_true rfl⟩) hW (fun S_2 H locs hp hW => ?_)
  obtain ⟨hX_S_2, hp⟩ := hp
  refine W.widen (k := 0) (n := 0) (by decide) (by decide) ?_
  have hE := hE.trans hX_S_2
  have hK_a0 : sK S_2 a0 = 17 := (hX_S_2.2 a0 hL_a0).1.trans hK_a0
  have hL_a0 : wM D S_2 a0 := hX_S_2.M hL_a0
  refine lv_aload_n hx hb dX12_laysContinuations_4 rfl (lv_at hl 0 rfl) ?_
  refine lv_iconst (v := 0) hx hb dX12_laysContinuations_5 (by decide) ?_
  refine w_callV (va_runV (As := [.int (0 : Int32)]) (rest := []) F (c_X12_moves l hL_a0 hK_a0 hp H.size) (cwV (C := RX12) 1 hts (wg_V wm_RX12_233 wy_X12_moves) rfl rfl rfl (by decide +kernel) ⟨Nat.le_of_ble_eq_true rfl, Nat.le_of_ble_eq_true rfl⟩) (w_preV hK hW hL_a0 hK_a0 (by decide) rfl) rfl rfl hl.1 rfl (lv_room (Nat.le_of_ble_eq_true rfl)) dX12_laysContinuations_6 ⟨Nat.le_of_ble_eq_true rfl, Nat.le_of_ble_eq_true rfl⟩) hW (fun S_4 H locs hp hW => ?_)
  obtain ⟨hX_S_4, hp⟩ := hp
  refine W.widen (k := 0) (n := 0) (by decide) (by decide) ?_
  have hE := hE.trans hX_S_4
  have hK_a0 : sK S_4 a0 = 17 := (hX_S_4.2 a0 hL_a0).1.trans hK_a0
  have hL_a0 : wM D S_4 a0 := hX_S_4.M hL_a0
  refine lv_iconst (v := 0) hx hb dX12_laysContinuations_9 (by decide) ?_
  refine lv_istore_n (lv' := [(2, .int (0 : Int32)), (0, .ref a0), (1, .int x1)]) hx hb dX12_laysContinuations_10 rfl hl (by decide) rfl (fun ls hl => ?_)
  obtain ⟨n_5, hp⟩ := hp
  exact t_X12_laysContinuations_11 F hr hlocks hK n_5 hp hW hE (lv_sub hl [1, 2, 0] rfl) hL_a0 hK_a0
set_option maxHeartbeats 4000000 in
set_option maxRecDepth 100000 in
theorem c_X12_laysContinuations (l : Launch) {D : wD} {cy : Nat → ClassId} {X : va_W} {S0 : wS} {post : wS → Prop} {a0 : Nat} {x1 : Int32} (hL_a0 : wM D S0 a0) (hK_a0 : sK S0 a0 = 17) (hp : wp_X12_laysContinuations D post S0 a0 x1) : mV D cy X l yX12_laysContinuations wz_X12_laysContinuations r_X12_laysContinuations [.ref a0, .int x1] S0 (fun S9 => wX D S0 S9 ∧ post S9) := by
  intro sz
  refine Met.ofW (cc := cX12_laysContinuations) (maxL := 4) (ret := none) (by decide) rfl ?_
  intro p e s m args below meth c s₁ B hml hv
  obtain ⟨rfl, hsz, hP, hK, hD0, hRO⟩ := hv
  have hts := atoms_spec (ws := wz_X12_laysContinuations) B.pre
  have hown : s.vm.findClass RX12 = some m.cls := findClass_of_methodNamed B.named
  subst hsz
  have hD := hD0.self (sz := s.heap.size)
  have F : CallFix p m c cX12_laysContinuations 4 s _ wz_X12_laysContinuations RX12 := ⟨B.exec, B.bytes, hml, hown, hts⟩
  have hr := B.returns
  have hlocks := B.notSynchronized
  generalize hAe : va_A (wL cy X S0) s.heap.size = A at hD hK ⊢
  have hA : ∀ q, s.heap.size ≤ q → A q := fun q h => by rw [← hAe]; exact Or.inr h
  have hW : wO D cy X A s.heap S0 s.heap [] := ⟨hP, hD, va_S.rf, hA, hRO⟩
  have hl := lv_entry ([.ref a0, .int x1]) (n := 4) (Nat.le_of_ble_eq_true rfl)
  rw [lg_entry_eq]
  generalize (lg_sl ([.ref a0, .int x1]) ++ List.replicate (4 - (lg_sl ([.ref a0, .int x1])).length) Slot.unset).toArray = ls at hl ⊢
  have hl : lv_has ls 4 [(0, .ref a0), (1, .int x1)] := hl
  unfold wp_X12_laysContinuations at hp
  exact t_X12_laysContinuations_0 F hr hlocks hK hp hW wX.rf (lv_sub hl [0, 1] rfl) hL_a0 hK_a0
def wp_X12_asksContinuation_60 (D : wD) (post : Int32 → wS → Prop)  (S : wS) (t0 : Int32) : Prop :=
post t0 S
def wp_X12_asksContinuation_48 (D : wD) (post : Int32 → wS → Prop)  (S : wS) (x3 : Int32) (b0 : Nat) (t1 : Int32) : Prop :=
wp_X12_can D (fun r_1 S_2 => 
((r_1 = 0 → wp_X12_asksContinuation_60 D post S_2 (-1 : Int32)) ∧
 (¬ r_1 = 0 → wp_X12_asksContinuation_60 D post S_2 x3))) S b0 t1 (2 : Int32)
def wp_X12_asksContinuation_24 (D : wD) (post : Int32 → wS → Prop)  (S : wS) : Prop :=
post (-1 : Int32) S
def wp_X12_asksContinuation_0 (D : wD) (post : Int32 → wS → Prop)  (S : wS) (a0 : Nat) (x1 : Int32) (x2 : Int32) : Prop :=
wp_X12_isAskable D (fun r_1 S_2 => 
wp_X12_can D (fun r_3 S_4 => 
((r_3 = 0 → wp_X12_asksContinuation_24 D post S_4) ∧
 (¬ r_3 = 0 → wp_X12_isShelf D (fun r_6 S_7 => 
wp_X12_can D (fun r_8 S_9 => 
((¬ r_8 = 0 → wp_X12_laysContinuations D (fun S_12 => 
wp_X12_continuation D (fun r_13 S_14 => 
((r_13 = (-1 : Int32) → wp_X12_asksContinuation_48 D post S_14 r_13 a0 (0 : Int32)) ∧
 (¬ r_13 = (-1 : Int32) → wp_X12_asksContinuation_48 D post S_14 r_13 a0 (1 : Int32)))) S_12 a0 x2) S_9 a0 x1) ∧
 (r_8 = 0 → wp_X12_asksContinuation_24 D post S_9))) S_7 a0 r_6 (2 : Int32)) S_4 x1))) S_2 a0 r_1 (1 : Int32)) S a0
abbrev r_X12_asksContinuation : Room := { frames := 11, cells := 0, slots := 0, locals := 264 }
def wp_X12_asksContinuation (D : wD) (post : Int32 → wS → Prop) (S : wS) (a0 : Nat) (x1 : Int32) (x2 : Int32) : Prop := wp_X12_asksContinuation_0 D post S a0 x1 x2
set_option maxHeartbeats 4000000 in
set_option maxRecDepth 100000 in
theorem t_X12_asksContinuation_60 {p : Program} {l : Launch} {e : Env} {s : State} {m : MethodId} {args : Array Value} {below : List Frame} {meth : Method} {c : Code} {D : wD} {cy : Nat → ClassId} {X : va_W} {A : Nat → Prop} {S0 : wS} {post : Int32 → wS → Prop} (F : CallFix p m c cX12_asksContinuation 4 s args wz_X12_asksContinuation RX12) (hr : meth.sig.returnType = (some .int)) (hlocks : meth.locks = false) (hK : wK D cy A s) : ∀ {S : wS} {H : Heap} {locs : List Loc} {ls : Array Slot} {t0 : Int32}, wp_X12_asksContinuation_60 D post S t0 → wO D cy X A s.heap S H locs → wX D S0 S → lv_has ls 4 [] → W p l e r_X12_asksContinuation s m args below meth c H locs 0 0 (MQ below (va_Qi (fun r S9 => wX D S0 S9 ∧ post r S9) (wB D cy X A) A) args s 0 0 A) (F0 m 60 ls [.int t0]) := by
  obtain ⟨hx, hb, hml, hown, hts⟩ := id F
  have hwg : ∀ w ∈ WG, w.before args s = true := fun w h => hts w (List.mem_cons_of_mem _ h)
  intro S H locs ls t0 hp hW hE hl
  unfold wp_X12_asksContinuation_60 at hp
  exact w_iret hx hb hr hlocks hW ⟨hE, hp⟩ dX12_asksContinuation_60
set_option maxHeartbeats 4000000 in
set_option maxRecDepth 100000 in
theorem t_X12_asksContinuation_48 {p : Program} {l : Launch} {e : Env} {s : State} {m : MethodId} {args : Array Value} {below : List Frame} {meth : Method} {c : Code} {D : wD} {cy : Nat → ClassId} {X : va_W} {A : Nat → Prop} {S0 : wS} {post : Int32 → wS → Prop} (F : CallFix p m c cX12_asksContinuation 4 s args wz_X12_asksContinuation RX12) (hr : meth.sig.returnType = (some .int)) (hlocks : meth.locks = false) (hK : wK D cy A s) : ∀ {S : wS} {H : Heap} {locs : List Loc} {ls : Array Slot} {x3 : Int32} {b0 : Nat} {t1 : Int32}, wp_X12_asksContinuation_48 D post S x3 b0 t1 → wO D cy X A s.heap S H locs → wX D S0 S → lv_has ls 4 [(3, .int x3)] → wM D S b0 → sK S b0 = 17 → W p l e r_X12_asksContinuation s m args below meth c H locs 0 0 (MQ below (va_Qi (fun r S9 => wX D S0 S9 ∧ post r S9) (wB D cy X A) A) args s 0 0 A) (F0 m 48 ls [.int t1, .ref b0]) := by
  obtain ⟨hx, hb, hml, hown, hts⟩ := id F
  have hwg : ∀ w ∈ WG, w.before args s = true := fun w h => hts w (List.mem_cons_of_mem _ h)
  intro S H locs ls x3 b0 t1 hp hW hE hl hL_b0 hK_b0
  unfold wp_X12_asksContinuation_48 at hp
  refine lv_iconst (v := 2) hx hb dX12_asksContinuation_48 (by decide) ?_
  refine w_callI (va_runV (As := [.int t1, .int (2 : Int32)]) (rest := []) F (c_X12_can l hL_b0 hK_b0 hp H.size) (cwV (C := RX12) 2 hts (wg_V wm_RX12_237 wy_X12_can) rfl rfl rfl (by decide +kernel) ⟨Nat.le_of_ble_eq_true rfl, Nat.le_of_ble_eq_true rfl⟩) (w_preV hK hW hL_b0 hK_b0 (by decide) rfl) rfl rfl hl.1 rfl (lv_room (Nat.le_of_ble_eq_true rfl)) dX12_asksContinuation_49 ⟨Nat.le_of_ble_eq_true rfl, Nat.le_of_ble_eq_true rfl⟩) hW (fun r_1 S_2 H locs hp hW => ?_)
  obtain ⟨hX_S_2, hp⟩ := hp
  refine W.widen (k := 0) (n := 0) (by decide) (by decide) ?_
  have hE := hE.trans hX_S_2
  refine lv_if_eq (tgt := 59) hx hb dX12_asksContinuation_52 (by decide) (fun c_3 => ?_) (fun c_3 => ?_)
  · replace hp := hp.1 c_3
    refine lv_iconst (v := (-1)) hx hb dX12_asksContinuation_59 (by decide) ?_
    exact t_X12_asksContinuation_60 F hr hlocks hK hp hW hE (lv_sub hl [] rfl)
  · replace hp := hp.2 c_3
    refine lv_iload_n hx hb dX12_asksContinuation_55 rfl (lv_at hl 0 rfl) ?_
    refine lv_goto (tgt := 60) hx hb dX12_asksContinuation_56 (by decide) ?_
    exact t_X12_asksContinuation_60 F hr hlocks hK hp hW hE (lv_sub hl [] rfl)
set_option maxHeartbeats 4000000 in
set_option maxRecDepth 100000 in
theorem t_X12_asksContinuation_24 {p : Program} {l : Launch} {e : Env} {s : State} {m : MethodId} {args : Array Value} {below : List Frame} {meth : Method} {c : Code} {D : wD} {cy : Nat → ClassId} {X : va_W} {A : Nat → Prop} {S0 : wS} {post : Int32 → wS → Prop} (F : CallFix p m c cX12_asksContinuation 4 s args wz_X12_asksContinuation RX12) (hr : meth.sig.returnType = (some .int)) (hlocks : meth.locks = false) (hK : wK D cy A s) : ∀ {S : wS} {H : Heap} {locs : List Loc} {ls : Array Slot}, wp_X12_asksContinuation_24 D post S → wO D cy X A s.heap S H locs → wX D S0 S → lv_has ls 4 [] → W p l e r_X12_asksContinuation s m args below meth c H locs 0 0 (MQ below (va_Qi (fun r S9 => wX D S0 S9 ∧ post r S9) (wB D cy X A) A) args s 0 0 A) (F0 m 24 ls []) := by
  obtain ⟨hx, hb, hml, hown, hts⟩ := id F
  have hwg : ∀ w ∈ WG, w.before args s = true := fun w h => hts w (List.mem_cons_of_mem _ h)
  intro S H locs ls hp hW hE hl
  unfold wp_X12_asksContinuation_24 at hp
  refine lv_iconst (v := (-1)) hx hb dX12_asksContinuation_24 (by decide) ?_
  exact w_iret hx hb hr hlocks hW ⟨hE, hp⟩ dX12_asksContinuation_25
set_option maxHeartbeats 4000000 in
set_option maxRecDepth 100000 in
theorem t_X12_asksContinuation_0 {p : Program} {l : Launch} {e : Env} {s : State} {m : MethodId} {args : Array Value} {below : List Frame} {meth : Method} {c : Code} {D : wD} {cy : Nat → ClassId} {X : va_W} {A : Nat → Prop} {S0 : wS} {post : Int32 → wS → Prop} (F : CallFix p m c cX12_asksContinuation 4 s args wz_X12_asksContinuation RX12) (hr : meth.sig.returnType = (some .int)) (hlocks : meth.locks = false) (hK : wK D cy A s) : ∀ {S : wS} {H : Heap} {locs : List Loc} {ls : Array Slot} {a0 : Nat} {x1 : Int32} {x2 : Int32}, wp_X12_asksContinuation_0 D post S a0 x1 x2 → wO D cy X A s.heap S H locs → wX D S0 S → lv_has ls 4 [(0, .ref a0), (1, .int x1), (2, .int x2)] → wM D S a0 → sK S a0 = 17 → W p l e r_X12_asksContinuation s m args below meth c H locs 0 0 (MQ below (va_Qi (fun r S9 => wX D S0 S9 ∧ post r S9) (wB D cy X A) A) args s 0 0 A) (F0 m 0 ls []) := by
  obtain ⟨hx, hb, hml, hown, hts⟩ := id F
  have hwg : ∀ w ∈ WG, w.before args s = true := fun w h => hts w (List.mem_cons_of_mem _ h)
  intro S H locs ls a0 x1 x2 hp hW hE hl hL_a0 hK_a0
  unfold wp_X12_asksContinuation_0 at hp
  refine lv_aload_n hx hb dX12_asksContinuation_0 rfl (lv_at hl 0 rfl) ?_
  refine lv_aload_n hx hb dX12_asksContinuation_1 rfl (lv_at hl 0 rfl) ?_
  refine w_callI (va_runV (As := []) (rest := [.ref a0]) F (c_X12_isAskable l hL_a0 hK_a0 hp H.size) (cwV (C := RX12) 0 hts (wg_V wm_RX12_284 wy_X12_isAskable) rfl rfl rfl (by decide +kernel) ⟨Nat.le_of_ble_eq_true rfl, Nat.le_of_ble_eq_true rfl⟩) (w_preV hK hW hL_a0 hK_a0 (by decide) rfl) rfl rfl hl.1 rfl (lv_room (Nat.le_of_ble_eq_true rfl)) dX12_asksContinuation_2 ⟨Nat.le_of_ble_eq_true rfl, Nat.le_of_ble_eq_true rfl⟩) hW (fun r_1 S_2 H locs hp hW => ?_)
  obtain ⟨hX_S_2, hp⟩ := hp
  refine W.widen (k := 0) (n := 0) (by decide) (by decide) ?_
  have hE := hE.trans hX_S_2
  have hK_a0 : sK S_2 a0 = 17 := (hX_S_2.2 a0 hL_a0).1.trans hK_a0
  have hL_a0 : wM D S_2 a0 := hX_S_2.M hL_a0
  refine lv_iconst (v := 1) hx hb dX12_asksContinuation_5 (by decide) ?_
  refine w_callI (va_runV (As := [.int r_1, .int (1 : Int32)]) (rest := []) F (c_X12_can l hL_a0 hK_a0 hp H.size) (cwV (C := RX12) 2 hts (wg_V wm_RX12_237 wy_X12_can) rfl rfl rfl (by decide +kernel) ⟨Nat.le_of_ble_eq_true rfl, Nat.le_of_ble_eq_true rfl⟩) (w_preV hK hW hL_a0 hK_a0 (by decide) rfl) rfl rfl hl.1 rfl (lv_room (Nat.le_of_ble_eq_true rfl)) dX12_asksContinuation_6 ⟨Nat.le_of_ble_eq_true rfl, Nat.le_of_ble_eq_true rfl⟩) hW (fun r_3 S_4 H locs hp hW => ?_)
  obtain ⟨hX_S_4, hp⟩ := hp
  refine W.widen (k := 0) (n := 0) (by decide) (by decide) ?_
  have hE := hE.trans hX_S_4
  have hK_a0 : sK S_4 a0 = 17 := (hX_S_4.2 a0 hL_a0).1.trans hK_a0
  have hL_a0 : wM D S_4 a0 := hX_S_4.M hL_a0
  refine lv_if_eq (tgt := 24) hx hb dX12_asksContinuation_9 (by decide) (fun c_5 => ?_) (fun c_5 => ?_)
  · replace hp := hp.1 c_5
    exact t_X12_asksContinuation_24 F hr hlocks hK hp hW hE (lv_sub hl [] rfl)
  · replace hp := hp.2 c_5
    refine lv_aload_n hx hb dX12_asksContinuation_12 rfl (lv_at hl 0 rfl) ?_
    refine lv_iload_n hx hb dX12_asksContinuation_13 rfl (lv_at hl 1 rfl) ?_
    refine w_callI (va_runS (As := [.int x1]) (rest := [.ref a0]) F (c_X12_isShelf l hp H.size) (va_cwS 1 hts (wg_S wm_RX12_397 wy_X12_isShelf) rfl rfl rfl (by decide +kernel) ⟨Nat.le_of_ble_eq_true rfl, Nat.le_of_ble_eq_true rfl⟩) (w_preS hK hW) rfl rfl hl.1 rfl (lv_room (Nat.le_of_ble_eq_true rfl)) dX12_asksContinuation_14 ⟨Nat.le_of_ble_eq_true rfl, Nat.le_of_ble_eq_true rfl⟩) hW (fun r_6 S_7 H locs hp hW => ?_)
    obtain ⟨hX_S_7, hp⟩ := hp
    refine W.widen (k := 0) (n := 0) (by decide) (by decide) ?_
    have hE := hE.trans hX_S_7
    have hK_a0 : sK S_7 a0 = 17 := (hX_S_7.2 a0 hL_a0).1.trans hK_a0
    have hL_a0 : wM D S_7 a0 := hX_S_7.M hL_a0
    refine lv_iconst (v := 2) hx hb dX12_asksContinuation_17 (by decide) ?_
    refine w_callI (va_runV (As := [.int r_6, .int (2 : Int32)]) (rest := []) F (c_X12_can l hL_a0 hK_a0 hp H.size) (cwV (C := RX12) 2 hts (wg_V wm_RX12_237 wy_X12_can) rfl rfl rfl (by decide +kernel) ⟨Nat.le_of_ble_eq_true rfl, Nat.le_of_ble_eq_true rfl⟩) (w_preV hK hW hL_a0 hK_a0 (by decide) rfl) rfl rfl hl.1 rfl (lv_room (Nat.le_of_ble_eq_true rfl)) dX12_asksContinuation_18 ⟨Nat.le_of_ble_eq_true rfl, Nat.le_of_ble_eq_true rfl⟩) hW (fun r_8 S_9 H locs hp hW => ?_)
    obtain ⟨hX_S_9, hp⟩ := hp
    refine W.widen (k := 0) (n := 0) (by decide) (by decide) ?_
    have hE := hE.trans hX_S_9
    have hK_a0 : sK S_9 a0 = 17 := (hX_S_9.2 a0 hL_a0).1.trans hK_a0
    have hL_a0 : wM D S_9 a0 := hX_S_9.M hL_a0
    refine lv_if_ne (tgt := 26) hx hb dX12_asksContinuation_21 (by decide) (fun c_10 => ?_) (fun c_10 => ?_)
    · replace hp := hp.1 c_10
      refine lv_aload_n hx hb dX12_asksContinuation_26 rfl (lv_at hl 0 rfl) ?_
      refine lv_iload_n hx hb dX12_asksContinuation_27 rfl (lv_at hl 1 rfl) ?_
      refine w_callV (va_runV (As := [.int x1]) (rest := []) F (c_X12_laysContinuations l hL_a0 hK_a0 hp H.size) (cwV (C := RX12) 1 hts (wg_V wm_RX12_443 wy_X12_laysContinuations) rfl rfl rfl (by decide +kernel) ⟨Nat.le_of_ble_eq_true rfl, Nat.le_of_ble_eq_true rfl⟩) (w_preV hK hW hL_a0 hK_a0 (by decide) rfl) rfl rfl hl.1 rfl (lv_room (Nat.le_of_ble_eq_true rfl)) dX12_asksContinuation_28 ⟨Nat.le_of_ble_eq_true rfl, Nat.le_of_ble_eq_true rfl⟩) hW (fun S_12 H locs hp hW => ?_)
      obtain ⟨hX_S_12, hp⟩ := hp
      refine W.widen (k := 0) (n := 0) (by decide) (by decide) ?_
      have hE := hE.trans hX_S_12
      have hK_a0 : sK S_12 a0 = 17 := (hX_S_12.2 a0 hL_a0).1.trans hK_a0
      have hL_a0 : wM D S_12 a0 := hX_S_12.M hL_a0
      refine lv_aload_n hx hb dX12_asksContinuation_31 rfl (lv_at hl 0 rfl) ?_
      refine lv_iload_n hx hb dX12_asksContinuation_32 rfl (lv_at hl 2 rfl) ?_
      refine w_callI (va_runV (As := [.int x2]) (rest := []) F (c_X12_continuation l hL_a0 hK_a0 hp H.size) (cwV (C := RX12) 1 hts (wg_V wm_RX12_449 wy_X12_continuation) rfl rfl rfl (by decide +kernel) ⟨Nat.le_of_ble_eq_true rfl, Nat.le_of_ble_eq_true rfl⟩) (w_preV hK hW hL_a0 hK_a0 (by decide) rfl) rfl rfl hl.1 rfl (lv_room (Nat.le_of_ble_eq_true rfl)) dX12_asksContinuation_33 ⟨Nat.le_of_ble_eq_true rfl, Nat.le_of_ble_eq_true rfl⟩) hW (fun r_13 S_14 H locs hp hW => ?_)
      obtain ⟨hX_S_14, hp⟩ := hp
      refine W.widen (k := 0) (n := 0) (by decide) (by decide) ?_
      have hE := hE.trans hX_S_14
      have hK_a0 : sK S_14 a0 = 17 := (hX_S_14.2 a0 hL_a0).1.trans hK_a0
      have hL_a0 : wM D S_14 a0 := hX_S_14.M hL_a0
      refine lv_istore_n (lv' := [(3, .int r_13), (0, .ref a0), (1, .int x1), (2, .int x2)]) hx hb dX12_asksContinuation_36 rfl hl (by decide) rfl (fun ls hl => ?_)
      refine lv_aload_n hx hb dX12_asksContinuation_37 rfl (lv_at hl 1 rfl) ?_
      refine lv_iload_n hx hb dX12_asksContinuation_38 rfl (lv_at hl 0 rfl) ?_
      refine lv_iconst (v := (-1)) hx hb dX12_asksContinuation_39 (by decide) ?_
      refine lv_icmp_eq (tgt := 47) hx hb dX12_asksContinuation_40 (by decide) (fun c_15 => ?_) (fun c_15 => ?_)
      · replace hp := hp.1 c_15
        refine lv_iconst (v := 0) hx hb dX12_asksContinuation_47 (by decide) ?_
        exact t_X12_asksContinuation_48 F hr hlocks hK hp hW hE (lv_sub hl [0] rfl) hL_a0 hK_a0
      · replace hp := hp.2 c_15
        refine lv_iconst (v := 1) hx hb dX12_asksContinuation_43 (by decide) ?_
        refine lv_goto (tgt := 48) hx hb dX12_asksContinuation_44 (by decide) ?_
        exact t_X12_asksContinuation_48 F hr hlocks hK hp hW hE (lv_sub hl [0] rfl) hL_a0 hK_a0
    · replace hp := hp.2 c_10
      exact t_X12_asksContinuation_24 F hr hlocks hK hp hW hE (lv_sub hl [] rfl)
set_option maxHeartbeats 4000000 in
set_option maxRecDepth 100000 in
theorem c_X12_asksContinuation (l : Launch) {D : wD} {cy : Nat → ClassId} {X : va_W} {S0 : wS} {post : Int32 → wS → Prop} {a0 : Nat} {x1 : Int32} {x2 : Int32} (hL_a0 : wM D S0 a0) (hK_a0 : sK S0 a0 = 17) (hp : wp_X12_asksContinuation D post S0 a0 x1 x2) : mI D cy X l yX12_asksContinuation wz_X12_asksContinuation r_X12_asksContinuation [.ref a0, .int x1, .int x2] S0 (fun r S9 => wX D S0 S9 ∧ post r S9) := by
  intro sz
  refine Met.ofW (cc := cX12_asksContinuation) (maxL := 4) (ret := (some .int)) (by decide) rfl ?_
  intro p e s m args below meth c s₁ B hml hv
  obtain ⟨rfl, hsz, hP, hK, hD0, hRO⟩ := hv
  have hts := atoms_spec (ws := wz_X12_asksContinuation) B.pre
  have hown : s.vm.findClass RX12 = some m.cls := findClass_of_methodNamed B.named
  subst hsz
  have hD := hD0.self (sz := s.heap.size)
  have F : CallFix p m c cX12_asksContinuation 4 s _ wz_X12_asksContinuation RX12 := ⟨B.exec, B.bytes, hml, hown, hts⟩
  have hr := B.returns
  have hlocks := B.notSynchronized
  generalize hAe : va_A (wL cy X S0) s.heap.size = A at hD hK ⊢
  have hA : ∀ q, s.heap.size ≤ q → A q := fun q h => by rw [← hAe]; exact Or.inr h
  have hW : wO D cy X A s.heap S0 s.heap [] := ⟨hP, hD, va_S.rf, hA, hRO⟩
  have hl := lv_entry ([.ref a0, .int x1, .int x2]) (n := 4) (Nat.le_of_ble_eq_true rfl)
  rw [lg_entry_eq]
  generalize (lg_sl ([.ref a0, .int x1, .int x2]) ++ List.replicate (4 - (lg_sl ([.ref a0, .int x1, .int x2])).length) Slot.unset).toArray = ls at hl ⊢
  have hl : lv_has ls 4 [(0, .ref a0), (1, .int x1), (2, .int x2)] := hl
  unfold wp_X12_asksContinuation at hp
  exact t_X12_asksContinuation_0 F hr hlocks hK hp hW wX.rf (lv_sub hl [0, 1, 2] rfl) hL_a0 hK_a0
def wp_X12_checkers_74 (D : wD) (post : Int32 → wS → Prop) (k_32 : wS → Nat → Int32 → Int32 → Int32 → Int32 → Prop) (S : wS) (a0 : Nat) (x1 : Int32) (x2 : Int32) (x4 : Int32) (t0 : Int32) (t1 : Int32) : Prop :=
∀ x_1 : Int32, x_1 = (t0 + t1) →
∀ x_2 : Int32, x_2 = x4 + 1 →
k_32 S a0 x1 x2 x_1 x_2
def wp_X12_checkers_73 (D : wD) (post : Int32 → wS → Prop) (k_32 : wS → Nat → Int32 → Int32 → Int32 → Int32 → Prop) (S : wS) (a0 : Nat) (x1 : Int32) (x2 : Int32) (x4 : Int32) (t0 : Int32) : Prop :=
wp_X12_checkers_74 D post k_32 S a0 x1 x2 x4 t0 (0 : Int32)
def wp_X12_checkers_32 (D : wD) (post : Int32 → wS → Prop)  : Nat → wS → Nat → Int32 → Int32 → Int32 → Int32 → Prop
  | 0, _, _, _, _, _, _ => False
  | n + 1, S, a0, x1, x2, x3, x4 =>
    wp_X12_squares D (fun r_1 S_2 => 
    ((r_1 ≤ x4 → post x3 S_2) ∧
     (¬ r_1 ≤ x4 → wp_X12_on D (fun r_4 S_5 => 
    wp_X12_isOf D (fun r_6 S_7 => 
    ((r_6 = 0 → wp_X12_checkers_73 D post (wp_X12_checkers_32 D post n) S_7 a0 x1 x2 x4 x3) ∧
     (¬ r_6 = 0 → wp_X12_attacks D (fun r_9 S_10 => 
    ((r_9 = 0 → wp_X12_checkers_73 D post (wp_X12_checkers_32 D post n) S_10 a0 x1 x2 x4 x3) ∧
     (¬ r_9 = 0 → wp_X12_checkers_74 D post (wp_X12_checkers_32 D post n) S_10 a0 x1 x2 x4 x3 (1 : Int32)))) S_7 a0 (0 : Int32) x4 x2))) S_5 r_4 ((1 : Int32) - x1)) S_2 a0 (0 : Int32) x4))) S a0
def wp_X12_checkers_0 (D : wD) (post : Int32 → wS → Prop)  (S : wS) (a0 : Nat) : Prop :=
wp_X12_isAskable D (fun r_1 S_2 => 
wp_X12_can D (fun r_3 S_4 => 
((¬ r_3 = 0 → wp_X12_side D (fun r_6 S_7 => 
wp_X12_kingOf D (fun r_8 S_9 => 
∃ n_10 : Nat, wp_X12_checkers_32 D post n_10 S_9 a0 r_6 r_8 (0 : Int32) (0 : Int32)) S_7 a0 (0 : Int32) r_6) S_4 a0 (0 : Int32)) ∧
 (r_3 = 0 → post (0 : Int32) S_4))) S_2 a0 r_1 (1 : Int32)) S a0
abbrev r_X12_checkers : Room := { frames := 7, cells := 0, slots := 0, locals := 164 }
def wp_X12_checkers (D : wD) (post : Int32 → wS → Prop) (S : wS) (a0 : Nat) : Prop := wp_X12_checkers_0 D post S a0
set_option maxHeartbeats 4000000 in
set_option maxRecDepth 100000 in
theorem t_X12_checkers_74 {p : Program} {l : Launch} {e : Env} {s : State} {m : MethodId} {args : Array Value} {below : List Frame} {meth : Method} {c : Code} {D : wD} {cy : Nat → ClassId} {X : va_W} {A : Nat → Prop} {S0 : wS} {post : Int32 → wS → Prop} (F : CallFix p m c cX12_checkers 5 s args wz_X12_checkers RX12) (hr : meth.sig.returnType = (some .int)) (hlocks : meth.locks = false) (hK : wK D cy A s) {k_32 : wS → Nat → Int32 → Int32 → Int32 → Int32 → Prop} (q_32 : ∀ {S : wS} {H : Heap} {locs : List Loc} {ls : Array Slot} {a0 : Nat} {x1 : Int32} {x2 : Int32} {x3 : Int32} {x4 : Int32}, k_32 S a0 x1 x2 x3 x4 → wO D cy X A s.heap S H locs → wX D S0 S → lv_has ls 5 [(0, .ref a0), (1, .int x1), (2, .int x2), (3, .int x3), (4, .int x4)] → wM D S a0 → sK S a0 = 17 → W p l e r_X12_checkers s m args below meth c H locs 0 0 (MQ below (va_Qi (fun r S9 => wX D S0 S9 ∧ post r S9) (wB D cy X A) A) args s 0 0 A) (F0 m 32 ls [])) : ∀ {S : wS} {H : Heap} {locs : List Loc} {ls : Array Slot} {a0 : Nat} {x1 : Int32} {x2 : Int32} {x4 : Int32} {t0 : Int32} {t1 : Int32}, wp_X12_checkers_74 D post k_32 S a0 x1 x2 x4 t0 t1 → wO D cy X A s.heap S H locs → wX D S0 S → lv_has ls 5 [(0, .ref a0), (1, .int x1), (2, .int x2), (4, .int x4)] → wM D S a0 → sK S a0 = 17 → W p l e r_X12_checkers s m args below meth c H locs 0 0 (MQ below (va_Qi (fun r S9 => wX D S0 S9 ∧ post r S9) (wB D cy X A) A) args s 0 0 A) (F0 m 74 ls [.int t1, .int t0]) := by
  obtain ⟨hx, hb, hml, hown, hts⟩ := id F
  have hwg : ∀ w ∈ WG, w.before args s = true := fun w h => hts w (List.mem_cons_of_mem _ h)
  intro S H locs ls a0 x1 x2 x4 t0 t1 hp hW hE hl hL_a0 hK_a0
  unfold wp_X12_checkers_74 at hp
  refine lv_iadd hx hb dX12_checkers_74 ?_
  refine lv_topi (fun x_1 ex_1 => ?_)
  replace hp := hp x_1 ex_1
  refine lv_istore_n (lv' := [(3, .int x_1), (0, .ref a0), (1, .int x1), (2, .int x2), (4, .int x4)]) hx hb dX12_checkers_75 rfl hl (by decide) rfl (fun ls hl => ?_)
  obtain ⟨x_2, ex_2⟩ : ∃ z : Int32, z = x4 + 1 := ⟨_, rfl⟩
  replace hp := hp x_2 ex_2
  refine lv_iinc (v := x_2) (lv' := [(4, .int x_2), (3, .int x_1), (0, .ref a0), (1, .int x1), (2, .int x2)]) hx hb dX12_checkers_76 hl (k := 4) rfl (by rw [ex_2]; rfl) (by decide) rfl (fun ls hl => ?_)
  refine lv_goto (tgt := 32) hx hb dX12_checkers_79 (by decide) ?_
  exact q_32 hp hW hE (lv_sub hl [2, 3, 4, 1, 0] rfl) hL_a0 hK_a0
set_option maxHeartbeats 4000000 in
set_option maxRecDepth 100000 in
theorem t_X12_checkers_73 {p : Program} {l : Launch} {e : Env} {s : State} {m : MethodId} {args : Array Value} {below : List Frame} {meth : Method} {c : Code} {D : wD} {cy : Nat → ClassId} {X : va_W} {A : Nat → Prop} {S0 : wS} {post : Int32 → wS → Prop} (F : CallFix p m c cX12_checkers 5 s args wz_X12_checkers RX12) (hr : meth.sig.returnType = (some .int)) (hlocks : meth.locks = false) (hK : wK D cy A s) {k_32 : wS → Nat → Int32 → Int32 → Int32 → Int32 → Prop} (q_32 : ∀ {S : wS} {H : Heap} {locs : List Loc} {ls : Array Slot} {a0 : Nat} {x1 : Int32} {x2 : Int32} {x3 : Int32} {x4 : Int32}, k_32 S a0 x1 x2 x3 x4 → wO D cy X A s.heap S H locs → wX D S0 S → lv_has ls 5 [(0, .ref a0), (1, .int x1), (2, .int x2), (3, .int x3), (4, .int x4)] → wM D S a0 → sK S a0 = 17 → W p l e r_X12_checkers s m args below meth c H locs 0 0 (MQ below (va_Qi (fun r S9 => wX D S0 S9 ∧ post r S9) (wB D cy X A) A) args s 0 0 A) (F0 m 32 ls [])) : ∀ {S : wS} {H : Heap} {locs : List Loc} {ls : Array Slot} {a0 : Nat} {x1 : Int32} {x2 : Int32} {x4 : Int32} {t0 : Int32}, wp_X12_checkers_73 D post k_32 S a0 x1 x2 x4 t0 → wO D cy X A s.heap S H locs → wX D S0 S → lv_has ls 5 [(0, .ref a0), (1, .int x1), (2, .int x2), (4, .int x4)] → wM D S a0 → sK S a0 = 17 → W p l e r_X12_checkers s m args below meth c H locs 0 0 (MQ below (va_Qi (fun r S9 => wX D S0 S9 ∧ post r S9) (wB D cy X A) A) args s 0 0 A) (F0 m 73 ls [.int t0]) := by
  obtain ⟨hx, hb, hml, hown, hts⟩ := id F
  have hwg : ∀ w ∈ WG, w.before args s = true := fun w h => hts w (List.mem_cons_of_mem _ h)
  intro S H locs ls a0 x1 x2 x4 t0 hp hW hE hl hL_a0 hK_a0
  unfold wp_X12_checkers_73 at hp
  refine lv_iconst (v := 0) hx hb dX12_checkers_73 (by decide) ?_
  exact t_X12_checkers_74 F hr hlocks hK q_32 hp hW hE (lv_sub hl [0, 1, 2, 3] rfl) hL_a0 hK_a0
set_option maxHeartbeats 4000000 in
set_option maxRecDepth 100000 in
theorem t_X12_checkers_32 {p : Program} {l : Launch} {e : Env} {s : State} {m : MethodId} {args : Array Value} {below : List Frame} {meth : Method} {c : Code} {D : wD} {cy : Nat → ClassId} {X : va_W} {A : Nat → Prop} {S0 : wS} {post : Int32 → wS → Prop} (F : CallFix p m c cX12_checkers 5 s args wz_X12_checkers RX12) (hr : meth.sig.returnType = (some .int)) (hlocks : meth.locks = false) (hK : wK D cy A s) : ∀ (n : Nat) {S : wS} {H : Heap} {locs : List Loc} {ls : Array Slot} {a0 : Nat} {x1 : Int32} {x2 : Int32} {x3 : Int32} {x4 : Int32}, wp_X12_checkers_32 D post n S a0 x1 x2 x3 x4 → wO D cy X A s.heap S H locs → wX D S0 S → lv_has ls 5 [(0, .ref a0), (1, .int x1), (2, .int x2), (3, .int x3), (4, .int x4)] → wM D S a0 → sK S a0 = 17 → W p l e r_X12_checkers s m args below meth c H locs 0 0 (MQ below (va_Qi (fun r S9 => wX D S0 S9 ∧ post r S9) (wB D cy X A) A) args s 0 0 A) (F0 m 32 ls []) := by
  obtain ⟨hx, hb, hml, hown, hts⟩ := id F
  have hwg : ∀ w ∈ WG, w.before args s = true := fun w h => hts w (List.mem_cons_of_mem _ h)
  intro n
  induction n with
  | zero =>
    intro S H locs ls a0 x1 x2 x3 x4 hp
    exact hp.elim
  | succ n ih =>
    intro S H locs ls a0 x1 x2 x3 x4 hp hW hE hl hL_a0 hK_a0
    unfold wp_X12_checkers_32 at hp
    refine lv_iload hx hb dX12_checkers_32 (lv_at hl 4 rfl) ?_
    refine lv_aload_n hx hb dX12_checkers_34 rfl (lv_at hl 0 rfl) ?_
    refine w_callI (va_runV (As := []) (rest := [.int x4]) F (c_X12_squares l hL_a0 hK_a0 hp H.size) (cwV (C := RX12) 0 hts (wg_V wm_RX12_113 wy_X12_squares) rfl rfl rfl (by decide +kernel) ⟨Nat.le_of_ble_eq_true rfl, Nat.le_of_ble_eq_true rfl⟩) (w_preV hK hW hL_a0 hK_a0 (by decide) rfl) rfl rfl hl.1 rfl (lv_room (Nat.le_of_ble_eq_true rfl)) dX12_checkers_35 ⟨Nat.le_of_ble_eq_true rfl, Nat.le_of_ble_eq_true rfl⟩) hW (fun r_1 S_2 H locs hp hW => ?_)
    obtain ⟨hX_S_2, hp⟩ := hp
    refine W.widen (k := 0) (n := 0) (by decide) (by decide) ?_
    have hE := hE.trans hX_S_2
    have hK_a0 : sK S_2 a0 = 17 := (hX_S_2.2 a0 hL_a0).1.trans hK_a0
    have hL_a0 : wM D S_2 a0 := hX_S_2.M hL_a0
    refine lv_icmp_ge (tgt := 82) hx hb dX12_checkers_38 (by decide) (fun c_3 => ?_) (fun c_3 => ?_)
    · replace hp := hp.1 c_3
      refine lv_iload_n hx hb dX12_checkers_82 rfl (lv_at hl 3 rfl) ?_
      exact w_iret hx hb hr hlocks hW ⟨hE, hp⟩ dX12_checkers_83
    · replace hp := hp.2 c_3
      refine lv_iload_n hx hb dX12_checkers_41 rfl (lv_at hl 3 rfl) ?_
      refine lv_aload_n hx hb dX12_checkers_42 rfl (lv_at hl 0 rfl) ?_
      refine lv_iconst (v := 0) hx hb dX12_checkers_43 (by decide) ?_
      refine lv_iload hx hb dX12_checkers_44 (lv_at hl 4 rfl) ?_
      refine w_callI (va_runV (As := [.int (0 : Int32), .int x4]) (rest := [.int x3]) F (c_X12_on l hL_a0 hK_a0 hp H.size) (cwV (C := RX12) 2 hts (wg_V wm_RX12_141 wy_X12_on) rfl rfl rfl (by decide +kernel) ⟨Nat.le_of_ble_eq_true rfl, Nat.le_of_ble_eq_true rfl⟩) (w_preV hK hW hL_a0 hK_a0 (by decide) rfl) rfl rfl hl.1 rfl (lv_room (Nat.le_of_ble_eq_true rfl)) dX12_checkers_46 ⟨Nat.le_of_ble_eq_true rfl, Nat.le_of_ble_eq_true rfl⟩) hW (fun r_4 S_5 H locs hp hW => ?_)
      obtain ⟨hX_S_5, hp⟩ := hp
      refine W.widen (k := 0) (n := 0) (by decide) (by decide) ?_
      have hE := hE.trans hX_S_5
      have hK_a0 : sK S_5 a0 = 17 := (hX_S_5.2 a0 hL_a0).1.trans hK_a0
      have hL_a0 : wM D S_5 a0 := hX_S_5.M hL_a0
      refine lv_iconst (v := 1) hx hb dX12_checkers_49 (by decide) ?_
      refine lv_iload_n hx hb dX12_checkers_50 rfl (lv_at hl 1 rfl) ?_
      refine lv_isub hx hb dX12_checkers_51 ?_
      refine w_callI (va_runS (As := [.int r_4, .int ((1 : Int32) - x1)]) (rest := [.int x3]) F (c_X12_isOf l hp H.size) (va_cwS 2 hts (wg_S wm_RX12_154 wy_X12_isOf) rfl rfl rfl (by decide +kernel) ⟨Nat.le_of_ble_eq_true rfl, Nat.le_of_ble_eq_true rfl⟩) (w_preS hK hW) rfl rfl hl.1 rfl (lv_room (Nat.le_of_ble_eq_true rfl)) dX12_checkers_52 ⟨Nat.le_of_ble_eq_true rfl, Nat.le_of_ble_eq_true rfl⟩) hW (fun r_6 S_7 H locs hp hW => ?_)
      obtain ⟨hX_S_7, hp⟩ := hp
      refine W.widen (k := 0) (n := 0) (by decide) (by decide) ?_
      have hE := hE.trans hX_S_7
      have hK_a0 : sK S_7 a0 = 17 := (hX_S_7.2 a0 hL_a0).1.trans hK_a0
      have hL_a0 : wM D S_7 a0 := hX_S_7.M hL_a0
      refine lv_if_eq (tgt := 73) hx hb dX12_checkers_55 (by decide) (fun c_8 => ?_) (fun c_8 => ?_)
      · replace hp := hp.1 c_8
        exact t_X12_checkers_73 F hr hlocks hK ih hp hW hE (lv_sub hl [0, 1, 2, 4] rfl) hL_a0 hK_a0
      · replace hp := hp.2 c_8
        refine lv_aload_n hx hb dX12_checkers_58 rfl (lv_at hl 0 rfl) ?_
        refine lv_iconst (v := 0) hx hb dX12_checkers_59 (by decide) ?_
        refine lv_iload hx hb dX12_checkers_60 (lv_at hl 4 rfl) ?_
        refine lv_iload_n hx hb dX12_checkers_62 rfl (lv_at hl 2 rfl) ?_
        refine w_callI (va_runV (As := [.int (0 : Int32), .int x4, .int x2]) (rest := [.int x3]) F (c_X12_attacks l hL_a0 hK_a0 hp H.size) (cwV (C := RX12) 3 hts (wg_V wm_RX12_158 wy_X12_attacks) rfl rfl rfl (by decide +kernel) ⟨Nat.le_of_ble_eq_true rfl, Nat.le_of_ble_eq_true rfl⟩) (w_preV hK hW hL_a0 hK_a0 (by decide) rfl) rfl rfl hl.1 rfl (lv_room (Nat.le_of_ble_eq_true rfl)) dX12_checkers_63 ⟨Nat.le_of_ble_eq_true rfl, Nat.le_of_ble_eq_true rfl⟩) hW (fun r_9 S_10 H locs hp hW => ?_)
        obtain ⟨hX_S_10, hp⟩ := hp
        refine W.widen (k := 0) (n := 0) (by decide) (by decide) ?_
        have hE := hE.trans hX_S_10
        have hK_a0 : sK S_10 a0 = 17 := (hX_S_10.2 a0 hL_a0).1.trans hK_a0
        have hL_a0 : wM D S_10 a0 := hX_S_10.M hL_a0
        refine lv_if_eq (tgt := 73) hx hb dX12_checkers_66 (by decide) (fun c_11 => ?_) (fun c_11 => ?_)
        · replace hp := hp.1 c_11
          exact t_X12_checkers_73 F hr hlocks hK ih hp hW hE (lv_sub hl [0, 1, 2, 4] rfl) hL_a0 hK_a0
        · replace hp := hp.2 c_11
          refine lv_iconst (v := 1) hx hb dX12_checkers_69 (by decide) ?_
          refine lv_goto (tgt := 74) hx hb dX12_checkers_70 (by decide) ?_
          exact t_X12_checkers_74 F hr hlocks hK ih hp hW hE (lv_sub hl [0, 1, 2, 4] rfl) hL_a0 hK_a0
set_option maxHeartbeats 4000000 in
set_option maxRecDepth 100000 in
theorem t_X12_checkers_0 {p : Program} {l : Launch} {e : Env} {s : State} {m : MethodId} {args : Array Value} {below : List Frame} {meth : Method} {c : Code} {D : wD} {cy : Nat → ClassId} {X : va_W} {A : Nat → Prop} {S0 : wS} {post : Int32 → wS → Prop} (F : CallFix p m c cX12_checkers 5 s args wz_X12_checkers RX12) (hr : meth.sig.returnType = (some .int)) (hlocks : meth.locks = false) (hK : wK D cy A s) : ∀ {S : wS} {H : Heap} {locs : List Loc} {ls : Array Slot} {a0 : Nat}, wp_X12_checkers_0 D post S a0 → wO D cy X A s.heap S H locs → wX D S0 S → lv_has ls 5 [(0, .ref a0)] → wM D S a0 → sK S a0 = 17 → W p l e r_X12_checkers s m args below meth c H locs 0 0 (MQ below (va_Qi (fun r S9 => wX D S0 S9 ∧ post r S9) (wB D cy X A) A) args s 0 0 A) (F0 m 0 ls []) := by
  obtain ⟨hx, hb, hml, hown, hts⟩ := id F
  have hwg : ∀ w ∈ WG, w.before args s = true := fun w h => hts w (List.mem_cons_of_mem _ h)
  intro S H locs ls a0 hp hW hE hl hL_a0 hK_a0
  unfold wp_X12_checkers_0 at hp
  refine lv_aload_n hx hb dX12_checkers_0 rfl (lv_at hl 0 rfl) ?_
  refine lv_aload_n hx hb dX12_checkers_1 rfl (lv_at hl 0 rfl) ?_
  refine w_callI (va_runV (As := []) (rest := [.ref a0]) F (c_X12_isAskable l hL_a0 hK_a0 hp H.size) (cwV (C := RX12) 0 hts (wg_V wm_RX12_284 wy_X12_isAskable) rfl rfl rfl (by decide +kernel) ⟨Nat.le_of_ble_eq_true rfl, Nat.le_of_ble_eq_true rfl⟩) (w_preV hK hW hL_a0 hK_a0 (by decide) rfl) rfl rfl hl.1 rfl (lv_room (Nat.le_of_ble_eq_true rfl)) dX12_checkers_2 ⟨Nat.le_of_ble_eq_true rfl, Nat.le_of_ble_eq_true rfl⟩) hW (fun r_1 S_2 H locs hp hW => ?_)
  obtain ⟨hX_S_2, hp⟩ := hp
  refine W.widen (k := 0) (n := 0) (by decide) (by decide) ?_
  have hE := hE.trans hX_S_2
  have hK_a0 : sK S_2 a0 = 17 := (hX_S_2.2 a0 hL_a0).1.trans hK_a0
  have hL_a0 : wM D S_2 a0 := hX_S_2.M hL_a0
  refine lv_iconst (v := 1) hx hb dX12_checkers_5 (by decide) ?_
  refine w_callI (va_runV (As := [.int r_1, .int (1 : Int32)]) (rest := []) F (c_X12_can l hL_a0 hK_a0 hp H.size) (cwV (C := RX12) 2 hts (wg_V wm_RX12_237 wy_X12_can) rfl rfl rfl (by decide +kernel) ⟨Nat.le_of_ble_eq_true rfl, Nat.le_of_ble_eq_true rfl⟩) (w_preV hK hW hL_a0 hK_a0 (by decide) rfl) rfl rfl hl.1 rfl (lv_room (Nat.le_of_ble_eq_true rfl)) dX12_checkers_6 ⟨Nat.le_of_ble_eq_true rfl, Nat.le_of_ble_eq_true rfl⟩) hW (fun r_3 S_4 H locs hp hW => ?_)
  obtain ⟨hX_S_4, hp⟩ := hp
  refine W.widen (k := 0) (n := 0) (by decide) (by decide) ?_
  have hE := hE.trans hX_S_4
  have hK_a0 : sK S_4 a0 = 17 := (hX_S_4.2 a0 hL_a0).1.trans hK_a0
  have hL_a0 : wM D S_4 a0 := hX_S_4.M hL_a0
  refine lv_if_ne (tgt := 14) hx hb dX12_checkers_9 (by decide) (fun c_5 => ?_) (fun c_5 => ?_)
  · replace hp := hp.1 c_5
    refine lv_aload_n hx hb dX12_checkers_14 rfl (lv_at hl 0 rfl) ?_
    refine lv_iconst (v := 0) hx hb dX12_checkers_15 (by decide) ?_
    refine w_callI (va_runV (As := [.int (0 : Int32)]) (rest := []) F (c_X12_side l hL_a0 hK_a0 hp H.size) (cwV (C := RX12) 1 hts (wg_V wm_RX12_183 wy_X12_side) rfl rfl rfl (by decide +kernel) ⟨Nat.le_of_ble_eq_true rfl, Nat.le_of_ble_eq_true rfl⟩) (w_preV hK hW hL_a0 hK_a0 (by decide) rfl) rfl rfl hl.1 rfl (lv_room (Nat.le_of_ble_eq_true rfl)) dX12_checkers_16 ⟨Nat.le_of_ble_eq_true rfl, Nat.le_of_ble_eq_true rfl⟩) hW (fun r_6 S_7 H locs hp hW => ?_)
    obtain ⟨hX_S_7, hp⟩ := hp
    refine W.widen (k := 0) (n := 0) (by decide) (by decide) ?_
    have hE := hE.trans hX_S_7
    have hK_a0 : sK S_7 a0 = 17 := (hX_S_7.2 a0 hL_a0).1.trans hK_a0
    have hL_a0 : wM D S_7 a0 := hX_S_7.M hL_a0
    refine lv_istore_n (lv' := [(1, .int r_6), (0, .ref a0)]) hx hb dX12_checkers_19 rfl hl (by decide) rfl (fun ls hl => ?_)
    refine lv_aload_n hx hb dX12_checkers_20 rfl (lv_at hl 1 rfl) ?_
    refine lv_iconst (v := 0) hx hb dX12_checkers_21 (by decide) ?_
    refine lv_iload_n hx hb dX12_checkers_22 rfl (lv_at hl 0 rfl) ?_
    refine w_callI (va_runV (As := [.int (0 : Int32), .int r_6]) (rest := []) F (c_X12_kingOf l hL_a0 hK_a0 hp H.size) (cwV (C := RX12) 2 hts (wg_V wm_RX12_164 wy_X12_kingOf) rfl rfl rfl (by decide +kernel) ⟨Nat.le_of_ble_eq_true rfl, Nat.le_of_ble_eq_true rfl⟩) (w_preV hK hW hL_a0 hK_a0 (by decide) rfl) rfl rfl hl.1 rfl (lv_room (Nat.le_of_ble_eq_true rfl)) dX12_checkers_23 ⟨Nat.le_of_ble_eq_true rfl, Nat.le_of_ble_eq_true rfl⟩) hW (fun r_8 S_9 H locs hp hW => ?_)
    obtain ⟨hX_S_9, hp⟩ := hp
    refine W.widen (k := 0) (n := 0) (by decide) (by decide) ?_
    have hE := hE.trans hX_S_9
    have hK_a0 : sK S_9 a0 = 17 := (hX_S_9.2 a0 hL_a0).1.trans hK_a0
    have hL_a0 : wM D S_9 a0 := hX_S_9.M hL_a0
    refine lv_istore_n (lv' := [(2, .int r_8), (1, .int r_6), (0, .ref a0)]) hx hb dX12_checkers_26 rfl hl (by decide) rfl (fun ls hl => ?_)
    refine lv_iconst (v := 0) hx hb dX12_checkers_27 (by decide) ?_
    refine lv_istore_n (lv' := [(3, .int (0 : Int32)), (2, .int r_8), (1, .int r_6), (0, .ref a0)]) hx hb dX12_checkers_28 rfl hl (by decide) rfl (fun ls hl => ?_)
    refine lv_iconst (v := 0) hx hb dX12_checkers_29 (by decide) ?_
    refine lv_istore (lv' := [(4, .int (0 : Int32)), (3, .int (0 : Int32)), (2, .int r_8), (1, .int r_6), (0, .ref a0)]) hx hb dX12_checkers_30 hl (by decide) rfl (fun ls hl => ?_)
    obtain ⟨n_10, hp⟩ := hp
    exact t_X12_checkers_32 F hr hlocks hK n_10 hp hW hE (lv_sub hl [4, 3, 2, 1, 0] rfl) hL_a0 hK_a0
  · replace hp := hp.2 c_5
    refine lv_iconst (v := 0) hx hb dX12_checkers_12 (by decide) ?_
    exact w_iret hx hb hr hlocks hW ⟨hE, hp⟩ dX12_checkers_13
set_option maxHeartbeats 4000000 in
set_option maxRecDepth 100000 in
theorem c_X12_checkers (l : Launch) {D : wD} {cy : Nat → ClassId} {X : va_W} {S0 : wS} {post : Int32 → wS → Prop} {a0 : Nat} (hL_a0 : wM D S0 a0) (hK_a0 : sK S0 a0 = 17) (hp : wp_X12_checkers D post S0 a0) : mI D cy X l yX12_checkers wz_X12_checkers r_X12_checkers [.ref a0] S0 (fun r S9 => wX D S0 S9 ∧ post r S9) := by
  intro sz
  refine Met.ofW (cc := cX12_checkers) (maxL := 5) (ret := (some .int)) (by decide) rfl ?_
  intro p e s m args below meth c s₁ B hml hv
  obtain ⟨rfl, hsz, hP, hK, hD0, hRO⟩ := hv
  have hts := atoms_spec (ws := wz_X12_checkers) B.pre
  have hown : s.vm.findClass RX12 = some m.cls := findClass_of_methodNamed B.named
  subst hsz
  have hD := hD0.self (sz := s.heap.size)
  have F : CallFix p m c cX12_checkers 5 s _ wz_X12_checkers RX12 := ⟨B.exec, B.bytes, hml, hown, hts⟩
  have hr := B.returns
  have hlocks := B.notSynchronized
  generalize hAe : va_A (wL cy X S0) s.heap.size = A at hD hK ⊢
  have hA : ∀ q, s.heap.size ≤ q → A q := fun q h => by rw [← hAe]; exact Or.inr h
  have hW : wO D cy X A s.heap S0 s.heap [] := ⟨hP, hD, va_S.rf, hA, hRO⟩
  have hl := lv_entry ([.ref a0]) (n := 5) (Nat.le_of_ble_eq_true rfl)
  rw [lg_entry_eq]
  generalize (lg_sl ([.ref a0]) ++ List.replicate (5 - (lg_sl ([.ref a0])).length) Slot.unset).toArray = ls at hl ⊢
  have hl : lv_has ls 5 [(0, .ref a0)] := hl
  unfold wp_X12_checkers at hp
  exact t_X12_checkers_0 F hr hlocks hK hp hW wX.rf (lv_sub hl [0] rfl) hL_a0 hK_a0
def wp_X12_clearText_0 (D : wD) (post : Int32 → wS → Prop)  (S : wS) (a0 : Nat) : Prop :=
∀ S_1 : wS, S_1 = uI S a0 0 (0 : Int32) →
∀ x_2 : Int32, x_2 = (sI S_1 a0 13) →
∀ S_3 : wS, S_3 = uI S_1 a0 13 (0 : Int32) →
post x_2 S_3
abbrev r_X12_clearText : Room := { frames := 0, cells := 0, slots := 0, locals := 0 }
def wp_X12_clearText (D : wD) (post : Int32 → wS → Prop) (S : wS) (a0 : Nat) : Prop := wp_X12_clearText_0 D post S a0
set_option maxHeartbeats 4000000 in
set_option maxRecDepth 100000 in
theorem t_X12_clearText_0 {p : Program} {l : Launch} {e : Env} {s : State} {m : MethodId} {args : Array Value} {below : List Frame} {meth : Method} {c : Code} {D : wD} {cy : Nat → ClassId} {X : va_W} {A : Nat → Prop} {S0 : wS} {post : Int32 → wS → Prop} (F : CallFix p m c cX12_clearText 2 s args wz_X12_clearText RX12) (hr : meth.sig.returnType = (some .int)) (hlocks : meth.locks = false) (hK : wK D cy A s) : ∀ {S : wS} {H : Heap} {locs : List Loc} {ls : Array Slot} {a0 : Nat}, wp_X12_clearText_0 D post S a0 → wO D cy X A s.heap S H locs → wX D S0 S → lv_has ls 2 [(0, .ref a0)] → wM D S a0 → sK S a0 = 17 → W p l e r_X12_clearText s m args below meth c H locs 0 0 (MQ below (va_Qi (fun r S9 => wX D S0 S9 ∧ post r S9) (wB D cy X A) A) args s 0 0 A) (F0 m 0 ls []) := by
  obtain ⟨hx, hb, hml, hown, hts⟩ := id F
  have hwg : ∀ w ∈ WG, w.before args s = true := fun w h => hts w (List.mem_cons_of_mem _ h)
  have i_17 : ∀ w ∈ u_ws RX12 TX12 43, w ∈ wz_X12_clearText := fun w h => List.mem_cons_of_mem _ (wu_17 w h)
  have k_110 := hwg _ wf_RX12_110
  have k_259 := hwg _ wf_RX12_259
  intro S H locs ls a0 hp hW hE hl hL_a0 hK_a0
  unfold wp_X12_clearText_0 at hp
  refine lv_aload_n hx hb dX12_clearText_0 rfl (lv_at hl 0 rfl) ?_
  refine lv_iconst (v := 0) hx hb dX12_clearText_1 (by decide) ?_
  refine w_putI (k := 17) (f := 0) (T := TX12) F hK hW hL_a0 hK_a0 (by decide) (by decide) rfl rfl (by decide) i_17 tyX12 tyX12_ok nmX12 k_110 rfl rfl (ty := .int) rfl rfl rfl dX12_clearText_2 (fun H locs hW => ?_)
  obtain ⟨S_1, eS_1⟩ : ∃ z : wS, z = uI S a0 0 (0 : Int32) := ⟨_, rfl⟩
  rw [← eS_1] at hW
  replace hp := hp S_1 eS_1
  have hX_S_1 : wX D S S_1 := by rw [eS_1]; exact wX_uI
  have hE := hE.trans hX_S_1
  have hK_a0 : sK S_1 a0 = 17 := (hX_S_1.2 a0 hL_a0).1.trans hK_a0
  have hL_a0 : wM D S_1 a0 := hX_S_1.M hL_a0
  refine lv_aload_n hx hb dX12_clearText_5 rfl (lv_at hl 0 rfl) ?_
  refine w_get (k := 17) (f := 13) (T := TX12) (v := .int (sI S_1 a0 13)) F hK hW hL_a0 hK_a0 (by decide) rfl rfl (by decide) i_17 k_259 rfl dX12_clearText_6 ?_
  refine lv_topi (fun x_2 ex_2 => ?_)
  replace hp := hp x_2 ex_2
  refine lv_istore_n (lv' := [(1, .int x_2), (0, .ref a0)]) hx hb dX12_clearText_9 rfl hl (by decide) rfl (fun ls hl => ?_)
  refine lv_aload_n hx hb dX12_clearText_10 rfl (lv_at hl 1 rfl) ?_
  refine lv_iconst (v := 0) hx hb dX12_clearText_11 (by decide) ?_
  refine w_putI (k := 17) (f := 13) (T := TX12) F hK hW hL_a0 hK_a0 (by decide) (by decide) rfl rfl (by decide) i_17 tyX12 tyX12_ok nmX12 k_259 rfl rfl (ty := .int) rfl rfl rfl dX12_clearText_12 (fun H locs hW => ?_)
  obtain ⟨S_3, eS_3⟩ : ∃ z : wS, z = uI S_1 a0 13 (0 : Int32) := ⟨_, rfl⟩
  rw [← eS_3] at hW
  replace hp := hp S_3 eS_3
  have hX_S_3 : wX D S_1 S_3 := by rw [eS_3]; exact wX_uI
  have hE := hE.trans hX_S_3
  have hK_a0 : sK S_3 a0 = 17 := (hX_S_3.2 a0 hL_a0).1.trans hK_a0
  have hL_a0 : wM D S_3 a0 := hX_S_3.M hL_a0
  refine lv_iload_n hx hb dX12_clearText_15 rfl (lv_at hl 0 rfl) ?_
  exact w_iret hx hb hr hlocks hW ⟨hE, hp⟩ dX12_clearText_16
set_option maxHeartbeats 4000000 in
set_option maxRecDepth 100000 in
theorem c_X12_clearText (l : Launch) {D : wD} {cy : Nat → ClassId} {X : va_W} {S0 : wS} {post : Int32 → wS → Prop} {a0 : Nat} (hL_a0 : wM D S0 a0) (hK_a0 : sK S0 a0 = 17) (hp : wp_X12_clearText D post S0 a0) : mI D cy X l yX12_clearText wz_X12_clearText r_X12_clearText [.ref a0] S0 (fun r S9 => wX D S0 S9 ∧ post r S9) := by
  intro sz
  refine Met.ofW (cc := cX12_clearText) (maxL := 2) (ret := (some .int)) (by decide) rfl ?_
  intro p e s m args below meth c s₁ B hml hv
  obtain ⟨rfl, hsz, hP, hK, hD0, hRO⟩ := hv
  have hts := atoms_spec (ws := wz_X12_clearText) B.pre
  have hown : s.vm.findClass RX12 = some m.cls := findClass_of_methodNamed B.named
  subst hsz
  have hD := hD0.self (sz := s.heap.size)
  have F : CallFix p m c cX12_clearText 2 s _ wz_X12_clearText RX12 := ⟨B.exec, B.bytes, hml, hown, hts⟩
  have hr := B.returns
  have hlocks := B.notSynchronized
  generalize hAe : va_A (wL cy X S0) s.heap.size = A at hD hK ⊢
  have hA : ∀ q, s.heap.size ≤ q → A q := fun q h => by rw [← hAe]; exact Or.inr h
  have hW : wO D cy X A s.heap S0 s.heap [] := ⟨hP, hD, va_S.rf, hA, hRO⟩
  have hl := lv_entry ([.ref a0]) (n := 2) (Nat.le_of_ble_eq_true rfl)
  rw [lg_entry_eq]
  generalize (lg_sl ([.ref a0]) ++ List.replicate (2 - (lg_sl ([.ref a0])).length) Slot.unset).toArray = ls at hl ⊢
  have hl : lv_has ls 2 [(0, .ref a0)] := hl
  unfold wp_X12_clearText at hp
  exact t_X12_clearText_0 F hr hlocks hK hp hW wX.rf (lv_sub hl [0] rfl) hL_a0 hK_a0
def wp_X12_isNear_39 (D : wD) (post : Int32 → wS → Prop)  (S : wS) (t0 : Int32) : Prop :=
narrow .boolean (.int t0) = .int t0 ∧ post t0 S
def wp_X12_isNear_38 (D : wD) (post : Int32 → wS → Prop)  (S : wS) : Prop :=
wp_X12_isNear_39 D post S (0 : Int32)
def wp_X12_isNear_0 (D : wD) (post : Int32 → wS → Prop)  (S : wS) (a0 : Nat) (x1 : Int32) (x2 : Int32) : Prop :=
wp_X12_fileOf D (fun r_1 S_2 => 
wp_X12_fileOf D (fun r_3 S_4 => 
wp_X12_distance D (fun r_5 S_6 => 
(((1 : Int32) < r_5 → wp_X12_isNear_38 D post S_6) ∧
 (¬ (1 : Int32) < r_5 → wp_X12_rankOf D (fun r_8 S_9 => 
wp_X12_rankOf D (fun r_10 S_11 => 
wp_X12_distance D (fun r_12 S_13 => 
(((1 : Int32) < r_12 → wp_X12_isNear_38 D post S_13) ∧
 (¬ (1 : Int32) < r_12 → wp_X12_isNear_39 D post S_13 (1 : Int32)))) S_11 r_8 r_10) S_9 a0 x2) S_6 a0 x1))) S_4 r_1 r_3) S_2 a0 x2) S a0 x1
abbrev r_X12_isNear : Room := { frames := 1, cells := 0, slots := 0, locals := 21 }
def wp_X12_isNear (D : wD) (post : Int32 → wS → Prop) (S : wS) (a0 : Nat) (x1 : Int32) (x2 : Int32) : Prop := wp_X12_isNear_0 D post S a0 x1 x2
set_option maxHeartbeats 4000000 in
set_option maxRecDepth 100000 in
theorem t_X12_isNear_39 {p : Program} {l : Launch} {e : Env} {s : State} {m : MethodId} {args : Array Value} {below : List Frame} {meth : Method} {c : Code} {D : wD} {cy : Nat → ClassId} {X : va_W} {A : Nat → Prop} {S0 : wS} {post : Int32 → wS → Prop} (F : CallFix p m c cX12_isNear 3 s args wz_X12_isNear RX12) (hr : meth.sig.returnType = (some .boolean)) (hlocks : meth.locks = false) (hK : wK D cy A s) : ∀ {S : wS} {H : Heap} {locs : List Loc} {ls : Array Slot} {t0 : Int32}, wp_X12_isNear_39 D post S t0 → wO D cy X A s.heap S H locs → wX D S0 S → lv_has ls 3 [] → W p l e r_X12_isNear s m args below meth c H locs 0 0 (MQ below (va_Qi (fun r S9 => wX D S0 S9 ∧ post r S9) (wB D cy X A) A) args s 0 0 A) (F0 m 39 ls [.int t0]) := by
  obtain ⟨hx, hb, hml, hown, hts⟩ := id F
  have hwg : ∀ w ∈ WG, w.before args s = true := fun w h => hts w (List.mem_cons_of_mem _ h)
  intro S H locs ls t0 hp hW hE hl
  unfold wp_X12_isNear_39 at hp
  exact w_zret hx hb hr hlocks hW hp.1 ⟨hE, hp.2⟩ dX12_isNear_39
set_option maxHeartbeats 4000000 in
set_option maxRecDepth 100000 in
theorem t_X12_isNear_38 {p : Program} {l : Launch} {e : Env} {s : State} {m : MethodId} {args : Array Value} {below : List Frame} {meth : Method} {c : Code} {D : wD} {cy : Nat → ClassId} {X : va_W} {A : Nat → Prop} {S0 : wS} {post : Int32 → wS → Prop} (F : CallFix p m c cX12_isNear 3 s args wz_X12_isNear RX12) (hr : meth.sig.returnType = (some .boolean)) (hlocks : meth.locks = false) (hK : wK D cy A s) : ∀ {S : wS} {H : Heap} {locs : List Loc} {ls : Array Slot}, wp_X12_isNear_38 D post S → wO D cy X A s.heap S H locs → wX D S0 S → lv_has ls 3 [] → W p l e r_X12_isNear s m args below meth c H locs 0 0 (MQ below (va_Qi (fun r S9 => wX D S0 S9 ∧ post r S9) (wB D cy X A) A) args s 0 0 A) (F0 m 38 ls []) := by
  obtain ⟨hx, hb, hml, hown, hts⟩ := id F
  have hwg : ∀ w ∈ WG, w.before args s = true := fun w h => hts w (List.mem_cons_of_mem _ h)
  intro S H locs ls hp hW hE hl
  unfold wp_X12_isNear_38 at hp
  refine lv_iconst (v := 0) hx hb dX12_isNear_38 (by decide) ?_
  exact t_X12_isNear_39 F hr hlocks hK hp hW hE (lv_sub hl [] rfl)
set_option maxHeartbeats 4000000 in
set_option maxRecDepth 100000 in
theorem t_X12_isNear_0 {p : Program} {l : Launch} {e : Env} {s : State} {m : MethodId} {args : Array Value} {below : List Frame} {meth : Method} {c : Code} {D : wD} {cy : Nat → ClassId} {X : va_W} {A : Nat → Prop} {S0 : wS} {post : Int32 → wS → Prop} (F : CallFix p m c cX12_isNear 3 s args wz_X12_isNear RX12) (hr : meth.sig.returnType = (some .boolean)) (hlocks : meth.locks = false) (hK : wK D cy A s) : ∀ {S : wS} {H : Heap} {locs : List Loc} {ls : Array Slot} {a0 : Nat} {x1 : Int32} {x2 : Int32}, wp_X12_isNear_0 D post S a0 x1 x2 → wO D cy X A s.heap S H locs → wX D S0 S → lv_has ls 3 [(0, .ref a0), (1, .int x1), (2, .int x2)] → wM D S a0 → sK S a0 = 17 → W p l e r_X12_isNear s m args below meth c H locs 0 0 (MQ below (va_Qi (fun r S9 => wX D S0 S9 ∧ post r S9) (wB D cy X A) A) args s 0 0 A) (F0 m 0 ls []) := by
  obtain ⟨hx, hb, hml, hown, hts⟩ := id F
  have hwg : ∀ w ∈ WG, w.before args s = true := fun w h => hts w (List.mem_cons_of_mem _ h)
  intro S H locs ls a0 x1 x2 hp hW hE hl hL_a0 hK_a0
  unfold wp_X12_isNear_0 at hp
  refine lv_aload_n hx hb dX12_isNear_0 rfl (lv_at hl 0 rfl) ?_
  refine lv_iload_n hx hb dX12_isNear_1 rfl (lv_at hl 1 rfl) ?_
  refine w_callI (va_runV (As := [.int x1]) (rest := []) F (c_X12_fileOf l hL_a0 hK_a0 hp H.size) (cwV (C := RX12) 1 hts (wg_V wm_RX12_134 wy_X12_fileOf) rfl rfl rfl (by decide +kernel) ⟨Nat.le_of_ble_eq_true rfl, Nat.le_of_ble_eq_true rfl⟩) (w_preV hK hW hL_a0 hK_a0 (by decide) rfl) rfl rfl hl.1 rfl (lv_room (Nat.le_of_ble_eq_true rfl)) dX12_isNear_2 ⟨Nat.le_of_ble_eq_true rfl, Nat.le_of_ble_eq_true rfl⟩) hW (fun r_1 S_2 H locs hp hW => ?_)
  obtain ⟨hX_S_2, hp⟩ := hp
  refine W.widen (k := 0) (n := 0) (by decide) (by decide) ?_
  have hE := hE.trans hX_S_2
  have hK_a0 : sK S_2 a0 = 17 := (hX_S_2.2 a0 hL_a0).1.trans hK_a0
  have hL_a0 : wM D S_2 a0 := hX_S_2.M hL_a0
  refine lv_aload_n hx hb dX12_isNear_5 rfl (lv_at hl 0 rfl) ?_
  refine lv_iload_n hx hb dX12_isNear_6 rfl (lv_at hl 2 rfl) ?_
  refine w_callI (va_runV (As := [.int x2]) (rest := [.int r_1]) F (c_X12_fileOf l hL_a0 hK_a0 hp H.size) (cwV (C := RX12) 1 hts (wg_V wm_RX12_134 wy_X12_fileOf) rfl rfl rfl (by decide +kernel) ⟨Nat.le_of_ble_eq_true rfl, Nat.le_of_ble_eq_true rfl⟩) (w_preV hK hW hL_a0 hK_a0 (by decide) rfl) rfl rfl hl.1 rfl (lv_room (Nat.le_of_ble_eq_true rfl)) dX12_isNear_7 ⟨Nat.le_of_ble_eq_true rfl, Nat.le_of_ble_eq_true rfl⟩) hW (fun r_3 S_4 H locs hp hW => ?_)
  obtain ⟨hX_S_4, hp⟩ := hp
  refine W.widen (k := 0) (n := 0) (by decide) (by decide) ?_
  have hE := hE.trans hX_S_4
  have hK_a0 : sK S_4 a0 = 17 := (hX_S_4.2 a0 hL_a0).1.trans hK_a0
  have hL_a0 : wM D S_4 a0 := hX_S_4.M hL_a0
  refine w_callI (va_runS (As := [.int r_1, .int r_3]) (rest := []) F (c_X12_distance l hp H.size) (va_cwS 2 hts (wg_S wm_RX12_145 wy_X12_distance) rfl rfl rfl (by decide +kernel) ⟨Nat.le_of_ble_eq_true rfl, Nat.le_of_ble_eq_true rfl⟩) (w_preS hK hW) rfl rfl hl.1 rfl (lv_room (Nat.le_of_ble_eq_true rfl)) dX12_isNear_10 ⟨Nat.le_of_ble_eq_true rfl, Nat.le_of_ble_eq_true rfl⟩) hW (fun r_5 S_6 H locs hp hW => ?_)
  obtain ⟨hX_S_6, hp⟩ := hp
  refine W.widen (k := 0) (n := 0) (by decide) (by decide) ?_
  have hE := hE.trans hX_S_6
  have hK_a0 : sK S_6 a0 = 17 := (hX_S_6.2 a0 hL_a0).1.trans hK_a0
  have hL_a0 : wM D S_6 a0 := hX_S_6.M hL_a0
  refine lv_iconst (v := 1) hx hb dX12_isNear_13 (by decide) ?_
  refine lv_icmp_gt (tgt := 38) hx hb dX12_isNear_14 (by decide) (fun c_7 => ?_) (fun c_7 => ?_)
  · replace hp := hp.1 c_7
    exact t_X12_isNear_38 F hr hlocks hK hp hW hE (lv_sub hl [] rfl)
  · replace hp := hp.2 c_7
    refine lv_aload_n hx hb dX12_isNear_17 rfl (lv_at hl 0 rfl) ?_
    refine lv_iload_n hx hb dX12_isNear_18 rfl (lv_at hl 1 rfl) ?_
    refine w_callI (va_runV (As := [.int x1]) (rest := []) F (c_X12_rankOf l hL_a0 hK_a0 hp H.size) (cwV (C := RX12) 1 hts (wg_V wm_RX12_138 wy_X12_rankOf) rfl rfl rfl (by decide +kernel) ⟨Nat.le_of_ble_eq_true rfl, Nat.le_of_ble_eq_true rfl⟩) (w_preV hK hW hL_a0 hK_a0 (by decide) rfl) rfl rfl hl.1 rfl (lv_room (Nat.le_of_ble_eq_true rfl)) dX12_isNear_19 ⟨Nat.le_of_ble_eq_true rfl, Nat.le_of_ble_eq_true rfl⟩) hW (fun r_8 S_9 H locs hp hW => ?_)
    obtain ⟨hX_S_9, hp⟩ := hp
    refine W.widen (k := 0) (n := 0) (by decide) (by decide) ?_
    have hE := hE.trans hX_S_9
    have hK_a0 : sK S_9 a0 = 17 := (hX_S_9.2 a0 hL_a0).1.trans hK_a0
    have hL_a0 : wM D S_9 a0 := hX_S_9.M hL_a0
    refine lv_aload_n hx hb dX12_isNear_22 rfl (lv_at hl 0 rfl) ?_
    refine lv_iload_n hx hb dX12_isNear_23 rfl (lv_at hl 2 rfl) ?_
    refine w_callI (va_runV (As := [.int x2]) (rest := [.int r_8]) F (c_X12_rankOf l hL_a0 hK_a0 hp H.size) (cwV (C := RX12) 1 hts (wg_V wm_RX12_138 wy_X12_rankOf) rfl rfl rfl (by decide +kernel) ⟨Nat.le_of_ble_eq_true rfl, Nat.le_of_ble_eq_true rfl⟩) (w_preV hK hW hL_a0 hK_a0 (by decide) rfl) rfl rfl hl.1 rfl (lv_room (Nat.le_of_ble_eq_true rfl)) dX12_isNear_24 ⟨Nat.le_of_ble_eq_true rfl, Nat.le_of_ble_eq_true rfl⟩) hW (fun r_10 S_11 H locs hp hW => ?_)
    obtain ⟨hX_S_11, hp⟩ := hp
    refine W.widen (k := 0) (n := 0) (by decide) (by decide) ?_
    have hE := hE.trans hX_S_11
    have hK_a0 : sK S_11 a0 = 17 := (hX_S_11.2 a0 hL_a0).1.trans hK_a0
    have hL_a0 : wM D S_11 a0 := hX_S_11.M hL_a0
    refine w_callI (va_runS (As := [.int r_8, .int r_10]) (rest := []) F (c_X12_distance l hp H.size) (va_cwS 2 hts (wg_S wm_RX12_145 wy_X12_distance) rfl rfl rfl (by decide +kernel) ⟨Nat.le_of_ble_eq_true rfl, Nat.le_of_ble_eq_true rfl⟩) (w_preS hK hW) rfl rfl hl.1 rfl (lv_room (Nat.le_of_ble_eq_true rfl)) dX12_isNear_27 ⟨Nat.le_of_ble_eq_true rfl, Nat.le_of_ble_eq_true rfl⟩) hW (fun r_12 S_13 H locs hp hW => ?_)
    obtain ⟨hX_S_13, hp⟩ := hp
    refine W.widen (k := 0) (n := 0) (by decide) (by decide) ?_
    have hE := hE.trans hX_S_13
    have hK_a0 : sK S_13 a0 = 17 := (hX_S_13.2 a0 hL_a0).1.trans hK_a0
    have hL_a0 : wM D S_13 a0 := hX_S_13.M hL_a0
    refine lv_iconst (v := 1) hx hb dX12_isNear_30 (by decide) ?_
    refine lv_icmp_gt (tgt := 38) hx hb dX12_isNear_31 (by decide) (fun c_14 => ?_) (fun c_14 => ?_)
    · replace hp := hp.1 c_14
      exact t_X12_isNear_38 F hr hlocks hK hp hW hE (lv_sub hl [] rfl)
    · replace hp := hp.2 c_14
      refine lv_iconst (v := 1) hx hb dX12_isNear_34 (by decide) ?_
      refine lv_goto (tgt := 39) hx hb dX12_isNear_35 (by decide) ?_
      exact t_X12_isNear_39 F hr hlocks hK hp hW hE (lv_sub hl [] rfl)
set_option maxHeartbeats 4000000 in
set_option maxRecDepth 100000 in
theorem c_X12_isNear (l : Launch) {D : wD} {cy : Nat → ClassId} {X : va_W} {S0 : wS} {post : Int32 → wS → Prop} {a0 : Nat} {x1 : Int32} {x2 : Int32} (hL_a0 : wM D S0 a0) (hK_a0 : sK S0 a0 = 17) (hp : wp_X12_isNear D post S0 a0 x1 x2) : mI D cy X l yX12_isNear wz_X12_isNear r_X12_isNear [.ref a0, .int x1, .int x2] S0 (fun r S9 => wX D S0 S9 ∧ post r S9) := by
  intro sz
  refine Met.ofW (cc := cX12_isNear) (maxL := 3) (ret := (some .boolean)) (by decide) rfl ?_
  intro p e s m args below meth c s₁ B hml hv
  obtain ⟨rfl, hsz, hP, hK, hD0, hRO⟩ := hv
  have hts := atoms_spec (ws := wz_X12_isNear) B.pre
  have hown : s.vm.findClass RX12 = some m.cls := findClass_of_methodNamed B.named
  subst hsz
  have hD := hD0.self (sz := s.heap.size)
  have F : CallFix p m c cX12_isNear 3 s _ wz_X12_isNear RX12 := ⟨B.exec, B.bytes, hml, hown, hts⟩
  have hr := B.returns
  have hlocks := B.notSynchronized
  generalize hAe : va_A (wL cy X S0) s.heap.size = A at hD hK ⊢
  have hA : ∀ q, s.heap.size ≤ q → A q := fun q h => by rw [← hAe]; exact Or.inr h
  have hW : wO D cy X A s.heap S0 s.heap [] := ⟨hP, hD, va_S.rf, hA, hRO⟩
  have hl := lv_entry ([.ref a0, .int x1, .int x2]) (n := 3) (Nat.le_of_ble_eq_true rfl)
  rw [lg_entry_eq]
  generalize (lg_sl ([.ref a0, .int x1, .int x2]) ++ List.replicate (3 - (lg_sl ([.ref a0, .int x1, .int x2])).length) Slot.unset).toArray = ls at hl ⊢
  have hl : lv_has ls 3 [(0, .ref a0), (1, .int x1), (2, .int x2)] := hl
  unfold wp_X12_isNear at hp
  exact t_X12_isNear_0 F hr hlocks hK hp hW wX.rf (lv_sub hl [0, 1, 2] rfl) hL_a0 hK_a0
def wp_X12_strikes_221 (D : wD) (post : Int32 → wS → Prop)  : Nat → wS → Int32 → Int32 → Int32 → Int32 → Prop
  | 0, _, _, _, _, _ => False
  | n + 1, S, x3, x4, x11, x12 =>
    ((x12 = x3 → narrow .boolean (.int (1 : Int32)) = .int (1 : Int32) ∧ post (1 : Int32) S) ∧
     (¬ x12 = x3 → ((¬ x12 = x4 → ∀ x_3 : Int32, x_3 = (x12 + x11) →
    wp_X12_strikes_221 D post n S x3 x4 x11 x_3) ∧
     (x12 = x4 → narrow .boolean (.int (0 : Int32)) = .int (0 : Int32) ∧ post (0 : Int32) S))))
def wp_X12_strikes_201 (D : wD) (post : Int32 → wS → Prop)  (S : wS) (a0 : Nat) (x2 : Int32) (x3 : Int32) (x4 : Int32) (x9 : Int32) (t0 : Int32) : Prop :=
∀ x_1 : Int32, x_1 = (((sI S a0 1) * t0) + x9) →
∀ x_2 : Int32, x_2 = (x2 + x_1) →
∃ n_3 : Nat, wp_X12_strikes_221 D post n_3 S x3 x4 x_1 x_2
def wp_X12_strikes_164 (D : wD) (post : Int32 → wS → Prop)  (S : wS) (a0 : Nat) (x2 : Int32) (x3 : Int32) (x4 : Int32) (t0 : Int32) : Prop :=
wp_X12_rankOf D (fun r_1 S_2 => 
wp_X12_rankOf D (fun r_3 S_4 => 
((r_1 ≤ r_3 → wp_X12_rankOf D (fun r_6 S_7 => 
wp_X12_rankOf D (fun r_8 S_9 => 
((r_8 ≤ r_6 → wp_X12_strikes_201 D post S_9 a0 x2 x3 x4 t0 (0 : Int32)) ∧
 (¬ r_8 ≤ r_6 → wp_X12_strikes_201 D post S_9 a0 x2 x3 x4 t0 (-1 : Int32)))) S_7 a0 x2) S_4 a0 x3) ∧
 (¬ r_1 ≤ r_3 → wp_X12_strikes_201 D post S_4 a0 x2 x3 x4 t0 (1 : Int32)))) S_2 a0 x2) S a0 x3
def wp_X12_strikes_129 (D : wD) (post : Int32 → wS → Prop)  (S : wS) (a0 : Nat) (x2 : Int32) (x3 : Int32) (x4 : Int32) : Prop :=
wp_X12_fileOf D (fun r_1 S_2 => 
wp_X12_fileOf D (fun r_3 S_4 => 
((r_1 ≤ r_3 → wp_X12_fileOf D (fun r_6 S_7 => 
wp_X12_fileOf D (fun r_8 S_9 => 
((r_8 ≤ r_6 → wp_X12_strikes_164 D post S_9 a0 x2 x3 x4 (0 : Int32)) ∧
 (¬ r_8 ≤ r_6 → wp_X12_strikes_164 D post S_9 a0 x2 x3 x4 (-1 : Int32)))) S_7 a0 x2) S_4 a0 x3) ∧
 (¬ r_1 ≤ r_3 → wp_X12_strikes_164 D post S_4 a0 x2 x3 x4 (1 : Int32)))) S_2 a0 x2) S a0 x3
def wp_X12_strikes_127 (D : wD) (post : Int32 → wS → Prop)  (S : wS) : Prop :=
narrow .boolean (.int (0 : Int32)) = .int (0 : Int32) ∧ post (0 : Int32) S
def wp_X12_strikes_117 (D : wD) (post : Int32 → wS → Prop)  (S : wS) (a0 : Nat) (x1 : Int32) (x2 : Int32) (x3 : Int32) (x4 : Int32) (x8 : Int32) : Prop :=
((¬ x1 = (4 : Int32) → wp_X12_strikes_127 D post S) ∧
 (x1 = (4 : Int32) → ((¬ x8 = 0 → wp_X12_strikes_129 D post S a0 x2 x3 x4) ∧
 (x8 = 0 → wp_X12_strikes_127 D post S))))
def wp_X12_strikes_107 (D : wD) (post : Int32 → wS → Prop)  (S : wS) (a0 : Nat) (x1 : Int32) (x2 : Int32) (x3 : Int32) (x4 : Int32) (x7 : Int32) (x8 : Int32) : Prop :=
((¬ x1 = (3 : Int32) → wp_X12_strikes_117 D post S a0 x1 x2 x3 x4 x8) ∧
 (x1 = (3 : Int32) → ((¬ x7 = 0 → wp_X12_strikes_129 D post S a0 x2 x3 x4) ∧
 (x7 = 0 → wp_X12_strikes_117 D post S a0 x1 x2 x3 x4 x8))))
def wp_X12_strikes_90 (D : wD) (post : Int32 → wS → Prop)  (S : wS) (a0 : Nat) (x1 : Int32) (x2 : Int32) (x3 : Int32) (x4 : Int32) (x7 : Int32) (t0 : Int32) : Prop :=
((¬ x1 = (2 : Int32) → wp_X12_strikes_107 D post S a0 x1 x2 x3 x4 x7 t0) ∧
 (x1 = (2 : Int32) → ((¬ x7 = 0 → wp_X12_strikes_129 D post S a0 x2 x3 x4) ∧
 (x7 = 0 → ((¬ t0 = 0 → wp_X12_strikes_129 D post S a0 x2 x3 x4) ∧
 (t0 = 0 → wp_X12_strikes_107 D post S a0 x1 x2 x3 x4 x7 t0))))))
def wp_X12_strikes_89 (D : wD) (post : Int32 → wS → Prop)  (S : wS) (a0 : Nat) (x1 : Int32) (x2 : Int32) (x3 : Int32) (x4 : Int32) (x7 : Int32) : Prop :=
wp_X12_strikes_90 D post S a0 x1 x2 x3 x4 x7 (0 : Int32)
def wp_X12_strikes_71 (D : wD) (post : Int32 → wS → Prop)  (S : wS) (a0 : Nat) (x1 : Int32) (x2 : Int32) (x3 : Int32) (x4 : Int32) (x5 : Int32) (x6 : Int32) (t0 : Int32) : Prop :=
((¬ x5 = x6 → wp_X12_strikes_89 D post S a0 x1 x2 x3 x4 t0) ∧
 (x5 = x6 → ((x5 ≤ 0 → wp_X12_strikes_89 D post S a0 x1 x2 x3 x4 t0) ∧
 (¬ x5 ≤ 0 → wp_X12_strikes_90 D post S a0 x1 x2 x3 x4 t0 (1 : Int32)))))
def wp_X12_strikes_70 (D : wD) (post : Int32 → wS → Prop)  (S : wS) (a0 : Nat) (x1 : Int32) (x2 : Int32) (x3 : Int32) (x4 : Int32) (x5 : Int32) (x6 : Int32) : Prop :=
wp_X12_strikes_71 D post S a0 x1 x2 x3 x4 x5 x6 (0 : Int32)
def wp_X12_strikes_49 (D : wD) (post : Int32 → wS → Prop)  (S : wS) (t0 : Int32) : Prop :=
narrow .boolean (.int t0) = .int t0 ∧ post t0 S
def wp_X12_strikes_0 (D : wD) (post : Int32 → wS → Prop)  (S : wS) (a0 : Nat) (x1 : Int32) (x2 : Int32) (x3 : Int32) (x4 : Int32) : Prop :=
wp_X12_fileOf D (fun r_1 S_2 => 
wp_X12_fileOf D (fun r_3 S_4 => 
wp_X12_distance D (fun r_5 S_6 => 
wp_X12_rankOf D (fun r_7 S_8 => 
wp_X12_rankOf D (fun r_9 S_10 => 
wp_X12_distance D (fun r_11 S_12 => 
((¬ x1 = (5 : Int32) → ((¬ (r_5 * r_11) = 0 → wp_X12_strikes_70 D post S_12 a0 x1 x2 x3 x4 r_5 r_11) ∧
 ((r_5 * r_11) = 0 → (((r_5 + r_11) ≤ 0 → wp_X12_strikes_70 D post S_12 a0 x1 x2 x3 x4 r_5 r_11) ∧
 (¬ (r_5 + r_11) ≤ 0 → wp_X12_strikes_71 D post S_12 a0 x1 x2 x3 x4 r_5 r_11 (1 : Int32)))))) ∧
 (x1 = (5 : Int32) → ((¬ (r_5 * r_11) = (2 : Int32) → wp_X12_strikes_49 D post S_12 (0 : Int32)) ∧
 ((r_5 * r_11) = (2 : Int32) → wp_X12_strikes_49 D post S_12 (1 : Int32)))))) S_10 r_7 r_9) S_8 a0 x3) S_6 a0 x2) S_4 r_1 r_3) S_2 a0 x3) S a0 x2
abbrev r_X12_strikes : Room := { frames := 1, cells := 0, slots := 0, locals := 21 }
def wp_X12_strikes (D : wD) (post : Int32 → wS → Prop) (S : wS) (a0 : Nat) (x1 : Int32) (x2 : Int32) (x3 : Int32) (x4 : Int32) : Prop := wp_X12_strikes_0 D post S a0 x1 x2 x3 x4
set_option maxHeartbeats 4000000 in
set_option maxRecDepth 100000 in
theorem t_X12_strikes_221 {p : Program} {l : Launch} {e : Env} {s : State} {m : MethodId} {args : Array Value} {below : List Frame} {meth : Method} {c : Code} {D : wD} {cy : Nat → ClassId} {X : va_W} {A : Nat → Prop} {S0 : wS} {post : Int32 → wS → Prop} (F : CallFix p m c cX12_strikes 13 s args wz_X12_strikes RX12) (hr : meth.sig.returnType = (some .boolean)) (hlocks : meth.locks = false) (hK : wK D cy A s) : ∀ (n : Nat) {S : wS} {H : Heap} {locs : List Loc} {ls : Array Slot} {x3 : Int32} {x4 : Int32} {x11 : Int32} {x12 : Int32}, wp_X12_strikes_221 D post n S x3 x4 x11 x12 → wO D cy X A s.heap S H locs → wX D S0 S → lv_has ls 13 [(3, .int x3), (4, .int x4), (11, .int x11), (12, .int x12)] → W p l e r_X12_strikes s m args below meth c H locs 0 0 (MQ below (va_Qi (fun r S9 => wX D S0 S9 ∧ post r S9) (wB D cy X A) A) args s 0 0 A) (F0 m 221 ls []) := by
  obtain ⟨hx, hb, hml, hown, hts⟩ := id F
  have hwg : ∀ w ∈ WG, w.before args s = true := fun w h => hts w (List.mem_cons_of_mem _ h)
  intro n
  induction n with
  | zero =>
    intro S H locs ls x3 x4 x11 x12 hp
    exact hp.elim
  | succ n ih =>
    intro S H locs ls x3 x4 x11 x12 hp hW hE hl
    unfold wp_X12_strikes_221 at hp
    refine lv_iload hx hb dX12_strikes_221 (lv_at hl 3 rfl) ?_
    refine lv_iload_n hx hb dX12_strikes_223 rfl (lv_at hl 0 rfl) ?_
    refine lv_icmp_eq (tgt := 246) hx hb dX12_strikes_224 (by decide) (fun c_1 => ?_) (fun c_1 => ?_)
    · replace hp := hp.1 c_1
      refine lv_iconst (v := 1) hx hb dX12_strikes_246 (by decide) ?_
      exact w_zret hx hb hr hlocks hW hp.1 ⟨hE, hp.2⟩ dX12_strikes_247
    · replace hp := hp.2 c_1
      refine lv_iload hx hb dX12_strikes_227 (lv_at hl 3 rfl) ?_
      refine lv_iload hx hb dX12_strikes_229 (lv_at hl 1 rfl) ?_
      refine lv_icmp_ne (tgt := 236) hx hb dX12_strikes_231 (by decide) (fun c_2 => ?_) (fun c_2 => ?_)
      · replace hp := hp.1 c_2
        refine lv_iload hx hb dX12_strikes_236 (lv_at hl 3 rfl) ?_
        refine lv_iload hx hb dX12_strikes_238 (lv_at hl 2 rfl) ?_
        refine lv_iadd hx hb dX12_strikes_240 ?_
        refine lv_topi (fun x_3 ex_3 => ?_)
        replace hp := hp x_3 ex_3
        refine lv_istore (lv' := [(12, .int x_3), (3, .int x3), (4, .int x4), (11, .int x11)]) hx hb dX12_strikes_241 hl (by decide) rfl (fun ls hl => ?_)
        refine lv_goto (tgt := 221) hx hb dX12_strikes_243 (by decide) ?_
        exact ih hp hW hE (lv_sub hl [1, 2, 3, 0] rfl)
      · replace hp := hp.2 c_2
        refine lv_iconst (v := 0) hx hb dX12_strikes_234 (by decide) ?_
        exact w_zret hx hb hr hlocks hW hp.1 ⟨hE, hp.2⟩ dX12_strikes_235
set_option maxHeartbeats 4000000 in
set_option maxRecDepth 100000 in
theorem t_X12_strikes_201 {p : Program} {l : Launch} {e : Env} {s : State} {m : MethodId} {args : Array Value} {below : List Frame} {meth : Method} {c : Code} {D : wD} {cy : Nat → ClassId} {X : va_W} {A : Nat → Prop} {S0 : wS} {post : Int32 → wS → Prop} (F : CallFix p m c cX12_strikes 13 s args wz_X12_strikes RX12) (hr : meth.sig.returnType = (some .boolean)) (hlocks : meth.locks = false) (hK : wK D cy A s) : ∀ {S : wS} {H : Heap} {locs : List Loc} {ls : Array Slot} {a0 : Nat} {x2 : Int32} {x3 : Int32} {x4 : Int32} {x9 : Int32} {t0 : Int32}, wp_X12_strikes_201 D post S a0 x2 x3 x4 x9 t0 → wO D cy X A s.heap S H locs → wX D S0 S → lv_has ls 13 [(0, .ref a0), (2, .int x2), (3, .int x3), (4, .int x4), (9, .int x9)] → wM D S a0 → sK S a0 = 17 → W p l e r_X12_strikes s m args below meth c H locs 0 0 (MQ below (va_Qi (fun r S9 => wX D S0 S9 ∧ post r S9) (wB D cy X A) A) args s 0 0 A) (F0 m 201 ls [.int t0]) := by
  obtain ⟨hx, hb, hml, hown, hts⟩ := id F
  have hwg : ∀ w ∈ WG, w.before args s = true := fun w h => hts w (List.mem_cons_of_mem _ h)
  have i_17 : ∀ w ∈ u_ws RX12 TX12 43, w ∈ wz_X12_strikes := fun w h => List.mem_cons_of_mem _ (wu_17 w h)
  have k_9 := hwg _ wf_RX12_9
  intro S H locs ls a0 x2 x3 x4 x9 t0 hp hW hE hl hL_a0 hK_a0
  unfold wp_X12_strikes_201 at hp
  refine lv_istore (lv' := [(10, .int t0), (0, .ref a0), (2, .int x2), (3, .int x3), (4, .int x4), (9, .int x9)]) hx hb dX12_strikes_201 hl (by decide) rfl (fun ls hl => ?_)
  refine lv_aload_n hx hb dX12_strikes_203 rfl (lv_at hl 1 rfl) ?_
  refine w_get (k := 17) (f := 1) (T := TX12) (v := .int (sI S a0 1)) F hK hW hL_a0 hK_a0 (by decide) rfl rfl (by decide) i_17 k_9 rfl dX12_strikes_204 ?_
  refine lv_iload hx hb dX12_strikes_207 (lv_at hl 0 rfl) ?_
  refine lv_imul hx hb dX12_strikes_209 ?_
  refine lv_iload hx hb dX12_strikes_210 (lv_at hl 5 rfl) ?_
  refine lv_iadd hx hb dX12_strikes_212 ?_
  refine lv_topi (fun x_1 ex_1 => ?_)
  replace hp := hp x_1 ex_1
  refine lv_istore (lv' := [(11, .int x_1), (10, .int t0), (0, .ref a0), (2, .int x2), (3, .int x3), (4, .int x4), (9, .int x9)]) hx hb dX12_strikes_213 hl (by decide) rfl (fun ls hl => ?_)
  refine lv_iload_n hx hb dX12_strikes_215 rfl (lv_at hl 3 rfl) ?_
  refine lv_iload hx hb dX12_strikes_216 (lv_at hl 0 rfl) ?_
  refine lv_iadd hx hb dX12_strikes_218 ?_
  refine lv_topi (fun x_2 ex_2 => ?_)
  replace hp := hp x_2 ex_2
  refine lv_istore (lv' := [(12, .int x_2), (11, .int x_1), (10, .int t0), (0, .ref a0), (2, .int x2), (3, .int x3), (4, .int x4), (9, .int x9)]) hx hb dX12_strikes_219 hl (by decide) rfl (fun ls hl => ?_)
  obtain ⟨n_3, hp⟩ := hp
  exact t_X12_strikes_221 F hr hlocks hK n_3 hp hW hE (lv_sub hl [5, 6, 1, 0] rfl)
set_option maxHeartbeats 4000000 in
set_option maxRecDepth 100000 in
theorem t_X12_strikes_164 {p : Program} {l : Launch} {e : Env} {s : State} {m : MethodId} {args : Array Value} {below : List Frame} {meth : Method} {c : Code} {D : wD} {cy : Nat → ClassId} {X : va_W} {A : Nat → Prop} {S0 : wS} {post : Int32 → wS → Prop} (F : CallFix p m c cX12_strikes 13 s args wz_X12_strikes RX12) (hr : meth.sig.returnType = (some .boolean)) (hlocks : meth.locks = false) (hK : wK D cy A s) : ∀ {S : wS} {H : Heap} {locs : List Loc} {ls : Array Slot} {a0 : Nat} {x2 : Int32} {x3 : Int32} {x4 : Int32} {t0 : Int32}, wp_X12_strikes_164 D post S a0 x2 x3 x4 t0 → wO D cy X A s.heap S H locs → wX D S0 S → lv_has ls 13 [(0, .ref a0), (2, .int x2), (3, .int x3), (4, .int x4)] → wM D S a0 → sK S a0 = 17 → W p l e r_X12_strikes s m args below meth c H locs 0 0 (MQ below (va_Qi (fun r S9 => wX D S0 S9 ∧ post r S9) (wB D cy X A) A) args s 0 0 A) (F0 m 164 ls [.int t0]) := by
  obtain ⟨hx, hb, hml, hown, hts⟩ := id F
  have hwg : ∀ w ∈ WG, w.before args s = true := fun w h => hts w (List.mem_cons_of_mem _ h)
  intro S H locs ls a0 x2 x3 x4 t0 hp hW hE hl hL_a0 hK_a0
  unfold wp_X12_strikes_164 at hp
  refine lv_istore (lv' := [(9, .int t0), (0, .ref a0), (2, .int x2), (3, .int x3), (4, .int x4)]) hx hb dX12_strikes_164 hl (by decide) rfl (fun ls hl => ?_)
  refine lv_aload_n hx hb dX12_strikes_166 rfl (lv_at hl 1 rfl) ?_
  refine lv_iload_n hx hb dX12_strikes_167 rfl (lv_at hl 3 rfl) ?_
  refine w_callI (va_runV (As := [.int x3]) (rest := []) F (c_X12_rankOf l hL_a0 hK_a0 hp H.size) (cwV (C := RX12) 1 hts (wg_V wm_RX12_138 wy_X12_rankOf) rfl rfl rfl (by decide +kernel) ⟨Nat.le_of_ble_eq_true rfl, Nat.le_of_ble_eq_true rfl⟩) (w_preV hK hW hL_a0 hK_a0 (by decide) rfl) rfl rfl hl.1 rfl (lv_room (Nat.le_of_ble_eq_true rfl)) dX12_strikes_168 ⟨Nat.le_of_ble_eq_true rfl, Nat.le_of_ble_eq_true rfl⟩) hW (fun r_1 S_2 H locs hp hW => ?_)
  obtain ⟨hX_S_2, hp⟩ := hp
  refine W.widen (k := 0) (n := 0) (by decide) (by decide) ?_
  have hE := hE.trans hX_S_2
  have hK_a0 : sK S_2 a0 = 17 := (hX_S_2.2 a0 hL_a0).1.trans hK_a0
  have hL_a0 : wM D S_2 a0 := hX_S_2.M hL_a0
  refine lv_aload_n hx hb dX12_strikes_171 rfl (lv_at hl 1 rfl) ?_
  refine lv_iload_n hx hb dX12_strikes_172 rfl (lv_at hl 2 rfl) ?_
  refine w_callI (va_runV (As := [.int x2]) (rest := [.int r_1]) F (c_X12_rankOf l hL_a0 hK_a0 hp H.size) (cwV (C := RX12) 1 hts (wg_V wm_RX12_138 wy_X12_rankOf) rfl rfl rfl (by decide +kernel) ⟨Nat.le_of_ble_eq_true rfl, Nat.le_of_ble_eq_true rfl⟩) (w_preV hK hW hL_a0 hK_a0 (by decide) rfl) rfl rfl hl.1 rfl (lv_room (Nat.le_of_ble_eq_true rfl)) dX12_strikes_173 ⟨Nat.le_of_ble_eq_true rfl, Nat.le_of_ble_eq_true rfl⟩) hW (fun r_3 S_4 H locs hp hW => ?_)
  obtain ⟨hX_S_4, hp⟩ := hp
  refine W.widen (k := 0) (n := 0) (by decide) (by decide) ?_
  have hE := hE.trans hX_S_4
  have hK_a0 : sK S_4 a0 = 17 := (hX_S_4.2 a0 hL_a0).1.trans hK_a0
  have hL_a0 : wM D S_4 a0 := hX_S_4.M hL_a0
  refine lv_icmp_le (tgt := 183) hx hb dX12_strikes_176 (by decide) (fun c_5 => ?_) (fun c_5 => ?_)
  · replace hp := hp.1 c_5
    refine lv_aload_n hx hb dX12_strikes_183 rfl (lv_at hl 1 rfl) ?_
    refine lv_iload_n hx hb dX12_strikes_184 rfl (lv_at hl 3 rfl) ?_
    refine w_callI (va_runV (As := [.int x3]) (rest := []) F (c_X12_rankOf l hL_a0 hK_a0 hp H.size) (cwV (C := RX12) 1 hts (wg_V wm_RX12_138 wy_X12_rankOf) rfl rfl rfl (by decide +kernel) ⟨Nat.le_of_ble_eq_true rfl, Nat.le_of_ble_eq_true rfl⟩) (w_preV hK hW hL_a0 hK_a0 (by decide) rfl) rfl rfl hl.1 rfl (lv_room (Nat.le_of_ble_eq_true rfl)) dX12_strikes_185 ⟨Nat.le_of_ble_eq_true rfl, Nat.le_of_ble_eq_true rfl⟩) hW (fun r_6 S_7 H locs hp hW => ?_)
    obtain ⟨hX_S_7, hp⟩ := hp
    refine W.widen (k := 0) (n := 0) (by decide) (by decide) ?_
    have hE := hE.trans hX_S_7
    have hK_a0 : sK S_7 a0 = 17 := (hX_S_7.2 a0 hL_a0).1.trans hK_a0
    have hL_a0 : wM D S_7 a0 := hX_S_7.M hL_a0
    refine lv_aload_n hx hb dX12_strikes_188 rfl (lv_at hl 1 rfl) ?_
    refine lv_iload_n hx hb dX12_strikes_189 rfl (lv_at hl 2 rfl) ?_
    refine w_callI (va_runV (As := [.int x2]) (rest := [.int r_6]) F (c_X12_rankOf l hL_a0 hK_a0 hp H.size) (cwV (C := RX12) 1 hts (wg_V wm_RX12_138 wy_X12_rankOf) rfl rfl rfl (by decide +kernel) ⟨Nat.le_of_ble_eq_true rfl, Nat.le_of_ble_eq_true rfl⟩) (w_preV hK hW hL_a0 hK_a0 (by decide) rfl) rfl rfl hl.1 rfl (lv_room (Nat.le_of_ble_eq_true rfl)) dX12_strikes_190 ⟨Nat.le_of_ble_eq_true rfl, Nat.le_of_ble_eq_true rfl⟩) hW (fun r_8 S_9 H locs hp hW => ?_)
    obtain ⟨hX_S_9, hp⟩ := hp
    refine W.widen (k := 0) (n := 0) (by decide) (by decide) ?_
    have hE := hE.trans hX_S_9
    have hK_a0 : sK S_9 a0 = 17 := (hX_S_9.2 a0 hL_a0).1.trans hK_a0
    have hL_a0 : wM D S_9 a0 := hX_S_9.M hL_a0
    refine lv_icmp_ge (tgt := 200) hx hb dX12_strikes_193 (by decide) (fun c_10 => ?_) (fun c_10 => ?_)
    · replace hp := hp.1 c_10
      refine lv_iconst (v := 0) hx hb dX12_strikes_200 (by decide) ?_
      exact t_X12_strikes_201 F hr hlocks hK hp hW hE (lv_sub hl [1, 2, 3, 4, 0] rfl) hL_a0 hK_a0
    · replace hp := hp.2 c_10
      refine lv_iconst (v := (-1)) hx hb dX12_strikes_196 (by decide) ?_
      refine lv_goto (tgt := 201) hx hb dX12_strikes_197 (by decide) ?_
      exact t_X12_strikes_201 F hr hlocks hK hp hW hE (lv_sub hl [1, 2, 3, 4, 0] rfl) hL_a0 hK_a0
  · replace hp := hp.2 c_5
    refine lv_iconst (v := 1) hx hb dX12_strikes_179 (by decide) ?_
    refine lv_goto (tgt := 201) hx hb dX12_strikes_180 (by decide) ?_
    exact t_X12_strikes_201 F hr hlocks hK hp hW hE (lv_sub hl [1, 2, 3, 4, 0] rfl) hL_a0 hK_a0
set_option maxHeartbeats 4000000 in
set_option maxRecDepth 100000 in
theorem t_X12_strikes_129 {p : Program} {l : Launch} {e : Env} {s : State} {m : MethodId} {args : Array Value} {below : List Frame} {meth : Method} {c : Code} {D : wD} {cy : Nat → ClassId} {X : va_W} {A : Nat → Prop} {S0 : wS} {post : Int32 → wS → Prop} (F : CallFix p m c cX12_strikes 13 s args wz_X12_strikes RX12) (hr : meth.sig.returnType = (some .boolean)) (hlocks : meth.locks = false) (hK : wK D cy A s) : ∀ {S : wS} {H : Heap} {locs : List Loc} {ls : Array Slot} {a0 : Nat} {x2 : Int32} {x3 : Int32} {x4 : Int32}, wp_X12_strikes_129 D post S a0 x2 x3 x4 → wO D cy X A s.heap S H locs → wX D S0 S → lv_has ls 13 [(0, .ref a0), (2, .int x2), (3, .int x3), (4, .int x4)] → wM D S a0 → sK S a0 = 17 → W p l e r_X12_strikes s m args below meth c H locs 0 0 (MQ below (va_Qi (fun r S9 => wX D S0 S9 ∧ post r S9) (wB D cy X A) A) args s 0 0 A) (F0 m 129 ls []) := by
  obtain ⟨hx, hb, hml, hown, hts⟩ := id F
  have hwg : ∀ w ∈ WG, w.before args s = true := fun w h => hts w (List.mem_cons_of_mem _ h)
  intro S H locs ls a0 x2 x3 x4 hp hW hE hl hL_a0 hK_a0
  unfold wp_X12_strikes_129 at hp
  refine lv_aload_n hx hb dX12_strikes_129 rfl (lv_at hl 0 rfl) ?_
  refine lv_iload_n hx hb dX12_strikes_130 rfl (lv_at hl 2 rfl) ?_
  refine w_callI (va_runV (As := [.int x3]) (rest := []) F (c_X12_fileOf l hL_a0 hK_a0 hp H.size) (cwV (C := RX12) 1 hts (wg_V wm_RX12_134 wy_X12_fileOf) rfl rfl rfl (by decide +kernel) ⟨Nat.le_of_ble_eq_true rfl, Nat.le_of_ble_eq_true rfl⟩) (w_preV hK hW hL_a0 hK_a0 (by decide) rfl) rfl rfl hl.1 rfl (lv_room (Nat.le_of_ble_eq_true rfl)) dX12_strikes_131 ⟨Nat.le_of_ble_eq_true rfl, Nat.le_of_ble_eq_true rfl⟩) hW (fun r_1 S_2 H locs hp hW => ?_)
  obtain ⟨hX_S_2, hp⟩ := hp
  refine W.widen (k := 0) (n := 0) (by decide) (by decide) ?_
  have hE := hE.trans hX_S_2
  have hK_a0 : sK S_2 a0 = 17 := (hX_S_2.2 a0 hL_a0).1.trans hK_a0
  have hL_a0 : wM D S_2 a0 := hX_S_2.M hL_a0
  refine lv_aload_n hx hb dX12_strikes_134 rfl (lv_at hl 0 rfl) ?_
  refine lv_iload_n hx hb dX12_strikes_135 rfl (lv_at hl 1 rfl) ?_
  refine w_callI (va_runV (As := [.int x2]) (rest := [.int r_1]) F (c_X12_fileOf l hL_a0 hK_a0 hp H.size) (cwV (C := RX12) 1 hts (wg_V wm_RX12_134 wy_X12_fileOf) rfl rfl rfl (by decide +kernel) ⟨Nat.le_of_ble_eq_true rfl, Nat.le_of_ble_eq_true rfl⟩) (w_preV hK hW hL_a0 hK_a0 (by decide) rfl) rfl rfl hl.1 rfl (lv_room (Nat.le_of_ble_eq_true rfl)) dX12_strikes_136 ⟨Nat.le_of_ble_eq_true rfl, Nat.le_of_ble_eq_true rfl⟩) hW (fun r_3 S_4 H locs hp hW => ?_)
  obtain ⟨hX_S_4, hp⟩ := hp
  refine W.widen (k := 0) (n := 0) (by decide) (by decide) ?_
  have hE := hE.trans hX_S_4
  have hK_a0 : sK S_4 a0 = 17 := (hX_S_4.2 a0 hL_a0).1.trans hK_a0
  have hL_a0 : wM D S_4 a0 := hX_S_4.M hL_a0
  refine lv_icmp_le (tgt := 146) hx hb dX12_strikes_139 (by decide) (fun c_5 => ?_) (fun c_5 => ?_)
  · replace hp := hp.1 c_5
    refine lv_aload_n hx hb dX12_strikes_146 rfl (lv_at hl 0 rfl) ?_
    refine lv_iload_n hx hb dX12_strikes_147 rfl (lv_at hl 2 rfl) ?_
    refine w_callI (va_runV (As := [.int x3]) (rest := []) F (c_X12_fileOf l hL_a0 hK_a0 hp H.size) (cwV (C := RX12) 1 hts (wg_V wm_RX12_134 wy_X12_fileOf) rfl rfl rfl (by decide +kernel) ⟨Nat.le_of_ble_eq_true rfl, Nat.le_of_ble_eq_true rfl⟩) (w_preV hK hW hL_a0 hK_a0 (by decide) rfl) rfl rfl hl.1 rfl (lv_room (Nat.le_of_ble_eq_true rfl)) dX12_strikes_148 ⟨Nat.le_of_ble_eq_true rfl, Nat.le_of_ble_eq_true rfl⟩) hW (fun r_6 S_7 H locs hp hW => ?_)
    obtain ⟨hX_S_7, hp⟩ := hp
    refine W.widen (k := 0) (n := 0) (by decide) (by decide) ?_
    have hE := hE.trans hX_S_7
    have hK_a0 : sK S_7 a0 = 17 := (hX_S_7.2 a0 hL_a0).1.trans hK_a0
    have hL_a0 : wM D S_7 a0 := hX_S_7.M hL_a0
    refine lv_aload_n hx hb dX12_strikes_151 rfl (lv_at hl 0 rfl) ?_
    refine lv_iload_n hx hb dX12_strikes_152 rfl (lv_at hl 1 rfl) ?_
    refine w_callI (va_runV (As := [.int x2]) (rest := [.int r_6]) F (c_X12_fileOf l hL_a0 hK_a0 hp H.size) (cwV (C := RX12) 1 hts (wg_V wm_RX12_134 wy_X12_fileOf) rfl rfl rfl (by decide +kernel) ⟨Nat.le_of_ble_eq_true rfl, Nat.le_of_ble_eq_true rfl⟩) (w_preV hK hW hL_a0 hK_a0 (by decide) rfl) rfl rfl hl.1 rfl (lv_room (Nat.le_of_ble_eq_true rfl)) dX12_strikes_153 ⟨Nat.le_of_ble_eq_true rfl, Nat.le_of_ble_eq_true rfl⟩) hW (fun r_8 S_9 H locs hp hW => ?_)
    obtain ⟨hX_S_9, hp⟩ := hp
    refine W.widen (k := 0) (n := 0) (by decide) (by decide) ?_
    have hE := hE.trans hX_S_9
    have hK_a0 : sK S_9 a0 = 17 := (hX_S_9.2 a0 hL_a0).1.trans hK_a0
    have hL_a0 : wM D S_9 a0 := hX_S_9.M hL_a0
    refine lv_icmp_ge (tgt := 163) hx hb dX12_strikes_156 (by decide) (fun c_10 => ?_) (fun c_10 => ?_)
    · replace hp := hp.1 c_10
      refine lv_iconst (v := 0) hx hb dX12_strikes_163 (by decide) ?_
      exact t_X12_strikes_164 F hr hlocks hK hp hW hE (lv_sub hl [0, 1, 2, 3] rfl) hL_a0 hK_a0
    · replace hp := hp.2 c_10
      refine lv_iconst (v := (-1)) hx hb dX12_strikes_159 (by decide) ?_
      refine lv_goto (tgt := 164) hx hb dX12_strikes_160 (by decide) ?_
      exact t_X12_strikes_164 F hr hlocks hK hp hW hE (lv_sub hl [0, 1, 2, 3] rfl) hL_a0 hK_a0
  · replace hp := hp.2 c_5
    refine lv_iconst (v := 1) hx hb dX12_strikes_142 (by decide) ?_
    refine lv_goto (tgt := 164) hx hb dX12_strikes_143 (by decide) ?_
    exact t_X12_strikes_164 F hr hlocks hK hp hW hE (lv_sub hl [0, 1, 2, 3] rfl) hL_a0 hK_a0
set_option maxHeartbeats 4000000 in
set_option maxRecDepth 100000 in
theorem t_X12_strikes_127 {p : Program} {l : Launch} {e : Env} {s : State} {m : MethodId} {args : Array Value} {below : List Frame} {meth : Method} {c : Code} {D : wD} {cy : Nat → ClassId} {X : va_W} {A : Nat → Prop} {S0 : wS} {post : Int32 → wS → Prop} (F : CallFix p m c cX12_strikes 13 s args wz_X12_strikes RX12) (hr : meth.sig.returnType = (some .boolean)) (hlocks : meth.locks = false) (hK : wK D cy A s) : ∀ {S : wS} {H : Heap} {locs : List Loc} {ls : Array Slot}, wp_X12_strikes_127 D post S → wO D cy X A s.heap S H locs → wX D S0 S → lv_has ls 13 [] → W p l e r_X12_strikes s m args below meth c H locs 0 0 (MQ below (va_Qi (fun r S9 => wX D S0 S9 ∧ post r S9) (wB D cy X A) A) args s 0 0 A) (F0 m 127 ls []) := by
  obtain ⟨hx, hb, hml, hown, hts⟩ := id F
  have hwg : ∀ w ∈ WG, w.before args s = true := fun w h => hts w (List.mem_cons_of_mem _ h)
  intro S H locs ls hp hW hE hl
  unfold wp_X12_strikes_127 at hp
  refine lv_iconst (v := 0) hx hb dX12_strikes_127 (by decide) ?_
  exact w_zret hx hb hr hlocks hW hp.1 ⟨hE, hp.2⟩ dX12_strikes_128
set_option maxHeartbeats 4000000 in
set_option maxRecDepth 100000 in
theorem t_X12_strikes_117 {p : Program} {l : Launch} {e : Env} {s : State} {m : MethodId} {args : Array Value} {below : List Frame} {meth : Method} {c : Code} {D : wD} {cy : Nat → ClassId} {X : va_W} {A : Nat → Prop} {S0 : wS} {post : Int32 → wS → Prop} (F : CallFix p m c cX12_strikes 13 s args wz_X12_strikes RX12) (hr : meth.sig.returnType = (some .boolean)) (hlocks : meth.locks = false) (hK : wK D cy A s) : ∀ {S : wS} {H : Heap} {locs : List Loc} {ls : Array Slot} {a0 : Nat} {x1 : Int32} {x2 : Int32} {x3 : Int32} {x4 : Int32} {x8 : Int32}, wp_X12_strikes_117 D post S a0 x1 x2 x3 x4 x8 → wO D cy X A s.heap S H locs → wX D S0 S → lv_has ls 13 [(0, .ref a0), (1, .int x1), (2, .int x2), (3, .int x3), (4, .int x4), (8, .int x8)] → wM D S a0 → sK S a0 = 17 → W p l e r_X12_strikes s m args below meth c H locs 0 0 (MQ below (va_Qi (fun r S9 => wX D S0 S9 ∧ post r S9) (wB D cy X A) A) args s 0 0 A) (F0 m 117 ls []) := by
  obtain ⟨hx, hb, hml, hown, hts⟩ := id F
  have hwg : ∀ w ∈ WG, w.before args s = true := fun w h => hts w (List.mem_cons_of_mem _ h)
  intro S H locs ls a0 x1 x2 x3 x4 x8 hp hW hE hl hL_a0 hK_a0
  unfold wp_X12_strikes_117 at hp
  refine lv_iload_n hx hb dX12_strikes_117 rfl (lv_at hl 1 rfl) ?_
  refine lv_iconst (v := 4) hx hb dX12_strikes_118 (by decide) ?_
  refine lv_icmp_ne (tgt := 127) hx hb dX12_strikes_119 (by decide) (fun c_1 => ?_) (fun c_1 => ?_)
  · replace hp := hp.1 c_1
    exact t_X12_strikes_127 F hr hlocks hK hp hW hE (lv_sub hl [] rfl)
  · replace hp := hp.2 c_1
    refine lv_iload hx hb dX12_strikes_122 (lv_at hl 5 rfl) ?_
    refine lv_if_ne (tgt := 129) hx hb dX12_strikes_124 (by decide) (fun c_2 => ?_) (fun c_2 => ?_)
    · replace hp := hp.1 c_2
      exact t_X12_strikes_129 F hr hlocks hK hp hW hE (lv_sub hl [0, 2, 3, 4] rfl) hL_a0 hK_a0
    · replace hp := hp.2 c_2
      exact t_X12_strikes_127 F hr hlocks hK hp hW hE (lv_sub hl [] rfl)
set_option maxHeartbeats 4000000 in
set_option maxRecDepth 100000 in
theorem t_X12_strikes_107 {p : Program} {l : Launch} {e : Env} {s : State} {m : MethodId} {args : Array Value} {below : List Frame} {meth : Method} {c : Code} {D : wD} {cy : Nat → ClassId} {X : va_W} {A : Nat → Prop} {S0 : wS} {post : Int32 → wS → Prop} (F : CallFix p m c cX12_strikes 13 s args wz_X12_strikes RX12) (hr : meth.sig.returnType = (some .boolean)) (hlocks : meth.locks = false) (hK : wK D cy A s) : ∀ {S : wS} {H : Heap} {locs : List Loc} {ls : Array Slot} {a0 : Nat} {x1 : Int32} {x2 : Int32} {x3 : Int32} {x4 : Int32} {x7 : Int32} {x8 : Int32}, wp_X12_strikes_107 D post S a0 x1 x2 x3 x4 x7 x8 → wO D cy X A s.heap S H locs → wX D S0 S → lv_has ls 13 [(0, .ref a0), (1, .int x1), (2, .int x2), (3, .int x3), (4, .int x4), (7, .int x7), (8, .int x8)] → wM D S a0 → sK S a0 = 17 → W p l e r_X12_strikes s m args below meth c H locs 0 0 (MQ below (va_Qi (fun r S9 => wX D S0 S9 ∧ post r S9) (wB D cy X A) A) args s 0 0 A) (F0 m 107 ls []) := by
  obtain ⟨hx, hb, hml, hown, hts⟩ := id F
  have hwg : ∀ w ∈ WG, w.before args s = true := fun w h => hts w (List.mem_cons_of_mem _ h)
  intro S H locs ls a0 x1 x2 x3 x4 x7 x8 hp hW hE hl hL_a0 hK_a0
  unfold wp_X12_strikes_107 at hp
  refine lv_iload_n hx hb dX12_strikes_107 rfl (lv_at hl 1 rfl) ?_
  refine lv_iconst (v := 3) hx hb dX12_strikes_108 (by decide) ?_
  refine lv_icmp_ne (tgt := 117) hx hb dX12_strikes_109 (by decide) (fun c_1 => ?_) (fun c_1 => ?_)
  · replace hp := hp.1 c_1
    exact t_X12_strikes_117 F hr hlocks hK hp hW hE (lv_sub hl [0, 1, 2, 3, 4, 6] rfl) hL_a0 hK_a0
  · replace hp := hp.2 c_1
    refine lv_iload hx hb dX12_strikes_112 (lv_at hl 5 rfl) ?_
    refine lv_if_ne (tgt := 129) hx hb dX12_strikes_114 (by decide) (fun c_2 => ?_) (fun c_2 => ?_)
    · replace hp := hp.1 c_2
      exact t_X12_strikes_129 F hr hlocks hK hp hW hE (lv_sub hl [0, 2, 3, 4] rfl) hL_a0 hK_a0
    · replace hp := hp.2 c_2
      exact t_X12_strikes_117 F hr hlocks hK hp hW hE (lv_sub hl [0, 1, 2, 3, 4, 6] rfl) hL_a0 hK_a0
set_option maxHeartbeats 4000000 in
set_option maxRecDepth 100000 in
theorem t_X12_strikes_90 {p : Program} {l : Launch} {e : Env} {s : State} {m : MethodId} {args : Array Value} {below : List Frame} {meth : Method} {c : Code} {D : wD} {cy : Nat → ClassId} {X : va_W} {A : Nat → Prop} {S0 : wS} {post : Int32 → wS → Prop} (F : CallFix p m c cX12_strikes 13 s args wz_X12_strikes RX12) (hr : meth.sig.returnType = (some .boolean)) (hlocks : meth.locks = false) (hK : wK D cy A s) : ∀ {S : wS} {H : Heap} {locs : List Loc} {ls : Array Slot} {a0 : Nat} {x1 : Int32} {x2 : Int32} {x3 : Int32} {x4 : Int32} {x7 : Int32} {t0 : Int32}, wp_X12_strikes_90 D post S a0 x1 x2 x3 x4 x7 t0 → wO D cy X A s.heap S H locs → wX D S0 S → lv_has ls 13 [(0, .ref a0), (1, .int x1), (2, .int x2), (3, .int x3), (4, .int x4), (7, .int x7)] → wM D S a0 → sK S a0 = 17 → W p l e r_X12_strikes s m args below meth c H locs 0 0 (MQ below (va_Qi (fun r S9 => wX D S0 S9 ∧ post r S9) (wB D cy X A) A) args s 0 0 A) (F0 m 90 ls [.int t0]) := by
  obtain ⟨hx, hb, hml, hown, hts⟩ := id F
  have hwg : ∀ w ∈ WG, w.before args s = true := fun w h => hts w (List.mem_cons_of_mem _ h)
  intro S H locs ls a0 x1 x2 x3 x4 x7 t0 hp hW hE hl hL_a0 hK_a0
  unfold wp_X12_strikes_90 at hp
  refine lv_istore (lv' := [(8, .int t0), (0, .ref a0), (1, .int x1), (2, .int x2), (3, .int x3), (4, .int x4), (7, .int x7)]) hx hb dX12_strikes_90 hl (by decide) rfl (fun ls hl => ?_)
  refine lv_iload_n hx hb dX12_strikes_92 rfl (lv_at hl 2 rfl) ?_
  refine lv_iconst (v := 2) hx hb dX12_strikes_93 (by decide) ?_
  refine lv_icmp_ne (tgt := 107) hx hb dX12_strikes_94 (by decide) (fun c_1 => ?_) (fun c_1 => ?_)
  · replace hp := hp.1 c_1
    exact t_X12_strikes_107 F hr hlocks hK hp hW hE (lv_sub hl [1, 2, 3, 4, 5, 6, 0] rfl) hL_a0 hK_a0
  · replace hp := hp.2 c_1
    refine lv_iload hx hb dX12_strikes_97 (lv_at hl 6 rfl) ?_
    refine lv_if_ne (tgt := 129) hx hb dX12_strikes_99 (by decide) (fun c_2 => ?_) (fun c_2 => ?_)
    · replace hp := hp.1 c_2
      exact t_X12_strikes_129 F hr hlocks hK hp hW hE (lv_sub hl [1, 3, 4, 5] rfl) hL_a0 hK_a0
    · replace hp := hp.2 c_2
      refine lv_iload hx hb dX12_strikes_102 (lv_at hl 0 rfl) ?_
      refine lv_if_ne (tgt := 129) hx hb dX12_strikes_104 (by decide) (fun c_3 => ?_) (fun c_3 => ?_)
      · replace hp := hp.1 c_3
        exact t_X12_strikes_129 F hr hlocks hK hp hW hE (lv_sub hl [1, 3, 4, 5] rfl) hL_a0 hK_a0
      · replace hp := hp.2 c_3
        exact t_X12_strikes_107 F hr hlocks hK hp hW hE (lv_sub hl [1, 2, 3, 4, 5, 6, 0] rfl) hL_a0 hK_a0
set_option maxHeartbeats 4000000 in
set_option maxRecDepth 100000 in
theorem t_X12_strikes_89 {p : Program} {l : Launch} {e : Env} {s : State} {m : MethodId} {args : Array Value} {below : List Frame} {meth : Method} {c : Code} {D : wD} {cy : Nat → ClassId} {X : va_W} {A : Nat → Prop} {S0 : wS} {post : Int32 → wS → Prop} (F : CallFix p m c cX12_strikes 13 s args wz_X12_strikes RX12) (hr : meth.sig.returnType = (some .boolean)) (hlocks : meth.locks = false) (hK : wK D cy A s) : ∀ {S : wS} {H : Heap} {locs : List Loc} {ls : Array Slot} {a0 : Nat} {x1 : Int32} {x2 : Int32} {x3 : Int32} {x4 : Int32} {x7 : Int32}, wp_X12_strikes_89 D post S a0 x1 x2 x3 x4 x7 → wO D cy X A s.heap S H locs → wX D S0 S → lv_has ls 13 [(0, .ref a0), (1, .int x1), (2, .int x2), (3, .int x3), (4, .int x4), (7, .int x7)] → wM D S a0 → sK S a0 = 17 → W p l e r_X12_strikes s m args below meth c H locs 0 0 (MQ below (va_Qi (fun r S9 => wX D S0 S9 ∧ post r S9) (wB D cy X A) A) args s 0 0 A) (F0 m 89 ls []) := by
  obtain ⟨hx, hb, hml, hown, hts⟩ := id F
  have hwg : ∀ w ∈ WG, w.before args s = true := fun w h => hts w (List.mem_cons_of_mem _ h)
  intro S H locs ls a0 x1 x2 x3 x4 x7 hp hW hE hl hL_a0 hK_a0
  unfold wp_X12_strikes_89 at hp
  refine lv_iconst (v := 0) hx hb dX12_strikes_89 (by decide) ?_
  exact t_X12_strikes_90 F hr hlocks hK hp hW hE (lv_sub hl [0, 1, 2, 3, 4, 5] rfl) hL_a0 hK_a0
set_option maxHeartbeats 4000000 in
set_option maxRecDepth 100000 in
theorem t_X12_strikes_71 {p : Program} {l : Launch} {e : Env} {s : State} {m : MethodId} {args : Array Value} {below : List Frame} {meth : Method} {c : Code} {D : wD} {cy : Nat → ClassId} {X : va_W} {A : Nat → Prop} {S0 : wS} {post : Int32 → wS → Prop} (F : CallFix p m c cX12_strikes 13 s args wz_X12_strikes RX12) (hr : meth.sig.returnType = (some .boolean)) (hlocks : meth.locks = false) (hK : wK D cy A s) : ∀ {S : wS} {H : Heap} {locs : List Loc} {ls : Array Slot} {a0 : Nat} {x1 : Int32} {x2 : Int32} {x3 : Int32} {x4 : Int32} {x5 : Int32} {x6 : Int32} {t0 : Int32}, wp_X12_strikes_71 D post S a0 x1 x2 x3 x4 x5 x6 t0 → wO D cy X A s.heap S H locs → wX D S0 S → lv_has ls 13 [(0, .ref a0), (1, .int x1), (2, .int x2), (3, .int x3), (4, .int x4), (5, .int x5), (6, .int x6)] → wM D S a0 → sK S a0 = 17 → W p l e r_X12_strikes s m args below meth c H locs 0 0 (MQ below (va_Qi (fun r S9 => wX D S0 S9 ∧ post r S9) (wB D cy X A) A) args s 0 0 A) (F0 m 71 ls [.int t0]) := by
  obtain ⟨hx, hb, hml, hown, hts⟩ := id F
  have hwg : ∀ w ∈ WG, w.before args s = true := fun w h => hts w (List.mem_cons_of_mem _ h)
  intro S H locs ls a0 x1 x2 x3 x4 x5 x6 t0 hp hW hE hl hL_a0 hK_a0
  unfold wp_X12_strikes_71 at hp
  refine lv_istore (lv' := [(7, .int t0), (0, .ref a0), (1, .int x1), (2, .int x2), (3, .int x3), (4, .int x4), (5, .int x5), (6, .int x6)]) hx hb dX12_strikes_71 hl (by decide) rfl (fun ls hl => ?_)
  refine lv_iload hx hb dX12_strikes_73 (lv_at hl 6 rfl) ?_
  refine lv_iload hx hb dX12_strikes_75 (lv_at hl 7 rfl) ?_
  refine lv_icmp_ne (tgt := 89) hx hb dX12_strikes_77 (by decide) (fun c_1 => ?_) (fun c_1 => ?_)
  · replace hp := hp.1 c_1
    exact t_X12_strikes_89 F hr hlocks hK hp hW hE (lv_sub hl [1, 2, 3, 4, 5, 0] rfl) hL_a0 hK_a0
  · replace hp := hp.2 c_1
    refine lv_iload hx hb dX12_strikes_80 (lv_at hl 6 rfl) ?_
    refine lv_if_le (tgt := 89) hx hb dX12_strikes_82 (by decide) (fun c_2 => ?_) (fun c_2 => ?_)
    · replace hp := hp.1 c_2
      exact t_X12_strikes_89 F hr hlocks hK hp hW hE (lv_sub hl [1, 2, 3, 4, 5, 0] rfl) hL_a0 hK_a0
    · replace hp := hp.2 c_2
      refine lv_iconst (v := 1) hx hb dX12_strikes_85 (by decide) ?_
      refine lv_goto (tgt := 90) hx hb dX12_strikes_86 (by decide) ?_
      exact t_X12_strikes_90 F hr hlocks hK hp hW hE (lv_sub hl [1, 2, 3, 4, 5, 0] rfl) hL_a0 hK_a0
set_option maxHeartbeats 4000000 in
set_option maxRecDepth 100000 in
theorem t_X12_strikes_70 {p : Program} {l : Launch} {e : Env} {s : State} {m : MethodId} {args : Array Value} {below : List Frame} {meth : Method} {c : Code} {D : wD} {cy : Nat → ClassId} {X : va_W} {A : Nat → Prop} {S0 : wS} {post : Int32 → wS → Prop} (F : CallFix p m c cX12_strikes 13 s args wz_X12_strikes RX12) (hr : meth.sig.returnType = (some .boolean)) (hlocks : meth.locks = false) (hK : wK D cy A s) : ∀ {S : wS} {H : Heap} {locs : List Loc} {ls : Array Slot} {a0 : Nat} {x1 : Int32} {x2 : Int32} {x3 : Int32} {x4 : Int32} {x5 : Int32} {x6 : Int32}, wp_X12_strikes_70 D post S a0 x1 x2 x3 x4 x5 x6 → wO D cy X A s.heap S H locs → wX D S0 S → lv_has ls 13 [(0, .ref a0), (1, .int x1), (2, .int x2), (3, .int x3), (4, .int x4), (5, .int x5), (6, .int x6)] → wM D S a0 → sK S a0 = 17 → W p l e r_X12_strikes s m args below meth c H locs 0 0 (MQ below (va_Qi (fun r S9 => wX D S0 S9 ∧ post r S9) (wB D cy X A) A) args s 0 0 A) (F0 m 70 ls []) := by
  obtain ⟨hx, hb, hml, hown, hts⟩ := id F
  have hwg : ∀ w ∈ WG, w.before args s = true := fun w h => hts w (List.mem_cons_of_mem _ h)
  intro S H locs ls a0 x1 x2 x3 x4 x5 x6 hp hW hE hl hL_a0 hK_a0
  unfold wp_X12_strikes_70 at hp
  refine lv_iconst (v := 0) hx hb dX12_strikes_70 (by decide) ?_
  exact t_X12_strikes_71 F hr hlocks hK hp hW hE (lv_sub hl [0, 1, 2, 3, 4, 5, 6] rfl) hL_a0 hK_a0
set_option maxHeartbeats 4000000 in
set_option maxRecDepth 100000 in
theorem t_X12_strikes_49 {p : Program} {l : Launch} {e : Env} {s : State} {m : MethodId} {args : Array Value} {below : List Frame} {meth : Method} {c : Code} {D : wD} {cy : Nat → ClassId} {X : va_W} {A : Nat → Prop} {S0 : wS} {post : Int32 → wS → Prop} (F : CallFix p m c cX12_strikes 13 s args wz_X12_strikes RX12) (hr : meth.sig.returnType = (some .boolean)) (hlocks : meth.locks = false) (hK : wK D cy A s) : ∀ {S : wS} {H : Heap} {locs : List Loc} {ls : Array Slot} {t0 : Int32}, wp_X12_strikes_49 D post S t0 → wO D cy X A s.heap S H locs → wX D S0 S → lv_has ls 13 [] → W p l e r_X12_strikes s m args below meth c H locs 0 0 (MQ below (va_Qi (fun r S9 => wX D S0 S9 ∧ post r S9) (wB D cy X A) A) args s 0 0 A) (F0 m 49 ls [.int t0]) := by
  obtain ⟨hx, hb, hml, hown, hts⟩ := id F
  have hwg : ∀ w ∈ WG, w.before args s = true := fun w h => hts w (List.mem_cons_of_mem _ h)
  intro S H locs ls t0 hp hW hE hl
  unfold wp_X12_strikes_49 at hp
  exact w_zret hx hb hr hlocks hW hp.1 ⟨hE, hp.2⟩ dX12_strikes_49
set_option maxHeartbeats 4000000 in
set_option maxRecDepth 100000 in
theorem t_X12_strikes_0 {p : Program} {l : Launch} {e : Env} {s : State} {m : MethodId} {args : Array Value} {below : List Frame} {meth : Method} {c : Code} {D : wD} {cy : Nat → ClassId} {X : va_W} {A : Nat → Prop} {S0 : wS} {post : Int32 → wS → Prop} (F : CallFix p m c cX12_strikes 13 s args wz_X12_strikes RX12) (hr : meth.sig.returnType = (some .boolean)) (hlocks : meth.locks = false) (hK : wK D cy A s) : ∀ {S : wS} {H : Heap} {locs : List Loc} {ls : Array Slot} {a0 : Nat} {x1 : Int32} {x2 : Int32} {x3 : Int32} {x4 : Int32}, wp_X12_strikes_0 D post S a0 x1 x2 x3 x4 → wO D cy X A s.heap S H locs → wX D S0 S → lv_has ls 13 [(0, .ref a0), (1, .int x1), (2, .int x2), (3, .int x3), (4, .int x4)] → wM D S a0 → sK S a0 = 17 → W p l e r_X12_strikes s m args below meth c H locs 0 0 (MQ below (va_Qi (fun r S9 => wX D S0 S9 ∧ post r S9) (wB D cy X A) A) args s 0 0 A) (F0 m 0 ls []) := by
  obtain ⟨hx, hb, hml, hown, hts⟩ := id F
  have hwg : ∀ w ∈ WG, w.before args s = true := fun w h => hts w (List.mem_cons_of_mem _ h)
  intro S H locs ls a0 x1 x2 x3 x4 hp hW hE hl hL_a0 hK_a0
  unfold wp_X12_strikes_0 at hp
  refine lv_aload_n hx hb dX12_strikes_0 rfl (lv_at hl 0 rfl) ?_
  refine lv_iload_n hx hb dX12_strikes_1 rfl (lv_at hl 2 rfl) ?_
  refine w_callI (va_runV (As := [.int x2]) (rest := []) F (c_X12_fileOf l hL_a0 hK_a0 hp H.size) (cwV (C := RX12) 1 hts (wg_V wm_RX12_134 wy_X12_fileOf) rfl rfl rfl (by decide +kernel) ⟨Nat.le_of_ble_eq_true rfl, Nat.le_of_ble_eq_true rfl⟩) (w_preV hK hW hL_a0 hK_a0 (by decide) rfl) rfl rfl hl.1 rfl (lv_room (Nat.le_of_ble_eq_true rfl)) dX12_strikes_2 ⟨Nat.le_of_ble_eq_true rfl, Nat.le_of_ble_eq_true rfl⟩) hW (fun r_1 S_2 H locs hp hW => ?_)
  obtain ⟨hX_S_2, hp⟩ := hp
  refine W.widen (k := 0) (n := 0) (by decide) (by decide) ?_
  have hE := hE.trans hX_S_2
  have hK_a0 : sK S_2 a0 = 17 := (hX_S_2.2 a0 hL_a0).1.trans hK_a0
  have hL_a0 : wM D S_2 a0 := hX_S_2.M hL_a0
  refine lv_aload_n hx hb dX12_strikes_5 rfl (lv_at hl 0 rfl) ?_
  refine lv_iload_n hx hb dX12_strikes_6 rfl (lv_at hl 3 rfl) ?_
  refine w_callI (va_runV (As := [.int x3]) (rest := [.int r_1]) F (c_X12_fileOf l hL_a0 hK_a0 hp H.size) (cwV (C := RX12) 1 hts (wg_V wm_RX12_134 wy_X12_fileOf) rfl rfl rfl (by decide +kernel) ⟨Nat.le_of_ble_eq_true rfl, Nat.le_of_ble_eq_true rfl⟩) (w_preV hK hW hL_a0 hK_a0 (by decide) rfl) rfl rfl hl.1 rfl (lv_room (Nat.le_of_ble_eq_true rfl)) dX12_strikes_7 ⟨Nat.le_of_ble_eq_true rfl, Nat.le_of_ble_eq_true rfl⟩) hW (fun r_3 S_4 H locs hp hW => ?_)
  obtain ⟨hX_S_4, hp⟩ := hp
  refine W.widen (k := 0) (n := 0) (by decide) (by decide) ?_
  have hE := hE.trans hX_S_4
  have hK_a0 : sK S_4 a0 = 17 := (hX_S_4.2 a0 hL_a0).1.trans hK_a0
  have hL_a0 : wM D S_4 a0 := hX_S_4.M hL_a0
  refine w_callI (va_runS (As := [.int r_1, .int r_3]) (rest := []) F (c_X12_distance l hp H.size) (va_cwS 2 hts (wg_S wm_RX12_145 wy_X12_distance) rfl rfl rfl (by decide +kernel) ⟨Nat.le_of_ble_eq_true rfl, Nat.le_of_ble_eq_true rfl⟩) (w_preS hK hW) rfl rfl hl.1 rfl (lv_room (Nat.le_of_ble_eq_true rfl)) dX12_strikes_10 ⟨Nat.le_of_ble_eq_true rfl, Nat.le_of_ble_eq_true rfl⟩) hW (fun r_5 S_6 H locs hp hW => ?_)
  obtain ⟨hX_S_6, hp⟩ := hp
  refine W.widen (k := 0) (n := 0) (by decide) (by decide) ?_
  have hE := hE.trans hX_S_6
  have hK_a0 : sK S_6 a0 = 17 := (hX_S_6.2 a0 hL_a0).1.trans hK_a0
  have hL_a0 : wM D S_6 a0 := hX_S_6.M hL_a0
  refine lv_istore (lv' := [(5, .int r_5), (0, .ref a0), (1, .int x1), (2, .int x2), (3, .int x3), (4, .int x4)]) hx hb dX12_strikes_13 hl (by decide) rfl (fun ls hl => ?_)
  refine lv_aload_n hx hb dX12_strikes_15 rfl (lv_at hl 1 rfl) ?_
  refine lv_iload_n hx hb dX12_strikes_16 rfl (lv_at hl 3 rfl) ?_
  refine w_callI (va_runV (As := [.int x2]) (rest := []) F (c_X12_rankOf l hL_a0 hK_a0 hp H.size) (cwV (C := RX12) 1 hts (wg_V wm_RX12_138 wy_X12_rankOf) rfl rfl rfl (by decide +kernel) ⟨Nat.le_of_ble_eq_true rfl, Nat.le_of_ble_eq_true rfl⟩) (w_preV hK hW hL_a0 hK_a0 (by decide) rfl) rfl rfl hl.1 rfl (lv_room (Nat.le_of_ble_eq_true rfl)) dX12_strikes_17 ⟨Nat.le_of_ble_eq_true rfl, Nat.le_of_ble_eq_true rfl⟩) hW (fun r_7 S_8 H locs hp hW => ?_)
  obtain ⟨hX_S_8, hp⟩ := hp
  refine W.widen (k := 0) (n := 0) (by decide) (by decide) ?_
  have hE := hE.trans hX_S_8
  have hK_a0 : sK S_8 a0 = 17 := (hX_S_8.2 a0 hL_a0).1.trans hK_a0
  have hL_a0 : wM D S_8 a0 := hX_S_8.M hL_a0
  refine lv_aload_n hx hb dX12_strikes_20 rfl (lv_at hl 1 rfl) ?_
  refine lv_iload_n hx hb dX12_strikes_21 rfl (lv_at hl 4 rfl) ?_
  refine w_callI (va_runV (As := [.int x3]) (rest := [.int r_7]) F (c_X12_rankOf l hL_a0 hK_a0 hp H.size) (cwV (C := RX12) 1 hts (wg_V wm_RX12_138 wy_X12_rankOf) rfl rfl rfl (by decide +kernel) ⟨Nat.le_of_ble_eq_true rfl, Nat.le_of_ble_eq_true rfl⟩) (w_preV hK hW hL_a0 hK_a0 (by decide) rfl) rfl rfl hl.1 rfl (lv_room (Nat.le_of_ble_eq_true rfl)) dX12_strikes_22 ⟨Nat.le_of_ble_eq_true rfl, Nat.le_of_ble_eq_true rfl⟩) hW (fun r_9 S_10 H locs hp hW => ?_)
  obtain ⟨hX_S_10, hp⟩ := hp
  refine W.widen (k := 0) (n := 0) (by decide) (by decide) ?_
  have hE := hE.trans hX_S_10
  have hK_a0 : sK S_10 a0 = 17 := (hX_S_10.2 a0 hL_a0).1.trans hK_a0
  have hL_a0 : wM D S_10 a0 := hX_S_10.M hL_a0
  refine w_callI (va_runS (As := [.int r_7, .int r_9]) (rest := []) F (c_X12_distance l hp H.size) (va_cwS 2 hts (wg_S wm_RX12_145 wy_X12_distance) rfl rfl rfl (by decide +kernel) ⟨Nat.le_of_ble_eq_true rfl, Nat.le_of_ble_eq_true rfl⟩) (w_preS hK hW) rfl rfl hl.1 rfl (lv_room (Nat.le_of_ble_eq_true rfl)) dX12_strikes_25 ⟨Nat.le_of_ble_eq_true rfl, Nat.le_of_ble_eq_true rfl⟩) hW (fun r_11 S_12 H locs hp hW => ?_)
  obtain ⟨hX_S_12, hp⟩ := hp
  refine W.widen (k := 0) (n := 0) (by decide) (by decide) ?_
  have hE := hE.trans hX_S_12
  have hK_a0 : sK S_12 a0 = 17 := (hX_S_12.2 a0 hL_a0).1.trans hK_a0
  have hL_a0 : wM D S_12 a0 := hX_S_12.M hL_a0
  refine lv_istore (lv' := [(6, .int r_11), (5, .int r_5), (0, .ref a0), (1, .int x1), (2, .int x2), (3, .int x3), (4, .int x4)]) hx hb dX12_strikes_28 hl (by decide) rfl (fun ls hl => ?_)
  refine lv_iload_n hx hb dX12_strikes_30 rfl (lv_at hl 3 rfl) ?_
  refine lv_iconst (v := 5) hx hb dX12_strikes_31 (by decide) ?_
  refine lv_icmp_ne (tgt := 50) hx hb dX12_strikes_32 (by decide) (fun c_13 => ?_) (fun c_13 => ?_)
  · replace hp := hp.1 c_13
    refine lv_iload hx hb dX12_strikes_50 (lv_at hl 1 rfl) ?_
    refine lv_iload hx hb dX12_strikes_52 (lv_at hl 0 rfl) ?_
    refine lv_imul hx hb dX12_strikes_54 ?_
    refine lv_if_ne (tgt := 70) hx hb dX12_strikes_55 (by decide) (fun c_14 => ?_) (fun c_14 => ?_)
    · replace hp := hp.1 c_14
      exact t_X12_strikes_70 F hr hlocks hK hp hW hE (lv_sub hl [2, 3, 4, 5, 6, 1, 0] rfl) hL_a0 hK_a0
    · replace hp := hp.2 c_14
      refine lv_iload hx hb dX12_strikes_58 (lv_at hl 1 rfl) ?_
      refine lv_iload hx hb dX12_strikes_60 (lv_at hl 0 rfl) ?_
      refine lv_iadd hx hb dX12_strikes_62 ?_
      refine lv_if_le (tgt := 70) hx hb dX12_strikes_63 (by decide) (fun c_15 => ?_) (fun c_15 => ?_)
      · replace hp := hp.1 c_15
        exact t_X12_strikes_70 F hr hlocks hK hp hW hE (lv_sub hl [2, 3, 4, 5, 6, 1, 0] rfl) hL_a0 hK_a0
      · replace hp := hp.2 c_15
        refine lv_iconst (v := 1) hx hb dX12_strikes_66 (by decide) ?_
        refine lv_goto (tgt := 71) hx hb dX12_strikes_67 (by decide) ?_
        exact t_X12_strikes_71 F hr hlocks hK hp hW hE (lv_sub hl [2, 3, 4, 5, 6, 1, 0] rfl) hL_a0 hK_a0
  · replace hp := hp.2 c_13
    refine lv_iload hx hb dX12_strikes_35 (lv_at hl 1 rfl) ?_
    refine lv_iload hx hb dX12_strikes_37 (lv_at hl 0 rfl) ?_
    refine lv_imul hx hb dX12_strikes_39 ?_
    refine lv_iconst (v := 2) hx hb dX12_strikes_40 (by decide) ?_
    refine lv_icmp_ne (tgt := 48) hx hb dX12_strikes_41 (by decide) (fun c_16 => ?_) (fun c_16 => ?_)
    · replace hp := hp.1 c_16
      refine lv_iconst (v := 0) hx hb dX12_strikes_48 (by decide) ?_
      exact t_X12_strikes_49 F hr hlocks hK hp hW hE (lv_sub hl [] rfl)
    · replace hp := hp.2 c_16
      refine lv_iconst (v := 1) hx hb dX12_strikes_44 (by decide) ?_
      refine lv_goto (tgt := 49) hx hb dX12_strikes_45 (by decide) ?_
      exact t_X12_strikes_49 F hr hlocks hK hp hW hE (lv_sub hl [] rfl)
set_option maxHeartbeats 4000000 in
set_option maxRecDepth 100000 in
theorem c_X12_strikes (l : Launch) {D : wD} {cy : Nat → ClassId} {X : va_W} {S0 : wS} {post : Int32 → wS → Prop} {a0 : Nat} {x1 : Int32} {x2 : Int32} {x3 : Int32} {x4 : Int32} (hL_a0 : wM D S0 a0) (hK_a0 : sK S0 a0 = 17) (hp : wp_X12_strikes D post S0 a0 x1 x2 x3 x4) : mI D cy X l yX12_strikes wz_X12_strikes r_X12_strikes [.ref a0, .int x1, .int x2, .int x3, .int x4] S0 (fun r S9 => wX D S0 S9 ∧ post r S9) := by
  intro sz
  refine Met.ofW (cc := cX12_strikes) (maxL := 13) (ret := (some .boolean)) (by decide) rfl ?_
  intro p e s m args below meth c s₁ B hml hv
  obtain ⟨rfl, hsz, hP, hK, hD0, hRO⟩ := hv
  have hts := atoms_spec (ws := wz_X12_strikes) B.pre
  have hown : s.vm.findClass RX12 = some m.cls := findClass_of_methodNamed B.named
  subst hsz
  have hD := hD0.self (sz := s.heap.size)
  have F : CallFix p m c cX12_strikes 13 s _ wz_X12_strikes RX12 := ⟨B.exec, B.bytes, hml, hown, hts⟩
  have hr := B.returns
  have hlocks := B.notSynchronized
  generalize hAe : va_A (wL cy X S0) s.heap.size = A at hD hK ⊢
  have hA : ∀ q, s.heap.size ≤ q → A q := fun q h => by rw [← hAe]; exact Or.inr h
  have hW : wO D cy X A s.heap S0 s.heap [] := ⟨hP, hD, va_S.rf, hA, hRO⟩
  have hl := lv_entry ([.ref a0, .int x1, .int x2, .int x3, .int x4]) (n := 13) (Nat.le_of_ble_eq_true rfl)
  rw [lg_entry_eq]
  generalize (lg_sl ([.ref a0, .int x1, .int x2, .int x3, .int x4]) ++ List.replicate (13 - (lg_sl ([.ref a0, .int x1, .int x2, .int x3, .int x4])).length) Slot.unset).toArray = ls at hl ⊢
  have hl : lv_has ls 13 [(0, .ref a0), (1, .int x1), (2, .int x2), (3, .int x3), (4, .int x4)] := hl
  unfold wp_X12_strikes at hp
  exact t_X12_strikes_0 F hr hlocks hK hp hW wX.rf (lv_sub hl [0, 1, 2, 3, 4] rfl) hL_a0 hK_a0
def wp_X12_isOfEnding_54 (D : wD) (post : Int32 → wS → Prop)  (S : wS) (t0 : Int32) : Prop :=
narrow .boolean (.int t0) = .int t0 ∧ post t0 S
def wp_X12_isOfEnding_49 (D : wD) (post : Int32 → wS → Prop)  (S : wS) : Prop :=
wp_X12_isOfEnding_54 D post S (1 : Int32)
def wp_X12_isOfEnding_29 (D : wD) (post : Int32 → wS → Prop)  (S : wS) : Prop :=
narrow .boolean (.int (0 : Int32)) = .int (0 : Int32) ∧ post (0 : Int32) S
def wp_X12_isOfEnding_0 (D : wD) (post : Int32 → wS → Prop)  (S : wS) (a0 : Nat) (x1 : Int32) (x2 : Int32) (x3 : Int32) (x4 : Int32) (x5 : Int32) : Prop :=
((x3 = x4 → wp_X12_isOfEnding_29 D post S) ∧
 (¬ x3 = x4 → ((x3 = x5 → wp_X12_isOfEnding_29 D post S) ∧
 (¬ x3 = x5 → ((x4 = x5 → wp_X12_isOfEnding_29 D post S) ∧
 (¬ x4 = x5 → wp_X12_isNear D (fun r_4 S_5 => 
((r_4 = 0 → ((x2 = (1 : Int32) → wp_X12_isOfEnding_49 D post S_5) ∧
 (¬ x2 = (1 : Int32) → wp_X12_strikes D (fun r_8 S_9 => 
((¬ r_8 = 0 → wp_X12_isOfEnding_54 D post S_9 (0 : Int32)) ∧
 (r_8 = 0 → wp_X12_isOfEnding_49 D post S_9))) S_5 a0 x1 x5 x4 x3))) ∧
 (¬ r_4 = 0 → wp_X12_isOfEnding_29 D post S_5))) S a0 x3 x4))))))
abbrev r_X12_isOfEnding : Room := { frames := 2, cells := 0, slots := 0, locals := 53 }
def wp_X12_isOfEnding (D : wD) (post : Int32 → wS → Prop) (S : wS) (a0 : Nat) (x1 : Int32) (x2 : Int32) (x3 : Int32) (x4 : Int32) (x5 : Int32) : Prop := wp_X12_isOfEnding_0 D post S a0 x1 x2 x3 x4 x5
set_option maxHeartbeats 4000000 in
set_option maxRecDepth 100000 in
theorem t_X12_isOfEnding_54 {p : Program} {l : Launch} {e : Env} {s : State} {m : MethodId} {args : Array Value} {below : List Frame} {meth : Method} {c : Code} {D : wD} {cy : Nat → ClassId} {X : va_W} {A : Nat → Prop} {S0 : wS} {post : Int32 → wS → Prop} (F : CallFix p m c cX12_isOfEnding 6 s args wz_X12_isOfEnding RX12) (hr : meth.sig.returnType = (some .boolean)) (hlocks : meth.locks = false) (hK : wK D cy A s) : ∀ {S : wS} {H : Heap} {locs : List Loc} {ls : Array Slot} {t0 : Int32}, wp_X12_isOfEnding_54 D post S t0 → wO D cy X A s.heap S H locs → wX D S0 S → lv_has ls 6 [] → W p l e r_X12_isOfEnding s m args below meth c H locs 0 0 (MQ below (va_Qi (fun r S9 => wX D S0 S9 ∧ post r S9) (wB D cy X A) A) args s 0 0 A) (F0 m 54 ls [.int t0]) := by
  obtain ⟨hx, hb, hml, hown, hts⟩ := id F
  have hwg : ∀ w ∈ WG, w.before args s = true := fun w h => hts w (List.mem_cons_of_mem _ h)
  intro S H locs ls t0 hp hW hE hl
  unfold wp_X12_isOfEnding_54 at hp
  exact w_zret hx hb hr hlocks hW hp.1 ⟨hE, hp.2⟩ dX12_isOfEnding_54
set_option maxHeartbeats 4000000 in
set_option maxRecDepth 100000 in
theorem t_X12_isOfEnding_49 {p : Program} {l : Launch} {e : Env} {s : State} {m : MethodId} {args : Array Value} {below : List Frame} {meth : Method} {c : Code} {D : wD} {cy : Nat → ClassId} {X : va_W} {A : Nat → Prop} {S0 : wS} {post : Int32 → wS → Prop} (F : CallFix p m c cX12_isOfEnding 6 s args wz_X12_isOfEnding RX12) (hr : meth.sig.returnType = (some .boolean)) (hlocks : meth.locks = false) (hK : wK D cy A s) : ∀ {S : wS} {H : Heap} {locs : List Loc} {ls : Array Slot}, wp_X12_isOfEnding_49 D post S → wO D cy X A s.heap S H locs → wX D S0 S → lv_has ls 6 [] → W p l e r_X12_isOfEnding s m args below meth c H locs 0 0 (MQ below (va_Qi (fun r S9 => wX D S0 S9 ∧ post r S9) (wB D cy X A) A) args s 0 0 A) (F0 m 49 ls []) := by
  obtain ⟨hx, hb, hml, hown, hts⟩ := id F
  have hwg : ∀ w ∈ WG, w.before args s = true := fun w h => hts w (List.mem_cons_of_mem _ h)
  intro S H locs ls hp hW hE hl
  unfold wp_X12_isOfEnding_49 at hp
  refine lv_iconst (v := 1) hx hb dX12_isOfEnding_49 (by decide) ?_
  refine lv_goto (tgt := 54) hx hb dX12_isOfEnding_50 (by decide) ?_
  exact t_X12_isOfEnding_54 F hr hlocks hK hp hW hE (lv_sub hl [] rfl)
set_option maxHeartbeats 4000000 in
set_option maxRecDepth 100000 in
theorem t_X12_isOfEnding_29 {p : Program} {l : Launch} {e : Env} {s : State} {m : MethodId} {args : Array Value} {below : List Frame} {meth : Method} {c : Code} {D : wD} {cy : Nat → ClassId} {X : va_W} {A : Nat → Prop} {S0 : wS} {post : Int32 → wS → Prop} (F : CallFix p m c cX12_isOfEnding 6 s args wz_X12_isOfEnding RX12) (hr : meth.sig.returnType = (some .boolean)) (hlocks : meth.locks = false) (hK : wK D cy A s) : ∀ {S : wS} {H : Heap} {locs : List Loc} {ls : Array Slot}, wp_X12_isOfEnding_29 D post S → wO D cy X A s.heap S H locs → wX D S0 S → lv_has ls 6 [] → W p l e r_X12_isOfEnding s m args below meth c H locs 0 0 (MQ below (va_Qi (fun r S9 => wX D S0 S9 ∧ post r S9) (wB D cy X A) A) args s 0 0 A) (F0 m 29 ls []) := by
  obtain ⟨hx, hb, hml, hown, hts⟩ := id F
  have hwg : ∀ w ∈ WG, w.before args s = true := fun w h => hts w (List.mem_cons_of_mem _ h)
  intro S H locs ls hp hW hE hl
  unfold wp_X12_isOfEnding_29 at hp
  refine lv_iconst (v := 0) hx hb dX12_isOfEnding_29 (by decide) ?_
  exact w_zret hx hb hr hlocks hW hp.1 ⟨hE, hp.2⟩ dX12_isOfEnding_30
set_option maxHeartbeats 4000000 in
set_option maxRecDepth 100000 in
theorem t_X12_isOfEnding_0 {p : Program} {l : Launch} {e : Env} {s : State} {m : MethodId} {args : Array Value} {below : List Frame} {meth : Method} {c : Code} {D : wD} {cy : Nat → ClassId} {X : va_W} {A : Nat → Prop} {S0 : wS} {post : Int32 → wS → Prop} (F : CallFix p m c cX12_isOfEnding 6 s args wz_X12_isOfEnding RX12) (hr : meth.sig.returnType = (some .boolean)) (hlocks : meth.locks = false) (hK : wK D cy A s) : ∀ {S : wS} {H : Heap} {locs : List Loc} {ls : Array Slot} {a0 : Nat} {x1 : Int32} {x2 : Int32} {x3 : Int32} {x4 : Int32} {x5 : Int32}, wp_X12_isOfEnding_0 D post S a0 x1 x2 x3 x4 x5 → wO D cy X A s.heap S H locs → wX D S0 S → lv_has ls 6 [(0, .ref a0), (1, .int x1), (2, .int x2), (3, .int x3), (4, .int x4), (5, .int x5)] → wM D S a0 → sK S a0 = 17 → W p l e r_X12_isOfEnding s m args below meth c H locs 0 0 (MQ below (va_Qi (fun r S9 => wX D S0 S9 ∧ post r S9) (wB D cy X A) A) args s 0 0 A) (F0 m 0 ls []) := by
  obtain ⟨hx, hb, hml, hown, hts⟩ := id F
  have hwg : ∀ w ∈ WG, w.before args s = true := fun w h => hts w (List.mem_cons_of_mem _ h)
  intro S H locs ls a0 x1 x2 x3 x4 x5 hp hW hE hl hL_a0 hK_a0
  unfold wp_X12_isOfEnding_0 at hp
  refine lv_iload_n hx hb dX12_isOfEnding_0 rfl (lv_at hl 3 rfl) ?_
  refine lv_iload hx hb dX12_isOfEnding_1 (lv_at hl 4 rfl) ?_
  refine lv_icmp_eq (tgt := 29) hx hb dX12_isOfEnding_3 (by decide) (fun c_1 => ?_) (fun c_1 => ?_)
  · replace hp := hp.1 c_1
    exact t_X12_isOfEnding_29 F hr hlocks hK hp hW hE (lv_sub hl [] rfl)
  · replace hp := hp.2 c_1
    refine lv_iload_n hx hb dX12_isOfEnding_6 rfl (lv_at hl 3 rfl) ?_
    refine lv_iload hx hb dX12_isOfEnding_7 (lv_at hl 5 rfl) ?_
    refine lv_icmp_eq (tgt := 29) hx hb dX12_isOfEnding_9 (by decide) (fun c_2 => ?_) (fun c_2 => ?_)
    · replace hp := hp.1 c_2
      exact t_X12_isOfEnding_29 F hr hlocks hK hp hW hE (lv_sub hl [] rfl)
    · replace hp := hp.2 c_2
      refine lv_iload hx hb dX12_isOfEnding_12 (lv_at hl 4 rfl) ?_
      refine lv_iload hx hb dX12_isOfEnding_14 (lv_at hl 5 rfl) ?_
      refine lv_icmp_eq (tgt := 29) hx hb dX12_isOfEnding_16 (by decide) (fun c_3 => ?_) (fun c_3 => ?_)
      · replace hp := hp.1 c_3
        exact t_X12_isOfEnding_29 F hr hlocks hK hp hW hE (lv_sub hl [] rfl)
      · replace hp := hp.2 c_3
        refine lv_aload_n hx hb dX12_isOfEnding_19 rfl (lv_at hl 0 rfl) ?_
        refine lv_iload_n hx hb dX12_isOfEnding_20 rfl (lv_at hl 3 rfl) ?_
        refine lv_iload hx hb dX12_isOfEnding_21 (lv_at hl 4 rfl) ?_
        refine w_callI (va_runV (As := [.int x3, .int x4]) (rest := []) F (c_X12_isNear l hL_a0 hK_a0 hp H.size) (cwV (C := RX12) 2 hts (wg_V wm_RX12_476 wy_X12_isNear) rfl rfl rfl (by decide +kernel) ⟨Nat.le_of_ble_eq_true rfl, Nat.le_of_ble_eq_true rfl⟩) (w_preV hK hW hL_a0 hK_a0 (by decide) rfl) rfl rfl hl.1 rfl (lv_room (Nat.le_of_ble_eq_true rfl)) dX12_isOfEnding_23 ⟨Nat.le_of_ble_eq_true rfl, Nat.le_of_ble_eq_true rfl⟩) hW (fun r_4 S_5 H locs hp hW => ?_)
        obtain ⟨hX_S_5, hp⟩ := hp
        refine W.widen (k := 0) (n := 0) (by decide) (by decide) ?_
        have hE := hE.trans hX_S_5
        have hK_a0 : sK S_5 a0 = 17 := (hX_S_5.2 a0 hL_a0).1.trans hK_a0
        have hL_a0 : wM D S_5 a0 := hX_S_5.M hL_a0
        refine lv_if_eq (tgt := 31) hx hb dX12_isOfEnding_26 (by decide) (fun c_6 => ?_) (fun c_6 => ?_)
        · replace hp := hp.1 c_6
          refine lv_iload_n hx hb dX12_isOfEnding_31 rfl (lv_at hl 2 rfl) ?_
          refine lv_iconst (v := 1) hx hb dX12_isOfEnding_32 (by decide) ?_
          refine lv_icmp_eq (tgt := 49) hx hb dX12_isOfEnding_33 (by decide) (fun c_7 => ?_) (fun c_7 => ?_)
          · replace hp := hp.1 c_7
            exact t_X12_isOfEnding_49 F hr hlocks hK hp hW hE (lv_sub hl [] rfl)
          · replace hp := hp.2 c_7
            refine lv_aload_n hx hb dX12_isOfEnding_36 rfl (lv_at hl 0 rfl) ?_
            refine lv_iload_n hx hb dX12_isOfEnding_37 rfl (lv_at hl 1 rfl) ?_
            refine lv_iload hx hb dX12_isOfEnding_38 (lv_at hl 5 rfl) ?_
            refine lv_iload hx hb dX12_isOfEnding_40 (lv_at hl 4 rfl) ?_
            refine lv_iload_n hx hb dX12_isOfEnding_42 rfl (lv_at hl 3 rfl) ?_
            refine w_callI (va_runV (As := [.int x1, .int x5, .int x4, .int x3]) (rest := []) F (c_X12_strikes l hL_a0 hK_a0 hp H.size) (cwV (C := RX12) 4 hts (wg_V wm_RX12_479 wy_X12_strikes) rfl rfl rfl (by decide +kernel) ⟨Nat.le_of_ble_eq_true rfl, Nat.le_of_ble_eq_true rfl⟩) (w_preV hK hW hL_a0 hK_a0 (by decide) rfl) rfl rfl hl.1 rfl (lv_room (Nat.le_of_ble_eq_true rfl)) dX12_isOfEnding_43 ⟨Nat.le_of_ble_eq_true rfl, Nat.le_of_ble_eq_true rfl⟩) hW (fun r_8 S_9 H locs hp hW => ?_)
            obtain ⟨hX_S_9, hp⟩ := hp
            refine W.widen (k := 0) (n := 0) (by decide) (by decide) ?_
            have hE := hE.trans hX_S_9
            have hK_a0 : sK S_9 a0 = 17 := (hX_S_9.2 a0 hL_a0).1.trans hK_a0
            have hL_a0 : wM D S_9 a0 := hX_S_9.M hL_a0
            refine lv_if_ne (tgt := 53) hx hb dX12_isOfEnding_46 (by decide) (fun c_10 => ?_) (fun c_10 => ?_)
            · replace hp := hp.1 c_10
              refine lv_iconst (v := 0) hx hb dX12_isOfEnding_53 (by decide) ?_
              exact t_X12_isOfEnding_54 F hr hlocks hK hp hW hE (lv_sub hl [] rfl)
            · replace hp := hp.2 c_10
              exact t_X12_isOfEnding_49 F hr hlocks hK hp hW hE (lv_sub hl [] rfl)
        · replace hp := hp.2 c_6
          exact t_X12_isOfEnding_29 F hr hlocks hK hp hW hE (lv_sub hl [] rfl)
set_option maxHeartbeats 4000000 in
set_option maxRecDepth 100000 in
theorem c_X12_isOfEnding (l : Launch) {D : wD} {cy : Nat → ClassId} {X : va_W} {S0 : wS} {post : Int32 → wS → Prop} {a0 : Nat} {x1 : Int32} {x2 : Int32} {x3 : Int32} {x4 : Int32} {x5 : Int32} (hL_a0 : wM D S0 a0) (hK_a0 : sK S0 a0 = 17) (hp : wp_X12_isOfEnding D post S0 a0 x1 x2 x3 x4 x5) : mI D cy X l yX12_isOfEnding wz_X12_isOfEnding r_X12_isOfEnding [.ref a0, .int x1, .int x2, .int x3, .int x4, .int x5] S0 (fun r S9 => wX D S0 S9 ∧ post r S9) := by
  intro sz
  refine Met.ofW (cc := cX12_isOfEnding) (maxL := 6) (ret := (some .boolean)) (by decide) rfl ?_
  intro p e s m args below meth c s₁ B hml hv
  obtain ⟨rfl, hsz, hP, hK, hD0, hRO⟩ := hv
  have hts := atoms_spec (ws := wz_X12_isOfEnding) B.pre
  have hown : s.vm.findClass RX12 = some m.cls := findClass_of_methodNamed B.named
  subst hsz
  have hD := hD0.self (sz := s.heap.size)
  have F : CallFix p m c cX12_isOfEnding 6 s _ wz_X12_isOfEnding RX12 := ⟨B.exec, B.bytes, hml, hown, hts⟩
  have hr := B.returns
  have hlocks := B.notSynchronized
  generalize hAe : va_A (wL cy X S0) s.heap.size = A at hD hK ⊢
  have hA : ∀ q, s.heap.size ≤ q → A q := fun q h => by rw [← hAe]; exact Or.inr h
  have hW : wO D cy X A s.heap S0 s.heap [] := ⟨hP, hD, va_S.rf, hA, hRO⟩
  have hl := lv_entry ([.ref a0, .int x1, .int x2, .int x3, .int x4, .int x5]) (n := 6) (Nat.le_of_ble_eq_true rfl)
  rw [lg_entry_eq]
  generalize (lg_sl ([.ref a0, .int x1, .int x2, .int x3, .int x4, .int x5]) ++ List.replicate (6 - (lg_sl ([.ref a0, .int x1, .int x2, .int x3, .int x4, .int x5])).length) Slot.unset).toArray = ls at hl ⊢
  have hl : lv_has ls 6 [(0, .ref a0), (1, .int x1), (2, .int x2), (3, .int x3), (4, .int x4), (5, .int x5)] := hl
  unfold wp_X12_isOfEnding at hp
  exact t_X12_isOfEnding_0 F hr hlocks hK hp hW wX.rf (lv_sub hl [0, 1, 2, 3, 4, 5] rfl) hL_a0 hK_a0
