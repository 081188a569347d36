theorem dX5_lineMove_0 : decode cX5_lineMove 0 = .ok (.iload_n 1, 1) := by decide +kernel
theorem dX5_lineMove_1 : decode cX5_lineMove 1 = .ok (.ifCond .lt 21, 3) := by decide +kernel
theorem dX5_lineMove_4 : decode cX5_lineMove 4 = .ok (.iload_n 1, 1) := by decide +kernel
theorem dX5_lineMove_5 : decode cX5_lineMove 5 = .ok (.aload_n 0, 1) := by decide +kernel
theorem dX5_lineMove_6 : decode cX5_lineMove 6 = .ok (.getfield 22, 3) := by decide +kernel
theorem dX5_lineMove_9 : decode cX5_lineMove 9 = .ok (.arraylength, 1) := by decide +kernel
theorem dX5_lineMove_10 : decode cX5_lineMove 10 = .ok (.if_icmp .ge 12, 3) := by decide +kernel
theorem dX5_lineMove_13 : decode cX5_lineMove 13 = .ok (.aload_n 0, 1) := by decide +kernel
theorem dX5_lineMove_14 : decode cX5_lineMove 14 = .ok (.getfield 22, 3) := by decide +kernel
theorem dX5_lineMove_17 : decode cX5_lineMove 17 = .ok (.iload_n 1, 1) := by decide +kernel
theorem dX5_lineMove_18 : decode cX5_lineMove 18 = .ok (.iaload, 1) := by decide +kernel
theorem dX5_lineMove_19 : decode cX5_lineMove 19 = .ok (.goto 4, 3) := by decide +kernel
theorem dX5_lineMove_22 : decode cX5_lineMove 22 = .ok (.iconst 0, 1) := by decide +kernel
theorem dX5_lineMove_23 : decode cX5_lineMove 23 = .ok (.ireturn, 1) := by decide +kernel
theorem dX6_isPassingSound_0 : decode cX6_isPassingSound 0 = .ok (.aload_n 1, 1) := by decide +kernel
theorem dX6_isPassingSound_1 : decode cX6_isPassingSound 1 = .ok (.getfield 71, 3) := by decide +kernel
theorem dX6_isPassingSound_4 : decode cX6_isPassingSound 4 = .ok (.istore_n 2, 1) := by decide +kernel
theorem dX6_isPassingSound_5 : decode cX6_isPassingSound 5 = .ok (.iload_n 2, 1) := by decide +kernel
theorem dX6_isPassingSound_6 : decode cX6_isPassingSound 6 = .ok (.iconst (-1), 1) := by decide +kernel
theorem dX6_isPassingSound_7 : decode cX6_isPassingSound 7 = .ok (.if_icmp .ne 5, 3) := by decide +kernel
theorem dX6_isPassingSound_10 : decode cX6_isPassingSound 10 = .ok (.iconst 1, 1) := by decide +kernel
theorem dX6_isPassingSound_11 : decode cX6_isPassingSound 11 = .ok (.ireturn, 1) := by decide +kernel
theorem dX6_isPassingSound_12 : decode cX6_isPassingSound 12 = .ok (.aload_n 1, 1) := by decide +kernel
theorem dX6_isPassingSound_13 : decode cX6_isPassingSound 13 = .ok (.getfield 43, 3) := by decide +kernel
theorem dX6_isPassingSound_16 : decode cX6_isPassingSound 16 = .ok (.ifCond .ne 7, 3) := by decide +kernel
theorem dX6_isPassingSound_19 : decode cX6_isPassingSound 19 = .ok (.iconst 1, 1) := by decide +kernel
theorem dX6_isPassingSound_20 : decode cX6_isPassingSound 20 = .ok (.goto 4, 3) := by decide +kernel
theorem dX6_isPassingSound_23 : decode cX6_isPassingSound 23 = .ok (.iconst 0, 1) := by decide +kernel
theorem dX6_isPassingSound_24 : decode cX6_isPassingSound 24 = .ok (.istore_n 3, 1) := by decide +kernel
theorem dX6_isPassingSound_25 : decode cX6_isPassingSound 25 = .ok (.aload_n 0, 1) := by decide +kernel
theorem dX6_isPassingSound_26 : decode cX6_isPassingSound 26 = .ok (.getfield 22, 3) := by decide +kernel
theorem dX6_isPassingSound_29 : decode cX6_isPassingSound 29 = .ok (.getfield 30, 3) := by decide +kernel
theorem dX6_isPassingSound_32 : decode cX6_isPassingSound 32 = .ok (.bipush 6, 2) := by decide +kernel
theorem dX6_isPassingSound_34 : decode cX6_isPassingSound 34 = .ok (.if_icmp .lt 31, 3) := by decide +kernel
theorem dX6_isPassingSound_37 : decode cX6_isPassingSound 37 = .ok (.aload_n 0, 1) := by decide +kernel
theorem dX6_isPassingSound_38 : decode cX6_isPassingSound 38 = .ok (.getfield 22, 3) := by decide +kernel
theorem dX6_isPassingSound_41 : decode cX6_isPassingSound 41 = .ok (.iload_n 2, 1) := by decide +kernel
theorem dX6_isPassingSound_42 : decode cX6_isPassingSound 42 = .ok (.invokevirtual 78, 3) := by decide +kernel
theorem dX6_isPassingSound_45 : decode cX6_isPassingSound 45 = .ok (.iload_n 3, 1) := by decide +kernel
theorem dX6_isPassingSound_46 : decode cX6_isPassingSound 46 = .ok (.ifCond .eq 7, 3) := by decide +kernel
theorem dX6_isPassingSound_49 : decode cX6_isPassingSound 49 = .ok (.iconst 2, 1) := by decide +kernel
theorem dX6_isPassingSound_50 : decode cX6_isPassingSound 50 = .ok (.goto 12, 3) := by decide +kernel
theorem dX6_isPassingSound_53 : decode cX6_isPassingSound 53 = .ok (.aload_n 0, 1) := by decide +kernel
theorem dX6_isPassingSound_54 : decode cX6_isPassingSound 54 = .ok (.getfield 22, 3) := by decide +kernel
theorem dX6_isPassingSound_57 : decode cX6_isPassingSound 57 = .ok (.getfield 30, 3) := by decide +kernel
theorem dX6_isPassingSound_60 : decode cX6_isPassingSound 60 = .ok (.iconst 3, 1) := by decide +kernel
theorem dX6_isPassingSound_61 : decode cX6_isPassingSound 61 = .ok (.isub, 1) := by decide +kernel
theorem dX6_isPassingSound_62 : decode cX6_isPassingSound 62 = .ok (.if_icmp .eq 5, 3) := by decide +kernel
theorem dX6_isPassingSound_65 : decode cX6_isPassingSound 65 = .ok (.iconst 0, 1) := by decide +kernel
theorem dX6_isPassingSound_66 : decode cX6_isPassingSound 66 = .ok (.ireturn, 1) := by decide +kernel
theorem dX6_isPassingSound_67 : decode cX6_isPassingSound 67 = .ok (.iload_n 3, 1) := by decide +kernel
theorem dX6_isPassingSound_68 : decode cX6_isPassingSound 68 = .ok (.ifCond .eq 13, 3) := by decide +kernel
theorem dX6_isPassingSound_71 : decode cX6_isPassingSound 71 = .ok (.aload_n 0, 1) := by decide +kernel
theorem dX6_isPassingSound_72 : decode cX6_isPassingSound 72 = .ok (.getfield 22, 3) := by decide +kernel
theorem dX6_isPassingSound_75 : decode cX6_isPassingSound 75 = .ok (.getfield 81, 3) := by decide +kernel
theorem dX6_isPassingSound_78 : decode cX6_isPassingSound 78 = .ok (.goto 11, 3) := by decide +kernel
theorem dX6_isPassingSound_81 : decode cX6_isPassingSound 81 = .ok (.aload_n 0, 1) := by decide +kernel
theorem dX6_isPassingSound_82 : decode cX6_isPassingSound 82 = .ok (.getfield 22, 3) := by decide +kernel
theorem dX6_isPassingSound_85 : decode cX6_isPassingSound 85 = .ok (.getfield 81, 3) := by decide +kernel
theorem dX6_isPassingSound_88 : decode cX6_isPassingSound 88 = .ok (.ineg, 1) := by decide +kernel
theorem dX6_isPassingSound_89 : decode cX6_isPassingSound 89 = .ok (.istore 4, 2) := by decide +kernel
theorem dX6_isPassingSound_91 : decode cX6_isPassingSound 91 = .ok (.aload_n 1, 1) := by decide +kernel
theorem dX6_isPassingSound_92 : decode cX6_isPassingSound 92 = .ok (.bipush 6, 2) := by decide +kernel
theorem dX6_isPassingSound_94 : decode cX6_isPassingSound 94 = .ok (.invokevirtual 133, 3) := by decide +kernel
theorem dX6_isPassingSound_97 : decode cX6_isPassingSound 97 = .ok (.aload_n 1, 1) := by decide +kernel
theorem dX6_isPassingSound_98 : decode cX6_isPassingSound 98 = .ok (.aload_n 1, 1) := by decide +kernel
theorem dX6_isPassingSound_99 : decode cX6_isPassingSound 99 = .ok (.getfield 43, 3) := by decide +kernel
theorem dX6_isPassingSound_102 : decode cX6_isPassingSound 102 = .ok (.invokevirtual 137, 3) := by decide +kernel
theorem dX6_isPassingSound_105 : decode cX6_isPassingSound 105 = .ok (.land, 1) := by decide +kernel
theorem dX6_isPassingSound_106 : decode cX6_isPassingSound 106 = .ok (.lstore 5, 2) := by decide +kernel
theorem dX6_isPassingSound_108 : decode cX6_isPassingSound 108 = .ok (.aload_n 1, 1) := by decide +kernel
theorem dX6_isPassingSound_109 : decode cX6_isPassingSound 109 = .ok (.iload_n 2, 1) := by decide +kernel
theorem dX6_isPassingSound_110 : decode cX6_isPassingSound 110 = .ok (.invokevirtual 84, 3) := by decide +kernel
theorem dX6_isPassingSound_113 : decode cX6_isPassingSound 113 = .ok (.ifCond .ne 59, 3) := by decide +kernel
theorem dX6_isPassingSound_116 : decode cX6_isPassingSound 116 = .ok (.aload_n 1, 1) := by decide +kernel
theorem dX6_isPassingSound_117 : decode cX6_isPassingSound 117 = .ok (.iload_n 2, 1) := by decide +kernel
theorem dX6_isPassingSound_118 : decode cX6_isPassingSound 118 = .ok (.iload 4, 2) := by decide +kernel
theorem dX6_isPassingSound_120 : decode cX6_isPassingSound 120 = .ok (.isub, 1) := by decide +kernel
theorem dX6_isPassingSound_121 : decode cX6_isPassingSound 121 = .ok (.invokevirtual 84, 3) := by decide +kernel
theorem dX6_isPassingSound_124 : decode cX6_isPassingSound 124 = .ok (.ifCond .ne 48, 3) := by decide +kernel
theorem dX6_isPassingSound_127 : decode cX6_isPassingSound 127 = .ok (.aload_n 1, 1) := by decide +kernel
theorem dX6_isPassingSound_128 : decode cX6_isPassingSound 128 = .ok (.iload_n 2, 1) := by decide +kernel
theorem dX6_isPassingSound_129 : decode cX6_isPassingSound 129 = .ok (.iload 4, 2) := by decide +kernel
theorem dX6_isPassingSound_131 : decode cX6_isPassingSound 131 = .ok (.iadd, 1) := by decide +kernel
theorem dX6_isPassingSound_132 : decode cX6_isPassingSound 132 = .ok (.invokevirtual 84, 3) := by decide +kernel
theorem dX6_isPassingSound_135 : decode cX6_isPassingSound 135 = .ok (.iload_n 3, 1) := by decide +kernel
theorem dX6_isPassingSound_136 : decode cX6_isPassingSound 136 = .ok (.ifCond .eq 8, 3) := by decide +kernel
theorem dX6_isPassingSound_139 : decode cX6_isPassingSound 139 = .ok (.bipush 6, 2) := by decide +kernel
theorem dX6_isPassingSound_141 : decode cX6_isPassingSound 141 = .ok (.goto 5, 3) := by decide +kernel
theorem dX6_isPassingSound_144 : decode cX6_isPassingSound 144 = .ok (.bipush 12, 2) := by decide +kernel
theorem dX6_isPassingSound_146 : decode cX6_isPassingSound 146 = .ok (.if_icmp .ne 26, 3) := by decide +kernel
theorem dX6_isPassingSound_149 : decode cX6_isPassingSound 149 = .ok (.aload_n 0, 1) := by decide +kernel
theorem dX6_isPassingSound_150 : decode cX6_isPassingSound 150 = .ok (.getfield 22, 3) := by decide +kernel
theorem dX6_isPassingSound_153 : decode cX6_isPassingSound 153 = .ok (.iload_n 2, 1) := by decide +kernel
theorem dX6_isPassingSound_154 : decode cX6_isPassingSound 154 = .ok (.iload 4, 2) := by decide +kernel
theorem dX6_isPassingSound_156 : decode cX6_isPassingSound 156 = .ok (.iadd, 1) := by decide +kernel
theorem dX6_isPassingSound_157 : decode cX6_isPassingSound 157 = .ok (.invokevirtual 141, 3) := by decide +kernel
theorem dX6_isPassingSound_160 : decode cX6_isPassingSound 160 = .ok (.lload 5, 2) := by decide +kernel
theorem dX6_isPassingSound_162 : decode cX6_isPassingSound 162 = .ok (.land, 1) := by decide +kernel
theorem dX6_isPassingSound_163 : decode cX6_isPassingSound 163 = .ok (.lconst 0, 1) := by decide +kernel
theorem dX6_isPassingSound_164 : decode cX6_isPassingSound 164 = .ok (.lcmp, 1) := by decide +kernel
theorem dX6_isPassingSound_165 : decode cX6_isPassingSound 165 = .ok (.ifCond .eq 7, 3) := by decide +kernel
theorem dX6_isPassingSound_168 : decode cX6_isPassingSound 168 = .ok (.iconst 1, 1) := by decide +kernel
theorem dX6_isPassingSound_169 : decode cX6_isPassingSound 169 = .ok (.goto 4, 3) := by decide +kernel
theorem dX6_isPassingSound_172 : decode cX6_isPassingSound 172 = .ok (.iconst 0, 1) := by decide +kernel
theorem dX6_isPassingSound_173 : decode cX6_isPassingSound 173 = .ok (.ireturn, 1) := by decide +kernel
theorem dX6_isSame_0 : decode cX6_isSame 0 = .ok (.aload_n 0, 1) := by decide +kernel
theorem dX6_isSame_1 : decode cX6_isSame 1 = .ok (.invokevirtual 125, 3) := by decide +kernel
theorem dX6_isSame_4 : decode cX6_isSame 4 = .ok (.aload_n 1, 1) := by decide +kernel
theorem dX6_isSame_5 : decode cX6_isSame 5 = .ok (.invokevirtual 125, 3) := by decide +kernel
theorem dX6_isSame_8 : decode cX6_isSame 8 = .ok (.if_icmp .eq 5, 3) := by decide +kernel
theorem dX6_isSame_11 : decode cX6_isSame 11 = .ok (.iconst 0, 1) := by decide +kernel
theorem dX6_isSame_12 : decode cX6_isSame 12 = .ok (.ireturn, 1) := by decide +kernel
theorem dX6_isSame_13 : decode cX6_isSame 13 = .ok (.iconst 0, 1) := by decide +kernel
theorem dX6_isSame_14 : decode cX6_isSame 14 = .ok (.istore_n 2, 1) := by decide +kernel
theorem dX6_isSame_15 : decode cX6_isSame 15 = .ok (.iload_n 2, 1) := by decide +kernel
theorem dX6_isSame_16 : decode cX6_isSame 16 = .ok (.aload_n 0, 1) := by decide +kernel
theorem dX6_isSame_17 : decode cX6_isSame 17 = .ok (.invokevirtual 125, 3) := by decide +kernel
theorem dX6_isSame_20 : decode cX6_isSame 20 = .ok (.if_icmp .ge 32, 3) := by decide +kernel
theorem dX6_isSame_23 : decode cX6_isSame 23 = .ok (.iload_n 2, 1) := by decide +kernel
theorem dX6_isSame_24 : decode cX6_isSame 24 = .ok (.aload_n 1, 1) := by decide +kernel
theorem dX6_isSame_25 : decode cX6_isSame 25 = .ok (.invokevirtual 125, 3) := by decide +kernel
theorem dX6_isSame_28 : decode cX6_isSame 28 = .ok (.if_icmp .ge 24, 3) := by decide +kernel
theorem dX6_isSame_31 : decode cX6_isSame 31 = .ok (.aload_n 0, 1) := by decide +kernel
theorem dX6_isSame_32 : decode cX6_isSame 32 = .ok (.iload_n 2, 1) := by decide +kernel
theorem dX6_isSame_33 : decode cX6_isSame 33 = .ok (.invokevirtual 126, 3) := by decide +kernel
theorem dX6_isSame_36 : decode cX6_isSame 36 = .ok (.aload_n 1, 1) := by decide +kernel
theorem dX6_isSame_37 : decode cX6_isSame 37 = .ok (.iload_n 2, 1) := by decide +kernel
theorem dX6_isSame_38 : decode cX6_isSame 38 = .ok (.invokevirtual 126, 3) := by decide +kernel
theorem dX6_isSame_41 : decode cX6_isSame 41 = .ok (.if_icmp .eq 5, 3) := by decide +kernel
theorem dX6_isSame_44 : decode cX6_isSame 44 = .ok (.iconst 0, 1) := by decide +kernel
theorem dX6_isSame_45 : decode cX6_isSame 45 = .ok (.ireturn, 1) := by decide +kernel
theorem dX6_isSame_46 : decode cX6_isSame 46 = .ok (.iinc 2 1, 3) := by decide +kernel
theorem dX6_isSame_49 : decode cX6_isSame 49 = .ok (.goto (-34), 3) := by decide +kernel
theorem dX6_isSame_52 : decode cX6_isSame 52 = .ok (.iconst 1, 1) := by decide +kernel
theorem dX6_isSame_53 : decode cX6_isSame 53 = .ok (.ireturn, 1) := by decide +kernel
theorem dX6_next_0 : decode cX6_next 0 = .ok (.iconst 0, 1) := by decide +kernel
theorem dX6_next_1 : decode cX6_next 1 = .ok (.istore_n 2, 1) := by decide +kernel
theorem dX6_next_2 : decode cX6_next 2 = .ok (.aload_n 0, 1) := by decide +kernel
theorem dX6_next_3 : decode cX6_next 3 = .ok (.getfield 18, 3) := by decide +kernel
theorem dX6_next_6 : decode cX6_next 6 = .ok (.ifCond .lt 23, 3) := by decide +kernel
theorem dX6_next_9 : decode cX6_next 9 = .ok (.aload_n 0, 1) := by decide +kernel
theorem dX6_next_10 : decode cX6_next 10 = .ok (.getfield 18, 3) := by decide +kernel
theorem dX6_next_13 : decode cX6_next 13 = .ok (.aload_n 1, 1) := by decide +kernel
theorem dX6_next_14 : decode cX6_next 14 = .ok (.invokevirtual 125, 3) := by decide +kernel
theorem dX6_next_17 : decode cX6_next 17 = .ok (.if_icmp .ge 12, 3) := by decide +kernel
theorem dX6_next_20 : decode cX6_next 20 = .ok (.aload_n 1, 1) := by decide +kernel
theorem dX6_next_21 : decode cX6_next 21 = .ok (.aload_n 0, 1) := by decide +kernel
theorem dX6_next_22 : decode cX6_next 22 = .ok (.getfield 18, 3) := by decide +kernel
theorem dX6_next_25 : decode cX6_next 25 = .ok (.invokevirtual 126, 3) := by decide +kernel
theorem dX6_next_28 : decode cX6_next 28 = .ok (.istore_n 2, 1) := by decide +kernel
theorem dX6_next_29 : decode cX6_next 29 = .ok (.aload_n 0, 1) := by decide +kernel
theorem dX6_next_30 : decode cX6_next 30 = .ok (.dup, 1) := by decide +kernel
theorem dX6_next_31 : decode cX6_next 31 = .ok (.getfield 18, 3) := by decide +kernel
theorem dX6_next_34 : decode cX6_next 34 = .ok (.iconst 1, 1) := by decide +kernel
theorem dX6_next_35 : decode cX6_next 35 = .ok (.iadd, 1) := by decide +kernel
theorem dX6_next_36 : decode cX6_next 36 = .ok (.putfield 18, 3) := by decide +kernel
theorem dX6_next_39 : decode cX6_next 39 = .ok (.iload_n 2, 1) := by decide +kernel
theorem dX6_next_40 : decode cX6_next 40 = .ok (.ireturn, 1) := by decide +kernel
theorem dX6_readPassing_0 : decode cX6_readPassing 0 = .ok (.aload_n 0, 1) := by decide +kernel
theorem dX6_readPassing_1 : decode cX6_readPassing 1 = .ok (.aload_n 1, 1) := by decide +kernel
theorem dX6_readPassing_2 : decode cX6_readPassing 2 = .ok (.invokevirtual 99, 3) := by decide +kernel
theorem dX6_readPassing_5 : decode cX6_readPassing 5 = .ok (.bipush 97, 2) := by decide +kernel
theorem dX6_readPassing_7 : decode cX6_readPassing 7 = .ok (.isub, 1) := by decide +kernel
theorem dX6_readPassing_8 : decode cX6_readPassing 8 = .ok (.istore_n 3, 1) := by decide +kernel
theorem dX6_readPassing_9 : decode cX6_readPassing 9 = .ok (.aload_n 0, 1) := by decide +kernel
theorem dX6_readPassing_10 : decode cX6_readPassing 10 = .ok (.aload_n 1, 1) := by decide +kernel
theorem dX6_readPassing_11 : decode cX6_readPassing 11 = .ok (.invokevirtual 99, 3) := by decide +kernel
theorem dX6_readPassing_14 : decode cX6_readPassing 14 = .ok (.bipush 49, 2) := by decide +kernel
theorem dX6_readPassing_16 : decode cX6_readPassing 16 = .ok (.isub, 1) := by decide +kernel
theorem dX6_readPassing_17 : decode cX6_readPassing 17 = .ok (.istore 4, 2) := by decide +kernel
theorem dX6_readPassing_19 : decode cX6_readPassing 19 = .ok (.iload_n 3, 1) := by decide +kernel
theorem dX6_readPassing_20 : decode cX6_readPassing 20 = .ok (.ifCond .lt 47, 3) := by decide +kernel
theorem dX6_readPassing_23 : decode cX6_readPassing 23 = .ok (.iload_n 3, 1) := by decide +kernel
theorem dX6_readPassing_24 : decode cX6_readPassing 24 = .ok (.aload_n 0, 1) := by decide +kernel
theorem dX6_readPassing_25 : decode cX6_readPassing 25 = .ok (.getfield 22, 3) := by decide +kernel
theorem dX6_readPassing_28 : decode cX6_readPassing 28 = .ok (.getfield 81, 3) := by decide +kernel
theorem dX6_readPassing_31 : decode cX6_readPassing 31 = .ok (.if_icmp .ge 36, 3) := by decide +kernel
theorem dX6_readPassing_34 : decode cX6_readPassing 34 = .ok (.iload 4, 2) := by decide +kernel
theorem dX6_readPassing_36 : decode cX6_readPassing 36 = .ok (.ifCond .lt 31, 3) := by decide +kernel
theorem dX6_readPassing_39 : decode cX6_readPassing 39 = .ok (.iload 4, 2) := by decide +kernel
theorem dX6_readPassing_41 : decode cX6_readPassing 41 = .ok (.aload_n 0, 1) := by decide +kernel
theorem dX6_readPassing_42 : decode cX6_readPassing 42 = .ok (.getfield 22, 3) := by decide +kernel
theorem dX6_readPassing_45 : decode cX6_readPassing 45 = .ok (.getfield 30, 3) := by decide +kernel
theorem dX6_readPassing_48 : decode cX6_readPassing 48 = .ok (.if_icmp .ge 19, 3) := by decide +kernel
theorem dX6_readPassing_51 : decode cX6_readPassing 51 = .ok (.aload_n 2, 1) := by decide +kernel
theorem dX6_readPassing_52 : decode cX6_readPassing 52 = .ok (.iload 4, 2) := by decide +kernel
theorem dX6_readPassing_54 : decode cX6_readPassing 54 = .ok (.aload_n 0, 1) := by decide +kernel
theorem dX6_readPassing_55 : decode cX6_readPassing 55 = .ok (.getfield 22, 3) := by decide +kernel
theorem dX6_readPassing_58 : decode cX6_readPassing 58 = .ok (.getfield 81, 3) := by decide +kernel
theorem dX6_readPassing_61 : decode cX6_readPassing 61 = .ok (.imul, 1) := by decide +kernel
theorem dX6_readPassing_62 : decode cX6_readPassing 62 = .ok (.iload_n 3, 1) := by decide +kernel
theorem dX6_readPassing_63 : decode cX6_readPassing 63 = .ok (.iadd, 1) := by decide +kernel
theorem dX6_readPassing_64 : decode cX6_readPassing 64 = .ok (.putfield 71, 3) := by decide +kernel
theorem dX6_readPassing_67 : decode cX6_readPassing 67 = .ok (.return_, 1) := by decide +kernel
theorem dX6_readRights_0 : decode cX6_readRights 0 = .ok (.aload_n 0, 1) := by decide +kernel
theorem dX6_readRights_1 : decode cX6_readRights 1 = .ok (.aload_n 1, 1) := by decide +kernel
theorem dX6_readRights_2 : decode cX6_readRights 2 = .ok (.invokevirtual 99, 3) := by decide +kernel
theorem dX6_readRights_5 : decode cX6_readRights 5 = .ok (.istore_n 3, 1) := by decide +kernel
theorem dX6_readRights_6 : decode cX6_readRights 6 = .ok (.iload_n 3, 1) := by decide +kernel
theorem dX6_readRights_7 : decode cX6_readRights 7 = .ok (.bipush 45, 2) := by decide +kernel
theorem dX6_readRights_9 : decode cX6_readRights 9 = .ok (.if_icmp .ne 4, 3) := by decide +kernel
theorem dX6_readRights_12 : decode cX6_readRights 12 = .ok (.return_, 1) := by decide +kernel
theorem dX6_readRights_13 : decode cX6_readRights 13 = .ok (.iconst 0, 1) := by decide +kernel
theorem dX6_readRights_14 : decode cX6_readRights 14 = .ok (.istore 4, 2) := by decide +kernel
theorem dX6_readRights_16 : decode cX6_readRights 16 = .ok (.iload 4, 2) := by decide +kernel
theorem dX6_readRights_18 : decode cX6_readRights 18 = .ok (.ldc 59, 2) := by decide +kernel
theorem dX6_readRights_20 : decode cX6_readRights 20 = .ok (.invokevirtual 61, 3) := by decide +kernel
theorem dX6_readRights_23 : decode cX6_readRights 23 = .ok (.if_icmp .ge 41, 3) := by decide +kernel
theorem dX6_readRights_26 : decode cX6_readRights 26 = .ok (.ldc 59, 2) := by decide +kernel
theorem dX6_readRights_28 : decode cX6_readRights 28 = .ok (.iload_n 3, 1) := by decide +kernel
theorem dX6_readRights_29 : decode cX6_readRights 29 = .ok (.invokevirtual 127, 3) := by decide +kernel
theorem dX6_readRights_32 : decode cX6_readRights 32 = .ok (.ifCond .lt 32, 3) := by decide +kernel
theorem dX6_readRights_35 : decode cX6_readRights 35 = .ok (.aload_n 2, 1) := by decide +kernel
theorem dX6_readRights_36 : decode cX6_readRights 36 = .ok (.dup, 1) := by decide +kernel
theorem dX6_readRights_37 : decode cX6_readRights 37 = .ok (.getfield 56, 3) := by decide +kernel
theorem dX6_readRights_40 : decode cX6_readRights 40 = .ok (.iconst 1, 1) := by decide +kernel
theorem dX6_readRights_41 : decode cX6_readRights 41 = .ok (.ldc 59, 2) := by decide +kernel
theorem dX6_readRights_43 : decode cX6_readRights 43 = .ok (.iload_n 3, 1) := by decide +kernel
theorem dX6_readRights_44 : decode cX6_readRights 44 = .ok (.invokevirtual 127, 3) := by decide +kernel
theorem dX6_readRights_47 : decode cX6_readRights 47 = .ok (.ishl, 1) := by decide +kernel
theorem dX6_readRights_48 : decode cX6_readRights 48 = .ok (.ior, 1) := by decide +kernel
theorem dX6_readRights_49 : decode cX6_readRights 49 = .ok (.putfield 56, 3) := by decide +kernel
theorem dX6_readRights_52 : decode cX6_readRights 52 = .ok (.aload_n 0, 1) := by decide +kernel
theorem dX6_readRights_53 : decode cX6_readRights 53 = .ok (.aload_n 1, 1) := by decide +kernel
theorem dX6_readRights_54 : decode cX6_readRights 54 = .ok (.invokevirtual 99, 3) := by decide +kernel
theorem dX6_readRights_57 : decode cX6_readRights 57 = .ok (.istore_n 3, 1) := by decide +kernel
theorem dX6_readRights_58 : decode cX6_readRights 58 = .ok (.iinc 4 1, 3) := by decide +kernel
theorem dX6_readRights_61 : decode cX6_readRights 61 = .ok (.goto (-45), 3) := by decide +kernel
theorem dX6_readRights_64 : decode cX6_readRights 64 = .ok (.aload_n 0, 1) := by decide +kernel
theorem dX6_readRights_65 : decode cX6_readRights 65 = .ok (.dup, 1) := by decide +kernel
theorem dX6_readRights_66 : decode cX6_readRights 66 = .ok (.getfield 18, 3) := by decide +kernel
theorem dX6_readRights_69 : decode cX6_readRights 69 = .ok (.iconst 1, 1) := by decide +kernel
theorem dX6_readRights_70 : decode cX6_readRights 70 = .ok (.isub, 1) := by decide +kernel
theorem dX6_readRights_71 : decode cX6_readRights 71 = .ok (.putfield 18, 3) := by decide +kernel
theorem dX6_readRights_74 : decode cX6_readRights 74 = .ok (.return_, 1) := by decide +kernel
theorem dX6_readSquares_0 : decode cX6_readSquares 0 = .ok (.aload_n 0, 1) := by decide +kernel
theorem dX6_readSquares_1 : decode cX6_readSquares 1 = .ok (.getfield 22, 3) := by decide +kernel
theorem dX6_readSquares_4 : decode cX6_readSquares 4 = .ok (.getfield 30, 3) := by decide +kernel
theorem dX6_readSquares_7 : decode cX6_readSquares 7 = .ok (.iconst 1, 1) := by decide +kernel
theorem dX6_readSquares_8 : decode cX6_readSquares 8 = .ok (.isub, 1) := by decide +kernel
theorem dX6_readSquares_9 : decode cX6_readSquares 9 = .ok (.istore_n 3, 1) := by decide +kernel
theorem dX6_readSquares_10 : decode cX6_readSquares 10 = .ok (.iload_n 3, 1) := by decide +kernel
theorem dX6_readSquares_11 : decode cX6_readSquares 11 = .ok (.ifCond .lt 102, 3) := by decide +kernel
theorem dX6_readSquares_14 : decode cX6_readSquares 14 = .ok (.iconst 0, 1) := by decide +kernel
theorem dX6_readSquares_15 : decode cX6_readSquares 15 = .ok (.istore 4, 2) := by decide +kernel
theorem dX6_readSquares_17 : decode cX6_readSquares 17 = .ok (.iload 4, 2) := by decide +kernel
theorem dX6_readSquares_19 : decode cX6_readSquares 19 = .ok (.aload_n 0, 1) := by decide +kernel
theorem dX6_readSquares_20 : decode cX6_readSquares 20 = .ok (.getfield 22, 3) := by decide +kernel
theorem dX6_readSquares_23 : decode cX6_readSquares 23 = .ok (.getfield 81, 3) := by decide +kernel
theorem dX6_readSquares_26 : decode cX6_readSquares 26 = .ok (.if_icmp .ge 75, 3) := by decide +kernel
theorem dX6_readSquares_29 : decode cX6_readSquares 29 = .ok (.aload_n 0, 1) := by decide +kernel
theorem dX6_readSquares_30 : decode cX6_readSquares 30 = .ok (.aload_n 1, 1) := by decide +kernel
theorem dX6_readSquares_31 : decode cX6_readSquares 31 = .ok (.invokevirtual 99, 3) := by decide +kernel
theorem dX6_readSquares_34 : decode cX6_readSquares 34 = .ok (.istore 5, 2) := by decide +kernel
theorem dX6_readSquares_36 : decode cX6_readSquares 36 = .ok (.ldc 90, 2) := by decide +kernel
theorem dX6_readSquares_38 : decode cX6_readSquares 38 = .ok (.iload 5, 2) := by decide +kernel
theorem dX6_readSquares_40 : decode cX6_readSquares 40 = .ok (.invokevirtual 127, 3) := by decide +kernel
theorem dX6_readSquares_43 : decode cX6_readSquares 43 = .ok (.istore 6, 2) := by decide +kernel
theorem dX6_readSquares_45 : decode cX6_readSquares 45 = .ok (.iload 6, 2) := by decide +kernel
theorem dX6_readSquares_47 : decode cX6_readSquares 47 = .ok (.ifCond .le 24, 3) := by decide +kernel
theorem dX6_readSquares_50 : decode cX6_readSquares 50 = .ok (.aload_n 2, 1) := by decide +kernel
theorem dX6_readSquares_51 : decode cX6_readSquares 51 = .ok (.iload_n 3, 1) := by decide +kernel
theorem dX6_readSquares_52 : decode cX6_readSquares 52 = .ok (.aload_n 0, 1) := by decide +kernel
theorem dX6_readSquares_53 : decode cX6_readSquares 53 = .ok (.getfield 22, 3) := by decide +kernel
theorem dX6_readSquares_56 : decode cX6_readSquares 56 = .ok (.getfield 81, 3) := by decide +kernel
theorem dX6_readSquares_59 : decode cX6_readSquares 59 = .ok (.imul, 1) := by decide +kernel
theorem dX6_readSquares_60 : decode cX6_readSquares 60 = .ok (.iload 4, 2) := by decide +kernel
theorem dX6_readSquares_62 : decode cX6_readSquares 62 = .ok (.iadd, 1) := by decide +kernel
theorem dX6_readSquares_63 : decode cX6_readSquares 63 = .ok (.iload 6, 2) := by decide +kernel
theorem dX6_readSquares_65 : decode cX6_readSquares 65 = .ok (.invokevirtual 130, 3) := by decide +kernel
theorem dX6_readSquares_68 : decode cX6_readSquares 68 = .ok (.goto 27, 3) := by decide +kernel
theorem dX6_readSquares_71 : decode cX6_readSquares 71 = .ok (.iload 5, 2) := by decide +kernel
theorem dX6_readSquares_73 : decode cX6_readSquares 73 = .ok (.bipush 49, 2) := by decide +kernel
theorem dX6_readSquares_75 : decode cX6_readSquares 75 = .ok (.if_icmp .le 20, 3) := by decide +kernel
theorem dX6_readSquares_78 : decode cX6_readSquares 78 = .ok (.iload 5, 2) := by decide +kernel
theorem dX6_readSquares_80 : decode cX6_readSquares 80 = .ok (.bipush 56, 2) := by decide +kernel
theorem dX6_readSquares_82 : decode cX6_readSquares 82 = .ok (.if_icmp .gt 13, 3) := by decide +kernel
theorem dX6_readSquares_85 : decode cX6_readSquares 85 = .ok (.iload 4, 2) := by decide +kernel
theorem dX6_readSquares_87 : decode cX6_readSquares 87 = .ok (.iload 5, 2) := by decide +kernel
theorem dX6_readSquares_89 : decode cX6_readSquares 89 = .ok (.bipush 49, 2) := by decide +kernel
theorem dX6_readSquares_91 : decode cX6_readSquares 91 = .ok (.isub, 1) := by decide +kernel
theorem dX6_readSquares_92 : decode cX6_readSquares 92 = .ok (.iadd, 1) := by decide +kernel
theorem dX6_readSquares_93 : decode cX6_readSquares 93 = .ok (.istore 4, 2) := by decide +kernel
theorem dX6_readSquares_95 : decode cX6_readSquares 95 = .ok (.iinc 4 1, 3) := by decide +kernel
theorem dX6_readSquares_98 : decode cX6_readSquares 98 = .ok (.goto (-81), 3) := by decide +kernel
theorem dX6_readSquares_101 : decode cX6_readSquares 101 = .ok (.aload_n 0, 1) := by decide +kernel
theorem dX6_readSquares_102 : decode cX6_readSquares 102 = .ok (.aload_n 1, 1) := by decide +kernel
theorem dX6_readSquares_103 : decode cX6_readSquares 103 = .ok (.invokevirtual 99, 3) := by decide +kernel
theorem dX6_readSquares_106 : decode cX6_readSquares 106 = .ok (.pop, 1) := by decide +kernel
theorem dX6_readSquares_107 : decode cX6_readSquares 107 = .ok (.iinc 3 (-1), 3) := by decide +kernel
theorem dX6_readSquares_110 : decode cX6_readSquares 110 = .ok (.goto (-100), 3) := by decide +kernel
theorem dX6_readSquares_113 : decode cX6_readSquares 113 = .ok (.return_, 1) := by decide +kernel
theorem dX6_writeRank_0 : decode cX6_writeRank 0 = .ok (.iconst 0, 1) := by decide +kernel
theorem dX6_writeRank_1 : decode cX6_writeRank 1 = .ok (.istore 4, 2) := by decide +kernel
theorem dX6_writeRank_3 : decode cX6_writeRank 3 = .ok (.iconst 0, 1) := by decide +kernel
theorem dX6_writeRank_4 : decode cX6_writeRank 4 = .ok (.istore 5, 2) := by decide +kernel
theorem dX6_writeRank_6 : decode cX6_writeRank 6 = .ok (.iload 5, 2) := by decide +kernel
theorem dX6_writeRank_8 : decode cX6_writeRank 8 = .ok (.aload_n 0, 1) := by decide +kernel
theorem dX6_writeRank_9 : decode cX6_writeRank 9 = .ok (.getfield 22, 3) := by decide +kernel
theorem dX6_writeRank_12 : decode cX6_writeRank 12 = .ok (.getfield 81, 3) := by decide +kernel
theorem dX6_writeRank_15 : decode cX6_writeRank 15 = .ok (.if_icmp .ge 75, 3) := by decide +kernel
theorem dX6_writeRank_18 : decode cX6_writeRank 18 = .ok (.aload_n 1, 1) := by decide +kernel
theorem dX6_writeRank_19 : decode cX6_writeRank 19 = .ok (.iload_n 2, 1) := by decide +kernel
theorem dX6_writeRank_20 : decode cX6_writeRank 20 = .ok (.aload_n 0, 1) := by decide +kernel
theorem dX6_writeRank_21 : decode cX6_writeRank 21 = .ok (.getfield 22, 3) := by decide +kernel
theorem dX6_writeRank_24 : decode cX6_writeRank 24 = .ok (.getfield 81, 3) := by decide +kernel
theorem dX6_writeRank_27 : decode cX6_writeRank 27 = .ok (.imul, 1) := by decide +kernel
theorem dX6_writeRank_28 : decode cX6_writeRank 28 = .ok (.iload 5, 2) := by decide +kernel
theorem dX6_writeRank_30 : decode cX6_writeRank 30 = .ok (.iadd, 1) := by decide +kernel
theorem dX6_writeRank_31 : decode cX6_writeRank 31 = .ok (.invokevirtual 84, 3) := by decide +kernel
theorem dX6_writeRank_34 : decode cX6_writeRank 34 = .ok (.istore 6, 2) := by decide +kernel
theorem dX6_writeRank_36 : decode cX6_writeRank 36 = .ok (.iload 6, 2) := by decide +kernel
theorem dX6_writeRank_38 : decode cX6_writeRank 38 = .ok (.ifCond .ne 9, 3) := by decide +kernel
theorem dX6_writeRank_41 : decode cX6_writeRank 41 = .ok (.iinc 4 1, 3) := by decide +kernel
theorem dX6_writeRank_44 : decode cX6_writeRank 44 = .ok (.goto 40, 3) := by decide +kernel
theorem dX6_writeRank_47 : decode cX6_writeRank 47 = .ok (.iload 4, 2) := by decide +kernel
theorem dX6_writeRank_49 : decode cX6_writeRank 49 = .ok (.ifCond .le 10, 3) := by decide +kernel
theorem dX6_writeRank_52 : decode cX6_writeRank 52 = .ok (.aload_n 3, 1) := by decide +kernel
theorem dX6_writeRank_53 : decode cX6_writeRank 53 = .ok (.iload 4, 2) := by decide +kernel
theorem dX6_writeRank_55 : decode cX6_writeRank 55 = .ok (.invokevirtual 87, 3) := by decide +kernel
theorem dX6_writeRank_58 : decode cX6_writeRank 58 = .ok (.pop, 1) := by decide +kernel
theorem dX6_writeRank_59 : decode cX6_writeRank 59 = .ok (.iconst 0, 1) := by decide +kernel
theorem dX6_writeRank_60 : decode cX6_writeRank 60 = .ok (.istore 4, 2) := by decide +kernel
theorem dX6_writeRank_62 : decode cX6_writeRank 62 = .ok (.iload 6, 2) := by decide +kernel
theorem dX6_writeRank_64 : decode cX6_writeRank 64 = .ok (.ldc 90, 2) := by decide +kernel
theorem dX6_writeRank_66 : decode cX6_writeRank 66 = .ok (.invokevirtual 61, 3) := by decide +kernel
theorem dX6_writeRank_69 : decode cX6_writeRank 69 = .ok (.if_icmp .ge 15, 3) := by decide +kernel
theorem dX6_writeRank_72 : decode cX6_writeRank 72 = .ok (.aload_n 3, 1) := by decide +kernel
theorem dX6_writeRank_73 : decode cX6_writeRank 73 = .ok (.ldc 90, 2) := by decide +kernel
theorem dX6_writeRank_75 : decode cX6_writeRank 75 = .ok (.iload 6, 2) := by decide +kernel
theorem dX6_writeRank_77 : decode cX6_writeRank 77 = .ok (.invokevirtual 67, 3) := by decide +kernel
theorem dX6_writeRank_80 : decode cX6_writeRank 80 = .ok (.invokevirtual 39, 3) := by decide +kernel
theorem dX6_writeRank_83 : decode cX6_writeRank 83 = .ok (.pop, 1) := by decide +kernel
theorem dX6_writeRank_84 : decode cX6_writeRank 84 = .ok (.iinc 5 1, 3) := by decide +kernel
theorem dX6_writeRank_87 : decode cX6_writeRank 87 = .ok (.goto (-81), 3) := by decide +kernel
theorem dX6_writeRank_90 : decode cX6_writeRank 90 = .ok (.iload 4, 2) := by decide +kernel
theorem dX6_writeRank_92 : decode cX6_writeRank 92 = .ok (.ifCond .le 10, 3) := by decide +kernel
theorem dX6_writeRank_95 : decode cX6_writeRank 95 = .ok (.aload_n 3, 1) := by decide +kernel
theorem dX6_writeRank_96 : decode cX6_writeRank 96 = .ok (.iload 4, 2) := by decide +kernel
theorem dX6_writeRank_98 : decode cX6_writeRank 98 = .ok (.invokevirtual 87, 3) := by decide +kernel
theorem dX6_writeRank_101 : decode cX6_writeRank 101 = .ok (.pop, 1) := by decide +kernel
theorem dX6_writeRank_102 : decode cX6_writeRank 102 = .ok (.return_, 1) := by decide +kernel
theorem dX6_write_0 : decode cX6_write 0 = .ok (.aload_n 2, 1) := by decide +kernel
theorem dX6_write_1 : decode cX6_write 1 = .ok (.iconst 0, 1) := by decide +kernel
theorem dX6_write_2 : decode cX6_write 2 = .ok (.invokevirtual 26, 3) := by decide +kernel
theorem dX6_write_5 : decode cX6_write 5 = .ok (.aload_n 0, 1) := by decide +kernel
theorem dX6_write_6 : decode cX6_write 6 = .ok (.getfield 22, 3) := by decide +kernel
theorem dX6_write_9 : decode cX6_write 9 = .ok (.getfield 30, 3) := by decide +kernel
theorem dX6_write_12 : decode cX6_write 12 = .ok (.iconst 1, 1) := by decide +kernel
theorem dX6_write_13 : decode cX6_write 13 = .ok (.isub, 1) := by decide +kernel
theorem dX6_write_14 : decode cX6_write 14 = .ok (.istore_n 3, 1) := by decide +kernel
theorem dX6_write_15 : decode cX6_write 15 = .ok (.iload_n 3, 1) := by decide +kernel
theorem dX6_write_16 : decode cX6_write 16 = .ok (.ifCond .lt 27, 3) := by decide +kernel
theorem dX6_write_19 : decode cX6_write 19 = .ok (.aload_n 0, 1) := by decide +kernel
theorem dX6_write_20 : decode cX6_write 20 = .ok (.aload_n 1, 1) := by decide +kernel
theorem dX6_write_21 : decode cX6_write 21 = .ok (.iload_n 3, 1) := by decide +kernel
theorem dX6_write_22 : decode cX6_write 22 = .ok (.aload_n 2, 1) := by decide +kernel
theorem dX6_write_23 : decode cX6_write 23 = .ok (.invokevirtual 35, 3) := by decide +kernel
theorem dX6_write_26 : decode cX6_write 26 = .ok (.iload_n 3, 1) := by decide +kernel
theorem dX6_write_27 : decode cX6_write 27 = .ok (.ifCond .le 10, 3) := by decide +kernel
theorem dX6_write_30 : decode cX6_write 30 = .ok (.aload_n 2, 1) := by decide +kernel
theorem dX6_write_31 : decode cX6_write 31 = .ok (.bipush 47, 2) := by decide +kernel
theorem dX6_write_33 : decode cX6_write 33 = .ok (.invokevirtual 39, 3) := by decide +kernel
theorem dX6_write_36 : decode cX6_write 36 = .ok (.pop, 1) := by decide +kernel
theorem dX6_write_37 : decode cX6_write 37 = .ok (.iinc 3 (-1), 3) := by decide +kernel
theorem dX6_write_40 : decode cX6_write 40 = .ok (.goto (-25), 3) := by decide +kernel
theorem dX6_write_43 : decode cX6_write 43 = .ok (.aload_n 2, 1) := by decide +kernel
theorem dX6_write_44 : decode cX6_write 44 = .ok (.aload_n 1, 1) := by decide +kernel
theorem dX6_write_45 : decode cX6_write 45 = .ok (.getfield 43, 3) := by decide +kernel
theorem dX6_write_48 : decode cX6_write 48 = .ok (.ifCond .eq 8, 3) := by decide +kernel
theorem dX6_write_51 : decode cX6_write 51 = .ok (.ldc 49, 2) := by decide +kernel
theorem dX6_write_53 : decode cX6_write 53 = .ok (.goto 5, 3) := by decide +kernel
theorem dX6_write_56 : decode cX6_write 56 = .ok (.ldc 51, 2) := by decide +kernel
theorem dX6_write_58 : decode cX6_write 58 = .ok (.invokevirtual 53, 3) := by decide +kernel
theorem dX6_write_61 : decode cX6_write 61 = .ok (.pop, 1) := by decide +kernel
theorem dX6_write_62 : decode cX6_write 62 = .ok (.aload_n 1, 1) := by decide +kernel
theorem dX6_write_63 : decode cX6_write 63 = .ok (.getfield 56, 3) := by decide +kernel
theorem dX6_write_66 : decode cX6_write 66 = .ok (.ifCond .ne 10, 3) := by decide +kernel
theorem dX6_write_69 : decode cX6_write 69 = .ok (.aload_n 2, 1) := by decide +kernel
theorem dX6_write_70 : decode cX6_write 70 = .ok (.bipush 45, 2) := by decide +kernel
theorem dX6_write_72 : decode cX6_write 72 = .ok (.invokevirtual 39, 3) := by decide +kernel
theorem dX6_write_75 : decode cX6_write 75 = .ok (.pop, 1) := by decide +kernel
theorem dX6_write_76 : decode cX6_write 76 = .ok (.iconst 0, 1) := by decide +kernel
theorem dX6_write_77 : decode cX6_write 77 = .ok (.istore_n 3, 1) := by decide +kernel
theorem dX6_write_78 : decode cX6_write 78 = .ok (.iload_n 3, 1) := by decide +kernel
theorem dX6_write_79 : decode cX6_write 79 = .ok (.ldc 59, 2) := by decide +kernel
theorem dX6_write_81 : decode cX6_write 81 = .ok (.invokevirtual 61, 3) := by decide +kernel
theorem dX6_write_84 : decode cX6_write 84 = .ok (.if_icmp .ge 31, 3) := by decide +kernel
theorem dX6_write_87 : decode cX6_write 87 = .ok (.aload_n 1, 1) := by decide +kernel
theorem dX6_write_88 : decode cX6_write 88 = .ok (.getfield 56, 3) := by decide +kernel
theorem dX6_write_91 : decode cX6_write 91 = .ok (.iload_n 3, 1) := by decide +kernel
theorem dX6_write_92 : decode cX6_write 92 = .ok (.iushr, 1) := by decide +kernel
theorem dX6_write_93 : decode cX6_write 93 = .ok (.iconst 1, 1) := by decide +kernel
theorem dX6_write_94 : decode cX6_write 94 = .ok (.iand, 1) := by decide +kernel
theorem dX6_write_95 : decode cX6_write 95 = .ok (.ifCond .eq 14, 3) := by decide +kernel
theorem dX6_write_98 : decode cX6_write 98 = .ok (.aload_n 2, 1) := by decide +kernel
theorem dX6_write_99 : decode cX6_write 99 = .ok (.ldc 59, 2) := by decide +kernel
theorem dX6_write_101 : decode cX6_write 101 = .ok (.iload_n 3, 1) := by decide +kernel
theorem dX6_write_102 : decode cX6_write 102 = .ok (.invokevirtual 67, 3) := by decide +kernel
theorem dX6_write_105 : decode cX6_write 105 = .ok (.invokevirtual 39, 3) := by decide +kernel
theorem dX6_write_108 : decode cX6_write 108 = .ok (.pop, 1) := by decide +kernel
theorem dX6_write_109 : decode cX6_write 109 = .ok (.iinc 3 1, 3) := by decide +kernel
theorem dX6_write_112 : decode cX6_write 112 = .ok (.goto (-34), 3) := by decide +kernel
theorem dX6_write_115 : decode cX6_write 115 = .ok (.aload_n 2, 1) := by decide +kernel
theorem dX6_write_116 : decode cX6_write 116 = .ok (.bipush 32, 2) := by decide +kernel
theorem dX6_write_118 : decode cX6_write 118 = .ok (.invokevirtual 39, 3) := by decide +kernel
theorem dX6_write_121 : decode cX6_write 121 = .ok (.pop, 1) := by decide +kernel
theorem dX6_write_122 : decode cX6_write 122 = .ok (.aload_n 1, 1) := by decide +kernel
theorem dX6_write_123 : decode cX6_write 123 = .ok (.getfield 71, 3) := by decide +kernel
theorem dX6_write_126 : decode cX6_write 126 = .ok (.iconst (-1), 1) := by decide +kernel
theorem dX6_write_127 : decode cX6_write 127 = .ok (.if_icmp .ne 13, 3) := by decide +kernel
theorem dX6_write_130 : decode cX6_write 130 = .ok (.aload_n 2, 1) := by decide +kernel
theorem dX6_write_131 : decode cX6_write 131 = .ok (.bipush 45, 2) := by decide +kernel
theorem dX6_write_133 : decode cX6_write 133 = .ok (.invokevirtual 39, 3) := by decide +kernel
theorem dX6_write_136 : decode cX6_write 136 = .ok (.pop, 1) := by decide +kernel
theorem dX6_write_137 : decode cX6_write 137 = .ok (.goto 43, 3) := by decide +kernel
theorem dX6_write_140 : decode cX6_write 140 = .ok (.aload_n 2, 1) := by decide +kernel
theorem dX6_write_141 : decode cX6_write 141 = .ok (.bipush 97, 2) := by decide +kernel
theorem dX6_write_143 : decode cX6_write 143 = .ok (.aload_n 0, 1) := by decide +kernel
theorem dX6_write_144 : decode cX6_write 144 = .ok (.getfield 22, 3) := by decide +kernel
theorem dX6_write_147 : decode cX6_write 147 = .ok (.aload_n 1, 1) := by decide +kernel
theorem dX6_write_148 : decode cX6_write 148 = .ok (.getfield 71, 3) := by decide +kernel
theorem dX6_write_151 : decode cX6_write 151 = .ok (.invokevirtual 74, 3) := by decide +kernel
theorem dX6_write_154 : decode cX6_write 154 = .ok (.iadd, 1) := by decide +kernel
theorem dX6_write_155 : decode cX6_write 155 = .ok (.i2c, 1) := by decide +kernel
theorem dX6_write_156 : decode cX6_write 156 = .ok (.invokevirtual 39, 3) := by decide +kernel
theorem dX6_write_159 : decode cX6_write 159 = .ok (.pop, 1) := by decide +kernel
theorem dX6_write_160 : decode cX6_write 160 = .ok (.aload_n 2, 1) := by decide +kernel
theorem dX6_write_161 : decode cX6_write 161 = .ok (.bipush 49, 2) := by decide +kernel
theorem dX6_write_163 : decode cX6_write 163 = .ok (.aload_n 0, 1) := by decide +kernel
theorem dX6_write_164 : decode cX6_write 164 = .ok (.getfield 22, 3) := by decide +kernel
theorem dX6_write_167 : decode cX6_write 167 = .ok (.aload_n 1, 1) := by decide +kernel
theorem dX6_write_168 : decode cX6_write 168 = .ok (.getfield 71, 3) := by decide +kernel
theorem dX6_write_171 : decode cX6_write 171 = .ok (.invokevirtual 78, 3) := by decide +kernel
theorem dX6_write_174 : decode cX6_write 174 = .ok (.iadd, 1) := by decide +kernel
theorem dX6_write_175 : decode cX6_write 175 = .ok (.i2c, 1) := by decide +kernel
theorem dX6_write_176 : decode cX6_write 176 = .ok (.invokevirtual 39, 3) := by decide +kernel
theorem dX6_write_179 : decode cX6_write 179 = .ok (.pop, 1) := by decide +kernel
theorem dX6_write_180 : decode cX6_write 180 = .ok (.return_, 1) := by decide +kernel
theorem dX6_reads_0 : decode cX6_reads 0 = .ok (.aload_n 2, 1) := by decide +kernel
theorem dX6_reads_1 : decode cX6_reads 1 = .ok (.invokevirtual 92, 3) := by decide +kernel
theorem dX6_reads_4 : decode cX6_reads 4 = .ok (.aload_n 0, 1) := by decide +kernel
theorem dX6_reads_5 : decode cX6_reads 5 = .ok (.iconst 0, 1) := by decide +kernel
theorem dX6_reads_6 : decode cX6_reads 6 = .ok (.putfield 18, 3) := by decide +kernel
theorem dX6_reads_9 : decode cX6_reads 9 = .ok (.aload_n 0, 1) := by decide +kernel
theorem dX6_reads_10 : decode cX6_reads 10 = .ok (.aload_n 1, 1) := by decide +kernel
theorem dX6_reads_11 : decode cX6_reads 11 = .ok (.aload_n 2, 1) := by decide +kernel
theorem dX6_reads_12 : decode cX6_reads 12 = .ok (.invokevirtual 95, 3) := by decide +kernel
theorem dX6_reads_15 : decode cX6_reads 15 = .ok (.aload_n 2, 1) := by decide +kernel
theorem dX6_reads_16 : decode cX6_reads 16 = .ok (.aload_n 0, 1) := by decide +kernel
theorem dX6_reads_17 : decode cX6_reads 17 = .ok (.aload_n 1, 1) := by decide +kernel
theorem dX6_reads_18 : decode cX6_reads 18 = .ok (.invokevirtual 99, 3) := by decide +kernel
theorem dX6_reads_21 : decode cX6_reads 21 = .ok (.bipush 119, 2) := by decide +kernel
theorem dX6_reads_23 : decode cX6_reads 23 = .ok (.if_icmp .ne 7, 3) := by decide +kernel
theorem dX6_reads_26 : decode cX6_reads 26 = .ok (.iconst 1, 1) := by decide +kernel
theorem dX6_reads_27 : decode cX6_reads 27 = .ok (.goto 4, 3) := by decide +kernel
theorem dX6_reads_30 : decode cX6_reads 30 = .ok (.iconst 0, 1) := by decide +kernel
theorem dX6_reads_31 : decode cX6_reads 31 = .ok (.putfield 43, 3) := by decide +kernel
theorem dX6_reads_34 : decode cX6_reads 34 = .ok (.aload_n 0, 1) := by decide +kernel
theorem dX6_reads_35 : decode cX6_reads 35 = .ok (.aload_n 1, 1) := by decide +kernel
theorem dX6_reads_36 : decode cX6_reads 36 = .ok (.invokevirtual 99, 3) := by decide +kernel
theorem dX6_reads_39 : decode cX6_reads 39 = .ok (.pop, 1) := by decide +kernel
theorem dX6_reads_40 : decode cX6_reads 40 = .ok (.aload_n 0, 1) := by decide +kernel
theorem dX6_reads_41 : decode cX6_reads 41 = .ok (.aload_n 1, 1) := by decide +kernel
theorem dX6_reads_42 : decode cX6_reads 42 = .ok (.aload_n 2, 1) := by decide +kernel
theorem dX6_reads_43 : decode cX6_reads 43 = .ok (.invokevirtual 103, 3) := by decide +kernel
theorem dX6_reads_46 : decode cX6_reads 46 = .ok (.aload_n 0, 1) := by decide +kernel
theorem dX6_reads_47 : decode cX6_reads 47 = .ok (.aload_n 1, 1) := by decide +kernel
theorem dX6_reads_48 : decode cX6_reads 48 = .ok (.invokevirtual 99, 3) := by decide +kernel
theorem dX6_reads_51 : decode cX6_reads 51 = .ok (.pop, 1) := by decide +kernel
theorem dX6_reads_52 : decode cX6_reads 52 = .ok (.aload_n 0, 1) := by decide +kernel
theorem dX6_reads_53 : decode cX6_reads 53 = .ok (.aload_n 1, 1) := by decide +kernel
theorem dX6_reads_54 : decode cX6_reads 54 = .ok (.aload_n 2, 1) := by decide +kernel
theorem dX6_reads_55 : decode cX6_reads 55 = .ok (.invokevirtual 106, 3) := by decide +kernel
theorem dX6_reads_58 : decode cX6_reads 58 = .ok (.aload_n 0, 1) := by decide +kernel
theorem dX6_reads_59 : decode cX6_reads 59 = .ok (.aload_n 2, 1) := by decide +kernel
theorem dX6_reads_60 : decode cX6_reads 60 = .ok (.aload_n 0, 1) := by decide +kernel
theorem dX6_reads_61 : decode cX6_reads 61 = .ok (.getfield 12, 3) := by decide +kernel
theorem dX6_reads_64 : decode cX6_reads 64 = .ok (.invokevirtual 109, 3) := by decide +kernel
theorem dX6_reads_67 : decode cX6_reads 67 = .ok (.aload_n 1, 1) := by decide +kernel
theorem dX6_reads_68 : decode cX6_reads 68 = .ok (.aload_n 0, 1) := by decide +kernel
theorem dX6_reads_69 : decode cX6_reads 69 = .ok (.getfield 12, 3) := by decide +kernel
theorem dX6_reads_72 : decode cX6_reads 72 = .ok (.invokestatic 113, 3) := by decide +kernel
theorem dX6_reads_75 : decode cX6_reads 75 = .ok (.ifCond .eq 22, 3) := by decide +kernel
theorem dX6_reads_78 : decode cX6_reads 78 = .ok (.aload_n 2, 1) := by decide +kernel
theorem dX6_reads_79 : decode cX6_reads 79 = .ok (.invokevirtual 117, 3) := by decide +kernel
theorem dX6_reads_82 : decode cX6_reads 82 = .ok (.ifCond .eq 15, 3) := by decide +kernel
theorem dX6_reads_85 : decode cX6_reads 85 = .ok (.aload_n 0, 1) := by decide +kernel
theorem dX6_reads_86 : decode cX6_reads 86 = .ok (.aload_n 2, 1) := by decide +kernel
theorem dX6_reads_87 : decode cX6_reads 87 = .ok (.invokevirtual 121, 3) := by decide +kernel
theorem dX6_reads_90 : decode cX6_reads 90 = .ok (.ifCond .eq 7, 3) := by decide +kernel
theorem dX6_reads_93 : decode cX6_reads 93 = .ok (.iconst 1, 1) := by decide +kernel
theorem dX6_reads_94 : decode cX6_reads 94 = .ok (.goto 4, 3) := by decide +kernel
theorem dX6_reads_97 : decode cX6_reads 97 = .ok (.iconst 0, 1) := by decide +kernel
theorem dX6_reads_98 : decode cX6_reads 98 = .ok (.ireturn, 1) := by decide +kernel
theorem dX11_readPaper_0 : decode cX11_readPaper 0 = .ok (.aload_n 0, 1) := by decide +kernel
theorem dX11_readPaper_1 : decode cX11_readPaper 1 = .ok (.getfield 65, 3) := by decide +kernel
theorem dX11_readPaper_4 : decode cX11_readPaper 4 = .ok (.aload_n 0, 1) := by decide +kernel
theorem dX11_readPaper_5 : decode cX11_readPaper 5 = .ok (.getfield 105, 3) := by decide +kernel
theorem dX11_readPaper_8 : decode cX11_readPaper 8 = .ok (.aload_n 0, 1) := by decide +kernel
theorem dX11_readPaper_9 : decode cX11_readPaper 9 = .ok (.getfield 32, 3) := by decide +kernel
theorem dX11_readPaper_12 : decode cX11_readPaper 12 = .ok (.invokevirtual 187, 3) := by decide +kernel
theorem dX11_readPaper_15 : decode cX11_readPaper 15 = .ok (.istore_n 1, 1) := by decide +kernel
theorem dX11_readPaper_16 : decode cX11_readPaper 16 = .ok (.aload_n 0, 1) := by decide +kernel
theorem dX11_readPaper_17 : decode cX11_readPaper 17 = .ok (.getfield 105, 3) := by decide +kernel
theorem dX11_readPaper_20 : decode cX11_readPaper 20 = .ok (.iconst 0, 1) := by decide +kernel
theorem dX11_readPaper_21 : decode cX11_readPaper 21 = .ok (.invokevirtual 191, 3) := by decide +kernel
theorem dX11_readPaper_24 : decode cX11_readPaper 24 = .ok (.iload_n 1, 1) := by decide +kernel
theorem dX11_readPaper_25 : decode cX11_readPaper 25 = .ok (.ifCond .ne 13, 3) := by decide +kernel
theorem dX11_readPaper_28 : decode cX11_readPaper 28 = .ok (.new 140, 3) := by decide +kernel
theorem dX11_readPaper_31 : decode cX11_readPaper 31 = .ok (.dup, 1) := by decide +kernel
theorem dX11_readPaper_32 : decode cX11_readPaper 32 = .ok (.ldc 194, 2) := by decide +kernel
theorem dX11_readPaper_34 : decode cX11_readPaper 34 = .ok (.invokespecial 144, 3) := by decide +kernel
theorem dX11_readPaper_37 : decode cX11_readPaper 37 = .ok (.athrow, 1) := by decide +kernel
theorem dX11_readPaper_38 : decode cX11_readPaper 38 = .ok (.aload_n 0, 1) := by decide +kernel
theorem dX11_readPaper_39 : decode cX11_readPaper 39 = .ok (.invokevirtual 165, 3) := by decide +kernel
theorem dX11_readPaper_42 : decode cX11_readPaper 42 = .ok (.aload_n 0, 1) := by decide +kernel
theorem dX11_readPaper_43 : decode cX11_readPaper 43 = .ok (.getfield 28, 3) := by decide +kernel
theorem dX11_readPaper_46 : decode cX11_readPaper 46 = .ok (.aload_n 0, 1) := by decide +kernel
theorem dX11_readPaper_47 : decode cX11_readPaper 47 = .ok (.getfield 32, 3) := by decide +kernel
theorem dX11_readPaper_50 : decode cX11_readPaper 50 = .ok (.invokevirtual 196, 3) := by decide +kernel
theorem dX11_readPaper_53 : decode cX11_readPaper 53 = .ok (.aload_n 0, 1) := by decide +kernel
theorem dX11_readPaper_54 : decode cX11_readPaper 54 = .ok (.getfield 40, 3) := by decide +kernel
theorem dX11_readPaper_57 : decode cX11_readPaper 57 = .ok (.aload_n 0, 1) := by decide +kernel
theorem dX11_readPaper_58 : decode cX11_readPaper 58 = .ok (.getfield 28, 3) := by decide +kernel
theorem dX11_readPaper_61 : decode cX11_readPaper 61 = .ok (.invokevirtual 130, 3) := by decide +kernel
theorem dX11_readPaper_64 : decode cX11_readPaper 64 = .ok (.aload_n 0, 1) := by decide +kernel
theorem dX11_readPaper_65 : decode cX11_readPaper 65 = .ok (.getfield 28, 3) := by decide +kernel
theorem dX11_readPaper_68 : decode cX11_readPaper 68 = .ok (.invokevirtual 199, 3) := by decide +kernel
theorem dX11_readPaper_71 : decode cX11_readPaper 71 = .ok (.invokestatic 203, 3) := by decide +kernel
theorem dX11_readPaper_74 : decode cX11_readPaper 74 = .ok (.ireturn, 1) := by decide +kernel
theorem dX11_repetitions_0 : decode cX11_repetitions 0 = .ok (.aload_n 0, 1) := by decide +kernel
theorem dX11_repetitions_1 : decode cX11_repetitions 1 = .ok (.getfield 40, 3) := by decide +kernel
theorem dX11_repetitions_4 : decode cX11_repetitions 4 = .ok (.aload_n 0, 1) := by decide +kernel
theorem dX11_repetitions_5 : decode cX11_repetitions 5 = .ok (.getfield 28, 3) := by decide +kernel
theorem dX11_repetitions_8 : decode cX11_repetitions 8 = .ok (.invokevirtual 306, 3) := by decide +kernel
theorem dX11_repetitions_11 : decode cX11_repetitions 11 = .ok (.ireturn, 1) := by decide +kernel
theorem dX11_rights_0 : decode cX11_rights 0 = .ok (.aload_n 0, 1) := by decide +kernel
theorem dX11_rights_1 : decode cX11_rights 1 = .ok (.getfield 28, 3) := by decide +kernel
theorem dX11_rights_4 : decode cX11_rights 4 = .ok (.getfield 175, 3) := by decide +kernel
theorem dX11_rights_7 : decode cX11_rights 7 = .ok (.ireturn, 1) := by decide +kernel
theorem dX11_setSide_0 : decode cX11_setSide 0 = .ok (.iload_n 2, 1) := by decide +kernel
theorem dX11_setSide_1 : decode cX11_setSide 1 = .ok (.ifCond .lt 9, 3) := by decide +kernel
theorem dX11_setSide_4 : decode cX11_setSide 4 = .ok (.iload_n 2, 1) := by decide +kernel
theorem dX11_setSide_5 : decode cX11_setSide 5 = .ok (.bipush 15, 2) := by decide +kernel
theorem dX11_setSide_7 : decode cX11_setSide 7 = .ok (.if_icmp .le 13, 3) := by decide +kernel
theorem dX11_setSide_10 : decode cX11_setSide 10 = .ok (.new 140, 3) := by decide +kernel
theorem dX11_setSide_13 : decode cX11_setSide 13 = .ok (.dup, 1) := by decide +kernel
theorem dX11_setSide_14 : decode cX11_setSide 14 = .ok (.ldc 181, 2) := by decide +kernel
theorem dX11_setSide_16 : decode cX11_setSide 16 = .ok (.invokespecial 144, 3) := by decide +kernel
theorem dX11_setSide_19 : decode cX11_setSide 19 = .ok (.athrow, 1) := by decide +kernel
theorem dX11_setSide_20 : decode cX11_setSide 20 = .ok (.aload_n 0, 1) := by decide +kernel
theorem dX11_setSide_21 : decode cX11_setSide 21 = .ok (.invokevirtual 165, 3) := by decide +kernel
theorem dX11_setSide_24 : decode cX11_setSide 24 = .ok (.aload_n 0, 1) := by decide +kernel
theorem dX11_setSide_25 : decode cX11_setSide 25 = .ok (.getfield 28, 3) := by decide +kernel
theorem dX11_setSide_28 : decode cX11_setSide 28 = .ok (.getfield 175, 3) := by decide +kernel
theorem dX11_setSide_31 : decode cX11_setSide 31 = .ok (.istore_n 3, 1) := by decide +kernel
theorem dX11_setSide_32 : decode cX11_setSide 32 = .ok (.aload_n 0, 1) := by decide +kernel
theorem dX11_setSide_33 : decode cX11_setSide 33 = .ok (.getfield 28, 3) := by decide +kernel
theorem dX11_setSide_36 : decode cX11_setSide 36 = .ok (.iload_n 1, 1) := by decide +kernel
theorem dX11_setSide_37 : decode cX11_setSide 37 = .ok (.putfield 183, 3) := by decide +kernel
theorem dX11_setSide_40 : decode cX11_setSide 40 = .ok (.aload_n 0, 1) := by decide +kernel
theorem dX11_setSide_41 : decode cX11_setSide 41 = .ok (.getfield 28, 3) := by decide +kernel
theorem dX11_setSide_44 : decode cX11_setSide 44 = .ok (.iload_n 2, 1) := by decide +kernel
theorem dX11_setSide_45 : decode cX11_setSide 45 = .ok (.putfield 175, 3) := by decide +kernel
theorem dX11_setSide_48 : decode cX11_setSide 48 = .ok (.aload_n 0, 1) := by decide +kernel
theorem dX11_setSide_49 : decode cX11_setSide 49 = .ok (.getfield 28, 3) := by decide +kernel
theorem dX11_setSide_52 : decode cX11_setSide 52 = .ok (.iconst (-1), 1) := by decide +kernel
theorem dX11_setSide_53 : decode cX11_setSide 53 = .ok (.putfield 178, 3) := by decide +kernel
theorem dX11_setSide_56 : decode cX11_setSide 56 = .ok (.aload_n 0, 1) := by decide +kernel
theorem dX11_setSide_57 : decode cX11_setSide 57 = .ok (.getfield 40, 3) := by decide +kernel
theorem dX11_setSide_60 : decode cX11_setSide 60 = .ok (.aload_n 0, 1) := by decide +kernel
theorem dX11_setSide_61 : decode cX11_setSide 61 = .ok (.getfield 28, 3) := by decide +kernel
theorem dX11_setSide_64 : decode cX11_setSide 64 = .ok (.invokevirtual 130, 3) := by decide +kernel
theorem dX11_setSide_67 : decode cX11_setSide 67 = .ok (.iload_n 3, 1) := by decide +kernel
theorem dX11_setSide_68 : decode cX11_setSide 68 = .ok (.ireturn, 1) := by decide +kernel
theorem dX2_winsOf_0 : decode cX2_winsOf 0 = .ok (.aload_n 0, 1) := by decide +kernel
theorem dX2_winsOf_1 : decode cX2_winsOf 1 = .ok (.iload_n 1, 1) := by decide +kernel
theorem dX2_winsOf_2 : decode cX2_winsOf 2 = .ok (.invokevirtual 45, 3) := by decide +kernel
theorem dX2_winsOf_5 : decode cX2_winsOf 5 = .ok (.ifCond .eq 21, 3) := by decide +kernel
theorem dX2_winsOf_8 : decode cX2_winsOf 8 = .ok (.iload_n 1, 1) := by decide +kernel
theorem dX2_winsOf_9 : decode cX2_winsOf 9 = .ok (.aload_n 0, 1) := by decide +kernel
theorem dX2_winsOf_10 : decode cX2_winsOf 10 = .ok (.getfield 15, 3) := by decide +kernel
theorem dX2_winsOf_13 : decode cX2_winsOf 13 = .ok (.arraylength, 1) := by decide +kernel
theorem dX2_winsOf_14 : decode cX2_winsOf 14 = .ok (.if_icmp .ge 12, 3) := by decide +kernel
theorem dX2_winsOf_17 : decode cX2_winsOf 17 = .ok (.aload_n 0, 1) := by decide +kernel
theorem dX2_winsOf_18 : decode cX2_winsOf 18 = .ok (.getfield 15, 3) := by decide +kernel
theorem dX2_winsOf_21 : decode cX2_winsOf 21 = .ok (.iload_n 1, 1) := by decide +kernel
theorem dX2_winsOf_22 : decode cX2_winsOf 22 = .ok (.iaload, 1) := by decide +kernel
theorem dX2_winsOf_23 : decode cX2_winsOf 23 = .ok (.goto 4, 3) := by decide +kernel
theorem dX2_winsOf_26 : decode cX2_winsOf 26 = .ok (.iconst 0, 1) := by decide +kernel
theorem dX2_winsOf_27 : decode cX2_winsOf 27 = .ok (.ireturn, 1) := by decide +kernel
theorem dX2_isChecking_0 : decode cX2_isChecking 0 = .ok (.aload_n 0, 1) := by decide +kernel
theorem dX2_isChecking_1 : decode cX2_isChecking 1 = .ok (.getfield 35, 3) := by decide +kernel
theorem dX2_isChecking_4 : decode cX2_isChecking 4 = .ok (.iload_n 1, 1) := by decide +kernel
theorem dX2_isChecking_5 : decode cX2_isChecking 5 = .ok (.iload 4, 2) := by decide +kernel
theorem dX2_isChecking_7 : decode cX2_isChecking 7 = .ok (.lconst 1, 1) := by decide +kernel
theorem dX2_isChecking_8 : decode cX2_isChecking 8 = .ok (.iload_n 2, 1) := by decide +kernel
theorem dX2_isChecking_9 : decode cX2_isChecking 9 = .ok (.lshl, 1) := by decide +kernel
theorem dX2_isChecking_10 : decode cX2_isChecking 10 = .ok (.lconst 1, 1) := by decide +kernel
theorem dX2_isChecking_11 : decode cX2_isChecking 11 = .ok (.iload_n 3, 1) := by decide +kernel
theorem dX2_isChecking_12 : decode cX2_isChecking 12 = .ok (.lshl, 1) := by decide +kernel
theorem dX2_isChecking_13 : decode cX2_isChecking 13 = .ok (.lor, 1) := by decide +kernel
theorem dX2_isChecking_14 : decode cX2_isChecking 14 = .ok (.invokevirtual 130, 3) := by decide +kernel
theorem dX2_isChecking_17 : decode cX2_isChecking 17 = .ok (.iload_n 3, 1) := by decide +kernel
theorem dX2_isChecking_18 : decode cX2_isChecking 18 = .ok (.invokestatic 134, 3) := by decide +kernel
theorem dX2_isChecking_21 : decode cX2_isChecking 21 = .ok (.ireturn, 1) := by decide +kernel
theorem dX2_setValue_0 : decode cX2_setValue 0 = .ok (.iload_n 1, 1) := by decide +kernel
theorem dX2_setValue_1 : decode cX2_setValue 1 = .ok (.iconst 2, 1) := by decide +kernel
theorem dX2_setValue_2 : decode cX2_setValue 2 = .ok (.isub, 1) := by decide +kernel
theorem dX2_setValue_3 : decode cX2_setValue 3 = .ok (.sipush 31250, 3) := by decide +kernel
theorem dX2_setValue_6 : decode cX2_setValue 6 = .ok (.imul, 1) := by decide +kernel
theorem dX2_setValue_7 : decode cX2_setValue 7 = .ok (.iload_n 2, 1) := by decide +kernel
theorem dX2_setValue_8 : decode cX2_setValue 8 = .ok (.iadd, 1) := by decide +kernel
theorem dX2_setValue_9 : decode cX2_setValue 9 = .ok (.istore 4, 2) := by decide +kernel
theorem dX2_setValue_11 : decode cX2_setValue 11 = .ok (.iload_n 2, 1) := by decide +kernel
theorem dX2_setValue_12 : decode cX2_setValue 12 = .ok (.ifCond .lt 33, 3) := by decide +kernel
theorem dX2_setValue_15 : decode cX2_setValue 15 = .ok (.iload_n 2, 1) := by decide +kernel
theorem dX2_setValue_16 : decode cX2_setValue 16 = .ok (.sipush 31250, 3) := by decide +kernel
theorem dX2_setValue_19 : decode cX2_setValue 19 = .ok (.if_icmp .ge 26, 3) := by decide +kernel
theorem dX2_setValue_22 : decode cX2_setValue 22 = .ok (.iload 4, 2) := by decide +kernel
theorem dX2_setValue_24 : decode cX2_setValue 24 = .ok (.ifCond .lt 21, 3) := by decide +kernel
theorem dX2_setValue_27 : decode cX2_setValue 27 = .ok (.iload 4, 2) := by decide +kernel
theorem dX2_setValue_29 : decode cX2_setValue 29 = .ok (.aload_n 0, 1) := by decide +kernel
theorem dX2_setValue_30 : decode cX2_setValue 30 = .ok (.getfield 22, 3) := by decide +kernel
theorem dX2_setValue_33 : decode cX2_setValue 33 = .ok (.arraylength, 1) := by decide +kernel
theorem dX2_setValue_34 : decode cX2_setValue 34 = .ok (.if_icmp .ge 11, 3) := by decide +kernel
theorem dX2_setValue_37 : decode cX2_setValue 37 = .ok (.aload_n 0, 1) := by decide +kernel
theorem dX2_setValue_38 : decode cX2_setValue 38 = .ok (.getfield 22, 3) := by decide +kernel
theorem dX2_setValue_41 : decode cX2_setValue 41 = .ok (.iload 4, 2) := by decide +kernel
theorem dX2_setValue_43 : decode cX2_setValue 43 = .ok (.iload_n 3, 1) := by decide +kernel
theorem dX2_setValue_44 : decode cX2_setValue 44 = .ok (.iastore, 1) := by decide +kernel
theorem dX2_setValue_45 : decode cX2_setValue 45 = .ok (.return_, 1) := by decide +kernel
theorem dX2_win_0 : decode cX2_win 0 = .ok (.aload_n 0, 1) := by decide +kernel
theorem dX2_win_1 : decode cX2_win 1 = .ok (.getfield 31, 3) := by decide +kernel
theorem dX2_win_4 : decode cX2_win 4 = .ok (.ifCond .lt 42, 3) := by decide +kernel
theorem dX2_win_7 : decode cX2_win 7 = .ok (.aload_n 0, 1) := by decide +kernel
theorem dX2_win_8 : decode cX2_win 8 = .ok (.getfield 31, 3) := by decide +kernel
theorem dX2_win_11 : decode cX2_win 11 = .ok (.aload_n 0, 1) := by decide +kernel
theorem dX2_win_12 : decode cX2_win 12 = .ok (.getfield 25, 3) := by decide +kernel
theorem dX2_win_15 : decode cX2_win 15 = .ok (.arraylength, 1) := by decide +kernel
theorem dX2_win_16 : decode cX2_win 16 = .ok (.if_icmp .ge 30, 3) := by decide +kernel
theorem dX2_win_19 : decode cX2_win 19 = .ok (.aload_n 0, 1) := by decide +kernel
theorem dX2_win_20 : decode cX2_win 20 = .ok (.iload_n 1, 1) := by decide +kernel
theorem dX2_win_21 : decode cX2_win 21 = .ok (.iload_n 2, 1) := by decide +kernel
theorem dX2_win_22 : decode cX2_win 22 = .ok (.iload_n 3, 1) := by decide +kernel
theorem dX2_win_23 : decode cX2_win 23 = .ok (.invokevirtual 142, 3) := by decide +kernel
theorem dX2_win_26 : decode cX2_win 26 = .ok (.aload_n 0, 1) := by decide +kernel
theorem dX2_win_27 : decode cX2_win 27 = .ok (.getfield 25, 3) := by decide +kernel
theorem dX2_win_30 : decode cX2_win 30 = .ok (.aload_n 0, 1) := by decide +kernel
theorem dX2_win_31 : decode cX2_win 31 = .ok (.getfield 31, 3) := by decide +kernel
theorem dX2_win_34 : decode cX2_win 34 = .ok (.iload_n 2, 1) := by decide +kernel
theorem dX2_win_35 : decode cX2_win 35 = .ok (.iastore, 1) := by decide +kernel
theorem dX2_win_36 : decode cX2_win 36 = .ok (.aload_n 0, 1) := by decide +kernel
theorem dX2_win_37 : decode cX2_win 37 = .ok (.dup, 1) := by decide +kernel
theorem dX2_win_38 : decode cX2_win 38 = .ok (.getfield 31, 3) := by decide +kernel
theorem dX2_win_41 : decode cX2_win 41 = .ok (.iconst 1, 1) := by decide +kernel
theorem dX2_win_42 : decode cX2_win 42 = .ok (.iadd, 1) := by decide +kernel
theorem dX2_win_43 : decode cX2_win 43 = .ok (.putfield 31, 3) := by decide +kernel
theorem dX2_win_46 : decode cX2_win 46 = .ok (.return_, 1) := by decide +kernel
theorem dX2_countMovesOfBlack_0 : decode cX2_countMovesOfBlack 0 = .ok (.iconst 0, 1) := by decide +kernel
theorem dX2_countMovesOfBlack_1 : decode cX2_countMovesOfBlack 1 = .ok (.iload_n 2, 1) := by decide +kernel
theorem dX2_countMovesOfBlack_2 : decode cX2_countMovesOfBlack 2 = .ok (.iload_n 3, 1) := by decide +kernel
theorem dX2_countMovesOfBlack_3 : decode cX2_countMovesOfBlack 3 = .ok (.iload 4, 2) := by decide +kernel
theorem dX2_countMovesOfBlack_5 : decode cX2_countMovesOfBlack 5 = .ok (.invokestatic 96, 3) := by decide +kernel
theorem dX2_countMovesOfBlack_8 : decode cX2_countMovesOfBlack 8 = .ok (.istore 5, 2) := by decide +kernel
theorem dX2_countMovesOfBlack_10 : decode cX2_countMovesOfBlack 10 = .ok (.aload_n 0, 1) := by decide +kernel
theorem dX2_countMovesOfBlack_11 : decode cX2_countMovesOfBlack 11 = .ok (.iload_n 1, 1) := by decide +kernel
theorem dX2_countMovesOfBlack_12 : decode cX2_countMovesOfBlack 12 = .ok (.iload 5, 2) := by decide +kernel
theorem dX2_countMovesOfBlack_14 : decode cX2_countMovesOfBlack 14 = .ok (.invokevirtual 100, 3) := by decide +kernel
theorem dX2_countMovesOfBlack_17 : decode cX2_countMovesOfBlack 17 = .ok (.bipush (-2), 2) := by decide +kernel
theorem dX2_countMovesOfBlack_19 : decode cX2_countMovesOfBlack 19 = .ok (.if_icmp .eq 18, 3) := by decide +kernel
theorem dX2_countMovesOfBlack_22 : decode cX2_countMovesOfBlack 22 = .ok (.iload 5, 2) := by decide +kernel
theorem dX2_countMovesOfBlack_24 : decode cX2_countMovesOfBlack 24 = .ok (.ifCond .lt 13, 3) := by decide +kernel
theorem dX2_countMovesOfBlack_27 : decode cX2_countMovesOfBlack 27 = .ok (.iload 5, 2) := by decide +kernel
theorem dX2_countMovesOfBlack_29 : decode cX2_countMovesOfBlack 29 = .ok (.aload_n 0, 1) := by decide +kernel
theorem dX2_countMovesOfBlack_30 : decode cX2_countMovesOfBlack 30 = .ok (.getfield 28, 3) := by decide +kernel
theorem dX2_countMovesOfBlack_33 : decode cX2_countMovesOfBlack 33 = .ok (.arraylength, 1) := by decide +kernel
theorem dX2_countMovesOfBlack_34 : decode cX2_countMovesOfBlack 34 = .ok (.if_icmp .lt 4, 3) := by decide +kernel
theorem dX2_countMovesOfBlack_37 : decode cX2_countMovesOfBlack 37 = .ok (.return_, 1) := by decide +kernel
theorem dX2_countMovesOfBlack_38 : decode cX2_countMovesOfBlack 38 = .ok (.aload_n 0, 1) := by decide +kernel
theorem dX2_countMovesOfBlack_39 : decode cX2_countMovesOfBlack 39 = .ok (.getfield 35, 3) := by decide +kernel
theorem dX2_countMovesOfBlack_42 : decode cX2_countMovesOfBlack 42 = .ok (.iconst 1, 1) := by decide +kernel
theorem dX2_countMovesOfBlack_43 : decode cX2_countMovesOfBlack 43 = .ok (.iload_n 3, 1) := by decide +kernel
theorem dX2_countMovesOfBlack_44 : decode cX2_countMovesOfBlack 44 = .ok (.lconst 0, 1) := by decide +kernel
theorem dX2_countMovesOfBlack_45 : decode cX2_countMovesOfBlack 45 = .ok (.invokevirtual 130, 3) := by decide +kernel
theorem dX2_countMovesOfBlack_48 : decode cX2_countMovesOfBlack 48 = .ok (.lstore 6, 2) := by decide +kernel
theorem dX2_countMovesOfBlack_50 : decode cX2_countMovesOfBlack 50 = .ok (.iconst 0, 1) := by decide +kernel
theorem dX2_countMovesOfBlack_51 : decode cX2_countMovesOfBlack 51 = .ok (.istore 8, 2) := by decide +kernel
theorem dX2_countMovesOfBlack_53 : decode cX2_countMovesOfBlack 53 = .ok (.iconst 0, 1) := by decide +kernel
theorem dX2_countMovesOfBlack_54 : decode cX2_countMovesOfBlack 54 = .ok (.istore 9, 2) := by decide +kernel
theorem dX2_countMovesOfBlack_56 : decode cX2_countMovesOfBlack 56 = .ok (.iload 9, 2) := by decide +kernel
theorem dX2_countMovesOfBlack_58 : decode cX2_countMovesOfBlack 58 = .ok (.aload_n 0, 1) := by decide +kernel
theorem dX2_countMovesOfBlack_59 : decode cX2_countMovesOfBlack 59 = .ok (.getfield 35, 3) := by decide +kernel
theorem dX2_countMovesOfBlack_62 : decode cX2_countMovesOfBlack 62 = .ok (.getfield 104, 3) := by decide +kernel
theorem dX2_countMovesOfBlack_65 : decode cX2_countMovesOfBlack 65 = .ok (.if_icmp .ge 41, 3) := by decide +kernel
theorem dX2_countMovesOfBlack_68 : decode cX2_countMovesOfBlack 68 = .ok (.lload 6, 2) := by decide +kernel
theorem dX2_countMovesOfBlack_70 : decode cX2_countMovesOfBlack 70 = .ok (.iload 9, 2) := by decide +kernel
theorem dX2_countMovesOfBlack_72 : decode cX2_countMovesOfBlack 72 = .ok (.invokestatic 134, 3) := by decide +kernel
theorem dX2_countMovesOfBlack_75 : decode cX2_countMovesOfBlack 75 = .ok (.ifCond .eq 25, 3) := by decide +kernel
theorem dX2_countMovesOfBlack_78 : decode cX2_countMovesOfBlack 78 = .ok (.aload_n 0, 1) := by decide +kernel
theorem dX2_countMovesOfBlack_79 : decode cX2_countMovesOfBlack 79 = .ok (.iload_n 1, 1) := by decide +kernel
theorem dX2_countMovesOfBlack_80 : decode cX2_countMovesOfBlack 80 = .ok (.iconst 1, 1) := by decide +kernel
theorem dX2_countMovesOfBlack_81 : decode cX2_countMovesOfBlack 81 = .ok (.iload_n 2, 1) := by decide +kernel
theorem dX2_countMovesOfBlack_82 : decode cX2_countMovesOfBlack 82 = .ok (.iload 9, 2) := by decide +kernel
theorem dX2_countMovesOfBlack_84 : decode cX2_countMovesOfBlack 84 = .ok (.iload 4, 2) := by decide +kernel
theorem dX2_countMovesOfBlack_86 : decode cX2_countMovesOfBlack 86 = .ok (.invokestatic 96, 3) := by decide +kernel
theorem dX2_countMovesOfBlack_89 : decode cX2_countMovesOfBlack 89 = .ok (.invokevirtual 100, 3) := by decide +kernel
theorem dX2_countMovesOfBlack_92 : decode cX2_countMovesOfBlack 92 = .ok (.bipush (-2), 2) := by decide +kernel
theorem dX2_countMovesOfBlack_94 : decode cX2_countMovesOfBlack 94 = .ok (.if_icmp .eq 6, 3) := by decide +kernel
theorem dX2_countMovesOfBlack_97 : decode cX2_countMovesOfBlack 97 = .ok (.iinc 8 1, 3) := by decide +kernel
theorem dX2_countMovesOfBlack_100 : decode cX2_countMovesOfBlack 100 = .ok (.iinc 9 1, 3) := by decide +kernel
theorem dX2_countMovesOfBlack_103 : decode cX2_countMovesOfBlack 103 = .ok (.goto (-47), 3) := by decide +kernel
theorem dX2_countMovesOfBlack_106 : decode cX2_countMovesOfBlack 106 = .ok (.lload 6, 2) := by decide +kernel
theorem dX2_countMovesOfBlack_108 : decode cX2_countMovesOfBlack 108 = .ok (.iload 4, 2) := by decide +kernel
theorem dX2_countMovesOfBlack_110 : decode cX2_countMovesOfBlack 110 = .ok (.invokestatic 134, 3) := by decide +kernel
theorem dX2_countMovesOfBlack_113 : decode cX2_countMovesOfBlack 113 = .ok (.ifCond .eq 25, 3) := by decide +kernel
theorem dX2_countMovesOfBlack_116 : decode cX2_countMovesOfBlack 116 = .ok (.aload_n 0, 1) := by decide +kernel
theorem dX2_countMovesOfBlack_117 : decode cX2_countMovesOfBlack 117 = .ok (.getfield 35, 3) := by decide +kernel
theorem dX2_countMovesOfBlack_120 : decode cX2_countMovesOfBlack 120 = .ok (.iconst 1, 1) := by decide +kernel
theorem dX2_countMovesOfBlack_121 : decode cX2_countMovesOfBlack 121 = .ok (.iload_n 2, 1) := by decide +kernel
theorem dX2_countMovesOfBlack_122 : decode cX2_countMovesOfBlack 122 = .ok (.lconst 0, 1) := by decide +kernel
theorem dX2_countMovesOfBlack_123 : decode cX2_countMovesOfBlack 123 = .ok (.invokevirtual 130, 3) := by decide +kernel
theorem dX2_countMovesOfBlack_126 : decode cX2_countMovesOfBlack 126 = .ok (.iload 4, 2) := by decide +kernel
theorem dX2_countMovesOfBlack_128 : decode cX2_countMovesOfBlack 128 = .ok (.invokestatic 134, 3) := by decide +kernel
theorem dX2_countMovesOfBlack_131 : decode cX2_countMovesOfBlack 131 = .ok (.ifCond .ne 7, 3) := by decide +kernel
theorem dX2_countMovesOfBlack_134 : decode cX2_countMovesOfBlack 134 = .ok (.bipush 100, 2) := by decide +kernel
theorem dX2_countMovesOfBlack_136 : decode cX2_countMovesOfBlack 136 = .ok (.istore 8, 2) := by decide +kernel
theorem dX2_countMovesOfBlack_138 : decode cX2_countMovesOfBlack 138 = .ok (.aload_n 0, 1) := by decide +kernel
theorem dX2_countMovesOfBlack_139 : decode cX2_countMovesOfBlack 139 = .ok (.getfield 28, 3) := by decide +kernel
theorem dX2_countMovesOfBlack_142 : decode cX2_countMovesOfBlack 142 = .ok (.iload 5, 2) := by decide +kernel
theorem dX2_countMovesOfBlack_144 : decode cX2_countMovesOfBlack 144 = .ok (.iload 8, 2) := by decide +kernel
theorem dX2_countMovesOfBlack_146 : decode cX2_countMovesOfBlack 146 = .ok (.iastore, 1) := by decide +kernel
theorem dX2_countMovesOfBlack_147 : decode cX2_countMovesOfBlack 147 = .ok (.iload 8, 2) := by decide +kernel
theorem dX2_countMovesOfBlack_149 : decode cX2_countMovesOfBlack 149 = .ok (.ifCond .ne 23, 3) := by decide +kernel
theorem dX2_countMovesOfBlack_152 : decode cX2_countMovesOfBlack 152 = .ok (.aload_n 0, 1) := by decide +kernel
theorem dX2_countMovesOfBlack_153 : decode cX2_countMovesOfBlack 153 = .ok (.iload_n 1, 1) := by decide +kernel
theorem dX2_countMovesOfBlack_154 : decode cX2_countMovesOfBlack 154 = .ok (.iload_n 2, 1) := by decide +kernel
theorem dX2_countMovesOfBlack_155 : decode cX2_countMovesOfBlack 155 = .ok (.iload_n 3, 1) := by decide +kernel
theorem dX2_countMovesOfBlack_156 : decode cX2_countMovesOfBlack 156 = .ok (.iload 4, 2) := by decide +kernel
theorem dX2_countMovesOfBlack_158 : decode cX2_countMovesOfBlack 158 = .ok (.invokevirtual 138, 3) := by decide +kernel
theorem dX2_countMovesOfBlack_161 : decode cX2_countMovesOfBlack 161 = .ok (.ifCond .eq 11, 3) := by decide +kernel
theorem dX2_countMovesOfBlack_164 : decode cX2_countMovesOfBlack 164 = .ok (.aload_n 0, 1) := by decide +kernel
theorem dX2_countMovesOfBlack_165 : decode cX2_countMovesOfBlack 165 = .ok (.iload_n 1, 1) := by decide +kernel
theorem dX2_countMovesOfBlack_166 : decode cX2_countMovesOfBlack 166 = .ok (.iload 5, 2) := by decide +kernel
theorem dX2_countMovesOfBlack_168 : decode cX2_countMovesOfBlack 168 = .ok (.iconst 0, 1) := by decide +kernel
theorem dX2_countMovesOfBlack_169 : decode cX2_countMovesOfBlack 169 = .ok (.invokevirtual 146, 3) := by decide +kernel
theorem dX2_countMovesOfBlack_172 : decode cX2_countMovesOfBlack 172 = .ok (.return_, 1) := by decide +kernel
theorem dX2_mark_0 : decode cX2_mark 0 = .ok (.iload_n 2, 1) := by decide +kernel
theorem dX2_mark_1 : decode cX2_mark 1 = .ok (.iload_n 3, 1) := by decide +kernel
theorem dX2_mark_2 : decode cX2_mark 2 = .ok (.if_icmp .eq 36, 3) := by decide +kernel
theorem dX2_mark_5 : decode cX2_mark 5 = .ok (.iload_n 2, 1) := by decide +kernel
theorem dX2_mark_6 : decode cX2_mark 6 = .ok (.iload 4, 2) := by decide +kernel
theorem dX2_mark_8 : decode cX2_mark 8 = .ok (.if_icmp .eq 30, 3) := by decide +kernel
theorem dX2_mark_11 : decode cX2_mark 11 = .ok (.iload_n 3, 1) := by decide +kernel
theorem dX2_mark_12 : decode cX2_mark 12 = .ok (.iload 4, 2) := by decide +kernel
theorem dX2_mark_14 : decode cX2_mark 14 = .ok (.if_icmp .eq 24, 3) := by decide +kernel
theorem dX2_mark_17 : decode cX2_mark 17 = .ok (.aload_n 0, 1) := by decide +kernel
theorem dX2_mark_18 : decode cX2_mark 18 = .ok (.getfield 35, 3) := by decide +kernel
theorem dX2_mark_21 : decode cX2_mark 21 = .ok (.iconst 1, 1) := by decide +kernel
theorem dX2_mark_22 : decode cX2_mark 22 = .ok (.iload_n 2, 1) := by decide +kernel
theorem dX2_mark_23 : decode cX2_mark 23 = .ok (.lconst 0, 1) := by decide +kernel
theorem dX2_mark_24 : decode cX2_mark 24 = .ok (.invokevirtual 130, 3) := by decide +kernel
theorem dX2_mark_27 : decode cX2_mark 27 = .ok (.iload_n 3, 1) := by decide +kernel
theorem dX2_mark_28 : decode cX2_mark 28 = .ok (.invokestatic 134, 3) := by decide +kernel
theorem dX2_mark_31 : decode cX2_mark 31 = .ok (.ifCond .ne 7, 3) := by decide +kernel
theorem dX2_mark_34 : decode cX2_mark 34 = .ok (.iconst 1, 1) := by decide +kernel
theorem dX2_mark_35 : decode cX2_mark 35 = .ok (.goto 4, 3) := by decide +kernel
theorem dX2_mark_38 : decode cX2_mark 38 = .ok (.iconst 0, 1) := by decide +kernel
theorem dX2_mark_39 : decode cX2_mark 39 = .ok (.istore 5, 2) := by decide +kernel
theorem dX2_mark_41 : decode cX2_mark 41 = .ok (.iload 5, 2) := by decide +kernel
theorem dX2_mark_43 : decode cX2_mark 43 = .ok (.ifCond .eq 19, 3) := by decide +kernel
theorem dX2_mark_46 : decode cX2_mark 46 = .ok (.aload_n 0, 1) := by decide +kernel
theorem dX2_mark_47 : decode cX2_mark 47 = .ok (.iload_n 1, 1) := by decide +kernel
theorem dX2_mark_48 : decode cX2_mark 48 = .ok (.iload_n 2, 1) := by decide +kernel
theorem dX2_mark_49 : decode cX2_mark 49 = .ok (.iload_n 3, 1) := by decide +kernel
theorem dX2_mark_50 : decode cX2_mark 50 = .ok (.iload 4, 2) := by decide +kernel
theorem dX2_mark_52 : decode cX2_mark 52 = .ok (.invokevirtual 138, 3) := by decide +kernel
theorem dX2_mark_55 : decode cX2_mark 55 = .ok (.ifCond .eq 7, 3) := by decide +kernel
theorem dX2_mark_58 : decode cX2_mark 58 = .ok (.iconst 1, 1) := by decide +kernel
theorem dX2_mark_59 : decode cX2_mark 59 = .ok (.goto 4, 3) := by decide +kernel
theorem dX2_mark_62 : decode cX2_mark 62 = .ok (.iconst 0, 1) := by decide +kernel
theorem dX2_mark_63 : decode cX2_mark 63 = .ok (.istore 6, 2) := by decide +kernel
theorem dX2_mark_65 : decode cX2_mark 65 = .ok (.aload_n 0, 1) := by decide +kernel
theorem dX2_mark_66 : decode cX2_mark 66 = .ok (.iload_n 1, 1) := by decide +kernel
theorem dX2_mark_67 : decode cX2_mark 67 = .ok (.iconst 0, 1) := by decide +kernel
theorem dX2_mark_68 : decode cX2_mark 68 = .ok (.iload_n 2, 1) := by decide +kernel
theorem dX2_mark_69 : decode cX2_mark 69 = .ok (.iload_n 3, 1) := by decide +kernel
theorem dX2_mark_70 : decode cX2_mark 70 = .ok (.iload 4, 2) := by decide +kernel
theorem dX2_mark_72 : decode cX2_mark 72 = .ok (.invokestatic 96, 3) := by decide +kernel
theorem dX2_mark_75 : decode cX2_mark 75 = .ok (.iload 5, 2) := by decide +kernel
theorem dX2_mark_77 : decode cX2_mark 77 = .ok (.ifCond .eq 7, 3) := by decide +kernel
theorem dX2_mark_80 : decode cX2_mark 80 = .ok (.iconst (-1), 1) := by decide +kernel
theorem dX2_mark_81 : decode cX2_mark 81 = .ok (.goto 5, 3) := by decide +kernel
theorem dX2_mark_84 : decode cX2_mark 84 = .ok (.bipush (-2), 2) := by decide +kernel
theorem dX2_mark_86 : decode cX2_mark 86 = .ok (.invokevirtual 142, 3) := by decide +kernel
theorem dX2_mark_89 : decode cX2_mark 89 = .ok (.aload_n 0, 1) := by decide +kernel
theorem dX2_mark_90 : decode cX2_mark 90 = .ok (.iload_n 1, 1) := by decide +kernel
theorem dX2_mark_91 : decode cX2_mark 91 = .ok (.iconst 1, 1) := by decide +kernel
theorem dX2_mark_92 : decode cX2_mark 92 = .ok (.iload_n 2, 1) := by decide +kernel
theorem dX2_mark_93 : decode cX2_mark 93 = .ok (.iload_n 3, 1) := by decide +kernel
theorem dX2_mark_94 : decode cX2_mark 94 = .ok (.iload 4, 2) := by decide +kernel
theorem dX2_mark_96 : decode cX2_mark 96 = .ok (.invokestatic 96, 3) := by decide +kernel
theorem dX2_mark_99 : decode cX2_mark 99 = .ok (.iload 5, 2) := by decide +kernel
theorem dX2_mark_101 : decode cX2_mark 101 = .ok (.ifCond .eq 12, 3) := by decide +kernel
theorem dX2_mark_104 : decode cX2_mark 104 = .ok (.iload 6, 2) := by decide +kernel
theorem dX2_mark_106 : decode cX2_mark 106 = .ok (.ifCond .ne 7, 3) := by decide +kernel
theorem dX2_mark_109 : decode cX2_mark 109 = .ok (.iconst (-1), 1) := by decide +kernel
theorem dX2_mark_110 : decode cX2_mark 110 = .ok (.goto 5, 3) := by decide +kernel
theorem dX2_mark_113 : decode cX2_mark 113 = .ok (.bipush (-2), 2) := by decide +kernel
theorem dX2_mark_115 : decode cX2_mark 115 = .ok (.invokevirtual 142, 3) := by decide +kernel
theorem dX2_mark_118 : decode cX2_mark 118 = .ok (.return_, 1) := by decide +kernel
theorem dX2_forEachPlace_0 : decode cX2_forEachPlace 0 = .ok (.aload_n 0, 1) := by decide +kernel
theorem dX2_forEachPlace_1 : decode cX2_forEachPlace 1 = .ok (.getfield 35, 3) := by decide +kernel
theorem dX2_forEachPlace_4 : decode cX2_forEachPlace 4 = .ok (.getfield 104, 3) := by decide +kernel
theorem dX2_forEachPlace_7 : decode cX2_forEachPlace 7 = .ok (.bipush 25, 2) := by decide +kernel
theorem dX2_forEachPlace_9 : decode cX2_forEachPlace 9 = .ok (.invokestatic 118, 3) := by decide +kernel
theorem dX2_forEachPlace_12 : decode cX2_forEachPlace 12 = .ok (.istore_n 3, 1) := by decide +kernel
theorem dX2_forEachPlace_13 : decode cX2_forEachPlace 13 = .ok (.iconst 0, 1) := by decide +kernel
theorem dX2_forEachPlace_14 : decode cX2_forEachPlace 14 = .ok (.istore 4, 2) := by decide +kernel
theorem dX2_forEachPlace_16 : decode cX2_forEachPlace 16 = .ok (.iload 4, 2) := by decide +kernel
theorem dX2_forEachPlace_18 : decode cX2_forEachPlace 18 = .ok (.iload_n 3, 1) := by decide +kernel
theorem dX2_forEachPlace_19 : decode cX2_forEachPlace 19 = .ok (.if_icmp .ge 68, 3) := by decide +kernel
theorem dX2_forEachPlace_22 : decode cX2_forEachPlace 22 = .ok (.iconst 0, 1) := by decide +kernel
theorem dX2_forEachPlace_23 : decode cX2_forEachPlace 23 = .ok (.istore 5, 2) := by decide +kernel
theorem dX2_forEachPlace_25 : decode cX2_forEachPlace 25 = .ok (.iload 5, 2) := by decide +kernel
theorem dX2_forEachPlace_27 : decode cX2_forEachPlace 27 = .ok (.iload_n 3, 1) := by decide +kernel
theorem dX2_forEachPlace_28 : decode cX2_forEachPlace 28 = .ok (.if_icmp .ge 53, 3) := by decide +kernel
theorem dX2_forEachPlace_31 : decode cX2_forEachPlace 31 = .ok (.iconst 0, 1) := by decide +kernel
theorem dX2_forEachPlace_32 : decode cX2_forEachPlace 32 = .ok (.istore 6, 2) := by decide +kernel
theorem dX2_forEachPlace_34 : decode cX2_forEachPlace 34 = .ok (.iload 6, 2) := by decide +kernel
theorem dX2_forEachPlace_36 : decode cX2_forEachPlace 36 = .ok (.iload_n 3, 1) := by decide +kernel
theorem dX2_forEachPlace_37 : decode cX2_forEachPlace 37 = .ok (.if_icmp .ge 38, 3) := by decide +kernel
theorem dX2_forEachPlace_40 : decode cX2_forEachPlace 40 = .ok (.iload_n 2, 1) := by decide +kernel
theorem dX2_forEachPlace_41 : decode cX2_forEachPlace 41 = .ok (.ifCond .eq 17, 3) := by decide +kernel
theorem dX2_forEachPlace_44 : decode cX2_forEachPlace 44 = .ok (.aload_n 0, 1) := by decide +kernel
theorem dX2_forEachPlace_45 : decode cX2_forEachPlace 45 = .ok (.iload_n 1, 1) := by decide +kernel
theorem dX2_forEachPlace_46 : decode cX2_forEachPlace 46 = .ok (.iload 4, 2) := by decide +kernel
theorem dX2_forEachPlace_48 : decode cX2_forEachPlace 48 = .ok (.iload 5, 2) := by decide +kernel
theorem dX2_forEachPlace_50 : decode cX2_forEachPlace 50 = .ok (.iload 6, 2) := by decide +kernel
theorem dX2_forEachPlace_52 : decode cX2_forEachPlace 52 = .ok (.invokevirtual 123, 3) := by decide +kernel
theorem dX2_forEachPlace_55 : decode cX2_forEachPlace 55 = .ok (.goto 14, 3) := by decide +kernel
theorem dX2_forEachPlace_58 : decode cX2_forEachPlace 58 = .ok (.aload_n 0, 1) := by decide +kernel
theorem dX2_forEachPlace_59 : decode cX2_forEachPlace 59 = .ok (.iload_n 1, 1) := by decide +kernel
theorem dX2_forEachPlace_60 : decode cX2_forEachPlace 60 = .ok (.iload 4, 2) := by decide +kernel
theorem dX2_forEachPlace_62 : decode cX2_forEachPlace 62 = .ok (.iload 5, 2) := by decide +kernel
theorem dX2_forEachPlace_64 : decode cX2_forEachPlace 64 = .ok (.iload 6, 2) := by decide +kernel
theorem dX2_forEachPlace_66 : decode cX2_forEachPlace 66 = .ok (.invokevirtual 127, 3) := by decide +kernel
theorem dX2_forEachPlace_69 : decode cX2_forEachPlace 69 = .ok (.iinc 6 1, 3) := by decide +kernel
theorem dX2_forEachPlace_72 : decode cX2_forEachPlace 72 = .ok (.goto (-38), 3) := by decide +kernel
theorem dX2_forEachPlace_75 : decode cX2_forEachPlace 75 = .ok (.iinc 5 1, 3) := by decide +kernel
theorem dX2_forEachPlace_78 : decode cX2_forEachPlace 78 = .ok (.goto (-53), 3) := by decide +kernel
theorem dX2_forEachPlace_81 : decode cX2_forEachPlace 81 = .ok (.iinc 4 1, 3) := by decide +kernel
theorem dX2_forEachPlace_84 : decode cX2_forEachPlace 84 = .ok (.goto (-68), 3) := by decide +kernel
theorem dX2_forEachPlace_87 : decode cX2_forEachPlace 87 = .ok (.return_, 1) := by decide +kernel
theorem dX2_loseMove_0 : decode cX2_loseMove 0 = .ok (.aload_n 0, 1) := by decide +kernel
theorem dX2_loseMove_1 : decode cX2_loseMove 1 = .ok (.iload_n 1, 1) := by decide +kernel
theorem dX2_loseMove_2 : decode cX2_loseMove 2 = .ok (.iload_n 2, 1) := by decide +kernel
theorem dX2_loseMove_3 : decode cX2_loseMove 3 = .ok (.invokevirtual 100, 3) := by decide +kernel
theorem dX2_loseMove_6 : decode cX2_loseMove 6 = .ok (.iconst (-1), 1) := by decide +kernel
theorem dX2_loseMove_7 : decode cX2_loseMove 7 = .ok (.if_icmp .ne 16, 3) := by decide +kernel
theorem dX2_loseMove_10 : decode cX2_loseMove 10 = .ok (.iload_n 2, 1) := by decide +kernel
theorem dX2_loseMove_11 : decode cX2_loseMove 11 = .ok (.ifCond .lt 12, 3) := by decide +kernel
theorem dX2_loseMove_14 : decode cX2_loseMove 14 = .ok (.iload_n 2, 1) := by decide +kernel
theorem dX2_loseMove_15 : decode cX2_loseMove 15 = .ok (.aload_n 0, 1) := by decide +kernel
theorem dX2_loseMove_16 : decode cX2_loseMove 16 = .ok (.getfield 28, 3) := by decide +kernel
theorem dX2_loseMove_19 : decode cX2_loseMove 19 = .ok (.arraylength, 1) := by decide +kernel
theorem dX2_loseMove_20 : decode cX2_loseMove 20 = .ok (.if_icmp .lt 4, 3) := by decide +kernel
theorem dX2_loseMove_23 : decode cX2_loseMove 23 = .ok (.return_, 1) := by decide +kernel
theorem dX2_loseMove_24 : decode cX2_loseMove 24 = .ok (.aload_n 0, 1) := by decide +kernel
theorem dX2_loseMove_25 : decode cX2_loseMove 25 = .ok (.getfield 28, 3) := by decide +kernel
theorem dX2_loseMove_28 : decode cX2_loseMove 28 = .ok (.iload_n 2, 1) := by decide +kernel
theorem dX2_loseMove_29 : decode cX2_loseMove 29 = .ok (.dup2, 1) := by decide +kernel
theorem dX2_loseMove_30 : decode cX2_loseMove 30 = .ok (.iaload, 1) := by decide +kernel
theorem dX2_loseMove_31 : decode cX2_loseMove 31 = .ok (.iconst 1, 1) := by decide +kernel
theorem dX2_loseMove_32 : decode cX2_loseMove 32 = .ok (.isub, 1) := by decide +kernel
theorem dX2_loseMove_33 : decode cX2_loseMove 33 = .ok (.iastore, 1) := by decide +kernel
theorem dX2_loseMove_34 : decode cX2_loseMove 34 = .ok (.aload_n 0, 1) := by decide +kernel
theorem dX2_loseMove_35 : decode cX2_loseMove 35 = .ok (.getfield 28, 3) := by decide +kernel
theorem dX2_loseMove_38 : decode cX2_loseMove 38 = .ok (.iload_n 2, 1) := by decide +kernel
theorem dX2_loseMove_39 : decode cX2_loseMove 39 = .ok (.iaload, 1) := by decide +kernel
theorem dX2_loseMove_40 : decode cX2_loseMove 40 = .ok (.ifCond .ne 10, 3) := by decide +kernel
theorem dX2_loseMove_43 : decode cX2_loseMove 43 = .ok (.aload_n 0, 1) := by decide +kernel
theorem dX2_loseMove_44 : decode cX2_loseMove 44 = .ok (.iload_n 1, 1) := by decide +kernel
theorem dX2_loseMove_45 : decode cX2_loseMove 45 = .ok (.iload_n 2, 1) := by decide +kernel
theorem dX2_loseMove_46 : decode cX2_loseMove 46 = .ok (.iload_n 3, 1) := by decide +kernel
theorem dX2_loseMove_47 : decode cX2_loseMove 47 = .ok (.invokevirtual 146, 3) := by decide +kernel
theorem dX2_loseMove_50 : decode cX2_loseMove 50 = .ok (.return_, 1) := by decide +kernel
def wp_X5_lineMove_23 (D : wD) (post : Int32 → wS → Prop)  (S : wS) (t0 : Int32) : Prop :=
post t0 S
def wp_X5_lineMove_22 (D : wD) (post : Int32 → wS → Prop)  (S : wS) : Prop :=
wp_X5_lineMove_23 D post S (0 : Int32)
def wp_X5_lineMove_0 (D : wD) (post : Int32 → wS → Prop)  (S : wS) (a0 : Nat) (x1 : Int32) : Prop :=
((x1 < 0 → wp_X5_lineMove_22 D post S) ∧
 (¬ x1 < 0 → ∃ y_2 : Nat, sR S a0 5 = some y_2 ∧ wM D S y_2 ∧ sK S y_2 = 21 ∧
(((Int32.ofNat (sN S y_2)) ≤ x1 → wp_X5_lineMove_22 D post S) ∧
 (¬ (Int32.ofNat (sN S y_2)) ≤ x1 → ∃ y_4 : Nat, sR S a0 5 = some y_4 ∧ wM D S y_4 ∧ sK S y_4 = 21 ∧
vp_in x1 (sN S y_4) ∧
wp_X5_lineMove_23 D post S (sI S y_4 (x1).toNatClampNeg)))))
abbrev r_X5_lineMove : Room := { frames := 0, cells := 0, slots := 0, locals := 0 }
def wp_X5_lineMove (D : wD) (post : Int32 → wS → Prop) (S : wS) (a0 : Nat) (x1 : Int32) : Prop := wp_X5_lineMove_0 D post S a0 x1
set_option maxHeartbeats 4000000 in
set_option maxRecDepth 100000 in
theorem t_X5_lineMove_23 {p : Program} {l : Launch} {e : Env} {s : State} {m : MethodId} {args : Array Value} {below : List Frame} {meth : Method} {c : Code} {D : wD} {cy : Nat → ClassId} {X : va_W} {A : Nat → Prop} {S0 : wS} {post : Int32 → wS → Prop} (F : CallFix p m c cX5_lineMove 2 s args wz_X5_lineMove RX5) (hr : meth.sig.returnType = (some .int)) (hlocks : meth.locks = false) (hK : wK D cy A s) : ∀ {S : wS} {H : Heap} {locs : List Loc} {ls : Array Slot} {t0 : Int32}, wp_X5_lineMove_23 D post S t0 → wO D cy X A s.heap S H locs → wX D S0 S → lv_has ls 2 [] → W p l e r_X5_lineMove s m args below meth c H locs 0 0 (MQ below (va_Qi (fun r S9 => wX D S0 S9 ∧ post r S9) (wB D cy X A) A) args s 0 0 A) (F0 m 23 ls [.int t0]) := by
  obtain ⟨hx, hb, hml, hown, hts⟩ := id F
  have hwg : ∀ w ∈ WG, w.before args s = true := fun w h => hts w (List.mem_cons_of_mem _ h)
  intro S H locs ls t0 hp hW hE hl
  unfold wp_X5_lineMove_23 at hp
  exact w_iret hx hb hr hlocks hW ⟨hE, hp⟩ dX5_lineMove_23
set_option maxHeartbeats 4000000 in
set_option maxRecDepth 100000 in
theorem t_X5_lineMove_22 {p : Program} {l : Launch} {e : Env} {s : State} {m : MethodId} {args : Array Value} {below : List Frame} {meth : Method} {c : Code} {D : wD} {cy : Nat → ClassId} {X : va_W} {A : Nat → Prop} {S0 : wS} {post : Int32 → wS → Prop} (F : CallFix p m c cX5_lineMove 2 s args wz_X5_lineMove RX5) (hr : meth.sig.returnType = (some .int)) (hlocks : meth.locks = false) (hK : wK D cy A s) : ∀ {S : wS} {H : Heap} {locs : List Loc} {ls : Array Slot}, wp_X5_lineMove_22 D post S → wO D cy X A s.heap S H locs → wX D S0 S → lv_has ls 2 [] → W p l e r_X5_lineMove s m args below meth c H locs 0 0 (MQ below (va_Qi (fun r S9 => wX D S0 S9 ∧ post r S9) (wB D cy X A) A) args s 0 0 A) (F0 m 22 ls []) := by
  obtain ⟨hx, hb, hml, hown, hts⟩ := id F
  have hwg : ∀ w ∈ WG, w.before args s = true := fun w h => hts w (List.mem_cons_of_mem _ h)
  intro S H locs ls hp hW hE hl
  unfold wp_X5_lineMove_22 at hp
  refine lv_iconst (v := 0) hx hb dX5_lineMove_22 (by decide) ?_
  exact t_X5_lineMove_23 F hr hlocks hK hp hW hE (lv_sub hl [] rfl)
set_option maxHeartbeats 4000000 in
set_option maxRecDepth 100000 in
theorem t_X5_lineMove_0 {p : Program} {l : Launch} {e : Env} {s : State} {m : MethodId} {args : Array Value} {below : List Frame} {meth : Method} {c : Code} {D : wD} {cy : Nat → ClassId} {X : va_W} {A : Nat → Prop} {S0 : wS} {post : Int32 → wS → Prop} (F : CallFix p m c cX5_lineMove 2 s args wz_X5_lineMove RX5) (hr : meth.sig.returnType = (some .int)) (hlocks : meth.locks = false) (hK : wK D cy A s) : ∀ {S : wS} {H : Heap} {locs : List Loc} {ls : Array Slot} {a0 : Nat} {x1 : Int32}, wp_X5_lineMove_0 D post S a0 x1 → wO D cy X A s.heap S H locs → wX D S0 S → lv_has ls 2 [(0, .ref a0), (1, .int x1)] → wM D S a0 → sK S a0 = 10 → W p l e r_X5_lineMove s m args below meth c H locs 0 0 (MQ below (va_Qi (fun r S9 => wX D S0 S9 ∧ post r S9) (wB D cy X A) A) args s 0 0 A) (F0 m 0 ls []) := by
  obtain ⟨hx, hb, hml, hown, hts⟩ := id F
  have hwg : ∀ w ∈ WG, w.before args s = true := fun w h => hts w (List.mem_cons_of_mem _ h)
  have i_10 : ∀ w ∈ u_ws RX5 TX5 11, w ∈ wz_X5_lineMove := fun w h => List.mem_cons_of_mem _ (wu_10 w h)
  have k_22 := hwg _ wf_RX5_22
  intro S H locs ls a0 x1 hp hW hE hl hL_a0 hK_a0
  unfold wp_X5_lineMove_0 at hp
  refine lv_iload_n hx hb dX5_lineMove_0 rfl (lv_at hl 1 rfl) ?_
  refine lv_if_lt (tgt := 22) hx hb dX5_lineMove_1 (by decide) (fun c_1 => ?_) (fun c_1 => ?_)
  · replace hp := hp.1 c_1
    exact t_X5_lineMove_22 F hr hlocks hK hp hW hE (lv_sub hl [] rfl)
  · replace hp := hp.2 c_1
    refine lv_iload_n hx hb dX5_lineMove_4 rfl (lv_at hl 1 rfl) ?_
    refine lv_aload_n hx hb dX5_lineMove_5 rfl (lv_at hl 0 rfl) ?_
    obtain ⟨y_2, ey_2, hL_y_2, hK_y_2, hp⟩ := hp
    refine w_get (k := 10) (f := 5) (T := TX5) (v := .ref y_2) F hK hW hL_a0 hK_a0 (by decide) rfl rfl (by decide) i_10 k_22 (by rw [show wv 10 5 S a0 = va_rf (sR S a0 5) from rfl, ey_2]; rfl) dX5_lineMove_6 ?_
    refine w_len F hK hW hL_y_2 hK_y_2 (by decide) dX5_lineMove_9 ?_
    refine lv_icmp_ge (tgt := 22) hx hb dX5_lineMove_10 (by decide) (fun c_3 => ?_) (fun c_3 => ?_)
    · replace hp := hp.1 c_3
      exact t_X5_lineMove_22 F hr hlocks hK hp hW hE (lv_sub hl [] rfl)
    · replace hp := hp.2 c_3
      refine lv_aload_n hx hb dX5_lineMove_13 rfl (lv_at hl 0 rfl) ?_
      obtain ⟨y_4, ey_4, hL_y_4, hK_y_4, hp⟩ := hp
      refine w_get (k := 10) (f := 5) (T := TX5) (v := .ref y_4) F hK hW hL_a0 hK_a0 (by decide) rfl rfl (by decide) i_10 k_22 (by rw [show wv 10 5 S a0 = va_rf (sR S a0 5) from rfl, ey_4]; rfl) dX5_lineMove_14 ?_
      refine lv_iload_n hx hb dX5_lineMove_17 rfl (lv_at hl 1 rfl) ?_
      obtain ⟨h_5, hp⟩ := hp
      refine w_ild F hK hW hL_y_4 hK_y_4 h_5 dX5_lineMove_18 ?_
      refine lv_goto (tgt := 23) hx hb dX5_lineMove_19 (by decide) ?_
      exact t_X5_lineMove_23 F hr hlocks hK hp hW hE (lv_sub hl [] rfl)
set_option maxHeartbeats 4000000 in
set_option maxRecDepth 100000 in
theorem c_X5_lineMove (l : Launch) {D : wD} {cy : Nat → ClassId} {X : va_W} {S0 : wS} {post : Int32 → wS → Prop} {a0 : Nat} {x1 : Int32} (hL_a0 : wM D S0 a0) (hK_a0 : sK S0 a0 = 10) (hp : wp_X5_lineMove D post S0 a0 x1) : mI D cy X l yX5_lineMove wz_X5_lineMove r_X5_lineMove [.ref a0, .int x1] S0 (fun r S9 => wX D S0 S9 ∧ post r S9) := by
  intro sz
  refine Met.ofW (cc := cX5_lineMove) (maxL := 2) (ret := (some .int)) (by decide) rfl ?_
  intro p e s m args below meth c s₁ B hml hv
  obtain ⟨rfl, hsz, hP, hK, hD0, hRO⟩ := hv
  have hts := atoms_spec (ws := wz_X5_lineMove) B.pre
  have hown : s.vm.findClass RX5 = some m.cls := findClass_of_methodNamed B.named
  subst hsz
  have hD := hD0.self (sz := s.heap.size)
  have F : CallFix p m c cX5_lineMove 2 s _ wz_X5_lineMove RX5 := ⟨B.exec, B.bytes, hml, hown, hts⟩
  have hr := B.returns
  have hlocks := B.notSynchronized
  generalize hAe : va_A (wL cy X S0) s.heap.size = A at hD hK ⊢
  have hA : ∀ q, s.heap.size ≤ q → A q := fun q h => by rw [← hAe]; exact Or.inr h
  have hW : wO D cy X A s.heap S0 s.heap [] := ⟨hP, hD, va_S.rf, hA, hRO⟩
  have hl := lv_entry ([.ref a0, .int x1]) (n := 2) (Nat.le_of_ble_eq_true rfl)
  rw [lg_entry_eq]
  generalize (lg_sl ([.ref a0, .int x1]) ++ List.replicate (2 - (lg_sl ([.ref a0, .int x1])).length) Slot.unset).toArray = ls at hl ⊢
  have hl : lv_has ls 2 [(0, .ref a0), (1, .int x1)] := hl
  unfold wp_X5_lineMove at hp
  exact t_X5_lineMove_0 F hr hlocks hK hp hW wX.rf (lv_sub hl [0, 1] rfl) hL_a0 hK_a0
def wp_X6_isPassingSound_173 (D : wD) (post : Int32 → wS → Prop)  (S : wS) (t0 : Int32) : Prop :=
narrow .boolean (.int t0) = .int t0 ∧ post t0 S
def wp_X6_isPassingSound_172 (D : wD) (post : Int32 → wS → Prop)  (S : wS) : Prop :=
wp_X6_isPassingSound_173 D post S (0 : Int32)
def wp_X6_isPassingSound_146 (D : wD) (post : Int32 → wS → Prop)  (S : wS) (a0 : Nat) (x2 : Int32) (x4 : Int32) (x5 : Int64) (t0 : Int32) (t1 : Int32) : Prop :=
((¬ t0 = t1 → wp_X6_isPassingSound_172 D post S) ∧
 (t0 = t1 → ∃ y_2 : Nat, sR S a0 0 = some y_2 ∧ wM D S y_2 ∧ sK S y_2 = 5 ∧
wp_X0_besidesOf D (fun r_3 S_4 => 
(((lg_cmp (r_3 &&& x5) (0 : Int64)) = 0 → wp_X6_isPassingSound_172 D post S_4) ∧
 (¬ (lg_cmp (r_3 &&& x5) (0 : Int64)) = 0 → wp_X6_isPassingSound_173 D post S_4 (1 : Int32)))) S y_2 (x2 + x4)))
def wp_X6_isPassingSound_89 (D : wD) (post : Int32 → wS → Prop)  (S : wS) (a0 : Nat) (a1 : Nat) (x2 : Int32) (x3 : Int32) (t0 : Int32) : Prop :=
wp_X7_ofKind D (fun r_1 S_2 => 
wp_X7_ofSide D (fun r_3 S_4 => 
∀ x_5 : Int64, x_5 = (r_1 &&& r_3) →
wp_X7_pieceOn D (fun r_6 S_7 => 
((¬ r_6 = 0 → wp_X6_isPassingSound_172 D post S_7) ∧
 (r_6 = 0 → wp_X7_pieceOn D (fun r_9 S_10 => 
((¬ r_9 = 0 → wp_X6_isPassingSound_172 D post S_10) ∧
 (r_9 = 0 → wp_X7_pieceOn D (fun r_12 S_13 => 
((x3 = 0 → wp_X6_isPassingSound_146 D post S_13 a0 x2 t0 x_5 r_12 (12 : Int32)) ∧
 (¬ x3 = 0 → wp_X6_isPassingSound_146 D post S_13 a0 x2 t0 x_5 r_12 (6 : Int32)))) S_10 a1 (x2 + t0)))) S_7 a1 (x2 - t0)))) S_4 a1 x2) S_2 a1 (sI S_2 a1 5)) S a1 (6 : Int32)
def wp_X6_isPassingSound_65 (D : wD) (post : Int32 → wS → Prop)  (S : wS) : Prop :=
narrow .boolean (.int (0 : Int32)) = .int (0 : Int32) ∧ post (0 : Int32) S
def wp_X6_isPassingSound_62 (D : wD) (post : Int32 → wS → Prop)  (S : wS) (a0 : Nat) (a1 : Nat) (x2 : Int32) (x3 : Int32) (t0 : Int32) (t1 : Int32) : Prop :=
((t0 = t1 → ((x3 = 0 → ∃ y_3 : Nat, sR S a0 0 = some y_3 ∧ wM D S y_3 ∧ sK S y_3 = 5 ∧
wp_X6_isPassingSound_89 D post S a0 a1 x2 x3 (-(sI S y_3 0))) ∧
 (¬ x3 = 0 → ∃ y_4 : Nat, sR S a0 0 = some y_4 ∧ wM D S y_4 ∧ sK S y_4 = 5 ∧
wp_X6_isPassingSound_89 D post S a0 a1 x2 x3 (sI S y_4 0)))) ∧
 (¬ t0 = t1 → wp_X6_isPassingSound_65 D post S))
def wp_X6_isPassingSound_24 (D : wD) (post : Int32 → wS → Prop)  (S : wS) (a0 : Nat) (a1 : Nat) (x2 : Int32) (t0 : Int32) : Prop :=
∃ y_1 : Nat, sR S a0 0 = some y_1 ∧ wM D S y_1 ∧ sK S y_1 = 5 ∧
(((sI S y_1 1) < (6 : Int32) → wp_X6_isPassingSound_65 D post S) ∧
 (¬ (sI S y_1 1) < (6 : Int32) → ∃ y_3 : Nat, sR S a0 0 = some y_3 ∧ wM D S y_3 ∧ sK S y_3 = 5 ∧
wp_X0_rankAt D (fun r_4 S_5 => 
((t0 = 0 → ∃ y_7 : Nat, sR S_5 a0 0 = some y_7 ∧ wM D S_5 y_7 ∧ sK S_5 y_7 = 5 ∧
wp_X6_isPassingSound_62 D post S_5 a0 a1 x2 t0 r_4 ((sI S_5 y_7 1) - (3 : Int32))) ∧
 (¬ t0 = 0 → wp_X6_isPassingSound_62 D post S_5 a0 a1 x2 t0 r_4 (2 : Int32)))) S y_3 x2))
def wp_X6_isPassingSound_0 (D : wD) (post : Int32 → wS → Prop)  (S : wS) (a0 : Nat) (a1 : Nat) : Prop :=
∀ x_1 : Int32, x_1 = (sI S a1 7) →
((¬ x_1 = (-1 : Int32) → ((¬ (sI S a1 5) = 0 → wp_X6_isPassingSound_24 D post S a0 a1 x_1 (0 : Int32)) ∧
 ((sI S a1 5) = 0 → wp_X6_isPassingSound_24 D post S a0 a1 x_1 (1 : Int32)))) ∧
 (x_1 = (-1 : Int32) → narrow .boolean (.int (1 : Int32)) = .int (1 : Int32) ∧ post (1 : Int32) S))
abbrev r_X6_isPassingSound : Room := { frames := 2, cells := 0, slots := 0, locals := 44 }
def wp_X6_isPassingSound (D : wD) (post : Int32 → wS → Prop) (S : wS) (a0 : Nat) (a1 : Nat) : Prop := wp_X6_isPassingSound_0 D post S a0 a1
set_option maxHeartbeats 4000000 in
set_option maxRecDepth 100000 in
theorem t_X6_isPassingSound_173 {p : Program} {l : Launch} {e : Env} {s : State} {m : MethodId} {args : Array Value} {below : List Frame} {meth : Method} {c : Code} {D : wD} {cy : Nat → ClassId} {X : va_W} {A : Nat → Prop} {S0 : wS} {post : Int32 → wS → Prop} (F : CallFix p m c cX6_isPassingSound 7 s args wz_X6_isPassingSound RX6) (hr : meth.sig.returnType = (some .boolean)) (hlocks : meth.locks = false) (hK : wK D cy A s) : ∀ {S : wS} {H : Heap} {locs : List Loc} {ls : Array Slot} {t0 : Int32}, wp_X6_isPassingSound_173 D post S t0 → wO D cy X A s.heap S H locs → wX D S0 S → lv_has ls 7 [] → W p l e r_X6_isPassingSound s m args below meth c H locs 0 0 (MQ below (va_Qi (fun r S9 => wX D S0 S9 ∧ post r S9) (wB D cy X A) A) args s 0 0 A) (F0 m 173 ls [.int t0]) := by
  obtain ⟨hx, hb, hml, hown, hts⟩ := id F
  have hwg : ∀ w ∈ WG, w.before args s = true := fun w h => hts w (List.mem_cons_of_mem _ h)
  intro S H locs ls t0 hp hW hE hl
  unfold wp_X6_isPassingSound_173 at hp
  exact w_zret hx hb hr hlocks hW hp.1 ⟨hE, hp.2⟩ dX6_isPassingSound_173
set_option maxHeartbeats 4000000 in
set_option maxRecDepth 100000 in
theorem t_X6_isPassingSound_172 {p : Program} {l : Launch} {e : Env} {s : State} {m : MethodId} {args : Array Value} {below : List Frame} {meth : Method} {c : Code} {D : wD} {cy : Nat → ClassId} {X : va_W} {A : Nat → Prop} {S0 : wS} {post : Int32 → wS → Prop} (F : CallFix p m c cX6_isPassingSound 7 s args wz_X6_isPassingSound RX6) (hr : meth.sig.returnType = (some .boolean)) (hlocks : meth.locks = false) (hK : wK D cy A s) : ∀ {S : wS} {H : Heap} {locs : List Loc} {ls : Array Slot}, wp_X6_isPassingSound_172 D post S → wO D cy X A s.heap S H locs → wX D S0 S → lv_has ls 7 [] → W p l e r_X6_isPassingSound s m args below meth c H locs 0 0 (MQ below (va_Qi (fun r S9 => wX D S0 S9 ∧ post r S9) (wB D cy X A) A) args s 0 0 A) (F0 m 172 ls []) := by
  obtain ⟨hx, hb, hml, hown, hts⟩ := id F
  have hwg : ∀ w ∈ WG, w.before args s = true := fun w h => hts w (List.mem_cons_of_mem _ h)
  intro S H locs ls hp hW hE hl
  unfold wp_X6_isPassingSound_172 at hp
  refine lv_iconst (v := 0) hx hb dX6_isPassingSound_172 (by decide) ?_
  exact t_X6_isPassingSound_173 F hr hlocks hK hp hW hE (lv_sub hl [] rfl)
set_option maxHeartbeats 4000000 in
set_option maxRecDepth 100000 in
theorem t_X6_isPassingSound_146 {p : Program} {l : Launch} {e : Env} {s : State} {m : MethodId} {args : Array Value} {below : List Frame} {meth : Method} {c : Code} {D : wD} {cy : Nat → ClassId} {X : va_W} {A : Nat → Prop} {S0 : wS} {post : Int32 → wS → Prop} (F : CallFix p m c cX6_isPassingSound 7 s args wz_X6_isPassingSound RX6) (hr : meth.sig.returnType = (some .boolean)) (hlocks : meth.locks = false) (hK : wK D cy A s) : ∀ {S : wS} {H : Heap} {locs : List Loc} {ls : Array Slot} {a0 : Nat} {x2 : Int32} {x4 : Int32} {x5 : Int64} {t0 : Int32} {t1 : Int32}, wp_X6_isPassingSound_146 D post S a0 x2 x4 x5 t0 t1 → wO D cy X A s.heap S H locs → wX D S0 S → lv_has ls 7 [(0, .ref a0), (2, .int x2), (4, .int x4), (5, .long x5)] → wM D S a0 → sK S a0 = 11 → W p l e r_X6_isPassingSound s m args below meth c H locs 0 0 (MQ below (va_Qi (fun r S9 => wX D S0 S9 ∧ post r S9) (wB D cy X A) A) args s 0 0 A) (F0 m 146 ls [.int t1, .int t0]) := by
  obtain ⟨hx, hb, hml, hown, hts⟩ := id F
  have hwg : ∀ w ∈ WG, w.before args s = true := fun w h => hts w (List.mem_cons_of_mem _ h)
  have i_11 : ∀ w ∈ u_ws RX6 TX6 3, w ∈ wz_X6_isPassingSound := fun w h => List.mem_cons_of_mem _ (wu_11 w h)
  have k_22 := hwg _ wf_RX6_22
  intro S H locs ls a0 x2 x4 x5 t0 t1 hp hW hE hl hL_a0 hK_a0
  unfold wp_X6_isPassingSound_146 at hp
  refine lv_icmp_ne (tgt := 172) hx hb dX6_isPassingSound_146 (by decide) (fun c_1 => ?_) (fun c_1 => ?_)
  · replace hp := hp.1 c_1
    exact t_X6_isPassingSound_172 F hr hlocks hK hp hW hE (lv_sub hl [] rfl)
  · replace hp := hp.2 c_1
    refine lv_aload_n hx hb dX6_isPassingSound_149 rfl (lv_at hl 0 rfl) ?_
    obtain ⟨y_2, ey_2, hL_y_2, hK_y_2, hp⟩ := hp
    refine w_get (k := 11) (f := 0) (T := TX6) (v := .ref y_2) F hK hW hL_a0 hK_a0 (by decide) rfl rfl (by decide) i_11 k_22 (by rw [show wv 11 0 S a0 = va_rf (sR S a0 0) from rfl, ey_2]; rfl) dX6_isPassingSound_150 ?_
    refine lv_iload_n hx hb dX6_isPassingSound_153 rfl (lv_at hl 1 rfl) ?_
    refine lv_iload hx hb dX6_isPassingSound_154 (lv_at hl 2 rfl) ?_
    refine lv_iadd hx hb dX6_isPassingSound_156 ?_
    refine w_callJ (va_runV (As := [.int (x2 + x4)]) (rest := []) F (c_X0_besidesOf l hL_y_2 hK_y_2 hp H.size) (cwV (C := RX0) 1 hts (wg_V wm_RX6_141 wy_X0_besidesOf) rfl rfl rfl (by decide +kernel) ⟨Nat.le_of_ble_eq_true rfl, Nat.le_of_ble_eq_true rfl⟩) (w_preV hK hW hL_y_2 hK_y_2 (by decide) rfl) rfl rfl hl.1 rfl (lv_room (Nat.le_of_ble_eq_true rfl)) dX6_isPassingSound_157 ⟨Nat.le_of_ble_eq_true rfl, Nat.le_of_ble_eq_true rfl⟩) hW (fun r_3 S_4 H locs hp hW => ?_)
    obtain ⟨hX_S_4, hp⟩ := hp
    refine W.widen (k := 0) (n := 0) (by decide) (by decide) ?_
    have hE := hE.trans hX_S_4
    have hK_a0 : sK S_4 a0 = 11 := (hX_S_4.2 a0 hL_a0).1.trans hK_a0
    have hL_a0 : wM D S_4 a0 := hX_S_4.M hL_a0
    refine lv_lload hx hb dX6_isPassingSound_160 (lv_at hl 3 rfl) ?_
    refine lv_land hx hb dX6_isPassingSound_162 ?_
    refine lv_lconst (v := 0) hx hb dX6_isPassingSound_163 (by decide) ?_
    refine W.lcmp hx hb dX6_isPassingSound_164 ?_
    refine lv_if_eq (tgt := 172) hx hb dX6_isPassingSound_165 (by decide) (fun c_5 => ?_) (fun c_5 => ?_)
    · replace hp := hp.1 c_5
      exact t_X6_isPassingSound_172 F hr hlocks hK hp hW hE (lv_sub hl [] rfl)
    · replace hp := hp.2 c_5
      refine lv_iconst (v := 1) hx hb dX6_isPassingSound_168 (by decide) ?_
      refine lv_goto (tgt := 173) hx hb dX6_isPassingSound_169 (by decide) ?_
      exact t_X6_isPassingSound_173 F hr hlocks hK hp hW hE (lv_sub hl [] rfl)
set_option maxHeartbeats 4000000 in
set_option maxRecDepth 100000 in
theorem t_X6_isPassingSound_89 {p : Program} {l : Launch} {e : Env} {s : State} {m : MethodId} {args : Array Value} {below : List Frame} {meth : Method} {c : Code} {D : wD} {cy : Nat → ClassId} {X : va_W} {A : Nat → Prop} {S0 : wS} {post : Int32 → wS → Prop} (F : CallFix p m c cX6_isPassingSound 7 s args wz_X6_isPassingSound RX6) (hr : meth.sig.returnType = (some .boolean)) (hlocks : meth.locks = false) (hK : wK D cy A s) : ∀ {S : wS} {H : Heap} {locs : List Loc} {ls : Array Slot} {a0 : Nat} {a1 : Nat} {x2 : Int32} {x3 : Int32} {t0 : Int32}, wp_X6_isPassingSound_89 D post S a0 a1 x2 x3 t0 → wO D cy X A s.heap S H locs → wX D S0 S → lv_has ls 7 [(0, .ref a0), (1, .ref a1), (2, .int x2), (3, .int x3)] → wM D S a0 → sK S a0 = 11 → wM D S a1 → sK S a1 = 12 → W p l e r_X6_isPassingSound s m args below meth c H locs 0 0 (MQ below (va_Qi (fun r S9 => wX D S0 S9 ∧ post r S9) (wB D cy X A) A) args s 0 0 A) (F0 m 89 ls [.int t0]) := by
  obtain ⟨hx, hb, hml, hown, hts⟩ := id F
  have hwg : ∀ w ∈ WG, w.before args s = true := fun w h => hts w (List.mem_cons_of_mem _ h)
  have i_12 : ∀ w ∈ u_ws RX7 TX7 8, w ∈ wz_X6_isPassingSound := fun w h => List.mem_cons_of_mem _ (wu_12 w h)
  intro S H locs ls a0 a1 x2 x3 t0 hp hW hE hl hL_a0 hK_a0 hL_a1 hK_a1
  unfold wp_X6_isPassingSound_89 at hp
  refine lv_istore (lv' := [(4, .int t0), (0, .ref a0), (1, .ref a1), (2, .int x2), (3, .int x3)]) hx hb dX6_isPassingSound_89 hl (by decide) rfl (fun ls hl => ?_)
  refine lv_aload_n hx hb dX6_isPassingSound_91 rfl (lv_at hl 2 rfl) ?_
  refine lv_bipush (v := 6) hx hb dX6_isPassingSound_92 (by decide) ?_
  refine w_callJ (va_runV (As := [.int (6 : Int32)]) (rest := []) F (c_X7_ofKind l hL_a1 hK_a1 hp H.size) (cwV (C := RX7) 1 hts (wg_V wm_RX6_133 wy_X7_ofKind) rfl rfl rfl (by decide +kernel) ⟨Nat.le_of_ble_eq_true rfl, Nat.le_of_ble_eq_true rfl⟩) (w_preV hK hW hL_a1 hK_a1 (by decide) rfl) rfl rfl hl.1 rfl (lv_room (Nat.le_of_ble_eq_true rfl)) dX6_isPassingSound_94 ⟨Nat.le_of_ble_eq_true rfl, Nat.le_of_ble_eq_true rfl⟩) hW (fun r_1 S_2 H locs hp hW => ?_)
  obtain ⟨hX_S_2, hp⟩ := hp
  refine W.widen (k := 0) (n := 0) (by decide) (by decide) ?_
  have hE := hE.trans hX_S_2
  have hK_a0 : sK S_2 a0 = 11 := (hX_S_2.2 a0 hL_a0).1.trans hK_a0
  have hL_a0 : wM D S_2 a0 := hX_S_2.M hL_a0
  have hK_a1 : sK S_2 a1 = 12 := (hX_S_2.2 a1 hL_a1).1.trans hK_a1
  have hL_a1 : wM D S_2 a1 := hX_S_2.M hL_a1
  refine lv_aload_n hx hb dX6_isPassingSound_97 rfl (lv_at hl 2 rfl) ?_
  refine lv_aload_n hx hb dX6_isPassingSound_98 rfl (lv_at hl 2 rfl) ?_
  refine w_getN (k := 12) (f := 5) (T := TX7) (v := .int (sI S_2 a1 5)) F hK hW hL_a1 hK_a1 (by decide) rfl rfl (by decide) i_12 (hK.2.1 (.fieldLinkNest "OpeningsCabinet$Papers" 43 "OpeningsCabinet$Position" "isWhite" "Z" "OpeningsCabinet") (by decide +kernel)) rfl dX6_isPassingSound_99 ?_
  refine w_callJ (va_runV (As := [.int (sI S_2 a1 5)]) (rest := [.long r_1]) F (c_X7_ofSide l hL_a1 hK_a1 hp H.size) (cwV (C := RX7) 1 hts (wg_V wm_RX6_137 wy_X7_ofSide) rfl rfl rfl (by decide +kernel) ⟨Nat.le_of_ble_eq_true rfl, Nat.le_of_ble_eq_true rfl⟩) (w_preV hK hW hL_a1 hK_a1 (by decide) rfl) rfl rfl hl.1 rfl (lv_room (Nat.le_of_ble_eq_true rfl)) dX6_isPassingSound_102 ⟨Nat.le_of_ble_eq_true rfl, Nat.le_of_ble_eq_true rfl⟩) hW (fun r_3 S_4 H locs hp hW => ?_)
  obtain ⟨hX_S_4, hp⟩ := hp
  refine W.widen (k := 0) (n := 0) (by decide) (by decide) ?_
  have hE := hE.trans hX_S_4
  have hK_a0 : sK S_4 a0 = 11 := (hX_S_4.2 a0 hL_a0).1.trans hK_a0
  have hL_a0 : wM D S_4 a0 := hX_S_4.M hL_a0
  have hK_a1 : sK S_4 a1 = 12 := (hX_S_4.2 a1 hL_a1).1.trans hK_a1
  have hL_a1 : wM D S_4 a1 := hX_S_4.M hL_a1
  refine lv_land hx hb dX6_isPassingSound_105 ?_
  refine lv_topl (fun x_5 ex_5 => ?_)
  replace hp := hp x_5 ex_5
  refine lv_lstore (lv' := [(5, .long x_5), (4, .int t0), (0, .ref a0), (1, .ref a1), (2, .int x2), (3, .int x3)]) hx hb dX6_isPassingSound_106 hl (by decide) rfl (fun ls hl => ?_)
  refine lv_aload_n hx hb dX6_isPassingSound_108 rfl (lv_at hl 3 rfl) ?_
  refine lv_iload_n hx hb dX6_isPassingSound_109 rfl (lv_at hl 4 rfl) ?_
  refine w_callI (va_runV (As := [.int x2]) (rest := []) F (c_X7_pieceOn l hL_a1 hK_a1 hp H.size) (cwV (C := RX7) 1 hts (wg_V wm_RX6_84 wy_X7_pieceOn) rfl rfl rfl (by decide +kernel) ⟨Nat.le_of_ble_eq_true rfl, Nat.le_of_ble_eq_true rfl⟩) (w_preV hK hW hL_a1 hK_a1 (by decide) rfl) rfl rfl hl.1 rfl (lv_room (Nat.le_of_ble_eq_true rfl)) dX6_isPassingSound_110 ⟨Nat.le_of_ble_eq_true rfl, Nat.le_of_ble_eq_true rfl⟩) hW (fun r_6 S_7 H locs hp hW => ?_)
  obtain ⟨hX_S_7, hp⟩ := hp
  refine W.widen (k := 0) (n := 0) (by decide) (by decide) ?_
  have hE := hE.trans hX_S_7
  have hK_a0 : sK S_7 a0 = 11 := (hX_S_7.2 a0 hL_a0).1.trans hK_a0
  have hL_a0 : wM D S_7 a0 := hX_S_7.M hL_a0
  have hK_a1 : sK S_7 a1 = 12 := (hX_S_7.2 a1 hL_a1).1.trans hK_a1
  have hL_a1 : wM D S_7 a1 := hX_S_7.M hL_a1
  refine lv_if_ne (tgt := 172) hx hb dX6_isPassingSound_113 (by decide) (fun c_8 => ?_) (fun c_8 => ?_)
  · replace hp := hp.1 c_8
    exact t_X6_isPassingSound_172 F hr hlocks hK hp hW hE (lv_sub hl [] rfl)
  · replace hp := hp.2 c_8
    refine lv_aload_n hx hb dX6_isPassingSound_116 rfl (lv_at hl 3 rfl) ?_
    refine lv_iload_n hx hb dX6_isPassingSound_117 rfl (lv_at hl 4 rfl) ?_
    refine lv_iload hx hb dX6_isPassingSound_118 (lv_at hl 1 rfl) ?_
    refine lv_isub hx hb dX6_isPassingSound_120 ?_
    refine w_callI (va_runV (As := [.int (x2 - t0)]) (rest := []) F (c_X7_pieceOn l hL_a1 hK_a1 hp H.size) (cwV (C := RX7) 1 hts (wg_V wm_RX6_84 wy_X7_pieceOn) rfl rfl rfl (by decide +kernel) ⟨Nat.le_of_ble_eq_true rfl, Nat.le_of_ble_eq_true rfl⟩) (w_preV hK hW hL_a1 hK_a1 (by decide) rfl) rfl rfl hl.1 rfl (lv_room (Nat.le_of_ble_eq_true rfl)) dX6_isPassingSound_121 ⟨Nat.le_of_ble_eq_true rfl, Nat.le_of_ble_eq_true rfl⟩) hW (fun r_9 S_10 H locs hp hW => ?_)
    obtain ⟨hX_S_10, hp⟩ := hp
    refine W.widen (k := 0) (n := 0) (by decide) (by decide) ?_
    have hE := hE.trans hX_S_10
    have hK_a0 : sK S_10 a0 = 11 := (hX_S_10.2 a0 hL_a0).1.trans hK_a0
    have hL_a0 : wM D S_10 a0 := hX_S_10.M hL_a0
    have hK_a1 : sK S_10 a1 = 12 := (hX_S_10.2 a1 hL_a1).1.trans hK_a1
    have hL_a1 : wM D S_10 a1 := hX_S_10.M hL_a1
    refine lv_if_ne (tgt := 172) hx hb dX6_isPassingSound_124 (by decide) (fun c_11 => ?_) (fun c_11 => ?_)
    · replace hp := hp.1 c_11
      exact t_X6_isPassingSound_172 F hr hlocks hK hp hW hE (lv_sub hl [] rfl)
    · replace hp := hp.2 c_11
      refine lv_aload_n hx hb dX6_isPassingSound_127 rfl (lv_at hl 3 rfl) ?_
      refine lv_iload_n hx hb dX6_isPassingSound_128 rfl (lv_at hl 4 rfl) ?_
      refine lv_iload hx hb dX6_isPassingSound_129 (lv_at hl 1 rfl) ?_
      refine lv_iadd hx hb dX6_isPassingSound_131 ?_
      refine w_callI (va_runV (As := [.int (x2 + t0)]) (rest := []) F (c_X7_pieceOn l hL_a1 hK_a1 hp H.size) (cwV (C := RX7) 1 hts (wg_V wm_RX6_84 wy_X7_pieceOn) rfl rfl rfl (by decide +kernel) ⟨Nat.le_of_ble_eq_true rfl, Nat.le_of_ble_eq_true rfl⟩) (w_preV hK hW hL_a1 hK_a1 (by decide) rfl) rfl rfl hl.1 rfl (lv_room (Nat.le_of_ble_eq_true rfl)) dX6_isPassingSound_132 ⟨Nat.le_of_ble_eq_true rfl, Nat.le_of_ble_eq_true rfl⟩) hW (fun r_12 S_13 H locs hp hW => ?_)
      obtain ⟨hX_S_13, hp⟩ := hp
      refine W.widen (k := 0) (n := 0) (by decide) (by decide) ?_
      have hE := hE.trans hX_S_13
      have hK_a0 : sK S_13 a0 = 11 := (hX_S_13.2 a0 hL_a0).1.trans hK_a0
      have hL_a0 : wM D S_13 a0 := hX_S_13.M hL_a0
      have hK_a1 : sK S_13 a1 = 12 := (hX_S_13.2 a1 hL_a1).1.trans hK_a1
      have hL_a1 : wM D S_13 a1 := hX_S_13.M hL_a1
      refine lv_iload_n hx hb dX6_isPassingSound_135 rfl (lv_at hl 5 rfl) ?_
      refine lv_if_eq (tgt := 144) hx hb dX6_isPassingSound_136 (by decide) (fun c_14 => ?_) (fun c_14 => ?_)
      · replace hp := hp.1 c_14
        refine lv_bipush (v := 12) hx hb dX6_isPassingSound_144 (by decide) ?_
        exact t_X6_isPassingSound_146 F hr hlocks hK hp hW hE (lv_sub hl [2, 4, 1, 0] rfl) hL_a0 hK_a0
      · replace hp := hp.2 c_14
        refine lv_bipush (v := 6) hx hb dX6_isPassingSound_139 (by decide) ?_
        refine lv_goto (tgt := 146) hx hb dX6_isPassingSound_141 (by decide) ?_
        exact t_X6_isPassingSound_146 F hr hlocks hK hp hW hE (lv_sub hl [2, 4, 1, 0] rfl) hL_a0 hK_a0
set_option maxHeartbeats 4000000 in
set_option maxRecDepth 100000 in
theorem t_X6_isPassingSound_65 {p : Program} {l : Launch} {e : Env} {s : State} {m : MethodId} {args : Array Value} {below : List Frame} {meth : Method} {c : Code} {D : wD} {cy : Nat → ClassId} {X : va_W} {A : Nat → Prop} {S0 : wS} {post : Int32 → wS → Prop} (F : CallFix p m c cX6_isPassingSound 7 s args wz_X6_isPassingSound RX6) (hr : meth.sig.returnType = (some .boolean)) (hlocks : meth.locks = false) (hK : wK D cy A s) : ∀ {S : wS} {H : Heap} {locs : List Loc} {ls : Array Slot}, wp_X6_isPassingSound_65 D post S → wO D cy X A s.heap S H locs → wX D S0 S → lv_has ls 7 [] → W p l e r_X6_isPassingSound s m args below meth c H locs 0 0 (MQ below (va_Qi (fun r S9 => wX D S0 S9 ∧ post r S9) (wB D cy X A) A) args s 0 0 A) (F0 m 65 ls []) := by
  obtain ⟨hx, hb, hml, hown, hts⟩ := id F
  have hwg : ∀ w ∈ WG, w.before args s = true := fun w h => hts w (List.mem_cons_of_mem _ h)
  intro S H locs ls hp hW hE hl
  unfold wp_X6_isPassingSound_65 at hp
  refine lv_iconst (v := 0) hx hb dX6_isPassingSound_65 (by decide) ?_
  exact w_zret hx hb hr hlocks hW hp.1 ⟨hE, hp.2⟩ dX6_isPassingSound_66
set_option maxHeartbeats 4000000 in
set_option maxRecDepth 100000 in
theorem t_X6_isPassingSound_62 {p : Program} {l : Launch} {e : Env} {s : State} {m : MethodId} {args : Array Value} {below : List Frame} {meth : Method} {c : Code} {D : wD} {cy : Nat → ClassId} {X : va_W} {A : Nat → Prop} {S0 : wS} {post : Int32 → wS → Prop} (F : CallFix p m c cX6_isPassingSound 7 s args wz_X6_isPassingSound RX6) (hr : meth.sig.returnType = (some .boolean)) (hlocks : meth.locks = false) (hK : wK D cy A s) : ∀ {S : wS} {H : Heap} {locs : List Loc} {ls : Array Slot} {a0 : Nat} {a1 : Nat} {x2 : Int32} {x3 : Int32} {t0 : Int32} {t1 : Int32}, wp_X6_isPassingSound_62 D post S a0 a1 x2 x3 t0 t1 → wO D cy X A s.heap S H locs → wX D S0 S → lv_has ls 7 [(0, .ref a0), (1, .ref a1), (2, .int x2), (3, .int x3)] → wM D S a0 → sK S a0 = 11 → wM D S a1 → sK S a1 = 12 → W p l e r_X6_isPassingSound s m args below meth c H locs 0 0 (MQ below (va_Qi (fun r S9 => wX D S0 S9 ∧ post r S9) (wB D cy X A) A) args s 0 0 A) (F0 m 62 ls [.int t1, .int t0]) := by
  obtain ⟨hx, hb, hml, hown, hts⟩ := id F
  have hwg : ∀ w ∈ WG, w.before args s = true := fun w h => hts w (List.mem_cons_of_mem _ h)
  have i_11 : ∀ w ∈ u_ws RX6 TX6 3, w ∈ wz_X6_isPassingSound := fun w h => List.mem_cons_of_mem _ (wu_11 w h)
  have i_5 : ∀ w ∈ u_ws RX0 TX0 12, w ∈ wz_X6_isPassingSound := fun w h => List.mem_cons_of_mem _ (wu_5 w h)
  have k_22 := hwg _ wf_RX6_22
  intro S H locs ls a0 a1 x2 x3 t0 t1 hp hW hE hl hL_a0 hK_a0 hL_a1 hK_a1
  unfold wp_X6_isPassingSound_62 at hp
  refine lv_icmp_eq (tgt := 67) hx hb dX6_isPassingSound_62 (by decide) (fun c_1 => ?_) (fun c_1 => ?_)
  · replace hp := hp.1 c_1
    refine lv_iload_n hx hb dX6_isPassingSound_67 rfl (lv_at hl 3 rfl) ?_
    refine lv_if_eq (tgt := 81) hx hb dX6_isPassingSound_68 (by decide) (fun c_2 => ?_) (fun c_2 => ?_)
    · replace hp := hp.1 c_2
      refine lv_aload_n hx hb dX6_isPassingSound_81 rfl (lv_at hl 0 rfl) ?_
      obtain ⟨y_3, ey_3, hL_y_3, hK_y_3, hp⟩ := hp
      refine w_get (k := 11) (f := 0) (T := TX6) (v := .ref y_3) F hK hW hL_a0 hK_a0 (by decide) rfl rfl (by decide) i_11 k_22 (by rw [show wv 11 0 S a0 = va_rf (sR S a0 0) from rfl, ey_3]; rfl) dX6_isPassingSound_82 ?_
      refine w_getN (k := 5) (f := 0) (T := TX0) (v := .int (sI S y_3 0)) F hK hW hL_y_3 hK_y_3 (by decide) rfl rfl (by decide) i_5 (hK.2.1 (.fieldLinkNest "OpeningsCabinet$Papers" 81 "OpeningsCabinet$Board" "files" "I" "OpeningsCabinet") (by decide +kernel)) rfl dX6_isPassingSound_85 ?_
      refine lv_ineg hx hb dX6_isPassingSound_88 ?_
      exact t_X6_isPassingSound_89 F hr hlocks hK hp hW hE (lv_sub hl [0, 1, 2, 3] rfl) hL_a0 hK_a0 hL_a1 hK_a1
    · replace hp := hp.2 c_2
      refine lv_aload_n hx hb dX6_isPassingSound_71 rfl (lv_at hl 0 rfl) ?_
      obtain ⟨y_4, ey_4, hL_y_4, hK_y_4, hp⟩ := hp
      refine w_get (k := 11) (f := 0) (T := TX6) (v := .ref y_4) F hK hW hL_a0 hK_a0 (by decide) rfl rfl (by decide) i_11 k_22 (by rw [show wv 11 0 S a0 = va_rf (sR S a0 0) from rfl, ey_4]; rfl) dX6_isPassingSound_72 ?_
      refine w_getN (k := 5) (f := 0) (T := TX0) (v := .int (sI S y_4 0)) F hK hW hL_y_4 hK_y_4 (by decide) rfl rfl (by decide) i_5 (hK.2.1 (.fieldLinkNest "OpeningsCabinet$Papers" 81 "OpeningsCabinet$Board" "files" "I" "OpeningsCabinet") (by decide +kernel)) rfl dX6_isPassingSound_75 ?_
      refine lv_goto (tgt := 89) hx hb dX6_isPassingSound_78 (by decide) ?_
      exact t_X6_isPassingSound_89 F hr hlocks hK hp hW hE (lv_sub hl [0, 1, 2, 3] rfl) hL_a0 hK_a0 hL_a1 hK_a1
  · replace hp := hp.2 c_1
    exact t_X6_isPassingSound_65 F hr hlocks hK hp hW hE (lv_sub hl [] rfl)
set_option maxHeartbeats 4000000 in
set_option maxRecDepth 100000 in
theorem t_X6_isPassingSound_24 {p : Program} {l : Launch} {e : Env} {s : State} {m : MethodId} {args : Array Value} {below : List Frame} {meth : Method} {c : Code} {D : wD} {cy : Nat → ClassId} {X : va_W} {A : Nat → Prop} {S0 : wS} {post : Int32 → wS → Prop} (F : CallFix p m c cX6_isPassingSound 7 s args wz_X6_isPassingSound RX6) (hr : meth.sig.returnType = (some .boolean)) (hlocks : meth.locks = false) (hK : wK D cy A s) : ∀ {S : wS} {H : Heap} {locs : List Loc} {ls : Array Slot} {a0 : Nat} {a1 : Nat} {x2 : Int32} {t0 : Int32}, wp_X6_isPassingSound_24 D post S a0 a1 x2 t0 → wO D cy X A s.heap S H locs → wX D S0 S → lv_has ls 7 [(0, .ref a0), (1, .ref a1), (2, .int x2)] → wM D S a0 → sK S a0 = 11 → wM D S a1 → sK S a1 = 12 → W p l e r_X6_isPassingSound s m args below meth c H locs 0 0 (MQ below (va_Qi (fun r S9 => wX D S0 S9 ∧ post r S9) (wB D cy X A) A) args s 0 0 A) (F0 m 24 ls [.int t0]) := by
  obtain ⟨hx, hb, hml, hown, hts⟩ := id F
  have hwg : ∀ w ∈ WG, w.before args s = true := fun w h => hts w (List.mem_cons_of_mem _ h)
  have i_11 : ∀ w ∈ u_ws RX6 TX6 3, w ∈ wz_X6_isPassingSound := fun w h => List.mem_cons_of_mem _ (wu_11 w h)
  have i_5 : ∀ w ∈ u_ws RX0 TX0 12, w ∈ wz_X6_isPassingSound := fun w h => List.mem_cons_of_mem _ (wu_5 w h)
  have k_22 := hwg _ wf_RX6_22
  intro S H locs ls a0 a1 x2 t0 hp hW hE hl hL_a0 hK_a0 hL_a1 hK_a1
  unfold wp_X6_isPassingSound_24 at hp
  refine lv_istore_n (lv' := [(3, .int t0), (0, .ref a0), (1, .ref a1), (2, .int x2)]) hx hb dX6_isPassingSound_24 rfl hl (by decide) rfl (fun ls hl => ?_)
  refine lv_aload_n hx hb dX6_isPassingSound_25 rfl (lv_at hl 1 rfl) ?_
  obtain ⟨y_1, ey_1, hL_y_1, hK_y_1, hp⟩ := hp
  refine w_get (k := 11) (f := 0) (T := TX6) (v := .ref y_1) F hK hW hL_a0 hK_a0 (by decide) rfl rfl (by decide) i_11 k_22 (by rw [show wv 11 0 S a0 = va_rf (sR S a0 0) from rfl, ey_1]; rfl) dX6_isPassingSound_26 ?_
  refine w_getN (k := 5) (f := 1) (T := TX0) (v := .int (sI S y_1 1)) F hK hW hL_y_1 hK_y_1 (by decide) rfl rfl (by decide) i_5 (hK.2.1 (.fieldLinkNest "OpeningsCabinet$Papers" 30 "OpeningsCabinet$Board" "ranks" "I" "OpeningsCabinet") (by decide +kernel)) rfl dX6_isPassingSound_29 ?_
  refine lv_bipush (v := 6) hx hb dX6_isPassingSound_32 (by decide) ?_
  refine lv_icmp_lt (tgt := 65) hx hb dX6_isPassingSound_34 (by decide) (fun c_2 => ?_) (fun c_2 => ?_)
  · replace hp := hp.1 c_2
    exact t_X6_isPassingSound_65 F hr hlocks hK hp hW hE (lv_sub hl [] rfl)
  · replace hp := hp.2 c_2
    refine lv_aload_n hx hb dX6_isPassingSound_37 rfl (lv_at hl 1 rfl) ?_
    obtain ⟨y_3, ey_3, hL_y_3, hK_y_3, hp⟩ := hp
    refine w_get (k := 11) (f := 0) (T := TX6) (v := .ref y_3) F hK hW hL_a0 hK_a0 (by decide) rfl rfl (by decide) i_11 k_22 (by rw [show wv 11 0 S a0 = va_rf (sR S a0 0) from rfl, ey_3]; rfl) dX6_isPassingSound_38 ?_
    refine lv_iload_n hx hb dX6_isPassingSound_41 rfl (lv_at hl 3 rfl) ?_
    refine w_callI (va_runV (As := [.int x2]) (rest := []) F (c_X0_rankAt l hL_y_3 hK_y_3 hp H.size) (cwV (C := RX0) 1 hts (wg_V wm_RX6_78 wy_X0_rankAt) rfl rfl rfl (by decide +kernel) ⟨Nat.le_of_ble_eq_true rfl, Nat.le_of_ble_eq_true rfl⟩) (w_preV hK hW hL_y_3 hK_y_3 (by decide) rfl) rfl rfl hl.1 rfl (lv_room (Nat.le_of_ble_eq_true rfl)) dX6_isPassingSound_42 ⟨Nat.le_of_ble_eq_true rfl, Nat.le_of_ble_eq_true rfl⟩) hW (fun r_4 S_5 H locs hp hW => ?_)
    obtain ⟨hX_S_5, hp⟩ := hp
    refine W.widen (k := 0) (n := 0) (by decide) (by decide) ?_
    have hE := hE.trans hX_S_5
    have hK_a0 : sK S_5 a0 = 11 := (hX_S_5.2 a0 hL_a0).1.trans hK_a0
    have hL_a0 : wM D S_5 a0 := hX_S_5.M hL_a0
    have hK_a1 : sK S_5 a1 = 12 := (hX_S_5.2 a1 hL_a1).1.trans hK_a1
    have hL_a1 : wM D S_5 a1 := hX_S_5.M hL_a1
    refine lv_iload_n hx hb dX6_isPassingSound_45 rfl (lv_at hl 0 rfl) ?_
    refine lv_if_eq (tgt := 53) hx hb dX6_isPassingSound_46 (by decide) (fun c_6 => ?_) (fun c_6 => ?_)
    · replace hp := hp.1 c_6
      refine lv_aload_n hx hb dX6_isPassingSound_53 rfl (lv_at hl 1 rfl) ?_
      obtain ⟨y_7, ey_7, hL_y_7, hK_y_7, hp⟩ := hp
      refine w_get (k := 11) (f := 0) (T := TX6) (v := .ref y_7) F hK hW hL_a0 hK_a0 (by decide) rfl rfl (by decide) i_11 k_22 (by rw [show wv 11 0 S_5 a0 = va_rf (sR S_5 a0 0) from rfl, ey_7]; rfl) dX6_isPassingSound_54 ?_
      refine w_getN (k := 5) (f := 1) (T := TX0) (v := .int (sI S_5 y_7 1)) F hK hW hL_y_7 hK_y_7 (by decide) rfl rfl (by decide) i_5 (hK.2.1 (.fieldLinkNest "OpeningsCabinet$Papers" 30 "OpeningsCabinet$Board" "ranks" "I" "OpeningsCabinet") (by decide +kernel)) rfl dX6_isPassingSound_57 ?_
      refine lv_iconst (v := 3) hx hb dX6_isPassingSound_60 (by decide) ?_
      refine lv_isub hx hb dX6_isPassingSound_61 ?_
      exact t_X6_isPassingSound_62 F hr hlocks hK hp hW hE (lv_sub hl [1, 2, 3, 0] rfl) hL_a0 hK_a0 hL_a1 hK_a1
    · replace hp := hp.2 c_6
      refine lv_iconst (v := 2) hx hb dX6_isPassingSound_49 (by decide) ?_
      refine lv_goto (tgt := 62) hx hb dX6_isPassingSound_50 (by decide) ?_
      exact t_X6_isPassingSound_62 F hr hlocks hK hp hW hE (lv_sub hl [1, 2, 3, 0] rfl) hL_a0 hK_a0 hL_a1 hK_a1
set_option maxHeartbeats 4000000 in
set_option maxRecDepth 100000 in
theorem t_X6_isPassingSound_0 {p : Program} {l : Launch} {e : Env} {s : State} {m : MethodId} {args : Array Value} {below : List Frame} {meth : Method} {c : Code} {D : wD} {cy : Nat → ClassId} {X : va_W} {A : Nat → Prop} {S0 : wS} {post : Int32 → wS → Prop} (F : CallFix p m c cX6_isPassingSound 7 s args wz_X6_isPassingSound RX6) (hr : meth.sig.returnType = (some .boolean)) (hlocks : meth.locks = false) (hK : wK D cy A s) : ∀ {S : wS} {H : Heap} {locs : List Loc} {ls : Array Slot} {a0 : Nat} {a1 : Nat}, wp_X6_isPassingSound_0 D post S a0 a1 → wO D cy X A s.heap S H locs → wX D S0 S → lv_has ls 7 [(0, .ref a0), (1, .ref a1)] → wM D S a0 → sK S a0 = 11 → wM D S a1 → sK S a1 = 12 → W p l e r_X6_isPassingSound s m args below meth c H locs 0 0 (MQ below (va_Qi (fun r S9 => wX D S0 S9 ∧ post r S9) (wB D cy X A) A) args s 0 0 A) (F0 m 0 ls []) := by
  obtain ⟨hx, hb, hml, hown, hts⟩ := id F
  have hwg : ∀ w ∈ WG, w.before args s = true := fun w h => hts w (List.mem_cons_of_mem _ h)
  have i_12 : ∀ w ∈ u_ws RX7 TX7 8, w ∈ wz_X6_isPassingSound := fun w h => List.mem_cons_of_mem _ (wu_12 w h)
  intro S H locs ls a0 a1 hp hW hE hl hL_a0 hK_a0 hL_a1 hK_a1
  unfold wp_X6_isPassingSound_0 at hp
  refine lv_aload_n hx hb dX6_isPassingSound_0 rfl (lv_at hl 1 rfl) ?_
  refine w_getN (k := 12) (f := 7) (T := TX7) (v := .int (sI S a1 7)) F hK hW hL_a1 hK_a1 (by decide) rfl rfl (by decide) i_12 (hK.2.1 (.fieldLinkNest "OpeningsCabinet$Papers" 71 "OpeningsCabinet$Position" "passing" "I" "OpeningsCabinet") (by decide +kernel)) rfl dX6_isPassingSound_1 ?_
  refine lv_topi (fun x_1 ex_1 => ?_)
  replace hp := hp x_1 ex_1
  refine lv_istore_n (lv' := [(2, .int x_1), (0, .ref a0), (1, .ref a1)]) hx hb dX6_isPassingSound_4 rfl hl (by decide) rfl (fun ls hl => ?_)
  refine lv_iload_n hx hb dX6_isPassingSound_5 rfl (lv_at hl 0 rfl) ?_
  refine lv_iconst (v := (-1)) hx hb dX6_isPassingSound_6 (by decide) ?_
  refine lv_icmp_ne (tgt := 12) hx hb dX6_isPassingSound_7 (by decide) (fun c_2 => ?_) (fun c_2 => ?_)
  · replace hp := hp.1 c_2
    refine lv_aload_n hx hb dX6_isPassingSound_12 rfl (lv_at hl 2 rfl) ?_
    refine w_getN (k := 12) (f := 5) (T := TX7) (v := .int (sI S a1 5)) F hK hW hL_a1 hK_a1 (by decide) rfl rfl (by decide) i_12 (hK.2.1 (.fieldLinkNest "OpeningsCabinet$Papers" 43 "OpeningsCabinet$Position" "isWhite" "Z" "OpeningsCabinet") (by decide +kernel)) rfl dX6_isPassingSound_13 ?_
    refine lv_if_ne (tgt := 23) hx hb dX6_isPassingSound_16 (by decide) (fun c_3 => ?_) (fun c_3 => ?_)
    · replace hp := hp.1 c_3
      refine lv_iconst (v := 0) hx hb dX6_isPassingSound_23 (by decide) ?_
      exact t_X6_isPassingSound_24 F hr hlocks hK hp hW hE (lv_sub hl [1, 2, 0] rfl) hL_a0 hK_a0 hL_a1 hK_a1
    · replace hp := hp.2 c_3
      refine lv_iconst (v := 1) hx hb dX6_isPassingSound_19 (by decide) ?_
      refine lv_goto (tgt := 24) hx hb dX6_isPassingSound_20 (by decide) ?_
      exact t_X6_isPassingSound_24 F hr hlocks hK hp hW hE (lv_sub hl [1, 2, 0] rfl) hL_a0 hK_a0 hL_a1 hK_a1
  · replace hp := hp.2 c_2
    refine lv_iconst (v := 1) hx hb dX6_isPassingSound_10 (by decide) ?_
    exact w_zret hx hb hr hlocks hW hp.1 ⟨hE, hp.2⟩ dX6_isPassingSound_11
set_option maxHeartbeats 4000000 in
set_option maxRecDepth 100000 in
theorem c_X6_isPassingSound (l : Launch) {D : wD} {cy : Nat → ClassId} {X : va_W} {S0 : wS} {post : Int32 → wS → Prop} {a0 : Nat} {a1 : Nat} (hL_a0 : wM D S0 a0) (hK_a0 : sK S0 a0 = 11) (hL_a1 : wM D S0 a1) (hK_a1 : sK S0 a1 = 12) (hp : wp_X6_isPassingSound D post S0 a0 a1) : mI D cy X l yX6_isPassingSound wz_X6_isPassingSound r_X6_isPassingSound [.ref a0, .ref a1] S0 (fun r S9 => wX D S0 S9 ∧ post r S9) := by
  intro sz
  refine Met.ofW (cc := cX6_isPassingSound) (maxL := 7) (ret := (some .boolean)) (by decide) rfl ?_
  intro p e s m args below meth c s₁ B hml hv
  obtain ⟨rfl, hsz, hP, hK, hD0, hRO⟩ := hv
  have hts := atoms_spec (ws := wz_X6_isPassingSound) B.pre
  have hown : s.vm.findClass RX6 = some m.cls := findClass_of_methodNamed B.named
  subst hsz
  have hD := hD0.self (sz := s.heap.size)
  have F : CallFix p m c cX6_isPassingSound 7 s _ wz_X6_isPassingSound RX6 := ⟨B.exec, B.bytes, hml, hown, hts⟩
  have hr := B.returns
  have hlocks := B.notSynchronized
  generalize hAe : va_A (wL cy X S0) s.heap.size = A at hD hK ⊢
  have hA : ∀ q, s.heap.size ≤ q → A q := fun q h => by rw [← hAe]; exact Or.inr h
  have hW : wO D cy X A s.heap S0 s.heap [] := ⟨hP, hD, va_S.rf, hA, hRO⟩
  have hl := lv_entry ([.ref a0, .ref a1]) (n := 7) (Nat.le_of_ble_eq_true rfl)
  rw [lg_entry_eq]
  generalize (lg_sl ([.ref a0, .ref a1]) ++ List.replicate (7 - (lg_sl ([.ref a0, .ref a1])).length) Slot.unset).toArray = ls at hl ⊢
  have hl : lv_has ls 7 [(0, .ref a0), (1, .ref a1)] := hl
  unfold wp_X6_isPassingSound at hp
  exact t_X6_isPassingSound_0 F hr hlocks hK hp hW wX.rf (lv_sub hl [0, 1] rfl) hL_a0 hK_a0 hL_a1 hK_a1
def wp_X6_isSame_52 (D : wD) (post : Int32 → wS → Prop)  (S : wS) : Prop :=
narrow .boolean (.int (1 : Int32)) = .int (1 : Int32) ∧ post (1 : Int32) S
def wp_X6_isSame_15 (D : wD) (post : Int32 → wS → Prop)  : Nat → wS → Nat → Nat → Int32 → Prop
  | 0, _, _, _, _ => False
  | n + 1, S, a0, a1, x2 =>
    wp_J4_length_8abf5 D (fun r_1 S_2 => 
    ((r_1 ≤ x2 → wp_X6_isSame_52 D post S_2) ∧
     (¬ r_1 ≤ x2 → wp_J4_length_8abf5 D (fun r_4 S_5 => 
    ((r_4 ≤ x2 → wp_X6_isSame_52 D post S_5) ∧
     (¬ r_4 ≤ x2 → wp_J4_charAt_5068e D (fun r_7 S_8 => 
    wp_J4_charAt_5068e D (fun r_9 S_10 => 
    ((r_7 = r_9 → ∀ x_12 : Int32, x_12 = x2 + 1 →
    wp_X6_isSame_15 D post n S_10 a0 a1 x_12) ∧
     (¬ r_7 = r_9 → narrow .boolean (.int (0 : Int32)) = .int (0 : Int32) ∧ post (0 : Int32) S_10))) S_8 a1 x2) S_5 a0 x2))) S_2 a1))) S a0
def wp_X6_isSame_0 (D : wD) (post : Int32 → wS → Prop)  (S : wS) (a0 : Nat) (a1 : Nat) : Prop :=
wp_J4_length_8abf5 D (fun r_1 S_2 => 
wp_J4_length_8abf5 D (fun r_3 S_4 => 
((r_1 = r_3 → ∃ n_6 : Nat, wp_X6_isSame_15 D post n_6 S_4 a0 a1 (0 : Int32)) ∧
 (¬ r_1 = r_3 → narrow .boolean (.int (0 : Int32)) = .int (0 : Int32) ∧ post (0 : Int32) S_4))) S_2 a1) S a0
abbrev r_X6_isSame : Room := { frames := 4, cells := 0, slots := 0, locals := 86 }
def wp_X6_isSame (D : wD) (post : Int32 → wS → Prop) (S : wS) (a0 : Nat) (a1 : Nat) : Prop := wp_X6_isSame_0 D post S a0 a1
set_option maxHeartbeats 4000000 in
set_option maxRecDepth 100000 in
theorem t_X6_isSame_52 {p : Program} {l : Launch} {e : Env} {s : State} {m : MethodId} {args : Array Value} {below : List Frame} {meth : Method} {c : Code} {D : wD} {cy : Nat → ClassId} {X : va_W} {A : Nat → Prop} {S0 : wS} {post : Int32 → wS → Prop} (F : CallFix p m c cX6_isSame 3 s args wz_X6_isSame RX6) (hr : meth.sig.returnType = (some .boolean)) (hlocks : meth.locks = false) (hK : wK D cy A s) : ∀ {S : wS} {H : Heap} {locs : List Loc} {ls : Array Slot}, wp_X6_isSame_52 D post S → wO D cy X A s.heap S H locs → wX D S0 S → lv_has ls 3 [] → W p l e r_X6_isSame s m args below meth c H locs 0 0 (MQ below (va_Qi (fun r S9 => wX D S0 S9 ∧ post r S9) (wB D cy X A) A) args s 0 0 A) (F0 m 52 ls []) := by
  obtain ⟨hx, hb, hml, hown, hts⟩ := id F
  have hwg : ∀ w ∈ WG, w.before args s = true := fun w h => hts w (List.mem_cons_of_mem _ h)
  intro S H locs ls hp hW hE hl
  unfold wp_X6_isSame_52 at hp
  refine lv_iconst (v := 1) hx hb dX6_isSame_52 (by decide) ?_
  exact w_zret hx hb hr hlocks hW hp.1 ⟨hE, hp.2⟩ dX6_isSame_53
set_option maxHeartbeats 4000000 in
set_option maxRecDepth 100000 in
theorem t_X6_isSame_15 {p : Program} {l : Launch} {e : Env} {s : State} {m : MethodId} {args : Array Value} {below : List Frame} {meth : Method} {c : Code} {D : wD} {cy : Nat → ClassId} {X : va_W} {A : Nat → Prop} {S0 : wS} {post : Int32 → wS → Prop} (F : CallFix p m c cX6_isSame 3 s args wz_X6_isSame RX6) (hr : meth.sig.returnType = (some .boolean)) (hlocks : meth.locks = false) (hK : wK D cy A s) : ∀ (n : Nat) {S : wS} {H : Heap} {locs : List Loc} {ls : Array Slot} {a0 : Nat} {a1 : Nat} {x2 : Int32}, wp_X6_isSame_15 D post n S a0 a1 x2 → wO D cy X A s.heap S H locs → wX D S0 S → lv_has ls 3 [(0, .ref a0), (1, .ref a1), (2, .int x2)] → wM D S a0 → sK S a0 = 1 → wM D S a1 → sK S a1 = 1 → W p l e r_X6_isSame s m args below meth c H locs 0 0 (MQ below (va_Qi (fun r S9 => wX D S0 S9 ∧ post r S9) (wB D cy X A) A) args s 0 0 A) (F0 m 15 ls []) := by
  obtain ⟨hx, hb, hml, hown, hts⟩ := id F
  have hwg : ∀ w ∈ WG, w.before args s = true := fun w h => hts w (List.mem_cons_of_mem _ h)
  intro n
  induction n with
  | zero =>
    intro S H locs ls a0 a1 x2 hp
    exact hp.elim
  | succ n ih =>
    intro S H locs ls a0 a1 x2 hp hW hE hl hL_a0 hK_a0 hL_a1 hK_a1
    unfold wp_X6_isSame_15 at hp
    refine lv_iload_n hx hb dX6_isSame_15 rfl (lv_at hl 2 rfl) ?_
    refine lv_aload_n hx hb dX6_isSame_16 rfl (lv_at hl 0 rfl) ?_
    refine w_callI (va_runV (As := []) (rest := [.int x2]) F (c_J4_length_8abf5 l hL_a0 hK_a0 hp H.size) (cwV (C := RJ4) 0 hts (wg_V wm_RX6_125 wy_J4_length_8abf5) rfl rfl rfl (by decide +kernel) ⟨Nat.le_of_ble_eq_true rfl, Nat.le_of_ble_eq_true rfl⟩) (w_preV hK hW hL_a0 hK_a0 (by decide) rfl) rfl rfl hl.1 rfl (lv_room (Nat.le_of_ble_eq_true rfl)) dX6_isSame_17 ⟨Nat.le_of_ble_eq_true rfl, Nat.le_of_ble_eq_true rfl⟩) hW (fun r_1 S_2 H locs hp hW => ?_)
    obtain ⟨hX_S_2, hp⟩ := hp
    refine W.widen (k := 0) (n := 0) (by decide) (by decide) ?_
    have hE := hE.trans hX_S_2
    have hK_a0 : sK S_2 a0 = 1 := (hX_S_2.2 a0 hL_a0).1.trans hK_a0
    have hL_a0 : wM D S_2 a0 := hX_S_2.M hL_a0
    have hK_a1 : sK S_2 a1 = 1 := (hX_S_2.2 a1 hL_a1).1.trans hK_a1
    have hL_a1 : wM D S_2 a1 := hX_S_2.M hL_a1
    refine lv_icmp_ge (tgt := 52) hx hb dX6_isSame_20 (by decide) (fun c_3 => ?_) (fun c_3 => ?_)
    · replace hp := hp.1 c_3
      exact t_X6_isSame_52 F hr hlocks hK hp hW hE (lv_sub hl [] rfl)
    · replace hp := hp.2 c_3
      refine lv_iload_n hx hb dX6_isSame_23 rfl (lv_at hl 2 rfl) ?_
      refine lv_aload_n hx hb dX6_isSame_24 rfl (lv_at hl 1 rfl) ?_
      refine w_callI (va_runV (As := []) (rest := [.int x2]) F (c_J4_length_8abf5 l hL_a1 hK_a1 hp H.size) (cwV (C := RJ4) 0 hts (wg_V wm_RX6_125 wy_J4_length_8abf5) rfl rfl rfl (by decide +kernel) ⟨Nat.le_of_ble_eq_true rfl, Nat.le_of_ble_eq_true rfl⟩) (w_preV hK hW hL_a1 hK_a1 (by decide) rfl) rfl rfl hl.1 rfl (lv_room (Nat.le_of_ble_eq_true rfl)) dX6_isSame_25 ⟨Nat.le_of_ble_eq_true rfl, Nat.le_of_ble_eq_true rfl⟩) hW (fun r_4 S_5 H locs hp hW => ?_)
      obtain ⟨hX_S_5, hp⟩ := hp
      refine W.widen (k := 0) (n := 0) (by decide) (by decide) ?_
      have hE := hE.trans hX_S_5
      have hK_a0 : sK S_5 a0 = 1 := (hX_S_5.2 a0 hL_a0).1.trans hK_a0
      have hL_a0 : wM D S_5 a0 := hX_S_5.M hL_a0
      have hK_a1 : sK S_5 a1 = 1 := (hX_S_5.2 a1 hL_a1).1.trans hK_a1
      have hL_a1 : wM D S_5 a1 := hX_S_5.M hL_a1
      refine lv_icmp_ge (tgt := 52) hx hb dX6_isSame_28 (by decide) (fun c_6 => ?_) (fun c_6 => ?_)
      · replace hp := hp.1 c_6
        exact t_X6_isSame_52 F hr hlocks hK hp hW hE (lv_sub hl [] rfl)
      · replace hp := hp.2 c_6
        refine lv_aload_n hx hb dX6_isSame_31 rfl (lv_at hl 0 rfl) ?_
        refine lv_iload_n hx hb dX6_isSame_32 rfl (lv_at hl 2 rfl) ?_
        refine w_callI (va_runV (As := [.int x2]) (rest := []) F (c_J4_charAt_5068e l hL_a0 hK_a0 hp H.size) (cwV (C := RJ4) 1 hts (wg_V wm_RX6_126 wy_J4_charAt_5068e) rfl rfl rfl (by decide +kernel) ⟨Nat.le_of_ble_eq_true rfl, Nat.le_of_ble_eq_true rfl⟩) (w_preV hK hW hL_a0 hK_a0 (by decide) rfl) rfl rfl hl.1 rfl (lv_room (Nat.le_of_ble_eq_true rfl)) dX6_isSame_33 ⟨Nat.le_of_ble_eq_true rfl, Nat.le_of_ble_eq_true rfl⟩) hW (fun r_7 S_8 H locs hp hW => ?_)
        obtain ⟨hX_S_8, hp⟩ := hp
        refine W.widen (k := 0) (n := 0) (by decide) (by decide) ?_
        have hE := hE.trans hX_S_8
        have hK_a0 : sK S_8 a0 = 1 := (hX_S_8.2 a0 hL_a0).1.trans hK_a0
        have hL_a0 : wM D S_8 a0 := hX_S_8.M hL_a0
        have hK_a1 : sK S_8 a1 = 1 := (hX_S_8.2 a1 hL_a1).1.trans hK_a1
        have hL_a1 : wM D S_8 a1 := hX_S_8.M hL_a1
        refine lv_aload_n hx hb dX6_isSame_36 rfl (lv_at hl 1 rfl) ?_
        refine lv_iload_n hx hb dX6_isSame_37 rfl (lv_at hl 2 rfl) ?_
        refine w_callI (va_runV (As := [.int x2]) (rest := [.int r_7]) F (c_J4_charAt_5068e l hL_a1 hK_a1 hp H.size) (cwV (C := RJ4) 1 hts (wg_V wm_RX6_126 wy_J4_charAt_5068e) rfl rfl rfl (by decide +kernel) ⟨Nat.le_of_ble_eq_true rfl, Nat.le_of_ble_eq_true rfl⟩) (w_preV hK hW hL_a1 hK_a1 (by decide) rfl) rfl rfl hl.1 rfl (lv_room (Nat.le_of_ble_eq_true rfl)) dX6_isSame_38 ⟨Nat.le_of_ble_eq_true rfl, Nat.le_of_ble_eq_true rfl⟩) hW (fun r_9 S_10 H locs hp hW => ?_)
        obtain ⟨hX_S_10, hp⟩ := hp
        refine W.widen (k := 0) (n := 0) (by decide) (by decide) ?_
        have hE := hE.trans hX_S_10
        have hK_a0 : sK S_10 a0 = 1 := (hX_S_10.2 a0 hL_a0).1.trans hK_a0
        have hL_a0 : wM D S_10 a0 := hX_S_10.M hL_a0
        have hK_a1 : sK S_10 a1 = 1 := (hX_S_10.2 a1 hL_a1).1.trans hK_a1
        have hL_a1 : wM D S_10 a1 := hX_S_10.M hL_a1
        refine lv_icmp_eq (tgt := 46) hx hb dX6_isSame_41 (by decide) (fun c_11 => ?_) (fun c_11 => ?_)
        · replace hp := hp.1 c_11
          obtain ⟨x_12, ex_12⟩ : ∃ z : Int32, z = x2 + 1 := ⟨_, rfl⟩
          replace hp := hp x_12 ex_12
          refine lv_iinc (v := x_12) (lv' := [(2, .int x_12), (0, .ref a0), (1, .ref a1)]) hx hb dX6_isSame_46 hl (k := 2) rfl (by rw [ex_12]; rfl) (by decide) rfl (fun ls hl => ?_)
          refine lv_goto (tgt := 15) hx hb dX6_isSame_49 (by decide) ?_
          exact ih hp hW hE (lv_sub hl [1, 2, 0] rfl) hL_a0 hK_a0 hL_a1 hK_a1
        · replace hp := hp.2 c_11
          refine lv_iconst (v := 0) hx hb dX6_isSame_44 (by decide) ?_
          exact w_zret hx hb hr hlocks hW hp.1 ⟨hE, hp.2⟩ dX6_isSame_45
set_option maxHeartbeats 4000000 in
set_option maxRecDepth 100000 in
theorem t_X6_isSame_0 {p : Program} {l : Launch} {e : Env} {s : State} {m : MethodId} {args : Array Value} {below : List Frame} {meth : Method} {c : Code} {D : wD} {cy : Nat → ClassId} {X : va_W} {A : Nat → Prop} {S0 : wS} {post : Int32 → wS → Prop} (F : CallFix p m c cX6_isSame 3 s args wz_X6_isSame RX6) (hr : meth.sig.returnType = (some .boolean)) (hlocks : meth.locks = false) (hK : wK D cy A s) : ∀ {S : wS} {H : Heap} {locs : List Loc} {ls : Array Slot} {a0 : Nat} {a1 : Nat}, wp_X6_isSame_0 D post S a0 a1 → wO D cy X A s.heap S H locs → wX D S0 S → lv_has ls 3 [(0, .ref a0), (1, .ref a1)] → wM D S a0 → sK S a0 = 1 → wM D S a1 → sK S a1 = 1 → W p l e r_X6_isSame s m args below meth c H locs 0 0 (MQ below (va_Qi (fun r S9 => wX D S0 S9 ∧ post r S9) (wB D cy X A) A) args s 0 0 A) (F0 m 0 ls []) := by
  obtain ⟨hx, hb, hml, hown, hts⟩ := id F
  have hwg : ∀ w ∈ WG, w.before args s = true := fun w h => hts w (List.mem_cons_of_mem _ h)
  intro S H locs ls a0 a1 hp hW hE hl hL_a0 hK_a0 hL_a1 hK_a1
  unfold wp_X6_isSame_0 at hp
  refine lv_aload_n hx hb dX6_isSame_0 rfl (lv_at hl 0 rfl) ?_
  refine w_callI (va_runV (As := []) (rest := []) F (c_J4_length_8abf5 l hL_a0 hK_a0 hp H.size) (cwV (C := RJ4) 0 hts (wg_V wm_RX6_125 wy_J4_length_8abf5) rfl rfl rfl (by decide +kernel) ⟨Nat.le_of_ble_eq_true rfl, Nat.le_of_ble_eq_true rfl⟩) (w_preV hK hW hL_a0 hK_a0 (by decide) rfl) rfl rfl hl.1 rfl (lv_room (Nat.le_of_ble_eq_true rfl)) dX6_isSame_1 ⟨Nat.le_of_ble_eq_true rfl, Nat.le_of_ble_eq_true rfl⟩) hW (fun r_1 S_2 H locs hp hW => ?_)
  obtain ⟨hX_S_2, hp⟩ := hp
  refine W.widen (k := 0) (n := 0) (by decide) (by decide) ?_
  have hE := hE.trans hX_S_2
  have hK_a0 : sK S_2 a0 = 1 := (hX_S_2.2 a0 hL_a0).1.trans hK_a0
  have hL_a0 : wM D S_2 a0 := hX_S_2.M hL_a0
  have hK_a1 : sK S_2 a1 = 1 := (hX_S_2.2 a1 hL_a1).1.trans hK_a1
  have hL_a1 : wM D S_2 a1 := hX_S_2.M hL_a1
  refine lv_aload_n hx hb dX6_isSame_4 rfl (lv_at hl 1 rfl) ?_
  refine w_callI (va_runV (As := []) (rest := [.int r_1]) F (c_J4_length_8abf5 l hL_a1 hK_a1 hp H.size) (cwV (C := RJ4) 0 hts (wg_V wm_RX6_125 wy_J4_length_8abf5) rfl rfl rfl (by decide +kernel) ⟨Nat.le_of_ble_eq_true rfl, Nat.le_of_ble_eq_true rfl⟩) (w_preV hK hW hL_a1 hK_a1 (by decide) rfl) rfl rfl hl.1 rfl (lv_room (Nat.le_of_ble_eq_true rfl)) dX6_isSame_5 ⟨Nat.le_of_ble_eq_true rfl, Nat.le_of_ble_eq_true rfl⟩) hW (fun r_3 S_4 H locs hp hW => ?_)
  obtain ⟨hX_S_4, hp⟩ := hp
  refine W.widen (k := 0) (n := 0) (by decide) (by decide) ?_
  have hE := hE.trans hX_S_4
  have hK_a0 : sK S_4 a0 = 1 := (hX_S_4.2 a0 hL_a0).1.trans hK_a0
  have hL_a0 : wM D S_4 a0 := hX_S_4.M hL_a0
  have hK_a1 : sK S_4 a1 = 1 := (hX_S_4.2 a1 hL_a1).1.trans hK_a1
  have hL_a1 : wM D S_4 a1 := hX_S_4.M hL_a1
  refine lv_icmp_eq (tgt := 13) hx hb dX6_isSame_8 (by decide) (fun c_5 => ?_) (fun c_5 => ?_)
  · replace hp := hp.1 c_5
    refine lv_iconst (v := 0) hx hb dX6_isSame_13 (by decide) ?_
    refine lv_istore_n (lv' := [(2, .int (0 : Int32)), (0, .ref a0), (1, .ref a1)]) hx hb dX6_isSame_14 rfl hl (by decide) rfl (fun ls hl => ?_)
    obtain ⟨n_6, hp⟩ := hp
    exact t_X6_isSame_15 F hr hlocks hK n_6 hp hW hE (lv_sub hl [1, 2, 0] rfl) hL_a0 hK_a0 hL_a1 hK_a1
  · replace hp := hp.2 c_5
    refine lv_iconst (v := 0) hx hb dX6_isSame_11 (by decide) ?_
    exact w_zret hx hb hr hlocks hW hp.1 ⟨hE, hp.2⟩ dX6_isSame_12
set_option maxHeartbeats 4000000 in
set_option maxRecDepth 100000 in
theorem c_X6_isSame (l : Launch) {D : wD} {cy : Nat → ClassId} {X : va_W} {S0 : wS} {post : Int32 → wS → Prop} {a0 : Nat} {a1 : Nat} (hL_a0 : wM D S0 a0) (hK_a0 : sK S0 a0 = 1) (hL_a1 : wM D S0 a1) (hK_a1 : sK S0 a1 = 1) (hp : wp_X6_isSame D post S0 a0 a1) : mI D cy X l yX6_isSame wz_X6_isSame r_X6_isSame [.ref a0, .ref a1] S0 (fun r S9 => wX D S0 S9 ∧ post r S9) := by
  intro sz
  refine Met.ofW (cc := cX6_isSame) (maxL := 3) (ret := (some .boolean)) (by decide) rfl ?_
  intro p e s m args below meth c s₁ B hml hv
  obtain ⟨rfl, hsz, hP, hK, hD0, hRO⟩ := hv
  have hts := atoms_spec (ws := wz_X6_isSame) B.pre
  have hown : s.vm.findClass RX6 = some m.cls := findClass_of_methodNamed B.named
  subst hsz
  have hD := hD0.self (sz := s.heap.size)
  have F : CallFix p m c cX6_isSame 3 s _ wz_X6_isSame RX6 := ⟨B.exec, B.bytes, hml, hown, hts⟩
  have hr := B.returns
  have hlocks := B.notSynchronized
  generalize hAe : va_A (wL cy X S0) s.heap.size = A at hD hK ⊢
  have hA : ∀ q, s.heap.size ≤ q → A q := fun q h => by rw [← hAe]; exact Or.inr h
  have hW : wO D cy X A s.heap S0 s.heap [] := ⟨hP, hD, va_S.rf, hA, hRO⟩
  have hl := lv_entry ([.ref a0, .ref a1]) (n := 3) (Nat.le_of_ble_eq_true rfl)
  rw [lg_entry_eq]
  generalize (lg_sl ([.ref a0, .ref a1]) ++ List.replicate (3 - (lg_sl ([.ref a0, .ref a1])).length) Slot.unset).toArray = ls at hl ⊢
  have hl : lv_has ls 3 [(0, .ref a0), (1, .ref a1)] := hl
  unfold wp_X6_isSame at hp
  exact t_X6_isSame_0 F hr hlocks hK hp hW wX.rf (lv_sub hl [0, 1] rfl) hL_a0 hK_a0 hL_a1 hK_a1
def wp_X6_next_29 (D : wD) (post : Int32 → wS → Prop)  (S : wS) (a0 : Nat) (x2 : Int32) : Prop :=
∀ S_1 : wS, S_1 = uI S a0 2 ((sI S a0 2) + (1 : Int32)) →
narrow .char (.int x2) = .int x2 ∧ post x2 S_1
def wp_X6_next_0 (D : wD) (post : Int32 → wS → Prop)  (S : wS) (a0 : Nat) (a1 : Nat) : Prop :=
(((sI S a0 2) < 0 → wp_X6_next_29 D post S a0 (0 : Int32)) ∧
 (¬ (sI S a0 2) < 0 → wp_J4_length_8abf5 D (fun r_2 S_3 => 
((r_2 ≤ (sI S a0 2) → wp_X6_next_29 D post S_3 a0 (0 : Int32)) ∧
 (¬ r_2 ≤ (sI S a0 2) → wp_J4_charAt_5068e D (fun r_5 S_6 => 
wp_X6_next_29 D post S_6 a0 r_5) S_3 a1 (sI S_3 a0 2)))) S a1))
abbrev r_X6_next : Room := { frames := 4, cells := 0, slots := 0, locals := 86 }
def wp_X6_next (D : wD) (post : Int32 → wS → Prop) (S : wS) (a0 : Nat) (a1 : Nat) : Prop := wp_X6_next_0 D post S a0 a1
set_option maxHeartbeats 4000000 in
set_option maxRecDepth 100000 in
theorem t_X6_next_29 {p : Program} {l : Launch} {e : Env} {s : State} {m : MethodId} {args : Array Value} {below : List Frame} {meth : Method} {c : Code} {D : wD} {cy : Nat → ClassId} {X : va_W} {A : Nat → Prop} {S0 : wS} {post : Int32 → wS → Prop} (F : CallFix p m c cX6_next 3 s args wz_X6_next RX6) (hr : meth.sig.returnType = (some .char)) (hlocks : meth.locks = false) (hK : wK D cy A s) : ∀ {S : wS} {H : Heap} {locs : List Loc} {ls : Array Slot} {a0 : Nat} {x2 : Int32}, wp_X6_next_29 D post S a0 x2 → wO D cy X A s.heap S H locs → wX D S0 S → lv_has ls 3 [(0, .ref a0), (2, .int x2)] → wM D S a0 → sK S a0 = 11 → W p l e r_X6_next s m args below meth c H locs 0 0 (MQ below (va_Qi (fun r S9 => wX D S0 S9 ∧ post r S9) (wB D cy X A) A) args s 0 0 A) (F0 m 29 ls []) := by
  obtain ⟨hx, hb, hml, hown, hts⟩ := id F
  have hwg : ∀ w ∈ WG, w.before args s = true := fun w h => hts w (List.mem_cons_of_mem _ h)
  have i_11 : ∀ w ∈ u_ws RX6 TX6 3, w ∈ wz_X6_next := fun w h => List.mem_cons_of_mem _ (wu_11 w h)
  have k_18 := hwg _ wf_RX6_18
  intro S H locs ls a0 x2 hp hW hE hl hL_a0 hK_a0
  unfold wp_X6_next_29 at hp
  refine lv_aload_n hx hb dX6_next_29 rfl (lv_at hl 0 rfl) ?_
  refine lv_dup hx hb dX6_next_30 rfl ?_
  refine w_get (k := 11) (f := 2) (T := TX6) (v := .int (sI S a0 2)) F hK hW hL_a0 hK_a0 (by decide) rfl rfl (by decide) i_11 k_18 rfl dX6_next_31 ?_
  refine lv_iconst (v := 1) hx hb dX6_next_34 (by decide) ?_
  refine lv_iadd hx hb dX6_next_35 ?_
  refine w_putI (k := 11) (f := 2) (T := TX6) F hK hW hL_a0 hK_a0 (by decide) (by decide) rfl rfl (by decide) i_11 tyX6 tyX6_ok nmX6 k_18 rfl rfl (ty := .int) rfl rfl rfl dX6_next_36 (fun H locs hW => ?_)
  obtain ⟨S_1, eS_1⟩ : ∃ z : wS, z = uI S a0 2 ((sI S a0 2) + (1 : Int32)) := ⟨_, rfl⟩
  rw [← eS_1] at hW
  replace hp := hp S_1 eS_1
  have hX_S_1 : wX D S S_1 := by rw [eS_1]; exact wX_uI
  have hE := hE.trans hX_S_1
  have hK_a0 : sK S_1 a0 = 11 := (hX_S_1.2 a0 hL_a0).1.trans hK_a0
  have hL_a0 : wM D S_1 a0 := hX_S_1.M hL_a0
  refine lv_iload_n hx hb dX6_next_39 rfl (lv_at hl 1 rfl) ?_
  exact w_zret hx hb hr hlocks hW hp.1 ⟨hE, hp.2⟩ dX6_next_40
set_option maxHeartbeats 4000000 in
set_option maxRecDepth 100000 in
theorem t_X6_next_0 {p : Program} {l : Launch} {e : Env} {s : State} {m : MethodId} {args : Array Value} {below : List Frame} {meth : Method} {c : Code} {D : wD} {cy : Nat → ClassId} {X : va_W} {A : Nat → Prop} {S0 : wS} {post : Int32 → wS → Prop} (F : CallFix p m c cX6_next 3 s args wz_X6_next RX6) (hr : meth.sig.returnType = (some .char)) (hlocks : meth.locks = false) (hK : wK D cy A s) : ∀ {S : wS} {H : Heap} {locs : List Loc} {ls : Array Slot} {a0 : Nat} {a1 : Nat}, wp_X6_next_0 D post S a0 a1 → wO D cy X A s.heap S H locs → wX D S0 S → lv_has ls 3 [(0, .ref a0), (1, .ref a1)] → wM D S a0 → sK S a0 = 11 → wM D S a1 → sK S a1 = 1 → W p l e r_X6_next s m args below meth c H locs 0 0 (MQ below (va_Qi (fun r S9 => wX D S0 S9 ∧ post r S9) (wB D cy X A) A) args s 0 0 A) (F0 m 0 ls []) := by
  obtain ⟨hx, hb, hml, hown, hts⟩ := id F
  have hwg : ∀ w ∈ WG, w.before args s = true := fun w h => hts w (List.mem_cons_of_mem _ h)
  have i_11 : ∀ w ∈ u_ws RX6 TX6 3, w ∈ wz_X6_next := fun w h => List.mem_cons_of_mem _ (wu_11 w h)
  have k_18 := hwg _ wf_RX6_18
  intro S H locs ls a0 a1 hp hW hE hl hL_a0 hK_a0 hL_a1 hK_a1
  unfold wp_X6_next_0 at hp
  refine lv_iconst (v := 0) hx hb dX6_next_0 (by decide) ?_
  refine lv_istore_n (lv' := [(2, .int (0 : Int32)), (0, .ref a0), (1, .ref a1)]) hx hb dX6_next_1 rfl hl (by decide) rfl (fun ls hl => ?_)
  refine lv_aload_n hx hb dX6_next_2 rfl (lv_at hl 1 rfl) ?_
  refine w_get (k := 11) (f := 2) (T := TX6) (v := .int (sI S a0 2)) F hK hW hL_a0 hK_a0 (by decide) rfl rfl (by decide) i_11 k_18 rfl dX6_next_3 ?_
  refine lv_if_lt (tgt := 29) hx hb dX6_next_6 (by decide) (fun c_1 => ?_) (fun c_1 => ?_)
  · replace hp := hp.1 c_1
    exact t_X6_next_29 F hr hlocks hK hp hW hE (lv_sub hl [1, 0] rfl) hL_a0 hK_a0
  · replace hp := hp.2 c_1
    refine lv_aload_n hx hb dX6_next_9 rfl (lv_at hl 1 rfl) ?_
    refine w_get (k := 11) (f := 2) (T := TX6) (v := .int (sI S a0 2)) F hK hW hL_a0 hK_a0 (by decide) rfl rfl (by decide) i_11 k_18 rfl dX6_next_10 ?_
    refine lv_aload_n hx hb dX6_next_13 rfl (lv_at hl 2 rfl) ?_
    refine w_callI (va_runV (As := []) (rest := [.int (sI S a0 2)]) F (c_J4_length_8abf5 l hL_a1 hK_a1 hp H.size) (cwV (C := RJ4) 0 hts (wg_V wm_RX6_125 wy_J4_length_8abf5) rfl rfl rfl (by decide +kernel) ⟨Nat.le_of_ble_eq_true rfl, Nat.le_of_ble_eq_true rfl⟩) (w_preV hK hW hL_a1 hK_a1 (by decide) rfl) rfl rfl hl.1 rfl (lv_room (Nat.le_of_ble_eq_true rfl)) dX6_next_14 ⟨Nat.le_of_ble_eq_true rfl, Nat.le_of_ble_eq_true rfl⟩) hW (fun r_2 S_3 H locs hp hW => ?_)
    obtain ⟨hX_S_3, hp⟩ := hp
    refine W.widen (k := 0) (n := 0) (by decide) (by decide) ?_
    have hE := hE.trans hX_S_3
    have hK_a0 : sK S_3 a0 = 11 := (hX_S_3.2 a0 hL_a0).1.trans hK_a0
    have hL_a0 : wM D S_3 a0 := hX_S_3.M hL_a0
    have hK_a1 : sK S_3 a1 = 1 := (hX_S_3.2 a1 hL_a1).1.trans hK_a1
    have hL_a1 : wM D S_3 a1 := hX_S_3.M hL_a1
    refine lv_icmp_ge (tgt := 29) hx hb dX6_next_17 (by decide) (fun c_4 => ?_) (fun c_4 => ?_)
    · replace hp := hp.1 c_4
      exact t_X6_next_29 F hr hlocks hK hp hW hE (lv_sub hl [1, 0] rfl) hL_a0 hK_a0
    · replace hp := hp.2 c_4
      refine lv_aload_n hx hb dX6_next_20 rfl (lv_at hl 2 rfl) ?_
      refine lv_aload_n hx hb dX6_next_21 rfl (lv_at hl 1 rfl) ?_
      refine w_get (k := 11) (f := 2) (T := TX6) (v := .int (sI S_3 a0 2)) F hK hW hL_a0 hK_a0 (by decide) rfl rfl (by decide) i_11 k_18 rfl dX6_next_22 ?_
      refine w_callI (va_runV (As := [.int (sI S_3 a0 2)]) (rest := []) F (c_J4_charAt_5068e l hL_a1 hK_a1 hp H.size) (cwV (C := RJ4) 1 hts (wg_V wm_RX6_126 wy_J4_charAt_5068e) rfl rfl rfl (by decide +kernel) ⟨Nat.le_of_ble_eq_true rfl, Nat.le_of_ble_eq_true rfl⟩) (w_preV hK hW hL_a1 hK_a1 (by decide) rfl) rfl rfl hl.1 rfl (lv_room (Nat.le_of_ble_eq_true rfl)) dX6_next_25 ⟨Nat.le_of_ble_eq_true rfl, Nat.le_of_ble_eq_true rfl⟩) hW (fun r_5 S_6 H locs hp hW => ?_)
      obtain ⟨hX_S_6, hp⟩ := hp
      refine W.widen (k := 0) (n := 0) (by decide) (by decide) ?_
      have hE := hE.trans hX_S_6
      have hK_a0 : sK S_6 a0 = 11 := (hX_S_6.2 a0 hL_a0).1.trans hK_a0
      have hL_a0 : wM D S_6 a0 := hX_S_6.M hL_a0
      have hK_a1 : sK S_6 a1 = 1 := (hX_S_6.2 a1 hL_a1).1.trans hK_a1
      have hL_a1 : wM D S_6 a1 := hX_S_6.M hL_a1
      refine lv_istore_n (lv' := [(2, .int r_5), (0, .ref a0), (1, .ref a1)]) hx hb dX6_next_28 rfl hl (by decide) rfl (fun ls hl => ?_)
      exact t_X6_next_29 F hr hlocks hK hp hW hE (lv_sub hl [1, 0] rfl) hL_a0 hK_a0
set_option maxHeartbeats 4000000 in
set_option maxRecDepth 100000 in
theorem c_X6_next (l : Launch) {D : wD} {cy : Nat → ClassId} {X : va_W} {S0 : wS} {post : Int32 → wS → Prop} {a0 : Nat} {a1 : Nat} (hL_a0 : wM D S0 a0) (hK_a0 : sK S0 a0 = 11) (hL_a1 : wM D S0 a1) (hK_a1 : sK S0 a1 = 1) (hp : wp_X6_next D post S0 a0 a1) : mI D cy X l yX6_next wz_X6_next r_X6_next [.ref a0, .ref a1] S0 (fun r S9 => wX D S0 S9 ∧ post r S9) := by
  intro sz
  refine Met.ofW (cc := cX6_next) (maxL := 3) (ret := (some .char)) (by decide) rfl ?_
  intro p e s m args below meth c s₁ B hml hv
  obtain ⟨rfl, hsz, hP, hK, hD0, hRO⟩ := hv
  have hts := atoms_spec (ws := wz_X6_next) B.pre
  have hown : s.vm.findClass RX6 = some m.cls := findClass_of_methodNamed B.named
  subst hsz
  have hD := hD0.self (sz := s.heap.size)
  have F : CallFix p m c cX6_next 3 s _ wz_X6_next RX6 := ⟨B.exec, B.bytes, hml, hown, hts⟩
  have hr := B.returns
  have hlocks := B.notSynchronized
  generalize hAe : va_A (wL cy X S0) s.heap.size = A at hD hK ⊢
  have hA : ∀ q, s.heap.size ≤ q → A q := fun q h => by rw [← hAe]; exact Or.inr h
  have hW : wO D cy X A s.heap S0 s.heap [] := ⟨hP, hD, va_S.rf, hA, hRO⟩
  have hl := lv_entry ([.ref a0, .ref a1]) (n := 3) (Nat.le_of_ble_eq_true rfl)
  rw [lg_entry_eq]
  generalize (lg_sl ([.ref a0, .ref a1]) ++ List.replicate (3 - (lg_sl ([.ref a0, .ref a1])).length) Slot.unset).toArray = ls at hl ⊢
  have hl : lv_has ls 3 [(0, .ref a0), (1, .ref a1)] := hl
  unfold wp_X6_next at hp
  exact t_X6_next_0 F hr hlocks hK hp hW wX.rf (lv_sub hl [0, 1] rfl) hL_a0 hK_a0 hL_a1 hK_a1
def wp_X6_readPassing_67 (D : wD) (post : wS → Prop)  (S : wS) : Prop :=
post S
def wp_X6_readPassing_0 (D : wD) (post : wS → Prop)  (S : wS) (a0 : Nat) (a1 : Nat) (a2 : Nat) : Prop :=
wp_X6_next D (fun r_1 S_2 => 
∀ x_3 : Int32, x_3 = (r_1 - (97 : Int32)) →
wp_X6_next D (fun r_4 S_5 => 
∀ x_6 : Int32, x_6 = (r_4 - (49 : Int32)) →
((x_3 < 0 → wp_X6_readPassing_67 D post S_5) ∧
 (¬ x_3 < 0 → ∃ y_8 : Nat, sR S_5 a0 0 = some y_8 ∧ wM D S_5 y_8 ∧ sK S_5 y_8 = 5 ∧
(((sI S_5 y_8 0) ≤ x_3 → wp_X6_readPassing_67 D post S_5) ∧
 (¬ (sI S_5 y_8 0) ≤ x_3 → ((x_6 < 0 → wp_X6_readPassing_67 D post S_5) ∧
 (¬ x_6 < 0 → ∃ y_11 : Nat, sR S_5 a0 0 = some y_11 ∧ wM D S_5 y_11 ∧ sK S_5 y_11 = 5 ∧
(((sI S_5 y_11 1) ≤ x_6 → wp_X6_readPassing_67 D post S_5) ∧
 (¬ (sI S_5 y_11 1) ≤ x_6 → ∃ y_13 : Nat, sR S_5 a0 0 = some y_13 ∧ wM D S_5 y_13 ∧ sK S_5 y_13 = 5 ∧
∀ S_14 : wS, S_14 = uI S_5 a2 7 ((x_6 * (sI S_5 y_13 0)) + x_3) →
wp_X6_readPassing_67 D post S_14))))))))) S_2 a0 a1) S a0 a1
abbrev r_X6_readPassing : Room := { frames := 5, cells := 0, slots := 0, locals := 108 }
def wp_X6_readPassing (D : wD) (post : wS → Prop) (S : wS) (a0 : Nat) (a1 : Nat) (a2 : Nat) : Prop := wp_X6_readPassing_0 D post S a0 a1 a2
set_option maxHeartbeats 4000000 in
set_option maxRecDepth 100000 in
theorem t_X6_readPassing_67 {p : Program} {l : Launch} {e : Env} {s : State} {m : MethodId} {args : Array Value} {below : List Frame} {meth : Method} {c : Code} {D : wD} {cy : Nat → ClassId} {X : va_W} {A : Nat → Prop} {S0 : wS} {post : wS → Prop} (F : CallFix p m c cX6_readPassing 5 s args wz_X6_readPassing RX6) (hr : meth.sig.returnType = none) (hlocks : meth.locks = false) (hK : wK D cy A s) : ∀ {S : wS} {H : Heap} {locs : List Loc} {ls : Array Slot}, wp_X6_readPassing_67 D post S → wO D cy X A s.heap S H locs → wX D S0 S → lv_has ls 5 [] → W p l e r_X6_readPassing s m args below meth c H locs 0 0 (MQ below (va_Qv (fun S9 => wX D S0 S9 ∧ post S9) (wB D cy X A) A) args s 0 0 A) (F0 m 67 ls []) := by
  obtain ⟨hx, hb, hml, hown, hts⟩ := id F
  have hwg : ∀ w ∈ WG, w.before args s = true := fun w h => hts w (List.mem_cons_of_mem _ h)
  intro S H locs ls hp hW hE hl
  unfold wp_X6_readPassing_67 at hp
  exact w_vret hx hb hr hlocks hW ⟨hE, hp⟩ dX6_readPassing_67
set_option maxHeartbeats 4000000 in
set_option maxRecDepth 100000 in
theorem t_X6_readPassing_0 {p : Program} {l : Launch} {e : Env} {s : State} {m : MethodId} {args : Array Value} {below : List Frame} {meth : Method} {c : Code} {D : wD} {cy : Nat → ClassId} {X : va_W} {A : Nat → Prop} {S0 : wS} {post : wS → Prop} (F : CallFix p m c cX6_readPassing 5 s args wz_X6_readPassing RX6) (hr : meth.sig.returnType = none) (hlocks : meth.locks = false) (hK : wK D cy A s) : ∀ {S : wS} {H : Heap} {locs : List Loc} {ls : Array Slot} {a0 : Nat} {a1 : Nat} {a2 : Nat}, wp_X6_readPassing_0 D post S a0 a1 a2 → wO D cy X A s.heap S H locs → wX D S0 S → lv_has ls 5 [(0, .ref a0), (1, .ref a1), (2, .ref a2)] → wM D S a0 → sK S a0 = 11 → wM D S a1 → sK S a1 = 1 → wM D S a2 → sK S a2 = 12 → W p l e r_X6_readPassing s m args below meth c H locs 0 0 (MQ below (va_Qv (fun S9 => wX D S0 S9 ∧ post S9) (wB D cy X A) A) args s 0 0 A) (F0 m 0 ls []) := by
  obtain ⟨hx, hb, hml, hown, hts⟩ := id F
  have hwg : ∀ w ∈ WG, w.before args s = true := fun w h => hts w (List.mem_cons_of_mem _ h)
  have i_11 : ∀ w ∈ u_ws RX6 TX6 3, w ∈ wz_X6_readPassing := fun w h => List.mem_cons_of_mem _ (wu_11 w h)
  have i_12 : ∀ w ∈ u_ws RX7 TX7 8, w ∈ wz_X6_readPassing := fun w h => List.mem_cons_of_mem _ (wu_12 w h)
  have i_5 : ∀ w ∈ u_ws RX0 TX0 12, w ∈ wz_X6_readPassing := fun w h => List.mem_cons_of_mem _ (wu_5 w h)
  have k_22 := hwg _ wf_RX6_22
  intro S H locs ls a0 a1 a2 hp hW hE hl hL_a0 hK_a0 hL_a1 hK_a1 hL_a2 hK_a2
  unfold wp_X6_readPassing_0 at hp
  refine lv_aload_n hx hb dX6_readPassing_0 rfl (lv_at hl 0 rfl) ?_
  refine lv_aload_n hx hb dX6_readPassing_1 rfl (lv_at hl 1 rfl) ?_
  refine w_callI (va_runV (As := [.ref a1]) (rest := []) F (c_X6_next l hL_a0 hK_a0 hL_a1 hK_a1 hp H.size) (cwV (C := RX6) 1 hts (wg_V wm_RX6_99 wy_X6_next) rfl rfl rfl (by decide +kernel) ⟨Nat.le_of_ble_eq_true rfl, Nat.le_of_ble_eq_true rfl⟩) (w_preV hK hW hL_a0 hK_a0 (by decide) rfl) rfl rfl hl.1 rfl (lv_room (Nat.le_of_ble_eq_true rfl)) dX6_readPassing_2 ⟨Nat.le_of_ble_eq_true rfl, Nat.le_of_ble_eq_true rfl⟩) hW (fun r_1 S_2 H locs hp hW => ?_)
  obtain ⟨hX_S_2, hp⟩ := hp
  refine W.widen (k := 0) (n := 0) (by decide) (by decide) ?_
  have hE := hE.trans hX_S_2
  have hK_a0 : sK S_2 a0 = 11 := (hX_S_2.2 a0 hL_a0).1.trans hK_a0
  have hL_a0 : wM D S_2 a0 := hX_S_2.M hL_a0
  have hK_a1 : sK S_2 a1 = 1 := (hX_S_2.2 a1 hL_a1).1.trans hK_a1
  have hL_a1 : wM D S_2 a1 := hX_S_2.M hL_a1
  have hK_a2 : sK S_2 a2 = 12 := (hX_S_2.2 a2 hL_a2).1.trans hK_a2
  have hL_a2 : wM D S_2 a2 := hX_S_2.M hL_a2
  refine lv_bipush (v := 97) hx hb dX6_readPassing_5 (by decide) ?_
  refine lv_isub hx hb dX6_readPassing_7 ?_
  refine lv_topi (fun x_3 ex_3 => ?_)
  replace hp := hp x_3 ex_3
  refine lv_istore_n (lv' := [(3, .int x_3), (0, .ref a0), (1, .ref a1), (2, .ref a2)]) hx hb dX6_readPassing_8 rfl hl (by decide) rfl (fun ls hl => ?_)
  refine lv_aload_n hx hb dX6_readPassing_9 rfl (lv_at hl 1 rfl) ?_
  refine lv_aload_n hx hb dX6_readPassing_10 rfl (lv_at hl 2 rfl) ?_
  refine w_callI (va_runV (As := [.ref a1]) (rest := []) F (c_X6_next l hL_a0 hK_a0 hL_a1 hK_a1 hp H.size) (cwV (C := RX6) 1 hts (wg_V wm_RX6_99 wy_X6_next) rfl rfl rfl (by decide +kernel) ⟨Nat.le_of_ble_eq_true rfl, Nat.le_of_ble_eq_true rfl⟩) (w_preV hK hW hL_a0 hK_a0 (by decide) rfl) rfl rfl hl.1 rfl (lv_room (Nat.le_of_ble_eq_true rfl)) dX6_readPassing_11 ⟨Nat.le_of_ble_eq_true rfl, Nat.le_of_ble_eq_true rfl⟩) hW (fun r_4 S_5 H locs hp hW => ?_)
  obtain ⟨hX_S_5, hp⟩ := hp
  refine W.widen (k := 0) (n := 0) (by decide) (by decide) ?_
  have hE := hE.trans hX_S_5
  have hK_a0 : sK S_5 a0 = 11 := (hX_S_5.2 a0 hL_a0).1.trans hK_a0
  have hL_a0 : wM D S_5 a0 := hX_S_5.M hL_a0
  have hK_a1 : sK S_5 a1 = 1 := (hX_S_5.2 a1 hL_a1).1.trans hK_a1
  have hL_a1 : wM D S_5 a1 := hX_S_5.M hL_a1
  have hK_a2 : sK S_5 a2 = 12 := (hX_S_5.2 a2 hL_a2).1.trans hK_a2
  have hL_a2 : wM D S_5 a2 := hX_S_5.M hL_a2
  refine lv_bipush (v := 49) hx hb dX6_readPassing_14 (by decide) ?_
  refine lv_isub hx hb dX6_readPassing_16 ?_
  refine lv_topi (fun x_6 ex_6 => ?_)
  replace hp := hp x_6 ex_6
  refine lv_istore (lv' := [(4, .int x_6), (3, .int x_3), (0, .ref a0), (1, .ref a1), (2, .ref a2)]) hx hb dX6_readPassing_17 hl (by decide) rfl (fun ls hl => ?_)
  refine lv_iload_n hx hb dX6_readPassing_19 rfl (lv_at hl 1 rfl) ?_
  refine lv_if_lt (tgt := 67) hx hb dX6_readPassing_20 (by decide) (fun c_7 => ?_) (fun c_7 => ?_)
  · replace hp := hp.1 c_7
    exact t_X6_readPassing_67 F hr hlocks hK hp hW hE (lv_sub hl [] rfl)
  · replace hp := hp.2 c_7
    refine lv_iload_n hx hb dX6_readPassing_23 rfl (lv_at hl 1 rfl) ?_
    refine lv_aload_n hx hb dX6_readPassing_24 rfl (lv_at hl 2 rfl) ?_
    obtain ⟨y_8, ey_8, hL_y_8, hK_y_8, hp⟩ := hp
    refine w_get (k := 11) (f := 0) (T := TX6) (v := .ref y_8) F hK hW hL_a0 hK_a0 (by decide) rfl rfl (by decide) i_11 k_22 (by rw [show wv 11 0 S_5 a0 = va_rf (sR S_5 a0 0) from rfl, ey_8]; rfl) dX6_readPassing_25 ?_
    refine w_getN (k := 5) (f := 0) (T := TX0) (v := .int (sI S_5 y_8 0)) F hK hW hL_y_8 hK_y_8 (by decide) rfl rfl (by decide) i_5 (hK.2.1 (.fieldLinkNest "OpeningsCabinet$Papers" 81 "OpeningsCabinet$Board" "files" "I" "OpeningsCabinet") (by decide +kernel)) rfl dX6_readPassing_28 ?_
    refine lv_icmp_ge (tgt := 67) hx hb dX6_readPassing_31 (by decide) (fun c_9 => ?_) (fun c_9 => ?_)
    · replace hp := hp.1 c_9
      exact t_X6_readPassing_67 F hr hlocks hK hp hW hE (lv_sub hl [] rfl)
    · replace hp := hp.2 c_9
      refine lv_iload hx hb dX6_readPassing_34 (lv_at hl 0 rfl) ?_
      refine lv_if_lt (tgt := 67) hx hb dX6_readPassing_36 (by decide) (fun c_10 => ?_) (fun c_10 => ?_)
      · replace hp := hp.1 c_10
        exact t_X6_readPassing_67 F hr hlocks hK hp hW hE (lv_sub hl [] rfl)
      · replace hp := hp.2 c_10
        refine lv_iload hx hb dX6_readPassing_39 (lv_at hl 0 rfl) ?_
        refine lv_aload_n hx hb dX6_readPassing_41 rfl (lv_at hl 2 rfl) ?_
        obtain ⟨y_11, ey_11, hL_y_11, hK_y_11, hp⟩ := hp
        refine w_get (k := 11) (f := 0) (T := TX6) (v := .ref y_11) F hK hW hL_a0 hK_a0 (by decide) rfl rfl (by decide) i_11 k_22 (by rw [show wv 11 0 S_5 a0 = va_rf (sR S_5 a0 0) from rfl, ey_11]; rfl) dX6_readPassing_42 ?_
        refine w_getN (k := 5) (f := 1) (T := TX0) (v := .int (sI S_5 y_11 1)) F hK hW hL_y_11 hK_y_11 (by decide) rfl rfl (by decide) i_5 (hK.2.1 (.fieldLinkNest "OpeningsCabinet$Papers" 30 "OpeningsCabinet$Board" "ranks" "I" "OpeningsCabinet") (by decide +kernel)) rfl dX6_readPassing_45 ?_
        refine lv_icmp_ge (tgt := 67) hx hb dX6_readPassing_48 (by decide) (fun c_12 => ?_) (fun c_12 => ?_)
        · replace hp := hp.1 c_12
          exact t_X6_readPassing_67 F hr hlocks hK hp hW hE (lv_sub hl [] rfl)
        · replace hp := hp.2 c_12
          refine lv_aload_n hx hb dX6_readPassing_51 rfl (lv_at hl 4 rfl) ?_
          refine lv_iload hx hb dX6_readPassing_52 (lv_at hl 0 rfl) ?_
          refine lv_aload_n hx hb dX6_readPassing_54 rfl (lv_at hl 2 rfl) ?_
          obtain ⟨y_13, ey_13, hL_y_13, hK_y_13, hp⟩ := hp
          refine w_get (k := 11) (f := 0) (T := TX6) (v := .ref y_13) F hK hW hL_a0 hK_a0 (by decide) rfl rfl (by decide) i_11 k_22 (by rw [show wv 11 0 S_5 a0 = va_rf (sR S_5 a0 0) from rfl, ey_13]; rfl) dX6_readPassing_55 ?_
          refine w_getN (k := 5) (f := 0) (T := TX0) (v := .int (sI S_5 y_13 0)) F hK hW hL_y_13 hK_y_13 (by decide) rfl rfl (by decide) i_5 (hK.2.1 (.fieldLinkNest "OpeningsCabinet$Papers" 81 "OpeningsCabinet$Board" "files" "I" "OpeningsCabinet") (by decide +kernel)) rfl dX6_readPassing_58 ?_
          refine lv_imul hx hb dX6_readPassing_61 ?_
          refine lv_iload_n hx hb dX6_readPassing_62 rfl (lv_at hl 1 rfl) ?_
          refine lv_iadd hx hb dX6_readPassing_63 ?_
          refine w_putIN (k := 12) (f := 7) (T := TX7) F hK hW hL_a2 hK_a2 (by decide) (by decide) rfl rfl (by decide) i_12 tyX7 tyX7_ok nmX7 (hK.2.1 (.fieldLinkNest "OpeningsCabinet$Papers" 71 "OpeningsCabinet$Position" "passing" "I" "OpeningsCabinet") (by decide +kernel)) rfl rfl (ty := .int) rfl rfl rfl dX6_readPassing_64 (fun H locs hW => ?_)
          obtain ⟨S_14, eS_14⟩ : ∃ z : wS, z = uI S_5 a2 7 ((x_6 * (sI S_5 y_13 0)) + x_3) := ⟨_, rfl⟩
          rw [← eS_14] at hW
          replace hp := hp S_14 eS_14
          have hX_S_14 : wX D S_5 S_14 := by rw [eS_14]; exact wX_uI
          have hE := hE.trans hX_S_14
          have hK_a0 : sK S_14 a0 = 11 := (hX_S_14.2 a0 hL_a0).1.trans hK_a0
          have hL_a0 : wM D S_14 a0 := hX_S_14.M hL_a0
          have hK_a1 : sK S_14 a1 = 1 := (hX_S_14.2 a1 hL_a1).1.trans hK_a1
          have hL_a1 : wM D S_14 a1 := hX_S_14.M hL_a1
          have hK_a2 : sK S_14 a2 = 12 := (hX_S_14.2 a2 hL_a2).1.trans hK_a2
          have hL_a2 : wM D S_14 a2 := hX_S_14.M hL_a2
          exact t_X6_readPassing_67 F hr hlocks hK hp hW hE (lv_sub hl [] rfl)
set_option maxHeartbeats 4000000 in
set_option maxRecDepth 100000 in
theorem c_X6_readPassing (l : Launch) {D : wD} {cy : Nat → ClassId} {X : va_W} {S0 : wS} {post : wS → Prop} {a0 : Nat} {a1 : Nat} {a2 : Nat} (hL_a0 : wM D S0 a0) (hK_a0 : sK S0 a0 = 11) (hL_a1 : wM D S0 a1) (hK_a1 : sK S0 a1 = 1) (hL_a2 : wM D S0 a2) (hK_a2 : sK S0 a2 = 12) (hp : wp_X6_readPassing D post S0 a0 a1 a2) : mV D cy X l yX6_readPassing wz_X6_readPassing r_X6_readPassing [.ref a0, .ref a1, .ref a2] S0 (fun S9 => wX D S0 S9 ∧ post S9) := by
  intro sz
  refine Met.ofW (cc := cX6_readPassing) (maxL := 5) (ret := none) (by decide) rfl ?_
  intro p e s m args below meth c s₁ B hml hv
  obtain ⟨rfl, hsz, hP, hK, hD0, hRO⟩ := hv
  have hts := atoms_spec (ws := wz_X6_readPassing) B.pre
  have hown : s.vm.findClass RX6 = some m.cls := findClass_of_methodNamed B.named
  subst hsz
  have hD := hD0.self (sz := s.heap.size)
  have F : CallFix p m c cX6_readPassing 5 s _ wz_X6_readPassing RX6 := ⟨B.exec, B.bytes, hml, hown, hts⟩
  have hr := B.returns
  have hlocks := B.notSynchronized
  generalize hAe : va_A (wL cy X S0) s.heap.size = A at hD hK ⊢
  have hA : ∀ q, s.heap.size ≤ q → A q := fun q h => by rw [← hAe]; exact Or.inr h
  have hW : wO D cy X A s.heap S0 s.heap [] := ⟨hP, hD, va_S.rf, hA, hRO⟩
  have hl := lv_entry ([.ref a0, .ref a1, .ref a2]) (n := 5) (Nat.le_of_ble_eq_true rfl)
  rw [lg_entry_eq]
  generalize (lg_sl ([.ref a0, .ref a1, .ref a2]) ++ List.replicate (5 - (lg_sl ([.ref a0, .ref a1, .ref a2])).length) Slot.unset).toArray = ls at hl ⊢
  have hl : lv_has ls 5 [(0, .ref a0), (1, .ref a1), (2, .ref a2)] := hl
  unfold wp_X6_readPassing at hp
  exact t_X6_readPassing_0 F hr hlocks hK hp hW wX.rf (lv_sub hl [0, 1, 2] rfl) hL_a0 hK_a0 hL_a1 hK_a1 hL_a2 hK_a2
def wp_X6_readRights_64 (D : wD) (post : wS → Prop)  (S : wS) (a0 : Nat) : Prop :=
∀ S_1 : wS, S_1 = uI S a0 2 ((sI S a0 2) - (1 : Int32)) →
post S_1
def wp_X6_readRights_16 (D : wD) (post : wS → Prop)  : Nat → wS → Nat → Nat → Nat → Int32 → Int32 → Prop
  | 0, _, _, _, _, _, _ => False
  | n + 1, S, a0, a1, a2, x3, x4 =>
    ∀ y_1 : Nat, y_1 = D.2.2.1 10 →
    wp_J0_length_8abf5 D (fun r_2 S_3 => 
    ((r_2 ≤ x4 → wp_X6_readRights_64 D post S_3 a0) ∧
     (¬ r_2 ≤ x4 → ∀ y_5 : Nat, y_5 = D.2.2.1 10 →
    wp_J0_indexOf_0f7a4 D (fun r_6 S_7 => 
    ((r_6 < 0 → wp_X6_readRights_64 D post S_7 a0) ∧
     (¬ r_6 < 0 → ∀ y_9 : Nat, y_9 = D.2.2.1 10 →
    wp_J0_indexOf_0f7a4 D (fun r_10 S_11 => 
    ∀ S_12 : wS, S_12 = uI S_11 a2 6 ((sI S_7 a2 6) ||| ((1 : Int32) <<< (r_10 &&& 31))) →
    wp_X6_next D (fun r_13 S_14 => 
    ∀ x_15 : Int32, x_15 = x4 + 1 →
    wp_X6_readRights_16 D post n S_14 a0 a1 a2 r_13 x_15) S_12 a0 a1) S_7 y_9 x3))) S_3 y_5 x3))) S y_1
def wp_X6_readRights_0 (D : wD) (post : wS → Prop)  (S : wS) (a0 : Nat) (a1 : Nat) (a2 : Nat) : Prop :=
wp_X6_next D (fun r_1 S_2 => 
((¬ r_1 = (45 : Int32) → ∃ n_4 : Nat, wp_X6_readRights_16 D post n_4 S_2 a0 a1 a2 r_1 (0 : Int32)) ∧
 (r_1 = (45 : Int32) → post S_2))) S a0 a1
abbrev r_X6_readRights : Room := { frames := 7, cells := 0, slots := 0, locals := 154 }
def wp_X6_readRights (D : wD) (post : wS → Prop) (S : wS) (a0 : Nat) (a1 : Nat) (a2 : Nat) : Prop := wp_X6_readRights_0 D post S a0 a1 a2
set_option maxHeartbeats 4000000 in
set_option maxRecDepth 100000 in
theorem t_X6_readRights_64 {p : Program} {l : Launch} {e : Env} {s : State} {m : MethodId} {args : Array Value} {below : List Frame} {meth : Method} {c : Code} {D : wD} {cy : Nat → ClassId} {X : va_W} {A : Nat → Prop} {S0 : wS} {post : wS → Prop} (F : CallFix p m c cX6_readRights 5 s args wz_X6_readRights RX6) (hr : meth.sig.returnType = none) (hlocks : meth.locks = false) (hK : wK D cy A s) : ∀ {S : wS} {H : Heap} {locs : List Loc} {ls : Array Slot} {a0 : Nat}, wp_X6_readRights_64 D post S a0 → wO D cy X A s.heap S H locs → wX D S0 S → lv_has ls 5 [(0, .ref a0)] → wM D S a0 → sK S a0 = 11 → W p l e r_X6_readRights s m args below meth c H locs 0 0 (MQ below (va_Qv (fun S9 => wX D S0 S9 ∧ post S9) (wB D cy X A) A) args s 0 0 A) (F0 m 64 ls []) := by
  obtain ⟨hx, hb, hml, hown, hts⟩ := id F
  have hwg : ∀ w ∈ WG, w.before args s = true := fun w h => hts w (List.mem_cons_of_mem _ h)
  have i_11 : ∀ w ∈ u_ws RX6 TX6 3, w ∈ wz_X6_readRights := fun w h => List.mem_cons_of_mem _ (wu_11 w h)
  have k_18 := hwg _ wf_RX6_18
  intro S H locs ls a0 hp hW hE hl hL_a0 hK_a0
  unfold wp_X6_readRights_64 at hp
  refine lv_aload_n hx hb dX6_readRights_64 rfl (lv_at hl 0 rfl) ?_
  refine lv_dup hx hb dX6_readRights_65 rfl ?_
  refine w_get (k := 11) (f := 2) (T := TX6) (v := .int (sI S a0 2)) F hK hW hL_a0 hK_a0 (by decide) rfl rfl (by decide) i_11 k_18 rfl dX6_readRights_66 ?_
  refine lv_iconst (v := 1) hx hb dX6_readRights_69 (by decide) ?_
  refine lv_isub hx hb dX6_readRights_70 ?_
  refine w_putI (k := 11) (f := 2) (T := TX6) F hK hW hL_a0 hK_a0 (by decide) (by decide) rfl rfl (by decide) i_11 tyX6 tyX6_ok nmX6 k_18 rfl rfl (ty := .int) rfl rfl rfl dX6_readRights_71 (fun H locs hW => ?_)
  obtain ⟨S_1, eS_1⟩ : ∃ z : wS, z = uI S a0 2 ((sI S a0 2) - (1 : Int32)) := ⟨_, rfl⟩
  rw [← eS_1] at hW
  replace hp := hp S_1 eS_1
  have hX_S_1 : wX D S S_1 := by rw [eS_1]; exact wX_uI
  have hE := hE.trans hX_S_1
  have hK_a0 : sK S_1 a0 = 11 := (hX_S_1.2 a0 hL_a0).1.trans hK_a0
  have hL_a0 : wM D S_1 a0 := hX_S_1.M hL_a0
  exact w_vret hx hb hr hlocks hW ⟨hE, hp⟩ dX6_readRights_74
set_option maxHeartbeats 4000000 in
set_option maxRecDepth 100000 in
theorem t_X6_readRights_16 {p : Program} {l : Launch} {e : Env} {s : State} {m : MethodId} {args : Array Value} {below : List Frame} {meth : Method} {c : Code} {D : wD} {cy : Nat → ClassId} {X : va_W} {A : Nat → Prop} {S0 : wS} {post : wS → Prop} (F : CallFix p m c cX6_readRights 5 s args wz_X6_readRights RX6) (hr : meth.sig.returnType = none) (hlocks : meth.locks = false) (hK : wK D cy A s) : ∀ (n : Nat) {S : wS} {H : Heap} {locs : List Loc} {ls : Array Slot} {a0 : Nat} {a1 : Nat} {a2 : Nat} {x3 : Int32} {x4 : Int32}, wp_X6_readRights_16 D post n S a0 a1 a2 x3 x4 → wO D cy X A s.heap S H locs → wX D S0 S → lv_has ls 5 [(0, .ref a0), (1, .ref a1), (2, .ref a2), (3, .int x3), (4, .int x4)] → wM D S a0 → sK S a0 = 11 → wM D S a1 → sK S a1 = 1 → wM D S a2 → sK S a2 = 12 → W p l e r_X6_readRights s m args below meth c H locs 0 0 (MQ below (va_Qv (fun S9 => wX D S0 S9 ∧ post S9) (wB D cy X A) A) args s 0 0 A) (F0 m 16 ls []) := by
  obtain ⟨hx, hb, hml, hown, hts⟩ := id F
  have hwg : ∀ w ∈ WG, w.before args s = true := fun w h => hts w (List.mem_cons_of_mem _ h)
  have i_12 : ∀ w ∈ u_ws RX7 TX7 8, w ∈ wz_X6_readRights := fun w h => List.mem_cons_of_mem _ (wu_12 w h)
  intro n
  induction n with
  | zero =>
    intro S H locs ls a0 a1 a2 x3 x4 hp
    exact hp.elim
  | succ n ih =>
    intro S H locs ls a0 a1 a2 x3 x4 hp hW hE hl hL_a0 hK_a0 hL_a1 hK_a1 hL_a2 hK_a2
    unfold wp_X6_readRights_16 at hp
    refine lv_iload hx hb dX6_readRights_16 (lv_at hl 4 rfl) ?_
    refine w_str F hK (show ("OpeningsCabinet$Papers", 59, "KQkq", 10) ∈ wStr by decide +kernel) dX6_readRights_18 ?_
    obtain ⟨y_1, ey_1⟩ : ∃ z : Nat, z = D.2.2.1 10 := ⟨_, rfl⟩
    rw [← ey_1]
    replace hp := hp y_1 ey_1
    obtain ⟨hL_y_1, hK_y_1⟩ : wM D S y_1 ∧ sK S y_1 = 0 := by rw [ey_1]; exact w_strM hK hW (show ("OpeningsCabinet$Papers", 59, "KQkq", 10) ∈ wStr by decide +kernel)
    refine w_callI (va_runV (As := []) (rest := [.int x4]) F (c_J0_length_8abf5 l hL_y_1 hK_y_1 hp H.size) (cwV (C := RJ0) 0 hts (wg_V wm_RX6_61 wy_J0_length_8abf5) rfl rfl rfl (by decide +kernel) ⟨Nat.le_of_ble_eq_true rfl, Nat.le_of_ble_eq_true rfl⟩) (w_preV hK hW hL_y_1 hK_y_1 (by decide) rfl) rfl rfl hl.1 rfl (lv_room (Nat.le_of_ble_eq_true rfl)) dX6_readRights_20 ⟨Nat.le_of_ble_eq_true rfl, Nat.le_of_ble_eq_true rfl⟩) hW (fun r_2 S_3 H locs hp hW => ?_)
    obtain ⟨hX_S_3, hp⟩ := hp
    refine W.widen (k := 0) (n := 0) (by decide) (by decide) ?_
    have hE := hE.trans hX_S_3
    have hK_a0 : sK S_3 a0 = 11 := (hX_S_3.2 a0 hL_a0).1.trans hK_a0
    have hL_a0 : wM D S_3 a0 := hX_S_3.M hL_a0
    have hK_a1 : sK S_3 a1 = 1 := (hX_S_3.2 a1 hL_a1).1.trans hK_a1
    have hL_a1 : wM D S_3 a1 := hX_S_3.M hL_a1
    have hK_a2 : sK S_3 a2 = 12 := (hX_S_3.2 a2 hL_a2).1.trans hK_a2
    have hL_a2 : wM D S_3 a2 := hX_S_3.M hL_a2
    refine lv_icmp_ge (tgt := 64) hx hb dX6_readRights_23 (by decide) (fun c_4 => ?_) (fun c_4 => ?_)
    · replace hp := hp.1 c_4
      exact t_X6_readRights_64 F hr hlocks hK hp hW hE (lv_sub hl [0] rfl) hL_a0 hK_a0
    · replace hp := hp.2 c_4
      refine w_str F hK (show ("OpeningsCabinet$Papers", 59, "KQkq", 10) ∈ wStr by decide +kernel) dX6_readRights_26 ?_
      obtain ⟨y_5, ey_5⟩ : ∃ z : Nat, z = D.2.2.1 10 := ⟨_, rfl⟩
      rw [← ey_5]
      replace hp := hp y_5 ey_5
      obtain ⟨hL_y_5, hK_y_5⟩ : wM D S_3 y_5 ∧ sK S_3 y_5 = 0 := by rw [ey_5]; exact w_strM hK hW (show ("OpeningsCabinet$Papers", 59, "KQkq", 10) ∈ wStr by decide +kernel)
      refine lv_iload_n hx hb dX6_readRights_28 rfl (lv_at hl 3 rfl) ?_
      refine w_callI (va_runV (As := [.int x3]) (rest := []) F (c_J0_indexOf_0f7a4 l hL_y_5 hK_y_5 hp H.size) (cwV (C := RJ0) 1 hts (wg_V wm_RX6_127 wy_J0_indexOf_0f7a4) rfl rfl rfl (by decide +kernel) ⟨Nat.le_of_ble_eq_true rfl, Nat.le_of_ble_eq_true rfl⟩) (w_preV hK hW hL_y_5 hK_y_5 (by decide) rfl) rfl rfl hl.1 rfl (lv_room (Nat.le_of_ble_eq_true rfl)) dX6_readRights_29 ⟨Nat.le_of_ble_eq_true rfl, Nat.le_of_ble_eq_true rfl⟩) hW (fun r_6 S_7 H locs hp hW => ?_)
      obtain ⟨hX_S_7, hp⟩ := hp
      refine W.widen (k := 0) (n := 0) (by decide) (by decide) ?_
      have hE := hE.trans hX_S_7
      have hK_a0 : sK S_7 a0 = 11 := (hX_S_7.2 a0 hL_a0).1.trans hK_a0
      have hL_a0 : wM D S_7 a0 := hX_S_7.M hL_a0
      have hK_a1 : sK S_7 a1 = 1 := (hX_S_7.2 a1 hL_a1).1.trans hK_a1
      have hL_a1 : wM D S_7 a1 := hX_S_7.M hL_a1
      have hK_a2 : sK S_7 a2 = 12 := (hX_S_7.2 a2 hL_a2).1.trans hK_a2
      have hL_a2 : wM D S_7 a2 := hX_S_7.M hL_a2
      refine lv_if_lt (tgt := 64) hx hb dX6_readRights_32 (by decide) (fun c_8 => ?_) (fun c_8 => ?_)
      · replace hp := hp.1 c_8
        exact t_X6_readRights_64 F hr hlocks hK hp hW hE (lv_sub hl [0] rfl) hL_a0 hK_a0
      · replace hp := hp.2 c_8
        refine lv_aload_n hx hb dX6_readRights_35 rfl (lv_at hl 2 rfl) ?_
        refine lv_dup hx hb dX6_readRights_36 rfl ?_
        refine w_getN (k := 12) (f := 6) (T := TX7) (v := .int (sI S_7 a2 6)) F hK hW hL_a2 hK_a2 (by decide) rfl rfl (by decide) i_12 (hK.2.1 (.fieldLinkNest "OpeningsCabinet$Papers" 56 "OpeningsCabinet$Position" "rights" "I" "OpeningsCabinet") (by decide +kernel)) rfl dX6_readRights_37 ?_
        refine lv_iconst (v := 1) hx hb dX6_readRights_40 (by decide) ?_
        refine w_str F hK (show ("OpeningsCabinet$Papers", 59, "KQkq", 10) ∈ wStr by decide +kernel) dX6_readRights_41 ?_
        obtain ⟨y_9, ey_9⟩ : ∃ z : Nat, z = D.2.2.1 10 := ⟨_, rfl⟩
        rw [← ey_9]
        replace hp := hp y_9 ey_9
        obtain ⟨hL_y_9, hK_y_9⟩ : wM D S_7 y_9 ∧ sK S_7 y_9 = 0 := by rw [ey_9]; exact w_strM hK hW (show ("OpeningsCabinet$Papers", 59, "KQkq", 10) ∈ wStr by decide +kernel)
        refine lv_iload_n hx hb dX6_readRights_43 rfl (lv_at hl 3 rfl) ?_
        refine w_callI (va_runV (As := [.int x3]) (rest := [.int (1 : Int32), .int (sI S_7 a2 6), .ref a2]) F (c_J0_indexOf_0f7a4 l hL_y_9 hK_y_9 hp H.size) (cwV (C := RJ0) 1 hts (wg_V wm_RX6_127 wy_J0_indexOf_0f7a4) rfl rfl rfl (by decide +kernel) ⟨Nat.le_of_ble_eq_true rfl, Nat.le_of_ble_eq_true rfl⟩) (w_preV hK hW hL_y_9 hK_y_9 (by decide) rfl) rfl rfl hl.1 rfl (lv_room (Nat.le_of_ble_eq_true rfl)) dX6_readRights_44 ⟨Nat.le_of_ble_eq_true rfl, Nat.le_of_ble_eq_true rfl⟩) hW (fun r_10 S_11 H locs hp hW => ?_)
        obtain ⟨hX_S_11, hp⟩ := hp
        refine W.widen (k := 0) (n := 0) (by decide) (by decide) ?_
        have hE := hE.trans hX_S_11
        have hK_a0 : sK S_11 a0 = 11 := (hX_S_11.2 a0 hL_a0).1.trans hK_a0
        have hL_a0 : wM D S_11 a0 := hX_S_11.M hL_a0
        have hK_a1 : sK S_11 a1 = 1 := (hX_S_11.2 a1 hL_a1).1.trans hK_a1
        have hL_a1 : wM D S_11 a1 := hX_S_11.M hL_a1
        have hK_a2 : sK S_11 a2 = 12 := (hX_S_11.2 a2 hL_a2).1.trans hK_a2
        have hL_a2 : wM D S_11 a2 := hX_S_11.M hL_a2
        refine lv_ishl hx hb dX6_readRights_47 ?_
        refine lv_ior hx hb dX6_readRights_48 ?_
        refine w_putIN (k := 12) (f := 6) (T := TX7) F hK hW hL_a2 hK_a2 (by decide) (by decide) rfl rfl (by decide) i_12 tyX7 tyX7_ok nmX7 (hK.2.1 (.fieldLinkNest "OpeningsCabinet$Papers" 56 "OpeningsCabinet$Position" "rights" "I" "OpeningsCabinet") (by decide +kernel)) rfl rfl (ty := .int) rfl rfl rfl dX6_readRights_49 (fun H locs hW => ?_)
        obtain ⟨S_12, eS_12⟩ : ∃ z : wS, z = uI S_11 a2 6 ((sI S_7 a2 6) ||| ((1 : Int32) <<< (r_10 &&& 31))) := ⟨_, rfl⟩
        rw [← eS_12] at hW
        replace hp := hp S_12 eS_12
        have hX_S_12 : wX D S_11 S_12 := by rw [eS_12]; exact wX_uI
        have hE := hE.trans hX_S_12
        have hK_a0 : sK S_12 a0 = 11 := (hX_S_12.2 a0 hL_a0).1.trans hK_a0
        have hL_a0 : wM D S_12 a0 := hX_S_12.M hL_a0
        have hK_a1 : sK S_12 a1 = 1 := (hX_S_12.2 a1 hL_a1).1.trans hK_a1
        have hL_a1 : wM D S_12 a1 := hX_S_12.M hL_a1
        have hK_a2 : sK S_12 a2 = 12 := (hX_S_12.2 a2 hL_a2).1.trans hK_a2
        have hL_a2 : wM D S_12 a2 := hX_S_12.M hL_a2
        refine lv_aload_n hx hb dX6_readRights_52 rfl (lv_at hl 0 rfl) ?_
        refine lv_aload_n hx hb dX6_readRights_53 rfl (lv_at hl 1 rfl) ?_
        refine w_callI (va_runV (As := [.ref a1]) (rest := []) F (c_X6_next l hL_a0 hK_a0 hL_a1 hK_a1 hp H.size) (cwV (C := RX6) 1 hts (wg_V wm_RX6_99 wy_X6_next) rfl rfl rfl (by decide +kernel) ⟨Nat.le_of_ble_eq_true rfl, Nat.le_of_ble_eq_true rfl⟩) (w_preV hK hW hL_a0 hK_a0 (by decide) rfl) rfl rfl hl.1 rfl (lv_room (Nat.le_of_ble_eq_true rfl)) dX6_readRights_54 ⟨Nat.le_of_ble_eq_true rfl, Nat.le_of_ble_eq_true rfl⟩) hW (fun r_13 S_14 H locs hp hW => ?_)
        obtain ⟨hX_S_14, hp⟩ := hp
        refine W.widen (k := 0) (n := 0) (by decide) (by decide) ?_
        have hE := hE.trans hX_S_14
        have hK_a0 : sK S_14 a0 = 11 := (hX_S_14.2 a0 hL_a0).1.trans hK_a0
        have hL_a0 : wM D S_14 a0 := hX_S_14.M hL_a0
        have hK_a1 : sK S_14 a1 = 1 := (hX_S_14.2 a1 hL_a1).1.trans hK_a1
        have hL_a1 : wM D S_14 a1 := hX_S_14.M hL_a1
        have hK_a2 : sK S_14 a2 = 12 := (hX_S_14.2 a2 hL_a2).1.trans hK_a2
        have hL_a2 : wM D S_14 a2 := hX_S_14.M hL_a2
        refine lv_istore_n (lv' := [(3, .int r_13), (0, .ref a0), (1, .ref a1), (2, .ref a2), (4, .int x4)]) hx hb dX6_readRights_57 rfl hl (by decide) rfl (fun ls hl => ?_)
        obtain ⟨x_15, ex_15⟩ : ∃ z : Int32, z = x4 + 1 := ⟨_, rfl⟩
        replace hp := hp x_15 ex_15
        refine lv_iinc (v := x_15) (lv' := [(4, .int x_15), (3, .int r_13), (0, .ref a0), (1, .ref a1), (2, .ref a2)]) hx hb dX6_readRights_58 hl (k := 4) rfl (by rw [ex_15]; rfl) (by decide) rfl (fun ls hl => ?_)
        refine lv_goto (tgt := 16) hx hb dX6_readRights_61 (by decide) ?_
        exact ih hp hW hE (lv_sub hl [2, 3, 4, 1, 0] rfl) hL_a0 hK_a0 hL_a1 hK_a1 hL_a2 hK_a2
set_option maxHeartbeats 4000000 in
set_option maxRecDepth 100000 in
theorem t_X6_readRights_0 {p : Program} {l : Launch} {e : Env} {s : State} {m : MethodId} {args : Array Value} {below : List Frame} {meth : Method} {c : Code} {D : wD} {cy : Nat → ClassId} {X : va_W} {A : Nat → Prop} {S0 : wS} {post : wS → Prop} (F : CallFix p m c cX6_readRights 5 s args wz_X6_readRights RX6) (hr : meth.sig.returnType = none) (hlocks : meth.locks = false) (hK : wK D cy A s) : ∀ {S : wS} {H : Heap} {locs : List Loc} {ls : Array Slot} {a0 : Nat} {a1 : Nat} {a2 : Nat}, wp_X6_readRights_0 D post S a0 a1 a2 → wO D cy X A s.heap S H locs → wX D S0 S → lv_has ls 5 [(0, .ref a0), (1, .ref a1), (2, .ref a2)] → wM D S a0 → sK S a0 = 11 → wM D S a1 → sK S a1 = 1 → wM D S a2 → sK S a2 = 12 → W p l e r_X6_readRights s m args below meth c H locs 0 0 (MQ below (va_Qv (fun S9 => wX D S0 S9 ∧ post S9) (wB D cy X A) A) args s 0 0 A) (F0 m 0 ls []) := by
  obtain ⟨hx, hb, hml, hown, hts⟩ := id F
  have hwg : ∀ w ∈ WG, w.before args s = true := fun w h => hts w (List.mem_cons_of_mem _ h)
  intro S H locs ls a0 a1 a2 hp hW hE hl hL_a0 hK_a0 hL_a1 hK_a1 hL_a2 hK_a2
  unfold wp_X6_readRights_0 at hp
  refine lv_aload_n hx hb dX6_readRights_0 rfl (lv_at hl 0 rfl) ?_
  refine lv_aload_n hx hb dX6_readRights_1 rfl (lv_at hl 1 rfl) ?_
  refine w_callI (va_runV (As := [.ref a1]) (rest := []) F (c_X6_next l hL_a0 hK_a0 hL_a1 hK_a1 hp H.size) (cwV (C := RX6) 1 hts (wg_V wm_RX6_99 wy_X6_next) rfl rfl rfl (by decide +kernel) ⟨Nat.le_of_ble_eq_true rfl, Nat.le_of_ble_eq_true rfl⟩) (w_preV hK hW hL_a0 hK_a0 (by decide) rfl) rfl rfl hl.1 rfl (lv_room (Nat.le_of_ble_eq_true rfl)) dX6_readRights_2 ⟨Nat.le_of_ble_eq_true rfl, Nat.le_of_ble_eq_true rfl⟩) hW (fun r_1 S_2 H locs hp hW => ?_)
  obtain ⟨hX_S_2, hp⟩ := hp
  refine W.widen (k := 0) (n := 0) (by decide) (by decide) ?_
  have hE := hE.trans hX_S_2
  have hK_a0 : sK S_2 a0 = 11 := (hX_S_2.2 a0 hL_a0).1.trans hK_a0
  have hL_a0 : wM D S_2 a0 := hX_S_2.M hL_a0
  have hK_a1 : sK S_2 a1 = 1 := (hX_S_2.2 a1 hL_a1).1.trans hK_a1
  have hL_a1 : wM D S_2 a1 := hX_S_2.M hL_a1
  have hK_a2 : sK S_2 a2 = 12 := (hX_S_2.2 a2 hL_a2).1.trans hK_a2
  have hL_a2 : wM D S_2 a2 := hX_S_2.M hL_a2
  refine lv_istore_n (lv' := [(3, .int r_1), (0, .ref a0), (1, .ref a1), (2, .ref a2)]) hx hb dX6_readRights_5 rfl hl (by decide) rfl (fun ls hl => ?_)
  refine lv_iload_n hx hb dX6_readRights_6 rfl (lv_at hl 0 rfl) ?_
  refine lv_bipush (v := 45) hx hb dX6_readRights_7 (by decide) ?_
  refine lv_icmp_ne (tgt := 13) hx hb dX6_readRights_9 (by decide) (fun c_3 => ?_) (fun c_3 => ?_)
  · replace hp := hp.1 c_3
    refine lv_iconst (v := 0) hx hb dX6_readRights_13 (by decide) ?_
    refine lv_istore (lv' := [(4, .int (0 : Int32)), (3, .int r_1), (0, .ref a0), (1, .ref a1), (2, .ref a2)]) hx hb dX6_readRights_14 hl (by decide) rfl (fun ls hl => ?_)
    obtain ⟨n_4, hp⟩ := hp
    exact t_X6_readRights_16 F hr hlocks hK n_4 hp hW hE (lv_sub hl [2, 3, 4, 1, 0] rfl) hL_a0 hK_a0 hL_a1 hK_a1 hL_a2 hK_a2
  · replace hp := hp.2 c_3
    exact w_vret hx hb hr hlocks hW ⟨hE, hp⟩ dX6_readRights_12
set_option maxHeartbeats 4000000 in
set_option maxRecDepth 100000 in
theorem c_X6_readRights (l : Launch) {D : wD} {cy : Nat → ClassId} {X : va_W} {S0 : wS} {post : wS → Prop} {a0 : Nat} {a1 : Nat} {a2 : Nat} (hL_a0 : wM D S0 a0) (hK_a0 : sK S0 a0 = 11) (hL_a1 : wM D S0 a1) (hK_a1 : sK S0 a1 = 1) (hL_a2 : wM D S0 a2) (hK_a2 : sK S0 a2 = 12) (hp : wp_X6_readRights D post S0 a0 a1 a2) : mV D cy X l yX6_readRights wz_X6_readRights r_X6_readRights [.ref a0, .ref a1, .ref a2] S0 (fun S9 => wX D S0 S9 ∧ post S9) := by
  intro sz
  refine Met.ofW (cc := cX6_readRights) (maxL := 5) (ret := none) (by decide) rfl ?_
  intro p e s m args below meth c s₁ B hml hv
  obtain ⟨rfl, hsz, hP, hK, hD0, hRO⟩ := hv
  have hts := atoms_spec (ws := wz_X6_readRights) B.pre
  have hown : s.vm.findClass RX6 = some m.cls := findClass_of_methodNamed B.named
  subst hsz
  have hD := hD0.self (sz := s.heap.size)
  have F : CallFix p m c cX6_readRights 5 s _ wz_X6_readRights RX6 := ⟨B.exec, B.bytes, hml, hown, hts⟩
  have hr := B.returns
  have hlocks := B.notSynchronized
  generalize hAe : va_A (wL cy X S0) s.heap.size = A at hD hK ⊢
  have hA : ∀ q, s.heap.size ≤ q → A q := fun q h => by rw [← hAe]; exact Or.inr h
  have hW : wO D cy X A s.heap S0 s.heap [] := ⟨hP, hD, va_S.rf, hA, hRO⟩
  have hl := lv_entry ([.ref a0, .ref a1, .ref a2]) (n := 5) (Nat.le_of_ble_eq_true rfl)
  rw [lg_entry_eq]
  generalize (lg_sl ([.ref a0, .ref a1, .ref a2]) ++ List.replicate (5 - (lg_sl ([.ref a0, .ref a1, .ref a2])).length) Slot.unset).toArray = ls at hl ⊢
  have hl : lv_has ls 5 [(0, .ref a0), (1, .ref a1), (2, .ref a2)] := hl
  unfold wp_X6_readRights at hp
  exact t_X6_readRights_0 F hr hlocks hK hp hW wX.rf (lv_sub hl [0, 1, 2] rfl) hL_a0 hK_a0 hL_a1 hK_a1 hL_a2 hK_a2
def wp_X6_readSquares_95 (D : wD) (post : wS → Prop) (k_10 : wS → Nat → Nat → Nat → Int32 → Prop) (k_17 : wS → Nat → Nat → Nat → Int32 → Int32 → Prop) (S : wS) (a0 : Nat) (a1 : Nat) (a2 : Nat) (x3 : Int32) (x4 : Int32) : Prop :=
∀ x_1 : Int32, x_1 = x4 + 1 →
k_17 S a0 a1 a2 x3 x_1
def wp_X6_readSquares_17 (D : wD) (post : wS → Prop) (k_10 : wS → Nat → Nat → Nat → Int32 → Prop) : Nat → wS → Nat → Nat → Nat → Int32 → Int32 → Prop
  | 0, _, _, _, _, _, _ => False
  | n + 1, S, a0, a1, a2, x3, x4 =>
    ∃ y_1 : Nat, sR S a0 0 = some y_1 ∧ wM D S y_1 ∧ sK S y_1 = 5 ∧
    (((sI S y_1 0) ≤ x4 → wp_X6_next D (fun r_3 S_4 => 
    ∀ x_5 : Int32, x_5 = x3 + (-1) →
    k_10 S_4 a0 a1 a2 x_5) S a0 a1) ∧
     (¬ (sI S y_1 0) ≤ x4 → wp_X6_next D (fun r_6 S_7 => 
    ∀ y_8 : Nat, y_8 = D.2.2.1 1 →
    wp_J0_indexOf_0f7a4 D (fun r_9 S_10 => 
    ((r_9 ≤ 0 → ((r_6 ≤ (49 : Int32) → wp_X6_readSquares_95 D post k_10 (wp_X6_readSquares_17 D post k_10 n) S_10 a0 a1 a2 x3 x4) ∧
     (¬ r_6 ≤ (49 : Int32) → (((56 : Int32) < r_6 → wp_X6_readSquares_95 D post k_10 (wp_X6_readSquares_17 D post k_10 n) S_10 a0 a1 a2 x3 x4) ∧
     (¬ (56 : Int32) < r_6 → ∀ x_14 : Int32, x_14 = (x4 + (r_6 - (49 : Int32))) →
    wp_X6_readSquares_95 D post k_10 (wp_X6_readSquares_17 D post k_10 n) S_10 a0 a1 a2 x3 x_14))))) ∧
     (¬ r_9 ≤ 0 → ∃ y_15 : Nat, sR S_10 a0 0 = some y_15 ∧ wM D S_10 y_15 ∧ sK S_10 y_15 = 5 ∧
    wp_X7_place D (fun S_17 => 
    wp_X6_readSquares_95 D post k_10 (wp_X6_readSquares_17 D post k_10 n) S_17 a0 a1 a2 x3 x4) S_10 a2 ((x3 * (sI S_10 y_15 0)) + x4) r_9))) S_7 y_8 r_6) S a0 a1))
def wp_X6_readSquares_10 (D : wD) (post : wS → Prop)  : Nat → wS → Nat → Nat → Nat → Int32 → Prop
  | 0, _, _, _, _, _ => False
  | n + 1, S, a0, a1, a2, x3 =>
    ((x3 < 0 → post S) ∧
     (¬ x3 < 0 → ∃ n_2 : Nat, wp_X6_readSquares_17 D post (wp_X6_readSquares_10 D post n) n_2 S a0 a1 a2 x3 (0 : Int32)))
def wp_X6_readSquares_0 (D : wD) (post : wS → Prop)  (S : wS) (a0 : Nat) (a1 : Nat) (a2 : Nat) : Prop :=
∃ y_1 : Nat, sR S a0 0 = some y_1 ∧ wM D S y_1 ∧ sK S y_1 = 5 ∧
∀ x_2 : Int32, x_2 = ((sI S y_1 1) - (1 : Int32)) →
∃ n_3 : Nat, wp_X6_readSquares_10 D post n_3 S a0 a1 a2 x_2
abbrev r_X6_readSquares : Room := { frames := 7, cells := 0, slots := 0, locals := 154 }
def wp_X6_readSquares (D : wD) (post : wS → Prop) (S : wS) (a0 : Nat) (a1 : Nat) (a2 : Nat) : Prop := wp_X6_readSquares_0 D post S a0 a1 a2
set_option maxHeartbeats 4000000 in
set_option maxRecDepth 100000 in
theorem t_X6_readSquares_95 {p : Program} {l : Launch} {e : Env} {s : State} {m : MethodId} {args : Array Value} {below : List Frame} {meth : Method} {c : Code} {D : wD} {cy : Nat → ClassId} {X : va_W} {A : Nat → Prop} {S0 : wS} {post : wS → Prop} (F : CallFix p m c cX6_readSquares 7 s args wz_X6_readSquares RX6) (hr : meth.sig.returnType = none) (hlocks : meth.locks = false) (hK : wK D cy A s) {k_10 : wS → Nat → Nat → Nat → Int32 → Prop} (q_10 : ∀ {S : wS} {H : Heap} {locs : List Loc} {ls : Array Slot} {a0 : Nat} {a1 : Nat} {a2 : Nat} {x3 : Int32}, k_10 S a0 a1 a2 x3 → wO D cy X A s.heap S H locs → wX D S0 S → lv_has ls 7 [(0, .ref a0), (1, .ref a1), (2, .ref a2), (3, .int x3)] → wM D S a0 → sK S a0 = 11 → wM D S a1 → sK S a1 = 1 → wM D S a2 → sK S a2 = 12 → W p l e r_X6_readSquares s m args below meth c H locs 0 0 (MQ below (va_Qv (fun S9 => wX D S0 S9 ∧ post S9) (wB D cy X A) A) args s 0 0 A) (F0 m 10 ls [])) {k_17 : wS → Nat → Nat → Nat → Int32 → Int32 → Prop} (q_17 : ∀ {S : wS} {H : Heap} {locs : List Loc} {ls : Array Slot} {a0 : Nat} {a1 : Nat} {a2 : Nat} {x3 : Int32} {x4 : Int32}, k_17 S a0 a1 a2 x3 x4 → wO D cy X A s.heap S H locs → wX D S0 S → lv_has ls 7 [(0, .ref a0), (1, .ref a1), (2, .ref a2), (3, .int x3), (4, .int x4)] → wM D S a0 → sK S a0 = 11 → wM D S a1 → sK S a1 = 1 → wM D S a2 → sK S a2 = 12 → W p l e r_X6_readSquares s m args below meth c H locs 0 0 (MQ below (va_Qv (fun S9 => wX D S0 S9 ∧ post S9) (wB D cy X A) A) args s 0 0 A) (F0 m 17 ls [])) : ∀ {S : wS} {H : Heap} {locs : List Loc} {ls : Array Slot} {a0 : Nat} {a1 : Nat} {a2 : Nat} {x3 : Int32} {x4 : Int32}, wp_X6_readSquares_95 D post k_10 k_17 S a0 a1 a2 x3 x4 → wO D cy X A s.heap S H locs → wX D S0 S → lv_has ls 7 [(0, .ref a0), (1, .ref a1), (2, .ref a2), (3, .int x3), (4, .int x4)] → wM D S a0 → sK S a0 = 11 → wM D S a1 → sK S a1 = 1 → wM D S a2 → sK S a2 = 12 → W p l e r_X6_readSquares s m args below meth c H locs 0 0 (MQ below (va_Qv (fun S9 => wX D S0 S9 ∧ post S9) (wB D cy X A) A) args s 0 0 A) (F0 m 95 ls []) := by
  obtain ⟨hx, hb, hml, hown, hts⟩ := id F
  have hwg : ∀ w ∈ WG, w.before args s = true := fun w h => hts w (List.mem_cons_of_mem _ h)
  intro S H locs ls a0 a1 a2 x3 x4 hp hW hE hl hL_a0 hK_a0 hL_a1 hK_a1 hL_a2 hK_a2
  unfold wp_X6_readSquares_95 at hp
  obtain ⟨x_1, ex_1⟩ : ∃ z : Int32, z = x4 + 1 := ⟨_, rfl⟩
  replace hp := hp x_1 ex_1
  refine lv_iinc (v := x_1) (lv' := [(4, .int x_1), (0, .ref a0), (1, .ref a1), (2, .ref a2), (3, .int x3)]) hx hb dX6_readSquares_95 hl (k := 4) rfl (by rw [ex_1]; rfl) (by decide) rfl (fun ls hl => ?_)
  refine lv_goto (tgt := 17) hx hb dX6_readSquares_98 (by decide) ?_
  exact q_17 hp hW hE (lv_sub hl [1, 2, 3, 4, 0] rfl) hL_a0 hK_a0 hL_a1 hK_a1 hL_a2 hK_a2
set_option maxHeartbeats 4000000 in
set_option maxRecDepth 100000 in
theorem t_X6_readSquares_17 {p : Program} {l : Launch} {e : Env} {s : State} {m : MethodId} {args : Array Value} {below : List Frame} {meth : Method} {c : Code} {D : wD} {cy : Nat → ClassId} {X : va_W} {A : Nat → Prop} {S0 : wS} {post : wS → Prop} (F : CallFix p m c cX6_readSquares 7 s args wz_X6_readSquares RX6) (hr : meth.sig.returnType = none) (hlocks : meth.locks = false) (hK : wK D cy A s) {k_10 : wS → Nat → Nat → Nat → Int32 → Prop} (q_10 : ∀ {S : wS} {H : Heap} {locs : List Loc} {ls : Array Slot} {a0 : Nat} {a1 : Nat} {a2 : Nat} {x3 : Int32}, k_10 S a0 a1 a2 x3 → wO D cy X A s.heap S H locs → wX D S0 S → lv_has ls 7 [(0, .ref a0), (1, .ref a1), (2, .ref a2), (3, .int x3)] → wM D S a0 → sK S a0 = 11 → wM D S a1 → sK S a1 = 1 → wM D S a2 → sK S a2 = 12 → W p l e r_X6_readSquares s m args below meth c H locs 0 0 (MQ below (va_Qv (fun S9 => wX D S0 S9 ∧ post S9) (wB D cy X A) A) args s 0 0 A) (F0 m 10 ls [])) : ∀ (n : Nat) {S : wS} {H : Heap} {locs : List Loc} {ls : Array Slot} {a0 : Nat} {a1 : Nat} {a2 : Nat} {x3 : Int32} {x4 : Int32}, wp_X6_readSquares_17 D post k_10 n S a0 a1 a2 x3 x4 → wO D cy X A s.heap S H locs → wX D S0 S → lv_has ls 7 [(0, .ref a0), (1, .ref a1), (2, .ref a2), (3, .int x3), (4, .int x4)] → wM D S a0 → sK S a0 = 11 → wM D S a1 → sK S a1 = 1 → wM D S a2 → sK S a2 = 12 → W p l e r_X6_readSquares s m args below meth c H locs 0 0 (MQ below (va_Qv (fun S9 => wX D S0 S9 ∧ post S9) (wB D cy X A) A) args s 0 0 A) (F0 m 17 ls []) := by
  obtain ⟨hx, hb, hml, hown, hts⟩ := id F
  have hwg : ∀ w ∈ WG, w.before args s = true := fun w h => hts w (List.mem_cons_of_mem _ h)
  have i_11 : ∀ w ∈ u_ws RX6 TX6 3, w ∈ wz_X6_readSquares := fun w h => List.mem_cons_of_mem _ (wu_11 w h)
  have i_5 : ∀ w ∈ u_ws RX0 TX0 12, w ∈ wz_X6_readSquares := fun w h => List.mem_cons_of_mem _ (wu_5 w h)
  have k_22 := hwg _ wf_RX6_22
  intro n
  induction n with
  | zero =>
    intro S H locs ls a0 a1 a2 x3 x4 hp
    exact hp.elim
  | succ n ih =>
    intro S H locs ls a0 a1 a2 x3 x4 hp hW hE hl hL_a0 hK_a0 hL_a1 hK_a1 hL_a2 hK_a2
    unfold wp_X6_readSquares_17 at hp
    refine lv_iload hx hb dX6_readSquares_17 (lv_at hl 4 rfl) ?_
    refine lv_aload_n hx hb dX6_readSquares_19 rfl (lv_at hl 0 rfl) ?_
    obtain ⟨y_1, ey_1, hL_y_1, hK_y_1, hp⟩ := hp
    refine w_get (k := 11) (f := 0) (T := TX6) (v := .ref y_1) F hK hW hL_a0 hK_a0 (by decide) rfl rfl (by decide) i_11 k_22 (by rw [show wv 11 0 S a0 = va_rf (sR S a0 0) from rfl, ey_1]; rfl) dX6_readSquares_20 ?_
    refine w_getN (k := 5) (f := 0) (T := TX0) (v := .int (sI S y_1 0)) F hK hW hL_y_1 hK_y_1 (by decide) rfl rfl (by decide) i_5 (hK.2.1 (.fieldLinkNest "OpeningsCabinet$Papers" 81 "OpeningsCabinet$Board" "files" "I" "OpeningsCabinet") (by decide +kernel)) rfl dX6_readSquares_23 ?_
    refine lv_icmp_ge (tgt := 101) hx hb dX6_readSquares_26 (by decide) (fun c_2 => ?_) (fun c_2 => ?_)
    · replace hp := hp.1 c_2
      refine lv_aload_n hx hb dX6_readSquares_101 rfl (lv_at hl 0 rfl) ?_
      refine lv_aload_n hx hb dX6_readSquares_102 rfl (lv_at hl 1 rfl) ?_
      refine w_callI (va_runV (As := [.ref a1]) (rest := []) F (c_X6_next l hL_a0 hK_a0 hL_a1 hK_a1 hp H.size) (cwV (C := RX6) 1 hts (wg_V wm_RX6_99 wy_X6_next) rfl rfl rfl (by decide +kernel) ⟨Nat.le_of_ble_eq_true rfl, Nat.le_of_ble_eq_true rfl⟩) (w_preV hK hW hL_a0 hK_a0 (by decide) rfl) rfl rfl hl.1 rfl (lv_room (Nat.le_of_ble_eq_true rfl)) dX6_readSquares_103 ⟨Nat.le_of_ble_eq_true rfl, Nat.le_of_ble_eq_true rfl⟩) hW (fun r_3 S_4 H locs hp hW => ?_)
      obtain ⟨hX_S_4, hp⟩ := hp
      refine W.widen (k := 0) (n := 0) (by decide) (by decide) ?_
      have hE := hE.trans hX_S_4
      have hK_a0 : sK S_4 a0 = 11 := (hX_S_4.2 a0 hL_a0).1.trans hK_a0
      have hL_a0 : wM D S_4 a0 := hX_S_4.M hL_a0
      have hK_a1 : sK S_4 a1 = 1 := (hX_S_4.2 a1 hL_a1).1.trans hK_a1
      have hL_a1 : wM D S_4 a1 := hX_S_4.M hL_a1
      have hK_a2 : sK S_4 a2 = 12 := (hX_S_4.2 a2 hL_a2).1.trans hK_a2
      have hL_a2 : wM D S_4 a2 := hX_S_4.M hL_a2
      refine lv_pop hx hb dX6_readSquares_106 rfl ?_
      obtain ⟨x_5, ex_5⟩ : ∃ z : Int32, z = x3 + (-1) := ⟨_, rfl⟩
      replace hp := hp x_5 ex_5
      refine lv_iinc (v := x_5) (lv' := [(3, .int x_5), (0, .ref a0), (1, .ref a1), (2, .ref a2), (4, .int x4)]) hx hb dX6_readSquares_107 hl (k := 3) rfl (by rw [ex_5]; rfl) (by decide) rfl (fun ls hl => ?_)
      refine lv_goto (tgt := 10) hx hb dX6_readSquares_110 (by decide) ?_
      exact q_10 hp hW hE (lv_sub hl [1, 2, 3, 0] rfl) hL_a0 hK_a0 hL_a1 hK_a1 hL_a2 hK_a2
    · replace hp := hp.2 c_2
      refine lv_aload_n hx hb dX6_readSquares_29 rfl (lv_at hl 0 rfl) ?_
      refine lv_aload_n hx hb dX6_readSquares_30 rfl (lv_at hl 1 rfl) ?_
      refine w_callI (va_runV (As := [.ref a1]) (rest := []) F (c_X6_next l hL_a0 hK_a0 hL_a1 hK_a1 hp H.size) (cwV (C := RX6) 1 hts (wg_V wm_RX6_99 wy_X6_next) rfl rfl rfl (by decide +kernel) ⟨Nat.le_of_ble_eq_true rfl, Nat.le_of_ble_eq_true rfl⟩) (w_preV hK hW hL_a0 hK_a0 (by decide) rfl) rfl rfl hl.1 rfl (lv_room (Nat.le_of_ble_eq_true rfl)) dX6_readSquares_31 ⟨Nat.le_of_ble_eq_true rfl, Nat.le_of_ble_eq_true rfl⟩) hW (fun r_6 S_7 H locs hp hW => ?_)
      obtain ⟨hX_S_7, hp⟩ := hp
      refine W.widen (k := 0) (n := 0) (by decide) (by decide) ?_
      have hE := hE.trans hX_S_7
      have hK_a0 : sK S_7 a0 = 11 := (hX_S_7.2 a0 hL_a0).1.trans hK_a0
      have hL_a0 : wM D S_7 a0 := hX_S_7.M hL_a0
      have hK_a1 : sK S_7 a1 = 1 := (hX_S_7.2 a1 hL_a1).1.trans hK_a1
      have hL_a1 : wM D S_7 a1 := hX_S_7.M hL_a1
      have hK_a2 : sK S_7 a2 = 12 := (hX_S_7.2 a2 hL_a2).1.trans hK_a2
      have hL_a2 : wM D S_7 a2 := hX_S_7.M hL_a2
      refine lv_istore (lv' := [(5, .int r_6), (0, .ref a0), (1, .ref a1), (2, .ref a2), (3, .int x3), (4, .int x4)]) hx hb dX6_readSquares_34 hl (by decide) rfl (fun ls hl => ?_)
      refine w_str F hK (show ("OpeningsCabinet$Papers", 90, " KQRBNPkqrbnp", 1) ∈ wStr by decide +kernel) dX6_readSquares_36 ?_
      obtain ⟨y_8, ey_8⟩ : ∃ z : Nat, z = D.2.2.1 1 := ⟨_, rfl⟩
      rw [← ey_8]
      replace hp := hp y_8 ey_8
      obtain ⟨hL_y_8, hK_y_8⟩ : wM D S_7 y_8 ∧ sK S_7 y_8 = 0 := by rw [ey_8]; exact w_strM hK hW (show ("OpeningsCabinet$Papers", 90, " KQRBNPkqrbnp", 1) ∈ wStr by decide +kernel)
      refine lv_iload hx hb dX6_readSquares_38 (lv_at hl 0 rfl) ?_
      refine w_callI (va_runV (As := [.int r_6]) (rest := []) F (c_J0_indexOf_0f7a4 l hL_y_8 hK_y_8 hp H.size) (cwV (C := RJ0) 1 hts (wg_V wm_RX6_127 wy_J0_indexOf_0f7a4) rfl rfl rfl (by decide +kernel) ⟨Nat.le_of_ble_eq_true rfl, Nat.le_of_ble_eq_true rfl⟩) (w_preV hK hW hL_y_8 hK_y_8 (by decide) rfl) rfl rfl hl.1 rfl (lv_room (Nat.le_of_ble_eq_true rfl)) dX6_readSquares_40 ⟨Nat.le_of_ble_eq_true rfl, Nat.le_of_ble_eq_true rfl⟩) hW (fun r_9 S_10 H locs hp hW => ?_)
      obtain ⟨hX_S_10, hp⟩ := hp
      refine W.widen (k := 0) (n := 0) (by decide) (by decide) ?_
      have hE := hE.trans hX_S_10
      have hK_a0 : sK S_10 a0 = 11 := (hX_S_10.2 a0 hL_a0).1.trans hK_a0
      have hL_a0 : wM D S_10 a0 := hX_S_10.M hL_a0
      have hK_a1 : sK S_10 a1 = 1 := (hX_S_10.2 a1 hL_a1).1.trans hK_a1
      have hL_a1 : wM D S_10 a1 := hX_S_10.M hL_a1
      have hK_a2 : sK S_10 a2 = 12 := (hX_S_10.2 a2 hL_a2).1.trans hK_a2
      have hL_a2 : wM D S_10 a2 := hX_S_10.M hL_a2
      refine lv_istore (lv' := [(6, .int r_9), (5, .int r_6), (0, .ref a0), (1, .ref a1), (2, .ref a2), (3, .int x3), (4, .int x4)]) hx hb dX6_readSquares_43 hl (by decide) rfl (fun ls hl => ?_)
      refine lv_iload hx hb dX6_readSquares_45 (lv_at hl 0 rfl) ?_
      refine lv_if_le (tgt := 71) hx hb dX6_readSquares_47 (by decide) (fun c_11 => ?_) (fun c_11 => ?_)
      · replace hp := hp.1 c_11
        refine lv_iload hx hb dX6_readSquares_71 (lv_at hl 1 rfl) ?_
        refine lv_bipush (v := 49) hx hb dX6_readSquares_73 (by decide) ?_
        refine lv_icmp_le (tgt := 95) hx hb dX6_readSquares_75 (by decide) (fun c_12 => ?_) (fun c_12 => ?_)
        · replace hp := hp.1 c_12
          exact t_X6_readSquares_95 F hr hlocks hK q_10 ih hp hW hE (lv_sub hl [2, 3, 4, 5, 6] rfl) hL_a0 hK_a0 hL_a1 hK_a1 hL_a2 hK_a2
        · replace hp := hp.2 c_12
          refine lv_iload hx hb dX6_readSquares_78 (lv_at hl 1 rfl) ?_
          refine lv_bipush (v := 56) hx hb dX6_readSquares_80 (by decide) ?_
          refine lv_icmp_gt (tgt := 95) hx hb dX6_readSquares_82 (by decide) (fun c_13 => ?_) (fun c_13 => ?_)
          · replace hp := hp.1 c_13
            exact t_X6_readSquares_95 F hr hlocks hK q_10 ih hp hW hE (lv_sub hl [2, 3, 4, 5, 6] rfl) hL_a0 hK_a0 hL_a1 hK_a1 hL_a2 hK_a2
          · replace hp := hp.2 c_13
            refine lv_iload hx hb dX6_readSquares_85 (lv_at hl 6 rfl) ?_
            refine lv_iload hx hb dX6_readSquares_87 (lv_at hl 1 rfl) ?_
            refine lv_bipush (v := 49) hx hb dX6_readSquares_89 (by decide) ?_
            refine lv_isub hx hb dX6_readSquares_91 ?_
            refine lv_iadd hx hb dX6_readSquares_92 ?_
            refine lv_topi (fun x_14 ex_14 => ?_)
            replace hp := hp x_14 ex_14
            refine lv_istore (lv' := [(4, .int x_14), (6, .int r_9), (5, .int r_6), (0, .ref a0), (1, .ref a1), (2, .ref a2), (3, .int x3)]) hx hb dX6_readSquares_93 hl (by decide) rfl (fun ls hl => ?_)
            exact t_X6_readSquares_95 F hr hlocks hK q_10 ih hp hW hE (lv_sub hl [3, 4, 5, 6, 0] rfl) hL_a0 hK_a0 hL_a1 hK_a1 hL_a2 hK_a2
      · replace hp := hp.2 c_11
        refine lv_aload_n hx hb dX6_readSquares_50 rfl (lv_at hl 4 rfl) ?_
        refine lv_iload_n hx hb dX6_readSquares_51 rfl (lv_at hl 5 rfl) ?_
        refine lv_aload_n hx hb dX6_readSquares_52 rfl (lv_at hl 2 rfl) ?_
        obtain ⟨y_15, ey_15, hL_y_15, hK_y_15, hp⟩ := hp
        refine w_get (k := 11) (f := 0) (T := TX6) (v := .ref y_15) F hK hW hL_a0 hK_a0 (by decide) rfl rfl (by decide) i_11 k_22 (by rw [show wv 11 0 S_10 a0 = va_rf (sR S_10 a0 0) from rfl, ey_15]; rfl) dX6_readSquares_53 ?_
        refine w_getN (k := 5) (f := 0) (T := TX0) (v := .int (sI S_10 y_15 0)) F hK hW hL_y_15 hK_y_15 (by decide) rfl rfl (by decide) i_5 (hK.2.1 (.fieldLinkNest "OpeningsCabinet$Papers" 81 "OpeningsCabinet$Board" "files" "I" "OpeningsCabinet") (by decide +kernel)) rfl dX6_readSquares_56 ?_
        refine lv_imul hx hb dX6_readSquares_59 ?_
        refine lv_iload hx hb dX6_readSquares_60 (lv_at hl 6 rfl) ?_
        refine lv_iadd hx hb dX6_readSquares_62 ?_
        refine lv_iload hx hb dX6_readSquares_63 (lv_at hl 0 rfl) ?_
        refine w_callV (va_runV (As := [.int ((x3 * (sI S_10 y_15 0)) + x4), .int r_9]) (rest := []) F (c_X7_place l hL_a2 hK_a2 hp H.size) (cwV (C := RX7) 2 hts (wg_V wm_RX6_130 wy_X7_place) rfl rfl rfl (by decide +kernel) ⟨Nat.le_of_ble_eq_true rfl, Nat.le_of_ble_eq_true rfl⟩) (w_preV hK hW hL_a2 hK_a2 (by decide) rfl) rfl rfl hl.1 rfl (lv_room (Nat.le_of_ble_eq_true rfl)) dX6_readSquares_65 ⟨Nat.le_of_ble_eq_true rfl, Nat.le_of_ble_eq_true rfl⟩) hW (fun S_17 H locs hp hW => ?_)
        obtain ⟨hX_S_17, hp⟩ := hp
        refine W.widen (k := 0) (n := 0) (by decide) (by decide) ?_
        have hE := hE.trans hX_S_17
        have hK_a0 : sK S_17 a0 = 11 := (hX_S_17.2 a0 hL_a0).1.trans hK_a0
        have hL_a0 : wM D S_17 a0 := hX_S_17.M hL_a0
        have hK_a1 : sK S_17 a1 = 1 := (hX_S_17.2 a1 hL_a1).1.trans hK_a1
        have hL_a1 : wM D S_17 a1 := hX_S_17.M hL_a1
        have hK_a2 : sK S_17 a2 = 12 := (hX_S_17.2 a2 hL_a2).1.trans hK_a2
        have hL_a2 : wM D S_17 a2 := hX_S_17.M hL_a2
        refine lv_goto (tgt := 95) hx hb dX6_readSquares_68 (by decide) ?_
        exact t_X6_readSquares_95 F hr hlocks hK q_10 ih hp hW hE (lv_sub hl [2, 3, 4, 5, 6] rfl) hL_a0 hK_a0 hL_a1 hK_a1 hL_a2 hK_a2
set_option maxHeartbeats 4000000 in
set_option maxRecDepth 100000 in
theorem t_X6_readSquares_10 {p : Program} {l : Launch} {e : Env} {s : State} {m : MethodId} {args : Array Value} {below : List Frame} {meth : Method} {c : Code} {D : wD} {cy : Nat → ClassId} {X : va_W} {A : Nat → Prop} {S0 : wS} {post : wS → Prop} (F : CallFix p m c cX6_readSquares 7 s args wz_X6_readSquares RX6) (hr : meth.sig.returnType = none) (hlocks : meth.locks = false) (hK : wK D cy A s) : ∀ (n : Nat) {S : wS} {H : Heap} {locs : List Loc} {ls : Array Slot} {a0 : Nat} {a1 : Nat} {a2 : Nat} {x3 : Int32}, wp_X6_readSquares_10 D post n S a0 a1 a2 x3 → wO D cy X A s.heap S H locs → wX D S0 S → lv_has ls 7 [(0, .ref a0), (1, .ref a1), (2, .ref a2), (3, .int x3)] → wM D S a0 → sK S a0 = 11 → wM D S a1 → sK S a1 = 1 → wM D S a2 → sK S a2 = 12 → W p l e r_X6_readSquares s m args below meth c H locs 0 0 (MQ below (va_Qv (fun S9 => wX D S0 S9 ∧ post S9) (wB D cy X A) A) args s 0 0 A) (F0 m 10 ls []) := by
  obtain ⟨hx, hb, hml, hown, hts⟩ := id F
  have hwg : ∀ w ∈ WG, w.before args s = true := fun w h => hts w (List.mem_cons_of_mem _ h)
  intro n
  induction n with
  | zero =>
    intro S H locs ls a0 a1 a2 x3 hp
    exact hp.elim
  | succ n ih =>
    intro S H locs ls a0 a1 a2 x3 hp hW hE hl hL_a0 hK_a0 hL_a1 hK_a1 hL_a2 hK_a2
    unfold wp_X6_readSquares_10 at hp
    refine lv_iload_n hx hb dX6_readSquares_10 rfl (lv_at hl 3 rfl) ?_
    refine lv_if_lt (tgt := 113) hx hb dX6_readSquares_11 (by decide) (fun c_1 => ?_) (fun c_1 => ?_)
    · replace hp := hp.1 c_1
      exact w_vret hx hb hr hlocks hW ⟨hE, hp⟩ dX6_readSquares_113
    · replace hp := hp.2 c_1
      refine lv_iconst (v := 0) hx hb dX6_readSquares_14 (by decide) ?_
      refine lv_istore (lv' := [(4, .int (0 : Int32)), (0, .ref a0), (1, .ref a1), (2, .ref a2), (3, .int x3)]) hx hb dX6_readSquares_15 hl (by decide) rfl (fun ls hl => ?_)
      obtain ⟨n_2, hp⟩ := hp
      exact t_X6_readSquares_17 F hr hlocks hK ih n_2 hp hW hE (lv_sub hl [1, 2, 3, 4, 0] rfl) hL_a0 hK_a0 hL_a1 hK_a1 hL_a2 hK_a2
set_option maxHeartbeats 4000000 in
set_option maxRecDepth 100000 in
theorem t_X6_readSquares_0 {p : Program} {l : Launch} {e : Env} {s : State} {m : MethodId} {args : Array Value} {below : List Frame} {meth : Method} {c : Code} {D : wD} {cy : Nat → ClassId} {X : va_W} {A : Nat → Prop} {S0 : wS} {post : wS → Prop} (F : CallFix p m c cX6_readSquares 7 s args wz_X6_readSquares RX6) (hr : meth.sig.returnType = none) (hlocks : meth.locks = false) (hK : wK D cy A s) : ∀ {S : wS} {H : Heap} {locs : List Loc} {ls : Array Slot} {a0 : Nat} {a1 : Nat} {a2 : Nat}, wp_X6_readSquares_0 D post S a0 a1 a2 → wO D cy X A s.heap S H locs → wX D S0 S → lv_has ls 7 [(0, .ref a0), (1, .ref a1), (2, .ref a2)] → wM D S a0 → sK S a0 = 11 → wM D S a1 → sK S a1 = 1 → wM D S a2 → sK S a2 = 12 → W p l e r_X6_readSquares s m args below meth c H locs 0 0 (MQ below (va_Qv (fun S9 => wX D S0 S9 ∧ post S9) (wB D cy X A) A) args s 0 0 A) (F0 m 0 ls []) := by
  obtain ⟨hx, hb, hml, hown, hts⟩ := id F
  have hwg : ∀ w ∈ WG, w.before args s = true := fun w h => hts w (List.mem_cons_of_mem _ h)
  have i_11 : ∀ w ∈ u_ws RX6 TX6 3, w ∈ wz_X6_readSquares := fun w h => List.mem_cons_of_mem _ (wu_11 w h)
  have i_5 : ∀ w ∈ u_ws RX0 TX0 12, w ∈ wz_X6_readSquares := fun w h => List.mem_cons_of_mem _ (wu_5 w h)
  have k_22 := hwg _ wf_RX6_22
  intro S H locs ls a0 a1 a2 hp hW hE hl hL_a0 hK_a0 hL_a1 hK_a1 hL_a2 hK_a2
  unfold wp_X6_readSquares_0 at hp
  refine lv_aload_n hx hb dX6_readSquares_0 rfl (lv_at hl 0 rfl) ?_
  obtain ⟨y_1, ey_1, hL_y_1, hK_y_1, hp⟩ := hp
  refine w_get (k := 11) (f := 0) (T := TX6) (v := .ref y_1) F hK hW hL_a0 hK_a0 (by decide) rfl rfl (by decide) i_11 k_22 (by rw [show wv 11 0 S a0 = va_rf (sR S a0 0) from rfl, ey_1]; rfl) dX6_readSquares_1 ?_
  refine w_getN (k := 5) (f := 1) (T := TX0) (v := .int (sI S y_1 1)) F hK hW hL_y_1 hK_y_1 (by decide) rfl rfl (by decide) i_5 (hK.2.1 (.fieldLinkNest "OpeningsCabinet$Papers" 30 "OpeningsCabinet$Board" "ranks" "I" "OpeningsCabinet") (by decide +kernel)) rfl dX6_readSquares_4 ?_
  refine lv_iconst (v := 1) hx hb dX6_readSquares_7 (by decide) ?_
  refine lv_isub hx hb dX6_readSquares_8 ?_
  refine lv_topi (fun x_2 ex_2 => ?_)
  replace hp := hp x_2 ex_2
  refine lv_istore_n (lv' := [(3, .int x_2), (0, .ref a0), (1, .ref a1), (2, .ref a2)]) hx hb dX6_readSquares_9 rfl hl (by decide) rfl (fun ls hl => ?_)
  obtain ⟨n_3, hp⟩ := hp
  exact t_X6_readSquares_10 F hr hlocks hK n_3 hp hW hE (lv_sub hl [1, 2, 3, 0] rfl) hL_a0 hK_a0 hL_a1 hK_a1 hL_a2 hK_a2
set_option maxHeartbeats 4000000 in
set_option maxRecDepth 100000 in
theorem c_X6_readSquares (l : Launch) {D : wD} {cy : Nat → ClassId} {X : va_W} {S0 : wS} {post : wS → Prop} {a0 : Nat} {a1 : Nat} {a2 : Nat} (hL_a0 : wM D S0 a0) (hK_a0 : sK S0 a0 = 11) (hL_a1 : wM D S0 a1) (hK_a1 : sK S0 a1 = 1) (hL_a2 : wM D S0 a2) (hK_a2 : sK S0 a2 = 12) (hp : wp_X6_readSquares D post S0 a0 a1 a2) : mV D cy X l yX6_readSquares wz_X6_readSquares r_X6_readSquares [.ref a0, .ref a1, .ref a2] S0 (fun S9 => wX D S0 S9 ∧ post S9) := by
  intro sz
  refine Met.ofW (cc := cX6_readSquares) (maxL := 7) (ret := none) (by decide) rfl ?_
  intro p e s m args below meth c s₁ B hml hv
  obtain ⟨rfl, hsz, hP, hK, hD0, hRO⟩ := hv
  have hts := atoms_spec (ws := wz_X6_readSquares) B.pre
  have hown : s.vm.findClass RX6 = some m.cls := findClass_of_methodNamed B.named
  subst hsz
  have hD := hD0.self (sz := s.heap.size)
  have F : CallFix p m c cX6_readSquares 7 s _ wz_X6_readSquares RX6 := ⟨B.exec, B.bytes, hml, hown, hts⟩
  have hr := B.returns
  have hlocks := B.notSynchronized
  generalize hAe : va_A (wL cy X S0) s.heap.size = A at hD hK ⊢
  have hA : ∀ q, s.heap.size ≤ q → A q := fun q h => by rw [← hAe]; exact Or.inr h
  have hW : wO D cy X A s.heap S0 s.heap [] := ⟨hP, hD, va_S.rf, hA, hRO⟩
  have hl := lv_entry ([.ref a0, .ref a1, .ref a2]) (n := 7) (Nat.le_of_ble_eq_true rfl)
  rw [lg_entry_eq]
  generalize (lg_sl ([.ref a0, .ref a1, .ref a2]) ++ List.replicate (7 - (lg_sl ([.ref a0, .ref a1, .ref a2])).length) Slot.unset).toArray = ls at hl ⊢
  have hl : lv_has ls 7 [(0, .ref a0), (1, .ref a1), (2, .ref a2)] := hl
  unfold wp_X6_readSquares at hp
  exact t_X6_readSquares_0 F hr hlocks hK hp hW wX.rf (lv_sub hl [0, 1, 2] rfl) hL_a0 hK_a0 hL_a1 hK_a1 hL_a2 hK_a2
def wp_X6_writeRank_102 (D : wD) (post : wS → Prop)  (S : wS) : Prop :=
post S
def wp_X6_writeRank_84 (D : wD) (post : wS → Prop) (k_6 : wS → Nat → Nat → Int32 → Nat → Int32 → Int32 → Prop) (S : wS) (a0 : Nat) (a1 : Nat) (x2 : Int32) (a3 : Nat) (x4 : Int32) (x5 : Int32) : Prop :=
∀ x_1 : Int32, x_1 = x5 + 1 →
k_6 S a0 a1 x2 a3 x4 x_1
def wp_X6_writeRank_59 (D : wD) (post : wS → Prop) (k_6 : wS → Nat → Nat → Int32 → Nat → Int32 → Int32 → Prop) (S : wS) (a0 : Nat) (a1 : Nat) (x2 : Int32) (a3 : Nat) (x5 : Int32) (x6 : Int32) : Prop :=
∀ y_1 : Nat, y_1 = D.2.2.1 1 →
wp_J0_length_8abf5 D (fun r_2 S_3 => 
((r_2 ≤ x6 → wp_X6_writeRank_84 D post k_6 S_3 a0 a1 x2 a3 (0 : Int32) x5) ∧
 (¬ r_2 ≤ x6 → ∀ y_5 : Nat, y_5 = D.2.2.1 1 →
wp_J0_charAt_5068e D (fun r_6 S_7 => 
wp_J4_append_cf468 D (fun r_8 S_9 => 
wp_X6_writeRank_84 D post k_6 S_9 a0 a1 x2 a3 (0 : Int32) x5) S_7 a3 r_6) S_3 y_5 x6))) S y_1
def wp_X6_writeRank_6 (D : wD) (post : wS → Prop)  : Nat → wS → Nat → Nat → Int32 → Nat → Int32 → Int32 → Prop
  | 0, _, _, _, _, _, _, _ => False
  | n + 1, S, a0, a1, x2, a3, x4, x5 =>
    ∃ y_1 : Nat, sR S a0 0 = some y_1 ∧ wM D S y_1 ∧ sK S y_1 = 5 ∧
    (((sI S y_1 0) ≤ x5 → ((x4 ≤ 0 → wp_X6_writeRank_102 D post S) ∧
     (¬ x4 ≤ 0 → wp_J4_append_bf812 D (fun r_4 S_5 => 
    wp_X6_writeRank_102 D post S_5) S a3 x4))) ∧
     (¬ (sI S y_1 0) ≤ x5 → ∃ y_6 : Nat, sR S a0 0 = some y_6 ∧ wM D S y_6 ∧ sK S y_6 = 5 ∧
    wp_X7_pieceOn D (fun r_7 S_8 => 
    ((¬ r_7 = 0 → ((x4 ≤ 0 → wp_X6_writeRank_59 D post (wp_X6_writeRank_6 D post n) S_8 a0 a1 x2 a3 x5 r_7) ∧
     (¬ x4 ≤ 0 → wp_J4_append_bf812 D (fun r_11 S_12 => 
    wp_X6_writeRank_59 D post (wp_X6_writeRank_6 D post n) S_12 a0 a1 x2 a3 x5 r_7) S_8 a3 x4))) ∧
     (r_7 = 0 → ∀ x_13 : Int32, x_13 = x4 + 1 →
    wp_X6_writeRank_84 D post (wp_X6_writeRank_6 D post n) S_8 a0 a1 x2 a3 x_13 x5))) S a1 ((x2 * (sI S y_6 0)) + x5)))
def wp_X6_writeRank_0 (D : wD) (post : wS → Prop)  (S : wS) (a0 : Nat) (a1 : Nat) (x2 : Int32) (a3 : Nat) : Prop :=
∃ n_1 : Nat, wp_X6_writeRank_6 D post n_1 S a0 a1 x2 a3 (0 : Int32) (0 : Int32)
abbrev r_X6_writeRank : Room := { frames := 4, cells := 0, slots := 0, locals := 84 }
def wp_X6_writeRank (D : wD) (post : wS → Prop) (S : wS) (a0 : Nat) (a1 : Nat) (x2 : Int32) (a3 : Nat) : Prop := wp_X6_writeRank_0 D post S a0 a1 x2 a3
set_option maxHeartbeats 4000000 in
set_option maxRecDepth 100000 in
theorem t_X6_writeRank_102 {p : Program} {l : Launch} {e : Env} {s : State} {m : MethodId} {args : Array Value} {below : List Frame} {meth : Method} {c : Code} {D : wD} {cy : Nat → ClassId} {X : va_W} {A : Nat → Prop} {S0 : wS} {post : wS → Prop} (F : CallFix p m c cX6_writeRank 7 s args wz_X6_writeRank RX6) (hr : meth.sig.returnType = none) (hlocks : meth.locks = false) (hK : wK D cy A s) : ∀ {S : wS} {H : Heap} {locs : List Loc} {ls : Array Slot}, wp_X6_writeRank_102 D post S → wO D cy X A s.heap S H locs → wX D S0 S → lv_has ls 7 [] → W p l e r_X6_writeRank s m args below meth c H locs 0 0 (MQ below (va_Qv (fun S9 => wX D S0 S9 ∧ post S9) (wB D cy X A) A) args s 0 0 A) (F0 m 102 ls []) := by
  obtain ⟨hx, hb, hml, hown, hts⟩ := id F
  have hwg : ∀ w ∈ WG, w.before args s = true := fun w h => hts w (List.mem_cons_of_mem _ h)
  intro S H locs ls hp hW hE hl
  unfold wp_X6_writeRank_102 at hp
  exact w_vret hx hb hr hlocks hW ⟨hE, hp⟩ dX6_writeRank_102
set_option maxHeartbeats 4000000 in
set_option maxRecDepth 100000 in
theorem t_X6_writeRank_84 {p : Program} {l : Launch} {e : Env} {s : State} {m : MethodId} {args : Array Value} {below : List Frame} {meth : Method} {c : Code} {D : wD} {cy : Nat → ClassId} {X : va_W} {A : Nat → Prop} {S0 : wS} {post : wS → Prop} (F : CallFix p m c cX6_writeRank 7 s args wz_X6_writeRank RX6) (hr : meth.sig.returnType = none) (hlocks : meth.locks = false) (hK : wK D cy A s) {k_6 : wS → Nat → Nat → Int32 → Nat → Int32 → Int32 → Prop} (q_6 : ∀ {S : wS} {H : Heap} {locs : List Loc} {ls : Array Slot} {a0 : Nat} {a1 : Nat} {x2 : Int32} {a3 : Nat} {x4 : Int32} {x5 : Int32}, k_6 S a0 a1 x2 a3 x4 x5 → wO D cy X A s.heap S H locs → wX D S0 S → lv_has ls 7 [(0, .ref a0), (1, .ref a1), (2, .int x2), (3, .ref a3), (4, .int x4), (5, .int x5)] → wM D S a0 → sK S a0 = 11 → wM D S a1 → sK S a1 = 12 → wM D S a3 → sK S a3 = 1 → W p l e r_X6_writeRank s m args below meth c H locs 0 0 (MQ below (va_Qv (fun S9 => wX D S0 S9 ∧ post S9) (wB D cy X A) A) args s 0 0 A) (F0 m 6 ls [])) : ∀ {S : wS} {H : Heap} {locs : List Loc} {ls : Array Slot} {a0 : Nat} {a1 : Nat} {x2 : Int32} {a3 : Nat} {x4 : Int32} {x5 : Int32}, wp_X6_writeRank_84 D post k_6 S a0 a1 x2 a3 x4 x5 → wO D cy X A s.heap S H locs → wX D S0 S → lv_has ls 7 [(0, .ref a0), (1, .ref a1), (2, .int x2), (3, .ref a3), (4, .int x4), (5, .int x5)] → wM D S a0 → sK S a0 = 11 → wM D S a1 → sK S a1 = 12 → wM D S a3 → sK S a3 = 1 → W p l e r_X6_writeRank s m args below meth c H locs 0 0 (MQ below (va_Qv (fun S9 => wX D S0 S9 ∧ post S9) (wB D cy X A) A) args s 0 0 A) (F0 m 84 ls []) := by
  obtain ⟨hx, hb, hml, hown, hts⟩ := id F
  have hwg : ∀ w ∈ WG, w.before args s = true := fun w h => hts w (List.mem_cons_of_mem _ h)
  intro S H locs ls a0 a1 x2 a3 x4 x5 hp hW hE hl hL_a0 hK_a0 hL_a1 hK_a1 hL_a3 hK_a3
  unfold wp_X6_writeRank_84 at hp
  obtain ⟨x_1, ex_1⟩ : ∃ z : Int32, z = x5 + 1 := ⟨_, rfl⟩
  replace hp := hp x_1 ex_1
  refine lv_iinc (v := x_1) (lv' := [(5, .int x_1), (0, .ref a0), (1, .ref a1), (2, .int x2), (3, .ref a3), (4, .int x4)]) hx hb dX6_writeRank_84 hl (k := 5) rfl (by rw [ex_1]; rfl) (by decide) rfl (fun ls hl => ?_)
  refine lv_goto (tgt := 6) hx hb dX6_writeRank_87 (by decide) ?_
  exact q_6 hp hW hE (lv_sub hl [1, 2, 3, 4, 5, 0] rfl) hL_a0 hK_a0 hL_a1 hK_a1 hL_a3 hK_a3
set_option maxHeartbeats 4000000 in
set_option maxRecDepth 100000 in
theorem t_X6_writeRank_59 {p : Program} {l : Launch} {e : Env} {s : State} {m : MethodId} {args : Array Value} {below : List Frame} {meth : Method} {c : Code} {D : wD} {cy : Nat → ClassId} {X : va_W} {A : Nat → Prop} {S0 : wS} {post : wS → Prop} (F : CallFix p m c cX6_writeRank 7 s args wz_X6_writeRank RX6) (hr : meth.sig.returnType = none) (hlocks : meth.locks = false) (hK : wK D cy A s) {k_6 : wS → Nat → Nat → Int32 → Nat → Int32 → Int32 → Prop} (q_6 : ∀ {S : wS} {H : Heap} {locs : List Loc} {ls : Array Slot} {a0 : Nat} {a1 : Nat} {x2 : Int32} {a3 : Nat} {x4 : Int32} {x5 : Int32}, k_6 S a0 a1 x2 a3 x4 x5 → wO D cy X A s.heap S H locs → wX D S0 S → lv_has ls 7 [(0, .ref a0), (1, .ref a1), (2, .int x2), (3, .ref a3), (4, .int x4), (5, .int x5)] → wM D S a0 → sK S a0 = 11 → wM D S a1 → sK S a1 = 12 → wM D S a3 → sK S a3 = 1 → W p l e r_X6_writeRank s m args below meth c H locs 0 0 (MQ below (va_Qv (fun S9 => wX D S0 S9 ∧ post S9) (wB D cy X A) A) args s 0 0 A) (F0 m 6 ls [])) : ∀ {S : wS} {H : Heap} {locs : List Loc} {ls : Array Slot} {a0 : Nat} {a1 : Nat} {x2 : Int32} {a3 : Nat} {x5 : Int32} {x6 : Int32}, wp_X6_writeRank_59 D post k_6 S a0 a1 x2 a3 x5 x6 → wO D cy X A s.heap S H locs → wX D S0 S → lv_has ls 7 [(0, .ref a0), (1, .ref a1), (2, .int x2), (3, .ref a3), (5, .int x5), (6, .int x6)] → wM D S a0 → sK S a0 = 11 → wM D S a1 → sK S a1 = 12 → wM D S a3 → sK S a3 = 1 → W p l e r_X6_writeRank s m args below meth c H locs 0 0 (MQ below (va_Qv (fun S9 => wX D S0 S9 ∧ post S9) (wB D cy X A) A) args s 0 0 A) (F0 m 59 ls []) := by
  obtain ⟨hx, hb, hml, hown, hts⟩ := id F
  have hwg : ∀ w ∈ WG, w.before args s = true := fun w h => hts w (List.mem_cons_of_mem _ h)
  intro S H locs ls a0 a1 x2 a3 x5 x6 hp hW hE hl hL_a0 hK_a0 hL_a1 hK_a1 hL_a3 hK_a3
  unfold wp_X6_writeRank_59 at hp
  refine lv_iconst (v := 0) hx hb dX6_writeRank_59 (by decide) ?_
  refine lv_istore (lv' := [(4, .int (0 : Int32)), (0, .ref a0), (1, .ref a1), (2, .int x2), (3, .ref a3), (5, .int x5), (6, .int x6)]) hx hb dX6_writeRank_60 hl (by decide) rfl (fun ls hl => ?_)
  refine lv_iload hx hb dX6_writeRank_62 (lv_at hl 6 rfl) ?_
  refine w_str F hK (show ("OpeningsCabinet$Papers", 90, " KQRBNPkqrbnp", 1) ∈ wStr by decide +kernel) dX6_writeRank_64 ?_
  obtain ⟨y_1, ey_1⟩ : ∃ z : Nat, z = D.2.2.1 1 := ⟨_, rfl⟩
  rw [← ey_1]
  replace hp := hp y_1 ey_1
  obtain ⟨hL_y_1, hK_y_1⟩ : wM D S y_1 ∧ sK S y_1 = 0 := by rw [ey_1]; exact w_strM hK hW (show ("OpeningsCabinet$Papers", 90, " KQRBNPkqrbnp", 1) ∈ wStr by decide +kernel)
  refine w_callI (va_runV (As := []) (rest := [.int x6]) F (c_J0_length_8abf5 l hL_y_1 hK_y_1 hp H.size) (cwV (C := RJ0) 0 hts (wg_V wm_RX6_61 wy_J0_length_8abf5) rfl rfl rfl (by decide +kernel) ⟨Nat.le_of_ble_eq_true rfl, Nat.le_of_ble_eq_true rfl⟩) (w_preV hK hW hL_y_1 hK_y_1 (by decide) rfl) rfl rfl hl.1 rfl (lv_room (Nat.le_of_ble_eq_true rfl)) dX6_writeRank_66 ⟨Nat.le_of_ble_eq_true rfl, Nat.le_of_ble_eq_true rfl⟩) hW (fun r_2 S_3 H locs hp hW => ?_)
  obtain ⟨hX_S_3, hp⟩ := hp
  refine W.widen (k := 0) (n := 0) (by decide) (by decide) ?_
  have hE := hE.trans hX_S_3
  have hK_a0 : sK S_3 a0 = 11 := (hX_S_3.2 a0 hL_a0).1.trans hK_a0
  have hL_a0 : wM D S_3 a0 := hX_S_3.M hL_a0
  have hK_a1 : sK S_3 a1 = 12 := (hX_S_3.2 a1 hL_a1).1.trans hK_a1
  have hL_a1 : wM D S_3 a1 := hX_S_3.M hL_a1
  have hK_a3 : sK S_3 a3 = 1 := (hX_S_3.2 a3 hL_a3).1.trans hK_a3
  have hL_a3 : wM D S_3 a3 := hX_S_3.M hL_a3
  refine lv_icmp_ge (tgt := 84) hx hb dX6_writeRank_69 (by decide) (fun c_4 => ?_) (fun c_4 => ?_)
  · replace hp := hp.1 c_4
    exact t_X6_writeRank_84 F hr hlocks hK q_6 hp hW hE (lv_sub hl [1, 2, 3, 4, 0, 5] rfl) hL_a0 hK_a0 hL_a1 hK_a1 hL_a3 hK_a3
  · replace hp := hp.2 c_4
    refine lv_aload_n hx hb dX6_writeRank_72 rfl (lv_at hl 4 rfl) ?_
    refine w_str F hK (show ("OpeningsCabinet$Papers", 90, " KQRBNPkqrbnp", 1) ∈ wStr by decide +kernel) dX6_writeRank_73 ?_
    obtain ⟨y_5, ey_5⟩ : ∃ z : Nat, z = D.2.2.1 1 := ⟨_, rfl⟩
    rw [← ey_5]
    replace hp := hp y_5 ey_5
    obtain ⟨hL_y_5, hK_y_5⟩ : wM D S_3 y_5 ∧ sK S_3 y_5 = 0 := by rw [ey_5]; exact w_strM hK hW (show ("OpeningsCabinet$Papers", 90, " KQRBNPkqrbnp", 1) ∈ wStr by decide +kernel)
    refine lv_iload hx hb dX6_writeRank_75 (lv_at hl 6 rfl) ?_
    refine w_callI (va_runV (As := [.int x6]) (rest := [.ref a3]) F (c_J0_charAt_5068e l hL_y_5 hK_y_5 hp H.size) (cwV (C := RJ0) 1 hts (wg_V wm_RX6_67 wy_J0_charAt_5068e) rfl rfl rfl (by decide +kernel) ⟨Nat.le_of_ble_eq_true rfl, Nat.le_of_ble_eq_true rfl⟩) (w_preV hK hW hL_y_5 hK_y_5 (by decide) rfl) rfl rfl hl.1 rfl (lv_room (Nat.le_of_ble_eq_true rfl)) dX6_writeRank_77 ⟨Nat.le_of_ble_eq_true rfl, Nat.le_of_ble_eq_true rfl⟩) hW (fun r_6 S_7 H locs hp hW => ?_)
    obtain ⟨hX_S_7, hp⟩ := hp
    refine W.widen (k := 0) (n := 0) (by decide) (by decide) ?_
    have hE := hE.trans hX_S_7
    have hK_a0 : sK S_7 a0 = 11 := (hX_S_7.2 a0 hL_a0).1.trans hK_a0
    have hL_a0 : wM D S_7 a0 := hX_S_7.M hL_a0
    have hK_a1 : sK S_7 a1 = 12 := (hX_S_7.2 a1 hL_a1).1.trans hK_a1
    have hL_a1 : wM D S_7 a1 := hX_S_7.M hL_a1
    have hK_a3 : sK S_7 a3 = 1 := (hX_S_7.2 a3 hL_a3).1.trans hK_a3
    have hL_a3 : wM D S_7 a3 := hX_S_7.M hL_a3
    refine w_callR (va_runV (As := [.int r_6]) (rest := []) F (c_J4_append_cf468 l hL_a3 hK_a3 hp H.size) (cwV (C := RJ4) 1 hts (wg_V wm_RX6_39 wy_J4_append_cf468) rfl rfl rfl (by decide +kernel) ⟨Nat.le_of_ble_eq_true rfl, Nat.le_of_ble_eq_true rfl⟩) (w_preV hK hW hL_a3 hK_a3 (by decide) rfl) rfl rfl hl.1 rfl (lv_room (Nat.le_of_ble_eq_true rfl)) dX6_writeRank_80 ⟨Nat.le_of_ble_eq_true rfl, Nat.le_of_ble_eq_true rfl⟩) hW (fun r_8 S_9 H locs hp hW => ?_)
    obtain ⟨hX_S_9, hp⟩ := hp
    refine W.widen (k := 0) (n := 0) (by decide) (by decide) ?_
    have hE := hE.trans hX_S_9
    have hK_a0 : sK S_9 a0 = 11 := (hX_S_9.2 a0 hL_a0).1.trans hK_a0
    have hL_a0 : wM D S_9 a0 := hX_S_9.M hL_a0
    have hK_a1 : sK S_9 a1 = 12 := (hX_S_9.2 a1 hL_a1).1.trans hK_a1
    have hL_a1 : wM D S_9 a1 := hX_S_9.M hL_a1
    have hK_a3 : sK S_9 a3 = 1 := (hX_S_9.2 a3 hL_a3).1.trans hK_a3
    have hL_a3 : wM D S_9 a3 := hX_S_9.M hL_a3
    refine lv_pop hx hb dX6_writeRank_83 rfl ?_
    exact t_X6_writeRank_84 F hr hlocks hK q_6 hp hW hE (lv_sub hl [1, 2, 3, 4, 0, 5] rfl) hL_a0 hK_a0 hL_a1 hK_a1 hL_a3 hK_a3
set_option maxHeartbeats 4000000 in
set_option maxRecDepth 100000 in
theorem t_X6_writeRank_6 {p : Program} {l : Launch} {e : Env} {s : State} {m : MethodId} {args : Array Value} {below : List Frame} {meth : Method} {c : Code} {D : wD} {cy : Nat → ClassId} {X : va_W} {A : Nat → Prop} {S0 : wS} {post : wS → Prop} (F : CallFix p m c cX6_writeRank 7 s args wz_X6_writeRank RX6) (hr : meth.sig.returnType = none) (hlocks : meth.locks = false) (hK : wK D cy A s) : ∀ (n : Nat) {S : wS} {H : Heap} {locs : List Loc} {ls : Array Slot} {a0 : Nat} {a1 : Nat} {x2 : Int32} {a3 : Nat} {x4 : Int32} {x5 : Int32}, wp_X6_writeRank_6 D post n S a0 a1 x2 a3 x4 x5 → wO D cy X A s.heap S H locs → wX D S0 S → lv_has ls 7 [(0, .ref a0), (1, .ref a1), (2, .int x2), (3, .ref a3), (4, .int x4), (5, .int x5)] → wM D S a0 → sK S a0 = 11 → wM D S a1 → sK S a1 = 12 → wM D S a3 → sK S a3 = 1 → W p l e r_X6_writeRank s m args below meth c H locs 0 0 (MQ below (va_Qv (fun S9 => wX D S0 S9 ∧ post S9) (wB D cy X A) A) args s 0 0 A) (F0 m 6 ls []) := by
  obtain ⟨hx, hb, hml, hown, hts⟩ := id F
  have hwg : ∀ w ∈ WG, w.before args s = true := fun w h => hts w (List.mem_cons_of_mem _ h)
  have i_11 : ∀ w ∈ u_ws RX6 TX6 3, w ∈ wz_X6_writeRank := fun w h => List.mem_cons_of_mem _ (wu_11 w h)
  have i_5 : ∀ w ∈ u_ws RX0 TX0 12, w ∈ wz_X6_writeRank := fun w h => List.mem_cons_of_mem _ (wu_5 w h)
  have k_22 := hwg _ wf_RX6_22
  intro n
  induction n with
  | zero =>
    intro S H locs ls a0 a1 x2 a3 x4 x5 hp
    exact hp.elim
  | succ n ih =>
    intro S H locs ls a0 a1 x2 a3 x4 x5 hp hW hE hl hL_a0 hK_a0 hL_a1 hK_a1 hL_a3 hK_a3
    unfold wp_X6_writeRank_6 at hp
    refine lv_iload hx hb dX6_writeRank_6 (lv_at hl 5 rfl) ?_
    refine lv_aload_n hx hb dX6_writeRank_8 rfl (lv_at hl 0 rfl) ?_
    obtain ⟨y_1, ey_1, hL_y_1, hK_y_1, hp⟩ := hp
    refine w_get (k := 11) (f := 0) (T := TX6) (v := .ref y_1) F hK hW hL_a0 hK_a0 (by decide) rfl rfl (by decide) i_11 k_22 (by rw [show wv 11 0 S a0 = va_rf (sR S a0 0) from rfl, ey_1]; rfl) dX6_writeRank_9 ?_
    refine w_getN (k := 5) (f := 0) (T := TX0) (v := .int (sI S y_1 0)) F hK hW hL_y_1 hK_y_1 (by decide) rfl rfl (by decide) i_5 (hK.2.1 (.fieldLinkNest "OpeningsCabinet$Papers" 81 "OpeningsCabinet$Board" "files" "I" "OpeningsCabinet") (by decide +kernel)) rfl dX6_writeRank_12 ?_
    refine lv_icmp_ge (tgt := 90) hx hb dX6_writeRank_15 (by decide) (fun c_2 => ?_) (fun c_2 => ?_)
    · replace hp := hp.1 c_2
      refine lv_iload hx hb dX6_writeRank_90 (lv_at hl 4 rfl) ?_
      refine lv_if_le (tgt := 102) hx hb dX6_writeRank_92 (by decide) (fun c_3 => ?_) (fun c_3 => ?_)
      · replace hp := hp.1 c_3
        exact t_X6_writeRank_102 F hr hlocks hK hp hW hE (lv_sub hl [] rfl)
      · replace hp := hp.2 c_3
        refine lv_aload_n hx hb dX6_writeRank_95 rfl (lv_at hl 3 rfl) ?_
        refine lv_iload hx hb dX6_writeRank_96 (lv_at hl 4 rfl) ?_
        refine w_callR (va_runV (As := [.int x4]) (rest := []) F (c_J4_append_bf812 l hL_a3 hK_a3 hp H.size) (cwV (C := RJ4) 1 hts (wg_V wm_RX6_87 wy_J4_append_bf812) rfl rfl rfl (by decide +kernel) ⟨Nat.le_of_ble_eq_true rfl, Nat.le_of_ble_eq_true rfl⟩) (w_preV hK hW hL_a3 hK_a3 (by decide) rfl) rfl rfl hl.1 rfl (lv_room (Nat.le_of_ble_eq_true rfl)) dX6_writeRank_98 ⟨Nat.le_of_ble_eq_true rfl, Nat.le_of_ble_eq_true rfl⟩) hW (fun r_4 S_5 H locs hp hW => ?_)
        obtain ⟨hX_S_5, hp⟩ := hp
        refine W.widen (k := 0) (n := 0) (by decide) (by decide) ?_
        have hE := hE.trans hX_S_5
        have hK_a0 : sK S_5 a0 = 11 := (hX_S_5.2 a0 hL_a0).1.trans hK_a0
        have hL_a0 : wM D S_5 a0 := hX_S_5.M hL_a0
        have hK_a1 : sK S_5 a1 = 12 := (hX_S_5.2 a1 hL_a1).1.trans hK_a1
        have hL_a1 : wM D S_5 a1 := hX_S_5.M hL_a1
        have hK_a3 : sK S_5 a3 = 1 := (hX_S_5.2 a3 hL_a3).1.trans hK_a3
        have hL_a3 : wM D S_5 a3 := hX_S_5.M hL_a3
        refine lv_pop hx hb dX6_writeRank_101 rfl ?_
        exact t_X6_writeRank_102 F hr hlocks hK hp hW hE (lv_sub hl [] rfl)
    · replace hp := hp.2 c_2
      refine lv_aload_n hx hb dX6_writeRank_18 rfl (lv_at hl 1 rfl) ?_
      refine lv_iload_n hx hb dX6_writeRank_19 rfl (lv_at hl 2 rfl) ?_
      refine lv_aload_n hx hb dX6_writeRank_20 rfl (lv_at hl 0 rfl) ?_
      obtain ⟨y_6, ey_6, hL_y_6, hK_y_6, hp⟩ := hp
      refine w_get (k := 11) (f := 0) (T := TX6) (v := .ref y_6) F hK hW hL_a0 hK_a0 (by decide) rfl rfl (by decide) i_11 k_22 (by rw [show wv 11 0 S a0 = va_rf (sR S a0 0) from rfl, ey_6]; rfl) dX6_writeRank_21 ?_
      refine w_getN (k := 5) (f := 0) (T := TX0) (v := .int (sI S y_6 0)) F hK hW hL_y_6 hK_y_6 (by decide) rfl rfl (by decide) i_5 (hK.2.1 (.fieldLinkNest "OpeningsCabinet$Papers" 81 "OpeningsCabinet$Board" "files" "I" "OpeningsCabinet") (by decide +kernel)) rfl dX6_writeRank_24 ?_
      refine lv_imul hx hb dX6_writeRank_27 ?_
      refine lv_iload hx hb dX6_writeRank_28 (lv_at hl 5 rfl) ?_
      refine lv_iadd hx hb dX6_writeRank_30 ?_
      refine w_callI (va_runV (As := [.int ((x2 * (sI S y_6 0)) + x5)]) (rest := []) F (c_X7_pieceOn l hL_a1 hK_a1 hp H.size) (cwV (C := RX7) 1 hts (wg_V wm_RX6_84 wy_X7_pieceOn) rfl rfl rfl (by decide +kernel) ⟨Nat.le_of_ble_eq_true rfl, Nat.le_of_ble_eq_true rfl⟩) (w_preV hK hW hL_a1 hK_a1 (by decide) rfl) rfl rfl hl.1 rfl (lv_room (Nat.le_of_ble_eq_true rfl)) dX6_writeRank_31 ⟨Nat.le_of_ble_eq_true rfl, Nat.le_of_ble_eq_true rfl⟩) hW (fun r_7 S_8 H locs hp hW => ?_)
      obtain ⟨hX_S_8, hp⟩ := hp
      refine W.widen (k := 0) (n := 0) (by decide) (by decide) ?_
      have hE := hE.trans hX_S_8
      have hK_a0 : sK S_8 a0 = 11 := (hX_S_8.2 a0 hL_a0).1.trans hK_a0
      have hL_a0 : wM D S_8 a0 := hX_S_8.M hL_a0
      have hK_a1 : sK S_8 a1 = 12 := (hX_S_8.2 a1 hL_a1).1.trans hK_a1
      have hL_a1 : wM D S_8 a1 := hX_S_8.M hL_a1
      have hK_a3 : sK S_8 a3 = 1 := (hX_S_8.2 a3 hL_a3).1.trans hK_a3
      have hL_a3 : wM D S_8 a3 := hX_S_8.M hL_a3
      refine lv_istore (lv' := [(6, .int r_7), (0, .ref a0), (1, .ref a1), (2, .int x2), (3, .ref a3), (4, .int x4), (5, .int x5)]) hx hb dX6_writeRank_34 hl (by decide) rfl (fun ls hl => ?_)
      refine lv_iload hx hb dX6_writeRank_36 (lv_at hl 0 rfl) ?_
      refine lv_if_ne (tgt := 47) hx hb dX6_writeRank_38 (by decide) (fun c_9 => ?_) (fun c_9 => ?_)
      · replace hp := hp.1 c_9
        refine lv_iload hx hb dX6_writeRank_47 (lv_at hl 5 rfl) ?_
        refine lv_if_le (tgt := 59) hx hb dX6_writeRank_49 (by decide) (fun c_10 => ?_) (fun c_10 => ?_)
        · replace hp := hp.1 c_10
          exact t_X6_writeRank_59 F hr hlocks hK ih hp hW hE (lv_sub hl [1, 2, 3, 4, 6, 0] rfl) hL_a0 hK_a0 hL_a1 hK_a1 hL_a3 hK_a3
        · replace hp := hp.2 c_10
          refine lv_aload_n hx hb dX6_writeRank_52 rfl (lv_at hl 4 rfl) ?_
          refine lv_iload hx hb dX6_writeRank_53 (lv_at hl 5 rfl) ?_
          refine w_callR (va_runV (As := [.int x4]) (rest := []) F (c_J4_append_bf812 l hL_a3 hK_a3 hp H.size) (cwV (C := RJ4) 1 hts (wg_V wm_RX6_87 wy_J4_append_bf812) rfl rfl rfl (by decide +kernel) ⟨Nat.le_of_ble_eq_true rfl, Nat.le_of_ble_eq_true rfl⟩) (w_preV hK hW hL_a3 hK_a3 (by decide) rfl) rfl rfl hl.1 rfl (lv_room (Nat.le_of_ble_eq_true rfl)) dX6_writeRank_55 ⟨Nat.le_of_ble_eq_true rfl, Nat.le_of_ble_eq_true rfl⟩) hW (fun r_11 S_12 H locs hp hW => ?_)
          obtain ⟨hX_S_12, hp⟩ := hp
          refine W.widen (k := 0) (n := 0) (by decide) (by decide) ?_
          have hE := hE.trans hX_S_12
          have hK_a0 : sK S_12 a0 = 11 := (hX_S_12.2 a0 hL_a0).1.trans hK_a0
          have hL_a0 : wM D S_12 a0 := hX_S_12.M hL_a0
          have hK_a1 : sK S_12 a1 = 12 := (hX_S_12.2 a1 hL_a1).1.trans hK_a1
          have hL_a1 : wM D S_12 a1 := hX_S_12.M hL_a1
          have hK_a3 : sK S_12 a3 = 1 := (hX_S_12.2 a3 hL_a3).1.trans hK_a3
          have hL_a3 : wM D S_12 a3 := hX_S_12.M hL_a3
          refine lv_pop hx hb dX6_writeRank_58 rfl ?_
          exact t_X6_writeRank_59 F hr hlocks hK ih hp hW hE (lv_sub hl [1, 2, 3, 4, 6, 0] rfl) hL_a0 hK_a0 hL_a1 hK_a1 hL_a3 hK_a3
      · replace hp := hp.2 c_9
        obtain ⟨x_13, ex_13⟩ : ∃ z : Int32, z = x4 + 1 := ⟨_, rfl⟩
        replace hp := hp x_13 ex_13
        refine lv_iinc (v := x_13) (lv' := [(4, .int x_13), (6, .int r_7), (0, .ref a0), (1, .ref a1), (2, .int x2), (3, .ref a3), (5, .int x5)]) hx hb dX6_writeRank_41 hl (k := 5) rfl (by rw [ex_13]; rfl) (by decide) rfl (fun ls hl => ?_)
        refine lv_goto (tgt := 84) hx hb dX6_writeRank_44 (by decide) ?_
        exact t_X6_writeRank_84 F hr hlocks hK ih hp hW hE (lv_sub hl [2, 3, 4, 5, 0, 6] rfl) hL_a0 hK_a0 hL_a1 hK_a1 hL_a3 hK_a3
set_option maxHeartbeats 4000000 in
set_option maxRecDepth 100000 in
theorem t_X6_writeRank_0 {p : Program} {l : Launch} {e : Env} {s : State} {m : MethodId} {args : Array Value} {below : List Frame} {meth : Method} {c : Code} {D : wD} {cy : Nat → ClassId} {X : va_W} {A : Nat → Prop} {S0 : wS} {post : wS → Prop} (F : CallFix p m c cX6_writeRank 7 s args wz_X6_writeRank RX6) (hr : meth.sig.returnType = none) (hlocks : meth.locks = false) (hK : wK D cy A s) : ∀ {S : wS} {H : Heap} {locs : List Loc} {ls : Array Slot} {a0 : Nat} {a1 : Nat} {x2 : Int32} {a3 : Nat}, wp_X6_writeRank_0 D post S a0 a1 x2 a3 → wO D cy X A s.heap S H locs → wX D S0 S → lv_has ls 7 [(0, .ref a0), (1, .ref a1), (2, .int x2), (3, .ref a3)] → wM D S a0 → sK S a0 = 11 → wM D S a1 → sK S a1 = 12 → wM D S a3 → sK S a3 = 1 → W p l e r_X6_writeRank s m args below meth c H locs 0 0 (MQ below (va_Qv (fun S9 => wX D S0 S9 ∧ post S9) (wB D cy X A) A) args s 0 0 A) (F0 m 0 ls []) := by
  obtain ⟨hx, hb, hml, hown, hts⟩ := id F
  have hwg : ∀ w ∈ WG, w.before args s = true := fun w h => hts w (List.mem_cons_of_mem _ h)
  intro S H locs ls a0 a1 x2 a3 hp hW hE hl hL_a0 hK_a0 hL_a1 hK_a1 hL_a3 hK_a3
  unfold wp_X6_writeRank_0 at hp
  refine lv_iconst (v := 0) hx hb dX6_writeRank_0 (by decide) ?_
  refine lv_istore (lv' := [(4, .int (0 : Int32)), (0, .ref a0), (1, .ref a1), (2, .int x2), (3, .ref a3)]) hx hb dX6_writeRank_1 hl (by decide) rfl (fun ls hl => ?_)
  refine lv_iconst (v := 0) hx hb dX6_writeRank_3 (by decide) ?_
  refine lv_istore (lv' := [(5, .int (0 : Int32)), (4, .int (0 : Int32)), (0, .ref a0), (1, .ref a1), (2, .int x2), (3, .ref a3)]) hx hb dX6_writeRank_4 hl (by decide) rfl (fun ls hl => ?_)
  obtain ⟨n_1, hp⟩ := hp
  exact t_X6_writeRank_6 F hr hlocks hK n_1 hp hW hE (lv_sub hl [2, 3, 4, 5, 1, 0] rfl) hL_a0 hK_a0 hL_a1 hK_a1 hL_a3 hK_a3
set_option maxHeartbeats 4000000 in
set_option maxRecDepth 100000 in
theorem c_X6_writeRank (l : Launch) {D : wD} {cy : Nat → ClassId} {X : va_W} {S0 : wS} {post : wS → Prop} {a0 : Nat} {a1 : Nat} {x2 : Int32} {a3 : Nat} (hL_a0 : wM D S0 a0) (hK_a0 : sK S0 a0 = 11) (hL_a1 : wM D S0 a1) (hK_a1 : sK S0 a1 = 12) (hL_a3 : wM D S0 a3) (hK_a3 : sK S0 a3 = 1) (hp : wp_X6_writeRank D post S0 a0 a1 x2 a3) : mV D cy X l yX6_writeRank wz_X6_writeRank r_X6_writeRank [.ref a0, .ref a1, .int x2, .ref a3] S0 (fun S9 => wX D S0 S9 ∧ post S9) := by
  intro sz
  refine Met.ofW (cc := cX6_writeRank) (maxL := 7) (ret := none) (by decide) rfl ?_
  intro p e s m args below meth c s₁ B hml hv
  obtain ⟨rfl, hsz, hP, hK, hD0, hRO⟩ := hv
  have hts := atoms_spec (ws := wz_X6_writeRank) B.pre
  have hown : s.vm.findClass RX6 = some m.cls := findClass_of_methodNamed B.named
  subst hsz
  have hD := hD0.self (sz := s.heap.size)
  have F : CallFix p m c cX6_writeRank 7 s _ wz_X6_writeRank RX6 := ⟨B.exec, B.bytes, hml, hown, hts⟩
  have hr := B.returns
  have hlocks := B.notSynchronized
  generalize hAe : va_A (wL cy X S0) s.heap.size = A at hD hK ⊢
  have hA : ∀ q, s.heap.size ≤ q → A q := fun q h => by rw [← hAe]; exact Or.inr h
  have hW : wO D cy X A s.heap S0 s.heap [] := ⟨hP, hD, va_S.rf, hA, hRO⟩
  have hl := lv_entry ([.ref a0, .ref a1, .int x2, .ref a3]) (n := 7) (Nat.le_of_ble_eq_true rfl)
  rw [lg_entry_eq]
  generalize (lg_sl ([.ref a0, .ref a1, .int x2, .ref a3]) ++ List.replicate (7 - (lg_sl ([.ref a0, .ref a1, .int x2, .ref a3])).length) Slot.unset).toArray = ls at hl ⊢
  have hl : lv_has ls 7 [(0, .ref a0), (1, .ref a1), (2, .int x2), (3, .ref a3)] := hl
  unfold wp_X6_writeRank at hp
  exact t_X6_writeRank_0 F hr hlocks hK hp hW wX.rf (lv_sub hl [0, 1, 2, 3] rfl) hL_a0 hK_a0 hL_a1 hK_a1 hL_a3 hK_a3
def wp_X6_write_180 (D : wD) (post : wS → Prop)  (S : wS) : Prop :=
post S
def wp_X6_write_109 (D : wD) (post : wS → Prop) (k_78 : wS → Nat → Nat → Nat → Int32 → Prop) (S : wS) (a0 : Nat) (a1 : Nat) (a2 : Nat) (x3 : Int32) : Prop :=
∀ x_1 : Int32, x_1 = x3 + 1 →
k_78 S a0 a1 a2 x_1
def wp_X6_write_78 (D : wD) (post : wS → Prop)  : Nat → wS → Nat → Nat → Nat → Int32 → Prop
  | 0, _, _, _, _, _ => False
  | n + 1, S, a0, a1, a2, x3 =>
    ∀ y_1 : Nat, y_1 = D.2.2.1 10 →
    wp_J0_length_8abf5 D (fun r_2 S_3 => 
    ((r_2 ≤ x3 → wp_J4_append_cf468 D (fun r_5 S_6 => 
    ((¬ (sI S_6 a1 7) = (-1 : Int32) → ∃ y_8 : Nat, sR S_6 a0 0 = some y_8 ∧ wM D S_6 y_8 ∧ sK S_6 y_8 = 5 ∧
    wp_X0_fileAt D (fun r_9 S_10 => 
    wp_J4_append_cf468 D (fun r_11 S_12 => 
    ∃ y_13 : Nat, sR S_12 a0 0 = some y_13 ∧ wM D S_12 y_13 ∧ sK S_12 y_13 = 5 ∧
    wp_X0_rankAt D (fun r_14 S_15 => 
    wp_J4_append_cf468 D (fun r_16 S_17 => 
    wp_X6_write_180 D post S_17) S_15 a2 (ji2c ((49 : Int32) + r_14))) S_12 y_13 (sI S_12 a1 7)) S_10 a2 (ji2c ((97 : Int32) + r_9))) S_6 y_8 (sI S_6 a1 7)) ∧
     ((sI S_6 a1 7) = (-1 : Int32) → wp_J4_append_cf468 D (fun r_18 S_19 => 
    wp_X6_write_180 D post S_19) S_6 a2 (45 : Int32)))) S_3 a2 (32 : Int32)) ∧
     (¬ r_2 ≤ x3 → ((((jiushr (sI S_3 a1 6) x3) &&& (1 : Int32)) = 0 → wp_X6_write_109 D post (wp_X6_write_78 D post n) S_3 a0 a1 a2 x3) ∧
     (¬ ((jiushr (sI S_3 a1 6) x3) &&& (1 : Int32)) = 0 → ∀ y_21 : Nat, y_21 = D.2.2.1 10 →
    wp_J0_charAt_5068e D (fun r_22 S_23 => 
    wp_J4_append_cf468 D (fun r_24 S_25 => 
    wp_X6_write_109 D post (wp_X6_write_78 D post n) S_25 a0 a1 a2 x3) S_23 a2 r_22) S_3 y_21 x3))))) S y_1
def wp_X6_write_76 (D : wD) (post : wS → Prop)  (S : wS) (a0 : Nat) (a1 : Nat) (a2 : Nat) : Prop :=
∃ n_1 : Nat, wp_X6_write_78 D post n_1 S a0 a1 a2 (0 : Int32)
def wp_X6_write_58 (D : wD) (post : wS → Prop)  (S : wS) (a0 : Nat) (a1 : Nat) (a2 : Nat) (b0 : Nat) (b1 : Nat) : Prop :=
wp_J4_append_15ec4 D (fun r_1 S_2 => 
((¬ (sI S_2 a1 6) = 0 → wp_X6_write_76 D post S_2 a0 a1 a2) ∧
 ((sI S_2 a1 6) = 0 → wp_J4_append_cf468 D (fun r_4 S_5 => 
wp_X6_write_76 D post S_5 a0 a1 a2) S_2 a2 (45 : Int32)))) S b0 b1
def wp_X6_write_37 (D : wD) (post : wS → Prop) (k_15 : wS → Nat → Nat → Nat → Int32 → Prop) (S : wS) (a0 : Nat) (a1 : Nat) (a2 : Nat) (x3 : Int32) : Prop :=
∀ x_1 : Int32, x_1 = x3 + (-1) →
k_15 S a0 a1 a2 x_1
def wp_X6_write_15 (D : wD) (post : wS → Prop)  : Nat → wS → Nat → Nat → Nat → Int32 → Prop
  | 0, _, _, _, _, _ => False
  | n + 1, S, a0, a1, a2, x3 =>
    ((x3 < 0 → (((sI S a1 5) = 0 → ∀ y_3 : Nat, y_3 = D.2.2.1 9 →
    wp_X6_write_58 D post S a0 a1 a2 a2 y_3) ∧
     (¬ (sI S a1 5) = 0 → ∀ y_4 : Nat, y_4 = D.2.2.1 8 →
    wp_X6_write_58 D post S a0 a1 a2 a2 y_4))) ∧
     (¬ x3 < 0 → wp_X6_writeRank D (fun S_6 => 
    ((x3 ≤ 0 → wp_X6_write_37 D post (wp_X6_write_15 D post n) S_6 a0 a1 a2 x3) ∧
     (¬ x3 ≤ 0 → wp_J4_append_cf468 D (fun r_8 S_9 => 
    wp_X6_write_37 D post (wp_X6_write_15 D post n) S_9 a0 a1 a2 x3) S_6 a2 (47 : Int32)))) S a0 a1 x3 a2))
def wp_X6_write_0 (D : wD) (post : wS → Prop)  (S : wS) (a0 : Nat) (a1 : Nat) (a2 : Nat) : Prop :=
wp_J4_setLength_d00df D (fun S_2 => 
∃ y_3 : Nat, sR S_2 a0 0 = some y_3 ∧ wM D S_2 y_3 ∧ sK S_2 y_3 = 5 ∧
∀ x_4 : Int32, x_4 = ((sI S_2 y_3 1) - (1 : Int32)) →
∃ n_5 : Nat, wp_X6_write_15 D post n_5 S_2 a0 a1 a2 x_4) S a2 (0 : Int32)
abbrev r_X6_write : Room := { frames := 5, cells := 0, slots := 0, locals := 110 }
def wp_X6_write (D : wD) (post : wS → Prop) (S : wS) (a0 : Nat) (a1 : Nat) (a2 : Nat) : Prop := wp_X6_write_0 D post S a0 a1 a2
set_option maxHeartbeats 4000000 in
set_option maxRecDepth 100000 in
theorem t_X6_write_180 {p : Program} {l : Launch} {e : Env} {s : State} {m : MethodId} {args : Array Value} {below : List Frame} {meth : Method} {c : Code} {D : wD} {cy : Nat → ClassId} {X : va_W} {A : Nat → Prop} {S0 : wS} {post : wS → Prop} (F : CallFix p m c cX6_write 4 s args wz_X6_write RX6) (hr : meth.sig.returnType = none) (hlocks : meth.locks = false) (hK : wK D cy A s) : ∀ {S : wS} {H : Heap} {locs : List Loc} {ls : Array Slot}, wp_X6_write_180 D post S → wO D cy X A s.heap S H locs → wX D S0 S → lv_has ls 4 [] → W p l e r_X6_write s m args below meth c H locs 0 0 (MQ below (va_Qv (fun S9 => wX D S0 S9 ∧ post S9) (wB D cy X A) A) args s 0 0 A) (F0 m 180 ls []) := by
  obtain ⟨hx, hb, hml, hown, hts⟩ := id F
  have hwg : ∀ w ∈ WG, w.before args s = true := fun w h => hts w (List.mem_cons_of_mem _ h)
  intro S H locs ls hp hW hE hl
  unfold wp_X6_write_180 at hp
  exact w_vret hx hb hr hlocks hW ⟨hE, hp⟩ dX6_write_180
set_option maxHeartbeats 4000000 in
set_option maxRecDepth 100000 in
theorem t_X6_write_109 {p : Program} {l : Launch} {e : Env} {s : State} {m : MethodId} {args : Array Value} {below : List Frame} {meth : Method} {c : Code} {D : wD} {cy : Nat → ClassId} {X : va_W} {A : Nat → Prop} {S0 : wS} {post : wS → Prop} (F : CallFix p m c cX6_write 4 s args wz_X6_write RX6) (hr : meth.sig.returnType = none) (hlocks : meth.locks = false) (hK : wK D cy A s) {k_78 : wS → Nat → Nat → Nat → Int32 → Prop} (q_78 : ∀ {S : wS} {H : Heap} {locs : List Loc} {ls : Array Slot} {a0 : Nat} {a1 : Nat} {a2 : Nat} {x3 : Int32}, k_78 S a0 a1 a2 x3 → wO D cy X A s.heap S H locs → wX D S0 S → lv_has ls 4 [(0, .ref a0), (1, .ref a1), (2, .ref a2), (3, .int x3)] → wM D S a0 → sK S a0 = 11 → wM D S a1 → sK S a1 = 12 → wM D S a2 → sK S a2 = 1 → W p l e r_X6_write s m args below meth c H locs 0 0 (MQ below (va_Qv (fun S9 => wX D S0 S9 ∧ post S9) (wB D cy X A) A) args s 0 0 A) (F0 m 78 ls [])) : ∀ {S : wS} {H : Heap} {locs : List Loc} {ls : Array Slot} {a0 : Nat} {a1 : Nat} {a2 : Nat} {x3 : Int32}, wp_X6_write_109 D post k_78 S a0 a1 a2 x3 → wO D cy X A s.heap S H locs → wX D S0 S → lv_has ls 4 [(0, .ref a0), (1, .ref a1), (2, .ref a2), (3, .int x3)] → wM D S a0 → sK S a0 = 11 → wM D S a1 → sK S a1 = 12 → wM D S a2 → sK S a2 = 1 → W p l e r_X6_write s m args below meth c H locs 0 0 (MQ below (va_Qv (fun S9 => wX D S0 S9 ∧ post S9) (wB D cy X A) A) args s 0 0 A) (F0 m 109 ls []) := by
  obtain ⟨hx, hb, hml, hown, hts⟩ := id F
  have hwg : ∀ w ∈ WG, w.before args s = true := fun w h => hts w (List.mem_cons_of_mem _ h)
  intro S H locs ls a0 a1 a2 x3 hp hW hE hl hL_a0 hK_a0 hL_a1 hK_a1 hL_a2 hK_a2
  unfold wp_X6_write_109 at hp
  obtain ⟨x_1, ex_1⟩ : ∃ z : Int32, z = x3 + 1 := ⟨_, rfl⟩
  replace hp := hp x_1 ex_1
  refine lv_iinc (v := x_1) (lv' := [(3, .int x_1), (0, .ref a0), (1, .ref a1), (2, .ref a2)]) hx hb dX6_write_109 hl (k := 3) rfl (by rw [ex_1]; rfl) (by decide) rfl (fun ls hl => ?_)
  refine lv_goto (tgt := 78) hx hb dX6_write_112 (by decide) ?_
  exact q_78 hp hW hE (lv_sub hl [1, 2, 3, 0] rfl) hL_a0 hK_a0 hL_a1 hK_a1 hL_a2 hK_a2
set_option maxHeartbeats 4000000 in
set_option maxRecDepth 100000 in
theorem t_X6_write_78 {p : Program} {l : Launch} {e : Env} {s : State} {m : MethodId} {args : Array Value} {below : List Frame} {meth : Method} {c : Code} {D : wD} {cy : Nat → ClassId} {X : va_W} {A : Nat → Prop} {S0 : wS} {post : wS → Prop} (F : CallFix p m c cX6_write 4 s args wz_X6_write RX6) (hr : meth.sig.returnType = none) (hlocks : meth.locks = false) (hK : wK D cy A s) : ∀ (n : Nat) {S : wS} {H : Heap} {locs : List Loc} {ls : Array Slot} {a0 : Nat} {a1 : Nat} {a2 : Nat} {x3 : Int32}, wp_X6_write_78 D post n S a0 a1 a2 x3 → wO D cy X A s.heap S H locs → wX D S0 S → lv_has ls 4 [(0, .ref a0), (1, .ref a1), (2, .ref a2), (3, .int x3)] → wM D S a0 → sK S a0 = 11 → wM D S a1 → sK S a1 = 12 → wM D S a2 → sK S a2 = 1 → W p l e r_X6_write s m args below meth c H locs 0 0 (MQ below (va_Qv (fun S9 => wX D S0 S9 ∧ post S9) (wB D cy X A) A) args s 0 0 A) (F0 m 78 ls []) := by
  obtain ⟨hx, hb, hml, hown, hts⟩ := id F
  have hwg : ∀ w ∈ WG, w.before args s = true := fun w h => hts w (List.mem_cons_of_mem _ h)
  have i_11 : ∀ w ∈ u_ws RX6 TX6 3, w ∈ wz_X6_write := fun w h => List.mem_cons_of_mem _ (wu_11 w h)
  have i_12 : ∀ w ∈ u_ws RX7 TX7 8, w ∈ wz_X6_write := fun w h => List.mem_cons_of_mem _ (wu_12 w h)
  have k_22 := hwg _ wf_RX6_22
  intro n
  induction n with
  | zero =>
    intro S H locs ls a0 a1 a2 x3 hp
    exact hp.elim
  | succ n ih =>
    intro S H locs ls a0 a1 a2 x3 hp hW hE hl hL_a0 hK_a0 hL_a1 hK_a1 hL_a2 hK_a2
    unfold wp_X6_write_78 at hp
    refine lv_iload_n hx hb dX6_write_78 rfl (lv_at hl 3 rfl) ?_
    refine w_str F hK (show ("OpeningsCabinet$Papers", 59, "KQkq", 10) ∈ wStr by decide +kernel) dX6_write_79 ?_
    obtain ⟨y_1, ey_1⟩ : ∃ z : Nat, z = D.2.2.1 10 := ⟨_, rfl⟩
    rw [← ey_1]
    replace hp := hp y_1 ey_1
    obtain ⟨hL_y_1, hK_y_1⟩ : wM D S y_1 ∧ sK S y_1 = 0 := by rw [ey_1]; exact w_strM hK hW (show ("OpeningsCabinet$Papers", 59, "KQkq", 10) ∈ wStr by decide +kernel)
    refine w_callI (va_runV (As := []) (rest := [.int x3]) F (c_J0_length_8abf5 l hL_y_1 hK_y_1 hp H.size) (cwV (C := RJ0) 0 hts (wg_V wm_RX6_61 wy_J0_length_8abf5) rfl rfl rfl (by decide +kernel) ⟨Nat.le_of_ble_eq_true rfl, Nat.le_of_ble_eq_true rfl⟩) (w_preV hK hW hL_y_1 hK_y_1 (by decide) rfl) rfl rfl hl.1 rfl (lv_room (Nat.le_of_ble_eq_true rfl)) dX6_write_81 ⟨Nat.le_of_ble_eq_true rfl, Nat.le_of_ble_eq_true rfl⟩) hW (fun r_2 S_3 H locs hp hW => ?_)
    obtain ⟨hX_S_3, hp⟩ := hp
    refine W.widen (k := 0) (n := 0) (by decide) (by decide) ?_
    have hE := hE.trans hX_S_3
    have hK_a0 : sK S_3 a0 = 11 := (hX_S_3.2 a0 hL_a0).1.trans hK_a0
    have hL_a0 : wM D S_3 a0 := hX_S_3.M hL_a0
    have hK_a1 : sK S_3 a1 = 12 := (hX_S_3.2 a1 hL_a1).1.trans hK_a1
    have hL_a1 : wM D S_3 a1 := hX_S_3.M hL_a1
    have hK_a2 : sK S_3 a2 = 1 := (hX_S_3.2 a2 hL_a2).1.trans hK_a2
    have hL_a2 : wM D S_3 a2 := hX_S_3.M hL_a2
    refine lv_icmp_ge (tgt := 115) hx hb dX6_write_84 (by decide) (fun c_4 => ?_) (fun c_4 => ?_)
    · replace hp := hp.1 c_4
      refine lv_aload_n hx hb dX6_write_115 rfl (lv_at hl 2 rfl) ?_
      refine lv_bipush (v := 32) hx hb dX6_write_116 (by decide) ?_
      refine w_callR (va_runV (As := [.int (32 : Int32)]) (rest := []) F (c_J4_append_cf468 l hL_a2 hK_a2 hp H.size) (cwV (C := RJ4) 1 hts (wg_V wm_RX6_39 wy_J4_append_cf468) rfl rfl rfl (by decide +kernel) ⟨Nat.le_of_ble_eq_true rfl, Nat.le_of_ble_eq_true rfl⟩) (w_preV hK hW hL_a2 hK_a2 (by decide) rfl) rfl rfl hl.1 rfl (lv_room (Nat.le_of_ble_eq_true rfl)) dX6_write_118 ⟨Nat.le_of_ble_eq_true rfl, Nat.le_of_ble_eq_true rfl⟩) hW (fun r_5 S_6 H locs hp hW => ?_)
      obtain ⟨hX_S_6, hp⟩ := hp
      refine W.widen (k := 0) (n := 0) (by decide) (by decide) ?_
      have hE := hE.trans hX_S_6
      have hK_a0 : sK S_6 a0 = 11 := (hX_S_6.2 a0 hL_a0).1.trans hK_a0
      have hL_a0 : wM D S_6 a0 := hX_S_6.M hL_a0
      have hK_a1 : sK S_6 a1 = 12 := (hX_S_6.2 a1 hL_a1).1.trans hK_a1
      have hL_a1 : wM D S_6 a1 := hX_S_6.M hL_a1
      have hK_a2 : sK S_6 a2 = 1 := (hX_S_6.2 a2 hL_a2).1.trans hK_a2
      have hL_a2 : wM D S_6 a2 := hX_S_6.M hL_a2
      refine lv_pop hx hb dX6_write_121 rfl ?_
      refine lv_aload_n hx hb dX6_write_122 rfl (lv_at hl 1 rfl) ?_
      refine w_getN (k := 12) (f := 7) (T := TX7) (v := .int (sI S_6 a1 7)) F hK hW hL_a1 hK_a1 (by decide) rfl rfl (by decide) i_12 (hK.2.1 (.fieldLinkNest "OpeningsCabinet$Papers" 71 "OpeningsCabinet$Position" "passing" "I" "OpeningsCabinet") (by decide +kernel)) rfl dX6_write_123 ?_
      refine lv_iconst (v := (-1)) hx hb dX6_write_126 (by decide) ?_
      refine lv_icmp_ne (tgt := 140) hx hb dX6_write_127 (by decide) (fun c_7 => ?_) (fun c_7 => ?_)
      · replace hp := hp.1 c_7
        refine lv_aload_n hx hb dX6_write_140 rfl (lv_at hl 2 rfl) ?_
        refine lv_bipush (v := 97) hx hb dX6_write_141 (by decide) ?_
        refine lv_aload_n hx hb dX6_write_143 rfl (lv_at hl 0 rfl) ?_
        obtain ⟨y_8, ey_8, hL_y_8, hK_y_8, hp⟩ := hp
        refine w_get (k := 11) (f := 0) (T := TX6) (v := .ref y_8) F hK hW hL_a0 hK_a0 (by decide) rfl rfl (by decide) i_11 k_22 (by rw [show wv 11 0 S_6 a0 = va_rf (sR S_6 a0 0) from rfl, ey_8]; rfl) dX6_write_144 ?_
        refine lv_aload_n hx hb dX6_write_147 rfl (lv_at hl 1 rfl) ?_
        refine w_getN (k := 12) (f := 7) (T := TX7) (v := .int (sI S_6 a1 7)) F hK hW hL_a1 hK_a1 (by decide) rfl rfl (by decide) i_12 (hK.2.1 (.fieldLinkNest "OpeningsCabinet$Papers" 71 "OpeningsCabinet$Position" "passing" "I" "OpeningsCabinet") (by decide +kernel)) rfl dX6_write_148 ?_
        refine w_callI (va_runV (As := [.int (sI S_6 a1 7)]) (rest := [.int (97 : Int32), .ref a2]) F (c_X0_fileAt l hL_y_8 hK_y_8 hp H.size) (cwV (C := RX0) 1 hts (wg_V wm_RX6_74 wy_X0_fileAt) rfl rfl rfl (by decide +kernel) ⟨Nat.le_of_ble_eq_true rfl, Nat.le_of_ble_eq_true rfl⟩) (w_preV hK hW hL_y_8 hK_y_8 (by decide) rfl) rfl rfl hl.1 rfl (lv_room (Nat.le_of_ble_eq_true rfl)) dX6_write_151 ⟨Nat.le_of_ble_eq_true rfl, Nat.le_of_ble_eq_true rfl⟩) hW (fun r_9 S_10 H locs hp hW => ?_)
        obtain ⟨hX_S_10, hp⟩ := hp
        refine W.widen (k := 0) (n := 0) (by decide) (by decide) ?_
        have hE := hE.trans hX_S_10
        have hK_a0 : sK S_10 a0 = 11 := (hX_S_10.2 a0 hL_a0).1.trans hK_a0
        have hL_a0 : wM D S_10 a0 := hX_S_10.M hL_a0
        have hK_a1 : sK S_10 a1 = 12 := (hX_S_10.2 a1 hL_a1).1.trans hK_a1
        have hL_a1 : wM D S_10 a1 := hX_S_10.M hL_a1
        have hK_a2 : sK S_10 a2 = 1 := (hX_S_10.2 a2 hL_a2).1.trans hK_a2
        have hL_a2 : wM D S_10 a2 := hX_S_10.M hL_a2
        refine lv_iadd hx hb dX6_write_154 ?_
        refine lv_i2c (v := (ji2c ((97 : Int32) + r_9))) hx hb dX6_write_155 rfl ?_
        refine w_callR (va_runV (As := [.int (ji2c ((97 : Int32) + r_9))]) (rest := []) F (c_J4_append_cf468 l hL_a2 hK_a2 hp H.size) (cwV (C := RJ4) 1 hts (wg_V wm_RX6_39 wy_J4_append_cf468) rfl rfl rfl (by decide +kernel) ⟨Nat.le_of_ble_eq_true rfl, Nat.le_of_ble_eq_true rfl⟩) (w_preV hK hW hL_a2 hK_a2 (by decide) rfl) rfl rfl hl.1 rfl (lv_room (Nat.le_of_ble_eq_true rfl)) dX6_write_156 ⟨Nat.le_of_ble_eq_true rfl, Nat.le_of_ble_eq_true rfl⟩) hW (fun r_11 S_12 H locs hp hW => ?_)
        obtain ⟨hX_S_12, hp⟩ := hp
        refine W.widen (k := 0) (n := 0) (by decide) (by decide) ?_
        have hE := hE.trans hX_S_12
        have hK_a0 : sK S_12 a0 = 11 := (hX_S_12.2 a0 hL_a0).1.trans hK_a0
        have hL_a0 : wM D S_12 a0 := hX_S_12.M hL_a0
        have hK_a1 : sK S_12 a1 = 12 := (hX_S_12.2 a1 hL_a1).1.trans hK_a1
        have hL_a1 : wM D S_12 a1 := hX_S_12.M hL_a1
        have hK_a2 : sK S_12 a2 = 1 := (hX_S_12.2 a2 hL_a2).1.trans hK_a2
        have hL_a2 : wM D S_12 a2 := hX_S_12.M hL_a2
        refine lv_pop hx hb dX6_write_159 rfl ?_
        refine lv_aload_n hx hb dX6_write_160 rfl (lv_at hl 2 rfl) ?_
        refine lv_bipush (v := 49) hx hb dX6_write_161 (by decide) ?_
        refine lv_aload_n hx hb dX6_write_163 rfl (lv_at hl 0 rfl) ?_
        obtain ⟨y_13, ey_13, hL_y_13, hK_y_13, hp⟩ := hp
        refine w_get (k := 11) (f := 0) (T := TX6) (v := .ref y_13) F hK hW hL_a0 hK_a0 (by decide) rfl rfl (by decide) i_11 k_22 (by rw [show wv 11 0 S_12 a0 = va_rf (sR S_12 a0 0) from rfl, ey_13]; rfl) dX6_write_164 ?_
        refine lv_aload_n hx hb dX6_write_167 rfl (lv_at hl 1 rfl) ?_
        refine w_getN (k := 12) (f := 7) (T := TX7) (v := .int (sI S_12 a1 7)) F hK hW hL_a1 hK_a1 (by decide) rfl rfl (by decide) i_12 (hK.2.1 (.fieldLinkNest "OpeningsCabinet$Papers" 71 "OpeningsCabinet$Position" "passing" "I" "OpeningsCabinet") (by decide +kernel)) rfl dX6_write_168 ?_
        refine w_callI (va_runV (As := [.int (sI S_12 a1 7)]) (rest := [.int (49 : Int32), .ref a2]) F (c_X0_rankAt l hL_y_13 hK_y_13 hp H.size) (cwV (C := RX0) 1 hts (wg_V wm_RX6_78 wy_X0_rankAt) rfl rfl rfl (by decide +kernel) ⟨Nat.le_of_ble_eq_true rfl, Nat.le_of_ble_eq_true rfl⟩) (w_preV hK hW hL_y_13 hK_y_13 (by decide) rfl) rfl rfl hl.1 rfl (lv_room (Nat.le_of_ble_eq_true rfl)) dX6_write_171 ⟨Nat.le_of_ble_eq_true rfl, Nat.le_of_ble_eq_true rfl⟩) hW (fun r_14 S_15 H locs hp hW => ?_)
        obtain ⟨hX_S_15, hp⟩ := hp
        refine W.widen (k := 0) (n := 0) (by decide) (by decide) ?_
        have hE := hE.trans hX_S_15
        have hK_a0 : sK S_15 a0 = 11 := (hX_S_15.2 a0 hL_a0).1.trans hK_a0
        have hL_a0 : wM D S_15 a0 := hX_S_15.M hL_a0
        have hK_a1 : sK S_15 a1 = 12 := (hX_S_15.2 a1 hL_a1).1.trans hK_a1
        have hL_a1 : wM D S_15 a1 := hX_S_15.M hL_a1
        have hK_a2 : sK S_15 a2 = 1 := (hX_S_15.2 a2 hL_a2).1.trans hK_a2
        have hL_a2 : wM D S_15 a2 := hX_S_15.M hL_a2
        refine lv_iadd hx hb dX6_write_174 ?_
        refine lv_i2c (v := (ji2c ((49 : Int32) + r_14))) hx hb dX6_write_175 rfl ?_
        refine w_callR (va_runV (As := [.int (ji2c ((49 : Int32) + r_14))]) (rest := []) F (c_J4_append_cf468 l hL_a2 hK_a2 hp H.size) (cwV (C := RJ4) 1 hts (wg_V wm_RX6_39 wy_J4_append_cf468) rfl rfl rfl (by decide +kernel) ⟨Nat.le_of_ble_eq_true rfl, Nat.le_of_ble_eq_true rfl⟩) (w_preV hK hW hL_a2 hK_a2 (by decide) rfl) rfl rfl hl.1 rfl (lv_room (Nat.le_of_ble_eq_true rfl)) dX6_write_176 ⟨Nat.le_of_ble_eq_true rfl, Nat.le_of_ble_eq_true rfl⟩) hW (fun r_16 S_17 H locs hp hW => ?_)
        obtain ⟨hX_S_17, hp⟩ := hp
        refine W.widen (k := 0) (n := 0) (by decide) (by decide) ?_
        have hE := hE.trans hX_S_17
        have hK_a0 : sK S_17 a0 = 11 := (hX_S_17.2 a0 hL_a0).1.trans hK_a0
        have hL_a0 : wM D S_17 a0 := hX_S_17.M hL_a0
        have hK_a1 : sK S_17 a1 = 12 := (hX_S_17.2 a1 hL_a1).1.trans hK_a1
        have hL_a1 : wM D S_17 a1 := hX_S_17.M hL_a1
        have hK_a2 : sK S_17 a2 = 1 := (hX_S_17.2 a2 hL_a2).1.trans hK_a2
        have hL_a2 : wM D S_17 a2 := hX_S_17.M hL_a2
        refine lv_pop hx hb dX6_write_179 rfl ?_
        exact t_X6_write_180 F hr hlocks hK hp hW hE (lv_sub hl [] rfl)
      · replace hp := hp.2 c_7
        refine lv_aload_n hx hb dX6_write_130 rfl (lv_at hl 2 rfl) ?_
        refine lv_bipush (v := 45) hx hb dX6_write_131 (by decide) ?_
        refine w_callR (va_runV (As := [.int (45 : Int32)]) (rest := []) F (c_J4_append_cf468 l hL_a2 hK_a2 hp H.size) (cwV (C := RJ4) 1 hts (wg_V wm_RX6_39 wy_J4_append_cf468) rfl rfl rfl (by decide +kernel) ⟨Nat.le_of_ble_eq_true rfl, Nat.le_of_ble_eq_true rfl⟩) (w_preV hK hW hL_a2 hK_a2 (by decide) rfl) rfl rfl hl.1 rfl (lv_room (Nat.le_of_ble_eq_true rfl)) dX6_write_133 ⟨Nat.le_of_ble_eq_true rfl, Nat.le_of_ble_eq_true rfl⟩) hW (fun r_18 S_19 H locs hp hW => ?_)
        obtain ⟨hX_S_19, hp⟩ := hp
        refine W.widen (k := 0) (n := 0) (by decide) (by decide) ?_
        have hE := hE.trans hX_S_19
        have hK_a0 : sK S_19 a0 = 11 := (hX_S_19.2 a0 hL_a0).1.trans hK_a0
        have hL_a0 : wM D S_19 a0 := hX_S_19.M hL_a0
        have hK_a1 : sK S_19 a1 = 12 := (hX_S_19.2 a1 hL_a1).1.trans hK_a1
        have hL_a1 : wM D S_19 a1 := hX_S_19.M hL_a1
        have hK_a2 : sK S_19 a2 = 1 := (hX_S_19.2 a2 hL_a2).1.trans hK_a2
        have hL_a2 : wM D S_19 a2 := hX_S_19.M hL_a2
        refine lv_pop hx hb dX6_write_136 rfl ?_
        refine lv_goto (tgt := 180) hx hb dX6_write_137 (by decide) ?_
        exact t_X6_write_180 F hr hlocks hK hp hW hE (lv_sub hl [] rfl)
    · replace hp := hp.2 c_4
      refine lv_aload_n hx hb dX6_write_87 rfl (lv_at hl 1 rfl) ?_
      refine w_getN (k := 12) (f := 6) (T := TX7) (v := .int (sI S_3 a1 6)) F hK hW hL_a1 hK_a1 (by decide) rfl rfl (by decide) i_12 (hK.2.1 (.fieldLinkNest "OpeningsCabinet$Papers" 56 "OpeningsCabinet$Position" "rights" "I" "OpeningsCabinet") (by decide +kernel)) rfl dX6_write_88 ?_
      refine lv_iload_n hx hb dX6_write_91 rfl (lv_at hl 3 rfl) ?_
      refine lv_iushr (v := (jiushr (sI S_3 a1 6) x3)) hx hb dX6_write_92 rfl ?_
      refine lv_iconst (v := 1) hx hb dX6_write_93 (by decide) ?_
      refine lv_iand hx hb dX6_write_94 ?_
      refine lv_if_eq (tgt := 109) hx hb dX6_write_95 (by decide) (fun c_20 => ?_) (fun c_20 => ?_)
      · replace hp := hp.1 c_20
        exact t_X6_write_109 F hr hlocks hK ih hp hW hE (lv_sub hl [0, 1, 2, 3] rfl) hL_a0 hK_a0 hL_a1 hK_a1 hL_a2 hK_a2
      · replace hp := hp.2 c_20
        refine lv_aload_n hx hb dX6_write_98 rfl (lv_at hl 2 rfl) ?_
        refine w_str F hK (show ("OpeningsCabinet$Papers", 59, "KQkq", 10) ∈ wStr by decide +kernel) dX6_write_99 ?_
        obtain ⟨y_21, ey_21⟩ : ∃ z : Nat, z = D.2.2.1 10 := ⟨_, rfl⟩
        rw [← ey_21]
        replace hp := hp y_21 ey_21
        obtain ⟨hL_y_21, hK_y_21⟩ : wM D S_3 y_21 ∧ sK S_3 y_21 = 0 := by rw [ey_21]; exact w_strM hK hW (show ("OpeningsCabinet$Papers", 59, "KQkq", 10) ∈ wStr by decide +kernel)
        refine lv_iload_n hx hb dX6_write_101 rfl (lv_at hl 3 rfl) ?_
        refine w_callI (va_runV (As := [.int x3]) (rest := [.ref a2]) F (c_J0_charAt_5068e l hL_y_21 hK_y_21 hp H.size) (cwV (C := RJ0) 1 hts (wg_V wm_RX6_67 wy_J0_charAt_5068e) rfl rfl rfl (by decide +kernel) ⟨Nat.le_of_ble_eq_true rfl, Nat.le_of_ble_eq_true rfl⟩) (w_preV hK hW hL_y_21 hK_y_21 (by decide) rfl) rfl rfl hl.1 rfl (lv_room (Nat.le_of_ble_eq_true rfl)) dX6_write_102 ⟨Nat.le_of_ble_eq_true rfl, Nat.le_of_ble_eq_true rfl⟩) hW (fun r_22 S_23 H locs hp hW => ?_)
        obtain ⟨hX_S_23, hp⟩ := hp
        refine W.widen (k := 0) (n := 0) (by decide) (by decide) ?_
        have hE := hE.trans hX_S_23
        have hK_a0 : sK S_23 a0 = 11 := (hX_S_23.2 a0 hL_a0).1.trans hK_a0
        have hL_a0 : wM D S_23 a0 := hX_S_23.M hL_a0
        have hK_a1 : sK S_23 a1 = 12 := (hX_S_23.2 a1 hL_a1).1.trans hK_a1
        have hL_a1 : wM D S_23 a1 := hX_S_23.M hL_a1
        have hK_a2 : sK S_23 a2 = 1 := (hX_S_23.2 a2 hL_a2).1.trans hK_a2
        have hL_a2 : wM D S_23 a2 := hX_S_23.M hL_a2
        refine w_callR (va_runV (As := [.int r_22]) (rest := []) F (c_J4_append_cf468 l hL_a2 hK_a2 hp H.size) (cwV (C := RJ4) 1 hts (wg_V wm_RX6_39 wy_J4_append_cf468) rfl rfl rfl (by decide +kernel) ⟨Nat.le_of_ble_eq_true rfl, Nat.le_of_ble_eq_true rfl⟩) (w_preV hK hW hL_a2 hK_a2 (by decide) rfl) rfl rfl hl.1 rfl (lv_room (Nat.le_of_ble_eq_true rfl)) dX6_write_105 ⟨Nat.le_of_ble_eq_true rfl, Nat.le_of_ble_eq_true rfl⟩) hW (fun r_24 S_25 H locs hp hW => ?_)
        obtain ⟨hX_S_25, hp⟩ := hp
        refine W.widen (k := 0) (n := 0) (by decide) (by decide) ?_
        have hE := hE.trans hX_S_25
        have hK_a0 : sK S_25 a0 = 11 := (hX_S_25.2 a0 hL_a0).1.trans hK_a0
        have hL_a0 : wM D S_25 a0 := hX_S_25.M hL_a0
        have hK_a1 : sK S_25 a1 = 12 := (hX_S_25.2 a1 hL_a1).1.trans hK_a1
        have hL_a1 : wM D S_25 a1 := hX_S_25.M hL_a1
        have hK_a2 : sK S_25 a2 = 1 := (hX_S_25.2 a2 hL_a2).1.trans hK_a2
        have hL_a2 : wM D S_25 a2 := hX_S_25.M hL_a2
        refine lv_pop hx hb dX6_write_108 rfl ?_
        exact t_X6_write_109 F hr hlocks hK ih hp hW hE (lv_sub hl [0, 1, 2, 3] rfl) hL_a0 hK_a0 hL_a1 hK_a1 hL_a2 hK_a2
set_option maxHeartbeats 4000000 in
set_option maxRecDepth 100000 in
theorem t_X6_write_76 {p : Program} {l : Launch} {e : Env} {s : State} {m : MethodId} {args : Array Value} {below : List Frame} {meth : Method} {c : Code} {D : wD} {cy : Nat → ClassId} {X : va_W} {A : Nat → Prop} {S0 : wS} {post : wS → Prop} (F : CallFix p m c cX6_write 4 s args wz_X6_write RX6) (hr : meth.sig.returnType = none) (hlocks : meth.locks = false) (hK : wK D cy A s) : ∀ {S : wS} {H : Heap} {locs : List Loc} {ls : Array Slot} {a0 : Nat} {a1 : Nat} {a2 : Nat}, wp_X6_write_76 D post S a0 a1 a2 → wO D cy X A s.heap S H locs → wX D S0 S → lv_has ls 4 [(0, .ref a0), (1, .ref a1), (2, .ref a2)] → wM D S a0 → sK S a0 = 11 → wM D S a1 → sK S a1 = 12 → wM D S a2 → sK S a2 = 1 → W p l e r_X6_write s m args below meth c H locs 0 0 (MQ below (va_Qv (fun S9 => wX D S0 S9 ∧ post S9) (wB D cy X A) A) args s 0 0 A) (F0 m 76 ls []) := by
  obtain ⟨hx, hb, hml, hown, hts⟩ := id F
  have hwg : ∀ w ∈ WG, w.before args s = true := fun w h => hts w (List.mem_cons_of_mem _ h)
  intro S H locs ls a0 a1 a2 hp hW hE hl hL_a0 hK_a0 hL_a1 hK_a1 hL_a2 hK_a2
  unfold wp_X6_write_76 at hp
  refine lv_iconst (v := 0) hx hb dX6_write_76 (by decide) ?_
  refine lv_istore_n (lv' := [(3, .int (0 : Int32)), (0, .ref a0), (1, .ref a1), (2, .ref a2)]) hx hb dX6_write_77 rfl hl (by decide) rfl (fun ls hl => ?_)
  obtain ⟨n_1, hp⟩ := hp
  exact t_X6_write_78 F hr hlocks hK n_1 hp hW hE (lv_sub hl [1, 2, 3, 0] rfl) hL_a0 hK_a0 hL_a1 hK_a1 hL_a2 hK_a2
set_option maxHeartbeats 4000000 in
set_option maxRecDepth 100000 in
theorem t_X6_write_58 {p : Program} {l : Launch} {e : Env} {s : State} {m : MethodId} {args : Array Value} {below : List Frame} {meth : Method} {c : Code} {D : wD} {cy : Nat → ClassId} {X : va_W} {A : Nat → Prop} {S0 : wS} {post : wS → Prop} (F : CallFix p m c cX6_write 4 s args wz_X6_write RX6) (hr : meth.sig.returnType = none) (hlocks : meth.locks = false) (hK : wK D cy A s) : ∀ {S : wS} {H : Heap} {locs : List Loc} {ls : Array Slot} {a0 : Nat} {a1 : Nat} {a2 : Nat} {b0 : Nat} {b1 : Nat}, wp_X6_write_58 D post S a0 a1 a2 b0 b1 → wO D cy X A s.heap S H locs → wX D S0 S → lv_has ls 4 [(0, .ref a0), (1, .ref a1), (2, .ref a2)] → wM D S a0 → sK S a0 = 11 → wM D S a1 → sK S a1 = 12 → wM D S a2 → sK S a2 = 1 → wM D S b0 → sK S b0 = 1 → wM D S b1 → sK S b1 = 0 → W p l e r_X6_write s m args below meth c H locs 0 0 (MQ below (va_Qv (fun S9 => wX D S0 S9 ∧ post S9) (wB D cy X A) A) args s 0 0 A) (F0 m 58 ls [.ref b1, .ref b0]) := by
  obtain ⟨hx, hb, hml, hown, hts⟩ := id F
  have hwg : ∀ w ∈ WG, w.before args s = true := fun w h => hts w (List.mem_cons_of_mem _ h)
  have i_12 : ∀ w ∈ u_ws RX7 TX7 8, w ∈ wz_X6_write := fun w h => List.mem_cons_of_mem _ (wu_12 w h)
  intro S H locs ls a0 a1 a2 b0 b1 hp hW hE hl hL_a0 hK_a0 hL_a1 hK_a1 hL_a2 hK_a2 hL_b0 hK_b0 hL_b1 hK_b1
  unfold wp_X6_write_58 at hp
  refine w_callR (va_runV (As := [.ref b1]) (rest := []) F (c_J4_append_15ec4 l hL_b0 hK_b0 hL_b1 hK_b1 hp H.size) (cwV (C := RJ4) 1 hts (wg_V wm_RX6_53 wy_J4_append_15ec4) rfl rfl rfl (by decide +kernel) ⟨Nat.le_of_ble_eq_true rfl, Nat.le_of_ble_eq_true rfl⟩) (w_preV hK hW hL_b0 hK_b0 (by decide) rfl) rfl rfl hl.1 rfl (lv_room (Nat.le_of_ble_eq_true rfl)) dX6_write_58 ⟨Nat.le_of_ble_eq_true rfl, Nat.le_of_ble_eq_true rfl⟩) hW (fun r_1 S_2 H locs hp hW => ?_)
  obtain ⟨hX_S_2, hp⟩ := hp
  refine W.widen (k := 0) (n := 0) (by decide) (by decide) ?_
  have hE := hE.trans hX_S_2
  have hK_a0 : sK S_2 a0 = 11 := (hX_S_2.2 a0 hL_a0).1.trans hK_a0
  have hL_a0 : wM D S_2 a0 := hX_S_2.M hL_a0
  have hK_a1 : sK S_2 a1 = 12 := (hX_S_2.2 a1 hL_a1).1.trans hK_a1
  have hL_a1 : wM D S_2 a1 := hX_S_2.M hL_a1
  have hK_a2 : sK S_2 a2 = 1 := (hX_S_2.2 a2 hL_a2).1.trans hK_a2
  have hL_a2 : wM D S_2 a2 := hX_S_2.M hL_a2
  refine lv_pop hx hb dX6_write_61 rfl ?_
  refine lv_aload_n hx hb dX6_write_62 rfl (lv_at hl 1 rfl) ?_
  refine w_getN (k := 12) (f := 6) (T := TX7) (v := .int (sI S_2 a1 6)) F hK hW hL_a1 hK_a1 (by decide) rfl rfl (by decide) i_12 (hK.2.1 (.fieldLinkNest "OpeningsCabinet$Papers" 56 "OpeningsCabinet$Position" "rights" "I" "OpeningsCabinet") (by decide +kernel)) rfl dX6_write_63 ?_
  refine lv_if_ne (tgt := 76) hx hb dX6_write_66 (by decide) (fun c_3 => ?_) (fun c_3 => ?_)
  · replace hp := hp.1 c_3
    exact t_X6_write_76 F hr hlocks hK hp hW hE (lv_sub hl [0, 1, 2] rfl) hL_a0 hK_a0 hL_a1 hK_a1 hL_a2 hK_a2
  · replace hp := hp.2 c_3
    refine lv_aload_n hx hb dX6_write_69 rfl (lv_at hl 2 rfl) ?_
    refine lv_bipush (v := 45) hx hb dX6_write_70 (by decide) ?_
    refine w_callR (va_runV (As := [.int (45 : Int32)]) (rest := []) F (c_J4_append_cf468 l hL_a2 hK_a2 hp H.size) (cwV (C := RJ4) 1 hts (wg_V wm_RX6_39 wy_J4_append_cf468) rfl rfl rfl (by decide +kernel) ⟨Nat.le_of_ble_eq_true rfl, Nat.le_of_ble_eq_true rfl⟩) (w_preV hK hW hL_a2 hK_a2 (by decide) rfl) rfl rfl hl.1 rfl (lv_room (Nat.le_of_ble_eq_true rfl)) dX6_write_72 ⟨Nat.le_of_ble_eq_true rfl, Nat.le_of_ble_eq_true rfl⟩) hW (fun r_4 S_5 H locs hp hW => ?_)
    obtain ⟨hX_S_5, hp⟩ := hp
    refine W.widen (k := 0) (n := 0) (by decide) (by decide) ?_
    have hE := hE.trans hX_S_5
    have hK_a0 : sK S_5 a0 = 11 := (hX_S_5.2 a0 hL_a0).1.trans hK_a0
    have hL_a0 : wM D S_5 a0 := hX_S_5.M hL_a0
    have hK_a1 : sK S_5 a1 = 12 := (hX_S_5.2 a1 hL_a1).1.trans hK_a1
    have hL_a1 : wM D S_5 a1 := hX_S_5.M hL_a1
    have hK_a2 : sK S_5 a2 = 1 := (hX_S_5.2 a2 hL_a2).1.trans hK_a2
    have hL_a2 : wM D S_5 a2 := hX_S_5.M hL_a2
    refine lv_pop hx hb dX6_write_75 rfl ?_
    exact t_X6_write_76 F hr hlocks hK hp hW hE (lv_sub hl [0, 1, 2] rfl) hL_a0 hK_a0 hL_a1 hK_a1 hL_a2 hK_a2
set_option maxHeartbeats 4000000 in
set_option maxRecDepth 100000 in
theorem t_X6_write_37 {p : Program} {l : Launch} {e : Env} {s : State} {m : MethodId} {args : Array Value} {below : List Frame} {meth : Method} {c : Code} {D : wD} {cy : Nat → ClassId} {X : va_W} {A : Nat → Prop} {S0 : wS} {post : wS → Prop} (F : CallFix p m c cX6_write 4 s args wz_X6_write RX6) (hr : meth.sig.returnType = none) (hlocks : meth.locks = false) (hK : wK D cy A s) {k_15 : wS → Nat → Nat → Nat → Int32 → Prop} (q_15 : ∀ {S : wS} {H : Heap} {locs : List Loc} {ls : Array Slot} {a0 : Nat} {a1 : Nat} {a2 : Nat} {x3 : Int32}, k_15 S a0 a1 a2 x3 → wO D cy X A s.heap S H locs → wX D S0 S → lv_has ls 4 [(0, .ref a0), (1, .ref a1), (2, .ref a2), (3, .int x3)] → wM D S a0 → sK S a0 = 11 → wM D S a1 → sK S a1 = 12 → wM D S a2 → sK S a2 = 1 → W p l e r_X6_write s m args below meth c H locs 0 0 (MQ below (va_Qv (fun S9 => wX D S0 S9 ∧ post S9) (wB D cy X A) A) args s 0 0 A) (F0 m 15 ls [])) : ∀ {S : wS} {H : Heap} {locs : List Loc} {ls : Array Slot} {a0 : Nat} {a1 : Nat} {a2 : Nat} {x3 : Int32}, wp_X6_write_37 D post k_15 S a0 a1 a2 x3 → wO D cy X A s.heap S H locs → wX D S0 S → lv_has ls 4 [(0, .ref a0), (1, .ref a1), (2, .ref a2), (3, .int x3)] → wM D S a0 → sK S a0 = 11 → wM D S a1 → sK S a1 = 12 → wM D S a2 → sK S a2 = 1 → W p l e r_X6_write s m args below meth c H locs 0 0 (MQ below (va_Qv (fun S9 => wX D S0 S9 ∧ post S9) (wB D cy X A) A) args s 0 0 A) (F0 m 37 ls []) := by
  obtain ⟨hx, hb, hml, hown, hts⟩ := id F
  have hwg : ∀ w ∈ WG, w.before args s = true := fun w h => hts w (List.mem_cons_of_mem _ h)
  intro S H locs ls a0 a1 a2 x3 hp hW hE hl hL_a0 hK_a0 hL_a1 hK_a1 hL_a2 hK_a2
  unfold wp_X6_write_37 at hp
  obtain ⟨x_1, ex_1⟩ : ∃ z : Int32, z = x3 + (-1) := ⟨_, rfl⟩
  replace hp := hp x_1 ex_1
  refine lv_iinc (v := x_1) (lv' := [(3, .int x_1), (0, .ref a0), (1, .ref a1), (2, .ref a2)]) hx hb dX6_write_37 hl (k := 3) rfl (by rw [ex_1]; rfl) (by decide) rfl (fun ls hl => ?_)
  refine lv_goto (tgt := 15) hx hb dX6_write_40 (by decide) ?_
  exact q_15 hp hW hE (lv_sub hl [1, 2, 3, 0] rfl) hL_a0 hK_a0 hL_a1 hK_a1 hL_a2 hK_a2
set_option maxHeartbeats 4000000 in
set_option maxRecDepth 100000 in
theorem t_X6_write_15 {p : Program} {l : Launch} {e : Env} {s : State} {m : MethodId} {args : Array Value} {below : List Frame} {meth : Method} {c : Code} {D : wD} {cy : Nat → ClassId} {X : va_W} {A : Nat → Prop} {S0 : wS} {post : wS → Prop} (F : CallFix p m c cX6_write 4 s args wz_X6_write RX6) (hr : meth.sig.returnType = none) (hlocks : meth.locks = false) (hK : wK D cy A s) : ∀ (n : Nat) {S : wS} {H : Heap} {locs : List Loc} {ls : Array Slot} {a0 : Nat} {a1 : Nat} {a2 : Nat} {x3 : Int32}, wp_X6_write_15 D post n S a0 a1 a2 x3 → wO D cy X A s.heap S H locs → wX D S0 S → lv_has ls 4 [(0, .ref a0), (1, .ref a1), (2, .ref a2), (3, .int x3)] → wM D S a0 → sK S a0 = 11 → wM D S a1 → sK S a1 = 12 → wM D S a2 → sK S a2 = 1 → W p l e r_X6_write s m args below meth c H locs 0 0 (MQ below (va_Qv (fun S9 => wX D S0 S9 ∧ post S9) (wB D cy X A) A) args s 0 0 A) (F0 m 15 ls []) := by
  obtain ⟨hx, hb, hml, hown, hts⟩ := id F
  have hwg : ∀ w ∈ WG, w.before args s = true := fun w h => hts w (List.mem_cons_of_mem _ h)
  have i_12 : ∀ w ∈ u_ws RX7 TX7 8, w ∈ wz_X6_write := fun w h => List.mem_cons_of_mem _ (wu_12 w h)
  intro n
  induction n with
  | zero =>
    intro S H locs ls a0 a1 a2 x3 hp
    exact hp.elim
  | succ n ih =>
    intro S H locs ls a0 a1 a2 x3 hp hW hE hl hL_a0 hK_a0 hL_a1 hK_a1 hL_a2 hK_a2
    unfold wp_X6_write_15 at hp
    refine lv_iload_n hx hb dX6_write_15 rfl (lv_at hl 3 rfl) ?_
    refine lv_if_lt (tgt := 43) hx hb dX6_write_16 (by decide) (fun c_1 => ?_) (fun c_1 => ?_)
    · replace hp := hp.1 c_1
      refine lv_aload_n hx hb dX6_write_43 rfl (lv_at hl 2 rfl) ?_
      refine lv_aload_n hx hb dX6_write_44 rfl (lv_at hl 1 rfl) ?_
      refine w_getN (k := 12) (f := 5) (T := TX7) (v := .int (sI S a1 5)) F hK hW hL_a1 hK_a1 (by decide) rfl rfl (by decide) i_12 (hK.2.1 (.fieldLinkNest "OpeningsCabinet$Papers" 43 "OpeningsCabinet$Position" "isWhite" "Z" "OpeningsCabinet") (by decide +kernel)) rfl dX6_write_45 ?_
      refine lv_if_eq (tgt := 56) hx hb dX6_write_48 (by decide) (fun c_2 => ?_) (fun c_2 => ?_)
      · replace hp := hp.1 c_2
        refine w_str F hK (show ("OpeningsCabinet$Papers", 51, " b ", 9) ∈ wStr by decide +kernel) dX6_write_56 ?_
        obtain ⟨y_3, ey_3⟩ : ∃ z : Nat, z = D.2.2.1 9 := ⟨_, rfl⟩
        rw [← ey_3]
        replace hp := hp y_3 ey_3
        obtain ⟨hL_y_3, hK_y_3⟩ : wM D S y_3 ∧ sK S y_3 = 0 := by rw [ey_3]; exact w_strM hK hW (show ("OpeningsCabinet$Papers", 51, " b ", 9) ∈ wStr by decide +kernel)
        exact t_X6_write_58 F hr hlocks hK hp hW hE (lv_sub hl [0, 1, 2] rfl) hL_a0 hK_a0 hL_a1 hK_a1 hL_a2 hK_a2 hL_a2 hK_a2 hL_y_3 hK_y_3
      · replace hp := hp.2 c_2
        refine w_str F hK (show ("OpeningsCabinet$Papers", 49, " w ", 8) ∈ wStr by decide +kernel) dX6_write_51 ?_
        obtain ⟨y_4, ey_4⟩ : ∃ z : Nat, z = D.2.2.1 8 := ⟨_, rfl⟩
        rw [← ey_4]
        replace hp := hp y_4 ey_4
        obtain ⟨hL_y_4, hK_y_4⟩ : wM D S y_4 ∧ sK S y_4 = 0 := by rw [ey_4]; exact w_strM hK hW (show ("OpeningsCabinet$Papers", 49, " w ", 8) ∈ wStr by decide +kernel)
        refine lv_goto (tgt := 58) hx hb dX6_write_53 (by decide) ?_
        exact t_X6_write_58 F hr hlocks hK hp hW hE (lv_sub hl [0, 1, 2] rfl) hL_a0 hK_a0 hL_a1 hK_a1 hL_a2 hK_a2 hL_a2 hK_a2 hL_y_4 hK_y_4
    · replace hp := hp.2 c_1
      refine lv_aload_n hx hb dX6_write_19 rfl (lv_at hl 0 rfl) ?_
      refine lv_aload_n hx hb dX6_write_20 rfl (lv_at hl 1 rfl) ?_
      refine lv_iload_n hx hb dX6_write_21 rfl (lv_at hl 3 rfl) ?_
      refine lv_aload_n hx hb dX6_write_22 rfl (lv_at hl 2 rfl) ?_
      refine w_callV (va_runV (As := [.ref a1, .int x3, .ref a2]) (rest := []) F (c_X6_writeRank l hL_a0 hK_a0 hL_a1 hK_a1 hL_a2 hK_a2 hp H.size) (cwV (C := RX6) 3 hts (wg_V wm_RX6_35 wy_X6_writeRank) rfl rfl rfl (by decide +kernel) ⟨Nat.le_of_ble_eq_true rfl, Nat.le_of_ble_eq_true rfl⟩) (w_preV hK hW hL_a0 hK_a0 (by decide) rfl) rfl rfl hl.1 rfl (lv_room (Nat.le_of_ble_eq_true rfl)) dX6_write_23 ⟨Nat.le_of_ble_eq_true rfl, Nat.le_of_ble_eq_true rfl⟩) hW (fun S_6 H locs hp hW => ?_)
      obtain ⟨hX_S_6, hp⟩ := hp
      refine W.widen (k := 0) (n := 0) (by decide) (by decide) ?_
      have hE := hE.trans hX_S_6
      have hK_a0 : sK S_6 a0 = 11 := (hX_S_6.2 a0 hL_a0).1.trans hK_a0
      have hL_a0 : wM D S_6 a0 := hX_S_6.M hL_a0
      have hK_a1 : sK S_6 a1 = 12 := (hX_S_6.2 a1 hL_a1).1.trans hK_a1
      have hL_a1 : wM D S_6 a1 := hX_S_6.M hL_a1
      have hK_a2 : sK S_6 a2 = 1 := (hX_S_6.2 a2 hL_a2).1.trans hK_a2
      have hL_a2 : wM D S_6 a2 := hX_S_6.M hL_a2
      refine lv_iload_n hx hb dX6_write_26 rfl (lv_at hl 3 rfl) ?_
      refine lv_if_le (tgt := 37) hx hb dX6_write_27 (by decide) (fun c_7 => ?_) (fun c_7 => ?_)
      · replace hp := hp.1 c_7
        exact t_X6_write_37 F hr hlocks hK ih hp hW hE (lv_sub hl [0, 1, 2, 3] rfl) hL_a0 hK_a0 hL_a1 hK_a1 hL_a2 hK_a2
      · replace hp := hp.2 c_7
        refine lv_aload_n hx hb dX6_write_30 rfl (lv_at hl 2 rfl) ?_
        refine lv_bipush (v := 47) hx hb dX6_write_31 (by decide) ?_
        refine w_callR (va_runV (As := [.int (47 : Int32)]) (rest := []) F (c_J4_append_cf468 l hL_a2 hK_a2 hp H.size) (cwV (C := RJ4) 1 hts (wg_V wm_RX6_39 wy_J4_append_cf468) rfl rfl rfl (by decide +kernel) ⟨Nat.le_of_ble_eq_true rfl, Nat.le_of_ble_eq_true rfl⟩) (w_preV hK hW hL_a2 hK_a2 (by decide) rfl) rfl rfl hl.1 rfl (lv_room (Nat.le_of_ble_eq_true rfl)) dX6_write_33 ⟨Nat.le_of_ble_eq_true rfl, Nat.le_of_ble_eq_true rfl⟩) hW (fun r_8 S_9 H locs hp hW => ?_)
        obtain ⟨hX_S_9, hp⟩ := hp
        refine W.widen (k := 0) (n := 0) (by decide) (by decide) ?_
        have hE := hE.trans hX_S_9
        have hK_a0 : sK S_9 a0 = 11 := (hX_S_9.2 a0 hL_a0).1.trans hK_a0
        have hL_a0 : wM D S_9 a0 := hX_S_9.M hL_a0
        have hK_a1 : sK S_9 a1 = 12 := (hX_S_9.2 a1 hL_a1).1.trans hK_a1
        have hL_a1 : wM D S_9 a1 := hX_S_9.M hL_a1
        have hK_a2 : sK S_9 a2 = 1 := (hX_S_9.2 a2 hL_a2).1.trans hK_a2
        have hL_a2 : wM D S_9 a2 := hX_S_9.M hL_a2
        refine lv_pop hx hb dX6_write_36 rfl ?_
        exact t_X6_write_37 F hr hlocks hK ih hp hW hE (lv_sub hl [0, 1, 2, 3] rfl) hL_a0 hK_a0 hL_a1 hK_a1 hL_a2 hK_a2
set_option maxHeartbeats 4000000 in
set_option maxRecDepth 100000 in
theorem t_X6_write_0 {p : Program} {l : Launch} {e : Env} {s : State} {m : MethodId} {args : Array Value} {below : List Frame} {meth : Method} {c : Code} {D : wD} {cy : Nat → ClassId} {X : va_W} {A : Nat → Prop} {S0 : wS} {post : wS → Prop} (F : CallFix p m c cX6_write 4 s args wz_X6_write RX6) (hr : meth.sig.returnType = none) (hlocks : meth.locks = false) (hK : wK D cy A s) : ∀ {S : wS} {H : Heap} {locs : List Loc} {ls : Array Slot} {a0 : Nat} {a1 : Nat} {a2 : Nat}, wp_X6_write_0 D post S a0 a1 a2 → wO D cy X A s.heap S H locs → wX D S0 S → lv_has ls 4 [(0, .ref a0), (1, .ref a1), (2, .ref a2)] → wM D S a0 → sK S a0 = 11 → wM D S a1 → sK S a1 = 12 → wM D S a2 → sK S a2 = 1 → W p l e r_X6_write s m args below meth c H locs 0 0 (MQ below (va_Qv (fun S9 => wX D S0 S9 ∧ post S9) (wB D cy X A) A) args s 0 0 A) (F0 m 0 ls []) := by
  obtain ⟨hx, hb, hml, hown, hts⟩ := id F
  have hwg : ∀ w ∈ WG, w.before args s = true := fun w h => hts w (List.mem_cons_of_mem _ h)
  have i_11 : ∀ w ∈ u_ws RX6 TX6 3, w ∈ wz_X6_write := fun w h => List.mem_cons_of_mem _ (wu_11 w h)
  have i_5 : ∀ w ∈ u_ws RX0 TX0 12, w ∈ wz_X6_write := fun w h => List.mem_cons_of_mem _ (wu_5 w h)
  have k_22 := hwg _ wf_RX6_22
  intro S H locs ls a0 a1 a2 hp hW hE hl hL_a0 hK_a0 hL_a1 hK_a1 hL_a2 hK_a2
  unfold wp_X6_write_0 at hp
  refine lv_aload_n hx hb dX6_write_0 rfl (lv_at hl 2 rfl) ?_
  refine lv_iconst (v := 0) hx hb dX6_write_1 (by decide) ?_
  refine w_callV (va_runV (As := [.int (0 : Int32)]) (rest := []) F (c_J4_setLength_d00df l hL_a2 hK_a2 hp H.size) (cwV (C := RJ4) 1 hts (wg_V wm_RX6_26 wy_J4_setLength_d00df) rfl rfl rfl (by decide +kernel) ⟨Nat.le_of_ble_eq_true rfl, Nat.le_of_ble_eq_true rfl⟩) (w_preV hK hW hL_a2 hK_a2 (by decide) rfl) rfl rfl hl.1 rfl (lv_room (Nat.le_of_ble_eq_true rfl)) dX6_write_2 ⟨Nat.le_of_ble_eq_true rfl, Nat.le_of_ble_eq_true rfl⟩) hW (fun S_2 H locs hp hW => ?_)
  obtain ⟨hX_S_2, hp⟩ := hp
  refine W.widen (k := 0) (n := 0) (by decide) (by decide) ?_
  have hE := hE.trans hX_S_2
  have hK_a0 : sK S_2 a0 = 11 := (hX_S_2.2 a0 hL_a0).1.trans hK_a0
  have hL_a0 : wM D S_2 a0 := hX_S_2.M hL_a0
  have hK_a1 : sK S_2 a1 = 12 := (hX_S_2.2 a1 hL_a1).1.trans hK_a1
  have hL_a1 : wM D S_2 a1 := hX_S_2.M hL_a1
  have hK_a2 : sK S_2 a2 = 1 := (hX_S_2.2 a2 hL_a2).1.trans hK_a2
  have hL_a2 : wM D S_2 a2 := hX_S_2.M hL_a2
  refine lv_aload_n hx hb dX6_write_5 rfl (lv_at hl 0 rfl) ?_
  obtain ⟨y_3, ey_3, hL_y_3, hK_y_3, hp⟩ := hp
  refine w_get (k := 11) (f := 0) (T := TX6) (v := .ref y_3) F hK hW hL_a0 hK_a0 (by decide) rfl rfl (by decide) i_11 k_22 (by rw [show wv 11 0 S_2 a0 = va_rf (sR S_2 a0 0) from rfl, ey_3]; rfl) dX6_write_6 ?_
  refine w_getN (k := 5) (f := 1) (T := TX0) (v := .int (sI S_2 y_3 1)) F hK hW hL_y_3 hK_y_3 (by decide) rfl rfl (by decide) i_5 (hK.2.1 (.fieldLinkNest "OpeningsCabinet$Papers" 30 "OpeningsCabinet$Board" "ranks" "I" "OpeningsCabinet") (by decide +kernel)) rfl dX6_write_9 ?_
  refine lv_iconst (v := 1) hx hb dX6_write_12 (by decide) ?_
  refine lv_isub hx hb dX6_write_13 ?_
  refine lv_topi (fun x_4 ex_4 => ?_)
  replace hp := hp x_4 ex_4
  refine lv_istore_n (lv' := [(3, .int x_4), (0, .ref a0), (1, .ref a1), (2, .ref a2)]) hx hb dX6_write_14 rfl hl (by decide) rfl (fun ls hl => ?_)
  obtain ⟨n_5, hp⟩ := hp
  exact t_X6_write_15 F hr hlocks hK n_5 hp hW hE (lv_sub hl [1, 2, 3, 0] rfl) hL_a0 hK_a0 hL_a1 hK_a1 hL_a2 hK_a2
set_option maxHeartbeats 4000000 in
set_option maxRecDepth 100000 in
theorem c_X6_write (l : Launch) {D : wD} {cy : Nat → ClassId} {X : va_W} {S0 : wS} {post : wS → Prop} {a0 : Nat} {a1 : Nat} {a2 : Nat} (hL_a0 : wM D S0 a0) (hK_a0 : sK S0 a0 = 11) (hL_a1 : wM D S0 a1) (hK_a1 : sK S0 a1 = 12) (hL_a2 : wM D S0 a2) (hK_a2 : sK S0 a2 = 1) (hp : wp_X6_write D post S0 a0 a1 a2) : mV D cy X l yX6_write wz_X6_write r_X6_write [.ref a0, .ref a1, .ref a2] S0 (fun S9 => wX D S0 S9 ∧ post S9) := by
  intro sz
  refine Met.ofW (cc := cX6_write) (maxL := 4) (ret := none) (by decide) rfl ?_
  intro p e s m args below meth c s₁ B hml hv
  obtain ⟨rfl, hsz, hP, hK, hD0, hRO⟩ := hv
  have hts := atoms_spec (ws := wz_X6_write) B.pre
  have hown : s.vm.findClass RX6 = some m.cls := findClass_of_methodNamed B.named
  subst hsz
  have hD := hD0.self (sz := s.heap.size)
  have F : CallFix p m c cX6_write 4 s _ wz_X6_write RX6 := ⟨B.exec, B.bytes, hml, hown, hts⟩
  have hr := B.returns
  have hlocks := B.notSynchronized
  generalize hAe : va_A (wL cy X S0) s.heap.size = A at hD hK ⊢
  have hA : ∀ q, s.heap.size ≤ q → A q := fun q h => by rw [← hAe]; exact Or.inr h
  have hW : wO D cy X A s.heap S0 s.heap [] := ⟨hP, hD, va_S.rf, hA, hRO⟩
  have hl := lv_entry ([.ref a0, .ref a1, .ref a2]) (n := 4) (Nat.le_of_ble_eq_true rfl)
  rw [lg_entry_eq]
  generalize (lg_sl ([.ref a0, .ref a1, .ref a2]) ++ List.replicate (4 - (lg_sl ([.ref a0, .ref a1, .ref a2])).length) Slot.unset).toArray = ls at hl ⊢
  have hl : lv_has ls 4 [(0, .ref a0), (1, .ref a1), (2, .ref a2)] := hl
  unfold wp_X6_write at hp
  exact t_X6_write_0 F hr hlocks hK hp hW wX.rf (lv_sub hl [0, 1, 2] rfl) hL_a0 hK_a0 hL_a1 hK_a1 hL_a2 hK_a2
def wp_X6_reads_98 (D : wD) (post : Int32 → wS → Prop)  (S : wS) (t0 : Int32) : Prop :=
narrow .boolean (.int t0) = .int t0 ∧ post t0 S
def wp_X6_reads_97 (D : wD) (post : Int32 → wS → Prop)  (S : wS) : Prop :=
wp_X6_reads_98 D post S (0 : Int32)
def wp_X6_reads_31 (D : wD) (post : Int32 → wS → Prop)  (S : wS) (a0 : Nat) (a1 : Nat) (a2 : Nat) (b0 : Nat) (t1 : Int32) : Prop :=
narrow .boolean (.int t1) = .int t1 ∧ fits .boolean (.int t1) = true ∧
∀ S_1 : wS, S_1 = uI S b0 5 t1 →
wp_X6_next D (fun r_3 S_4 => 
wp_X6_readRights D (fun S_6 => 
wp_X6_next D (fun r_7 S_8 => 
wp_X6_readPassing D (fun S_10 => 
∃ y_11 : Nat, sR S_10 a0 1 = some y_11 ∧ wM D S_10 y_11 ∧ sK S_10 y_11 = 1 ∧
wp_X6_write D (fun S_13 => 
∃ y_14 : Nat, sR S_13 a0 1 = some y_14 ∧ wM D S_13 y_14 ∧ sK S_13 y_14 = 1 ∧
wp_X6_isSame D (fun r_15 S_16 => 
((r_15 = 0 → wp_X6_reads_97 D post S_16) ∧
 (¬ r_15 = 0 → wp_X7_isLawful D (fun r_18 S_19 => 
((r_18 = 0 → wp_X6_reads_97 D post S_19) ∧
 (¬ r_18 = 0 → wp_X6_isPassingSound D (fun r_21 S_22 => 
((r_21 = 0 → wp_X6_reads_97 D post S_22) ∧
 (¬ r_21 = 0 → wp_X6_reads_98 D post S_22 (1 : Int32)))) S_19 a0 a2))) S_16 a2))) S_13 a1 y_14) S_10 a0 a2 y_11) S_8 a0 a1 a2) S_6 a0 a1) S_4 a0 a1 a2) S_1 a0 a1
def wp_X6_reads_0 (D : wD) (post : Int32 → wS → Prop)  (S : wS) (a0 : Nat) (a1 : Nat) (a2 : Nat) : Prop :=
wp_X7_clear D (fun S_2 => 
∀ S_3 : wS, S_3 = uI S_2 a0 2 (0 : Int32) →
wp_X6_readSquares D (fun S_5 => 
wp_X6_next D (fun r_6 S_7 => 
((¬ r_6 = (119 : Int32) → wp_X6_reads_31 D post S_7 a0 a1 a2 a2 (0 : Int32)) ∧
 (r_6 = (119 : Int32) → wp_X6_reads_31 D post S_7 a0 a1 a2 a2 (1 : Int32)))) S_5 a0 a1) S_3 a0 a1 a2) S a2
abbrev r_X6_reads : Room := { frames := 8, cells := 0, slots := 0, locals := 180 }
def wp_X6_reads (D : wD) (post : Int32 → wS → Prop) (S : wS) (a0 : Nat) (a1 : Nat) (a2 : Nat) : Prop := wp_X6_reads_0 D post S a0 a1 a2
set_option maxHeartbeats 4000000 in
set_option maxRecDepth 100000 in
theorem t_X6_reads_98 {p : Program} {l : Launch} {e : Env} {s : State} {m : MethodId} {args : Array Value} {below : List Frame} {meth : Method} {c : Code} {D : wD} {cy : Nat → ClassId} {X : va_W} {A : Nat → Prop} {S0 : wS} {post : Int32 → wS → Prop} (F : CallFix p m c cX6_reads 3 s args wz_X6_reads RX6) (hr : meth.sig.returnType = (some .boolean)) (hlocks : meth.locks = false) (hK : wK D cy A s) : ∀ {S : wS} {H : Heap} {locs : List Loc} {ls : Array Slot} {t0 : Int32}, wp_X6_reads_98 D post S t0 → wO D cy X A s.heap S H locs → wX D S0 S → lv_has ls 3 [] → W p l e r_X6_reads s m args below meth c H locs 0 0 (MQ below (va_Qi (fun r S9 => wX D S0 S9 ∧ post r S9) (wB D cy X A) A) args s 0 0 A) (F0 m 98 ls [.int t0]) := by
  obtain ⟨hx, hb, hml, hown, hts⟩ := id F
  have hwg : ∀ w ∈ WG, w.before args s = true := fun w h => hts w (List.mem_cons_of_mem _ h)
  intro S H locs ls t0 hp hW hE hl
  unfold wp_X6_reads_98 at hp
  exact w_zret hx hb hr hlocks hW hp.1 ⟨hE, hp.2⟩ dX6_reads_98
set_option maxHeartbeats 4000000 in
set_option maxRecDepth 100000 in
theorem t_X6_reads_97 {p : Program} {l : Launch} {e : Env} {s : State} {m : MethodId} {args : Array Value} {below : List Frame} {meth : Method} {c : Code} {D : wD} {cy : Nat → ClassId} {X : va_W} {A : Nat → Prop} {S0 : wS} {post : Int32 → wS → Prop} (F : CallFix p m c cX6_reads 3 s args wz_X6_reads RX6) (hr : meth.sig.returnType = (some .boolean)) (hlocks : meth.locks = false) (hK : wK D cy A s) : ∀ {S : wS} {H : Heap} {locs : List Loc} {ls : Array Slot}, wp_X6_reads_97 D post S → wO D cy X A s.heap S H locs → wX D S0 S → lv_has ls 3 [] → W p l e r_X6_reads s m args below meth c H locs 0 0 (MQ below (va_Qi (fun r S9 => wX D S0 S9 ∧ post r S9) (wB D cy X A) A) args s 0 0 A) (F0 m 97 ls []) := by
  obtain ⟨hx, hb, hml, hown, hts⟩ := id F
  have hwg : ∀ w ∈ WG, w.before args s = true := fun w h => hts w (List.mem_cons_of_mem _ h)
  intro S H locs ls hp hW hE hl
  unfold wp_X6_reads_97 at hp
  refine lv_iconst (v := 0) hx hb dX6_reads_97 (by decide) ?_
  exact t_X6_reads_98 F hr hlocks hK hp hW hE (lv_sub hl [] rfl)
set_option maxHeartbeats 4000000 in
set_option maxRecDepth 100000 in
theorem t_X6_reads_31 {p : Program} {l : Launch} {e : Env} {s : State} {m : MethodId} {args : Array Value} {below : List Frame} {meth : Method} {c : Code} {D : wD} {cy : Nat → ClassId} {X : va_W} {A : Nat → Prop} {S0 : wS} {post : Int32 → wS → Prop} (F : CallFix p m c cX6_reads 3 s args wz_X6_reads RX6) (hr : meth.sig.returnType = (some .boolean)) (hlocks : meth.locks = false) (hK : wK D cy A s) : ∀ {S : wS} {H : Heap} {locs : List Loc} {ls : Array Slot} {a0 : Nat} {a1 : Nat} {a2 : Nat} {b0 : Nat} {t1 : Int32}, wp_X6_reads_31 D post S a0 a1 a2 b0 t1 → wO D cy X A s.heap S H locs → wX D S0 S → lv_has ls 3 [(0, .ref a0), (1, .ref a1), (2, .ref a2)] → wM D S a0 → sK S a0 = 11 → wM D S a1 → sK S a1 = 1 → wM D S a2 → sK S a2 = 12 → wM D S b0 → sK S b0 = 12 → W p l e r_X6_reads s m args below meth c H locs 0 0 (MQ below (va_Qi (fun r S9 => wX D S0 S9 ∧ post r S9) (wB D cy X A) A) args s 0 0 A) (F0 m 31 ls [.int t1, .ref b0]) := by
  obtain ⟨hx, hb, hml, hown, hts⟩ := id F
  have hwg : ∀ w ∈ WG, w.before args s = true := fun w h => hts w (List.mem_cons_of_mem _ h)
  have i_11 : ∀ w ∈ u_ws RX6 TX6 3, w ∈ wz_X6_reads := fun w h => List.mem_cons_of_mem _ (wu_11 w h)
  have i_12 : ∀ w ∈ u_ws RX7 TX7 8, w ∈ wz_X6_reads := fun w h => List.mem_cons_of_mem _ (wu_12 w h)
  have k_12 := hwg _ wf_RX6_12
  intro S H locs ls a0 a1 a2 b0 t1 hp hW hE hl hL_a0 hK_a0 hL_a1 hK_a1 hL_a2 hK_a2 hL_b0 hK_b0
  unfold wp_X6_reads_31 at hp
  obtain ⟨h_2, h_2f, hp⟩ := hp
  refine w_putIN (k := 12) (f := 5) (T := TX7) F hK hW hL_b0 hK_b0 (by decide) (by decide) rfl rfl (by decide) i_12 tyX7 tyX7_ok nmX7 (hK.2.1 (.fieldLinkNest "OpeningsCabinet$Papers" 43 "OpeningsCabinet$Position" "isWhite" "Z" "OpeningsCabinet") (by decide +kernel)) rfl rfl (ty := .boolean) rfl h_2 h_2f dX6_reads_31 (fun H locs hW => ?_)
  obtain ⟨S_1, eS_1⟩ : ∃ z : wS, z = uI S b0 5 t1 := ⟨_, rfl⟩
  rw [← eS_1] at hW
  replace hp := hp S_1 eS_1
  have hX_S_1 : wX D S S_1 := by rw [eS_1]; exact wX_uI
  have hE := hE.trans hX_S_1
  have hK_a0 : sK S_1 a0 = 11 := (hX_S_1.2 a0 hL_a0).1.trans hK_a0
  have hL_a0 : wM D S_1 a0 := hX_S_1.M hL_a0
  have hK_a1 : sK S_1 a1 = 1 := (hX_S_1.2 a1 hL_a1).1.trans hK_a1
  have hL_a1 : wM D S_1 a1 := hX_S_1.M hL_a1
  have hK_a2 : sK S_1 a2 = 12 := (hX_S_1.2 a2 hL_a2).1.trans hK_a2
  have hL_a2 : wM D S_1 a2 := hX_S_1.M hL_a2
  refine lv_aload_n hx hb dX6_reads_34 rfl (lv_at hl 0 rfl) ?_
  refine lv_aload_n hx hb dX6_reads_35 rfl (lv_at hl 1 rfl) ?_
  refine w_callI (va_runV (As := [.ref a1]) (rest := []) F (c_X6_next l hL_a0 hK_a0 hL_a1 hK_a1 hp H.size) (cwV (C := RX6) 1 hts (wg_V wm_RX6_99 wy_X6_next) rfl rfl rfl (by decide +kernel) ⟨Nat.le_of_ble_eq_true rfl, Nat.le_of_ble_eq_true rfl⟩) (w_preV hK hW hL_a0 hK_a0 (by decide) rfl) rfl rfl hl.1 rfl (lv_room (Nat.le_of_ble_eq_true rfl)) dX6_reads_36 ⟨Nat.le_of_ble_eq_true rfl, Nat.le_of_ble_eq_true rfl⟩) hW (fun r_3 S_4 H locs hp hW => ?_)
  obtain ⟨hX_S_4, hp⟩ := hp
  refine W.widen (k := 0) (n := 0) (by decide) (by decide) ?_
  have hE := hE.trans hX_S_4
  have hK_a0 : sK S_4 a0 = 11 := (hX_S_4.2 a0 hL_a0).1.trans hK_a0
  have hL_a0 : wM D S_4 a0 := hX_S_4.M hL_a0
  have hK_a1 : sK S_4 a1 = 1 := (hX_S_4.2 a1 hL_a1).1.trans hK_a1
  have hL_a1 : wM D S_4 a1 := hX_S_4.M hL_a1
  have hK_a2 : sK S_4 a2 = 12 := (hX_S_4.2 a2 hL_a2).1.trans hK_a2
  have hL_a2 : wM D S_4 a2 := hX_S_4.M hL_a2
  refine lv_pop hx hb dX6_reads_39 rfl ?_
  refine lv_aload_n hx hb dX6_reads_40 rfl (lv_at hl 0 rfl) ?_
  refine lv_aload_n hx hb dX6_reads_41 rfl (lv_at hl 1 rfl) ?_
  refine lv_aload_n hx hb dX6_reads_42 rfl (lv_at hl 2 rfl) ?_
  refine w_callV (va_runV (As := [.ref a1, .ref a2]) (rest := []) F (c_X6_readRights l hL_a0 hK_a0 hL_a1 hK_a1 hL_a2 hK_a2 hp H.size) (cwV (C := RX6) 2 hts (wg_V wm_RX6_103 wy_X6_readRights) rfl rfl rfl (by decide +kernel) ⟨Nat.le_of_ble_eq_true rfl, Nat.le_of_ble_eq_true rfl⟩) (w_preV hK hW hL_a0 hK_a0 (by decide) rfl) rfl rfl hl.1 rfl (lv_room (Nat.le_of_ble_eq_true rfl)) dX6_reads_43 ⟨Nat.le_of_ble_eq_true rfl, Nat.le_of_ble_eq_true rfl⟩) hW (fun S_6 H locs hp hW => ?_)
  obtain ⟨hX_S_6, hp⟩ := hp
  refine W.widen (k := 0) (n := 0) (by decide) (by decide) ?_
  have hE := hE.trans hX_S_6
  have hK_a0 : sK S_6 a0 = 11 := (hX_S_6.2 a0 hL_a0).1.trans hK_a0
  have hL_a0 : wM D S_6 a0 := hX_S_6.M hL_a0
  have hK_a1 : sK S_6 a1 = 1 := (hX_S_6.2 a1 hL_a1).1.trans hK_a1
  have hL_a1 : wM D S_6 a1 := hX_S_6.M hL_a1
  have hK_a2 : sK S_6 a2 = 12 := (hX_S_6.2 a2 hL_a2).1.trans hK_a2
  have hL_a2 : wM D S_6 a2 := hX_S_6.M hL_a2
  refine lv_aload_n hx hb dX6_reads_46 rfl (lv_at hl 0 rfl) ?_
  refine lv_aload_n hx hb dX6_reads_47 rfl (lv_at hl 1 rfl) ?_
  refine w_callI (va_runV (As := [.ref a1]) (rest := []) F (c_X6_next l hL_a0 hK_a0 hL_a1 hK_a1 hp H.size) (cwV (C := RX6) 1 hts (wg_V wm_RX6_99 wy_X6_next) rfl rfl rfl (by decide +kernel) ⟨Nat.le_of_ble_eq_true rfl, Nat.le_of_ble_eq_true rfl⟩) (w_preV hK hW hL_a0 hK_a0 (by decide) rfl) rfl rfl hl.1 rfl (lv_room (Nat.le_of_ble_eq_true rfl)) dX6_reads_48 ⟨Nat.le_of_ble_eq_true rfl, Nat.le_of_ble_eq_true rfl⟩) hW (fun r_7 S_8 H locs hp hW => ?_)
  obtain ⟨hX_S_8, hp⟩ := hp
  refine W.widen (k := 0) (n := 0) (by decide) (by decide) ?_
  have hE := hE.trans hX_S_8
  have hK_a0 : sK S_8 a0 = 11 := (hX_S_8.2 a0 hL_a0).1.trans hK_a0
  have hL_a0 : wM D S_8 a0 := hX_S_8.M hL_a0
  have hK_a1 : sK S_8 a1 = 1 := (hX_S_8.2 a1 hL_a1).1.trans hK_a1
  have hL_a1 : wM D S_8 a1 := hX_S_8.M hL_a1
  have hK_a2 : sK S_8 a2 = 12 := (hX_S_8.2 a2 hL_a2).1.trans hK_a2
  have hL_a2 : wM D S_8 a2 := hX_S_8.M hL_a2
  refine lv_pop hx hb dX6_reads_51 rfl ?_
  refine lv_aload_n hx hb dX6_reads_52 rfl (lv_at hl 0 rfl) ?_
  refine lv_aload_n hx hb dX6_reads_53 rfl (lv_at hl 1 rfl) ?_
  refine lv_aload_n hx hb dX6_reads_54 rfl (lv_at hl 2 rfl) ?_
  refine w_callV (va_runV (As := [.ref a1, .ref a2]) (rest := []) F (c_X6_readPassing l hL_a0 hK_a0 hL_a1 hK_a1 hL_a2 hK_a2 hp H.size) (cwV (C := RX6) 2 hts (wg_V wm_RX6_106 wy_X6_readPassing) rfl rfl rfl (by decide +kernel) ⟨Nat.le_of_ble_eq_true rfl, Nat.le_of_ble_eq_true rfl⟩) (w_preV hK hW hL_a0 hK_a0 (by decide) rfl) rfl rfl hl.1 rfl (lv_room (Nat.le_of_ble_eq_true rfl)) dX6_reads_55 ⟨Nat.le_of_ble_eq_true rfl, Nat.le_of_ble_eq_true rfl⟩) hW (fun S_10 H locs hp hW => ?_)
  obtain ⟨hX_S_10, hp⟩ := hp
  refine W.widen (k := 0) (n := 0) (by decide) (by decide) ?_
  have hE := hE.trans hX_S_10
  have hK_a0 : sK S_10 a0 = 11 := (hX_S_10.2 a0 hL_a0).1.trans hK_a0
  have hL_a0 : wM D S_10 a0 := hX_S_10.M hL_a0
  have hK_a1 : sK S_10 a1 = 1 := (hX_S_10.2 a1 hL_a1).1.trans hK_a1
  have hL_a1 : wM D S_10 a1 := hX_S_10.M hL_a1
  have hK_a2 : sK S_10 a2 = 12 := (hX_S_10.2 a2 hL_a2).1.trans hK_a2
  have hL_a2 : wM D S_10 a2 := hX_S_10.M hL_a2
  refine lv_aload_n hx hb dX6_reads_58 rfl (lv_at hl 0 rfl) ?_
  refine lv_aload_n hx hb dX6_reads_59 rfl (lv_at hl 2 rfl) ?_
  refine lv_aload_n hx hb dX6_reads_60 rfl (lv_at hl 0 rfl) ?_
  obtain ⟨y_11, ey_11, hL_y_11, hK_y_11, hp⟩ := hp
  refine w_get (k := 11) (f := 1) (T := TX6) (v := .ref y_11) F hK hW hL_a0 hK_a0 (by decide) rfl rfl (by decide) i_11 k_12 (by rw [show wv 11 1 S_10 a0 = va_rf (sR S_10 a0 1) from rfl, ey_11]; rfl) dX6_reads_61 ?_
  refine w_callV (va_runV (As := [.ref a2, .ref y_11]) (rest := []) F (c_X6_write l hL_a0 hK_a0 hL_a2 hK_a2 hL_y_11 hK_y_11 hp H.size) (cwV (C := RX6) 2 hts (wg_V wm_RX6_109 wy_X6_write) rfl rfl rfl (by decide +kernel) ⟨Nat.le_of_ble_eq_true rfl, Nat.le_of_ble_eq_true rfl⟩) (w_preV hK hW hL_a0 hK_a0 (by decide) rfl) rfl rfl hl.1 rfl (lv_room (Nat.le_of_ble_eq_true rfl)) dX6_reads_64 ⟨Nat.le_of_ble_eq_true rfl, Nat.le_of_ble_eq_true rfl⟩) hW (fun S_13 H locs hp hW => ?_)
  obtain ⟨hX_S_13, hp⟩ := hp
  refine W.widen (k := 0) (n := 0) (by decide) (by decide) ?_
  have hE := hE.trans hX_S_13
  have hK_a0 : sK S_13 a0 = 11 := (hX_S_13.2 a0 hL_a0).1.trans hK_a0
  have hL_a0 : wM D S_13 a0 := hX_S_13.M hL_a0
  have hK_a1 : sK S_13 a1 = 1 := (hX_S_13.2 a1 hL_a1).1.trans hK_a1
  have hL_a1 : wM D S_13 a1 := hX_S_13.M hL_a1
  have hK_a2 : sK S_13 a2 = 12 := (hX_S_13.2 a2 hL_a2).1.trans hK_a2
  have hL_a2 : wM D S_13 a2 := hX_S_13.M hL_a2
  refine lv_aload_n hx hb dX6_reads_67 rfl (lv_at hl 1 rfl) ?_
  refine lv_aload_n hx hb dX6_reads_68 rfl (lv_at hl 0 rfl) ?_
  obtain ⟨y_14, ey_14, hL_y_14, hK_y_14, hp⟩ := hp
  refine w_get (k := 11) (f := 1) (T := TX6) (v := .ref y_14) F hK hW hL_a0 hK_a0 (by decide) rfl rfl (by decide) i_11 k_12 (by rw [show wv 11 1 S_13 a0 = va_rf (sR S_13 a0 1) from rfl, ey_14]; rfl) dX6_reads_69 ?_
  refine w_callI (va_runS (As := [.ref a1, .ref y_14]) (rest := []) F (c_X6_isSame l hL_a1 hK_a1 hL_y_14 hK_y_14 hp H.size) (va_cwS 2 hts (wg_S wm_RX6_113 wy_X6_isSame) rfl rfl rfl (by decide +kernel) ⟨Nat.le_of_ble_eq_true rfl, Nat.le_of_ble_eq_true rfl⟩) (w_preS hK hW) rfl rfl hl.1 rfl (lv_room (Nat.le_of_ble_eq_true rfl)) dX6_reads_72 ⟨Nat.le_of_ble_eq_true rfl, Nat.le_of_ble_eq_true rfl⟩) hW (fun r_15 S_16 H locs hp hW => ?_)
  obtain ⟨hX_S_16, hp⟩ := hp
  refine W.widen (k := 0) (n := 0) (by decide) (by decide) ?_
  have hE := hE.trans hX_S_16
  have hK_a0 : sK S_16 a0 = 11 := (hX_S_16.2 a0 hL_a0).1.trans hK_a0
  have hL_a0 : wM D S_16 a0 := hX_S_16.M hL_a0
  have hK_a1 : sK S_16 a1 = 1 := (hX_S_16.2 a1 hL_a1).1.trans hK_a1
  have hL_a1 : wM D S_16 a1 := hX_S_16.M hL_a1
  have hK_a2 : sK S_16 a2 = 12 := (hX_S_16.2 a2 hL_a2).1.trans hK_a2
  have hL_a2 : wM D S_16 a2 := hX_S_16.M hL_a2
  refine lv_if_eq (tgt := 97) hx hb dX6_reads_75 (by decide) (fun c_17 => ?_) (fun c_17 => ?_)
  · replace hp := hp.1 c_17
    exact t_X6_reads_97 F hr hlocks hK hp hW hE (lv_sub hl [] rfl)
  · replace hp := hp.2 c_17
    refine lv_aload_n hx hb dX6_reads_78 rfl (lv_at hl 2 rfl) ?_
    refine w_callI (va_runV (As := []) (rest := []) F (c_X7_isLawful l hL_a2 hK_a2 hp H.size) (cwV (C := RX7) 0 hts (wg_V wm_RX6_117 wy_X7_isLawful) rfl rfl rfl (by decide +kernel) ⟨Nat.le_of_ble_eq_true rfl, Nat.le_of_ble_eq_true rfl⟩) (w_preV hK hW hL_a2 hK_a2 (by decide) rfl) rfl rfl hl.1 rfl (lv_room (Nat.le_of_ble_eq_true rfl)) dX6_reads_79 ⟨Nat.le_of_ble_eq_true rfl, Nat.le_of_ble_eq_true rfl⟩) hW (fun r_18 S_19 H locs hp hW => ?_)
    obtain ⟨hX_S_19, hp⟩ := hp
    refine W.widen (k := 0) (n := 0) (by decide) (by decide) ?_
    have hE := hE.trans hX_S_19
    have hK_a0 : sK S_19 a0 = 11 := (hX_S_19.2 a0 hL_a0).1.trans hK_a0
    have hL_a0 : wM D S_19 a0 := hX_S_19.M hL_a0
    have hK_a1 : sK S_19 a1 = 1 := (hX_S_19.2 a1 hL_a1).1.trans hK_a1
    have hL_a1 : wM D S_19 a1 := hX_S_19.M hL_a1
    have hK_a2 : sK S_19 a2 = 12 := (hX_S_19.2 a2 hL_a2).1.trans hK_a2
    have hL_a2 : wM D S_19 a2 := hX_S_19.M hL_a2
    refine lv_if_eq (tgt := 97) hx hb dX6_reads_82 (by decide) (fun c_20 => ?_) (fun c_20 => ?_)
    · replace hp := hp.1 c_20
      exact t_X6_reads_97 F hr hlocks hK hp hW hE (lv_sub hl [] rfl)
    · replace hp := hp.2 c_20
      refine lv_aload_n hx hb dX6_reads_85 rfl (lv_at hl 0 rfl) ?_
      refine lv_aload_n hx hb dX6_reads_86 rfl (lv_at hl 2 rfl) ?_
      refine w_callI (va_runV (As := [.ref a2]) (rest := []) F (c_X6_isPassingSound l hL_a0 hK_a0 hL_a2 hK_a2 hp H.size) (cwV (C := RX6) 1 hts (wg_V wm_RX6_121 wy_X6_isPassingSound) rfl rfl rfl (by decide +kernel) ⟨Nat.le_of_ble_eq_true rfl, Nat.le_of_ble_eq_true rfl⟩) (w_preV hK hW hL_a0 hK_a0 (by decide) rfl) rfl rfl hl.1 rfl (lv_room (Nat.le_of_ble_eq_true rfl)) dX6_reads_87 ⟨Nat.le_of_ble_eq_true rfl, Nat.le_of_ble_eq_true rfl⟩) hW (fun r_21 S_22 H locs hp hW => ?_)
      obtain ⟨hX_S_22, hp⟩ := hp
      refine W.widen (k := 0) (n := 0) (by decide) (by decide) ?_
      have hE := hE.trans hX_S_22
      have hK_a0 : sK S_22 a0 = 11 := (hX_S_22.2 a0 hL_a0).1.trans hK_a0
      have hL_a0 : wM D S_22 a0 := hX_S_22.M hL_a0
      have hK_a1 : sK S_22 a1 = 1 := (hX_S_22.2 a1 hL_a1).1.trans hK_a1
      have hL_a1 : wM D S_22 a1 := hX_S_22.M hL_a1
      have hK_a2 : sK S_22 a2 = 12 := (hX_S_22.2 a2 hL_a2).1.trans hK_a2
      have hL_a2 : wM D S_22 a2 := hX_S_22.M hL_a2
      refine lv_if_eq (tgt := 97) hx hb dX6_reads_90 (by decide) (fun c_23 => ?_) (fun c_23 => ?_)
      · replace hp := hp.1 c_23
        exact t_X6_reads_97 F hr hlocks hK hp hW hE (lv_sub hl [] rfl)
      · replace hp := hp.2 c_23
        refine lv_iconst (v := 1) hx hb dX6_reads_93 (by decide) ?_
        refine lv_goto (tgt := 98) hx hb dX6_reads_94 (by decide) ?_
        exact t_X6_reads_98 F hr hlocks hK hp hW hE (lv_sub hl [] rfl)
set_option maxHeartbeats 4000000 in
set_option maxRecDepth 100000 in
theorem t_X6_reads_0 {p : Program} {l : Launch} {e : Env} {s : State} {m : MethodId} {args : Array Value} {below : List Frame} {meth : Method} {c : Code} {D : wD} {cy : Nat → ClassId} {X : va_W} {A : Nat → Prop} {S0 : wS} {post : Int32 → wS → Prop} (F : CallFix p m c cX6_reads 3 s args wz_X6_reads RX6) (hr : meth.sig.returnType = (some .boolean)) (hlocks : meth.locks = false) (hK : wK D cy A s) : ∀ {S : wS} {H : Heap} {locs : List Loc} {ls : Array Slot} {a0 : Nat} {a1 : Nat} {a2 : Nat}, wp_X6_reads_0 D post S a0 a1 a2 → wO D cy X A s.heap S H locs → wX D S0 S → lv_has ls 3 [(0, .ref a0), (1, .ref a1), (2, .ref a2)] → wM D S a0 → sK S a0 = 11 → wM D S a1 → sK S a1 = 1 → wM D S a2 → sK S a2 = 12 → W p l e r_X6_reads s m args below meth c H locs 0 0 (MQ below (va_Qi (fun r S9 => wX D S0 S9 ∧ post r S9) (wB D cy X A) A) args s 0 0 A) (F0 m 0 ls []) := by
  obtain ⟨hx, hb, hml, hown, hts⟩ := id F
  have hwg : ∀ w ∈ WG, w.before args s = true := fun w h => hts w (List.mem_cons_of_mem _ h)
  have i_11 : ∀ w ∈ u_ws RX6 TX6 3, w ∈ wz_X6_reads := fun w h => List.mem_cons_of_mem _ (wu_11 w h)
  have k_18 := hwg _ wf_RX6_18
  intro S H locs ls a0 a1 a2 hp hW hE hl hL_a0 hK_a0 hL_a1 hK_a1 hL_a2 hK_a2
  unfold wp_X6_reads_0 at hp
  refine lv_aload_n hx hb dX6_reads_0 rfl (lv_at hl 2 rfl) ?_
  refine w_callV (va_runV (As := []) (rest := []) F (c_X7_clear l hL_a2 hK_a2 hp H.size) (cwV (C := RX7) 0 hts (wg_V wm_RX6_92 wy_X7_clear) rfl rfl rfl (by decide +kernel) ⟨Nat.le_of_ble_eq_true rfl, Nat.le_of_ble_eq_true rfl⟩) (w_preV hK hW hL_a2 hK_a2 (by decide) rfl) rfl rfl hl.1 rfl (lv_room (Nat.le_of_ble_eq_true rfl)) dX6_reads_1 ⟨Nat.le_of_ble_eq_true rfl, Nat.le_of_ble_eq_true rfl⟩) hW (fun S_2 H locs hp hW => ?_)
  obtain ⟨hX_S_2, hp⟩ := hp
  refine W.widen (k := 0) (n := 0) (by decide) (by decide) ?_
  have hE := hE.trans hX_S_2
  have hK_a0 : sK S_2 a0 = 11 := (hX_S_2.2 a0 hL_a0).1.trans hK_a0
  have hL_a0 : wM D S_2 a0 := hX_S_2.M hL_a0
  have hK_a1 : sK S_2 a1 = 1 := (hX_S_2.2 a1 hL_a1).1.trans hK_a1
  have hL_a1 : wM D S_2 a1 := hX_S_2.M hL_a1
  have hK_a2 : sK S_2 a2 = 12 := (hX_S_2.2 a2 hL_a2).1.trans hK_a2
  have hL_a2 : wM D S_2 a2 := hX_S_2.M hL_a2
  refine lv_aload_n hx hb dX6_reads_4 rfl (lv_at hl 0 rfl) ?_
  refine lv_iconst (v := 0) hx hb dX6_reads_5 (by decide) ?_
  refine w_putI (k := 11) (f := 2) (T := TX6) F hK hW hL_a0 hK_a0 (by decide) (by decide) rfl rfl (by decide) i_11 tyX6 tyX6_ok nmX6 k_18 rfl rfl (ty := .int) rfl rfl rfl dX6_reads_6 (fun H locs hW => ?_)
  obtain ⟨S_3, eS_3⟩ : ∃ z : wS, z = uI S_2 a0 2 (0 : Int32) := ⟨_, rfl⟩
  rw [← eS_3] at hW
  replace hp := hp S_3 eS_3
  have hX_S_3 : wX D S_2 S_3 := by rw [eS_3]; exact wX_uI
  have hE := hE.trans hX_S_3
  have hK_a0 : sK S_3 a0 = 11 := (hX_S_3.2 a0 hL_a0).1.trans hK_a0
  have hL_a0 : wM D S_3 a0 := hX_S_3.M hL_a0
  have hK_a1 : sK S_3 a1 = 1 := (hX_S_3.2 a1 hL_a1).1.trans hK_a1
  have hL_a1 : wM D S_3 a1 := hX_S_3.M hL_a1
  have hK_a2 : sK S_3 a2 = 12 := (hX_S_3.2 a2 hL_a2).1.trans hK_a2
  have hL_a2 : wM D S_3 a2 := hX_S_3.M hL_a2
  refine lv_aload_n hx hb dX6_reads_9 rfl (lv_at hl 0 rfl) ?_
  refine lv_aload_n hx hb dX6_reads_10 rfl (lv_at hl 1 rfl) ?_
  refine lv_aload_n hx hb dX6_reads_11 rfl (lv_at hl 2 rfl) ?_
  refine w_callV (va_runV (As := [.ref a1, .ref a2]) (rest := []) F (c_X6_readSquares l hL_a0 hK_a0 hL_a1 hK_a1 hL_a2 hK_a2 hp H.size) (cwV (C := RX6) 2 hts (wg_V wm_RX6_95 wy_X6_readSquares) rfl rfl rfl (by decide +kernel) ⟨Nat.le_of_ble_eq_true rfl, Nat.le_of_ble_eq_true rfl⟩) (w_preV hK hW hL_a0 hK_a0 (by decide) rfl) rfl rfl hl.1 rfl (lv_room (Nat.le_of_ble_eq_true rfl)) dX6_reads_12 ⟨Nat.le_of_ble_eq_true rfl, Nat.le_of_ble_eq_true rfl⟩) hW (fun S_5 H locs hp hW => ?_)
  obtain ⟨hX_S_5, hp⟩ := hp
  refine W.widen (k := 0) (n := 0) (by decide) (by decide) ?_
  have hE := hE.trans hX_S_5
  have hK_a0 : sK S_5 a0 = 11 := (hX_S_5.2 a0 hL_a0).1.trans hK_a0
  have hL_a0 : wM D S_5 a0 := hX_S_5.M hL_a0
  have hK_a1 : sK S_5 a1 = 1 := (hX_S_5.2 a1 hL_a1).1.trans hK_a1
  have hL_a1 : wM D S_5 a1 := hX_S_5.M hL_a1
  have hK_a2 : sK S_5 a2 = 12 := (hX_S_5.2 a2 hL_a2).1.trans hK_a2
  have hL_a2 : wM D S_5 a2 := hX_S_5.M hL_a2
  refine lv_aload_n hx hb dX6_reads_15 rfl (lv_at hl 2 rfl) ?_
  refine lv_aload_n hx hb dX6_reads_16 rfl (lv_at hl 0 rfl) ?_
  refine lv_aload_n hx hb dX6_reads_17 rfl (lv_at hl 1 rfl) ?_
  refine w_callI (va_runV (As := [.ref a1]) (rest := [.ref a2]) F (c_X6_next l hL_a0 hK_a0 hL_a1 hK_a1 hp H.size) (cwV (C := RX6) 1 hts (wg_V wm_RX6_99 wy_X6_next) rfl rfl rfl (by decide +kernel) ⟨Nat.le_of_ble_eq_true rfl, Nat.le_of_ble_eq_true rfl⟩) (w_preV hK hW hL_a0 hK_a0 (by decide) rfl) rfl rfl hl.1 rfl (lv_room (Nat.le_of_ble_eq_true rfl)) dX6_reads_18 ⟨Nat.le_of_ble_eq_true rfl, Nat.le_of_ble_eq_true rfl⟩) hW (fun r_6 S_7 H locs hp hW => ?_)
  obtain ⟨hX_S_7, hp⟩ := hp
  refine W.widen (k := 0) (n := 0) (by decide) (by decide) ?_
  have hE := hE.trans hX_S_7
  have hK_a0 : sK S_7 a0 = 11 := (hX_S_7.2 a0 hL_a0).1.trans hK_a0
  have hL_a0 : wM D S_7 a0 := hX_S_7.M hL_a0
  have hK_a1 : sK S_7 a1 = 1 := (hX_S_7.2 a1 hL_a1).1.trans hK_a1
  have hL_a1 : wM D S_7 a1 := hX_S_7.M hL_a1
  have hK_a2 : sK S_7 a2 = 12 := (hX_S_7.2 a2 hL_a2).1.trans hK_a2
  have hL_a2 : wM D S_7 a2 := hX_S_7.M hL_a2
  refine lv_bipush (v := 119) hx hb dX6_reads_21 (by decide) ?_
  refine lv_icmp_ne (tgt := 30) hx hb dX6_reads_23 (by decide) (fun c_8 => ?_) (fun c_8 => ?_)
  · replace hp := hp.1 c_8
    refine lv_iconst (v := 0) hx hb dX6_reads_30 (by decide) ?_
    exact t_X6_reads_31 F hr hlocks hK hp hW hE (lv_sub hl [0, 1, 2] rfl) hL_a0 hK_a0 hL_a1 hK_a1 hL_a2 hK_a2 hL_a2 hK_a2
  · replace hp := hp.2 c_8
    refine lv_iconst (v := 1) hx hb dX6_reads_26 (by decide) ?_
    refine lv_goto (tgt := 31) hx hb dX6_reads_27 (by decide) ?_
    exact t_X6_reads_31 F hr hlocks hK hp hW hE (lv_sub hl [0, 1, 2] rfl) hL_a0 hK_a0 hL_a1 hK_a1 hL_a2 hK_a2 hL_a2 hK_a2
set_option maxHeartbeats 4000000 in
set_option maxRecDepth 100000 in
theorem c_X6_reads (l : Launch) {D : wD} {cy : Nat → ClassId} {X : va_W} {S0 : wS} {post : Int32 → wS → Prop} {a0 : Nat} {a1 : Nat} {a2 : Nat} (hL_a0 : wM D S0 a0) (hK_a0 : sK S0 a0 = 11) (hL_a1 : wM D S0 a1) (hK_a1 : sK S0 a1 = 1) (hL_a2 : wM D S0 a2) (hK_a2 : sK S0 a2 = 12) (hp : wp_X6_reads D post S0 a0 a1 a2) : mI D cy X l yX6_reads wz_X6_reads r_X6_reads [.ref a0, .ref a1, .ref a2] S0 (fun r S9 => wX D S0 S9 ∧ post r S9) := by
  intro sz
  refine Met.ofW (cc := cX6_reads) (maxL := 3) (ret := (some .boolean)) (by decide) rfl ?_
  intro p e s m args below meth c s₁ B hml hv
  obtain ⟨rfl, hsz, hP, hK, hD0, hRO⟩ := hv
  have hts := atoms_spec (ws := wz_X6_reads) B.pre
  have hown : s.vm.findClass RX6 = some m.cls := findClass_of_methodNamed B.named
  subst hsz
  have hD := hD0.self (sz := s.heap.size)
  have F : CallFix p m c cX6_reads 3 s _ wz_X6_reads RX6 := ⟨B.exec, B.bytes, hml, hown, hts⟩
  have hr := B.returns
  have hlocks := B.notSynchronized
  generalize hAe : va_A (wL cy X S0) s.heap.size = A at hD hK ⊢
  have hA : ∀ q, s.heap.size ≤ q → A q := fun q h => by rw [← hAe]; exact Or.inr h
  have hW : wO D cy X A s.heap S0 s.heap [] := ⟨hP, hD, va_S.rf, hA, hRO⟩
  have hl := lv_entry ([.ref a0, .ref a1, .ref a2]) (n := 3) (Nat.le_of_ble_eq_true rfl)
  rw [lg_entry_eq]
  generalize (lg_sl ([.ref a0, .ref a1, .ref a2]) ++ List.replicate (3 - (lg_sl ([.ref a0, .ref a1, .ref a2])).length) Slot.unset).toArray = ls at hl ⊢
  have hl : lv_has ls 3 [(0, .ref a0), (1, .ref a1), (2, .ref a2)] := hl
  unfold wp_X6_reads at hp
  exact t_X6_reads_0 F hr hlocks hK hp hW wX.rf (lv_sub hl [0, 1, 2] rfl) hL_a0 hK_a0 hL_a1 hK_a1 hL_a2 hK_a2
def wp_X11_readPaper_0 (D : wD) (post : Int32 → wS → Prop) (xp : String → wS → Prop)  (S : wS) (a0 : Nat) : Prop :=
∃ y_1 : Nat, sR S a0 7 = some y_1 ∧ wM D S y_1 ∧ sK S y_1 = 11 ∧
∃ y_2 : Nat, sR S a0 13 = some y_2 ∧ wM D S y_2 ∧ sK S y_2 = 1 ∧
∃ y_3 : Nat, sR S a0 3 = some y_3 ∧ wM D S y_3 ∧ sK S y_3 = 12 ∧
wp_X6_reads D (fun r_4 S_5 => 
∃ y_6 : Nat, sR S_5 a0 13 = some y_6 ∧ wM D S_5 y_6 ∧ sK S_5 y_6 = 1 ∧
wp_J4_setLength_d00df D (fun S_8 => 
((¬ r_4 = 0 → wp_X11_mustBeUnmoved D (fun S_11 => 
∃ y_12 : Nat, sR S_11 a0 2 = some y_12 ∧ wM D S_11 y_12 ∧ sK S_11 y_12 = 12 ∧
∃ y_13 : Nat, sR S_11 a0 3 = some y_13 ∧ wM D S_11 y_13 ∧ sK S_11 y_13 = 12 ∧
wp_X7_copy D (fun S_15 => 
∃ y_16 : Nat, sR S_15 a0 4 = some y_16 ∧ wM D S_15 y_16 ∧ sK S_15 y_16 = 8 ∧
∃ y_17 : Nat, sR S_15 a0 2 = some y_17 ∧ wM D S_15 y_17 ∧ sK S_15 y_17 = 12 ∧
wp_X3_begin D (fun S_19 => 
∃ y_20 : Nat, sR S_19 a0 2 = some y_20 ∧ wM D S_19 y_20 ∧ sK S_19 y_20 = 12 ∧
wp_X7_occupied D (fun r_21 S_22 => 
wp_J13_bitCount_95d88 D (fun r_23 S_24 => 
post r_23 S_24) S_22 r_21) S_19 y_20) S_15 y_16 y_17) S_11 y_12 y_13) xp S_8 a0) ∧
 (r_4 = 0 → xp "java/lang/IllegalArgumentException" S_8))) S_5 y_6 (0 : Int32)) S y_1 y_2 y_3
abbrev r_X11_readPaper : Room := { frames := 9, cells := 1, slots := 6, locals := 202 }
def wp_X11_readPaper (D : wD) (post : Int32 → wS → Prop) (xp : String → wS → Prop) (S : wS) (a0 : Nat) : Prop := wp_X11_readPaper_0 D post xp S a0
set_option maxHeartbeats 4000000 in
set_option maxRecDepth 100000 in
theorem t_X11_readPaper_0 {p : Program} {l : Launch} {e : Env} {s : State} {m : MethodId} {args : Array Value} {below : List Frame} {meth : Method} {c : Code} {D : wD} {cy : Nat → ClassId} {X : va_W} {A : Nat → Prop} {S0 : wS} {post : Int32 → wS → Prop} {xp : String → wS → Prop} (F : CallFix p m c cX11_readPaper 2 s args wz_X11_readPaper RX11) (hr : meth.sig.returnType = (some .int)) (hlocks : meth.locks = false) (hK : wK D cy A s) (hl0 : l.stackTraces = false) (hexc : ∀ x ∈ c.exceptionTable.toList, False) : ∀ {S : wS} {H : Heap} {locs : List Loc} {ls : Array Slot} {a0 : Nat}, wp_X11_readPaper_0 D post xp S a0 → wO D cy X A s.heap S H locs → wX D S0 S → lv_has ls 2 [(0, .ref a0)] → wM D S a0 → sK S a0 = 16 → W p l e r_X11_readPaper s m args below meth c H locs 0 0 (vx_MQ below (va_Qi (fun r S9 => wX D S0 S9 ∧ post r S9) (wB D cy X A) A) (wEx D cy X A (fun E S9 => wX D S0 S9 ∧ xp E S9)) args s 1 6 A) (F0 m 0 ls []) := by
  obtain ⟨hx, hb, hml, hown, hts⟩ := id F
  have hwg : ∀ w ∈ WG, w.before args s = true := fun w h => hts w (List.mem_cons_of_mem _ h)
  have i_16 : ∀ w ∈ u_ws RX11 TX11 18, w ∈ wz_X11_readPaper := fun w h => List.mem_cons_of_mem _ (wu_16 w h)
  have k_105 := hwg _ wf_RX11_105
  have k_28 := hwg _ wf_RX11_28
  have k_32 := hwg _ wf_RX11_32
  have k_40 := hwg _ wf_RX11_40
  have k_65 := hwg _ wf_RX11_65
  intro S H locs ls a0 hp hW hE hl hL_a0 hK_a0
  unfold wp_X11_readPaper_0 at hp
  refine lv_aload_n hx hb dX11_readPaper_0 rfl (lv_at hl 0 rfl) ?_
  obtain ⟨y_1, ey_1, hL_y_1, hK_y_1, hp⟩ := hp
  refine w_get (k := 16) (f := 7) (T := TX11) (v := .ref y_1) F hK hW hL_a0 hK_a0 (by decide) rfl rfl (by decide) i_16 k_65 (by rw [show wv 16 7 S a0 = va_rf (sR S a0 7) from rfl, ey_1]; rfl) dX11_readPaper_1 ?_
  refine lv_aload_n hx hb dX11_readPaper_4 rfl (lv_at hl 0 rfl) ?_
  obtain ⟨y_2, ey_2, hL_y_2, hK_y_2, hp⟩ := hp
  refine w_get (k := 16) (f := 13) (T := TX11) (v := .ref y_2) F hK hW hL_a0 hK_a0 (by decide) rfl rfl (by decide) i_16 k_105 (by rw [show wv 16 13 S a0 = va_rf (sR S a0 13) from rfl, ey_2]; rfl) dX11_readPaper_5 ?_
  refine lv_aload_n hx hb dX11_readPaper_8 rfl (lv_at hl 0 rfl) ?_
  obtain ⟨y_3, ey_3, hL_y_3, hK_y_3, hp⟩ := hp
  refine w_get (k := 16) (f := 3) (T := TX11) (v := .ref y_3) F hK hW hL_a0 hK_a0 (by decide) rfl rfl (by decide) i_16 k_32 (by rw [show wv 16 3 S a0 = va_rf (sR S a0 3) from rfl, ey_3]; rfl) dX11_readPaper_9 ?_
  refine w_callI (va_runV (As := [.ref y_2, .ref y_3]) (rest := []) F (c_X6_reads l hL_y_1 hK_y_1 hL_y_2 hK_y_2 hL_y_3 hK_y_3 hp H.size) (cwV (C := RX6) 2 hts (wg_V wm_RX11_187 wy_X6_reads) rfl rfl rfl (by decide +kernel) ⟨Nat.le_of_ble_eq_true rfl, Nat.le_of_ble_eq_true rfl⟩) (w_preV hK hW hL_y_1 hK_y_1 (by decide) rfl) rfl rfl hl.1 rfl (lv_room (Nat.le_of_ble_eq_true rfl)) dX11_readPaper_12 ⟨Nat.le_of_ble_eq_true rfl, Nat.le_of_ble_eq_true rfl⟩) hW (fun r_4 S_5 H locs hp hW => ?_)
  obtain ⟨hX_S_5, hp⟩ := hp
  refine W.widen (k := 0) (n := 0) (by decide) (by decide) ?_
  have hE := hE.trans hX_S_5
  have hK_a0 : sK S_5 a0 = 16 := (hX_S_5.2 a0 hL_a0).1.trans hK_a0
  have hL_a0 : wM D S_5 a0 := hX_S_5.M hL_a0
  refine lv_istore_n (lv' := [(1, .int r_4), (0, .ref a0)]) hx hb dX11_readPaper_15 rfl hl (by decide) rfl (fun ls hl => ?_)
  refine lv_aload_n hx hb dX11_readPaper_16 rfl (lv_at hl 1 rfl) ?_
  obtain ⟨y_6, ey_6, hL_y_6, hK_y_6, hp⟩ := hp
  refine w_get (k := 16) (f := 13) (T := TX11) (v := .ref y_6) F hK hW hL_a0 hK_a0 (by decide) rfl rfl (by decide) i_16 k_105 (by rw [show wv 16 13 S_5 a0 = va_rf (sR S_5 a0 13) from rfl, ey_6]; rfl) dX11_readPaper_17 ?_
  refine lv_iconst (v := 0) hx hb dX11_readPaper_20 (by decide) ?_
  refine w_callV (va_runV (As := [.int (0 : Int32)]) (rest := []) F (c_J4_setLength_d00df l hL_y_6 hK_y_6 hp H.size) (cwV (C := RJ4) 1 hts (wg_V wm_RX11_191 wy_J4_setLength_d00df) rfl rfl rfl (by decide +kernel) ⟨Nat.le_of_ble_eq_true rfl, Nat.le_of_ble_eq_true rfl⟩) (w_preV hK hW hL_y_6 hK_y_6 (by decide) rfl) rfl rfl hl.1 rfl (lv_room (Nat.le_of_ble_eq_true rfl)) dX11_readPaper_21 ⟨Nat.le_of_ble_eq_true rfl, Nat.le_of_ble_eq_true rfl⟩) hW (fun S_8 H locs hp hW => ?_)
  obtain ⟨hX_S_8, hp⟩ := hp
  refine W.widen (k := 0) (n := 0) (by decide) (by decide) ?_
  have hE := hE.trans hX_S_8
  have hK_a0 : sK S_8 a0 = 16 := (hX_S_8.2 a0 hL_a0).1.trans hK_a0
  have hL_a0 : wM D S_8 a0 := hX_S_8.M hL_a0
  refine lv_iload_n hx hb dX11_readPaper_24 rfl (lv_at hl 0 rfl) ?_
  refine lv_if_ne (tgt := 38) hx hb dX11_readPaper_25 (by decide) (fun c_9 => ?_) (fun c_9 => ?_)
  · replace hp := hp.1 c_9
    refine lv_aload_n hx hb dX11_readPaper_38 rfl (lv_at hl 1 rfl) ?_
    refine x_callV (vx_runV (As := []) (rest := []) F (c_X11_mustBeUnmoved l hl0 hL_a0 hK_a0 hp H.size) (cwV (C := RX11) 0 hts (wg_V wm_RX11_165 wy_X11_mustBeUnmoved) rfl rfl rfl (by decide +kernel) ⟨Nat.le_of_ble_eq_true rfl, Nat.le_of_ble_eq_true rfl⟩) (w_preV hK hW hL_a0 hK_a0 (by decide) rfl) rfl rfl hl.1 rfl (lv_room (Nat.le_of_ble_eq_true rfl)) dX11_readPaper_39 ⟨Nat.le_of_ble_eq_true rfl, Nat.le_of_ble_eq_true rfl⟩) hW (fun E ce q9 S9 H locs hp hW h1 h2 h3 => x_out hexc hlocks ⟨hE.trans hp.1, hp.2⟩ hW h1 h2 h3 (by decide) (by decide)) (fun S_11 H locs hp hW => ?_)
    obtain ⟨hX_S_11, hp⟩ := hp
    refine W.widen (k := 1) (n := 6) (by decide) (by decide) ?_
    have hE := hE.trans hX_S_11
    have hK_a0 : sK S_11 a0 = 16 := (hX_S_11.2 a0 hL_a0).1.trans hK_a0
    have hL_a0 : wM D S_11 a0 := hX_S_11.M hL_a0
    refine lv_aload_n hx hb dX11_readPaper_42 rfl (lv_at hl 1 rfl) ?_
    obtain ⟨y_12, ey_12, hL_y_12, hK_y_12, hp⟩ := hp
    refine w_get (k := 16) (f := 2) (T := TX11) (v := .ref y_12) F hK hW hL_a0 hK_a0 (by decide) rfl rfl (by decide) i_16 k_28 (by rw [show wv 16 2 S_11 a0 = va_rf (sR S_11 a0 2) from rfl, ey_12]; rfl) dX11_readPaper_43 ?_
    refine lv_aload_n hx hb dX11_readPaper_46 rfl (lv_at hl 1 rfl) ?_
    obtain ⟨y_13, ey_13, hL_y_13, hK_y_13, hp⟩ := hp
    refine w_get (k := 16) (f := 3) (T := TX11) (v := .ref y_13) F hK hW hL_a0 hK_a0 (by decide) rfl rfl (by decide) i_16 k_32 (by rw [show wv 16 3 S_11 a0 = va_rf (sR S_11 a0 3) from rfl, ey_13]; rfl) dX11_readPaper_47 ?_
    refine w_callV (va_runV (As := [.ref y_13]) (rest := []) F (c_X7_copy l hL_y_12 hK_y_12 hL_y_13 hK_y_13 hp H.size) (cwV (C := RX7) 1 hts (wg_V wm_RX11_196 wy_X7_copy) rfl rfl rfl (by decide +kernel) ⟨Nat.le_of_ble_eq_true rfl, Nat.le_of_ble_eq_true rfl⟩) (w_preV hK hW hL_y_12 hK_y_12 (by decide) rfl) rfl rfl hl.1 rfl (lv_room (Nat.le_of_ble_eq_true rfl)) dX11_readPaper_50 ⟨Nat.le_of_ble_eq_true rfl, Nat.le_of_ble_eq_true rfl⟩) hW (fun S_15 H locs hp hW => ?_)
    obtain ⟨hX_S_15, hp⟩ := hp
    refine W.widen (k := 1) (n := 6) (by decide) (by decide) ?_
    have hE := hE.trans hX_S_15
    have hK_a0 : sK S_15 a0 = 16 := (hX_S_15.2 a0 hL_a0).1.trans hK_a0
    have hL_a0 : wM D S_15 a0 := hX_S_15.M hL_a0
    refine lv_aload_n hx hb dX11_readPaper_53 rfl (lv_at hl 1 rfl) ?_
    obtain ⟨y_16, ey_16, hL_y_16, hK_y_16, hp⟩ := hp
    refine w_get (k := 16) (f := 4) (T := TX11) (v := .ref y_16) F hK hW hL_a0 hK_a0 (by decide) rfl rfl (by decide) i_16 k_40 (by rw [show wv 16 4 S_15 a0 = va_rf (sR S_15 a0 4) from rfl, ey_16]; rfl) dX11_readPaper_54 ?_
    refine lv_aload_n hx hb dX11_readPaper_57 rfl (lv_at hl 1 rfl) ?_
    obtain ⟨y_17, ey_17, hL_y_17, hK_y_17, hp⟩ := hp
    refine w_get (k := 16) (f := 2) (T := TX11) (v := .ref y_17) F hK hW hL_a0 hK_a0 (by decide) rfl rfl (by decide) i_16 k_28 (by rw [show wv 16 2 S_15 a0 = va_rf (sR S_15 a0 2) from rfl, ey_17]; rfl) dX11_readPaper_58 ?_
    refine w_callV (va_runV (As := [.ref y_17]) (rest := []) F (c_X3_begin l hL_y_16 hK_y_16 hL_y_17 hK_y_17 hp H.size) (cwV (C := RX3) 1 hts (wg_V wm_RX11_130 wy_X3_begin) rfl rfl rfl (by decide +kernel) ⟨Nat.le_of_ble_eq_true rfl, Nat.le_of_ble_eq_true rfl⟩) (w_preV hK hW hL_y_16 hK_y_16 (by decide) rfl) rfl rfl hl.1 rfl (lv_room (Nat.le_of_ble_eq_true rfl)) dX11_readPaper_61 ⟨Nat.le_of_ble_eq_true rfl, Nat.le_of_ble_eq_true rfl⟩) hW (fun S_19 H locs hp hW => ?_)
    obtain ⟨hX_S_19, hp⟩ := hp
    refine W.widen (k := 1) (n := 6) (by decide) (by decide) ?_
    have hE := hE.trans hX_S_19
    have hK_a0 : sK S_19 a0 = 16 := (hX_S_19.2 a0 hL_a0).1.trans hK_a0
    have hL_a0 : wM D S_19 a0 := hX_S_19.M hL_a0
    refine lv_aload_n hx hb dX11_readPaper_64 rfl (lv_at hl 1 rfl) ?_
    obtain ⟨y_20, ey_20, hL_y_20, hK_y_20, hp⟩ := hp
    refine w_get (k := 16) (f := 2) (T := TX11) (v := .ref y_20) F hK hW hL_a0 hK_a0 (by decide) rfl rfl (by decide) i_16 k_28 (by rw [show wv 16 2 S_19 a0 = va_rf (sR S_19 a0 2) from rfl, ey_20]; rfl) dX11_readPaper_65 ?_
    refine w_callJ (va_runV (As := []) (rest := []) F (c_X7_occupied l hL_y_20 hK_y_20 hp H.size) (cwV (C := RX7) 0 hts (wg_V wm_RX11_199 wy_X7_occupied) rfl rfl rfl (by decide +kernel) ⟨Nat.le_of_ble_eq_true rfl, Nat.le_of_ble_eq_true rfl⟩) (w_preV hK hW hL_y_20 hK_y_20 (by decide) rfl) rfl rfl hl.1 rfl (lv_room (Nat.le_of_ble_eq_true rfl)) dX11_readPaper_68 ⟨Nat.le_of_ble_eq_true rfl, Nat.le_of_ble_eq_true rfl⟩) hW (fun r_21 S_22 H locs hp hW => ?_)
    obtain ⟨hX_S_22, hp⟩ := hp
    refine W.widen (k := 1) (n := 6) (by decide) (by decide) ?_
    have hE := hE.trans hX_S_22
    have hK_a0 : sK S_22 a0 = 16 := (hX_S_22.2 a0 hL_a0).1.trans hK_a0
    have hL_a0 : wM D S_22 a0 := hX_S_22.M hL_a0
    refine w_callI (va_runS (As := [.long r_21]) (rest := []) F (c_J13_bitCount_95d88 l hp H.size) (va_cwS 1 hts (wg_S wm_RX11_203 wy_J13_bitCount_95d88) rfl rfl rfl (by decide +kernel) ⟨Nat.le_of_ble_eq_true rfl, Nat.le_of_ble_eq_true rfl⟩) (w_preS hK hW) rfl rfl hl.1 rfl (lv_room (Nat.le_of_ble_eq_true rfl)) dX11_readPaper_71 ⟨Nat.le_of_ble_eq_true rfl, Nat.le_of_ble_eq_true rfl⟩) hW (fun r_23 S_24 H locs hp hW => ?_)
    obtain ⟨hX_S_24, hp⟩ := hp
    refine W.widen (k := 1) (n := 6) (by decide) (by decide) ?_
    have hE := hE.trans hX_S_24
    have hK_a0 : sK S_24 a0 = 16 := (hX_S_24.2 a0 hL_a0).1.trans hK_a0
    have hL_a0 : wM D S_24 a0 := hX_S_24.M hL_a0
    refine vx_ret ?_
    exact w_iret hx hb hr hlocks hW ⟨hE, hp⟩ dX11_readPaper_74
  · replace hp := hp.2 c_9
    exact x_throw (ls := ls) F hK hW hl0 (by decide) (hwg _ wc_RX11_140) (hwg _ wi_java_lang_IllegalArgumentException) (show ("OpeningsCabinet", 194, "no paper of a proper position on this board", 16) ∈ wStr by decide +kernel) (wa_RX11_144 hwg hK.2.1) wa_RX11_144_ok hl.1 hexc hlocks dX11_readPaper_28 dX11_readPaper_31 dX11_readPaper_32 dX11_readPaper_34 dX11_readPaper_37 (Nat.le_of_ble_eq_true rfl) (Nat.le_of_ble_eq_true rfl) (Nat.le_of_ble_eq_true rfl) (Nat.le_of_ble_eq_true rfl) (by decide) (by decide) ⟨hE, hp⟩
set_option maxHeartbeats 4000000 in
set_option maxRecDepth 100000 in
theorem c_X11_readPaper (l : Launch) {D : wD} {cy : Nat → ClassId} {X : va_W} {S0 : wS} {post : Int32 → wS → Prop} {xp : String → wS → Prop} (hl0 : l.stackTraces = false) {a0 : Nat} (hL_a0 : wM D S0 a0) (hK_a0 : sK S0 a0 = 16) (hp : wp_X11_readPaper D post xp S0 a0) : xI D cy X l yX11_readPaper wz_X11_readPaper r_X11_readPaper [.ref a0] S0 (fun r S9 => wX D S0 S9 ∧ post r S9) (fun E S9 => wX D S0 S9 ∧ xp E S9) := by
  intro sz
  refine vx_ofW (cc := cX11_readPaper) (maxL := 2) (ret := (some .int)) (by decide) rfl ?_
  intro p e s m args below meth c s₁ B hml hexc hv
  obtain ⟨rfl, hsz, hP, hK, hD0, hRO⟩ := hv
  have hts := atoms_spec (ws := wz_X11_readPaper) B.pre
  have hown : s.vm.findClass RX11 = some m.cls := findClass_of_methodNamed B.named
  subst hsz
  have hD := hD0.self (sz := s.heap.size)
  have F : CallFix p m c cX11_readPaper 2 s _ wz_X11_readPaper RX11 := ⟨B.exec, B.bytes, hml, hown, hts⟩
  have hr := B.returns
  have hlocks := B.notSynchronized
  generalize hAe : va_A (wL cy X S0) s.heap.size = A at hD hK ⊢
  have hA : ∀ q, s.heap.size ≤ q → A q := fun q h => by rw [← hAe]; exact Or.inr h
  have hW : wO D cy X A s.heap S0 s.heap [] := ⟨hP, hD, va_S.rf, hA, hRO⟩
  have hl := lv_entry ([.ref a0]) (n := 2) (Nat.le_of_ble_eq_true rfl)
  rw [lg_entry_eq]
  generalize (lg_sl ([.ref a0]) ++ List.replicate (2 - (lg_sl ([.ref a0])).length) Slot.unset).toArray = ls at hl ⊢
  have hl : lv_has ls 2 [(0, .ref a0)] := hl
  unfold wp_X11_readPaper at hp
  exact t_X11_readPaper_0 F hr hlocks hK hl0 hexc hp hW wX.rf (lv_sub hl [0] rfl) hL_a0 hK_a0
def wp_X11_repetitions_0 (D : wD) (post : Int32 → wS → Prop)  (S : wS) (a0 : Nat) : Prop :=
∃ y_1 : Nat, sR S a0 4 = some y_1 ∧ wM D S y_1 ∧ sK S y_1 = 8 ∧
∃ y_2 : Nat, sR S a0 2 = some y_2 ∧ wM D S y_2 ∧ sK S y_2 = 12 ∧
wp_X3_timesOf D (fun r_3 S_4 => 
post r_3 S_4) S y_1 y_2
abbrev r_X11_repetitions : Room := { frames := 3, cells := 0, slots := 0, locals := 66 }
def wp_X11_repetitions (D : wD) (post : Int32 → wS → Prop) (S : wS) (a0 : Nat) : Prop := wp_X11_repetitions_0 D post S a0
set_option maxHeartbeats 4000000 in
set_option maxRecDepth 100000 in
theorem t_X11_repetitions_0 {p : Program} {l : Launch} {e : Env} {s : State} {m : MethodId} {args : Array Value} {below : List Frame} {meth : Method} {c : Code} {D : wD} {cy : Nat → ClassId} {X : va_W} {A : Nat → Prop} {S0 : wS} {post : Int32 → wS → Prop} (F : CallFix p m c cX11_repetitions 1 s args wz_X11_repetitions RX11) (hr : meth.sig.returnType = (some .int)) (hlocks : meth.locks = false) (hK : wK D cy A s) : ∀ {S : wS} {H : Heap} {locs : List Loc} {ls : Array Slot} {a0 : Nat}, wp_X11_repetitions_0 D post S a0 → wO D cy X A s.heap S H locs → wX D S0 S → lv_has ls 1 [(0, .ref a0)] → wM D S a0 → sK S a0 = 16 → W p l e r_X11_repetitions s m args below meth c H locs 0 0 (MQ below (va_Qi (fun r S9 => wX D S0 S9 ∧ post r S9) (wB D cy X A) A) args s 0 0 A) (F0 m 0 ls []) := by
  obtain ⟨hx, hb, hml, hown, hts⟩ := id F
  have hwg : ∀ w ∈ WG, w.before args s = true := fun w h => hts w (List.mem_cons_of_mem _ h)
  have i_16 : ∀ w ∈ u_ws RX11 TX11 18, w ∈ wz_X11_repetitions := fun w h => List.mem_cons_of_mem _ (wu_16 w h)
  have k_28 := hwg _ wf_RX11_28
  have k_40 := hwg _ wf_RX11_40
  intro S H locs ls a0 hp hW hE hl hL_a0 hK_a0
  unfold wp_X11_repetitions_0 at hp
  refine lv_aload_n hx hb dX11_repetitions_0 rfl (lv_at hl 0 rfl) ?_
  obtain ⟨y_1, ey_1, hL_y_1, hK_y_1, hp⟩ := hp
  refine w_get (k := 16) (f := 4) (T := TX11) (v := .ref y_1) F hK hW hL_a0 hK_a0 (by decide) rfl rfl (by decide) i_16 k_40 (by rw [show wv 16 4 S a0 = va_rf (sR S a0 4) from rfl, ey_1]; rfl) dX11_repetitions_1 ?_
  refine lv_aload_n hx hb dX11_repetitions_4 rfl (lv_at hl 0 rfl) ?_
  obtain ⟨y_2, ey_2, hL_y_2, hK_y_2, hp⟩ := hp
  refine w_get (k := 16) (f := 2) (T := TX11) (v := .ref y_2) F hK hW hL_a0 hK_a0 (by decide) rfl rfl (by decide) i_16 k_28 (by rw [show wv 16 2 S a0 = va_rf (sR S a0 2) from rfl, ey_2]; rfl) dX11_repetitions_5 ?_
  refine w_callI (va_runV (As := [.ref y_2]) (rest := []) F (c_X3_timesOf l hL_y_1 hK_y_1 hL_y_2 hK_y_2 hp H.size) (cwV (C := RX3) 1 hts (wg_V wm_RX11_306 wy_X3_timesOf) rfl rfl rfl (by decide +kernel) ⟨Nat.le_of_ble_eq_true rfl, Nat.le_of_ble_eq_true rfl⟩) (w_preV hK hW hL_y_1 hK_y_1 (by decide) rfl) rfl rfl hl.1 rfl (lv_room (Nat.le_of_ble_eq_true rfl)) dX11_repetitions_8 ⟨Nat.le_of_ble_eq_true rfl, Nat.le_of_ble_eq_true rfl⟩) hW (fun r_3 S_4 H locs hp hW => ?_)
  obtain ⟨hX_S_4, hp⟩ := hp
  refine W.widen (k := 0) (n := 0) (by decide) (by decide) ?_
  have hE := hE.trans hX_S_4
  have hK_a0 : sK S_4 a0 = 16 := (hX_S_4.2 a0 hL_a0).1.trans hK_a0
  have hL_a0 : wM D S_4 a0 := hX_S_4.M hL_a0
  exact w_iret hx hb hr hlocks hW ⟨hE, hp⟩ dX11_repetitions_11
set_option maxHeartbeats 4000000 in
set_option maxRecDepth 100000 in
theorem c_X11_repetitions (l : Launch) {D : wD} {cy : Nat → ClassId} {X : va_W} {S0 : wS} {post : Int32 → wS → Prop} {a0 : Nat} (hL_a0 : wM D S0 a0) (hK_a0 : sK S0 a0 = 16) (hp : wp_X11_repetitions D post S0 a0) : mI D cy X l yX11_repetitions wz_X11_repetitions r_X11_repetitions [.ref a0] S0 (fun r S9 => wX D S0 S9 ∧ post r S9) := by
  intro sz
  refine Met.ofW (cc := cX11_repetitions) (maxL := 1) (ret := (some .int)) (by decide) rfl ?_
  intro p e s m args below meth c s₁ B hml hv
  obtain ⟨rfl, hsz, hP, hK, hD0, hRO⟩ := hv
  have hts := atoms_spec (ws := wz_X11_repetitions) B.pre
  have hown : s.vm.findClass RX11 = some m.cls := findClass_of_methodNamed B.named
  subst hsz
  have hD := hD0.self (sz := s.heap.size)
  have F : CallFix p m c cX11_repetitions 1 s _ wz_X11_repetitions RX11 := ⟨B.exec, B.bytes, hml, hown, hts⟩
  have hr := B.returns
  have hlocks := B.notSynchronized
  generalize hAe : va_A (wL cy X S0) s.heap.size = A at hD hK ⊢
  have hA : ∀ q, s.heap.size ≤ q → A q := fun q h => by rw [← hAe]; exact Or.inr h
  have hW : wO D cy X A s.heap S0 s.heap [] := ⟨hP, hD, va_S.rf, hA, hRO⟩
  have hl := lv_entry ([.ref a0]) (n := 1) (Nat.le_of_ble_eq_true rfl)
  rw [lg_entry_eq]
  generalize (lg_sl ([.ref a0]) ++ List.replicate (1 - (lg_sl ([.ref a0])).length) Slot.unset).toArray = ls at hl ⊢
  have hl : lv_has ls 1 [(0, .ref a0)] := hl
  unfold wp_X11_repetitions at hp
  exact t_X11_repetitions_0 F hr hlocks hK hp hW wX.rf (lv_sub hl [0] rfl) hL_a0 hK_a0
def wp_X11_rights_0 (D : wD) (post : Int32 → wS → Prop)  (S : wS) (a0 : Nat) : Prop :=
∃ y_1 : Nat, sR S a0 2 = some y_1 ∧ wM D S y_1 ∧ sK S y_1 = 12 ∧
post (sI S y_1 6) S
abbrev r_X11_rights : Room := { frames := 0, cells := 0, slots := 0, locals := 0 }
def wp_X11_rights (D : wD) (post : Int32 → wS → Prop) (S : wS) (a0 : Nat) : Prop := wp_X11_rights_0 D post S a0
set_option maxHeartbeats 4000000 in
set_option maxRecDepth 100000 in
theorem t_X11_rights_0 {p : Program} {l : Launch} {e : Env} {s : State} {m : MethodId} {args : Array Value} {below : List Frame} {meth : Method} {c : Code} {D : wD} {cy : Nat → ClassId} {X : va_W} {A : Nat → Prop} {S0 : wS} {post : Int32 → wS → Prop} (F : CallFix p m c cX11_rights 1 s args wz_X11_rights RX11) (hr : meth.sig.returnType = (some .int)) (hlocks : meth.locks = false) (hK : wK D cy A s) : ∀ {S : wS} {H : Heap} {locs : List Loc} {ls : Array Slot} {a0 : Nat}, wp_X11_rights_0 D post S a0 → wO D cy X A s.heap S H locs → wX D S0 S → lv_has ls 1 [(0, .ref a0)] → wM D S a0 → sK S a0 = 16 → W p l e r_X11_rights s m args below meth c H locs 0 0 (MQ below (va_Qi (fun r S9 => wX D S0 S9 ∧ post r S9) (wB D cy X A) A) args s 0 0 A) (F0 m 0 ls []) := by
  obtain ⟨hx, hb, hml, hown, hts⟩ := id F
  have hwg : ∀ w ∈ WG, w.before args s = true := fun w h => hts w (List.mem_cons_of_mem _ h)
  have i_12 : ∀ w ∈ u_ws RX7 TX7 8, w ∈ wz_X11_rights := fun w h => List.mem_cons_of_mem _ (wu_12 w h)
  have i_16 : ∀ w ∈ u_ws RX11 TX11 18, w ∈ wz_X11_rights := fun w h => List.mem_cons_of_mem _ (wu_16 w h)
  have k_28 := hwg _ wf_RX11_28
  intro S H locs ls a0 hp hW hE hl hL_a0 hK_a0
  unfold wp_X11_rights_0 at hp
  refine lv_aload_n hx hb dX11_rights_0 rfl (lv_at hl 0 rfl) ?_
  obtain ⟨y_1, ey_1, hL_y_1, hK_y_1, hp⟩ := hp
  refine w_get (k := 16) (f := 2) (T := TX11) (v := .ref y_1) F hK hW hL_a0 hK_a0 (by decide) rfl rfl (by decide) i_16 k_28 (by rw [show wv 16 2 S a0 = va_rf (sR S a0 2) from rfl, ey_1]; rfl) dX11_rights_1 ?_
  refine w_getN (k := 12) (f := 6) (T := TX7) (v := .int (sI S y_1 6)) F hK hW hL_y_1 hK_y_1 (by decide) rfl rfl (by decide) i_12 (hK.2.1 (.fieldLinkNest "OpeningsCabinet" 175 "OpeningsCabinet$Position" "rights" "I" "OpeningsCabinet") (by decide +kernel)) rfl dX11_rights_4 ?_
  exact w_iret hx hb hr hlocks hW ⟨hE, hp⟩ dX11_rights_7
set_option maxHeartbeats 4000000 in
set_option maxRecDepth 100000 in
theorem c_X11_rights (l : Launch) {D : wD} {cy : Nat → ClassId} {X : va_W} {S0 : wS} {post : Int32 → wS → Prop} {a0 : Nat} (hL_a0 : wM D S0 a0) (hK_a0 : sK S0 a0 = 16) (hp : wp_X11_rights D post S0 a0) : mI D cy X l yX11_rights wz_X11_rights r_X11_rights [.ref a0] S0 (fun r S9 => wX D S0 S9 ∧ post r S9) := by
  intro sz
  refine Met.ofW (cc := cX11_rights) (maxL := 1) (ret := (some .int)) (by decide) rfl ?_
  intro p e s m args below meth c s₁ B hml hv
  obtain ⟨rfl, hsz, hP, hK, hD0, hRO⟩ := hv
  have hts := atoms_spec (ws := wz_X11_rights) B.pre
  have hown : s.vm.findClass RX11 = some m.cls := findClass_of_methodNamed B.named
  subst hsz
  have hD := hD0.self (sz := s.heap.size)
  have F : CallFix p m c cX11_rights 1 s _ wz_X11_rights RX11 := ⟨B.exec, B.bytes, hml, hown, hts⟩
  have hr := B.returns
  have hlocks := B.notSynchronized
  generalize hAe : va_A (wL cy X S0) s.heap.size = A at hD hK ⊢
  have hA : ∀ q, s.heap.size ≤ q → A q := fun q h => by rw [← hAe]; exact Or.inr h
  have hW : wO D cy X A s.heap S0 s.heap [] := ⟨hP, hD, va_S.rf, hA, hRO⟩
  have hl := lv_entry ([.ref a0]) (n := 1) (Nat.le_of_ble_eq_true rfl)
  rw [lg_entry_eq]
  generalize (lg_sl ([.ref a0]) ++ List.replicate (1 - (lg_sl ([.ref a0])).length) Slot.unset).toArray = ls at hl ⊢
  have hl : lv_has ls 1 [(0, .ref a0)] := hl
  unfold wp_X11_rights at hp
  exact t_X11_rights_0 F hr hlocks hK hp hW wX.rf (lv_sub hl [0] rfl) hL_a0 hK_a0
def wp_X11_setSide_10 (D : wD) (post : Int32 → wS → Prop) (xp : String → wS → Prop)  (S : wS) : Prop :=
xp "java/lang/IllegalArgumentException" S
def wp_X11_setSide_0 (D : wD) (post : Int32 → wS → Prop) (xp : String → wS → Prop)  (S : wS) (a0 : Nat) (x1 : Int32) (x2 : Int32) : Prop :=
((x2 < 0 → wp_X11_setSide_10 D post xp S) ∧
 (¬ x2 < 0 → ((x2 ≤ (15 : Int32) → wp_X11_mustBeUnmoved D (fun S_4 => 
∃ y_5 : Nat, sR S_4 a0 2 = some y_5 ∧ wM D S_4 y_5 ∧ sK S_4 y_5 = 12 ∧
∀ x_6 : Int32, x_6 = (sI S_4 y_5 6) →
∃ y_7 : Nat, sR S_4 a0 2 = some y_7 ∧ wM D S_4 y_7 ∧ sK S_4 y_7 = 12 ∧
narrow .boolean (.int x1) = .int x1 ∧ fits .boolean (.int x1) = true ∧
∀ S_8 : wS, S_8 = uI S_4 y_7 5 x1 →
∃ y_10 : Nat, sR S_8 a0 2 = some y_10 ∧ wM D S_8 y_10 ∧ sK S_8 y_10 = 12 ∧
∀ S_11 : wS, S_11 = uI S_8 y_10 6 x2 →
∃ y_12 : Nat, sR S_11 a0 2 = some y_12 ∧ wM D S_11 y_12 ∧ sK S_11 y_12 = 12 ∧
∀ S_13 : wS, S_13 = uI S_11 y_12 7 (-1 : Int32) →
∃ y_14 : Nat, sR S_13 a0 4 = some y_14 ∧ wM D S_13 y_14 ∧ sK S_13 y_14 = 8 ∧
∃ y_15 : Nat, sR S_13 a0 2 = some y_15 ∧ wM D S_13 y_15 ∧ sK S_13 y_15 = 12 ∧
wp_X3_begin D (fun S_17 => 
post x_6 S_17) S_13 y_14 y_15) xp S a0) ∧
 (¬ x2 ≤ (15 : Int32) → wp_X11_setSide_10 D post xp S))))
abbrev r_X11_setSide : Room := { frames := 7, cells := 1, slots := 6, locals := 140 }
def wp_X11_setSide (D : wD) (post : Int32 → wS → Prop) (xp : String → wS → Prop) (S : wS) (a0 : Nat) (x1 : Int32) (x2 : Int32) : Prop := wp_X11_setSide_0 D post xp S a0 x1 x2
set_option maxHeartbeats 4000000 in
set_option maxRecDepth 100000 in
theorem t_X11_setSide_10 {p : Program} {l : Launch} {e : Env} {s : State} {m : MethodId} {args : Array Value} {below : List Frame} {meth : Method} {c : Code} {D : wD} {cy : Nat → ClassId} {X : va_W} {A : Nat → Prop} {S0 : wS} {post : Int32 → wS → Prop} {xp : String → wS → Prop} (F : CallFix p m c cX11_setSide 4 s args wz_X11_setSide RX11) (hr : meth.sig.returnType = (some .int)) (hlocks : meth.locks = false) (hK : wK D cy A s) (hl0 : l.stackTraces = false) (hexc : ∀ x ∈ c.exceptionTable.toList, False) : ∀ {S : wS} {H : Heap} {locs : List Loc} {ls : Array Slot}, wp_X11_setSide_10 D post xp S → wO D cy X A s.heap S H locs → wX D S0 S → lv_has ls 4 [] → W p l e r_X11_setSide s m args below meth c H locs 0 0 (vx_MQ below (va_Qi (fun r S9 => wX D S0 S9 ∧ post r S9) (wB D cy X A) A) (wEx D cy X A (fun E S9 => wX D S0 S9 ∧ xp E S9)) args s 1 6 A) (F0 m 10 ls []) := by
  obtain ⟨hx, hb, hml, hown, hts⟩ := id F
  have hwg : ∀ w ∈ WG, w.before args s = true := fun w h => hts w (List.mem_cons_of_mem _ h)
  intro S H locs ls hp hW hE hl
  unfold wp_X11_setSide_10 at hp
  exact x_throw (ls := ls) F hK hW hl0 (by decide) (hwg _ wc_RX11_140) (hwg _ wi_java_lang_IllegalArgumentException) (show ("OpeningsCabinet", 181, "rights are 0 to 15", 15) ∈ wStr by decide +kernel) (wa_RX11_144 hwg hK.2.1) wa_RX11_144_ok hl.1 hexc hlocks dX11_setSide_10 dX11_setSide_13 dX11_setSide_14 dX11_setSide_16 dX11_setSide_19 (Nat.le_of_ble_eq_true rfl) (Nat.le_of_ble_eq_true rfl) (Nat.le_of_ble_eq_true rfl) (Nat.le_of_ble_eq_true rfl) (by decide) (by decide) ⟨hE, hp⟩
set_option maxHeartbeats 4000000 in
set_option maxRecDepth 100000 in
theorem t_X11_setSide_0 {p : Program} {l : Launch} {e : Env} {s : State} {m : MethodId} {args : Array Value} {below : List Frame} {meth : Method} {c : Code} {D : wD} {cy : Nat → ClassId} {X : va_W} {A : Nat → Prop} {S0 : wS} {post : Int32 → wS → Prop} {xp : String → wS → Prop} (F : CallFix p m c cX11_setSide 4 s args wz_X11_setSide RX11) (hr : meth.sig.returnType = (some .int)) (hlocks : meth.locks = false) (hK : wK D cy A s) (hl0 : l.stackTraces = false) (hexc : ∀ x ∈ c.exceptionTable.toList, False) : ∀ {S : wS} {H : Heap} {locs : List Loc} {ls : Array Slot} {a0 : Nat} {x1 : Int32} {x2 : Int32}, wp_X11_setSide_0 D post xp S a0 x1 x2 → wO D cy X A s.heap S H locs → wX D S0 S → lv_has ls 4 [(0, .ref a0), (1, .int x1), (2, .int x2)] → wM D S a0 → sK S a0 = 16 → W p l e r_X11_setSide s m args below meth c H locs 0 0 (vx_MQ below (va_Qi (fun r S9 => wX D S0 S9 ∧ post r S9) (wB D cy X A) A) (wEx D cy X A (fun E S9 => wX D S0 S9 ∧ xp E S9)) args s 1 6 A) (F0 m 0 ls []) := by
  obtain ⟨hx, hb, hml, hown, hts⟩ := id F
  have hwg : ∀ w ∈ WG, w.before args s = true := fun w h => hts w (List.mem_cons_of_mem _ h)
  have i_12 : ∀ w ∈ u_ws RX7 TX7 8, w ∈ wz_X11_setSide := fun w h => List.mem_cons_of_mem _ (wu_12 w h)
  have i_16 : ∀ w ∈ u_ws RX11 TX11 18, w ∈ wz_X11_setSide := fun w h => List.mem_cons_of_mem _ (wu_16 w h)
  have k_28 := hwg _ wf_RX11_28
  have k_40 := hwg _ wf_RX11_40
  intro S H locs ls a0 x1 x2 hp hW hE hl hL_a0 hK_a0
  unfold wp_X11_setSide_0 at hp
  refine lv_iload_n hx hb dX11_setSide_0 rfl (lv_at hl 2 rfl) ?_
  refine lv_if_lt (tgt := 10) hx hb dX11_setSide_1 (by decide) (fun c_1 => ?_) (fun c_1 => ?_)
  · replace hp := hp.1 c_1
    exact t_X11_setSide_10 F hr hlocks hK hl0 hexc hp hW hE (lv_sub hl [] rfl)
  · replace hp := hp.2 c_1
    refine lv_iload_n hx hb dX11_setSide_4 rfl (lv_at hl 2 rfl) ?_
    refine lv_bipush (v := 15) hx hb dX11_setSide_5 (by decide) ?_
    refine lv_icmp_le (tgt := 20) hx hb dX11_setSide_7 (by decide) (fun c_2 => ?_) (fun c_2 => ?_)
    · replace hp := hp.1 c_2
      refine lv_aload_n hx hb dX11_setSide_20 rfl (lv_at hl 0 rfl) ?_
      refine x_callV (vx_runV (As := []) (rest := []) F (c_X11_mustBeUnmoved l hl0 hL_a0 hK_a0 hp H.size) (cwV (C := RX11) 0 hts (wg_V wm_RX11_165 wy_X11_mustBeUnmoved) rfl rfl rfl (by decide +kernel) ⟨Nat.le_of_ble_eq_true rfl, Nat.le_of_ble_eq_true rfl⟩) (w_preV hK hW hL_a0 hK_a0 (by decide) rfl) rfl rfl hl.1 rfl (lv_room (Nat.le_of_ble_eq_true rfl)) dX11_setSide_21 ⟨Nat.le_of_ble_eq_true rfl, Nat.le_of_ble_eq_true rfl⟩) hW (fun E ce q9 S9 H locs hp hW h1 h2 h3 => x_out hexc hlocks ⟨hE.trans hp.1, hp.2⟩ hW h1 h2 h3 (by decide) (by decide)) (fun S_4 H locs hp hW => ?_)
      obtain ⟨hX_S_4, hp⟩ := hp
      refine W.widen (k := 1) (n := 6) (by decide) (by decide) ?_
      have hE := hE.trans hX_S_4
      have hK_a0 : sK S_4 a0 = 16 := (hX_S_4.2 a0 hL_a0).1.trans hK_a0
      have hL_a0 : wM D S_4 a0 := hX_S_4.M hL_a0
      refine lv_aload_n hx hb dX11_setSide_24 rfl (lv_at hl 0 rfl) ?_
      obtain ⟨y_5, ey_5, hL_y_5, hK_y_5, hp⟩ := hp
      refine w_get (k := 16) (f := 2) (T := TX11) (v := .ref y_5) F hK hW hL_a0 hK_a0 (by decide) rfl rfl (by decide) i_16 k_28 (by rw [show wv 16 2 S_4 a0 = va_rf (sR S_4 a0 2) from rfl, ey_5]; rfl) dX11_setSide_25 ?_
      refine w_getN (k := 12) (f := 6) (T := TX7) (v := .int (sI S_4 y_5 6)) F hK hW hL_y_5 hK_y_5 (by decide) rfl rfl (by decide) i_12 (hK.2.1 (.fieldLinkNest "OpeningsCabinet" 175 "OpeningsCabinet$Position" "rights" "I" "OpeningsCabinet") (by decide +kernel)) rfl dX11_setSide_28 ?_
      refine lv_topi (fun x_6 ex_6 => ?_)
      replace hp := hp x_6 ex_6
      refine lv_istore_n (lv' := [(3, .int x_6), (0, .ref a0), (1, .int x1), (2, .int x2)]) hx hb dX11_setSide_31 rfl hl (by decide) rfl (fun ls hl => ?_)
      refine lv_aload_n hx hb dX11_setSide_32 rfl (lv_at hl 1 rfl) ?_
      obtain ⟨y_7, ey_7, hL_y_7, hK_y_7, hp⟩ := hp
      refine w_get (k := 16) (f := 2) (T := TX11) (v := .ref y_7) F hK hW hL_a0 hK_a0 (by decide) rfl rfl (by decide) i_16 k_28 (by rw [show wv 16 2 S_4 a0 = va_rf (sR S_4 a0 2) from rfl, ey_7]; rfl) dX11_setSide_33 ?_
      refine lv_iload_n hx hb dX11_setSide_36 rfl (lv_at hl 2 rfl) ?_
      obtain ⟨h_9, h_9f, hp⟩ := hp
      refine w_putIN (k := 12) (f := 5) (T := TX7) F hK hW hL_y_7 hK_y_7 (by decide) (by decide) rfl rfl (by decide) i_12 tyX7 tyX7_ok nmX7 (hK.2.1 (.fieldLinkNest "OpeningsCabinet" 183 "OpeningsCabinet$Position" "isWhite" "Z" "OpeningsCabinet") (by decide +kernel)) rfl rfl (ty := .boolean) rfl h_9 h_9f dX11_setSide_37 (fun H locs hW => ?_)
      obtain ⟨S_8, eS_8⟩ : ∃ z : wS, z = uI S_4 y_7 5 x1 := ⟨_, rfl⟩
      rw [← eS_8] at hW
      replace hp := hp S_8 eS_8
      have hX_S_8 : wX D S_4 S_8 := by rw [eS_8]; exact wX_uI
      have hE := hE.trans hX_S_8
      have hK_a0 : sK S_8 a0 = 16 := (hX_S_8.2 a0 hL_a0).1.trans hK_a0
      have hL_a0 : wM D S_8 a0 := hX_S_8.M hL_a0
      refine lv_aload_n hx hb dX11_setSide_40 rfl (lv_at hl 1 rfl) ?_
      obtain ⟨y_10, ey_10, hL_y_10, hK_y_10, hp⟩ := hp
      refine w_get (k := 16) (f := 2) (T := TX11) (v := .ref y_10) F hK hW hL_a0 hK_a0 (by decide) rfl rfl (by decide) i_16 k_28 (by rw [show wv 16 2 S_8 a0 = va_rf (sR S_8 a0 2) from rfl, ey_10]; rfl) dX11_setSide_41 ?_
      refine lv_iload_n hx hb dX11_setSide_44 rfl (lv_at hl 3 rfl) ?_
      refine w_putIN (k := 12) (f := 6) (T := TX7) F hK hW hL_y_10 hK_y_10 (by decide) (by decide) rfl rfl (by decide) i_12 tyX7 tyX7_ok nmX7 (hK.2.1 (.fieldLinkNest "OpeningsCabinet" 175 "OpeningsCabinet$Position" "rights" "I" "OpeningsCabinet") (by decide +kernel)) rfl rfl (ty := .int) rfl rfl rfl dX11_setSide_45 (fun H locs hW => ?_)
      obtain ⟨S_11, eS_11⟩ : ∃ z : wS, z = uI S_8 y_10 6 x2 := ⟨_, rfl⟩
      rw [← eS_11] at hW
      replace hp := hp S_11 eS_11
      have hX_S_11 : wX D S_8 S_11 := by rw [eS_11]; exact wX_uI
      have hE := hE.trans hX_S_11
      have hK_a0 : sK S_11 a0 = 16 := (hX_S_11.2 a0 hL_a0).1.trans hK_a0
      have hL_a0 : wM D S_11 a0 := hX_S_11.M hL_a0
      refine lv_aload_n hx hb dX11_setSide_48 rfl (lv_at hl 1 rfl) ?_
      obtain ⟨y_12, ey_12, hL_y_12, hK_y_12, hp⟩ := hp
      refine w_get (k := 16) (f := 2) (T := TX11) (v := .ref y_12) F hK hW hL_a0 hK_a0 (by decide) rfl rfl (by decide) i_16 k_28 (by rw [show wv 16 2 S_11 a0 = va_rf (sR S_11 a0 2) from rfl, ey_12]; rfl) dX11_setSide_49 ?_
      refine lv_iconst (v := (-1)) hx hb dX11_setSide_52 (by decide) ?_
      refine w_putIN (k := 12) (f := 7) (T := TX7) F hK hW hL_y_12 hK_y_12 (by decide) (by decide) rfl rfl (by decide) i_12 tyX7 tyX7_ok nmX7 (hK.2.1 (.fieldLinkNest "OpeningsCabinet" 178 "OpeningsCabinet$Position" "passing" "I" "OpeningsCabinet") (by decide +kernel)) rfl rfl (ty := .int) rfl rfl rfl dX11_setSide_53 (fun H locs hW => ?_)
      obtain ⟨S_13, eS_13⟩ : ∃ z : wS, z = uI S_11 y_12 7 (-1 : Int32) := ⟨_, rfl⟩
      rw [← eS_13] at hW
      replace hp := hp S_13 eS_13
      have hX_S_13 : wX D S_11 S_13 := by rw [eS_13]; exact wX_uI
      have hE := hE.trans hX_S_13
      have hK_a0 : sK S_13 a0 = 16 := (hX_S_13.2 a0 hL_a0).1.trans hK_a0
      have hL_a0 : wM D S_13 a0 := hX_S_13.M hL_a0
      refine lv_aload_n hx hb dX11_setSide_56 rfl (lv_at hl 1 rfl) ?_
      obtain ⟨y_14, ey_14, hL_y_14, hK_y_14, hp⟩ := hp
      refine w_get (k := 16) (f := 4) (T := TX11) (v := .ref y_14) F hK hW hL_a0 hK_a0 (by decide) rfl rfl (by decide) i_16 k_40 (by rw [show wv 16 4 S_13 a0 = va_rf (sR S_13 a0 4) from rfl, ey_14]; rfl) dX11_setSide_57 ?_
      refine lv_aload_n hx hb dX11_setSide_60 rfl (lv_at hl 1 rfl) ?_
      obtain ⟨y_15, ey_15, hL_y_15, hK_y_15, hp⟩ := hp
      refine w_get (k := 16) (f := 2) (T := TX11) (v := .ref y_15) F hK hW hL_a0 hK_a0 (by decide) rfl rfl (by decide) i_16 k_28 (by rw [show wv 16 2 S_13 a0 = va_rf (sR S_13 a0 2) from rfl, ey_15]; rfl) dX11_setSide_61 ?_
      refine w_callV (va_runV (As := [.ref y_15]) (rest := []) F (c_X3_begin l hL_y_14 hK_y_14 hL_y_15 hK_y_15 hp H.size) (cwV (C := RX3) 1 hts (wg_V wm_RX11_130 wy_X3_begin) rfl rfl rfl (by decide +kernel) ⟨Nat.le_of_ble_eq_true rfl, Nat.le_of_ble_eq_true rfl⟩) (w_preV hK hW hL_y_14 hK_y_14 (by decide) rfl) rfl rfl hl.1 rfl (lv_room (Nat.le_of_ble_eq_true rfl)) dX11_setSide_64 ⟨Nat.le_of_ble_eq_true rfl, Nat.le_of_ble_eq_true rfl⟩) hW (fun S_17 H locs hp hW => ?_)
      obtain ⟨hX_S_17, hp⟩ := hp
      refine W.widen (k := 1) (n := 6) (by decide) (by decide) ?_
      have hE := hE.trans hX_S_17
      have hK_a0 : sK S_17 a0 = 16 := (hX_S_17.2 a0 hL_a0).1.trans hK_a0
      have hL_a0 : wM D S_17 a0 := hX_S_17.M hL_a0
      refine lv_iload_n hx hb dX11_setSide_67 rfl (lv_at hl 0 rfl) ?_
      refine vx_ret ?_
      exact w_iret hx hb hr hlocks hW ⟨hE, hp⟩ dX11_setSide_68
    · replace hp := hp.2 c_2
      exact t_X11_setSide_10 F hr hlocks hK hl0 hexc hp hW hE (lv_sub hl [] rfl)
set_option maxHeartbeats 4000000 in
set_option maxRecDepth 100000 in
theorem c_X11_setSide (l : Launch) {D : wD} {cy : Nat → ClassId} {X : va_W} {S0 : wS} {post : Int32 → wS → Prop} {xp : String → wS → Prop} (hl0 : l.stackTraces = false) {a0 : Nat} {x1 : Int32} {x2 : Int32} (hL_a0 : wM D S0 a0) (hK_a0 : sK S0 a0 = 16) (hp : wp_X11_setSide D post xp S0 a0 x1 x2) : xI D cy X l yX11_setSide wz_X11_setSide r_X11_setSide [.ref a0, .int x1, .int x2] S0 (fun r S9 => wX D S0 S9 ∧ post r S9) (fun E S9 => wX D S0 S9 ∧ xp E S9) := by
  intro sz
  refine vx_ofW (cc := cX11_setSide) (maxL := 4) (ret := (some .int)) (by decide) rfl ?_
  intro p e s m args below meth c s₁ B hml hexc hv
  obtain ⟨rfl, hsz, hP, hK, hD0, hRO⟩ := hv
  have hts := atoms_spec (ws := wz_X11_setSide) B.pre
  have hown : s.vm.findClass RX11 = some m.cls := findClass_of_methodNamed B.named
  subst hsz
  have hD := hD0.self (sz := s.heap.size)
  have F : CallFix p m c cX11_setSide 4 s _ wz_X11_setSide RX11 := ⟨B.exec, B.bytes, hml, hown, hts⟩
  have hr := B.returns
  have hlocks := B.notSynchronized
  generalize hAe : va_A (wL cy X S0) s.heap.size = A at hD hK ⊢
  have hA : ∀ q, s.heap.size ≤ q → A q := fun q h => by rw [← hAe]; exact Or.inr h
  have hW : wO D cy X A s.heap S0 s.heap [] := ⟨hP, hD, va_S.rf, hA, hRO⟩
  have hl := lv_entry ([.ref a0, .int x1, .int x2]) (n := 4) (Nat.le_of_ble_eq_true rfl)
  rw [lg_entry_eq]
  generalize (lg_sl ([.ref a0, .int x1, .int x2]) ++ List.replicate (4 - (lg_sl ([.ref a0, .int x1, .int x2])).length) Slot.unset).toArray = ls at hl ⊢
  have hl : lv_has ls 4 [(0, .ref a0), (1, .int x1), (2, .int x2)] := hl
  unfold wp_X11_setSide at hp
  exact t_X11_setSide_0 F hr hlocks hK hl0 hexc hp hW wX.rf (lv_sub hl [0, 1, 2] rfl) hL_a0 hK_a0
def wp_X2_winsOf_27 (D : wD) (post : Int32 → wS → Prop)  (S : wS) (t0 : Int32) : Prop :=
post t0 S
def wp_X2_winsOf_26 (D : wD) (post : Int32 → wS → Prop)  (S : wS) : Prop :=
wp_X2_winsOf_27 D post S (0 : Int32)
def wp_X2_winsOf_0 (D : wD) (post : Int32 → wS → Prop)  (S : wS) (a0 : Nat) (x1 : Int32) : Prop :=
wp_X2_isWorkedOut D (fun r_1 S_2 => 
((r_1 = 0 → wp_X2_winsOf_26 D post S_2) ∧
 (¬ r_1 = 0 → ∃ y_4 : Nat, sR S_2 a0 2 = some y_4 ∧ wM D S_2 y_4 ∧ sK S_2 y_4 = 21 ∧
(((Int32.ofNat (sN S_2 y_4)) ≤ x1 → wp_X2_winsOf_26 D post S_2) ∧
 (¬ (Int32.ofNat (sN S_2 y_4)) ≤ x1 → ∃ y_6 : Nat, sR S_2 a0 2 = some y_6 ∧ wM D S_2 y_6 ∧ sK S_2 y_6 = 21 ∧
vp_in x1 (sN S_2 y_6) ∧
wp_X2_winsOf_27 D post S_2 (sI S_2 y_6 (x1).toNatClampNeg)))))) S a0 x1
abbrev r_X2_winsOf : Room := { frames := 1, cells := 0, slots := 0, locals := 21 }
def wp_X2_winsOf (D : wD) (post : Int32 → wS → Prop) (S : wS) (a0 : Nat) (x1 : Int32) : Prop := wp_X2_winsOf_0 D post S a0 x1
set_option maxHeartbeats 4000000 in
set_option maxRecDepth 100000 in
theorem t_X2_winsOf_27 {p : Program} {l : Launch} {e : Env} {s : State} {m : MethodId} {args : Array Value} {below : List Frame} {meth : Method} {c : Code} {D : wD} {cy : Nat → ClassId} {X : va_W} {A : Nat → Prop} {S0 : wS} {post : Int32 → wS → Prop} (F : CallFix p m c cX2_winsOf 2 s args wz_X2_winsOf RX2) (hr : meth.sig.returnType = (some .int)) (hlocks : meth.locks = false) (hK : wK D cy A s) : ∀ {S : wS} {H : Heap} {locs : List Loc} {ls : Array Slot} {t0 : Int32}, wp_X2_winsOf_27 D post S t0 → wO D cy X A s.heap S H locs → wX D S0 S → lv_has ls 2 [] → W p l e r_X2_winsOf s m args below meth c H locs 0 0 (MQ below (va_Qi (fun r S9 => wX D S0 S9 ∧ post r S9) (wB D cy X A) A) args s 0 0 A) (F0 m 27 ls [.int t0]) := by
  obtain ⟨hx, hb, hml, hown, hts⟩ := id F
  have hwg : ∀ w ∈ WG, w.before args s = true := fun w h => hts w (List.mem_cons_of_mem _ h)
  intro S H locs ls t0 hp hW hE hl
  unfold wp_X2_winsOf_27 at hp
  exact w_iret hx hb hr hlocks hW ⟨hE, hp⟩ dX2_winsOf_27
set_option maxHeartbeats 4000000 in
set_option maxRecDepth 100000 in
theorem t_X2_winsOf_26 {p : Program} {l : Launch} {e : Env} {s : State} {m : MethodId} {args : Array Value} {below : List Frame} {meth : Method} {c : Code} {D : wD} {cy : Nat → ClassId} {X : va_W} {A : Nat → Prop} {S0 : wS} {post : Int32 → wS → Prop} (F : CallFix p m c cX2_winsOf 2 s args wz_X2_winsOf RX2) (hr : meth.sig.returnType = (some .int)) (hlocks : meth.locks = false) (hK : wK D cy A s) : ∀ {S : wS} {H : Heap} {locs : List Loc} {ls : Array Slot}, wp_X2_winsOf_26 D post S → wO D cy X A s.heap S H locs → wX D S0 S → lv_has ls 2 [] → W p l e r_X2_winsOf s m args below meth c H locs 0 0 (MQ below (va_Qi (fun r S9 => wX D S0 S9 ∧ post r S9) (wB D cy X A) A) args s 0 0 A) (F0 m 26 ls []) := by
  obtain ⟨hx, hb, hml, hown, hts⟩ := id F
  have hwg : ∀ w ∈ WG, w.before args s = true := fun w h => hts w (List.mem_cons_of_mem _ h)
  intro S H locs ls hp hW hE hl
  unfold wp_X2_winsOf_26 at hp
  refine lv_iconst (v := 0) hx hb dX2_winsOf_26 (by decide) ?_
  exact t_X2_winsOf_27 F hr hlocks hK hp hW hE (lv_sub hl [] rfl)
set_option maxHeartbeats 4000000 in
set_option maxRecDepth 100000 in
theorem t_X2_winsOf_0 {p : Program} {l : Launch} {e : Env} {s : State} {m : MethodId} {args : Array Value} {below : List Frame} {meth : Method} {c : Code} {D : wD} {cy : Nat → ClassId} {X : va_W} {A : Nat → Prop} {S0 : wS} {post : Int32 → wS → Prop} (F : CallFix p m c cX2_winsOf 2 s args wz_X2_winsOf RX2) (hr : meth.sig.returnType = (some .int)) (hlocks : meth.locks = false) (hK : wK D cy A s) : ∀ {S : wS} {H : Heap} {locs : List Loc} {ls : Array Slot} {a0 : Nat} {x1 : Int32}, wp_X2_winsOf_0 D post S a0 x1 → wO D cy X A s.heap S H locs → wX D S0 S → lv_has ls 2 [(0, .ref a0), (1, .int x1)] → wM D S a0 → sK S a0 = 7 → W p l e r_X2_winsOf s m args below meth c H locs 0 0 (MQ below (va_Qi (fun r S9 => wX D S0 S9 ∧ post r S9) (wB D cy X A) A) args s 0 0 A) (F0 m 0 ls []) := by
  obtain ⟨hx, hb, hml, hown, hts⟩ := id F
  have hwg : ∀ w ∈ WG, w.before args s = true := fun w h => hts w (List.mem_cons_of_mem _ h)
  have i_7 : ∀ w ∈ u_ws RX2 TX2 8, w ∈ wz_X2_winsOf := fun w h => List.mem_cons_of_mem _ (wu_7 w h)
  have k_15 := hwg _ wf_RX2_15
  intro S H locs ls a0 x1 hp hW hE hl hL_a0 hK_a0
  unfold wp_X2_winsOf_0 at hp
  refine lv_aload_n hx hb dX2_winsOf_0 rfl (lv_at hl 0 rfl) ?_
  refine lv_iload_n hx hb dX2_winsOf_1 rfl (lv_at hl 1 rfl) ?_
  refine w_callI (va_runV (As := [.int x1]) (rest := []) F (c_X2_isWorkedOut l hL_a0 hK_a0 hp H.size) (cwV (C := RX2) 1 hts (wg_V wm_RX2_45 wy_X2_isWorkedOut) rfl rfl rfl (by decide +kernel) ⟨Nat.le_of_ble_eq_true rfl, Nat.le_of_ble_eq_true rfl⟩) (w_preV hK hW hL_a0 hK_a0 (by decide) rfl) rfl rfl hl.1 rfl (lv_room (Nat.le_of_ble_eq_true rfl)) dX2_winsOf_2 ⟨Nat.le_of_ble_eq_true rfl, Nat.le_of_ble_eq_true rfl⟩) hW (fun r_1 S_2 H locs hp hW => ?_)
  obtain ⟨hX_S_2, hp⟩ := hp
  refine W.widen (k := 0) (n := 0) (by decide) (by decide) ?_
  have hE := hE.trans hX_S_2
  have hK_a0 : sK S_2 a0 = 7 := (hX_S_2.2 a0 hL_a0).1.trans hK_a0
  have hL_a0 : wM D S_2 a0 := hX_S_2.M hL_a0
  refine lv_if_eq (tgt := 26) hx hb dX2_winsOf_5 (by decide) (fun c_3 => ?_) (fun c_3 => ?_)
  · replace hp := hp.1 c_3
    exact t_X2_winsOf_26 F hr hlocks hK hp hW hE (lv_sub hl [] rfl)
  · replace hp := hp.2 c_3
    refine lv_iload_n hx hb dX2_winsOf_8 rfl (lv_at hl 1 rfl) ?_
    refine lv_aload_n hx hb dX2_winsOf_9 rfl (lv_at hl 0 rfl) ?_
    obtain ⟨y_4, ey_4, hL_y_4, hK_y_4, hp⟩ := hp
    refine w_get (k := 7) (f := 2) (T := TX2) (v := .ref y_4) F hK hW hL_a0 hK_a0 (by decide) rfl rfl (by decide) i_7 k_15 (by rw [show wv 7 2 S_2 a0 = va_rf (sR S_2 a0 2) from rfl, ey_4]; rfl) dX2_winsOf_10 ?_
    refine w_len F hK hW hL_y_4 hK_y_4 (by decide) dX2_winsOf_13 ?_
    refine lv_icmp_ge (tgt := 26) hx hb dX2_winsOf_14 (by decide) (fun c_5 => ?_) (fun c_5 => ?_)
    · replace hp := hp.1 c_5
      exact t_X2_winsOf_26 F hr hlocks hK hp hW hE (lv_sub hl [] rfl)
    · replace hp := hp.2 c_5
      refine lv_aload_n hx hb dX2_winsOf_17 rfl (lv_at hl 0 rfl) ?_
      obtain ⟨y_6, ey_6, hL_y_6, hK_y_6, hp⟩ := hp
      refine w_get (k := 7) (f := 2) (T := TX2) (v := .ref y_6) F hK hW hL_a0 hK_a0 (by decide) rfl rfl (by decide) i_7 k_15 (by rw [show wv 7 2 S_2 a0 = va_rf (sR S_2 a0 2) from rfl, ey_6]; rfl) dX2_winsOf_18 ?_
      refine lv_iload_n hx hb dX2_winsOf_21 rfl (lv_at hl 1 rfl) ?_
      obtain ⟨h_7, hp⟩ := hp
      refine w_ild F hK hW hL_y_6 hK_y_6 h_7 dX2_winsOf_22 ?_
      refine lv_goto (tgt := 27) hx hb dX2_winsOf_23 (by decide) ?_
      exact t_X2_winsOf_27 F hr hlocks hK hp hW hE (lv_sub hl [] rfl)
set_option maxHeartbeats 4000000 in
set_option maxRecDepth 100000 in
theorem c_X2_winsOf (l : Launch) {D : wD} {cy : Nat → ClassId} {X : va_W} {S0 : wS} {post : Int32 → wS → Prop} {a0 : Nat} {x1 : Int32} (hL_a0 : wM D S0 a0) (hK_a0 : sK S0 a0 = 7) (hp : wp_X2_winsOf D post S0 a0 x1) : mI D cy X l yX2_winsOf wz_X2_winsOf r_X2_winsOf [.ref a0, .int x1] S0 (fun r S9 => wX D S0 S9 ∧ post r S9) := by
  intro sz
  refine Met.ofW (cc := cX2_winsOf) (maxL := 2) (ret := (some .int)) (by decide) rfl ?_
  intro p e s m args below meth c s₁ B hml hv
  obtain ⟨rfl, hsz, hP, hK, hD0, hRO⟩ := hv
  have hts := atoms_spec (ws := wz_X2_winsOf) B.pre
  have hown : s.vm.findClass RX2 = some m.cls := findClass_of_methodNamed B.named
  subst hsz
  have hD := hD0.self (sz := s.heap.size)
  have F : CallFix p m c cX2_winsOf 2 s _ wz_X2_winsOf RX2 := ⟨B.exec, B.bytes, hml, hown, hts⟩
  have hr := B.returns
  have hlocks := B.notSynchronized
  generalize hAe : va_A (wL cy X S0) s.heap.size = A at hD hK ⊢
  have hA : ∀ q, s.heap.size ≤ q → A q := fun q h => by rw [← hAe]; exact Or.inr h
  have hW : wO D cy X A s.heap S0 s.heap [] := ⟨hP, hD, va_S.rf, hA, hRO⟩
  have hl := lv_entry ([.ref a0, .int x1]) (n := 2) (Nat.le_of_ble_eq_true rfl)
  rw [lg_entry_eq]
  generalize (lg_sl ([.ref a0, .int x1]) ++ List.replicate (2 - (lg_sl ([.ref a0, .int x1])).length) Slot.unset).toArray = ls at hl ⊢
  have hl : lv_has ls 2 [(0, .ref a0), (1, .int x1)] := hl
  unfold wp_X2_winsOf at hp
  exact t_X2_winsOf_0 F hr hlocks hK hp hW wX.rf (lv_sub hl [0, 1] rfl) hL_a0 hK_a0
def wp_X2_isChecking_0 (D : wD) (post : Int32 → wS → Prop)  (S : wS) (a0 : Nat) (x1 : Int32) (x2 : Int32) (x3 : Int32) (x4 : Int32) : Prop :=
∃ y_1 : Nat, sR S a0 0 = some y_1 ∧ wM D S y_1 ∧ sK S y_1 = 5 ∧
wp_X0_reach D (fun r_2 S_3 => 
wp_X11_contains D (fun r_4 S_5 => 
narrow .boolean (.int r_4) = .int r_4 ∧ post r_4 S_5) S_3 r_2 x3) S y_1 x1 x4 ((jlshl (1 : Int64) x2) ||| (jlshl (1 : Int64) x3))
abbrev r_X2_isChecking : Room := { frames := 2, cells := 0, slots := 0, locals := 56 }
def wp_X2_isChecking (D : wD) (post : Int32 → wS → Prop) (S : wS) (a0 : Nat) (x1 : Int32) (x2 : Int32) (x3 : Int32) (x4 : Int32) : Prop := wp_X2_isChecking_0 D post S a0 x1 x2 x3 x4
set_option maxHeartbeats 4000000 in
set_option maxRecDepth 100000 in
theorem t_X2_isChecking_0 {p : Program} {l : Launch} {e : Env} {s : State} {m : MethodId} {args : Array Value} {below : List Frame} {meth : Method} {c : Code} {D : wD} {cy : Nat → ClassId} {X : va_W} {A : Nat → Prop} {S0 : wS} {post : Int32 → wS → Prop} (F : CallFix p m c cX2_isChecking 5 s args wz_X2_isChecking RX2) (hr : meth.sig.returnType = (some .boolean)) (hlocks : meth.locks = false) (hK : wK D cy A s) : ∀ {S : wS} {H : Heap} {locs : List Loc} {ls : Array Slot} {a0 : Nat} {x1 : Int32} {x2 : Int32} {x3 : Int32} {x4 : Int32}, wp_X2_isChecking_0 D post S a0 x1 x2 x3 x4 → wO D cy X A s.heap S H locs → wX D S0 S → lv_has ls 5 [(0, .ref a0), (1, .int x1), (2, .int x2), (3, .int x3), (4, .int x4)] → wM D S a0 → sK S a0 = 7 → W p l e r_X2_isChecking s m args below meth c H locs 0 0 (MQ below (va_Qi (fun r S9 => wX D S0 S9 ∧ post r S9) (wB D cy X A) A) args s 0 0 A) (F0 m 0 ls []) := by
  obtain ⟨hx, hb, hml, hown, hts⟩ := id F
  have hwg : ∀ w ∈ WG, w.before args s = true := fun w h => hts w (List.mem_cons_of_mem _ h)
  have i_7 : ∀ w ∈ u_ws RX2 TX2 8, w ∈ wz_X2_isChecking := fun w h => List.mem_cons_of_mem _ (wu_7 w h)
  have k_35 := hwg _ wf_RX2_35
  intro S H locs ls a0 x1 x2 x3 x4 hp hW hE hl hL_a0 hK_a0
  unfold wp_X2_isChecking_0 at hp
  refine lv_aload_n hx hb dX2_isChecking_0 rfl (lv_at hl 0 rfl) ?_
  obtain ⟨y_1, ey_1, hL_y_1, hK_y_1, hp⟩ := hp
  refine w_get (k := 7) (f := 0) (T := TX2) (v := .ref y_1) F hK hW hL_a0 hK_a0 (by decide) rfl rfl (by decide) i_7 k_35 (by rw [show wv 7 0 S a0 = va_rf (sR S a0 0) from rfl, ey_1]; rfl) dX2_isChecking_1 ?_
  refine lv_iload_n hx hb dX2_isChecking_4 rfl (lv_at hl 1 rfl) ?_
  refine lv_iload hx hb dX2_isChecking_5 (lv_at hl 4 rfl) ?_
  refine lv_lconst (v := 1) hx hb dX2_isChecking_7 (by decide) ?_
  refine lv_iload_n hx hb dX2_isChecking_8 rfl (lv_at hl 2 rfl) ?_
  refine lv_lshl (v := (jlshl (1 : Int64) x2)) hx hb dX2_isChecking_9 rfl ?_
  refine lv_lconst (v := 1) hx hb dX2_isChecking_10 (by decide) ?_
  refine lv_iload_n hx hb dX2_isChecking_11 rfl (lv_at hl 3 rfl) ?_
  refine lv_lshl (v := (jlshl (1 : Int64) x3)) hx hb dX2_isChecking_12 rfl ?_
  refine lv_lor hx hb dX2_isChecking_13 ?_
  refine w_callJ (va_runV (As := [.int x1, .int x4, .long ((jlshl (1 : Int64) x2) ||| (jlshl (1 : Int64) x3))]) (rest := []) F (c_X0_reach l hL_y_1 hK_y_1 hp H.size) (cwV (C := RX0) 3 hts (wg_V wm_RX2_130 wy_X0_reach) rfl rfl rfl (by decide +kernel) ⟨Nat.le_of_ble_eq_true rfl, Nat.le_of_ble_eq_true rfl⟩) (w_preV hK hW hL_y_1 hK_y_1 (by decide) rfl) rfl rfl hl.1 rfl (lv_room (Nat.le_of_ble_eq_true rfl)) dX2_isChecking_14 ⟨Nat.le_of_ble_eq_true rfl, Nat.le_of_ble_eq_true rfl⟩) hW (fun r_2 S_3 H locs hp hW => ?_)
  obtain ⟨hX_S_3, hp⟩ := hp
  refine W.widen (k := 0) (n := 0) (by decide) (by decide) ?_
  have hE := hE.trans hX_S_3
  have hK_a0 : sK S_3 a0 = 7 := (hX_S_3.2 a0 hL_a0).1.trans hK_a0
  have hL_a0 : wM D S_3 a0 := hX_S_3.M hL_a0
  refine lv_iload_n hx hb dX2_isChecking_17 rfl (lv_at hl 3 rfl) ?_
  refine w_callI (va_runSN (As := [.long r_2, .int x3]) (rest := []) F (c_X11_contains l hp H.size) ⟨va_cnB (host := "OpeningsCabinet") 2 hts (wg_cons wy_X11_contains.2.2) rfl rfl rfl (hK.2.1 (.methodLinkNest "OpeningsCabinet$Endings" 134 ⟨"OpeningsCabinet", "contains", "(JI)Z"⟩ "OpeningsCabinet") (by decide +kernel)) (hwg _ wy_X11_contains.2.1) ⟨by decide, by decide, by decide +kernel⟩ ⟨Nat.le_of_ble_eq_true rfl, Nat.le_of_ble_eq_true rfl⟩, hwg _ wy_X11_contains.1, trivial⟩ (w_preS hK hW) rfl rfl hl.1 rfl (lv_room (Nat.le_of_ble_eq_true rfl)) dX2_isChecking_18 ⟨Nat.le_of_ble_eq_true rfl, Nat.le_of_ble_eq_true rfl⟩) hW (fun r_4 S_5 H locs hp hW => ?_)
  obtain ⟨hX_S_5, hp⟩ := hp
  refine W.widen (k := 0) (n := 0) (by decide) (by decide) ?_
  have hE := hE.trans hX_S_5
  have hK_a0 : sK S_5 a0 = 7 := (hX_S_5.2 a0 hL_a0).1.trans hK_a0
  have hL_a0 : wM D S_5 a0 := hX_S_5.M hL_a0
  exact w_zret hx hb hr hlocks hW hp.1 ⟨hE, hp.2⟩ dX2_isChecking_21
set_option maxHeartbeats 4000000 in
set_option maxRecDepth 100000 in
theorem c_X2_isChecking (l : Launch) {D : wD} {cy : Nat → ClassId} {X : va_W} {S0 : wS} {post : Int32 → wS → Prop} {a0 : Nat} {x1 : Int32} {x2 : Int32} {x3 : Int32} {x4 : Int32} (hL_a0 : wM D S0 a0) (hK_a0 : sK S0 a0 = 7) (hp : wp_X2_isChecking D post S0 a0 x1 x2 x3 x4) : mI D cy X l yX2_isChecking wz_X2_isChecking r_X2_isChecking [.ref a0, .int x1, .int x2, .int x3, .int x4] S0 (fun r S9 => wX D S0 S9 ∧ post r S9) := by
  intro sz
  refine Met.ofW (cc := cX2_isChecking) (maxL := 5) (ret := (some .boolean)) (by decide) rfl ?_
  intro p e s m args below meth c s₁ B hml hv
  obtain ⟨rfl, hsz, hP, hK, hD0, hRO⟩ := hv
  have hts := atoms_spec (ws := wz_X2_isChecking) B.pre
  have hown : s.vm.findClass RX2 = some m.cls := findClass_of_methodNamed B.named
  subst hsz
  have hD := hD0.self (sz := s.heap.size)
  have F : CallFix p m c cX2_isChecking 5 s _ wz_X2_isChecking RX2 := ⟨B.exec, B.bytes, hml, hown, hts⟩
  have hr := B.returns
  have hlocks := B.notSynchronized
  generalize hAe : va_A (wL cy X S0) s.heap.size = A at hD hK ⊢
  have hA : ∀ q, s.heap.size ≤ q → A q := fun q h => by rw [← hAe]; exact Or.inr h
  have hW : wO D cy X A s.heap S0 s.heap [] := ⟨hP, hD, va_S.rf, hA, hRO⟩
  have hl := lv_entry ([.ref a0, .int x1, .int x2, .int x3, .int x4]) (n := 5) (Nat.le_of_ble_eq_true rfl)
  rw [lg_entry_eq]
  generalize (lg_sl ([.ref a0, .int x1, .int x2, .int x3, .int x4]) ++ List.replicate (5 - (lg_sl ([.ref a0, .int x1, .int x2, .int x3, .int x4])).length) Slot.unset).toArray = ls at hl ⊢
  have hl : lv_has ls 5 [(0, .ref a0), (1, .int x1), (2, .int x2), (3, .int x3), (4, .int x4)] := hl
  unfold wp_X2_isChecking at hp
  exact t_X2_isChecking_0 F hr hlocks hK hp hW wX.rf (lv_sub hl [0, 1, 2, 3, 4] rfl) hL_a0 hK_a0
def wp_X2_setValue_45 (D : wD) (post : wS → Prop)  (S : wS) : Prop :=
post S
def wp_X2_setValue_0 (D : wD) (post : wS → Prop)  (S : wS) (a0 : Nat) (x1 : Int32) (x2 : Int32) (x3 : Int32) : Prop :=
∀ x_1 : Int32, x_1 = (((x1 - (2 : Int32)) * (31250 : Int32)) + x2) →
((x2 < 0 → wp_X2_setValue_45 D post S) ∧
 (¬ x2 < 0 → (((31250 : Int32) ≤ x2 → wp_X2_setValue_45 D post S) ∧
 (¬ (31250 : Int32) ≤ x2 → ((x_1 < 0 → wp_X2_setValue_45 D post S) ∧
 (¬ x_1 < 0 → ∃ y_5 : Nat, sR S a0 4 = some y_5 ∧ wM D S y_5 ∧ sK S y_5 = 21 ∧
(((Int32.ofNat (sN S y_5)) ≤ x_1 → wp_X2_setValue_45 D post S) ∧
 (¬ (Int32.ofNat (sN S y_5)) ≤ x_1 → ∃ y_7 : Nat, sR S a0 4 = some y_7 ∧ wM D S y_7 ∧ sK S y_7 = 21 ∧
y_7 ∈ sL S ∧ vp_in x_1 (sN S y_7) ∧
∀ S_9 : wS, S_9 = uI S y_7 (x_1).toNatClampNeg x3 →
wp_X2_setValue_45 D post S_9))))))))
abbrev r_X2_setValue : Room := { frames := 0, cells := 0, slots := 0, locals := 0 }
def wp_X2_setValue (D : wD) (post : wS → Prop) (S : wS) (a0 : Nat) (x1 : Int32) (x2 : Int32) (x3 : Int32) : Prop := wp_X2_setValue_0 D post S a0 x1 x2 x3
set_option maxHeartbeats 4000000 in
set_option maxRecDepth 100000 in
theorem t_X2_setValue_45 {p : Program} {l : Launch} {e : Env} {s : State} {m : MethodId} {args : Array Value} {below : List Frame} {meth : Method} {c : Code} {D : wD} {cy : Nat → ClassId} {X : va_W} {A : Nat → Prop} {S0 : wS} {post : wS → Prop} (F : CallFix p m c cX2_setValue 5 s args wz_X2_setValue RX2) (hr : meth.sig.returnType = none) (hlocks : meth.locks = false) (hK : wK D cy A s) : ∀ {S : wS} {H : Heap} {locs : List Loc} {ls : Array Slot}, wp_X2_setValue_45 D post S → wO D cy X A s.heap S H locs → wX D S0 S → lv_has ls 5 [] → W p l e r_X2_setValue s m args below meth c H locs 0 0 (MQ below (va_Qv (fun S9 => wX D S0 S9 ∧ post S9) (wB D cy X A) A) args s 0 0 A) (F0 m 45 ls []) := by
  obtain ⟨hx, hb, hml, hown, hts⟩ := id F
  have hwg : ∀ w ∈ WG, w.before args s = true := fun w h => hts w (List.mem_cons_of_mem _ h)
  intro S H locs ls hp hW hE hl
  unfold wp_X2_setValue_45 at hp
  exact w_vret hx hb hr hlocks hW ⟨hE, hp⟩ dX2_setValue_45
set_option maxHeartbeats 4000000 in
set_option maxRecDepth 100000 in
theorem t_X2_setValue_0 {p : Program} {l : Launch} {e : Env} {s : State} {m : MethodId} {args : Array Value} {below : List Frame} {meth : Method} {c : Code} {D : wD} {cy : Nat → ClassId} {X : va_W} {A : Nat → Prop} {S0 : wS} {post : wS → Prop} (F : CallFix p m c cX2_setValue 5 s args wz_X2_setValue RX2) (hr : meth.sig.returnType = none) (hlocks : meth.locks = false) (hK : wK D cy A s) : ∀ {S : wS} {H : Heap} {locs : List Loc} {ls : Array Slot} {a0 : Nat} {x1 : Int32} {x2 : Int32} {x3 : Int32}, wp_X2_setValue_0 D post S a0 x1 x2 x3 → wO D cy X A s.heap S H locs → wX D S0 S → lv_has ls 5 [(0, .ref a0), (1, .int x1), (2, .int x2), (3, .int x3)] → wM D S a0 → sK S a0 = 7 → W p l e r_X2_setValue s m args below meth c H locs 0 0 (MQ below (va_Qv (fun S9 => wX D S0 S9 ∧ post S9) (wB D cy X A) A) args s 0 0 A) (F0 m 0 ls []) := by
  obtain ⟨hx, hb, hml, hown, hts⟩ := id F
  have hwg : ∀ w ∈ WG, w.before args s = true := fun w h => hts w (List.mem_cons_of_mem _ h)
  have i_7 : ∀ w ∈ u_ws RX2 TX2 8, w ∈ wz_X2_setValue := fun w h => List.mem_cons_of_mem _ (wu_7 w h)
  have k_22 := hwg _ wf_RX2_22
  intro S H locs ls a0 x1 x2 x3 hp hW hE hl hL_a0 hK_a0
  unfold wp_X2_setValue_0 at hp
  refine lv_iload_n hx hb dX2_setValue_0 rfl (lv_at hl 1 rfl) ?_
  refine lv_iconst (v := 2) hx hb dX2_setValue_1 (by decide) ?_
  refine lv_isub hx hb dX2_setValue_2 ?_
  refine lv_sipush (v := 31250) hx hb dX2_setValue_3 (by decide) ?_
  refine lv_imul hx hb dX2_setValue_6 ?_
  refine lv_iload_n hx hb dX2_setValue_7 rfl (lv_at hl 2 rfl) ?_
  refine lv_iadd hx hb dX2_setValue_8 ?_
  refine lv_topi (fun x_1 ex_1 => ?_)
  replace hp := hp x_1 ex_1
  refine lv_istore (lv' := [(4, .int x_1), (0, .ref a0), (1, .int x1), (2, .int x2), (3, .int x3)]) hx hb dX2_setValue_9 hl (by decide) rfl (fun ls hl => ?_)
  refine lv_iload_n hx hb dX2_setValue_11 rfl (lv_at hl 3 rfl) ?_
  refine lv_if_lt (tgt := 45) hx hb dX2_setValue_12 (by decide) (fun c_2 => ?_) (fun c_2 => ?_)
  · replace hp := hp.1 c_2
    exact t_X2_setValue_45 F hr hlocks hK hp hW hE (lv_sub hl [] rfl)
  · replace hp := hp.2 c_2
    refine lv_iload_n hx hb dX2_setValue_15 rfl (lv_at hl 3 rfl) ?_
    refine lv_sipush (v := 31250) hx hb dX2_setValue_16 (by decide) ?_
    refine lv_icmp_ge (tgt := 45) hx hb dX2_setValue_19 (by decide) (fun c_3 => ?_) (fun c_3 => ?_)
    · replace hp := hp.1 c_3
      exact t_X2_setValue_45 F hr hlocks hK hp hW hE (lv_sub hl [] rfl)
    · replace hp := hp.2 c_3
      refine lv_iload hx hb dX2_setValue_22 (lv_at hl 0 rfl) ?_
      refine lv_if_lt (tgt := 45) hx hb dX2_setValue_24 (by decide) (fun c_4 => ?_) (fun c_4 => ?_)
      · replace hp := hp.1 c_4
        exact t_X2_setValue_45 F hr hlocks hK hp hW hE (lv_sub hl [] rfl)
      · replace hp := hp.2 c_4
        refine lv_iload hx hb dX2_setValue_27 (lv_at hl 0 rfl) ?_
        refine lv_aload_n hx hb dX2_setValue_29 rfl (lv_at hl 1 rfl) ?_
        obtain ⟨y_5, ey_5, hL_y_5, hK_y_5, hp⟩ := hp
        refine w_get (k := 7) (f := 4) (T := TX2) (v := .ref y_5) F hK hW hL_a0 hK_a0 (by decide) rfl rfl (by decide) i_7 k_22 (by rw [show wv 7 4 S a0 = va_rf (sR S a0 4) from rfl, ey_5]; rfl) dX2_setValue_30 ?_
        refine w_len F hK hW hL_y_5 hK_y_5 (by decide) dX2_setValue_33 ?_
        refine lv_icmp_ge (tgt := 45) hx hb dX2_setValue_34 (by decide) (fun c_6 => ?_) (fun c_6 => ?_)
        · replace hp := hp.1 c_6
          exact t_X2_setValue_45 F hr hlocks hK hp hW hE (lv_sub hl [] rfl)
        · replace hp := hp.2 c_6
          refine lv_aload_n hx hb dX2_setValue_37 rfl (lv_at hl 1 rfl) ?_
          obtain ⟨y_7, ey_7, hL_y_7, hK_y_7, hp⟩ := hp
          refine w_get (k := 7) (f := 4) (T := TX2) (v := .ref y_7) F hK hW hL_a0 hK_a0 (by decide) rfl rfl (by decide) i_7 k_22 (by rw [show wv 7 4 S a0 = va_rf (sR S a0 4) from rfl, ey_7]; rfl) dX2_setValue_38 ?_
          refine lv_iload hx hb dX2_setValue_41 (lv_at hl 0 rfl) ?_
          refine lv_iload_n hx hb dX2_setValue_43 rfl (lv_at hl 4 rfl) ?_
          obtain ⟨h_8m, h_8, hp⟩ := hp
          refine w_ist F hK hW h_8m hK_y_7 h_8 dX2_setValue_44 (fun H locs hW => ?_)
          obtain ⟨S_9, eS_9⟩ : ∃ z : wS, z = uI S y_7 (x_1).toNatClampNeg x3 := ⟨_, rfl⟩
          rw [← eS_9] at hW
          replace hp := hp S_9 eS_9
          have hX_S_9 : wX D S S_9 := by rw [eS_9]; exact wX_uI
          have hE := hE.trans hX_S_9
          have hK_a0 : sK S_9 a0 = 7 := (hX_S_9.2 a0 hL_a0).1.trans hK_a0
          have hL_a0 : wM D S_9 a0 := hX_S_9.M hL_a0
          exact t_X2_setValue_45 F hr hlocks hK hp hW hE (lv_sub hl [] rfl)
set_option maxHeartbeats 4000000 in
set_option maxRecDepth 100000 in
theorem c_X2_setValue (l : Launch) {D : wD} {cy : Nat → ClassId} {X : va_W} {S0 : wS} {post : wS → Prop} {a0 : Nat} {x1 : Int32} {x2 : Int32} {x3 : Int32} (hL_a0 : wM D S0 a0) (hK_a0 : sK S0 a0 = 7) (hp : wp_X2_setValue D post S0 a0 x1 x2 x3) : mV D cy X l yX2_setValue wz_X2_setValue r_X2_setValue [.ref a0, .int x1, .int x2, .int x3] S0 (fun S9 => wX D S0 S9 ∧ post S9) := by
  intro sz
  refine Met.ofW (cc := cX2_setValue) (maxL := 5) (ret := none) (by decide) rfl ?_
  intro p e s m args below meth c s₁ B hml hv
  obtain ⟨rfl, hsz, hP, hK, hD0, hRO⟩ := hv
  have hts := atoms_spec (ws := wz_X2_setValue) B.pre
  have hown : s.vm.findClass RX2 = some m.cls := findClass_of_methodNamed B.named
  subst hsz
  have hD := hD0.self (sz := s.heap.size)
  have F : CallFix p m c cX2_setValue 5 s _ wz_X2_setValue RX2 := ⟨B.exec, B.bytes, hml, hown, hts⟩
  have hr := B.returns
  have hlocks := B.notSynchronized
  generalize hAe : va_A (wL cy X S0) s.heap.size = A at hD hK ⊢
  have hA : ∀ q, s.heap.size ≤ q → A q := fun q h => by rw [← hAe]; exact Or.inr h
  have hW : wO D cy X A s.heap S0 s.heap [] := ⟨hP, hD, va_S.rf, hA, hRO⟩
  have hl := lv_entry ([.ref a0, .int x1, .int x2, .int x3]) (n := 5) (Nat.le_of_ble_eq_true rfl)
  rw [lg_entry_eq]
  generalize (lg_sl ([.ref a0, .int x1, .int x2, .int x3]) ++ List.replicate (5 - (lg_sl ([.ref a0, .int x1, .int x2, .int x3])).length) Slot.unset).toArray = ls at hl ⊢
  have hl : lv_has ls 5 [(0, .ref a0), (1, .int x1), (2, .int x2), (3, .int x3)] := hl
  unfold wp_X2_setValue at hp
  exact t_X2_setValue_0 F hr hlocks hK hp hW wX.rf (lv_sub hl [0, 1, 2, 3] rfl) hL_a0 hK_a0
def wp_X2_win_46 (D : wD) (post : wS → Prop)  (S : wS) : Prop :=
post S
def wp_X2_win_0 (D : wD) (post : wS → Prop)  (S : wS) (a0 : Nat) (x1 : Int32) (x2 : Int32) (x3 : Int32) : Prop :=
(((sI S a0 7) < 0 → wp_X2_win_46 D post S) ∧
 (¬ (sI S a0 7) < 0 → ∃ y_2 : Nat, sR S a0 5 = some y_2 ∧ wM D S y_2 ∧ sK S y_2 = 21 ∧
(((Int32.ofNat (sN S y_2)) ≤ (sI S a0 7) → wp_X2_win_46 D post S) ∧
 (¬ (Int32.ofNat (sN S y_2)) ≤ (sI S a0 7) → wp_X2_setValue D (fun S_5 => 
∃ y_6 : Nat, sR S_5 a0 5 = some y_6 ∧ wM D S_5 y_6 ∧ sK S_5 y_6 = 21 ∧
y_6 ∈ sL S_5 ∧ vp_in (sI S_5 a0 7) (sN S_5 y_6) ∧
∀ S_8 : wS, S_8 = uI S_5 y_6 ((sI S_5 a0 7)).toNatClampNeg x2 →
∀ S_9 : wS, S_9 = uI S_8 a0 7 ((sI S_8 a0 7) + (1 : Int32)) →
wp_X2_win_46 D post S_9) S a0 x1 x2 x3))))
abbrev r_X2_win : Room := { frames := 1, cells := 0, slots := 0, locals := 24 }
def wp_X2_win (D : wD) (post : wS → Prop) (S : wS) (a0 : Nat) (x1 : Int32) (x2 : Int32) (x3 : Int32) : Prop := wp_X2_win_0 D post S a0 x1 x2 x3
set_option maxHeartbeats 4000000 in
set_option maxRecDepth 100000 in
theorem t_X2_win_46 {p : Program} {l : Launch} {e : Env} {s : State} {m : MethodId} {args : Array Value} {below : List Frame} {meth : Method} {c : Code} {D : wD} {cy : Nat → ClassId} {X : va_W} {A : Nat → Prop} {S0 : wS} {post : wS → Prop} (F : CallFix p m c cX2_win 4 s args wz_X2_win RX2) (hr : meth.sig.returnType = none) (hlocks : meth.locks = false) (hK : wK D cy A s) : ∀ {S : wS} {H : Heap} {locs : List Loc} {ls : Array Slot}, wp_X2_win_46 D post S → wO D cy X A s.heap S H locs → wX D S0 S → lv_has ls 4 [] → W p l e r_X2_win s m args below meth c H locs 0 0 (MQ below (va_Qv (fun S9 => wX D S0 S9 ∧ post S9) (wB D cy X A) A) args s 0 0 A) (F0 m 46 ls []) := by
  obtain ⟨hx, hb, hml, hown, hts⟩ := id F
  have hwg : ∀ w ∈ WG, w.before args s = true := fun w h => hts w (List.mem_cons_of_mem _ h)
  intro S H locs ls hp hW hE hl
  unfold wp_X2_win_46 at hp
  exact w_vret hx hb hr hlocks hW ⟨hE, hp⟩ dX2_win_46
set_option maxHeartbeats 4000000 in
set_option maxRecDepth 100000 in
theorem t_X2_win_0 {p : Program} {l : Launch} {e : Env} {s : State} {m : MethodId} {args : Array Value} {below : List Frame} {meth : Method} {c : Code} {D : wD} {cy : Nat → ClassId} {X : va_W} {A : Nat → Prop} {S0 : wS} {post : wS → Prop} (F : CallFix p m c cX2_win 4 s args wz_X2_win RX2) (hr : meth.sig.returnType = none) (hlocks : meth.locks = false) (hK : wK D cy A s) : ∀ {S : wS} {H : Heap} {locs : List Loc} {ls : Array Slot} {a0 : Nat} {x1 : Int32} {x2 : Int32} {x3 : Int32}, wp_X2_win_0 D post S a0 x1 x2 x3 → wO D cy X A s.heap S H locs → wX D S0 S → lv_has ls 4 [(0, .ref a0), (1, .int x1), (2, .int x2), (3, .int x3)] → wM D S a0 → sK S a0 = 7 → W p l e r_X2_win s m args below meth c H locs 0 0 (MQ below (va_Qv (fun S9 => wX D S0 S9 ∧ post S9) (wB D cy X A) A) args s 0 0 A) (F0 m 0 ls []) := by
  obtain ⟨hx, hb, hml, hown, hts⟩ := id F
  have hwg : ∀ w ∈ WG, w.before args s = true := fun w h => hts w (List.mem_cons_of_mem _ h)
  have i_7 : ∀ w ∈ u_ws RX2 TX2 8, w ∈ wz_X2_win := fun w h => List.mem_cons_of_mem _ (wu_7 w h)
  have k_25 := hwg _ wf_RX2_25
  have k_31 := hwg _ wf_RX2_31
  intro S H locs ls a0 x1 x2 x3 hp hW hE hl hL_a0 hK_a0
  unfold wp_X2_win_0 at hp
  refine lv_aload_n hx hb dX2_win_0 rfl (lv_at hl 0 rfl) ?_
  refine w_get (k := 7) (f := 7) (T := TX2) (v := .int (sI S a0 7)) F hK hW hL_a0 hK_a0 (by decide) rfl rfl (by decide) i_7 k_31 rfl dX2_win_1 ?_
  refine lv_if_lt (tgt := 46) hx hb dX2_win_4 (by decide) (fun c_1 => ?_) (fun c_1 => ?_)
  · replace hp := hp.1 c_1
    exact t_X2_win_46 F hr hlocks hK hp hW hE (lv_sub hl [] rfl)
  · replace hp := hp.2 c_1
    refine lv_aload_n hx hb dX2_win_7 rfl (lv_at hl 0 rfl) ?_
    refine w_get (k := 7) (f := 7) (T := TX2) (v := .int (sI S a0 7)) F hK hW hL_a0 hK_a0 (by decide) rfl rfl (by decide) i_7 k_31 rfl dX2_win_8 ?_
    refine lv_aload_n hx hb dX2_win_11 rfl (lv_at hl 0 rfl) ?_
    obtain ⟨y_2, ey_2, hL_y_2, hK_y_2, hp⟩ := hp
    refine w_get (k := 7) (f := 5) (T := TX2) (v := .ref y_2) F hK hW hL_a0 hK_a0 (by decide) rfl rfl (by decide) i_7 k_25 (by rw [show wv 7 5 S a0 = va_rf (sR S a0 5) from rfl, ey_2]; rfl) dX2_win_12 ?_
    refine w_len F hK hW hL_y_2 hK_y_2 (by decide) dX2_win_15 ?_
    refine lv_icmp_ge (tgt := 46) hx hb dX2_win_16 (by decide) (fun c_3 => ?_) (fun c_3 => ?_)
    · replace hp := hp.1 c_3
      exact t_X2_win_46 F hr hlocks hK hp hW hE (lv_sub hl [] rfl)
    · replace hp := hp.2 c_3
      refine lv_aload_n hx hb dX2_win_19 rfl (lv_at hl 0 rfl) ?_
      refine lv_iload_n hx hb dX2_win_20 rfl (lv_at hl 1 rfl) ?_
      refine lv_iload_n hx hb dX2_win_21 rfl (lv_at hl 2 rfl) ?_
      refine lv_iload_n hx hb dX2_win_22 rfl (lv_at hl 3 rfl) ?_
      refine w_callV (va_runV (As := [.int x1, .int x2, .int x3]) (rest := []) F (c_X2_setValue l hL_a0 hK_a0 hp H.size) (cwV (C := RX2) 3 hts (wg_V wm_RX2_142 wy_X2_setValue) rfl rfl rfl (by decide +kernel) ⟨Nat.le_of_ble_eq_true rfl, Nat.le_of_ble_eq_true rfl⟩) (w_preV hK hW hL_a0 hK_a0 (by decide) rfl) rfl rfl hl.1 rfl (lv_room (Nat.le_of_ble_eq_true rfl)) dX2_win_23 ⟨Nat.le_of_ble_eq_true rfl, Nat.le_of_ble_eq_true rfl⟩) hW (fun S_5 H locs hp hW => ?_)
      obtain ⟨hX_S_5, hp⟩ := hp
      refine W.widen (k := 0) (n := 0) (by decide) (by decide) ?_
      have hE := hE.trans hX_S_5
      have hK_a0 : sK S_5 a0 = 7 := (hX_S_5.2 a0 hL_a0).1.trans hK_a0
      have hL_a0 : wM D S_5 a0 := hX_S_5.M hL_a0
      refine lv_aload_n hx hb dX2_win_26 rfl (lv_at hl 0 rfl) ?_
      obtain ⟨y_6, ey_6, hL_y_6, hK_y_6, hp⟩ := hp
      refine w_get (k := 7) (f := 5) (T := TX2) (v := .ref y_6) F hK hW hL_a0 hK_a0 (by decide) rfl rfl (by decide) i_7 k_25 (by rw [show wv 7 5 S_5 a0 = va_rf (sR S_5 a0 5) from rfl, ey_6]; rfl) dX2_win_27 ?_
      refine lv_aload_n hx hb dX2_win_30 rfl (lv_at hl 0 rfl) ?_
      refine w_get (k := 7) (f := 7) (T := TX2) (v := .int (sI S_5 a0 7)) F hK hW hL_a0 hK_a0 (by decide) rfl rfl (by decide) i_7 k_31 rfl dX2_win_31 ?_
      refine lv_iload_n hx hb dX2_win_34 rfl (lv_at hl 2 rfl) ?_
      obtain ⟨h_7m, h_7, hp⟩ := hp
      refine w_ist F hK hW h_7m hK_y_6 h_7 dX2_win_35 (fun H locs hW => ?_)
      obtain ⟨S_8, eS_8⟩ : ∃ z : wS, z = uI S_5 y_6 ((sI S_5 a0 7)).toNatClampNeg x2 := ⟨_, rfl⟩
      rw [← eS_8] at hW
      replace hp := hp S_8 eS_8
      have hX_S_8 : wX D S_5 S_8 := by rw [eS_8]; exact wX_uI
      have hE := hE.trans hX_S_8
      have hK_a0 : sK S_8 a0 = 7 := (hX_S_8.2 a0 hL_a0).1.trans hK_a0
      have hL_a0 : wM D S_8 a0 := hX_S_8.M hL_a0
      refine lv_aload_n hx hb dX2_win_36 rfl (lv_at hl 0 rfl) ?_
      refine lv_dup hx hb dX2_win_37 rfl ?_
      refine w_get (k := 7) (f := 7) (T := TX2) (v := .int (sI S_8 a0 7)) F hK hW hL_a0 hK_a0 (by decide) rfl rfl (by decide) i_7 k_31 rfl dX2_win_38 ?_
      refine lv_iconst (v := 1) hx hb dX2_win_41 (by decide) ?_
      refine lv_iadd hx hb dX2_win_42 ?_
      refine w_putI (k := 7) (f := 7) (T := TX2) F hK hW hL_a0 hK_a0 (by decide) (by decide) rfl rfl (by decide) i_7 tyX2 tyX2_ok nmX2 k_31 rfl rfl (ty := .int) rfl rfl rfl dX2_win_43 (fun H locs hW => ?_)
      obtain ⟨S_9, eS_9⟩ : ∃ z : wS, z = uI S_8 a0 7 ((sI S_8 a0 7) + (1 : Int32)) := ⟨_, rfl⟩
      rw [← eS_9] at hW
      replace hp := hp S_9 eS_9
      have hX_S_9 : wX D S_8 S_9 := by rw [eS_9]; exact wX_uI
      have hE := hE.trans hX_S_9
      have hK_a0 : sK S_9 a0 = 7 := (hX_S_9.2 a0 hL_a0).1.trans hK_a0
      have hL_a0 : wM D S_9 a0 := hX_S_9.M hL_a0
      exact t_X2_win_46 F hr hlocks hK hp hW hE (lv_sub hl [] rfl)
set_option maxHeartbeats 4000000 in
set_option maxRecDepth 100000 in
theorem c_X2_win (l : Launch) {D : wD} {cy : Nat → ClassId} {X : va_W} {S0 : wS} {post : wS → Prop} {a0 : Nat} {x1 : Int32} {x2 : Int32} {x3 : Int32} (hL_a0 : wM D S0 a0) (hK_a0 : sK S0 a0 = 7) (hp : wp_X2_win D post S0 a0 x1 x2 x3) : mV D cy X l yX2_win wz_X2_win r_X2_win [.ref a0, .int x1, .int x2, .int x3] S0 (fun S9 => wX D S0 S9 ∧ post S9) := by
  intro sz
  refine Met.ofW (cc := cX2_win) (maxL := 4) (ret := none) (by decide) rfl ?_
  intro p e s m args below meth c s₁ B hml hv
  obtain ⟨rfl, hsz, hP, hK, hD0, hRO⟩ := hv
  have hts := atoms_spec (ws := wz_X2_win) B.pre
  have hown : s.vm.findClass RX2 = some m.cls := findClass_of_methodNamed B.named
  subst hsz
  have hD := hD0.self (sz := s.heap.size)
  have F : CallFix p m c cX2_win 4 s _ wz_X2_win RX2 := ⟨B.exec, B.bytes, hml, hown, hts⟩
  have hr := B.returns
  have hlocks := B.notSynchronized
  generalize hAe : va_A (wL cy X S0) s.heap.size = A at hD hK ⊢
  have hA : ∀ q, s.heap.size ≤ q → A q := fun q h => by rw [← hAe]; exact Or.inr h
  have hW : wO D cy X A s.heap S0 s.heap [] := ⟨hP, hD, va_S.rf, hA, hRO⟩
  have hl := lv_entry ([.ref a0, .int x1, .int x2, .int x3]) (n := 4) (Nat.le_of_ble_eq_true rfl)
  rw [lg_entry_eq]
  generalize (lg_sl ([.ref a0, .int x1, .int x2, .int x3]) ++ List.replicate (4 - (lg_sl ([.ref a0, .int x1, .int x2, .int x3])).length) Slot.unset).toArray = ls at hl ⊢
  have hl : lv_has ls 4 [(0, .ref a0), (1, .int x1), (2, .int x2), (3, .int x3)] := hl
  unfold wp_X2_win at hp
  exact t_X2_win_0 F hr hlocks hK hp hW wX.rf (lv_sub hl [0, 1, 2, 3] rfl) hL_a0 hK_a0
def wp_X2_countMovesOfBlack_172 (D : wD) (post : wS → Prop)  (S : wS) : Prop :=
post S
def wp_X2_countMovesOfBlack_138 (D : wD) (post : wS → Prop)  (S : wS) (a0 : Nat) (x1 : Int32) (x2 : Int32) (x3 : Int32) (x4 : Int32) (x5 : Int32) (x8 : Int32) : Prop :=
∃ y_1 : Nat, sR S a0 6 = some y_1 ∧ wM D S y_1 ∧ sK S y_1 = 21 ∧
y_1 ∈ sL S ∧ vp_in x5 (sN S y_1) ∧
∀ S_3 : wS, S_3 = uI S y_1 (x5).toNatClampNeg x8 →
((¬ x8 = 0 → wp_X2_countMovesOfBlack_172 D post S_3) ∧
 (x8 = 0 → wp_X2_isChecking D (fun r_5 S_6 => 
((r_5 = 0 → wp_X2_countMovesOfBlack_172 D post S_6) ∧
 (¬ r_5 = 0 → wp_X2_win D (fun S_9 => 
wp_X2_countMovesOfBlack_172 D post S_9) S_6 a0 x1 x5 (0 : Int32)))) S_3 a0 x1 x2 x3 x4))
def wp_X2_countMovesOfBlack_100 (D : wD) (post : wS → Prop) (k_56 : wS → Nat → Int32 → Int32 → Int32 → Int32 → Int32 → Int64 → Int32 → Int32 → Prop) (S : wS) (a0 : Nat) (x1 : Int32) (x2 : Int32) (x3 : Int32) (x4 : Int32) (x5 : Int32) (x6 : Int64) (x8 : Int32) (x9 : Int32) : Prop :=
∀ x_1 : Int32, x_1 = x9 + 1 →
k_56 S a0 x1 x2 x3 x4 x5 x6 x8 x_1
def wp_X2_countMovesOfBlack_56 (D : wD) (post : wS → Prop)  : Nat → wS → Nat → Int32 → Int32 → Int32 → Int32 → Int32 → Int64 → Int32 → Int32 → Prop
  | 0, _, _, _, _, _, _, _, _, _, _ => False
  | n + 1, S, a0, x1, x2, x3, x4, x5, x6, x8, x9 =>
    ∃ y_1 : Nat, sR S a0 0 = some y_1 ∧ wM D S y_1 ∧ sK S y_1 = 5 ∧
    (((sI S y_1 2) ≤ x9 → wp_X11_contains D (fun r_3 S_4 => 
    ((r_3 = 0 → wp_X2_countMovesOfBlack_138 D post S_4 a0 x1 x2 x3 x4 x5 x8) ∧
     (¬ r_3 = 0 → ∃ y_6 : Nat, sR S_4 a0 0 = some y_6 ∧ wM D S_4 y_6 ∧ sK S_4 y_6 = 5 ∧
    wp_X0_reach D (fun r_7 S_8 => 
    wp_X11_contains D (fun r_9 S_10 => 
    ((¬ r_9 = 0 → wp_X2_countMovesOfBlack_138 D post S_10 a0 x1 x2 x3 x4 x5 x8) ∧
     (r_9 = 0 → wp_X2_countMovesOfBlack_138 D post S_10 a0 x1 x2 x3 x4 x5 (100 : Int32)))) S_8 r_7 x4) S_4 y_6 (1 : Int32) x2 (0 : Int64)))) S x6 x4) ∧
     (¬ (sI S y_1 2) ≤ x9 → wp_X11_contains D (fun r_12 S_13 => 
    ((r_12 = 0 → wp_X2_countMovesOfBlack_100 D post (wp_X2_countMovesOfBlack_56 D post n) S_13 a0 x1 x2 x3 x4 x5 x6 x8 x9) ∧
     (¬ r_12 = 0 → wp_X2_indexOf D (fun r_15 S_16 => 
    wp_X2_valueAt D (fun r_17 S_18 => 
    ((r_17 = (-2 : Int32) → wp_X2_countMovesOfBlack_100 D post (wp_X2_countMovesOfBlack_56 D post n) S_18 a0 x1 x2 x3 x4 x5 x6 x8 x9) ∧
     (¬ r_17 = (-2 : Int32) → ∀ x_20 : Int32, x_20 = x8 + 1 →
    wp_X2_countMovesOfBlack_100 D post (wp_X2_countMovesOfBlack_56 D post n) S_18 a0 x1 x2 x3 x4 x5 x6 x_20 x9))) S_16 a0 x1 r_15) S_13 (1 : Int32) x2 x9 x4))) S x6 x9))
def wp_X2_countMovesOfBlack_37 (D : wD) (post : wS → Prop)  (S : wS) : Prop :=
post S
def wp_X2_countMovesOfBlack_0 (D : wD) (post : wS → Prop)  (S : wS) (a0 : Nat) (x1 : Int32) (x2 : Int32) (x3 : Int32) (x4 : Int32) : Prop :=
wp_X2_indexOf D (fun r_1 S_2 => 
wp_X2_valueAt D (fun r_3 S_4 => 
((r_3 = (-2 : Int32) → wp_X2_countMovesOfBlack_37 D post S_4) ∧
 (¬ r_3 = (-2 : Int32) → ((r_1 < 0 → wp_X2_countMovesOfBlack_37 D post S_4) ∧
 (¬ r_1 < 0 → ∃ y_7 : Nat, sR S_4 a0 6 = some y_7 ∧ wM D S_4 y_7 ∧ sK S_4 y_7 = 21 ∧
((r_1 < (Int32.ofNat (sN S_4 y_7)) → ∃ y_9 : Nat, sR S_4 a0 0 = some y_9 ∧ wM D S_4 y_9 ∧ sK S_4 y_9 = 5 ∧
wp_X0_reach D (fun r_10 S_11 => 
∃ n_12 : Nat, wp_X2_countMovesOfBlack_56 D post n_12 S_11 a0 x1 x2 x3 x4 r_1 r_10 (0 : Int32) (0 : Int32)) S_4 y_9 (1 : Int32) x3 (0 : Int64)) ∧
 (¬ r_1 < (Int32.ofNat (sN S_4 y_7)) → wp_X2_countMovesOfBlack_37 D post S_4))))))) S_2 a0 x1 r_1) S (0 : Int32) x2 x3 x4
abbrev r_X2_countMovesOfBlack : Room := { frames := 3, cells := 0, slots := 0, locals := 80 }
def wp_X2_countMovesOfBlack (D : wD) (post : wS → Prop) (S : wS) (a0 : Nat) (x1 : Int32) (x2 : Int32) (x3 : Int32) (x4 : Int32) : Prop := wp_X2_countMovesOfBlack_0 D post S a0 x1 x2 x3 x4
set_option maxHeartbeats 4000000 in
set_option maxRecDepth 100000 in
theorem t_X2_countMovesOfBlack_172 {p : Program} {l : Launch} {e : Env} {s : State} {m : MethodId} {args : Array Value} {below : List Frame} {meth : Method} {c : Code} {D : wD} {cy : Nat → ClassId} {X : va_W} {A : Nat → Prop} {S0 : wS} {post : wS → Prop} (F : CallFix p m c cX2_countMovesOfBlack 10 s args wz_X2_countMovesOfBlack RX2) (hr : meth.sig.returnType = none) (hlocks : meth.locks = false) (hK : wK D cy A s) : ∀ {S : wS} {H : Heap} {locs : List Loc} {ls : Array Slot}, wp_X2_countMovesOfBlack_172 D post S → wO D cy X A s.heap S H locs → wX D S0 S → lv_has ls 10 [] → W p l e r_X2_countMovesOfBlack s m args below meth c H locs 0 0 (MQ below (va_Qv (fun S9 => wX D S0 S9 ∧ post S9) (wB D cy X A) A) args s 0 0 A) (F0 m 172 ls []) := by
  obtain ⟨hx, hb, hml, hown, hts⟩ := id F
  have hwg : ∀ w ∈ WG, w.before args s = true := fun w h => hts w (List.mem_cons_of_mem _ h)
  intro S H locs ls hp hW hE hl
  unfold wp_X2_countMovesOfBlack_172 at hp
  exact w_vret hx hb hr hlocks hW ⟨hE, hp⟩ dX2_countMovesOfBlack_172
set_option maxHeartbeats 4000000 in
set_option maxRecDepth 100000 in
theorem t_X2_countMovesOfBlack_138 {p : Program} {l : Launch} {e : Env} {s : State} {m : MethodId} {args : Array Value} {below : List Frame} {meth : Method} {c : Code} {D : wD} {cy : Nat → ClassId} {X : va_W} {A : Nat → Prop} {S0 : wS} {post : wS → Prop} (F : CallFix p m c cX2_countMovesOfBlack 10 s args wz_X2_countMovesOfBlack RX2) (hr : meth.sig.returnType = none) (hlocks : meth.locks = false) (hK : wK D cy A s) : ∀ {S : wS} {H : Heap} {locs : List Loc} {ls : Array Slot} {a0 : Nat} {x1 : Int32} {x2 : Int32} {x3 : Int32} {x4 : Int32} {x5 : Int32} {x8 : Int32}, wp_X2_countMovesOfBlack_138 D post S a0 x1 x2 x3 x4 x5 x8 → wO D cy X A s.heap S H locs → wX D S0 S → lv_has ls 10 [(0, .ref a0), (1, .int x1), (2, .int x2), (3, .int x3), (4, .int x4), (5, .int x5), (8, .int x8)] → wM D S a0 → sK S a0 = 7 → W p l e r_X2_countMovesOfBlack s m args below meth c H locs 0 0 (MQ below (va_Qv (fun S9 => wX D S0 S9 ∧ post S9) (wB D cy X A) A) args s 0 0 A) (F0 m 138 ls []) := by
  obtain ⟨hx, hb, hml, hown, hts⟩ := id F
  have hwg : ∀ w ∈ WG, w.before args s = true := fun w h => hts w (List.mem_cons_of_mem _ h)
  have i_7 : ∀ w ∈ u_ws RX2 TX2 8, w ∈ wz_X2_countMovesOfBlack := fun w h => List.mem_cons_of_mem _ (wu_7 w h)
  have k_28 := hwg _ wf_RX2_28
  intro S H locs ls a0 x1 x2 x3 x4 x5 x8 hp hW hE hl hL_a0 hK_a0
  unfold wp_X2_countMovesOfBlack_138 at hp
  refine lv_aload_n hx hb dX2_countMovesOfBlack_138 rfl (lv_at hl 0 rfl) ?_
  obtain ⟨y_1, ey_1, hL_y_1, hK_y_1, hp⟩ := hp
  refine w_get (k := 7) (f := 6) (T := TX2) (v := .ref y_1) F hK hW hL_a0 hK_a0 (by decide) rfl rfl (by decide) i_7 k_28 (by rw [show wv 7 6 S a0 = va_rf (sR S a0 6) from rfl, ey_1]; rfl) dX2_countMovesOfBlack_139 ?_
  refine lv_iload hx hb dX2_countMovesOfBlack_142 (lv_at hl 5 rfl) ?_
  refine lv_iload hx hb dX2_countMovesOfBlack_144 (lv_at hl 6 rfl) ?_
  obtain ⟨h_2m, h_2, hp⟩ := hp
  refine w_ist F hK hW h_2m hK_y_1 h_2 dX2_countMovesOfBlack_146 (fun H locs hW => ?_)
  obtain ⟨S_3, eS_3⟩ : ∃ z : wS, z = uI S y_1 (x5).toNatClampNeg x8 := ⟨_, rfl⟩
  rw [← eS_3] at hW
  replace hp := hp S_3 eS_3
  have hX_S_3 : wX D S S_3 := by rw [eS_3]; exact wX_uI
  have hE := hE.trans hX_S_3
  have hK_a0 : sK S_3 a0 = 7 := (hX_S_3.2 a0 hL_a0).1.trans hK_a0
  have hL_a0 : wM D S_3 a0 := hX_S_3.M hL_a0
  refine lv_iload hx hb dX2_countMovesOfBlack_147 (lv_at hl 6 rfl) ?_
  refine lv_if_ne (tgt := 172) hx hb dX2_countMovesOfBlack_149 (by decide) (fun c_4 => ?_) (fun c_4 => ?_)
  · replace hp := hp.1 c_4
    exact t_X2_countMovesOfBlack_172 F hr hlocks hK hp hW hE (lv_sub hl [] rfl)
  · replace hp := hp.2 c_4
    refine lv_aload_n hx hb dX2_countMovesOfBlack_152 rfl (lv_at hl 0 rfl) ?_
    refine lv_iload_n hx hb dX2_countMovesOfBlack_153 rfl (lv_at hl 1 rfl) ?_
    refine lv_iload_n hx hb dX2_countMovesOfBlack_154 rfl (lv_at hl 2 rfl) ?_
    refine lv_iload_n hx hb dX2_countMovesOfBlack_155 rfl (lv_at hl 3 rfl) ?_
    refine lv_iload hx hb dX2_countMovesOfBlack_156 (lv_at hl 4 rfl) ?_
    refine w_callI (va_runV (As := [.int x1, .int x2, .int x3, .int x4]) (rest := []) F (c_X2_isChecking l hL_a0 hK_a0 hp H.size) (cwV (C := RX2) 4 hts (wg_V wm_RX2_138 wy_X2_isChecking) rfl rfl rfl (by decide +kernel) ⟨Nat.le_of_ble_eq_true rfl, Nat.le_of_ble_eq_true rfl⟩) (w_preV hK hW hL_a0 hK_a0 (by decide) rfl) rfl rfl hl.1 rfl (lv_room (Nat.le_of_ble_eq_true rfl)) dX2_countMovesOfBlack_158 ⟨Nat.le_of_ble_eq_true rfl, Nat.le_of_ble_eq_true rfl⟩) hW (fun r_5 S_6 H locs hp hW => ?_)
    obtain ⟨hX_S_6, hp⟩ := hp
    refine W.widen (k := 0) (n := 0) (by decide) (by decide) ?_
    have hE := hE.trans hX_S_6
    have hK_a0 : sK S_6 a0 = 7 := (hX_S_6.2 a0 hL_a0).1.trans hK_a0
    have hL_a0 : wM D S_6 a0 := hX_S_6.M hL_a0
    refine lv_if_eq (tgt := 172) hx hb dX2_countMovesOfBlack_161 (by decide) (fun c_7 => ?_) (fun c_7 => ?_)
    · replace hp := hp.1 c_7
      exact t_X2_countMovesOfBlack_172 F hr hlocks hK hp hW hE (lv_sub hl [] rfl)
    · replace hp := hp.2 c_7
      refine lv_aload_n hx hb dX2_countMovesOfBlack_164 rfl (lv_at hl 0 rfl) ?_
      refine lv_iload_n hx hb dX2_countMovesOfBlack_165 rfl (lv_at hl 1 rfl) ?_
      refine lv_iload hx hb dX2_countMovesOfBlack_166 (lv_at hl 5 rfl) ?_
      refine lv_iconst (v := 0) hx hb dX2_countMovesOfBlack_168 (by decide) ?_
      refine w_callV (va_runV (As := [.int x1, .int x5, .int (0 : Int32)]) (rest := []) F (c_X2_win l hL_a0 hK_a0 hp H.size) (cwV (C := RX2) 3 hts (wg_V wm_RX2_146 wy_X2_win) rfl rfl rfl (by decide +kernel) ⟨Nat.le_of_ble_eq_true rfl, Nat.le_of_ble_eq_true rfl⟩) (w_preV hK hW hL_a0 hK_a0 (by decide) rfl) rfl rfl hl.1 rfl (lv_room (Nat.le_of_ble_eq_true rfl)) dX2_countMovesOfBlack_169 ⟨Nat.le_of_ble_eq_true rfl, Nat.le_of_ble_eq_true rfl⟩) hW (fun S_9 H locs hp hW => ?_)
      obtain ⟨hX_S_9, hp⟩ := hp
      refine W.widen (k := 0) (n := 0) (by decide) (by decide) ?_
      have hE := hE.trans hX_S_9
      have hK_a0 : sK S_9 a0 = 7 := (hX_S_9.2 a0 hL_a0).1.trans hK_a0
      have hL_a0 : wM D S_9 a0 := hX_S_9.M hL_a0
      exact t_X2_countMovesOfBlack_172 F hr hlocks hK hp hW hE (lv_sub hl [] rfl)
set_option maxHeartbeats 4000000 in
set_option maxRecDepth 100000 in
theorem t_X2_countMovesOfBlack_100 {p : Program} {l : Launch} {e : Env} {s : State} {m : MethodId} {args : Array Value} {below : List Frame} {meth : Method} {c : Code} {D : wD} {cy : Nat → ClassId} {X : va_W} {A : Nat → Prop} {S0 : wS} {post : wS → Prop} (F : CallFix p m c cX2_countMovesOfBlack 10 s args wz_X2_countMovesOfBlack RX2) (hr : meth.sig.returnType = none) (hlocks : meth.locks = false) (hK : wK D cy A s) {k_56 : wS → Nat → Int32 → Int32 → Int32 → Int32 → Int32 → Int64 → Int32 → Int32 → Prop} (q_56 : ∀ {S : wS} {H : Heap} {locs : List Loc} {ls : Array Slot} {a0 : Nat} {x1 : Int32} {x2 : Int32} {x3 : Int32} {x4 : Int32} {x5 : Int32} {x6 : Int64} {x8 : Int32} {x9 : Int32}, k_56 S a0 x1 x2 x3 x4 x5 x6 x8 x9 → wO D cy X A s.heap S H locs → wX D S0 S → lv_has ls 10 [(0, .ref a0), (1, .int x1), (2, .int x2), (3, .int x3), (4, .int x4), (5, .int x5), (6, .long x6), (8, .int x8), (9, .int x9)] → wM D S a0 → sK S a0 = 7 → W p l e r_X2_countMovesOfBlack s m args below meth c H locs 0 0 (MQ below (va_Qv (fun S9 => wX D S0 S9 ∧ post S9) (wB D cy X A) A) args s 0 0 A) (F0 m 56 ls [])) : ∀ {S : wS} {H : Heap} {locs : List Loc} {ls : Array Slot} {a0 : Nat} {x1 : Int32} {x2 : Int32} {x3 : Int32} {x4 : Int32} {x5 : Int32} {x6 : Int64} {x8 : Int32} {x9 : Int32}, wp_X2_countMovesOfBlack_100 D post k_56 S a0 x1 x2 x3 x4 x5 x6 x8 x9 → wO D cy X A s.heap S H locs → wX D S0 S → lv_has ls 10 [(0, .ref a0), (1, .int x1), (2, .int x2), (3, .int x3), (4, .int x4), (5, .int x5), (6, .long x6), (8, .int x8), (9, .int x9)] → wM D S a0 → sK S a0 = 7 → W p l e r_X2_countMovesOfBlack s m args below meth c H locs 0 0 (MQ below (va_Qv (fun S9 => wX D S0 S9 ∧ post S9) (wB D cy X A) A) args s 0 0 A) (F0 m 100 ls []) := by
  obtain ⟨hx, hb, hml, hown, hts⟩ := id F
  have hwg : ∀ w ∈ WG, w.before args s = true := fun w h => hts w (List.mem_cons_of_mem _ h)
  intro S H locs ls a0 x1 x2 x3 x4 x5 x6 x8 x9 hp hW hE hl hL_a0 hK_a0
  unfold wp_X2_countMovesOfBlack_100 at hp
  obtain ⟨x_1, ex_1⟩ : ∃ z : Int32, z = x9 + 1 := ⟨_, rfl⟩
  replace hp := hp x_1 ex_1
  refine lv_iinc (v := x_1) (lv' := [(9, .int x_1), (0, .ref a0), (1, .int x1), (2, .int x2), (3, .int x3), (4, .int x4), (5, .int x5), (6, .long x6), (8, .int x8)]) hx hb dX2_countMovesOfBlack_100 hl (k := 8) rfl (by rw [ex_1]; rfl) (by decide) rfl (fun ls hl => ?_)
  refine lv_goto (tgt := 56) hx hb dX2_countMovesOfBlack_103 (by decide) ?_
  exact q_56 hp hW hE (lv_sub hl [1, 2, 3, 4, 5, 6, 7, 8, 0] rfl) hL_a0 hK_a0
set_option maxHeartbeats 4000000 in
set_option maxRecDepth 100000 in
theorem t_X2_countMovesOfBlack_56 {p : Program} {l : Launch} {e : Env} {s : State} {m : MethodId} {args : Array Value} {below : List Frame} {meth : Method} {c : Code} {D : wD} {cy : Nat → ClassId} {X : va_W} {A : Nat → Prop} {S0 : wS} {post : wS → Prop} (F : CallFix p m c cX2_countMovesOfBlack 10 s args wz_X2_countMovesOfBlack RX2) (hr : meth.sig.returnType = none) (hlocks : meth.locks = false) (hK : wK D cy A s) : ∀ (n : Nat) {S : wS} {H : Heap} {locs : List Loc} {ls : Array Slot} {a0 : Nat} {x1 : Int32} {x2 : Int32} {x3 : Int32} {x4 : Int32} {x5 : Int32} {x6 : Int64} {x8 : Int32} {x9 : Int32}, wp_X2_countMovesOfBlack_56 D post n S a0 x1 x2 x3 x4 x5 x6 x8 x9 → wO D cy X A s.heap S H locs → wX D S0 S → lv_has ls 10 [(0, .ref a0), (1, .int x1), (2, .int x2), (3, .int x3), (4, .int x4), (5, .int x5), (6, .long x6), (8, .int x8), (9, .int x9)] → wM D S a0 → sK S a0 = 7 → W p l e r_X2_countMovesOfBlack s m args below meth c H locs 0 0 (MQ below (va_Qv (fun S9 => wX D S0 S9 ∧ post S9) (wB D cy X A) A) args s 0 0 A) (F0 m 56 ls []) := by
  obtain ⟨hx, hb, hml, hown, hts⟩ := id F
  have hwg : ∀ w ∈ WG, w.before args s = true := fun w h => hts w (List.mem_cons_of_mem _ h)
  have i_5 : ∀ w ∈ u_ws RX0 TX0 12, w ∈ wz_X2_countMovesOfBlack := fun w h => List.mem_cons_of_mem _ (wu_5 w h)
  have i_7 : ∀ w ∈ u_ws RX2 TX2 8, w ∈ wz_X2_countMovesOfBlack := fun w h => List.mem_cons_of_mem _ (wu_7 w h)
  have k_35 := hwg _ wf_RX2_35
  intro n
  induction n with
  | zero =>
    intro S H locs ls a0 x1 x2 x3 x4 x5 x6 x8 x9 hp
    exact hp.elim
  | succ n ih =>
    intro S H locs ls a0 x1 x2 x3 x4 x5 x6 x8 x9 hp hW hE hl hL_a0 hK_a0
    unfold wp_X2_countMovesOfBlack_56 at hp
    refine lv_iload hx hb dX2_countMovesOfBlack_56 (lv_at hl 8 rfl) ?_
    refine lv_aload_n hx hb dX2_countMovesOfBlack_58 rfl (lv_at hl 0 rfl) ?_
    obtain ⟨y_1, ey_1, hL_y_1, hK_y_1, hp⟩ := hp
    refine w_get (k := 7) (f := 0) (T := TX2) (v := .ref y_1) F hK hW hL_a0 hK_a0 (by decide) rfl rfl (by decide) i_7 k_35 (by rw [show wv 7 0 S a0 = va_rf (sR S a0 0) from rfl, ey_1]; rfl) dX2_countMovesOfBlack_59 ?_
    refine w_getN (k := 5) (f := 2) (T := TX0) (v := .int (sI S y_1 2)) F hK hW hL_y_1 hK_y_1 (by decide) rfl rfl (by decide) i_5 (hK.2.1 (.fieldLinkNest "OpeningsCabinet$Endings" 104 "OpeningsCabinet$Board" "size" "I" "OpeningsCabinet") (by decide +kernel)) rfl dX2_countMovesOfBlack_62 ?_
    refine lv_icmp_ge (tgt := 106) hx hb dX2_countMovesOfBlack_65 (by decide) (fun c_2 => ?_) (fun c_2 => ?_)
    · replace hp := hp.1 c_2
      refine lv_lload hx hb dX2_countMovesOfBlack_106 (lv_at hl 6 rfl) ?_
      refine lv_iload hx hb dX2_countMovesOfBlack_108 (lv_at hl 4 rfl) ?_
      refine w_callI (va_runSN (As := [.long x6, .int x4]) (rest := []) F (c_X11_contains l hp H.size) ⟨va_cnB (host := "OpeningsCabinet") 2 hts (wg_cons wy_X11_contains.2.2) rfl rfl rfl (hK.2.1 (.methodLinkNest "OpeningsCabinet$Endings" 134 ⟨"OpeningsCabinet", "contains", "(JI)Z"⟩ "OpeningsCabinet") (by decide +kernel)) (hwg _ wy_X11_contains.2.1) ⟨by decide, by decide, by decide +kernel⟩ ⟨Nat.le_of_ble_eq_true rfl, Nat.le_of_ble_eq_true rfl⟩, hwg _ wy_X11_contains.1, trivial⟩ (w_preS hK hW) rfl rfl hl.1 rfl (lv_room (Nat.le_of_ble_eq_true rfl)) dX2_countMovesOfBlack_110 ⟨Nat.le_of_ble_eq_true rfl, Nat.le_of_ble_eq_true rfl⟩) hW (fun r_3 S_4 H locs hp hW => ?_)
      obtain ⟨hX_S_4, hp⟩ := hp
      refine W.widen (k := 0) (n := 0) (by decide) (by decide) ?_
      have hE := hE.trans hX_S_4
      have hK_a0 : sK S_4 a0 = 7 := (hX_S_4.2 a0 hL_a0).1.trans hK_a0
      have hL_a0 : wM D S_4 a0 := hX_S_4.M hL_a0
      refine lv_if_eq (tgt := 138) hx hb dX2_countMovesOfBlack_113 (by decide) (fun c_5 => ?_) (fun c_5 => ?_)
      · replace hp := hp.1 c_5
        exact t_X2_countMovesOfBlack_138 F hr hlocks hK hp hW hE (lv_sub hl [0, 1, 2, 3, 4, 5, 7] rfl) hL_a0 hK_a0
      · replace hp := hp.2 c_5
        refine lv_aload_n hx hb dX2_countMovesOfBlack_116 rfl (lv_at hl 0 rfl) ?_
        obtain ⟨y_6, ey_6, hL_y_6, hK_y_6, hp⟩ := hp
        refine w_get (k := 7) (f := 0) (T := TX2) (v := .ref y_6) F hK hW hL_a0 hK_a0 (by decide) rfl rfl (by decide) i_7 k_35 (by rw [show wv 7 0 S_4 a0 = va_rf (sR S_4 a0 0) from rfl, ey_6]; rfl) dX2_countMovesOfBlack_117 ?_
        refine lv_iconst (v := 1) hx hb dX2_countMovesOfBlack_120 (by decide) ?_
        refine lv_iload_n hx hb dX2_countMovesOfBlack_121 rfl (lv_at hl 2 rfl) ?_
        refine lv_lconst (v := 0) hx hb dX2_countMovesOfBlack_122 (by decide) ?_
        refine w_callJ (va_runV (As := [.int (1 : Int32), .int x2, .long (0 : Int64)]) (rest := []) F (c_X0_reach l hL_y_6 hK_y_6 hp H.size) (cwV (C := RX0) 3 hts (wg_V wm_RX2_130 wy_X0_reach) rfl rfl rfl (by decide +kernel) ⟨Nat.le_of_ble_eq_true rfl, Nat.le_of_ble_eq_true rfl⟩) (w_preV hK hW hL_y_6 hK_y_6 (by decide) rfl) rfl rfl hl.1 rfl (lv_room (Nat.le_of_ble_eq_true rfl)) dX2_countMovesOfBlack_123 ⟨Nat.le_of_ble_eq_true rfl, Nat.le_of_ble_eq_true rfl⟩) hW (fun r_7 S_8 H locs hp hW => ?_)
        obtain ⟨hX_S_8, hp⟩ := hp
        refine W.widen (k := 0) (n := 0) (by decide) (by decide) ?_
        have hE := hE.trans hX_S_8
        have hK_a0 : sK S_8 a0 = 7 := (hX_S_8.2 a0 hL_a0).1.trans hK_a0
        have hL_a0 : wM D S_8 a0 := hX_S_8.M hL_a0
        refine lv_iload hx hb dX2_countMovesOfBlack_126 (lv_at hl 4 rfl) ?_
        refine w_callI (va_runSN (As := [.long r_7, .int x4]) (rest := []) F (c_X11_contains l hp H.size) ⟨va_cnB (host := "OpeningsCabinet") 2 hts (wg_cons wy_X11_contains.2.2) rfl rfl rfl (hK.2.1 (.methodLinkNest "OpeningsCabinet$Endings" 134 ⟨"OpeningsCabinet", "contains", "(JI)Z"⟩ "OpeningsCabinet") (by decide +kernel)) (hwg _ wy_X11_contains.2.1) ⟨by decide, by decide, by decide +kernel⟩ ⟨Nat.le_of_ble_eq_true rfl, Nat.le_of_ble_eq_true rfl⟩, hwg _ wy_X11_contains.1, trivial⟩ (w_preS hK hW) rfl rfl hl.1 rfl (lv_room (Nat.le_of_ble_eq_true rfl)) dX2_countMovesOfBlack_128 ⟨Nat.le_of_ble_eq_true rfl, Nat.le_of_ble_eq_true rfl⟩) hW (fun r_9 S_10 H locs hp hW => ?_)
        obtain ⟨hX_S_10, hp⟩ := hp
        refine W.widen (k := 0) (n := 0) (by decide) (by decide) ?_
        have hE := hE.trans hX_S_10
        have hK_a0 : sK S_10 a0 = 7 := (hX_S_10.2 a0 hL_a0).1.trans hK_a0
        have hL_a0 : wM D S_10 a0 := hX_S_10.M hL_a0
        refine lv_if_ne (tgt := 138) hx hb dX2_countMovesOfBlack_131 (by decide) (fun c_11 => ?_) (fun c_11 => ?_)
        · replace hp := hp.1 c_11
          exact t_X2_countMovesOfBlack_138 F hr hlocks hK hp hW hE (lv_sub hl [0, 1, 2, 3, 4, 5, 7] rfl) hL_a0 hK_a0
        · replace hp := hp.2 c_11
          refine lv_bipush (v := 100) hx hb dX2_countMovesOfBlack_134 (by decide) ?_
          refine lv_istore (lv' := [(8, .int (100 : Int32)), (0, .ref a0), (1, .int x1), (2, .int x2), (3, .int x3), (4, .int x4), (5, .int x5), (6, .long x6), (9, .int x9)]) hx hb dX2_countMovesOfBlack_136 hl (by decide) rfl (fun ls hl => ?_)
          exact t_X2_countMovesOfBlack_138 F hr hlocks hK hp hW hE (lv_sub hl [1, 2, 3, 4, 5, 6, 0] rfl) hL_a0 hK_a0
    · replace hp := hp.2 c_2
      refine lv_lload hx hb dX2_countMovesOfBlack_68 (lv_at hl 6 rfl) ?_
      refine lv_iload hx hb dX2_countMovesOfBlack_70 (lv_at hl 8 rfl) ?_
      refine w_callI (va_runSN (As := [.long x6, .int x9]) (rest := []) F (c_X11_contains l hp H.size) ⟨va_cnB (host := "OpeningsCabinet") 2 hts (wg_cons wy_X11_contains.2.2) rfl rfl rfl (hK.2.1 (.methodLinkNest "OpeningsCabinet$Endings" 134 ⟨"OpeningsCabinet", "contains", "(JI)Z"⟩ "OpeningsCabinet") (by decide +kernel)) (hwg _ wy_X11_contains.2.1) ⟨by decide, by decide, by decide +kernel⟩ ⟨Nat.le_of_ble_eq_true rfl, Nat.le_of_ble_eq_true rfl⟩, hwg _ wy_X11_contains.1, trivial⟩ (w_preS hK hW) rfl rfl hl.1 rfl (lv_room (Nat.le_of_ble_eq_true rfl)) dX2_countMovesOfBlack_72 ⟨Nat.le_of_ble_eq_true rfl, Nat.le_of_ble_eq_true rfl⟩) hW (fun r_12 S_13 H locs hp hW => ?_)
      obtain ⟨hX_S_13, hp⟩ := hp
      refine W.widen (k := 0) (n := 0) (by decide) (by decide) ?_
      have hE := hE.trans hX_S_13
      have hK_a0 : sK S_13 a0 = 7 := (hX_S_13.2 a0 hL_a0).1.trans hK_a0
      have hL_a0 : wM D S_13 a0 := hX_S_13.M hL_a0
      refine lv_if_eq (tgt := 100) hx hb dX2_countMovesOfBlack_75 (by decide) (fun c_14 => ?_) (fun c_14 => ?_)
      · replace hp := hp.1 c_14
        exact t_X2_countMovesOfBlack_100 F hr hlocks hK ih hp hW hE (lv_sub hl [0, 1, 2, 3, 4, 5, 6, 7, 8] rfl) hL_a0 hK_a0
      · replace hp := hp.2 c_14
        refine lv_aload_n hx hb dX2_countMovesOfBlack_78 rfl (lv_at hl 0 rfl) ?_
        refine lv_iload_n hx hb dX2_countMovesOfBlack_79 rfl (lv_at hl 1 rfl) ?_
        refine lv_iconst (v := 1) hx hb dX2_countMovesOfBlack_80 (by decide) ?_
        refine lv_iload_n hx hb dX2_countMovesOfBlack_81 rfl (lv_at hl 2 rfl) ?_
        refine lv_iload hx hb dX2_countMovesOfBlack_82 (lv_at hl 8 rfl) ?_
        refine lv_iload hx hb dX2_countMovesOfBlack_84 (lv_at hl 4 rfl) ?_
        refine w_callI (va_runS (As := [.int (1 : Int32), .int x2, .int x9, .int x4]) (rest := [.int x1, .ref a0]) F (c_X2_indexOf l hp H.size) (va_cwS 4 hts (wg_S wm_RX2_96 wy_X2_indexOf) rfl rfl rfl (by decide +kernel) ⟨Nat.le_of_ble_eq_true rfl, Nat.le_of_ble_eq_true rfl⟩) (w_preS hK hW) rfl rfl hl.1 rfl (lv_room (Nat.le_of_ble_eq_true rfl)) dX2_countMovesOfBlack_86 ⟨Nat.le_of_ble_eq_true rfl, Nat.le_of_ble_eq_true rfl⟩) hW (fun r_15 S_16 H locs hp hW => ?_)
        obtain ⟨hX_S_16, hp⟩ := hp
        refine W.widen (k := 0) (n := 0) (by decide) (by decide) ?_
        have hE := hE.trans hX_S_16
        have hK_a0 : sK S_16 a0 = 7 := (hX_S_16.2 a0 hL_a0).1.trans hK_a0
        have hL_a0 : wM D S_16 a0 := hX_S_16.M hL_a0
        refine w_callI (va_runV (As := [.int x1, .int r_15]) (rest := []) F (c_X2_valueAt l hL_a0 hK_a0 hp H.size) (cwV (C := RX2) 2 hts (wg_V wm_RX2_100 wy_X2_valueAt) rfl rfl rfl (by decide +kernel) ⟨Nat.le_of_ble_eq_true rfl, Nat.le_of_ble_eq_true rfl⟩) (w_preV hK hW hL_a0 hK_a0 (by decide) rfl) rfl rfl hl.1 rfl (lv_room (Nat.le_of_ble_eq_true rfl)) dX2_countMovesOfBlack_89 ⟨Nat.le_of_ble_eq_true rfl, Nat.le_of_ble_eq_true rfl⟩) hW (fun r_17 S_18 H locs hp hW => ?_)
        obtain ⟨hX_S_18, hp⟩ := hp
        refine W.widen (k := 0) (n := 0) (by decide) (by decide) ?_
        have hE := hE.trans hX_S_18
        have hK_a0 : sK S_18 a0 = 7 := (hX_S_18.2 a0 hL_a0).1.trans hK_a0
        have hL_a0 : wM D S_18 a0 := hX_S_18.M hL_a0
        refine lv_bipush (v := (-2)) hx hb dX2_countMovesOfBlack_92 (by decide) ?_
        refine lv_icmp_eq (tgt := 100) hx hb dX2_countMovesOfBlack_94 (by decide) (fun c_19 => ?_) (fun c_19 => ?_)
        · replace hp := hp.1 c_19
          exact t_X2_countMovesOfBlack_100 F hr hlocks hK ih hp hW hE (lv_sub hl [0, 1, 2, 3, 4, 5, 6, 7, 8] rfl) hL_a0 hK_a0
        · replace hp := hp.2 c_19
          obtain ⟨x_20, ex_20⟩ : ∃ z : Int32, z = x8 + 1 := ⟨_, rfl⟩
          replace hp := hp x_20 ex_20
          refine lv_iinc (v := x_20) (lv' := [(8, .int x_20), (0, .ref a0), (1, .int x1), (2, .int x2), (3, .int x3), (4, .int x4), (5, .int x5), (6, .long x6), (9, .int x9)]) hx hb dX2_countMovesOfBlack_97 hl (k := 7) rfl (by rw [ex_20]; rfl) (by decide) rfl (fun ls hl => ?_)
          exact t_X2_countMovesOfBlack_100 F hr hlocks hK ih hp hW hE (lv_sub hl [1, 2, 3, 4, 5, 6, 7, 0, 8] rfl) hL_a0 hK_a0
set_option maxHeartbeats 4000000 in
set_option maxRecDepth 100000 in
theorem t_X2_countMovesOfBlack_37 {p : Program} {l : Launch} {e : Env} {s : State} {m : MethodId} {args : Array Value} {below : List Frame} {meth : Method} {c : Code} {D : wD} {cy : Nat → ClassId} {X : va_W} {A : Nat → Prop} {S0 : wS} {post : wS → Prop} (F : CallFix p m c cX2_countMovesOfBlack 10 s args wz_X2_countMovesOfBlack RX2) (hr : meth.sig.returnType = none) (hlocks : meth.locks = false) (hK : wK D cy A s) : ∀ {S : wS} {H : Heap} {locs : List Loc} {ls : Array Slot}, wp_X2_countMovesOfBlack_37 D post S → wO D cy X A s.heap S H locs → wX D S0 S → lv_has ls 10 [] → W p l e r_X2_countMovesOfBlack s m args below meth c H locs 0 0 (MQ below (va_Qv (fun S9 => wX D S0 S9 ∧ post S9) (wB D cy X A) A) args s 0 0 A) (F0 m 37 ls []) := by
  obtain ⟨hx, hb, hml, hown, hts⟩ := id F
  have hwg : ∀ w ∈ WG, w.before args s = true := fun w h => hts w (List.mem_cons_of_mem _ h)
  intro S H locs ls hp hW hE hl
  unfold wp_X2_countMovesOfBlack_37 at hp
  exact w_vret hx hb hr hlocks hW ⟨hE, hp⟩ dX2_countMovesOfBlack_37
set_option maxHeartbeats 4000000 in
set_option maxRecDepth 100000 in
theorem t_X2_countMovesOfBlack_0 {p : Program} {l : Launch} {e : Env} {s : State} {m : MethodId} {args : Array Value} {below : List Frame} {meth : Method} {c : Code} {D : wD} {cy : Nat → ClassId} {X : va_W} {A : Nat → Prop} {S0 : wS} {post : wS → Prop} (F : CallFix p m c cX2_countMovesOfBlack 10 s args wz_X2_countMovesOfBlack RX2) (hr : meth.sig.returnType = none) (hlocks : meth.locks = false) (hK : wK D cy A s) : ∀ {S : wS} {H : Heap} {locs : List Loc} {ls : Array Slot} {a0 : Nat} {x1 : Int32} {x2 : Int32} {x3 : Int32} {x4 : Int32}, wp_X2_countMovesOfBlack_0 D post S a0 x1 x2 x3 x4 → wO D cy X A s.heap S H locs → wX D S0 S → lv_has ls 10 [(0, .ref a0), (1, .int x1), (2, .int x2), (3, .int x3), (4, .int x4)] → wM D S a0 → sK S a0 = 7 → W p l e r_X2_countMovesOfBlack s m args below meth c H locs 0 0 (MQ below (va_Qv (fun S9 => wX D S0 S9 ∧ post S9) (wB D cy X A) A) args s 0 0 A) (F0 m 0 ls []) := by
  obtain ⟨hx, hb, hml, hown, hts⟩ := id F
  have hwg : ∀ w ∈ WG, w.before args s = true := fun w h => hts w (List.mem_cons_of_mem _ h)
  have i_7 : ∀ w ∈ u_ws RX2 TX2 8, w ∈ wz_X2_countMovesOfBlack := fun w h => List.mem_cons_of_mem _ (wu_7 w h)
  have k_28 := hwg _ wf_RX2_28
  have k_35 := hwg _ wf_RX2_35
  intro S H locs ls a0 x1 x2 x3 x4 hp hW hE hl hL_a0 hK_a0
  unfold wp_X2_countMovesOfBlack_0 at hp
  refine lv_iconst (v := 0) hx hb dX2_countMovesOfBlack_0 (by decide) ?_
  refine lv_iload_n hx hb dX2_countMovesOfBlack_1 rfl (lv_at hl 2 rfl) ?_
  refine lv_iload_n hx hb dX2_countMovesOfBlack_2 rfl (lv_at hl 3 rfl) ?_
  refine lv_iload hx hb dX2_countMovesOfBlack_3 (lv_at hl 4 rfl) ?_
  refine w_callI (va_runS (As := [.int (0 : Int32), .int x2, .int x3, .int x4]) (rest := []) F (c_X2_indexOf l hp H.size) (va_cwS 4 hts (wg_S wm_RX2_96 wy_X2_indexOf) rfl rfl rfl (by decide +kernel) ⟨Nat.le_of_ble_eq_true rfl, Nat.le_of_ble_eq_true rfl⟩) (w_preS hK hW) rfl rfl hl.1 rfl (lv_room (Nat.le_of_ble_eq_true rfl)) dX2_countMovesOfBlack_5 ⟨Nat.le_of_ble_eq_true rfl, Nat.le_of_ble_eq_true rfl⟩) hW (fun r_1 S_2 H locs hp hW => ?_)
  obtain ⟨hX_S_2, hp⟩ := hp
  refine W.widen (k := 0) (n := 0) (by decide) (by decide) ?_
  have hE := hE.trans hX_S_2
  have hK_a0 : sK S_2 a0 = 7 := (hX_S_2.2 a0 hL_a0).1.trans hK_a0
  have hL_a0 : wM D S_2 a0 := hX_S_2.M hL_a0
  refine lv_istore (lv' := [(5, .int r_1), (0, .ref a0), (1, .int x1), (2, .int x2), (3, .int x3), (4, .int x4)]) hx hb dX2_countMovesOfBlack_8 hl (by decide) rfl (fun ls hl => ?_)
  refine lv_aload_n hx hb dX2_countMovesOfBlack_10 rfl (lv_at hl 1 rfl) ?_
  refine lv_iload_n hx hb dX2_countMovesOfBlack_11 rfl (lv_at hl 2 rfl) ?_
  refine lv_iload hx hb dX2_countMovesOfBlack_12 (lv_at hl 0 rfl) ?_
  refine w_callI (va_runV (As := [.int x1, .int r_1]) (rest := []) F (c_X2_valueAt l hL_a0 hK_a0 hp H.size) (cwV (C := RX2) 2 hts (wg_V wm_RX2_100 wy_X2_valueAt) rfl rfl rfl (by decide +kernel) ⟨Nat.le_of_ble_eq_true rfl, Nat.le_of_ble_eq_true rfl⟩) (w_preV hK hW hL_a0 hK_a0 (by decide) rfl) rfl rfl hl.1 rfl (lv_room (Nat.le_of_ble_eq_true rfl)) dX2_countMovesOfBlack_14 ⟨Nat.le_of_ble_eq_true rfl, Nat.le_of_ble_eq_true rfl⟩) hW (fun r_3 S_4 H locs hp hW => ?_)
  obtain ⟨hX_S_4, hp⟩ := hp
  refine W.widen (k := 0) (n := 0) (by decide) (by decide) ?_
  have hE := hE.trans hX_S_4
  have hK_a0 : sK S_4 a0 = 7 := (hX_S_4.2 a0 hL_a0).1.trans hK_a0
  have hL_a0 : wM D S_4 a0 := hX_S_4.M hL_a0
  refine lv_bipush (v := (-2)) hx hb dX2_countMovesOfBlack_17 (by decide) ?_
  refine lv_icmp_eq (tgt := 37) hx hb dX2_countMovesOfBlack_19 (by decide) (fun c_5 => ?_) (fun c_5 => ?_)
  · replace hp := hp.1 c_5
    exact t_X2_countMovesOfBlack_37 F hr hlocks hK hp hW hE (lv_sub hl [] rfl)
  · replace hp := hp.2 c_5
    refine lv_iload hx hb dX2_countMovesOfBlack_22 (lv_at hl 0 rfl) ?_
    refine lv_if_lt (tgt := 37) hx hb dX2_countMovesOfBlack_24 (by decide) (fun c_6 => ?_) (fun c_6 => ?_)
    · replace hp := hp.1 c_6
      exact t_X2_countMovesOfBlack_37 F hr hlocks hK hp hW hE (lv_sub hl [] rfl)
    · replace hp := hp.2 c_6
      refine lv_iload hx hb dX2_countMovesOfBlack_27 (lv_at hl 0 rfl) ?_
      refine lv_aload_n hx hb dX2_countMovesOfBlack_29 rfl (lv_at hl 1 rfl) ?_
      obtain ⟨y_7, ey_7, hL_y_7, hK_y_7, hp⟩ := hp
      refine w_get (k := 7) (f := 6) (T := TX2) (v := .ref y_7) F hK hW hL_a0 hK_a0 (by decide) rfl rfl (by decide) i_7 k_28 (by rw [show wv 7 6 S_4 a0 = va_rf (sR S_4 a0 6) from rfl, ey_7]; rfl) dX2_countMovesOfBlack_30 ?_
      refine w_len F hK hW hL_y_7 hK_y_7 (by decide) dX2_countMovesOfBlack_33 ?_
      refine lv_icmp_lt (tgt := 38) hx hb dX2_countMovesOfBlack_34 (by decide) (fun c_8 => ?_) (fun c_8 => ?_)
      · replace hp := hp.1 c_8
        refine lv_aload_n hx hb dX2_countMovesOfBlack_38 rfl (lv_at hl 1 rfl) ?_
        obtain ⟨y_9, ey_9, hL_y_9, hK_y_9, hp⟩ := hp
        refine w_get (k := 7) (f := 0) (T := TX2) (v := .ref y_9) F hK hW hL_a0 hK_a0 (by decide) rfl rfl (by decide) i_7 k_35 (by rw [show wv 7 0 S_4 a0 = va_rf (sR S_4 a0 0) from rfl, ey_9]; rfl) dX2_countMovesOfBlack_39 ?_
        refine lv_iconst (v := 1) hx hb dX2_countMovesOfBlack_42 (by decide) ?_
        refine lv_iload_n hx hb dX2_countMovesOfBlack_43 rfl (lv_at hl 4 rfl) ?_
        refine lv_lconst (v := 0) hx hb dX2_countMovesOfBlack_44 (by decide) ?_
        refine w_callJ (va_runV (As := [.int (1 : Int32), .int x3, .long (0 : Int64)]) (rest := []) F (c_X0_reach l hL_y_9 hK_y_9 hp H.size) (cwV (C := RX0) 3 hts (wg_V wm_RX2_130 wy_X0_reach) rfl rfl rfl (by decide +kernel) ⟨Nat.le_of_ble_eq_true rfl, Nat.le_of_ble_eq_true rfl⟩) (w_preV hK hW hL_y_9 hK_y_9 (by decide) rfl) rfl rfl hl.1 rfl (lv_room (Nat.le_of_ble_eq_true rfl)) dX2_countMovesOfBlack_45 ⟨Nat.le_of_ble_eq_true rfl, Nat.le_of_ble_eq_true rfl⟩) hW (fun r_10 S_11 H locs hp hW => ?_)
        obtain ⟨hX_S_11, hp⟩ := hp
        refine W.widen (k := 0) (n := 0) (by decide) (by decide) ?_
        have hE := hE.trans hX_S_11
        have hK_a0 : sK S_11 a0 = 7 := (hX_S_11.2 a0 hL_a0).1.trans hK_a0
        have hL_a0 : wM D S_11 a0 := hX_S_11.M hL_a0
        refine lv_lstore (lv' := [(6, .long r_10), (5, .int r_1), (0, .ref a0), (1, .int x1), (2, .int x2), (3, .int x3), (4, .int x4)]) hx hb dX2_countMovesOfBlack_48 hl (by decide) rfl (fun ls hl => ?_)
        refine lv_iconst (v := 0) hx hb dX2_countMovesOfBlack_50 (by decide) ?_
        refine lv_istore (lv' := [(8, .int (0 : Int32)), (6, .long r_10), (5, .int r_1), (0, .ref a0), (1, .int x1), (2, .int x2), (3, .int x3), (4, .int x4)]) hx hb dX2_countMovesOfBlack_51 hl (by decide) rfl (fun ls hl => ?_)
        refine lv_iconst (v := 0) hx hb dX2_countMovesOfBlack_53 (by decide) ?_
        refine lv_istore (lv' := [(9, .int (0 : Int32)), (8, .int (0 : Int32)), (6, .long r_10), (5, .int r_1), (0, .ref a0), (1, .int x1), (2, .int x2), (3, .int x3), (4, .int x4)]) hx hb dX2_countMovesOfBlack_54 hl (by decide) rfl (fun ls hl => ?_)
        obtain ⟨n_12, hp⟩ := hp
        exact t_X2_countMovesOfBlack_56 F hr hlocks hK n_12 hp hW hE (lv_sub hl [4, 5, 6, 7, 8, 3, 2, 1, 0] rfl) hL_a0 hK_a0
      · replace hp := hp.2 c_8
        exact t_X2_countMovesOfBlack_37 F hr hlocks hK hp hW hE (lv_sub hl [] rfl)
set_option maxHeartbeats 4000000 in
set_option maxRecDepth 100000 in
theorem c_X2_countMovesOfBlack (l : Launch) {D : wD} {cy : Nat → ClassId} {X : va_W} {S0 : wS} {post : wS → Prop} {a0 : Nat} {x1 : Int32} {x2 : Int32} {x3 : Int32} {x4 : Int32} (hL_a0 : wM D S0 a0) (hK_a0 : sK S0 a0 = 7) (hp : wp_X2_countMovesOfBlack D post S0 a0 x1 x2 x3 x4) : mV D cy X l yX2_countMovesOfBlack wz_X2_countMovesOfBlack r_X2_countMovesOfBlack [.ref a0, .int x1, .int x2, .int x3, .int x4] S0 (fun S9 => wX D S0 S9 ∧ post S9) := by
  intro sz
  refine Met.ofW (cc := cX2_countMovesOfBlack) (maxL := 10) (ret := none) (by decide) rfl ?_
  intro p e s m args below meth c s₁ B hml hv
  obtain ⟨rfl, hsz, hP, hK, hD0, hRO⟩ := hv
  have hts := atoms_spec (ws := wz_X2_countMovesOfBlack) B.pre
  have hown : s.vm.findClass RX2 = some m.cls := findClass_of_methodNamed B.named
  subst hsz
  have hD := hD0.self (sz := s.heap.size)
  have F : CallFix p m c cX2_countMovesOfBlack 10 s _ wz_X2_countMovesOfBlack RX2 := ⟨B.exec, B.bytes, hml, hown, hts⟩
  have hr := B.returns
  have hlocks := B.notSynchronized
  generalize hAe : va_A (wL cy X S0) s.heap.size = A at hD hK ⊢
  have hA : ∀ q, s.heap.size ≤ q → A q := fun q h => by rw [← hAe]; exact Or.inr h
  have hW : wO D cy X A s.heap S0 s.heap [] := ⟨hP, hD, va_S.rf, hA, hRO⟩
  have hl := lv_entry ([.ref a0, .int x1, .int x2, .int x3, .int x4]) (n := 10) (Nat.le_of_ble_eq_true rfl)
  rw [lg_entry_eq]
  generalize (lg_sl ([.ref a0, .int x1, .int x2, .int x3, .int x4]) ++ List.replicate (10 - (lg_sl ([.ref a0, .int x1, .int x2, .int x3, .int x4])).length) Slot.unset).toArray = ls at hl ⊢
  have hl : lv_has ls 10 [(0, .ref a0), (1, .int x1), (2, .int x2), (3, .int x3), (4, .int x4)] := hl
  unfold wp_X2_countMovesOfBlack at hp
  exact t_X2_countMovesOfBlack_0 F hr hlocks hK hp hW wX.rf (lv_sub hl [0, 1, 2, 3, 4] rfl) hL_a0 hK_a0
def wp_X2_mark_115 (D : wD) (post : wS → Prop)  (S : wS) (b0 : Nat) (t1 : Int32) (t2 : Int32) (t3 : Int32) : Prop :=
wp_X2_setValue D (fun S_2 => 
post S_2) S b0 t1 t2 t3
def wp_X2_mark_113 (D : wD) (post : wS → Prop)  (S : wS) (b0 : Nat) (t1 : Int32) (t2 : Int32) : Prop :=
wp_X2_mark_115 D post S b0 t1 t2 (-2 : Int32)
def wp_X2_mark_86 (D : wD) (post : wS → Prop)  (S : wS) (a0 : Nat) (x1 : Int32) (x2 : Int32) (x3 : Int32) (x4 : Int32) (x5 : Int32) (x6 : Int32) (b0 : Nat) (t1 : Int32) (t2 : Int32) (t3 : Int32) : Prop :=
wp_X2_setValue D (fun S_2 => 
wp_X2_indexOf D (fun r_3 S_4 => 
((x5 = 0 → wp_X2_mark_113 D post S_4 a0 x1 r_3) ∧
 (¬ x5 = 0 → ((¬ x6 = 0 → wp_X2_mark_113 D post S_4 a0 x1 r_3) ∧
 (x6 = 0 → wp_X2_mark_115 D post S_4 a0 x1 r_3 (-1 : Int32)))))) S_2 (1 : Int32) x2 x3 x4) S b0 t1 t2 t3
def wp_X2_mark_63 (D : wD) (post : wS → Prop)  (S : wS) (a0 : Nat) (x1 : Int32) (x2 : Int32) (x3 : Int32) (x4 : Int32) (x5 : Int32) (t0 : Int32) : Prop :=
wp_X2_indexOf D (fun r_1 S_2 => 
((x5 = 0 → wp_X2_mark_86 D post S_2 a0 x1 x2 x3 x4 x5 t0 a0 x1 r_1 (-2 : Int32)) ∧
 (¬ x5 = 0 → wp_X2_mark_86 D post S_2 a0 x1 x2 x3 x4 x5 t0 a0 x1 r_1 (-1 : Int32)))) S (0 : Int32) x2 x3 x4
def wp_X2_mark_62 (D : wD) (post : wS → Prop)  (S : wS) (a0 : Nat) (x1 : Int32) (x2 : Int32) (x3 : Int32) (x4 : Int32) (x5 : Int32) : Prop :=
wp_X2_mark_63 D post S a0 x1 x2 x3 x4 x5 (0 : Int32)
def wp_X2_mark_39 (D : wD) (post : wS → Prop)  (S : wS) (a0 : Nat) (x1 : Int32) (x2 : Int32) (x3 : Int32) (x4 : Int32) (t0 : Int32) : Prop :=
((t0 = 0 → wp_X2_mark_62 D post S a0 x1 x2 x3 x4 t0) ∧
 (¬ t0 = 0 → wp_X2_isChecking D (fun r_2 S_3 => 
((r_2 = 0 → wp_X2_mark_62 D post S_3 a0 x1 x2 x3 x4 t0) ∧
 (¬ r_2 = 0 → wp_X2_mark_63 D post S_3 a0 x1 x2 x3 x4 t0 (1 : Int32)))) S a0 x1 x2 x3 x4))
def wp_X2_mark_38 (D : wD) (post : wS → Prop)  (S : wS) (a0 : Nat) (x1 : Int32) (x2 : Int32) (x3 : Int32) (x4 : Int32) : Prop :=
wp_X2_mark_39 D post S a0 x1 x2 x3 x4 (0 : Int32)
def wp_X2_mark_0 (D : wD) (post : wS → Prop)  (S : wS) (a0 : Nat) (x1 : Int32) (x2 : Int32) (x3 : Int32) (x4 : Int32) : Prop :=
((x2 = x3 → wp_X2_mark_38 D post S a0 x1 x2 x3 x4) ∧
 (¬ x2 = x3 → ((x2 = x4 → wp_X2_mark_38 D post S a0 x1 x2 x3 x4) ∧
 (¬ x2 = x4 → ((x3 = x4 → wp_X2_mark_38 D post S a0 x1 x2 x3 x4) ∧
 (¬ x3 = x4 → ∃ y_4 : Nat, sR S a0 0 = some y_4 ∧ wM D S y_4 ∧ sK S y_4 = 5 ∧
wp_X0_reach D (fun r_5 S_6 => 
wp_X11_contains D (fun r_7 S_8 => 
((¬ r_7 = 0 → wp_X2_mark_38 D post S_8 a0 x1 x2 x3 x4) ∧
 (r_7 = 0 → wp_X2_mark_39 D post S_8 a0 x1 x2 x3 x4 (1 : Int32)))) S_6 r_5 x3) S y_4 (1 : Int32) x2 (0 : Int64)))))))
abbrev r_X2_mark : Room := { frames := 3, cells := 0, slots := 0, locals := 80 }
def wp_X2_mark (D : wD) (post : wS → Prop) (S : wS) (a0 : Nat) (x1 : Int32) (x2 : Int32) (x3 : Int32) (x4 : Int32) : Prop := wp_X2_mark_0 D post S a0 x1 x2 x3 x4
set_option maxHeartbeats 4000000 in
set_option maxRecDepth 100000 in
theorem t_X2_mark_115 {p : Program} {l : Launch} {e : Env} {s : State} {m : MethodId} {args : Array Value} {below : List Frame} {meth : Method} {c : Code} {D : wD} {cy : Nat → ClassId} {X : va_W} {A : Nat → Prop} {S0 : wS} {post : wS → Prop} (F : CallFix p m c cX2_mark 7 s args wz_X2_mark RX2) (hr : meth.sig.returnType = none) (hlocks : meth.locks = false) (hK : wK D cy A s) : ∀ {S : wS} {H : Heap} {locs : List Loc} {ls : Array Slot} {b0 : Nat} {t1 : Int32} {t2 : Int32} {t3 : Int32}, wp_X2_mark_115 D post S b0 t1 t2 t3 → wO D cy X A s.heap S H locs → wX D S0 S → lv_has ls 7 [] → wM D S b0 → sK S b0 = 7 → W p l e r_X2_mark s m args below meth c H locs 0 0 (MQ below (va_Qv (fun S9 => wX D S0 S9 ∧ post S9) (wB D cy X A) A) args s 0 0 A) (F0 m 115 ls [.int t3, .int t2, .int t1, .ref b0]) := by
  obtain ⟨hx, hb, hml, hown, hts⟩ := id F
  have hwg : ∀ w ∈ WG, w.before args s = true := fun w h => hts w (List.mem_cons_of_mem _ h)
  intro S H locs ls b0 t1 t2 t3 hp hW hE hl hL_b0 hK_b0
  unfold wp_X2_mark_115 at hp
  refine w_callV (va_runV (As := [.int t1, .int t2, .int t3]) (rest := []) F (c_X2_setValue l hL_b0 hK_b0 hp H.size) (cwV (C := RX2) 3 hts (wg_V wm_RX2_142 wy_X2_setValue) rfl rfl rfl (by decide +kernel) ⟨Nat.le_of_ble_eq_true rfl, Nat.le_of_ble_eq_true rfl⟩) (w_preV hK hW hL_b0 hK_b0 (by decide) rfl) rfl rfl hl.1 rfl (lv_room (Nat.le_of_ble_eq_true rfl)) dX2_mark_115 ⟨Nat.le_of_ble_eq_true rfl, Nat.le_of_ble_eq_true rfl⟩) hW (fun S_2 H locs hp hW => ?_)
  obtain ⟨hX_S_2, hp⟩ := hp
  refine W.widen (k := 0) (n := 0) (by decide) (by decide) ?_
  have hE := hE.trans hX_S_2
  exact w_vret hx hb hr hlocks hW ⟨hE, hp⟩ dX2_mark_118
set_option maxHeartbeats 4000000 in
set_option maxRecDepth 100000 in
theorem t_X2_mark_113 {p : Program} {l : Launch} {e : Env} {s : State} {m : MethodId} {args : Array Value} {below : List Frame} {meth : Method} {c : Code} {D : wD} {cy : Nat → ClassId} {X : va_W} {A : Nat → Prop} {S0 : wS} {post : wS → Prop} (F : CallFix p m c cX2_mark 7 s args wz_X2_mark RX2) (hr : meth.sig.returnType = none) (hlocks : meth.locks = false) (hK : wK D cy A s) : ∀ {S : wS} {H : Heap} {locs : List Loc} {ls : Array Slot} {b0 : Nat} {t1 : Int32} {t2 : Int32}, wp_X2_mark_113 D post S b0 t1 t2 → wO D cy X A s.heap S H locs → wX D S0 S → lv_has ls 7 [] → wM D S b0 → sK S b0 = 7 → W p l e r_X2_mark s m args below meth c H locs 0 0 (MQ below (va_Qv (fun S9 => wX D S0 S9 ∧ post S9) (wB D cy X A) A) args s 0 0 A) (F0 m 113 ls [.int t2, .int t1, .ref b0]) := by
  obtain ⟨hx, hb, hml, hown, hts⟩ := id F
  have hwg : ∀ w ∈ WG, w.before args s = true := fun w h => hts w (List.mem_cons_of_mem _ h)
  intro S H locs ls b0 t1 t2 hp hW hE hl hL_b0 hK_b0
  unfold wp_X2_mark_113 at hp
  refine lv_bipush (v := (-2)) hx hb dX2_mark_113 (by decide) ?_
  exact t_X2_mark_115 F hr hlocks hK hp hW hE (lv_sub hl [] rfl) hL_b0 hK_b0
set_option maxHeartbeats 4000000 in
set_option maxRecDepth 100000 in
theorem t_X2_mark_86 {p : Program} {l : Launch} {e : Env} {s : State} {m : MethodId} {args : Array Value} {below : List Frame} {meth : Method} {c : Code} {D : wD} {cy : Nat → ClassId} {X : va_W} {A : Nat → Prop} {S0 : wS} {post : wS → Prop} (F : CallFix p m c cX2_mark 7 s args wz_X2_mark RX2) (hr : meth.sig.returnType = none) (hlocks : meth.locks = false) (hK : wK D cy A s) : ∀ {S : wS} {H : Heap} {locs : List Loc} {ls : Array Slot} {a0 : Nat} {x1 : Int32} {x2 : Int32} {x3 : Int32} {x4 : Int32} {x5 : Int32} {x6 : Int32} {b0 : Nat} {t1 : Int32} {t2 : Int32} {t3 : Int32}, wp_X2_mark_86 D post S a0 x1 x2 x3 x4 x5 x6 b0 t1 t2 t3 → wO D cy X A s.heap S H locs → wX D S0 S → lv_has ls 7 [(0, .ref a0), (1, .int x1), (2, .int x2), (3, .int x3), (4, .int x4), (5, .int x5), (6, .int x6)] → wM D S a0 → sK S a0 = 7 → wM D S b0 → sK S b0 = 7 → W p l e r_X2_mark s m args below meth c H locs 0 0 (MQ below (va_Qv (fun S9 => wX D S0 S9 ∧ post S9) (wB D cy X A) A) args s 0 0 A) (F0 m 86 ls [.int t3, .int t2, .int t1, .ref b0]) := by
  obtain ⟨hx, hb, hml, hown, hts⟩ := id F
  have hwg : ∀ w ∈ WG, w.before args s = true := fun w h => hts w (List.mem_cons_of_mem _ h)
  intro S H locs ls a0 x1 x2 x3 x4 x5 x6 b0 t1 t2 t3 hp hW hE hl hL_a0 hK_a0 hL_b0 hK_b0
  unfold wp_X2_mark_86 at hp
  refine w_callV (va_runV (As := [.int t1, .int t2, .int t3]) (rest := []) F (c_X2_setValue l hL_b0 hK_b0 hp H.size) (cwV (C := RX2) 3 hts (wg_V wm_RX2_142 wy_X2_setValue) rfl rfl rfl (by decide +kernel) ⟨Nat.le_of_ble_eq_true rfl, Nat.le_of_ble_eq_true rfl⟩) (w_preV hK hW hL_b0 hK_b0 (by decide) rfl) rfl rfl hl.1 rfl (lv_room (Nat.le_of_ble_eq_true rfl)) dX2_mark_86 ⟨Nat.le_of_ble_eq_true rfl, Nat.le_of_ble_eq_true rfl⟩) hW (fun S_2 H locs hp hW => ?_)
  obtain ⟨hX_S_2, hp⟩ := hp
  refine W.widen (k := 0) (n := 0) (by decide) (by decide) ?_
  have hE := hE.trans hX_S_2
  have hK_a0 : sK S_2 a0 = 7 := (hX_S_2.2 a0 hL_a0).1.trans hK_a0
  have hL_a0 : wM D S_2 a0 := hX_S_2.M hL_a0
  refine lv_aload_n hx hb dX2_mark_89 rfl (lv_at hl 0 rfl) ?_
  refine lv_iload_n hx hb dX2_mark_90 rfl (lv_at hl 1 rfl) ?_
  refine lv_iconst (v := 1) hx hb dX2_mark_91 (by decide) ?_
  refine lv_iload_n hx hb dX2_mark_92 rfl (lv_at hl 2 rfl) ?_
  refine lv_iload_n hx hb dX2_mark_93 rfl (lv_at hl 3 rfl) ?_
  refine lv_iload hx hb dX2_mark_94 (lv_at hl 4 rfl) ?_
  refine w_callI (va_runS (As := [.int (1 : Int32), .int x2, .int x3, .int x4]) (rest := [.int x1, .ref a0]) F (c_X2_indexOf l hp H.size) (va_cwS 4 hts (wg_S wm_RX2_96 wy_X2_indexOf) rfl rfl rfl (by decide +kernel) ⟨Nat.le_of_ble_eq_true rfl, Nat.le_of_ble_eq_true rfl⟩) (w_preS hK hW) rfl rfl hl.1 rfl (lv_room (Nat.le_of_ble_eq_true rfl)) dX2_mark_96 ⟨Nat.le_of_ble_eq_true rfl, Nat.le_of_ble_eq_true rfl⟩) hW (fun r_3 S_4 H locs hp hW => ?_)
  obtain ⟨hX_S_4, hp⟩ := hp
  refine W.widen (k := 0) (n := 0) (by decide) (by decide) ?_
  have hE := hE.trans hX_S_4
  have hK_a0 : sK S_4 a0 = 7 := (hX_S_4.2 a0 hL_a0).1.trans hK_a0
  have hL_a0 : wM D S_4 a0 := hX_S_4.M hL_a0
  refine lv_iload hx hb dX2_mark_99 (lv_at hl 5 rfl) ?_
  refine lv_if_eq (tgt := 113) hx hb dX2_mark_101 (by decide) (fun c_5 => ?_) (fun c_5 => ?_)
  · replace hp := hp.1 c_5
    exact t_X2_mark_113 F hr hlocks hK hp hW hE (lv_sub hl [] rfl) hL_a0 hK_a0
  · replace hp := hp.2 c_5
    refine lv_iload hx hb dX2_mark_104 (lv_at hl 6 rfl) ?_
    refine lv_if_ne (tgt := 113) hx hb dX2_mark_106 (by decide) (fun c_6 => ?_) (fun c_6 => ?_)
    · replace hp := hp.1 c_6
      exact t_X2_mark_113 F hr hlocks hK hp hW hE (lv_sub hl [] rfl) hL_a0 hK_a0
    · replace hp := hp.2 c_6
      refine lv_iconst (v := (-1)) hx hb dX2_mark_109 (by decide) ?_
      refine lv_goto (tgt := 115) hx hb dX2_mark_110 (by decide) ?_
      exact t_X2_mark_115 F hr hlocks hK hp hW hE (lv_sub hl [] rfl) hL_a0 hK_a0
set_option maxHeartbeats 4000000 in
set_option maxRecDepth 100000 in
theorem t_X2_mark_63 {p : Program} {l : Launch} {e : Env} {s : State} {m : MethodId} {args : Array Value} {below : List Frame} {meth : Method} {c : Code} {D : wD} {cy : Nat → ClassId} {X : va_W} {A : Nat → Prop} {S0 : wS} {post : wS → Prop} (F : CallFix p m c cX2_mark 7 s args wz_X2_mark RX2) (hr : meth.sig.returnType = none) (hlocks : meth.locks = false) (hK : wK D cy A s) : ∀ {S : wS} {H : Heap} {locs : List Loc} {ls : Array Slot} {a0 : Nat} {x1 : Int32} {x2 : Int32} {x3 : Int32} {x4 : Int32} {x5 : Int32} {t0 : Int32}, wp_X2_mark_63 D post S a0 x1 x2 x3 x4 x5 t0 → wO D cy X A s.heap S H locs → wX D S0 S → lv_has ls 7 [(0, .ref a0), (1, .int x1), (2, .int x2), (3, .int x3), (4, .int x4), (5, .int x5)] → wM D S a0 → sK S a0 = 7 → W p l e r_X2_mark s m args below meth c H locs 0 0 (MQ below (va_Qv (fun S9 => wX D S0 S9 ∧ post S9) (wB D cy X A) A) args s 0 0 A) (F0 m 63 ls [.int t0]) := by
  obtain ⟨hx, hb, hml, hown, hts⟩ := id F
  have hwg : ∀ w ∈ WG, w.before args s = true := fun w h => hts w (List.mem_cons_of_mem _ h)
  intro S H locs ls a0 x1 x2 x3 x4 x5 t0 hp hW hE hl hL_a0 hK_a0
  unfold wp_X2_mark_63 at hp
  refine lv_istore (lv' := [(6, .int t0), (0, .ref a0), (1, .int x1), (2, .int x2), (3, .int x3), (4, .int x4), (5, .int x5)]) hx hb dX2_mark_63 hl (by decide) rfl (fun ls hl => ?_)
  refine lv_aload_n hx hb dX2_mark_65 rfl (lv_at hl 1 rfl) ?_
  refine lv_iload_n hx hb dX2_mark_66 rfl (lv_at hl 2 rfl) ?_
  refine lv_iconst (v := 0) hx hb dX2_mark_67 (by decide) ?_
  refine lv_iload_n hx hb dX2_mark_68 rfl (lv_at hl 3 rfl) ?_
  refine lv_iload_n hx hb dX2_mark_69 rfl (lv_at hl 4 rfl) ?_
  refine lv_iload hx hb dX2_mark_70 (lv_at hl 5 rfl) ?_
  refine w_callI (va_runS (As := [.int (0 : Int32), .int x2, .int x3, .int x4]) (rest := [.int x1, .ref a0]) F (c_X2_indexOf l hp H.size) (va_cwS 4 hts (wg_S wm_RX2_96 wy_X2_indexOf) rfl rfl rfl (by decide +kernel) ⟨Nat.le_of_ble_eq_true rfl, Nat.le_of_ble_eq_true rfl⟩) (w_preS hK hW) rfl rfl hl.1 rfl (lv_room (Nat.le_of_ble_eq_true rfl)) dX2_mark_72 ⟨Nat.le_of_ble_eq_true rfl, Nat.le_of_ble_eq_true rfl⟩) hW (fun r_1 S_2 H locs hp hW => ?_)
  obtain ⟨hX_S_2, hp⟩ := hp
  refine W.widen (k := 0) (n := 0) (by decide) (by decide) ?_
  have hE := hE.trans hX_S_2
  have hK_a0 : sK S_2 a0 = 7 := (hX_S_2.2 a0 hL_a0).1.trans hK_a0
  have hL_a0 : wM D S_2 a0 := hX_S_2.M hL_a0
  refine lv_iload hx hb dX2_mark_75 (lv_at hl 6 rfl) ?_
  refine lv_if_eq (tgt := 84) hx hb dX2_mark_77 (by decide) (fun c_3 => ?_) (fun c_3 => ?_)
  · replace hp := hp.1 c_3
    refine lv_bipush (v := (-2)) hx hb dX2_mark_84 (by decide) ?_
    exact t_X2_mark_86 F hr hlocks hK hp hW hE (lv_sub hl [1, 2, 3, 4, 5, 6, 0] rfl) hL_a0 hK_a0 hL_a0 hK_a0
  · replace hp := hp.2 c_3
    refine lv_iconst (v := (-1)) hx hb dX2_mark_80 (by decide) ?_
    refine lv_goto (tgt := 86) hx hb dX2_mark_81 (by decide) ?_
    exact t_X2_mark_86 F hr hlocks hK hp hW hE (lv_sub hl [1, 2, 3, 4, 5, 6, 0] rfl) hL_a0 hK_a0 hL_a0 hK_a0
set_option maxHeartbeats 4000000 in
set_option maxRecDepth 100000 in
theorem t_X2_mark_62 {p : Program} {l : Launch} {e : Env} {s : State} {m : MethodId} {args : Array Value} {below : List Frame} {meth : Method} {c : Code} {D : wD} {cy : Nat → ClassId} {X : va_W} {A : Nat → Prop} {S0 : wS} {post : wS → Prop} (F : CallFix p m c cX2_mark 7 s args wz_X2_mark RX2) (hr : meth.sig.returnType = none) (hlocks : meth.locks = false) (hK : wK D cy A s) : ∀ {S : wS} {H : Heap} {locs : List Loc} {ls : Array Slot} {a0 : Nat} {x1 : Int32} {x2 : Int32} {x3 : Int32} {x4 : Int32} {x5 : Int32}, wp_X2_mark_62 D post S a0 x1 x2 x3 x4 x5 → wO D cy X A s.heap S H locs → wX D S0 S → lv_has ls 7 [(0, .ref a0), (1, .int x1), (2, .int x2), (3, .int x3), (4, .int x4), (5, .int x5)] → wM D S a0 → sK S a0 = 7 → W p l e r_X2_mark s m args below meth c H locs 0 0 (MQ below (va_Qv (fun S9 => wX D S0 S9 ∧ post S9) (wB D cy X A) A) args s 0 0 A) (F0 m 62 ls []) := by
  obtain ⟨hx, hb, hml, hown, hts⟩ := id F
  have hwg : ∀ w ∈ WG, w.before args s = true := fun w h => hts w (List.mem_cons_of_mem _ h)
  intro S H locs ls a0 x1 x2 x3 x4 x5 hp hW hE hl hL_a0 hK_a0
  unfold wp_X2_mark_62 at hp
  refine lv_iconst (v := 0) hx hb dX2_mark_62 (by decide) ?_
  exact t_X2_mark_63 F hr hlocks hK hp hW hE (lv_sub hl [0, 1, 2, 3, 4, 5] rfl) hL_a0 hK_a0
set_option maxHeartbeats 4000000 in
set_option maxRecDepth 100000 in
theorem t_X2_mark_39 {p : Program} {l : Launch} {e : Env} {s : State} {m : MethodId} {args : Array Value} {below : List Frame} {meth : Method} {c : Code} {D : wD} {cy : Nat → ClassId} {X : va_W} {A : Nat → Prop} {S0 : wS} {post : wS → Prop} (F : CallFix p m c cX2_mark 7 s args wz_X2_mark RX2) (hr : meth.sig.returnType = none) (hlocks : meth.locks = false) (hK : wK D cy A s) : ∀ {S : wS} {H : Heap} {locs : List Loc} {ls : Array Slot} {a0 : Nat} {x1 : Int32} {x2 : Int32} {x3 : Int32} {x4 : Int32} {t0 : Int32}, wp_X2_mark_39 D post S a0 x1 x2 x3 x4 t0 → wO D cy X A s.heap S H locs → wX D S0 S → lv_has ls 7 [(0, .ref a0), (1, .int x1), (2, .int x2), (3, .int x3), (4, .int x4)] → wM D S a0 → sK S a0 = 7 → W p l e r_X2_mark s m args below meth c H locs 0 0 (MQ below (va_Qv (fun S9 => wX D S0 S9 ∧ post S9) (wB D cy X A) A) args s 0 0 A) (F0 m 39 ls [.int t0]) := by
  obtain ⟨hx, hb, hml, hown, hts⟩ := id F
  have hwg : ∀ w ∈ WG, w.before args s = true := fun w h => hts w (List.mem_cons_of_mem _ h)
  intro S H locs ls a0 x1 x2 x3 x4 t0 hp hW hE hl hL_a0 hK_a0
  unfold wp_X2_mark_39 at hp
  refine lv_istore (lv' := [(5, .int t0), (0, .ref a0), (1, .int x1), (2, .int x2), (3, .int x3), (4, .int x4)]) hx hb dX2_mark_39 hl (by decide) rfl (fun ls hl => ?_)
  refine lv_iload hx hb dX2_mark_41 (lv_at hl 0 rfl) ?_
  refine lv_if_eq (tgt := 62) hx hb dX2_mark_43 (by decide) (fun c_1 => ?_) (fun c_1 => ?_)
  · replace hp := hp.1 c_1
    exact t_X2_mark_62 F hr hlocks hK hp hW hE (lv_sub hl [1, 2, 3, 4, 5, 0] rfl) hL_a0 hK_a0
  · replace hp := hp.2 c_1
    refine lv_aload_n hx hb dX2_mark_46 rfl (lv_at hl 1 rfl) ?_
    refine lv_iload_n hx hb dX2_mark_47 rfl (lv_at hl 2 rfl) ?_
    refine lv_iload_n hx hb dX2_mark_48 rfl (lv_at hl 3 rfl) ?_
    refine lv_iload_n hx hb dX2_mark_49 rfl (lv_at hl 4 rfl) ?_
    refine lv_iload hx hb dX2_mark_50 (lv_at hl 5 rfl) ?_
    refine w_callI (va_runV (As := [.int x1, .int x2, .int x3, .int x4]) (rest := []) F (c_X2_isChecking l hL_a0 hK_a0 hp H.size) (cwV (C := RX2) 4 hts (wg_V wm_RX2_138 wy_X2_isChecking) rfl rfl rfl (by decide +kernel) ⟨Nat.le_of_ble_eq_true rfl, Nat.le_of_ble_eq_true rfl⟩) (w_preV hK hW hL_a0 hK_a0 (by decide) rfl) rfl rfl hl.1 rfl (lv_room (Nat.le_of_ble_eq_true rfl)) dX2_mark_52 ⟨Nat.le_of_ble_eq_true rfl, Nat.le_of_ble_eq_true rfl⟩) hW (fun r_2 S_3 H locs hp hW => ?_)
    obtain ⟨hX_S_3, hp⟩ := hp
    refine W.widen (k := 0) (n := 0) (by decide) (by decide) ?_
    have hE := hE.trans hX_S_3
    have hK_a0 : sK S_3 a0 = 7 := (hX_S_3.2 a0 hL_a0).1.trans hK_a0
    have hL_a0 : wM D S_3 a0 := hX_S_3.M hL_a0
    refine lv_if_eq (tgt := 62) hx hb dX2_mark_55 (by decide) (fun c_4 => ?_) (fun c_4 => ?_)
    · replace hp := hp.1 c_4
      exact t_X2_mark_62 F hr hlocks hK hp hW hE (lv_sub hl [1, 2, 3, 4, 5, 0] rfl) hL_a0 hK_a0
    · replace hp := hp.2 c_4
      refine lv_iconst (v := 1) hx hb dX2_mark_58 (by decide) ?_
      refine lv_goto (tgt := 63) hx hb dX2_mark_59 (by decide) ?_
      exact t_X2_mark_63 F hr hlocks hK hp hW hE (lv_sub hl [1, 2, 3, 4, 5, 0] rfl) hL_a0 hK_a0
set_option maxHeartbeats 4000000 in
set_option maxRecDepth 100000 in
theorem t_X2_mark_38 {p : Program} {l : Launch} {e : Env} {s : State} {m : MethodId} {args : Array Value} {below : List Frame} {meth : Method} {c : Code} {D : wD} {cy : Nat → ClassId} {X : va_W} {A : Nat → Prop} {S0 : wS} {post : wS → Prop} (F : CallFix p m c cX2_mark 7 s args wz_X2_mark RX2) (hr : meth.sig.returnType = none) (hlocks : meth.locks = false) (hK : wK D cy A s) : ∀ {S : wS} {H : Heap} {locs : List Loc} {ls : Array Slot} {a0 : Nat} {x1 : Int32} {x2 : Int32} {x3 : Int32} {x4 : Int32}, wp_X2_mark_38 D post S a0 x1 x2 x3 x4 → wO D cy X A s.heap S H locs → wX D S0 S → lv_has ls 7 [(0, .ref a0), (1, .int x1), (2, .int x2), (3, .int x3), (4, .int x4)] → wM D S a0 → sK S a0 = 7 → W p l e r_X2_mark s m args below meth c H locs 0 0 (MQ below (va_Qv (fun S9 => wX D S0 S9 ∧ post S9) (wB D cy X A) A) args s 0 0 A) (F0 m 38 ls []) := by
  obtain ⟨hx, hb, hml, hown, hts⟩ := id F
  have hwg : ∀ w ∈ WG, w.before args s = true := fun w h => hts w (List.mem_cons_of_mem _ h)
  intro S H locs ls a0 x1 x2 x3 x4 hp hW hE hl hL_a0 hK_a0
  unfold wp_X2_mark_38 at hp
  refine lv_iconst (v := 0) hx hb dX2_mark_38 (by decide) ?_
  exact t_X2_mark_39 F hr hlocks hK hp hW hE (lv_sub hl [0, 1, 2, 3, 4] rfl) hL_a0 hK_a0
set_option maxHeartbeats 4000000 in
set_option maxRecDepth 100000 in
theorem t_X2_mark_0 {p : Program} {l : Launch} {e : Env} {s : State} {m : MethodId} {args : Array Value} {below : List Frame} {meth : Method} {c : Code} {D : wD} {cy : Nat → ClassId} {X : va_W} {A : Nat → Prop} {S0 : wS} {post : wS → Prop} (F : CallFix p m c cX2_mark 7 s args wz_X2_mark RX2) (hr : meth.sig.returnType = none) (hlocks : meth.locks = false) (hK : wK D cy A s) : ∀ {S : wS} {H : Heap} {locs : List Loc} {ls : Array Slot} {a0 : Nat} {x1 : Int32} {x2 : Int32} {x3 : Int32} {x4 : Int32}, wp_X2_mark_0 D post S a0 x1 x2 x3 x4 → wO D cy X A s.heap S H locs → wX D S0 S → lv_has ls 7 [(0, .ref a0), (1, .int x1), (2, .int x2), (3, .int x3), (4, .int x4)] → wM D S a0 → sK S a0 = 7 → W p l e r_X2_mark s m args below meth c H locs 0 0 (MQ below (va_Qv (fun S9 => wX D S0 S9 ∧ post S9) (wB D cy X A) A) args s 0 0 A) (F0 m 0 ls []) := by
  obtain ⟨hx, hb, hml, hown, hts⟩ := id F
  have hwg : ∀ w ∈ WG, w.before args s = true := fun w h => hts w (List.mem_cons_of_mem _ h)
  have i_7 : ∀ w ∈ u_ws RX2 TX2 8, w ∈ wz_X2_mark := fun w h => List.mem_cons_of_mem _ (wu_7 w h)
  have k_35 := hwg _ wf_RX2_35
  intro S H locs ls a0 x1 x2 x3 x4 hp hW hE hl hL_a0 hK_a0
  unfold wp_X2_mark_0 at hp
  refine lv_iload_n hx hb dX2_mark_0 rfl (lv_at hl 2 rfl) ?_
  refine lv_iload_n hx hb dX2_mark_1 rfl (lv_at hl 3 rfl) ?_
  refine lv_icmp_eq (tgt := 38) hx hb dX2_mark_2 (by decide) (fun c_1 => ?_) (fun c_1 => ?_)
  · replace hp := hp.1 c_1
    exact t_X2_mark_38 F hr hlocks hK hp hW hE (lv_sub hl [0, 1, 2, 3, 4] rfl) hL_a0 hK_a0
  · replace hp := hp.2 c_1
    refine lv_iload_n hx hb dX2_mark_5 rfl (lv_at hl 2 rfl) ?_
    refine lv_iload hx hb dX2_mark_6 (lv_at hl 4 rfl) ?_
    refine lv_icmp_eq (tgt := 38) hx hb dX2_mark_8 (by decide) (fun c_2 => ?_) (fun c_2 => ?_)
    · replace hp := hp.1 c_2
      exact t_X2_mark_38 F hr hlocks hK hp hW hE (lv_sub hl [0, 1, 2, 3, 4] rfl) hL_a0 hK_a0
    · replace hp := hp.2 c_2
      refine lv_iload_n hx hb dX2_mark_11 rfl (lv_at hl 3 rfl) ?_
      refine lv_iload hx hb dX2_mark_12 (lv_at hl 4 rfl) ?_
      refine lv_icmp_eq (tgt := 38) hx hb dX2_mark_14 (by decide) (fun c_3 => ?_) (fun c_3 => ?_)
      · replace hp := hp.1 c_3
        exact t_X2_mark_38 F hr hlocks hK hp hW hE (lv_sub hl [0, 1, 2, 3, 4] rfl) hL_a0 hK_a0
      · replace hp := hp.2 c_3
        refine lv_aload_n hx hb dX2_mark_17 rfl (lv_at hl 0 rfl) ?_
        obtain ⟨y_4, ey_4, hL_y_4, hK_y_4, hp⟩ := hp
        refine w_get (k := 7) (f := 0) (T := TX2) (v := .ref y_4) F hK hW hL_a0 hK_a0 (by decide) rfl rfl (by decide) i_7 k_35 (by rw [show wv 7 0 S a0 = va_rf (sR S a0 0) from rfl, ey_4]; rfl) dX2_mark_18 ?_
        refine lv_iconst (v := 1) hx hb dX2_mark_21 (by decide) ?_
        refine lv_iload_n hx hb dX2_mark_22 rfl (lv_at hl 2 rfl) ?_
        refine lv_lconst (v := 0) hx hb dX2_mark_23 (by decide) ?_
        refine w_callJ (va_runV (As := [.int (1 : Int32), .int x2, .long (0 : Int64)]) (rest := []) F (c_X0_reach l hL_y_4 hK_y_4 hp H.size) (cwV (C := RX0) 3 hts (wg_V wm_RX2_130 wy_X0_reach) rfl rfl rfl (by decide +kernel) ⟨Nat.le_of_ble_eq_true rfl, Nat.le_of_ble_eq_true rfl⟩) (w_preV hK hW hL_y_4 hK_y_4 (by decide) rfl) rfl rfl hl.1 rfl (lv_room (Nat.le_of_ble_eq_true rfl)) dX2_mark_24 ⟨Nat.le_of_ble_eq_true rfl, Nat.le_of_ble_eq_true rfl⟩) hW (fun r_5 S_6 H locs hp hW => ?_)
        obtain ⟨hX_S_6, hp⟩ := hp
        refine W.widen (k := 0) (n := 0) (by decide) (by decide) ?_
        have hE := hE.trans hX_S_6
        have hK_a0 : sK S_6 a0 = 7 := (hX_S_6.2 a0 hL_a0).1.trans hK_a0
        have hL_a0 : wM D S_6 a0 := hX_S_6.M hL_a0
        refine lv_iload_n hx hb dX2_mark_27 rfl (lv_at hl 3 rfl) ?_
        refine w_callI (va_runSN (As := [.long r_5, .int x3]) (rest := []) F (c_X11_contains l hp H.size) ⟨va_cnB (host := "OpeningsCabinet") 2 hts (wg_cons wy_X11_contains.2.2) rfl rfl rfl (hK.2.1 (.methodLinkNest "OpeningsCabinet$Endings" 134 ⟨"OpeningsCabinet", "contains", "(JI)Z"⟩ "OpeningsCabinet") (by decide +kernel)) (hwg _ wy_X11_contains.2.1) ⟨by decide, by decide, by decide +kernel⟩ ⟨Nat.le_of_ble_eq_true rfl, Nat.le_of_ble_eq_true rfl⟩, hwg _ wy_X11_contains.1, trivial⟩ (w_preS hK hW) rfl rfl hl.1 rfl (lv_room (Nat.le_of_ble_eq_true rfl)) dX2_mark_28 ⟨Nat.le_of_ble_eq_true rfl, Nat.le_of_ble_eq_true rfl⟩) hW (fun r_7 S_8 H locs hp hW => ?_)
        obtain ⟨hX_S_8, hp⟩ := hp
        refine W.widen (k := 0) (n := 0) (by decide) (by decide) ?_
        have hE := hE.trans hX_S_8
        have hK_a0 : sK S_8 a0 = 7 := (hX_S_8.2 a0 hL_a0).1.trans hK_a0
        have hL_a0 : wM D S_8 a0 := hX_S_8.M hL_a0
        refine lv_if_ne (tgt := 38) hx hb dX2_mark_31 (by decide) (fun c_9 => ?_) (fun c_9 => ?_)
        · replace hp := hp.1 c_9
          exact t_X2_mark_38 F hr hlocks hK hp hW hE (lv_sub hl [0, 1, 2, 3, 4] rfl) hL_a0 hK_a0
        · replace hp := hp.2 c_9
          refine lv_iconst (v := 1) hx hb dX2_mark_34 (by decide) ?_
          refine lv_goto (tgt := 39) hx hb dX2_mark_35 (by decide) ?_
          exact t_X2_mark_39 F hr hlocks hK hp hW hE (lv_sub hl [0, 1, 2, 3, 4] rfl) hL_a0 hK_a0
set_option maxHeartbeats 4000000 in
set_option maxRecDepth 100000 in
theorem c_X2_mark (l : Launch) {D : wD} {cy : Nat → ClassId} {X : va_W} {S0 : wS} {post : wS → Prop} {a0 : Nat} {x1 : Int32} {x2 : Int32} {x3 : Int32} {x4 : Int32} (hL_a0 : wM D S0 a0) (hK_a0 : sK S0 a0 = 7) (hp : wp_X2_mark D post S0 a0 x1 x2 x3 x4) : mV D cy X l yX2_mark wz_X2_mark r_X2_mark [.ref a0, .int x1, .int x2, .int x3, .int x4] S0 (fun S9 => wX D S0 S9 ∧ post S9) := by
  intro sz
  refine Met.ofW (cc := cX2_mark) (maxL := 7) (ret := none) (by decide) rfl ?_
  intro p e s m args below meth c s₁ B hml hv
  obtain ⟨rfl, hsz, hP, hK, hD0, hRO⟩ := hv
  have hts := atoms_spec (ws := wz_X2_mark) B.pre
  have hown : s.vm.findClass RX2 = some m.cls := findClass_of_methodNamed B.named
  subst hsz
  have hD := hD0.self (sz := s.heap.size)
  have F : CallFix p m c cX2_mark 7 s _ wz_X2_mark RX2 := ⟨B.exec, B.bytes, hml, hown, hts⟩
  have hr := B.returns
  have hlocks := B.notSynchronized
  generalize hAe : va_A (wL cy X S0) s.heap.size = A at hD hK ⊢
  have hA : ∀ q, s.heap.size ≤ q → A q := fun q h => by rw [← hAe]; exact Or.inr h
  have hW : wO D cy X A s.heap S0 s.heap [] := ⟨hP, hD, va_S.rf, hA, hRO⟩
  have hl := lv_entry ([.ref a0, .int x1, .int x2, .int x3, .int x4]) (n := 7) (Nat.le_of_ble_eq_true rfl)
  rw [lg_entry_eq]
  generalize (lg_sl ([.ref a0, .int x1, .int x2, .int x3, .int x4]) ++ List.replicate (7 - (lg_sl ([.ref a0, .int x1, .int x2, .int x3, .int x4])).length) Slot.unset).toArray = ls at hl ⊢
  have hl : lv_has ls 7 [(0, .ref a0), (1, .int x1), (2, .int x2), (3, .int x3), (4, .int x4)] := hl
  unfold wp_X2_mark at hp
  exact t_X2_mark_0 F hr hlocks hK hp hW wX.rf (lv_sub hl [0, 1, 2, 3, 4] rfl) hL_a0 hK_a0
def wp_X2_forEachPlace_69 (D : wD) (post : wS → Prop) (k_16 : wS → Nat → Int32 → Int32 → Int32 → Int32 → Prop) (k_25 : wS → Nat → Int32 → Int32 → Int32 → Int32 → Int32 → Prop) (k_34 : wS → Nat → Int32 → Int32 → Int32 → Int32 → Int32 → Int32 → Prop) (S : wS) (a0 : Nat) (x1 : Int32) (x2 : Int32) (x3 : Int32) (x4 : Int32) (x5 : Int32) (x6 : Int32) : Prop :=
∀ x_1 : Int32, x_1 = x6 + 1 →
k_34 S a0 x1 x2 x3 x4 x5 x_1
def wp_X2_forEachPlace_34 (D : wD) (post : wS → Prop) (k_16 : wS → Nat → Int32 → Int32 → Int32 → Int32 → Prop) (k_25 : wS → Nat → Int32 → Int32 → Int32 → Int32 → Int32 → Prop) : Nat → wS → Nat → Int32 → Int32 → Int32 → Int32 → Int32 → Int32 → Prop
  | 0, _, _, _, _, _, _, _, _ => False
  | n + 1, S, a0, x1, x2, x3, x4, x5, x6 =>
    ((x3 ≤ x6 → ∀ x_2 : Int32, x_2 = x5 + 1 →
    k_25 S a0 x1 x2 x3 x4 x_2) ∧
     (¬ x3 ≤ x6 → ((x2 = 0 → wp_X2_countMovesOfBlack D (fun S_5 => 
    wp_X2_forEachPlace_69 D post k_16 k_25 (wp_X2_forEachPlace_34 D post k_16 k_25 n) S_5 a0 x1 x2 x3 x4 x5 x6) S a0 x1 x4 x5 x6) ∧
     (¬ x2 = 0 → wp_X2_mark D (fun S_7 => 
    wp_X2_forEachPlace_69 D post k_16 k_25 (wp_X2_forEachPlace_34 D post k_16 k_25 n) S_7 a0 x1 x2 x3 x4 x5 x6) S a0 x1 x4 x5 x6))))
def wp_X2_forEachPlace_25 (D : wD) (post : wS → Prop) (k_16 : wS → Nat → Int32 → Int32 → Int32 → Int32 → Prop) : Nat → wS → Nat → Int32 → Int32 → Int32 → Int32 → Int32 → Prop
  | 0, _, _, _, _, _, _, _ => False
  | n + 1, S, a0, x1, x2, x3, x4, x5 =>
    ((x3 ≤ x5 → ∀ x_2 : Int32, x_2 = x4 + 1 →
    k_16 S a0 x1 x2 x3 x_2) ∧
     (¬ x3 ≤ x5 → ∃ n_3 : Nat, wp_X2_forEachPlace_34 D post k_16 (wp_X2_forEachPlace_25 D post k_16 n) n_3 S a0 x1 x2 x3 x4 x5 (0 : Int32)))
def wp_X2_forEachPlace_16 (D : wD) (post : wS → Prop)  : Nat → wS → Nat → Int32 → Int32 → Int32 → Int32 → Prop
  | 0, _, _, _, _, _, _ => False
  | n + 1, S, a0, x1, x2, x3, x4 =>
    ((x3 ≤ x4 → post S) ∧
     (¬ x3 ≤ x4 → ∃ n_2 : Nat, wp_X2_forEachPlace_25 D post (wp_X2_forEachPlace_16 D post n) n_2 S a0 x1 x2 x3 x4 (0 : Int32)))
def wp_X2_forEachPlace_0 (D : wD) (post : wS → Prop)  (S : wS) (a0 : Nat) (x1 : Int32) (x2 : Int32) : Prop :=
∃ y_1 : Nat, sR S a0 0 = some y_1 ∧ wM D S y_1 ∧ sK S y_1 = 5 ∧
∀ x_2 : Int32, x_2 = (if (25 : Int32) < (sI S y_1 2) then (25 : Int32) else (sI S y_1 2)) →
∃ n_3 : Nat, wp_X2_forEachPlace_16 D post n_3 S a0 x1 x2 x_2 (0 : Int32)
abbrev r_X2_forEachPlace : Room := { frames := 4, cells := 0, slots := 0, locals := 109 }
def wp_X2_forEachPlace (D : wD) (post : wS → Prop) (S : wS) (a0 : Nat) (x1 : Int32) (x2 : Int32) : Prop := wp_X2_forEachPlace_0 D post S a0 x1 x2
set_option maxHeartbeats 4000000 in
set_option maxRecDepth 100000 in
theorem t_X2_forEachPlace_69 {p : Program} {l : Launch} {e : Env} {s : State} {m : MethodId} {args : Array Value} {below : List Frame} {meth : Method} {c : Code} {D : wD} {cy : Nat → ClassId} {X : va_W} {A : Nat → Prop} {S0 : wS} {post : wS → Prop} (F : CallFix p m c cX2_forEachPlace 7 s args wz_X2_forEachPlace RX2) (hr : meth.sig.returnType = none) (hlocks : meth.locks = false) (hK : wK D cy A s) {k_16 : wS → Nat → Int32 → Int32 → Int32 → Int32 → Prop} (q_16 : ∀ {S : wS} {H : Heap} {locs : List Loc} {ls : Array Slot} {a0 : Nat} {x1 : Int32} {x2 : Int32} {x3 : Int32} {x4 : Int32}, k_16 S a0 x1 x2 x3 x4 → wO D cy X A s.heap S H locs → wX D S0 S → lv_has ls 7 [(0, .ref a0), (1, .int x1), (2, .int x2), (3, .int x3), (4, .int x4)] → wM D S a0 → sK S a0 = 7 → W p l e r_X2_forEachPlace s m args below meth c H locs 0 0 (MQ below (va_Qv (fun S9 => wX D S0 S9 ∧ post S9) (wB D cy X A) A) args s 0 0 A) (F0 m 16 ls [])) {k_25 : wS → Nat → Int32 → Int32 → Int32 → Int32 → Int32 → Prop} (q_25 : ∀ {S : wS} {H : Heap} {locs : List Loc} {ls : Array Slot} {a0 : Nat} {x1 : Int32} {x2 : Int32} {x3 : Int32} {x4 : Int32} {x5 : Int32}, k_25 S a0 x1 x2 x3 x4 x5 → wO D cy X A s.heap S H locs → wX D S0 S → lv_has ls 7 [(0, .ref a0), (1, .int x1), (2, .int x2), (3, .int x3), (4, .int x4), (5, .int x5)] → wM D S a0 → sK S a0 = 7 → W p l e r_X2_forEachPlace s m args below meth c H locs 0 0 (MQ below (va_Qv (fun S9 => wX D S0 S9 ∧ post S9) (wB D cy X A) A) args s 0 0 A) (F0 m 25 ls [])) {k_34 : wS → Nat → Int32 → Int32 → Int32 → Int32 → Int32 → Int32 → Prop} (q_34 : ∀ {S : wS} {H : Heap} {locs : List Loc} {ls : Array Slot} {a0 : Nat} {x1 : Int32} {x2 : Int32} {x3 : Int32} {x4 : Int32} {x5 : Int32} {x6 : Int32}, k_34 S a0 x1 x2 x3 x4 x5 x6 → wO D cy X A s.heap S H locs → wX D S0 S → lv_has ls 7 [(0, .ref a0), (1, .int x1), (2, .int x2), (3, .int x3), (4, .int x4), (5, .int x5), (6, .int x6)] → wM D S a0 → sK S a0 = 7 → W p l e r_X2_forEachPlace s m args below meth c H locs 0 0 (MQ below (va_Qv (fun S9 => wX D S0 S9 ∧ post S9) (wB D cy X A) A) args s 0 0 A) (F0 m 34 ls [])) : ∀ {S : wS} {H : Heap} {locs : List Loc} {ls : Array Slot} {a0 : Nat} {x1 : Int32} {x2 : Int32} {x3 : Int32} {x4 : Int32} {x5 : Int32} {x6 : Int32}, wp_X2_forEachPlace_69 D post k_16 k_25 k_34 S a0 x1 x2 x3 x4 x5 x6 → wO D cy X A s.heap S H locs → wX D S0 S → lv_has ls 7 [(0, .ref a0), (1, .int x1), (2, .int x2), (3, .int x3), (4, .int x4), (5, .int x5), (6, .int x6)] → wM D S a0 → sK S a0 = 7 → W p l e r_X2_forEachPlace s m args below meth c H locs 0 0 (MQ below (va_Qv (fun S9 => wX D S0 S9 ∧ post S9) (wB D cy X A) A) args s 0 0 A) (F0 m 69 ls []) := by
  obtain ⟨hx, hb, hml, hown, hts⟩ := id F
  have hwg : ∀ w ∈ WG, w.before args s = true := fun w h => hts w (List.mem_cons_of_mem _ h)
  intro S H locs ls a0 x1 x2 x3 x4 x5 x6 hp hW hE hl hL_a0 hK_a0
  unfold wp_X2_forEachPlace_69 at hp
  obtain ⟨x_1, ex_1⟩ : ∃ z : Int32, z = x6 + 1 := ⟨_, rfl⟩
  replace hp := hp x_1 ex_1
  refine lv_iinc (v := x_1) (lv' := [(6, .int x_1), (0, .ref a0), (1, .int x1), (2, .int x2), (3, .int x3), (4, .int x4), (5, .int x5)]) hx hb dX2_forEachPlace_69 hl (k := 6) rfl (by rw [ex_1]; rfl) (by decide) rfl (fun ls hl => ?_)
  refine lv_goto (tgt := 34) hx hb dX2_forEachPlace_72 (by decide) ?_
  exact q_34 hp hW hE (lv_sub hl [1, 2, 3, 4, 5, 6, 0] rfl) hL_a0 hK_a0
set_option maxHeartbeats 4000000 in
set_option maxRecDepth 100000 in
theorem t_X2_forEachPlace_34 {p : Program} {l : Launch} {e : Env} {s : State} {m : MethodId} {args : Array Value} {below : List Frame} {meth : Method} {c : Code} {D : wD} {cy : Nat → ClassId} {X : va_W} {A : Nat → Prop} {S0 : wS} {post : wS → Prop} (F : CallFix p m c cX2_forEachPlace 7 s args wz_X2_forEachPlace RX2) (hr : meth.sig.returnType = none) (hlocks : meth.locks = false) (hK : wK D cy A s) {k_16 : wS → Nat → Int32 → Int32 → Int32 → Int32 → Prop} (q_16 : ∀ {S : wS} {H : Heap} {locs : List Loc} {ls : Array Slot} {a0 : Nat} {x1 : Int32} {x2 : Int32} {x3 : Int32} {x4 : Int32}, k_16 S a0 x1 x2 x3 x4 → wO D cy X A s.heap S H locs → wX D S0 S → lv_has ls 7 [(0, .ref a0), (1, .int x1), (2, .int x2), (3, .int x3), (4, .int x4)] → wM D S a0 → sK S a0 = 7 → W p l e r_X2_forEachPlace s m args below meth c H locs 0 0 (MQ below (va_Qv (fun S9 => wX D S0 S9 ∧ post S9) (wB D cy X A) A) args s 0 0 A) (F0 m 16 ls [])) {k_25 : wS → Nat → Int32 → Int32 → Int32 → Int32 → Int32 → Prop} (q_25 : ∀ {S : wS} {H : Heap} {locs : List Loc} {ls : Array Slot} {a0 : Nat} {x1 : Int32} {x2 : Int32} {x3 : Int32} {x4 : Int32} {x5 : Int32}, k_25 S a0 x1 x2 x3 x4 x5 → wO D cy X A s.heap S H locs → wX D S0 S → lv_has ls 7 [(0, .ref a0), (1, .int x1), (2, .int x2), (3, .int x3), (4, .int x4), (5, .int x5)] → wM D S a0 → sK S a0 = 7 → W p l e r_X2_forEachPlace s m args below meth c H locs 0 0 (MQ below (va_Qv (fun S9 => wX D S0 S9 ∧ post S9) (wB D cy X A) A) args s 0 0 A) (F0 m 25 ls [])) : ∀ (n : Nat) {S : wS} {H : Heap} {locs : List Loc} {ls : Array Slot} {a0 : Nat} {x1 : Int32} {x2 : Int32} {x3 : Int32} {x4 : Int32} {x5 : Int32} {x6 : Int32}, wp_X2_forEachPlace_34 D post k_16 k_25 n S a0 x1 x2 x3 x4 x5 x6 → wO D cy X A s.heap S H locs → wX D S0 S → lv_has ls 7 [(0, .ref a0), (1, .int x1), (2, .int x2), (3, .int x3), (4, .int x4), (5, .int x5), (6, .int x6)] → wM D S a0 → sK S a0 = 7 → W p l e r_X2_forEachPlace s m args below meth c H locs 0 0 (MQ below (va_Qv (fun S9 => wX D S0 S9 ∧ post S9) (wB D cy X A) A) args s 0 0 A) (F0 m 34 ls []) := by
  obtain ⟨hx, hb, hml, hown, hts⟩ := id F
  have hwg : ∀ w ∈ WG, w.before args s = true := fun w h => hts w (List.mem_cons_of_mem _ h)
  intro n
  induction n with
  | zero =>
    intro S H locs ls a0 x1 x2 x3 x4 x5 x6 hp
    exact hp.elim
  | succ n ih =>
    intro S H locs ls a0 x1 x2 x3 x4 x5 x6 hp hW hE hl hL_a0 hK_a0
    unfold wp_X2_forEachPlace_34 at hp
    refine lv_iload hx hb dX2_forEachPlace_34 (lv_at hl 6 rfl) ?_
    refine lv_iload_n hx hb dX2_forEachPlace_36 rfl (lv_at hl 3 rfl) ?_
    refine lv_icmp_ge (tgt := 75) hx hb dX2_forEachPlace_37 (by decide) (fun c_1 => ?_) (fun c_1 => ?_)
    · replace hp := hp.1 c_1
      obtain ⟨x_2, ex_2⟩ : ∃ z : Int32, z = x5 + 1 := ⟨_, rfl⟩
      replace hp := hp x_2 ex_2
      refine lv_iinc (v := x_2) (lv' := [(5, .int x_2), (0, .ref a0), (1, .int x1), (2, .int x2), (3, .int x3), (4, .int x4), (6, .int x6)]) hx hb dX2_forEachPlace_75 hl (k := 5) rfl (by rw [ex_2]; rfl) (by decide) rfl (fun ls hl => ?_)
      refine lv_goto (tgt := 25) hx hb dX2_forEachPlace_78 (by decide) ?_
      exact q_25 hp hW hE (lv_sub hl [1, 2, 3, 4, 5, 0] rfl) hL_a0 hK_a0
    · replace hp := hp.2 c_1
      refine lv_iload_n hx hb dX2_forEachPlace_40 rfl (lv_at hl 2 rfl) ?_
      refine lv_if_eq (tgt := 58) hx hb dX2_forEachPlace_41 (by decide) (fun c_3 => ?_) (fun c_3 => ?_)
      · replace hp := hp.1 c_3
        refine lv_aload_n hx hb dX2_forEachPlace_58 rfl (lv_at hl 0 rfl) ?_
        refine lv_iload_n hx hb dX2_forEachPlace_59 rfl (lv_at hl 1 rfl) ?_
        refine lv_iload hx hb dX2_forEachPlace_60 (lv_at hl 4 rfl) ?_
        refine lv_iload hx hb dX2_forEachPlace_62 (lv_at hl 5 rfl) ?_
        refine lv_iload hx hb dX2_forEachPlace_64 (lv_at hl 6 rfl) ?_
        refine w_callV (va_runV (As := [.int x1, .int x4, .int x5, .int x6]) (rest := []) F (c_X2_countMovesOfBlack l hL_a0 hK_a0 hp H.size) (cwV (C := RX2) 4 hts (wg_V wm_RX2_127 wy_X2_countMovesOfBlack) rfl rfl rfl (by decide +kernel) ⟨Nat.le_of_ble_eq_true rfl, Nat.le_of_ble_eq_true rfl⟩) (w_preV hK hW hL_a0 hK_a0 (by decide) rfl) rfl rfl hl.1 rfl (lv_room (Nat.le_of_ble_eq_true rfl)) dX2_forEachPlace_66 ⟨Nat.le_of_ble_eq_true rfl, Nat.le_of_ble_eq_true rfl⟩) hW (fun S_5 H locs hp hW => ?_)
        obtain ⟨hX_S_5, hp⟩ := hp
        refine W.widen (k := 0) (n := 0) (by decide) (by decide) ?_
        have hE := hE.trans hX_S_5
        have hK_a0 : sK S_5 a0 = 7 := (hX_S_5.2 a0 hL_a0).1.trans hK_a0
        have hL_a0 : wM D S_5 a0 := hX_S_5.M hL_a0
        exact t_X2_forEachPlace_69 F hr hlocks hK q_16 q_25 ih hp hW hE (lv_sub hl [0, 1, 2, 3, 4, 5, 6] rfl) hL_a0 hK_a0
      · replace hp := hp.2 c_3
        refine lv_aload_n hx hb dX2_forEachPlace_44 rfl (lv_at hl 0 rfl) ?_
        refine lv_iload_n hx hb dX2_forEachPlace_45 rfl (lv_at hl 1 rfl) ?_
        refine lv_iload hx hb dX2_forEachPlace_46 (lv_at hl 4 rfl) ?_
        refine lv_iload hx hb dX2_forEachPlace_48 (lv_at hl 5 rfl) ?_
        refine lv_iload hx hb dX2_forEachPlace_50 (lv_at hl 6 rfl) ?_
        refine w_callV (va_runV (As := [.int x1, .int x4, .int x5, .int x6]) (rest := []) F (c_X2_mark l hL_a0 hK_a0 hp H.size) (cwV (C := RX2) 4 hts (wg_V wm_RX2_123 wy_X2_mark) rfl rfl rfl (by decide +kernel) ⟨Nat.le_of_ble_eq_true rfl, Nat.le_of_ble_eq_true rfl⟩) (w_preV hK hW hL_a0 hK_a0 (by decide) rfl) rfl rfl hl.1 rfl (lv_room (Nat.le_of_ble_eq_true rfl)) dX2_forEachPlace_52 ⟨Nat.le_of_ble_eq_true rfl, Nat.le_of_ble_eq_true rfl⟩) hW (fun S_7 H locs hp hW => ?_)
        obtain ⟨hX_S_7, hp⟩ := hp
        refine W.widen (k := 0) (n := 0) (by decide) (by decide) ?_
        have hE := hE.trans hX_S_7
        have hK_a0 : sK S_7 a0 = 7 := (hX_S_7.2 a0 hL_a0).1.trans hK_a0
        have hL_a0 : wM D S_7 a0 := hX_S_7.M hL_a0
        refine lv_goto (tgt := 69) hx hb dX2_forEachPlace_55 (by decide) ?_
        exact t_X2_forEachPlace_69 F hr hlocks hK q_16 q_25 ih hp hW hE (lv_sub hl [0, 1, 2, 3, 4, 5, 6] rfl) hL_a0 hK_a0
set_option maxHeartbeats 4000000 in
set_option maxRecDepth 100000 in
theorem t_X2_forEachPlace_25 {p : Program} {l : Launch} {e : Env} {s : State} {m : MethodId} {args : Array Value} {below : List Frame} {meth : Method} {c : Code} {D : wD} {cy : Nat → ClassId} {X : va_W} {A : Nat → Prop} {S0 : wS} {post : wS → Prop} (F : CallFix p m c cX2_forEachPlace 7 s args wz_X2_forEachPlace RX2) (hr : meth.sig.returnType = none) (hlocks : meth.locks = false) (hK : wK D cy A s) {k_16 : wS → Nat → Int32 → Int32 → Int32 → Int32 → Prop} (q_16 : ∀ {S : wS} {H : Heap} {locs : List Loc} {ls : Array Slot} {a0 : Nat} {x1 : Int32} {x2 : Int32} {x3 : Int32} {x4 : Int32}, k_16 S a0 x1 x2 x3 x4 → wO D cy X A s.heap S H locs → wX D S0 S → lv_has ls 7 [(0, .ref a0), (1, .int x1), (2, .int x2), (3, .int x3), (4, .int x4)] → wM D S a0 → sK S a0 = 7 → W p l e r_X2_forEachPlace s m args below meth c H locs 0 0 (MQ below (va_Qv (fun S9 => wX D S0 S9 ∧ post S9) (wB D cy X A) A) args s 0 0 A) (F0 m 16 ls [])) : ∀ (n : Nat) {S : wS} {H : Heap} {locs : List Loc} {ls : Array Slot} {a0 : Nat} {x1 : Int32} {x2 : Int32} {x3 : Int32} {x4 : Int32} {x5 : Int32}, wp_X2_forEachPlace_25 D post k_16 n S a0 x1 x2 x3 x4 x5 → wO D cy X A s.heap S H locs → wX D S0 S → lv_has ls 7 [(0, .ref a0), (1, .int x1), (2, .int x2), (3, .int x3), (4, .int x4), (5, .int x5)] → wM D S a0 → sK S a0 = 7 → W p l e r_X2_forEachPlace s m args below meth c H locs 0 0 (MQ below (va_Qv (fun S9 => wX D S0 S9 ∧ post S9) (wB D cy X A) A) args s 0 0 A) (F0 m 25 ls []) := by
  obtain ⟨hx, hb, hml, hown, hts⟩ := id F
  have hwg : ∀ w ∈ WG, w.before args s = true := fun w h => hts w (List.mem_cons_of_mem _ h)
  intro n
  induction n with
  | zero =>
    intro S H locs ls a0 x1 x2 x3 x4 x5 hp
    exact hp.elim
  | succ n ih =>
    intro S H locs ls a0 x1 x2 x3 x4 x5 hp hW hE hl hL_a0 hK_a0
    unfold wp_X2_forEachPlace_25 at hp
    refine lv_iload hx hb dX2_forEachPlace_25 (lv_at hl 5 rfl) ?_
    refine lv_iload_n hx hb dX2_forEachPlace_27 rfl (lv_at hl 3 rfl) ?_
    refine lv_icmp_ge (tgt := 81) hx hb dX2_forEachPlace_28 (by decide) (fun c_1 => ?_) (fun c_1 => ?_)
    · replace hp := hp.1 c_1
      obtain ⟨x_2, ex_2⟩ : ∃ z : Int32, z = x4 + 1 := ⟨_, rfl⟩
      replace hp := hp x_2 ex_2
      refine lv_iinc (v := x_2) (lv' := [(4, .int x_2), (0, .ref a0), (1, .int x1), (2, .int x2), (3, .int x3), (5, .int x5)]) hx hb dX2_forEachPlace_81 hl (k := 4) rfl (by rw [ex_2]; rfl) (by decide) rfl (fun ls hl => ?_)
      refine lv_goto (tgt := 16) hx hb dX2_forEachPlace_84 (by decide) ?_
      exact q_16 hp hW hE (lv_sub hl [1, 2, 3, 4, 0] rfl) hL_a0 hK_a0
    · replace hp := hp.2 c_1
      refine lv_iconst (v := 0) hx hb dX2_forEachPlace_31 (by decide) ?_
      refine lv_istore (lv' := [(6, .int (0 : Int32)), (0, .ref a0), (1, .int x1), (2, .int x2), (3, .int x3), (4, .int x4), (5, .int x5)]) hx hb dX2_forEachPlace_32 hl (by decide) rfl (fun ls hl => ?_)
      obtain ⟨n_3, hp⟩ := hp
      exact t_X2_forEachPlace_34 F hr hlocks hK q_16 ih n_3 hp hW hE (lv_sub hl [1, 2, 3, 4, 5, 6, 0] rfl) hL_a0 hK_a0
set_option maxHeartbeats 4000000 in
set_option maxRecDepth 100000 in
theorem t_X2_forEachPlace_16 {p : Program} {l : Launch} {e : Env} {s : State} {m : MethodId} {args : Array Value} {below : List Frame} {meth : Method} {c : Code} {D : wD} {cy : Nat → ClassId} {X : va_W} {A : Nat → Prop} {S0 : wS} {post : wS → Prop} (F : CallFix p m c cX2_forEachPlace 7 s args wz_X2_forEachPlace RX2) (hr : meth.sig.returnType = none) (hlocks : meth.locks = false) (hK : wK D cy A s) : ∀ (n : Nat) {S : wS} {H : Heap} {locs : List Loc} {ls : Array Slot} {a0 : Nat} {x1 : Int32} {x2 : Int32} {x3 : Int32} {x4 : Int32}, wp_X2_forEachPlace_16 D post n S a0 x1 x2 x3 x4 → wO D cy X A s.heap S H locs → wX D S0 S → lv_has ls 7 [(0, .ref a0), (1, .int x1), (2, .int x2), (3, .int x3), (4, .int x4)] → wM D S a0 → sK S a0 = 7 → W p l e r_X2_forEachPlace s m args below meth c H locs 0 0 (MQ below (va_Qv (fun S9 => wX D S0 S9 ∧ post S9) (wB D cy X A) A) args s 0 0 A) (F0 m 16 ls []) := by
  obtain ⟨hx, hb, hml, hown, hts⟩ := id F
  have hwg : ∀ w ∈ WG, w.before args s = true := fun w h => hts w (List.mem_cons_of_mem _ h)
  intro n
  induction n with
  | zero =>
    intro S H locs ls a0 x1 x2 x3 x4 hp
    exact hp.elim
  | succ n ih =>
    intro S H locs ls a0 x1 x2 x3 x4 hp hW hE hl hL_a0 hK_a0
    unfold wp_X2_forEachPlace_16 at hp
    refine lv_iload hx hb dX2_forEachPlace_16 (lv_at hl 4 rfl) ?_
    refine lv_iload_n hx hb dX2_forEachPlace_18 rfl (lv_at hl 3 rfl) ?_
    refine lv_icmp_ge (tgt := 87) hx hb dX2_forEachPlace_19 (by decide) (fun c_1 => ?_) (fun c_1 => ?_)
    · replace hp := hp.1 c_1
      exact w_vret hx hb hr hlocks hW ⟨hE, hp⟩ dX2_forEachPlace_87
    · replace hp := hp.2 c_1
      refine lv_iconst (v := 0) hx hb dX2_forEachPlace_22 (by decide) ?_
      refine lv_istore (lv' := [(5, .int (0 : Int32)), (0, .ref a0), (1, .int x1), (2, .int x2), (3, .int x3), (4, .int x4)]) hx hb dX2_forEachPlace_23 hl (by decide) rfl (fun ls hl => ?_)
      obtain ⟨n_2, hp⟩ := hp
      exact t_X2_forEachPlace_25 F hr hlocks hK ih n_2 hp hW hE (lv_sub hl [1, 2, 3, 4, 5, 0] rfl) hL_a0 hK_a0
set_option maxHeartbeats 4000000 in
set_option maxRecDepth 100000 in
theorem t_X2_forEachPlace_0 {p : Program} {l : Launch} {e : Env} {s : State} {m : MethodId} {args : Array Value} {below : List Frame} {meth : Method} {c : Code} {D : wD} {cy : Nat → ClassId} {X : va_W} {A : Nat → Prop} {S0 : wS} {post : wS → Prop} (F : CallFix p m c cX2_forEachPlace 7 s args wz_X2_forEachPlace RX2) (hr : meth.sig.returnType = none) (hlocks : meth.locks = false) (hK : wK D cy A s) : ∀ {S : wS} {H : Heap} {locs : List Loc} {ls : Array Slot} {a0 : Nat} {x1 : Int32} {x2 : Int32}, wp_X2_forEachPlace_0 D post S a0 x1 x2 → wO D cy X A s.heap S H locs → wX D S0 S → lv_has ls 7 [(0, .ref a0), (1, .int x1), (2, .int x2)] → wM D S a0 → sK S a0 = 7 → W p l e r_X2_forEachPlace s m args below meth c H locs 0 0 (MQ below (va_Qv (fun S9 => wX D S0 S9 ∧ post S9) (wB D cy X A) A) args s 0 0 A) (F0 m 0 ls []) := by
  obtain ⟨hx, hb, hml, hown, hts⟩ := id F
  have hwg : ∀ w ∈ WG, w.before args s = true := fun w h => hts w (List.mem_cons_of_mem _ h)
  have i_5 : ∀ w ∈ u_ws RX0 TX0 12, w ∈ wz_X2_forEachPlace := fun w h => List.mem_cons_of_mem _ (wu_5 w h)
  have i_7 : ∀ w ∈ u_ws RX2 TX2 8, w ∈ wz_X2_forEachPlace := fun w h => List.mem_cons_of_mem _ (wu_7 w h)
  have k_35 := hwg _ wf_RX2_35
  intro S H locs ls a0 x1 x2 hp hW hE hl hL_a0 hK_a0
  unfold wp_X2_forEachPlace_0 at hp
  refine lv_aload_n hx hb dX2_forEachPlace_0 rfl (lv_at hl 0 rfl) ?_
  obtain ⟨y_1, ey_1, hL_y_1, hK_y_1, hp⟩ := hp
  refine w_get (k := 7) (f := 0) (T := TX2) (v := .ref y_1) F hK hW hL_a0 hK_a0 (by decide) rfl rfl (by decide) i_7 k_35 (by rw [show wv 7 0 S a0 = va_rf (sR S a0 0) from rfl, ey_1]; rfl) dX2_forEachPlace_1 ?_
  refine w_getN (k := 5) (f := 2) (T := TX0) (v := .int (sI S y_1 2)) F hK hW hL_y_1 hK_y_1 (by decide) rfl rfl (by decide) i_5 (hK.2.1 (.fieldLinkNest "OpeningsCabinet$Endings" 104 "OpeningsCabinet$Board" "size" "I" "OpeningsCabinet") (by decide +kernel)) rfl dX2_forEachPlace_4 ?_
  refine lv_bipush (v := 25) hx hb dX2_forEachPlace_7 (by decide) ?_
  refine va_mmin hx hb (hml.trans hl.1.symm) hown (hwg _ wm_RX2_118) (hwg _ wmm_min.1) (hwg _ wmm_min.2.1) (hwg _ wmm_min.2.2) (Nat.le_of_ble_eq_true rfl) (Nat.le_of_ble_eq_true rfl) (Nat.le_of_ble_eq_true rfl) (Nat.le_of_ble_eq_true rfl) dX2_forEachPlace_9 ?_
  refine lv_topi (fun x_2 ex_2 => ?_)
  replace hp := hp x_2 ex_2
  refine lv_istore_n (lv' := [(3, .int x_2), (0, .ref a0), (1, .int x1), (2, .int x2)]) hx hb dX2_forEachPlace_12 rfl hl (by decide) rfl (fun ls hl => ?_)
  refine lv_iconst (v := 0) hx hb dX2_forEachPlace_13 (by decide) ?_
  refine lv_istore (lv' := [(4, .int (0 : Int32)), (3, .int x_2), (0, .ref a0), (1, .int x1), (2, .int x2)]) hx hb dX2_forEachPlace_14 hl (by decide) rfl (fun ls hl => ?_)
  obtain ⟨n_3, hp⟩ := hp
  exact t_X2_forEachPlace_16 F hr hlocks hK n_3 hp hW hE (lv_sub hl [2, 3, 4, 1, 0] rfl) hL_a0 hK_a0
set_option maxHeartbeats 4000000 in
set_option maxRecDepth 100000 in
theorem c_X2_forEachPlace (l : Launch) {D : wD} {cy : Nat → ClassId} {X : va_W} {S0 : wS} {post : wS → Prop} {a0 : Nat} {x1 : Int32} {x2 : Int32} (hL_a0 : wM D S0 a0) (hK_a0 : sK S0 a0 = 7) (hp : wp_X2_forEachPlace D post S0 a0 x1 x2) : mV D cy X l yX2_forEachPlace wz_X2_forEachPlace r_X2_forEachPlace [.ref a0, .int x1, .int x2] S0 (fun S9 => wX D S0 S9 ∧ post S9) := by
  intro sz
  refine Met.ofW (cc := cX2_forEachPlace) (maxL := 7) (ret := none) (by decide) rfl ?_
  intro p e s m args below meth c s₁ B hml hv
  obtain ⟨rfl, hsz, hP, hK, hD0, hRO⟩ := hv
  have hts := atoms_spec (ws := wz_X2_forEachPlace) B.pre
  have hown : s.vm.findClass RX2 = some m.cls := findClass_of_methodNamed B.named
  subst hsz
  have hD := hD0.self (sz := s.heap.size)
  have F : CallFix p m c cX2_forEachPlace 7 s _ wz_X2_forEachPlace RX2 := ⟨B.exec, B.bytes, hml, hown, hts⟩
  have hr := B.returns
  have hlocks := B.notSynchronized
  generalize hAe : va_A (wL cy X S0) s.heap.size = A at hD hK ⊢
  have hA : ∀ q, s.heap.size ≤ q → A q := fun q h => by rw [← hAe]; exact Or.inr h
  have hW : wO D cy X A s.heap S0 s.heap [] := ⟨hP, hD, va_S.rf, hA, hRO⟩
  have hl := lv_entry ([.ref a0, .int x1, .int x2]) (n := 7) (Nat.le_of_ble_eq_true rfl)
  rw [lg_entry_eq]
  generalize (lg_sl ([.ref a0, .int x1, .int x2]) ++ List.replicate (7 - (lg_sl ([.ref a0, .int x1, .int x2])).length) Slot.unset).toArray = ls at hl ⊢
  have hl : lv_has ls 7 [(0, .ref a0), (1, .int x1), (2, .int x2)] := hl
  unfold wp_X2_forEachPlace at hp
  exact t_X2_forEachPlace_0 F hr hlocks hK hp hW wX.rf (lv_sub hl [0, 1, 2] rfl) hL_a0 hK_a0
def wp_X2_loseMove_50 (D : wD) (post : wS → Prop)  (S : wS) : Prop :=
post S
def wp_X2_loseMove_23 (D : wD) (post : wS → Prop)  (S : wS) : Prop :=
post S
def wp_X2_loseMove_0 (D : wD) (post : wS → Prop)  (S : wS) (a0 : Nat) (x1 : Int32) (x2 : Int32) (x3 : Int32) : Prop :=
wp_X2_valueAt D (fun r_1 S_2 => 
((¬ r_1 = (-1 : Int32) → wp_X2_loseMove_23 D post S_2) ∧
 (r_1 = (-1 : Int32) → ((x2 < 0 → wp_X2_loseMove_23 D post S_2) ∧
 (¬ x2 < 0 → ∃ y_5 : Nat, sR S_2 a0 6 = some y_5 ∧ wM D S_2 y_5 ∧ sK S_2 y_5 = 21 ∧
((x2 < (Int32.ofNat (sN S_2 y_5)) → ∃ y_7 : Nat, sR S_2 a0 6 = some y_7 ∧ wM D S_2 y_7 ∧ sK S_2 y_7 = 21 ∧
vp_in x2 (sN S_2 y_7) ∧
y_7 ∈ sL S_2 ∧ vp_in x2 (sN S_2 y_7) ∧
∀ S_10 : wS, S_10 = uI S_2 y_7 (x2).toNatClampNeg ((sI S_2 y_7 (x2).toNatClampNeg) - (1 : Int32)) →
∃ y_11 : Nat, sR S_10 a0 6 = some y_11 ∧ wM D S_10 y_11 ∧ sK S_10 y_11 = 21 ∧
vp_in x2 (sN S_10 y_11) ∧
((¬ (sI S_10 y_11 (x2).toNatClampNeg) = 0 → wp_X2_loseMove_50 D post S_10) ∧
 ((sI S_10 y_11 (x2).toNatClampNeg) = 0 → wp_X2_win D (fun S_15 => 
wp_X2_loseMove_50 D post S_15) S_10 a0 x1 x2 x3))) ∧
 (¬ x2 < (Int32.ofNat (sN S_2 y_5)) → wp_X2_loseMove_23 D post S_2))))))) S a0 x1 x2
abbrev r_X2_loseMove : Room := { frames := 2, cells := 0, slots := 0, locals := 47 }
def wp_X2_loseMove (D : wD) (post : wS → Prop) (S : wS) (a0 : Nat) (x1 : Int32) (x2 : Int32) (x3 : Int32) : Prop := wp_X2_loseMove_0 D post S a0 x1 x2 x3
set_option maxHeartbeats 4000000 in
set_option maxRecDepth 100000 in
theorem t_X2_loseMove_50 {p : Program} {l : Launch} {e : Env} {s : State} {m : MethodId} {args : Array Value} {below : List Frame} {meth : Method} {c : Code} {D : wD} {cy : Nat → ClassId} {X : va_W} {A : Nat → Prop} {S0 : wS} {post : wS → Prop} (F : CallFix p m c cX2_loseMove 4 s args wz_X2_loseMove RX2) (hr : meth.sig.returnType = none) (hlocks : meth.locks = false) (hK : wK D cy A s) : ∀ {S : wS} {H : Heap} {locs : List Loc} {ls : Array Slot}, wp_X2_loseMove_50 D post S → wO D cy X A s.heap S H locs → wX D S0 S → lv_has ls 4 [] → W p l e r_X2_loseMove s m args below meth c H locs 0 0 (MQ below (va_Qv (fun S9 => wX D S0 S9 ∧ post S9) (wB D cy X A) A) args s 0 0 A) (F0 m 50 ls []) := by
  obtain ⟨hx, hb, hml, hown, hts⟩ := id F
  have hwg : ∀ w ∈ WG, w.before args s = true := fun w h => hts w (List.mem_cons_of_mem _ h)
  intro S H locs ls hp hW hE hl
  unfold wp_X2_loseMove_50 at hp
  exact w_vret hx hb hr hlocks hW ⟨hE, hp⟩ dX2_loseMove_50
set_option maxHeartbeats 4000000 in
set_option maxRecDepth 100000 in
theorem t_X2_loseMove_23 {p : Program} {l : Launch} {e : Env} {s : State} {m : MethodId} {args : Array Value} {below : List Frame} {meth : Method} {c : Code} {D : wD} {cy : Nat → ClassId} {X : va_W} {A : Nat → Prop} {S0 : wS} {post : wS → Prop} (F : CallFix p m c cX2_loseMove 4 s args wz_X2_loseMove RX2) (hr : meth.sig.returnType = none) (hlocks : meth.locks = false) (hK : wK D cy A s) : ∀ {S : wS} {H : Heap} {locs : List Loc} {ls : Array Slot}, wp_X2_loseMove_23 D post S → wO D cy X A s.heap S H locs → wX D S0 S → lv_has ls 4 [] → W p l e r_X2_loseMove s m args below meth c H locs 0 0 (MQ below (va_Qv (fun S9 => wX D S0 S9 ∧ post S9) (wB D cy X A) A) args s 0 0 A) (F0 m 23 ls []) := by
  obtain ⟨hx, hb, hml, hown, hts⟩ := id F
  have hwg : ∀ w ∈ WG, w.before args s = true := fun w h => hts w (List.mem_cons_of_mem _ h)
  intro S H locs ls hp hW hE hl
  unfold wp_X2_loseMove_23 at hp
  exact w_vret hx hb hr hlocks hW ⟨hE, hp⟩ dX2_loseMove_23
set_option maxHeartbeats 4000000 in
set_option maxRecDepth 100000 in
theorem t_X2_loseMove_0 {p : Program} {l : Launch} {e : Env} {s : State} {m : MethodId} {args : Array Value} {below : List Frame} {meth : Method} {c : Code} {D : wD} {cy : Nat → ClassId} {X : va_W} {A : Nat → Prop} {S0 : wS} {post : wS → Prop} (F : CallFix p m c cX2_loseMove 4 s args wz_X2_loseMove RX2) (hr : meth.sig.returnType = none) (hlocks : meth.locks = false) (hK : wK D cy A s) : ∀ {S : wS} {H : Heap} {locs : List Loc} {ls : Array Slot} {a0 : Nat} {x1 : Int32} {x2 : Int32} {x3 : Int32}, wp_X2_loseMove_0 D post S a0 x1 x2 x3 → wO D cy X A s.heap S H locs → wX D S0 S → lv_has ls 4 [(0, .ref a0), (1, .int x1), (2, .int x2), (3, .int x3)] → wM D S a0 → sK S a0 = 7 → W p l e r_X2_loseMove s m args below meth c H locs 0 0 (MQ below (va_Qv (fun S9 => wX D S0 S9 ∧ post S9) (wB D cy X A) A) args s 0 0 A) (F0 m 0 ls []) := by
  obtain ⟨hx, hb, hml, hown, hts⟩ := id F
  have hwg : ∀ w ∈ WG, w.before args s = true := fun w h => hts w (List.mem_cons_of_mem _ h)
  have i_7 : ∀ w ∈ u_ws RX2 TX2 8, w ∈ wz_X2_loseMove := fun w h => List.mem_cons_of_mem _ (wu_7 w h)
  have k_28 := hwg _ wf_RX2_28
  intro S H locs ls a0 x1 x2 x3 hp hW hE hl hL_a0 hK_a0
  unfold wp_X2_loseMove_0 at hp
  refine lv_aload_n hx hb dX2_loseMove_0 rfl (lv_at hl 0 rfl) ?_
  refine lv_iload_n hx hb dX2_loseMove_1 rfl (lv_at hl 1 rfl) ?_
  refine lv_iload_n hx hb dX2_loseMove_2 rfl (lv_at hl 2 rfl) ?_
  refine w_callI (va_runV (As := [.int x1, .int x2]) (rest := []) F (c_X2_valueAt l hL_a0 hK_a0 hp H.size) (cwV (C := RX2) 2 hts (wg_V wm_RX2_100 wy_X2_valueAt) rfl rfl rfl (by decide +kernel) ⟨Nat.le_of_ble_eq_true rfl, Nat.le_of_ble_eq_true rfl⟩) (w_preV hK hW hL_a0 hK_a0 (by decide) rfl) rfl rfl hl.1 rfl (lv_room (Nat.le_of_ble_eq_true rfl)) dX2_loseMove_3 ⟨Nat.le_of_ble_eq_true rfl, Nat.le_of_ble_eq_true rfl⟩) hW (fun r_1 S_2 H locs hp hW => ?_)
  obtain ⟨hX_S_2, hp⟩ := hp
  refine W.widen (k := 0) (n := 0) (by decide) (by decide) ?_
  have hE := hE.trans hX_S_2
  have hK_a0 : sK S_2 a0 = 7 := (hX_S_2.2 a0 hL_a0).1.trans hK_a0
  have hL_a0 : wM D S_2 a0 := hX_S_2.M hL_a0
  refine lv_iconst (v := (-1)) hx hb dX2_loseMove_6 (by decide) ?_
  refine lv_icmp_ne (tgt := 23) hx hb dX2_loseMove_7 (by decide) (fun c_3 => ?_) (fun c_3 => ?_)
  · replace hp := hp.1 c_3
    exact t_X2_loseMove_23 F hr hlocks hK hp hW hE (lv_sub hl [] rfl)
  · replace hp := hp.2 c_3
    refine lv_iload_n hx hb dX2_loseMove_10 rfl (lv_at hl 2 rfl) ?_
    refine lv_if_lt (tgt := 23) hx hb dX2_loseMove_11 (by decide) (fun c_4 => ?_) (fun c_4 => ?_)
    · replace hp := hp.1 c_4
      exact t_X2_loseMove_23 F hr hlocks hK hp hW hE (lv_sub hl [] rfl)
    · replace hp := hp.2 c_4
      refine lv_iload_n hx hb dX2_loseMove_14 rfl (lv_at hl 2 rfl) ?_
      refine lv_aload_n hx hb dX2_loseMove_15 rfl (lv_at hl 0 rfl) ?_
      obtain ⟨y_5, ey_5, hL_y_5, hK_y_5, hp⟩ := hp
      refine w_get (k := 7) (f := 6) (T := TX2) (v := .ref y_5) F hK hW hL_a0 hK_a0 (by decide) rfl rfl (by decide) i_7 k_28 (by rw [show wv 7 6 S_2 a0 = va_rf (sR S_2 a0 6) from rfl, ey_5]; rfl) dX2_loseMove_16 ?_
      refine w_len F hK hW hL_y_5 hK_y_5 (by decide) dX2_loseMove_19 ?_
      refine lv_icmp_lt (tgt := 24) hx hb dX2_loseMove_20 (by decide) (fun c_6 => ?_) (fun c_6 => ?_)
      · replace hp := hp.1 c_6
        refine lv_aload_n hx hb dX2_loseMove_24 rfl (lv_at hl 0 rfl) ?_
        obtain ⟨y_7, ey_7, hL_y_7, hK_y_7, hp⟩ := hp
        refine w_get (k := 7) (f := 6) (T := TX2) (v := .ref y_7) F hK hW hL_a0 hK_a0 (by decide) rfl rfl (by decide) i_7 k_28 (by rw [show wv 7 6 S_2 a0 = va_rf (sR S_2 a0 6) from rfl, ey_7]; rfl) dX2_loseMove_25 ?_
        refine lv_iload_n hx hb dX2_loseMove_28 rfl (lv_at hl 2 rfl) ?_
        refine lv_dup2_11 hx hb dX2_loseMove_29 rfl rfl ?_
        obtain ⟨h_8, hp⟩ := hp
        refine w_ild F hK hW hL_y_7 hK_y_7 h_8 dX2_loseMove_30 ?_
        refine lv_iconst (v := 1) hx hb dX2_loseMove_31 (by decide) ?_
        refine lv_isub hx hb dX2_loseMove_32 ?_
        obtain ⟨h_9m, h_9, hp⟩ := hp
        refine w_ist F hK hW h_9m hK_y_7 h_9 dX2_loseMove_33 (fun H locs hW => ?_)
        obtain ⟨S_10, eS_10⟩ : ∃ z : wS, z = uI S_2 y_7 (x2).toNatClampNeg ((sI S_2 y_7 (x2).toNatClampNeg) - (1 : Int32)) := ⟨_, rfl⟩
        rw [← eS_10] at hW
        replace hp := hp S_10 eS_10
        have hX_S_10 : wX D S_2 S_10 := by rw [eS_10]; exact wX_uI
        have hE := hE.trans hX_S_10
        have hK_a0 : sK S_10 a0 = 7 := (hX_S_10.2 a0 hL_a0).1.trans hK_a0
        have hL_a0 : wM D S_10 a0 := hX_S_10.M hL_a0
        refine lv_aload_n hx hb dX2_loseMove_34 rfl (lv_at hl 0 rfl) ?_
        obtain ⟨y_11, ey_11, hL_y_11, hK_y_11, hp⟩ := hp
        refine w_get (k := 7) (f := 6) (T := TX2) (v := .ref y_11) F hK hW hL_a0 hK_a0 (by decide) rfl rfl (by decide) i_7 k_28 (by rw [show wv 7 6 S_10 a0 = va_rf (sR S_10 a0 6) from rfl, ey_11]; rfl) dX2_loseMove_35 ?_
        refine lv_iload_n hx hb dX2_loseMove_38 rfl (lv_at hl 2 rfl) ?_
        obtain ⟨h_12, hp⟩ := hp
        refine w_ild F hK hW hL_y_11 hK_y_11 h_12 dX2_loseMove_39 ?_
        refine lv_if_ne (tgt := 50) hx hb dX2_loseMove_40 (by decide) (fun c_13 => ?_) (fun c_13 => ?_)
        · replace hp := hp.1 c_13
          exact t_X2_loseMove_50 F hr hlocks hK hp hW hE (lv_sub hl [] rfl)
        · replace hp := hp.2 c_13
          refine lv_aload_n hx hb dX2_loseMove_43 rfl (lv_at hl 0 rfl) ?_
          refine lv_iload_n hx hb dX2_loseMove_44 rfl (lv_at hl 1 rfl) ?_
          refine lv_iload_n hx hb dX2_loseMove_45 rfl (lv_at hl 2 rfl) ?_
          refine lv_iload_n hx hb dX2_loseMove_46 rfl (lv_at hl 3 rfl) ?_
          refine w_callV (va_runV (As := [.int x1, .int x2, .int x3]) (rest := []) F (c_X2_win l hL_a0 hK_a0 hp H.size) (cwV (C := RX2) 3 hts (wg_V wm_RX2_146 wy_X2_win) rfl rfl rfl (by decide +kernel) ⟨Nat.le_of_ble_eq_true rfl, Nat.le_of_ble_eq_true rfl⟩) (w_preV hK hW hL_a0 hK_a0 (by decide) rfl) rfl rfl hl.1 rfl (lv_room (Nat.le_of_ble_eq_true rfl)) dX2_loseMove_47 ⟨Nat.le_of_ble_eq_true rfl, Nat.le_of_ble_eq_true rfl⟩) hW (fun S_15 H locs hp hW => ?_)
          obtain ⟨hX_S_15, hp⟩ := hp
          refine W.widen (k := 0) (n := 0) (by decide) (by decide) ?_
          have hE := hE.trans hX_S_15
          have hK_a0 : sK S_15 a0 = 7 := (hX_S_15.2 a0 hL_a0).1.trans hK_a0
          have hL_a0 : wM D S_15 a0 := hX_S_15.M hL_a0
          exact t_X2_loseMove_50 F hr hlocks hK hp hW hE (lv_sub hl [] rfl)
      · replace hp := hp.2 c_6
        exact t_X2_loseMove_23 F hr hlocks hK hp hW hE (lv_sub hl [] rfl)
set_option maxHeartbeats 4000000 in
set_option maxRecDepth 100000 in
theorem c_X2_loseMove (l : Launch) {D : wD} {cy : Nat → ClassId} {X : va_W} {S0 : wS} {post : wS → Prop} {a0 : Nat} {x1 : Int32} {x2 : Int32} {x3 : Int32} (hL_a0 : wM D S0 a0) (hK_a0 : sK S0 a0 = 7) (hp : wp_X2_loseMove D post S0 a0 x1 x2 x3) : mV D cy X l yX2_loseMove wz_X2_loseMove r_X2_loseMove [.ref a0, .int x1, .int x2, .int x3] S0 (fun S9 => wX D S0 S9 ∧ post S9) := by
  intro sz
  refine Met.ofW (cc := cX2_loseMove) (maxL := 4) (ret := none) (by decide) rfl ?_
  intro p e s m args below meth c s₁ B hml hv
  obtain ⟨rfl, hsz, hP, hK, hD0, hRO⟩ := hv
  have hts := atoms_spec (ws := wz_X2_loseMove) B.pre
  have hown : s.vm.findClass RX2 = some m.cls := findClass_of_methodNamed B.named
  subst hsz
  have hD := hD0.self (sz := s.heap.size)
  have F : CallFix p m c cX2_loseMove 4 s _ wz_X2_loseMove RX2 := ⟨B.exec, B.bytes, hml, hown, hts⟩
  have hr := B.returns
  have hlocks := B.notSynchronized
  generalize hAe : va_A (wL cy X S0) s.heap.size = A at hD hK ⊢
  have hA : ∀ q, s.heap.size ≤ q → A q := fun q h => by rw [← hAe]; exact Or.inr h
  have hW : wO D cy X A s.heap S0 s.heap [] := ⟨hP, hD, va_S.rf, hA, hRO⟩
  have hl := lv_entry ([.ref a0, .int x1, .int x2, .int x3]) (n := 4) (Nat.le_of_ble_eq_true rfl)
  rw [lg_entry_eq]
  generalize (lg_sl ([.ref a0, .int x1, .int x2, .int x3]) ++ List.replicate (4 - (lg_sl ([.ref a0, .int x1, .int x2, .int x3])).length) Slot.unset).toArray = ls at hl ⊢
  have hl : lv_has ls 4 [(0, .ref a0), (1, .int x1), (2, .int x2), (3, .int x3)] := hl
  unfold wp_X2_loseMove at hp
  exact t_X2_loseMove_0 F hr hlocks hK hp hW wX.rf (lv_sub hl [0, 1, 2, 3] rfl) hL_a0 hK_a0
